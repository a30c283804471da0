/-! words: which of the language's a run of letters is -/
def tx_sl (c : Nat → Nat) (q n : Nat) : List Nat := (List.range n).map fun k => c (q + k)
theorem tx_sl_len {c : Nat → Nat} {q n : Nat} : (tx_sl c q n).length = n := by simp [tx_sl]
theorem tx_sl_get {c : Nat → Nat} {q n k : Nat} (h : k < n) : (tx_sl c q n).getD k 0 = c (q + k) := by
  simp [tx_sl, List.getD_eq_getElem?_getD, List.getElem?_map, List.getElem?_range h]
theorem tx_sl_eq {c : Nat → Nat} {q n : Nat} {w : List Nat} : w = tx_sl c q n ↔ w.length = n ∧ ∀ k, k < n → w.getD k 0 = c (q + k) := by
  constructor
  · intro h
    rw [h]
    exact ⟨tx_sl_len, fun k hk => tx_sl_get hk⟩
  · intro h
    apply List.ext_getElem?
    intro k
    by_cases hk : k < n
    · have h1 := h.2 k hk
      have h2 := tx_sl_get (c := c) (q := q) hk
      have l1 : k < w.length := by omega
      have l2 : k < (tx_sl c q n).length := by rw [tx_sl_len]; exact hk
      rw [List.getD_eq_getElem?_getD, List.getElem?_eq_getElem l1] at h1
      rw [List.getD_eq_getElem?_getD, List.getElem?_eq_getElem l2] at h2
      rw [List.getElem?_eq_getElem l1, List.getElem?_eq_getElem l2]
      simp only [Option.getD_some] at h1 h2
      rw [h1, h2]
    · rw [List.getElem?_eq_none (by omega), List.getElem?_eq_none (by rw [tx_sl_len]; omega)]
/-- the place of a word in a list -/
def tx_fi : List (List Nat) → Nat → List Nat → Option Nat
  | [], _, _ => none
  | w :: r, j, x => if w = x then some j else tx_fi r (j + 1) x
theorem tx_fi_none {x : List Nat} : ∀ (l : List (List Nat)) (j : Nat), x ∉ l → tx_fi l j x = none
  | [], _, _ => rfl
  | w :: r, j, h => by
    unfold tx_fi
    rw [if_neg (fun e => h (by rw [e]; exact List.mem_cons_self)), tx_fi_none r (j + 1) (fun h2 => h (List.mem_cons_of_mem _ h2))]
/-- all words; those of a text -/
def tx_ws : List (List Nat) := [[115, 119, 97, 121], [97, 98, 115, 116, 97, 105, 110], [115, 104, 101, 108, 108, 115], [119, 104, 101, 110], [111, 114], [97, 110, 100], [110, 111, 116], [99, 104, 105, 108, 100], [116, 97, 108, 107], [102, 105, 114, 109], [119, 97, 100, 101, 100], [116, 117, 114, 110, 101, 100], [98, 97, 110, 107], [97, 103, 101], [115, 116, 114, 101, 97, 109], [109, 105, 110, 117, 116, 101], [97, 98, 111, 97, 114, 100], [102, 111, 114], [112, 97, 115, 115, 101, 110, 103, 101, 114], [104, 101, 97, 114, 115], [114, 111, 119], [115, 116, 97, 121], [98, 101, 104, 105, 110, 100], [105, 115]]
def tx_wk : Nat → List (List Nat)
  | 0 => tx_ws.take 18
  | 1 => (tx_ws.drop 18).take 2
  | 2 => (tx_ws.drop 20).take 2
  | _ => [[98, 97, 110, 107], [98, 101, 104, 105, 110, 100], [105, 115]]
/-- the class's number of a word in text k -/
def tx_wd (k g : Nat) : Nat := match k with
  | 0 => if g < 18 then g else 31
  | 1 => if g = 18 then 0 else if g = 19 then 1 else 31
  | 2 => if g = 20 then 0 else if g = 21 then 1 else 31
  | _ => if g = 12 then 0 else if g = 22 then 1 else if g = 23 then 2 else 31
theorem tx_wk_ws : ∀ x, ∀ k, k < 4 → (tx_fi (tx_wk k) 0 x).getD 31 = match tx_fi tx_ws 0 x with
    | some g => tx_wd k g
    | none => 31 := by
  intro x k hk
  have hsub : ∀ k, k < 4 → ∀ w ∈ tx_wk k, w ∈ tx_ws := by decide
  by_cases h : x ∈ tx_ws
  · have hall : ∀ w ∈ tx_ws, ∀ k, k < 4 → (tx_fi (tx_wk k) 0 w).getD 31 = match tx_fi tx_ws 0 w with
      | some g => tx_wd k g
      | none => 31 := by decide
    exact hall x h k hk
  · rw [tx_fi_none _ _ h, tx_fi_none _ _ (fun h2 => h (hsub k hk x h2))]
    rfl
theorem tx_fi_lt : ∀ x g, tx_fi tx_ws 0 x = some g → g < 24 := by
  intro x g h
  by_cases hx : x ∈ tx_ws
  · have hall : ∀ w ∈ tx_ws, ∀ g, tx_fi tx_ws 0 w = some g → g < 24 := by
      have h2 : ∀ w ∈ tx_ws, (tx_fi tx_ws 0 w).getD 0 < 24 := by decide
      intro w hw g hg
      have := h2 w hw
      rw [hg] at this
      exact this
    exact hall x hx g h
  · rw [tx_fi_none _ _ hx] at h
    cases h
/-- the reference's words lie so in its row: a space ahead of each, one behind all -/
def tx_lay (S : Nat → Int32) : Nat → List (List Nat) → Prop
  | k, [] => k = 134
  | k, w :: r => k < 134 ∧ w ≠ [] ∧ k + 1 + w.length < 135 ∧ (∀ i, i < w.length → S (k + 1 + i) = nI (w.getD i 0) ∧ w.getD i 0 < 128 ∧ w.getD i 0 ≠ 32) ∧ S (k + 1 + w.length) = 32 ∧ tx_lay S (k + 1 + w.length) r
theorem tx_lay_cg {S S' : Nat → Int32} (h : ∀ i, i < 135 → S' i = S i) : ∀ (l : List (List Nat)) (k : Nat), tx_lay S k l → tx_lay S' k l
  | [], k, hl => hl
  | w :: r, k, hl => by
    obtain ⟨h1, h2, h3, h4, h5, h6⟩ := hl
    refine ⟨h1, h2, h3, fun i hi => ?_, ?_, tx_lay_cg h r _ h6⟩
    · rw [h _ (by omega)]; exact h4 i hi
    · rw [h _ (by omega)]; exact h5
def tx_layb (l : List Int32) : Nat → List (List Nat) → Bool
  | k, [] => decide (k = 134)
  | k, w :: r => decide (k < 134 ∧ w ≠ [] ∧ k + 1 + w.length < 135 ∧ (∀ i ∈ List.range w.length, l.getD (k + 1 + i) 0 = nI (w.getD i 0) ∧ w.getD i 0 < 128 ∧ w.getD i 0 ≠ 32) ∧ l.getD (k + 1 + w.length) 0 = 32) && tx_layb l (k + 1 + w.length) r
theorem tx_layb_ok (l : List Int32) : ∀ (ws : List (List Nat)) (k : Nat), tx_layb l k ws = true → tx_lay (fun i => l.getD i 0) k ws
  | [], k, h => by
    show k = 134
    exact of_decide_eq_true (show decide (k = 134) = true from h)
  | w :: r, k, h => by
    unfold tx_layb at h
    rw [Bool.and_eq_true, decide_eq_true_eq] at h
    obtain ⟨⟨h1, h2, h3, h4, h5⟩, h6⟩ := h
    exact ⟨h1, h2, h3, fun i hi => h4 i (List.mem_range.mpr hi), h5, tx_layb_ok l r _ h6⟩
theorem tx_lay_ws {τ : ix_St} (h : ∀ i, i < 135 → τ 144 i = iv_words.getD i 0) : tx_lay (τ 144) 0 tx_ws := tx_lay_cg h _ _ (tx_layb_ok iv_words tx_ws 0 (by decide +kernel))
theorem tx_n32 {x : Nat} (h : x < 256) (h2 : x ≠ 32) : ¬ nI x = 32 := fun q => h2 ((nI_eq (b := 32) (by omega) (by omega)).mp q)
section Wd
variable {b : Bool} {τ : ix_St} {c : Nat → Nat} {t : Nat}
/-- behind a word that isn't it, to the next space -/
theorem f_wskip {p e : Nat} {v3 : Int32} {w : List Nat} {k : Nat} (h1 : k + 1 + w.length < 135) (h4 : ∀ i, i < w.length → τ 144 (k + 1 + i) = nI (w.getD i 0) ∧ w.getD i 0 < 128 ∧ w.getD i 0 ≠ 32) (h5 : τ 144 (k + 1 + w.length) = 32) : ∀ (m i : Nat), w.length - i = m → i ≤ w.length → ix_S 251 1 94 [some (.ref 135), some (.int (nI p)), some (.int (nI e)), some (.int v3), some (.int (nI (k + 1 + i))), none] [] (ix_S0 b, τ) = ix_S 251 1 5 [some (.ref 135), some (.int (nI p)), some (.int (nI e)), some (.int v3), some (.int (nI (k + 1 + w.length))), none] [] (ix_S0 b, τ)
  | 0, i, hm, hi => by
    have e0 : i = w.length := by omega
    rw [e0, q_M_wordAt_94, if_neg (nI_in (by omega) (by omega)), nI_clamp (by omega), h5, if_pos rfl]
  | m + 1, i, hm, hi => by
    obtain ⟨g1, g2, g3⟩ := h4 i (by omega)
    rw [q_M_wordAt_94, if_neg (nI_in (by omega) (by omega)), nI_clamp (by omega), g1, if_neg (tx_n32 (by omega) g3), nI_1]
    exact f_wskip h1 h4 h5 m (i + 1) (by omega) (by omega)
/-- one word beside the letters -/
theorem f_wone (hT : tx_tm τ c t) {p e : Nat} (hpe : p ≤ e) (het : e ≤ t) (hL : ∀ k, p ≤ k → k < e → tx_L (c k) = true) {v3 : Int32} {w : List Nat} {k : Nat} (hw : w ≠ []) (h1 : k + 1 + w.length < 135) (h4 : ∀ i, i < w.length → τ 144 (k + 1 + i) = nI (w.getD i 0) ∧ w.getD i 0 < 128 ∧ w.getD i 0 ≠ 32) (h5 : τ 144 (k + 1 + w.length) = 32) : ∀ (m i : Nat), w.length - i = m → i ≤ w.length → p + i ≤ e → (∀ j, j < i → w.getD j 0 = c (p + j)) →
    ix_S 251 1 20 [some (.ref 135), some (.int (nI p)), some (.int (nI e)), some (.int v3), some (.int (nI k)), some (.int (nI i))] [] (ix_S0 b, τ) = if w = tx_sl c p (e - p) then some (.int v3, (ix_S0 b, τ)) else ix_S 251 1 5 [some (.ref 135), some (.int (nI p)), some (.int (nI e)), some (.int v3), some (.int (nI (k + 1 + w.length))), none] [] (ix_S0 b, τ) := by
  obtain ⟨ht, -, h2, -⟩ := hT
  have hskip : ix_S 251 1 94 [some (.ref 135), some (.int (nI p)), some (.int (nI e)), some (.int v3), some (.int (nI (k + 1))), none] [] (ix_S0 b, τ) = ix_S 251 1 5 [some (.ref 135), some (.int (nI p)), some (.int (nI e)), some (.int v3), some (.int (nI (k + 1 + w.length))), none] [] (ix_S0 b, τ) := f_wskip h1 h4 h5 w.length 0 (by omega) (by omega)
  intro m
  induction m with
  | zero =>
    intro i hm hi hpi hq
    have e0 : i = w.length := by omega
    subst e0
    rw [q_M_wordAt_20, nI_1, nI_add, nI_add]
    by_cases g : p + w.length = e
    · rw [if_pos (nI_le (by omega) (by omega)), if_pos (by rw [g]), if_neg (nI_in (by omega) (by omega)), nI_clamp (by omega), h5, if_pos rfl, if_pos (tx_sl_eq.mpr ⟨by omega, fun j hj => hq j (by omega)⟩)]
    · have g1 : ¬ w = tx_sl c p (e - p) := fun q => g (by have := (tx_sl_eq.mp q).1; omega)
      rw [if_neg (nI_ge (by omega) (by omega)), if_neg (nI_in (by omega) (by omega)), if_neg (nI_in (by omega) (by omega)), nI_clamp (by omega), nI_clamp (by omega), h5, (h2 _ (by omega)).2, if_neg, if_neg (fun q => g ((nI_eq (by omega) (by omega)).mp q)), hskip, if_neg g1]
      intro q
      have h7 := tx_Lf0 _ (List.mem_range.mpr (h2 (p + w.length) (by omega)).1) (hL _ (by omega) (by omega))
      exact h7.2.1 ((nI_eq (b := 32) (by omega) (by omega)).mp q.symm)
  | succ m ih =>
    intro i hm hi hpi hq
    obtain ⟨g1, g2, g3⟩ := h4 i (by omega)
    rw [q_M_wordAt_20, nI_1, nI_add, nI_add]
    by_cases g : p + i = e
    · have gn : ¬ w = tx_sl c p (e - p) := fun q => by have := (tx_sl_eq.mp q).1; omega
      rw [if_pos (nI_le (by omega) (by omega)), if_pos (by rw [g]), if_neg (nI_in (by omega) (by omega)), nI_clamp (by omega), g1, if_neg (tx_n32 (by omega) g3), hskip, if_neg gn]
    · have g7 := (h2 (p + i) (by omega))
      rw [if_neg (nI_ge (by omega) (by omega)), if_neg (nI_in (by omega) (by omega)), if_neg (nI_in (by omega) (by omega)), nI_clamp (by omega), nI_clamp (by omega), g1, g7.2]
      by_cases g5 : w.getD i 0 = c (p + i)
      · rw [if_pos (by rw [g5]), nI_1]
        refine ih (i + 1) (by omega) (by omega) (by omega) (fun j hj => ?_)
        by_cases ej : j = i
        · rw [ej]; exact g5
        · exact hq j (by omega)
      · have gn : ¬ w = tx_sl c p (e - p) := fun q => g5 ((tx_sl_eq.mp q).2 i (by omega))
        have g8 := g7.1
        rw [if_neg (fun q => g5 ((nI_eq (by omega) (by omega)).mp q)), if_neg (fun q => g ((nI_eq (by omega) (by omega)).mp q)), hskip, if_neg gn]
theorem f_words (hT : tx_tm τ c t) {p e : Nat} (hpe : p ≤ e) (het : e ≤ t) (hL : ∀ k, p ≤ k → k < e → tx_L (c k) = true) : ∀ (l : List (List Nat)) (k j : Nat), tx_lay (τ 144) k l → ix_S 251 1 5 [some (.ref 135), some (.int (nI p)), some (.int (nI e)), some (.int (nI j - 1)), some (.int (nI k)), none] [] (ix_S0 b, τ) = match tx_fi l j (tx_sl c p (e - p)) with
    | some g => some (.int (nI g), (ix_S0 b, τ))
    | none => some (.int (-1), (ix_S0 b, τ))
  | [], k, j, h => by
    rw [show k = 134 from h, q_M_wordAt_5, if_pos (show (134 : Int32) ≤ nI 134 from Int32.le_refl _)]
    rfl
  | w :: r, k, j, h => by
    obtain ⟨h1, h2, h3, h4, h5, h6⟩ := h
    have ht := hT.1
    have e1 : nI j - 1 + 1 = nI j := by
      rw [Int32.sub_add_cancel]
    rw [q_M_wordAt_5, if_neg (show ¬ (134 : Int32) ≤ nI k from nI_ge (b := 134) (by omega) (by omega)), e1]
    have h7 := f_wone (b := b) (v3 := nI j) hT hpe het hL h2 h3 h4 h5 w.length 0 (by omega) (by omega) (by omega) (fun _ hj => absurd hj (by omega))
    rw [show (0 : Int32) = nI 0 from rfl, h7]
    unfold tx_fi
    by_cases g : w = tx_sl c p (e - p)
    · rw [if_pos g, if_pos g]
    · rw [if_neg g, if_neg g, show nI j = nI (j + 1) - 1 by rw [nI_pred]]
      exact f_words hT hpe het hL r _ (j + 1) h6
theorem f_wordAt (hT : tx_tm τ c t) {p e : Nat} (hpe : p ≤ e) (het : e ≤ t) (hL : ∀ k, p ≤ k → k < e → tx_L (c k) = true) : ix_F 251 [.ref 135, .int (nI p), .int (nI e)] (ix_S0 b, τ) = match tx_fi tx_ws 0 (tx_sl c p (e - p)) with
    | some g => some (.int (nI g), (ix_S0 b, τ))
    | none => some (.int (-1), (ix_S0 b, τ)) := by
  rw [q_M_wordAt_0]
  exact f_words hT hpe het hL tx_ws 0 0 (tx_lay_ws hT.2.2.2)
end Wd
