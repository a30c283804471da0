/-! the class's words, numbers, signs -/
/-- the texts' letters, as they are given -/
def tx_Es (σ : ix_St) : Prop := ∀ i, i < 5 → ∀ j, j < ix_lens.getD i 0 → σ (1007 + i) j = (ix_byt.getD i []).getD j 0
/-- the class's tape -/
def tx_tc (σ : ix_St) (c : Nat → Nat) (t : Nat) : Prop := t ≤ 400 ∧ σ 100 1 = nI t ∧ ∀ i, i < t → c i < 256 ∧ σ 101 i = tx_b (c i)
/-- words one behind the other, a space between, n letters in all -/
def tx_cl (S : Nat → Int32) (n : Nat) : Nat → List (List Nat) → Prop
  | s, [] => s = n + 1
  | s, w :: r => s + w.length ≤ n ∧ (∀ i, i < w.length → S (s + i) = nI (w.getD i 0) ∧ w.getD i 0 < 128 ∧ w.getD i 0 ≠ 32) ∧ (s + w.length < n → S (s + w.length) = 32) ∧ tx_cl S n (s + w.length + 1) r
def tx_clb (l : List Int32) (n : Nat) : Nat → List (List Nat) → Bool
  | s, [] => decide (s = n + 1)
  | s, w :: r => decide (s + w.length ≤ n ∧ (∀ i ∈ List.range w.length, l.getD (s + i) 0 = nI (w.getD i 0) ∧ w.getD i 0 < 128 ∧ w.getD i 0 ≠ 32) ∧ (s + w.length < n → l.getD (s + w.length) 0 = 32)) && tx_clb l n (s + w.length + 1) r
theorem tx_clb_ok {S : Nat → Int32} (l : List Int32) (n : Nat) (hS : ∀ j, j < n → S j = l.getD j 0) : ∀ (ws : List (List Nat)) (s : Nat), tx_clb l n s ws = true → tx_cl S n s ws
  | [], s, h => by
    show s = n + 1
    exact of_decide_eq_true (show decide (s = n + 1) = true from h)
  | w :: r, s, h => by
    unfold tx_clb at h
    rw [Bool.and_eq_true, decide_eq_true_eq] at h
    obtain ⟨⟨h1, h2, h3⟩, h4⟩ := h
    refine ⟨h1, fun i hi => ?_, fun hi => ?_, tx_clb_ok l n hS r _ h4⟩
    · rw [hS _ (by omega)]; exact h2 i (List.mem_range.mpr hi)
    · rw [hS _ hi]; exact h3 hi
theorem tx_bch : ∀ i, i < 4 → ∀ x ∈ ix_byt.getD i [], (Int32.toUInt32 (Int32.toUInt32 (x &&& 255) % 65536).toInt32 % 65536).toInt32 = x ∧ (Int32.toUInt32 (x &&& 255) % 65536).toInt32 = x ∧ (Int32.toUInt32 x % 65536).toInt32 = x := by decide +kernel
theorem tx_byl : ∀ i, i < 4 → (ix_byt.getD i []).length = ix_lens.getD i 0 := by decide +kernel
theorem tx_gd (l : List Int32) (j : Nat) (hj : j < l.length) : l.getD j 0 ∈ l := by
  rw [List.getD_eq_getElem?_getD, List.getElem?_eq_getElem hj, Option.getD_some]
  exact List.getElem_mem hj
theorem tx_bchD {i j : Nat} (hi : i < 4) (hj : j < ix_lens.getD i 0) : (ix_byt.getD i []).getD j 0 ∈ ix_byt.getD i [] := by
  rw [← tx_byl i hi] at hj
  exact tx_gd _ j hj
theorem tx_n31 {g : Nat} (h : g < 31) : ¬ nI g = 31 := fun q => absurd ((nI_eq (b := 31) (by omega) (by omega)).mp q) (by omega)
/-- what comes behind a token that is added -/
noncomputable def tx_add (b : Bool) (σ : ix_St) (K v : Int32) (p e : Nat) : ix_R := (ix_F 141 [.ref 100, .int K, .int v, .int (nI p)] (ix_S0 b, σ)).bind fun x => some (.int (nI e), (ix_S0 b, x.2.2))
section W0
variable {b : Bool} {σ : ix_St} {c : Nat → Nat} {t : Nat}
theorem f_len0 : ix_F 290 [.ref 1002] (ix_S0 b, σ) = some (.int (nI 98), (ix_S0 b, σ)) := by
  rw [q_String_length_0_1, q_String_coder_0_1, if_neg (by decide)]
  simp only [Option.bind_some, iv_tI]
  rfl
theorem f_chr0 (hE : tx_Es σ) {j : Nat} (hj : j < 98) : ix_F 291 [.ref 1002, .int (nI j)] (ix_S0 b, σ) = some (.int (σ 1007 j), (ix_S0 b, σ)) := by
  have h1 : σ 1007 j = (ix_byt.getD 0 []).getD j 0 := hE 0 (by omega) j hj
  obtain ⟨h2, h3, h4⟩ := tx_bch 0 (by omega) _ (tx_bchD (i := 0) (by omega) hj)
  rw [← h1] at h2 h3 h4
  have h5 : nI j < (Int32.ofNat 98) := nI_lt (b := 98) hj (by omega)
  rw [q_String_charAt_0, q_String_isLatin1_0_1, if_neg (by decide), if_pos rfl]
  simp only [Option.bind_some, iv_tI]
  rw [if_neg (by decide), q_StringLatin1_l1charAt_0, q_String_checkIndex_0, q_Preconditions_checkIndex_0, if_neg (nI_pos (by omega)), if_pos h5]
  simp only [Option.bind_some, iv_tI]
  rw [if_neg (nI_in (by omega) (by omega)), nI_clamp (by omega), h3, if_pos h4]
  simp only [Option.bind_some, iv_tI]
  rw [if_pos h4]
/-- does the word at s stand there? -/
theorem f_sp0 (hE : tx_Es σ) (hT : tx_tc σ c t) {p e s : Nat} {w : List Nat} (hpe : p ≤ e) (het : e ≤ t) (hL : ∀ k, p ≤ k → k < e → tx_L (c k) = true) (hw : w.length = e - p) (hs : s + w.length ≤ 98) (h4 : ∀ i, i < w.length → σ 1007 (s + i) = nI (w.getD i 0) ∧ w.getD i 0 < 128 ∧ w.getD i 0 ≠ 32) : ∀ (m i : Nat), w.length - i = m → i ≤ w.length → (∀ j, j < i → w.getD j 0 = c (p + j)) →
    ix_S 143 5 3 [some (.ref 100), some (.int (nI p)), some (.int (nI e)), some (.ref 1002), some (.int (nI s)), some (.int (nI (p + i)))] [] (ix_S0 b, σ) = some (.int (iv_B (w = tx_sl c p (e - p))), (ix_S0 b, σ)) := by
  obtain ⟨ht, -, h2⟩ := hT
  intro m
  induction m with
  | zero =>
    intro i hm hi hq
    rw [q_Tape_isSpelled_3, if_pos (nI_le (by omega) (by omega)), iv_Bt (tx_sl_eq.mpr ⟨hw, fun j hj => hq j (by omega)⟩)]
  | succ m ih =>
    intro i hm hi hq
    obtain ⟨g1, g2, g3⟩ := h4 i (by omega)
    have g7 := h2 (p + i) (by omega)
    have g8 := tx_Lf0 _ (List.mem_range.mpr g7.1) (hL (p + i) (by omega) (by omega))
    have e1 : nI s + nI (p + i) - nI p = nI (s + i) := by
      rw [nI_add, tx_sub (by omega)]
      congr 1
      omega
    rw [q_Tape_isSpelled_3, if_neg (nI_ge (by omega) (by omega)), e1, f_chr0 hE (by omega)]
    simp only [Option.bind_some, iv_tI]
    rw [if_neg (nI_in (by omega) (by omega)), nI_clamp (by omega), g1, g7.2, g8.2.2]
    by_cases g5 : w.getD i 0 = c (p + i)
    · rw [if_pos (by rw [g5]), nI_1, Nat.add_assoc]
      refine ih (i + 1) (by omega) (by omega) (fun j hj => ?_)
      by_cases ej : j = i
      · rw [ej]; exact g5
      · exact hq j (by omega)
    · rw [if_neg (fun q => g5 ((nI_eq (by omega) (by omega)).mp q)), iv_Bf (fun q => g5 ((tx_sl_eq.mp q).2 i (by omega)))]
/-- what is found stays -/
theorem f_wf0 {p e : Nat} {g : Nat} {v5 v6 v7 : Int32} (hg : g < 31) : ix_S 138 6 41 [some (.ref 100), some (.int (nI p)), some (.ref 1002), some (.int (nI e)), some (.int (nI g)), some (.int v5), some (.int v6), some (.int v7)] [] (ix_S0 b, σ) = tx_add b σ (nI g) 0 p e := by
  rw [q_Tape_addWord_41, f_len0]
  simp only [Option.bind_some, iv_tI]
  by_cases h : nI 98 < v7
  · rw [if_pos h]; rfl
  · rw [if_neg h, if_neg (tx_n31 hg)]; rfl
/-- the letters of a word that is gone through -/
theorem f_wl0 (hE : tx_Es σ) {p e s j : Nat} {w : List Nat} (hs : s + w.length ≤ 98) (h4 : ∀ i, i < w.length → σ 1007 (s + i) = nI (w.getD i 0) ∧ w.getD i 0 < 128 ∧ w.getD i 0 ≠ 32) : ∀ (m i : Nat), w.length - i = m → i ≤ w.length →
    ix_S 138 6 41 [some (.ref 100), some (.int (nI p)), some (.ref 1002), some (.int (nI e)), some (.int 31), some (.int (nI j)), some (.int (nI s)), some (.int (nI (s + i)))] [] (ix_S0 b, σ) = ix_S 138 6 41 [some (.ref 100), some (.int (nI p)), some (.ref 1002), some (.int (nI e)), some (.int 31), some (.int (nI j)), some (.int (nI s)), some (.int (nI (s + w.length)))] [] (ix_S0 b, σ)
  | 0, i, hm, hi => by rw [show i = w.length by omega]
  | m + 1, i, hm, hi => by
    obtain ⟨g1, g2, g3⟩ := h4 i (by omega)
    rw [q_Tape_addWord_41, f_len0]
    simp only [Option.bind_some, iv_tI]
    rw [if_neg (nI_nlt (by omega) (by omega)), if_pos trivial, f_len0]
    simp only [Option.bind_some, iv_tI]
    rw [if_neg (fun q => absurd ((nI_eq (by omega) (by omega)).mp q) (by omega)), f_chr0 hE (by omega)]
    simp only [Option.bind_some, iv_tI]
    rw [g1, if_neg (tx_n32 (by omega) g3), nI_1, Nat.add_assoc]
    exact f_wl0 hE hs h4 m (i + 1) (by omega) (by omega)
theorem f_cw0 (hE : tx_Es σ) (hT : tx_tc σ c t) {p e : Nat} (hpe : p ≤ e) (het : e ≤ t) (hL : ∀ k, p ≤ k → k < e → tx_L (c k) = true) : ∀ (l : List (List Nat)) (s j : Nat), tx_cl (σ 1007) 98 s l → j + l.length ≤ 31 → ix_S 138 6 41 [some (.ref 100), some (.int (nI p)), some (.ref 1002), some (.int (nI e)), some (.int 31), some (.int (nI j)), some (.int (nI s)), some (.int (nI s))] [] (ix_S0 b, σ) = tx_add b σ (nI ((tx_fi l j (tx_sl c p (e - p))).getD 31)) 0 p e
  | [], s, j, h, hj => by
    rw [show s = 98 + 1 from h, q_Tape_addWord_41, f_len0]
    simp only [Option.bind_some, iv_tI]
    rw [if_pos (nI_lt (by omega) (by omega))]
    rfl
  | w :: r, s, j, h, hj => by
    obtain ⟨h1, h2, h3, h5⟩ := h
    have ht := hT.1
    have hlen : j + (r.length + 1) ≤ 31 := hj
    have hS := f_wl0 (b := b) (p := p) (e := e) (j := j) hE h1 h2 w.length 0 (by omega) (by omega)
    rw [Nat.add_zero] at hS
    have ih := f_cw0 hE hT hpe het hL r (s + w.length + 1) (j + 1) h5 (by omega)
    have e2 : nI (s + w.length) - nI s = nI w.length := by
      rw [tx_sub (by omega)]
      congr 1
      omega
    have e3 : nI e - nI p = nI (e - p) := tx_sub hpe
    have key : (if nI (s + w.length) - nI s = nI e - nI p then ((ix_F 143 [.ref 100, .int (nI p), .int (nI e), .ref 1002, .int (nI s)] (ix_S0 b, σ)).bind fun x => (if (ix_toI x.1) = 0 then ix_S 138 6 41 [some (.ref 100), some (.int (nI p)), some (.ref 1002), some (.int (nI e)), some (.int 31), some (.int (nI j + (1 : Int32))), some (.int (nI (s + w.length) + (1 : Int32))), some (.int (nI (s + w.length) + (1 : Int32)))] [] (ix_S0 b, x.2.2) else ix_S 138 6 41 [some (.ref 100), some (.int (nI p)), some (.ref 1002), some (.int (nI e)), some (.int (nI j)), some (.int (nI j + (1 : Int32))), some (.int (nI (s + w.length) + (1 : Int32))), some (.int (nI (s + w.length) + (1 : Int32)))] [] (ix_S0 b, x.2.2))) else ix_S 138 6 41 [some (.ref 100), some (.int (nI p)), some (.ref 1002), some (.int (nI e)), some (.int 31), some (.int (nI j + (1 : Int32))), some (.int (nI (s + w.length) + (1 : Int32))), some (.int (nI (s + w.length) + (1 : Int32)))] [] (ix_S0 b, σ)) = tx_add b σ (nI ((tx_fi (w :: r) j (tx_sl c p (e - p))).getD 31)) 0 p e := by
      rw [e2, e3, nI_1, nI_1]
      unfold tx_fi
      by_cases g : w.length = e - p
      · have hsp := f_sp0 (b := b) hE hT (s := s) hpe het hL g h1 h2 w.length 0 (by omega) (by omega) (fun _ hz => absurd hz (by omega))
        rw [Nat.add_zero] at hsp
        rw [if_pos (by rw [g]), q_Tape_isSpelled_0, hsp]
        simp only [Option.bind_some, iv_tI]
        by_cases g2 : w = tx_sl c p (e - p)
        · rw [iv_Bt g2, if_neg (by decide), if_pos g2, f_wf0 (by omega)]
          rfl
        · rw [iv_Bf g2, if_pos rfl, if_neg g2]
          exact ih
      · have g2 : ¬ w = tx_sl c p (e - p) := fun q => g (tx_sl_eq.mp q).1
        rw [if_neg (fun q => g ((nI_eq (by omega) (by omega)).mp q)), if_neg g2]
        exact ih
    rw [hS, q_Tape_addWord_41, f_len0]
    simp only [Option.bind_some, iv_tI]
    rw [if_neg (nI_nlt (by omega) (by omega)), if_pos trivial, f_len0]
    simp only [Option.bind_some, iv_tI]
    by_cases g : s + w.length = 98
    · rw [if_pos (by rw [g])]
      exact key
    · rw [if_neg (fun q => g ((nI_eq (by omega) (by omega)).mp q)), f_chr0 hE (by omega)]
      simp only [Option.bind_some, iv_tI]
      rw [h3 (by omega), if_pos rfl]
      exact key
theorem f_aw0 (hE : tx_Es σ) (hT : tx_tc σ c t) {p : Nat} : ∀ (m e : Nat), t - e = m → p ≤ e → e ≤ t → (∀ k, p ≤ k → k < e → tx_L (c k) = true) → ix_S 138 6 2 [some (.ref 100), some (.int (nI p)), some (.ref 1002), some (.int (nI e)), none, none, none, none] [] (ix_S0 b, σ) = tx_add b σ (nI ((tx_fi (tx_wk 0) 0 (tx_sl c p (tx_end tx_L c t e - p))).getD 31)) 0 p (tx_end tx_L c t e) := by
  have hcl : tx_cl (σ 1007) 98 0 (tx_wk 0) := tx_clb_ok (ix_byt.getD 0 []) 98 (fun j hj => hE 0 (by omega) j hj) _ 0 (by decide +kernel)
  intro m
  induction m with
  | zero =>
    intro e hm hpe het hL
    have ht := hT.1
    rw [show tx_end tx_L c t e = e by rw [tx_end_eq, if_neg (by omega)], q_Tape_addWord_2, hT.2.1, if_pos (nI_le (by omega) (by omega))]
    exact f_cw0 hE hT hpe het hL _ 0 0 hcl (by decide)
  | succ m ih =>
    intro e hm hpe het hL
    have ht := hT.1
    have hce := hT.2.2 e (by omega)
    rw [q_Tape_addWord_2, hT.2.1, if_neg (nI_ge (by omega) (by omega)), if_neg (nI_in (by omega) (by omega)), nI_clamp (by omega), hce.2, f_tL hce.1]
    simp only [Option.bind_some, iv_tI]
    by_cases g : tx_L (c e) = true
    · rw [iv_Bt g, if_neg (by decide), tx_end_eq, if_pos ⟨by omega, g⟩, nI_1]
      refine ih (e + 1) (by omega) (by omega) (by omega) (fun k h1 h2 => ?_)
      by_cases ek : k = e
      · rw [ek]; exact g
      · exact hL k h1 (by omega)
    · rw [iv_Bf g, if_pos rfl, tx_end_eq, if_neg (fun q => g q.2)]
      exact f_cw0 hE hT hpe het hL _ 0 0 hcl (by decide)
theorem f_addWord0 (hE : tx_Es σ) (hT : tx_tc σ c t) {p : Nat} (hp : p < t) : ix_F 138 [.ref 100, .int (nI p), .ref 1002] (ix_S0 b, σ) = tx_add b σ (nI ((tx_fi (tx_wk 0) 0 (tx_sl c p (tx_end tx_L c t p - p))).getD 31)) 0 p (tx_end tx_L c t p) := by
  rw [q_Tape_addWord_0]
  exact f_aw0 hE hT _ p rfl (Nat.le_refl _) (by omega) (fun k h1 h2 => absurd h1 (by omega))
end W0
section W1
variable {b : Bool} {σ : ix_St} {c : Nat → Nat} {t : Nat}
theorem f_len1 : ix_F 290 [.ref 1003] (ix_S0 b, σ) = some (.int (nI 15), (ix_S0 b, σ)) := by
  rw [q_String_length_0_2, q_String_coder_0_2, if_neg (by decide)]
  simp only [Option.bind_some, iv_tI]
  rfl
theorem f_chr1 (hE : tx_Es σ) {j : Nat} (hj : j < 15) : ix_F 291 [.ref 1003, .int (nI j)] (ix_S0 b, σ) = some (.int (σ 1008 j), (ix_S0 b, σ)) := by
  have h1 : σ 1008 j = (ix_byt.getD 1 []).getD j 0 := hE 1 (by omega) j hj
  obtain ⟨h2, h3, h4⟩ := tx_bch 1 (by omega) _ (tx_bchD (i := 1) (by omega) hj)
  rw [← h1] at h2 h3 h4
  have h5 : nI j < (Int32.ofNat 15) := nI_lt (b := 15) hj (by omega)
  rw [q_String_charAt_0_1, q_String_isLatin1_0_2, if_neg (by decide), if_pos rfl]
  simp only [Option.bind_some, iv_tI]
  rw [if_neg (by decide), q_StringLatin1_l1charAt_0_1, q_String_checkIndex_0, q_Preconditions_checkIndex_0, if_neg (nI_pos (by omega)), if_pos h5]
  simp only [Option.bind_some, iv_tI]
  rw [if_neg (nI_in (by omega) (by omega)), nI_clamp (by omega), h3, if_pos h4]
  simp only [Option.bind_some, iv_tI]
  rw [if_pos h4]
/-- does the word at s stand there? -/
theorem f_sp1 (hE : tx_Es σ) (hT : tx_tc σ c t) {p e s : Nat} {w : List Nat} (hpe : p ≤ e) (het : e ≤ t) (hL : ∀ k, p ≤ k → k < e → tx_L (c k) = true) (hw : w.length = e - p) (hs : s + w.length ≤ 15) (h4 : ∀ i, i < w.length → σ 1008 (s + i) = nI (w.getD i 0) ∧ w.getD i 0 < 128 ∧ w.getD i 0 ≠ 32) : ∀ (m i : Nat), w.length - i = m → i ≤ w.length → (∀ j, j < i → w.getD j 0 = c (p + j)) →
    ix_S 143 5 3 [some (.ref 100), some (.int (nI p)), some (.int (nI e)), some (.ref 1003), some (.int (nI s)), some (.int (nI (p + i)))] [] (ix_S0 b, σ) = some (.int (iv_B (w = tx_sl c p (e - p))), (ix_S0 b, σ)) := by
  obtain ⟨ht, -, h2⟩ := hT
  intro m
  induction m with
  | zero =>
    intro i hm hi hq
    rw [q_Tape_isSpelled_3_1, if_pos (nI_le (by omega) (by omega)), iv_Bt (tx_sl_eq.mpr ⟨hw, fun j hj => hq j (by omega)⟩)]
  | succ m ih =>
    intro i hm hi hq
    obtain ⟨g1, g2, g3⟩ := h4 i (by omega)
    have g7 := h2 (p + i) (by omega)
    have g8 := tx_Lf0 _ (List.mem_range.mpr g7.1) (hL (p + i) (by omega) (by omega))
    have e1 : nI s + nI (p + i) - nI p = nI (s + i) := by
      rw [nI_add, tx_sub (by omega)]
      congr 1
      omega
    rw [q_Tape_isSpelled_3_1, if_neg (nI_ge (by omega) (by omega)), e1, f_chr1 hE (by omega)]
    simp only [Option.bind_some, iv_tI]
    rw [if_neg (nI_in (by omega) (by omega)), nI_clamp (by omega), g1, g7.2, g8.2.2]
    by_cases g5 : w.getD i 0 = c (p + i)
    · rw [if_pos (by rw [g5]), nI_1, Nat.add_assoc]
      refine ih (i + 1) (by omega) (by omega) (fun j hj => ?_)
      by_cases ej : j = i
      · rw [ej]; exact g5
      · exact hq j (by omega)
    · rw [if_neg (fun q => g5 ((nI_eq (by omega) (by omega)).mp q)), iv_Bf (fun q => g5 ((tx_sl_eq.mp q).2 i (by omega)))]
/-- what is found stays -/
theorem f_wf1 {p e : Nat} {g : Nat} {v5 v6 v7 : Int32} (hg : g < 31) : ix_S 138 6 41 [some (.ref 100), some (.int (nI p)), some (.ref 1003), some (.int (nI e)), some (.int (nI g)), some (.int v5), some (.int v6), some (.int v7)] [] (ix_S0 b, σ) = tx_add b σ (nI g) 0 p e := by
  rw [q_Tape_addWord_41_1, f_len1]
  simp only [Option.bind_some, iv_tI]
  by_cases h : nI 15 < v7
  · rw [if_pos h]; rfl
  · rw [if_neg h, if_neg (tx_n31 hg)]; rfl
/-- the letters of a word that is gone through -/
theorem f_wl1 (hE : tx_Es σ) {p e s j : Nat} {w : List Nat} (hs : s + w.length ≤ 15) (h4 : ∀ i, i < w.length → σ 1008 (s + i) = nI (w.getD i 0) ∧ w.getD i 0 < 128 ∧ w.getD i 0 ≠ 32) : ∀ (m i : Nat), w.length - i = m → i ≤ w.length →
    ix_S 138 6 41 [some (.ref 100), some (.int (nI p)), some (.ref 1003), some (.int (nI e)), some (.int 31), some (.int (nI j)), some (.int (nI s)), some (.int (nI (s + i)))] [] (ix_S0 b, σ) = ix_S 138 6 41 [some (.ref 100), some (.int (nI p)), some (.ref 1003), some (.int (nI e)), some (.int 31), some (.int (nI j)), some (.int (nI s)), some (.int (nI (s + w.length)))] [] (ix_S0 b, σ)
  | 0, i, hm, hi => by rw [show i = w.length by omega]
  | m + 1, i, hm, hi => by
    obtain ⟨g1, g2, g3⟩ := h4 i (by omega)
    rw [q_Tape_addWord_41_1, f_len1]
    simp only [Option.bind_some, iv_tI]
    rw [if_neg (nI_nlt (by omega) (by omega)), if_pos trivial, f_len1]
    simp only [Option.bind_some, iv_tI]
    rw [if_neg (fun q => absurd ((nI_eq (by omega) (by omega)).mp q) (by omega)), f_chr1 hE (by omega)]
    simp only [Option.bind_some, iv_tI]
    rw [g1, if_neg (tx_n32 (by omega) g3), nI_1, Nat.add_assoc]
    exact f_wl1 hE hs h4 m (i + 1) (by omega) (by omega)
theorem f_cw1 (hE : tx_Es σ) (hT : tx_tc σ c t) {p e : Nat} (hpe : p ≤ e) (het : e ≤ t) (hL : ∀ k, p ≤ k → k < e → tx_L (c k) = true) : ∀ (l : List (List Nat)) (s j : Nat), tx_cl (σ 1008) 15 s l → j + l.length ≤ 31 → ix_S 138 6 41 [some (.ref 100), some (.int (nI p)), some (.ref 1003), some (.int (nI e)), some (.int 31), some (.int (nI j)), some (.int (nI s)), some (.int (nI s))] [] (ix_S0 b, σ) = tx_add b σ (nI ((tx_fi l j (tx_sl c p (e - p))).getD 31)) 0 p e
  | [], s, j, h, hj => by
    rw [show s = 15 + 1 from h, q_Tape_addWord_41_1, f_len1]
    simp only [Option.bind_some, iv_tI]
    rw [if_pos (nI_lt (by omega) (by omega))]
    rfl
  | w :: r, s, j, h, hj => by
    obtain ⟨h1, h2, h3, h5⟩ := h
    have ht := hT.1
    have hlen : j + (r.length + 1) ≤ 31 := hj
    have hS := f_wl1 (b := b) (p := p) (e := e) (j := j) hE h1 h2 w.length 0 (by omega) (by omega)
    rw [Nat.add_zero] at hS
    have ih := f_cw1 hE hT hpe het hL r (s + w.length + 1) (j + 1) h5 (by omega)
    have e2 : nI (s + w.length) - nI s = nI w.length := by
      rw [tx_sub (by omega)]
      congr 1
      omega
    have e3 : nI e - nI p = nI (e - p) := tx_sub hpe
    have key : (if nI (s + w.length) - nI s = nI e - nI p then ((ix_F 143 [.ref 100, .int (nI p), .int (nI e), .ref 1003, .int (nI s)] (ix_S0 b, σ)).bind fun x => (if (ix_toI x.1) = 0 then ix_S 138 6 41 [some (.ref 100), some (.int (nI p)), some (.ref 1003), some (.int (nI e)), some (.int 31), some (.int (nI j + (1 : Int32))), some (.int (nI (s + w.length) + (1 : Int32))), some (.int (nI (s + w.length) + (1 : Int32)))] [] (ix_S0 b, x.2.2) else ix_S 138 6 41 [some (.ref 100), some (.int (nI p)), some (.ref 1003), some (.int (nI e)), some (.int (nI j)), some (.int (nI j + (1 : Int32))), some (.int (nI (s + w.length) + (1 : Int32))), some (.int (nI (s + w.length) + (1 : Int32)))] [] (ix_S0 b, x.2.2))) else ix_S 138 6 41 [some (.ref 100), some (.int (nI p)), some (.ref 1003), some (.int (nI e)), some (.int 31), some (.int (nI j + (1 : Int32))), some (.int (nI (s + w.length) + (1 : Int32))), some (.int (nI (s + w.length) + (1 : Int32)))] [] (ix_S0 b, σ)) = tx_add b σ (nI ((tx_fi (w :: r) j (tx_sl c p (e - p))).getD 31)) 0 p e := by
      rw [e2, e3, nI_1, nI_1]
      unfold tx_fi
      by_cases g : w.length = e - p
      · have hsp := f_sp1 (b := b) hE hT (s := s) hpe het hL g h1 h2 w.length 0 (by omega) (by omega) (fun _ hz => absurd hz (by omega))
        rw [Nat.add_zero] at hsp
        rw [if_pos (by rw [g]), q_Tape_isSpelled_0_1, hsp]
        simp only [Option.bind_some, iv_tI]
        by_cases g2 : w = tx_sl c p (e - p)
        · rw [iv_Bt g2, if_neg (by decide), if_pos g2, f_wf1 (by omega)]
          rfl
        · rw [iv_Bf g2, if_pos rfl, if_neg g2]
          exact ih
      · have g2 : ¬ w = tx_sl c p (e - p) := fun q => g (tx_sl_eq.mp q).1
        rw [if_neg (fun q => g ((nI_eq (by omega) (by omega)).mp q)), if_neg g2]
        exact ih
    rw [hS, q_Tape_addWord_41_1, f_len1]
    simp only [Option.bind_some, iv_tI]
    rw [if_neg (nI_nlt (by omega) (by omega)), if_pos trivial, f_len1]
    simp only [Option.bind_some, iv_tI]
    by_cases g : s + w.length = 15
    · rw [if_pos (by rw [g])]
      exact key
    · rw [if_neg (fun q => g ((nI_eq (by omega) (by omega)).mp q)), f_chr1 hE (by omega)]
      simp only [Option.bind_some, iv_tI]
      rw [h3 (by omega), if_pos rfl]
      exact key
theorem f_aw1 (hE : tx_Es σ) (hT : tx_tc σ c t) {p : Nat} : ∀ (m e : Nat), t - e = m → p ≤ e → e ≤ t → (∀ k, p ≤ k → k < e → tx_L (c k) = true) → ix_S 138 6 2 [some (.ref 100), some (.int (nI p)), some (.ref 1003), some (.int (nI e)), none, none, none, none] [] (ix_S0 b, σ) = tx_add b σ (nI ((tx_fi (tx_wk 1) 0 (tx_sl c p (tx_end tx_L c t e - p))).getD 31)) 0 p (tx_end tx_L c t e) := by
  have hcl : tx_cl (σ 1008) 15 0 (tx_wk 1) := tx_clb_ok (ix_byt.getD 1 []) 15 (fun j hj => hE 1 (by omega) j hj) _ 0 (by decide +kernel)
  intro m
  induction m with
  | zero =>
    intro e hm hpe het hL
    have ht := hT.1
    rw [show tx_end tx_L c t e = e by rw [tx_end_eq, if_neg (by omega)], q_Tape_addWord_2_1, hT.2.1, if_pos (nI_le (by omega) (by omega))]
    exact f_cw1 hE hT hpe het hL _ 0 0 hcl (by decide)
  | succ m ih =>
    intro e hm hpe het hL
    have ht := hT.1
    have hce := hT.2.2 e (by omega)
    rw [q_Tape_addWord_2_1, hT.2.1, if_neg (nI_ge (by omega) (by omega)), if_neg (nI_in (by omega) (by omega)), nI_clamp (by omega), hce.2, f_tL hce.1]
    simp only [Option.bind_some, iv_tI]
    by_cases g : tx_L (c e) = true
    · rw [iv_Bt g, if_neg (by decide), tx_end_eq, if_pos ⟨by omega, g⟩, nI_1]
      refine ih (e + 1) (by omega) (by omega) (by omega) (fun k h1 h2 => ?_)
      by_cases ek : k = e
      · rw [ek]; exact g
      · exact hL k h1 (by omega)
    · rw [iv_Bf g, if_pos rfl, tx_end_eq, if_neg (fun q => g q.2)]
      exact f_cw1 hE hT hpe het hL _ 0 0 hcl (by decide)
theorem f_addWord1 (hE : tx_Es σ) (hT : tx_tc σ c t) {p : Nat} (hp : p < t) : ix_F 138 [.ref 100, .int (nI p), .ref 1003] (ix_S0 b, σ) = tx_add b σ (nI ((tx_fi (tx_wk 1) 0 (tx_sl c p (tx_end tx_L c t p - p))).getD 31)) 0 p (tx_end tx_L c t p) := by
  rw [q_Tape_addWord_0_1]
  exact f_aw1 hE hT _ p rfl (Nat.le_refl _) (by omega) (fun k h1 h2 => absurd h1 (by omega))
end W1
section W2
variable {b : Bool} {σ : ix_St} {c : Nat → Nat} {t : Nat}
theorem f_len2 : ix_F 290 [.ref 1004] (ix_S0 b, σ) = some (.int (nI 8), (ix_S0 b, σ)) := by
  rw [q_String_length_0_3, q_String_coder_0_3, if_neg (by decide)]
  simp only [Option.bind_some, iv_tI]
  rfl
theorem f_chr2 (hE : tx_Es σ) {j : Nat} (hj : j < 8) : ix_F 291 [.ref 1004, .int (nI j)] (ix_S0 b, σ) = some (.int (σ 1009 j), (ix_S0 b, σ)) := by
  have h1 : σ 1009 j = (ix_byt.getD 2 []).getD j 0 := hE 2 (by omega) j hj
  obtain ⟨h2, h3, h4⟩ := tx_bch 2 (by omega) _ (tx_bchD (i := 2) (by omega) hj)
  rw [← h1] at h2 h3 h4
  have h5 : nI j < (Int32.ofNat 8) := nI_lt (b := 8) hj (by omega)
  rw [q_String_charAt_0_2, q_String_isLatin1_0_3, if_neg (by decide), if_pos rfl]
  simp only [Option.bind_some, iv_tI]
  rw [if_neg (by decide), q_StringLatin1_l1charAt_0_2, q_String_checkIndex_0, q_Preconditions_checkIndex_0, if_neg (nI_pos (by omega)), if_pos h5]
  simp only [Option.bind_some, iv_tI]
  rw [if_neg (nI_in (by omega) (by omega)), nI_clamp (by omega), h3, if_pos h4]
  simp only [Option.bind_some, iv_tI]
  rw [if_pos h4]
/-- does the word at s stand there? -/
theorem f_sp2 (hE : tx_Es σ) (hT : tx_tc σ c t) {p e s : Nat} {w : List Nat} (hpe : p ≤ e) (het : e ≤ t) (hL : ∀ k, p ≤ k → k < e → tx_L (c k) = true) (hw : w.length = e - p) (hs : s + w.length ≤ 8) (h4 : ∀ i, i < w.length → σ 1009 (s + i) = nI (w.getD i 0) ∧ w.getD i 0 < 128 ∧ w.getD i 0 ≠ 32) : ∀ (m i : Nat), w.length - i = m → i ≤ w.length → (∀ j, j < i → w.getD j 0 = c (p + j)) →
    ix_S 143 5 3 [some (.ref 100), some (.int (nI p)), some (.int (nI e)), some (.ref 1004), some (.int (nI s)), some (.int (nI (p + i)))] [] (ix_S0 b, σ) = some (.int (iv_B (w = tx_sl c p (e - p))), (ix_S0 b, σ)) := by
  obtain ⟨ht, -, h2⟩ := hT
  intro m
  induction m with
  | zero =>
    intro i hm hi hq
    rw [q_Tape_isSpelled_3_2, if_pos (nI_le (by omega) (by omega)), iv_Bt (tx_sl_eq.mpr ⟨hw, fun j hj => hq j (by omega)⟩)]
  | succ m ih =>
    intro i hm hi hq
    obtain ⟨g1, g2, g3⟩ := h4 i (by omega)
    have g7 := h2 (p + i) (by omega)
    have g8 := tx_Lf0 _ (List.mem_range.mpr g7.1) (hL (p + i) (by omega) (by omega))
    have e1 : nI s + nI (p + i) - nI p = nI (s + i) := by
      rw [nI_add, tx_sub (by omega)]
      congr 1
      omega
    rw [q_Tape_isSpelled_3_2, if_neg (nI_ge (by omega) (by omega)), e1, f_chr2 hE (by omega)]
    simp only [Option.bind_some, iv_tI]
    rw [if_neg (nI_in (by omega) (by omega)), nI_clamp (by omega), g1, g7.2, g8.2.2]
    by_cases g5 : w.getD i 0 = c (p + i)
    · rw [if_pos (by rw [g5]), nI_1, Nat.add_assoc]
      refine ih (i + 1) (by omega) (by omega) (fun j hj => ?_)
      by_cases ej : j = i
      · rw [ej]; exact g5
      · exact hq j (by omega)
    · rw [if_neg (fun q => g5 ((nI_eq (by omega) (by omega)).mp q)), iv_Bf (fun q => g5 ((tx_sl_eq.mp q).2 i (by omega)))]
/-- what is found stays -/
theorem f_wf2 {p e : Nat} {g : Nat} {v5 v6 v7 : Int32} (hg : g < 31) : ix_S 138 6 41 [some (.ref 100), some (.int (nI p)), some (.ref 1004), some (.int (nI e)), some (.int (nI g)), some (.int v5), some (.int v6), some (.int v7)] [] (ix_S0 b, σ) = tx_add b σ (nI g) 0 p e := by
  rw [q_Tape_addWord_41_2, f_len2]
  simp only [Option.bind_some, iv_tI]
  by_cases h : nI 8 < v7
  · rw [if_pos h]; rfl
  · rw [if_neg h, if_neg (tx_n31 hg)]; rfl
/-- the letters of a word that is gone through -/
theorem f_wl2 (hE : tx_Es σ) {p e s j : Nat} {w : List Nat} (hs : s + w.length ≤ 8) (h4 : ∀ i, i < w.length → σ 1009 (s + i) = nI (w.getD i 0) ∧ w.getD i 0 < 128 ∧ w.getD i 0 ≠ 32) : ∀ (m i : Nat), w.length - i = m → i ≤ w.length →
    ix_S 138 6 41 [some (.ref 100), some (.int (nI p)), some (.ref 1004), some (.int (nI e)), some (.int 31), some (.int (nI j)), some (.int (nI s)), some (.int (nI (s + i)))] [] (ix_S0 b, σ) = ix_S 138 6 41 [some (.ref 100), some (.int (nI p)), some (.ref 1004), some (.int (nI e)), some (.int 31), some (.int (nI j)), some (.int (nI s)), some (.int (nI (s + w.length)))] [] (ix_S0 b, σ)
  | 0, i, hm, hi => by rw [show i = w.length by omega]
  | m + 1, i, hm, hi => by
    obtain ⟨g1, g2, g3⟩ := h4 i (by omega)
    rw [q_Tape_addWord_41_2, f_len2]
    simp only [Option.bind_some, iv_tI]
    rw [if_neg (nI_nlt (by omega) (by omega)), if_pos trivial, f_len2]
    simp only [Option.bind_some, iv_tI]
    rw [if_neg (fun q => absurd ((nI_eq (by omega) (by omega)).mp q) (by omega)), f_chr2 hE (by omega)]
    simp only [Option.bind_some, iv_tI]
    rw [g1, if_neg (tx_n32 (by omega) g3), nI_1, Nat.add_assoc]
    exact f_wl2 hE hs h4 m (i + 1) (by omega) (by omega)
theorem f_cw2 (hE : tx_Es σ) (hT : tx_tc σ c t) {p e : Nat} (hpe : p ≤ e) (het : e ≤ t) (hL : ∀ k, p ≤ k → k < e → tx_L (c k) = true) : ∀ (l : List (List Nat)) (s j : Nat), tx_cl (σ 1009) 8 s l → j + l.length ≤ 31 → ix_S 138 6 41 [some (.ref 100), some (.int (nI p)), some (.ref 1004), some (.int (nI e)), some (.int 31), some (.int (nI j)), some (.int (nI s)), some (.int (nI s))] [] (ix_S0 b, σ) = tx_add b σ (nI ((tx_fi l j (tx_sl c p (e - p))).getD 31)) 0 p e
  | [], s, j, h, hj => by
    rw [show s = 8 + 1 from h, q_Tape_addWord_41_2, f_len2]
    simp only [Option.bind_some, iv_tI]
    rw [if_pos (nI_lt (by omega) (by omega))]
    rfl
  | w :: r, s, j, h, hj => by
    obtain ⟨h1, h2, h3, h5⟩ := h
    have ht := hT.1
    have hlen : j + (r.length + 1) ≤ 31 := hj
    have hS := f_wl2 (b := b) (p := p) (e := e) (j := j) hE h1 h2 w.length 0 (by omega) (by omega)
    rw [Nat.add_zero] at hS
    have ih := f_cw2 hE hT hpe het hL r (s + w.length + 1) (j + 1) h5 (by omega)
    have e2 : nI (s + w.length) - nI s = nI w.length := by
      rw [tx_sub (by omega)]
      congr 1
      omega
    have e3 : nI e - nI p = nI (e - p) := tx_sub hpe
    have key : (if nI (s + w.length) - nI s = nI e - nI p then ((ix_F 143 [.ref 100, .int (nI p), .int (nI e), .ref 1004, .int (nI s)] (ix_S0 b, σ)).bind fun x => (if (ix_toI x.1) = 0 then ix_S 138 6 41 [some (.ref 100), some (.int (nI p)), some (.ref 1004), some (.int (nI e)), some (.int 31), some (.int (nI j + (1 : Int32))), some (.int (nI (s + w.length) + (1 : Int32))), some (.int (nI (s + w.length) + (1 : Int32)))] [] (ix_S0 b, x.2.2) else ix_S 138 6 41 [some (.ref 100), some (.int (nI p)), some (.ref 1004), some (.int (nI e)), some (.int (nI j)), some (.int (nI j + (1 : Int32))), some (.int (nI (s + w.length) + (1 : Int32))), some (.int (nI (s + w.length) + (1 : Int32)))] [] (ix_S0 b, x.2.2))) else ix_S 138 6 41 [some (.ref 100), some (.int (nI p)), some (.ref 1004), some (.int (nI e)), some (.int 31), some (.int (nI j + (1 : Int32))), some (.int (nI (s + w.length) + (1 : Int32))), some (.int (nI (s + w.length) + (1 : Int32)))] [] (ix_S0 b, σ)) = tx_add b σ (nI ((tx_fi (w :: r) j (tx_sl c p (e - p))).getD 31)) 0 p e := by
      rw [e2, e3, nI_1, nI_1]
      unfold tx_fi
      by_cases g : w.length = e - p
      · have hsp := f_sp2 (b := b) hE hT (s := s) hpe het hL g h1 h2 w.length 0 (by omega) (by omega) (fun _ hz => absurd hz (by omega))
        rw [Nat.add_zero] at hsp
        rw [if_pos (by rw [g]), q_Tape_isSpelled_0_2, hsp]
        simp only [Option.bind_some, iv_tI]
        by_cases g2 : w = tx_sl c p (e - p)
        · rw [iv_Bt g2, if_neg (by decide), if_pos g2, f_wf2 (by omega)]
          rfl
        · rw [iv_Bf g2, if_pos rfl, if_neg g2]
          exact ih
      · have g2 : ¬ w = tx_sl c p (e - p) := fun q => g (tx_sl_eq.mp q).1
        rw [if_neg (fun q => g ((nI_eq (by omega) (by omega)).mp q)), if_neg g2]
        exact ih
    rw [hS, q_Tape_addWord_41_2, f_len2]
    simp only [Option.bind_some, iv_tI]
    rw [if_neg (nI_nlt (by omega) (by omega)), if_pos trivial, f_len2]
    simp only [Option.bind_some, iv_tI]
    by_cases g : s + w.length = 8
    · rw [if_pos (by rw [g])]
      exact key
    · rw [if_neg (fun q => g ((nI_eq (by omega) (by omega)).mp q)), f_chr2 hE (by omega)]
      simp only [Option.bind_some, iv_tI]
      rw [h3 (by omega), if_pos rfl]
      exact key
theorem f_aw2 (hE : tx_Es σ) (hT : tx_tc σ c t) {p : Nat} : ∀ (m e : Nat), t - e = m → p ≤ e → e ≤ t → (∀ k, p ≤ k → k < e → tx_L (c k) = true) → ix_S 138 6 2 [some (.ref 100), some (.int (nI p)), some (.ref 1004), some (.int (nI e)), none, none, none, none] [] (ix_S0 b, σ) = tx_add b σ (nI ((tx_fi (tx_wk 2) 0 (tx_sl c p (tx_end tx_L c t e - p))).getD 31)) 0 p (tx_end tx_L c t e) := by
  have hcl : tx_cl (σ 1009) 8 0 (tx_wk 2) := tx_clb_ok (ix_byt.getD 2 []) 8 (fun j hj => hE 2 (by omega) j hj) _ 0 (by decide +kernel)
  intro m
  induction m with
  | zero =>
    intro e hm hpe het hL
    have ht := hT.1
    rw [show tx_end tx_L c t e = e by rw [tx_end_eq, if_neg (by omega)], q_Tape_addWord_2_2, hT.2.1, if_pos (nI_le (by omega) (by omega))]
    exact f_cw2 hE hT hpe het hL _ 0 0 hcl (by decide)
  | succ m ih =>
    intro e hm hpe het hL
    have ht := hT.1
    have hce := hT.2.2 e (by omega)
    rw [q_Tape_addWord_2_2, hT.2.1, if_neg (nI_ge (by omega) (by omega)), if_neg (nI_in (by omega) (by omega)), nI_clamp (by omega), hce.2, f_tL hce.1]
    simp only [Option.bind_some, iv_tI]
    by_cases g : tx_L (c e) = true
    · rw [iv_Bt g, if_neg (by decide), tx_end_eq, if_pos ⟨by omega, g⟩, nI_1]
      refine ih (e + 1) (by omega) (by omega) (by omega) (fun k h1 h2 => ?_)
      by_cases ek : k = e
      · rw [ek]; exact g
      · exact hL k h1 (by omega)
    · rw [iv_Bf g, if_pos rfl, tx_end_eq, if_neg (fun q => g q.2)]
      exact f_cw2 hE hT hpe het hL _ 0 0 hcl (by decide)
theorem f_addWord2 (hE : tx_Es σ) (hT : tx_tc σ c t) {p : Nat} (hp : p < t) : ix_F 138 [.ref 100, .int (nI p), .ref 1004] (ix_S0 b, σ) = tx_add b σ (nI ((tx_fi (tx_wk 2) 0 (tx_sl c p (tx_end tx_L c t p - p))).getD 31)) 0 p (tx_end tx_L c t p) := by
  rw [q_Tape_addWord_0_2]
  exact f_aw2 hE hT _ p rfl (Nat.le_refl _) (by omega) (fun k h1 h2 => absurd h1 (by omega))
end W2
section W3
variable {b : Bool} {σ : ix_St} {c : Nat → Nat} {t : Nat}
theorem f_len3 : ix_F 290 [.ref 1005] (ix_S0 b, σ) = some (.int (nI 14), (ix_S0 b, σ)) := by
  rw [q_String_length_0_4, q_String_coder_0_4, if_neg (by decide)]
  simp only [Option.bind_some, iv_tI]
  rfl
theorem f_chr3 (hE : tx_Es σ) {j : Nat} (hj : j < 14) : ix_F 291 [.ref 1005, .int (nI j)] (ix_S0 b, σ) = some (.int (σ 1010 j), (ix_S0 b, σ)) := by
  have h1 : σ 1010 j = (ix_byt.getD 3 []).getD j 0 := hE 3 (by omega) j hj
  obtain ⟨h2, h3, h4⟩ := tx_bch 3 (by omega) _ (tx_bchD (i := 3) (by omega) hj)
  rw [← h1] at h2 h3 h4
  have h5 : nI j < (Int32.ofNat 14) := nI_lt (b := 14) hj (by omega)
  rw [q_String_charAt_0_3, q_String_isLatin1_0_4, if_neg (by decide), if_pos rfl]
  simp only [Option.bind_some, iv_tI]
  rw [if_neg (by decide), q_StringLatin1_l1charAt_0_3, q_String_checkIndex_0, q_Preconditions_checkIndex_0, if_neg (nI_pos (by omega)), if_pos h5]
  simp only [Option.bind_some, iv_tI]
  rw [if_neg (nI_in (by omega) (by omega)), nI_clamp (by omega), h3, if_pos h4]
  simp only [Option.bind_some, iv_tI]
  rw [if_pos h4]
/-- does the word at s stand there? -/
theorem f_sp3 (hE : tx_Es σ) (hT : tx_tc σ c t) {p e s : Nat} {w : List Nat} (hpe : p ≤ e) (het : e ≤ t) (hL : ∀ k, p ≤ k → k < e → tx_L (c k) = true) (hw : w.length = e - p) (hs : s + w.length ≤ 14) (h4 : ∀ i, i < w.length → σ 1010 (s + i) = nI (w.getD i 0) ∧ w.getD i 0 < 128 ∧ w.getD i 0 ≠ 32) : ∀ (m i : Nat), w.length - i = m → i ≤ w.length → (∀ j, j < i → w.getD j 0 = c (p + j)) →
    ix_S 143 5 3 [some (.ref 100), some (.int (nI p)), some (.int (nI e)), some (.ref 1005), some (.int (nI s)), some (.int (nI (p + i)))] [] (ix_S0 b, σ) = some (.int (iv_B (w = tx_sl c p (e - p))), (ix_S0 b, σ)) := by
  obtain ⟨ht, -, h2⟩ := hT
  intro m
  induction m with
  | zero =>
    intro i hm hi hq
    rw [q_Tape_isSpelled_3_3, if_pos (nI_le (by omega) (by omega)), iv_Bt (tx_sl_eq.mpr ⟨hw, fun j hj => hq j (by omega)⟩)]
  | succ m ih =>
    intro i hm hi hq
    obtain ⟨g1, g2, g3⟩ := h4 i (by omega)
    have g7 := h2 (p + i) (by omega)
    have g8 := tx_Lf0 _ (List.mem_range.mpr g7.1) (hL (p + i) (by omega) (by omega))
    have e1 : nI s + nI (p + i) - nI p = nI (s + i) := by
      rw [nI_add, tx_sub (by omega)]
      congr 1
      omega
    rw [q_Tape_isSpelled_3_3, if_neg (nI_ge (by omega) (by omega)), e1, f_chr3 hE (by omega)]
    simp only [Option.bind_some, iv_tI]
    rw [if_neg (nI_in (by omega) (by omega)), nI_clamp (by omega), g1, g7.2, g8.2.2]
    by_cases g5 : w.getD i 0 = c (p + i)
    · rw [if_pos (by rw [g5]), nI_1, Nat.add_assoc]
      refine ih (i + 1) (by omega) (by omega) (fun j hj => ?_)
      by_cases ej : j = i
      · rw [ej]; exact g5
      · exact hq j (by omega)
    · rw [if_neg (fun q => g5 ((nI_eq (by omega) (by omega)).mp q)), iv_Bf (fun q => g5 ((tx_sl_eq.mp q).2 i (by omega)))]
/-- what is found stays -/
theorem f_wf3 {p e : Nat} {g : Nat} {v5 v6 v7 : Int32} (hg : g < 31) : ix_S 138 6 41 [some (.ref 100), some (.int (nI p)), some (.ref 1005), some (.int (nI e)), some (.int (nI g)), some (.int v5), some (.int v6), some (.int v7)] [] (ix_S0 b, σ) = tx_add b σ (nI g) 0 p e := by
  rw [q_Tape_addWord_41_3, f_len3]
  simp only [Option.bind_some, iv_tI]
  by_cases h : nI 14 < v7
  · rw [if_pos h]; rfl
  · rw [if_neg h, if_neg (tx_n31 hg)]; rfl
/-- the letters of a word that is gone through -/
theorem f_wl3 (hE : tx_Es σ) {p e s j : Nat} {w : List Nat} (hs : s + w.length ≤ 14) (h4 : ∀ i, i < w.length → σ 1010 (s + i) = nI (w.getD i 0) ∧ w.getD i 0 < 128 ∧ w.getD i 0 ≠ 32) : ∀ (m i : Nat), w.length - i = m → i ≤ w.length →
    ix_S 138 6 41 [some (.ref 100), some (.int (nI p)), some (.ref 1005), some (.int (nI e)), some (.int 31), some (.int (nI j)), some (.int (nI s)), some (.int (nI (s + i)))] [] (ix_S0 b, σ) = ix_S 138 6 41 [some (.ref 100), some (.int (nI p)), some (.ref 1005), some (.int (nI e)), some (.int 31), some (.int (nI j)), some (.int (nI s)), some (.int (nI (s + w.length)))] [] (ix_S0 b, σ)
  | 0, i, hm, hi => by rw [show i = w.length by omega]
  | m + 1, i, hm, hi => by
    obtain ⟨g1, g2, g3⟩ := h4 i (by omega)
    rw [q_Tape_addWord_41_3, f_len3]
    simp only [Option.bind_some, iv_tI]
    rw [if_neg (nI_nlt (by omega) (by omega)), if_pos trivial, f_len3]
    simp only [Option.bind_some, iv_tI]
    rw [if_neg (fun q => absurd ((nI_eq (by omega) (by omega)).mp q) (by omega)), f_chr3 hE (by omega)]
    simp only [Option.bind_some, iv_tI]
    rw [g1, if_neg (tx_n32 (by omega) g3), nI_1, Nat.add_assoc]
    exact f_wl3 hE hs h4 m (i + 1) (by omega) (by omega)
theorem f_cw3 (hE : tx_Es σ) (hT : tx_tc σ c t) {p e : Nat} (hpe : p ≤ e) (het : e ≤ t) (hL : ∀ k, p ≤ k → k < e → tx_L (c k) = true) : ∀ (l : List (List Nat)) (s j : Nat), tx_cl (σ 1010) 14 s l → j + l.length ≤ 31 → ix_S 138 6 41 [some (.ref 100), some (.int (nI p)), some (.ref 1005), some (.int (nI e)), some (.int 31), some (.int (nI j)), some (.int (nI s)), some (.int (nI s))] [] (ix_S0 b, σ) = tx_add b σ (nI ((tx_fi l j (tx_sl c p (e - p))).getD 31)) 0 p e
  | [], s, j, h, hj => by
    rw [show s = 14 + 1 from h, q_Tape_addWord_41_3, f_len3]
    simp only [Option.bind_some, iv_tI]
    rw [if_pos (nI_lt (by omega) (by omega))]
    rfl
  | w :: r, s, j, h, hj => by
    obtain ⟨h1, h2, h3, h5⟩ := h
    have ht := hT.1
    have hlen : j + (r.length + 1) ≤ 31 := hj
    have hS := f_wl3 (b := b) (p := p) (e := e) (j := j) hE h1 h2 w.length 0 (by omega) (by omega)
    rw [Nat.add_zero] at hS
    have ih := f_cw3 hE hT hpe het hL r (s + w.length + 1) (j + 1) h5 (by omega)
    have e2 : nI (s + w.length) - nI s = nI w.length := by
      rw [tx_sub (by omega)]
      congr 1
      omega
    have e3 : nI e - nI p = nI (e - p) := tx_sub hpe
    have key : (if nI (s + w.length) - nI s = nI e - nI p then ((ix_F 143 [.ref 100, .int (nI p), .int (nI e), .ref 1005, .int (nI s)] (ix_S0 b, σ)).bind fun x => (if (ix_toI x.1) = 0 then ix_S 138 6 41 [some (.ref 100), some (.int (nI p)), some (.ref 1005), some (.int (nI e)), some (.int 31), some (.int (nI j + (1 : Int32))), some (.int (nI (s + w.length) + (1 : Int32))), some (.int (nI (s + w.length) + (1 : Int32)))] [] (ix_S0 b, x.2.2) else ix_S 138 6 41 [some (.ref 100), some (.int (nI p)), some (.ref 1005), some (.int (nI e)), some (.int (nI j)), some (.int (nI j + (1 : Int32))), some (.int (nI (s + w.length) + (1 : Int32))), some (.int (nI (s + w.length) + (1 : Int32)))] [] (ix_S0 b, x.2.2))) else ix_S 138 6 41 [some (.ref 100), some (.int (nI p)), some (.ref 1005), some (.int (nI e)), some (.int 31), some (.int (nI j + (1 : Int32))), some (.int (nI (s + w.length) + (1 : Int32))), some (.int (nI (s + w.length) + (1 : Int32)))] [] (ix_S0 b, σ)) = tx_add b σ (nI ((tx_fi (w :: r) j (tx_sl c p (e - p))).getD 31)) 0 p e := by
      rw [e2, e3, nI_1, nI_1]
      unfold tx_fi
      by_cases g : w.length = e - p
      · have hsp := f_sp3 (b := b) hE hT (s := s) hpe het hL g h1 h2 w.length 0 (by omega) (by omega) (fun _ hz => absurd hz (by omega))
        rw [Nat.add_zero] at hsp
        rw [if_pos (by rw [g]), q_Tape_isSpelled_0_3, hsp]
        simp only [Option.bind_some, iv_tI]
        by_cases g2 : w = tx_sl c p (e - p)
        · rw [iv_Bt g2, if_neg (by decide), if_pos g2, f_wf3 (by omega)]
          rfl
        · rw [iv_Bf g2, if_pos rfl, if_neg g2]
          exact ih
      · have g2 : ¬ w = tx_sl c p (e - p) := fun q => g (tx_sl_eq.mp q).1
        rw [if_neg (fun q => g ((nI_eq (by omega) (by omega)).mp q)), if_neg g2]
        exact ih
    rw [hS, q_Tape_addWord_41_3, f_len3]
    simp only [Option.bind_some, iv_tI]
    rw [if_neg (nI_nlt (by omega) (by omega)), if_pos trivial, f_len3]
    simp only [Option.bind_some, iv_tI]
    by_cases g : s + w.length = 14
    · rw [if_pos (by rw [g])]
      exact key
    · rw [if_neg (fun q => g ((nI_eq (by omega) (by omega)).mp q)), f_chr3 hE (by omega)]
      simp only [Option.bind_some, iv_tI]
      rw [h3 (by omega), if_pos rfl]
      exact key
theorem f_aw3 (hE : tx_Es σ) (hT : tx_tc σ c t) {p : Nat} : ∀ (m e : Nat), t - e = m → p ≤ e → e ≤ t → (∀ k, p ≤ k → k < e → tx_L (c k) = true) → ix_S 138 6 2 [some (.ref 100), some (.int (nI p)), some (.ref 1005), some (.int (nI e)), none, none, none, none] [] (ix_S0 b, σ) = tx_add b σ (nI ((tx_fi (tx_wk 3) 0 (tx_sl c p (tx_end tx_L c t e - p))).getD 31)) 0 p (tx_end tx_L c t e) := by
  have hcl : tx_cl (σ 1010) 14 0 (tx_wk 3) := tx_clb_ok (ix_byt.getD 3 []) 14 (fun j hj => hE 3 (by omega) j hj) _ 0 (by decide +kernel)
  intro m
  induction m with
  | zero =>
    intro e hm hpe het hL
    have ht := hT.1
    rw [show tx_end tx_L c t e = e by rw [tx_end_eq, if_neg (by omega)], q_Tape_addWord_2_3, hT.2.1, if_pos (nI_le (by omega) (by omega))]
    exact f_cw3 hE hT hpe het hL _ 0 0 hcl (by decide)
  | succ m ih =>
    intro e hm hpe het hL
    have ht := hT.1
    have hce := hT.2.2 e (by omega)
    rw [q_Tape_addWord_2_3, hT.2.1, if_neg (nI_ge (by omega) (by omega)), if_neg (nI_in (by omega) (by omega)), nI_clamp (by omega), hce.2, f_tL hce.1]
    simp only [Option.bind_some, iv_tI]
    by_cases g : tx_L (c e) = true
    · rw [iv_Bt g, if_neg (by decide), tx_end_eq, if_pos ⟨by omega, g⟩, nI_1]
      refine ih (e + 1) (by omega) (by omega) (by omega) (fun k h1 h2 => ?_)
      by_cases ek : k = e
      · rw [ek]; exact g
      · exact hL k h1 (by omega)
    · rw [iv_Bf g, if_pos rfl, tx_end_eq, if_neg (fun q => g q.2)]
      exact f_cw3 hE hT hpe het hL _ 0 0 hcl (by decide)
theorem f_addWord3 (hE : tx_Es σ) (hT : tx_tc σ c t) {p : Nat} (hp : p < t) : ix_F 138 [.ref 100, .int (nI p), .ref 1005] (ix_S0 b, σ) = tx_add b σ (nI ((tx_fi (tx_wk 3) 0 (tx_sl c p (tx_end tx_L c t p - p))).getD 31)) 0 p (tx_end tx_L c t p) := by
  rw [q_Tape_addWord_0_3]
  exact f_aw3 hE hT _ p rfl (Nat.le_refl _) (by omega) (fun k h1 h2 => absurd h1 (by omega))
end W3
