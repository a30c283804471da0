/-! the class's tokens: rewind -/
theorem tx_sg0 : ∀ c ∈ List.range 256, ((∀ i ∈ List.range 10, (ix_byt.getD 4 []).getD i 0 ≠ tx_b c) ↔ tx_G c = false) := by decide +kernel
theorem f_ixc {b : Bool} {σ : ix_St} {x : Int32} : ∀ (m j : Nat), 10 - j = m → j ≤ 10 → ∃ r, ix_S 298 1 7 [some (.ref 1011), none, none, some (.int (nI 10)), some (.int x), some (.int (nI j))] [] (ix_S0 b, σ) = some (.int r, (ix_S0 b, σ)) ∧ (r < 0 ↔ ∀ i, j ≤ i → i < 10 → σ 1011 i ≠ x)
  | 0, j, hm, hj => by
    refine ⟨-1, ?_, ?_⟩
    · rw [q_StringLatin1_l1indexOfChar_7, if_pos (nI_le (by omega) (by omega))]
    · exact ⟨fun _ i h1 h2 => absurd h1 (by omega), fun _ => by decide⟩
  | m + 1, j, hm, hj => by
    rw [q_StringLatin1_l1indexOfChar_7, if_neg (nI_ge (by omega) (by omega)), if_neg (nI_in (by omega) (by omega)), nI_clamp (by omega)]
    by_cases e : σ 1011 j = x
    · rw [if_pos e]
      exact ⟨_, rfl, fun h => absurd h (nI_pos (by omega)), fun h => absurd e (h j (by omega) (by omega))⟩
    · rw [if_neg e, nI_1]
      obtain ⟨r, h1, h2⟩ := f_ixc m (j + 1) (by omega) (by omega)
      refine ⟨r, h1, h2.trans ⟨fun h i h3 h4 => ?_, fun h i h3 h4 => h i (by omega) h4⟩⟩
      by_cases ei : i = j
      · rw [ei]; exact e
      · exact h i (by omega) h4
theorem f_sgn {b : Bool} {σ : ix_St} (hE : tx_Es σ) {c : Nat} (hc : c < 256) : ∃ r, ix_F 288 [.ref 1006, .int (nI c)] (ix_S0 b, σ) = some (.int r, (ix_S0 b, σ)) ∧ (r < 0 ↔ tx_G c = false) := by
  obtain ⟨r, h1, h2⟩ := f_ixc (b := b) (σ := σ) (x := tx_b c) 10 0 (by omega) (by omega)
  refine ⟨r, ?_, ?_⟩
  · rw [q_String_indexOf_0, q_String_indexOf2_0, q_String_isLatin1_0, if_neg (by decide), if_pos rfl]
    simp only [Option.bind_some, iv_tI]
    rw [if_neg (by decide), q_String_length_0, q_String_coder_0, if_neg (by decide)]
    simp only [Option.bind_some, iv_tI]
    rw [show (Int32.ofNat 10 >>> ((0 : Int32) &&& 31)) = nI 10 from rfl, q_StringLatin1_l1indexOf_0, q_StringLatin1_l1canEncode_0, if_neg (nI_pos (by omega)), if_neg (show ¬ (255 : Int32) < nI c from nI_nlt (b := c) (a := 255) (by omega) (by omega) )]
    simp only [Option.bind_some, iv_tI]
    rw [if_neg (by decide), q_Math_max_0, if_neg (by decide)]
    simp only [Option.bind_some, iv_tI]
    rw [q_Math_min_0, if_neg (show ¬ Int32.ofNat 10 < nI 10 by decide)]
    simp only [Option.bind_some, iv_tI]
    rw [if_pos (by decide), q_StringLatin1_l1indexOfChar_0]
    have h3 : ix_S 298 1 7 [some (.ref 1011), none, none, some (.int (nI 10)), some (.int (Int32.toInt8 (nI c)).toInt32), some (.int 0)] [] (ix_S0 b, σ) = some (.int r, (ix_S0 b, σ)) := h1
    rw [h3]
    simp only [Option.bind_some, iv_tI]
  · rw [h2, ← tx_sg0 c (List.mem_range.mpr hc)]
    constructor
    · intro h i hi
      have hi := List.mem_range.mp hi
      rw [← hE 4 (by omega) i hi]
      exact h i (by omega) hi
    · intro h i _ hi
      have h4 : σ 1011 i = (ix_byt.getD 4 []).getD i 0 := hE 4 (by omega) i hi
      rw [h4]
      exact h i (List.mem_range.mpr hi)
theorem tx_in {p N : Nat} (h : p < N) (hN : N < 2 ^ 31) : ¬ (nI p < 0 ∨ N ≤ p) := by
  have h2 := nI_in h hN
  rw [nI_clamp (by omega)] at h2
  exact h2
/-- σ with one token more -/
def tx_tk (σ : ix_St) (n : Nat) (K v p : Int32) : ix_St := ix_up (ix_up (ix_up (ix_up σ 102 n K) 103 n v) 104 n p) 100 5 (nI (n + 1))
theorem f_addT {b : Bool} {σ : ix_St} {n : Nat} (hn : n ≤ 400) (h5 : σ 100 5 = nI n) {K v p : Int32} : ix_F 141 [.ref 100, .int K, .int v, .int p] (ix_S0 b, σ) = some (.null, (ix_S0 b, tx_tk σ n K v p)) := by
  rw [q_Tape_addToken_0, h5, if_neg (show ¬ (400 : Int32) < nI n from nI_nlt (a := 400) (by omega) (by omega)), nI_clamp (by omega), if_neg (tx_in (by omega) (by omega)), if_neg (tx_in (by omega) (by omega)), if_neg (tx_in (by omega) (by omega)), nI_1]
  rfl
theorem f_addE {b : Bool} {σ : ix_St} {n : Nat} (hn : n ≤ 400) (h5 : σ 100 5 = nI n) {K v : Int32} {p e : Nat} : tx_add b σ K v p e = some (.int (nI e), (ix_S0 b, tx_tk σ n K v (nI p))) := by
  unfold tx_add
  rw [f_addT hn h5, Option.bind_some]
def tx_kd (k s v : Nat) : Nat := match s with
  | 0 => 32
  | 1 => 31
  | 2 => tx_wd k v
  | 3 => 33
  | _ => v
/-- a token of the class's beside one of the reference's -/
def tx_ct (k : Nat) (K V P : Int32) (x : Nat × Nat × Nat × Nat) : Prop := K = nI (tx_kd k x.1 x.2.1) ∧ P = nI x.2.2.1 ∧ (x.1 = 3 → V = nI x.2.1) ∧ (x.1 = 2 → V = 0)
/-- where the tokens begin -/
def tx_pos (c : Nat → Nat) (t : Nat) : Nat → Nat
  | 0 => 0
  | i + 1 => (tx_tok c t (tx_pos c t i)).2.2.2
def tx_tn (c : Nat → Nat) (t i : Nat) : Nat × Nat × Nat × Nat := tx_tok c t (tx_pos c t i)
/-- the class's tape at token a of n -/
def tx_cs (σ : ix_St) (k : Nat) (c : Nat → Nat) (t n a : Nat) : Prop := (n ≤ 400 ∧ a ≤ n) ∧ (σ 100 5 = nI (n + 1) ∧ σ 100 6 = nI a ∧ σ 100 7 = σ 102 a ∧ σ 100 8 = σ 103 a ∧ σ 100 9 = σ 104 a) ∧ (∀ j, j ≤ n → tx_ct k (σ 102 j) (σ 103 j) (σ 104 j) (tx_tn c t j)) ∧ (∀ j, j < n → (tx_tn c t j).1 ≠ 0) ∧ (tx_tn c t n).1 = 0
def tx_cf (σ σ' : ix_St) : Prop := (∀ z, z ≠ 100 → z ≠ 102 → z ≠ 103 → z ≠ 104 → σ' z = σ z) ∧ ∀ j, j < 5 → σ' 100 j = σ 100 j
theorem tx_cf.rf {σ : ix_St} : tx_cf σ σ := ⟨fun _ _ _ _ _ => rfl, fun _ _ => rfl⟩
theorem tx_cf.tr {σ σ1 σ2 : ix_St} (h : tx_cf σ σ1) (h2 : tx_cf σ1 σ2) : tx_cf σ σ2 := ⟨fun z a b c d => (h2.1 z a b c d).trans (h.1 z a b c d), fun j hj => (h2.2 j hj).trans (h.2 j hj)⟩
theorem tx_cf.tk {σ : ix_St} {n : Nat} {K v p : Int32} : tx_cf σ (tx_tk σ n K v p) := by
  unfold tx_tk
  refine ⟨fun z h1 h2 h3 h4 => by rw [iv_upn h1, iv_upn h4, iv_upn h3, iv_upn h2], fun j hj => ?_⟩
  rw [tx_un (by omega), iv_upn (by omega), iv_upn (by omega), iv_upn (by omega)]
theorem tx_tc.cf {σ σ' : ix_St} {c : Nat → Nat} {t : Nat} (h : tx_tc σ c t) (hf : tx_cf σ σ') : tx_tc σ' c t := by
  obtain ⟨h1, h2, h3⟩ := h
  refine ⟨h1, by rw [hf.2 1 (by omega)]; exact h2, fun i hi => ?_⟩
  rw [hf.1 101 (by omega) (by omega) (by omega) (by omega)]; exact h3 i hi
theorem tx_Es.cf {σ σ' : ix_St} (h : tx_Es σ) (hf : tx_cf σ σ') : tx_Es σ' := by
  intro i hi j hj
  rw [hf.1 (1007 + i) (by omega) (by omega) (by omega) (by omega)]
  exact h i hi j hj
/-- the tokens before n stand -/
def tx_st (σ : ix_St) (k : Nat) (c : Nat → Nat) (t n : Nat) : Prop := σ 100 5 = nI n ∧ (∀ j, j < n → tx_ct k (σ 102 j) (σ 103 j) (σ 104 j) (tx_tn c t j)) ∧ ∀ j, j < n → (tx_tn c t j).1 ≠ 0
theorem tx_st.tk {σ : ix_St} {k : Nat} {c : Nat → Nat} {t n : Nat} (h : tx_st σ k c t n) {K v p : Int32} (hx : tx_ct k K v p (tx_tn c t n)) : tx_tk σ n K v p 100 5 = nI (n + 1) ∧ ∀ j, j < n + 1 → tx_ct k (tx_tk σ n K v p 102 j) (tx_tk σ n K v p 103 j) (tx_tk σ n K v p 104 j) (tx_tn c t j) := by
  unfold tx_tk
  refine ⟨tx_us, fun j hj => ?_⟩
  rw [iv_upn (c := 100) (d := 102) (by omega), iv_upn (c := 104) (d := 102) (by omega), iv_upn (c := 103) (d := 102) (by omega), iv_upn (c := 100) (d := 103) (by omega), iv_upn (c := 104) (d := 103) (by omega), iv_upn (c := 100) (d := 104) (by omega)]
  by_cases e : j = n
  · rw [e, tx_us, tx_us, tx_us]; exact hx
  · rw [tx_un e, tx_un e, tx_un e, iv_upn (c := 102) (d := 103) (by omega), iv_upn (c := 103) (d := 104) (by omega), iv_upn (c := 102) (d := 104) (by omega)]
    exact h.2.1 j (by omega)
theorem tx_tok_cg {c : Nat → Nat} {t p q : Nat} (h : tx_end tx_K c t p = tx_end tx_K c t q) : tx_tok c t p = tx_tok c t q := by
  unfold tx_tok
  rw [h]
/-- behind the last byte -/
theorem f_rwE {b : Bool} {σ : ix_St} {k : Nat} {c : Nat → Nat} {t n p : Nat} (hT : tx_tc σ c t) (hn : n ≤ 400) (h : tx_st σ k c t n) (hp : t ≤ p) (hp2 : p ≤ t) (he : tx_end tx_K c t p = tx_end tx_K c t (tx_pos c t n)) : ∃ σ' n', ((ix_F 141 [.ref 100, .int (32 : Int32), .int (0 : Int32), .int (σ 100 1)] (ix_S0 b, σ)).bind fun x1 => ((ix_F 142 [.ref 100] (ix_S0 b, (ix_up x1.2.2 100 6 (-1 : Int32)))).bind fun x2 => some (Value.null, (ix_S0 b, x2.2.2)))) = some (.null, (ix_S0 b, σ')) ∧ tx_cs σ' k c t n' 0 ∧ tx_cf σ σ' := by
  have e1 : tx_end tx_K c t p = t := by
    rw [tx_end_eq, if_neg (by omega)]
    omega
  have e2 : tx_tn c t n = (0, 0, t, t) := by
    unfold tx_tn tx_tok
    rw [← he, e1, if_neg (Nat.lt_irrefl t)]
  have hx : tx_ct k 32 0 (nI t) (tx_tn c t n) := by
    rw [e2]
    exact ⟨rfl, rfl, fun h => absurd h (by show ¬ 0 = 3; decide), fun h => absurd h (by show ¬ 0 = 2; decide)⟩
  obtain ⟨s1, s2⟩ := h.tk hx
  have hcf : tx_cf σ (tx_tk σ n 32 0 (nI t)) := tx_cf.tk
  generalize hρ : tx_tk σ n 32 0 (nI t) = ρ at s1 s2 hcf
  have ha : ix_up ρ 100 6 (-1) 100 6 + 1 = nI 0 := by rw [tx_us]; decide
  refine ⟨ix_up (ix_up (ix_up (ix_up (ix_up ρ 100 6 (-1)) 100 6 (nI 0)) 100 7 (ρ 102 0)) 100 8 (ρ 103 0)) 100 9 (ρ 104 0), n, ?_, ⟨⟨hn, Nat.zero_le _⟩, ⟨?_, ?_, ?_, ?_, ?_⟩, ?_, h.2.2, by rw [e2]⟩, hcf.tr ⟨fun z h1 h2 h3 h4 => by rw [iv_upn h1, iv_upn h1, iv_upn h1, iv_upn h1, iv_upn h1], fun j hj => by rw [tx_un (by omega), tx_un (by omega), tx_un (by omega), tx_un (by omega), tx_un (by omega)]⟩⟩
  · rw [hT.2.1, f_addT hn h.1, hρ]
    simp only [Option.bind_some]
    rw [q_Tape_advance_0, ha, tx_un (by omega), s1, if_neg (nI_ge (by omega) (by omega)), if_neg (nI_in (by omega) (by omega)), nI_clamp (by omega), if_neg (by decide), iv_upn (by omega), iv_upn (by omega), iv_upn (by omega)]
    rfl
  · rw [tx_un (by omega), tx_un (by omega), tx_un (by omega), tx_un (by omega), tx_un (by omega), s1]
  · rw [tx_un (by omega), tx_un (by omega), tx_un (by omega), tx_us]
  · rw [tx_un (by omega), tx_un (by omega), tx_us, iv_upn (by omega), iv_upn (by omega), iv_upn (by omega), iv_upn (by omega), iv_upn (by omega)]
  · rw [tx_un (by omega), tx_us, iv_upn (by omega), iv_upn (by omega), iv_upn (by omega), iv_upn (by omega), iv_upn (by omega)]
  · rw [tx_us, iv_upn (by omega), iv_upn (by omega), iv_upn (by omega), iv_upn (by omega), iv_upn (by omega)]
  · intro j hj
    rw [iv_upn (by omega), iv_upn (by omega), iv_upn (by omega), iv_upn (by omega), iv_upn (by omega)]
    rw [iv_upn (by omega), iv_upn (by omega), iv_upn (by omega), iv_upn (by omega), iv_upn (by omega)]
    rw [iv_upn (by omega), iv_upn (by omega), iv_upn (by omega), iv_upn (by omega), iv_upn (by omega)]
    exact s2 j (by omega)
/-- a number's digits -/
theorem f_an {b : Bool} {σ : ix_St} {c : Nat → Nat} {t p : Nat} (hT : tx_tc σ c t) : ∀ (m e : Nat) (w : Int32), t - e = m → p ≤ e → e ≤ t → (e - p ≤ 4 → w = nI (tx_nm c p (e - p))) → ∃ v, ix_S 140 2 4 [some (.ref 100), some (.int (nI p)), some (.int (nI e)), some (.int w)] [] (ix_S0 b, σ) = tx_add b σ (if tx_end tx_D c t e - p ≤ 4 then 33 else 31) v p (tx_end tx_D c t e) ∧ (tx_end tx_D c t e - p ≤ 4 → v = nI (tx_nm c p (tx_end tx_D c t e - p))) := by
  have ht := hT.1
  intro m
  induction m with
  | zero =>
    intro e w hm hpe het hw
    rw [show tx_end tx_D c t e = e by rw [tx_end_eq, if_neg (by omega)]]
    refine ⟨w, ?_, hw⟩
    rw [q_Tape_addNumber_4, hT.2.1, if_pos (nI_le (by omega) (by omega)), tx_sub hpe]
    by_cases h4 : e - p ≤ 4
    · rw [if_neg (show ¬ (4 : Int32) < nI (e - p) from nI_nlt (a := 4) (by omega) (by omega)), if_pos h4]
      rfl
    · rw [if_pos (show (4 : Int32) < nI (e - p) from nI_lt (a := 4) (by omega) (by omega)), if_neg h4]
      rfl
  | succ m ih =>
    intro e w hm hpe het hw
    have hce := hT.2.2 e (by omega)
    rw [q_Tape_addNumber_4, hT.2.1, if_neg (nI_ge (by omega) (by omega)), if_neg (nI_in (by omega) (by omega)), nI_clamp (by omega), hce.2, f_tD hce.1]
    simp only [Option.bind_some, iv_tI]
    by_cases g : tx_D (c e) = true
    · have ee : tx_end tx_D c t e = tx_end tx_D c t (e + 1) := by rw [tx_end_eq, if_pos ⟨by omega, g⟩]
      rw [ee, iv_Bt g, if_neg (by decide), if_neg (tx_in (by omega) (by omega)), hce.2, nI_1]
      refine ih (e + 1) _ (by omega) (by omega) (by omega) (fun h4 => ?_)
      have hd : 48 ≤ c e ∧ c e ≤ 57 := by simpa [tx_D] using g
      rw [hw (by omega), tx_Df0 _ (List.mem_range.mpr hce.1) g, show e + 1 - p = e - p + 1 by omega, tx_nm_s, show p + (e - p) = e by omega, show (10 : Int32) = nI 10 from rfl, show (48 : Int32) = nI 48 from rfl, pk_mul, nI_add, tx_sub (by omega)]
      congr 1
      omega
    · have ee : tx_end tx_D c t e = e := by rw [tx_end_eq, if_neg (fun q => g q.2)]
      rw [ee, iv_Bf g, if_pos rfl, tx_sub hpe]
      refine ⟨w, ?_, hw⟩
      by_cases h4 : e - p ≤ 4
      · rw [if_neg (show ¬ (4 : Int32) < nI (e - p) from nI_nlt (a := 4) (by omega) (by omega)), if_pos h4]
        rfl
      · rw [if_pos (show (4 : Int32) < nI (e - p) from nI_lt (a := 4) (by omega) (by omega)), if_neg h4]
        rfl
theorem tx_b2550 : ∀ c ∈ List.range 256, tx_b c &&& 255 = nI c := by decide +kernel
theorem tx_b255 {c : Nat} (h : c < 256) : tx_b c &&& 255 = nI c := tx_b2550 c (List.mem_range.mpr h)
theorem f_rw0 {b : Bool} {c : Nat → Nat} {t : Nat} : ∀ (m p i n : Nat) (σ : ix_St), t - p ≤ m → i ≤ p → n ≤ p → p ≤ t → tx_Es σ → tx_tc σ c t → tx_st σ 0 c t n → tx_end tx_K c t p = tx_end tx_K c t (tx_pos c t n) → ∃ σ' n', ix_S 135 7 9 [some (.ref 100), some (.ref 1002), some (.int (nI p)), some (.int (nI i)), none] [] (ix_S0 b, σ) = some (.null, (ix_S0 b, σ')) ∧ tx_cs σ' 0 c t n' 0 ∧ tx_cf σ σ' := by
  intro m
  induction m with
  | zero =>
    intro p i n σ hm hi hn hp hE hT hs he
    have ht := hT.1
    rw [q_Tape_rewind_9]
    by_cases h4 : (400 : Int32) ≤ nI i
    · rw [if_pos h4]
      exact f_rwE hT (by omega) hs (by omega) hp he
    · rw [if_neg h4, if_pos (by rw [hT.2.1]; exact nI_le (by omega) (by omega))]
      exact f_rwE hT (by omega) hs (by omega) hp he
  | succ m ih =>
    intro p i n σ hm hi hn hp hE hT hs he
    have ht := hT.1
    by_cases hpt : p = t
    · rw [q_Tape_rewind_9]
      by_cases h4 : (400 : Int32) ≤ nI i
      · rw [if_pos h4]
        exact f_rwE hT (by omega) hs (by omega) hp he
      · rw [if_neg h4, if_pos (by rw [hT.2.1]; exact nI_le (by omega) (by omega))]
        exact f_rwE hT (by omega) hs (by omega) hp he
    have hpl : p < t := by omega
    have hcp := hT.2.2 p hpl
    have hin : ¬ (nI p < 0 ∨ 400 ≤ p) := by
      have h := nI_in (c := p) (N := 400) (by omega) (by omega)
      rw [nI_clamp (by omega)] at h
      exact h
    -- a token more: on behind it
    have push : ∀ (K v : Int32) (e : Nat), p < e → e ≤ t → tx_ct 0 K v (nI p) (tx_tn c t n) → (tx_tn c t n).2.2.2 = e → (tx_tn c t n).1 ≠ 0 → ∃ σ' n', ix_S 135 7 9 [some (.ref 100), some (.ref 1002), some (.int (nI e)), some (.int (nI (i + 1))), none] [] (ix_S0 b, tx_tk σ n K v (nI p)) = some (.null, (ix_S0 b, σ')) ∧ tx_cs σ' 0 c t n' 0 ∧ tx_cf σ σ' := by
      intro K v e h1 h2 h3 h5 h6
      obtain ⟨s1, s2⟩ := hs.tk h3
      obtain ⟨σ', n', a1, a2, a3⟩ := ih e (i + 1) (n + 1) (tx_tk σ n K v (nI p)) (by omega) (by omega) (by omega) h2 (hE.cf tx_cf.tk) (hT.cf tx_cf.tk) ⟨s1, s2, fun j hj => by
        by_cases ej : j = n
        · rw [ej]; exact h6
        · exact hs.2.2 j (by omega)⟩ (by
          show _ = tx_end tx_K c t (tx_tn c t n).2.2.2
          rw [h5])
      exact ⟨σ', n', a1, a2, tx_cf.tk.tr a3⟩
    rw [q_Tape_rewind_9, if_neg (show ¬ (400 : Int32) ≤ nI i from nI_ge (b := 400) (by omega) (by omega)), hT.2.1, if_neg (nI_ge (by omega) (by omega)), nI_clamp (by omega), if_neg hin, hcp.2, f_tK hcp.1]
    simp only [Option.bind_some, iv_tI]
    by_cases gK : tx_K (c p) = true
    · rw [iv_Bt gK, if_neg (by decide), nI_1, nI_1]
      refine ih (p + 1) (i + 1) n σ (by omega) (by omega) (by omega) (by omega) hE hT hs ?_
      rw [← he, tx_end_eq p, if_pos ⟨hpl, gK⟩]
    have eK : tx_end tx_K c t p = p := by rw [tx_end_eq, if_neg (fun q => gK q.2)]
    have eT : tx_tn c t n = tx_tok c t p := (tx_tok_cg he).symm
    rw [iv_Bf gK, if_pos rfl, if_neg hin, hcp.2, f_tL hcp.1]
    simp only [Option.bind_some, iv_tI]
    by_cases gL : tx_L (c p) = true
    · rw [iv_Bt gL, if_neg (by decide), f_addWord0 hE hT hpl, f_addE (by omega) hs.1]
      simp only [Option.bind_some, iv_tI]
      rw [nI_1]
      have hlt := tx_end_lt (P := tx_L) (c := c) hpl gL
      have hle := tx_end_le (P := tx_L) (c := c) (t := t) (p := p) (by omega)
      have hws := tx_wk_ws (tx_sl c p (tx_end tx_L c t p - p)) 0 (by omega)
      have eT2 : tx_tn c t n = (match tx_fi tx_ws 0 (tx_sl c p (tx_end tx_L c t p - p)) with
        | some g => (2, g, p, tx_end tx_L c t p)
        | none => (1, 0, p, tx_end tx_L c t p)) := by
        rw [eT]
        unfold tx_tok
        rw [eK, if_pos hpl, if_pos gL]
        cases tx_fi tx_ws 0 (tx_sl c p (tx_end tx_L c t p - p)) <;> rfl
      rcases hg : tx_fi tx_ws 0 (tx_sl c p (tx_end tx_L c t p - p)) with _ | g
      · rw [hg] at hws eT2
        refine push _ 0 _ hlt hle ?_ (by rw [eT2]) (by rw [eT2]; exact (by decide : (1 : Nat) ≠ 0))
        rw [eT2, hws]
        exact ⟨rfl, rfl, fun h => absurd h (by show ¬ 1 = 3; decide), fun h => absurd h (by show ¬ 1 = 2; decide)⟩
      · rw [hg] at hws eT2
        refine push _ 0 _ hlt hle ?_ (by rw [eT2]) (by rw [eT2]; exact (by decide : (2 : Nat) ≠ 0))
        rw [eT2, hws]
        exact ⟨rfl, rfl, fun h => absurd h (by show ¬ 2 = 3; decide), fun _ => rfl⟩
    rw [iv_Bf gL, if_pos rfl, if_neg hin, hcp.2, f_tD hcp.1]
    simp only [Option.bind_some, iv_tI]
    by_cases gD : tx_D (c p) = true
    · obtain ⟨v, a1, a2⟩ := f_an (b := b) (p := p) hT _ p 0 rfl (Nat.le_refl _) (by omega) (fun _ => by rw [Nat.sub_self]; rfl)
      rw [iv_Bt gD, if_neg (by decide), q_Tape_addNumber_0, a1, f_addE (by omega) hs.1]
      simp only [Option.bind_some, iv_tI]
      rw [nI_1]
      have hlt := tx_end_lt (P := tx_D) (c := c) hpl gD
      have hle := tx_end_le (P := tx_D) (c := c) (t := t) (p := p) (by omega)
      have eT2 : tx_tn c t n = if tx_end tx_D c t p - p ≤ 4 then (3, tx_nm c p (tx_end tx_D c t p - p), p, tx_end tx_D c t p) else (1, 0, p, tx_end tx_D c t p) := by
        rw [eT]
        unfold tx_tok
        rw [eK, if_pos hpl, if_neg gL, if_pos gD]
      by_cases h4 : tx_end tx_D c t p - p ≤ 4
      · rw [if_pos h4] at eT2 ⊢
        refine push _ _ _ hlt hle ?_ (by rw [eT2]) (by rw [eT2]; exact (by decide : (3 : Nat) ≠ 0))
        rw [eT2]
        exact ⟨rfl, rfl, fun _ => a2 h4, fun h => absurd h (by show ¬ 3 = 2; decide)⟩
      · rw [if_neg h4] at eT2 ⊢
        refine push _ _ _ hlt hle ?_ (by rw [eT2]) (by rw [eT2]; exact (by decide : (1 : Nat) ≠ 0))
        rw [eT2]
        exact ⟨rfl, rfl, fun h => absurd h (by show ¬ 1 = 3; decide), fun h => absurd h (by show ¬ 1 = 2; decide)⟩
    obtain ⟨r, b1, b2⟩ := f_sgn (b := b) hE hcp.1
    rw [iv_Bf gD, if_pos rfl, if_neg hin, hcp.2, (tx_bf hcp.1).2.2.2.2.2.2.2.2, b1]
    simp only [Option.bind_some, iv_tI]
    have eT2 : tx_tn c t n = if tx_G (c p) = true then (4, c p, p, p + 1) else (1, 0, p, p + 1) := by
      rw [eT]
      unfold tx_tok
      rw [eK, if_pos hpl, if_neg gL, if_neg gD]
    by_cases gG : tx_G (c p) = true
    · rw [if_pos gG] at eT2
      rw [if_neg (fun h => by rw [b2.mp h] at gG; cases gG), f_addT (by omega) hs.1]
      simp only [Option.bind_some]
      rw [nI_1, nI_1]
      refine push _ _ _ (by omega) (by omega) ?_ (by rw [eT2]) (by rw [eT2]; exact (by decide : (4 : Nat) ≠ 0))
      rw [eT2]
      exact ⟨tx_b255 hcp.1, rfl, fun h => absurd h (by show ¬ 4 = 3; decide), fun h => absurd h (by show ¬ 4 = 2; decide)⟩
    · rw [if_neg gG] at eT2
      rw [if_pos (b2.mpr (by cases h : tx_G (c p); rfl; exact absurd h gG)), f_addT (by omega) hs.1]
      simp only [Option.bind_some]
      rw [nI_1, nI_1]
      refine push _ _ _ (by omega) (by omega) ?_ (by rw [eT2]) (by rw [eT2]; exact (by decide : (1 : Nat) ≠ 0))
      rw [eT2]
      exact ⟨rfl, rfl, fun h => absurd h (by show ¬ 1 = 3; decide), fun h => absurd h (by show ¬ 1 = 2; decide)⟩
theorem f_rewind0 {b : Bool} {c : Nat → Nat} {t : Nat} {σ : ix_St} (hE : tx_Es σ) (hT : tx_tc σ c t) : ∃ σ' n, ix_F 135 [.ref 100, .ref 1002] (ix_S0 b, σ) = some (.null, (ix_S0 b, σ')) ∧ tx_cs σ' 0 c t n 0 ∧ tx_cf σ σ' := by
  have hf : tx_cf σ (ix_up σ 100 5 0) := ⟨fun z h _ _ _ => iv_upn h, fun j hj => tx_un (by omega)⟩
  obtain ⟨σ', n, h1, h2, h3⟩ := f_rw0 (b := b) (c := c) (t := t) t 0 0 0 (ix_up σ 100 5 0) (by omega) (by omega) (by omega) (by omega) (hE.cf hf) (hT.cf hf) ⟨tx_us, fun j hj => absurd hj (by omega), fun j hj => absurd hj (by omega)⟩ rfl
  exact ⟨σ', n, by rw [q_Tape_rewind_0]; exact h1, h2, hf.tr h3⟩
theorem f_rw1 {b : Bool} {c : Nat → Nat} {t : Nat} : ∀ (m p i n : Nat) (σ : ix_St), t - p ≤ m → i ≤ p → n ≤ p → p ≤ t → tx_Es σ → tx_tc σ c t → tx_st σ 1 c t n → tx_end tx_K c t p = tx_end tx_K c t (tx_pos c t n) → ∃ σ' n', ix_S 135 7 9 [some (.ref 100), some (.ref 1003), some (.int (nI p)), some (.int (nI i)), none] [] (ix_S0 b, σ) = some (.null, (ix_S0 b, σ')) ∧ tx_cs σ' 1 c t n' 0 ∧ tx_cf σ σ' := by
  intro m
  induction m with
  | zero =>
    intro p i n σ hm hi hn hp hE hT hs he
    have ht := hT.1
    rw [q_Tape_rewind_9_1]
    by_cases h4 : (400 : Int32) ≤ nI i
    · rw [if_pos h4]
      exact f_rwE hT (by omega) hs (by omega) hp he
    · rw [if_neg h4, if_pos (by rw [hT.2.1]; exact nI_le (by omega) (by omega))]
      exact f_rwE hT (by omega) hs (by omega) hp he
  | succ m ih =>
    intro p i n σ hm hi hn hp hE hT hs he
    have ht := hT.1
    by_cases hpt : p = t
    · rw [q_Tape_rewind_9_1]
      by_cases h4 : (400 : Int32) ≤ nI i
      · rw [if_pos h4]
        exact f_rwE hT (by omega) hs (by omega) hp he
      · rw [if_neg h4, if_pos (by rw [hT.2.1]; exact nI_le (by omega) (by omega))]
        exact f_rwE hT (by omega) hs (by omega) hp he
    have hpl : p < t := by omega
    have hcp := hT.2.2 p hpl
    have hin : ¬ (nI p < 0 ∨ 400 ≤ p) := by
      have h := nI_in (c := p) (N := 400) (by omega) (by omega)
      rw [nI_clamp (by omega)] at h
      exact h
    -- a token more: on behind it
    have push : ∀ (K v : Int32) (e : Nat), p < e → e ≤ t → tx_ct 1 K v (nI p) (tx_tn c t n) → (tx_tn c t n).2.2.2 = e → (tx_tn c t n).1 ≠ 0 → ∃ σ' n', ix_S 135 7 9 [some (.ref 100), some (.ref 1003), some (.int (nI e)), some (.int (nI (i + 1))), none] [] (ix_S0 b, tx_tk σ n K v (nI p)) = some (.null, (ix_S0 b, σ')) ∧ tx_cs σ' 1 c t n' 0 ∧ tx_cf σ σ' := by
      intro K v e h1 h2 h3 h5 h6
      obtain ⟨s1, s2⟩ := hs.tk h3
      obtain ⟨σ', n', a1, a2, a3⟩ := ih e (i + 1) (n + 1) (tx_tk σ n K v (nI p)) (by omega) (by omega) (by omega) h2 (hE.cf tx_cf.tk) (hT.cf tx_cf.tk) ⟨s1, s2, fun j hj => by
        by_cases ej : j = n
        · rw [ej]; exact h6
        · exact hs.2.2 j (by omega)⟩ (by
          show _ = tx_end tx_K c t (tx_tn c t n).2.2.2
          rw [h5])
      exact ⟨σ', n', a1, a2, tx_cf.tk.tr a3⟩
    rw [q_Tape_rewind_9_1, if_neg (show ¬ (400 : Int32) ≤ nI i from nI_ge (b := 400) (by omega) (by omega)), hT.2.1, if_neg (nI_ge (by omega) (by omega)), nI_clamp (by omega), if_neg hin, hcp.2, f_tK hcp.1]
    simp only [Option.bind_some, iv_tI]
    by_cases gK : tx_K (c p) = true
    · rw [iv_Bt gK, if_neg (by decide), nI_1, nI_1]
      refine ih (p + 1) (i + 1) n σ (by omega) (by omega) (by omega) (by omega) hE hT hs ?_
      rw [← he, tx_end_eq p, if_pos ⟨hpl, gK⟩]
    have eK : tx_end tx_K c t p = p := by rw [tx_end_eq, if_neg (fun q => gK q.2)]
    have eT : tx_tn c t n = tx_tok c t p := (tx_tok_cg he).symm
    rw [iv_Bf gK, if_pos rfl, if_neg hin, hcp.2, f_tL hcp.1]
    simp only [Option.bind_some, iv_tI]
    by_cases gL : tx_L (c p) = true
    · rw [iv_Bt gL, if_neg (by decide), f_addWord1 hE hT hpl, f_addE (by omega) hs.1]
      simp only [Option.bind_some, iv_tI]
      rw [nI_1]
      have hlt := tx_end_lt (P := tx_L) (c := c) hpl gL
      have hle := tx_end_le (P := tx_L) (c := c) (t := t) (p := p) (by omega)
      have hws := tx_wk_ws (tx_sl c p (tx_end tx_L c t p - p)) 1 (by omega)
      have eT2 : tx_tn c t n = (match tx_fi tx_ws 0 (tx_sl c p (tx_end tx_L c t p - p)) with
        | some g => (2, g, p, tx_end tx_L c t p)
        | none => (1, 0, p, tx_end tx_L c t p)) := by
        rw [eT]
        unfold tx_tok
        rw [eK, if_pos hpl, if_pos gL]
        cases tx_fi tx_ws 0 (tx_sl c p (tx_end tx_L c t p - p)) <;> rfl
      rcases hg : tx_fi tx_ws 0 (tx_sl c p (tx_end tx_L c t p - p)) with _ | g
      · rw [hg] at hws eT2
        refine push _ 0 _ hlt hle ?_ (by rw [eT2]) (by rw [eT2]; exact (by decide : (1 : Nat) ≠ 0))
        rw [eT2, hws]
        exact ⟨rfl, rfl, fun h => absurd h (by show ¬ 1 = 3; decide), fun h => absurd h (by show ¬ 1 = 2; decide)⟩
      · rw [hg] at hws eT2
        refine push _ 0 _ hlt hle ?_ (by rw [eT2]) (by rw [eT2]; exact (by decide : (2 : Nat) ≠ 0))
        rw [eT2, hws]
        exact ⟨rfl, rfl, fun h => absurd h (by show ¬ 2 = 3; decide), fun _ => rfl⟩
    rw [iv_Bf gL, if_pos rfl, if_neg hin, hcp.2, f_tD hcp.1]
    simp only [Option.bind_some, iv_tI]
    by_cases gD : tx_D (c p) = true
    · obtain ⟨v, a1, a2⟩ := f_an (b := b) (p := p) hT _ p 0 rfl (Nat.le_refl _) (by omega) (fun _ => by rw [Nat.sub_self]; rfl)
      rw [iv_Bt gD, if_neg (by decide), q_Tape_addNumber_0, a1, f_addE (by omega) hs.1]
      simp only [Option.bind_some, iv_tI]
      rw [nI_1]
      have hlt := tx_end_lt (P := tx_D) (c := c) hpl gD
      have hle := tx_end_le (P := tx_D) (c := c) (t := t) (p := p) (by omega)
      have eT2 : tx_tn c t n = if tx_end tx_D c t p - p ≤ 4 then (3, tx_nm c p (tx_end tx_D c t p - p), p, tx_end tx_D c t p) else (1, 0, p, tx_end tx_D c t p) := by
        rw [eT]
        unfold tx_tok
        rw [eK, if_pos hpl, if_neg gL, if_pos gD]
      by_cases h4 : tx_end tx_D c t p - p ≤ 4
      · rw [if_pos h4] at eT2 ⊢
        refine push _ _ _ hlt hle ?_ (by rw [eT2]) (by rw [eT2]; exact (by decide : (3 : Nat) ≠ 0))
        rw [eT2]
        exact ⟨rfl, rfl, fun _ => a2 h4, fun h => absurd h (by show ¬ 3 = 2; decide)⟩
      · rw [if_neg h4] at eT2 ⊢
        refine push _ _ _ hlt hle ?_ (by rw [eT2]) (by rw [eT2]; exact (by decide : (1 : Nat) ≠ 0))
        rw [eT2]
        exact ⟨rfl, rfl, fun h => absurd h (by show ¬ 1 = 3; decide), fun h => absurd h (by show ¬ 1 = 2; decide)⟩
    obtain ⟨r, b1, b2⟩ := f_sgn (b := b) hE hcp.1
    rw [iv_Bf gD, if_pos rfl, if_neg hin, hcp.2, (tx_bf hcp.1).2.2.2.2.2.2.2.2, b1]
    simp only [Option.bind_some, iv_tI]
    have eT2 : tx_tn c t n = if tx_G (c p) = true then (4, c p, p, p + 1) else (1, 0, p, p + 1) := by
      rw [eT]
      unfold tx_tok
      rw [eK, if_pos hpl, if_neg gL, if_neg gD]
    by_cases gG : tx_G (c p) = true
    · rw [if_pos gG] at eT2
      rw [if_neg (fun h => by rw [b2.mp h] at gG; cases gG), f_addT (by omega) hs.1]
      simp only [Option.bind_some]
      rw [nI_1, nI_1]
      refine push _ _ _ (by omega) (by omega) ?_ (by rw [eT2]) (by rw [eT2]; exact (by decide : (4 : Nat) ≠ 0))
      rw [eT2]
      exact ⟨tx_b255 hcp.1, rfl, fun h => absurd h (by show ¬ 4 = 3; decide), fun h => absurd h (by show ¬ 4 = 2; decide)⟩
    · rw [if_neg gG] at eT2
      rw [if_pos (b2.mpr (by cases h : tx_G (c p); rfl; exact absurd h gG)), f_addT (by omega) hs.1]
      simp only [Option.bind_some]
      rw [nI_1, nI_1]
      refine push _ _ _ (by omega) (by omega) ?_ (by rw [eT2]) (by rw [eT2]; exact (by decide : (1 : Nat) ≠ 0))
      rw [eT2]
      exact ⟨rfl, rfl, fun h => absurd h (by show ¬ 1 = 3; decide), fun h => absurd h (by show ¬ 1 = 2; decide)⟩
theorem f_rewind1 {b : Bool} {c : Nat → Nat} {t : Nat} {σ : ix_St} (hE : tx_Es σ) (hT : tx_tc σ c t) : ∃ σ' n, ix_F 135 [.ref 100, .ref 1003] (ix_S0 b, σ) = some (.null, (ix_S0 b, σ')) ∧ tx_cs σ' 1 c t n 0 ∧ tx_cf σ σ' := by
  have hf : tx_cf σ (ix_up σ 100 5 0) := ⟨fun z h _ _ _ => iv_upn h, fun j hj => tx_un (by omega)⟩
  obtain ⟨σ', n, h1, h2, h3⟩ := f_rw1 (b := b) (c := c) (t := t) t 0 0 0 (ix_up σ 100 5 0) (by omega) (by omega) (by omega) (by omega) (hE.cf hf) (hT.cf hf) ⟨tx_us, fun j hj => absurd hj (by omega), fun j hj => absurd hj (by omega)⟩ rfl
  exact ⟨σ', n, by rw [q_Tape_rewind_0_1]; exact h1, h2, hf.tr h3⟩
theorem f_rw2 {b : Bool} {c : Nat → Nat} {t : Nat} : ∀ (m p i n : Nat) (σ : ix_St), t - p ≤ m → i ≤ p → n ≤ p → p ≤ t → tx_Es σ → tx_tc σ c t → tx_st σ 2 c t n → tx_end tx_K c t p = tx_end tx_K c t (tx_pos c t n) → ∃ σ' n', ix_S 135 7 9 [some (.ref 100), some (.ref 1004), some (.int (nI p)), some (.int (nI i)), none] [] (ix_S0 b, σ) = some (.null, (ix_S0 b, σ')) ∧ tx_cs σ' 2 c t n' 0 ∧ tx_cf σ σ' := by
  intro m
  induction m with
  | zero =>
    intro p i n σ hm hi hn hp hE hT hs he
    have ht := hT.1
    rw [q_Tape_rewind_9_2]
    by_cases h4 : (400 : Int32) ≤ nI i
    · rw [if_pos h4]
      exact f_rwE hT (by omega) hs (by omega) hp he
    · rw [if_neg h4, if_pos (by rw [hT.2.1]; exact nI_le (by omega) (by omega))]
      exact f_rwE hT (by omega) hs (by omega) hp he
  | succ m ih =>
    intro p i n σ hm hi hn hp hE hT hs he
    have ht := hT.1
    by_cases hpt : p = t
    · rw [q_Tape_rewind_9_2]
      by_cases h4 : (400 : Int32) ≤ nI i
      · rw [if_pos h4]
        exact f_rwE hT (by omega) hs (by omega) hp he
      · rw [if_neg h4, if_pos (by rw [hT.2.1]; exact nI_le (by omega) (by omega))]
        exact f_rwE hT (by omega) hs (by omega) hp he
    have hpl : p < t := by omega
    have hcp := hT.2.2 p hpl
    have hin : ¬ (nI p < 0 ∨ 400 ≤ p) := by
      have h := nI_in (c := p) (N := 400) (by omega) (by omega)
      rw [nI_clamp (by omega)] at h
      exact h
    -- a token more: on behind it
    have push : ∀ (K v : Int32) (e : Nat), p < e → e ≤ t → tx_ct 2 K v (nI p) (tx_tn c t n) → (tx_tn c t n).2.2.2 = e → (tx_tn c t n).1 ≠ 0 → ∃ σ' n', ix_S 135 7 9 [some (.ref 100), some (.ref 1004), some (.int (nI e)), some (.int (nI (i + 1))), none] [] (ix_S0 b, tx_tk σ n K v (nI p)) = some (.null, (ix_S0 b, σ')) ∧ tx_cs σ' 2 c t n' 0 ∧ tx_cf σ σ' := by
      intro K v e h1 h2 h3 h5 h6
      obtain ⟨s1, s2⟩ := hs.tk h3
      obtain ⟨σ', n', a1, a2, a3⟩ := ih e (i + 1) (n + 1) (tx_tk σ n K v (nI p)) (by omega) (by omega) (by omega) h2 (hE.cf tx_cf.tk) (hT.cf tx_cf.tk) ⟨s1, s2, fun j hj => by
        by_cases ej : j = n
        · rw [ej]; exact h6
        · exact hs.2.2 j (by omega)⟩ (by
          show _ = tx_end tx_K c t (tx_tn c t n).2.2.2
          rw [h5])
      exact ⟨σ', n', a1, a2, tx_cf.tk.tr a3⟩
    rw [q_Tape_rewind_9_2, if_neg (show ¬ (400 : Int32) ≤ nI i from nI_ge (b := 400) (by omega) (by omega)), hT.2.1, if_neg (nI_ge (by omega) (by omega)), nI_clamp (by omega), if_neg hin, hcp.2, f_tK hcp.1]
    simp only [Option.bind_some, iv_tI]
    by_cases gK : tx_K (c p) = true
    · rw [iv_Bt gK, if_neg (by decide), nI_1, nI_1]
      refine ih (p + 1) (i + 1) n σ (by omega) (by omega) (by omega) (by omega) hE hT hs ?_
      rw [← he, tx_end_eq p, if_pos ⟨hpl, gK⟩]
    have eK : tx_end tx_K c t p = p := by rw [tx_end_eq, if_neg (fun q => gK q.2)]
    have eT : tx_tn c t n = tx_tok c t p := (tx_tok_cg he).symm
    rw [iv_Bf gK, if_pos rfl, if_neg hin, hcp.2, f_tL hcp.1]
    simp only [Option.bind_some, iv_tI]
    by_cases gL : tx_L (c p) = true
    · rw [iv_Bt gL, if_neg (by decide), f_addWord2 hE hT hpl, f_addE (by omega) hs.1]
      simp only [Option.bind_some, iv_tI]
      rw [nI_1]
      have hlt := tx_end_lt (P := tx_L) (c := c) hpl gL
      have hle := tx_end_le (P := tx_L) (c := c) (t := t) (p := p) (by omega)
      have hws := tx_wk_ws (tx_sl c p (tx_end tx_L c t p - p)) 2 (by omega)
      have eT2 : tx_tn c t n = (match tx_fi tx_ws 0 (tx_sl c p (tx_end tx_L c t p - p)) with
        | some g => (2, g, p, tx_end tx_L c t p)
        | none => (1, 0, p, tx_end tx_L c t p)) := by
        rw [eT]
        unfold tx_tok
        rw [eK, if_pos hpl, if_pos gL]
        cases tx_fi tx_ws 0 (tx_sl c p (tx_end tx_L c t p - p)) <;> rfl
      rcases hg : tx_fi tx_ws 0 (tx_sl c p (tx_end tx_L c t p - p)) with _ | g
      · rw [hg] at hws eT2
        refine push _ 0 _ hlt hle ?_ (by rw [eT2]) (by rw [eT2]; exact (by decide : (1 : Nat) ≠ 0))
        rw [eT2, hws]
        exact ⟨rfl, rfl, fun h => absurd h (by show ¬ 1 = 3; decide), fun h => absurd h (by show ¬ 1 = 2; decide)⟩
      · rw [hg] at hws eT2
        refine push _ 0 _ hlt hle ?_ (by rw [eT2]) (by rw [eT2]; exact (by decide : (2 : Nat) ≠ 0))
        rw [eT2, hws]
        exact ⟨rfl, rfl, fun h => absurd h (by show ¬ 2 = 3; decide), fun _ => rfl⟩
    rw [iv_Bf gL, if_pos rfl, if_neg hin, hcp.2, f_tD hcp.1]
    simp only [Option.bind_some, iv_tI]
    by_cases gD : tx_D (c p) = true
    · obtain ⟨v, a1, a2⟩ := f_an (b := b) (p := p) hT _ p 0 rfl (Nat.le_refl _) (by omega) (fun _ => by rw [Nat.sub_self]; rfl)
      rw [iv_Bt gD, if_neg (by decide), q_Tape_addNumber_0, a1, f_addE (by omega) hs.1]
      simp only [Option.bind_some, iv_tI]
      rw [nI_1]
      have hlt := tx_end_lt (P := tx_D) (c := c) hpl gD
      have hle := tx_end_le (P := tx_D) (c := c) (t := t) (p := p) (by omega)
      have eT2 : tx_tn c t n = if tx_end tx_D c t p - p ≤ 4 then (3, tx_nm c p (tx_end tx_D c t p - p), p, tx_end tx_D c t p) else (1, 0, p, tx_end tx_D c t p) := by
        rw [eT]
        unfold tx_tok
        rw [eK, if_pos hpl, if_neg gL, if_pos gD]
      by_cases h4 : tx_end tx_D c t p - p ≤ 4
      · rw [if_pos h4] at eT2 ⊢
        refine push _ _ _ hlt hle ?_ (by rw [eT2]) (by rw [eT2]; exact (by decide : (3 : Nat) ≠ 0))
        rw [eT2]
        exact ⟨rfl, rfl, fun _ => a2 h4, fun h => absurd h (by show ¬ 3 = 2; decide)⟩
      · rw [if_neg h4] at eT2 ⊢
        refine push _ _ _ hlt hle ?_ (by rw [eT2]) (by rw [eT2]; exact (by decide : (1 : Nat) ≠ 0))
        rw [eT2]
        exact ⟨rfl, rfl, fun h => absurd h (by show ¬ 1 = 3; decide), fun h => absurd h (by show ¬ 1 = 2; decide)⟩
    obtain ⟨r, b1, b2⟩ := f_sgn (b := b) hE hcp.1
    rw [iv_Bf gD, if_pos rfl, if_neg hin, hcp.2, (tx_bf hcp.1).2.2.2.2.2.2.2.2, b1]
    simp only [Option.bind_some, iv_tI]
    have eT2 : tx_tn c t n = if tx_G (c p) = true then (4, c p, p, p + 1) else (1, 0, p, p + 1) := by
      rw [eT]
      unfold tx_tok
      rw [eK, if_pos hpl, if_neg gL, if_neg gD]
    by_cases gG : tx_G (c p) = true
    · rw [if_pos gG] at eT2
      rw [if_neg (fun h => by rw [b2.mp h] at gG; cases gG), f_addT (by omega) hs.1]
      simp only [Option.bind_some]
      rw [nI_1, nI_1]
      refine push _ _ _ (by omega) (by omega) ?_ (by rw [eT2]) (by rw [eT2]; exact (by decide : (4 : Nat) ≠ 0))
      rw [eT2]
      exact ⟨tx_b255 hcp.1, rfl, fun h => absurd h (by show ¬ 4 = 3; decide), fun h => absurd h (by show ¬ 4 = 2; decide)⟩
    · rw [if_neg gG] at eT2
      rw [if_pos (b2.mpr (by cases h : tx_G (c p); rfl; exact absurd h gG)), f_addT (by omega) hs.1]
      simp only [Option.bind_some]
      rw [nI_1, nI_1]
      refine push _ _ _ (by omega) (by omega) ?_ (by rw [eT2]) (by rw [eT2]; exact (by decide : (1 : Nat) ≠ 0))
      rw [eT2]
      exact ⟨rfl, rfl, fun h => absurd h (by show ¬ 1 = 3; decide), fun h => absurd h (by show ¬ 1 = 2; decide)⟩
theorem f_rewind2 {b : Bool} {c : Nat → Nat} {t : Nat} {σ : ix_St} (hE : tx_Es σ) (hT : tx_tc σ c t) : ∃ σ' n, ix_F 135 [.ref 100, .ref 1004] (ix_S0 b, σ) = some (.null, (ix_S0 b, σ')) ∧ tx_cs σ' 2 c t n 0 ∧ tx_cf σ σ' := by
  have hf : tx_cf σ (ix_up σ 100 5 0) := ⟨fun z h _ _ _ => iv_upn h, fun j hj => tx_un (by omega)⟩
  obtain ⟨σ', n, h1, h2, h3⟩ := f_rw2 (b := b) (c := c) (t := t) t 0 0 0 (ix_up σ 100 5 0) (by omega) (by omega) (by omega) (by omega) (hE.cf hf) (hT.cf hf) ⟨tx_us, fun j hj => absurd hj (by omega), fun j hj => absurd hj (by omega)⟩ rfl
  exact ⟨σ', n, by rw [q_Tape_rewind_0_2]; exact h1, h2, hf.tr h3⟩
theorem f_rw3 {b : Bool} {c : Nat → Nat} {t : Nat} : ∀ (m p i n : Nat) (σ : ix_St), t - p ≤ m → i ≤ p → n ≤ p → p ≤ t → tx_Es σ → tx_tc σ c t → tx_st σ 3 c t n → tx_end tx_K c t p = tx_end tx_K c t (tx_pos c t n) → ∃ σ' n', ix_S 135 7 9 [some (.ref 100), some (.ref 1005), some (.int (nI p)), some (.int (nI i)), none] [] (ix_S0 b, σ) = some (.null, (ix_S0 b, σ')) ∧ tx_cs σ' 3 c t n' 0 ∧ tx_cf σ σ' := by
  intro m
  induction m with
  | zero =>
    intro p i n σ hm hi hn hp hE hT hs he
    have ht := hT.1
    rw [q_Tape_rewind_9_3]
    by_cases h4 : (400 : Int32) ≤ nI i
    · rw [if_pos h4]
      exact f_rwE hT (by omega) hs (by omega) hp he
    · rw [if_neg h4, if_pos (by rw [hT.2.1]; exact nI_le (by omega) (by omega))]
      exact f_rwE hT (by omega) hs (by omega) hp he
  | succ m ih =>
    intro p i n σ hm hi hn hp hE hT hs he
    have ht := hT.1
    by_cases hpt : p = t
    · rw [q_Tape_rewind_9_3]
      by_cases h4 : (400 : Int32) ≤ nI i
      · rw [if_pos h4]
        exact f_rwE hT (by omega) hs (by omega) hp he
      · rw [if_neg h4, if_pos (by rw [hT.2.1]; exact nI_le (by omega) (by omega))]
        exact f_rwE hT (by omega) hs (by omega) hp he
    have hpl : p < t := by omega
    have hcp := hT.2.2 p hpl
    have hin : ¬ (nI p < 0 ∨ 400 ≤ p) := by
      have h := nI_in (c := p) (N := 400) (by omega) (by omega)
      rw [nI_clamp (by omega)] at h
      exact h
    -- a token more: on behind it
    have push : ∀ (K v : Int32) (e : Nat), p < e → e ≤ t → tx_ct 3 K v (nI p) (tx_tn c t n) → (tx_tn c t n).2.2.2 = e → (tx_tn c t n).1 ≠ 0 → ∃ σ' n', ix_S 135 7 9 [some (.ref 100), some (.ref 1005), some (.int (nI e)), some (.int (nI (i + 1))), none] [] (ix_S0 b, tx_tk σ n K v (nI p)) = some (.null, (ix_S0 b, σ')) ∧ tx_cs σ' 3 c t n' 0 ∧ tx_cf σ σ' := by
      intro K v e h1 h2 h3 h5 h6
      obtain ⟨s1, s2⟩ := hs.tk h3
      obtain ⟨σ', n', a1, a2, a3⟩ := ih e (i + 1) (n + 1) (tx_tk σ n K v (nI p)) (by omega) (by omega) (by omega) h2 (hE.cf tx_cf.tk) (hT.cf tx_cf.tk) ⟨s1, s2, fun j hj => by
        by_cases ej : j = n
        · rw [ej]; exact h6
        · exact hs.2.2 j (by omega)⟩ (by
          show _ = tx_end tx_K c t (tx_tn c t n).2.2.2
          rw [h5])
      exact ⟨σ', n', a1, a2, tx_cf.tk.tr a3⟩
    rw [q_Tape_rewind_9_3, if_neg (show ¬ (400 : Int32) ≤ nI i from nI_ge (b := 400) (by omega) (by omega)), hT.2.1, if_neg (nI_ge (by omega) (by omega)), nI_clamp (by omega), if_neg hin, hcp.2, f_tK hcp.1]
    simp only [Option.bind_some, iv_tI]
    by_cases gK : tx_K (c p) = true
    · rw [iv_Bt gK, if_neg (by decide), nI_1, nI_1]
      refine ih (p + 1) (i + 1) n σ (by omega) (by omega) (by omega) (by omega) hE hT hs ?_
      rw [← he, tx_end_eq p, if_pos ⟨hpl, gK⟩]
    have eK : tx_end tx_K c t p = p := by rw [tx_end_eq, if_neg (fun q => gK q.2)]
    have eT : tx_tn c t n = tx_tok c t p := (tx_tok_cg he).symm
    rw [iv_Bf gK, if_pos rfl, if_neg hin, hcp.2, f_tL hcp.1]
    simp only [Option.bind_some, iv_tI]
    by_cases gL : tx_L (c p) = true
    · rw [iv_Bt gL, if_neg (by decide), f_addWord3 hE hT hpl, f_addE (by omega) hs.1]
      simp only [Option.bind_some, iv_tI]
      rw [nI_1]
      have hlt := tx_end_lt (P := tx_L) (c := c) hpl gL
      have hle := tx_end_le (P := tx_L) (c := c) (t := t) (p := p) (by omega)
      have hws := tx_wk_ws (tx_sl c p (tx_end tx_L c t p - p)) 3 (by omega)
      have eT2 : tx_tn c t n = (match tx_fi tx_ws 0 (tx_sl c p (tx_end tx_L c t p - p)) with
        | some g => (2, g, p, tx_end tx_L c t p)
        | none => (1, 0, p, tx_end tx_L c t p)) := by
        rw [eT]
        unfold tx_tok
        rw [eK, if_pos hpl, if_pos gL]
        cases tx_fi tx_ws 0 (tx_sl c p (tx_end tx_L c t p - p)) <;> rfl
      rcases hg : tx_fi tx_ws 0 (tx_sl c p (tx_end tx_L c t p - p)) with _ | g
      · rw [hg] at hws eT2
        refine push _ 0 _ hlt hle ?_ (by rw [eT2]) (by rw [eT2]; exact (by decide : (1 : Nat) ≠ 0))
        rw [eT2, hws]
        exact ⟨rfl, rfl, fun h => absurd h (by show ¬ 1 = 3; decide), fun h => absurd h (by show ¬ 1 = 2; decide)⟩
      · rw [hg] at hws eT2
        refine push _ 0 _ hlt hle ?_ (by rw [eT2]) (by rw [eT2]; exact (by decide : (2 : Nat) ≠ 0))
        rw [eT2, hws]
        exact ⟨rfl, rfl, fun h => absurd h (by show ¬ 2 = 3; decide), fun _ => rfl⟩
    rw [iv_Bf gL, if_pos rfl, if_neg hin, hcp.2, f_tD hcp.1]
    simp only [Option.bind_some, iv_tI]
    by_cases gD : tx_D (c p) = true
    · obtain ⟨v, a1, a2⟩ := f_an (b := b) (p := p) hT _ p 0 rfl (Nat.le_refl _) (by omega) (fun _ => by rw [Nat.sub_self]; rfl)
      rw [iv_Bt gD, if_neg (by decide), q_Tape_addNumber_0, a1, f_addE (by omega) hs.1]
      simp only [Option.bind_some, iv_tI]
      rw [nI_1]
      have hlt := tx_end_lt (P := tx_D) (c := c) hpl gD
      have hle := tx_end_le (P := tx_D) (c := c) (t := t) (p := p) (by omega)
      have eT2 : tx_tn c t n = if tx_end tx_D c t p - p ≤ 4 then (3, tx_nm c p (tx_end tx_D c t p - p), p, tx_end tx_D c t p) else (1, 0, p, tx_end tx_D c t p) := by
        rw [eT]
        unfold tx_tok
        rw [eK, if_pos hpl, if_neg gL, if_pos gD]
      by_cases h4 : tx_end tx_D c t p - p ≤ 4
      · rw [if_pos h4] at eT2 ⊢
        refine push _ _ _ hlt hle ?_ (by rw [eT2]) (by rw [eT2]; exact (by decide : (3 : Nat) ≠ 0))
        rw [eT2]
        exact ⟨rfl, rfl, fun _ => a2 h4, fun h => absurd h (by show ¬ 3 = 2; decide)⟩
      · rw [if_neg h4] at eT2 ⊢
        refine push _ _ _ hlt hle ?_ (by rw [eT2]) (by rw [eT2]; exact (by decide : (1 : Nat) ≠ 0))
        rw [eT2]
        exact ⟨rfl, rfl, fun h => absurd h (by show ¬ 1 = 3; decide), fun h => absurd h (by show ¬ 1 = 2; decide)⟩
    obtain ⟨r, b1, b2⟩ := f_sgn (b := b) hE hcp.1
    rw [iv_Bf gD, if_pos rfl, if_neg hin, hcp.2, (tx_bf hcp.1).2.2.2.2.2.2.2.2, b1]
    simp only [Option.bind_some, iv_tI]
    have eT2 : tx_tn c t n = if tx_G (c p) = true then (4, c p, p, p + 1) else (1, 0, p, p + 1) := by
      rw [eT]
      unfold tx_tok
      rw [eK, if_pos hpl, if_neg gL, if_neg gD]
    by_cases gG : tx_G (c p) = true
    · rw [if_pos gG] at eT2
      rw [if_neg (fun h => by rw [b2.mp h] at gG; cases gG), f_addT (by omega) hs.1]
      simp only [Option.bind_some]
      rw [nI_1, nI_1]
      refine push _ _ _ (by omega) (by omega) ?_ (by rw [eT2]) (by rw [eT2]; exact (by decide : (4 : Nat) ≠ 0))
      rw [eT2]
      exact ⟨tx_b255 hcp.1, rfl, fun h => absurd h (by show ¬ 4 = 3; decide), fun h => absurd h (by show ¬ 4 = 2; decide)⟩
    · rw [if_neg gG] at eT2
      rw [if_pos (b2.mpr (by cases h : tx_G (c p); rfl; exact absurd h gG)), f_addT (by omega) hs.1]
      simp only [Option.bind_some]
      rw [nI_1, nI_1]
      refine push _ _ _ (by omega) (by omega) ?_ (by rw [eT2]) (by rw [eT2]; exact (by decide : (1 : Nat) ≠ 0))
      rw [eT2]
      exact ⟨rfl, rfl, fun h => absurd h (by show ¬ 1 = 3; decide), fun h => absurd h (by show ¬ 1 = 2; decide)⟩
theorem f_rewind3 {b : Bool} {c : Nat → Nat} {t : Nat} {σ : ix_St} (hE : tx_Es σ) (hT : tx_tc σ c t) : ∃ σ' n, ix_F 135 [.ref 100, .ref 1005] (ix_S0 b, σ) = some (.null, (ix_S0 b, σ')) ∧ tx_cs σ' 3 c t n 0 ∧ tx_cf σ σ' := by
  have hf : tx_cf σ (ix_up σ 100 5 0) := ⟨fun z h _ _ _ => iv_upn h, fun j hj => tx_un (by omega)⟩
  obtain ⟨σ', n, h1, h2, h3⟩ := f_rw3 (b := b) (c := c) (t := t) t 0 0 0 (ix_up σ 100 5 0) (by omega) (by omega) (by omega) (by omega) (hE.cf hf) (hT.cf hf) ⟨tx_us, fun j hj => absurd hj (by omega), fun j hj => absurd hj (by omega)⟩ rfl
  exact ⟨σ', n, by rw [q_Tape_rewind_0_3]; exact h1, h2, hf.tr h3⟩
