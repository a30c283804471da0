/-! the reference's next token -/
def tx_nm (c : Nat → Nat) (q : Nat) : Nat → Nat
  | 0 => 0
  | n + 1 => tx_nm c q n * 10 + (c (q + n) - 48)
/-- sort (0 end, 1 none, 2 a word, 3 a number, 4 a sign), value, place, where the next begins -/
def tx_tok (c : Nat → Nat) (t p : Nat) : Nat × Nat × Nat × Nat :=
  if tx_end tx_K c t p < t then
    if tx_L (c (tx_end tx_K c t p)) = true then
      (match tx_fi tx_ws 0 (tx_sl c (tx_end tx_K c t p) (tx_end tx_L c t (tx_end tx_K c t p) - tx_end tx_K c t p)) with
        | some g => (2, g, tx_end tx_K c t p, tx_end tx_L c t (tx_end tx_K c t p))
        | none => (1, 0, tx_end tx_K c t p, tx_end tx_L c t (tx_end tx_K c t p)))
    else if tx_D (c (tx_end tx_K c t p)) = true then
      if tx_end tx_D c t (tx_end tx_K c t p) - tx_end tx_K c t p ≤ 4 then (3, tx_nm c (tx_end tx_K c t p) (tx_end tx_D c t (tx_end tx_K c t p) - tx_end tx_K c t p), tx_end tx_K c t p, tx_end tx_D c t (tx_end tx_K c t p))
      else (1, 0, tx_end tx_K c t p, tx_end tx_D c t (tx_end tx_K c t p))
    else if tx_G (c (tx_end tx_K c t p)) = true then (4, c (tx_end tx_K c t p), tx_end tx_K c t p, tx_end tx_K c t p + 1)
    else (1, 0, tx_end tx_K c t p, tx_end tx_K c t p + 1)
  else (0, 0, tx_end tx_K c t p, tx_end tx_K c t p)
def tx_at (τ : ix_St) (k : Nat × Nat × Nat × Nat) : Prop := τ 135 14 = nI k.2.2.2 ∧ τ 135 15 = nI k.2.2.1 ∧ τ 135 16 = nI k.1 ∧ (2 ≤ k.1 → τ 135 17 = nI k.2.1)
def tx_fr (τ τ' : ix_St) : Prop := (∀ z, z ≠ 135 → τ' z = τ z) ∧ ∀ j, j ≠ 14 → j ≠ 15 → j ≠ 16 → j ≠ 17 → τ' 135 j = τ 135 j
theorem tx_fr.rf {τ : ix_St} : tx_fr τ τ := ⟨fun _ _ => rfl, fun _ _ _ _ _ => rfl⟩
theorem tx_fr.tr {τ τ1 τ2 : ix_St} (h : tx_fr τ τ1) (h2 : tx_fr τ1 τ2) : tx_fr τ τ2 := ⟨fun z hz => (h2.1 z hz).trans (h.1 z hz), fun j a b c d => (h2.2 j a b c d).trans (h.2 j a b c d)⟩
theorem tx_fr.up {τ : ix_St} {i : Nat} {v : Int32} (hi : i = 14 ∨ i = 15 ∨ i = 16 ∨ i = 17) : tx_fr τ (ix_up τ 135 i v) := by
  refine ⟨fun z hz => iv_upn hz, fun j a b c d => ?_⟩
  show upd (τ 135) i v j = _
  rw [pk_un (by omega)]
theorem tx_tm.fr {τ τ' : ix_St} {c : Nat → Nat} {t : Nat} (h : tx_tm τ c t) (hf : tx_fr τ τ') : tx_tm τ' c t := by
  obtain ⟨h1, h2, h3, h4⟩ := h
  refine ⟨h1, by rw [hf.2 13 (by omega) (by omega) (by omega) (by omega)]; exact h2, fun i hi => ?_, fun i hi => ?_⟩
  · rw [hf.1 143 (by omega)]; exact h3 i hi
  · rw [hf.1 144 (by omega)]; exact h4 i hi
theorem tx_us {τ : ix_St} {z i : Nat} {v : Int32} : ix_up τ z i v z i = v := by
  unfold ix_up ix_row
  rw [if_pos rfl, pk_us]
theorem tx_un {τ : ix_St} {z i j : Nat} {v : Int32} (h : j ≠ i) : ix_up τ z i v z j = τ z j := by
  unfold ix_up ix_row
  rw [if_pos rfl, pk_un h]
theorem tx_sub {a b : Nat} (h : b ≤ a) : nI a - nI b = nI (a - b) := by
  have h1 : nI (a - b) + nI b = nI a := by rw [nI_add, Nat.sub_add_cancel h]
  rw [← h1, Int32.add_sub_cancel]
theorem tx_nm_s (c : Nat → Nat) (q n : Nat) : tx_nm c q (n + 1) = tx_nm c q n * 10 + (c (q + n) - 48) := rfl
theorem tx_nm_lt (c : Nat → Nat) (q : Nat) : ∀ n, (∀ k, k < n → tx_D (c (q + k)) = true) → tx_nm c q n < 10 ^ n
  | 0, _ => Nat.zero_lt_one
  | n + 1, h => by
    have h1 := tx_nm_lt c q n (fun k hk => h k (by omega))
    have h2 : 48 ≤ c (q + n) ∧ c (q + n) ≤ 57 := by simpa [tx_D] using h n (by omega)
    unfold tx_nm
    rw [Nat.pow_succ]
    omega
section Rd
variable {b : Bool} {c : Nat → Nat} {t : Nat}
theorem f_rK : ∀ (m p : Nat) (τ : ix_St), t - p = m → p ≤ t → tx_tm τ c t → τ 135 14 = nI p → ∃ τ', ix_F 233 [.ref 135] (ix_S0 b, τ) = ix_F 233 [.ref 135] (ix_S0 b, τ') ∧ τ' 135 14 = nI (tx_end tx_K c t p) ∧ tx_fr τ τ'
  | 0, p, τ, hm, hp, hT, h => by
    have e : tx_end tx_K c t p = p := by rw [tx_end_eq, if_neg (by omega)]
    exact ⟨τ, rfl, by rw [e]; exact h, tx_fr.rf⟩
  | m + 1, p, τ, hm, hp, hT, h => by
    have ht := hT.1
    have hc := hT.2.2.1
    rw [tx_end_eq]
    by_cases e : p < t ∧ tx_K (c p) = true
    · rw [if_pos e]
      obtain ⟨τ', h1, h2, h3⟩ := f_rK m (p + 1) (ix_up τ 135 14 (nI (p + 1))) (by omega) (by omega) (hT.fr (tx_fr.up (Or.inl rfl))) tx_us
      refine ⟨τ', ?_, h2, (tx_fr.up (Or.inl rfl)).tr h3⟩
      have hK : c p = 32 ∨ c p = 10 := by simpa [tx_K] using e.2
      have hcp := (hc p e.1).1
      rw [← h1, q_M_reads_0, h, f_raw hT (by omega)]
      simp only [Option.bind_some, iv_tI]
      have hr : tx_r c t p = nI (c p) := if_pos e.1
      rw [hr]
      rcases hK with hK | hK
      · rw [hK, if_pos (show nI 32 = 32 from rfl), h, nI_1]
        rfl
      · rw [hK, if_neg (show ¬ nI 10 = 32 by decide), h, f_raw hT (by omega)]
        simp only [Option.bind_some, iv_tI]
        rw [hr, hK, if_pos (show nI 10 = 10 from rfl), h, nI_1]
        rfl
    · rw [if_neg e]
      exact ⟨τ, rfl, h, tx_fr.rf⟩
theorem f_rL {q : Nat} : ∀ (m p : Nat) (τ : ix_St), t - p = m → p ≤ t → q ≤ p → (∀ k, q ≤ k → k < p → tx_L (c k) = true) → tx_tm τ c t → τ 135 14 = nI p → τ 135 15 = nI q → τ 135 16 = nI 1 → ∃ τ', ix_S 233 3 95 [some (.ref 135), none] [] (ix_S0 b, τ) = some (.null, (ix_S0 b, τ')) ∧ (match tx_fi tx_ws 0 (tx_sl c q (tx_end tx_L c t p - q)) with
      | some g => tx_at τ' (2, g, q, tx_end tx_L c t p)
      | none => tx_at τ' (1, 0, q, tx_end tx_L c t p)) ∧ tx_fr τ τ' := by
  intro m
  induction m with
  | zero =>
    intro p τ hm hp hqp hL hT h14 h15 h16
    have ht := hT.1
    have e : tx_end tx_L c t p = p := by rw [tx_end_eq, if_neg (by omega)]
    rw [e, q_M_reads_95, h14, f_raw hT (by omega)]
    simp only [Option.bind_some, iv_tI]
    rw [f_mL (fun q => (hT.2.2.1 p q).1)]
    simp only [Option.bind_some, iv_tI]
    rw [iv_Bf (by omega), if_pos rfl, h14, h15, f_wordAt hT hqp hp hL]
    rcases hg : tx_fi tx_ws 0 (tx_sl c q (p - q)) with _ | g
    · dsimp only
      simp only [Option.bind_some, iv_tI]
      rw [if_pos trivial]
      exact ⟨_, rfl, ⟨(tx_un (by omega)).trans h14, (tx_un (by omega)).trans h15, (tx_un (by omega)).trans h16, fun h => absurd h (by show ¬ 2 ≤ 1; decide)⟩, tx_fr.up (by omega)⟩
    · dsimp only
      have hg24 := tx_fi_lt _ _ hg
      simp only [Option.bind_some, iv_tI]
      rw [if_neg (iv_m1 (by omega))]
      exact ⟨_, rfl, ⟨((tx_un (by omega)).trans (tx_un (by omega))).trans h14, ((tx_un (by omega)).trans (tx_un (by omega))).trans h15, tx_us, fun _ => (tx_un (by omega)).trans tx_us⟩, (tx_fr.up (by omega)).tr (tx_fr.up (by omega))⟩
  | succ m ih =>
    intro p τ hm hp hqp hL hT h14 h15 h16
    have ht := hT.1
    by_cases e : p < t ∧ tx_L (c p) = true
    · rw [tx_end_eq, if_pos e]
      obtain ⟨τ', h1, h2, h3⟩ := ih (p + 1) (ix_up τ 135 14 (nI (p + 1))) (by omega) (by omega) (by omega) (fun k hk1 hk2 => by
        by_cases ek : k = p
        · rw [ek]; exact e.2
        · exact hL k hk1 (by omega)) (hT.fr (tx_fr.up (Or.inl rfl))) tx_us ((tx_un (by omega)).trans h15) ((tx_un (by omega)).trans h16)
      refine ⟨τ', ?_, h2, (tx_fr.up (Or.inl rfl)).tr h3⟩
      rw [q_M_reads_95, h14, f_raw hT (by omega)]
      simp only [Option.bind_some, iv_tI]
      rw [f_mL (fun q => (hT.2.2.1 p q).1)]
      simp only [Option.bind_some, iv_tI]
      rw [iv_Bt e, if_neg (by decide), h14, nI_1, h1]
    · rw [tx_end_eq, if_neg e, q_M_reads_95, h14, f_raw hT (by omega)]
      simp only [Option.bind_some, iv_tI]
      rw [f_mL (fun q => (hT.2.2.1 p q).1)]
      simp only [Option.bind_some, iv_tI]
      rw [iv_Bf e, if_pos rfl, h14, h15, f_wordAt hT hqp hp hL]
      rcases hg : tx_fi tx_ws 0 (tx_sl c q (p - q)) with _ | g
      · dsimp only
        simp only [Option.bind_some, iv_tI]
        rw [if_pos trivial]
        exact ⟨_, rfl, ⟨(tx_un (by omega)).trans h14, (tx_un (by omega)).trans h15, (tx_un (by omega)).trans h16, fun h => absurd h (by show ¬ 2 ≤ 1; decide)⟩, tx_fr.up (by omega)⟩
      · dsimp only
        have hg24 := tx_fi_lt _ _ hg
        simp only [Option.bind_some, iv_tI]
        rw [if_neg (iv_m1 (by omega))]
        exact ⟨_, rfl, ⟨((tx_un (by omega)).trans (tx_un (by omega))).trans h14, ((tx_un (by omega)).trans (tx_un (by omega))).trans h15, tx_us, fun _ => (tx_un (by omega)).trans tx_us⟩, (tx_fr.up (by omega)).tr (tx_fr.up (by omega))⟩
theorem f_rDe {q p : Nat} {τ : ix_St} (hp : p ≤ t) (hqp : q ≤ p) (e : ¬ (p < t ∧ tx_D (c p) = true)) (hT : tx_tm τ c t) (h14 : τ 135 14 = nI p) (h15 : τ 135 15 = nI q) (h16 : τ 135 16 = nI 1) (h17 : p - q ≤ 4 → τ 135 17 = nI (tx_nm c q (p - q))) : ∃ τ', ix_S 233 3 171 [some (.ref 135), none] [] (ix_S0 b, τ) = some (.null, (ix_S0 b, τ')) ∧ tx_at τ' (if p - q ≤ 4 then (3, tx_nm c q (p - q), q, p) else (1, 0, q, p)) ∧ tx_fr τ τ' := by
  have ht := hT.1
  rw [q_M_reads_171, h14, f_raw hT (by omega)]
  simp only [Option.bind_some, iv_tI]
  rw [f_mD (fun q => (hT.2.2.1 p q).1)]
  simp only [Option.bind_some, iv_tI]
  rw [iv_Bf e, if_pos rfl, h14, h15, tx_sub hqp]
  by_cases h4 : p - q ≤ 4
  · rw [if_neg (show ¬ (5 : Int32) ≤ nI (p - q) from nI_ge (b := 5) (by omega) (by omega)), if_pos h4]
    exact ⟨_, rfl, ⟨(tx_un (by omega)).trans h14, (tx_un (by omega)).trans h15, tx_us, fun _ => (tx_un (by omega)).trans (h17 h4)⟩, tx_fr.up (by omega)⟩
  · rw [if_pos (show (5 : Int32) ≤ nI (p - q) from nI_le (a := 5) (by omega) (by omega)), if_neg h4]
    exact ⟨_, rfl, ⟨h14, h15, h16, fun h => absurd h (by show ¬ 2 ≤ 1; decide)⟩, tx_fr.rf⟩
theorem f_rD {q : Nat} : ∀ (m p : Nat) (τ : ix_St), t - p = m → p ≤ t → q ≤ p → (∀ k, q ≤ k → k < p → tx_D (c k) = true) → tx_tm τ c t → τ 135 14 = nI p → τ 135 15 = nI q → τ 135 16 = nI 1 → (p - q ≤ 4 → τ 135 17 = nI (tx_nm c q (p - q))) → ∃ τ', ix_S 233 3 171 [some (.ref 135), none] [] (ix_S0 b, τ) = some (.null, (ix_S0 b, τ')) ∧ tx_at τ' (if tx_end tx_D c t p - q ≤ 4 then (3, tx_nm c q (tx_end tx_D c t p - q), q, tx_end tx_D c t p) else (1, 0, q, tx_end tx_D c t p)) ∧ tx_fr τ τ' := by
  intro m
  induction m with
  | zero =>
    intro p τ hm hp hqp hL hT h14 h15 h16 h17
    rw [show tx_end tx_D c t p = p by rw [tx_end_eq, if_neg (by omega)]]
    exact f_rDe hp hqp (by omega) hT h14 h15 h16 h17
  | succ m ih =>
    intro p τ hm hp hqp hL hT h14 h15 h16 h17
    have ht := hT.1
    by_cases e : p < t ∧ tx_D (c p) = true
    · rw [tx_end_eq, if_pos e]
      have hL2 : ∀ k, q ≤ k → k < p + 1 → tx_D (c k) = true := fun k hk1 hk2 => by
        by_cases ek : k = p
        · rw [ek]; exact e.2
        · exact hL k hk1 (by omega)
      have hd : 48 ≤ c p ∧ c p ≤ 57 := by simpa [tx_D] using e.2
      have hr : tx_r c t p = nI (c p) := if_pos e.1
      rw [q_M_reads_171, h14, f_raw hT (by omega)]
      simp only [Option.bind_some, iv_tI]
      rw [f_mD (fun q => (hT.2.2.1 p q).1)]
      simp only [Option.bind_some, iv_tI]
      rw [iv_Bt e, if_neg (by decide)]
      by_cases h4 : p - q ≤ 4
      · have hlt : tx_nm c q (p - q) < 10 ^ (p - q) := tx_nm_lt c q (p - q) (fun k hk => hL (q + k) (by omega) (by omega))
        have h5 : 10 ^ (p - q) ≤ 10 ^ 4 := Nat.pow_le_pow_right (by decide) h4
        have h6 : tx_nm c q (p - q) < 10000 := Nat.lt_of_lt_of_le hlt h5
        rw [h17 h4, if_neg (show ¬ (10000 : Int32) ≤ nI (tx_nm c q (p - q)) from nI_ge (b := 10000) h6 (by omega)), h14, f_raw hT (by omega)]
        simp only [Option.bind_some, iv_tI]
        rw [hr, h14, nI_1]
        have e1 : (10 : Int32) * nI (tx_nm c q (p - q)) + nI (c p) - 48 = nI (tx_nm c q (p + 1 - q)) := by
          rw [show p + 1 - q = p - q + 1 by omega, tx_nm_s]
          rw [show q + (p - q) = p by omega, show (10 : Int32) = nI 10 from rfl, show (48 : Int32) = nI 48 from rfl, pk_mul, nI_add, tx_sub (by omega)]
          congr 1
          omega
        rw [e1]
        obtain ⟨τ', h1, h2, h3⟩ := ih (p + 1) (ix_up (ix_up τ 135 17 (nI (tx_nm c q (p + 1 - q)))) 135 14 (nI (p + 1))) (by omega) (by omega) (by omega) hL2 (hT.fr ((tx_fr.up (by omega)).tr (tx_fr.up (by omega)))) tx_us (((tx_un (by omega)).trans (tx_un (by omega))).trans h15) (((tx_un (by omega)).trans (tx_un (by omega))).trans h16) (fun _ => (tx_un (by omega)).trans tx_us)
        exact ⟨τ', h1, h2, ((tx_fr.up (by omega)).tr (tx_fr.up (by omega))).tr h3⟩
      · have key : ∀ v : Int32, ∃ τ', ix_S 233 3 171 [some (.ref 135), none] [] (ix_S0 b, ix_up (ix_up τ 135 17 v) 135 14 (nI (p + 1))) = some (.null, (ix_S0 b, τ')) ∧ tx_at τ' (if tx_end tx_D c t (p + 1) - q ≤ 4 then (3, tx_nm c q (tx_end tx_D c t (p + 1) - q), q, tx_end tx_D c t (p + 1)) else (1, 0, q, tx_end tx_D c t (p + 1))) ∧ tx_fr τ τ' := by
          intro v
          obtain ⟨τ', h1, h2, h3⟩ := ih (p + 1) (ix_up (ix_up τ 135 17 v) 135 14 (nI (p + 1))) (by omega) (by omega) (by omega) hL2 (hT.fr ((tx_fr.up (by omega)).tr (tx_fr.up (by omega)))) tx_us (((tx_un (by omega)).trans (tx_un (by omega))).trans h15) (((tx_un (by omega)).trans (tx_un (by omega))).trans h16) (fun h => absurd h (by omega))
          exact ⟨τ', h1, h2, ((tx_fr.up (by omega)).tr (tx_fr.up (by omega))).tr h3⟩
        by_cases h5 : (10000 : Int32) ≤ τ 135 17
        · rw [if_pos h5, h14, nI_1]
          exact key _
        · rw [if_neg h5, h14, f_raw hT (by omega)]
          simp only [Option.bind_some, iv_tI]
          rw [h14, nI_1]
          exact key _
    · rw [tx_end_eq, if_neg e]
      exact f_rDe hp hqp e hT h14 h15 h16 h17
theorem f_reads {p : Nat} {τ : ix_St} (hT : tx_tm τ c t) (hp : p ≤ t) (h14 : τ 135 14 = nI p) : ∃ τ', ix_F 233 [.ref 135] (ix_S0 b, τ) = some (.null, (ix_S0 b, τ')) ∧ tx_at τ' (tx_tok c t p) ∧ tx_fr τ τ' := by
  obtain ⟨τ1, a1, a2, a3⟩ := f_rK (b := b) (c := c) (t := t) _ p τ rfl hp hT h14
  have ht := hT.1
  have hT1 := hT.fr a3
  have hq := tx_end_le (P := tx_K) (c := c) hp
  have hst := tx_end_st (P := tx_K) (c := c) (t := t) _ p rfl
  rw [a1]
  unfold tx_tok
  generalize tx_end tx_K c t p = q at a2 hq hst ⊢
  clear a1
  rw [q_M_reads_0, a2, f_raw hT1 (by omega)]
  simp only [Option.bind_some, iv_tI]
  have hc := hT1.2.2.1
  have n1 : ¬ tx_r c t q = 32 := by
    intro h
    unfold tx_r at h
    by_cases e : q < t
    · rw [if_pos e] at h
      have h1 := (hc q e).1
      exact hst ⟨e, by simp [tx_K, (nI_eq (b := 32) (by omega) (by omega)).mp h]⟩
    · rw [if_neg e] at h
      exact absurd h (by decide)
  have n2 : ¬ tx_r c t q = 10 := by
    intro h
    unfold tx_r at h
    by_cases e : q < t
    · rw [if_pos e] at h
      have h1 := (hc q e).1
      exact hst ⟨e, by simp [tx_K, (nI_eq (b := 10) (by omega) (by omega)).mp h]⟩
    · rw [if_neg e] at h
      exact absurd h (by decide)
  rw [if_neg n1, a2, f_raw hT1 (by omega)]
  simp only [Option.bind_some, iv_tI]
  rw [if_neg n2, a2]
  have hT2 : tx_tm (ix_up (ix_up τ1 135 15 (nI q)) 135 16 (1 : Int32)) c t := hT1.fr ((tx_fr.up (by omega)).tr (tx_fr.up (by omega)))
  have hf2 : tx_fr τ (ix_up (ix_up τ1 135 15 (nI q)) 135 16 (1 : Int32)) := a3.tr ((tx_fr.up (by omega)).tr (tx_fr.up (by omega)))
  rw [f_raw hT2 (by omega)]
  simp only [Option.bind_some, iv_tI]
  by_cases e : q < t
  · rw [if_pos e]
    have hr : tx_r c t q = nI (c q) := if_pos e
    have hcq := (hc q e).1
    have h14' : ix_up (ix_up τ1 135 15 (nI q)) 135 16 (1 : Int32) 135 14 = nI q := ((tx_un (by omega)).trans (tx_un (by omega))).trans a2
    rw [if_neg (by rw [hr]; exact iv_m1 (by omega)), h14', nI_1]
    have hT3 : ∀ v : Int32, tx_tm (ix_up (ix_up (ix_up (ix_up τ1 135 15 (nI q)) 135 16 (1 : Int32)) 135 14 (nI (q + 1))) 135 17 v) c t := fun v => hT2.fr ((tx_fr.up (by omega)).tr (tx_fr.up (by omega)))
    have hf3 : ∀ v : Int32, tx_fr τ (ix_up (ix_up (ix_up (ix_up τ1 135 15 (nI q)) 135 16 (1 : Int32)) 135 14 (nI (q + 1))) 135 17 v) := fun v => hf2.tr ((tx_fr.up (by omega)).tr (tx_fr.up (by omega)))
    have g14 : ∀ v : Int32, ix_up (ix_up (ix_up (ix_up τ1 135 15 (nI q)) 135 16 (1 : Int32)) 135 14 (nI (q + 1))) 135 17 v 135 14 = nI (q + 1) := fun v => (tx_un (by omega)).trans tx_us
    have g15 : ∀ v : Int32, ix_up (ix_up (ix_up (ix_up τ1 135 15 (nI q)) 135 16 (1 : Int32)) 135 14 (nI (q + 1))) 135 17 v 135 15 = nI q := fun v => (((tx_un (by omega)).trans (tx_un (by omega))).trans (tx_un (by omega))).trans tx_us
    have g16 : ∀ v : Int32, ix_up (ix_up (ix_up (ix_up τ1 135 15 (nI q)) 135 16 (1 : Int32)) 135 14 (nI (q + 1))) 135 17 v 135 16 = nI 1 := fun v => ((tx_un (by omega)).trans (tx_un (by omega))).trans tx_us
    rw [f_mL (fun _ => hcq)]
    simp only [Option.bind_some, iv_tI]
    by_cases eL : tx_L (c q) = true
    · rw [iv_Bt ⟨e, eL⟩, if_neg (by decide), if_pos eL]
      obtain ⟨τ', h1, h2, h3⟩ := f_rL (b := b) (q := q) _ (q + 1) _ rfl (by omega) (by omega) (fun k h1 h2 => by rw [show k = q by omega]; exact eL) (hT3 (tx_r c t q)) (g14 _) (g15 _) (g16 _)
      refine ⟨τ', h1, ?_, (hf3 _).tr h3⟩
      have e2 : tx_end tx_L c t q = tx_end tx_L c t (q + 1) := by rw [tx_end_eq q, if_pos ⟨e, eL⟩]
      rw [e2]
      rcases hg : tx_fi tx_ws 0 (tx_sl c q (tx_end tx_L c t (q + 1) - q)) with _ | g
      · rw [hg] at h2; exact h2
      · rw [hg] at h2; exact h2
    · rw [iv_Bf (fun h => eL h.2), if_pos rfl, if_neg eL, f_mD (fun _ => hcq)]
      simp only [Option.bind_some, iv_tI]
      by_cases eD : tx_D (c q) = true
      · rw [iv_Bt ⟨e, eD⟩, if_neg (by decide), if_pos eD]
        have hd : 48 ≤ c q ∧ c q ≤ 57 := by simpa [tx_D] using eD
        have hv : tx_r c t q - 48 = nI (tx_nm c q (q + 1 - q)) := by
          rw [hr, show q + 1 - q = 0 + 1 by omega]
          unfold tx_nm
          rw [show (48 : Int32) = nI 48 from rfl, tx_sub (by omega)]
          unfold tx_nm
          rw [Nat.add_zero, Nat.zero_mul, Nat.zero_add]
        have hu : ∀ (ρ : ix_St) (v w : Int32), ix_up (ix_up ρ 135 17 v) 135 17 w 135 = ix_up ρ 135 17 w 135 := fun ρ v w => by
          funext j
          by_cases ej : j = 17
          · rw [ej, tx_us, tx_us]
          · rw [tx_un ej, tx_un ej, tx_un ej]
        obtain ⟨τ', h1, h2, h3⟩ := f_rD (b := b) (q := q) _ (q + 1) (ix_up (ix_up (ix_up (ix_up (ix_up τ1 135 15 (nI q)) 135 16 (1 : Int32)) 135 14 (nI (q + 1))) 135 17 (tx_r c t q)) 135 17 (tx_r c t q - 48)) rfl (by omega) (by omega) (fun k h1 h2 => by rw [show k = q by omega]; exact eD) ((hT3 (tx_r c t q)).fr (tx_fr.up (by omega))) ((tx_un (by omega)).trans (g14 _)) ((tx_un (by omega)).trans (g15 _)) ((tx_un (by omega)).trans (g16 _)) (fun _ => tx_us.trans hv)
        refine ⟨τ', h1, ?_, ((hf3 _).tr (tx_fr.up (by omega))).tr h3⟩
        have e2 : tx_end tx_D c t q = tx_end tx_D c t (q + 1) := by rw [tx_end_eq q, if_pos ⟨e, eD⟩]
        rw [e2]
        exact h2
      · rw [iv_Bf (fun h => eD h.2), if_pos rfl, if_neg eD, hr, f_mG hcq]
        simp only [Option.bind_some, iv_tI]
        by_cases eG : tx_G (c q) = true
        · rw [iv_Bt eG, if_neg (by decide), if_pos eG]
          exact ⟨_, rfl, ⟨(tx_un (by omega)).trans (g14 _), (tx_un (by omega)).trans (g15 _), tx_us, fun _ => (tx_un (by omega)).trans tx_us⟩, (hf3 _).tr (tx_fr.up (by omega))⟩
        · rw [iv_Bf eG, if_pos rfl, if_neg eG]
          exact ⟨_, rfl, ⟨g14 _, g15 _, g16 _, fun h => absurd h (by show ¬ 2 ≤ 1; decide)⟩, hf3 _⟩
  · have hr : tx_r c t q = -1 := if_neg e
    rw [hr, if_pos rfl, if_neg e]
    exact ⟨_, rfl, ⟨((tx_un (by omega)).trans (tx_un (by omega))).trans ((tx_un (by omega)).trans a2), ((tx_un (by omega)).trans (tx_un (by omega))).trans tx_us, tx_us, fun h => absurd h (by show ¬ 2 ≤ 0; decide)⟩, hf2.tr (tx_fr.up (by omega))⟩
end Rd
