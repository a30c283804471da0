/-! what can stand behind a sign -/
theorem tx_encN {k : Nat} (h : k ≤ 9999) : (nI k <<< ((6 : Int32) &&& 31)) ||| 33 = nI (64 * k + 33) := by
  rw [pk_shlN ((6 : Int32) &&& 31) 6 (by decide) (by omega), show (33 : Int32) = nI 33 from rfl, iv_or]
  congr 1
  have h1 := Nat.two_pow_add_eq_or_of_lt (i := 6) (b := 33) (by decide) k
  rw [show k * 2 ^ 6 = 2 ^ 6 * k from Nat.mul_comm _ _, ← h1]
theorem tx_encW (g : Nat) : ((0 : Int32) <<< ((6 : Int32) &&& 31)) ||| nI g = nI g := by
  rw [show ((0 : Int32) <<< ((6 : Int32) &&& 31)) = nI 0 by decide, iv_or, Nat.zero_or]
/-- is it a value that can be asked for? -/
theorem j_isV {n a t : Nat} {c : Nat → Nat} {σ τ : ix_St} (h : tx_J 0 c t n a σ τ) : (¬ σ 100 7 < 7 ∧ ¬ 17 < σ 100 7) ↔ (tx_tn c t a).1 = 2 ∧ 7 ≤ (tx_tn c t a).2.1 ∧ (tx_tn c t a).2.1 ≤ 17 := by
  obtain ⟨⟨h1, -, -⟩, h2, -, h4⟩ := h.ok
  have hk := h.kind
  have hlt := tx_kd_lt (k := 0) (c := c) (t := t) (i := a)
  rw [hk, show (7 : Int32) = nI 7 from rfl, show (17 : Int32) = nI 17 from rfl, nI_ltI (by omega) (by omega), nI_ltI (by omega) (by omega)]
  generalize tx_tn c t a = x at h1 h2 h4 ⊢
  have h5 : x.1 = 0 ∨ x.1 = 1 ∨ x.1 = 2 ∨ x.1 = 3 ∨ x.1 = 4 := by omega
  rcases h5 with h | h | h | h | h
  · rw [h]; show ¬ 32 < 7 ∧ ¬ 17 < 32 ↔ 0 = 2 ∧ _; omega
  · rw [h]; show ¬ 31 < 7 ∧ ¬ 17 < 31 ↔ 1 = 2 ∧ _; omega
  · have h6 := h2 h
    rw [h]
    show ¬ (if x.2.1 < 18 then x.2.1 else 31) < 7 ∧ ¬ 17 < (if x.2.1 < 18 then x.2.1 else 31) ↔ 2 = 2 ∧ _
    by_cases e : x.2.1 < 18
    · rw [if_pos e]; omega
    · rw [if_neg e]; omega
  · rw [h]; show ¬ 33 < 7 ∧ ¬ 17 < 33 ↔ 3 = 2 ∧ _; omega
  · rw [h]; show ¬ x.2.1 < 7 ∧ ¬ 17 < x.2.1 ↔ 4 = 2 ∧ _
    have := tx_G_lt (h4 h)
    omega
section Un
variable {b d : Bool} {n a t z0 z : Nat} {c : Nat → Nat} {σ τ : ix_St} {T out : List Nat}
/-- a number is taken -/
theorem j_takeN (h : tx_J 0 c t n a σ τ) (hc : tx_cd σ τ z0 z T out) (hz : z < 400) (ho : out.length < 32) (e : (tx_tn c t a).1 = 3) : ∃ σ' τ', ix_S 79 2 90 [some (.ref 105), none, none, none] [] (ix_S0 b, σ) = some (.int 1, (ix_S0 b, σ')) ∧ ix_F 282 [.ref 135] (ix_S0 d, τ) = some (.int 0, (ix_S0 d, τ')) ∧ tx_J 0 c t n (a + 1) σ' τ' ∧ tx_cd σ' τ' z0 (z + 1) T ((if (tx_tn c t a).2.1 = 0 then 0 else 2) :: out) ∧ tx_la σ σ' ∧ tx_lb τ τ' ∧ tx_lz σ σ' τ τ' z := by
  obtain ⟨n1, n3⟩ := j_isN h
  have hx := h.ok.2.2.1 e
  have hv := h.num e
  have hv2 : τ 135 17 = nI (tx_tn c t a).2.1 := h.2.2.2.2.2 (by omega)
  have h33 := n1.mpr e
  have h3 := n3.mpr e
  have hts : iv_ts out 0 (nI (tx_tn c t a).2.1) = some ((if (tx_tn c t a).2.1 = 0 then 0 else 2) :: out) := by
    unfold iv_ts
    rw [if_pos rfl]
    by_cases e0 : (tx_tn c t a).2.1 = 0
    · rw [if_pos e0, if_pos (by rw [e0]; rfl)]
    · rw [if_neg e0, if_neg (nI_ne0 (by omega) (by omega))]
  obtain ⟨σ1, τ1, a1, a2, a3, a4, a5, a6, a7, -⟩ := j_emit (b := b) (d := d) h hc hz (kind := 33) (value := nI (tx_tn c t a).2.1) (op := 0) (arg := nI (tx_tn c t a).2.1) (by rw [tx_encN hx]; exact Or.inl ⟨rfl, _, hx, rfl, rfl⟩) hts (by show out.length + 1 ≤ 32; omega)
  obtain ⟨σ2, τ2, b1, b2, b3, b4, b5, -⟩ := j_adv (b := b) (d := d) a3 (a3.lt (by omega))
  refine ⟨σ2, τ2, ?_, ?_, b3, a4.ab b4 b5, a5.tr b4.la, a6.tr b5.lb, a7.tr (Nat.le_refl _) (tx_lz.ab b4 b5)⟩
  · rw [q_Parser_readOperand_90, h33, hv, a1]
    simp only [Option.bind_some]
    rw [b1]
    simp only [Option.bind_some]
  · rw [q_M_readUnit_0, if_neg (show ¬ τ 135 16 = 2 by rw [h3]; decide), q_M_readUnit_23, if_pos rfl, if_pos h3, q_M_readUnit_43, if_pos rfl, if_pos rfl, hv2, a2]
    simp only [Option.bind_some]
    rw [b2]
    simp only [Option.bind_some]
/-- a value is asked for -/
theorem j_takeV (h : tx_J 0 c t n a σ τ) (hc : tx_cd σ τ z0 z T out) (hz : z < 400) (ho : out.length < 32) (e : (tx_tn c t a).1 = 2 ∧ 7 ≤ (tx_tn c t a).2.1 ∧ (tx_tn c t a).2.1 ≤ 17) : ∃ σ' τ', ix_S 79 2 90 [some (.ref 105), none, none, none] [] (ix_S0 b, σ) = some (.int 1, (ix_S0 b, σ')) ∧ ix_F 282 [.ref 135] (ix_S0 d, τ) = some (.int 0, (ix_S0 d, τ')) ∧ tx_J 0 c t n (a + 1) σ' τ' ∧ tx_cd σ' τ' z0 (z + 1) T (0 :: out) ∧ tx_la σ σ' ∧ tx_lb τ τ' ∧ tx_lz σ σ' τ τ' z := by
  have hv := h.zero e.1
  have hv2 : τ 135 17 = nI (tx_tn c t a).2.1 := h.2.2.2.2.2 (by omega)
  have h2 : τ 135 16 = 2 := by rw [h.2.2.2.2.1, e.1]; rfl
  have hkd : σ 100 7 = nI (tx_tn c t a).2.1 := by
    rw [h.kind, e.1]
    show nI (if (tx_tn c t a).2.1 < 18 then (tx_tn c t a).2.1 else 31) = _
    rw [if_pos (by omega)]
  have hts : iv_ts out 1 (nI ((tx_tn c t a).2.1 - 7)) = some (0 :: out) := by
    unfold iv_ts
    rw [if_neg (by decide), if_pos rfl]
  obtain ⟨σ1, τ1, a1, a2, a3, a4, a5, a6, a7, -⟩ := j_emit (b := b) (d := d) h hc hz (kind := nI (tx_tn c t a).2.1) (value := 0) (op := 1) (arg := nI ((tx_tn c t a).2.1 - 7)) (by rw [tx_encW]; exact Or.inr (Or.inl ⟨rfl, (tx_tn c t a).2.1 - 7, by omega, rfl, by rw [show 7 + ((tx_tn c t a).2.1 - 7) = (tx_tn c t a).2.1 by omega]⟩)) hts (by show out.length + 1 ≤ 32; omega)
  obtain ⟨σ2, τ2, b1, b2, b3, b4, b5, -⟩ := j_adv (b := b) (d := d) a3 (a3.lt (by omega))
  refine ⟨σ2, τ2, ?_, ?_, b3, a4.ab b4 b5, a5.tr b4.la, a6.tr b5.lb, a7.tr (Nat.le_refl _) (tx_lz.ab b4 b5)⟩
  · rw [q_Parser_readOperand_90, hkd, hv, a1]
    simp only [Option.bind_some]
    rw [b1]
    simp only [Option.bind_some]
  · rw [q_M_readUnit_0, if_pos h2, hv2, q_M_canAsk_0, f_isIn, iv_Bt ⟨nI_le (a := 7) (by omega) (by omega), nI_le (b := 17) (by omega) (by omega)⟩]
    simp only [Option.bind_some, iv_tI]
    rw [if_pos (Or.inr trivial)]
    simp only [Option.bind_some, iv_tI]
    rw [if_neg (by decide), if_neg (by decide), q_M_readUnit_43, if_neg (by decide), if_neg (by decide), hv2, show (7 : Int32) = nI 7 from rfl, tx_sub (by omega), a2]
    simp only [Option.bind_some]
    rw [b2]
    simp only [Option.bind_some]
end Un
