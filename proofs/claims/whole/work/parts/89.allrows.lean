/-! all lines -/
theorem g_end2 {b : Bool} {σ : ix_St} {i : Nat} (hi : i ≤ 17) : ix_S 65 35 50 [some (.ref 105), some (.int 2), none, some (.int 0), some (.int (nI i))] [] (ix_S0 b, σ) = some (.int (-1), (ix_S0 b, σ)) := by
  rw [q_Parser_read_50]
  by_cases h : (16 : Int32) < nI i
  · rw [if_pos h, if_pos rfl]
  · rw [if_neg h, if_pos rfl, if_pos rfl]
theorem g_loop2 {b d : Bool} {n t : Nat} {c : Nat → Nat} : ∀ (m i a : Nat) (σ τ : ix_St), 16 - i = m → i ≤ 16 → tx_J 2 c t n a σ τ → tx_D2 σ τ i → σ 120 2 = nI i → ∃ v σ' τ', ix_S 65 35 50 [some (.ref 105), some (.int 2), none, some (.int 1), some (.int (nI i))] [] (ix_S0 b, σ) = some (.int v, (ix_S0 b, σ')) ∧ ix_S 235 7 2 [some (.ref 135), some (.int (nI i))] [] (ix_S0 d, τ) = some (.int v, (ix_S0 d, τ')) ∧ tx_FX σ σ' ∧ tx_FM τ τ' ∧ ((v = -1 ∧ tx_bad σ' τ') ∨ ∃ i' a', i' ≤ 16 ∧ v = nI i' ∧ tx_D2 σ' τ' i' ∧ σ' 120 2 = nI i' ∧ tx_J 2 c t n a' σ' τ') := by
  have hk : ¬ ((2 : Int32) < 0 ∨ 4 ≤ (2 : Int32).toNatClampNeg) := by decide
  have hk2 : (2 : Int32).toNatClampNeg = 2 := by decide
  intro m
  induction m with
  | zero =>
    intro i a σ τ hm hi h hD h120
    obtain ⟨i1, i2⟩ := j_isW (d := d) h (w := 0) (g := 20) (by omega) (by omega) tx_wds.2.2.1
    have i2' : ix_F 254 [.ref 135, .int (20 : Int32)] (ix_S0 d, τ) = _ := i2
    have hlt := tx_kd_lt (k := 2) (c := c) (t := t) (i := a)
    have hz : τ 135 16 = 0 ↔ (tx_tn c t a).1 = 0 := by
      have h4 := h.ok.1.1
      rw [h.2.2.2.2.1, show (0 : Int32) = nI 0 from rfl, nI_eq (by omega) (by omega)]
    have hE : σ 100 7 = 32 ↔ (tx_tn c t a).1 = 0 := j_isE h
    rw [q_Parser_read_50, if_neg (show ¬ (16 : Int32) < nI i from nI_nlt (a := 16) (by omega) (by omega)), if_neg (show ¬ (1 : Int32) = 0 by decide), q_M_readLog_2, i2']
    simp only [Option.bind_some, iv_tI]
    by_cases e : (tx_tn c t a).1 = 0
    · rw [if_pos (hE.mpr e), if_neg (show ¬ (1 : Int32) = 0 by decide), if_neg hk, hk2, h120, iv_Bf (by omega), if_pos rfl, if_pos (hz.mpr e)]
      exact ⟨_, σ, τ, rfl, rfl, tx_FX.rf, tx_FM.rf, Or.inr ⟨i, a, by omega, rfl, hD, h120, h⟩⟩
    rw [if_neg (fun q => e (hE.mp q)), q_Parser_startsLine_0, if_neg (show ¬ (2 : Int32) = 0 by decide)]
    by_cases e2 : (tx_tn c t a).1 = 2 ∧ (tx_tn c t a).2.1 = 20
    · have e3 : σ 100 7 = 0 := i1.mpr e2
      obtain ⟨σ1, τ1, b1, b2, b3, b4, b5⟩ := j_bl (b := b) (d := d) h 3
      rw [if_pos e3, iv_Bt e2, if_neg (by decide), if_pos (show nI i = (16 : Int32) by rw [show i = 16 by omega]; rfl), b2]
      simp only [Option.bind_some, iv_tI]
      rw [if_neg (by decide), if_pos (show nI i = (16 : Int32) by rw [show i = 16 by omega]; rfl), b1]
      simp only [Option.bind_some, iv_tI]
      rw [if_neg hk, hk2, nI_1, g_end2 (by omega)]
      exact ⟨_, _, _, rfl, rfl, b4.FX.tr (tx_FX.up (by omega)), b5.FM, Or.inl ⟨rfl, b3.up⟩⟩
    · have e3 : ¬ σ 100 7 = 0 := fun q => e2 (i1.mp q)
      obtain ⟨σ1, τ1, b1, b2, b3, b4, b5⟩ := j_bl (b := b) (d := d) h 1
      rw [if_neg e3, iv_Bf e2, if_pos rfl, if_neg (fun q => e (hz.mp q)), b2]
      simp only [Option.bind_some, iv_tI]
      rw [if_pos trivial, b1]
      simp only [Option.bind_some, iv_tI]
      rw [if_neg hk, hk2, nI_1, g_end2 (by omega)]
      exact ⟨_, _, _, rfl, rfl, b4.FX.tr (tx_FX.up (by omega)), b5.FM, Or.inl ⟨rfl, b3.up⟩⟩
  | succ m ih =>
    intro i a σ τ hm hi h hD h120
    obtain ⟨i1, i2⟩ := j_isW (d := d) h (w := 0) (g := 20) (by omega) (by omega) tx_wds.2.2.1
    have i2' : ix_F 254 [.ref 135, .int (20 : Int32)] (ix_S0 d, τ) = _ := i2
    have hz : τ 135 16 = 0 ↔ (tx_tn c t a).1 = 0 := by
      have h4 := h.ok.1.1
      rw [h.2.2.2.2.1, show (0 : Int32) = nI 0 from rfl, nI_eq (by omega) (by omega)]
    have hE : σ 100 7 = 32 ↔ (tx_tn c t a).1 = 0 := j_isE h
    rw [q_Parser_read_50, if_neg (show ¬ (16 : Int32) < nI i from nI_nlt (a := 16) (by omega) (by omega)), if_neg (show ¬ (1 : Int32) = 0 by decide), q_M_readLog_2, i2']
    simp only [Option.bind_some, iv_tI]
    by_cases e : (tx_tn c t a).1 = 0
    · rw [if_pos (hE.mpr e), if_neg (show ¬ (1 : Int32) = 0 by decide), if_neg hk, hk2, h120, iv_Bf (by omega), if_pos rfl, if_pos (hz.mpr e)]
      exact ⟨_, σ, τ, rfl, rfl, tx_FX.rf, tx_FM.rf, Or.inr ⟨i, a, by omega, rfl, hD, h120, h⟩⟩
    rw [if_neg (fun q => e (hE.mp q)), q_Parser_startsLine_0, if_neg (show ¬ (2 : Int32) = 0 by decide)]
    by_cases e2 : (tx_tn c t a).1 = 2 ∧ (tx_tn c t a).2.1 = 20
    · have e3 : σ 100 7 = 0 := i1.mpr e2
      have e16 : ¬ nI i = (16 : Int32) := fun q => absurd ((nI_eq (b := 16) (by omega) (by omega)).mp q) (by omega)
      obtain ⟨v1, w1, σ1, τ1, b1, b2, b3, b4, b5, b6⟩ := l_row (b := b) (d := d) h e2 (show i < 16 by omega) hD
      have b2' : ix_F 257 [.ref 135, .int ((32 : Int32) + ((2 : Int32) * nI i))] (ix_S0 d, τ) = some (.int w1, (ix_S0 d, τ1)) := by
        rw [show (32 : Int32) + ((2 : Int32) * nI i) = nI (32 + 2 * i) by rw [show (2 : Int32) = nI 2 from rfl, show (32 : Int32) = nI 32 from rfl, pk_mul, nI_add]]; exact b2
      rw [if_pos e3, iv_Bt e2, if_neg (by decide), if_neg e16, b2']
      simp only [Option.bind_some, iv_tI]
      rw [if_neg (by decide), if_neg e16, if_neg (show ¬ (2 : Int32) = 0 by decide), if_neg (show ¬ (2 : Int32) = 1 by decide), if_pos trivial, b1]
      simp only [Option.bind_some, iv_tI]
      rw [if_neg hk, hk2, nI_1]
      rcases b6 with ⟨rfl, rfl, b7⟩ | ⟨rfl, rfl, a', ha', b7, b8⟩
      · rw [if_pos rfl, g_end2 (by omega)]
        exact ⟨_, _, _, rfl, rfl, b3.tr (tx_FX.up (by omega)), b4, Or.inl ⟨rfl, b7.up⟩⟩
      · rw [if_neg (by decide)]
        obtain ⟨v2, σ2, τ2, c1, c2, c3, c4, c5⟩ := ih (i + 1) a' (ix_up σ1 120 2 (nI (i + 1))) τ1 (by omega) (by omega) (b7.upX (by omega)) b8 tx_us
        exact ⟨v2, σ2, τ2, c1, c2, (b3.tr (tx_FX.up (by omega))).tr c3, b4.tr c4, c5⟩
    · have e3 : ¬ σ 100 7 = 0 := fun q => e2 (i1.mp q)
      obtain ⟨σ1, τ1, b1, b2, b3, b4, b5⟩ := j_bl (b := b) (d := d) h 1
      rw [if_neg e3, iv_Bf e2, if_pos rfl, if_neg (fun q => e (hz.mp q)), b2]
      simp only [Option.bind_some, iv_tI]
      rw [if_pos trivial, b1]
      simp only [Option.bind_some, iv_tI]
      rw [if_neg hk, hk2, nI_1, g_end2 (by omega)]
      exact ⟨_, _, _, rfl, rfl, b4.FX.tr (tx_FX.up (by omega)), b5.FM, Or.inl ⟨rfl, b3.up⟩⟩
