/-! all lines of the law -/
theorem g_end0 {b : Bool} {σ : ix_St} {i : Nat} (hi : i ≤ 17) : ix_S 65 35 50 [some (.ref 105), some (.int 0), none, some (.int 0), some (.int (nI i))] [] (ix_S0 b, σ) = some (.int (-1), (ix_S0 b, σ)) := by
  rw [q_Parser_read_50]
  by_cases h : (16 : Int32) < nI i
  · rw [if_pos h, if_pos rfl]
  · rw [if_neg h, if_pos rfl, if_pos rfl]
theorem tx_D0.up {σ τ : ix_St} {i z j : Nat} {v : Int32} (h : tx_D0 σ τ i z) : tx_D0 (ix_up σ 120 j v) τ i z := by
  obtain ⟨h1, h2, ⟨h3, h4⟩, h5, h6, h7⟩ := h
  refine ⟨by rw [iv_upn (by omega)]; exact h1, h2, ⟨by rw [iv_upn (by omega)]; exact h3, h4⟩, h5, fun j hj => by rw [iv_upn (by omega)]; exact h6 j hj, fun l hl => (h7 l hl).cg (Nat.le_refl _) (fun y y1 y2 => by rw [iv_upn (by omega)]) (fun _ _ _ => rfl) (fun _ _ => ⟨rfl, rfl⟩)⟩
theorem g_loop0 {b d : Bool} {n t : Nat} {c : Nat → Nat} : ∀ (m i a z : Nat) (σ τ : ix_St), 16 - i = m → i ≤ 16 → z ≤ a → tx_J 0 c t n a σ τ → tx_D0 σ τ i z → σ 120 0 = nI i → ∃ v σ' τ', ix_S 65 35 50 [some (.ref 105), some (.int 0), none, some (.int 1), some (.int (nI i))] [] (ix_S0 b, σ) = some (.int v, (ix_S0 b, σ')) ∧ ix_S 237 9 2 [some (.ref 135), some (.int (nI i)), none] [] (ix_S0 d, τ) = some (.int v, (ix_S0 d, τ')) ∧ tx_FX σ σ' ∧ tx_FM τ τ' ∧ ((v = -1 ∧ tx_bad σ' τ') ∨ ∃ i' z' a', i' ≤ 16 ∧ v = nI i' ∧ tx_D0 σ' τ' i' z' ∧ σ' 120 0 = nI i' ∧ tx_J 0 c t n a' σ' τ') := by
  have hk : ¬ ((0 : Int32) < 0 ∨ 4 ≤ (0 : Int32).toNatClampNeg) := by decide
  have hk2 : (0 : Int32).toNatClampNeg = 0 := by decide
  intro m
  induction m with
  | zero =>
    intro i a z σ τ hm hi hza h hD h120
    obtain ⟨i1, i2⟩ := j_isL (d := d) h
    have hz : τ 135 16 = 0 ↔ (tx_tn c t a).1 = 0 := by
      have h4 := h.ok.1.1
      rw [h.2.2.2.2.1, show (0 : Int32) = nI 0 from rfl, nI_eq (by omega) (by omega)]
    have hE : σ 100 7 = 32 ↔ (tx_tn c t a).1 = 0 := j_isE h
    rw [q_Parser_read_50, if_neg (show ¬ (16 : Int32) < nI i from nI_nlt (a := 16) (by omega) (by omega)), if_neg (show ¬ (1 : Int32) = 0 by decide), q_M_readLaw_2, i2]
    simp only [Option.bind_some, iv_tI]
    by_cases e : (tx_tn c t a).1 = 0
    · rw [if_pos (hE.mpr e), if_neg (show ¬ (1 : Int32) = 0 by decide), if_neg hk, hk2, h120, iv_Bf (by omega), if_pos rfl, if_pos (hz.mpr e)]
      exact ⟨_, σ, τ, rfl, rfl, tx_FX.rf, tx_FM.rf, Or.inr ⟨i, z, a, by omega, rfl, hD, h120, h⟩⟩
    rw [if_neg (fun q => e (hE.mp q)), q_Parser_startsLine_0, if_pos (show (0 : Int32) = 0 from rfl)]
    by_cases e2 : (tx_tn c t a).1 = 2 ∧ (tx_tn c t a).2.1 ≤ 2
    · have e3 : ¬ (2 : Int32) < σ 100 7 := fun q => i1.mp q e2
      obtain ⟨σ1, τ1, b1, b2, b3, b4, b5⟩ := j_bl (b := b) (d := d) h 3
      rw [if_neg e3, iv_Bt e2, if_neg (show ¬ (1 : Int32) = 0 by decide), if_pos (show nI i = (16 : Int32) by rw [show i = 16 by omega]; rfl), b2]
      simp only [Option.bind_some, iv_tI]
      rw [if_neg (show ¬ (1 : Int32) = 0 by decide), if_pos (show nI i = (16 : Int32) by rw [show i = 16 by omega]; rfl), b1]
      simp only [Option.bind_some, iv_tI]
      rw [if_neg hk, hk2, nI_1, g_end0 (by omega)]
      exact ⟨_, _, _, rfl, rfl, b4.FX.tr (tx_FX.up (by omega)), b5.FM, Or.inl ⟨rfl, b3.up⟩⟩
    · have e3 : (2 : Int32) < σ 100 7 := i1.mpr e2
      obtain ⟨σ1, τ1, b1, b2, b3, b4, b5⟩ := j_bl (b := b) (d := d) h 1
      rw [if_pos e3, iv_Bf e2, if_pos (show (0 : Int32) = 0 from rfl), if_neg (fun q => e (hz.mp q)), b2]
      simp only [Option.bind_some, iv_tI]
      rw [if_pos trivial, b1]
      simp only [Option.bind_some, iv_tI]
      rw [if_neg hk, hk2, nI_1, g_end0 (by omega)]
      exact ⟨_, _, _, rfl, rfl, b4.FX.tr (tx_FX.up (by omega)), b5.FM, Or.inl ⟨rfl, b3.up⟩⟩
  | succ m ih =>
    intro i a z σ τ hm hi hza h hD h120
    obtain ⟨i1, i2⟩ := j_isL (d := d) h
    have hz : τ 135 16 = 0 ↔ (tx_tn c t a).1 = 0 := by
      have h4 := h.ok.1.1
      rw [h.2.2.2.2.1, show (0 : Int32) = nI 0 from rfl, nI_eq (by omega) (by omega)]
    have hE : σ 100 7 = 32 ↔ (tx_tn c t a).1 = 0 := j_isE h
    rw [q_Parser_read_50, if_neg (show ¬ (16 : Int32) < nI i from nI_nlt (a := 16) (by omega) (by omega)), if_neg (show ¬ (1 : Int32) = 0 by decide)]
    by_cases e : (tx_tn c t a).1 = 0
    · rw [q_M_readLaw_2, i2]
      simp only [Option.bind_some, iv_tI]
      rw [if_pos (hE.mpr e), if_neg (show ¬ (1 : Int32) = 0 by decide), if_neg hk, hk2, h120, iv_Bf (by omega), if_pos rfl, if_pos (hz.mpr e)]
      exact ⟨_, σ, τ, rfl, rfl, tx_FX.rf, tx_FM.rf, Or.inr ⟨i, z, a, by omega, rfl, hD, h120, h⟩⟩
    rw [if_neg (fun q => e (hE.mp q)), q_Parser_startsLine_0, if_pos (show (0 : Int32) = 0 from rfl)]
    by_cases e2 : (tx_tn c t a).1 = 2 ∧ (tx_tn c t a).2.1 ≤ 2
    · have e3 : ¬ (2 : Int32) < σ 100 7 := fun q => i1.mp q e2
      have e16 : ¬ nI i = (16 : Int32) := fun q => absurd ((nI_eq (b := 16) (by omega) (by omega)).mp q) (by omega)
      rw [if_neg e3]
      simp only [Option.bind_some, iv_tI]
      rw [if_neg (show ¬ (1 : Int32) = 0 by decide), if_neg e16, if_pos trivial]
      rcases l_law (b := b) (d := d) h.1.1.1 h e2 (show i < 16 by omega) hza hD with ⟨σ1, τ1, b1, b2, b3, b4, b5⟩ | ⟨a', z', σ1, τ1, b1, b2, b3, b4, b5, b6, b7, b8⟩
      · rw [b1, b2]
        simp only [Option.bind_some, iv_tI]
        rw [if_neg hk, hk2, nI_1, g_end0 (by omega)]
        exact ⟨_, _, _, rfl, rfl, b3.tr (tx_FX.up (by omega)), b4, Or.inl ⟨rfl, b5.up⟩⟩
      · rw [b3, b4]
        simp only [Option.bind_some, iv_tI]
        rw [if_neg hk, hk2, nI_1]
        obtain ⟨v2, σ2, τ2, c1, c2, c3, c4, c5⟩ := ih (i + 1) a' z' (ix_up σ1 120 0 (nI (i + 1))) τ1 (by omega) (by omega) b2 (b7.upX (by omega)) b8.up tx_us
        exact ⟨v2, σ2, τ2, c1, c2, (b5.tr (tx_FX.up (by omega))).tr c3, b6.tr c4, c5⟩
    · have e3 : (2 : Int32) < σ 100 7 := i1.mpr e2
      obtain ⟨σ1, τ1, b1, b2, b3, b4, b5⟩ := j_bl (b := b) (d := d) h 1
      rw [q_M_readLaw_2, i2]
      simp only [Option.bind_some, iv_tI]
      rw [if_pos e3, iv_Bf e2, if_pos (show (0 : Int32) = 0 from rfl), if_neg (fun q => e (hz.mp q)), b2]
      simp only [Option.bind_some, iv_tI]
      rw [if_pos trivial, b1]
      simp only [Option.bind_some, iv_tI]
      rw [if_neg hk, hk2, nI_1, g_end0 (by omega)]
      exact ⟨_, _, _, rfl, rfl, b4.FX.tr (tx_FX.up (by omega)), b5.FM, Or.inl ⟨rfl, b3.up⟩⟩
