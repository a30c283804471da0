/-! a line of the law, joint -/
theorem tx_D0.add {σ τ σ5 τ5 σ' τ' : ix_St} {i z B z5 : Nat} {wv : Int32} (hD : tx_D0 σ τ i z) (hw : iv_in wv 2) (f1 : ∀ y, 109 ≤ y → y ≤ 112 → σ5 y = σ y) (f2 : ∀ y, 146 ≤ y → y ≤ 149 → ∀ j, j ≠ 32 + i → τ5 y j = τ y j) (v1 : τ5 146 (32 + i) = wv) (v2 : τ5 147 (32 + i) = nI z) (v3 : τ5 148 (32 + i) = nI B) (hzB : z ≤ B) (hBz : B ≤ z5) (hz5 : z5 ≤ 400) (h8 : σ5 107 8 = nI z5) (h27 : τ5 135 27 = nI z5) (h28 : τ5 135 28 = 0) (hE : ∀ j, j < z5 → iv_enc (σ5 108 j) (τ5 150 (800 + j)) (τ5 151 (800 + j))) (hold : ∀ j, j < z → τ5 150 (800 + j) = τ 150 (800 + j) ∧ τ5 151 (800 + j) = τ 151 (800 + j)) (hr1 : ∃ x, x ≠ 1 ∧ iv_run (fun j => τ5 150 (800 + j)) (fun j => τ5 151 (800 + j)) (B - z) z [] [x]) (hr2 : B < z5 → iv_run (fun j => τ5 150 (800 + j)) (fun j => τ5 151 (800 + j)) (z5 - B) B [] [1]) (hfa : tx_fa (ix_up (ix_up (ix_up (ix_up (ix_up σ5 109 i wv) 110 i (nI z)) 111 i (nI B)) 112 i (σ5 107 8)) 107 7 (nI (i + 1))) σ') (hfb : tx_fb (ix_up τ5 149 (32 + i) (τ5 135 27)) τ') : tx_D0 σ' τ' (i + 1) z5 := by
  obtain ⟨d7, dz, ⟨d8, d27⟩, d28, dE, dL⟩ := hD
  have c150 : τ' 150 = τ5 150 := by rw [hfb.1 150 (by omega), iv_upn (by omega)]
  have c151 : τ' 151 = τ5 151 := by rw [hfb.1 151 (by omega), iv_upn (by omega)]
  have s108 : σ' 108 = σ5 108 := by rw [hfa.1 108 (by omega) (by omega), iv_upn (by omega), iv_upn (by omega), iv_upn (by omega), iv_upn (by omega), iv_upn (by omega)]
  have s109 : σ' 109 = ix_up σ5 109 i wv 109 := by rw [hfa.1 109 (by omega) (by omega), iv_upn (by omega), iv_upn (by omega), iv_upn (by omega), iv_upn (by omega)]
  have s110 : ∀ j, σ' 110 j = ix_up (ix_up σ5 109 i wv) 110 i (nI z) 110 j := fun j => by rw [hfa.1 110 (by omega) (by omega), iv_upn (by omega), iv_upn (by omega), iv_upn (by omega)]
  have s111 : ∀ j, σ' 111 j = ix_up (ix_up (ix_up σ5 109 i wv) 110 i (nI z)) 111 i (nI B) 111 j := fun j => by rw [hfa.1 111 (by omega) (by omega), iv_upn (by omega), iv_upn (by omega)]
  have s112 : ∀ j, σ' 112 j = ix_up (ix_up (ix_up (ix_up σ5 109 i wv) 110 i (nI z)) 111 i (nI B)) 112 i (σ5 107 8) 112 j := fun j => by rw [hfa.1 112 (by omega) (by omega), iv_upn (by omega)]
  have t149 : ∀ j, τ' 149 j = ix_up τ5 149 (32 + i) (τ5 135 27) 149 j := fun j => by rw [hfb.1 149 (by omega)]
  have t146 : ∀ y, 146 ≤ y → y ≤ 148 → τ' y = τ5 y := fun y y1 y2 => by rw [hfb.1 y (by omega), iv_upn (by omega)]
  refine ⟨?_, hz5, ⟨?_, ?_⟩, ?_, fun j hj => ?_, fun l hl => ?_⟩
  · rw [hfa.1 107 (by omega) (by omega), tx_us]
  · rw [hfa.1 107 (by omega) (by omega), tx_un (by omega), iv_upn (by omega), iv_upn (by omega), iv_upn (by omega), iv_upn (by omega), h8]
  · rw [hfb.2 27 (by omega) (by omega) (by omega) (by omega) (by omega) (by omega), iv_upn (by omega), h27]
  · rw [hfb.2 28 (by omega) (by omega) (by omega) (by omega) (by omega) (by omega), iv_upn (by omega), h28]
  · rw [c150, c151, s108]; exact hE j hj
  · by_cases e : l = i
    · rw [e]
      unfold tx_ln
      rw [s109, s110, s111, s112, t149, t146 146 (by omega) (by omega), t146 147 (by omega) (by omega), t146 148 (by omega) (by omega), c150, c151, tx_us, tx_us, tx_us, tx_us, tx_us, v1, v2, v3, h8, h27]
      exact ⟨hw, rfl, z, B, z5, hzB, hBz, Nat.le_refl _, rfl, rfl, rfl, rfl, rfl, rfl, hr1, hr2⟩
    · refine (dL l (by omega)).cg (by omega) (fun y y1 y2 => ?_) (fun y y1 y2 => ?_) (fun j hj => ?_)
      · have hy : y = 109 ∨ y = 110 ∨ y = 111 ∨ y = 112 := by omega
        rcases hy with rfl | rfl | rfl | rfl
        · rw [s109, tx_un e, f1 109 (by omega) (by omega)]
        · rw [s110, tx_un e, iv_upn (by omega), f1 110 (by omega) (by omega)]
        · rw [s111, tx_un e, iv_upn (by omega), iv_upn (by omega), f1 111 (by omega) (by omega)]
        · rw [s112, tx_un e, iv_upn (by omega), iv_upn (by omega), iv_upn (by omega), f1 112 (by omega) (by omega)]
      · by_cases ey : y = 149
        · rw [ey, t149, tx_un (by omega)]
          exact f2 149 (by omega) (by omega) _ (by omega)
        · rw [t146 y y1 (by omega)]
          exact f2 y y1 y2 _ (by omega)
      · rw [c150, c151]; exact hold j hj
section Lw
variable {b d : Bool} {n a t i z : Nat} {c : Nat → Nat} {σ τ : ix_St}
theorem l_law (hn : n ≤ 400) (h : tx_J 0 c t n a σ τ) (hw : (tx_tn c t a).1 = 2 ∧ (tx_tn c t a).2.1 ≤ 2) (hi : i < 16) (hza : z ≤ a) (hD : tx_D0 σ τ i z) :
    (∃ σ' τ', ix_F 69 [.ref 105] (ix_S0 b, σ) = some (.int 0, (ix_S0 b, σ')) ∧ ix_S 237 9 2 [some (.ref 135), some (.int (nI i)), none] [] (ix_S0 d, τ) = some (.int (-1), (ix_S0 d, τ')) ∧ tx_FX σ σ' ∧ tx_FM τ τ' ∧ tx_bad σ' τ') ∨
    ∃ a' z' σ' τ', a < a' ∧ z' ≤ a' ∧ ix_F 69 [.ref 105] (ix_S0 b, σ) = some (.int 1, (ix_S0 b, σ')) ∧ ix_S 237 9 2 [some (.ref 135), some (.int (nI i)), none] [] (ix_S0 d, τ) = ix_S 237 9 2 [some (.ref 135), some (.int (nI (i + 1))), none] [] (ix_S0 d, τ') ∧ tx_FX σ σ' ∧ tx_FM τ τ' ∧ tx_J 0 c t n a' σ' τ' ∧ tx_D0 σ' τ' (i + 1) z' := by
  have hD' := hD
  obtain ⟨d7, dz, ⟨d8, d27⟩, d28, dE, dL⟩ := hD'
  have han : a < n := h.lt (by omega)
  have hin : ¬ (nI (32 + i) < 0 ∨ 48 ≤ 32 + i) := tx_in (by omega) (by omega)
  have e32 : (32 : Int32) + nI i = nI (32 + i) := nI_add 32 i
  obtain ⟨-, rL⟩ := j_isL (d := d) h
  have wv : σ 100 7 = nI (tx_tn c t a).2.1 := by
    rw [h.kind, hw.1]
    show nI (if (tx_tn c t a).2.1 < 18 then (tx_tn c t a).2.1 else 31) = _
    rw [if_pos (by omega)]
  have wm : τ 135 17 = nI (tx_tn c t a).2.1 := h.2.2.2.2.2 (by omega)
  rw [q_Parser_readLaw_0, q_M_readLaw_2, rL, iv_Bt hw]
  simp only [Option.bind_some, iv_tI]
  rw [if_neg (show ¬ (1 : Int32) = 0 by decide), if_neg (show ¬ nI i = (16 : Int32) from fun q => absurd ((nI_eq (b := 16) (by omega) (by omega)).mp q) (by omega)), e32, nI_clamp (show 32 + i < 2 ^ 31 by omega), if_neg hin, d8]
  obtain ⟨σ1, τ1, a1, a2, a3, a4, a5, -⟩ := j_adv (b := b) (d := d) (h.upM (z := 146) (i := 32 + i) (v := τ 135 17) (by omega)) han
  rw [a1, a2]
  simp only [Option.bind_some]
  rw [if_neg hin]
  have t1 : ∀ y, y ≠ 135 → y ≠ 146 → τ1 y = τ y := fun y y1 y2 => by rw [a5.1 y y1, iv_upn y2]
  have t1j : ∀ j, j = 27 ∨ j = 28 → τ1 135 j = τ 135 j := fun j hj => by rw [a5.2 j (by omega) (by omega) (by omega) (by omega) (by omega) (by omega), iv_upn (by omega)]
  have s1 : ∀ y, y ≠ 100 → y ≠ 105 → σ1 y = σ y := a4.1
  have hc1 : tx_cd σ1 (ix_up τ1 147 (32 + i) (τ1 135 27)) z z [] [] := by
    refine ⟨⟨Nat.le_refl _, dz⟩, ⟨?_, ?_⟩, fun j hj => ?_, by rw [Nat.sub_self]; rfl⟩
    · rw [s1 107 (by omega) (by omega), d8]
    · rw [iv_upn (by omega), t1j 27 (by omega), d27]
    · rw [s1 108 (by omega) (by omega), iv_upn (by omega), iv_upn (by omega), t1 150 (by omega) (by omega), t1 151 (by omega) (by omega)]
      exact dE j hj
  have fM1 : tx_FM τ (ix_up τ1 147 (32 + i) (τ1 135 27)) := ((tx_FM.up (z := 146) (i := 32 + i) (v := τ 135 17) (by omega)).tr a5.FM).tr (tx_FM.up (by omega))
  rcases j_sum (b := b) (d := d) (z0 := z) (T := []) (B := []) hn (by decide) (a := a + 1) (z := z) (by omega) (by omega) (by omega) (a3.upM (z := 147) (i := 32 + i) (v := τ1 135 27) (by omega)) hc1 with ⟨σ', τ', u1, u2, u3, u4, u5⟩ | ⟨a2', z2, x, σ2, τ2, u1, ⟨u2, u3⟩, u4, u5, u6, u7, u8, u9, u10, u11, u12, u13⟩
  · rw [u1, u2]
    simp only [Option.bind_some, iv_tI]
    rw [if_pos trivial, if_pos trivial]
    exact Or.inl ⟨σ', τ', rfl, rfl, a4.FX.tr u3.FX, fM1.tr u4.ld.FM, u5⟩
  · rw [u7, u8]
    simp only [Option.bind_some, iv_tI]
    rw [if_neg (show ¬ (1 : Int32) = 0 by decide), if_neg (show ¬ (0 : Int32) = -1 by decide), if_neg hin]
    have b8 : σ2 107 8 = nI z2 := u10.2.1.1
    have b27 : τ2 135 27 = nI z2 := u10.2.1.2
    have s2 : ∀ y, 109 ≤ y → y ≤ 112 → σ2 y = σ y := fun y y1 y2 => (u11.1 y (by omega) (by omega) (by omega) (by omega)).trans (s1 y (by omega) (by omega))
    have s27 : σ2 107 7 = nI i := by rw [u11.2.2 7 (by omega), s1 107 (by omega) (by omega), d7]
    have t2 : ∀ y, y ≠ 135 → y ≠ 150 → y ≠ 151 → τ2 y = ix_up τ1 147 (32 + i) (τ1 135 27) y := u12.1
    have t28 : τ2 135 28 = 0 := by rw [u12.2.1 28 (by omega), iv_upn (by omega), t1j 28 (by omega), d28]
    have fX2 : tx_FX σ σ2 := a4.FX.tr u11.FX
    have fM2 : tx_FM τ (ix_up τ2 148 (32 + i) (τ2 135 27)) := (fM1.tr u12.ld.FM).tr (tx_FM.up (by omega))
    have q146 : ∀ j, ix_up τ2 148 (32 + i) (τ2 135 27) 146 j = ix_up τ 146 (32 + i) (τ 135 17) 146 j := fun j => by rw [iv_upn (by omega), t2 146 (by omega) (by omega) (by omega), iv_upn (by omega), a5.1 146 (by omega)]
    have q147 : ∀ j, ix_up τ2 148 (32 + i) (τ2 135 27) 147 j = ix_up τ1 147 (32 + i) (τ1 135 27) 147 j := fun j => by rw [iv_upn (by omega), t2 147 (by omega) (by omega) (by omega)]
    have p2 : ∀ y, 146 ≤ y → y ≤ 149 → ∀ j, j ≠ 32 + i → ix_up τ2 148 (32 + i) (τ2 135 27) y j = τ y j := by
      intro y y1 y2 j hj
      have hy : y = 146 ∨ y = 147 ∨ y = 148 ∨ y = 149 := by omega
      rcases hy with rfl | rfl | rfl | rfl
      · rw [q146, tx_un hj]
      · rw [q147, tx_un hj, t1 147 (by omega) (by omega)]
      · rw [tx_un hj, t2 148 (by omega) (by omega) (by omega), iv_upn (by omega), t1 148 (by omega) (by omega)]
      · rw [iv_upn (by omega), t2 149 (by omega) (by omega) (by omega), iv_upn (by omega), t1 149 (by omega) (by omega)]
    have p146 : ix_up τ2 148 (32 + i) (τ2 135 27) 146 (32 + i) = σ 100 7 := by rw [q146, tx_us, wv, wm]
    have p147 : ix_up τ2 148 (32 + i) (τ2 135 27) 147 (32 + i) = nI z := by rw [q147, tx_us, t1j 27 (by omega), d27]
    have p148 : ix_up τ2 148 (32 + i) (τ2 135 27) 148 (32 + i) = nI z2 := by rw [tx_us, b27]
    have c2 : ∀ y, y = 150 ∨ y = 151 → ix_up τ2 148 (32 + i) (τ2 135 27) y = τ2 y := fun y hy => iv_upn (by omega)
    have hold2 : ∀ j, j < z → τ2 150 (800 + j) = τ 150 (800 + j) ∧ τ2 151 (800 + j) = τ 151 (800 + j) := by
      intro j hj
      obtain ⟨-, o2, o3⟩ := u13 j hj
      rw [o2, o3, iv_upn (by omega), iv_upn (by omega), t1 150 (by omega) (by omega), t1 151 (by omega) (by omega)]
      exact ⟨rfl, rfl⟩
    have hJ2 : tx_J 0 c t n a2' σ2 (ix_up τ2 148 (32 + i) (τ2 135 27)) := u9.upM (by omega)
    obtain ⟨w3, s3⟩ := j_isW (d := d) hJ2 (w := 3) (g := 3) (by omega) (by omega) (tx_wds.2.2.2.2.2.2.2 3 (by omega))
    have s3' : ix_F 254 [.ref 135, .int (3 : Int32)] (ix_S0 d, (ix_up τ2 148 (32 + i) (τ2 135 27))) = _ := s3
    rw [s3', b8]
    by_cases e3 : (tx_tn c t a2').1 = 2 ∧ (tx_tn c t a2').2.1 = 3
    · have k3 : σ2 100 7 = 3 := w3.mpr e3
      have han2 : a2' < n := u9.lt (by omega)
      obtain ⟨σ3, τ3, c1, c2', c3, c4, c5, -⟩ := j_adv (b := b) (d := d) hJ2 han2
      rw [if_pos k3, c1, iv_Bt e3]
      simp only [Option.bind_some, iv_tI]
      rw [if_neg (show ¬ (1 : Int32) = 0 by decide), c2']
      simp only [Option.bind_some]
      have s3a : ∀ y, y ≠ 100 → y ≠ 105 → σ3 y = σ2 y := c4.1
      have t3 : ∀ y, y ≠ 135 → τ3 y = ix_up τ2 148 (32 + i) (τ2 135 27) y := c5.1
      have t3j : ∀ j, j = 27 ∨ j = 28 → τ3 135 j = τ2 135 j := fun j hj => by rw [c5.2 j (by omega) (by omega) (by omega) (by omega) (by omega) (by omega), iv_upn (by omega)]
      rcases j_any (b := b) (d := d) (z := z2) hn (show z2 + 1 ≤ a2' + 1 by omega) (by omega) c3 ⟨by rw [s3a 107 (by omega) (by omega), b8], by rw [t3j 27 (by omega), b27]⟩ (by omega) (fun j hj => by rw [s3a 108 (by omega) (by omega), t3 150 (by omega), t3 151 (by omega), c2 150 (by omega), c2 151 (by omega)]; exact u10.2.2.1 j hj) (by rw [t3j 28 (by omega), t28]) with ⟨σ', τ', y1, y2, y3, y4, y5⟩ | ⟨a4', z4, σ4, τ4, y1, y2, y3, y4, y5, y6, y7, y8, y9, y10⟩
      · rw [y1, y2]
        simp only [Option.bind_some, iv_tI]
        rw [if_pos trivial, if_pos trivial]
        exact Or.inl ⟨σ', τ', rfl, rfl, (fX2.tr c4.FX).tr y3.FX, (fM2.tr c5.FM).tr y4.FM, y5⟩
      · rw [y5, y6]
        simp only [Option.bind_some, iv_tI]
        rw [if_neg (show ¬ (1 : Int32) = 0 by decide), if_neg (show ¬ (0 : Int32) = -1 by decide), if_neg hin]
        have fX4 : tx_FX σ σ4 := (fX2.tr c4.FX).tr y10.1.FX
        have fM4 : tx_FM τ τ4 := (fM2.tr c5.FM).tr y10.2.1.FM
        have t4 : ∀ y, 146 ≤ y → y ≤ 149 → τ4 y = ix_up τ2 148 (32 + i) (τ2 135 27) y := fun y g1 g2 => (y10.2.1.1 y (by omega) (by omega) (by omega) (by omega)).trans (t3 y (by omega))
        have c4z : ∀ j, j < z2 → τ4 150 (800 + j) = τ2 150 (800 + j) ∧ τ4 151 (800 + j) = τ2 151 (800 + j) := by
          intro j hj
          obtain ⟨-, o2, o3⟩ := y10.2.2 j hj
          rw [o2, o3, t3 150 (by omega), t3 151 (by omega), c2 150 (by omega), c2 151 (by omega)]
          exact ⟨rfl, rfl⟩
        rcases l_tail (b := b) (d := d) (wv := σ 100 7) (v2 := nI z) (v3 := nI z2) y7 hi (by rw [y10.1.2.2 7 (by omega), s3a 107 (by omega) (by omega), s27]) with ⟨σ', τ', x1, x2, x3, x4, x5⟩ | ⟨σ', τ', x1, x2, x3, x4, x5, x6⟩
        · exact Or.inl ⟨σ', τ', x1, x2, fX4.tr x3, fM4.tr x4, x5⟩
        · refine Or.inr ⟨a4' + 1, z4, σ', τ', by omega, by omega, x1, x2, (fX4.tr (((((tx_FX.up (by omega)).tr (tx_FX.up (by omega))).tr (tx_FX.up (by omega))).tr (tx_FX.up (by omega))).tr (tx_FX.up (by omega)))).tr x5.FX, (fM4.tr (tx_FM.up (by omega))).tr x6.FM, x4, ?_⟩
          refine tx_D0.add (σ5 := σ4) (τ5 := τ4) (B := z2) hD ⟨_, hw.2, wv⟩ (fun y g1 g2 => (y10.1.1 y (by omega) (by omega) (by omega) (by omega)).trans ((s3a y (by omega) (by omega)).trans (s2 y g1 g2))) (fun y g1 g2 j hj => by rw [t4 y g1 g2]; exact p2 y g1 g2 j hj) (by rw [t4 146 (by omega) (by omega)]; exact p146) (by rw [t4 147 (by omega) (by omega)]; exact p147) (by rw [t4 148 (by omega) (by omega)]; exact p148) u5 y3 y8.1.2 y8.2.1.1 y8.2.1.2 y9 y8.2.2.1 (fun j hj => ?_) ⟨x, u6, tx_run_cg _ _ _ _ (fun j j1 j2 => c4z j (by omega)) u10.2.2.2⟩ (fun _ => y8.2.2.2) x5 x6
          rw [(c4z j (by omega)).1, (c4z j (by omega)).2]
          exact hold2 j hj
    · have k3 : ¬ σ2 100 7 = 3 := fun q => e3 (w3.mp q)
      rw [if_neg k3, iv_Bf e3]
      simp only [Option.bind_some, iv_tI]
      rw [if_pos trivial, if_neg hin]
      rcases l_tail (b := b) (d := d) (wv := σ 100 7) (v2 := nI z) (v3 := nI z2) hJ2 hi s27 with ⟨σ', τ', x1, x2, x3, x4, x5⟩ | ⟨σ', τ', x1, x2, x3, x4, x5, x6⟩
      · exact Or.inl ⟨σ', τ', x1, x2, fX2.tr x3, fM2.tr x4, x5⟩
      · refine Or.inr ⟨a2' + 1, z2, σ', τ', by omega, by omega, x1, x2, (fX2.tr (((((tx_FX.up (by omega)).tr (tx_FX.up (by omega))).tr (tx_FX.up (by omega))).tr (tx_FX.up (by omega))).tr (tx_FX.up (by omega)))).tr x5.FX, (fM2.tr (tx_FM.up (by omega))).tr x6.FM, x4, ?_⟩
        refine tx_D0.add (σ5 := σ2) (τ5 := ix_up τ2 148 (32 + i) (τ2 135 27)) (B := z2) hD ⟨_, hw.2, wv⟩ s2 p2 p146 p147 p148 u5 (Nat.le_refl _) u10.1.2 b8 (by rw [iv_upn (by omega), b27]) (by rw [iv_upn (by omega), t28]) (fun j hj => by rw [c2 150 (by omega), c2 151 (by omega)]; exact u10.2.2.1 j hj) (fun j hj => by rw [c2 150 (by omega), c2 151 (by omega)]; exact hold2 j hj) ⟨x, u6, by rw [c2 150 (by omega), c2 151 (by omega)]; exact u10.2.2.2⟩ (fun q => absurd q (Nat.lt_irrefl _)) x5 x6
end Lw
