/-! undo, the book, stay -/
theorem f_backX (b : Bool) {σ : ix_St} {p q : Nat} (hp : p < 6) (hq : q ≤ 6) (h0 : 0 < q) (h2 : σ 55 2 = nI p) (h3 : σ 55 3 = nI q) : ix_F 85 [.ref 55, .ref 1] (ix_S0 b, σ) = some (.int 1, (ix_S0 b, ix_up (iv_cpr (ix_up (ix_up σ 55 2 (nI ((p + 5) % 6))) 55 3 (nI (q - 1))) (58 + 7 * ((p + 5) % 6)) 2) 9 1 (σ 57 ((p + 5) % 6)))) := by
  have e1 : nI p + 6 - 1 - (nI p + 6 - 1) / 6 * 6 = nI ((p + 5) % 6) := by
    have : nI p + 6 - 1 = nI (p + 5) := by
      rw [show (6 : Int32) = nI 6 from rfl, nI_add, show (1 : Int32) = nI 1 from rfl, pk_sub (by omega)]
      rfl
    rw [this]
    exact iv_mod6 (by omega)
  have e2 : nI q - 1 = nI (q - 1) := pk_sub (b := 1) (by omega)
  generalize hs : (p + 5) % 6 = s at e1 ⊢
  have hs6 : s < 6 := by omega
  have key : ∀ z, z < 6 → z = s → ((ix_F 127 [.ref 2, .ref (58 + 7 * z)] (ix_S0 b, (ix_up (ix_up σ 55 2 (nI s)) 55 3 (nI (q - 1))))).bind fun x1 => (if (x1.2.2 55 2) < 0 ∨ 6 ≤ (x1.2.2 55 2).toNatClampNeg then none else some (Value.int (1 : Int32), (ix_S0 b, (ix_up x1.2.2 9 1 (x1.2.2 57 (x1.2.2 55 2).toNatClampNeg)))))) = some (.int 1, (ix_S0 b, ix_up (iv_cpr (ix_up (ix_up σ 55 2 (nI s)) 55 3 (nI (q - 1))) (58 + 7 * s) 2) 9 1 (σ 57 s))) := by
    intro z hz e
    subst e
    rw [f_cpOf b _ hz]
    simp only [Option.bind_some]
    have g1 : iv_cpr (ix_up (ix_up σ 55 2 (nI z)) 55 3 (nI (q - 1))) (58 + 7 * z) 2 55 = ix_up (ix_up σ 55 2 (nI z)) 55 3 (nI (q - 1)) 55 := iv_cpr_out (by omega)
    have g2 : iv_cpr (ix_up (ix_up σ 55 2 (nI z)) 55 3 (nI (q - 1))) (58 + 7 * z) 2 57 = σ 57 := (iv_cpr_out (by omega)).trans ((iv_upn (by omega)).trans (iv_upn (by omega)))
    have g3 : iv_cpr (ix_up (ix_up σ 55 2 (nI z)) 55 3 (nI (q - 1))) (58 + 7 * z) 2 55 2 = nI z := by rw [g1]; rfl
    rw [g3, g2, if_neg (nI_in (by omega) (by omega)), nI_clamp (by omega)]
  rw [q_Past_goBack_0, h2, h3, if_neg (nI_ne0 h0 (by omega)), e1, e2, if_neg (nI_in (by omega) (by omega)), nI_clamp (by omega)]
  have h6 : s = 0 ∨ s = 1 ∨ s = 2 ∨ s = 3 ∨ s = 4 ∨ s = 5 := by omega
  rcases h6 with h | h | h | h | h | h
  · rw [if_pos h]; exact key 0 (by omega) h.symm
  · rw [if_neg (by omega), if_pos h]; exact key 1 (by omega) h.symm
  · rw [if_neg (by omega), if_neg (by omega), if_pos h]; exact key 2 (by omega) h.symm
  · rw [if_neg (by omega), if_neg (by omega), if_neg (by omega), if_pos h]; exact key 3 (by omega) h.symm
  · rw [if_neg (by omega), if_neg (by omega), if_neg (by omega), if_neg (by omega), if_pos h]; exact key 4 (by omega) h.symm
  · rw [if_neg (by omega), if_neg (by omega), if_neg (by omega), if_neg (by omega), if_neg (by omega), if_pos h]; exact key 5 (by omega) h.symm
theorem f_ucopy (b : Bool) {q : Nat} (hq : q ≤ 5) : ∀ m i σ, i + m = 54 → σ 135 3 = nI q → ∃ σ', ix_S 185 1 26 [some (.ref 135), some (.int (nI i))] [] (ix_S0 b, σ) = some (.int 1, (ix_S0 b, σ')) ∧ (∀ c, c ≠ 136 → σ' c = σ c) ∧ ∀ j, σ' 136 j = if i ≤ j ∧ j < 54 then σ 137 (54 * q + j) else σ 136 j := by
  intro m
  induction m with
  | zero =>
    intro i σ hi h5
    refine ⟨σ, by rw [q_M_undo_26, if_pos (show (54 : Int32) ≤ nI i from nI_le (a := 54) (by omega) (by omega))], fun c h1 => rfl, fun j => ?_⟩
    rw [if_neg (by omega)]
  | succ m ih =>
    intro i σ hi h5
    obtain ⟨σ', e, f, h⟩ := ih (i + 1) (ix_up σ 136 i (σ 137 (54 * q + i))) (by omega) h5
    refine ⟨σ', ?_, fun c h1 => ?_, fun j => ?_⟩
    · rw [q_M_undo_26, if_neg (show ¬ (54 : Int32) ≤ nI i from nI_ge (b := 54) (by omega) (by omega)), h5, show (54 : Int32) = nI 54 from rfl, pk_mul, nI_add, if_neg (nI_in (by omega) (by omega)), if_neg (nI_in (by omega) (by omega)), nI_clamp (by omega), nI_clamp (by omega), nI_1]
      exact e
    · rw [f c h1, iv_upn h1]
    · rw [h j]
      show (if _ then σ 137 _ else upd (σ 136) i (σ 137 (54 * q + i)) j) = _
      by_cases h1 : i + 1 ≤ j ∧ j < 54
      · rw [if_pos h1, if_pos (by omega)]
      · rw [if_neg h1]
        by_cases h2 : j = i
        · subst h2
          rw [pk_us, if_pos (by omega)]
        · rw [pk_un h2, if_neg (by omega)]
theorem s_undo (E : ix_St) : iv_S E 30 185 [] := by
  intro k b c σ τ hk hE hR
  have hK := iv_R_keep iv_kX.rf (iv_kM_told τ 0) hR
  obtain ⟨n, o, hn, ⟨hriv, ⟨⟨b1, t, ht, hb2, hb3⟩, hbk⟩, hw⟩, hpast, htape, hoth, himg⟩ := iv_R_up (Nat.le_succ k) hR
  obtain ⟨p, q, h1, h2, h3, h4, h5, h6⟩ := hpast
  by_cases hq : q = 0
  · subst hq
    rw [q_X_undo_0, q_M_undo_0, q_Past_goBack_0, h4, h5, if_pos (show nI 0 = 0 from rfl), if_pos (show nI 0 = 0 from rfl)]
    simp only [Option.bind_some, iv_tI, if_true, true_or]
    exact ⟨_, b, _, _, rfl, rfl, hK⟩
  · obtain ⟨τ', eM, fM, gM⟩ := f_ucopy c (q := q - 1) (by omega) 54 0 (ix_up (ix_up τ 135 0 0) 135 3 (nI (q - 1))) (by omega) rfl
    obtain ⟨s, o', s1, s2, s3, s4, s5⟩ := h6 (q - 1) (by omega)
    have hs : (p + 5) % 6 = s := by omega
    have fX := f_backX b h1 h2 (by omega) h3 h4
    rw [hs] at fX
    have row : ∀ z, 9 < z → z ≠ 55 → ix_up (iv_cpr (ix_up (ix_up σ 55 2 (nI s)) 55 3 (nI (q - 1))) (58 + 7 * s) 2) 9 1 (σ 57 s) z = σ z := fun z z1 z2 => by rw [iv_upn (by omega), iv_cpr_out (by omega), iv_upn z2, iv_upn z2]
    have r0 : ∀ z, z < 2 → ix_up (iv_cpr (ix_up (ix_up σ 55 2 (nI s)) 55 3 (nI (q - 1))) (58 + 7 * s) 2) 9 1 (σ 57 s) z = σ z := fun z z1 => by rw [iv_upn (by omega), iv_cpr_out (by omega), iv_upn (by omega), iv_upn (by omega)]
    have in8 : ∀ z, 2 ≤ z → z < 9 → ix_up (iv_cpr (ix_up (ix_up σ 55 2 (nI s)) 55 3 (nI (q - 1))) (58 + 7 * s) 2) 9 1 (σ 57 s) z = iv_cpr (ix_up (ix_up σ 55 2 (nI s)) 55 3 (nI (q - 1))) (58 + 7 * s) 2 z := fun z z1 z2 => iv_upn (by omega)
    have src : ∀ z, 58 ≤ z → ix_up (ix_up σ 55 2 (nI s)) 55 3 (nI (q - 1)) z = σ z := fun z z1 => by rw [iv_upn (by omega), iv_upn (by omega)]
    have q0 : ¬ nI q = 0 := nI_ne0 (by omega) (by omega)
    have q1 : nI q - 1 = nI (q - 1) := pk_sub (b := 1) (by omega)
    have gM' : ∀ j, j < 54 → τ' 136 j = τ 137 (54 * (q - 1) + j) := fun j hj => by rw [gM j, if_pos (by omega)]; rfl
    have f135 : τ' 135 = upd (upd (τ 135) 0 0) 3 (nI (q - 1)) := fM 135 (by omega)
    have h9 : (ix_up (iv_cpr (ix_up (ix_up σ 55 2 (nI s)) 55 3 (nI (q - 1))) (58 + 7 * s) 2) 9 1 (σ 57 s)) 9 1 = σ 57 s := rfl
    have h552 : (ix_up (iv_cpr (ix_up (ix_up σ 55 2 (nI s)) 55 3 (nI (q - 1))) (58 + 7 * s) 2) 9 1 (σ 57 s)) 55 2 = nI s := by rw [iv_upn (by omega), iv_cpr_out (by omega)]; rfl
    have h553 : (ix_up (iv_cpr (ix_up (ix_up σ 55 2 (nI s)) 55 3 (nI (q - 1))) (58 + 7 * s) 2) 9 1 (σ 57 s)) 55 3 = nI (q - 1) := by rw [iv_upn (by omega), iv_cpr_out (by omega)]; rfl
    generalize ix_up (iv_cpr (ix_up (ix_up σ 55 2 (nI s)) 55 3 (nI (q - 1))) (58 + 7 * s) 2) 9 1 (σ 57 s) = σ' at *
    refine ⟨1, b, σ', τ', ?_, ?_, n, o', hn, ⟨?_, ⟨⟨?_, ?_⟩, ?_⟩, ?_⟩, ?_, ?_, ?_, ?_⟩
    · rw [q_X_undo_0, fX]
      simp only [Option.bind_some, iv_tI, or_true, if_true]
    · rw [q_M_undo_0, h5, if_neg q0, q1]
      exact eM
    · -- the river
      show iv_riv _ _ _ _ _ _ _ (τ' 136) (τ' 135 6) (τ' 139) (τ' 140) (τ' 141) _ n o'
      rw [in8 2 (by omega) (by omega), in8 3 (by omega) (by omega), in8 4 (by omega) (by omega), in8 5 (by omega) (by omega), in8 6 (by omega) (by omega), in8 7 (by omega) (by omega), in8 8 (by omega) (by omega), fM 139 (by omega), fM 140 (by omega), fM 141 (by omega), f135]
      refine iv_riv_eq s3 hn (fun i hi => ?_) (fun i hi => ?_) gM'
      · rw [iv_cpr_0 hi, src _ (by omega)]
      · have hr := iv_cpr_row (σ := ix_up (ix_up σ 55 2 (nI s)) 55 3 (nI (q - 1))) (p := 58 + 7 * s) (q := 2) (by omega) i hi
        rw [src _ (by omega), src _ (by omega), src _ (by omega), src _ (by omega), src _ (by omega), src _ (by omega)] at hr
        rw [show 58 + 7 * s + 1 = 59 + 7 * s by omega, show 58 + 7 * s + 2 = 60 + 7 * s by omega, show 58 + 7 * s + 3 = 61 + 7 * s by omega, show 58 + 7 * s + 4 = 62 + 7 * s by omega, show 58 + 7 * s + 5 = 63 + 7 * s by omega, show 58 + 7 * s + 6 = 64 + 7 * s by omega] at hr
        exact hr
    · show τ' 135 7 = nI n
      rw [f135]; exact b1
    · obtain ⟨y, hy, e⟩ := s5
      refine ⟨y, hy, ?_, ?_⟩
      · rw [h9]; exact e
      · show τ' 136 2 = _
        rw [gM' 2 (by omega), ← s4]; exact e
    · intro j hj
      show _ = τ' 142 j
      rw [row 10 (by omega) (by omega), fM 142 (by omega)]
      exact hbk j hj
    · have hm : ∀ f, 1 < f → iv_mv τ' f = iv_mv τ f := by
        intro f hf
        unfold iv_mv
        split
        all_goals first
          | omega
          | exact fM _ (by omega)
      have h1 : iv_mv τ' 1 = iv_mv τ 1 := by
        unfold iv_mv
        rw [f135, fM 145 (by omega)]
        rfl
      rw [h1, hm 5 (by omega), hm 6 (by omega), hm 7 (by omega), hm 8 (by omega), hm 9 (by omega), hm 11 (by omega), hm 12 (by omega), hm 13 (by omega), hm 14 (by omega), hm 15 (by omega), hm 16 (by omega), r0 1 (by omega), row 12 (by omega) (by omega), row 13 (by omega) (by omega), row 14 (by omega) (by omega), row 15 (by omega) (by omega), row 16 (by omega) (by omega), row 17 (by omega) (by omega), row 20 (by omega) (by omega), row 21 (by omega) (by omega), row 22 (by omega) (by omega), row 23 (by omega) (by omega), row 24 (by omega) (by omega), row 25 (by omega) (by omega), row 26 (by omega) (by omega), row 27 (by omega) (by omega)]
      exact hw
    · refine ⟨s, q - 1, s1, by omega, ?_, ?_, by rw [f135]; rfl, fun j hj => ?_⟩
      · exact h552
      · exact h553
      · obtain ⟨s', o'', z1, z2, z3, z4, z5⟩ := h6 j (by omega)
        refine ⟨s', o'', z1, by omega, ?_, ?_, ?_⟩
        · rw [row _ (by omega) (by omega), row _ (by omega) (by omega), row _ (by omega) (by omega), row _ (by omega) (by omega), row _ (by omega) (by omega), row _ (by omega) (by omega), row _ (by omega) (by omega), fM 137 (by omega), fM 139 (by omega), fM 140 (by omega), fM 141 (by omega), f135]
          exact z3
        · rw [row 57 (by omega) (by omega), fM 137 (by omega)]; exact z4
        · rw [row 57 (by omega) (by omega)]; exact z5
    · obtain ⟨y, hy, t1, t2, t3⟩ := htape
      refine ⟨y, hy, ?_, ?_, ?_⟩
      · rw [row 100 (by omega) (by omega)]; exact t1
      · rw [f135]; exact t2
      · rw [row 101 (by omega) (by omega), fM 143 (by omega)]; exact t3
    · obtain ⟨⟨y1, y2⟩, y3, y4⟩ := hoth
      refine ⟨⟨?_, ?_⟩, ?_, ?_⟩
      · rw [row 105 (by omega) (by omega), f135]; exact y1
      · rw [row 105 (by omega) (by omega), f135]; exact y2
      · rw [f135]; exact y3
      · rw [fM 144 (by omega)]; exact y4
    · unfold iv_img iv_wor at himg ⊢
      rw [r0 0 (by omega), f135, fM 163 (by omega)]
      simp only [Nat.reduceAdd, row 28 (by omega) (by omega), row 29 (by omega) (by omega), row 30 (by omega) (by omega), row 31 (by omega) (by omega), row 32 (by omega) (by omega), row 33 (by omega) (by omega), row 34 (by omega) (by omega), row 35 (by omega) (by omega), row 36 (by omega) (by omega), row 37 (by omega) (by omega), row 39 (by omega) (by omega), row 40 (by omega) (by omega), row 41 (by omega) (by omega), row 42 (by omega) (by omega), row 43 (by omega) (by omega), row 44 (by omega) (by omega), row 47 (by omega) (by omega), row 48 (by omega) (by omega), row 49 (by omega) (by omega), row 50 (by omega) (by omega), row 51 (by omega) (by omega), row 52 (by omega) (by omega), row 53 (by omega) (by omega), row 54 (by omega) (by omega)] at himg ⊢
      exact himg
