/-! a line of the law -/
theorem tx_la.FX {σ σ' : ix_St} (h : tx_la σ σ') : tx_FX σ σ' := ⟨fun z hz => h.1 z (by omega) (by omega) (by omega) (by omega), h.2.1 4 (by omega) (by omega)⟩
theorem tx_ld.FM {τ τ' : ix_St} (h : tx_ld τ τ') : tx_FM τ τ' := by
  have e : ∀ z, 146 ≤ z → z ≤ 149 ∨ z = 153 ∨ z = 154 ∨ z = 155 → τ' z = τ z := fun z h1 h2 => h.1 z (by omega) (by omega) (by omega) (by omega)
  refine ⟨fun z hz => h.1 z (by omega) (by omega) (by omega) (by omega), fun j hj => h.2.1 j (by omega), fun j _ => ?_, fun j hj => h.2.2 j hj, fun j _ => ?_, fun j _ => ?_⟩
  · rw [e 146 (by omega) (by omega), e 147 (by omega) (by omega), e 148 (by omega) (by omega), e 149 (by omega) (by omega), e 154 (by omega) (by omega)]
    exact ⟨rfl, rfl, rfl, rfl, rfl⟩
  · rw [e 153 (by omega) (by omega)]
  · rw [e 155 (by omega) (by omega)]
/-- a line of the draft, with z codes in all -/
def tx_ln (σ τ : ix_St) (z l : Nat) : Prop := iv_in (σ 109 l) 2 ∧ σ 109 l = τ 146 (32 + l) ∧ ∃ A B C : Nat, A ≤ B ∧ B ≤ C ∧ C ≤ z ∧ σ 110 l = nI A ∧ τ 147 (32 + l) = nI A ∧ σ 111 l = nI B ∧ τ 148 (32 + l) = nI B ∧ σ 112 l = nI C ∧ τ 149 (32 + l) = nI C ∧ (∃ x, x ≠ 1 ∧ iv_run (fun j => τ 150 (800 + j)) (fun j => τ 151 (800 + j)) (B - A) A [] [x]) ∧ (B < C → iv_run (fun j => τ 150 (800 + j)) (fun j => τ 151 (800 + j)) (C - B) B [] [1])
theorem tx_ln.cg {σ σ' τ τ' : ix_St} {z z' l : Nat} (h : tx_ln σ τ z l) (hz : z ≤ z') (h1 : ∀ y, 109 ≤ y → y ≤ 112 → σ' y l = σ y l) (h2 : ∀ y, 146 ≤ y → y ≤ 149 → τ' y (32 + l) = τ y (32 + l)) (h3 : ∀ j, j < z → τ' 150 (800 + j) = τ 150 (800 + j) ∧ τ' 151 (800 + j) = τ 151 (800 + j)) : tx_ln σ' τ' z' l := by
  obtain ⟨g1, g2, A, B, C, hAB, hBC, hCz, g3, g4, g5, g6, g7, g8, ⟨x, hx, g9⟩, g10⟩ := h
  unfold tx_ln
  rw [h1 109 (by omega) (by omega), h1 110 (by omega) (by omega), h1 111 (by omega) (by omega), h1 112 (by omega) (by omega), h2 146 (by omega) (by omega), h2 147 (by omega) (by omega), h2 148 (by omega) (by omega), h2 149 (by omega) (by omega)]
  exact ⟨g1, g2, A, B, C, hAB, hBC, by omega, g3, g4, g5, g6, g7, g8, ⟨x, hx, tx_run_cg _ _ _ _ (fun j j1 j2 => h3 j (by omega)) g9⟩, fun q => tx_run_cg _ _ _ _ (fun j j1 j2 => h3 j (by omega)) (g10 q)⟩
/-- the draft of a law: i lines, z codes -/
def tx_D0 (σ τ : ix_St) (i z : Nat) : Prop := σ 107 7 = nI i ∧ z ≤ 400 ∧ (σ 107 8 = nI z ∧ τ 135 27 = nI z) ∧ τ 135 28 = 0 ∧ (∀ j, j < z → iv_enc (σ 108 j) (τ 150 (800 + j)) (τ 151 (800 + j))) ∧ ∀ l, l < i → tx_ln σ τ z l
section Ln
variable {b d : Bool} {n a t i : Nat} {c : Nat → Nat} {σ τ : ix_St}
/-- does a line begin here? -/
theorem j_isL (h : tx_J 0 c t n a σ τ) : ((2 : Int32) < σ 100 7 ↔ ¬ ((tx_tn c t a).1 = 2 ∧ (tx_tn c t a).2.1 ≤ 2)) ∧ ix_F 259 [.ref 135] (ix_S0 d, τ) = some (.int (iv_B ((tx_tn c t a).1 = 2 ∧ (tx_tn c t a).2.1 ≤ 2)), (ix_S0 d, τ)) := by
  obtain ⟨⟨h1, -, -⟩, h2, -, h4⟩ := h.ok
  have hk := h.kind
  have hlt := tx_kd_lt (k := 0) (c := c) (t := t) (i := a)
  have hat := h.2.2.2.2.1
  have hat2 := h.2.2.2.2.2
  refine ⟨?_, ?_⟩
  · rw [hk, show (2 : Int32) = nI 2 from rfl, nI_ltI (by omega) (by omega)]
    generalize tx_tn c t a = x at h1 h2 h4 ⊢
    have h5 : x.1 = 0 ∨ x.1 = 1 ∨ x.1 = 2 ∨ x.1 = 3 ∨ x.1 = 4 := by omega
    rcases h5 with h | h | h | h | h
    · rw [h]; show 2 < 32 ↔ ¬ (0 = 2 ∧ _); omega
    · rw [h]; show 2 < 31 ↔ ¬ (1 = 2 ∧ _); omega
    · have h6 := h2 h
      rw [h]
      show 2 < (if x.2.1 < 18 then x.2.1 else 31) ↔ ¬ (2 = 2 ∧ _)
      by_cases e : x.2.1 < 18
      · rw [if_pos e]; omega
      · rw [if_neg e]; omega
    · rw [h]; show 2 < 33 ↔ ¬ (3 = 2 ∧ _); omega
    · rw [h]; show 2 < x.2.1 ↔ ¬ (4 = 2 ∧ _)
      have := tx_G_lt (h4 h)
      omega
  · rw [q_M_isLineWord_0, hat]
    by_cases e : (tx_tn c t a).1 = 2
    · have h6 := h2 e
      rw [if_pos (by rw [e]; rfl), hat2 (by omega), f_isIn]
      simp only [Option.bind_some, iv_tI]
      by_cases e2 : (tx_tn c t a).2.1 ≤ 2
      · rw [iv_Bt ⟨nI_pos' (by omega), nI_le (b := 2) e2 (by omega)⟩, if_neg (by decide), iv_Bt ⟨e, e2⟩]
      · rw [iv_Bf (fun q => absurd q.2 (show ¬ nI (tx_tn c t a).2.1 ≤ 2 from nI_ge (a := 2) (by omega) (by omega))), if_pos rfl, iv_Bf (fun q => e2 q.2)]
    · rw [if_neg (show ¬ nI (tx_tn c t a).1 = 2 from fun q => e ((nI_eq (b := 2) (by omega) (by omega)).mp q)), iv_Bf (fun q => e q.1)]
/-- where a line ends -/
theorem l_tail {wv v2 v3 : Int32} (h : tx_J 0 c t n a σ τ) (hi : i < 16) (h7 : σ 107 7 = nI i) :
    (∃ σ' τ', ((ix_F 57 [.ref 107, .int wv, .int v2, .int v3] (ix_S0 b, σ)).bind fun x5 => ((ix_F 75 [.ref 105, .int (59 : Int32)] (ix_S0 b, x5.2.2)).bind fun x6 => (if (ix_toI x6.1) = 0 ∨ (ix_toI x6.1) = 1 then some (Value.int (ix_toI x6.1), (ix_S0 b, x6.2.2)) else none))) = some (.int 0, (ix_S0 b, σ')) ∧ ((ix_F 262 [.ref 135, .int (59 : Int32)] (ix_S0 d, (ix_up τ 149 (32 + i) (τ 135 27)))).bind fun x7 => (if (ix_toI x7.1) = 0 then ((ix_F 255 [.ref 135, .int (1 : Int32)] (ix_S0 d, x7.2.2)).bind fun x8 => some (Value.int (ix_toI x8.1), (ix_S0 d, x8.2.2))) else ((ix_F 233 [.ref 135] (ix_S0 d, x7.2.2)).bind fun x9 => ix_S 237 9 2 [some (.ref 135), some (.int (nI i + (1 : Int32))), none] [] (ix_S0 d, x9.2.2)))) = some (.int (-1), (ix_S0 d, τ')) ∧ tx_FX σ σ' ∧ tx_FM τ τ' ∧ tx_bad σ' τ') ∨
    ∃ σ' τ', ((ix_F 57 [.ref 107, .int wv, .int v2, .int v3] (ix_S0 b, σ)).bind fun x5 => ((ix_F 75 [.ref 105, .int (59 : Int32)] (ix_S0 b, x5.2.2)).bind fun x6 => (if (ix_toI x6.1) = 0 ∨ (ix_toI x6.1) = 1 then some (Value.int (ix_toI x6.1), (ix_S0 b, x6.2.2)) else none))) = some (.int 1, (ix_S0 b, σ')) ∧ ((ix_F 262 [.ref 135, .int (59 : Int32)] (ix_S0 d, (ix_up τ 149 (32 + i) (τ 135 27)))).bind fun x7 => (if (ix_toI x7.1) = 0 then ((ix_F 255 [.ref 135, .int (1 : Int32)] (ix_S0 d, x7.2.2)).bind fun x8 => some (Value.int (ix_toI x8.1), (ix_S0 d, x8.2.2))) else ((ix_F 233 [.ref 135] (ix_S0 d, x7.2.2)).bind fun x9 => ix_S 237 9 2 [some (.ref 135), some (.int (nI i + (1 : Int32))), none] [] (ix_S0 d, x9.2.2)))) = ix_S 237 9 2 [some (.ref 135), some (.int (nI (i + 1))), none] [] (ix_S0 d, τ') ∧ a < n ∧ tx_J 0 c t n (a + 1) σ' τ' ∧ tx_fa (ix_up (ix_up (ix_up (ix_up (ix_up σ 109 i wv) 110 i v2) 111 i v3) 112 i (σ 107 8)) 107 7 (nI (i + 1))) σ' ∧ tx_fb (ix_up τ 149 (32 + i) (τ 135 27)) τ' := by
  have c57 : ix_F 57 [.ref 107, .int wv, .int v2, .int v3] (ix_S0 b, σ) = some (.null, (ix_S0 b, ix_up (ix_up (ix_up (ix_up (ix_up σ 109 i wv) 110 i v2) 111 i v3) 112 i (σ 107 8)) 107 7 (nI (i + 1)))) := by
    rw [q_Law_addLine_0, h7, if_neg (show ¬ (16 : Int32) ≤ nI i from nI_ge (b := 16) (by omega) (by omega)), nI_clamp (by omega), if_neg (tx_in (by omega) (by omega)), if_neg (tx_in (by omega) (by omega)), if_neg (tx_in (by omega) (by omega)), if_neg (tx_in (by omega) (by omega)), nI_1]
  have fX : tx_FX σ (ix_up (ix_up (ix_up (ix_up (ix_up σ 109 i wv) 110 i v2) 111 i v3) 112 i (σ 107 8)) 107 7 (nI (i + 1))) := ((((tx_FX.up (by omega)).tr (tx_FX.up (by omega))).tr (tx_FX.up (by omega))).tr (tx_FX.up (by omega))).tr (tx_FX.up (by omega))
  have fM : tx_FM τ (ix_up τ 149 (32 + i) (τ 135 27)) := tx_FM.up (by omega)
  have h' : tx_J 0 c t n a (ix_up (ix_up (ix_up (ix_up (ix_up σ 109 i wv) 110 i v2) 111 i v3) 112 i (σ 107 8)) 107 7 (nI (i + 1))) (ix_up τ 149 (32 + i) (τ 135 27)) := (((((h.upX (by omega)).upX (by omega)).upX (by omega)).upX (by omega)).upX (by omega)).upM (by omega)
  obtain ⟨g1, r1⟩ := j_isG (d := d) h' (g := 59) (by decide)
  have r1' : ix_F 262 [.ref 135, .int (59 : Int32)] (ix_S0 d, (ix_up τ 149 (32 + i) (τ 135 27))) = _ := r1
  rw [c57, r1']
  simp only [Option.bind_some]
  rw [q_Parser_expect_0]
  by_cases e : (tx_tn c t a).1 = 4 ∧ (tx_tn c t a).2.1 = 59
  · obtain ⟨σ', τ', b1, b2, b3, b4, b5, -⟩ := j_adv (b := b) (d := d) h' (h.lt (by omega))
    refine Or.inr ⟨σ', τ', ?_, ?_, h.lt (by omega), b3, b4, b5⟩
    · rw [if_pos (show _ = (59 : Int32) from g1.mpr e), b1]
      simp only [Option.bind_some, iv_tI]
      rw [if_pos (Or.inr trivial)]
    · rw [iv_Bt e]
      simp only [iv_tI]
      rw [if_neg (show ¬ (1 : Int32) = 0 by decide), b2]
      simp only [Option.bind_some]
      rw [nI_1]
  · obtain ⟨σ', τ', b1, b2, b3, b4, b5⟩ := j_bl (b := b) (d := d) h' 1
    refine Or.inl ⟨σ', τ', ?_, ?_, fX.tr b4.FX, fM.tr b5.FM, b3⟩
    · rw [if_neg (show ¬ _ = (59 : Int32) from fun q => e (g1.mp q)), b1]
      simp only [Option.bind_some, iv_tI]
      rw [if_pos (Or.inl trivial)]
      simp only [Option.bind_some, iv_tI]
      rw [if_pos (Or.inl trivial)]
    · rw [iv_Bf e]
      simp only [iv_tI]
      rw [if_pos trivial, b2]
      simp only [Option.bind_some, iv_tI]
end Ln
