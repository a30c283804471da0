/-! abstention, and the vote -/
theorem f_hasM (b : Bool) (σ : ix_St) {s k : Nat} (hs : s < 2 ^ 31) (hk : k < 32) : ix_F 197 [.ref 135, .int (nI s), .int (nI k)] (ix_S0 b, σ) = some (.int (iv_B (s.testBit k = true)), (ix_S0 b, σ)) := by
  rw [q_M_has_0, iv_bit hs hk]
  by_cases h : s.testBit k = true
  · rw [iv_Bt h, if_pos rfl]
  · rw [iv_Bf h, if_neg (by decide)]
theorem f_aboard (b : Bool) (σ : ix_St) {s k : Nat} (hs : s < 2 ^ 31) (hk : k < 32) (h7 : σ 121 7 = nI s) : ix_F 49 [.ref 121, .int (nI k)] (ix_S0 b, σ) = some (.int (iv_B (s.testBit k = true)), (ix_S0 b, σ)) := by
  rw [q_Crossing_isAboard_0, h7, iv_bit hs hk]
  by_cases h : s.testBit k = true
  · rw [iv_Bt h, if_pos rfl]
  · rw [iv_Bf h, if_neg (by decide)]
/-- those of s that are not of w -/
def iv_wo (s w : Nat) : Nat := s ^^^ (s &&& w)
theorem iv_wo_bit (s w i : Nat) : (iv_wo s w).testBit i = (s.testBit i && !w.testBit i) := by
  unfold iv_wo
  rw [Nat.testBit_xor, Nat.testBit_and]
  cases s.testBit i <;> cases w.testBit i <;> rfl
theorem iv_wo_lt {s w n : Nat} (hs : s < 2 ^ n) : iv_wo s w < 2 ^ n := Nat.xor_lt_two_pow hs (Nat.lt_of_le_of_lt Nat.and_le_left hs)
theorem iv_wo_I (s w : Nat) : nI s &&& (nI w ^^^ (-1)) = nI (iv_wo s w) := by
  apply Int32.toBitVec_inj.1
  apply BitVec.eq_of_getLsbD_eq
  intro i hi
  have h1 : (nI s &&& (nI w ^^^ (-1))).toBitVec = BitVec.ofNat 32 s &&& (BitVec.ofNat 32 w ^^^ (BitVec.allOnes 32)) := rfl
  rw [h1]
  show _ = (BitVec.ofNat 32 (iv_wo s w)).getLsbD i
  rw [BitVec.getLsbD_and, BitVec.getLsbD_xor, BitVec.getLsbD_ofNat, BitVec.getLsbD_ofNat, BitVec.getLsbD_ofNat, BitVec.getLsbD_allOnes, iv_wo_bit]
  simp [hi]
theorem f_draw (b c : Bool) {σ τ : ix_St} {M n o : Nat} (hR : iv_rvF σ τ M n o) : ∃ d w, ix_F 131 [.ref 2, .int 1000] (ix_S0 b, σ) = some (.int d, (ix_S0 b, ix_up σ 2 0 w)) ∧ ix_F 267 [.ref 135, .int 1000] (ix_S0 c, τ) = some (.int d, (ix_S0 c, ix_up τ 136 1 w)) ∧ iv_rvF (ix_up σ 2 0 w) (ix_up τ 136 1 w) M n o := by
  have s0 : σ 2 0 = τ 136 1 := hR.1.1.1
  have cm : (1664525 : Int32) * τ 136 1 = τ 136 1 * 1664525 := Int32.mul_comm _ _
  obtain ⟨w, hw⟩ : ∃ w, w = τ 136 1 * 1664525 + 1013904223 := ⟨_, rfl⟩
  obtain ⟨d, hd⟩ : ∃ d, d = (Int32.toUInt32 w >>> (Int32.toUInt32 (8 : Int32) &&& Int32.toUInt32 31)).toInt32 - (Int32.toUInt32 w >>> (Int32.toUInt32 (8 : Int32) &&& Int32.toUInt32 31)).toInt32 / 1000 * 1000 := ⟨_, rfl⟩
  refine ⟨d, w, ?_, ?_, ⟨iv_rivs w hR.1, hR.2⟩⟩
  · rw [q_River_draw_0, if_neg (by decide), if_neg (by decide), s0, ← hw, ← hd]
  · rw [q_M_draw_0, if_neg (by decide), cm, ← hw, ← hd]
theorem f_abstain_F (c : Bool) {σ τ : ix_St} {M n o s : Nat} (hn : n ≤ 12) (hV : iv_VF σ τ M n o s) {p : Nat} (hp : p < n) (hs : s < 4096) (m : Int32) : ∃ (a : Prop) (_ : Decidable a) (σ' τ1 τ' : ix_St), ix_F 51 [.ref 121, .int (nI p), .int m] (ix_S0 false, σ) = some (.int (iv_B a), (ix_S0 false, σ')) ∧ ix_F 269 [.ref 135, .int (nI p), .int m, .int (nI s)] (ix_S0 c, τ) = some (.int (iv_B a), (ix_S0 c, τ1)) ∧ (¬ a → τ' = τ1) ∧ (a → ix_F 231 [.ref 135, .int 1, .int (nI p), .int (τ1 136 (30 + p) + 1)] (ix_S0 c, ix_up τ1 136 (30 + p) (τ1 136 (30 + p) + 1)) = some (.null, (ix_S0 c, τ'))) ∧ iv_VF σ' τ' M n o s ∧ iv_vXF σ σ' ∧ iv_vMF τ τ' := by
  obtain ⟨hR, hlw, hear, h7, h6, h5, h43, hbk⟩ := id hV
  have k1 : ¬ (nI p < 0 ∨ 12 ≤ p) := iv_ni (by omega) (by omega)
  have k3 : (nI p).toNatClampNeg = p := nI_clamp (by omega)
  obtain ⟨v, σ1, τ1, hv, e1, e2, f1, f2⟩ := f_abst_F false c hn hR hlw hp hs m
  have hR1 : iv_rvF σ1 τ1 M n o := iv_rvF_cong (fun z h1 h2 => f1 z (by omega) (by omega)) (by rw [f2 135 (by omega) (by omega)]) (by rw [f2 135 (by omega) (by omega)]) (f2 136 (by omega) (by omega)) (f2 139 (by omega) (by omega)) (f2 140 (by omega) (by omega)) (f2 141 (by omega) (by omega)) hR
  have hlw1 : iv_lw σ1 τ1 := iv_lw_cong (fun z h1 h2 => f1 z (by omega) (by omega)) (fun z h1 h2 => f2 z (by omega) (by omega)) hlw
  have s121 : σ1 121 = σ 121 := f1 121 (by omega) (by omega)
  have s135 : τ1 135 = τ 135 := f2 135 (by omega) (by omega)
  have hear1 : ∀ i, i < 12 → σ1 20 i = τ1 153 i := by rw [f1 20 (by omega) (by omega), f2 153 (by omega) (by omega)]; exact hear
  have wp : σ1 7 p = τ1 136 (30 + p) := (hR1.1.2.2.2.1 p (by omega)).2.2.2.2.1
  have hbk1 : iv_bk σ1 τ1 := by
    obtain ⟨⟨k, hk, b1, b2⟩, b3⟩ := hbk
    refine ⟨⟨k, hk, ?_, ?_⟩, ?_⟩
    · rw [f1 9 (by omega) (by omega)]; exact b1
    · rw [f2 136 (by omega) (by omega)]; exact b2
    · rw [f1 10 (by omega) (by omega), f2 142 (by omega) (by omega)]; exact b3
  have h60 : σ1 121 6 = 0 := by rw [s121]; exact h6
  have h50 : τ1 135 5 = 0 := by rw [s135]; exact h5
  have h71 : σ1 121 7 = nI s := by rw [s121]; exact h7
  have h431 : σ1 121 1 = τ1 135 43 := by rw [s121, s135]; exact h43
  by_cases hv0 : v = 0
  · subst hv0
    refine ⟨False, inferInstance, σ1, τ1, τ1, ?_, ?_, fun _ => rfl, fun h => h.elim, ⟨hR1, hlw1, hear1, h71, h60, h50, h431, hbk1⟩, fun z z1 z2 z3 z4 z5 => f1 z z2 z3, ⟨fun z z1 z2 z3 z4 z5 z6 => f2 z z3 z4, fun i hi => by rw [s135]⟩⟩
    · rw [q_Crossing_abstains_0_F]
      simp only [k1, k3, if_false, h7, e1, Option.bind_some, iv_tI]
      rw [if_pos (show nI 0 = 0 from rfl), iv_Bf (fun h => h)]
    · rw [q_M_doesAbstain_0, e2]
      simp only [Option.bind_some, iv_tI]
      rw [if_pos h50, if_pos (by decide), iv_Bf (fun h => h)]
  · have v0 : ¬ nI v = 0 := nI_ne0 (by omega) (by omega)
    have v1 : ¬ nI v ≤ 0 := nI_nle (by omega) (by omega)
    obtain ⟨d, w, dX, dM, hR2⟩ := f_draw false c hR1
    have hbk2 : iv_bk (ix_up σ1 2 0 w) (ix_up τ1 136 1 w) := hbk1
    by_cases hlt : nI v ≤ d
    · have hcT : ix_F 52 [.ref 121, .int (nI v)] (ix_S0 false, σ1) = some (.int 0, (ix_S0 false, ix_up σ1 2 0 w)) := by
        rw [q_Crossing_comesTrue_0_F, if_pos h60, dX]
        simp only [Option.bind_some, iv_tI, if_pos hlt]
      refine ⟨False, inferInstance, ix_up σ1 2 0 w, ix_up τ1 136 1 w, ix_up τ1 136 1 w, ?_, ?_, fun _ => rfl, fun h => h.elim, ⟨hR2, hlw1, hear1, h71, h60, h50, h431, hbk2⟩, fun z z1 z2 z3 z4 z5 => (iv_upn (by omega)).trans (f1 z z2 z3), ⟨fun z z1 z2 z3 z4 z5 z6 => (iv_upn z2).trans (f2 z z3 z4), fun i hi => by show τ1 135 i = _; rw [s135]⟩⟩
      · rw [q_Crossing_abstains_0_F]
        simp only [k1, k3, if_false, h7, e1, hcT, v0, if_true, Option.bind_some, iv_tI]
        rw [iv_Bf (fun h => h)]
      · rw [q_M_doesAbstain_0, e2]
        simp only [Option.bind_some, iv_tI, h50, if_true, v1, if_false, dM, if_pos hlt]
        rw [iv_Bf (fun h => h)]
    · have hcT : ix_F 52 [.ref 121, .int (nI v)] (ix_S0 false, σ1) = some (.int 1, (ix_S0 false, ix_up σ1 2 0 w)) := by
        rw [q_Crossing_comesTrue_0_F, if_pos h60, dX]
        simp only [Option.bind_some, iv_tI, if_neg hlt]
      have wp2 : (ix_up τ1 136 1 w) 136 (30 + p) = σ1 7 p := by
        show upd (τ1 136) 1 w (30 + p) = _
        rw [pk_un (by omega), wp]
      have hV3 : iv_riv (upd (σ1 2) 0 w) (σ1 3) (σ1 4) (σ1 5) (σ1 6) (upd (σ1 7) p (σ1 7 p + 1)) (σ1 8) (upd (upd (τ1 136) 1 w) (30 + p) (σ1 7 p + 1)) (τ1 135 6) (τ1 139) (τ1 140) (τ1 141) M n o := iv_riv_wa (by omega) _ hR2.1
      have hbk3 : iv_bk (ix_up (ix_up σ1 2 0 w) 7 p (σ1 7 p + 1)) (ix_up (ix_up τ1 136 1 w) 136 (30 + p) (σ1 7 p + 1)) := by
        obtain ⟨⟨k, hk, b1, b2⟩, b3⟩ := hbk2
        refine ⟨⟨k, hk, b1, ?_⟩, b3⟩
        show upd (upd (τ1 136) 1 w) (30 + p) (σ1 7 p + 1) 2 = _
        rw [pk_un (by omega)]; exact b2
      have hx5 : (ix_up (ix_up τ1 136 1 w) 136 (30 + p) (σ1 7 p + 1)) 136 5 = σ1 2 5 := by
        show upd (upd (τ1 136) 1 w) (30 + p) (σ1 7 p + 1) 5 = _
        rw [pk_un (by omega), pk_un (by omega)]; exact hR1.1.1.2.2.2.2.2.1.symm
      have n5 : (ix_up (ix_up τ1 136 1 w) 136 (30 + p) (σ1 7 p + 1)) 135 5 = 0 := h50
      obtain ⟨σ4, τ4, w1, w2, w3, w4, w5, w6⟩ := f_note false c hbk3 n5 (σ1 2 5) 1 (nI p) (σ1 7 p + 1) hx5
      refine ⟨True, inferInstance, σ4, ix_up τ1 136 1 w, τ4, ?_, ?_, fun h => absurd trivial h, fun _ => ?_, ⟨⟨?_, ?_⟩, ?_, ?_, ?_, ?_, ?_, ?_, w3⟩, ?_, ?_⟩
      · rw [q_Crossing_abstains_0_F]
        simp only [k1, k3, if_false, h7, e1, hcT, v0, iv_10, Option.bind_some, iv_tI]
        rw [show (ix_up σ1 2 0 w) 121 6 = σ1 121 6 from rfl, if_pos h60, show (ix_up σ1 2 0 w) 7 = σ1 7 from rfl, pk_us, show (ix_up σ1 2 0 w) 2 5 = σ1 2 5 from rfl, w1, iv_Bt trivial]
        rfl
      · rw [q_M_doesAbstain_0, e2]
        simp only [Option.bind_some, iv_tI, h50, if_true, v1, if_false, dM, if_neg hlt]
        rw [iv_Bt trivial]
      · rw [wp2]; exact w2
      · have x2 : σ4 2 = upd (σ1 2) 0 w := w4 2 (by omega) (by omega)
        have x3 : σ4 3 = σ1 3 := w4 3 (by omega) (by omega)
        have x4 : σ4 4 = σ1 4 := w4 4 (by omega) (by omega)
        have x5 : σ4 5 = σ1 5 := w4 5 (by omega) (by omega)
        have x6 : σ4 6 = σ1 6 := w4 6 (by omega) (by omega)
        have x7 : σ4 7 = upd (σ1 7) p (σ1 7 p + 1) := w4 7 (by omega) (by omega)
        have x8 : σ4 8 = σ1 8 := w4 8 (by omega) (by omega)
        rw [x2, x3, x4, x5, x6, x7, x8, show τ4 135 = τ1 135 from w5 135 (by omega) (by omega), show τ4 139 = τ1 139 from w5 139 (by omega) (by omega), show τ4 140 = τ1 140 from w5 140 (by omega) (by omega), show τ4 141 = τ1 141 from w5 141 (by omega) (by omega)]
        refine iv_riv_n2 hV3 (fun i hi => ?_)
        rw [w6 i hi]; rfl
      · rw [show τ4 135 = τ1 135 from w5 135 (by omega) (by omega)]; exact hR1.2
      · exact iv_lw_cong (fun z h1 h2 => (w4 z (by omega) (by omega)).trans ((iv_upn (by omega)).trans (iv_upn (by omega)))) (fun z h1 h2 => (w5 z (by omega) (by omega)).trans ((iv_upn (by omega)).trans (iv_upn (by omega)))) hlw1
      · rw [show σ4 20 = σ1 20 from w4 20 (by omega) (by omega), show τ4 153 = τ1 153 from w5 153 (by omega) (by omega)]; exact hear1
      · rw [show σ4 121 = σ1 121 from w4 121 (by omega) (by omega)]; exact h71
      · rw [show σ4 121 = σ1 121 from w4 121 (by omega) (by omega)]; exact h60
      · rw [show τ4 135 = τ1 135 from w5 135 (by omega) (by omega)]; exact h50
      · rw [show σ4 121 = σ1 121 from w4 121 (by omega) (by omega), show τ4 135 = τ1 135 from w5 135 (by omega) (by omega)]; exact h431
      · exact fun z z1 z2 z3 z4 z5 => (w4 z (by omega) (by omega)).trans ((iv_upn (by omega)).trans ((iv_upn (by omega)).trans (f1 z z2 z3)))
      · refine ⟨fun z z1 z2 z3 z4 z5 z6 => (w5 z z2 z6).trans ((iv_upn z2).trans ((iv_upn z2).trans (f2 z z3 z4))), fun i hi => ?_⟩
        rw [show τ4 135 = τ1 135 from w5 135 (by omega) (by omega), s135]

theorem f_abstain_T (c : Bool) {σ τ : ix_St} {M n o s : Nat} (hn : n ≤ 12) (hV : iv_VT σ τ M n o s) {p : Nat} (hp : p < n) (hs : s < 4096) (m : Int32) : ∃ (a : Prop) (_ : Decidable a) (σ' τ1 τ' : ix_St), ix_F 51 [.ref 121, .int (nI p), .int m] (ix_S0 true, σ) = some (.int (iv_B a), (ix_S0 true, σ')) ∧ ix_F 269 [.ref 135, .int (nI p), .int m, .int (nI s)] (ix_S0 c, τ) = some (.int (iv_B a), (ix_S0 c, τ1)) ∧ (¬ a → τ' = τ1) ∧ (a → ix_F 231 [.ref 135, .int 1, .int (nI p), .int (τ1 136 (30 + p) + 1)] (ix_S0 c, ix_up τ1 136 (30 + p) (τ1 136 (30 + p) + 1)) = some (.null, (ix_S0 c, τ'))) ∧ iv_VT σ' τ' M n o s ∧ iv_vXT σ σ' ∧ iv_vMT τ τ' := by
  obtain ⟨hR, hlw, hear, h7, h6, h5, h43, hbk⟩ := id hV
  have k1 : ¬ (nI p < 0 ∨ 12 ≤ p) := iv_ni (by omega) (by omega)
  have k3 : (nI p).toNatClampNeg = p := nI_clamp (by omega)
  obtain ⟨v, σ1, τ1, hv, e1, e2, f1, f2⟩ := f_abst_T true c hn hR hlw hp hs m
  have hR1 : iv_rvT σ1 τ1 M n o := iv_rvT_cong (fun z h1 h2 => f1 z (by omega) (by omega)) (by rw [f2 135 (by omega) (by omega)]) (by rw [f2 135 (by omega) (by omega)]) (f2 136 (by omega) (by omega)) (f2 139 (by omega) (by omega)) (f2 140 (by omega) (by omega)) (f2 141 (by omega) (by omega)) hR
  have hlw1 : iv_lw σ1 τ1 := iv_lw_cong (fun z h1 h2 => f1 z (by omega) (by omega)) (fun z h1 h2 => f2 z (by omega) (by omega)) hlw
  have s121 : σ1 121 = σ 121 := f1 121 (by omega) (by omega)
  have s135 : τ1 135 = τ 135 := f2 135 (by omega) (by omega)
  have hear1 : ∀ i, i < 12 → σ1 20 i = τ1 153 i := by rw [f1 20 (by omega) (by omega), f2 153 (by omega) (by omega)]; exact hear
  have wp : σ1 128 p = τ1 136 (30 + p) := (hR1.1.2.2.2.1 p (by omega)).2.2.2.2.1
  have h60 : σ1 121 6 = 1 := by rw [s121]; exact h6
  have h61 : ¬ σ1 121 6 = 0 := by rw [h60]; decide
  have h50 : τ1 135 5 = 1 := by rw [s135]; exact h5
  have h51 : ¬ τ1 135 5 = 0 := by rw [h50]; decide
  have h71 : σ1 121 7 = nI s := by rw [s121]; exact h7
  have h431 : σ1 121 1 = τ1 135 43 := by rw [s121, s135]; exact h43
  by_cases hlt : v < 500
  · have hcT : ix_F 52 [.ref 121, .int (nI v)] (ix_S0 true, σ1) = some (.int 0, (ix_S0 true, σ1)) := by
      rw [q_Crossing_comesTrue_0_T, if_neg h61, if_pos (show nI v < 500 from nI_lt (b := 500) hlt (by omega))]
    refine ⟨False, inferInstance, σ1, τ1, τ1, ?_, ?_, fun _ => rfl, fun h => h.elim, ⟨hR1, hlw1, hear1, h71, h60, h50, h431, trivial⟩, fun z z1 z2 z3 z4 z5 => f1 z z2 z3, ⟨fun z z1 z2 z3 z4 z5 => f2 z z3 z4, fun i hi => by rw [s135]⟩⟩
    · rw [q_Crossing_abstains_0_T]
      simp only [k1, k3, if_false, h7, e1, hcT, if_true, Option.bind_some, iv_tI]
      rw [iv_Bf (fun h => h)]
      by_cases hz : nI v = 0
      · rw [if_pos hz]
      · rw [if_neg hz]
    · rw [q_M_doesAbstain_0, e2]
      have hlt' : (2 : Int32) * nI v < 1000 := by rw [show (2 : Int32) = nI 2 from rfl, pk_mul]; exact nI_lt (b := 1000) (by omega) (by omega)
      simp only [Option.bind_some, iv_tI, h51, if_false, hlt', if_true]
      rw [iv_Bf (fun h => h)]
  · have hcT : ix_F 52 [.ref 121, .int (nI v)] (ix_S0 true, σ1) = some (.int 1, (ix_S0 true, σ1)) := by
      rw [q_Crossing_comesTrue_0_T, if_neg h61, if_neg (show ¬ nI v < 500 from nI_nlt (b := 500) (by omega) (by omega))]
    have v0 : ¬ nI v = 0 := nI_ne0 (by omega) (by omega)
    have hV3 : iv_riv (σ1 123) (σ1 124) (σ1 125) (σ1 126) (σ1 127) (upd (σ1 128) p (σ1 128 p + 1)) (σ1 129) (upd (τ1 136) (30 + p) (σ1 128 p + 1)) (τ1 135 6) (τ1 139) (τ1 140) (τ1 141) M n o := iv_riv_wa (by omega) _ hR1.1
    have n5 : (ix_up τ1 136 (30 + p) (σ1 128 p + 1)) 135 5 = 1 := h50
    have w2 := f_note_T c _ n5 1 (nI p) (σ1 128 p + 1)
    refine ⟨True, inferInstance, ix_up σ1 128 p (σ1 128 p + 1), τ1, ix_up τ1 136 (30 + p) (σ1 128 p + 1), ?_, ?_, fun h => absurd trivial h, fun _ => ?_, ⟨⟨hV3, hR1.2⟩, hlw1, hear1, h71, h60, h50, h431, trivial⟩, fun z z1 z2 z3 z4 z5 => (iv_upn (by omega)).trans (f1 z z2 z3), ⟨fun z z1 z2 z3 z4 z5 => (iv_upn z2).trans (f2 z z3 z4), fun i hi => by show τ1 135 i = _; rw [s135]⟩⟩
    · rw [q_Crossing_abstains_0_T]
      simp only [k1, k3, if_false, h7, e1, hcT, v0, iv_10, h61, Option.bind_some, iv_tI]
      rw [iv_Bt trivial]
    · rw [q_M_doesAbstain_0, e2]
      have hlt' : ¬ (2 : Int32) * nI v < 1000 := by rw [show (2 : Int32) = nI 2 from rfl, pk_mul]; exact nI_nlt (b := 1000) (by omega) (by omega)
      simp only [Option.bind_some, iv_tI, h51, if_false, hlt']
      rw [iv_Bt trivial]
    · rw [← wp]; exact w2

theorem f_talk1_F (c : Bool) {M n o s : Nat} (hn : n ≤ 12) (hs : s < 4096) (v2 v3 : Int32) : ∀ d j σ τ, j + d = n → iv_VF σ τ M n o s → ∃ σ' τ', ix_S 48 5 30 [some (.ref 121), none, some (.int v2), some (.int v3), some (.int (nI j)), none] [] (ix_S0 false, σ) = ix_S 48 5 22 [some (.ref 121), none, some (.int v2), some (.int (v3 + 1)), none, none] [] (ix_S0 false, σ') ∧ ix_S 207 8 22 [some (.ref 135), some (.int (nI s)), some (.int v2), some (.int v3), some (.int (nI j))] [] (ix_S0 c, τ) = ix_S 207 8 14 [some (.ref 135), some (.int (nI s)), some (.int v2), some (.int (v3 + 1)), none] [] (ix_S0 c, τ') ∧ iv_VF σ' τ' M n o s ∧ iv_vXF σ σ' ∧ iv_vMF τ τ' := by
  intro d
  induction d with
  | zero =>
    intro j σ τ hj hV
    have c6 : σ 2 6 = nI n := hV.1.1.1.2.2.2.2.2.2.1
    refine ⟨σ, τ, ?_, ?_, hV, iv_vXF.rf, iv_vMF.rf⟩
    · rw [q_Crossing_vote_30_F, c6, if_pos (nI_le (by omega) (by omega))]
    · rw [q_M_votes_22, hV.1.2, if_pos (nI_le (by omega) (by omega))]
  | succ d ih =>
    intro j σ τ hj hV
    have c6 : σ 2 6 = nI n := hV.1.1.1.2.2.2.2.2.2.1
    have g1 : ¬ nI n ≤ nI j := nI_ge (by omega) (by omega)
    by_cases hb : s.testBit j = true
    · obtain ⟨σ1, τ1, e1, e2, hV1, x1, m1⟩ := f_listen_F c hn hV (show j < n by omega) hs v3
      obtain ⟨σ2, τ2, e3, e4, hV2, x2, m2⟩ := ih (j + 1) σ1 τ1 (by omega) hV1
      refine ⟨σ2, τ2, ?_, ?_, hV2, x1.tr x2, m1.tr m2⟩
      · rw [q_Crossing_vote_30_F, c6, if_neg g1, f_aboard false σ (by omega) (by omega) hV.2.2.2.1, iv_Bt hb]
        simp only [Option.bind_some, iv_tI, iv_10, if_false, e1, nI_1]
        exact e3
      · rw [q_M_votes_22, hV.1.2, if_neg g1, f_hasM c τ (by omega) (by omega), iv_Bt hb]
        simp only [Option.bind_some, iv_tI, iv_10, if_false, e2, nI_1]
        exact e4
    · obtain ⟨σ2, τ2, e3, e4, hV2, x2, m2⟩ := ih (j + 1) σ τ (by omega) hV
      refine ⟨σ2, τ2, ?_, ?_, hV2, x2, m2⟩
      · rw [q_Crossing_vote_30_F, c6, if_neg g1, f_aboard false σ (by omega) (by omega) hV.2.2.2.1, iv_Bf hb]
        simp only [Option.bind_some, iv_tI, if_true, nI_1]
        exact e3
      · rw [q_M_votes_22, hV.1.2, if_neg g1, f_hasM c τ (by omega) (by omega), iv_Bf hb]
        simp only [Option.bind_some, iv_tI, if_true, nI_1]
        exact e4
theorem f_talk_F (c : Bool) {M n o s mi : Nat} (hn : n ≤ 12) (hs : s < 4096) (hm : mi ≤ 12) : ∀ d k σ τ, k + d = mi → iv_VF σ τ M n o s → ∃ σ' τ', ix_S 48 5 22 [some (.ref 121), none, some (.int (nI mi)), some (.int (nI k)), none, none] [] (ix_S0 false, σ) = ix_S 48 5 75 [some (.ref 121), none, some (.int (nI mi)), some (.int 0), some (.int 0), none] [] (ix_S0 false, σ') ∧ ix_S 207 8 14 [some (.ref 135), some (.int (nI s)), some (.int (nI mi)), some (.int (nI k)), none] [] (ix_S0 c, τ) = ((ix_F 242 [.ref 135, .int (nI s), .int (nI mi)] (ix_S0 c, τ')).bind fun x1 => ix_S 207 8 71 [some (.ref 135), some (.int (nI s)), some (.int (nI mi)), some (.int (ix_toI x1.1)), some (.int (0 : Int32))] [] (ix_S0 c, x1.2.2)) ∧ iv_VF σ' τ' M n o s ∧ iv_vXF σ σ' ∧ iv_vMF τ τ' := by
  intro d
  induction d with
  | zero =>
    intro k σ τ hk hV
    refine ⟨σ, τ, ?_, ?_, hV, iv_vXF.rf, iv_vMF.rf⟩
    · rw [q_Crossing_vote_22_F, if_pos (nI_le (by omega) (by omega))]
    · rw [q_M_votes_14, if_pos (nI_le (by omega) (by omega))]
  | succ d ih =>
    intro k σ τ hk hV
    obtain ⟨σ1, τ1, e1, e2, hV1, x1, m1⟩ := f_talk1_F c hn hs (nI mi) (nI k) n 0 σ τ (by omega) hV
    obtain ⟨σ2, τ2, e3, e4, hV2, x2, m2⟩ := ih (k + 1) σ1 τ1 (by omega) hV1
    refine ⟨σ2, τ2, ?_, ?_, hV2, x1.tr x2, m1.tr m2⟩
    · rw [q_Crossing_vote_22_F, if_neg (nI_ge (by omega) (by omega))]
      rw [nI_1] at e1
      exact e1.trans e3
    · rw [q_M_votes_14, if_neg (nI_ge (by omega) (by omega))]
      rw [nI_1] at e2
      exact e2.trans e4
theorem f_wade_F (c : Bool) {M n o s : Nat} (hn : n ≤ 12) (hs : s < 4096) (v2 : Int32) : ∀ d j w σ τ, j + d = n → w < 4096 → iv_VF σ τ M n o s → ∃ w' σ' τ', w' < 4096 ∧ ix_S 48 5 75 [some (.ref 121), none, some (.int v2), some (.int (nI w)), some (.int (nI j)), none] [] (ix_S0 false, σ) = ((ix_F 284 [.ref 122, .int (0 : Int32)] (ix_S0 false, σ')).bind fun x1 => ix_S 48 5 130 [some (.ref 121), none, some (.int v2), some (.int (nI w')), some (.int (0 : Int32)), none] [] (ix_S0 false, x1.2.2)) ∧ ix_S 242 7 5 [some (.ref 135), some (.int (nI s)), some (.int v2), some (.int (nI w)), some (.int (nI j))] [] (ix_S0 c, τ) = some (.int (nI w'), (ix_S0 c, τ')) ∧ iv_VF σ' τ' M n o s ∧ iv_vXF σ σ' ∧ iv_vMF τ τ' := by
  intro d
  induction d with
  | zero =>
    intro j w σ τ hj hw hV
    have c6 : σ 2 6 = nI n := hV.1.1.1.2.2.2.2.2.2.1
    refine ⟨w, σ, τ, hw, ?_, ?_, hV, iv_vXF.rf, iv_vMF.rf⟩
    · rw [q_Crossing_vote_75_F, c6, if_pos (nI_le (by omega) (by omega))]
    · rw [q_M_wadingOf_5, hV.1.2, if_pos (nI_le (by omega) (by omega))]
  | succ d ih =>
    intro j w σ τ hj hw hV
    have c6 : σ 2 6 = nI n := hV.1.1.1.2.2.2.2.2.2.1
    have g1 : ¬ nI n ≤ nI j := nI_ge (by omega) (by omega)
    have m30 : (30 : Int32) + nI j = nI (30 + j) := nI_add 30 j
    have i30 : ¬ (nI (30 + j) < 0 ∨ 54 ≤ 30 + j) := iv_ni (by omega) (by omega)
    have l30 : (nI (30 + j)).toNatClampNeg = 30 + j := nI_clamp (by omega)
    have hw2 : w ||| 2 ^ j < 4096 := Nat.or_lt_two_pow (n := 12) hw (Nat.pow_lt_pow_right (by omega) (by omega))
    by_cases hb : s.testBit j = true
    · obtain ⟨a, ha, σ1, τ0, τ1, e1, e2, na, ya, hV1, x1, m1⟩ := f_abstain_F c hn hV (show j < n by omega) hs v2
      by_cases h : a
      · obtain ⟨w', σ2, τ2, hw', e3, e4, hV2, x2, m2⟩ := ih (j + 1) (w ||| 2 ^ j) σ1 τ1 (by omega) hw2 hV1
        refine ⟨w', σ2, τ2, hw', ?_, ?_, hV2, x1.tr x2, m1.tr m2⟩
        · rw [q_Crossing_vote_75_F, c6, if_neg g1, f_aboard false σ (by omega) (by omega) hV.2.2.2.1, iv_Bt hb]
          simp only [Option.bind_some, iv_tI, iv_10, if_false, e1, iv_Bt h, nI_1]
          rw [iv_shl (by omega), iv_or]
          exact e3
        · rw [q_M_wadingOf_5, hV.1.2, if_neg g1, f_hasM c τ (by omega) (by omega), iv_Bt hb]
          simp only [Option.bind_some, iv_tI, iv_10, if_false, e2, iv_Bt h, nI_1, m30, l30, i30, pk_us]
          rw [ya h, iv_shl (by omega), iv_or]
          exact e4
      · have hna := na h
        subst hna
        obtain ⟨w', σ2, τ2, hw', e3, e4, hV2, x2, m2⟩ := ih (j + 1) w σ1 τ1 (by omega) hw hV1
        refine ⟨w', σ2, τ2, hw', ?_, ?_, hV2, x1.tr x2, m1.tr m2⟩
        · rw [q_Crossing_vote_75_F, c6, if_neg g1, f_aboard false σ (by omega) (by omega) hV.2.2.2.1, iv_Bt hb]
          simp only [Option.bind_some, iv_tI, iv_10, if_false, e1, iv_Bf h, if_true, nI_1]
          exact e3
        · rw [q_M_wadingOf_5, hV.1.2, if_neg g1, f_hasM c τ (by omega) (by omega), iv_Bt hb]
          simp only [Option.bind_some, iv_tI, iv_10, if_false, e2, iv_Bf h, if_true, nI_1]
          exact e4
    · obtain ⟨w', σ2, τ2, hw', e3, e4, hV2, x2, m2⟩ := ih (j + 1) w σ τ (by omega) hw hV
      refine ⟨w', σ2, τ2, hw', ?_, ?_, hV2, x2, m2⟩
      · rw [q_Crossing_vote_75_F, c6, if_neg g1, f_aboard false σ (by omega) (by omega) hV.2.2.2.1, iv_Bf hb]
        simp only [Option.bind_some, iv_tI, if_true, nI_1]
        exact e3
      · rw [q_M_wadingOf_5, hV.1.2, if_neg g1, f_hasM c τ (by omega) (by omega), iv_Bf hb]
        simp only [Option.bind_some, iv_tI, if_true, nI_1]
        exact e4
theorem iv_VF_cong {σ σ' τ τ' : ix_St} {M n o s : Nat} (hs : ∀ z, z ≠ 18 → z ≠ 19 → z ≠ 122 → σ' z = σ z) (ht : ∀ z, z ≠ 156 → z ≠ 157 → z ≠ 158 → τ' z = τ z) (hV : iv_VF σ τ M n o s) : iv_VF σ' τ' M n o s := by
  obtain ⟨hR, hlw, hear, h7, h6, h5, h43, hbk⟩ := hV
  refine ⟨iv_rvF_cong (fun z h1 h2 => hs z (by omega) (by omega) (by omega)) (by rw [ht 135 (by omega) (by omega) (by omega)]) (by rw [ht 135 (by omega) (by omega) (by omega)]) (ht 136 (by omega) (by omega) (by omega)) (ht 139 (by omega) (by omega) (by omega)) (ht 140 (by omega) (by omega) (by omega)) (ht 141 (by omega) (by omega) (by omega)) hR, iv_lw_cong (fun z h1 h2 => hs z (by omega) (by omega) (by omega)) (fun z h1 h2 => ht z (by omega) (by omega) (by omega)) hlw, ?_, ?_, ?_, ?_, ?_, ?_⟩
  · rw [hs 20 (by omega) (by omega) (by omega), ht 153 (by omega) (by omega) (by omega)]; exact hear
  · rw [hs 121 (by omega) (by omega) (by omega)]; exact h7
  · rw [hs 121 (by omega) (by omega) (by omega)]; exact h6
  · rw [ht 135 (by omega) (by omega) (by omega)]; exact h5
  · rw [hs 121 (by omega) (by omega) (by omega), ht 135 (by omega) (by omega) (by omega)]; exact h43
  · obtain ⟨⟨k, hk, b1, b2⟩, b3⟩ := hbk
    refine ⟨⟨k, hk, ?_, ?_⟩, ?_⟩
    · rw [hs 9 (by omega) (by omega) (by omega)]; exact b1
    · rw [ht 136 (by omega) (by omega) (by omega)]; exact b2
    · rw [hs 10 (by omega) (by omega) (by omega), ht 142 (by omega) (by omega) (by omega)]; exact b3
theorem f_lay_F (c : Bool) {M n o s w : Nat} (hn : n ≤ 12) (hs : s < 4096) (hw : w < 4096) (v2 : Int32) : ∀ d j σ τ, j + d = n → iv_VF σ τ M n o s → σ 122 0 = 0 → (∀ l, l < 6 → σ 122 l = τ 158 l) → ∃ σ' τ', ix_S 48 5 130 [some (.ref 121), none, some (.int v2), some (.int (nI w)), some (.int (nI j)), none] [] (ix_S0 false, σ) = some (.int (iv_win (σ' 122)), (ix_S0 false, σ')) ∧ ix_S 207 8 95 [some (.ref 135), some (.int (nI s)), some (.int v2), some (.int (nI w)), some (.int (nI j))] [] (ix_S0 c, τ) = some (.int (iv_win (σ' 122)), (ix_S0 c, τ')) ∧ iv_VF σ' τ' M n o s ∧ σ' 122 0 = 0 ∧ (∀ l, l < 6 → σ' 122 l = τ' 158 l) ∧ iv_vXF σ σ' ∧ iv_vMF τ τ' := by
  intro d
  induction d with
  | zero =>
    intro j σ τ hj hV z0 hl
    have c6 : σ 2 6 = nI n := hV.1.1.1.2.2.2.2.2.2.1
    refine ⟨σ, τ, ?_, ?_, hV, z0, hl, iv_vXF.rf, iv_vMF.rf⟩
    · rw [q_Crossing_vote_130_F, c6, if_pos (nI_le (by omega) (by omega)), f_winX122]
      rfl
    · rw [q_M_votes_95, hV.1.2, if_pos (nI_le (by omega) (by omega)), f_winM]
      have : iv_win (σ 122) = iv_win (τ 158) := iv_wl_cong (fun l h1 h2 => hl l h1) 5 (by omega) 0 0
      rw [this]
      rfl
  | succ d ih =>
    intro j σ τ hj hV z0 hl
    have c6 : σ 2 6 = nI n := hV.1.1.1.2.2.2.2.2.2.1
    have g1 : ¬ nI n ≤ nI j := nI_ge (by omega) (by omega)
    have k1 : ¬ (nI j < 0 ∨ 12 ≤ j) := iv_ni (by omega) (by omega)
    have k3 : (nI j).toNatClampNeg = j := nI_clamp (by omega)
    have hwo : iv_wo s w < 4096 := iv_wo_lt (n := 12) hs
    by_cases hb : s.testBit j = true
    · by_cases hc : w.testBit j = true
      · obtain ⟨σ2, τ2, e3, e4, hV2, y0, yl, x2, m2⟩ := ih (j + 1) σ τ (by omega) hV z0 hl
        refine ⟨σ2, τ2, ?_, ?_, hV2, y0, yl, x2, m2⟩
        · rw [q_Crossing_vote_130_F, c6, if_neg g1, f_aboard false σ (by omega) (by omega) hV.2.2.2.1, iv_Bt hb]
          simp only [Option.bind_some, iv_tI, iv_10, if_false, nI_1]
          rw [iv_bit (by omega) (by omega), iv_Bt hc, if_neg (by decide)]
          exact e3
        · rw [q_M_votes_95, hV.1.2, if_neg g1, iv_wo_I, f_hasM c τ (by omega) (by omega), iv_Bf (by rw [iv_wo_bit, hc]; simp)]
          simp only [Option.bind_some, iv_tI, if_true, nI_1]
          exact e4
      · have hr : σ 3 j ∈ ix_rnk := hV.1.1.2.2.2.2 j (by omega)
        have rp : σ 3 j = τ 136 (6 + j) := (hV.1.1.2.2.2.1 j (by omega)).1
        obtain ⟨ld, hld1, hld5, hld⟩ : ∃ l : Nat, 1 ≤ l ∧ l ≤ 5 ∧ σ 3 j / 10000 = nI l := ⟨iv_d (σ 3 j) 0, (iv_d_la _ hr 0 (by omega)).2.1, (iv_d_la _ hr 0 (by omega)).2.2, (iv_d_dg _ hr).2.1⟩
        have hla : iv_la (τ 136 (6 + j)) 0 = nI ld := by
          rw [← rp, (iv_d_la _ hr 0 (by omega)).1, ← (iv_d_dg _ hr).2.1, hld]
        have kl : ¬ (nI ld < 0 ∨ 6 ≤ ld) := iv_ni (by omega) (by omega)
        have cl : (nI ld).toNatClampNeg = ld := nI_clamp (by omega)
        obtain ⟨v, σ1, τ1, hv, e1, e2, f1, f2⟩ := f_shell_F false c hn hV.1 hV.2.1 (show j < n by omega) hs v2
        have hV1 : iv_VF (ix_up σ1 122 ld (σ 122 ld + nI v)) (ix_up τ1 158 ld (τ 158 ld + nI v)) M n o s := iv_VF_cong (fun z z1 z2 z3 => (iv_upn z3).trans (f1 z z1 z2)) (fun z z1 z2 z3 => (iv_upn z3).trans (f2 z z1 z2)) hV
        have y0 : (ix_up σ1 122 ld (σ 122 ld + nI v)) 122 0 = 0 := by
          show upd (σ1 122) ld _ 0 = 0
          rw [pk_un (by omega), f1 122 (by omega) (by omega)]; exact z0
        have yl : ∀ l, l < 6 → (ix_up σ1 122 ld (σ 122 ld + nI v)) 122 l = (ix_up τ1 158 ld (τ 158 ld + nI v)) 158 l := by
          intro l hl6
          show upd (σ1 122) ld _ l = upd (τ1 158) ld _ l
          rw [f1 122 (by omega) (by omega), f2 158 (by omega) (by omega)]
          by_cases hll : l = ld
          · subst hll; rw [pk_us, pk_us, hl l hl6]
          · rw [pk_un hll, pk_un hll]; exact hl l hl6
        obtain ⟨σ2, τ2, e3, e4, hV2, y2, yl2, x2, m2⟩ := ih (j + 1) _ _ (by omega) hV1 y0 yl
        refine ⟨σ2, τ2, ?_, ?_, hV2, y2, yl2, iv_vXF.tr (fun z z1 z2 z3 z4 z5 => (iv_upn z5).trans (f1 z z2 z3)) x2, iv_vMF.tr ⟨fun z z1 z2 z3 z4 z5 z6 => (iv_upn z5).trans (f2 z z3 z4), fun i hi => by show τ1 135 i = _; rw [f2 135 (by omega) (by omega)]⟩ m2⟩
        · rw [q_Crossing_vote_130_F, c6, if_neg g1, f_aboard false σ (by omega) (by omega) hV.2.2.2.1, iv_Bt hb]
          simp only [Option.bind_some, iv_tI, iv_10, if_false, nI_1]
          rw [iv_bit (by omega) (by omega), iv_Bf hc, if_pos rfl]
          simp only [k1, k3, if_false, q_X_firstOf_0, Option.bind_some, iv_tI, hld, kl, cl, hV.2.2.2.1, e1]
          exact e3
        · rw [q_M_votes_95, hV.1.2, if_neg g1, iv_wo_I, f_hasM c τ (by omega) (by omega), iv_Bt (by rw [iv_wo_bit, hb]; simp [hc])]
          simp only [Option.bind_some, iv_tI, iv_10, if_false, f_firstOf c τ (show j < 48 by omega), hla, kl, cl, e2, nI_1]
          exact e4
    · obtain ⟨σ2, τ2, e3, e4, hV2, y0, yl, x2, m2⟩ := ih (j + 1) σ τ (by omega) hV z0 hl
      refine ⟨σ2, τ2, ?_, ?_, hV2, y0, yl, x2, m2⟩
      · rw [q_Crossing_vote_130_F, c6, if_neg g1, f_aboard false σ (by omega) (by omega) hV.2.2.2.1, iv_Bf hb]
        simp only [Option.bind_some, iv_tI, if_true, nI_1]
        exact e3
      · rw [q_M_votes_95, hV.1.2, if_neg g1, iv_wo_I, f_hasM c τ (by omega) (by omega), iv_Bf (by rw [iv_wo_bit]; simp [hb])]
        simp only [Option.bind_some, iv_tI, if_true, nI_1]
        exact e4
theorem f_vote_F (c : Bool) {σ τ : ix_St} {M n o s : Nat} (hn : n ≤ 12) (hs : s < 4096) (hR : iv_rvF σ τ M n o) (hlw : iv_lw σ τ) (hear : ∀ i, i < 12 → σ 20 i = τ 153 i) (h6 : σ 121 6 = 0) (h5 : τ 135 5 = 0) (hbk : iv_bk σ τ) : ∃ σ' τ', ix_F 48 [.ref 121, .int (nI s)] (ix_S0 false, σ) = some (.int (iv_win (σ' 122)), (ix_S0 false, σ')) ∧ ix_F 207 [.ref 135, .int (nI s)] (ix_S0 c, τ) = some (.int (iv_win (σ' 122)), (ix_S0 c, τ')) ∧ iv_VF σ' τ' M n o s ∧ σ' 122 0 = 0 ∧ (∀ l, l < 6 → σ' 122 l = τ' 158 l) ∧ iv_vXF σ σ' ∧ iv_vMF τ τ' := by
  obtain ⟨mi, hmi, emi⟩ := hR.1.2.1.2.1
  have e3 : τ 135 6 = nI mi := by rw [← emi]; exact hR.1.1.2.2.2.1.symm
  have e3' : σ 2 3 = nI mi := emi
  have hV0 : iv_VF (ix_up (ix_up σ 121 7 (nI s)) 121 1 0) (ix_up τ 135 43 0) M n o s := by
    refine ⟨iv_rvF_cong (fun z h1 h2 => (iv_upn (by omega)).trans (iv_upn (by omega))) rfl rfl rfl rfl rfl rfl hR, iv_lw_cong (fun z h1 h2 => (iv_upn (by omega)).trans (iv_upn (by omega))) (fun z h1 h2 => iv_upn (by omega)) hlw, hear, rfl, h6, h5, rfl, hbk⟩
  have X0 : iv_vXF σ (ix_up (ix_up σ 121 7 (nI s)) 121 1 0) := fun z z1 z2 z3 z4 z5 => (iv_upn z4).trans (iv_upn z4)
  have M0 : iv_vMF τ (ix_up τ 135 43 0) := ⟨fun z z1 z2 z3 z4 z5 z6 => iv_upn z1, fun i hi => pk_un hi⟩
  obtain ⟨σ1, τ1, a1, a2, hV1, x1, m1⟩ := f_talk_F c hn hs (show 3 + mi ≤ 12 by omega) (3 + mi) 0 _ _ (by omega) hV0
  obtain ⟨w, σ2, τ2, hw, b1, b2, hV2, x2, m2⟩ := f_wade_F c hn hs (nI (3 + mi)) n 0 0 σ1 τ1 (by omega) (by omega) hV1
  obtain ⟨σ3, c1, c2, c3⟩ := f_fill122 false σ2 0
  have key : ∀ d j τ, j + d = 6 → ∃ τ', ix_S 207 8 71 [some (.ref 135), some (.int (nI s)), some (.int (nI (3 + mi))), some (.int (nI w)), some (.int (nI j))] [] (ix_S0 c, τ) = ix_S 207 8 95 [some (.ref 135), some (.int (nI s)), some (.int (nI (3 + mi))), some (.int (nI w)), some (.int (0 : Int32))] [] (ix_S0 c, τ') ∧ (∀ z, z ≠ 158 → τ' z = τ z) ∧ ∀ i, τ' 158 i = if j ≤ i ∧ i < 6 then 0 else τ 158 i := by
    intro d
    induction d with
    | zero =>
      intro j τ hj
      refine ⟨τ, by rw [q_M_votes_71, if_pos (show (6 : Int32) ≤ nI j from nI_le (a := 6) (by omega) (by omega))], fun _ _ => rfl, fun i => by rw [if_neg (by omega)]⟩
    | succ d ih =>
      intro j τ hj
      obtain ⟨τ', e, f, g⟩ := ih (j + 1) (ix_up τ 158 j 0) (by omega)
      refine ⟨τ', ?_, fun z hz => (f z hz).trans (iv_upn hz), fun i => ?_⟩
      · rw [q_M_votes_71, if_neg (show ¬ (6 : Int32) ≤ nI j from nI_ge (b := 6) (by omega) (by omega)), if_neg (nI_in (by omega) (by omega)), nI_clamp (by omega), nI_1]
        exact e
      · rw [g i]
        show (if _ then 0 else upd (τ 158) j 0 i) = _
        by_cases h1 : j + 1 ≤ i ∧ i < 6
        · rw [if_pos h1, if_pos (by omega)]
        · rw [if_neg h1]
          by_cases h2 : i = j
          · subst h2; rw [pk_us, if_pos (by omega)]
          · rw [pk_un h2, if_neg (by omega)]
  obtain ⟨τ3, d1, d2, d3⟩ := key 6 0 τ2 (by omega)
  have hV3 : iv_VF σ3 τ3 M n o s := iv_VF_cong (fun z z1 z2 z3 => c2 z z3) (fun z z1 z2 z3 => d2 z z3) hV2
  have z0 : σ3 122 0 = 0 := by rw [c3 0]; rfl
  have zl : ∀ l, l < 6 → σ3 122 l = τ3 158 l := by
    intro l hl
    rw [c3 l, d3 l, if_pos hl, if_pos ⟨by omega, hl⟩]
  obtain ⟨σ4, τ4, g1, g2, hV4, y0, yl, x4, m4⟩ := f_lay_F c hn hs hw (nI (3 + mi)) n 0 σ3 τ3 (by omega) hV3 z0 zl
  refine ⟨σ4, τ4, ?_, ?_, hV4, y0, yl, X0.tr (x1.tr (x2.tr (iv_vXF.tr (fun z z1 z2 z3 z4 z5 => c2 z z5) x4))), M0.tr (m1.tr (m2.tr (iv_vMF.tr ⟨fun z z1 z2 z3 z4 z5 z6 => d2 z z5, fun i hi => by rw [d2 135 (by omega)]⟩ m4)))⟩
  · rw [q_Crossing_vote_0_F, e3', show (3 : Int32) + nI mi = nI (3 + mi) from nI_add 3 mi]
    refine a1.trans (b1.trans ?_)
    rw [c1]
    exact g1
  · rw [q_M_votes_0, e3, show (3 : Int32) + nI mi = nI (3 + mi) from nI_add 3 mi]
    refine a2.trans ?_
    rw [q_M_wadingOf_0]
    have b2' : ix_S 242 7 5 [some (.ref 135), some (.int (nI s)), some (.int (nI (3 + mi))), some (.int (0 : Int32)), some (.int (0 : Int32))] [] (ix_S0 c, τ1) = some (.int (nI w), (ix_S0 c, τ2)) := b2
    rw [b2']
    simp only [Option.bind_some, iv_tI]
    exact d1.trans g2

theorem f_talk1_T (c : Bool) {M n o s : Nat} (hn : n ≤ 12) (hs : s < 4096) (v2 v3 : Int32) : ∀ d j σ τ, j + d = n → iv_VT σ τ M n o s → ∃ σ' τ', ix_S 48 5 30 [some (.ref 121), none, some (.int v2), some (.int v3), some (.int (nI j)), none] [] (ix_S0 true, σ) = ix_S 48 5 22 [some (.ref 121), none, some (.int v2), some (.int (v3 + 1)), none, none] [] (ix_S0 true, σ') ∧ ix_S 207 8 22 [some (.ref 135), some (.int (nI s)), some (.int v2), some (.int v3), some (.int (nI j))] [] (ix_S0 c, τ) = ix_S 207 8 14 [some (.ref 135), some (.int (nI s)), some (.int v2), some (.int (v3 + 1)), none] [] (ix_S0 c, τ') ∧ iv_VT σ' τ' M n o s ∧ iv_vXT σ σ' ∧ iv_vMT τ τ' := by
  intro d
  induction d with
  | zero =>
    intro j σ τ hj hV
    have c6 : σ 123 6 = nI n := hV.1.1.1.2.2.2.2.2.2.1
    refine ⟨σ, τ, ?_, ?_, hV, iv_vXT.rf, iv_vMT.rf⟩
    · rw [q_Crossing_vote_30_T, c6, if_pos (nI_le (by omega) (by omega))]
    · rw [q_M_votes_22, hV.1.2, if_pos (nI_le (by omega) (by omega))]
  | succ d ih =>
    intro j σ τ hj hV
    have c6 : σ 123 6 = nI n := hV.1.1.1.2.2.2.2.2.2.1
    have g1 : ¬ nI n ≤ nI j := nI_ge (by omega) (by omega)
    by_cases hb : s.testBit j = true
    · obtain ⟨σ1, τ1, e1, e2, hV1, x1, m1⟩ := f_listen_T c hn hV (show j < n by omega) hs v3
      obtain ⟨σ2, τ2, e3, e4, hV2, x2, m2⟩ := ih (j + 1) σ1 τ1 (by omega) hV1
      refine ⟨σ2, τ2, ?_, ?_, hV2, x1.tr x2, m1.tr m2⟩
      · rw [q_Crossing_vote_30_T, c6, if_neg g1, f_aboard true σ (by omega) (by omega) hV.2.2.2.1, iv_Bt hb]
        simp only [Option.bind_some, iv_tI, iv_10, if_false, e1, nI_1]
        exact e3
      · rw [q_M_votes_22, hV.1.2, if_neg g1, f_hasM c τ (by omega) (by omega), iv_Bt hb]
        simp only [Option.bind_some, iv_tI, iv_10, if_false, e2, nI_1]
        exact e4
    · obtain ⟨σ2, τ2, e3, e4, hV2, x2, m2⟩ := ih (j + 1) σ τ (by omega) hV
      refine ⟨σ2, τ2, ?_, ?_, hV2, x2, m2⟩
      · rw [q_Crossing_vote_30_T, c6, if_neg g1, f_aboard true σ (by omega) (by omega) hV.2.2.2.1, iv_Bf hb]
        simp only [Option.bind_some, iv_tI, if_true, nI_1]
        exact e3
      · rw [q_M_votes_22, hV.1.2, if_neg g1, f_hasM c τ (by omega) (by omega), iv_Bf hb]
        simp only [Option.bind_some, iv_tI, if_true, nI_1]
        exact e4
theorem f_talk_T (c : Bool) {M n o s mi : Nat} (hn : n ≤ 12) (hs : s < 4096) (hm : mi ≤ 12) : ∀ d k σ τ, k + d = mi → iv_VT σ τ M n o s → ∃ σ' τ', ix_S 48 5 22 [some (.ref 121), none, some (.int (nI mi)), some (.int (nI k)), none, none] [] (ix_S0 true, σ) = ix_S 48 5 75 [some (.ref 121), none, some (.int (nI mi)), some (.int 0), some (.int 0), none] [] (ix_S0 true, σ') ∧ ix_S 207 8 14 [some (.ref 135), some (.int (nI s)), some (.int (nI mi)), some (.int (nI k)), none] [] (ix_S0 c, τ) = ((ix_F 242 [.ref 135, .int (nI s), .int (nI mi)] (ix_S0 c, τ')).bind fun x1 => ix_S 207 8 71 [some (.ref 135), some (.int (nI s)), some (.int (nI mi)), some (.int (ix_toI x1.1)), some (.int (0 : Int32))] [] (ix_S0 c, x1.2.2)) ∧ iv_VT σ' τ' M n o s ∧ iv_vXT σ σ' ∧ iv_vMT τ τ' := by
  intro d
  induction d with
  | zero =>
    intro k σ τ hk hV
    refine ⟨σ, τ, ?_, ?_, hV, iv_vXT.rf, iv_vMT.rf⟩
    · rw [q_Crossing_vote_22_T, if_pos (nI_le (by omega) (by omega))]
    · rw [q_M_votes_14, if_pos (nI_le (by omega) (by omega))]
  | succ d ih =>
    intro k σ τ hk hV
    obtain ⟨σ1, τ1, e1, e2, hV1, x1, m1⟩ := f_talk1_T c hn hs (nI mi) (nI k) n 0 σ τ (by omega) hV
    obtain ⟨σ2, τ2, e3, e4, hV2, x2, m2⟩ := ih (k + 1) σ1 τ1 (by omega) hV1
    refine ⟨σ2, τ2, ?_, ?_, hV2, x1.tr x2, m1.tr m2⟩
    · rw [q_Crossing_vote_22_T, if_neg (nI_ge (by omega) (by omega))]
      rw [nI_1] at e1
      exact e1.trans e3
    · rw [q_M_votes_14, if_neg (nI_ge (by omega) (by omega))]
      rw [nI_1] at e2
      exact e2.trans e4
theorem f_wade_T (c : Bool) {M n o s : Nat} (hn : n ≤ 12) (hs : s < 4096) (v2 : Int32) : ∀ d j w σ τ, j + d = n → w < 4096 → iv_VT σ τ M n o s → ∃ w' σ' τ', w' < 4096 ∧ ix_S 48 5 75 [some (.ref 121), none, some (.int v2), some (.int (nI w)), some (.int (nI j)), none] [] (ix_S0 true, σ) = ((ix_F 284 [.ref 122, .int (0 : Int32)] (ix_S0 true, σ')).bind fun x1 => ix_S 48 5 130 [some (.ref 121), none, some (.int v2), some (.int (nI w')), some (.int (0 : Int32)), none] [] (ix_S0 true, x1.2.2)) ∧ ix_S 242 7 5 [some (.ref 135), some (.int (nI s)), some (.int v2), some (.int (nI w)), some (.int (nI j))] [] (ix_S0 c, τ) = some (.int (nI w'), (ix_S0 c, τ')) ∧ iv_VT σ' τ' M n o s ∧ iv_vXT σ σ' ∧ iv_vMT τ τ' := by
  intro d
  induction d with
  | zero =>
    intro j w σ τ hj hw hV
    have c6 : σ 123 6 = nI n := hV.1.1.1.2.2.2.2.2.2.1
    refine ⟨w, σ, τ, hw, ?_, ?_, hV, iv_vXT.rf, iv_vMT.rf⟩
    · rw [q_Crossing_vote_75_T, c6, if_pos (nI_le (by omega) (by omega))]
    · rw [q_M_wadingOf_5, hV.1.2, if_pos (nI_le (by omega) (by omega))]
  | succ d ih =>
    intro j w σ τ hj hw hV
    have c6 : σ 123 6 = nI n := hV.1.1.1.2.2.2.2.2.2.1
    have g1 : ¬ nI n ≤ nI j := nI_ge (by omega) (by omega)
    have m30 : (30 : Int32) + nI j = nI (30 + j) := nI_add 30 j
    have i30 : ¬ (nI (30 + j) < 0 ∨ 54 ≤ 30 + j) := iv_ni (by omega) (by omega)
    have l30 : (nI (30 + j)).toNatClampNeg = 30 + j := nI_clamp (by omega)
    have hw2 : w ||| 2 ^ j < 4096 := Nat.or_lt_two_pow (n := 12) hw (Nat.pow_lt_pow_right (by omega) (by omega))
    by_cases hb : s.testBit j = true
    · obtain ⟨a, ha, σ1, τ0, τ1, e1, e2, na, ya, hV1, x1, m1⟩ := f_abstain_T c hn hV (show j < n by omega) hs v2
      by_cases h : a
      · obtain ⟨w', σ2, τ2, hw', e3, e4, hV2, x2, m2⟩ := ih (j + 1) (w ||| 2 ^ j) σ1 τ1 (by omega) hw2 hV1
        refine ⟨w', σ2, τ2, hw', ?_, ?_, hV2, x1.tr x2, m1.tr m2⟩
        · rw [q_Crossing_vote_75_T, c6, if_neg g1, f_aboard true σ (by omega) (by omega) hV.2.2.2.1, iv_Bt hb]
          simp only [Option.bind_some, iv_tI, iv_10, if_false, e1, iv_Bt h, nI_1]
          rw [iv_shl (by omega), iv_or]
          exact e3
        · rw [q_M_wadingOf_5, hV.1.2, if_neg g1, f_hasM c τ (by omega) (by omega), iv_Bt hb]
          simp only [Option.bind_some, iv_tI, iv_10, if_false, e2, iv_Bt h, nI_1, m30, l30, i30, pk_us]
          rw [ya h, iv_shl (by omega), iv_or]
          exact e4
      · have hna := na h
        subst hna
        obtain ⟨w', σ2, τ2, hw', e3, e4, hV2, x2, m2⟩ := ih (j + 1) w σ1 τ1 (by omega) hw hV1
        refine ⟨w', σ2, τ2, hw', ?_, ?_, hV2, x1.tr x2, m1.tr m2⟩
        · rw [q_Crossing_vote_75_T, c6, if_neg g1, f_aboard true σ (by omega) (by omega) hV.2.2.2.1, iv_Bt hb]
          simp only [Option.bind_some, iv_tI, iv_10, if_false, e1, iv_Bf h, if_true, nI_1]
          exact e3
        · rw [q_M_wadingOf_5, hV.1.2, if_neg g1, f_hasM c τ (by omega) (by omega), iv_Bt hb]
          simp only [Option.bind_some, iv_tI, iv_10, if_false, e2, iv_Bf h, if_true, nI_1]
          exact e4
    · obtain ⟨w', σ2, τ2, hw', e3, e4, hV2, x2, m2⟩ := ih (j + 1) w σ τ (by omega) hw hV
      refine ⟨w', σ2, τ2, hw', ?_, ?_, hV2, x2, m2⟩
      · rw [q_Crossing_vote_75_T, c6, if_neg g1, f_aboard true σ (by omega) (by omega) hV.2.2.2.1, iv_Bf hb]
        simp only [Option.bind_some, iv_tI, if_true, nI_1]
        exact e3
      · rw [q_M_wadingOf_5, hV.1.2, if_neg g1, f_hasM c τ (by omega) (by omega), iv_Bf hb]
        simp only [Option.bind_some, iv_tI, if_true, nI_1]
        exact e4
theorem iv_VT_cong {σ σ' τ τ' : ix_St} {M n o s : Nat} (hs : ∀ z, z ≠ 18 → z ≠ 19 → z ≠ 122 → σ' z = σ z) (ht : ∀ z, z ≠ 156 → z ≠ 157 → z ≠ 158 → τ' z = τ z) (hV : iv_VT σ τ M n o s) : iv_VT σ' τ' M n o s := by
  obtain ⟨hR, hlw, hear, h7, h6, h5, h43, hbk⟩ := hV
  refine ⟨iv_rvT_cong (fun z h1 h2 => hs z (by omega) (by omega) (by omega)) (by rw [ht 135 (by omega) (by omega) (by omega)]) (by rw [ht 135 (by omega) (by omega) (by omega)]) (ht 136 (by omega) (by omega) (by omega)) (ht 139 (by omega) (by omega) (by omega)) (ht 140 (by omega) (by omega) (by omega)) (ht 141 (by omega) (by omega) (by omega)) hR, iv_lw_cong (fun z h1 h2 => hs z (by omega) (by omega) (by omega)) (fun z h1 h2 => ht z (by omega) (by omega) (by omega)) hlw, ?_, ?_, ?_, ?_, ?_, ?_⟩
  · rw [hs 20 (by omega) (by omega) (by omega), ht 153 (by omega) (by omega) (by omega)]; exact hear
  · rw [hs 121 (by omega) (by omega) (by omega)]; exact h7
  · rw [hs 121 (by omega) (by omega) (by omega)]; exact h6
  · rw [ht 135 (by omega) (by omega) (by omega)]; exact h5
  · rw [hs 121 (by omega) (by omega) (by omega), ht 135 (by omega) (by omega) (by omega)]; exact h43
  · exact trivial
theorem f_lay_T (c : Bool) {M n o s w : Nat} (hn : n ≤ 12) (hs : s < 4096) (hw : w < 4096) (v2 : Int32) : ∀ d j σ τ, j + d = n → iv_VT σ τ M n o s → σ 122 0 = 0 → (∀ l, l < 6 → σ 122 l = τ 158 l) → ∃ σ' τ', ix_S 48 5 130 [some (.ref 121), none, some (.int v2), some (.int (nI w)), some (.int (nI j)), none] [] (ix_S0 true, σ) = some (.int (iv_win (σ' 122)), (ix_S0 true, σ')) ∧ ix_S 207 8 95 [some (.ref 135), some (.int (nI s)), some (.int v2), some (.int (nI w)), some (.int (nI j))] [] (ix_S0 c, τ) = some (.int (iv_win (σ' 122)), (ix_S0 c, τ')) ∧ iv_VT σ' τ' M n o s ∧ σ' 122 0 = 0 ∧ (∀ l, l < 6 → σ' 122 l = τ' 158 l) ∧ iv_vXT σ σ' ∧ iv_vMT τ τ' := by
  intro d
  induction d with
  | zero =>
    intro j σ τ hj hV z0 hl
    have c6 : σ 123 6 = nI n := hV.1.1.1.2.2.2.2.2.2.1
    refine ⟨σ, τ, ?_, ?_, hV, z0, hl, iv_vXT.rf, iv_vMT.rf⟩
    · rw [q_Crossing_vote_130_T, c6, if_pos (nI_le (by omega) (by omega)), f_winX122]
      rfl
    · rw [q_M_votes_95, hV.1.2, if_pos (nI_le (by omega) (by omega)), f_winM]
      have : iv_win (σ 122) = iv_win (τ 158) := iv_wl_cong (fun l h1 h2 => hl l h1) 5 (by omega) 0 0
      rw [this]
      rfl
  | succ d ih =>
    intro j σ τ hj hV z0 hl
    have c6 : σ 123 6 = nI n := hV.1.1.1.2.2.2.2.2.2.1
    have g1 : ¬ nI n ≤ nI j := nI_ge (by omega) (by omega)
    have k1 : ¬ (nI j < 0 ∨ 12 ≤ j) := iv_ni (by omega) (by omega)
    have k3 : (nI j).toNatClampNeg = j := nI_clamp (by omega)
    have hwo : iv_wo s w < 4096 := iv_wo_lt (n := 12) hs
    by_cases hb : s.testBit j = true
    · by_cases hc : w.testBit j = true
      · obtain ⟨σ2, τ2, e3, e4, hV2, y0, yl, x2, m2⟩ := ih (j + 1) σ τ (by omega) hV z0 hl
        refine ⟨σ2, τ2, ?_, ?_, hV2, y0, yl, x2, m2⟩
        · rw [q_Crossing_vote_130_T, c6, if_neg g1, f_aboard true σ (by omega) (by omega) hV.2.2.2.1, iv_Bt hb]
          simp only [Option.bind_some, iv_tI, iv_10, if_false, nI_1]
          rw [iv_bit (by omega) (by omega), iv_Bt hc, if_neg (by decide)]
          exact e3
        · rw [q_M_votes_95, hV.1.2, if_neg g1, iv_wo_I, f_hasM c τ (by omega) (by omega), iv_Bf (by rw [iv_wo_bit, hc]; simp)]
          simp only [Option.bind_some, iv_tI, if_true, nI_1]
          exact e4
      · have hr : σ 124 j ∈ ix_rnk := hV.1.1.2.2.2.2 j (by omega)
        have rp : σ 124 j = τ 136 (6 + j) := (hV.1.1.2.2.2.1 j (by omega)).1
        obtain ⟨ld, hld1, hld5, hld⟩ : ∃ l : Nat, 1 ≤ l ∧ l ≤ 5 ∧ σ 124 j / 10000 = nI l := ⟨iv_d (σ 124 j) 0, (iv_d_la _ hr 0 (by omega)).2.1, (iv_d_la _ hr 0 (by omega)).2.2, (iv_d_dg _ hr).2.1⟩
        have hla : iv_la (τ 136 (6 + j)) 0 = nI ld := by
          rw [← rp, (iv_d_la _ hr 0 (by omega)).1, ← (iv_d_dg _ hr).2.1, hld]
        have kl : ¬ (nI ld < 0 ∨ 6 ≤ ld) := iv_ni (by omega) (by omega)
        have cl : (nI ld).toNatClampNeg = ld := nI_clamp (by omega)
        obtain ⟨v, σ1, τ1, hv, e1, e2, f1, f2⟩ := f_shell_T true c hn hV.1 hV.2.1 (show j < n by omega) hs v2
        have hV1 : iv_VT (ix_up σ1 122 ld (σ 122 ld + nI v)) (ix_up τ1 158 ld (τ 158 ld + nI v)) M n o s := iv_VT_cong (fun z z1 z2 z3 => (iv_upn z3).trans (f1 z z1 z2)) (fun z z1 z2 z3 => (iv_upn z3).trans (f2 z z1 z2)) hV
        have y0 : (ix_up σ1 122 ld (σ 122 ld + nI v)) 122 0 = 0 := by
          show upd (σ1 122) ld _ 0 = 0
          rw [pk_un (by omega), f1 122 (by omega) (by omega)]; exact z0
        have yl : ∀ l, l < 6 → (ix_up σ1 122 ld (σ 122 ld + nI v)) 122 l = (ix_up τ1 158 ld (τ 158 ld + nI v)) 158 l := by
          intro l hl6
          show upd (σ1 122) ld _ l = upd (τ1 158) ld _ l
          rw [f1 122 (by omega) (by omega), f2 158 (by omega) (by omega)]
          by_cases hll : l = ld
          · subst hll; rw [pk_us, pk_us, hl l hl6]
          · rw [pk_un hll, pk_un hll]; exact hl l hl6
        obtain ⟨σ2, τ2, e3, e4, hV2, y2, yl2, x2, m2⟩ := ih (j + 1) _ _ (by omega) hV1 y0 yl
        refine ⟨σ2, τ2, ?_, ?_, hV2, y2, yl2, iv_vXT.tr (fun z z1 z2 z3 z4 z5 => (iv_upn z5).trans (f1 z z2 z3)) x2, iv_vMT.tr ⟨fun z z1 z2 z3 z4 z5  => (iv_upn z5).trans (f2 z z3 z4), fun i hi => by show τ1 135 i = _; rw [f2 135 (by omega) (by omega)]⟩ m2⟩
        · rw [q_Crossing_vote_130_T, c6, if_neg g1, f_aboard true σ (by omega) (by omega) hV.2.2.2.1, iv_Bt hb]
          simp only [Option.bind_some, iv_tI, iv_10, if_false, nI_1]
          rw [iv_bit (by omega) (by omega), iv_Bf hc, if_pos rfl]
          simp only [k1, k3, if_false, q_X_firstOf_0, Option.bind_some, iv_tI, hld, kl, cl, hV.2.2.2.1, e1]
          exact e3
        · rw [q_M_votes_95, hV.1.2, if_neg g1, iv_wo_I, f_hasM c τ (by omega) (by omega), iv_Bt (by rw [iv_wo_bit, hb]; simp [hc])]
          simp only [Option.bind_some, iv_tI, iv_10, if_false, f_firstOf c τ (show j < 48 by omega), hla, kl, cl, e2, nI_1]
          exact e4
    · obtain ⟨σ2, τ2, e3, e4, hV2, y0, yl, x2, m2⟩ := ih (j + 1) σ τ (by omega) hV z0 hl
      refine ⟨σ2, τ2, ?_, ?_, hV2, y0, yl, x2, m2⟩
      · rw [q_Crossing_vote_130_T, c6, if_neg g1, f_aboard true σ (by omega) (by omega) hV.2.2.2.1, iv_Bf hb]
        simp only [Option.bind_some, iv_tI, if_true, nI_1]
        exact e3
      · rw [q_M_votes_95, hV.1.2, if_neg g1, iv_wo_I, f_hasM c τ (by omega) (by omega), iv_Bf (by rw [iv_wo_bit]; simp [hb])]
        simp only [Option.bind_some, iv_tI, if_true, nI_1]
        exact e4
theorem f_vote_T (c : Bool) {σ τ : ix_St} {M n o s : Nat} (hn : n ≤ 12) (hs : s < 4096) (hR : iv_rvT σ τ M n o) (hlw : iv_lw σ τ) (hear : ∀ i, i < 12 → σ 20 i = τ 153 i) (h6 : σ 121 6 = 1) (h5 : τ 135 5 = 1) (hbk : True) : ∃ σ' τ', ix_F 48 [.ref 121, .int (nI s)] (ix_S0 true, σ) = some (.int (iv_win (σ' 122)), (ix_S0 true, σ')) ∧ ix_F 207 [.ref 135, .int (nI s)] (ix_S0 c, τ) = some (.int (iv_win (σ' 122)), (ix_S0 c, τ')) ∧ iv_VT σ' τ' M n o s ∧ σ' 122 0 = 0 ∧ (∀ l, l < 6 → σ' 122 l = τ' 158 l) ∧ iv_vXT σ σ' ∧ iv_vMT τ τ' := by
  obtain ⟨mi, hmi, emi⟩ := hR.1.2.1.2.1
  have e3 : τ 135 6 = nI mi := by rw [← emi]; exact hR.1.1.2.2.2.1.symm
  have e3' : σ 123 3 = nI mi := emi
  have hV0 : iv_VT (ix_up (ix_up σ 121 7 (nI s)) 121 1 0) (ix_up τ 135 43 0) M n o s := by
    refine ⟨iv_rvT_cong (fun z h1 h2 => (iv_upn (by omega)).trans (iv_upn (by omega))) rfl rfl rfl rfl rfl rfl hR, iv_lw_cong (fun z h1 h2 => (iv_upn (by omega)).trans (iv_upn (by omega))) (fun z h1 h2 => iv_upn (by omega)) hlw, hear, rfl, h6, h5, rfl, trivial⟩
  have X0 : iv_vXT σ (ix_up (ix_up σ 121 7 (nI s)) 121 1 0) := fun z z1 z2 z3 z4 z5 => (iv_upn z4).trans (iv_upn z4)
  have M0 : iv_vMT τ (ix_up τ 135 43 0) := ⟨fun z z1 z2 z3 z4 z5  => iv_upn z1, fun i hi => pk_un hi⟩
  obtain ⟨σ1, τ1, a1, a2, hV1, x1, m1⟩ := f_talk_T c hn hs (show 3 + mi ≤ 12 by omega) (3 + mi) 0 _ _ (by omega) hV0
  obtain ⟨w, σ2, τ2, hw, b1, b2, hV2, x2, m2⟩ := f_wade_T c hn hs (nI (3 + mi)) n 0 0 σ1 τ1 (by omega) (by omega) hV1
  obtain ⟨σ3, c1, c2, c3⟩ := f_fill122 true σ2 0
  have key : ∀ d j τ, j + d = 6 → ∃ τ', ix_S 207 8 71 [some (.ref 135), some (.int (nI s)), some (.int (nI (3 + mi))), some (.int (nI w)), some (.int (nI j))] [] (ix_S0 c, τ) = ix_S 207 8 95 [some (.ref 135), some (.int (nI s)), some (.int (nI (3 + mi))), some (.int (nI w)), some (.int (0 : Int32))] [] (ix_S0 c, τ') ∧ (∀ z, z ≠ 158 → τ' z = τ z) ∧ ∀ i, τ' 158 i = if j ≤ i ∧ i < 6 then 0 else τ 158 i := by
    intro d
    induction d with
    | zero =>
      intro j τ hj
      refine ⟨τ, by rw [q_M_votes_71, if_pos (show (6 : Int32) ≤ nI j from nI_le (a := 6) (by omega) (by omega))], fun _ _ => rfl, fun i => by rw [if_neg (by omega)]⟩
    | succ d ih =>
      intro j τ hj
      obtain ⟨τ', e, f, g⟩ := ih (j + 1) (ix_up τ 158 j 0) (by omega)
      refine ⟨τ', ?_, fun z hz => (f z hz).trans (iv_upn hz), fun i => ?_⟩
      · rw [q_M_votes_71, if_neg (show ¬ (6 : Int32) ≤ nI j from nI_ge (b := 6) (by omega) (by omega)), if_neg (nI_in (by omega) (by omega)), nI_clamp (by omega), nI_1]
        exact e
      · rw [g i]
        show (if _ then 0 else upd (τ 158) j 0 i) = _
        by_cases h1 : j + 1 ≤ i ∧ i < 6
        · rw [if_pos h1, if_pos (by omega)]
        · rw [if_neg h1]
          by_cases h2 : i = j
          · subst h2; rw [pk_us, if_pos (by omega)]
          · rw [pk_un h2, if_neg (by omega)]
  obtain ⟨τ3, d1, d2, d3⟩ := key 6 0 τ2 (by omega)
  have hV3 : iv_VT σ3 τ3 M n o s := iv_VT_cong (fun z z1 z2 z3 => c2 z z3) (fun z z1 z2 z3 => d2 z z3) hV2
  have z0 : σ3 122 0 = 0 := by rw [c3 0]; rfl
  have zl : ∀ l, l < 6 → σ3 122 l = τ3 158 l := by
    intro l hl
    rw [c3 l, d3 l, if_pos hl, if_pos ⟨by omega, hl⟩]
  obtain ⟨σ4, τ4, g1, g2, hV4, y0, yl, x4, m4⟩ := f_lay_T c hn hs hw (nI (3 + mi)) n 0 σ3 τ3 (by omega) hV3 z0 zl
  refine ⟨σ4, τ4, ?_, ?_, hV4, y0, yl, X0.tr (x1.tr (x2.tr (iv_vXT.tr (fun z z1 z2 z3 z4 z5 => c2 z z5) x4))), M0.tr (m1.tr (m2.tr (iv_vMT.tr ⟨fun z z1 z2 z3 z4 z5  => d2 z z5, fun i hi => by rw [d2 135 (by omega)]⟩ m4)))⟩
  · rw [q_Crossing_vote_0_T, e3', show (3 : Int32) + nI mi = nI (3 + mi) from nI_add 3 mi]
    refine a1.trans (b1.trans ?_)
    rw [c1]
    exact g1
  · rw [q_M_votes_0, e3, show (3 : Int32) + nI mi = nI (3 + mi) from nI_add 3 mi]
    refine a2.trans ?_
    rw [q_M_wadingOf_0]
    have b2' : ix_S 242 7 5 [some (.ref 135), some (.int (nI s)), some (.int (nI (3 + mi))), some (.int (0 : Int32)), some (.int (0 : Int32))] [] (ix_S0 c, τ1) = some (.int (nI w), (ix_S0 c, τ2)) := b2
    rw [b2']
    simp only [Option.bind_some, iv_tI]
    exact d1.trans g2

