/-! a condition, joint -/
theorem rk_80 {o : Nat} (h : o < 2 ^ 31) : ix_rk 80 [.ref 105, .int (nI o)] = 4 + 3 * (9 - o) := by
  show 4 + 0 + 3 * (9 - (nI o).toNatClampNeg) = _
  rw [nI_clamp h]
theorem rk_74 {o : Nat} (h : o < 2 ^ 31) : ix_rk 74 [.ref 105, .int (nI o)] = 5 + 3 * (9 - o) := by
  show 4 + 1 + 3 * (9 - (nI o).toNatClampNeg) = _
  rw [nI_clamp h]
theorem rk_81 {o : Nat} (h : o < 2 ^ 31) : ix_rk 81 [.ref 105, .int (nI o)] = 6 + 3 * (9 - o) := by
  show 4 + 2 + 3 * (9 - (nI o).toNatClampNeg) = _
  rw [nI_clamp h]
/-- the reference's loop -/
noncomputable def tx_A (d : Bool) (br : Nat) (due : Int32) (τ : ix_St) : ix_R := ix_S 261 8 9 [some (.ref 135), some (.int (nI br)), some (.int due), none] [] (ix_S0 d, τ)
/-- .. where conditions end -/
noncomputable def tx_E (d : Bool) (br : Nat) (τ : ix_St) : ix_R := (if nI br = 0 then some (.int (0 : Int32), (ix_S0 d, τ)) else ((ix_F 262 [.ref 135, .int (41 : Int32)] (ix_S0 d, τ)).bind fun x5 => (if (ix_toI x5.1) = 0 then ((ix_F 255 [.ref 135, .int (1 : Int32)] (ix_S0 d, x5.2.2)).bind fun x6 => some (.int (ix_toI x6.1), (ix_S0 d, x6.2.2))) else ((ix_F 280 [.ref 135, .int (9 : Int32)] (ix_S0 d, (ix_up (ix_up x5.2.2 135 30 ((x5.2.2 135 30) - (1 : Int32))) 135 28 ((x5.2.2 135 28) - (1 : Int32))))).bind fun x7 => ((ix_F 233 [.ref 135] (ix_S0 d, x7.2.2)).bind fun x8 => ix_S 261 8 9 [some (.ref 135), some (.int (nI br - (1 : Int32))), some (.int (0 : Int32)), none] [] (ix_S0 d, x8.2.2))))))
/-- a condition at depth o behind m NOTs: both fail, or go on alike -/
def tx_PC (b d : Bool) (n t : Nat) (c : Nat → Nat) (a : Nat) : Prop := ∀ (o m z z0 br : Nat) (σ τ : ix_St) (S : List Int32) (T B : List Nat), o ≤ 8 → m ≤ o → S.head? ≠ some 9 → m + S.length ≤ 3 * o + 2 → B.length ≤ 2 * o + 2 → z + m + 1 ≤ a → a ≤ n → br ≤ o → tx_J 0 c t n a σ τ → tx_cd σ τ z0 z T B → tx_pd τ (List.replicate m 9 ++ S) o →
  (∃ σ' τ', ix_F 80 [.ref 105, .int (nI o)] (ix_S0 b, σ) = some (.int 0, (ix_S0 b, σ')) ∧ tx_A d br 1 τ = some (.int (-1), (ix_S0 d, τ')) ∧ tx_la σ σ' ∧ tx_ld τ τ' ∧ tx_bad σ' τ') ∨
  ∃ a' z' σ' τ', a < a' ∧ a' ≤ n ∧ z ≤ z' ∧ z' + a ≤ z + a' ∧ ix_F 80 [.ref 105, .int (nI o)] (ix_S0 b, σ) = some (.int 1, (ix_S0 b, σ')) ∧ tx_A d br 1 τ = tx_A d br 0 τ' ∧ tx_J 0 c t n a' σ' τ' ∧ tx_cn σ' τ' z0 z' m 9 T (1 :: B) ∧ tx_pd τ' S (o - m) ∧ tx_fc σ σ' τ τ' z
/-- conditions at depth o -/
def tx_PB (b d : Bool) (n t : Nat) (c : Nat → Nat) (a : Nat) : Prop := ∀ (o z z0 br : Nat) (σ τ : ix_St) (S : List Int32) (T B : List Nat), o ≤ 8 → (S = [] ∨ ∃ S', S = 12 :: S') → S.length ≤ 3 * o → B.length ≤ 2 * o → z + 1 ≤ a → a ≤ n → br ≤ o → tx_J 0 c t n a σ τ → tx_cd σ τ z0 z T B → tx_pd τ S o →
  (∃ σ' τ', ix_F 74 [.ref 105, .int (nI o)] (ix_S0 b, σ) = some (.int 0, (ix_S0 b, σ')) ∧ tx_A d br 1 τ = some (.int (-1), (ix_S0 d, τ')) ∧ tx_la σ σ' ∧ tx_ld τ τ' ∧ tx_bad σ' τ') ∨
  ∃ a' z' σ' τ', a < a' ∧ a' ≤ n ∧ z ≤ z' ∧ z' + a ≤ z + a' ∧ ix_F 74 [.ref 105, .int (nI o)] (ix_S0 b, σ) = some (.int 1, (ix_S0 b, σ')) ∧ tx_A d br 1 τ = tx_E d br τ' ∧ tx_J 0 c t n a' σ' τ' ∧ tx_cd σ' τ' z0 z' T (1 :: B) ∧ tx_pd τ' S o ∧ tx_fc σ σ' τ τ' z
section Cd
variable {b d : Bool} {n t a : Nat} {c : Nat → Nat}
theorem c_80 {o : Nat} (ho : o ≤ 8) {σ : ix_St} : ix_F 80 [.ref 105, .int (nI o)] (ix_S0 b, σ) = ix_S 80 (4 + 3 * (9 - o)) 0 [some (.ref 105), some (.int (nI o)), none] [] (ix_S0 b, σ) := by
  rw [← rk_80 (show o < 2 ^ 31 by omega)]
  rfl
theorem c_81 {o : Nat} (ho : o ≤ 8) {σ : ix_St} : ix_F 81 [.ref 105, .int (nI o)] (ix_S0 b, σ) = ix_S 81 (6 + 3 * (9 - o)) 0 [some (.ref 105), some (.int (nI o)), none] [] (ix_S0 b, σ) := by
  rw [← rk_81 (show o < 2 ^ 31 by omega)]
  rfl
theorem c_74 {o : Nat} (ho : o ≤ 8) {σ : ix_St} : ix_F 74 [.ref 105, .int (nI o)] (ix_S0 b, σ) = ix_S 74 (5 + 3 * (9 - o)) 0 [some (.ref 105), some (.int (nI o)), none, none, none] [] (ix_S0 b, σ) := by
  rw [← rk_74 (show o < 2 ^ 31 by omega)]
  rfl
/-- where the class opens: a bracket -/
theorem c_br {o : Nat} (ho : o < 8) {σ σ1 : ix_St} (k7 : σ 100 7 = 40) (h1 : ix_F 142 [.ref 100] (ix_S0 b, σ) = some (.null, (ix_S0 b, σ1))) : ix_F 80 [.ref 105, .int (nI o)] (ix_S0 b, σ) = (((ix_F 74 [.ref 105, .int (nI (o + 1))] (ix_S0 b, σ1)).bind fun x4 => (if (ix_toI x4.1) = 0 then some (Value.int (0 : Int32), (ix_S0 b, x4.2.2)) else ((ix_F 75 [.ref 105, .int (41 : Int32)] (ix_S0 b, x4.2.2)).bind fun x5 => (if (ix_toI x5.1) = 0 then some (Value.int (0 : Int32), (ix_S0 b, x5.2.2)) else some (.int (1 : Int32), (ix_S0 b, x5.2.2)))))).bind fun x2 => (if (ix_toI x2.1) = 0 ∨ (ix_toI x2.1) = 1 then some (Value.int (ix_toI x2.1), (ix_S0 b, x2.2.2)) else none)) := by
  have hr : 4 ≤ 6 + 3 * (9 - (o + 1)) := by omega
  rw [c_80 (by omega), q_Parser_readCondition_0, if_pos k7, if_neg (show ¬ (8 : Int32) ≤ nI o from nI_ge (b := 8) ho (by omega)), nI_1, cl_F (by rw [rk_81 (by omega)]; omega), c_81 (by omega), q_Parser_readOpened_0, if_pos k7, cl_142 hr, h1]
  simp only [Option.bind_some]
  rw [if_neg (show ¬ (1 : Int32) = 0 by decide), cl_F (by rw [rk_74 (by omega)]; omega)]
  simp only [cl_75 hr]
/-- .. a NOT -/
theorem c_nt {o : Nat} (ho : o < 8) {σ σ1 : ix_St} (k7 : ¬ σ 100 7 = 40) (k6 : σ 100 7 = 6) (h1 : ix_F 142 [.ref 100] (ix_S0 b, σ) = some (.null, (ix_S0 b, σ1))) : ix_F 80 [.ref 105, .int (nI o)] (ix_S0 b, σ) = (((ix_F 80 [.ref 105, .int (nI (o + 1))] (ix_S0 b, σ1)).bind fun x4 => (if (ix_toI x4.1) = 0 then some (Value.int (0 : Int32), (ix_S0 b, x4.2.2)) else ((ix_F 61 [.ref 107, .int (6 : Int32), .int (0 : Int32)] (ix_S0 b, x4.2.2)).bind fun x5 => some (.int (1 : Int32), (ix_S0 b, x5.2.2))))).bind fun x2 => (if (ix_toI x2.1) = 0 ∨ (ix_toI x2.1) = 1 then some (Value.int (ix_toI x2.1), (ix_S0 b, x2.2.2)) else none)) := by
  have hr : 4 ≤ 6 + 3 * (9 - (o + 1)) := by omega
  rw [c_80 (by omega), q_Parser_readCondition_0, if_neg k7, if_pos k6, if_neg (show ¬ (8 : Int32) ≤ nI o from nI_ge (b := 8) ho (by omega)), nI_1, cl_F (by rw [rk_81 (by omega)]; omega), c_81 (by omega), q_Parser_readOpened_0, if_neg k7, cl_142 hr, h1]
  simp only [Option.bind_some]
  rw [if_pos trivial, cl_F (by rw [rk_80 (by omega)]; omega)]
  simp only [cl_61 hr]
theorem p_cond (hn : n ≤ 400) (hC : tx_PC b d n t c (a + 1)) (hB : tx_PB b d n t c (a + 1)) : tx_PC b d n t c a := by
  intro o m z z0 br σ τ S T B ho hm hS hSl hBl hza han hbr h hc hp
  have hlen : (List.replicate m (9 : Int32) ++ S).length = m + S.length := by rw [List.length_append, List.length_replicate]
  obtain ⟨g1, r1⟩ := j_isG (d := d) h (g := 40) (by decide)
  have r1' : ix_F 262 [.ref 135, .int (40 : Int32)] (ix_S0 d, τ) = _ := r1
  obtain ⟨w1, s1⟩ := j_isW (d := d) h (w := 6) (g := 6) (by omega) (by omega) (tx_wds.2.2.2.2.2.2.2 6 (by omega))
  have s1' : ix_F 254 [.ref 135, .int (6 : Int32)] (ix_S0 d, τ) = _ := s1
  by_cases e1 : (tx_tn c t a).1 = 4 ∧ (tx_tn c t a).2.1 = 40
  · have k7 : σ 100 7 = 40 := g1.mpr e1
    have e2 : ¬ ((tx_tn c t a).1 = 2 ∧ (tx_tn c t a).2.1 = 6) := fun q => by omega
    by_cases e8 : o = 8
    · obtain ⟨σ', τ', b1, b2, b3, b4, b5⟩ := j_bl (b := b) (d := d) h 3
      refine Or.inl ⟨σ', τ', ?_, ?_, b4.la, b5.lb.ld, b3⟩
      · rw [c_80 ho, q_Parser_readCondition_0, if_pos k7, if_pos (show (8 : Int32) ≤ nI o by rw [e8]; decide), cl_68 (by omega), b1]
        simp only [Option.bind_some, iv_tI]
        rw [if_pos (Or.inl trivial)]
      · unfold tx_A
        rw [q_M_readAny_9, if_neg (show ¬ (1 : Int32) = 0 by decide), s1', iv_Bf e2]
        simp only [Option.bind_some, iv_tI]
        rw [if_pos trivial, r1', iv_Bt e1]
        simp only [Option.bind_some, iv_tI]
        rw [if_neg (show ¬ (1 : Int32) = 0 by decide), if_pos (by rw [hp.2.1, e8]; rfl), b2]
        simp only [Option.bind_some, iv_tI]
    · have hp1 := hp.op (o + 1)
      obtain ⟨τw, x1, x2, x3, x4, x5, x6⟩ := r_wait (d := d) hp1 (by rw [hlen]; omega) 12 z
      have x0 : tx_rs τ (ix_up τ 135 28 (nI (o + 1))) z := ⟨fun y y1 _ _ _ => iv_upn y1, fun j _ j2 _ => tx_un j2, fun j _ => ⟨by rw [iv_upn (by omega)], by rw [iv_upn (by omega)]⟩⟩
      have x7 : tx_rs τ τw z := x0.tr (Nat.le_refl _) x3
      obtain ⟨σ1, τ1, a1, a2, a3, a4, a5, -⟩ := j_adv (b := b) (d := d) (x7.J h) (h.lt (by omega))
      have hc1 : tx_cd σ1 τ1 z0 z T B := by
        refine tx_cd.ab (σ := σ) (τ := τw) ?_ a4 a5
        obtain ⟨c1, c2, c3, c4⟩ := hc
        unfold tx_cd
        rw [x5, x6, x4 27 (by omega), tx_un (by omega), iv_upn (c := 135) (d := 150) (by omega), iv_upn (c := 135) (d := 151) (by omega)]
        exact ⟨c1, c2, c3, c4⟩
      have hf1 : tx_fc σ σ1 τ τ1 z := (x7.fc (σ := σ)).tr (Nat.le_refl _) (a4.fc a5)
      have hA : tx_A d br 1 τ = tx_A d (br + 1) 1 τ1 := by
        unfold tx_A
        rw [q_M_readAny_9, if_neg (show ¬ (1 : Int32) = 0 by decide), s1', iv_Bf e2]
        simp only [Option.bind_some, iv_tI]
        rw [if_pos trivial, r1', iv_Bt e1]
        simp only [Option.bind_some, iv_tI]
        rw [if_neg (show ¬ (1 : Int32) = 0 by decide), if_neg (show ¬ τ 135 28 = 8 by rw [hp.2.1]; exact fun q => e8 ((nI_eq (b := 8) (by omega) (by omega)).mp q)), if_pos trivial, if_pos trivial, hp.2.1, nI_1, x1]
        simp only [Option.bind_some]
        rw [a2]
        simp only [Option.bind_some]
        rw [nI_1]
      have hcl := c_br (b := b) (show o < 8 by omega) k7 a1
      rw [hA, hcl]
      rcases hB (o + 1) z z0 (br + 1) σ1 τ1 (12 :: (List.replicate m 9 ++ S)) T B (by omega) (Or.inr ⟨_, rfl⟩) (by show (List.replicate m (9 : Int32) ++ S).length + 1 ≤ _; omega) (by omega) (by omega) (h.lt (by omega)) (by omega) a3 hc1 (x2.fb a5) with ⟨σ', τ', u1, u2, u3, u4, u5⟩ | ⟨a', z', σ2, τ2, u1, u2, u3, u4, u5, u6, u7, u8, u9, u10⟩
      · rw [u1]
        simp only [Option.bind_some, iv_tI]
        rw [if_pos trivial]
        simp only [Option.bind_some, iv_tI]
        rw [if_pos (Or.inl trivial)]
        exact Or.inl ⟨σ', τ', rfl, u2, hf1.1.tr u3, hf1.2.1.tr u4, u5⟩
      · rw [u5, u6]
        simp only [Option.bind_some, iv_tI]
        rw [if_neg (show ¬ (1 : Int32) = 0 by decide)]
        obtain ⟨g3, r3⟩ := j_isG (d := d) u7 (g := 41) (by decide)
        have r3' : ix_F 262 [.ref 135, .int (41 : Int32)] (ix_S0 d, τ2) = _ := r3
        unfold tx_E
        rw [if_neg (show ¬ nI (br + 1) = 0 from nI_ne0 (by omega) (by omega)), r3', q_Parser_expect_0]
        by_cases e3 : (tx_tn c t a').1 = 4 ∧ (tx_tn c t a').2.1 = 41
        · obtain ⟨p1, p2⟩ := u9.pop
          have p28 : τ2 135 28 - 1 = nI o := by rw [u9.2.1, nI_pred]
          have hp3 : tx_pd (ix_up (ix_up τ2 135 30 (nI (List.replicate m (9 : Int32) ++ S).length)) 135 28 (nI o)) (List.replicate m 9 ++ S) o := p2.op o
          have y0 : tx_rs τ2 (ix_up (ix_up τ2 135 30 (nI (List.replicate m (9 : Int32) ++ S).length)) 135 28 (nI o)) z' := ⟨fun y y1 _ _ _ => by rw [iv_upn y1, iv_upn y1], fun j _ j2 j3 => by rw [tx_un j2, tx_un j3], fun j _ => ⟨by rw [iv_upn (by omega), iv_upn (by omega)], by rw [iv_upn (by omega), iv_upn (by omega)]⟩⟩
          obtain ⟨τs, y1, y2, y3, y4, y5⟩ := r_settle (d := d) hS m z' o _ (by rw [tx_un (by omega), tx_un (by omega)]; exact u8.2.1.2) (by omega) (by omega) (fun _ => hm) hp3
          have y6 := y0.tr (Nat.le_refl _) y5
          obtain ⟨σ3, τ3, b1, b2, b3, b4, b5, -⟩ := j_adv (b := b) (d := d) (y6.J u7) (u7.lt (by omega))
          refine Or.inr ⟨a' + 1, z', σ3, τ3, by omega, u7.lt (by omega), by omega, by omega, ?_, ?_, b3, (u8.st (by omega) y3 y4 y6).ab b4 b5, (by rw [if_pos rfl] at y2; exact y2.fb b5), ((hf1.tr (Nat.le_refl _) u10).tr u3 (y6.fc (σ := σ2))).tr (Nat.le_refl _) (b4.fc b5)⟩
          · rw [if_pos (show σ2 100 7 = 41 from g3.mpr e3), b1]
            simp only [Option.bind_some, iv_tI]
            rw [if_neg (show ¬ (1 : Int32) = 0 by decide)]
            simp only [Option.bind_some, iv_tI]
            rw [if_pos (Or.inr trivial)]
          · rw [iv_Bt e3]
            simp only [Option.bind_some, iv_tI]
            rw [if_neg (show ¬ (1 : Int32) = 0 by decide), p1, p28, y1]
            simp only [Option.bind_some]
            rw [b2]
            simp only [Option.bind_some]
            rw [nI_pred]
            rfl
        · obtain ⟨σ', τ', b1, b2, b3, b4, b5⟩ := j_bl (b := b) (d := d) u7 1
          refine Or.inl ⟨σ', τ', ?_, ?_, (hf1.1.tr u10.1).tr b4.la, (hf1.2.1.tr u10.2.1).tr b5.lb.ld, b3⟩
          · rw [if_neg (show ¬ σ2 100 7 = 41 from fun q => e3 (g3.mp q)), b1]
            simp only [Option.bind_some, iv_tI]
            rw [if_pos (Or.inl trivial)]
            simp only [Option.bind_some, iv_tI]
            rw [if_pos trivial]
            simp only [Option.bind_some, iv_tI]
            rw [if_pos (Or.inl trivial)]
          · rw [iv_Bf e3]
            simp only [Option.bind_some, iv_tI]
            rw [if_pos trivial, b2]
            simp only [Option.bind_some, iv_tI]
  · have k7 : ¬ σ 100 7 = 40 := fun q => e1 (g1.mp q)
    by_cases e2 : (tx_tn c t a).1 = 2 ∧ (tx_tn c t a).2.1 = 6
    · have k6 : σ 100 7 = 6 := w1.mpr e2
      by_cases e8 : o = 8
      · obtain ⟨σ', τ', b1, b2, b3, b4, b5⟩ := j_bl (b := b) (d := d) h 3
        refine Or.inl ⟨σ', τ', ?_, ?_, b4.la, b5.lb.ld, b3⟩
        · rw [c_80 ho, q_Parser_readCondition_0, if_neg k7, if_pos k6, if_pos (show (8 : Int32) ≤ nI o by rw [e8]; decide), cl_68 (by omega), b1]
          simp only [Option.bind_some, iv_tI]
          rw [if_pos (Or.inl trivial)]
        · unfold tx_A
          rw [q_M_readAny_9, if_neg (show ¬ (1 : Int32) = 0 by decide), s1', iv_Bt e2]
          simp only [Option.bind_some, iv_tI]
          rw [if_neg (show ¬ (1 : Int32) = 0 by decide), if_pos (by rw [hp.2.1, e8]; rfl), b2]
          simp only [Option.bind_some, iv_tI]
      · have hp1 := hp.op (o + 1)
        obtain ⟨τw, x1, x2, x3, x4, x5, x6⟩ := r_wait (d := d) hp1 (by rw [hlen]; omega) 9 z
        have x0 : tx_rs τ (ix_up τ 135 28 (nI (o + 1))) z := ⟨fun y y1 _ _ _ => iv_upn y1, fun j _ j2 _ => tx_un j2, fun j _ => ⟨by rw [iv_upn (by omega)], by rw [iv_upn (by omega)]⟩⟩
        have x7 : tx_rs τ τw z := x0.tr (Nat.le_refl _) x3
        obtain ⟨σ1, τ1, a1, a2, a3, a4, a5, -⟩ := j_adv (b := b) (d := d) (x7.J h) (h.lt (by omega))
        have hc1 : tx_cd σ1 τ1 z0 z T B := by
          refine tx_cd.ab (σ := σ) (τ := τw) ?_ a4 a5
          obtain ⟨c1, c2, c3, c4⟩ := hc
          unfold tx_cd
          rw [x5, x6, x4 27 (by omega), tx_un (by omega), iv_upn (c := 135) (d := 150) (by omega), iv_upn (c := 135) (d := 151) (by omega)]
          exact ⟨c1, c2, c3, c4⟩
        have hf1 : tx_fc σ σ1 τ τ1 z := (x7.fc (σ := σ)).tr (Nat.le_refl _) (a4.fc a5)
        have hA : tx_A d br 1 τ = tx_A d br 1 τ1 := by
          unfold tx_A
          rw [q_M_readAny_9, if_neg (show ¬ (1 : Int32) = 0 by decide), s1', iv_Bt e2]
          simp only [Option.bind_some, iv_tI]
          rw [if_neg (show ¬ (1 : Int32) = 0 by decide), if_neg (show ¬ τ 135 28 = 8 by rw [hp.2.1]; exact fun q => e8 ((nI_eq (b := 8) (by omega) (by omega)).mp q)), if_neg (show ¬ (1 : Int32) = 0 by decide), if_neg (show ¬ (1 : Int32) = 0 by decide), hp.2.1, nI_1, x1]
          simp only [Option.bind_some]
          rw [a2]
          simp only [Option.bind_some]
        have hcl := c_nt (b := b) (show o < 8 by omega) k7 k6 a1
        rw [hA, hcl]
        rcases hC (o + 1) (m + 1) z z0 br σ1 τ1 S T B (by omega) (by omega) hS (by omega) (by omega) (by omega) (h.lt (by omega)) (by omega) a3 hc1 (x2.fb a5) with ⟨σ', τ', u1, u2, u3, u4, u5⟩ | ⟨a', z', σ2, τ2, u1, u2, u3, u4, u5, u6, u7, u8, u9, u10⟩
        · rw [u1]
          simp only [Option.bind_some, iv_tI]
          rw [if_pos trivial]
          simp only [Option.bind_some, iv_tI]
          rw [if_pos (Or.inl trivial)]
          exact Or.inl ⟨σ', τ', rfl, u2, hf1.1.tr u3, hf1.2.1.tr u4, u5⟩
        · obtain ⟨σ3, v1, v2, v3, v4, -⟩ := c_emit (b := b) (kind := 6) u7 u8 (by rw [show ((0 : Int32) <<< ((6 : Int32) &&& 31)) ||| 6 = 6 by decide]; unfold iv_enc; simp) (u := 1 :: B) (by unfold iv_ts; rw [if_neg (by decide), if_neg (by decide), if_neg (by decide), if_neg (by decide), if_neg (by decide), if_pos rfl]; rfl) (by show B.length + 1 ≤ 32; omega)
          rw [u5]
          simp only [Option.bind_some, iv_tI]
          rw [if_neg (show ¬ (1 : Int32) = 0 by decide), v1]
          simp only [Option.bind_some, iv_tI]
          rw [if_pos (Or.inr trivial)]
          exact Or.inr ⟨a', z' + 1, σ3, τ2, by omega, u2, by omega, by omega, rfl, u6, v2, v3, (by rw [show o - m = o + 1 - (m + 1) by omega]; exact u9), (hf1.tr (Nat.le_refl _) u10).tr u3 v4⟩
    · have k6 : ¬ σ 100 7 = 6 := fun q => e2 (w1.mp q)
      have hA : tx_A d br 1 τ = ((ix_F 279 [.ref 135] (ix_S0 d, τ)).bind fun x18 => (if (ix_toI x18.1) = (-1 : Int32) then some (Value.int (-1 : Int32), (ix_S0 d, x18.2.2)) else ((ix_F 280 [.ref 135, .int (9 : Int32)] (ix_S0 d, x18.2.2)).bind fun x19 => ix_S 261 8 9 [some (.ref 135), some (.int (nI br)), some (.int (0 : Int32)), none] [] (ix_S0 d, x19.2.2)))) := by
        unfold tx_A
        rw [q_M_readAny_9, if_neg (show ¬ (1 : Int32) = 0 by decide), s1', iv_Bf e2]
        simp only [Option.bind_some, iv_tI]
        rw [if_pos trivial, r1', iv_Bf e1]
        simp only [Option.bind_some, iv_tI]
        rw [if_pos trivial]
      rw [hA, c_80 ho]
      rcases j_cmp (b := b) (d := d) (o := nI o) hn (by omega) (r := 4 + 3 * (9 - o)) (by omega) (by omega) han h hc k7 k6 with ⟨σ', τ', u1, u2, u3, u4, u5⟩ | ⟨a', z', σ2, τ2, u1, u2, u3, u4, u5, u6, u7, u8, u9, u10, u11⟩
      · rw [u2]
        simp only [Option.bind_some, iv_tI]
        rw [if_pos trivial]
        exact Or.inl ⟨σ', τ', u1, rfl, u3, u4.ld, u5⟩
      · obtain ⟨τs, y1, y2, y3, y4, y5⟩ := r_settle (d := d) hS m z' o τ2 u8.2.1.2 (by omega) (by omega) (fun _ => hm) (hp.lb u10)
        rw [u6]
        simp only [Option.bind_some, iv_tI]
        rw [if_neg (show ¬ (0 : Int32) = -1 by decide), y1]
        simp only [Option.bind_some]
        exact Or.inr ⟨a', z', σ2, τs, u1, u3, u4, u2, u5, rfl, y5.J u7, u8.st (by omega) y3 y4 y5, (by rw [if_pos rfl] at y2; exact y2), tx_fc.tr u4 ⟨u9, u10.ld, u11⟩ (y5.fc (σ := σ2))⟩
end Cd
