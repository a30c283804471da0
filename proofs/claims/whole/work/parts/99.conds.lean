/-! conditions, joint -/
def tx_fl : Bool → Int32
  | true => 1
  | false => 0
def tx_sk : Bool → Int32 → List Int32 → List Int32
  | true, w, S => w :: S
  | false, _, S => S
def tx_ty : Bool → List Nat → List Nat
  | true, B => 1 :: B
  | false, B => B
def tx_nf : Bool → Nat
  | true => 1
  | false => 0
theorem tx_sk_len (f : Bool) (w : Int32) (S : List Int32) : (tx_sk f w S).length = tx_nf f + S.length := by
  cases f
  · show S.length = 0 + S.length; omega
  · show S.length + 1 = 1 + S.length; omega
theorem tx_ty_len (f : Bool) (B : List Nat) : (tx_ty f B).length = tx_nf f + B.length := by
  cases f
  · show B.length = 0 + B.length; omega
  · show B.length + 1 = 1 + B.length; omega
theorem tx_nf_le (f : Bool) : tx_nf f ≤ 1 := by cases f <;> decide
theorem tx_sk_hd {f : Bool} {w v : Int32} {S : List Int32} (h : S.head? ≠ some v) (hw : w ≠ v) : (tx_sk f w S).head? ≠ some v := by
  cases f
  · exact h
  · intro q
    exact hw (Option.some.inj q)
section Cs
variable {b d : Bool} {n t : Nat} {c : Nat → Nat}
/-- what waits with and, or with or, is joined in both -/
theorem j_join {a z z0 o r : Nat} {f : Bool} {σ τ : ix_St} {S : List Int32} {T B : List Nat} {kind w : Int32} (hr : 4 ≤ r) (hw : (kind = 5 ∧ w = 10) ∨ (kind = 4 ∧ w = 11)) (hS : S.head? ≠ some w) (hz : z + tx_nf f ≤ 400) (hl : 1 + S.length ≤ 40) (hBl : B.length + 2 ≤ 32) (h : tx_J 0 c t n a σ τ) (hc : tx_cd σ τ z0 z T (1 :: tx_ty f B)) (hp : tx_pd τ (tx_sk f w S) o) :
    ∃ σ' τ', (∀ K : ix_St → ix_R, (if tx_fl f = 0 then K σ else ((ix_clS ix_S r 61 [.ref 107, .int kind, .int (0 : Int32)] (ix_S0 b, σ)).bind fun x2 => K x2.2.2)) = K σ') ∧ ix_F 280 [.ref 135, .int w] (ix_S0 d, τ) = some (.null, (ix_S0 d, τ')) ∧ tx_J 0 c t n a σ' τ' ∧ tx_cd σ' τ' z0 (z + tx_nf f) T (1 :: B) ∧ tx_pd τ' S o ∧ tx_fc σ σ' τ τ' z ∧ σ' 100 = σ 100 := by
  have w9 : ¬ w = 9 := by rcases hw with ⟨-, q⟩ | ⟨-, q⟩ <;> rw [q] <;> decide
  cases f with
  | false =>
    obtain ⟨τ', y1, y2, y3, y4, y5⟩ := r_settle (d := d) hS 0 z o τ hc.2.1.2 hz (by omega) (fun q => absurd q w9) hp
    rw [if_neg w9] at y2
    exact ⟨σ, τ', fun K => if_pos rfl, y1, y5.J h, (hc.st (m := 0) hz y3 y4 y5).cd, y2, y5.fc, rfl⟩
  | true =>
    obtain ⟨τ', y1, y2, y3, y4, y5⟩ := r_settle (d := d) hS 1 z o τ hc.2.1.2 hz hl (fun q => absurd q w9) hp
    rw [if_neg w9] at y2
    obtain ⟨σ', v1, v2, v3, v4, v5⟩ := c_emit (b := b) (m := 0) (kind := kind) (u := 1 :: B) (y5.J h) (hc.st (m := 1) hz y3 y4 y5) (by
      rcases hw with ⟨q1, q2⟩ | ⟨q1, q2⟩
      · rw [q1, q2, show ((0 : Int32) <<< ((6 : Int32) &&& 31)) ||| 5 = 5 by decide]; unfold iv_enc; simp
      · rw [q1, q2, show ((0 : Int32) <<< ((6 : Int32) &&& 31)) ||| 4 = 4 by decide]; unfold iv_enc; simp) (by
      unfold iv_ts
      rcases hw with ⟨-, q⟩ | ⟨-, q⟩
      · rw [q, if_neg (by decide), if_neg (by decide), if_neg (by decide), if_neg (by decide), if_neg (by decide), if_neg (by decide), if_pos (by decide)]
        rfl
      · rw [q, if_neg (by decide), if_neg (by decide), if_neg (by decide), if_neg (by decide), if_neg (by decide), if_neg (by decide), if_pos (by decide)]
        rfl) (by show B.length + 1 ≤ 32; omega)
    refine ⟨σ', τ', fun K => ?_, y1, v2, v3.cd, y2, tx_fc.tr (Nat.le_refl _) y5.fc v4, v5⟩
    rw [if_neg (show ¬ tx_fl true = 0 by decide), cl_61 hr, v1]
    simp only [Option.bind_some]
/-- the loop's head -/
def tx_PL (b d : Bool) (n t : Nat) (c : Nat → Nat) (a : Nat) : Prop := ∀ (o z z0 br i : Nat) (fa fo : Bool) (σ τ : ix_St) (S : List Int32) (T B : List Nat), o ≤ 8 → (S = [] ∨ ∃ S', S = 12 :: S') → S.length ≤ 3 * o → B.length ≤ 2 * o → z + tx_nf fa + tx_nf fo + 1 ≤ a → i + 1 ≤ a → a ≤ n → br ≤ o → tx_J 0 c t n a σ τ → tx_cd σ τ z0 z T (tx_ty fa (tx_ty fo B)) → tx_pd τ (tx_sk fa 10 (tx_sk fo 11 S)) o →
  (∃ σ' τ', ix_S 74 (5 + 3 * (9 - o)) 7 [some (.ref 105), some (.int (nI o)), some (.int (tx_fl fa)), some (.int (tx_fl fo)), some (.int (nI i))] [] (ix_S0 b, σ) = some (.int 0, (ix_S0 b, σ')) ∧ tx_A d br 1 τ = some (.int (-1), (ix_S0 d, τ')) ∧ tx_la σ σ' ∧ tx_ld τ τ' ∧ tx_bad σ' τ') ∨
  ∃ a' z' σ' τ', a < a' ∧ a' ≤ n ∧ z ≤ z' ∧ z' + a ≤ z + tx_nf fa + tx_nf fo + a' ∧ ix_S 74 (5 + 3 * (9 - o)) 7 [some (.ref 105), some (.int (nI o)), some (.int (tx_fl fa)), some (.int (tx_fl fo)), some (.int (nI i))] [] (ix_S0 b, σ) = some (.int 1, (ix_S0 b, σ')) ∧ tx_A d br 1 τ = tx_E d br τ' ∧ tx_J 0 c t n a' σ' τ' ∧ tx_cd σ' τ' z0 z' T (1 :: B) ∧ tx_pd τ' S o ∧ tx_fc σ σ' τ τ' z
theorem tx_PL.PB {a : Nat} (h : tx_PL b d n t c a) : tx_PB b d n t c a := by
  intro o z z0 br σ τ S T B ho hS hSl hBl hza han hbr hJ hc hp
  have h1 := h o z z0 br 0 false false σ τ S T B ho hS hSl hBl hza (by omega) han hbr hJ hc hp
  rw [c_74 ho, q_Parser_readConditions_0]
  exact h1
theorem p_loop {a : Nat} (hn : n ≤ 400) (hC : tx_PC b d n t c a) (hL : ∀ a', a < a' → a' ≤ n → tx_PL b d n t c a') : tx_PL b d n t c a := by
  intro o z z0 br i fa fo σ τ S T B ho hS hSl hBl hza hia han hbr h hc hp
  have l1 := tx_nf_le fa
  have l2 := tx_nf_le fo
  have hS9 : S.head? ≠ some 9 := by
    rcases hS with q | ⟨S', q⟩
    · rw [q]; exact fun e => nomatch e
    · rw [q]; exact fun e => absurd (Option.some.inj e) (by decide)
  have hS10 : S.head? ≠ some 10 := by
    rcases hS with q | ⟨S', q⟩
    · rw [q]; exact fun e => nomatch e
    · rw [q]; exact fun e => absurd (Option.some.inj e) (by decide)
  have hS11 : S.head? ≠ some 11 := by
    rcases hS with q | ⟨S', q⟩
    · rw [q]; exact fun e => nomatch e
    · rw [q]; exact fun e => absurd (Option.some.inj e) (by decide)
  have hr : 4 ≤ 5 + 3 * (9 - o) := by omega
  rw [q_Parser_readConditions_7, if_neg (show ¬ (400 : Int32) ≤ nI i from nI_ge (b := 400) (by omega) (by omega)), cl_F (by rw [rk_80 (by omega)]; omega)]
  rcases hC o 0 z z0 br σ τ (tx_sk fa 10 (tx_sk fo 11 S)) T (tx_ty fa (tx_ty fo B)) ho (by omega) (tx_sk_hd (tx_sk_hd hS9 (by decide)) (by decide)) (by rw [tx_sk_len, tx_sk_len]; omega) (by rw [tx_ty_len, tx_ty_len]; omega) (by omega) han hbr h hc hp with ⟨σ', τ', u1, u2, u3, u4, u5⟩ | ⟨a1, z1, σ1, τ1, u1, u2, u3, u4, u5, u6, u7, u8, u9, u10⟩
  · rw [u1, u2]
    simp only [Option.bind_some, iv_tI]
    rw [if_pos trivial]
    exact Or.inl ⟨σ', τ', rfl, rfl, u3, u4, u5⟩
  · rw [u5, u6]
    simp only [Option.bind_some, iv_tI]
    rw [if_neg (show ¬ (1 : Int32) = 0 by decide)]
    have u9' : tx_pd τ1 (tx_sk fa 10 (tx_sk fo 11 S)) o := u9
    obtain ⟨σ2, τ2, v1, v2, v3, v4, v5, v6, v7⟩ := j_join (b := b) (d := d) (f := fa) (kind := 5) (w := 10) (B := tx_ty fo B) hr (Or.inl ⟨rfl, rfl⟩) (tx_sk_hd hS10 (by decide)) (by omega) (by rw [tx_sk_len]; omega) (by rw [tx_ty_len]; omega) u7 u8.cd u9'
    rw [v1 (fun s => ix_S 74 (5 + 3 * (9 - o)) 41 [some (.ref 105), some (.int (nI o)), none, some (.int (tx_fl fo)), some (.int (nI i))] [] (ix_S0 b, s))]
    have hf2 : tx_fc σ σ2 τ τ2 z := u10.tr u3 v6
    obtain ⟨w5, s5⟩ := j_isW (d := d) u7 (w := 5) (g := 5) (by omega) (by omega) (tx_wds.2.2.2.2.2.2.2 5 (by omega))
    have s5' : ix_F 254 [.ref 135, .int (5 : Int32)] (ix_S0 d, τ1) = _ := s5
    obtain ⟨w4, s4⟩ := j_isW (d := d) u7 (w := 4) (g := 4) (by omega) (by omega) (tx_wds.2.2.2.2.2.2.2 4 (by omega))
    have s4' : ix_F 254 [.ref 135, .int (4 : Int32)] (ix_S0 d, τ1) = _ := s4
    by_cases e5 : (tx_tn c t a1).1 = 2 ∧ (tx_tn c t a1).2.1 = 5
    · have k5 : σ2 100 7 = 5 := by rw [v7]; exact w5.mpr e5
      obtain ⟨τw, x1, x2, x3, x4, x5, x6⟩ := r_wait (d := d) v5 (by rw [tx_sk_len]; omega) 10 (z1 + tx_nf fa)
      obtain ⟨σ3, τ3, a1', a2', a3', a4', a5', -⟩ := j_adv (b := b) (d := d) (x3.J v3) (u7.lt (by omega))
      have hc3 : tx_cd σ3 τ3 z0 (z1 + tx_nf fa) T (1 :: tx_ty fo B) := by
        refine tx_cd.ab (σ := σ2) (τ := τw) ?_ a4' a5'
        obtain ⟨c1, c2, c3, c4⟩ := v4
        unfold tx_cd
        rw [x5, x6, x4 27 (by omega)]
        exact ⟨c1, c2, c3, c4⟩
      have hf3 : tx_fc σ σ3 τ τ3 z := (hf2.tr (show z ≤ z1 + tx_nf fa by omega) (x3.fc (σ := σ2))).tr (Nat.le_refl _) (a4'.fc a5')
      have hcl : ix_S 74 (5 + 3 * (9 - o)) 41 [some (.ref 105), some (.int (nI o)), none, some (.int (tx_fl fo)), some (.int (nI i))] [] (ix_S0 b, σ2) = ix_S 74 (5 + 3 * (9 - o)) 7 [some (.ref 105), some (.int (nI o)), some (.int (tx_fl true)), some (.int (tx_fl fo)), some (.int (nI (i + 1)))] [] (ix_S0 b, σ3) := by
        rw [q_Parser_readConditions_41, if_pos k5, if_neg (show ¬ (1 : Int32) = 0 by decide), q_Parser_readConditions_95, if_pos k5, q_Parser_readConditions_119, cl_142 hr, a1']
        simp only [Option.bind_some]
        rw [nI_1]
        rfl
      have hA : tx_A d br 0 τ1 = tx_A d br 1 τ3 := by
        unfold tx_A
        rw [q_M_readAny_9, if_pos (show (0 : Int32) = 0 from rfl), s5', iv_Bt e5]
        simp only [Option.bind_some, iv_tI]
        rw [if_neg (show ¬ (1 : Int32) = 0 by decide), v2]
        simp only [Option.bind_some]
        rw [x1]
        simp only [Option.bind_some]
        rw [a2']
        simp only [Option.bind_some]
      rw [hcl, hA]
      rcases hL (a1 + 1) (by omega) (u7.lt (by omega)) o (z1 + tx_nf fa) z0 br (i + 1) true fo σ3 τ3 S T B ho hS hSl hBl (by show z1 + tx_nf fa + 1 + tx_nf fo + 1 ≤ a1 + 1; omega) (by omega) (u7.lt (by omega)) hbr a3' hc3 (x2.fb a5') with ⟨σ', τ', q1, q2, q3, q4, q5⟩ | ⟨a2, z2, σ4, τ4, q1, q2, q3, q4, q5, q6, q7, q8, q9, q10⟩
      · exact Or.inl ⟨σ', τ', q1, q2, hf3.1.tr q3, hf3.2.1.tr q4, q5⟩
      · have q4' : z2 + (a1 + 1) ≤ z1 + tx_nf fa + 1 + tx_nf fo + a2 := q4
        exact Or.inr ⟨a2, z2, σ4, τ4, by omega, q2, by omega, by omega, q5, q6, q7, q8, q9, hf3.tr (show z ≤ z1 + tx_nf fa by omega) q10⟩
    · have k5 : ¬ σ2 100 7 = 5 := by rw [v7]; exact fun q => e5 (w5.mp q)
      obtain ⟨σ3, τ3, y1, y2, y3, y4, y5, y6, y7⟩ := j_join (b := b) (d := d) (f := fo) (kind := 4) (w := 11) hr (Or.inr ⟨rfl, rfl⟩) hS11 (by omega) (by omega) (by omega) v3 v4 v5
      have hf3 : tx_fc σ σ3 τ τ3 z := hf2.tr (show z ≤ z1 + tx_nf fa by omega) y6
      have hcl : ix_S 74 (5 + 3 * (9 - o)) 41 [some (.ref 105), some (.int (nI o)), none, some (.int (tx_fl fo)), some (.int (nI i))] [] (ix_S0 b, σ2) = ix_S 74 (5 + 3 * (9 - o)) 78 [some (.ref 105), some (.int (nI o)), some (.int (0 : Int32)), none, some (.int (nI i))] [] (ix_S0 b, σ3) := by
        rw [q_Parser_readConditions_41, if_neg k5, if_pos (show (0 : Int32) = 0 from rfl)]
        exact y1 (fun s => ix_S 74 (5 + 3 * (9 - o)) 78 [some (.ref 105), some (.int (nI o)), some (.int (0 : Int32)), none, some (.int (nI i))] [] (ix_S0 b, s))
      rw [hcl, q_Parser_readConditions_78]
      by_cases e4 : (tx_tn c t a1).1 = 2 ∧ (tx_tn c t a1).2.1 = 4
      · have k4 : σ3 100 7 = 4 := by rw [y7, v7]; exact w4.mpr e4
        obtain ⟨τw, x1, x2, x3, x4, x5, x6⟩ := r_wait (d := d) y5 (by omega) 11 (z1 + tx_nf fa + tx_nf fo)
        obtain ⟨σ4, τ4, a1', a2', a3', a4', a5', -⟩ := j_adv (b := b) (d := d) (x3.J y3) (u7.lt (by omega))
        have hc4 : tx_cd σ4 τ4 z0 (z1 + tx_nf fa + tx_nf fo) T (1 :: B) := by
          refine tx_cd.ab (σ := σ3) (τ := τw) ?_ a4' a5'
          obtain ⟨c1, c2, c3, c4⟩ := y4
          unfold tx_cd
          rw [x5, x6, x4 27 (by omega)]
          exact ⟨c1, c2, c3, c4⟩
        have hf4 : tx_fc σ σ4 τ τ4 z := (hf3.tr (show z ≤ z1 + tx_nf fa + tx_nf fo by omega) (x3.fc (σ := σ3))).tr (Nat.le_refl _) (a4'.fc a5')
        have hcl2 : ix_S 74 (5 + 3 * (9 - o)) 95 [some (.ref 105), some (.int (nI o)), some (.int (0 : Int32)), some (.int (1 : Int32)), some (.int (nI i))] [] (ix_S0 b, σ3) = ix_S 74 (5 + 3 * (9 - o)) 7 [some (.ref 105), some (.int (nI o)), some (.int (tx_fl false)), some (.int (tx_fl true)), some (.int (nI (i + 1)))] [] (ix_S0 b, σ4) := by
          rw [q_Parser_readConditions_95, if_neg (by rw [y7]; exact k5), if_pos k4, q_Parser_readConditions_119, cl_142 hr, a1']
          simp only [Option.bind_some]
          rw [nI_1]
          rfl
        have hA : tx_A d br 0 τ1 = tx_A d br 1 τ4 := by
          unfold tx_A
          rw [q_M_readAny_9, if_pos (show (0 : Int32) = 0 from rfl), s5', iv_Bf e5]
          simp only [Option.bind_some, iv_tI]
          rw [if_pos trivial, s4', iv_Bt e4]
          simp only [Option.bind_some, iv_tI]
          rw [if_neg (show ¬ (1 : Int32) = 0 by decide), v2]
          simp only [Option.bind_some]
          rw [y2]
          simp only [Option.bind_some]
          rw [x1]
          simp only [Option.bind_some]
          rw [a2']
          simp only [Option.bind_some]
        rw [if_pos k4, hcl2, hA]
        rcases hL (a1 + 1) (by omega) (u7.lt (by omega)) o (z1 + tx_nf fa + tx_nf fo) z0 br (i + 1) false true σ4 τ4 S T B ho hS hSl hBl (by show z1 + tx_nf fa + tx_nf fo + 0 + 1 + 1 ≤ a1 + 1; omega) (by omega) (u7.lt (by omega)) hbr a3' hc4 (x2.fb a5') with ⟨σ', τ', q1, q2, q3, q4, q5⟩ | ⟨a2, z2, σ5, τ5, q1, q2, q3, q4, q5, q6, q7, q8, q9, q10⟩
        · exact Or.inl ⟨σ', τ', q1, q2, hf4.1.tr q3, hf4.2.1.tr q4, q5⟩
        · have q4' : z2 + (a1 + 1) ≤ z1 + tx_nf fa + tx_nf fo + 0 + 1 + a2 := q4
          exact Or.inr ⟨a2, z2, σ5, τ5, by omega, q2, by omega, by omega, q5, q6, q7, q8, q9, hf4.tr (show z ≤ z1 + tx_nf fa + tx_nf fo by omega) q10⟩
      · have k4 : ¬ σ3 100 7 = 4 := by rw [y7, v7]; exact fun q => e4 (w4.mp q)
        rw [if_neg k4, q_Parser_readConditions_95, if_neg (by rw [y7]; exact k5), if_neg k4]
        refine Or.inr ⟨a1, z1 + tx_nf fa + tx_nf fo, σ3, τ3, u1, u2, by omega, by omega, rfl, ?_, y3, y4, y5, hf3⟩
        unfold tx_A tx_E
        rw [q_M_readAny_9, if_pos (show (0 : Int32) = 0 from rfl), s5', iv_Bf e5]
        simp only [Option.bind_some, iv_tI]
        rw [if_pos trivial, s4', iv_Bf e4]
        simp only [Option.bind_some, iv_tI]
        rw [if_pos trivial, v2]
        simp only [Option.bind_some]
        rw [y2]
        simp only [Option.bind_some]
theorem p_all (hn : n ≤ 400) : ∀ (m a : Nat), n - a = m → a ≤ n → tx_PC b d n t c a ∧ tx_PL b d n t c a := by
  intro m
  induction m using Nat.strongRecOn with
  | ind m ih =>
    intro a hm han
    have hC : tx_PC b d n t c a := by
      by_cases e : a < n
      · obtain ⟨h1, h2⟩ := ih (n - (a + 1)) (by omega) (a + 1) rfl e
        exact p_cond hn h1 h2.PB
      · refine p_cond hn ?_ ?_
        · intro o m z z0 br σ τ S T B _ _ _ _ _ _ h2 _ _ _ _
          omega
        · intro o z z0 br σ τ S T B _ _ _ _ _ h2 _ _ _ _
          omega
    exact ⟨hC, p_loop hn hC (fun a' h1 h2 => (ih (n - a') (by omega) a' rfl h2).2)⟩
/-- readConditions beside readAny -/
theorem j_any {a z : Nat} {σ τ : ix_St} (hn : n ≤ 400) (hza : z + 1 ≤ a) (han : a ≤ n) (h : tx_J 0 c t n a σ τ) (h27 : σ 107 8 = nI z ∧ τ 135 27 = nI z) (hz : z ≤ 400) (he : ∀ j, j < z → iv_enc (σ 108 j) (τ 150 (800 + j)) (τ 151 (800 + j))) (h28 : τ 135 28 = 0) :
    (∃ σ' τ', ix_F 74 [.ref 105, .int (0 : Int32)] (ix_S0 b, σ) = some (.int 0, (ix_S0 b, σ')) ∧ ix_F 261 [.ref 135] (ix_S0 d, τ) = some (.int (-1), (ix_S0 d, τ')) ∧ tx_la σ σ' ∧ tx_ld τ τ' ∧ tx_bad σ' τ') ∨
    ∃ a' z' σ' τ', a < a' ∧ a' ≤ n ∧ z ≤ z' ∧ z' + a ≤ z + a' ∧ ix_F 74 [.ref 105, .int (0 : Int32)] (ix_S0 b, σ) = some (.int 1, (ix_S0 b, σ')) ∧ ix_F 261 [.ref 135] (ix_S0 d, τ) = some (.int 0, (ix_S0 d, τ')) ∧ tx_J 0 c t n a' σ' τ' ∧ tx_cd σ' τ' z z' [] [1] ∧ τ' 135 28 = 0 ∧ tx_fc σ σ' τ τ' z := by
  have hP := (p_all (b := b) (d := d) (t := t) (c := c) hn _ a rfl han).2.PB
  have x0 : tx_rs τ (ix_up τ 135 30 0) z := ⟨fun y y1 _ _ _ => iv_upn y1, fun j _ _ j3 => tx_un j3, fun j _ => ⟨by rw [iv_upn (by omega)], by rw [iv_upn (by omega)]⟩⟩
  have hc : tx_cd σ (ix_up τ 135 30 0) z z [] [] := by
    unfold tx_cd
    rw [tx_un (by omega), iv_upn (c := 135) (d := 150) (by omega), iv_upn (c := 135) (d := 151) (by omega)]
    exact ⟨⟨Nat.le_refl _, hz⟩, h27, he, by rw [Nat.sub_self]; rfl⟩
  have hp : tx_pd (ix_up τ 135 30 0) [] 0 := ⟨tx_us, by rw [tx_un (by omega), h28]; rfl, trivial⟩
  have hA : ix_F 261 [.ref 135] (ix_S0 d, τ) = tx_A d 0 1 (ix_up τ 135 30 0) := q_M_readAny_0 d τ
  rw [hA]
  rcases hP 0 z z 0 σ (ix_up τ 135 30 0) [] [] [] (by omega) (Or.inl rfl) (by decide) (by decide) hza han (by omega) (x0.J h) hc hp with ⟨σ', τ', u1, u2, u3, u4, u5⟩ | ⟨a', z', σ2, τ2, u1, u2, u3, u4, u5, u6, u7, u8, u9, u10⟩
  · exact Or.inl ⟨σ', τ', u1, u2, u3, x0.ld.tr u4, u5⟩
  · refine Or.inr ⟨a', z', σ2, τ2, u1, u2, u3, u4, u5, ?_, u7, u8, u9.2.1, (x0.fc (σ := σ)).tr (Nat.le_refl _) u10⟩
    rw [u6]
    unfold tx_E
    rw [if_pos (show nI 0 = 0 from rfl)]
end Cs
