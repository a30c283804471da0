/-! the image: the reference's keeping, place by place -/
def iv_lz (a : Nat) : Nat := if a < 54 then 136 else if a < 60 then 135 else if a < 120 then (if (a - 60) % 5 = 0 then 139 else if (a - 60) % 5 = 1 then 140 else if (a - 60) % 5 = 2 then 141 else if (a - 60) % 5 = 3 then 153 else 162) else if a < 140 then 161 else if a < 172 then 154 else if a < 220 then 155 else if a < 820 then 142 else if a < 821 then 145 else if a < 885 then 146 + (a - 821) % 4 else 150 + (a - 885) % 2
def iv_lk (a : Nat) : Nat := if a < 54 then a else if a < 60 then (if a = 54 then 6 else if a = 55 then 7 else if a = 56 then 35 else if a = 57 then 37 else if a = 58 then 39 else 47) else if a < 120 then (a - 60) / 5 else if a < 140 then a - 120 else if a < 172 then a - 140 else if a < 220 then a - 172 else if a < 820 then a - 220 else if a < 821 then 0 else if a < 885 then (a - 821) / 4 else (a - 885) / 2
def iv_de (z k : Nat) : Nat := if z = 136 then k else if z = 135 then (if k = 6 then 54 else if k = 7 then 55 else if k = 35 then 56 else if k = 37 then 57 else if k = 39 then 58 else 59) else if z = 139 then 60 + 5 * k else if z = 140 then 61 + 5 * k else if z = 141 then 62 + 5 * k else if z = 153 then 63 + 5 * k else if z = 162 then 64 + 5 * k else if z = 161 then 120 + k else if z = 154 then 140 + k else if z = 155 then 172 + k else if z = 142 then 220 + k else if z = 145 then 820 else if z < 150 then 821 + 4 * k + (z - 146) else 885 + 2 * k + (z - 150)
def iv_vw (z k : Nat) : Prop := z = 135 ∧ (k = 6 ∨ k = 7 ∨ k = 35 ∨ k = 37 ∨ k = 39 ∨ k = 47) ∨ z = 136 ∨ 139 ≤ z ∧ z ≤ 142 ∨ 145 ≤ z ∧ z ≤ 151 ∨ 153 ≤ z ∧ z ≤ 155 ∨ z = 161 ∨ z = 162
def iv_vb (z k : Nat) : Bool := (decide (z = 135) && (decide (k = 6) || (decide (k = 7) || (decide (k = 35) || (decide (k = 37) || (decide (k = 39) || decide (k = 47))))))) || (decide (z = 136) || ((decide (139 ≤ z) && decide (z ≤ 142)) || ((decide (145 ≤ z) && decide (z ≤ 151)) || ((decide (153 ≤ z) && decide (z ≤ 155)) || (decide (z = 161) || decide (z = 162))))))
theorem iv_vb_w {z k : Nat} (h : iv_vb z k = true) : iv_vw z k := by
  unfold iv_vb at h
  unfold iv_vw
  simpa only [Bool.or_eq_true, Bool.and_eq_true, decide_eq_true_eq] using h
theorem iv_l_ok0 : ∀ x, x < 42 → ∀ y, y < 41 → 1685 ≤ 41 * x + y ∨ (iv_de (iv_lz (41 * x + y)) (iv_lk (41 * x + y)) = 41 * x + y ∧ iv_vb (iv_lz (41 * x + y)) (iv_lk (41 * x + y)) = true) := by decide +kernel
theorem iv_l_ok {a : Nat} (h : a < 1685) : iv_de (iv_lz a) (iv_lk a) = a ∧ iv_vw (iv_lz a) (iv_lk a) := by
  have h1 := iv_l_ok0 (a / 41) (by omega) (a % 41) (by omega)
  rw [show 41 * (a / 41) + a % 41 = a by omega] at h1
  have h2 := h1.resolve_left (by omega)
  exact ⟨h2.1, iv_vb_w h2.2⟩
theorem iv_l_in {a d : Nat} (ha : a < 1685) (hd : d < 1685) (h1 : iv_lz a = iv_lz d) (h2 : iv_lk a = iv_lk d) : a = d := by
  rw [← (iv_l_ok ha).1, ← (iv_l_ok hd).1, h1, h2]
/-- places a .. have been kept -/
def iv_KP (τ0 τ : ix_St) (a : Nat) : Prop := τ 135 52 = nI a ∧ τ 135 50 = τ0 135 50 ∧ (∀ z k, ¬ iv_vw z k → z ≠ 163 → ¬ (z = 135 ∧ k = 52) → τ z k = τ0 z k) ∧ (τ0 135 50 = 0 → τ 163 = τ0 163) ∧ (¬ τ0 135 50 = 0 → ∀ z k, z ≠ 163 → ¬ (z = 135 ∧ k = 52) → τ z k = τ0 z k) ∧ ∀ d, d < a → τ (iv_lz d) (iv_lk d) = τ 163 d
theorem f_kp (c : Bool) {τ0 τ : ix_St} {a : Nat} (ha : a < 1685) (h : iv_KP τ0 τ a) {z k : Nat} (hz : iv_lz a = z) (hk : iv_lk a = k) : ∃ r τ', ix_F 226 [.ref 135, .int (τ z k)] (ix_S0 c, τ) = some (.int r, (ix_S0 c, τ')) ∧ iv_KP τ0 (ix_up τ' z k r) (a + 1) ∧ ∀ z', z' ≠ 135 → z' ≠ 163 → τ' z' = τ z' := by
  obtain ⟨h1, h2, h3, h4, h5, h6⟩ := h
  have hlt := (iv_l_ok ha).2
  rw [hz, hk] at hlt
  have hz163 : z ≠ 163 := by unfold iv_vw at hlt; omega
  have hzk : ¬ (z = 135 ∧ k = 52) := by unfold iv_vw at hlt; omega
  have hzk5 : ¬ (z = 135 ∧ k = 50) := by unfold iv_vw at hlt; omega
  have e0 : nI a + 1 - 1 = nI a := by rw [Int32.add_sub_cancel]
  have i0 : ¬ (nI a < 0 ∨ 2100 ≤ (nI a).toNatClampNeg) := nI_in (by omega) (by omega)
  have i1 : (nI a).toNatClampNeg = a := nI_clamp (by omega)
  have up : ∀ (τ' : ix_St) (r : Int32) (z' k' : Nat), ix_up τ' z k r z' k' = if z' = z ∧ k' = k then r else τ' z' k' := by
    intro τ' r z' k'
    show (if z' = z then upd (τ' z) k r else τ' z') k' = _
    by_cases q1 : z' = z
    · rw [if_pos q1]
      by_cases q2 : k' = k
      · rw [q2, pk_us, if_pos ⟨q1, rfl⟩]
      · rw [pk_un q2, if_neg (fun q => q2 q.2), q1]
    · rw [if_neg q1, if_neg (fun q => q1 q.1)]
  rw [q_M_keeps_0, h1, e0, nI_1]
  by_cases hm : τ 135 50 = 0
  · rw [if_pos hm, if_neg i0, i1]
    refine ⟨_, _, rfl, ⟨?_, ?_, fun z' k' q1 q2 q3 => ?_, fun q => ?_, fun q => absurd (h2.symm.trans hm) q, fun d hd => ?_⟩, fun z' q1 q2 => iv_upn q1⟩
    · rw [up, if_neg (fun q => hzk ⟨q.1.symm, q.2.symm⟩)]; rfl
    · rw [up, if_neg (fun q => hzk5 ⟨q.1.symm, q.2.symm⟩)]; exact h2
    · rw [up, if_neg (fun q => q1 (by rw [q.1, q.2]; exact hlt))]
      rw [← h3 z' k' q1 q2 q3]
      show (if z' = 135 then upd (τ 135) 52 _ else τ z') k' = _
      by_cases q4 : z' = 135
      · rw [if_pos q4, pk_un (fun q => q3 ⟨q4, q⟩), q4]
      · rw [if_neg q4]
    · rw [iv_upn hz163.symm, iv_upn (by decide)]; exact h4 q
    · have h163 : (ix_up (ix_up τ 135 52 (nI (a + 1))) z k (τ 163 a)) 163 = τ 163 := by rw [iv_upn hz163.symm, iv_upn (by decide)]
      rw [h163, up]
      by_cases q : iv_lz d = z ∧ iv_lk d = k
      · have : d = a := iv_l_in (by omega) ha (by rw [q.1, hz]) (by rw [q.2, hk])
        rw [if_pos q, this]
      · have hda : d < a := by
          have : d ≠ a := fun e => q ⟨by rw [e, hz], by rw [e, hk]⟩
          omega
        rw [if_neg q, ← h6 d hda]
        have hld := (iv_l_ok (show d < 1685 by omega)).2
        show (if iv_lz d = 135 then upd (τ 135) 52 _ else τ (iv_lz d)) (iv_lk d) = _
        by_cases q4 : iv_lz d = 135
        · rw [if_pos q4, pk_un (by unfold iv_vw at hld; omega), q4]
        · rw [if_neg q4]
  · rw [if_neg hm, if_neg i0, i1]
    refine ⟨_, _, rfl, ⟨?_, ?_, fun z' k' q1 q2 q3 => ?_, fun q => absurd (h2.trans q) hm, fun q z' k' q2 q3 => ?_, fun d hd => ?_⟩, fun z' q1 q2 => (iv_upn q2).trans (iv_upn q1)⟩
    · rw [up, if_neg (fun q => hzk ⟨q.1.symm, q.2.symm⟩), iv_upn (by decide)]; rfl
    · rw [up, if_neg (fun q => hzk5 ⟨q.1.symm, q.2.symm⟩), iv_upn (by decide)]; exact h2
    · rw [up, if_neg (fun q => q1 (by rw [q.1, q.2]; exact hlt)), iv_upn q2]
      rw [← h3 z' k' q1 q2 q3]
      show (if z' = 135 then upd (τ 135) 52 _ else τ z') k' = _
      by_cases q4 : z' = 135
      · rw [if_pos q4, pk_un (fun q => q3 ⟨q4, q⟩), q4]
      · rw [if_neg q4]
    · rw [up, iv_upn q2]
      by_cases q5 : z' = z ∧ k' = k
      · rw [if_pos q5, q5.1, q5.2]; exact h5 q z k hz163 hzk
      · rw [if_neg q5, ← h5 q z' k' q2 q3]
        show (if z' = 135 then upd (τ 135) 52 _ else τ z') k' = _
        by_cases q4 : z' = 135
        · rw [if_pos q4, pk_un (fun q => q3 ⟨q4, q⟩), q4]
        · rw [if_neg q4]
    · have hld := (iv_l_ok (show d < 1685 by omega)).2
      have hd163 : iv_lz d ≠ 163 := by unfold iv_vw at hld; omega
      rw [iv_upn hz163.symm, up, iv_upn hd163]
      show _ = upd ((ix_up τ 135 52 (nI (a + 1))) 163) a (τ z k) d
      by_cases q : iv_lz d = z ∧ iv_lk d = k
      · have : d = a := iv_l_in (by omega) ha (by rw [q.1, hz]) (by rw [q.2, hk])
        rw [if_pos q, this, pk_us]
      · have hda : d < a := by
          have : d ≠ a := fun e => q ⟨by rw [e, hz], by rw [e, hk]⟩
          omega
        rw [if_neg q, pk_un (by omega), iv_upn (show 163 ≠ 135 by decide), ← h6 d hda]
        show (if iv_lz d = 135 then upd (τ 135) 52 _ else τ (iv_lz d)) (iv_lk d) = _
        by_cases q4 : iv_lz d = 135
        · rw [if_pos q4, pk_un (by unfold iv_vw at hld; omega), q4]
        · rw [if_neg q4]
theorem iv_l_now {j : Nat} (h : j < 54) : iv_lz j = 136 ∧ iv_lk j = j := by
  unfold iv_lz iv_lk
  rw [if_pos h, if_pos h]
  exact ⟨rfl, rfl⟩
theorem iv_l_ppl : ∀ j, j < 12 → (iv_lz (60 + 5 * j) = 139 ∧ iv_lk (60 + 5 * j) = j) ∧ (iv_lz (61 + 5 * j) = 140 ∧ iv_lk (61 + 5 * j) = j) ∧ (iv_lz (62 + 5 * j) = 141 ∧ iv_lk (62 + 5 * j) = j) ∧ (iv_lz (63 + 5 * j) = 153 ∧ iv_lk (63 + 5 * j) = j) ∧ iv_lz (64 + 5 * j) = 162 ∧ iv_lk (64 + 5 * j) = j := by decide +kernel
theorem iv_l_see : ∀ j, j < 20 → iv_lz (120 + j) = 161 ∧ iv_lk (120 + j) = j := by decide +kernel
theorem iv_l_log : ∀ j, j < 32 → iv_lz (140 + j) = 154 ∧ iv_lk (140 + j) = j := by decide +kernel
theorem iv_l_sea : ∀ j, j < 48 → iv_lz (172 + j) = 155 ∧ iv_lk (172 + j) = j := by decide +kernel
theorem iv_l_lin : ∀ j, j < 16 → (iv_lz (821 + 4 * j) = 146 ∧ iv_lk (821 + 4 * j) = j) ∧ (iv_lz (822 + 4 * j) = 147 ∧ iv_lk (822 + 4 * j) = j) ∧ (iv_lz (823 + 4 * j) = 148 ∧ iv_lk (823 + 4 * j) = j) ∧ iv_lz (824 + 4 * j) = 149 ∧ iv_lk (824 + 4 * j) = j := by decide +kernel
theorem iv_l_boo {j : Nat} (h : j < 600) : iv_lz (220 + j) = 142 ∧ iv_lk (220 + j) = j := by
  unfold iv_lz iv_lk
  rw [if_neg (by omega), if_neg (by omega), if_neg (by omega), if_neg (by omega), if_neg (by omega), if_neg (by omega), if_pos (by omega), if_neg (by omega), if_neg (by omega), if_neg (by omega), if_neg (by omega), if_neg (by omega), if_neg (by omega), if_pos (by omega)]
  exact ⟨rfl, by omega⟩
theorem iv_l_ops {j : Nat} (h : j < 400) : (iv_lz (885 + 2 * j) = 150 ∧ iv_lk (885 + 2 * j) = j) ∧ iv_lz (886 + 2 * j) = 151 ∧ iv_lk (886 + 2 * j) = j := by
  have g : ∀ a, 885 ≤ a → iv_lz a = 150 + (a - 885) % 2 ∧ iv_lk a = (a - 885) / 2 := fun a ha => by
    unfold iv_lz iv_lk
    rw [if_neg (by omega), if_neg (by omega), if_neg (by omega), if_neg (by omega), if_neg (by omega), if_neg (by omega), if_neg (by omega), if_neg (by omega), if_neg (by omega), if_neg (by omega), if_neg (by omega), if_neg (by omega), if_neg (by omega), if_neg (by omega), if_neg (by omega), if_neg (by omega), if_neg (by omega), if_neg (by omega)]
    exact ⟨rfl, rfl⟩
  obtain ⟨g1, g2⟩ := g (885 + 2 * j) (by omega)
  obtain ⟨g3, g4⟩ := g (886 + 2 * j) (by omega)
  refine ⟨⟨?_, ?_⟩, ?_, ?_⟩ <;> omega
theorem f_kNow (c : Bool) (v : Int32) {τ0 : ix_St} : ∀ d j τ, j + d = 54 → iv_KP τ0 τ j → ∃ τ', ix_S 186 3 35 [some (.ref 135), some (.int v), some (.int (nI j))] [] (ix_S0 c, τ) = ix_S 186 3 35 [some (.ref 135), some (.int v), some (.int (nI 54))] [] (ix_S0 c, τ') ∧ iv_KP τ0 τ' 54 := by
  intro d
  induction d with
  | zero => intro j τ hj h; rw [show j = 54 by omega] at h ⊢; exact ⟨τ, rfl, h⟩
  | succ d ih =>
    intro j τ hj h
    obtain ⟨l1, l2⟩ := iv_l_now (show j < 54 by omega)
    obtain ⟨r, τ1, e1, e2, -⟩ := f_kp c (by omega) h l1 l2
    obtain ⟨τ', p1, p2⟩ := ih (j + 1) _ (by omega) e2
    refine ⟨τ', ?_, p2⟩
    rw [q_M_image_35, if_neg (show ¬ (54 : Int32) ≤ nI j from nI_ge (b := 54) (by omega) (by omega)), nI_clamp (by omega), if_neg (iv_ni (x := j) (N := 54) (by omega) (by omega)), e1, nI_1]
    simp only [Option.bind_some, iv_tI]
    rw [if_neg (iv_ni (x := j) (N := 54) (by omega) (by omega))]
    exact p1
theorem f_kSee (c : Bool) {τ0 : ix_St} : ∀ d j τ, j + d = 20 → iv_KP τ0 τ (120 + j) → ∃ τ', ix_S 227 2 168 [some (.ref 135), some (.int (nI j))] [] (ix_S0 c, τ) = ix_S 227 2 168 [some (.ref 135), some (.int (nI 20))] [] (ix_S0 c, τ') ∧ iv_KP τ0 τ' (120 + 20) := by
  intro d
  induction d with
  | zero => intro j τ hj h; rw [show j = 20 by omega] at h ⊢; exact ⟨τ, rfl, h⟩
  | succ d ih =>
    intro j τ hj h
    obtain ⟨l1, l2⟩ := iv_l_see j (by omega)
    obtain ⟨r, τ1, e1, e2, -⟩ := f_kp c (by omega) h l1 l2
    obtain ⟨τ', p1, p2⟩ := ih (j + 1) _ (by omega) e2
    refine ⟨τ', ?_, p2⟩
    rw [q_M_keepsTold_168, if_neg (show ¬ (20 : Int32) ≤ nI j from nI_ge (b := 20) (by omega) (by omega)), nI_clamp (by omega), if_neg (iv_ni (x := j) (N := 20) (by omega) (by omega)), e1, nI_1]
    simp only [Option.bind_some, iv_tI]
    rw [if_neg (iv_ni (x := j) (N := 20) (by omega) (by omega))]
    exact p1
theorem f_kLog (c : Bool) {τ0 : ix_St} : ∀ d j τ, j + d = 32 → iv_KP τ0 τ (140 + j) → ∃ τ', ix_S 227 2 198 [some (.ref 135), some (.int (nI j))] [] (ix_S0 c, τ) = ix_S 227 2 198 [some (.ref 135), some (.int (nI 32))] [] (ix_S0 c, τ') ∧ iv_KP τ0 τ' (140 + 32) := by
  intro d
  induction d with
  | zero => intro j τ hj h; rw [show j = 32 by omega] at h ⊢; exact ⟨τ, rfl, h⟩
  | succ d ih =>
    intro j τ hj h
    obtain ⟨l1, l2⟩ := iv_l_log j (by omega)
    obtain ⟨r, τ1, e1, e2, -⟩ := f_kp c (by omega) h l1 l2
    obtain ⟨τ', p1, p2⟩ := ih (j + 1) _ (by omega) e2
    refine ⟨τ', ?_, p2⟩
    rw [q_M_keepsTold_198, if_neg (show ¬ (32 : Int32) ≤ nI j from nI_ge (b := 32) (by omega) (by omega)), nI_clamp (by omega), if_neg (iv_ni (x := j) (N := 64) (by omega) (by omega)), e1, nI_1]
    simp only [Option.bind_some, iv_tI]
    rw [if_neg (iv_ni (x := j) (N := 64) (by omega) (by omega))]
    exact p1
theorem f_kSea (c : Bool) {τ0 : ix_St} : ∀ d j τ, j + d = 48 → iv_KP τ0 τ (172 + j) → ∃ τ', ix_S 227 2 228 [some (.ref 135), some (.int (nI j))] [] (ix_S0 c, τ) = ix_S 227 2 228 [some (.ref 135), some (.int (nI 48))] [] (ix_S0 c, τ') ∧ iv_KP τ0 τ' (172 + 48) := by
  intro d
  induction d with
  | zero => intro j τ hj h; rw [show j = 48 by omega] at h ⊢; exact ⟨τ, rfl, h⟩
  | succ d ih =>
    intro j τ hj h
    obtain ⟨l1, l2⟩ := iv_l_sea j (by omega)
    obtain ⟨r, τ1, e1, e2, -⟩ := f_kp c (by omega) h l1 l2
    obtain ⟨τ', p1, p2⟩ := ih (j + 1) _ (by omega) e2
    refine ⟨τ', ?_, p2⟩
    rw [q_M_keepsTold_228, if_neg (show ¬ (48 : Int32) ≤ nI j from nI_ge (b := 48) (by omega) (by omega)), nI_clamp (by omega), if_neg (iv_ni (x := j) (N := 96) (by omega) (by omega)), e1, nI_1]
    simp only [Option.bind_some, iv_tI]
    rw [if_neg (iv_ni (x := j) (N := 96) (by omega) (by omega))]
    exact p1
theorem f_kBoo (c : Bool) (v : Int32) {τ0 : ix_St} : ∀ d j τ, j + d = 600 → iv_KP τ0 τ (220 + j) → ∃ τ', ix_S 186 3 69 [some (.ref 135), some (.int v), some (.int (nI j))] [] (ix_S0 c, τ) = ix_S 186 3 69 [some (.ref 135), some (.int v), some (.int (nI 600))] [] (ix_S0 c, τ') ∧ iv_KP τ0 τ' (220 + 600) := by
  intro d
  induction d with
  | zero => intro j τ hj h; rw [show j = 600 by omega] at h ⊢; exact ⟨τ, rfl, h⟩
  | succ d ih =>
    intro j τ hj h
    obtain ⟨l1, l2⟩ := iv_l_boo (show j < 600 by omega)
    obtain ⟨r, τ1, e1, e2, -⟩ := f_kp c (by omega) h l1 l2
    obtain ⟨τ', p1, p2⟩ := ih (j + 1) _ (by omega) e2
    refine ⟨τ', ?_, p2⟩
    rw [q_M_image_69, if_neg (show ¬ (600 : Int32) ≤ nI j from nI_ge (b := 600) (by omega) (by omega)), nI_clamp (by omega), if_neg (iv_ni (x := j) (N := 600) (by omega) (by omega)), e1, nI_1]
    simp only [Option.bind_some, iv_tI]
    rw [if_neg (iv_ni (x := j) (N := 600) (by omega) (by omega))]
    exact p1
theorem f_kPpl (c : Bool) {τ0 : ix_St} : ∀ d j τ, j + d = 12 → iv_KP τ0 τ (60 + 5 * j) → ∃ τ', ix_S 227 2 74 [some (.ref 135), some (.int (nI j))] [] (ix_S0 c, τ) = ix_S 227 2 74 [some (.ref 135), some (.int (nI 12))] [] (ix_S0 c, τ') ∧ iv_KP τ0 τ' 120 := by
  intro d
  induction d with
  | zero => intro j τ hj h; rw [show j = 12 by omega] at h ⊢; exact ⟨τ, rfl, h⟩
  | succ d ih =>
    intro j τ hj h
    obtain ⟨⟨a1, a2⟩, ⟨b1, b2⟩, ⟨c1, c2⟩, ⟨d1, d2⟩, g1, g2⟩ := iv_l_ppl j (by omega)
    obtain ⟨r1, τ1, e1, k1, f1⟩ := f_kp c (by omega) h a1 a2
    rw [show 60 + 5 * j + 1 = 61 + 5 * j by omega] at k1
    obtain ⟨r2, τ2, e2, k2, f2⟩ := f_kp c (by omega) k1 b1 b2
    rw [iv_upn (show 140 ≠ 139 by decide)] at e2
    rw [show 61 + 5 * j + 1 = 62 + 5 * j by omega] at k2
    obtain ⟨r3, τ3, e3, k3, f3⟩ := f_kp c (by omega) k2 c1 c2
    rw [iv_upn (show 141 ≠ 140 by decide)] at e3
    rw [show 62 + 5 * j + 1 = 63 + 5 * j by omega] at k3
    obtain ⟨r4, τ4, e4, k4, f4⟩ := f_kp c (by omega) k3 d1 d2
    rw [iv_upn (show 153 ≠ 141 by decide)] at e4
    rw [show 63 + 5 * j + 1 = 64 + 5 * j by omega] at k4
    obtain ⟨r5, τ5, e5, k5, f5⟩ := f_kp c (by omega) k4 g1 g2
    rw [iv_upn (show 162 ≠ 153 by decide)] at e5
    rw [show 64 + 5 * j + 1 = 60 + 5 * (j + 1) by omega] at k5
    obtain ⟨τ', p1, p2⟩ := ih (j + 1) _ (by omega) k5
    have n12 := iv_ni (x := j) (N := 12) (by omega) (by omega)
    have n24 := iv_ni (x := j) (N := 24) (by omega) (by omega)
    refine ⟨τ', ?_, p2⟩
    rw [q_M_keepsTold_74, if_neg (show ¬ (12 : Int32) ≤ nI j from nI_ge (b := 12) (by omega) (by omega)), nI_clamp (by omega), if_neg n12, e1, nI_1]
    simp only [Option.bind_some, iv_tI]
    rw [if_neg n12, if_neg n12, e2]
    simp only [Option.bind_some, iv_tI]
    rw [if_neg n12, if_neg n12, e3]
    simp only [Option.bind_some, iv_tI]
    rw [if_neg n12, if_neg n24, e4]
    simp only [Option.bind_some, iv_tI]
    rw [if_neg n24, if_neg n12, e5]
    simp only [Option.bind_some, iv_tI]
    rw [if_neg n12]
    exact p1
theorem f_kLin (c : Bool) {τ0 : ix_St} : ∀ d j τ, j + d = 16 → iv_KP τ0 τ (821 + 4 * j) → ∃ τ', ix_S 228 2 18 [some (.ref 135), some (.int (nI j))] [] (ix_S0 c, τ) = ix_S 228 2 18 [some (.ref 135), some (.int (nI 16))] [] (ix_S0 c, τ') ∧ iv_KP τ0 τ' 885 := by
  intro d
  induction d with
  | zero => intro j τ hj h; rw [show j = 16 by omega] at h ⊢; exact ⟨τ, rfl, h⟩
  | succ d ih =>
    intro j τ hj h
    obtain ⟨⟨a1, a2⟩, ⟨b1, b2⟩, ⟨c1, c2⟩, d1, d2⟩ := iv_l_lin j (by omega)
    obtain ⟨r1, τ1, e1, k1, f1⟩ := f_kp c (by omega) h a1 a2
    rw [show 821 + 4 * j + 1 = 822 + 4 * j by omega] at k1
    obtain ⟨r2, τ2, e2, k2, f2⟩ := f_kp c (by omega) k1 b1 b2
    rw [iv_upn (show 147 ≠ 146 by decide)] at e2
    rw [show 822 + 4 * j + 1 = 823 + 4 * j by omega] at k2
    obtain ⟨r3, τ3, e3, k3, f3⟩ := f_kp c (by omega) k2 c1 c2
    rw [iv_upn (show 148 ≠ 147 by decide)] at e3
    rw [show 823 + 4 * j + 1 = 824 + 4 * j by omega] at k3
    obtain ⟨r4, τ4, e4, k4, f4⟩ := f_kp c (by omega) k3 d1 d2
    rw [iv_upn (show 149 ≠ 148 by decide)] at e4
    rw [show 824 + 4 * j + 1 = 821 + 4 * (j + 1) by omega] at k4
    obtain ⟨τ', p1, p2⟩ := ih (j + 1) _ (by omega) k4
    have n48 := iv_ni (x := j) (N := 48) (by omega) (by omega)
    refine ⟨τ', ?_, p2⟩
    rw [q_M_keepsLaw_18, if_neg (show ¬ (16 : Int32) ≤ nI j from nI_ge (b := 16) (by omega) (by omega)), nI_clamp (by omega), if_neg n48, e1, nI_1]
    simp only [Option.bind_some, iv_tI]
    rw [if_neg n48, if_neg n48, e2]
    simp only [Option.bind_some, iv_tI]
    rw [if_neg n48, if_neg n48, e3]
    simp only [Option.bind_some, iv_tI]
    rw [if_neg n48, if_neg n48, e4]
    simp only [Option.bind_some, iv_tI]
    rw [if_neg n48]
    exact p1
theorem f_kOps (c : Bool) {τ0 : ix_St} : ∀ d j τ, j + d = 400 → iv_KP τ0 τ (885 + 2 * j) → ∃ τ', ix_S 228 2 96 [some (.ref 135), some (.int (nI j))] [] (ix_S0 c, τ) = ix_S 228 2 96 [some (.ref 135), some (.int (nI 400))] [] (ix_S0 c, τ') ∧ iv_KP τ0 τ' 1685 := by
  intro d
  induction d with
  | zero => intro j τ hj h; rw [show j = 400 by omega] at h ⊢; exact ⟨τ, rfl, h⟩
  | succ d ih =>
    intro j τ hj h
    obtain ⟨⟨a1, a2⟩, b1, b2⟩ := iv_l_ops (show j < 400 by omega)
    obtain ⟨r1, τ1, e1, k1, f1⟩ := f_kp c (by omega) h a1 a2
    rw [show 885 + 2 * j + 1 = 886 + 2 * j by omega] at k1
    obtain ⟨r2, τ2, e2, k2, f2⟩ := f_kp c (by omega) k1 b1 b2
    rw [iv_upn (show 151 ≠ 150 by decide)] at e2
    rw [show 886 + 2 * j + 1 = 885 + 2 * (j + 1) by omega] at k2
    obtain ⟨τ', p1, p2⟩ := ih (j + 1) _ (by omega) k2
    have n := iv_ni (x := j) (N := 1200) (by omega) (by omega)
    refine ⟨τ', ?_, p2⟩
    rw [q_M_keepsLaw_96, if_neg (show ¬ (400 : Int32) ≤ nI j from nI_ge (b := 400) (by omega) (by omega)), nI_clamp (by omega), if_neg n, e1, nI_1]
    simp only [Option.bind_some, iv_tI]
    rw [if_neg n, if_neg n, e2]
    simp only [Option.bind_some, iv_tI]
    rw [if_neg n]
    exact p1
/-- all is kept, or all is brought back -/
theorem f_kAll (c : Bool) (v : Int32) {τ0 : ix_St} (h : iv_KP τ0 τ0 0) : ∃ τ', ix_S 186 3 35 [some (.ref 135), some (.int v), some (.int 0)] [] (ix_S0 c, τ0) = (if v = 0 then some (.int 1, (ix_S0 c, ix_up τ' 135 3 0)) else some (.int 1, (ix_S0 c, τ'))) ∧ iv_KP τ0 τ' 1685 := by
  obtain ⟨τ1, g1, k1⟩ := f_kNow c v 54 0 τ0 (by omega) h
  have l54 : iv_lz 54 = 135 ∧ iv_lk 54 = 6 := by decide
  have l55 : iv_lz 55 = 135 ∧ iv_lk 55 = 7 := by decide
  have l56 : iv_lz 56 = 135 ∧ iv_lk 56 = 35 := by decide
  have l57 : iv_lz 57 = 135 ∧ iv_lk 57 = 37 := by decide
  have l58 : iv_lz 58 = 135 ∧ iv_lk 58 = 39 := by decide
  have l59 : iv_lz 59 = 135 ∧ iv_lk 59 = 47 := by decide
  have l820 : iv_lz 820 = 145 ∧ iv_lk 820 = 0 := by decide
  obtain ⟨r2, τ2, e2, k2, -⟩ := f_kp c (by omega) k1 l54.1 l54.2
  obtain ⟨r3, τ3, e3, k3, -⟩ := f_kp c (by omega) k2 l55.1 l55.2
  obtain ⟨r4, τ4, e4, k4, -⟩ := f_kp c (by omega) k3 l56.1 l56.2
  obtain ⟨r5, τ5, e5, k5, -⟩ := f_kp c (by omega) k4 l57.1 l57.2
  obtain ⟨r6, τ6, e6, k6, -⟩ := f_kp c (by omega) k5 l58.1 l58.2
  obtain ⟨r7, τ7, e7, k7, -⟩ := f_kp c (by omega) k6 l59.1 l59.2
  obtain ⟨τ8, g8, k8⟩ := f_kPpl c 12 0 _ (by omega) k7
  obtain ⟨τ9, g9, k9⟩ := f_kSee c 20 0 τ8 (by omega) k8
  obtain ⟨τa, ga, ka⟩ := f_kLog c 32 0 τ9 (by omega) k9
  obtain ⟨τb, gb, kb⟩ := f_kSea c 48 0 τa (by omega) ka
  obtain ⟨τc, gc, kc⟩ := f_kBoo c v 600 0 τb (by omega) kb
  obtain ⟨rd, τd, ed, kd, -⟩ := f_kp c (by omega) kc l820.1 l820.2
  obtain ⟨τe, ge, ke⟩ := f_kLin c 16 0 _ (by omega) kd
  obtain ⟨τf, gf, kf⟩ := f_kOps c 400 0 τe (by omega) ke
  refine ⟨τf, ?_, kf⟩
  have g8' : ix_S 227 2 74 [some (.ref 135), some (.int 0)] [] (ix_S0 c, ix_up τ7 135 47 r7) = _ := g8
  have g9' : ix_S 227 2 168 [some (.ref 135), some (.int 0)] [] (ix_S0 c, τ8) = _ := g9
  have ga' : ix_S 227 2 198 [some (.ref 135), some (.int 0)] [] (ix_S0 c, τ9) = _ := ga
  have gb' : ix_S 227 2 228 [some (.ref 135), some (.int 0)] [] (ix_S0 c, τa) = _ := gb
  have gc' : ix_S 186 3 69 [some (.ref 135), some (.int v), some (.int 0)] [] (ix_S0 c, τb) = _ := gc
  have ge' : ix_S 228 2 18 [some (.ref 135), some (.int 0)] [] (ix_S0 c, ix_up τd 145 0 rd) = _ := ge
  have gf' : ix_S 228 2 96 [some (.ref 135), some (.int 0)] [] (ix_S0 c, τe) = _ := gf
  have told : ix_F 227 [.ref 135] (ix_S0 c, τ1) = some (.null, (ix_S0 c, τb)) := by
    rw [q_M_keepsTold_0, e2]
    simp only [Option.bind_some, iv_tI]
    rw [show τ2 135 7 = (ix_up τ2 135 6 r2) 135 7 from rfl, e3]
    simp only [Option.bind_some, iv_tI]
    rw [show τ3 135 35 = (ix_up τ3 135 7 r3) 135 35 from rfl, e4]
    simp only [Option.bind_some, iv_tI]
    rw [show τ4 135 37 = (ix_up τ4 135 35 r4) 135 37 from rfl, e5]
    simp only [Option.bind_some, iv_tI]
    rw [show τ5 135 39 = (ix_up τ5 135 37 r5) 135 39 from rfl, e6]
    simp only [Option.bind_some, iv_tI]
    rw [show τ6 135 47 = (ix_up τ6 135 39 r6) 135 47 from rfl, e7]
    simp only [Option.bind_some, iv_tI]
    rw [g8', q_M_keepsTold_74, if_pos (show (12 : Int32) ≤ nI 12 by decide), g9', q_M_keepsTold_168, if_pos (show (20 : Int32) ≤ nI 20 by decide), ga', q_M_keepsTold_198, if_pos (show (32 : Int32) ≤ nI 32 by decide), gb', q_M_keepsTold_228, if_pos (show (48 : Int32) ≤ nI 48 by decide)]
  have law : ix_F 228 [.ref 135] (ix_S0 c, τc) = some (.null, (ix_S0 c, τf)) := by
    rw [q_M_keepsLaw_0, ed]
    simp only [Option.bind_some, iv_tI]
    rw [ge', q_M_keepsLaw_18, if_pos (show (16 : Int32) ≤ nI 16 by decide), gf', q_M_keepsLaw_96, if_pos (show (400 : Int32) ≤ nI 400 by decide)]
  have g1' : ix_S 186 3 35 [some (.ref 135), some (.int v), some (.int 0)] [] (ix_S0 c, τ0) = _ := g1
  rw [g1', q_M_image_35, if_pos (show (54 : Int32) ≤ nI 54 by decide), told]
  simp only [Option.bind_some]
  rw [gc', q_M_image_69, if_pos (show (600 : Int32) ≤ nI 600 by decide), law]
  simp only [Option.bind_some]
/-- the view of what is kept -/
theorem iv_im_at {τ : ix_St} (h : ∀ d, d < 1685 → τ (iv_lz d) (iv_lk d) = τ 163 d) : ∀ f i, iv_rv f i → iv_mv τ f i = iv_im (τ 163) f i := by
  intro f i hfi
  have at_ : ∀ d z k, d < 1685 → iv_lz d = z → iv_lk d = k → τ z k = τ 163 d := fun d z k hd h1 h2 => by rw [← h d hd, h1, h2]
  unfold iv_rv at hfi
  rcases hfi with ⟨rfl, hi⟩ | ⟨rfl, hi⟩ | ⟨h1, h2, hi⟩ | ⟨rfl, hi⟩ | ⟨rfl, hi⟩ | ⟨rfl, hi⟩ | ⟨rfl, hi⟩ | ⟨h1, h2, hi⟩ | ⟨h1, h2, hi⟩
  · exact at_ i 136 i (by omega) (iv_l_now hi).1 (iv_l_now hi).2
  · have : i = 0 ∨ i = 1 ∨ i = 2 ∨ i = 3 ∨ i = 4 ∨ i = 5 ∨ i = 6 := by omega
    rcases this with rfl | rfl | rfl | rfl | rfl | rfl | rfl
    · exact at_ 54 135 6 (by omega) (by decide) (by decide)
    · exact at_ 55 135 7 (by omega) (by decide) (by decide)
    · exact at_ 56 135 35 (by omega) (by decide) (by decide)
    · exact at_ 57 135 37 (by omega) (by decide) (by decide)
    · exact at_ 58 135 39 (by omega) (by decide) (by decide)
    · exact at_ 59 135 47 (by omega) (by decide) (by decide)
    · exact at_ 820 145 0 (by omega) (by decide) (by decide)
  · obtain ⟨a1, a2, a3, a4, a5⟩ := iv_l_ppl i hi
    have : f = 2 ∨ f = 3 ∨ f = 4 ∨ f = 5 ∨ f = 6 := by omega
    rcases this with rfl | rfl | rfl | rfl | rfl
    · exact at_ (60 + 5 * i) 139 i (by omega) a1.1 a1.2
    · exact at_ (61 + 5 * i) 140 i (by omega) a2.1 a2.2
    · exact at_ (62 + 5 * i) 141 i (by omega) a3.1 a3.2
    · exact at_ (63 + 5 * i) 153 i (by omega) a4.1 a4.2
    · exact at_ (64 + 5 * i) 162 i (by omega) a5.1 a5.2
  · exact at_ (120 + i) 161 i (by omega) (iv_l_see i hi).1 (iv_l_see i hi).2
  · exact at_ (140 + i) 154 i (by omega) (iv_l_log i hi).1 (iv_l_log i hi).2
  · exact at_ (172 + i) 155 i (by omega) (iv_l_sea i hi).1 (iv_l_sea i hi).2
  · exact at_ (220 + i) 142 i (by omega) (iv_l_boo hi).1 (iv_l_boo hi).2
  · obtain ⟨a1, a2, a3, a4⟩ := iv_l_lin i hi
    have : f = 11 ∨ f = 12 ∨ f = 13 ∨ f = 14 := by omega
    rcases this with rfl | rfl | rfl | rfl
    · exact at_ (821 + 4 * i) 146 i (by omega) a1.1 a1.2
    · exact at_ (822 + 4 * i) 147 i (by omega) a2.1 a2.2
    · exact at_ (823 + 4 * i) 148 i (by omega) a3.1 a3.2
    · exact at_ (824 + 4 * i) 149 i (by omega) a4.1 a4.2
  · obtain ⟨a1, a2⟩ := iv_l_ops hi
    have : f = 15 ∨ f = 16 := by omega
    rcases this with rfl | rfl
    · exact at_ (885 + 2 * i) 150 i (by omega) a1.1 a1.2
    · exact at_ (886 + 2 * i) 151 i (by omega) a2.1 a2.2
theorem iv_mv_cg {τ τ' : ix_St} (h : ∀ z k, z ≠ 163 → ¬ (z = 135 ∧ (k = 0 ∨ k = 50 ∨ k = 51 ∨ k = 52)) → τ' z k = τ z k) : iv_mv τ' = iv_mv τ := by
  funext f i
  unfold iv_mv
  split
  case h_2 =>
    dsimp only
    split
    all_goals exact h _ _ (by omega) (by omega)
  all_goals exact h _ _ (by omega) (by omega)
theorem s_image (E : ix_St) (v : Int32) (hv : v = 0 ∨ v = 1) : iv_S E 31 186 [.int v] := by
  intro k b c σ τ hk hE hR
  have hK := iv_R_keep iv_kX.rf (iv_kM_told τ 0) hR
  obtain ⟨n, o, hn, hw, hpast, htape, hoth, himg⟩ := iv_R_up (Nat.le_succ k) hR
  obtain ⟨τ0, hτ0⟩ : ∃ τ0, τ0 = ix_up (ix_up (ix_up (ix_up τ 135 0 0) 135 50 v) 135 51 1) 135 52 0 := ⟨_, rfl⟩
  have t0 : ∀ z i, ¬ (z = 135 ∧ (i = 0 ∨ i = 50 ∨ i = 51 ∨ i = 52)) → τ0 z i = τ z i := fun z i h => by
    rw [hτ0]
    by_cases e : z = 135
    · subst e
      show upd (upd (upd (upd (τ 135) 0 0) 50 v) 51 1) 52 0 i = _
      rw [pk_un (by omega), pk_un (by omega), pk_un (by omega), pk_un (by omega)]
    · rw [iv_upn e, iv_upn e, iv_upn e, iv_upn e]
  have t50 : τ0 135 50 = v := by rw [hτ0]; rfl
  have t51 : τ0 135 51 = 1 := by rw [hτ0]; rfl
  have hkp : iv_KP τ0 τ0 0 := ⟨by rw [hτ0]; rfl, rfl, fun _ _ _ _ _ => rfl, fun _ => rfl, fun _ _ _ _ _ => rfl, fun d hd => by omega⟩
  obtain ⟨τ1, g1, g2, g3, g4, g5, g6, g7⟩ := f_kAll c v hkp
  have hsync := iv_im_at g7
  rw [q_X_image_0, q_M_image_0, ← hτ0]
  rcases hv with rfl | rfl
  · rw [if_pos rfl, if_pos rfl]
    obtain ⟨i1, i2⟩ := id himg
    rcases i2 with i2 | ⟨i2, n', o', hn', hw'⟩
    · rw [i1, i2, if_pos rfl, if_pos (Or.inl rfl), if_pos rfl]
      exact ⟨0, b, _, _, rfl, rfl, hK⟩
    · have s7 : σ 0 7 = 1 := i1.trans i2
      rw [s7, i2, if_neg (by decide), if_neg (by decide), f_imgOf, if_pos (Or.inl rfl), g1, if_pos rfl]
      simp only [Option.bind_some]
      rw [q_Past_forget_0]
      simp only [Option.bind_some]
      have wz : ∀ z, z = 0 ∨ 27 < z → iv_wc 27 0 iv_ops σ z = σ z := fun z hz => iv_wc_o iv_ops σ (iv_ops_z (by omega))
      have s07 : (ix_up (iv_wc 27 0 iv_ops σ) 55 3 0) 0 7 = 1 := by rw [iv_upn (by decide), wz 0 (by omega)]; exact s7
      rw [s07, if_pos (Or.inr rfl)]
      have t163 : τ1 163 = τ 163 := by
        rw [g5 t50]
        funext i
        exact t0 163 i (by omega)
      have tz : ∀ z i, ¬ iv_vw z i → z ≠ 163 → ¬ (z = 135 ∧ (i = 0 ∨ i = 50 ∨ i = 51 ∨ i = 52)) → τ1 z i = τ z i := fun z i h1 h2 h3 => (g4 z i h1 h2 (by omega)).trans (t0 z i h3)
      have tc : ∀ z, (z = 143 ∨ z = 144) → τ1 z = τ z := fun z hz => by
        funext i
        exact tz z i (by unfold iv_vw; omega) (by omega) (by omega)
      refine ⟨1, b, _, _, rfl, rfl, n', o', hn', ?_, iv_past0 hpast ?_ rfl rfl, ?_, ?_, ?_⟩
      · refine iv_wor_ag hn' (fun z i hz => ?_) (fun f i hf => ?_) hw'
        · have hz27 : z ≤ 27 := by unfold iv_rc at hz; omega
          rw [iv_upn (show z ≠ 55 by omega)]
          have := iv_wc_d (p := 27) (q := 0) (Or.inr (by omega)) σ iv_ops σ iv_ops_in (fun _ _ _ => rfl) (Or.inr (iv_ops_of hz))
          rw [Nat.zero_add, Nat.add_comm 27 z] at this
          exact this
        · rw [← t163, ← hsync f i hf]
          have e : iv_mv (ix_up τ1 135 3 0) = iv_mv τ1 := by
            funext f
            unfold iv_mv
            split <;> rfl
          rw [e]
      · rw [show (ix_up (iv_wc 27 0 iv_ops σ) 55 3 0) 55 2 = (iv_wc 27 0 iv_ops σ) 55 2 from rfl, wz 55 (by omega)]
      · obtain ⟨t, ht, h1, h2, h3⟩ := htape
        refine ⟨t, ht, ?_, ?_, fun i hi => ?_⟩
        · rw [iv_upn (by decide), wz 100 (by omega)]; exact h1
        · rw [show (ix_up τ1 135 3 0) 135 13 = τ1 135 13 from rfl, tz 135 13 (by unfold iv_vw; omega) (by omega) (by omega)]; exact h2
        · rw [iv_upn (by decide), iv_upn (by decide), wz 101 (by omega), tc 143 (by omega)]; exact h3 i hi
      · obtain ⟨⟨h1, h2⟩, h3, h4⟩ := hoth
        refine ⟨⟨?_, ?_⟩, ?_, fun i hi => ?_⟩
        · rw [iv_upn (by decide), wz 105 (by omega), show (ix_up τ1 135 3 0) 135 33 = τ1 135 33 from rfl, tz 135 33 (by unfold iv_vw; omega) (by omega) (by omega)]; exact h1
        · rw [iv_upn (by decide), wz 105 (by omega), show (ix_up τ1 135 3 0) 135 34 = τ1 135 34 from rfl, tz 135 34 (by unfold iv_vw; omega) (by omega) (by omega)]; exact h2
        · rw [show (ix_up τ1 135 3 0) 135 5 = τ1 135 5 from rfl, tz 135 5 (by unfold iv_vw; omega) (by omega) (by omega)]; exact h3
        · rw [iv_upn (by decide), tc 144 (by omega)]; exact h4 i hi
      · have e51 : (ix_up τ1 135 3 0) 135 51 = 1 := by
          rw [show (ix_up τ1 135 3 0) 135 51 = τ1 135 51 from rfl, g4 135 51 (by unfold iv_vw; omega) (by omega) (by omega)]; exact t51
        refine ⟨s07.trans e51.symm, Or.inr ⟨e51, n', o', hn', ?_⟩⟩
        rw [iv_upn (by decide), t163]
        refine iv_wor_ag hn' (fun z i hz => ?_) (fun _ _ _ => rfl) hw'
        have hz27 : 1 ≤ z ∧ z ≤ 27 := by unfold iv_rc at hz; omega
        show (ix_up (iv_wc 27 0 iv_ops σ) 55 3 0) (z + 27) i = σ (z + 27) i
        rw [iv_upn (show z + 27 ≠ 55 by omega), wz (z + 27) (by omega)]
  · rw [if_neg (by decide), if_neg (by decide), f_imgTo, if_pos (Or.inr rfl), g1, if_neg (by decide)]
    simp only [Option.bind_some]
    have wz : ∀ z, z ≤ 27 ∨ 54 < z → iv_wc 0 27 iv_ops σ z = σ z := fun z hz => iv_wc_o iv_ops σ (iv_ops_z (by omega))
    have xz : ∀ z, 1 ≤ z ∧ z ≤ 27 ∨ 54 < z → (ix_up (iv_wc 0 27 iv_ops σ) 0 7 1) z = σ z := fun z hz => by rw [iv_upn (show z ≠ 0 by omega), wz z (by omega)]
    have tz : ∀ z i, z ≠ 163 → ¬ (z = 135 ∧ (i = 0 ∨ i = 50 ∨ i = 51 ∨ i = 52)) → τ1 z i = τ z i := fun z i h2 h3 => (g6 (by rw [t50]; decide) z i h2 (by omega)).trans (t0 z i h3)
    have tc : ∀ z, z ≠ 163 → z ≠ 135 → τ1 z = τ z := fun z h1 h2 => by
      funext i
      exact tz z i h1 (by omega)
    have emv : iv_mv τ1 = iv_mv τ := iv_mv_cg tz
    refine ⟨1, b, _, _, rfl, rfl, n, o, hn, ?_, ?_, ?_, ?_, ?_⟩
    · rw [emv]
      refine iv_wor_ag hn (fun z i hz => ?_) (fun _ _ _ => rfl) hw
      rw [xz z (by unfold iv_rc at hz; omega)]
    · exact iv_past_cong (fun z h1 h2 => xz z (by omega)) (tz 135 3 (by omega) (by omega)) (tz 135 6 (by omega) (by omega)) (tc 137 (by omega) (by omega)) (tc 139 (by omega) (by omega)) (tc 140 (by omega) (by omega)) (tc 141 (by omega) (by omega)) hpast
    · obtain ⟨t, ht, h1, h2, h3⟩ := htape
      refine ⟨t, ht, ?_, ?_, fun i hi => ?_⟩
      · rw [xz 100 (by omega)]; exact h1
      · rw [tz 135 13 (by omega) (by omega)]; exact h2
      · rw [xz 101 (by omega), tc 143 (by omega) (by omega)]; exact h3 i hi
    · obtain ⟨⟨h1, h2⟩, h3, h4⟩ := hoth
      refine ⟨⟨?_, ?_⟩, ?_, fun i hi => ?_⟩
      · rw [xz 105 (by omega), tz 135 33 (by omega) (by omega)]; exact h1
      · rw [xz 105 (by omega), tz 135 34 (by omega) (by omega)]; exact h2
      · rw [tz 135 5 (by omega) (by omega)]; exact h3
      · rw [tc 144 (by omega) (by omega)]; exact h4 i hi
    · have e51 : τ1 135 51 = 1 := by rw [g4 135 51 (by unfold iv_vw; omega) (by omega) (by omega)]; exact t51
      refine ⟨?_, Or.inr ⟨e51, n, o, hn, ?_⟩⟩
      · rw [e51]; rfl
      · refine iv_wor_ag hn (fun z i hz => ?_) (fun f i hf => ?_) hw
        · have hz27 : 1 ≤ z ∧ z ≤ 27 := by unfold iv_rc at hz; omega
          show (ix_up (iv_wc 0 27 iv_ops σ) 0 7 1) (z + 27) i = σ z i
          rw [iv_upn (show z + 27 ≠ 0 by omega)]
          have := iv_wc_d (p := 0) (q := 27) (Or.inl (by omega)) σ iv_ops σ iv_ops_in (fun _ _ _ => rfl) (Or.inr (iv_ops_of hz))
          rw [Nat.zero_add, Nat.add_comm 27 z] at this
          exact this
        · rw [← hsync f i hf, emv]
