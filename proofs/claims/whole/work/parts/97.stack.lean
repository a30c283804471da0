/-! the reference's stack of what waits; what is settled -/
/-- the top is the head -/
def tx_pk (f : Nat → Int32) : List Int32 → Prop
  | [] => True
  | x :: S => f S.length = x ∧ tx_pk f S
theorem tx_pk_cg {f g : Nat → Int32} : ∀ (S : List Int32), (∀ j, j < S.length → g j = f j) → tx_pk f S → tx_pk g S
  | [], _, _ => trivial
  | x :: S, hc, h => ⟨(hc S.length (Nat.lt_succ_self _)).trans h.1, tx_pk_cg S (fun j hj => hc j (Nat.lt_succ_of_lt hj)) h.2⟩
def tx_pd (τ : ix_St) (S : List Int32) (o : Nat) : Prop := τ 135 30 = nI S.length ∧ τ 135 28 = nI o ∧ tx_pk (τ 152) S
theorem tx_pd.cg {τ τ' : ix_St} {S : List Int32} {o : Nat} (h : tx_pd τ S o) (h1 : τ' 135 30 = τ 135 30) (h2 : τ' 135 28 = τ 135 28) (h3 : τ' 152 = τ 152) : tx_pd τ' S o := by
  unfold tx_pd
  rw [h1, h2, h3]
  exact h
theorem tx_pd.lb {τ τ' : ix_St} {S : List Int32} {o : Nat} (h : tx_pd τ S o) (h1 : tx_lb τ τ') : tx_pd τ' S o := h.cg (h1.2.1 30 (by omega)) (h1.2.1 28 (by omega)) (h1.1 152 (by omega) (by omega) (by omega))
theorem tx_pd.fb {τ τ' : ix_St} {S : List Int32} {o : Nat} (h : tx_pd τ S o) (h1 : tx_fb τ τ') : tx_pd τ' S o := h.lb h1.lb
theorem tx_pd.op {τ : ix_St} {S : List Int32} {o : Nat} (h : tx_pd τ S o) (o' : Nat) : tx_pd (ix_up τ 135 28 (nI o')) S o' := by
  refine ⟨?_, tx_us, ?_⟩
  · rw [tx_un (by omega)]; exact h.1
  · rw [iv_upn (by omega)]; exact h.2.2
/-- the top is taken off -/
theorem tx_pd.pop {τ : ix_St} {x : Int32} {S : List Int32} {o : Nat} (h : tx_pd τ (x :: S) o) : τ 135 30 - 1 = nI S.length ∧ tx_pd (ix_up τ 135 30 (nI S.length)) S o := by
  have h1 : τ 135 30 = nI (S.length + 1) := h.1
  refine ⟨by rw [h1, nI_pred], tx_us, ?_, ?_⟩
  · rw [tx_un (by omega)]; exact h.2.1
  · rw [iv_upn (by omega)]; exact h.2.2.2
/-- class beside reference, which has m codes w more -/
def tx_cn (σ τ : ix_St) (z0 z m : Nat) (w : Int32) (T out : List Nat) : Prop := (z0 ≤ z ∧ z + m ≤ 400) ∧ (σ 107 8 = nI z ∧ τ 135 27 = nI (z + m)) ∧ (∀ j, j < z → iv_enc (σ 108 j) (τ 150 (800 + j)) (τ 151 (800 + j))) ∧ iv_run (fun j => τ 150 (800 + j)) (fun j => τ 151 (800 + j)) (z - z0) z0 T out ∧ ∀ j, z ≤ j → j < z + m → τ 150 (800 + j) = w ∧ τ 151 (800 + j) = 0
theorem tx_cn.cd {σ τ : ix_St} {z0 z : Nat} {w : Int32} {T out : List Nat} (h : tx_cn σ τ z0 z 0 w T out) : tx_cd σ τ z0 z T out := ⟨h.1, h.2.1, h.2.2.1, h.2.2.2.1⟩
theorem tx_cn.ab {σ σ' τ τ' : ix_St} {z0 z m : Nat} {w : Int32} {T out : List Nat} (h : tx_cn σ τ z0 z m w T out) (ha : tx_fa σ σ') (hb : tx_fb τ τ') : tx_cn σ' τ' z0 z m w T out := by
  obtain ⟨h1, h2, h3, h4, h5⟩ := h
  unfold tx_cn
  rw [ha.1 107 (by omega) (by omega), ha.1 108 (by omega) (by omega), hb.1 150 (by omega), hb.1 151 (by omega), hb.2 27 (by omega) (by omega) (by omega) (by omega) (by omega) (by omega)]
  exact ⟨h1, h2, h3, h4, h5⟩
/-- what the reference alone does to its codes and its stack, from code z on -/
def tx_rs (τ τ' : ix_St) (z : Nat) : Prop := (∀ y, y ≠ 135 → y ≠ 150 → y ≠ 151 → y ≠ 152 → τ' y = τ y) ∧ (∀ j, j ≠ 27 → j ≠ 28 → j ≠ 30 → τ' 135 j = τ 135 j) ∧ ∀ j, j < 800 + z → τ' 150 j = τ 150 j ∧ τ' 151 j = τ 151 j
theorem tx_rs.rf {τ : ix_St} {z : Nat} : tx_rs τ τ z := ⟨fun _ _ _ _ _ => rfl, fun _ _ _ _ => rfl, fun _ _ => ⟨rfl, rfl⟩⟩
theorem tx_rs.tr {τ τ1 τ2 : ix_St} {z z1 : Nat} (hz : z ≤ z1) (h : tx_rs τ τ1 z) (h2 : tx_rs τ1 τ2 z1) : tx_rs τ τ2 z := ⟨fun y a b c d => (h2.1 y a b c d).trans (h.1 y a b c d), fun j a b c => (h2.2.1 j a b c).trans (h.2.1 j a b c), fun j hj => ⟨(h2.2.2 j (by omega)).1.trans (h.2.2 j hj).1, (h2.2.2 j (by omega)).2.trans (h.2.2 j hj).2⟩⟩
theorem tx_rs.J {k n a t z : Nat} {c : Nat → Nat} {σ τ τ' : ix_St} (h : tx_rs τ τ' z) (hJ : tx_J k c t n a σ τ) : tx_J k c t n a σ τ' := hJ.cg (fun _ _ _ _ => rfl) (h.1 143 (by omega) (by omega) (by omega) (by omega)) (h.1 144 (by omega) (by omega) (by omega) (by omega)) (fun j j1 j2 => h.2.1 j (by omega) (by omega) (by omega))
theorem tx_rs.ld {τ τ' : ix_St} {z : Nat} (h : tx_rs τ τ' z) : tx_ld τ τ' := ⟨h.1, fun j hj => h.2.1 j (by omega) (by omega) (by omega), fun j hj => h.2.2 j (by omega)⟩
theorem tx_rs.lz {σ τ τ' : ix_St} {z : Nat} (h : tx_rs τ τ' z) : tx_lz σ σ τ τ' z := fun j hj => ⟨rfl, (h.2.2 (800 + j) (by omega)).1, (h.2.2 (800 + j) (by omega)).2⟩
/-- all three frames -/
def tx_fc (σ σ' τ τ' : ix_St) (z : Nat) : Prop := tx_la σ σ' ∧ tx_ld τ τ' ∧ tx_lz σ σ' τ τ' z
theorem tx_fc.rf {σ τ : ix_St} {z : Nat} : tx_fc σ σ τ τ z := ⟨tx_la.rf, tx_ld.rf, tx_lz.rf⟩
theorem tx_fc.tr {σ σ1 σ2 τ τ1 τ2 : ix_St} {z z1 : Nat} (hz : z ≤ z1) (h : tx_fc σ σ1 τ τ1 z) (h2 : tx_fc σ1 σ2 τ1 τ2 z1) : tx_fc σ σ2 τ τ2 z := ⟨h.1.tr h2.1, h.2.1.tr h2.2.1, h.2.2.tr hz h2.2.2⟩
theorem tx_rs.fc {σ τ τ' : ix_St} {z : Nat} (h : tx_rs τ τ' z) : tx_fc σ σ τ τ' z := ⟨tx_la.rf, h.ld, h.lz⟩
theorem tx_fa.fc {σ σ' τ τ' : ix_St} {z : Nat} (h : tx_fa σ σ') (h2 : tx_fb τ τ') : tx_fc σ σ' τ τ' z := ⟨h.la, h2.lb.ld, tx_lz.ab h h2⟩
/-- waits -/
theorem r_wait {d : Bool} {τ : ix_St} {S : List Int32} {o : Nat} (h : tx_pd τ S o) (hS : S.length < 40) (w : Int32) (z : Nat) : ∃ τ', ix_F 278 [.ref 135, .int w] (ix_S0 d, τ) = some (.null, (ix_S0 d, τ')) ∧ tx_pd τ' (w :: S) o ∧ tx_rs τ τ' z ∧ (∀ j, j ≠ 30 → τ' 135 j = τ 135 j) ∧ τ' 150 = τ 150 ∧ τ' 151 = τ 151 := by
  obtain ⟨h1, h2, h3⟩ := h
  refine ⟨ix_up (ix_up τ 152 S.length w) 135 30 (nI (S.length + 1)), ?_, ⟨tx_us, ?_, ?_, ?_⟩, ⟨fun y y1 y2 y3 y4 => ?_, fun j _ _ hj => ?_, fun j _ => ⟨?_, ?_⟩⟩, fun j hj => ?_, ?_, ?_⟩
  · rw [q_M_waits_0, h1, nI_clamp (by omega), if_neg (tx_in hS (by omega)), nI_1]
  · rw [tx_un (by omega), iv_upn (by omega)]; exact h2
  · rw [iv_upn (by omega), tx_us]
  · rw [iv_upn (by omega)]
    exact tx_pk_cg S (fun j hj => tx_un (by omega)) h3
  · rw [iv_upn y1, iv_upn y4]
  · rw [tx_un hj, iv_upn (by omega)]
  · rw [iv_upn (by omega), iv_upn (by omega)]
  · rw [iv_upn (by omega), iv_upn (by omega)]
  · rw [tx_un hj, iv_upn (by omega)]
  · rw [iv_upn (by omega), iv_upn (by omega)]
  · rw [iv_upn (by omega), iv_upn (by omega)]
theorem r_emits {d : Bool} {τ : ix_St} {z : Nat} (hz : z < 400) (h : τ 135 27 = nI z) (w : Int32) : ix_F 277 [.ref 135, .int w, .int 0] (ix_S0 d, τ) = some (.null, (ix_S0 d, ix_up (ix_up (ix_up τ 150 (800 + z) w) 151 (800 + z) 0) 135 27 (nI (z + 1)))) := by
  have e1 : (800 : Int32) + nI z = nI (800 + z) := nI_add 800 z
  have hin : ¬ (nI (800 + z) < 0 ∨ 1200 ≤ 800 + z) := tx_in (by omega) (by omega)
  rw [q_M_emits_0, h, e1, nI_clamp (by omega), if_neg hin, if_neg hin, nI_1]
/-- settles: m of them on top -/
theorem r_settle {d : Bool} {w : Int32} {S : List Int32} (hS : S.head? ≠ some w) : ∀ (m z o : Nat) (τ : ix_St), τ 135 27 = nI z → z + m ≤ 400 → m + S.length ≤ 40 → (w = 9 → m ≤ o) → tx_pd τ (List.replicate m w ++ S) o →
    ∃ τ', ix_F 280 [.ref 135, .int w] (ix_S0 d, τ) = some (.null, (ix_S0 d, τ')) ∧ tx_pd τ' S (if w = 9 then o - m else o) ∧ τ' 135 27 = nI (z + m) ∧ (∀ j, z ≤ j → j < z + m → τ' 150 (800 + j) = w ∧ τ' 151 (800 + j) = 0) ∧ tx_rs τ τ' z
  | 0, z, o, τ, h27, hz, hl, ho, hp => by
    have hp' : tx_pd τ S o := hp
    refine ⟨τ, ?_, ?_, h27, fun j h1 h2 => absurd h2 (by omega), tx_rs.rf⟩
    · rw [q_M_settles_0]
      cases S with
      | nil =>
        have h1 : τ 135 30 = 0 := hp'.1
        rw [if_pos (by rw [h1]; decide)]
      | cons x S1 =>
        have h1 : τ 135 30 = nI (S1.length + 1) := hp'.1
        have h2 : τ 152 S1.length = x := hp'.2.2.1
        have hl' : 0 + (S1.length + 1) ≤ 40 := hl
        have hx : ¬ x = w := fun q => hS (by rw [q]; rfl)
        rw [h1, if_neg (nI_nle (by omega) (by omega)), nI_pred, nI_clamp (by omega), if_neg (tx_in (by omega) (by omega)), if_neg (by rw [h2]; exact hx)]
    · by_cases e : w = 9
      · rw [if_pos e]; exact hp'
      · rw [if_neg e]; exact hp'
  | m + 1, z, o, τ, h27, hz, hl, ho, hp => by
    have hp' : tx_pd τ (w :: (List.replicate m w ++ S)) o := hp
    have hlen : (List.replicate m w ++ S).length = m + S.length := by rw [List.length_append, List.length_replicate]
    obtain ⟨p1, p2⟩ := hp'.pop
    have h1 : τ 135 30 = nI ((List.replicate m w ++ S).length + 1) := hp'.1
    have h2 : τ 152 (List.replicate m w ++ S).length = w := hp'.2.2.1
    have h27' : ix_up τ 135 30 (nI (List.replicate m w ++ S).length) 135 27 = nI z := by rw [tx_un (by omega)]; exact h27
    have hem := r_emits (d := d) (by omega) h27' w
    have hq : ix_F 280 [.ref 135, .int w] (ix_S0 d, τ) = (if w = 9 then ix_F 280 [.ref 135, .int w] (ix_S0 d, ix_up (ix_up (ix_up (ix_up (ix_up τ 135 30 (nI (List.replicate m w ++ S).length)) 150 (800 + z) w) 151 (800 + z) 0) 135 27 (nI (z + 1))) 135 28 (nI (o - 1))) else ix_F 280 [.ref 135, .int w] (ix_S0 d, ix_up (ix_up (ix_up (ix_up τ 135 30 (nI (List.replicate m w ++ S).length)) 150 (800 + z) w) 151 (800 + z) 0) 135 27 (nI (z + 1)))) := by
      rw [q_M_settles_0, p1, if_neg (by rw [h1]; exact nI_nle (by omega) (by omega)), nI_clamp (by omega), if_neg (tx_in (by omega) (by omega)), if_pos h2, hem]
      simp only [Option.bind_some]
      by_cases e : w = 9
      · have ho1 := ho e
        have h28 : ix_up (ix_up (ix_up (ix_up τ 135 30 (nI (List.replicate m w ++ S).length)) 150 (800 + z) w) 151 (800 + z) 0) 135 27 (nI (z + 1)) 135 28 = nI (o - 1 + 1) := by
          rw [tx_un (by omega), iv_upn (by omega), iv_upn (by omega), tx_un (by omega), show o - 1 + 1 = o by omega]
          exact hp'.2.1
        rw [if_pos e, if_pos e, h28, nI_pred]
        rfl
      · rw [if_neg e, if_neg e]
        rfl
    rw [hq]
    by_cases e : w = 9
    · have ho1 := ho e
      rw [if_pos e]
      obtain ⟨τ', r1, r2, r3, r4, r5⟩ := r_settle (d := d) hS m (z + 1) (o - 1) (ix_up (ix_up (ix_up (ix_up (ix_up τ 135 30 (nI (List.replicate m w ++ S).length)) 150 (800 + z) w) 151 (800 + z) 0) 135 27 (nI (z + 1))) 135 28 (nI (o - 1))) (by rw [tx_un (by omega), tx_us]) (by omega) (by omega) (fun _ => by omega) (by
        refine tx_pd.op (o := o) (p2.cg ?_ ?_ ?_) (o - 1)
        · rw [tx_un (by omega), iv_upn (by omega), iv_upn (by omega)]
        · rw [tx_un (by omega), iv_upn (by omega), iv_upn (by omega)]
        · rw [iv_upn (by omega), iv_upn (by omega), iv_upn (by omega)])
      refine ⟨τ', r1, ?_, ?_, fun j j1 j2 => ?_, ?_⟩
      · rw [if_pos e] at r2 ⊢
        rw [show o - (m + 1) = o - 1 - m by omega]
        exact r2
      · rw [r3]; congr 1; omega
      · by_cases ej : j = z
        · rw [ej]
          refine ⟨(r5.2.2 (800 + z) (by omega)).1.trans ?_, (r5.2.2 (800 + z) (by omega)).2.trans ?_⟩
          · rw [iv_upn (by omega), iv_upn (by omega), iv_upn (by omega), tx_us]
          · rw [iv_upn (by omega), iv_upn (by omega), tx_us]
        · exact r4 j (by omega) (by omega)
      · refine tx_rs.tr (by omega) ?_ r5
        refine ⟨fun y y1 y2 y3 y4 => ?_, fun j j1 j2 j3 => ?_, fun j hj => ⟨?_, ?_⟩⟩
        · rw [iv_upn y1, iv_upn y1, iv_upn y3, iv_upn y2, iv_upn y1]
        · rw [tx_un j2, tx_un j1, iv_upn (by omega), iv_upn (by omega), tx_un j3]
        · rw [iv_upn (by omega), iv_upn (by omega), iv_upn (by omega), tx_un (by omega), iv_upn (by omega)]
        · rw [iv_upn (by omega), iv_upn (by omega), tx_un (by omega), iv_upn (by omega), iv_upn (by omega)]
    · rw [if_neg e]
      obtain ⟨τ', r1, r2, r3, r4, r5⟩ := r_settle (d := d) hS m (z + 1) o (ix_up (ix_up (ix_up (ix_up τ 135 30 (nI (List.replicate m w ++ S).length)) 150 (800 + z) w) 151 (800 + z) 0) 135 27 (nI (z + 1))) (by rw [tx_us]) (by omega) (by omega) (fun q => absurd q e) (by
        refine p2.cg ?_ ?_ ?_
        · rw [tx_un (by omega), iv_upn (by omega), iv_upn (by omega)]
        · rw [tx_un (by omega), iv_upn (by omega), iv_upn (by omega)]
        · rw [iv_upn (by omega), iv_upn (by omega), iv_upn (by omega)])
      refine ⟨τ', r1, ?_, ?_, fun j j1 j2 => ?_, ?_⟩
      · rw [if_neg e] at r2 ⊢
        exact r2
      · rw [r3]; congr 1; omega
      · by_cases ej : j = z
        · rw [ej]
          refine ⟨(r5.2.2 (800 + z) (by omega)).1.trans ?_, (r5.2.2 (800 + z) (by omega)).2.trans ?_⟩
          · rw [iv_upn (by omega), iv_upn (by omega), tx_us]
          · rw [iv_upn (by omega), tx_us]
        · exact r4 j (by omega) (by omega)
      · refine tx_rs.tr (by omega) ?_ r5
        refine ⟨fun y y1 y2 y3 y4 => ?_, fun j j1 j2 j3 => ?_, fun j hj => ⟨?_, ?_⟩⟩
        · rw [iv_upn y1, iv_upn y3, iv_upn y2, iv_upn y1]
        · rw [tx_un j1, iv_upn (by omega), iv_upn (by omega), tx_un j3]
        · rw [iv_upn (by omega), iv_upn (by omega), tx_un (by omega), iv_upn (by omega)]
        · rw [iv_upn (by omega), tx_un (by omega), iv_upn (by omega), iv_upn (by omega)]
/-- the reference has settled: m codes more than the class -/
theorem tx_cd.st {σ τ τ' : ix_St} {z0 z m : Nat} {w : Int32} {T out : List Nat} (h : tx_cd σ τ z0 z T out) (hz : z + m ≤ 400) (h1 : τ' 135 27 = nI (z + m)) (h2 : ∀ j, z ≤ j → j < z + m → τ' 150 (800 + j) = w ∧ τ' 151 (800 + j) = 0) (h3 : tx_rs τ τ' z) : tx_cn σ τ' z0 z m w T out := by
  obtain ⟨g1, g2, g3, g4⟩ := h
  refine ⟨⟨g1.1, hz⟩, ⟨g2.1, h1⟩, fun j hj => ?_, ?_, h2⟩
  · rw [(h3.2.2 (800 + j) (by omega)).1, (h3.2.2 (800 + j) (by omega)).2]
    exact g3 j hj
  · exact tx_run_cg (z - z0) z0 T out (fun j j1 j2 => h3.2.2 (800 + j) (by omega)) g4
/-- the class adds one of them -/
theorem c_emit {b : Bool} {k n a t z0 z m : Nat} {c : Nat → Nat} {σ τ : ix_St} {kind w : Int32} {T out u : List Nat} (h : tx_J k c t n a σ τ) (hc : tx_cn σ τ z0 z (m + 1) w T out) (he : iv_enc (((0 : Int32) <<< ((6 : Int32) &&& 31)) ||| kind) w 0) (ht : iv_ts out w 0 = some u) (hu : u.length ≤ 32) : ∃ σ', ix_F 61 [.ref 107, .int kind, .int 0] (ix_S0 b, σ) = some (.null, (ix_S0 b, σ')) ∧ tx_J k c t n a σ' τ ∧ tx_cn σ' τ z0 (z + 1) m w T u ∧ tx_fc σ σ' τ τ z ∧ σ' 100 = σ 100 := by
  obtain ⟨⟨g1, g2⟩, ⟨g3, g4⟩, g5, g6, g7⟩ := hc
  obtain ⟨w1, w2⟩ := g7 z (Nat.le_refl _) (by omega)
  refine ⟨ix_up (ix_up σ 108 z (((0 : Int32) <<< ((6 : Int32) &&& 31)) ||| kind)) 107 8 (nI (z + 1)), ?_, ?_, ⟨⟨by omega, by omega⟩, ⟨tx_us, ?_⟩, fun j hj => ?_, ?_, fun j j1 j2 => g7 j (by omega) (by omega)⟩, ⟨⟨fun y y1 y2 y3 y4 => ?_, fun j _ _ => ?_, fun j hj => ?_⟩, tx_ld.rf, fun j hj => ⟨?_, rfl, rfl⟩⟩, ?_⟩
  · rw [q_Law_add_0, g3, if_neg (show ¬ (400 : Int32) ≤ nI z from nI_ge (b := 400) (by omega) (by omega)), nI_clamp (by omega), if_neg (tx_in (by omega) (by omega)), nI_1]
  · refine h.cg (fun y y1 y2 _ => ?_) rfl rfl (fun j _ _ => rfl)
    rw [iv_upn (by omega), iv_upn (by omega)]
  · rw [g4]; congr 1; omega
  · rw [iv_upn (by omega)]
    by_cases ej : j = z
    · rw [ej, tx_us, w1, w2]; exact he
    · rw [tx_un ej]
      exact g5 j (by omega)
  · rw [show z + 1 - z0 = z - z0 + 1 by omega]
    refine tx_run_app (z - z0) z0 T out u g6 ?_ hu
    rw [show z0 + (z - z0) = z by omega, w1, w2]
    exact ht
  · rw [iv_upn y3, iv_upn y4]
  · rw [iv_upn (by omega), iv_upn (by omega)]
  · rw [tx_un hj, iv_upn (by omega)]
  · rw [iv_upn (by omega), tx_un (by omega)]
  · rw [iv_upn (by omega), iv_upn (by omega)]
