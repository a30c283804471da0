theorem ix_popI_s {st : List Value} {k : Int32 → List Value → ix_R} {x : Value × ix_H} (h : ix_popI st k = some x) : ∃ y r, st = .int y :: r ∧ k y r = some x := by
  rcases st with _ | ⟨v, r⟩
  · cases h
  · cases v <;> first | exact ⟨_, _, rfl, h⟩ | cases h
theorem ix_popR_s {st : List Value} {k : Nat → List Value → ix_R} {x : Value × ix_H} (h : ix_popR st k = some x) : ∃ y r, st = .ref y :: r ∧ k y r = some x := by
  rcases st with _ | ⟨v, r⟩
  · cases h
  · cases v <;> first | exact ⟨_, _, rfl, h⟩ | cases h
theorem ix_bif_s {b : Bool} {f : ix_R} {x : Value × ix_H} (h : (bif b then f else none) = some x) : b = true ∧ f = some x := by
  cases b
  · cases h
  · exact ⟨rfl, h⟩
theorem ix_if_s {c : Prop} [Decidable c] {f : ix_R} {x : Value × ix_H} (h : (if c then f else none) = some x) : c ∧ f = some x := by
  split at h
  · rename_i hc; exact ⟨hc, h⟩
  · cases h
theorem ix_beq {a b : Nat} (h : Nat.beq a b = true) : a = b := Nat.eq_of_beq_eq_true h
theorem ix_sh_s {h : ix_H} {r : Nat} {sh : ix_Sh} (hs : ix_sh h r = some sh) : (r < 1000 ∧ ix_n h.1 r = some sh) ∨ ∃ i, r = 1000 + i ∧ ix_n (ix_xs h.2) i = some sh := by
  unfold ix_sh at hs
  cases hb : Nat.blt r 1000 with
  | true =>
    rw [hb] at hs
    exact Or.inl ⟨Nat.le_of_ble_eq_true hb, hs⟩
  | false =>
    rw [hb] at hs
    have : ¬ r < 1000 := fun q => by rw [show Nat.blt r 1000 = true from Nat.ble_eq_true_of_le q] at hb; cases hb
    simp only [cond_false] at hs
    exact Or.inr ⟨r - 1000, by omega, hs⟩
theorem ix_own_s {h : ix_H} {r k : Nat} {f : Nat → ix_R} {x : Value × ix_H} (hx : ix_own h r k f = some x) : ∃ n sl, ix_n h.1 r = some (k, n, sl) ∧ f n = some x := by
  unfold ix_own at hx
  rcases hq : ix_n h.1 r with _ | ⟨q, n, sl⟩
  · rw [hq] at hx; cases hx
  · rw [hq] at hx
    obtain ⟨h1, h2⟩ := ix_bif_s hx
    cases ix_beq h1
    exact ⟨n, sl, rfl, h2⟩
theorem ix_arr_s {h : ix_H} {r k : Nat} {f : Nat → ix_R} {x : Value × ix_H} (hx : ix_arr h r k f = some x) : ∃ q n sl, ix_sh h r = some (q, n, sl) ∧ (q = k ∨ q = k + 10) ∧ f n = some x := by
  unfold ix_arr at hx
  rcases hq : ix_sh h r with _ | ⟨q, n, sl⟩
  · rw [hq] at hx; cases hx
  · rw [hq] at hx
    obtain ⟨h1, h2⟩ := ix_bif_s hx
    refine ⟨q, n, sl, rfl, ?_, h2⟩
    rcases Bool.or_eq_true_iff.mp h1 with h3 | h3
    · exact Or.inl (ix_beq h3)
    · exact Or.inr (ix_beq h3)
theorem ix_isA_s {h : ix_H} {r ci : Nat} (hx : ix_isA h r ci = true) : (∃ sl, ix_sh h r = some (0, ci, sl)) ∨ (ci = 99 ∧ ∃ n sl, ix_sh h r = some (14, n, sl)) := by
  unfold ix_isA at hx
  rcases hq : ix_sh h r with _ | ⟨q, n, sl⟩
  · rw [hq] at hx; cases hx
  · rw [hq] at hx
    rcases Bool.or_eq_true_iff.mp hx with h3 | h3
    · obtain ⟨h4, h5⟩ := Bool.and_eq_true_iff.mp h3
      cases ix_beq h4
      cases ix_beq h5
      exact Or.inl ⟨sl, rfl⟩
    · obtain ⟨h4, h5⟩ := Bool.and_eq_true_iff.mp h3
      cases ix_beq h4
      exact Or.inr ⟨ix_beq h5, n, sl, rfl⟩
theorem ix_get_s {h : ix_H} {r ci k : Nat} {f : Value → ix_R} {x : Value × ix_H} (hx : ix_get h r ci k f = some x) :
    (∃ sl, ix_sh h r = some (0, ci, sl) ∧ ((ix_n sl k = some none ∧ f (.int (h.2 r k)) = some x) ∨ ∃ a, ix_n sl k = some (some (some a)) ∧ f (.ref a) = some x)) ∨
    (ci = 99 ∧ ∃ n sl, ix_sh h r = some (14, n, sl) ∧ ((k = 0 ∧ f (.ref (1007 + n)) = some x) ∨ (k ≠ 0 ∧ f (.int 0) = some x))) := by
  unfold ix_get at hx
  rcases hq : ix_sh h r with _ | ⟨q, n, sl⟩
  · rw [hq] at hx; cases hx
  · rw [hq] at hx
    dsimp only at hx
    cases hb : (Nat.beq q 0 && Nat.beq n ci) with
    | true =>
      rw [hb] at hx
      obtain ⟨h4, h5⟩ := Bool.and_eq_true_iff.mp hb
      cases ix_beq h4
      cases ix_beq h5
      refine Or.inl ⟨sl, rfl, ?_⟩
      rcases hk : ix_n sl k with _ | _ | _ | a
      · rw [hk] at hx; cases hx
      · rw [hk] at hx; exact Or.inl ⟨rfl, hx⟩
      · rw [hk] at hx; cases hx
      · rw [hk] at hx; exact Or.inr ⟨a, rfl, hx⟩
    | false =>
      rw [hb] at hx
      obtain ⟨h1, h2⟩ := ix_bif_s hx
      obtain ⟨h4, h5⟩ := Bool.and_eq_true_iff.mp h1
      cases ix_beq h4
      refine Or.inr ⟨ix_beq h5, n, sl, rfl, ?_⟩
      cases k with
      | zero => exact Or.inl ⟨rfl, h2⟩
      | succ k => exact Or.inr ⟨Nat.succ_ne_zero k, h2⟩
theorem ix_put_s {h : ix_H} {r ci k b : Nat} {v : Value} {f : ix_H → ix_R} {x : Value × ix_H} (hx : ix_put h r ci k b v f = some x) : ∃ sl, ix_n h.1 r = some (0, ci, sl) ∧
    ((∃ y, v = .int y ∧ ix_n sl k = some none ∧ (b = 0 ∨ (b = 1 ∧ (y = 0 ∨ y = 1))) ∧ f (h.1, ix_up h.2 r k y) = some x) ∨ ∃ a o, v = .ref a ∧ b = 2 ∧ ix_n sl k = some (some o) ∧ f (h.1.set r (0, ci, sl.set k (some (some a))), h.2) = some x) := by
  unfold ix_put at hx
  rcases hq : ix_n h.1 r with _ | ⟨q, n, sl⟩
  · rw [hq] at hx; cases hx
  · rw [hq] at hx
    obtain ⟨h1, h2⟩ := ix_bif_s hx
    obtain ⟨h4, h5⟩ := Bool.and_eq_true_iff.mp h1
    cases ix_beq h4
    cases ix_beq h5
    refine ⟨sl, rfl, ?_⟩
    rcases hk : ix_n sl k with _ | _ | o <;> rw [hk] at h2 <;> rcases b with _ | _ | _ | b <;> cases v <;> first
      | (cases h2; done)
      | exact Or.inl ⟨_, rfl, rfl, Or.inl rfl, h2⟩
      | exact Or.inr ⟨_, _, rfl, rfl, rfl, h2⟩
      | (obtain ⟨hc, h3⟩ := ix_if_s h2
         exact Or.inl ⟨_, rfl, rfl, Or.inr ⟨rfl, hc⟩, h3⟩)
theorem ix_ch_s {i : Nat} {k : Nat → ix_R} {x : Value × ix_H} : ∀ (sl : List (Option (Option Nat))) (j : Nat), ix_ch sl j i k = some x → ∃ a, j ≤ i ∧ ix_n sl (i - j) = some (some (some a)) ∧ k a = some x
  | [], _, h => by cases h
  | none :: _, _, h => by cases h
  | some none :: _, _, h => by cases h
  | some (some a) :: l, j, h => by
    unfold ix_ch at h
    split at h
    · rename_i hc
      subst hc
      exact ⟨a, Nat.le_refl _, by simp [ix_n], h⟩
    · rename_i hc
      obtain ⟨b, h1, h2, h3⟩ := ix_ch_s l (j + 1) h
      refine ⟨b, by omega, ?_, h3⟩
      rw [show i - j = (i - (j + 1)) + 1 by omega]
      exact h2
theorem ix_sw_s {d x : Int} {k : Int → ix_R} {y : Value × ix_H} : ∀ (os : List Int) (j : Int), ix_sw os j d x k = some y → ((x < j ∨ j + os.length ≤ x) ∧ k d = some y) ∨ ∃ o, j ≤ x ∧ x < j + os.length ∧ os[(x - j).toNat]? = some o ∧ k o = some y
  | [], j, h => Or.inl ⟨by simp only [List.length_nil]; omega, h⟩
  | o :: os, j, h => by
    unfold ix_sw at h
    split at h
    · rename_i hc
      subst hc
      exact Or.inr ⟨o, by omega, by simp only [List.length_cons]; omega, by simp, h⟩
    · rename_i hc
      rcases ix_sw_s os (j + 1) h with ⟨h1, h2⟩ | ⟨o', h1, h2, h3, h4⟩
      · exact Or.inl ⟨by simp only [List.length_cons]; omega, h2⟩
      · refine Or.inr ⟨o', by omega, by simp only [List.length_cons]; omega, ?_, h4⟩
        rw [show (x - j).toNat = (x - (j + 1)).toNat + 1 by omega]
        exact h3
theorem ix_lk_s {d x : Int} {k : Int → ix_R} {y : Value × ix_H} : ∀ (os : List (Int × Int)), ix_lk os d x k = some y → k (Op.lookupswitch.offset os d x) = some y
  | [], h => h
  | o :: os, h => by
    unfold ix_lk at h
    rw [show o :: os = (o.1, o.2) :: os from rfl, Op.lookupswitch.offset_cons]
    split at h
    · rename_i hc
      rw [if_pos hc.symm]
      exact h
    · rename_i hc
      rw [if_neg (fun q => hc q.symm)]
      exact ix_lk_s os h
theorem ix_lk_in {d x : Int} : ∀ (os : List (Int × Int)), Op.lookupswitch.offset os d x = d ∨ ∃ o ∈ os, Op.lookupswitch.offset os d x = o.2
  | [] => Or.inl rfl
  | o :: os => by
    rw [show o :: os = (o.1, o.2) :: os from rfl, Op.lookupswitch.offset_cons]
    split
    · exact Or.inr ⟨o, List.mem_cons_self, rfl⟩
    · rcases ix_lk_in (d := d) (x := x) os with h | ⟨q, h1, h2⟩
      · exact Or.inl h
      · exact Or.inr ⟨q, List.mem_cons_of_mem _ h1, h2⟩
theorem ix_new_s {h : ix_H} {sh : ix_Sh} {k : Nat → ix_H → ix_R} {x : Value × ix_H} (hx : ix_new h sh k = some x) : h.1.length < 900 ∧ k h.1.length (h.1 ++ [sh], ix_row h.2 h.1.length (fun _ => 0)) = some x := by
  unfold ix_new at hx
  obtain ⟨h1, h2⟩ := ix_bif_s hx
  exact ⟨Nat.le_of_ble_eq_true h1, h2⟩
theorem ix_popN_s : ∀ (n : Nat) (acc st as st' : List Value), ix_popN n acc st = some (as, st') → ∃ ys, ys.length = n ∧ st = ys ++ st' ∧ as = ys.reverse ++ acc
  | 0, acc, st, as, st', h => by
    cases h
    exact ⟨[], rfl, rfl, rfl⟩
  | n + 1, acc, [], as, st', h => by cases h
  | n + 1, acc, v :: st, as, st', h => by
    obtain ⟨ys, h1, h2, h3⟩ := ix_popN_s n (v :: acc) st as st' h
    exact ⟨v :: ys, by simp [h1], by rw [h2]; rfl, by rw [h3]; simp⟩
theorem ix_call_s {cl : ix_CL} {nx : ix_NX} {ls : ix_L} {st : List Value} {h : ix_H} {a b c : Nat} {x : Value × ix_H} (hx : ix_call (ix_D0 cl) nx ls st h a b c = some x) : ∃ as st' y, as.length = b ∧ st = as.reverse ++ st' ∧ st'.length ≤ 8 ∧ cl a as h = some y ∧ nx ls (bif Nat.beq c 0 then st' else y.1 :: st') y.2 = some x := by
  unfold ix_call at hx
  rcases hq : ix_popN b [] st with _ | ⟨as, st'⟩
  · rw [hq] at hx; cases hx
  · rw [hq] at hx
    obtain ⟨h1, h2⟩ := ix_bif_s hx
    obtain ⟨ys, g1, g2, g3⟩ := ix_popN_s _ _ _ _ _ hq
    obtain ⟨y, h3, h4⟩ := Option.bind_eq_some_iff.mp h2
    rw [List.append_nil] at g3
    exact ⟨as, st', y, by rw [g3]; simp [g1], by rw [g3]; simp [g2], Nat.le_of_ble_eq_true h1, h3, h4⟩
theorem ix_recv_s {h : ix_H} {b d : Nat} {st : List Value} {k : ix_R} {x : Value × ix_H} (hx : ix_recv h b d st k = some x) : ∃ r, ix_n st (b - 1) = some (.ref r) ∧ ix_isA h r d = true ∧ k = some x := by
  unfold ix_recv at hx
  rcases hq : ix_n st (b - 1) with _ | v
  · rw [hq] at hx; cases hx
  · rw [hq] at hx
    cases v <;> first | (cases hx; done) | skip
    obtain ⟨h1, h2⟩ := ix_bif_s hx
    exact ⟨_, rfl, h1, h2⟩
theorem ix_nar_s {t : Nat} {y : Int32} {k : ix_R} {x : Value × ix_H} (hx : ix_nar t y k = some x) : k = some x ∧ (t = 0 ∨ (t = 1 ∧ (y = 0 ∨ y = 1)) ∨ (t = 2 ∧ y.toInt8.toInt32 = y) ∨ (3 ≤ t ∧ (y.toUInt32 % 65536).toInt32 = y)) := by
  rcases t with _ | _ | _ | t
  · exact ⟨hx, Or.inl rfl⟩
  · obtain ⟨hc, h3⟩ := ix_if_s hx
    exact ⟨h3, Or.inr (Or.inl ⟨rfl, hc⟩)⟩
  · obtain ⟨hc, h3⟩ := ix_if_s hx
    exact ⟨h3, Or.inr (Or.inr (Or.inl ⟨rfl, hc⟩))⟩
  · obtain ⟨hc, h3⟩ := ix_if_s hx
    exact ⟨h3, Or.inr (Or.inr (Or.inr ⟨by omega, hc⟩))⟩
theorem ix_nar_ok {t : Nat} {y : Int32} (h : t = 0 ∨ (t = 1 ∧ (y = 0 ∨ y = 1)) ∨ (t = 2 ∧ y.toInt8.toInt32 = y) ∨ (3 ≤ t ∧ (y.toUInt32 % 65536).toInt32 = y)) {ty : FieldType} (hty : (t = 0 ∧ ty = .int) ∨ (t = 1 ∧ ty = .boolean) ∨ (t = 2 ∧ ty = .byte) ∨ (t = 3 ∧ ty = .char)) : narrow ty (.int y) = .int y := by
  rcases hty with ⟨rfl, rfl⟩ | ⟨rfl, rfl⟩ | ⟨rfl, rfl⟩ | ⟨rfl, rfl⟩
  · rfl
  · rcases h with h | ⟨-, h⟩ | ⟨h, -⟩ | ⟨h, -⟩
    · cases h
    · rcases h with rfl | rfl <;> rfl
    · cases h
    · omega
  · rcases h with h | ⟨h, -⟩ | ⟨-, h⟩ | ⟨h, -⟩
    · cases h
    · cases h
    · rw [← h]; exact pk_nb y
    · omega
  · rcases h with h | ⟨h, -⟩ | ⟨h, -⟩ | ⟨-, h⟩
    · cases h
    · cases h
    · cases h
    · rw [← h]; exact pk_nc y
