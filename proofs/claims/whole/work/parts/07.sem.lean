abbrev ix_CL : Type := Nat → List Value → ix_H → ix_R
abbrev ix_NX : Type := ix_L → List Value → ix_H → ix_R
abbrev ix_JP : Type := Nat → ix_L → List Value → ix_H → ix_R
/-- how many slots the cells have -/
def ix_sz : List ix_Sh → Nat
  | [] => 0
  | s :: l => (bif Nat.beq s.1 0 then (ix_kinds s.2.1).length else s.2.1) + ix_sz l
theorem ix_sz_app (l : List ix_Sh) (s : ix_Sh) : ix_sz (l ++ [s]) = ix_sz l + (bif Nat.beq s.1 0 then (ix_kinds s.2.1).length else s.2.1) := by
  induction l with
  | nil => simp [ix_sz]
  | cons a l ih => simp only [List.cons_append, ix_sz, ih]; omega
theorem ix_sz_set : ∀ (l : List ix_Sh) (r : Nat) (q n : Nat) (sl sl' : List (Option (Option Nat))), ix_n l r = some (q, n, sl) → ix_sz (l.set r (q, n, sl')) = ix_sz l
  | [], _, _, _, _, _, h => by simp [ix_n] at h
  | a :: l, 0, q, n, sl, sl', h => by
    simp only [ix_n, Option.some.injEq] at h
    subst h
    rfl
  | a :: l, r + 1, q, n, sl, sl', h => by
    have := ix_sz_set l r q n sl sl' h
    simp only [List.set_cons_succ, ix_sz, this]
/-- cells are only added -/
def ix_P (S : List ix_Sh) (h : ix_H) : Prop := S.length ≤ h.1.length ∧ ix_sz S ≤ ix_sz h.1
theorem ix_P.rf {S : List ix_Sh} {σ : ix_St} : ix_P S (S, σ) := ⟨Nat.le_refl _, Nat.le_refl _⟩
theorem ix_P.tr {S : List ix_Sh} {h h' : ix_H} (a : ix_P S h) (b : ix_P h.1 h') : ix_P S h' := ⟨Nat.le_trans a.1 b.1, Nat.le_trans a.2 b.2⟩
/-- what an instruction can do: end, go on, jump, or call and go on -/
def ix_G (S : List ix_Sh) (F : ix_CL → ix_NX → ix_JP → ix_R) : Prop :=
  (∃ x, (∀ y, x = some y → ix_P S y.2) ∧ ∀ cl nx jp, F cl nx jp = x) ∨ (∃ ls st h, ix_P S h ∧ ∀ cl nx jp, F cl nx jp = nx ls st h) ∨ (∃ t ls st h, ix_P S h ∧ ∀ cl nx jp, F cl nx jp = jp t ls st h) ∨
  ∃ (a : Nat) (as : List Value) (h : ix_H) (ls : ix_L) (f : Value × ix_H → List Value), ix_P S h ∧ ∀ cl nx jp, F cl nx jp = (cl a as h).bind (fun x => nx ls (f x) x.2)
section G
variable {S : List ix_Sh}
theorem ix_G_0 : ix_G S (fun _ _ _ => none) := Or.inl ⟨none, (fun _ h => by cases h), fun _ _ _ => rfl⟩
theorem ix_G_c {v : Value} {h : ix_H} (hp : ix_P S h) : ix_G S (fun _ _ _ => some (v, h)) := Or.inl ⟨some (v, h), (fun _ e => by cases e; exact hp), fun _ _ _ => rfl⟩
theorem ix_G_n {h : ix_H} (hp : ix_P S h) (ls st) : ix_G S (fun _ nx _ => nx ls st h) := Or.inr (Or.inl ⟨ls, st, h, hp, fun _ _ _ => rfl⟩)
theorem ix_G_m {h : ix_H} (hp : ix_P S h) (σ' : ix_St) (ls st) : ix_G S (fun _ nx _ => nx ls st (h.1, σ')) := Or.inr (Or.inl ⟨ls, st, (h.1, σ'), hp, fun _ _ _ => rfl⟩)
theorem ix_G_j {h : ix_H} (hp : ix_P S h) (t ls st) : ix_G S (fun _ _ jp => jp t ls st h) := Or.inr (Or.inr (Or.inl ⟨t, ls, st, h, hp, fun _ _ _ => rfl⟩))
theorem ix_G_if {c : Prop} [Decidable c] {F G : ix_CL → ix_NX → ix_JP → ix_R} (hF : ix_G S F) (hG : ix_G S G) : ix_G S (fun cl nx jp => if c then F cl nx jp else G cl nx jp) := by
  by_cases h : c
  · simp only [if_pos h]; exact hF
  · simp only [if_neg h]; exact hG
theorem ix_G_bif {c : Bool} {F G : ix_CL → ix_NX → ix_JP → ix_R} (hF : ix_G S F) (hG : ix_G S G) : ix_G S (fun cl nx jp => bif c then F cl nx jp else G cl nx jp) := by
  cases c
  · exact hG
  · exact hF
theorem ix_G_popI {st : List Value} {k : ix_CL → ix_NX → ix_JP → Int32 → List Value → ix_R} (H : ∀ x r, ix_G S (fun cl nx jp => k cl nx jp x r)) : ix_G S (fun cl nx jp => ix_popI st (k cl nx jp)) := by
  rcases st with _ | ⟨v, r⟩
  · exact ix_G_0
  · cases v <;> first | exact H _ _ | exact ix_G_0
theorem ix_G_popR {st : List Value} {k : ix_CL → ix_NX → ix_JP → Nat → List Value → ix_R} (H : ∀ x r, ix_G S (fun cl nx jp => k cl nx jp x r)) : ix_G S (fun cl nx jp => ix_popR st (k cl nx jp)) := by
  rcases st with _ | ⟨v, r⟩
  · exact ix_G_0
  · cases v <;> first | exact H _ _ | exact ix_G_0
theorem ix_G_arr {h : ix_H} {r q : Nat} {k : ix_CL → ix_NX → ix_JP → Nat → ix_R} (H : ∀ n, ix_G S (fun cl nx jp => k cl nx jp n)) : ix_G S (fun cl nx jp => ix_arr h r q (k cl nx jp)) := by
  unfold ix_arr
  rcases ix_sh h r with _ | ⟨q, n, sl⟩
  · exact ix_G_0
  · exact ix_G_bif (H _) ix_G_0
theorem ix_G_own {h : ix_H} {r q : Nat} {k : ix_CL → ix_NX → ix_JP → Nat → ix_R} (H : ∀ n, ix_G S (fun cl nx jp => k cl nx jp n)) : ix_G S (fun cl nx jp => ix_own h r q (k cl nx jp)) := by
  unfold ix_own
  rcases ix_n h.1 r with _ | ⟨q, n, sl⟩
  · exact ix_G_0
  · exact ix_G_bif (H _) ix_G_0
theorem ix_G_get {h : ix_H} {r ci q : Nat} {k : ix_CL → ix_NX → ix_JP → Value → ix_R} (H : ∀ n, ix_G S (fun cl nx jp => k cl nx jp n)) : ix_G S (fun cl nx jp => ix_get h r ci q (k cl nx jp)) := by
  unfold ix_get
  rcases ix_sh h r with _ | ⟨q', n, sl⟩
  · exact ix_G_0
  · refine ix_G_bif ?_ (ix_G_bif ?_ ix_G_0)
    · rcases ix_n sl q with _ | _ | _ | a
      · exact ix_G_0
      · exact H _
      · exact ix_G_0
      · exact H _
    · rcases q with _ | q
      · exact H _
      · exact H _
theorem ix_G_put {h : ix_H} (hp : ix_P S h) {r ci q b : Nat} {v : Value} {k : ix_CL → ix_NX → ix_JP → ix_H → ix_R} (H : ∀ n, ix_P S n → ix_G S (fun cl nx jp => k cl nx jp n)) : ix_G S (fun cl nx jp => ix_put h r ci q b v (k cl nx jp)) := by
  unfold ix_put
  rcases hq : ix_n h.1 r with _ | ⟨q', n, sl⟩
  · exact ix_G_0
  · refine ix_G_bif ?_ ix_G_0
    have h1 : ∀ x, ix_P S (h.1, ix_up h.2 r q x) := fun x => hp
    have h2 : ∀ sl', ix_P S (h.1.set r (q', n, sl'), h.2) := fun sl' => ⟨by rw [List.length_set]; exact hp.1, by show _ ≤ ix_sz (h.1.set r (q', n, sl')); rw [ix_sz_set _ _ _ _ _ _ hq]; exact hp.2⟩
    rcases ix_n sl q with _ | _ | _ <;> rcases b with _ | _ | _ | b <;> cases v <;> first | exact H _ (h1 _) | exact H _ (h2 _) | exact ix_G_0 | exact ix_G_if (H _ (h1 _)) ix_G_0
theorem ix_G_ch {k : ix_CL → ix_NX → ix_JP → Nat → ix_R} (H : ∀ n, ix_G S (fun cl nx jp => k cl nx jp n)) (i : Nat) : ∀ (sl : List (Option (Option Nat))) (j : Nat), ix_G S (fun cl nx jp => ix_ch sl j i (k cl nx jp))
  | [], _ => ix_G_0
  | none :: _, _ => ix_G_0
  | some none :: _, _ => ix_G_0
  | some (some a) :: l, j => by
    unfold ix_ch
    exact ix_G_if (H a) (ix_G_ch H i l (j + 1))
theorem ix_G_sw {k : ix_CL → ix_NX → ix_JP → Int → ix_R} (H : ∀ n, ix_G S (fun cl nx jp => k cl nx jp n)) (d x : Int) : ∀ (sl : List Int) (j : Int), ix_G S (fun cl nx jp => ix_sw sl j d x (k cl nx jp))
  | [], _ => H d
  | o :: l, j => by
    unfold ix_sw
    exact ix_G_if (H o) (ix_G_sw H d x l (j + 1))
theorem ix_G_lk {k : ix_CL → ix_NX → ix_JP → Int → ix_R} (H : ∀ n, ix_G S (fun cl nx jp => k cl nx jp n)) (d x : Int) : ∀ (sl : List (Int × Int)), ix_G S (fun cl nx jp => ix_lk sl d x (k cl nx jp))
  | [] => H d
  | o :: l => by
    unfold ix_lk
    exact ix_G_if (H o.2) (ix_G_lk H d x l)
theorem ix_G_new {h : ix_H} (hp : ix_P S h) {sh : ix_Sh} {k : ix_CL → ix_NX → ix_JP → Nat → ix_H → ix_R} (H : ∀ x n, ix_P S n → ix_G S (fun cl nx jp => k cl nx jp x n)) : ix_G S (fun cl nx jp => ix_new h sh (k cl nx jp)) := by
  unfold ix_new
  refine ix_G_bif (H _ _ ⟨?_, ?_⟩) ix_G_0
  · show S.length ≤ (h.1 ++ [sh]).length
    rw [List.length_append]
    exact Nat.le_trans hp.1 (Nat.le_add_right _ _)
  · show ix_sz S ≤ ix_sz (h.1 ++ [sh])
    rw [ix_sz_app]
    exact Nat.le_trans hp.2 (Nat.le_add_right _ _)
theorem ix_G_cpy {h : ix_H} (hp : ix_P S h) {n dp : Int32} {q : Nat} {sp : Int32} {p : Nat} {k : ix_CL → ix_NX → ix_JP → ix_H → ix_R} (H : ∀ n, ix_P S n → ix_G S (fun cl nx jp => k cl nx jp n)) : ix_G S (fun cl nx jp => ix_cpy h n dp q sp p (k cl nx jp)) := by
  unfold ix_cpy
  exact ix_G_own fun _ => ix_G_own fun _ => ix_G_if ix_G_0 (H _ hp)
theorem ix_G_call {h : ix_H} (hp : ix_P S h) {ls : ix_L} {st : List Value} {a b c : Nat} : ix_G S (fun cl nx _ => ix_call (ix_D0 cl) nx ls st h a b c) := by
  unfold ix_call
  rcases ix_popN b [] st with _ | ⟨as, st'⟩
  · exact ix_G_0
  · refine ix_G_bif ?_ ix_G_0
    exact Or.inr (Or.inr (Or.inr ⟨a, as, h, ls, fun x => bif Nat.beq c 0 then st' else x.1 :: st', hp, fun _ _ _ => rfl⟩))
theorem ix_G_recv {h : ix_H} {b d : Nat} {st : List Value} {F : ix_CL → ix_NX → ix_JP → ix_R} (H : ix_G S F) : ix_G S (fun cl nx jp => ix_recv h b d st (F cl nx jp)) := by
  unfold ix_recv
  rcases ix_n st (b - 1) with _ | v
  · exact ix_G_0
  · cases v <;> first | exact ix_G_0 | exact ix_G_bif H ix_G_0
theorem ix_G_nar {h : ix_H} (hp : ix_P S h) {t : Nat} {x : Int32} {v : Value} : ix_G S (fun _ _ _ => ix_nar t x (some (v, h))) := by
  rcases t with _ | _ | _ | t
  · exact ix_G_c hp
  · exact ix_G_if (ix_G_c hp) ix_G_0
  · exact ix_G_if (ix_G_c hp) ix_G_0
  · exact ix_G_if (ix_G_c hp) ix_G_0
end G
theorem ix_ex_G (e : ix_E) (ls : ix_L) (st : List Value) (h : ix_H) : ix_G h.1 (fun cl nx jp => ix_ex (ix_D0 cl) nx jp e ls st h) := by
  have hp : ix_P h.1 h := ix_P.rf
  obtain ⟨pc, ins, len, ct, a, b, c, d, v⟩ := e
  cases ins <;> unfold ix_ex <;> dsimp only <;> try exact ix_G_0
  all_goals first
    | exact ix_G_n hp _ _
    | exact ix_G_j hp _ _ _
    | exact ix_G_popI fun _ _ => ix_G_n hp _ _
    | exact ix_G_popI fun _ _ => ix_G_popI fun _ _ => ix_G_n hp _ _
    | exact ix_G_popI fun _ _ => ix_G_popI fun _ _ => ix_G_if ix_G_0 (ix_G_n hp _ _)
    | exact ix_G_bif (ix_G_n hp _ _) (ix_G_n hp _ _)
    | exact ix_G_bif (ix_G_n hp _ _) (ix_G_bif (ix_G_n hp _ _) (ix_G_n hp _ _))
    | exact ix_G_popI fun _ _ => ix_G_bif (ix_G_n hp _ _) ix_G_0
    | exact ix_G_popR fun _ _ => ix_G_bif (ix_G_n hp _ _) ix_G_0
    | exact ix_G_popR fun _ _ => ix_G_get fun _ => ix_G_n hp _ _
    | exact ix_G_popI fun _ _ => ix_G_popR fun _ _ => ix_G_arr fun _ => ix_G_if ix_G_0 (ix_G_n hp _ _)
    | exact ix_G_popI fun _ _ => ix_G_popI fun _ _ => ix_G_popR fun _ _ => ix_G_own fun _ => ix_G_if ix_G_0 (ix_G_m hp _ _ _)
    | exact ix_G_popI fun _ _ => ix_G_sw (fun _ => ix_G_j hp _ _ _) _ _ _ _
    | exact ix_G_popI fun _ _ => ix_G_lk (fun _ => ix_G_j hp _ _ _) _ _ _
    | exact ix_G_new hp fun _ _ hp => ix_G_n hp _ _
    | exact ix_G_recv (ix_G_call hp)
    | exact ix_G_bif (ix_G_popI fun _ _ => ix_G_popI fun _ _ => ix_G_popR fun _ _ => ix_G_popI fun _ _ => ix_G_popR fun _ _ => ix_G_bif (ix_G_cpy hp fun _ hp => ix_G_n hp _ _) ix_G_0) (ix_G_call hp)
    | exact ix_G_bif (ix_G_popR fun _ _ => ix_G_bif (ix_G_n hp _ _) ix_G_0) (ix_G_recv (ix_G_call hp))
    | exact ix_G_popI fun _ _ => ix_G_if ix_G_0 (ix_G_new hp fun _ _ hp => ix_G_n hp _ _)
    | skip
  all_goals first
    | (rcases ix_n ls a with _ | _ | x
       · exact ix_G_0
       · exact ix_G_0
       · cases x <;> first | exact ix_G_0 | exact ix_G_n hp _ _)
    | (rcases st with _ | ⟨x, st⟩ <;> first | exact ix_G_0 | exact ix_G_c hp | exact ix_G_n hp _ _ | exact ix_G_popR fun _ _ => ix_G_put hp fun _ hp => ix_G_n hp _ _)
    | (rcases st with _ | ⟨x, _ | ⟨y, st⟩⟩ <;> first | exact ix_G_0 | exact ix_G_n hp _ _)
    | (rcases st with _ | ⟨x, _ | ⟨y, st⟩⟩ <;> first | exact ix_G_0 | (cases x <;> first | exact ix_G_0 | exact ix_G_c hp | exact ix_G_nar hp))
    | skip
  all_goals first
    | (rename_i cd off
       cases cd <;> dsimp only <;> first
         | exact ix_G_popI fun _ _ => ix_G_if (ix_G_j hp _ _ _) (ix_G_n hp _ _)
         | exact ix_G_popI fun _ _ => ix_G_if (ix_G_n hp _ _) (ix_G_j hp _ _ _)
         | exact ix_G_popI fun _ _ => ix_G_popI fun _ _ => ix_G_if (ix_G_j hp _ _ _) (ix_G_n hp _ _)
         | exact ix_G_popI fun _ _ => ix_G_popI fun _ _ => ix_G_if (ix_G_n hp _ _) (ix_G_j hp _ _ _))
    | (refine ix_G_popR fun r st => ?_
       rcases ix_sh h r with _ | ⟨q, n, sl⟩
       · exact ix_G_0
       · exact ix_G_bif (ix_G_n hp _ _) ix_G_0)
    | (refine ix_G_popI fun i st => ix_G_popR fun r st => ?_
       rcases ix_n h.1 r with _ | ⟨q, n, sl⟩
       · exact ix_G_0
       · exact ix_G_bif (ix_G_if ix_G_0 (ix_G_ch (fun _ => ix_G_n hp _ _) _ _ _)) ix_G_0)
    | (refine ix_G_popR fun x st => ix_G_popI fun i st => ix_G_popR fun r st => ?_
       rcases hq : ix_n h.1 r with _ | ⟨q, n, sl⟩
       · exact ix_G_0
       · refine ix_G_bif (ix_G_if ix_G_0 (ix_G_n ⟨?_, ?_⟩ _ _)) ix_G_0
         · show _ ≤ List.length (List.set _ _ _)
           rw [List.length_set]
           exact Nat.le_refl _
         · show _ ≤ ix_sz (List.set _ _ _)
           rw [ix_sz_set _ _ _ _ _ _ hq]
           exact Nat.le_refl _)
    | (rename_i t
       cases t <;> dsimp only <;> first
         | exact ix_G_popI fun _ _ => ix_G_if ix_G_0 ix_G_0
         | exact ix_G_popI fun _ _ => ix_G_if ix_G_0 (ix_G_new hp fun _ _ hp => ix_G_n hp _ _))
/-- f tells no more than g -/
def ix_le (f g : ix_R) : Prop := ∀ x, f = some x → g = some x
theorem ix_ex_mono {cl cl' : ix_CL} {nx nx' : ix_NX} {jp jp' : ix_JP} (hc : ∀ a as h, ix_le (cl a as h) (cl' a as h)) (hn : ∀ ls st h, ix_le (nx ls st h) (nx' ls st h)) (hj : ∀ t ls st h, ix_le (jp t ls st h) (jp' t ls st h)) (e : ix_E) (ls : ix_L) (st : List Value) (h : ix_H) : ix_le (ix_ex (ix_D0 cl) nx jp e ls st h) (ix_ex (ix_D0 cl') nx' jp' e ls st h) := by
  intro x hx
  rcases ix_ex_G e ls st h with ⟨y, -, hy⟩ | ⟨l2, s2, h2, -, hy⟩ | ⟨t, l2, s2, h2, -, hy⟩ | ⟨a, as, h2, l2, f, -, hy⟩
  · have e1 : ix_ex (ix_D0 cl) nx jp e ls st h = _ := hy cl nx jp
    have e2 : ix_ex (ix_D0 cl') nx' jp' e ls st h = _ := hy cl' nx' jp'
    rw [e1] at hx; rw [e2]; exact hx
  · have e1 : ix_ex (ix_D0 cl) nx jp e ls st h = _ := hy cl nx jp
    have e2 : ix_ex (ix_D0 cl') nx' jp' e ls st h = _ := hy cl' nx' jp'
    rw [e1] at hx; rw [e2]; exact hn _ _ _ _ hx
  · have e1 : ix_ex (ix_D0 cl) nx jp e ls st h = _ := hy cl nx jp
    have e2 : ix_ex (ix_D0 cl') nx' jp' e ls st h = _ := hy cl' nx' jp'
    rw [e1] at hx; rw [e2]; exact hj _ _ _ _ _ hx
  · have e1 : ix_ex (ix_D0 cl) nx jp e ls st h = _ := hy cl nx jp
    have e2 : ix_ex (ix_D0 cl') nx' jp' e ls st h = _ := hy cl' nx' jp'
    rw [e1] at hx; rw [e2]
    obtain ⟨y, h1, h3⟩ := Option.bind_eq_some_iff.mp hx
    exact Option.bind_eq_some_iff.mpr ⟨y, hc _ _ _ _ h1, hn _ _ _ _ h3⟩
theorem ix_go_mono (tab : List ix_E) {cb cb' : ix_JP} {cl cl' : ix_CL} (hb : ∀ t ls st h, ix_le (cb t ls st h) (cb' t ls st h)) (hc : ∀ a as h, ix_le (cl a as h) (cl' a as h)) : ∀ (k : Nat) (rest : List ix_E) (pc : Nat) (ls : ix_L) (st : List Value) (h : ix_H), ix_le (ix_go tab cb (ix_D0 cl) k rest pc ls st h) (ix_go tab cb' (ix_D0 cl') k rest pc ls st h) := by
  intro k
  induction k with
  | zero => intro rest pc ls st h x hx; exact absurd hx (by simp [ix_go])
  | succ k ih =>
    intro rest pc ls st h
    rcases rest with _ | ⟨e, rest⟩
    · intro x hx; exact absurd hx (by simp [ix_go])
    · unfold ix_go
      cases Nat.beq e.1 pc with
      | false => intro x hx; exact absurd hx (by simp)
      | true =>
        rcases e.2.2.2.1 with _ | kp
        · exact ix_ex_mono (nx := ix_go tab cb (ix_D0 cl) k rest (pc + e.2.2.1)) (jp := fun t => ix_go tab cb (ix_D0 cl) k (ix_fd tab t) t) (nx' := ix_go tab cb' (ix_D0 cl') k rest (pc + e.2.2.1)) (jp' := fun t => ix_go tab cb' (ix_D0 cl') k (ix_fd tab t) t) hc (fun ls st h => ih _ _ ls st h) (fun t ls st h => ih _ _ ls st h) e ls st h
        · exact hb _ _ _ _
theorem ix_at_mono (tab : List ix_E) {cb cb' : ix_JP} {cl cl' : ix_CL} (hb : ∀ t ls st h, ix_le (cb t ls st h) (cb' t ls st h)) (hc : ∀ a as h, ix_le (cl a as h) (cl' a as h)) (pc : Nat) (ls : ix_L) (st : List Value) (h : ix_H) : ix_le (ix_at tab cb (ix_D0 cl) pc ls st h) (ix_at tab cb' (ix_D0 cl') pc ls st h) := by
  unfold ix_at
  rcases ix_fd tab pc with _ | ⟨e, rest⟩
  · intro x hx; exact hx
  · exact ix_ex_mono (nx := ix_go tab cb (ix_D0 cl) 3000 rest (pc + e.2.2.1)) (jp := fun t => ix_go tab cb (ix_D0 cl) 3000 (ix_fd tab t) t) (nx' := ix_go tab cb' (ix_D0 cl') 3000 rest (pc + e.2.2.1)) (jp' := fun t => ix_go tab cb' (ix_D0 cl') 3000 (ix_fd tab t) t) hc (fun ls st h => ix_go_mono tab hb hc _ _ _ ls st h) (fun t ls st h => ix_go_mono tab hb hc _ _ _ ls st h) e ls st h
/-- a chain of better and better functions: what its limit says, one of them says -/
theorem ix_ex_cont {cl : Nat → ix_CL} {nx : Nat → ix_NX} {jp : Nat → ix_JP} {clL : ix_CL} {nxL : ix_NX} {jpL : ix_JP} (mc : ∀ n a as h, ix_le (cl n a as h) (cl (n + 1) a as h)) (mn : ∀ n ls st h, ix_le (nx n ls st h) (nx (n + 1) ls st h))
    (hc : ∀ a as h x, clL a as h = some x → ∃ n, cl n a as h = some x) (hn : ∀ ls st h x, nxL ls st h = some x → ∃ n, nx n ls st h = some x) (hj : ∀ t ls st h x, jpL t ls st h = some x → ∃ n, jp n t ls st h = some x) (e : ix_E) (ls : ix_L) (st : List Value) (h : ix_H) (x : Value × ix_H) (hx : ix_ex (ix_D0 clL) nxL jpL e ls st h = some x) : ∃ n, ix_ex (ix_D0 (cl n)) (nx n) (jp n) e ls st h = some x := by
  have up : ∀ {F : Nat → ix_R}, (∀ n, ix_le (F n) (F (n + 1))) → ∀ {n m : Nat}, n ≤ m → ix_le (F n) (F m) := by
    intro F hF n m hnm
    induction hnm with
    | refl => exact fun _ h => h
    | step _ ih => exact fun y hy => hF _ _ (ih y hy)
  rcases ix_ex_G e ls st h with ⟨y, -, hy⟩ | ⟨l2, s2, h2, -, hy⟩ | ⟨t, l2, s2, h2, -, hy⟩ | ⟨a, as, h2, l2, f, -, hy⟩
  · have e1 : ix_ex (ix_D0 clL) nxL jpL e ls st h = _ := hy clL nxL jpL
    rw [e1] at hx
    exact ⟨0, (hy (cl 0) (nx 0) (jp 0)).trans hx⟩
  · have e1 : ix_ex (ix_D0 clL) nxL jpL e ls st h = _ := hy clL nxL jpL
    rw [e1] at hx
    obtain ⟨n, h3⟩ := hn _ _ _ _ hx
    exact ⟨n, (hy (cl n) (nx n) (jp n)).trans h3⟩
  · have e1 : ix_ex (ix_D0 clL) nxL jpL e ls st h = _ := hy clL nxL jpL
    rw [e1] at hx
    obtain ⟨n, h3⟩ := hj _ _ _ _ _ hx
    exact ⟨n, (hy (cl n) (nx n) (jp n)).trans h3⟩
  · have e1 : ix_ex (ix_D0 clL) nxL jpL e ls st h = _ := hy clL nxL jpL
    rw [e1] at hx
    obtain ⟨y, h1, h3⟩ := Option.bind_eq_some_iff.mp hx
    obtain ⟨n1, h4⟩ := hc _ _ _ _ h1
    obtain ⟨n2, h5⟩ := hn _ _ _ _ h3
    refine ⟨n1 + n2, (hy (cl (n1 + n2)) (nx (n1 + n2)) (jp (n1 + n2))).trans ?_⟩
    exact Option.bind_eq_some_iff.mpr ⟨y, up (fun n => mc n _ _ _) (Nat.le_add_right n1 n2) _ h4, up (fun n => mn n _ _ _) (Nat.le_add_left n2 n1) _ h5⟩
theorem ix_go_cont (tab : List ix_E) {cb : Nat → ix_JP} {cl : Nat → ix_CL} {cbL : ix_JP} {clL : ix_CL} (mb : ∀ n t ls st h, ix_le (cb n t ls st h) (cb (n + 1) t ls st h)) (mc : ∀ n a as h, ix_le (cl n a as h) (cl (n + 1) a as h))
    (hc : ∀ a as h x, clL a as h = some x → ∃ n, cl n a as h = some x) (hb : ∀ t ls st h x, cbL t ls st h = some x → ∃ n, cb n t ls st h = some x) : ∀ (k : Nat) (rest : List ix_E) (pc : Nat) (ls : ix_L) (st : List Value) (h : ix_H) (x : Value × ix_H), ix_go tab cbL (ix_D0 clL) k rest pc ls st h = some x → ∃ n, ix_go tab (cb n) (ix_D0 (cl n)) k rest pc ls st h = some x := by
  intro k
  induction k with
  | zero => intro rest pc ls st h x hx; exact absurd hx (by simp [ix_go])
  | succ k ih =>
    intro rest pc ls st h x hx
    rcases rest with _ | ⟨e, rest⟩
    · exact absurd hx (by simp [ix_go])
    · unfold ix_go at hx ⊢
      cases hq : Nat.beq e.1 pc with
      | false => rw [hq] at hx; exact absurd hx (by simp)
      | true =>
        rw [hq] at hx
        rcases hr : e.2.2.2.1 with _ | kp
        · rw [hr] at hx
          exact ix_ex_cont (nx := fun n => ix_go tab (cb n) (ix_D0 (cl n)) k rest (pc + e.2.2.1)) (jp := fun n t => ix_go tab (cb n) (ix_D0 (cl n)) k (ix_fd tab t) t) mc (fun n ls st h => ix_go_mono tab (mb n) (mc n) _ _ _ ls st h) hc (fun ls st h x hx => ih _ _ ls st h x hx) (fun t ls st h x hx => ih _ _ ls st h x hx) e ls st h x hx
        · rw [hr] at hx
          exact hb _ _ _ _ _ hx
theorem ix_at_cont (tab : List ix_E) {cb : Nat → ix_JP} {cl : Nat → ix_CL} {cbL : ix_JP} {clL : ix_CL} (mb : ∀ n t ls st h, ix_le (cb n t ls st h) (cb (n + 1) t ls st h)) (mc : ∀ n a as h, ix_le (cl n a as h) (cl (n + 1) a as h))
    (hc : ∀ a as h x, clL a as h = some x → ∃ n, cl n a as h = some x) (hb : ∀ t ls st h x, cbL t ls st h = some x → ∃ n, cb n t ls st h = some x) (pc : Nat) (ls : ix_L) (st : List Value) (h : ix_H) (x : Value × ix_H) (hx : ix_at tab cbL (ix_D0 clL) pc ls st h = some x) : ∃ n, ix_at tab (cb n) (ix_D0 (cl n)) pc ls st h = some x := by
  unfold ix_at at hx ⊢
  rcases hq : ix_fd tab pc with _ | ⟨e, rest⟩
  · rw [hq] at hx; exact absurd hx (by simp)
  · rw [hq] at hx
    exact ix_ex_cont (nx := fun n => ix_go tab (cb n) (ix_D0 (cl n)) 3000 rest (pc + e.2.2.1)) (jp := fun n t => ix_go tab (cb n) (ix_D0 (cl n)) 3000 (ix_fd tab t) t) mc (fun n ls st h => ix_go_mono tab (mb n) (mc n) _ _ _ ls st h) hc (fun ls st h x hx => ix_go_cont tab mb mc hc hb _ _ _ ls st h x hx) (fun t ls st h x hx => ix_go_cont tab mb mc hc hb _ _ _ ls st h x hx) e ls st h x hx
/-- what a called method does, by how deep calls may go from here -/
def ix_clS (sem : Nat → Nat → Nat → ix_L → List Value → ix_H → ix_R) (r : Nat) : ix_CL := fun mj as h => bif Nat.blt (ix_rk mj as) r then sem mj (ix_rk mj as) 0 (ix_in mj as) [] h else none
/-- n stops and calls deep: method, depth, pc, locals, stack, heap -/
def ix_sem : Nat → Nat → Nat → Nat → ix_L → List Value → ix_H → ix_R
  | 0, _, _, _, _, _, _ => none
  | n + 1, mi, r, pc, ls, st, h => ix_at (ix_tab mi) (ix_sem n mi r) (ix_D0 (ix_clS (ix_sem n) r)) pc ls st h
theorem ix_clS_mono {f g : Nat → Nat → Nat → ix_L → List Value → ix_H → ix_R} (hfg : ∀ mi r pc ls st h, ix_le (f mi r pc ls st h) (g mi r pc ls st h)) (r a : Nat) (as : List Value) (h : ix_H) : ix_le (ix_clS f r a as h) (ix_clS g r a as h) := by
  unfold ix_clS
  cases Nat.blt (ix_rk a as) r
  · exact fun _ h => h
  · exact hfg _ _ _ _ _ _
theorem ix_sem_mono : ∀ (n mi r pc : Nat) (ls : ix_L) (st : List Value) (h : ix_H), ix_le (ix_sem n mi r pc ls st h) (ix_sem (n + 1) mi r pc ls st h) := by
  intro n
  induction n with
  | zero => intro mi r pc ls st h x hx; exact absurd hx (by simp [ix_sem])
  | succ n ih =>
    intro mi r pc ls st h
    exact ix_at_mono (ix_tab mi) (fun t ls st h => ih mi r t ls st h) (ix_clS_mono ih r) pc ls st h
/-- what a method does from a frame on, in the limit -/
noncomputable def ix_S (mi r pc : Nat) (ls : ix_L) (st : List Value) (h : ix_H) : ix_R :=
  @dite ix_R (∃ x : Value × ix_H, ∃ n, ix_sem n mi r pc ls st h = some x) (Classical.propDecidable _) (fun hx => some (Classical.choose hx)) (fun _ => none)
theorem ix_sem_up {n m : Nat} (hnm : n ≤ m) (mi r pc : Nat) (ls : ix_L) (st : List Value) (h : ix_H) : ix_le (ix_sem n mi r pc ls st h) (ix_sem m mi r pc ls st h) := by
  induction hnm with
  | refl => exact fun _ h => h
  | step _ ih => exact fun y hy => ix_sem_mono _ _ _ _ _ _ _ _ (ih y hy)
theorem ix_S_iff {mi r pc : Nat} {ls : ix_L} {st : List Value} {h : ix_H} {x : Value × ix_H} : ix_S mi r pc ls st h = some x ↔ ∃ n, ix_sem n mi r pc ls st h = some x := by
  unfold ix_S
  constructor
  · intro hx
    split at hx
    · rename_i hq
      obtain ⟨n, hn⟩ := Classical.choose_spec hq
      exact ⟨n, hn.trans hx⟩
    · cases hx
  · intro hx
    obtain ⟨n, hn⟩ := hx
    have hq : ∃ x : Value × ix_H, ∃ n, ix_sem n mi r pc ls st h = some x := ⟨x, n, hn⟩
    rw [dif_pos hq]
    obtain ⟨m, hm⟩ := Classical.choose_spec hq
    have h1 := ix_sem_up (Nat.le_add_right n m) mi r pc ls st h _ hn
    have h2 := ix_sem_up (Nat.le_add_left m n) mi r pc ls st h _ hm
    exact h2.symm.trans h1
theorem ix_S_ge (n mi r pc : Nat) (ls : ix_L) (st : List Value) (h : ix_H) : ix_le (ix_sem n mi r pc ls st h) (ix_S mi r pc ls st h) := fun _ hx => ix_S_iff.mpr ⟨n, hx⟩
/-- what a method does from a frame on is what its code says, up to the next stop -/
theorem ix_fix (mi r pc : Nat) (ls : ix_L) (st : List Value) (h : ix_H) : ix_S mi r pc ls st h = ix_at (ix_tab mi) (ix_S mi r) (ix_D0 (ix_clS ix_S r)) pc ls st h := by
  have ext : ∀ {a b : ix_R}, (∀ x, a = some x ↔ b = some x) → a = b := by
    intro a b hab
    cases a with
    | none =>
      cases b with
      | none => rfl
      | some y => exact absurd ((hab y).mpr rfl) (by simp)
    | some y => exact ((hab y).mp rfl).symm
  refine ext fun x => ⟨fun hx => ?_, fun hx => ?_⟩
  · obtain ⟨n, hn⟩ := ix_S_iff.mp hx
    cases n with
    | zero => exact absurd hn (by simp [ix_sem])
    | succ n =>
      exact ix_at_mono (ix_tab mi) (fun t ls st h => ix_S_ge n mi r t ls st h) (ix_clS_mono (ix_S_ge n) r) pc ls st h x hn
  · obtain ⟨n, hn⟩ := ix_at_cont (ix_tab mi) (cb := fun n => ix_sem n mi r) (cl := fun n => ix_clS (ix_sem n) r) (fun n t ls st h => ix_sem_mono n mi r t ls st h) (fun n => ix_clS_mono (ix_sem_mono n) r) (fun a as h x hx => by
      unfold ix_clS at hx ⊢
      cases hq : Nat.blt (ix_rk a as) r with
      | false => rw [hq] at hx; exact absurd hx (by simp)
      | true =>
        rw [hq] at hx
        exact ix_S_iff.mp hx) (fun t ls st h x hx => ix_S_iff.mp hx) pc ls st h x hx
    exact ix_S_iff.mpr ⟨n + 1, hn⟩
theorem ix_ex_P {cl : ix_CL} {nx : ix_NX} {jp : ix_JP} (hc : ∀ a as h x, cl a as h = some x → ix_P h.1 x.2) (hn : ∀ ls st h x, nx ls st h = some x → ix_P h.1 x.2) (hj : ∀ t ls st h x, jp t ls st h = some x → ix_P h.1 x.2) (e : ix_E) (ls : ix_L) (st : List Value) (h : ix_H) (x : Value × ix_H) (hx : ix_ex (ix_D0 cl) nx jp e ls st h = some x) : ix_P h.1 x.2 := by
  rcases ix_ex_G e ls st h with ⟨y, hp, hy⟩ | ⟨l2, s2, h2, hp, hy⟩ | ⟨t, l2, s2, h2, hp, hy⟩ | ⟨a, as, h2, l2, f, hp, hy⟩
  · exact hp x ((hy cl nx jp).symm.trans hx)
  · exact hp.tr (hn _ _ _ _ ((hy cl nx jp).symm.trans hx))
  · exact hp.tr (hj _ _ _ _ _ ((hy cl nx jp).symm.trans hx))
  · obtain ⟨y, h1, h3⟩ := Option.bind_eq_some_iff.mp ((hy cl nx jp).symm.trans hx)
    exact (hp.tr (hc _ _ _ _ h1)).tr (hn _ _ _ _ h3)
theorem ix_go_P (tab : List ix_E) {cb : ix_JP} {cl : ix_CL} (hb : ∀ t ls st h x, cb t ls st h = some x → ix_P h.1 x.2) (hc : ∀ a as h x, cl a as h = some x → ix_P h.1 x.2) : ∀ (k : Nat) (rest : List ix_E) (pc : Nat) (ls : ix_L) (st : List Value) (h : ix_H) (x : Value × ix_H), ix_go tab cb (ix_D0 cl) k rest pc ls st h = some x → ix_P h.1 x.2 := by
  intro k
  induction k with
  | zero => intro rest pc ls st h x hx; exact absurd hx (by simp [ix_go])
  | succ k ih =>
    intro rest pc ls st h x hx
    rcases rest with _ | ⟨e, rest⟩
    · exact absurd hx (by simp [ix_go])
    · unfold ix_go at hx
      cases hq : Nat.beq e.1 pc with
      | false => rw [hq] at hx; exact absurd hx (by simp)
      | true =>
        rw [hq] at hx
        rcases hr : e.2.2.2.1 with _ | kp
        · rw [hr] at hx
          exact ix_ex_P (nx := ix_go tab cb (ix_D0 cl) k rest (pc + e.2.2.1)) (jp := fun t => ix_go tab cb (ix_D0 cl) k (ix_fd tab t) t) hc (fun ls st h x => ih _ _ ls st h x) (fun t ls st h x => ih _ _ ls st h x) e ls st h x hx
        · rw [hr] at hx
          exact hb _ _ _ _ _ hx
theorem ix_at_P (tab : List ix_E) {cb : ix_JP} {cl : ix_CL} (hb : ∀ t ls st h x, cb t ls st h = some x → ix_P h.1 x.2) (hc : ∀ a as h x, cl a as h = some x → ix_P h.1 x.2) (pc : Nat) (ls : ix_L) (st : List Value) (h : ix_H) (x : Value × ix_H) (hx : ix_at tab cb (ix_D0 cl) pc ls st h = some x) : ix_P h.1 x.2 := by
  unfold ix_at at hx
  rcases hq : ix_fd tab pc with _ | ⟨e, rest⟩
  · rw [hq] at hx; exact absurd hx (by simp)
  · rw [hq] at hx
    exact ix_ex_P (nx := ix_go tab cb (ix_D0 cl) 3000 rest (pc + e.2.2.1)) (jp := fun t => ix_go tab cb (ix_D0 cl) 3000 (ix_fd tab t) t) hc (fun ls st h x => ix_go_P tab hb hc _ _ _ ls st h x) (fun t ls st h x => ix_go_P tab hb hc _ _ _ ls st h x) e ls st h x hx
theorem ix_clS_P {f : Nat → Nat → Nat → ix_L → List Value → ix_H → ix_R} (hf : ∀ mi r pc ls st h x, f mi r pc ls st h = some x → ix_P h.1 x.2) (r a : Nat) (as : List Value) (h : ix_H) (x : Value × ix_H) (hx : ix_clS f r a as h = some x) : ix_P h.1 x.2 := by
  unfold ix_clS at hx
  cases hq : Nat.blt (ix_rk a as) r with
  | false => rw [hq] at hx; exact absurd hx (by simp)
  | true => rw [hq] at hx; exact hf _ _ _ _ _ _ _ hx
theorem ix_sem_P : ∀ (n mi r pc : Nat) (ls : ix_L) (st : List Value) (h : ix_H) (x : Value × ix_H), ix_sem n mi r pc ls st h = some x → ix_P h.1 x.2 := by
  intro n
  induction n with
  | zero => intro mi r pc ls st h x hx; exact absurd hx (by simp [ix_sem])
  | succ n ih =>
    intro mi r pc ls st h x hx
    exact ix_at_P (ix_tab mi) (fun t ls st h x hx => ih mi r t ls st h x hx) (ix_clS_P ih r) pc ls st h x hx
