/-- methods that leave all references as they are: 1 void, 2 they answer an int, 3 a reference; 0: not one of them -/
def ix_kds : List Nat := [0, 0, 2, 2, 2, 0, 2, 0, 2, 2, 2, 2, 2, 2, 2, 2, 0, 2, 2, 2, 2, 2, 2, 2, 2, 2, 2, 2, 2, 2, 2, 2, 2, 2, 2, 2, 2, 2, 2, 2, 2, 2, 0, 1, 1, 0, 0, 0, 2, 2, 1, 2, 2, 1, 2, 0, 1, 1, 1, 2, 2, 1, 2, 2, 0, 2, 3, 2, 2, 2, 2, 2, 2, 2, 2, 2, 2, 2, 2, 2, 2, 2, 0, 1, 1, 2, 0, 2, 1, 2, 2, 1, 2, 2, 2, 2, 2, 2, 2, 1, 2, 1, 2, 2, 2, 2, 2, 1, 2, 2, 2, 2, 1, 2, 1, 2, 2, 2, 2, 2, 2, 2, 2, 2, 2, 2, 0, 1, 1, 2, 2, 2, 0, 2, 1, 1, 2, 2, 2, 2, 2, 1, 1, 2, 1, 2, 0, 2, 1, 2, 0, 1, 2, 2, 1, 2, 0, 2, 2, 2, 2, 2, 2, 2, 2, 2, 2, 2, 2, 2, 2, 2, 2, 2, 2, 2, 2, 2, 2, 2, 2, 2, 2, 2, 2, 2, 2, 2, 2, 2, 2, 2, 1, 2, 2, 1, 2, 2, 1, 2, 1, 1, 2, 2, 2, 2, 1, 2, 1, 1, 2, 2, 2, 2, 2, 2, 2, 2, 2, 2, 2, 2, 2, 2, 2, 2, 2, 1, 1, 2, 2, 1, 2, 1, 2, 2, 2, 2, 2, 1, 2, 1, 2, 2, 2, 2, 2, 2, 2, 2, 2, 2, 2, 2, 2, 2, 2, 2, 2, 2, 2, 2, 2, 2, 2, 2, 2, 2, 2, 2, 2, 2, 2, 2, 2, 2, 2, 1, 1, 2, 1, 2, 2, 2, 1, 2, 2, 2, 2, 2, 2, 2, 2, 2, 2, 2, 2, 2, 2, 1, 2]
def ix_kd (a : Nat) : Nat := match ix_n ix_kds a with
  | some k => k
  | none => 0
def ix_kb (mi : Nat) (e : ix_E) : Bool := match e with
  | (_, ins, _, _, a, _, c, _, _) => match ins with
    | .new _ => false
    | .newarray _ => false
    | .anewarray _ => false
    | .aastore => false
    | .putfield _ => !Nat.beq c 2
    | .invokestatic _ => Nat.beq c 2 || !Nat.beq (ix_kd a) 0
    | .invokevirtual _ => !Nat.beq (ix_kd a) 0
    | .invokespecial _ => Nat.beq c 2
    | .ireturn => Nat.beq (ix_kd mi) 2
    | .areturn => Nat.beq (ix_kd mi) 3
    | .return_ => Nat.beq (ix_kd mi) 1
    | _ => true
theorem ix_kb_all : (List.range 301).all (fun mi => Nat.beq (ix_kd mi) 0 || (ix_tab mi).all (ix_kb mi)) = true := by decide +kernel
def ix_Vk (k : Nat) (v : Value) : Prop := (k = 1 → v = .null) ∧ (k = 2 → ∃ y, v = .int y)
def ix_Q (S : List ix_Sh) (R : Value → Prop) (F : ix_CL → ix_NX → ix_JP → ix_R) : Prop :=
  (∃ x, (∀ y, x = some y → y.2.1 = S ∧ R y.1) ∧ ∀ cl nx jp, F cl nx jp = x) ∨ (∃ ls st h, h.1 = S ∧ ∀ cl nx jp, F cl nx jp = nx ls st h) ∨ (∃ t ls st h, h.1 = S ∧ ∀ cl nx jp, F cl nx jp = jp t ls st h) ∨
  ∃ (a : Nat) (as : List Value) (h : ix_H) (ls : ix_L) (f : Value × ix_H → List Value), h.1 = S ∧ ix_kd a ≠ 0 ∧ ∀ cl nx jp, F cl nx jp = (cl a as h).bind (fun x => nx ls (f x) x.2)
section Q
variable {S : List ix_Sh} {R : Value → Prop}
theorem ix_Q_0 : ix_Q S R (fun _ _ _ => none) := Or.inl ⟨none, (fun _ h => by cases h), fun _ _ _ => rfl⟩
theorem ix_Q_c {v : Value} {h : ix_H} (hp : h.1 = S) (hr : R v) : ix_Q S R (fun _ _ _ => some (v, h)) := Or.inl ⟨some (v, h), (fun _ e => by cases e; exact ⟨hp, hr⟩), fun _ _ _ => rfl⟩
theorem ix_Q_n {h : ix_H} (hp : h.1 = S) (ls st) : ix_Q S R (fun _ nx _ => nx ls st h) := Or.inr (Or.inl ⟨ls, st, h, hp, fun _ _ _ => rfl⟩)
theorem ix_Q_m {h : ix_H} (hp : h.1 = S) (σ' : ix_St) (ls st) : ix_Q S R (fun _ nx _ => nx ls st (h.1, σ')) := Or.inr (Or.inl ⟨ls, st, (h.1, σ'), hp, fun _ _ _ => rfl⟩)
theorem ix_Q_j {h : ix_H} (hp : h.1 = S) (t ls st) : ix_Q S R (fun _ _ jp => jp t ls st h) := Or.inr (Or.inr (Or.inl ⟨t, ls, st, h, hp, fun _ _ _ => rfl⟩))
theorem ix_Q_if {c : Prop} [Decidable c] {F G : ix_CL → ix_NX → ix_JP → ix_R} (hF : ix_Q S R F) (hG : ix_Q S R G) : ix_Q S R (fun cl nx jp => if c then F cl nx jp else G cl nx jp) := by
  by_cases h : c
  · simp only [if_pos h]; exact hF
  · simp only [if_neg h]; exact hG
theorem ix_Q_bif {c : Bool} {F G : ix_CL → ix_NX → ix_JP → ix_R} (hF : ix_Q S R F) (hG : ix_Q S R G) : ix_Q S R (fun cl nx jp => bif c then F cl nx jp else G cl nx jp) := by
  cases c
  · exact hG
  · exact hF
theorem ix_Q_popI {st : List Value} {k : ix_CL → ix_NX → ix_JP → Int32 → List Value → ix_R} (H : ∀ x r, ix_Q S R (fun cl nx jp => k cl nx jp x r)) : ix_Q S R (fun cl nx jp => ix_popI st (k cl nx jp)) := by
  rcases st with _ | ⟨v, r⟩
  · exact ix_Q_0
  · cases v <;> first | exact H _ _ | exact ix_Q_0
theorem ix_Q_popR {st : List Value} {k : ix_CL → ix_NX → ix_JP → Nat → List Value → ix_R} (H : ∀ x r, ix_Q S R (fun cl nx jp => k cl nx jp x r)) : ix_Q S R (fun cl nx jp => ix_popR st (k cl nx jp)) := by
  rcases st with _ | ⟨v, r⟩
  · exact ix_Q_0
  · cases v <;> first | exact H _ _ | exact ix_Q_0
theorem ix_Q_arr {h : ix_H} {r q : Nat} {k : ix_CL → ix_NX → ix_JP → Nat → ix_R} (H : ∀ n, ix_Q S R (fun cl nx jp => k cl nx jp n)) : ix_Q S R (fun cl nx jp => ix_arr h r q (k cl nx jp)) := by
  unfold ix_arr
  rcases ix_sh h r with _ | ⟨q, n, sl⟩
  · exact ix_Q_0
  · exact ix_Q_bif (H _) ix_Q_0
theorem ix_Q_own {h : ix_H} {r q : Nat} {k : ix_CL → ix_NX → ix_JP → Nat → ix_R} (H : ∀ n, ix_Q S R (fun cl nx jp => k cl nx jp n)) : ix_Q S R (fun cl nx jp => ix_own h r q (k cl nx jp)) := by
  unfold ix_own
  rcases ix_n h.1 r with _ | ⟨q, n, sl⟩
  · exact ix_Q_0
  · exact ix_Q_bif (H _) ix_Q_0
theorem ix_Q_get {h : ix_H} {r ci q : Nat} {k : ix_CL → ix_NX → ix_JP → Value → ix_R} (H : ∀ n, ix_Q S R (fun cl nx jp => k cl nx jp n)) : ix_Q S R (fun cl nx jp => ix_get h r ci q (k cl nx jp)) := by
  unfold ix_get
  rcases ix_sh h r with _ | ⟨q', n, sl⟩
  · exact ix_Q_0
  · refine ix_Q_bif ?_ (ix_Q_bif ?_ ix_Q_0)
    · rcases ix_n sl q with _ | _ | _ | a
      · exact ix_Q_0
      · exact H _
      · exact ix_Q_0
      · exact H _
    · rcases q with _ | q
      · exact H _
      · exact H _
theorem ix_Q_put {h : ix_H} (hp : h.1 = S) {r ci q b : Nat} (hb : Nat.beq b 2 = false) {v : Value} {k : ix_CL → ix_NX → ix_JP → ix_H → ix_R} (H : ∀ σ', ix_Q S R (fun cl nx jp => k cl nx jp (h.1, σ'))) : ix_Q S R (fun cl nx jp => ix_put h r ci q b v (k cl nx jp)) := by
  unfold ix_put
  rcases hq : ix_n h.1 r with _ | ⟨q', n, sl⟩
  · exact ix_Q_0
  · refine ix_Q_bif ?_ ix_Q_0
    rcases ix_n sl q with _ | _ | _ <;> rcases b with _ | _ | _ | b <;> cases v <;> first | (cases hb; done) | exact H _ | exact ix_Q_0 | exact ix_Q_if (H _) ix_Q_0
theorem ix_Q_ch {k : ix_CL → ix_NX → ix_JP → Nat → ix_R} (H : ∀ n, ix_Q S R (fun cl nx jp => k cl nx jp n)) (i : Nat) : ∀ (sl : List (Option (Option Nat))) (j : Nat), ix_Q S R (fun cl nx jp => ix_ch sl j i (k cl nx jp))
  | [], _ => ix_Q_0
  | none :: _, _ => ix_Q_0
  | some none :: _, _ => ix_Q_0
  | some (some a) :: l, j => by
    unfold ix_ch
    exact ix_Q_if (H a) (ix_Q_ch H i l (j + 1))
theorem ix_Q_sw {k : ix_CL → ix_NX → ix_JP → Int → ix_R} (H : ∀ n, ix_Q S R (fun cl nx jp => k cl nx jp n)) (d x : Int) : ∀ (sl : List Int) (j : Int), ix_Q S R (fun cl nx jp => ix_sw sl j d x (k cl nx jp))
  | [], _ => H d
  | o :: l, j => by
    unfold ix_sw
    exact ix_Q_if (H o) (ix_Q_sw H d x l (j + 1))
theorem ix_Q_lk {k : ix_CL → ix_NX → ix_JP → Int → ix_R} (H : ∀ n, ix_Q S R (fun cl nx jp => k cl nx jp n)) (d x : Int) : ∀ (sl : List (Int × Int)), ix_Q S R (fun cl nx jp => ix_lk sl d x (k cl nx jp))
  | [] => H d
  | o :: l => by
    unfold ix_lk
    exact ix_Q_if (H o.2) (ix_Q_lk H d x l)
theorem ix_Q_cpy {h : ix_H} {n dp : Int32} {q : Nat} {sp : Int32} {p : Nat} {k : ix_CL → ix_NX → ix_JP → ix_H → ix_R} (H : ∀ σ', ix_Q S R (fun cl nx jp => k cl nx jp (h.1, σ'))) : ix_Q S R (fun cl nx jp => ix_cpy h n dp q sp p (k cl nx jp)) := by
  unfold ix_cpy
  exact ix_Q_own fun _ => ix_Q_own fun _ => ix_Q_if ix_Q_0 (H _)
theorem ix_Q_call {h : ix_H} (hp : h.1 = S) {ls : ix_L} {st : List Value} {a b c : Nat} (ha : ix_kd a ≠ 0) : ix_Q S R (fun cl nx _ => ix_call (ix_D0 cl) nx ls st h a b c) := by
  unfold ix_call
  rcases ix_popN b [] st with _ | ⟨as, st'⟩
  · exact ix_Q_0
  · refine ix_Q_bif ?_ ix_Q_0
    exact Or.inr (Or.inr (Or.inr ⟨a, as, h, ls, fun x => bif Nat.beq c 0 then st' else x.1 :: st', hp, ha, fun _ _ _ => rfl⟩))
theorem ix_Q_recv {h : ix_H} {b d : Nat} {st : List Value} {F : ix_CL → ix_NX → ix_JP → ix_R} (H : ix_Q S R F) : ix_Q S R (fun cl nx jp => ix_recv h b d st (F cl nx jp)) := by
  unfold ix_recv
  rcases ix_n st (b - 1) with _ | v
  · exact ix_Q_0
  · cases v <;> first | exact ix_Q_0 | exact ix_Q_bif H ix_Q_0
theorem ix_Q_nar {h : ix_H} (hp : h.1 = S) {t : Nat} {x : Int32} {v : Value} (hr : R v) : ix_Q S R (fun _ _ _ => ix_nar t x (some (v, h))) := by
  rcases t with _ | _ | _ | t
  · exact ix_Q_c hp hr
  · exact ix_Q_if (ix_Q_c hp hr) ix_Q_0
  · exact ix_Q_if (ix_Q_c hp hr) ix_Q_0
  · exact ix_Q_if (ix_Q_c hp hr) ix_Q_0
end Q
theorem ix_nb {a b : Nat} (h : (!Nat.beq a b) = true) : a ≠ b := by
  intro hz
  subst hz
  have : Nat.beq a a = true := Nat.beq_refl a
  rw [this] at h
  cases h
theorem ix_ex_Q (mi : Nat) (e : ix_E) (hk : ix_kb mi e = true) (ls : ix_L) (st : List Value) (h : ix_H) : ix_Q h.1 (ix_Vk (ix_kd mi)) (fun cl nx jp => ix_ex (ix_D0 cl) nx jp e ls st h) := by
  have hp : h.1 = h.1 := rfl
  obtain ⟨pc, ins, len, ct, a, b, c, d, v⟩ := e
  cases ins
  case new => cases hk
  case newarray => cases hk
  case anewarray => cases hk
  case aastore => cases hk
  case ireturn =>
    have h2 : ix_kd mi = 2 := ix_beq hk
    unfold ix_ex
    dsimp only
    rcases st with _ | ⟨x, _ | ⟨y, st⟩⟩
    · exact ix_Q_0
    · cases x <;> first | exact ix_Q_0 | exact ix_Q_nar hp ⟨fun h => by omega, fun _ => ⟨_, rfl⟩⟩
    · exact ix_Q_0
  case areturn =>
    have h2 : ix_kd mi = 3 := ix_beq hk
    unfold ix_ex
    dsimp only
    rcases st with _ | ⟨x, _ | ⟨y, st⟩⟩
    · exact ix_Q_0
    · cases x <;> first | exact ix_Q_0 | exact ix_Q_c hp ⟨fun h => by omega, fun h => by omega⟩
    · exact ix_Q_0
  case return_ =>
    have h2 : ix_kd mi = 1 := ix_beq hk
    unfold ix_ex
    dsimp only
    rcases st with _ | ⟨x, st⟩
    · exact ix_Q_c hp ⟨fun _ => rfl, fun h => by omega⟩
    · exact ix_Q_0
  case putfield i =>
    unfold ix_ex
    dsimp only
    have hb : Nat.beq c 2 = false := by
      have h1 : (!Nat.beq c 2) = true := hk
      cases hz : Nat.beq c 2
      · rfl
      · rw [hz] at h1; cases h1
    rcases st with _ | ⟨x, st⟩
    · exact ix_Q_0
    · exact ix_Q_popR fun _ _ => ix_Q_put hp hb fun _ => ix_Q_m hp _ _ _
  case invokestatic i =>
    unfold ix_ex
    dsimp only
    have h1 : (Nat.beq c 2 || !Nat.beq (ix_kd a) 0) = true := hk
    cases hz : Nat.beq c 2
    · rw [hz] at h1
      exact ix_Q_call hp (ix_nb h1)
    · exact ix_Q_popI fun _ _ => ix_Q_popI fun _ _ => ix_Q_popR fun _ _ => ix_Q_popI fun _ _ => ix_Q_popR fun _ _ => ix_Q_bif (ix_Q_cpy fun _ => ix_Q_m hp _ _ _) ix_Q_0
  case invokevirtual i =>
    unfold ix_ex
    dsimp only
    exact ix_Q_recv (ix_Q_call hp (ix_nb hk))
  case invokespecial i =>
    unfold ix_ex
    dsimp only
    have h1 : Nat.beq c 2 = true := hk
    rw [h1]
    exact ix_Q_popR fun _ _ => ix_Q_bif (ix_Q_n hp _ _) ix_Q_0
  all_goals (unfold ix_ex; dsimp only)
  all_goals try exact ix_Q_0
  all_goals first
    | exact ix_Q_n hp _ _
    | exact ix_Q_j hp _ _ _
    | exact ix_Q_popI fun _ _ => ix_Q_n hp _ _
    | exact ix_Q_popI fun _ _ => ix_Q_popI fun _ _ => ix_Q_n hp _ _
    | exact ix_Q_popI fun _ _ => ix_Q_popI fun _ _ => ix_Q_if ix_Q_0 (ix_Q_n hp _ _)
    | exact ix_Q_bif (ix_Q_n hp _ _) (ix_Q_n hp _ _)
    | exact ix_Q_bif (ix_Q_n hp _ _) (ix_Q_bif (ix_Q_n hp _ _) (ix_Q_n hp _ _))
    | exact ix_Q_popI fun _ _ => ix_Q_bif (ix_Q_n hp _ _) ix_Q_0
    | exact ix_Q_popR fun _ _ => ix_Q_bif (ix_Q_n hp _ _) ix_Q_0
    | exact ix_Q_popR fun _ _ => ix_Q_get fun _ => ix_Q_n hp _ _
    | exact ix_Q_popI fun _ _ => ix_Q_popR fun _ _ => ix_Q_arr fun _ => ix_Q_if ix_Q_0 (ix_Q_n hp _ _)
    | exact ix_Q_popI fun _ _ => ix_Q_popI fun _ _ => ix_Q_popR fun _ _ => ix_Q_own fun _ => ix_Q_if ix_Q_0 (ix_Q_m hp _ _ _)
    | exact ix_Q_popI fun _ _ => ix_Q_sw (fun _ => ix_Q_j hp _ _ _) _ _ _ _
    | exact ix_Q_popI fun _ _ => ix_Q_lk (fun _ => ix_Q_j hp _ _ _) _ _ _
    | skip
  all_goals first
    | (rcases ix_n ls a with _ | _ | x
       · exact ix_Q_0
       · exact ix_Q_0
       · cases x <;> first | exact ix_Q_0 | exact ix_Q_n hp _ _)
    | (rcases st with _ | ⟨x, st⟩ <;> first | exact ix_Q_0 | exact ix_Q_n hp _ _)
    | (rcases st with _ | ⟨x, _ | ⟨y, st⟩⟩ <;> first | exact ix_Q_0 | exact ix_Q_n hp _ _)
    | skip
  all_goals first
    | (rename_i cd off
       cases cd <;> dsimp only <;> first
         | exact ix_Q_popI fun _ _ => ix_Q_if (ix_Q_j hp _ _ _) (ix_Q_n hp _ _)
         | exact ix_Q_popI fun _ _ => ix_Q_if (ix_Q_n hp _ _) (ix_Q_j hp _ _ _)
         | exact ix_Q_popI fun _ _ => ix_Q_popI fun _ _ => ix_Q_if (ix_Q_j hp _ _ _) (ix_Q_n hp _ _)
         | exact ix_Q_popI fun _ _ => ix_Q_popI fun _ _ => ix_Q_if (ix_Q_n hp _ _) (ix_Q_j hp _ _ _))
    | (refine ix_Q_popR fun r st => ?_
       rcases ix_sh h r with _ | ⟨q, n, sl⟩
       · exact ix_Q_0
       · exact ix_Q_bif (ix_Q_n hp _ _) ix_Q_0)
    | (refine ix_Q_popI fun i st => ix_Q_popR fun r st => ?_
       rcases ix_n h.1 r with _ | ⟨q, n, sl⟩
       · exact ix_Q_0
       · exact ix_Q_bif (ix_Q_if ix_Q_0 (ix_Q_ch (fun _ => ix_Q_n hp _ _) _ _ _)) ix_Q_0)
theorem ix_ex_pr {mi : Nat} {cl : ix_CL} {nx : ix_NX} {jp : ix_JP} (hc : ∀ a as h x, ix_kd a ≠ 0 → cl a as h = some x → x.2.1 = h.1) (hn : ∀ ls st h x, nx ls st h = some x → x.2.1 = h.1 ∧ ix_Vk (ix_kd mi) x.1) (hj : ∀ t ls st h x, jp t ls st h = some x → x.2.1 = h.1 ∧ ix_Vk (ix_kd mi) x.1) (e : ix_E) (hk : ix_kb mi e = true) (ls : ix_L) (st : List Value) (h : ix_H) (x : Value × ix_H) (hx : ix_ex (ix_D0 cl) nx jp e ls st h = some x) : x.2.1 = h.1 ∧ ix_Vk (ix_kd mi) x.1 := by
  rcases ix_ex_Q mi e hk ls st h with ⟨y, hp, hy⟩ | ⟨l2, s2, h2, hp, hy⟩ | ⟨t, l2, s2, h2, hp, hy⟩ | ⟨a, as, h2, l2, f, hp, ha, hy⟩
  · exact hp x ((hy cl nx jp).symm.trans hx)
  · rw [← hp]; exact hn _ _ _ _ ((hy cl nx jp).symm.trans hx)
  · rw [← hp]; exact hj _ _ _ _ _ ((hy cl nx jp).symm.trans hx)
  · obtain ⟨y, h1, h3⟩ := Option.bind_eq_some_iff.mp ((hy cl nx jp).symm.trans hx)
    have h4 := hn _ _ _ _ h3
    exact ⟨h4.1.trans ((hc _ _ _ _ ha h1).trans hp), h4.2⟩
theorem ix_go_pr {mi : Nat} (tab : List ix_E) (ht : ∀ e ∈ tab, ix_kb mi e = true) {cb : ix_JP} {cl : ix_CL} (hb : ∀ t ls st h x, cb t ls st h = some x → x.2.1 = h.1 ∧ ix_Vk (ix_kd mi) x.1) (hc : ∀ a as h x, ix_kd a ≠ 0 → cl a as h = some x → x.2.1 = h.1) : ∀ (k : Nat) (rest : List ix_E), (∀ e ∈ rest, e ∈ tab) → ∀ (pc : Nat) (ls : ix_L) (st : List Value) (h : ix_H) (x : Value × ix_H), ix_go tab cb (ix_D0 cl) k rest pc ls st h = some x → x.2.1 = h.1 ∧ ix_Vk (ix_kd mi) x.1 := by
  intro k
  induction k with
  | zero => intro rest _ pc ls st h x hx; exact absurd hx (by simp [ix_go])
  | succ k ih =>
    intro rest hin pc ls st h x hx
    rcases rest with _ | ⟨e, rest⟩
    · exact absurd hx (by simp [ix_go])
    · unfold ix_go at hx
      obtain ⟨h1, hx⟩ := ix_bif_s hx
      rcases hr : e.2.2.2.1 with _ | kp
      · rw [hr] at hx
        exact ix_ex_pr (nx := ix_go tab cb (ix_D0 cl) k rest (pc + e.2.2.1)) (jp := fun t => ix_go tab cb (ix_D0 cl) k (ix_fd tab t) t) hc (fun ls st h x => ih _ (fun q hq => hin q (List.mem_cons_of_mem _ hq)) _ ls st h x) (fun t ls st h x => ih _ (fun q hq => (List.dropWhile_sublist _).subset hq) _ ls st h x) e (ht e (hin e List.mem_cons_self)) ls st h x hx
      · rw [hr] at hx
        exact hb _ _ _ _ _ hx
theorem ix_at_pr {mi : Nat} (tab : List ix_E) (ht : ∀ e ∈ tab, ix_kb mi e = true) {cb : ix_JP} {cl : ix_CL} (hb : ∀ t ls st h x, cb t ls st h = some x → x.2.1 = h.1 ∧ ix_Vk (ix_kd mi) x.1) (hc : ∀ a as h x, ix_kd a ≠ 0 → cl a as h = some x → x.2.1 = h.1) (pc : Nat) (ls : ix_L) (st : List Value) (h : ix_H) (x : Value × ix_H) (hx : ix_at tab cb (ix_D0 cl) pc ls st h = some x) : x.2.1 = h.1 ∧ ix_Vk (ix_kd mi) x.1 := by
  unfold ix_at at hx
  have hsub : ∀ t, ∀ q ∈ ix_fd tab t, q ∈ tab := fun t q hq => (List.dropWhile_sublist _).subset hq
  rcases hq : ix_fd tab pc with _ | ⟨e, rest⟩
  · rw [hq] at hx; exact absurd hx (by simp)
  · rw [hq] at hx
    have hmem : ∀ q ∈ e :: rest, q ∈ tab := fun q h => hsub pc q (by rw [hq]; exact h)
    exact ix_ex_pr (nx := ix_go tab cb (ix_D0 cl) 3000 rest (pc + e.2.2.1)) (jp := fun t => ix_go tab cb (ix_D0 cl) 3000 (ix_fd tab t) t) hc (fun ls st h x => ix_go_pr tab ht hb hc _ _ (fun q hq => hmem q (List.mem_cons_of_mem _ hq)) _ ls st h x) (fun t ls st h x => ix_go_pr tab ht hb hc _ _ (hsub t) _ ls st h x) e (ht e (hmem e List.mem_cons_self)) ls st h x hx
theorem ix_kb_tab {mi : Nat} (h : ix_kd mi ≠ 0) : ∀ e ∈ ix_tab mi, ix_kb mi e = true := by
  have hlt : mi < 301 := by
    have hl : ix_kds.length = 301 := by decide +kernel
    unfold ix_kd at h
    rcases hq : ix_n ix_kds mi with _ | k
    · rw [hq] at h; exact absurd rfl h
    · have := ix_n_lt hq
      rw [hl] at this
      exact this
  have h1 := List.all_eq_true.mp ix_kb_all mi (List.mem_range.mpr hlt)
  rcases Bool.or_eq_true_iff.mp h1 with h2 | h2
  · exact absurd (ix_beq h2) h
  · exact List.all_eq_true.mp h2
theorem ix_sem_pr : ∀ (n mi r pc : Nat) (ls : ix_L) (st : List Value) (h : ix_H) (x : Value × ix_H), ix_kd mi ≠ 0 → ix_sem n mi r pc ls st h = some x → x.2.1 = h.1 ∧ ix_Vk (ix_kd mi) x.1 := by
  intro n
  induction n with
  | zero => intro mi r pc ls st h x _ hx; exact absurd hx (by simp [ix_sem])
  | succ n ih =>
    intro mi r pc ls st h x hk hx
    refine ix_at_pr (ix_tab mi) (ix_kb_tab hk) (fun t ls st h x hx => ih mi r t ls st h x hk hx) (fun a as h x ha hx => ?_) pc ls st h x hx
    unfold ix_clS at hx
    obtain ⟨-, hx⟩ := ix_bif_s hx
    exact (ih _ _ _ _ _ _ _ ha hx).1
def ix_toI (v : Value) : Int32 := match v with
  | .int y => y
  | _ => 0
/-- a call's answer and heap, as a caller goes on with them -/
def ix_K0 (kd : Nat) (o : ix_R) (S : List ix_Sh) (k : Value → ix_H → ix_R) : ix_R := o.bind fun x => match kd with
  | 0 => k x.1 x.2
  | 1 => k .null (S, x.2.2)
  | 2 => k (.int (ix_toI x.1)) (S, x.2.2)
  | _ => k x.1 (S, x.2.2)
noncomputable def ix_K (r : Nat) : ix_KL := fun a as h k => ix_K0 (ix_kd a) (ix_clS ix_S r a as h) h.1 k
theorem ix_K_eq (r : Nat) : ix_D0 (ix_clS ix_S r) = ix_K r := by
  funext a as h k
  unfold ix_D0 ix_K ix_K0
  cases hq : ix_clS ix_S r a as h with
  | none => rfl
  | some x =>
    show k x.1 x.2 = _
    by_cases h0 : ix_kd a = 0
    · rw [h0]; rfl
    · have hx := hq
      unfold ix_clS at hx
      obtain ⟨-, hx⟩ := ix_bif_s hx
      obtain ⟨n, hn⟩ := ix_S_iff.mp hx
      obtain ⟨h1, h2, h3⟩ := ix_sem_pr n _ _ _ _ _ _ _ h0 hn
      obtain ⟨xv, xS, xs⟩ := x
      dsimp only at h1 h2 h3
      subst h1
      show k xv (h.1, xs) = (match ix_kd a with
        | 0 => k xv (h.1, xs)
        | 1 => k .null (h.1, xs)
        | 2 => k (.int (ix_toI xv)) (h.1, xs)
        | _ => k xv (h.1, xs))
      rcases hk : ix_kd a with _ | _ | _ | z
      · rfl
      · rw [h2 hk]
        rfl
      · obtain ⟨y, hy⟩ := h3 hk
        rw [hy]
        rfl
      · rfl
/-- what a method does, called -/
noncomputable def ix_F (a : Nat) (as : List Value) (h : ix_H) : ix_R := ix_S a (ix_rk a as) 0 (ix_in a as) [] h
theorem ix_eq (mi r pc : Nat) (ls : ix_L) (st : List Value) (h : ix_H) : ix_S mi r pc ls st h = ix_at (ix_tab mi) (ix_S mi r) (ix_K r) pc ls st h := by
  rw [ix_fix, ix_K_eq]
