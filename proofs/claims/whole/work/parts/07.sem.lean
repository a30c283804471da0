abbrev ix_CL : Type := Nat → List Value → ix_H → ix_R
abbrev ix_NX : Type := ix_L → List Value → ix_H → ix_R
abbrev ix_JP : Type := Nat → ix_L → List Value → ix_H → ix_R
/-- what an instruction can do: end, go on, jump, or call and go on -/
def ix_G (F : ix_CL → ix_NX → ix_JP → ix_R) : Prop :=
  (∃ x, ∀ cl nx jp, F cl nx jp = x) ∨ (∃ ls st h, ∀ cl nx jp, F cl nx jp = nx ls st h) ∨ (∃ t ls st h, ∀ cl nx jp, F cl nx jp = jp t ls st h) ∨
  ∃ (a : Nat) (as : List Value) (h : ix_H) (ls : ix_L) (f : Value × ix_H → List Value), ∀ cl nx jp, F cl nx jp = (cl a as h).bind (fun x => nx ls (f x) x.2)
theorem ix_G_c (x : ix_R) : ix_G (fun _ _ _ => x) := Or.inl ⟨x, fun _ _ _ => rfl⟩
theorem ix_G_n (ls st h) : ix_G (fun _ nx _ => nx ls st h) := Or.inr (Or.inl ⟨ls, st, h, fun _ _ _ => rfl⟩)
theorem ix_G_j (t ls st h) : ix_G (fun _ _ jp => jp t ls st h) := Or.inr (Or.inr (Or.inl ⟨t, ls, st, h, fun _ _ _ => rfl⟩))
theorem ix_G_if {c : Prop} [Decidable c] {F G : ix_CL → ix_NX → ix_JP → ix_R} (hF : ix_G F) (hG : ix_G G) : ix_G (fun cl nx jp => if c then F cl nx jp else G cl nx jp) := by
  by_cases h : c
  · simp only [if_pos h]; exact hF
  · simp only [if_neg h]; exact hG
theorem ix_G_bif {c : Bool} {F G : ix_CL → ix_NX → ix_JP → ix_R} (hF : ix_G F) (hG : ix_G G) : ix_G (fun cl nx jp => bif c then F cl nx jp else G cl nx jp) := by
  cases c
  · exact hG
  · exact hF
theorem ix_G_popI {st : List Value} {k : ix_CL → ix_NX → ix_JP → Int32 → List Value → ix_R} (H : ∀ x r, ix_G (fun cl nx jp => k cl nx jp x r)) : ix_G (fun cl nx jp => ix_popI st (k cl nx jp)) := by
  rcases st with _ | ⟨v, r⟩
  · exact ix_G_c none
  · cases v <;> first | exact H _ _ | exact ix_G_c none
theorem ix_G_popR {st : List Value} {k : ix_CL → ix_NX → ix_JP → Nat → List Value → ix_R} (H : ∀ x r, ix_G (fun cl nx jp => k cl nx jp x r)) : ix_G (fun cl nx jp => ix_popR st (k cl nx jp)) := by
  rcases st with _ | ⟨v, r⟩
  · exact ix_G_c none
  · cases v <;> first | exact H _ _ | exact ix_G_c none
theorem ix_G_arr {h : ix_H} {r q : Nat} {k : ix_CL → ix_NX → ix_JP → Nat → ix_R} (H : ∀ n, ix_G (fun cl nx jp => k cl nx jp n)) : ix_G (fun cl nx jp => ix_arr h r q (k cl nx jp)) := by
  unfold ix_arr
  rcases ix_sh h r with _ | ⟨q, n, sl⟩
  · exact ix_G_c none
  · exact ix_G_bif (H _) (ix_G_c none)
theorem ix_G_own {h : ix_H} {r q : Nat} {k : ix_CL → ix_NX → ix_JP → Nat → ix_R} (H : ∀ n, ix_G (fun cl nx jp => k cl nx jp n)) : ix_G (fun cl nx jp => ix_own h r q (k cl nx jp)) := by
  unfold ix_own
  rcases ix_n h.1 r with _ | ⟨q, n, sl⟩
  · exact ix_G_c none
  · exact ix_G_bif (H _) (ix_G_c none)
theorem ix_G_get {h : ix_H} {r ci q : Nat} {k : ix_CL → ix_NX → ix_JP → Value → ix_R} (H : ∀ n, ix_G (fun cl nx jp => k cl nx jp n)) : ix_G (fun cl nx jp => ix_get h r ci q (k cl nx jp)) := by
  unfold ix_get
  rcases ix_sh h r with _ | ⟨q', n, sl⟩
  · exact ix_G_c none
  · refine ix_G_bif ?_ (ix_G_bif ?_ (ix_G_c none))
    · rcases ix_n sl q with _ | _ | _ | a
      · exact ix_G_c none
      · exact H _
      · exact ix_G_c none
      · exact H _
    · rcases q with _ | q
      · exact H _
      · exact H _
theorem ix_G_put {h : ix_H} {r ci q b : Nat} {v : Value} {k : ix_CL → ix_NX → ix_JP → ix_H → ix_R} (H : ∀ n, ix_G (fun cl nx jp => k cl nx jp n)) : ix_G (fun cl nx jp => ix_put h r ci q b v (k cl nx jp)) := by
  unfold ix_put
  rcases ix_n h.1 r with _ | ⟨q', n, sl⟩
  · exact ix_G_c none
  · refine ix_G_bif ?_ (ix_G_c none)
    rcases b with _ | _ | _ | b <;> cases v <;> first | exact H _ | exact ix_G_c none | exact ix_G_if (H _) (ix_G_c none)
theorem ix_G_ch {k : ix_CL → ix_NX → ix_JP → Nat → ix_R} (H : ∀ n, ix_G (fun cl nx jp => k cl nx jp n)) (i : Nat) : ∀ (sl : List (Option (Option Nat))) (j : Nat), ix_G (fun cl nx jp => ix_ch sl j i (k cl nx jp))
  | [], _ => ix_G_c none
  | none :: _, _ => ix_G_c none
  | some none :: _, _ => ix_G_c none
  | some (some a) :: l, j => by
    unfold ix_ch
    exact ix_G_if (H a) (ix_G_ch H i l (j + 1))
theorem ix_G_sw {k : ix_CL → ix_NX → ix_JP → Int → ix_R} (H : ∀ n, ix_G (fun cl nx jp => k cl nx jp n)) (d x : Int) : ∀ (sl : List Int) (j : Int), ix_G (fun cl nx jp => ix_sw sl j d x (k cl nx jp))
  | [], _ => H d
  | o :: l, j => by
    unfold ix_sw
    exact ix_G_if (H o) (ix_G_sw H d x l (j + 1))
theorem ix_G_lk {k : ix_CL → ix_NX → ix_JP → Int → ix_R} (H : ∀ n, ix_G (fun cl nx jp => k cl nx jp n)) (d x : Int) : ∀ (sl : List (Int × Int)), ix_G (fun cl nx jp => ix_lk sl d x (k cl nx jp))
  | [] => H d
  | o :: l => by
    unfold ix_lk
    exact ix_G_if (H o.2) (ix_G_lk H d x l)
theorem ix_G_new {h : ix_H} {sh : ix_Sh} {k : ix_CL → ix_NX → ix_JP → Nat → ix_H → ix_R} (H : ∀ x r, ix_G (fun cl nx jp => k cl nx jp x r)) : ix_G (fun cl nx jp => ix_new h sh (k cl nx jp)) := by
  unfold ix_new
  exact ix_G_bif (H _ _) (ix_G_c none)
theorem ix_G_cpy {h : ix_H} {n dp : Int32} {q : Nat} {sp : Int32} {p : Nat} {k : ix_CL → ix_NX → ix_JP → ix_H → ix_R} (H : ∀ n, ix_G (fun cl nx jp => k cl nx jp n)) : ix_G (fun cl nx jp => ix_cpy h n dp q sp p (k cl nx jp)) := by
  unfold ix_cpy
  exact ix_G_own fun _ => ix_G_own fun _ => ix_G_if (ix_G_c none) (H _)
theorem ix_G_call {ls : ix_L} {st : List Value} {h : ix_H} {a b c : Nat} : ix_G (fun cl nx _ => ix_call cl nx ls st h a b c) := by
  unfold ix_call
  rcases ix_popN b [] st with _ | ⟨as, st'⟩
  · exact ix_G_c none
  · refine ix_G_bif ?_ (ix_G_c none)
    exact Or.inr (Or.inr (Or.inr ⟨a, as, h, ls, fun x => bif Nat.beq c 0 then st' else x.1 :: st', fun _ _ _ => rfl⟩))
theorem ix_G_recv {h : ix_H} {b d : Nat} {st : List Value} {F : ix_CL → ix_NX → ix_JP → ix_R} (H : ix_G F) : ix_G (fun cl nx jp => ix_recv h b d st (F cl nx jp)) := by
  unfold ix_recv
  rcases ix_n st (b - 1) with _ | v
  · exact ix_G_c none
  · cases v <;> first | exact ix_G_c none | exact ix_G_bif H (ix_G_c none)
theorem ix_ex_G (e : ix_E) (ls : ix_L) (st : List Value) (h : ix_H) : ix_G (fun cl nx jp => ix_ex cl nx jp e ls st h) := by
  obtain ⟨pc, ins, len, ct, a, b, c, d, v⟩ := e
  cases ins <;> unfold ix_ex <;> try exact ix_G_c _
  all_goals first
    | exact ix_G_n _ _ _
    | exact ix_G_j _ _ _ _
    | exact ix_G_popI fun _ _ => ix_G_n _ _ _
    | exact ix_G_popI fun _ _ => ix_G_popI fun _ _ => ix_G_n _ _ _
    | exact ix_G_popI fun _ _ => ix_G_popI fun _ _ => ix_G_if (ix_G_c _) (ix_G_n _ _ _)
    | exact ix_G_bif (ix_G_n _ _ _) (ix_G_n _ _ _)
    | exact ix_G_popI fun _ _ => ix_G_bif (ix_G_n _ _ _) (ix_G_c _)
    | exact ix_G_popR fun _ _ => ix_G_bif (ix_G_n _ _ _) (ix_G_c _)
    | exact ix_G_popR fun _ _ => ix_G_get fun _ => ix_G_n _ _ _
    | exact ix_G_popI fun _ _ => ix_G_popR fun _ _ => ix_G_arr fun _ => ix_G_if (ix_G_c _) (ix_G_n _ _ _)
    | exact ix_G_popI fun _ _ => ix_G_popI fun _ _ => ix_G_popR fun _ _ => ix_G_own fun _ => ix_G_if (ix_G_c _) (ix_G_n _ _ _)
    | exact ix_G_popI fun _ _ => ix_G_sw (fun _ => ix_G_j _ _ _ _) _ _ _ _
    | exact ix_G_popI fun _ _ => ix_G_lk (fun _ => ix_G_j _ _ _ _) _ _ _
    | exact ix_G_new fun _ _ => ix_G_n _ _ _
    | exact ix_G_recv ix_G_call
    | exact ix_G_bif (ix_G_popI fun _ _ => ix_G_popI fun _ _ => ix_G_popR fun _ _ => ix_G_popI fun _ _ => ix_G_popR fun _ _ => ix_G_bif (ix_G_cpy fun _ => ix_G_n _ _ _) (ix_G_c _)) ix_G_call
    | exact ix_G_bif (ix_G_popR fun _ _ => ix_G_n _ _ _) ix_G_call
    | exact ix_G_popI fun _ _ => ix_G_if (ix_G_c _) (ix_G_new fun _ _ => ix_G_n _ _ _)
    | skip
  all_goals first
    | (rcases ix_n ls a with _ | _ | x
       · exact ix_G_c _
       · exact ix_G_c _
       · cases x <;> first | exact ix_G_c _ | exact ix_G_n _ _ _)
    | (rcases st with _ | ⟨x, st⟩ <;> first | exact ix_G_c _ | exact ix_G_n _ _ _ | exact ix_G_popR fun _ _ => ix_G_put fun _ => ix_G_n _ _ _)
    | (rcases st with _ | ⟨x, _ | ⟨y, st⟩⟩ <;> first | exact ix_G_c _ | exact ix_G_n _ _ _)
    | skip
  all_goals sorry
