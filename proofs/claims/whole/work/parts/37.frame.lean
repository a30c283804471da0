/-! what a method can reach it may write, no other: G says which cells are within its reach -/
def ix_ncs : List Bool := [false, false, true, true, true, true, true, true, true, true, true, true, true, true, true, true, true, true, true, true, true, true, true, true, true, true, true, true, true, true, true, true, true, true, true, true, true, true, true, true, true, true, false, true, true, false, true, true, true, true, true, true, true, true, true, false, true, true, true, true, true, true, true, true, false, true, true, true, true, true, true, true, true, true, true, true, true, true, true, true, true, true, false, true, true, true, false, true, true, true, true, true, true, true, true, true, true, true, true, true, true, true, true, true, true, true, true, true, true, true, true, true, true, true, true, true, true, true, true, true, true, true, true, true, true, true, false, true, true, true, true, true, false, true, true, true, true, true, true, true, true, true, true, true, true, true, false, true, true, true, false, true, true, true, true, true, false, true, true, true, true, true, true, true, true, true, true, true, true, true, true, true, true, true, true, true, true, true, true, true, true, true, true, true, true, true, true, true, true, true, true, true, true, true, true, true, true, true, true, true, true, true, true, true, true, true, true, true, true, true, true, true, true, true, true, true, true, true, true, true, true, true, true, true, true, true, true, true, true, true, true, true, true, true, true, true, true, true, true, true, true, true, true, true, true, true, true, true, true, true, true, true, true, true, true, true, true, true, true, true, true, true, true, true, true, true, true, true, true, true, true, true, true, true, true, true, true, true, true, true, true, true, true, true, true, true, true, true, true, true, true, true, true, true, true, true, true, true, true, true, true]
def ix_nc (a : Nat) : Bool := match ix_n ix_ncs a with
  | some k => k
  | none => false
def ix_kf (e : ix_E) : Bool := match e with
  | (_, ins, _, _, a, b, c, _, _) => match ins with
    | .new _ => false
    | .newarray _ => false
    | .anewarray _ => false
    | .aastore => false
    | .invokestatic _ => Nat.beq c 2 || ix_nc a
    | .invokevirtual _ => ix_nc a
    | .invokespecial _ => Nat.beq c 2
    | .ldc _ => Nat.beq b 0 || Nat.ble 1000 a
    | .getstatic _ => Nat.beq b 0 || Nat.ble 1000 a
    | _ => true
theorem ix_kf_all : (List.range 301).all (fun mi => !ix_nc mi || (ix_tab mi).all ix_kf) = true := by decide +kernel
section Fm
variable (G : Nat → Bool)
def ix_vr (v : Value) : Prop := ∀ a, v = .ref a → G a = true
def ix_lr (ls : ix_L) : Prop := ∀ v, some v ∈ ls → ix_vr G v
def ix_sr (st : List Value) : Prop := ∀ v ∈ st, ix_vr G v
def ix_jr (S : List ix_Sh) : Prop := ∀ r sh, ix_n S r = some sh → G r = true → ∀ a, some (some a) ∈ sh.2.2 → G a = true
def ix_fq (σ0 : ix_St) (h : ix_H) : Prop := ix_jr G h.1 ∧ h.1.length ≤ 900 ∧ ∀ c, G c = false ∨ 900 ≤ c → h.2 c = σ0 c
def ix_Y (σ0 : ix_St) (F : ix_CL → ix_NX → ix_JP → ix_R) : Prop :=
  (∃ x, (∀ y, x = some y → ix_fq G σ0 y.2 ∧ ix_vr G y.1) ∧ ∀ cl nx jp, F cl nx jp = x) ∨ (∃ ls st h, (ix_lr G ls ∧ ix_sr G st ∧ ix_fq G σ0 h) ∧ ∀ cl nx jp, F cl nx jp = nx ls st h) ∨ (∃ t ls st h, (ix_lr G ls ∧ ix_sr G st ∧ ix_fq G σ0 h) ∧ ∀ cl nx jp, F cl nx jp = jp t ls st h) ∨
  ∃ (a : Nat) (as : List Value) (h : ix_H) (ls : ix_L) (f : Value × ix_H → List Value), (ix_nc a = true ∧ ix_sr G as ∧ ix_fq G σ0 h ∧ ix_lr G ls ∧ ∀ x, ix_vr G x.1 → ix_sr G (f x)) ∧ ∀ cl nx jp, F cl nx jp = (cl a as h).bind (fun x => nx ls (f x) x.2)
variable {G} {σ0 : ix_St}
theorem ix_vr_int (x : Int32) : ix_vr G (.int x) := fun a h => by cases h
theorem ix_vr_nul : ix_vr G .null := fun a h => by cases h
theorem ix_vr_ref {a : Nat} (h : G a = true) : ix_vr G (.ref a) := fun b e => by cases e; exact h
theorem ix_sr_c {v : Value} {st : List Value} (h : ix_vr G v) (hs : ix_sr G st) : ix_sr G (v :: st) := fun w hw => by
  rcases List.mem_cons.mp hw with rfl | hw
  · exact h
  · exact hs w hw
theorem ix_sr_i {x : Int32} {st : List Value} (hs : ix_sr G st) : ix_sr G (.int x :: st) := ix_sr_c (ix_vr_int x) hs
theorem ix_sr_t {v : Value} {st : List Value} (h : ix_sr G (v :: st)) : ix_sr G st := fun w hw => h w (List.mem_cons_of_mem _ hw)
theorem ix_sr_h {v : Value} {st : List Value} (h : ix_sr G (v :: st)) : ix_vr G v := h v List.mem_cons_self
theorem ix_lr_s {ls : ix_L} {i : Nat} {v : Value} (h : ix_lr G ls) (hv : ix_vr G v) : ix_lr G (ls.set i (some v)) := fun w hw => by
  rcases List.mem_or_eq_of_mem_set hw with h1 | h1
  · exact h w h1
  · cases h1; exact hv
theorem ix_fq_row {h : ix_H} (hf : ix_fq G σ0 h) {r : Nat} {sh : ix_Sh} (hr : ix_n h.1 r = some sh) (hg : G r = true) (f : Nat → Int32) : ix_fq G σ0 (h.1, ix_row h.2 r f) := by
  refine ⟨hf.1, hf.2.1, fun c hc => ?_⟩
  have hl := ix_n_lt hr
  have hne : ¬ c = r := by
    intro e
    subst e
    rcases hc with hc | hc
    · rw [hg] at hc; cases hc
    · have := hf.2.1; omega
  show ix_row h.2 r f c = _
  unfold ix_row
  rw [if_neg hne]
  exact hf.2.2 c hc
theorem ix_Y_0 : ix_Y G σ0 (fun _ _ _ => none) := Or.inl ⟨none, (fun _ h => by cases h), fun _ _ _ => rfl⟩
theorem ix_Y_c {v : Value} {h : ix_H} (hp : ix_fq G σ0 h) (hr : ix_vr G v) : ix_Y G σ0 (fun _ _ _ => some (v, h)) := Or.inl ⟨some (v, h), (fun _ e => by cases e; exact ⟨hp, hr⟩), fun _ _ _ => rfl⟩
theorem ix_Y_n {h : ix_H} {ls : ix_L} {st : List Value} (hl : ix_lr G ls) (hs : ix_sr G st) (hp : ix_fq G σ0 h) : ix_Y G σ0 (fun _ nx _ => nx ls st h) := Or.inr (Or.inl ⟨ls, st, h, ⟨hl, hs, hp⟩, fun _ _ _ => rfl⟩)
theorem ix_Y_j {h : ix_H} {ls : ix_L} {st : List Value} (hl : ix_lr G ls) (hs : ix_sr G st) (hp : ix_fq G σ0 h) (t : Nat) : ix_Y G σ0 (fun _ _ jp => jp t ls st h) := Or.inr (Or.inr (Or.inl ⟨t, ls, st, h, ⟨hl, hs, hp⟩, fun _ _ _ => rfl⟩))
theorem ix_Y_if {c : Prop} [Decidable c] {F H : ix_CL → ix_NX → ix_JP → ix_R} (hF : ix_Y G σ0 F) (hG : ix_Y G σ0 H) : ix_Y G σ0 (fun cl nx jp => if c then F cl nx jp else H cl nx jp) := by
  by_cases h : c
  · simp only [if_pos h]; exact hF
  · simp only [if_neg h]; exact hG
theorem ix_Y_bif {c : Bool} {F H : ix_CL → ix_NX → ix_JP → ix_R} (hF : ix_Y G σ0 F) (hG : ix_Y G σ0 H) : ix_Y G σ0 (fun cl nx jp => bif c then F cl nx jp else H cl nx jp) := by
  cases c
  · exact hG
  · exact hF
theorem ix_Y_popI {st : List Value} (hs : ix_sr G st) {k : ix_CL → ix_NX → ix_JP → Int32 → List Value → ix_R} (H : ∀ x r, ix_sr G r → ix_Y G σ0 (fun cl nx jp => k cl nx jp x r)) : ix_Y G σ0 (fun cl nx jp => ix_popI st (k cl nx jp)) := by
  rcases st with _ | ⟨v, r⟩
  · exact ix_Y_0
  · cases v <;> first | exact H _ _ (ix_sr_t hs) | exact ix_Y_0
theorem ix_Y_popR {st : List Value} (hs : ix_sr G st) {k : ix_CL → ix_NX → ix_JP → Nat → List Value → ix_R} (H : ∀ x r, G x = true → ix_sr G r → ix_Y G σ0 (fun cl nx jp => k cl nx jp x r)) : ix_Y G σ0 (fun cl nx jp => ix_popR st (k cl nx jp)) := by
  rcases st with _ | ⟨v, r⟩
  · exact ix_Y_0
  · cases v <;> first | exact H _ _ (ix_sr_h hs _ rfl) (ix_sr_t hs) | exact ix_Y_0
theorem ix_Y_arr {h : ix_H} {r q : Nat} {k : ix_CL → ix_NX → ix_JP → Nat → ix_R} (H : ∀ n, ix_Y G σ0 (fun cl nx jp => k cl nx jp n)) : ix_Y G σ0 (fun cl nx jp => ix_arr h r q (k cl nx jp)) := by
  unfold ix_arr
  rcases ix_sh h r with _ | ⟨q, n, sl⟩
  · exact ix_Y_0
  · exact ix_Y_bif (H _) ix_Y_0
theorem ix_Y_own {h : ix_H} {r q : Nat} {k : ix_CL → ix_NX → ix_JP → Nat → ix_R} (H : ∀ n sh, ix_n h.1 r = some sh → ix_Y G σ0 (fun cl nx jp => k cl nx jp n)) : ix_Y G σ0 (fun cl nx jp => ix_own h r q (k cl nx jp)) := by
  unfold ix_own
  rcases hq : ix_n h.1 r with _ | ⟨q, n, sl⟩
  · exact ix_Y_0
  · exact ix_Y_bif (H _ _ hq) ix_Y_0
theorem ix_Y_get (hE : ∀ c, 1000 ≤ c → G c = true) {h : ix_H} (hf : ix_fq G σ0 h) {r ci q : Nat} (hr : G r = true) {k : ix_CL → ix_NX → ix_JP → Value → ix_R} (H : ∀ v, ix_vr G v → ix_Y G σ0 (fun cl nx jp => k cl nx jp v)) : ix_Y G σ0 (fun cl nx jp => ix_get h r ci q (k cl nx jp)) := by
  unfold ix_get
  rcases hs : ix_sh h r with _ | ⟨q', n, sl⟩
  · exact ix_Y_0
  · refine ix_Y_bif ?_ (ix_Y_bif ?_ ix_Y_0)
    · rcases hq : ix_n sl q with _ | _ | _ | a
      · exact ix_Y_0
      · exact H _ (ix_vr_int _)
      · exact ix_Y_0
      · refine H _ (ix_vr_ref ?_)
        rcases ix_sh_s hs with ⟨-, h2⟩ | ⟨i0, -, h2⟩
        · exact hf.1 r _ h2 hr a (ix_mem_n hq)
        · rcases i0 with _ | _ | _ | _ | _ | _ | _ | _ | _ | _ | _ | _ | i0 <;> (cases h2; try cases hq)
    · rcases q with _ | q
      · exact H _ (ix_vr_ref (hE _ (by omega)))
      · exact H _ (ix_vr_int _)
theorem ix_Y_put {h : ix_H} (hp : ix_fq G σ0 h) {r ci q b : Nat} (hr : G r = true) {v : Value} (hv : ix_vr G v) {k : ix_CL → ix_NX → ix_JP → ix_H → ix_R} (H : ∀ n, ix_fq G σ0 n → ix_Y G σ0 (fun cl nx jp => k cl nx jp n)) : ix_Y G σ0 (fun cl nx jp => ix_put h r ci q b v (k cl nx jp)) := by
  unfold ix_put
  rcases hq : ix_n h.1 r with _ | ⟨q', n, sl⟩
  · exact ix_Y_0
  · refine ix_Y_bif ?_ ix_Y_0
    have h1 : ∀ x, ix_fq G σ0 (h.1, ix_up h.2 r q x) := fun x => ix_fq_row hp hq hr _
    have h2 : ∀ a, v = .ref a → ix_fq G σ0 (h.1.set r (q', n, sl.set q (some (some a))), h.2) := by
      intro a hva
      refine ⟨fun r2 sh hr2 hg2 a2 ha2 => ?_, by show (h.1.set r _).length ≤ 900; rw [List.length_set]; exact hp.2.1, hp.2.2⟩
      rw [ix_n_eq, List.getElem?_set] at hr2
      split at hr2
      · split at hr2
        · cases hr2
          rcases List.mem_or_eq_of_mem_set ha2 with h3 | h3
          · exact hp.1 r _ hq hr a2 h3
          · cases h3; exact hv a hva
        · cases hr2
      · exact hp.1 r2 sh (by rw [ix_n_eq]; exact hr2) hg2 a2 ha2
    rcases ix_n sl q with _ | _ | _ <;> rcases b with _ | _ | _ | b <;> cases v <;> first | exact H _ (h1 _) | exact H _ (h2 _ rfl) | exact ix_Y_0 | exact ix_Y_if (H _ (h1 _)) ix_Y_0
theorem ix_Y_ch {k : ix_CL → ix_NX → ix_JP → Nat → ix_R} (i : Nat) : ∀ (sl : List (Option (Option Nat))) (j : Nat), (∀ a, some (some a) ∈ sl → ix_Y G σ0 (fun cl nx jp => k cl nx jp a)) → ix_Y G σ0 (fun cl nx jp => ix_ch sl j i (k cl nx jp))
  | [], _, _ => ix_Y_0
  | none :: _, _, _ => ix_Y_0
  | some none :: _, _, _ => ix_Y_0
  | some (some a) :: l, j, H => by
    unfold ix_ch
    exact ix_Y_if (H a List.mem_cons_self) (ix_Y_ch i l (j + 1) (fun a ha => H a (List.mem_cons_of_mem _ ha)))
theorem ix_Y_sw {k : ix_CL → ix_NX → ix_JP → Int → ix_R} (H : ∀ n, ix_Y G σ0 (fun cl nx jp => k cl nx jp n)) (d x : Int) : ∀ (sl : List Int) (j : Int), ix_Y G σ0 (fun cl nx jp => ix_sw sl j d x (k cl nx jp))
  | [], _ => H d
  | o :: l, j => by
    unfold ix_sw
    exact ix_Y_if (H o) (ix_Y_sw H d x l (j + 1))
theorem ix_Y_lk {k : ix_CL → ix_NX → ix_JP → Int → ix_R} (H : ∀ n, ix_Y G σ0 (fun cl nx jp => k cl nx jp n)) (d x : Int) : ∀ (sl : List (Int × Int)), ix_Y G σ0 (fun cl nx jp => ix_lk sl d x (k cl nx jp))
  | [] => H d
  | o :: l => by
    unfold ix_lk
    exact ix_Y_if (H o.2) (ix_Y_lk H d x l)
theorem ix_Y_call {h : ix_H} (hp : ix_fq G σ0 h) {ls : ix_L} (hl : ix_lr G ls) {st : List Value} (hs : ix_sr G st) {a b c : Nat} (ha : ix_nc a = true) : ix_Y G σ0 (fun cl nx _ => ix_call (ix_D0 cl) nx ls st h a b c) := by
  unfold ix_call
  rcases hq : ix_popN b [] st with _ | ⟨as, st'⟩
  · exact ix_Y_0
  · refine ix_Y_bif ?_ ix_Y_0
    obtain ⟨ys, -, g2, g3⟩ := ix_popN_s _ _ _ _ _ hq
    refine Or.inr (Or.inr (Or.inr ⟨a, as, h, ls, fun x => bif Nat.beq c 0 then st' else x.1 :: st', ⟨ha, ?_, hp, hl, ?_⟩, fun _ _ _ => rfl⟩))
    · intro v hv
      rw [g3, List.append_nil] at hv
      exact hs v (by rw [g2]; exact List.mem_append_left _ (List.mem_reverse.mp hv))
    · intro x hx
      have hs' : ix_sr G st' := fun v hv => hs v (by rw [g2]; exact List.mem_append_right _ hv)
      cases Nat.beq c 0
      · exact ix_sr_c hx hs'
      · exact hs'
theorem ix_Y_recv {h : ix_H} {b d : Nat} {st : List Value} {F : ix_CL → ix_NX → ix_JP → ix_R} (H : ix_Y G σ0 F) : ix_Y G σ0 (fun cl nx jp => ix_recv h b d st (F cl nx jp)) := by
  unfold ix_recv
  rcases ix_n st (b - 1) with _ | v
  · exact ix_Y_0
  · cases v <;> first | exact ix_Y_0 | exact ix_Y_bif H ix_Y_0
theorem ix_Y_nar {h : ix_H} (hp : ix_fq G σ0 h) {t : Nat} {x : Int32} {v : Value} (hr : ix_vr G v) : ix_Y G σ0 (fun _ _ _ => ix_nar t x (some (v, h))) := by
  rcases t with _ | _ | _ | t
  · exact ix_Y_c hp hr
  · exact ix_Y_if (ix_Y_c hp hr) ix_Y_0
  · exact ix_Y_if (ix_Y_c hp hr) ix_Y_0
  · exact ix_Y_if (ix_Y_c hp hr) ix_Y_0
theorem ix_ex_Y (hE : ∀ c, 1000 ≤ c → G c = true) (e : ix_E) (hk : ix_kf e = true) (ls : ix_L) (st : List Value) (h : ix_H) (hl : ix_lr G ls) (hs : ix_sr G st) (hf : ix_fq G σ0 h) : ix_Y G σ0 (fun cl nx jp => ix_ex (ix_D0 cl) nx jp e ls st h) := by
  obtain ⟨pc, ins, len, ct, a, b, c, d, v⟩ := e
  cases ins
  case new => cases hk
  case newarray => cases hk
  case anewarray => cases hk
  case aastore => cases hk
  case ireturn =>
    unfold ix_ex
    dsimp only
    rcases st with _ | ⟨x, _ | ⟨y, st⟩⟩
    · exact ix_Y_0
    · cases x <;> first | exact ix_Y_0 | exact ix_Y_nar hf (ix_vr_int _)
    · exact ix_Y_0
  case areturn =>
    unfold ix_ex
    dsimp only
    rcases st with _ | ⟨x, _ | ⟨y, st⟩⟩
    · exact ix_Y_0
    · cases x <;> first | exact ix_Y_0 | exact ix_Y_c hf (ix_sr_h hs)
    · exact ix_Y_0
  case return_ =>
    unfold ix_ex
    dsimp only
    rcases st with _ | ⟨x, st⟩
    · exact ix_Y_c hf ix_vr_nul
    · exact ix_Y_0
  case ldc i =>
    unfold ix_ex
    dsimp only
    have h1 : (Nat.beq b 0 || Nat.ble 1000 a) = true := hk
    cases hz : Nat.beq b 0
    · rw [hz] at h1
      exact ix_Y_n hl (ix_sr_c (ix_vr_ref (hE a (Nat.le_of_ble_eq_true h1))) hs) hf
    · exact ix_Y_n hl (ix_sr_i hs) hf
  case getstatic i =>
    unfold ix_ex
    dsimp only
    have h1 : (Nat.beq b 0 || Nat.ble 1000 a) = true := hk
    cases hz : Nat.beq b 0
    · rw [hz] at h1
      cases hz1 : Nat.beq b 1
      · exact ix_Y_n hl (ix_sr_c (fun a ha => by cases ha) hs) hf
      · exact ix_Y_n hl (ix_sr_c (ix_vr_ref (hE a (Nat.le_of_ble_eq_true h1))) hs) hf
    · exact ix_Y_n hl (ix_sr_i hs) hf
  case putfield i =>
    unfold ix_ex
    dsimp only
    rcases st with _ | ⟨x, st⟩
    · exact ix_Y_0
    · exact ix_Y_popR (ix_sr_t hs) fun _ _ hg hs2 => ix_Y_put hf hg (ix_sr_h hs) fun _ hf2 => ix_Y_n hl hs2 hf2
  case getfield i =>
    unfold ix_ex
    dsimp only
    exact ix_Y_popR hs fun _ _ hg hs2 => ix_Y_get hE hf hg fun _ hv => ix_Y_n hl (ix_sr_c hv hs2) hf
  case iastore =>
    unfold ix_ex
    dsimp only
    exact ix_Y_popI hs fun _ _ hs2 => ix_Y_popI hs2 fun _ _ hs3 => ix_Y_popR hs3 fun _ _ hg hs4 => ix_Y_own fun _ _ hr => ix_Y_if ix_Y_0 (ix_Y_n hl hs4 (ix_fq_row hf hr hg _))
  case bastore =>
    unfold ix_ex
    dsimp only
    exact ix_Y_popI hs fun _ _ hs2 => ix_Y_popI hs2 fun _ _ hs3 => ix_Y_popR hs3 fun _ _ hg hs4 => ix_Y_own fun _ _ hr => ix_Y_if ix_Y_0 (ix_Y_n hl hs4 (ix_fq_row hf hr hg _))
  case aaload =>
    unfold ix_ex
    dsimp only
    refine ix_Y_popI hs fun i st2 hs2 => ix_Y_popR hs2 fun r st3 hg hs3 => ?_
    rcases hq : ix_n h.1 r with _ | ⟨q, n, sl⟩
    · exact ix_Y_0
    · exact ix_Y_bif (ix_Y_if ix_Y_0 (ix_Y_ch _ _ _ fun a2 ha2 => ix_Y_n hl (ix_sr_c (ix_vr_ref (hf.1 r _ hq hg a2 ha2)) hs3) hf)) ix_Y_0
  case invokestatic i =>
    unfold ix_ex
    dsimp only
    have h1 : (Nat.beq c 2 || ix_nc a) = true := hk
    cases hz : Nat.beq c 2
    · rw [hz] at h1
      exact ix_Y_call hf hl hs h1
    · refine ix_Y_popI hs fun _ _ hs => ix_Y_popI hs fun _ _ hs => ix_Y_popR hs fun _ _ hg hs => ix_Y_popI hs fun _ _ hs => ix_Y_popR hs fun _ _ _ hs => ix_Y_bif ?_ ix_Y_0
      unfold ix_cpy
      exact ix_Y_own fun _ _ _ => ix_Y_own fun _ _ hr => ix_Y_if ix_Y_0 (ix_Y_n hl hs (ix_fq_row hf hr hg _))
  case invokevirtual i =>
    unfold ix_ex
    dsimp only
    exact ix_Y_recv (ix_Y_call hf hl hs hk)
  case invokespecial i =>
    unfold ix_ex
    dsimp only
    have h1 : Nat.beq c 2 = true := hk
    rw [h1]
    exact ix_Y_popR hs fun _ _ _ hs => ix_Y_bif (ix_Y_n hl hs hf) ix_Y_0
  case arraylength =>
    unfold ix_ex
    dsimp only
    refine ix_Y_popR hs fun r st2 _ hs2 => ?_
    rcases ix_sh h r with _ | ⟨q, n, sl⟩
    · exact ix_Y_0
    · exact ix_Y_bif (ix_Y_n hl (ix_sr_i hs2) hf) ix_Y_0
  case iaload =>
    unfold ix_ex
    dsimp only
    exact ix_Y_popI hs fun _ _ hs => ix_Y_popR hs fun _ _ _ hs => ix_Y_arr fun _ => ix_Y_if ix_Y_0 (ix_Y_n hl (ix_sr_i hs) hf)
  case baload =>
    unfold ix_ex
    dsimp only
    exact ix_Y_popI hs fun _ _ hs => ix_Y_popR hs fun _ _ _ hs => ix_Y_arr fun _ => ix_Y_if ix_Y_0 (ix_Y_n hl (ix_sr_i hs) hf)
  case tableswitch =>
    unfold ix_ex
    dsimp only
    exact ix_Y_popI hs fun _ _ hs => ix_Y_sw (fun _ => ix_Y_j hl hs hf _) _ _ _ _
  case lookupswitch =>
    unfold ix_ex
    dsimp only
    exact ix_Y_popI hs fun _ _ hs => ix_Y_lk (fun _ => ix_Y_j hl hs hf _) _ _ _
  case ifCond cd off =>
    unfold ix_ex
    dsimp only
    cases cd <;> dsimp only <;> first
      | exact ix_Y_popI hs fun _ _ hs => ix_Y_if (ix_Y_j hl hs hf _) (ix_Y_n hl hs hf)
      | exact ix_Y_popI hs fun _ _ hs => ix_Y_if (ix_Y_n hl hs hf) (ix_Y_j hl hs hf _)
  case if_icmp cd off =>
    unfold ix_ex
    dsimp only
    cases cd <;> dsimp only <;> first
      | exact ix_Y_popI hs fun _ _ hs => ix_Y_popI hs fun _ _ hs => ix_Y_if (ix_Y_j hl hs hf _) (ix_Y_n hl hs hf)
      | exact ix_Y_popI hs fun _ _ hs => ix_Y_popI hs fun _ _ hs => ix_Y_if (ix_Y_n hl hs hf) (ix_Y_j hl hs hf _)
  case goto =>
    unfold ix_ex
    dsimp only
    exact ix_Y_j hl hs hf _
  case dup =>
    unfold ix_ex
    dsimp only
    rcases st with _ | ⟨x, st⟩
    · exact ix_Y_0
    · exact ix_Y_n hl (ix_sr_c (ix_sr_h hs) hs) hf
  case dup2 =>
    unfold ix_ex
    dsimp only
    rcases st with _ | ⟨x, _ | ⟨y, st⟩⟩
    · exact ix_Y_0
    · exact ix_Y_0
    · exact ix_Y_n hl (ix_sr_c (ix_sr_h hs) (ix_sr_c (ix_sr_h (ix_sr_t hs)) hs)) hf
  case pop =>
    unfold ix_ex
    dsimp only
    rcases st with _ | ⟨x, st⟩
    · exact ix_Y_0
    · exact ix_Y_n hl (ix_sr_t hs) hf
  case istore =>
    unfold ix_ex
    dsimp only
    exact ix_Y_popI hs fun _ _ hs => ix_Y_bif (ix_Y_n (ix_lr_s hl (ix_vr_int _)) hs hf) ix_Y_0
  case istore_n =>
    unfold ix_ex
    dsimp only
    exact ix_Y_popI hs fun _ _ hs => ix_Y_bif (ix_Y_n (ix_lr_s hl (ix_vr_int _)) hs hf) ix_Y_0
  case astore =>
    unfold ix_ex
    dsimp only
    exact ix_Y_popR hs fun _ _ hg hs => ix_Y_bif (ix_Y_n (ix_lr_s hl (ix_vr_ref hg)) hs hf) ix_Y_0
  case astore_n =>
    unfold ix_ex
    dsimp only
    exact ix_Y_popR hs fun _ _ hg hs => ix_Y_bif (ix_Y_n (ix_lr_s hl (ix_vr_ref hg)) hs hf) ix_Y_0
  all_goals (unfold ix_ex; dsimp only)
  all_goals try exact ix_Y_0
  all_goals first
    | exact ix_Y_n hl (ix_sr_i hs) hf
    | exact ix_Y_popI hs fun _ _ hs => ix_Y_n hl (ix_sr_i hs) hf
    | exact ix_Y_popI hs fun _ _ hs => ix_Y_popI hs fun _ _ hs => ix_Y_n hl (ix_sr_i hs) hf
    | exact ix_Y_popI hs fun _ _ hs => ix_Y_popI hs fun _ _ hs => ix_Y_if ix_Y_0 (ix_Y_n hl (ix_sr_i hs) hf)
    | (rcases hq : ix_n ls a with _ | _ | x
       · exact ix_Y_0
       · exact ix_Y_0
       · cases x <;> first | exact ix_Y_0 | exact ix_Y_n hl (ix_sr_c (hl _ (ix_mem_n hq)) hs) hf | exact ix_Y_n (ix_lr_s hl (ix_vr_int _)) hs hf)
theorem ix_ex_fm (hE : ∀ c, 1000 ≤ c → G c = true) {cl : ix_CL} {nx : ix_NX} {jp : ix_JP} (hc : ∀ a as h x, ix_nc a = true → ix_sr G as → ix_fq G σ0 h → cl a as h = some x → ix_fq G σ0 x.2 ∧ ix_vr G x.1) (hn : ∀ ls st h x, ix_lr G ls → ix_sr G st → ix_fq G σ0 h → nx ls st h = some x → ix_fq G σ0 x.2 ∧ ix_vr G x.1) (hj : ∀ t ls st h x, ix_lr G ls → ix_sr G st → ix_fq G σ0 h → jp t ls st h = some x → ix_fq G σ0 x.2 ∧ ix_vr G x.1) (e : ix_E) (hk : ix_kf e = true) (ls : ix_L) (st : List Value) (h : ix_H) (hl : ix_lr G ls) (hs : ix_sr G st) (hf : ix_fq G σ0 h) (x : Value × ix_H) (hx : ix_ex (ix_D0 cl) nx jp e ls st h = some x) : ix_fq G σ0 x.2 ∧ ix_vr G x.1 := by
  rcases ix_ex_Y (σ0 := σ0) hE e hk ls st h hl hs hf with ⟨y, hp, hy⟩ | ⟨l2, s2, h2, ⟨p1, p2, p3⟩, hy⟩ | ⟨t, l2, s2, h2, ⟨p1, p2, p3⟩, hy⟩ | ⟨a, as, h2, l2, f, ⟨p1, p2, p3, p4, p5⟩, hy⟩
  · exact hp x ((hy cl nx jp).symm.trans hx)
  · exact hn _ _ _ _ p1 p2 p3 ((hy cl nx jp).symm.trans hx)
  · exact hj _ _ _ _ _ p1 p2 p3 ((hy cl nx jp).symm.trans hx)
  · obtain ⟨y, h1, h3⟩ := Option.bind_eq_some_iff.mp ((hy cl nx jp).symm.trans hx)
    have h4 := hc _ _ _ _ p1 p2 p3 h1
    exact hn _ _ _ _ p4 (p5 y h4.2) h4.1 h3
theorem ix_lr_m {ls : ix_L} (h : ix_lr G ls) (bs : List Bool) : ix_lr G (ix_mask bs ls) := by
  induction bs generalizing ls with
  | nil => intro v hv; simp [ix_mask] at hv
  | cons b bs ih =>
    cases ls with
    | nil => intro v hv; simp [ix_mask] at hv
    | cons x ls =>
      intro v hv
      simp only [ix_mask, List.mem_cons] at hv
      rcases hv with hv | hv
      · cases b
        · cases hv
        · exact h v (by rw [show x = some v from hv.symm]; exact List.mem_cons_self)
      · exact ih (fun w hw => h w (List.mem_cons_of_mem _ hw)) v hv
theorem ix_go_fm (hE : ∀ c, 1000 ≤ c → G c = true) (tab : List ix_E) (ht : ∀ e ∈ tab, ix_kf e = true) {cb : ix_JP} {cl : ix_CL} (hb : ∀ t ls st h x, ix_lr G ls → ix_sr G st → ix_fq G σ0 h → cb t ls st h = some x → ix_fq G σ0 x.2 ∧ ix_vr G x.1) (hc : ∀ a as h x, ix_nc a = true → ix_sr G as → ix_fq G σ0 h → cl a as h = some x → ix_fq G σ0 x.2 ∧ ix_vr G x.1) : ∀ (k : Nat) (rest : List ix_E), (∀ e ∈ rest, e ∈ tab) → ∀ (pc : Nat) (ls : ix_L) (st : List Value) (h : ix_H) (x : Value × ix_H), ix_lr G ls → ix_sr G st → ix_fq G σ0 h → ix_go tab cb (ix_D0 cl) k rest pc ls st h = some x → ix_fq G σ0 x.2 ∧ ix_vr G x.1 := by
  intro k
  induction k with
  | zero => intro rest _ pc ls st h x _ _ _ hx; exact absurd hx (by simp [ix_go])
  | succ k ih =>
    intro rest hin pc ls st h x hl hs hf hx
    rcases rest with _ | ⟨e, rest⟩
    · exact absurd hx (by simp [ix_go])
    · unfold ix_go at hx
      obtain ⟨h1, hx⟩ := ix_bif_s hx
      rcases hr : e.2.2.2.1 with _ | kp
      · rw [hr] at hx
        exact ix_ex_fm hE (nx := ix_go tab cb (ix_D0 cl) k rest (pc + e.2.2.1)) (jp := fun t => ix_go tab cb (ix_D0 cl) k (ix_fd tab t) t) hc (fun ls st h x => ih _ (fun q hq => hin q (List.mem_cons_of_mem _ hq)) _ ls st h x) (fun t ls st h x => ih _ (fun q hq => (List.dropWhile_sublist _).subset hq) _ ls st h x) e (ht e (hin e List.mem_cons_self)) ls st h hl hs hf x hx
      · rw [hr] at hx
        exact hb _ _ _ _ _ (ix_lr_m hl kp) hs hf hx
theorem ix_at_fm (hE : ∀ c, 1000 ≤ c → G c = true) (tab : List ix_E) (ht : ∀ e ∈ tab, ix_kf e = true) {cb : ix_JP} {cl : ix_CL} (hb : ∀ t ls st h x, ix_lr G ls → ix_sr G st → ix_fq G σ0 h → cb t ls st h = some x → ix_fq G σ0 x.2 ∧ ix_vr G x.1) (hc : ∀ a as h x, ix_nc a = true → ix_sr G as → ix_fq G σ0 h → cl a as h = some x → ix_fq G σ0 x.2 ∧ ix_vr G x.1) (pc : Nat) (ls : ix_L) (st : List Value) (h : ix_H) (x : Value × ix_H) (hl : ix_lr G ls) (hs : ix_sr G st) (hf : ix_fq G σ0 h) (hx : ix_at tab cb (ix_D0 cl) pc ls st h = some x) : ix_fq G σ0 x.2 ∧ ix_vr G x.1 := by
  unfold ix_at at hx
  have hsub : ∀ t, ∀ q ∈ ix_fd tab t, q ∈ tab := fun t q hq => (List.dropWhile_sublist _).subset hq
  rcases hq : ix_fd tab pc with _ | ⟨e, rest⟩
  · rw [hq] at hx; exact absurd hx (by simp)
  · rw [hq] at hx
    have hmem : ∀ q ∈ e :: rest, q ∈ tab := fun q h => hsub pc q (by rw [hq]; exact h)
    exact ix_ex_fm hE (nx := ix_go tab cb (ix_D0 cl) 3000 rest (pc + e.2.2.1)) (jp := fun t => ix_go tab cb (ix_D0 cl) 3000 (ix_fd tab t) t) hc (fun ls st h x => ix_go_fm hE tab ht hb hc _ _ (fun q hq => hmem q (List.mem_cons_of_mem _ hq)) _ ls st h x) (fun t ls st h x => ix_go_fm hE tab ht hb hc _ _ (hsub t) _ ls st h x) e (ht e (hmem e List.mem_cons_self)) ls st h hl hs hf x hx
theorem ix_kf_tab {mi : Nat} (h : ix_nc mi = true) : ∀ e ∈ ix_tab mi, ix_kf e = true := by
  have hlt : mi < 301 := by
    have hl : ix_ncs.length = 301 := by decide +kernel
    unfold ix_nc at h
    rcases hq : ix_n ix_ncs mi with _ | k
    · rw [hq] at h; cases h
    · have := ix_n_lt hq
      rw [hl] at this
      exact this
  have h1 := List.all_eq_true.mp ix_kf_all mi (List.mem_range.mpr hlt)
  rw [h] at h1
  exact List.all_eq_true.mp h1
theorem ix_sem_fm (hE : ∀ c, 1000 ≤ c → G c = true) : ∀ (n mi r pc : Nat) (ls : ix_L) (st : List Value) (h : ix_H) (x : Value × ix_H), ix_nc mi = true → ix_lr G ls → ix_sr G st → ix_fq G σ0 h → ix_sem n mi r pc ls st h = some x → ix_fq G σ0 x.2 ∧ ix_vr G x.1 := by
  intro n
  induction n with
  | zero => intro mi r pc ls st h x _ _ _ _ hx; exact absurd hx (by simp [ix_sem])
  | succ n ih =>
    intro mi r pc ls st h x hk hl hs hf hx
    refine ix_at_fm hE (ix_tab mi) (ix_kf_tab hk) (fun t ls st h x hl hs hf hx => ih mi r t ls st h x hk hl hs hf hx) (fun a as h x ha hs hf hx => ?_) pc ls st h x hl hs hf hx
    unfold ix_clS at hx
    obtain ⟨-, hx⟩ := ix_bif_s hx
    refine ih _ _ _ _ _ _ _ ha (fun v hv => ?_) (fun v hv => by cases hv) hf hx
    unfold ix_in at hv
    rcases List.mem_append.mp hv with h1 | h1
    · obtain ⟨w, h2, h3⟩ := List.mem_map.mp h1
      cases h3
      exact hs _ h2
    · have := List.eq_of_mem_replicate h1
      cases this
end Fm
/-- a called method writes nothing that lies out of its reach -/
theorem ix_frame (G : Nat → Bool) (hE : ∀ c, 1000 ≤ c → G c = true) {a : Nat} {as : List Value} {h : ix_H} {x : Value × ix_H} (ha : ix_nc a = true) (hs : ix_sr G as) (hj : ix_jr G h.1) (hl : h.1.length ≤ 900) (hx : ix_F a as h = some x) : ∀ c, G c = false ∨ 900 ≤ c → x.2.2 c = h.2 c := by
  obtain ⟨n, hn⟩ := ix_S_iff.mp hx
  refine (ix_sem_fm (σ0 := h.2) hE n _ _ _ _ _ _ _ ha (fun v hv => ?_) (fun v hv => by cases hv) ⟨hj, hl, fun _ _ => rfl⟩ hn).1.2.2
  unfold ix_in at hv
  rcases List.mem_append.mp hv with h1 | h1
  · obtain ⟨w, h2, h3⟩ := List.mem_map.mp h1
    cases h3
    exact hs _ h2
  · have := List.eq_of_mem_replicate h1
    cases this
/-- the class's cells, the reference's cells -/
def ix_GX (c : Nat) : Bool := Nat.blt c 135 || Nat.ble 1000 c
def ix_GM (c : Nat) : Bool := (Nat.ble 135 c && Nat.blt c 164) || Nat.ble 1000 c
theorem ix_jrX (b : Bool) : ix_jr ix_GX (ix_S0 b) := by
  have h0 : ∀ b, (List.range 135).all (fun r => match ix_n (ix_S0 b) r with
      | some sh => sh.2.2.all (fun o => match o with
        | some (some a) => ix_GX a
        | _ => true)
      | none => true) = true := by intro b; cases b <;> decide +kernel
  have hlen : ∀ b, (ix_S0 b).length = 164 := by intro b; cases b <;> rfl
  intro r sh hr hg a ha
  have hr1 := ix_n_lt hr
  rw [hlen] at hr1
  have hr2 : r < 135 := by
    unfold ix_GX at hg
    rcases Bool.or_eq_true_iff.mp hg with h | h
    · exact Nat.le_of_ble_eq_true h
    · have := Nat.le_of_ble_eq_true h; omega
  have h1 := List.all_eq_true.mp (h0 b) r (List.mem_range.mpr hr2)
  rw [hr] at h1
  exact List.all_eq_true.mp h1 _ ha
theorem ix_jrM (b : Bool) : ix_jr ix_GM (ix_S0 b) := by
  have h0 : ∀ b, (List.range 164).all (fun r => Nat.blt r 135 || match ix_n (ix_S0 b) r with
      | some sh => sh.2.2.all (fun o => match o with
        | some (some a) => ix_GM a
        | _ => true)
      | none => true) = true := by intro b; cases b <;> decide +kernel
  have hlen : ∀ b, (ix_S0 b).length = 164 := by intro b; cases b <;> rfl
  intro r sh hr hg a ha
  have hr1 := ix_n_lt hr
  rw [hlen] at hr1
  have hr2 : Nat.blt r 135 = false := by
    cases hz : Nat.blt r 135
    · rfl
    · have h2 : r < 135 := Nat.le_of_ble_eq_true hz
      unfold ix_GM at hg
      rcases Bool.or_eq_true_iff.mp hg with h | h
      · have := Nat.le_of_ble_eq_true (Bool.and_eq_true_iff.mp h).1; omega
      · have := Nat.le_of_ble_eq_true h; omega
  have h1 := List.all_eq_true.mp (h0 b) r (List.mem_range.mpr hr1)
  rw [hr2, hr] at h1
  exact List.all_eq_true.mp h1 _ ha
theorem ix_frX {a : Nat} {as : List Value} {b : Bool} {σ : ix_St} {x : Value × ix_H} (ha : ix_nc a = true) (hs : ix_sr ix_GX as) (hx : ix_F a as (ix_S0 b, σ) = some x) (c : Nat) (hc : 135 ≤ c) : x.2.2 c = σ c := by
  refine ix_frame ix_GX (fun c hc => ?_) ha hs (ix_jrX b) (by show (ix_S0 b).length ≤ 900; rw [show (ix_S0 b).length = 164 by cases b <;> rfl]; omega) hx c ?_
  · unfold ix_GX
    rw [show Nat.ble 1000 c = true from Nat.ble_eq_true_of_le hc, Bool.or_true]
  · by_cases h9 : 900 ≤ c
    · exact Or.inr h9
    · left
      unfold ix_GX
      have h1 : Nat.blt c 135 = false := by
        cases hz : Nat.blt c 135
        · rfl
        · have h2 : c < 135 := Nat.le_of_ble_eq_true hz; omega
      have h2 : Nat.ble 1000 c = false := by
        cases hz : Nat.ble 1000 c
        · rfl
        · have := Nat.le_of_ble_eq_true hz; omega
      rw [h1, h2]
      rfl
theorem ix_frM {a : Nat} {as : List Value} {b : Bool} {σ : ix_St} {x : Value × ix_H} (ha : ix_nc a = true) (hs : ix_sr ix_GM as) (hx : ix_F a as (ix_S0 b, σ) = some x) (c : Nat) (hc : c < 135 ∨ 164 ≤ c) : x.2.2 c = σ c := by
  refine ix_frame ix_GM (fun c hc => ?_) ha hs (ix_jrM b) (by show (ix_S0 b).length ≤ 900; rw [show (ix_S0 b).length = 164 by cases b <;> rfl]; omega) hx c ?_
  · unfold ix_GM
    rw [show Nat.ble 1000 c = true from Nat.ble_eq_true_of_le hc, Bool.or_true]
  · by_cases h9 : 900 ≤ c
    · exact Or.inr h9
    · left
      unfold ix_GM
      have h1 : (Nat.ble 135 c && Nat.blt c 164) = false := by
        cases hz : (Nat.ble 135 c && Nat.blt c 164)
        · rfl
        · obtain ⟨h3, h4⟩ := Bool.and_eq_true_iff.mp hz
          have h5 := Nat.le_of_ble_eq_true h3
          have h6 : c < 164 := Nat.le_of_ble_eq_true h4
          omega
      have h2 : Nat.ble 1000 c = false := by
        cases hz : Nat.ble 1000 c
        · rfl
        · have := Nat.le_of_ble_eq_true hz; omega
      rw [h1, h2]
      rfl
