/-! what the interpreter's cells are in the machine's heap: own cell k at base + k; the given ones where xa says -/
theorem ix_n_eq {α : Type} : ∀ (l : List α) (k : Nat), ix_n l k = l[k]?
  | [], _ => by simp [ix_n]
  | a :: l, 0 => by simp [ix_n]
  | a :: l, k + 1 => by simp [ix_n, ix_n_eq l k]
section Rel
variable (base : Nat) (xa : Nat → Nat) (cI cB cR : ClassId)
def ix_ad (k : Nat) : Nat := if k < 1000 then base + k else xa (k - 1000)
/-- what stands in a static of which no more is known than that it is a reference or null (the interpreter's .long 0) -/
def ix_fv : Value := if xa 12 = 0 then .null else .ref (xa 13)
def ix_v (v : Value) : Value := match v with
  | .int x => .int x
  | .ref k => .ref (ix_ad base xa k)
  | .long _ => ix_fv xa
  | _ => .null
def ix_sv (f : Nat → Int32) (j : Nat) (o : Option (Option Nat)) : Value := match o with
  | none => .int (f j)
  | some none => .null
  | some (some a) => .ref (ix_ad base xa a)
def ix_fl (f : Nat → Int32) : Nat → List (Option (Option Nat)) → List Value
  | _, [] => []
  | j, o :: l => ix_sv base xa f j o :: ix_fl f (j + 1) l
def ix_rf (sl : List (Option (Option Nat))) (j : Nat) : Option Nat := match ix_n sl j with
  | some (some (some a)) => some (ix_ad base xa a)
  | _ => none
def ix_ce (f : Nat → Int32) (sh : ix_Sh) : va_E := match sh with
  | (0, n, sl) => .inr (n, ix_fl base xa f 0 sl)
  | (1, n, _) => .inl (cI, n, .inl f)
  | (2, n, _) => .inl (cB, n, .inl f)
  | (_, n, sl) => .inl (cR, n, .inr (.inr (.inr (.inr (ix_rf base xa sl)))))
def ix_ws (σ : ix_St) : Nat → List ix_Sh → va_W
  | _, [] => []
  | k, s :: l => (base + k, ix_ce base xa cI cB cR (σ k) s) :: ix_ws σ (k + 1) l
def ix_tys : List (ClassId × FieldType) := [(cI, .int), (cB, .byte), (cR, .object "VotedBank$River")]
variable {base xa cI cB cR}
theorem ix_v_cat (v : Value) : (ix_v base xa v).category = 1 := by
  cases v <;> first | rfl | (show (ix_fv xa).category = 1; unfold ix_fv; split <;> rfl)
theorem ix_ws_get (σ : ix_St) : ∀ (S : List ix_Sh) (k j : Nat), (ix_ws base xa cI cB cR σ k S)[j]? = (S[j]?).map fun s => (base + (k + j), ix_ce base xa cI cB cR (σ (k + j)) s)
  | [], k, j => by simp [ix_ws]
  | s :: l, k, 0 => by simp [ix_ws]
  | s :: l, k, j + 1 => by
    have := ix_ws_get σ l (k + 1) j
    simp only [ix_ws, List.getElem?_cons_succ, this]
    rw [show k + 1 + j = k + (j + 1) by omega]
theorem ix_ws_len (σ : ix_St) : ∀ (S : List ix_Sh) (k : Nat), (ix_ws base xa cI cB cR σ k S).length = S.length
  | [], _ => rfl
  | _ :: l, k => by simp [ix_ws, ix_ws_len σ l (k + 1)]
theorem ix_fl_get (f : Nat → Int32) : ∀ (sl : List (Option (Option Nat))) (j i : Nat), (ix_fl base xa f j sl)[i]? = (sl[i]?).map (ix_sv base xa f (j + i))
  | [], j, i => by simp [ix_fl]
  | o :: l, j, 0 => by simp [ix_fl]
  | o :: l, j, i + 1 => by
    have := ix_fl_get f l (j + 1) i
    simp only [ix_fl, List.getElem?_cons_succ, this]
    rw [show j + 1 + i = j + (i + 1) by omega]
theorem ix_fl_len (f : Nat → Int32) : ∀ (sl : List (Option (Option Nat))) (j : Nat), (ix_fl base xa f j sl).length = sl.length
  | [], _ => rfl
  | _ :: l, j => by simp [ix_fl, ix_fl_len f l (j + 1)]
theorem ix_at0 {S : List ix_Sh} {σ : ix_St} {r : Nat} {sh : ix_Sh} (h : ix_n S r = some sh) : (ix_ws base xa cI cB cR σ 0 S)[r]? = some (base + r, ix_ce base xa cI cB cR (σ r) sh) := by
  rw [ix_n_eq] at h
  rw [ix_ws_get, h]
  simp
theorem ix_n_lt {α : Type} {l : List α} {r : Nat} {x : α} (h : ix_n l r = some x) : r < l.length := by
  rw [ix_n_eq] at h
  exact (List.getElem?_eq_some_iff.mp h).1
theorem ix_ws_row {S : List ix_Sh} {σ : ix_St} {r : Nat} {sh : ix_Sh} (f : Nat → Int32) (h : ix_n S r = some sh) : (ix_ws base xa cI cB cR σ 0 S).set r (base + r, ix_ce base xa cI cB cR f sh) = ix_ws base xa cI cB cR (ix_row σ r f) 0 S := by
  have hl := ix_n_lt h
  rw [ix_n_eq] at h
  apply List.ext_getElem?
  intro j
  rw [List.getElem?_set, ix_ws_get, ix_ws_get, ix_ws_len]
  by_cases hj : r = j
  · subst hj
    rw [if_pos rfl, if_pos hl, h]
    simp [ix_row]
  · have hj' : ¬ j = r := fun q => hj q.symm
    simp [hj, hj', ix_row]
theorem ix_ws_set {S : List ix_Sh} {σ : ix_St} {r : Nat} (sh : ix_Sh) (hl : r < S.length) : (ix_ws base xa cI cB cR σ 0 S).set r (base + r, ix_ce base xa cI cB cR (σ r) sh) = ix_ws base xa cI cB cR σ 0 (S.set r sh) := by
  apply List.ext_getElem?
  intro j
  rw [List.getElem?_set, ix_ws_get, ix_ws_get, ix_ws_len, List.getElem?_set]
  by_cases hj : r = j
  · subst hj
    simp [hl]
  · simp [hj]
theorem ix_ws_new {S : List ix_Sh} {σ : ix_St} (f : Nat → Int32) (sh : ix_Sh) : ix_ws base xa cI cB cR (ix_row σ S.length f) 0 (S ++ [sh]) = ix_ws base xa cI cB cR σ 0 S ++ [(base + S.length, ix_ce base xa cI cB cR f sh)] := by
  apply List.ext_getElem?
  intro j
  rw [ix_ws_get]
  by_cases hj : j < S.length
  · rw [List.getElem?_append_left hj, List.getElem?_append_left (by rw [ix_ws_len]; exact hj), ix_ws_get]
    have hj' : ¬ j = S.length := by omega
    simp [ix_row, hj']
  · rw [List.getElem?_append_right (by omega), List.getElem?_append_right (by rw [ix_ws_len]; omega), ix_ws_len]
    by_cases hz : j = S.length
    · subst hz
      simp [ix_row]
    · have h1 : j - S.length ≠ 0 := by omega
      obtain ⟨d, hd⟩ : ∃ d, j - S.length = d + 1 := ⟨j - S.length - 1, by omega⟩
      simp [hd]
theorem ix_D {S : List ix_Sh} {σ : ix_St} : va_D (fun q => base ≤ q) (ix_ws base xa cI cB cR σ 0 S) := by
  refine ⟨fun i j p q hi hj hpq => ?_, fun k q hk => ?_⟩
  · rw [ix_ws_get] at hi hj
    obtain ⟨a, -, rfl⟩ := Option.map_eq_some_iff.mp hi
    obtain ⟨b, -, rfl⟩ := Option.map_eq_some_iff.mp hj
    simp only at hpq
    omega
  · rw [ix_ws_get] at hk
    obtain ⟨a, -, rfl⟩ := Option.map_eq_some_iff.mp hk
    simp only
    omega
/-- a put of an int, of a reference -/
theorem ix_fl_int {f : Nat → Int32} {sl : List (Option (Option Nat))} {k : Nat} (x : Int32) (h : ix_n sl k = some none) : (ix_fl base xa f 0 sl).set k (.int x) = ix_fl base xa (upd f k x) 0 sl := by
  have hl := ix_n_lt h
  rw [ix_n_eq] at h
  apply List.ext_getElem?
  intro j
  rw [List.getElem?_set, ix_fl_get, ix_fl_get, ix_fl_len]
  by_cases hj : k = j
  · subst hj
    rw [if_pos rfl, if_pos hl, h]
    simp [ix_sv, upd]
  · have hj' : ¬ j = k := fun q => hj q.symm
    rcases hq : sl[j]? with _ | _ | _ | a <;> simp [hj, hj', ix_sv, upd]
theorem ix_fl_ref {f : Nat → Int32} {sl : List (Option (Option Nat))} {k a : Nat} (hl : k < sl.length) : (ix_fl base xa f 0 sl).set k (.ref (ix_ad base xa a)) = ix_fl base xa f 0 (sl.set k (some (some a))) := by
  apply List.ext_getElem?
  intro j
  rw [List.getElem?_set, ix_fl_get, ix_fl_get, ix_fl_len, List.getElem?_set]
  by_cases hj : k = j
  · subst hj
    simp [hl, ix_sv]
  · simp [hj]
theorem ix_rf_set {sl : List (Option (Option Nat))} {k a : Nat} (hl : k < sl.length) : va_up (ix_rf base xa sl) k (some (ix_ad base xa a)) = ix_rf base xa (sl.set k (some (some a))) := by
  funext j
  simp only [va_up, ix_rf, ix_n_eq, List.getElem?_set]
  by_cases hj : j = k
  · subst hj
    simp [hl]
  · have hj' : ¬ k = j := fun q => hj q.symm
    simp [hj, hj']
theorem ix_ad_own {k : Nat} (h : k < 1000) : ix_ad base xa k = base + k := if_pos h
/-- the heap holds the cells -/
def ix_Rep (base : Nat) (xa : Nat → Nat) (cI cB cR : ClassId) (D : va_G) (h : ix_H) (H : Heap) : Prop := va_P D ix_cls (ix_ws base xa cI cB cR h.2 0 h.1) H ∧ h.1.length ≤ 900 ∧ ∀ sh ∈ h.1, sh.1 < 4
theorem ix_Rep.lt {D : va_G} {h : ix_H} {H : Heap} (hR : ix_Rep base xa cI cB cR D h H) {k : Nat} (hk : k < h.1.length) : base + k < H.size := by
  obtain ⟨s, hs⟩ : ∃ s, h.1[k]? = some s := ⟨h.1[k], by simp [hk]⟩
  have h1 := ix_at0 (base := base) (xa := xa) (cI := cI) (cB := cB) (cR := cR) (σ := h.2) (show ix_n h.1 k = some s by rw [ix_n_eq]; exact hs)
  exact (hR.1 k _ h1).lt
end Rel
/-- the given cells' contents, in the interpreter -/
def ix_lens : List Nat := [98, 15, 8, 14, 10]
def ix_byt : List (List Int32) := [[115, 119, 97, 121, 32, 97, 98, 115, 116, 97, 105, 110, 32, 115, 104, 101, 108, 108, 115, 32, 119, 104, 101, 110, 32, 111, 114, 32, 97, 110, 100, 32, 110, 111, 116, 32, 99, 104, 105, 108, 100, 32, 116, 97, 108, 107, 32, 102, 105, 114, 109, 32, 119, 97, 100, 101, 100, 32, 116, 117, 114, 110, 101, 100, 32, 98, 97, 110, 107, 32, 97, 103, 101, 32, 115, 116, 114, 101, 97, 109, 32, 109, 105, 110, 117, 116, 101, 32, 97, 98, 111, 97, 114, 100, 32, 102, 111, 114], [112, 97, 115, 115, 101, 110, 103, 101, 114, 32, 104, 101, 97, 114, 115], [114, 111, 119, 32, 115, 116, 97, 121], [98, 97, 110, 107, 32, 98, 101, 104, 105, 110, 100, 32, 105, 115], [59, 43, 45, 42, 47, 40, 41, 60, 61, 62]]
def ix_rnk : List Int32 := [12345, 12354, 12435, 12453, 12534, 12543, 13245, 13254, 13425, 13452, 13524, 13542, 14235, 14253, 14325, 14352, 14523, 14532, 15234, 15243, 15324, 15342, 15423, 15432, 21345, 21354, 21435, 21453, 21534, 21543, 23145, 23154, 23415, 23451, 23514, 23541, 24135, 24153, 24315, 24351, 24513, 24531, 25134, 25143, 25314, 25341, 25413, 25431, 31245, 31254, 31425, 31452, 31524, 31542, 32145, 32154, 32415, 32451, 32514, 32541, 34125, 34152, 34215, 34251, 34512, 34521, 35124, 35142, 35214, 35241, 35412, 35421, 41235, 41253, 41325, 41352, 41523, 41532, 42135, 42153, 42315, 42351, 42513, 42531, 43125, 43152, 43215, 43251, 43512, 43521, 45123, 45132, 45213, 45231, 45312, 45321, 51234, 51243, 51324, 51342, 51423, 51432, 52134, 52143, 52314, 52341, 52413, 52431, 53124, 53142, 53214, 53241, 53412, 53421, 54123, 54132, 54213, 54231, 54312, 54321]
def ix_txt : List (String × Nat × String × Nat) := [("VotedBank$Parser", 75, "sway abstain shells when or and not child talk firm waded turned bank age stream minute aboard for", 1002), ("VotedBank$Parser", 77, "passenger hears", 1003), ("VotedBank$Parser", 79, "row stay", 1004), ("VotedBank$Parser", 81, "bank behind is", 1005), ("VotedBank$Tape", 48, ";+-*/()<=>", 1006)]
/-- what the interpreter's numbers are for the given cells: a script of L ints -/
def ix_Xs (L : Nat) (xs : Nat → Int32) (σ : ix_St) : Prop := L ≤ 3072 ∧ σ 999 0 = Int32.ofNat L ∧ (∀ j, j < L → σ 1000 j = xs j) ∧ (∀ j, j < 120 → σ 1001 j = ix_rnk.getD j 0) ∧ ∀ i, i < 5 → ∀ j, j < ix_lens.getD i 0 → σ (1007 + i) j = (ix_byt.getD i []).getD j 0
theorem ix_Xs.row {L : Nat} {xs : Nat → Int32} {σ : ix_St} (h : ix_Xs L xs σ) {r : Nat} (hr : r < 999) (f : Nat → Int32) : ix_Xs L xs (ix_row σ r f) := by
  have e : ∀ k, 999 ≤ k → ix_row σ r f k = σ k := fun k hk => by
    have : ¬ k = r := by omega
    simp [ix_row, this]
  refine ⟨h.1, ?_, fun j hj => ?_, fun j hj => ?_, fun i hi j hj => ?_⟩
  · rw [e 999 (Nat.le_refl _)]; exact h.2.1
  · rw [e 1000 (by omega)]; exact h.2.2.1 j hj
  · rw [e 1001 (by omega)]; exact h.2.2.2.1 j hj
  · rw [e (1007 + i) (by omega)]; exact h.2.2.2.2 i hi j hj
/-- what the machine has of the given cells -/
def ix_Ex (xa : Nat → Nat) (A : Nat → Prop) (L : Nat) (xs : Nat → Int32) (U : State) (H : Heap) : Prop :=
  va_T .int (xa 0) L (fun j => .int (xs j)) A U H ∧ va_T .int (xa 1) 120 (fun j => .int (ix_rnk.getD j 0)) A U H ∧ va_Z "VotedBank" "RANKS" "[I" (.ref (xa 1)) A U H ∧ (va_Z "java/lang/String" "COMPACT_STRINGS" "Z" (.int 1) A U H ∧ va_Z "jdk/internal/util/Preconditions" "SIOOBE_FORMATTER" "Ljava/util/function/BiFunction;" (ix_fv xa) A U H) ∧
  vk_S 5 ix_lens ix_byt (fun i => xa (2 + i)) (fun i => xa (7 + i)) A U H ∧ ∀ t ∈ ix_txt, vk_R t.1 t.2.1 t.2.2.1 (xa (t.2.2.2 - 1000)) U
theorem ix_Ex.moved {xa : Nat → Nat} {A : Nat → Prop} {L : Nat} {xs : Nat → Int32} {u U : State} {H : Heap} (hW : u.WarmedH U.vm) (h : ix_Ex xa A L xs u H) : ix_Ex xa A L xs U H :=
  ⟨h.1.moved hW.alike, h.2.1.moved hW.alike, h.2.2.1.moved hW.alike, ⟨h.2.2.2.1.1.moved hW.alike, h.2.2.2.1.2.moved hW.alike⟩, h.2.2.2.2.1.moved hW.alike, fun t ht => (h.2.2.2.2.2 t ht).warm hW⟩
theorem ix_Ex.same {xa : Nat → Nat} {A : Nat → Prop} {L : Nat} {xs : Nat → Int32} {u U : State} {H : Heap} (hv : U.vm = u.vm) (h : ix_Ex xa A L xs u H) : ix_Ex xa A L xs U H := by
  have hvm : u.vm.Alike U.vm := by rw [hv]; exact Vm.Alike.refl _
  exact ⟨h.1.moved hvm, h.2.1.moved hvm, h.2.2.1.moved hvm, ⟨h.2.2.2.1.1.moved hvm, h.2.2.2.1.2.moved hvm⟩, h.2.2.2.2.1.moved hvm, fun t ht => (h.2.2.2.2.2 t ht).same hv⟩
theorem ix_Ex.kept {xa : Nat → Nat} {A : Nat → Prop} {L : Nat} {xs : Nat → Int32} {U : State} {H H1 : Heap} (h : ix_Ex xa A L xs U H) (hq : ∀ a : Nat, a < H.size → ¬ A a → H1[a]? = H[a]?) : ix_Ex xa A L xs U H1 :=
  ⟨h.1.kept hq, h.2.1.kept hq, h.2.2.1.kept hq, ⟨h.2.2.2.1.1.kept hq, h.2.2.2.1.2.kept hq⟩, h.2.2.2.2.1.kept hq, h.2.2.2.2.2⟩
