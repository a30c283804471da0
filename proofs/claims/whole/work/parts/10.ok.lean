/-- the word of the tables that an entry stands on -/
def ix_need (own : String) (e : ix_E) : List Cond := match e with
  | (_, ins, _, _, a, b, c, _, v) => match ins with
    | .ldc i => bif Nat.beq b 0 then [.constant own i v] else []
    | .ldc_w i => [.constant own i v]
    | .getstatic i => bif Nat.beq b 0 then [.fieldLink own i "java/lang/String" "COMPACT_STRINGS" "Z"] else bif Nat.beq b 1 then [.fieldLinkNest own i "VotedBank" "RANKS" "[I" "VotedBank"] else [.fieldLink own i "jdk/internal/util/Preconditions" "SIOOBE_FORMATTER" "Ljava/util/function/BiFunction;"]
    | .getfield i => bif Nat.beq a 99 then (match b with
        | 0 => [.fieldLink own i "java/lang/String" "value" "[B"]
        | _ => [.fieldLink own i "java/lang/String" "coder" "B"]) else (match ix_n ix_cls a with
        | some r => [.fieldLink own i r.1 (r.2.1 b).2.1 (r.2.1 b).2.2.1]
        | none => [])
    | .putfield i => (match ix_n ix_cls a with
        | some r => [.fieldLink own i r.1 (r.2.1 b).2.1 (r.2.1 b).2.2.1]
        | none => [])
    | .new i => (match ix_n ix_cls a with
        | some r => [.classLink own i r.1]
        | none => [])
    | .anewarray i => [.classLink own i "VotedBank$River"]
    | .invokestatic i => bif Nat.beq c 2 then [.methodLink own i arraycopyName] else (match ix_n ix_ms a with
        | some m => [if v = 1 then .methodLinkNest own i m.1 "VotedBank" else .methodLink own i m.1]
        | none => [])
    | .invokevirtual i => (match ix_n ix_ms a with
        | some m => [if v = 1 then .methodLinkNest own i m.1 "VotedBank" else .methodLink own i m.1]
        | none => [])
    | .invokespecial i => bif Nat.beq c 2 then [.methodLink own i objectInit] else (match ix_n ix_ms a with
        | some m => [if v = 1 then .methodLinkNest own i m.1 "VotedBank" else .methodLink own i m.1]
        | none => [])
    | _ => []
def ix_clsOf (d : Nat) : String := if d = 99 then "java/lang/String" else match ix_n ix_cls d with
  | some r => r.1
  | none => ""
/-- Math's two, which may be run by an entry of the machine's own: the library has their contracts -/
def ix_mth (mm : ix_M) : Bool := mm.1.cls == "java/lang/Math"
/-- the parts of an entry agree with each other -/
def ix_okb (mm : ix_M) (e : ix_E) : Bool := match e with
  | (pc, ins, len, _, a, b, c, d, v) => match ins with
    | .iconst n => decide (len = 1 ∧ Int32.ofInt n = v)
    | .bipush n => decide (len = 2 ∧ (Int8.ofInt n).toInt32 = v)
    | .sipush n => decide (len = 3 ∧ (Int16.ofInt n).toInt32 = v)
    | .ldc i => decide (len = 2 ∧ (b = 0 ∨ ∃ t ∈ ix_txt, t.1 = mm.1.cls ∧ t.2.1 = i ∧ t.2.2.2 = a))
    | .ldc_w _ => decide (len = 3)
    | .iload i => decide (len = 2 ∧ i = a)
    | .iload_n k => decide (len = 1 ∧ k.val = a)
    | .aload i => decide (len = 2 ∧ i = a)
    | .aload_n k => decide (len = 1 ∧ k.val = a)
    | .istore i => decide (len = 2 ∧ i = a)
    | .istore_n k => decide (len = 1 ∧ k.val = a)
    | .astore i => decide (len = 2 ∧ i = a)
    | .astore_n k => decide (len = 1 ∧ k.val = a)
    | .iinc i n => decide (len = 3 ∧ i = a ∧ ((c = 0 ∧ Int32.ofInt n = v) ∨ (c = 1 ∧ Int32.ofInt n = -v)))
    | .goto o => decide (len = 3 ∧ (pc : Int) + o = (a : Int))
    | .ifCond _ o => decide (len = 3 ∧ (pc : Int) + o = (a : Int))
    | .if_icmp _ o => decide (len = 3 ∧ (pc : Int) + o = (a : Int))
    | .tableswitch df lo hi os => decide (hi = lo + os.size - 1 ∧ 0 ≤ (pc : Int) + df ∧ ∀ o ∈ os.toList, 0 ≤ (pc : Int) + o)
    | .lookupswitch df ps => decide ((ps.toList.zip (ps.toList.drop 1)).all (fun (a, next) => a.1 < next.1) = true ∧ 0 ≤ (pc : Int) + df ∧ ∀ o ∈ ps.toList, 0 ≤ (pc : Int) + o.2)
    | .getstatic _ => decide (len = 3 ∧ ((b = 0 ∧ v = 1) ∨ (b = 1 ∧ a = 1001) ∨ b = 2))
    | .getfield _ => decide (len = 3 ∧ ((a = 99 ∧ b < 2) ∨ (a < 12 ∧ b < (ix_kinds a).length)))
    | .putfield _ => decide (len = 3 ∧ a < 12 ∧ b < (ix_kinds a).length ∧ ix_n (ix_kinds a) b = some c) && (match ix_n ix_cls a with
        | some r => decide ((r.2.1 b).2.2.2 = false ∨ (mm.1.name = "<init>" ∧ r.1 = mm.1.cls))
        | none => false)
    | .new _ => decide (len = 3 ∧ a < 12)
    | .newarray _ => decide (len = 2)
    | .anewarray _ => decide (len = 3)
    | .invokestatic _ => decide (len = 3) && (decide (c = 2) || (match ix_n ix_ms a with
        | some m => decide (a ≠ 0 ∧ m.2.2.2.2.2.1 = true ∧ b = m.2.2.2.2.1 ∧ b ≤ m.2.2.1 ∧ (m.2.2.2.1 = none ↔ c = 0) ∧ (ix_mth m = false ∨ ((a = 285 ∨ a = 289) ∧ v = 0 ∧ c = 1 ∧ b = 2)))
        | none => false))
    | .invokevirtual _ => decide (len = 3 ∧ (d = 99 ∨ d < 12)) && (match ix_n ix_ms a with
        | some m => decide (a ≠ 0 ∧ m.2.2.2.2.2.1 = false ∧ m.1.name ≠ "<init>" ∧ ix_clsOf d = m.1.cls ∧ b = m.2.2.2.2.1 + 1 ∧ b ≤ m.2.2.1 ∧ (m.2.2.2.1 = none ↔ c = 0) ∧ ix_mth m = false)
        | none => false)
    | .invokespecial _ => decide (len = 3) && (decide (c = 2) || (match ix_n ix_ms a with
        | some m => decide (a ≠ 0 ∧ m.2.2.2.2.2.1 = false ∧ m.1.name = "<init>" ∧ b = m.2.2.2.2.1 + 1 ∧ b ≤ m.2.2.1 ∧ m.2.2.2.1 = none ∧ c = 0 ∧ ix_mth m = false)
        | none => false))
    | .ireturn => decide (len = 1 ∧ ((a = 0 ∧ mm.2.2.2.1 = some .int) ∨ (a = 1 ∧ mm.2.2.2.1 = some .boolean) ∨ (a = 2 ∧ mm.2.2.2.1 = some .byte) ∨ (a = 3 ∧ mm.2.2.2.1 = some .char)))
    | .areturn => decide (len = 1) && (match mm.2.2.2.1 with
        | some t => ix_isRef t
        | none => false)
    | .return_ => decide (len = 1 ∧ mm.2.2.2.1 = none)
    | .dup | .dup2 | .pop | .iadd | .isub | .imul | .idiv | .irem | .ineg | .ishl | .ishr | .iushr | .iand | .ior | .ixor | .i2b | .i2c | .arraylength | .iaload | .baload | .iastore | .bastore | .aaload | .aastore => decide (len = 1)
    | _ => false
/-- the words of a method that is called -/
def ix_mw (mm : ix_M) : List Cond := [.code mm.1 mm.2.1 mm.2.2.1 mm.2.2.2.1, .initialized mm.1.cls] ++ (bif mm.2.2.2.2.2.1 then [.static mm.1] else if mm.1.name = "<init>" then [.instanceMethod mm.1] else [.instanceMethod mm.1, .selects mm.1.cls mm.1 mm.1])
def ix_nmb (mm : ix_M) : Bool := (plainName mm.1.cls || ix_mth mm) && decide (mm.1.cls ≠ "java/lang/invoke/MethodHandle" ∧ mm.1.cls ≠ "java/lang/invoke/VarHandle" ∧ (parseMethodDescriptor mm.1.desc).map (fun d => d.parameters.length) = some mm.2.2.2.2.1 ∧ mm.2.2.1 ≤ 20)
/-- a method's entries are its bytes', the tables hold what they stand on -/
def ix_Gd (mm : ix_M) : Prop := (∀ e ∈ mm.2.2.2.2.2.2, decode mm.2.1 e.1 = .ok (e.2.1, e.2.2.1) ∧ ix_okb mm e = true ∧ ∀ w ∈ ix_need mm.1.cls e, w ∈ ix_tb) ∧ ix_nmb mm = true
/-- all methods are; those that are called (all but the first) have their words -/
def ix_All : Prop := (∀ mi mm, ix_n ix_ms mi = some mm → ix_Gd mm) ∧ ∀ mi mm, mi ≠ 0 → ix_n ix_ms mi = some mm → ∀ w ∈ ix_mw mm, w ∈ ix_tb
theorem ix_need_use (own : String) (e : ix_E) : ∀ w ∈ ix_need own e, ix_use w = true := by
  intro w hw
  obtain ⟨pc, ins, len, ct, a, b, c, d, v⟩ := e
  cases ins <;> unfold ix_need at hw <;> dsimp only at hw <;> first | (cases hw; done) | skip
  all_goals (repeat' split at hw)
  all_goals first
    | (cases hw; done)
    | (cases List.mem_singleton.mp hw; rfl)
    | (cases hc : Nat.beq b 0 <;> rw [hc] at hw <;> first | (cases hw; done) | (cases List.mem_singleton.mp hw; rfl))
    | (cases hc : Nat.beq b 0 <;> cases hd : Nat.beq b 1 <;> rw [hc] at hw <;> (try rw [hd] at hw) <;> first | (cases hw; done) | (cases List.mem_singleton.mp hw; rfl))
    | (cases hc : Nat.beq c 2 <;> rw [hc] at hw <;> first | (cases hw; done) | (cases List.mem_singleton.mp hw; rfl) | (cases List.mem_singleton.mp hw; split <;> rfl))
    | (cases hc : Nat.beq a 99 <;> rw [hc] at hw <;> first | (cases hw; done) | (cases List.mem_singleton.mp hw; rfl))
    | (cases List.mem_singleton.mp hw; split <;> rfl)
theorem ix_mw_use (mm : ix_M) : ∀ w ∈ ix_mw mm, ix_use w = true := by
  intro w hw
  unfold ix_mw at hw
  rcases List.mem_append.mp hw with h | h
  · rcases List.mem_cons.mp h with rfl | h
    · rfl
    · cases List.mem_singleton.mp h; rfl
  · cases hc : mm.2.2.2.2.2.1 <;> rw [hc] at h
    · simp only [cond_false] at h
      split at h
      · cases List.mem_singleton.mp h; rfl
      · rcases List.mem_cons.mp h with rfl | h
        · rfl
        · cases List.mem_singleton.mp h; rfl
    · cases List.mem_singleton.mp h; rfl
theorem ix_Gd_of {mm : ix_M} (ps : List Nat) (h1 : mm.2.2.2.2.2.2.all (fun e => decide (decode mm.2.1 e.1 = .ok (e.2.1, e.2.2.1))) = true) (h2 : mm.2.2.2.2.2.2.all (ix_okb mm) = true) (h3 : mm.2.2.2.2.2.2.flatMap (ix_need mm.1.cls) = ps.filterMap (fun i => lw_tbl[i]?)) (h4 : ix_nmb mm = true) : ix_Gd mm := by
  refine ⟨fun e he => ⟨of_decide_eq_true (List.all_eq_true.mp h1 e he), List.all_eq_true.mp h2 e he, fun w hw => ?_⟩, h4⟩
  exact ix_mem_p ps h3 (fun w hw => by obtain ⟨e, -, hw⟩ := List.mem_flatMap.mp hw; exact ix_need_use _ e w hw) w (List.mem_flatMap.mpr ⟨e, he, hw⟩)
