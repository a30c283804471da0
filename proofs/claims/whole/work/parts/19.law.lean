/-! the claim out of what the interpreter says of the law -/
/-! THE CLAIM OUT OF ONE WALK OF THE LAW'S BODY. Your part is whole_start (and what it stands on); all else here is the same for every law, but numbers. -/
def R_law : String := "VotedBankLaw"
def lw_P (b : Addr) (xs : List Int32) (args : Array Value) (s : State) : Prop := args = #[.ref b] ∧ s.IntsAt b xs ∧ xs.length ≤ 3072 ∧ (Jvm.Cond.and given_1 narrow_1).before args s = true
def lw_Q (_ : Array Value) (s : State) (o : Outcome) (t : State) : Prop := o = .returned (some (.int 1)) ∧ Framed s o t [] 600000 7302250
def lw_Z (below : List Frame) (a : Array Value) (s : State) : State → Prop := fun t => ∃ o, t.status = .running ∧ Ended t below o ∧ lw_Q a s o t
/-- the law's own end, with 1 on the stack, nothing written that was there before, its room as the claim has it -/
theorem lw_ret {p : Program} {l : Launch} {e : Env} {s : State} {m : MethodId} {below : List Frame} {meth : Method} {c : Code} {b : Nat} (hx : p.tables.exec = Jvm.exec) (hb : c.code = code) (hr : meth.sig.returnType = ret) (hlocks : meth.locks = false) {pc : Nat} {H : Heap} {ls : Array Slot} (hdg : decode code pc = .ok (.ireturn, 1)) : W p l e room_1 s m #[Value.ref b] below meth c H [] 600000 7302250 (lw_Z below #[Value.ref b] s) (F0 m pc ls [.int 1]) := by
  intro T hT X
  obtain ⟨fs, hret, hrun, hended, hW, hframe⟩ := X.leave (v := some (.int 1)) (hlocks := hlocks) (fun h => by rw [hr] at h; cases h)
  have hmeth' : T.vm.method? m = some meth := X.method'
  refine ⟨T.setFrames fs, ?_, .returned (some (.int 1)), hrun, hended, rfl, ⟨_, rfl⟩, hW, hframe⟩
  jvm_step X.here [X.here.top, hx, hb, hdg, hmeth', hr, ret, narrow_b1]
  (try refine ⟨rfl, ?_⟩); (try refine ⟨rfl, ?_⟩)
  first | (intro acts; rw [hret _ acts rfl rfl rfl]) | rw [hret _ _ rfl rfl rfl]
  exact Steps.refl _
/-- what holds at the law's entry: the machine, the code, the tables' words (any of lw_tbl by 'hts w (by decide +kernel)'), the script of L ints xs at the cell b, what the Statement gives of the start (any of its parts by flat_of_before) -/
def lw_At (p : Program) (s : State) (m : MethodId) (meth : Method) (c : Code) (b L : Nat) (xs : Nat → Int32) : Prop :=
  p.tables.exec = Jvm.exec ∧ c.code = code ∧ meth.sig.returnType = ret ∧ c.maxLocals = 4 ∧ s.vm.findClass R_law = some m.cls ∧ (∀ w ∈ lw_tbl, w.before #[Value.ref b] s = true) ∧ va_X b L xs s s.heap ∧ b < s.heap.size ∧ meth.locks = false ∧ (Jvm.Cond.and given_1 narrow_1).before #[Value.ref b] s = true

abbrev ix_fc : List Cond := flatC (Jvm.Cond.and given_1 narrow_1)
theorem ix_mem_f {ws : List Cond} (ps : List Nat) (h : ws = ps.filterMap (fun i => ix_fc[i]?)) : ∀ w ∈ ws, w ∈ ix_fc := by
  intro w hw
  rw [h] at hw
  obtain ⟨i, -, hi⟩ := List.mem_filterMap.mp hw
  exact List.mem_of_getElem? hi
set_option maxRecDepth 100000 in
theorem ix_fr : ∀ w ∈ (List.range 120).map (fun j => Cond.eq (.elem (.static "VotedBank" "RANKS" "[I") (.int (Int32.ofNat j))) (.int (ix_rnk.getD j 0))), w ∈ ix_fc := ix_mem_f [12, 13, 14, 15, 16, 17, 18, 19, 20, 21, 22, 23, 24, 25, 26, 27, 28, 29, 30, 31, 32, 33, 34, 35, 36, 37, 38, 39, 40, 41, 42, 43, 44, 45, 46, 47, 48, 49, 50, 51, 52, 53, 54, 55, 56, 57, 58, 59, 60, 61, 62, 63, 64, 65, 66, 67, 68, 69, 70, 71, 72, 73, 74, 75, 76, 77, 78, 79, 80, 81, 82, 83, 84, 85, 86, 87, 88, 89, 90, 91, 92, 93, 94, 95, 96, 97, 98, 99, 100, 101, 102, 103, 104, 105, 106, 107, 108, 109, 110, 111, 112, 113, 114, 115, 116, 117, 118, 119, 120, 121, 122, 123, 124, 125, 126, 127, 128, 129, 130, 131] (by decide +kernel)
theorem ix_fo : ∀ w ∈ ([.eq (.length (.static "VotedBank" "RANKS" "[I")) (.int (Int32.ofNat 120)), .arrayOf (.static "VotedBank" "RANKS" "[I") .int, .eq (.static "java/lang/String" "COMPACT_STRINGS" "Z") (.int 1)] : List Cond), w ∈ ix_fc := ix_mem_f [11, 10, 4] (by decide +kernel)
def ix_tm : Nat → Term
  | 0 => .string "VotedBank$Parser" 75
  | 1 => .string "VotedBank$Parser" 77
  | 2 => .string "VotedBank$Parser" 79
  | 3 => .string "VotedBank$Parser" 81
  | _ => .string "VotedBank$Tape" 48
theorem ix_fs1 : ∀ w ∈ (List.range 5).flatMap (fun i => ([.exactly (ix_tm i) "java/lang/String", .eq (.field (ix_tm i) "java/lang/String" "coder" "B") (.int 0), .arrayOf (.field (ix_tm i) "java/lang/String" "value" "[B") .byte, .eq (.length (.field (ix_tm i) "java/lang/String" "value" "[B")) (.int (Int32.ofNat (ix_lens.getD i 0)))] : List Cond)), w ∈ ix_fc := ix_mem_f [132, 133, 134, 135, 234, 235, 236, 237, 254, 255, 256, 257, 268, 269, 270, 271, 289, 290, 291, 292] (by decide +kernel)
set_option maxRecDepth 100000 in
theorem ix_fe0 : ∀ w ∈ (List.range (ix_lens.getD 0 0)).map (fun j => Cond.eq (.elem (.field (ix_tm 0) "java/lang/String" "value" "[B") (.int (Int32.ofNat j))) (.int ((ix_byt.getD 0 []).getD j 0))), w ∈ ix_fc := ix_mem_f [136, 137, 138, 139, 140, 141, 142, 143, 144, 145, 146, 147, 148, 149, 150, 151, 152, 153, 154, 155, 156, 157, 158, 159, 160, 161, 162, 163, 164, 165, 166, 167, 168, 169, 170, 171, 172, 173, 174, 175, 176, 177, 178, 179, 180, 181, 182, 183, 184, 185, 186, 187, 188, 189, 190, 191, 192, 193, 194, 195, 196, 197, 198, 199, 200, 201, 202, 203, 204, 205, 206, 207, 208, 209, 210, 211, 212, 213, 214, 215, 216, 217, 218, 219, 220, 221, 222, 223, 224, 225, 226, 227, 228, 229, 230, 231, 232, 233] (by decide +kernel)
set_option maxRecDepth 100000 in
theorem ix_fe1 : ∀ w ∈ (List.range (ix_lens.getD 1 0)).map (fun j => Cond.eq (.elem (.field (ix_tm 1) "java/lang/String" "value" "[B") (.int (Int32.ofNat j))) (.int ((ix_byt.getD 1 []).getD j 0))), w ∈ ix_fc := ix_mem_f [238, 239, 240, 241, 242, 243, 244, 245, 246, 247, 248, 249, 250, 251, 252] (by decide +kernel)
set_option maxRecDepth 100000 in
theorem ix_fe2 : ∀ w ∈ (List.range (ix_lens.getD 2 0)).map (fun j => Cond.eq (.elem (.field (ix_tm 2) "java/lang/String" "value" "[B") (.int (Int32.ofNat j))) (.int ((ix_byt.getD 2 []).getD j 0))), w ∈ ix_fc := ix_mem_f [258, 259, 260, 261, 262, 263, 264, 265] (by decide +kernel)
set_option maxRecDepth 100000 in
theorem ix_fe3 : ∀ w ∈ (List.range (ix_lens.getD 3 0)).map (fun j => Cond.eq (.elem (.field (ix_tm 3) "java/lang/String" "value" "[B") (.int (Int32.ofNat j))) (.int ((ix_byt.getD 3 []).getD j 0))), w ∈ ix_fc := ix_mem_f [272, 273, 274, 275, 276, 277, 278, 279, 280, 281, 282, 283, 284, 285] (by decide +kernel)
set_option maxRecDepth 100000 in
theorem ix_fe4 : ∀ w ∈ (List.range (ix_lens.getD 4 0)).map (fun j => Cond.eq (.elem (.field (ix_tm 4) "java/lang/String" "value" "[B") (.int (Int32.ofNat j))) (.int ((ix_byt.getD 4 []).getD j 0))), w ∈ ix_fc := ix_mem_f [293, 294, 295, 296, 297, 298, 299, 300, 301, 302] (by decide +kernel)
def ix_prs : List (Nat × Nat) := [(0, 1), (0, 2), (1, 2), (0, 3), (1, 3), (2, 3), (0, 4), (1, 4), (2, 4), (3, 4)]
theorem ix_fn : ∀ w ∈ ix_prs.map (fun q => Cond.not (Cond.eq (ix_tm q.1) (ix_tm q.2))), w ∈ ix_fc := ix_mem_f [253, 266, 267, 286, 287, 288, 303, 304, 305, 306] (by decide +kernel)
theorem ix_mem_q {ws : List Cond} (ps : List Nat) (h : ws = ps.filterMap (fun i => lw_tbl[i]?)) : ∀ w ∈ ws, w ∈ lw_tbl := by
  intro w hw
  rw [h] at hw
  obtain ⟨i, -, hi⟩ := List.mem_filterMap.mp hw
  exact List.mem_of_getElem? hi
theorem ix_fx : ∀ w ∈ ix_txt.map (fun t => Cond.stringRef t.1 t.2.1 t.2.2.1), w ∈ lw_tbl := ix_mem_q [792, 793, 794, 795, 873] (by decide +kernel)
theorem ix_fls : ∀ w ∈ ([.laysStatic "java/lang/String" "COMPACT_STRINGS" "Z", .initialized "java/lang/String", .laysStatic "VotedBank" "RANKS" "[I", .initialized "VotedBank"] : List Cond), w ∈ lw_tbl := ix_mem_q [819, 153, 1157, 137] (by decide +kernel)
theorem ix_fls2 : ∀ w ∈ ([.laysStatic "jdk/internal/util/Preconditions" "SIOOBE_FORMATTER" "Ljava/util/function/BiFunction;", .initialized "jdk/internal/util/Preconditions"] : List Cond), w ∈ lw_tbl := ix_mem_q [835, 155] (by decide +kernel)
theorem ix_fo2 : ∀ w ∈ ([.isRef (.static "jdk/internal/util/Preconditions" "SIOOBE_FORMATTER" "Ljava/util/function/BiFunction;")] : List Cond), w ∈ ix_fc := ix_mem_f [5] (by decide +kernel)
