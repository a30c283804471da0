/-! An interpreter of the part of the bytecode that this program uses, over numbered cells: what a method does, as a function. Shapes (S) hold what kind a cell is and its references; st holds all ints: st c i is slot i of cell c. Cells from 1000 on are given ones (script, RANKS, texts) that nobody writes. -/
abbrev ix_Sh : Type := Nat × Nat × List (Option (Option Nat))
abbrev ix_St : Type := Nat → Nat → Int32
abbrev ix_H : Type := List ix_Sh × ix_St
abbrev ix_R : Type := Option (Value × ix_H)
abbrev ix_L : Type := List (Option Value)
/-- an instruction of a method: pc, instruction, length, which locals live (where the interpreter stops), what it is linked to, a constant -/
abbrev ix_E : Type := Nat × Instr × Nat × Option (List Bool) × Nat × Nat × Nat × Nat × Int32
def ix_row (σ : ix_St) (c : Nat) (f : Nat → Int32) : ix_St := fun d => if d = c then f else σ d
def ix_up (σ : ix_St) (c i : Nat) (v : Int32) : ix_St := ix_row σ c (upd (σ c) i v)
def ix_n {α : Type} : List α → Nat → Option α
  | [], _ => none
  | a :: _, 0 => some a
  | _ :: l, n + 1 => ix_n l n
def ix_mask : List Bool → ix_L → ix_L
  | b :: bs, v :: vs => (bif b then v else none) :: ix_mask bs vs
  | _, _ => []
/-- the given cells: the script, RANKS, five texts and their bytes -/
def ix_xs (σ : ix_St) : List ix_Sh := [(11, (σ 999 0).toNatClampNeg, []), (11, 120, []), (14, 0, []), (14, 1, []), (14, 2, []), (14, 3, []), (14, 4, []), (12, 98, []), (12, 15, []), (12, 8, []), (12, 14, []), (12, 10, [])]
def ix_sh (h : ix_H) (r : Nat) : Option ix_Sh := bif Nat.blt r 1000 then ix_n h.1 r else ix_n (ix_xs h.2) (r - 1000)
def ix_popI (st : List Value) (k : Int32 → List Value → ix_R) : ix_R := match st with
  | .int x :: r => k x r
  | _ => none
def ix_popR (st : List Value) (k : Nat → List Value → ix_R) : ix_R := match st with
  | .ref x :: r => k x r
  | _ => none
def ix_popN : Nat → List Value → List Value → Option (List Value × List Value)
  | 0, acc, st => some (acc, st)
  | _ + 1, _, [] => none
  | n + 1, acc, v :: st => ix_popN n (v :: acc) st
/-- an array of kind k (or k + 10: a given one) at r, of length n -/
def ix_arr (h : ix_H) (r k : Nat) (f : Nat → ix_R) : ix_R := match ix_sh h r with
  | some (q, n, _) => bif (Nat.beq q k || Nat.beq q (k + 10)) then f n else none
  | none => none
/-- an own array of kind k -/
def ix_own (h : ix_H) (r k : Nat) (f : Nat → ix_R) : ix_R := match ix_n h.1 r with
  | some (q, n, _) => bif Nat.beq q k then f n else none
  | none => none
def ix_isA (h : ix_H) (r ci : Nat) : Bool := match ix_sh h r with
  | some (q, n, _) => (Nat.beq q 0 && Nat.beq n ci) || (Nat.beq q 14 && Nat.beq ci 99)
  | none => false
def ix_get (h : ix_H) (r ci k : Nat) (f : Value → ix_R) : ix_R := match ix_sh h r with
  | some (q, n, sl) => bif (Nat.beq q 0 && Nat.beq n ci) then (match ix_n sl k with
      | some none => f (.int (h.2 r k))
      | some (some (some a)) => f (.ref a)
      | _ => none) else bif (Nat.beq q 14 && Nat.beq ci 99) then (match k with
      | 0 => f (.ref (1007 + n))
      | _ => f (.int 0)) else none
  | none => none
/-- b: the slot's kind (0 int, 1 boolean, 2 a reference) -/
def ix_put (h : ix_H) (r ci k b : Nat) (v : Value) (f : ix_H → ix_R) : ix_R := match ix_n h.1 r with
  | some (q, n, sl) => bif (Nat.beq q 0 && Nat.beq n ci) then (match v, b, ix_n sl k with
      | .int x, 0, some none => f (h.1, ix_up h.2 r k x)
      | .int x, 1, some none => if x = 0 ∨ x = 1 then f (h.1, ix_up h.2 r k x) else none
      | .ref a, 2, some (some _) => f (h.1.set r (q, n, sl.set k (some (some a))), h.2)
      | _, _, _ => none) else none
  | none => none
def ix_ch : List (Option (Option Nat)) → Nat → Nat → (Nat → ix_R) → ix_R
  | some (some a) :: l, j, i, k => if i = j then k a else ix_ch l (j + 1) i k
  | _, _, _, _ => none
def ix_sw : List Int → Int → Int → Int → (Int → ix_R) → ix_R
  | [], _, d, _, k => k d
  | o :: os, j, d, x, k => if x = j then k o else ix_sw os (j + 1) d x k
def ix_lk : List (Int × Int) → Int → Int → (Int → ix_R) → ix_R
  | [], d, _, k => k d
  | o :: os, d, x, k => if x = o.1 then k o.2 else ix_lk os d x k
/-- fresh slots of an object of a class -/
def ix_fs (kinds : List Nat) : List (Option (Option Nat)) := kinds.map fun k => bif Nat.beq k 2 then some none else none
def ix_new (h : ix_H) (sh : ix_Sh) (k : Nat → ix_H → ix_R) : ix_R := bif Nat.blt h.1.length 900 then k h.1.length (h.1 ++ [sh], ix_row h.2 h.1.length (fun _ => 0)) else none
def ix_nar (t : Nat) (x : Int32) (k : ix_R) : ix_R := match t with
  | 0 => k
  | 1 => if x = 0 ∨ x = 1 then k else none
  | 2 => if x.toInt8.toInt32 = x then k else none
  | _ => if (x.toUInt32 % 65536).toInt32 = x then k else none
def ix_cpy (h : ix_H) (n dp : Int32) (q : Nat) (sp : Int32) (p : Nat) (k : ix_H → ix_R) : ix_R := ix_own h p 1 fun n0 => ix_own h q 1 fun n1 =>
  if sp < 0 ∨ dp < 0 ∨ n < 0 ∨ n0 < sp.toNatClampNeg + n.toNatClampNeg ∨ n1 < dp.toNatClampNeg + n.toNatClampNeg then none
  else k (h.1, ix_row h.2 q (va_cpy (h.2 p) (h.2 q) sp.toNatClampNeg dp.toNatClampNeg n.toNatClampNeg))
abbrev ix_KL : Type := Nat → List Value → ix_H → (Value → ix_H → ix_R) → ix_R
def ix_call (cl : ix_KL) (nx : ix_L → List Value → ix_H → ix_R) (ls : ix_L) (st : List Value) (h : ix_H) (a b c : Nat) : ix_R := match ix_popN b [] st with
  | some (as, st') => bif Nat.ble st'.length 8 then cl a as h fun v h' => nx ls (bif Nat.beq c 0 then st' else v :: st') h' else none
  | none => none
def ix_recv (h : ix_H) (b d : Nat) (st : List Value) (k : ix_R) : ix_R := match ix_n st (b - 1) with
  | some (.ref r) => bif ix_isA h r d then k else none
  | _ => none
def ix_ret (st : List Value) (k : Value → ix_R) : ix_R := match st with
  | [v] => k v
  | _ => none
/-- the slots of each class: 0 int, 1 boolean, 2 a reference -/
def ix_kinds : Nat → List Nat
  | 0 => [2, 0]
  | 1 => [2, 0, 2, 2, 2, 2, 1, 0]
  | 2 => [2, 2, 2, 2, 2, 2, 2, 0, 0]
  | 3 => [2, 0, 0, 2, 0]
  | 4 => [2, 2, 0, 0]
  | 5 => [2, 2, 2, 2, 2, 0, 0]
  | 6 => [0, 0, 0, 0, 0, 0, 0, 0, 2, 2, 2, 2, 2, 2]
  | 7 => [2, 0, 2, 2, 2, 0, 0, 0, 0, 0]
  | 8 => [2, 2, 2, 2, 2, 2, 2]
  | 9 => [2, 2, 2, 2, 2, 0]
  | 10 => [2, 2, 2, 2, 2, 2, 2, 1]
  | 11 => [0, 2, 2, 0, 2, 1, 0, 0, 2, 2, 2, 2, 2, 0, 0, 0, 0, 0, 2, 2, 2, 2, 2, 2, 2, 2, 0, 0, 0, 2, 0, 0, 0, 0, 0, 0, 2, 0, 2, 0, 2, 2, 2, 0, 2, 2, 2, 0, 2, 2, 1, 1, 0, 2]
  | _ => []
/-- one instruction: nx goes on behind it, jp goes on at a pc, cl is what a called method does -/
def ix_ex (cl : ix_KL) (nx : ix_L → List Value → ix_H → ix_R) (jp : Nat → ix_L → List Value → ix_H → ix_R) (e : ix_E) (ls : ix_L) (st : List Value) (h : ix_H) : ix_R := match e with
  | (pc, ins, _, _, a, b, c, d, v) => match ins with
    | .iconst _ => nx ls (.int v :: st) h
    | .bipush _ => nx ls (.int v :: st) h
    | .sipush _ => nx ls (.int v :: st) h
    | .ldc _ => bif Nat.beq b 0 then nx ls (.int v :: st) h else nx ls (.ref a :: st) h
    | .ldc_w _ => nx ls (.int v :: st) h
    | .iload _ | .iload_n _ => (match ix_n ls a with
        | some (some (.int x)) => nx ls (.int x :: st) h
        | _ => none)
    | .aload _ | .aload_n _ => (match ix_n ls a with
        | some (some (.ref x)) => nx ls (.ref x :: st) h
        | _ => none)
    | .istore _ | .istore_n _ => ix_popI st fun x st => bif Nat.blt a ls.length then nx (ls.set a (some (.int x))) st h else none
    | .astore _ | .astore_n _ => ix_popR st fun x st => bif Nat.blt a ls.length then nx (ls.set a (some (.ref x))) st h else none
    | .iinc _ _ => (match ix_n ls a with
        | some (some (.int x)) => nx (ls.set a (some (.int (bif Nat.beq c 0 then x + v else x - v)))) st h
        | _ => none)
    | .dup => (match st with
        | x :: st => nx ls (x :: x :: st) h
        | _ => none)
    | .dup2 => (match st with
        | x :: y :: st => nx ls (x :: y :: x :: y :: st) h
        | _ => none)
    | .pop => (match st with
        | _ :: st => nx ls st h
        | _ => none)
    | .iadd => ix_popI st fun y st => ix_popI st fun x st => nx ls (.int (x + y) :: st) h
    | .isub => ix_popI st fun y st => ix_popI st fun x st => nx ls (.int (x - y) :: st) h
    | .imul => ix_popI st fun y st => ix_popI st fun x st => nx ls (.int (x * y) :: st) h
    | .idiv => ix_popI st fun y st => ix_popI st fun x st => if y = 0 then none else nx ls (.int (x / y) :: st) h
    | .irem => ix_popI st fun y st => ix_popI st fun x st => if y = 0 then none else nx ls (.int (x - x / y * y) :: st) h
    | .ineg => ix_popI st fun x st => nx ls (.int (-x) :: st) h
    | .ishl => ix_popI st fun y st => ix_popI st fun x st => nx ls (.int (x <<< (y &&& 31)) :: st) h
    | .ishr => ix_popI st fun y st => ix_popI st fun x st => nx ls (.int (x >>> (y &&& 31)) :: st) h
    | .iushr => ix_popI st fun y st => ix_popI st fun x st => nx ls (.int (x.toUInt32 >>> (y.toUInt32 &&& Int32.toUInt32 31)).toInt32 :: st) h
    | .iand => ix_popI st fun y st => ix_popI st fun x st => nx ls (.int (x &&& y) :: st) h
    | .ior => ix_popI st fun y st => ix_popI st fun x st => nx ls (.int (x ||| y) :: st) h
    | .ixor => ix_popI st fun y st => ix_popI st fun x st => nx ls (.int (x ^^^ y) :: st) h
    | .i2b => ix_popI st fun x st => nx ls (.int x.toInt8.toInt32 :: st) h
    | .i2c => ix_popI st fun x st => nx ls (.int (x.toUInt32 % 65536).toInt32 :: st) h
    | .goto _ => jp a ls st h
    | .ifCond cd _ => ix_popI st fun x st => (match cd with
        | .eq => if x = 0 then jp a ls st h else nx ls st h
        | .ne => if x = 0 then nx ls st h else jp a ls st h
        | .lt => if x < 0 then jp a ls st h else nx ls st h
        | .ge => if 0 ≤ x then jp a ls st h else nx ls st h
        | .gt => if 0 < x then jp a ls st h else nx ls st h
        | .le => if x ≤ 0 then jp a ls st h else nx ls st h)
    | .if_icmp cd _ => ix_popI st fun y st => ix_popI st fun x st => (match cd with
        | .eq => if x = y then jp a ls st h else nx ls st h
        | .ne => if x = y then nx ls st h else jp a ls st h
        | .lt => if x < y then jp a ls st h else nx ls st h
        | .ge => if y ≤ x then jp a ls st h else nx ls st h
        | .gt => if y < x then jp a ls st h else nx ls st h
        | .le => if x ≤ y then jp a ls st h else nx ls st h)
    | .tableswitch df lo _ os => ix_popI st fun x st => ix_sw os.toList lo df x.toInt fun o => jp ((pc : Int) + o).toNat ls st h
    | .lookupswitch df ps => ix_popI st fun x st => ix_lk ps.toList df x.toInt fun o => jp ((pc : Int) + o).toNat ls st h
    | .getstatic _ => bif Nat.beq b 0 then nx ls (.int v :: st) h else bif Nat.beq b 1 then nx ls (.ref a :: st) h else nx ls (.long 0 :: st) h
    | .getfield _ => ix_popR st fun r st => ix_get h r a b fun x => nx ls (x :: st) h
    | .putfield _ => (match st with
        | x :: st => ix_popR st fun r st => ix_put h r a b c x fun h => nx ls st h
        | _ => none)
    | .arraylength => ix_popR st fun r st => (match ix_sh h r with
        | some (q, n, _) => bif (Nat.beq q 1 || Nat.beq q 2 || Nat.beq q 11 || Nat.beq q 12) then nx ls (.int (Int32.ofNat n) :: st) h else none
        | none => none)
    | .iaload => ix_popI st fun i st => ix_popR st fun r st => ix_arr h r 1 fun n => if i < 0 ∨ n ≤ i.toNatClampNeg then none else nx ls (.int (h.2 r i.toNatClampNeg) :: st) h
    | .baload => ix_popI st fun i st => ix_popR st fun r st => ix_arr h r 2 fun n => if i < 0 ∨ n ≤ i.toNatClampNeg then none else nx ls (.int (h.2 r i.toNatClampNeg) :: st) h
    | .iastore => ix_popI st fun x st => ix_popI st fun i st => ix_popR st fun r st => ix_own h r 1 fun n => if i < 0 ∨ n ≤ i.toNatClampNeg then none else nx ls st (h.1, ix_up h.2 r i.toNatClampNeg x)
    | .bastore => ix_popI st fun x st => ix_popI st fun i st => ix_popR st fun r st => ix_own h r 2 fun n => if i < 0 ∨ n ≤ i.toNatClampNeg then none else nx ls st (h.1, ix_up h.2 r i.toNatClampNeg x.toInt8.toInt32)
    | .aaload => ix_popI st fun i st => ix_popR st fun r st => (match ix_n h.1 r with
        | some (q, n, sl) => bif Nat.beq q 3 then (if i < 0 ∨ n ≤ i.toNatClampNeg then none else ix_ch sl 0 i.toNatClampNeg fun a => nx ls (.ref a :: st) h) else none
        | none => none)
    | .aastore => ix_popR st fun x st => ix_popI st fun i st => ix_popR st fun r st => (match ix_n h.1 r with
        | some (q, n, sl) => bif (Nat.beq q 3 && ix_isA h x 6) then (if i < 0 ∨ n ≤ i.toNatClampNeg ∨ sl.length ≤ i.toNatClampNeg then none else nx ls st (h.1.set r (q, n, sl.set i.toNatClampNeg (some (some x))), h.2)) else none
        | none => none)
    | .new _ => ix_new h (0, a, ix_fs (ix_kinds a)) fun r h => nx ls (.ref r :: st) h
    | .newarray t => ix_popI st fun n st => if n < 0 ∨ 5000 < n.toNatClampNeg then none else (match t with
        | .int => ix_new h (1, n.toNatClampNeg, []) fun r h => nx ls (.ref r :: st) h
        | .byte => ix_new h (2, n.toNatClampNeg, []) fun r h => nx ls (.ref r :: st) h
        | _ => none)
    | .anewarray _ => ix_popI st fun n st => if n < 0 ∨ 5000 < n.toNatClampNeg then none else ix_new h (3, n.toNatClampNeg, List.replicate n.toNatClampNeg (some none)) fun r h => nx ls (.ref r :: st) h
    | .invokestatic _ => bif Nat.beq c 2 then (ix_popI st fun n st => ix_popI st fun dp st => ix_popR st fun q st => ix_popI st fun sp st => ix_popR st fun p st => bif Nat.ble st.length 8 then ix_cpy h n dp q sp p fun h => nx ls st h else none)
        else ix_call cl nx ls st h a b c
    | .invokevirtual _ => ix_recv h b d st (ix_call cl nx ls st h a b c)
    | .invokespecial _ => bif Nat.beq c 2 then (ix_popR st fun _ st => bif Nat.ble st.length 8 then nx ls st h else none) else ix_recv h b d st (ix_call cl nx ls st h a b c)
    | .ireturn => ix_ret st fun x => (match x with
        | .int x => ix_nar a x (some (.int x, h))
        | _ => none)
    | .areturn => ix_ret st fun x => (match x with
        | .ref r => some (.ref r, h)
        | _ => none)
    | .return_ => (match st with
        | [] => some (.null, h)
        | _ => none)
    | _ => none
def ix_fd (tab : List ix_E) (pc : Nat) : List ix_E := tab.dropWhile fun e => !Nat.beq e.1 pc
/-- the run up to a stop: cb is what comes from a stop on -/
def ix_go (tab : List ix_E) (cb : Nat → ix_L → List Value → ix_H → ix_R) (cl : ix_KL) : Nat → List ix_E → Nat → ix_L → List Value → ix_H → ix_R
  | 0, _, _, _, _, _ => none
  | _ + 1, [], _, _, _, _ => none
  | k + 1, e :: rest, pc, ls, st, h => bif Nat.beq e.1 pc then (match e.2.2.2.1 with
      | some kp => cb pc (ix_mask kp ls) st h
      | none => ix_ex cl (ix_go tab cb cl k rest (pc + e.2.2.1)) (fun t => ix_go tab cb cl k (ix_fd tab t) t) e ls st h) else none
def ix_at (tab : List ix_E) (cb : Nat → ix_L → List Value → ix_H → ix_R) (cl : ix_KL) (pc : Nat) (ls : ix_L) (st : List Value) (h : ix_H) : ix_R :=
  match ix_fd tab pc with
  | [] => none
  | e :: rest => ix_ex cl (ix_go tab cb cl 3000 rest (pc + e.2.2.1)) (fun t => ix_go tab cb cl 3000 (ix_fd tab t) t) e ls st h
/-- what called methods do, as the interpreter takes it -/
def ix_D0 (cl : Nat → List Value → ix_H → ix_R) : ix_KL := fun a as h k => (cl a as h).bind fun x => k x.1 x.2
