/-! The pure machine: values, heaps, one step, the run as a limit. -/
/-- values: an int, a reference (an index into the heap's list, or none), a long, the script -/
abbrev rz_V : Type := Int32 ⊕ (Option Nat) ⊕ Int64 ⊕ Unit
abbrev rz_i (x : Int32) : rz_V := Sum.inl x
abbrev rz_r (r : Option Nat) : rz_V := Sum.inr (Sum.inl r)
abbrev rz_l (x : Int64) : rz_V := Sum.inr (Sum.inr (Sum.inl x))
abbrev rz_s : rz_V := Sum.inr (Sum.inr (Sum.inr ()))
/-- the heap: ints, references, shapes (a class's number, or an array's kind and length) -/
abbrev rz_H : Type := (Nat → Nat → Int32) × (Nat → Nat → Option Nat) × List (Nat ⊕ (Nat × Nat))
def rz_nth {α : Type} : List α → Nat → Option α
  | [], _ => none
  | a :: _, 0 => some a
  | _ :: l, n + 1 => rz_nth l n
def hI (h : rz_H) (a i : Nat) : Int32 := h.1 a i
def hR (h : rz_H) (a i : Nat) : Option Nat := h.2.1 a i
def hS (h : rz_H) (a : Nat) : Option (Nat ⊕ (Nat × Nat)) := rz_nth h.2.2 a
def setI (h : rz_H) (a i : Nat) (v : Int32) : rz_H := (fun b j => if b = a ∧ j = i then v else h.1 b j, h.2.1, h.2.2)
def setR (h : rz_H) (a i : Nat) (v : Option Nat) : rz_H := (h.1, fun b j => if b = a ∧ j = i then v else h.2.1 b j, h.2.2)
def rz_len (h : rz_H) : Nat := h.2.2.length
def rz_new (h : rz_H) (s : Nat ⊕ (Nat × Nat)) : rz_H := (fun b j => if b = h.2.2.length then 0 else h.1 b j, fun b j => if b = h.2.2.length then none else h.2.1 b j, h.2.2 ++ [s])
/-- an object of one of these classes -/
def okO (h : rz_H) (a : Nat) (cs : List Nat) : Bool := match hS h a with
  | some (.inl c) => cs.elem c
  | _ => false
def rz_in (i : Int32) (n : Nat) : Bool := !(decide (i < 0)) && Nat.blt i.toNatClampNeg n
/-- an array of this kind, with this place -/
def okA (h : rz_H) (a ty : Nat) (i : Int32) : Bool := match hS h a with
  | some (.inr (t, n)) => Nat.beq t ty && rz_in i n
  | _ => false
def okL (h : rz_H) (a : Nat) : Bool := match hS h a with
  | some (.inr (t, _)) => Nat.blt t 3
  | _ => false
def aLen (h : rz_H) (a : Nat) : Int32 := match hS h a with
  | some (.inr (_, n)) => Int32.ofNat n
  | _ => 0
/-- place, budget of cells and slots, locals, stack, heap -/
abbrev rz_St : Type := Nat × (Nat × Nat) × List (Option rz_V) × List rz_V × rz_H
/-- pc, instruction, its length, a number, further numbers, locals to be forgotten ahead of it, places of its words in the tables -/
abbrev rz_Row : Type := Nat × Instr × Nat × Int32 × List Nat × List Nat × List Nat
abbrev rz_Res : Type := rz_V × rz_H
/-- what a step does: a branch (or a guard), an end, something by a reference, a call -/
abbrev rz_Act : Type := (Bool × rz_St × Option rz_St) ⊕ (Bool × rz_Res) ⊕ (Option Nat × (Nat → Bool) × (Nat → rz_St)) ⊕ (Nat × Option Nat × (Nat → Bool) × (Nat → List rz_V) × Nat × rz_St) ⊕ (Int32 × List (Int32 × rz_St) × rz_St) ⊕ Unit
abbrev ac_b (b : Bool) (s1 : rz_St) (s2 : Option rz_St) : rz_Act := Sum.inl (b, s1, s2)
abbrev ac_go (s1 : rz_St) : rz_Act := Sum.inl (true, s1, none)
abbrev ac_ret (b : Bool) (v : rz_V) (h : rz_H) : rz_Act := Sum.inr (Sum.inl (b, v, h))
abbrev ac_ref (r : Option Nat) (g : Nat → Bool) (f : Nat → rz_St) : rz_Act := Sum.inr (Sum.inr (Sum.inl (r, g, f)))
/-- method, receiver, guard, arguments, kind of the answer, where it goes on -/
abbrev ac_call (m : Nat) (r : Option Nat) (g : Nat → Bool) (a : Nat → List rz_V) (rk : Nat) (s : rz_St) : rz_Act := Sum.inr (Sum.inr (Sum.inr (Sum.inl (m, r, g, a, rk, s))))
abbrev ac_sw (x : Int32) (cs : List (Int32 × rz_St)) (d : rz_St) : rz_Act := Sum.inr (Sum.inr (Sum.inr (Sum.inr (Sum.inl (x, cs, d)))))
abbrev ac_no : rz_Act := Sum.inr (Sum.inr (Sum.inr (Sum.inr (Sum.inr ()))))
def rz_drop : List (Option rz_V) → List Nat → List (Option rz_V)
  | ls, [] => ls
  | ls, i :: is => rz_drop (ls.set i none) is
def rz_notL : Option (Option rz_V) → Bool
  | some (some (.inr (.inr (.inl _)))) => false
  | _ => true
/-- the place ahead is no long's -/
def rz_okS (ls : List (Option rz_V)) : Nat → Bool
  | 0 => true
  | j + 1 => rz_notL (rz_nth ls j)
def rz_args : Nat → List rz_V → List rz_V → Option (List rz_V × List rz_V)
  | 0, acc, st => some (acc, st)
  | _ + 1, _, [] => none
  | n + 1, acc, v :: st => rz_args n (v :: acc) st
def rz_cat : rz_V → Nat
  | .inr (.inr (.inl _)) => 2
  | _ => 1
def rz_cats : List rz_V → Nat
  | [] => 0
  | v :: l => rz_cat v + rz_cats l
/-- methods: cells and slots that a call makes, the answer's kind (0 none, 1 int, 2 reference, 3 long, 4 boolean) -/
abbrev rz_M : Type := (Nat → Nat × Nat) × (Nat → Nat)
def rz_cmp (c : Jvm.ClassFile.Cond) (x y : Int32) : Bool := match c with
  | .eq => decide (x = y)
  | .ne => decide (¬ x = y)
  | .lt => decide (x < y)
  | .ge => decide (y ≤ x)
  | .gt => decide (y < x)
  | .le => decide (x ≤ y)
/-- pairs of key and place -/
def rz_prs (f : Nat → rz_St) : List Nat → List (Int32 × rz_St)
  | k :: t :: l => (Int32.ofNat k, f t) :: rz_prs f l
  | _ => []
def rz_ldi (k : List Nat) (ls : List (Option rz_V)) (f : rz_V → rz_St) : rz_Act := match k with
  | [k] => match rz_nth ls k with
    | some (some (.inl x)) => ac_go (f (rz_i x))
    | _ => ac_no
  | _ => ac_no
def rz_ldl (k : List Nat) (ls : List (Option rz_V)) (f : rz_V → rz_St) : rz_Act := match k with
  | [k] => match rz_nth ls k with
    | some (some (.inr (.inr (.inl x)))) => ac_go (f (rz_l x))
    | _ => ac_no
  | _ => ac_no
def rz_lda (k : List Nat) (ls : List (Option rz_V)) (f : rz_V → rz_St) : rz_Act := match k with
  | [k] => match rz_nth ls k with
    | some (some (.inr (.inl r))) => ac_go (f (rz_r r))
    | some (some (.inr (.inr (.inr _)))) => ac_go (f rz_s)
    | _ => ac_no
  | _ => ac_no
/-- one stored: an int or a reference -/
def rz_st1 (k : List Nat) (ls : List (Option rz_V)) (v : rz_V) (f : List (Option rz_V) → rz_St) : rz_Act := match k with
  | [k] => ac_b (rz_okS ls k && Nat.blt k ls.length) (f (ls.set k (some v))) none
  | _ => ac_no
def rz_st2 (k : List Nat) (ls : List (Option rz_V)) (v : rz_V) (f : List (Option rz_V) → rz_St) : rz_Act := match k with
  | [k] => ac_b (rz_okS ls k && Nat.blt (k + 1) ls.length) (f ((ls.set k (some v)).set (k + 1) none)) none
  | _ => ac_no
/-- a call: aux is the method, how many arguments, then the receiver's classes -/
def rz_inv (Mt : rz_M) (aux : List Nat) (o : Nat) (b : Nat × Nat) (ls : List (Option rz_V)) (st : List rz_V) (h : rz_H) : rz_Act := match aux with
  | m :: n :: cs => match rz_args n [] st with
    | some (as, .inr (.inl r) :: st) => ac_call m r (fun a => Nat.ble (Mt.1 m).1 b.1 && (Nat.ble (Mt.1 m).2 b.2 && (Nat.ble (rz_cats st) 8 && okO h a cs))) (fun a => rz_r (some a) :: as) (Mt.2 m) (o, (b.1 - (Mt.1 m).1, b.2 - (Mt.1 m).2), ls, st, h)
    | _ => ac_no
  | _ => ac_no
def rz_invS (Mt : rz_M) (aux : List Nat) (o : Nat) (b : Nat × Nat) (ls : List (Option rz_V)) (st : List rz_V) (h : rz_H) : rz_Act := match aux with
  | m :: n :: _ => match rz_args n [] st with
    | some (as, st) => ac_call m (some 0) (fun _ => Nat.ble (Mt.1 m).1 b.1 && (Nat.ble (Mt.1 m).2 b.2 && Nat.ble (rz_cats st) 8)) (fun _ => as) (Mt.2 m) (o, (b.1 - (Mt.1 m).1, b.2 - (Mt.1 m).2), ls, st, h)
    | _ => ac_no
  | _ => ac_no
def rz_do (Mt : rz_M) (rk : Nat) (scr : Option (Nat × (Nat → Int32))) (i : Instr) (im : Int32) (aux : List Nat) (o : Nat) (b : Nat × Nat) (ls : List (Option rz_V)) (st : List rz_V) (h : rz_H) : rz_Act := match i with
  | .iconst _ => ac_go (o + 1, b, ls, rz_i im :: st, h)
  | .bipush _ => ac_go (o + 1, b, ls, rz_i im :: st, h)
  | .sipush _ => ac_go (o + 1, b, ls, rz_i im :: st, h)
  | .ldc _ => ac_go (o + 1, b, ls, rz_i im :: st, h)
  | .ldc_w _ => ac_go (o + 1, b, ls, rz_i im :: st, h)
  | .lconst _ => ac_go (o + 1, b, ls, rz_l im.toInt64 :: st, h)
  | .ldc2_w _ => ac_go (o + 1, b, ls, rz_l im.toInt64 :: st, h)
  | .aconst_null => ac_go (o + 1, b, ls, rz_r none :: st, h)
  | .iload _ => rz_ldi aux ls (fun v => (o + 1, b, ls, v :: st, h))
  | .iload_n _ => rz_ldi aux ls (fun v => (o + 1, b, ls, v :: st, h))
  | .lload _ => rz_ldl aux ls (fun v => (o + 1, b, ls, v :: st, h))
  | .lload_n _ => rz_ldl aux ls (fun v => (o + 1, b, ls, v :: st, h))
  | .aload _ => rz_lda aux ls (fun v => (o + 1, b, ls, v :: st, h))
  | .aload_n _ => rz_lda aux ls (fun v => (o + 1, b, ls, v :: st, h))
  | .istore _ => match st with
    | .inl x :: st => rz_st1 aux ls (rz_i x) (fun ls => (o + 1, b, ls, st, h))
    | _ => ac_no
  | .istore_n _ => match st with
    | .inl x :: st => rz_st1 aux ls (rz_i x) (fun ls => (o + 1, b, ls, st, h))
    | _ => ac_no
  | .astore _ => match st with
    | .inr (.inl x) :: st => rz_st1 aux ls (rz_r x) (fun ls => (o + 1, b, ls, st, h))
    | _ => ac_no
  | .astore_n _ => match st with
    | .inr (.inl x) :: st => rz_st1 aux ls (rz_r x) (fun ls => (o + 1, b, ls, st, h))
    | _ => ac_no
  | .lstore _ => match st with
    | .inr (.inr (.inl x)) :: st => rz_st2 aux ls (rz_l x) (fun ls => (o + 1, b, ls, st, h))
    | _ => ac_no
  | .lstore_n _ => match st with
    | .inr (.inr (.inl x)) :: st => rz_st2 aux ls (rz_l x) (fun ls => (o + 1, b, ls, st, h))
    | _ => ac_no
  | .iinc _ _ => match aux with
    | [k] => match rz_nth ls k with
      | some (some (.inl x)) => rz_st1 aux ls (rz_i (x + im)) (fun ls => (o + 1, b, ls, st, h))
      | _ => ac_no
    | _ => ac_no
  | .iadd => match st with
    | .inl y :: .inl x :: st => ac_go (o + 1, b, ls, rz_i (x + y) :: st, h)
    | _ => ac_no
  | .isub => match st with
    | .inl y :: .inl x :: st => ac_go (o + 1, b, ls, rz_i (x - y) :: st, h)
    | _ => ac_no
  | .imul => match st with
    | .inl y :: .inl x :: st => ac_go (o + 1, b, ls, rz_i (x * y) :: st, h)
    | _ => ac_no
  | .idiv => match st with
    | .inl y :: .inl x :: st => ac_b (decide (¬ y = 0)) (o + 1, b, ls, rz_i (x / y) :: st, h) none
    | _ => ac_no
  | .irem => match st with
    | .inl y :: .inl x :: st => ac_b (decide (¬ y = 0)) (o + 1, b, ls, rz_i (x - x / y * y) :: st, h) none
    | _ => ac_no
  | .iand => match st with
    | .inl y :: .inl x :: st => ac_go (o + 1, b, ls, rz_i (x &&& y) :: st, h)
    | _ => ac_no
  | .ior => match st with
    | .inl y :: .inl x :: st => ac_go (o + 1, b, ls, rz_i (x ||| y) :: st, h)
    | _ => ac_no
  | .ixor => match st with
    | .inl y :: .inl x :: st => ac_go (o + 1, b, ls, rz_i (x ^^^ y) :: st, h)
    | _ => ac_no
  | .ishl => match st with
    | .inl y :: .inl x :: st => ac_go (o + 1, b, ls, rz_i (x <<< (y &&& 31)) :: st, h)
    | _ => ac_no
  | .ishr => match st with
    | .inl y :: .inl x :: st => ac_go (o + 1, b, ls, rz_i (x >>> (y &&& 31)) :: st, h)
    | _ => ac_no
  | .iushr => match st with
    | .inl y :: .inl x :: st => ac_go (o + 1, b, ls, rz_i (x.toUInt32 >>> (y.toUInt32 &&& Int32.toUInt32 31)).toInt32 :: st, h)
    | _ => ac_no
  | .ineg => match st with
    | .inl x :: st => ac_go (o + 1, b, ls, rz_i (-x) :: st, h)
    | _ => ac_no
  | .i2b => match st with
    | .inl x :: st => ac_go (o + 1, b, ls, rz_i x.toInt8.toInt32 :: st, h)
    | _ => ac_no
  | .i2l => match st with
    | .inl x :: st => ac_go (o + 1, b, ls, rz_l x.toInt64 :: st, h)
    | _ => ac_no
  | .ladd => match st with
    | .inr (.inr (.inl y)) :: .inr (.inr (.inl x)) :: st => ac_go (o + 1, b, ls, rz_l (x + y) :: st, h)
    | _ => ac_no
  | .lmul => match st with
    | .inr (.inr (.inl y)) :: .inr (.inr (.inl x)) :: st => ac_go (o + 1, b, ls, rz_l (x * y) :: st, h)
    | _ => ac_no
  | .ldiv => match st with
    | .inr (.inr (.inl y)) :: .inr (.inr (.inl x)) :: st => ac_b (decide (¬ y = 0)) (o + 1, b, ls, rz_l (x / y) :: st, h) none
    | _ => ac_no
  | .lcmp => match st with
    | .inr (.inr (.inl y)) :: .inr (.inr (.inl x)) :: st => ac_go (o + 1, b, ls, rz_i (lg_cmp x y) :: st, h)
    | _ => ac_no
  | .dup => match st with
    | v :: st => ac_b (Nat.beq (rz_cat v) 1) (o + 1, b, ls, v :: v :: st, h) none
    | _ => ac_no
  | .dup2 => match st with
    | v :: w :: st => ac_b (Nat.beq (rz_cat v) 1 && Nat.beq (rz_cat w) 1) (o + 1, b, ls, v :: w :: v :: w :: st, h) none
    | _ => ac_no
  | .pop => match st with
    | v :: st => ac_b (Nat.beq (rz_cat v) 1) (o + 1, b, ls, st, h) none
    | _ => ac_no
  | .goto _ => match aux with
    | [t] => ac_go (t, b, ls, st, h)
    | _ => ac_no
  | .ifCond c _ => match aux, st with
    | [t], .inl x :: st => ac_b (rz_cmp c x 0) (t, b, ls, st, h) (some (o + 1, b, ls, st, h))
    | _, _ => ac_no
  | .if_icmp c _ => match aux, st with
    | [t], .inl y :: .inl x :: st => ac_b (rz_cmp c x y) (t, b, ls, st, h) (some (o + 1, b, ls, st, h))
    | _, _ => ac_no
  | .ifnull _ => match aux, st with
    | [t], .inr (.inl r) :: st => ac_b r.isNone (t, b, ls, st, h) (some (o + 1, b, ls, st, h))
    | _, _ => ac_no
  | .ifnonnull _ => match aux, st with
    | [t], .inr (.inl r) :: st => ac_b r.isSome (t, b, ls, st, h) (some (o + 1, b, ls, st, h))
    | _, _ => ac_no
  | .tableswitch _ _ _ _ => match aux, st with
    | d :: l, .inl x :: st => ac_sw x (rz_prs (fun t => (t, b, ls, st, h)) l) (d, b, ls, st, h)
    | _, _ => ac_no
  | .lookupswitch _ _ => match aux, st with
    | d :: l, .inl x :: st => ac_sw x (rz_prs (fun t => (t, b, ls, st, h)) l) (d, b, ls, st, h)
    | _, _ => ac_no
  | .getfield _ => match aux, st with
    | k :: 0 :: cs, .inr (.inl r) :: st => ac_ref r (fun a => okO h a cs) (fun a => (o + 1, b, ls, rz_i (hI h a k) :: st, h))
    | k :: 1 :: cs, .inr (.inl r) :: st => ac_ref r (fun a => okO h a cs) (fun a => (o + 1, b, ls, rz_r (hR h a k) :: st, h))
    | _, _ => ac_no
  | .putfield _ => match aux, st with
    | k :: 0 :: cs, .inl x :: .inr (.inl r) :: st => ac_ref r (fun a => okO h a cs) (fun a => (o + 1, b, ls, st, setI h a k x))
    | k :: 2 :: cs, .inl x :: .inr (.inl r) :: st => ac_ref r (fun a => okO h a cs && (decide (x = 0) || decide (x = 1))) (fun a => (o + 1, b, ls, st, setI h a k x))
    | k :: 1 :: cs, .inr (.inl v) :: .inr (.inl r) :: st => ac_ref r (fun a => okO h a cs) (fun a => (o + 1, b, ls, st, setR h a k v))
    | _, _ => ac_no
  | .iaload => match st with
    | .inl x :: .inr (.inl r) :: st => ac_ref r (fun a => okA h a 0 x) (fun a => (o + 1, b, ls, rz_i (hI h a x.toNatClampNeg) :: st, h))
    | .inl x :: .inr (.inr (.inr _)) :: st => match scr with
      | some (L, xs) => ac_b (rz_in x L) (o + 1, b, ls, rz_i (xs x.toNatClampNeg) :: st, h) none
      | none => ac_no
    | _ => ac_no
  | .baload => match st with
    | .inl x :: .inr (.inl r) :: st => ac_ref r (fun a => okA h a 1 x) (fun a => (o + 1, b, ls, rz_i (hI h a x.toNatClampNeg) :: st, h))
    | _ => ac_no
  | .aaload => match st with
    | .inl x :: .inr (.inl r) :: st => ac_ref r (fun a => okA h a 2 x) (fun a => (o + 1, b, ls, rz_r (hR h a x.toNatClampNeg) :: st, h))
    | _ => ac_no
  | .iastore => match st with
    | .inl v :: .inl x :: .inr (.inl r) :: st => ac_ref r (fun a => okA h a 0 x) (fun a => (o + 1, b, ls, st, setI h a x.toNatClampNeg v))
    | _ => ac_no
  | .bastore => match st with
    | .inl v :: .inl x :: .inr (.inl r) :: st => ac_ref r (fun a => okA h a 1 x) (fun a => (o + 1, b, ls, st, setI h a x.toNatClampNeg v.toInt8.toInt32))
    | _ => ac_no
  | .aastore => match aux, st with
    | [c], .inr (.inl (some v)) :: .inl x :: .inr (.inl r) :: st => ac_ref r (fun a => okA h a 2 x && okO h v [c]) (fun a => (o + 1, b, ls, st, setR h a x.toNatClampNeg (some v)))
    | _, _ => ac_no
  | .arraylength => match st with
    | .inr (.inl r) :: st => ac_ref r (fun a => okL h a) (fun a => (o + 1, b, ls, rz_i (aLen h a) :: st, h))
    | .inr (.inr (.inr _)) :: st => match scr with
      | some (L, _) => ac_go (o + 1, b, ls, rz_i (Int32.ofNat L) :: st, h)
      | none => ac_no
    | _ => ac_no
  | .new _ => match aux with
    | [c, n] => ac_b (Nat.ble 1 b.1 && Nat.ble n b.2) (o + 1, (b.1 - 1, b.2 - n), ls, rz_r (some (rz_len h)) :: st, rz_new h (.inl c)) none
    | _ => ac_no
  | .newarray _ => match aux, st with
    | [ty], .inl n :: st => ac_b (Nat.ble 1 b.1 && (Nat.ble n.toNatClampNeg b.2 && (!(decide (n < 0)) && Nat.ble n.toNatClampNeg 1000))) (o + 1, (b.1 - 1, b.2 - n.toNatClampNeg), ls, rz_r (some (rz_len h)) :: st, rz_new h (.inr (ty, n.toNatClampNeg))) none
    | _, _ => ac_no
  | .anewarray _ => match aux, st with
    | [ty], .inl n :: st => ac_b (Nat.ble 1 b.1 && (Nat.ble n.toNatClampNeg b.2 && (!(decide (n < 0)) && Nat.ble n.toNatClampNeg 1000))) (o + 1, (b.1 - 1, b.2 - n.toNatClampNeg), ls, rz_r (some (rz_len h)) :: st, rz_new h (.inr (ty, n.toNatClampNeg))) none
    | _, _ => ac_no
  | .invokevirtual _ => rz_inv Mt aux (o + 1) b ls st h
  | .invokestatic _ => rz_invS Mt aux (o + 1) b ls st h
  | .invokespecial _ => match aux with
    | [] => match st with
      | .inr (.inl (some a)) :: st => ac_b (Nat.ble (rz_cats st) 8) (o + 1, b, ls, st, h) none
      | _ => ac_no
    | _ => rz_inv Mt aux (o + 1) b ls st h
  | .ireturn => match rk, st with
    | 1, [.inl x] => ac_ret (Nat.beq b.1 0) (rz_i x) h
    | 4, [.inl x] => ac_ret (Nat.beq b.1 0 && (decide (x = 0) || decide (x = 1))) (rz_i x) h
    | _, _ => ac_no
  | .lreturn => match rk, st with
    | 3, [.inr (.inr (.inl x))] => ac_ret (Nat.beq b.1 0) (rz_l x) h
    | _, _ => ac_no
  | .areturn => match rk, st with
    | 2, [.inr (.inl x)] => ac_ret (Nat.beq b.1 0) (rz_r x) h
    | _, _ => ac_no
  | .return_ => match rk, st with
    | 0, [] => ac_ret (Nat.beq b.1 0) (rz_i 0) h
    | _, _ => ac_no
  | _ => ac_no
def rz_act (Mt : rz_M) (rk : Nat) (scr : Option (Nat × (Nat → Int32))) (F : Nat → Option rz_Row) (s : rz_St) : rz_Act := match F s.1 with
  | none => ac_no
  | some (_, i, _, im, aux, dead, _) => rz_do Mt rk scr i im aux s.1 s.2.1 (rz_drop s.2.2.1 dead) s.2.2.2.1 s.2.2.2.2
/-- what comes back from a call -/
def bV (o : Option rz_Res) (f : rz_H → Option rz_Res) : Option rz_Res := Option.bind o (fun q => f q.2)
def bI (o : Option rz_Res) (f : Int32 → rz_H → Option rz_Res) : Option rz_Res := Option.bind o (fun q => match q.1 with
  | .inl x => f x q.2
  | _ => none)
def bR (o : Option rz_Res) (f : Option Nat → rz_H → Option rz_Res) : Option rz_Res := Option.bind o (fun q => match q.1 with
  | .inr (.inl x) => f x q.2
  | _ => none)
def bL (o : Option rz_Res) (f : Int64 → rz_H → Option rz_Res) : Option rz_Res := Option.bind o (fun q => match q.1 with
  | .inr (.inr (.inl x)) => f x q.2
  | _ => none)
/-- it goes onto the stack -/
def rz_back (k : rz_St → Option rz_Res) (rk : Nat) (s : rz_St) (q : Option rz_Res) : Option rz_Res := match rk with
  | 0 => bV q (fun h => k (s.1, s.2.1, s.2.2.1, s.2.2.2.1, h))
  | 1 => bI q (fun x h => k (s.1, s.2.1, s.2.2.1, rz_i x :: s.2.2.2.1, h))
  | 4 => bI q (fun x h => k (s.1, s.2.1, s.2.2.1, rz_i x :: s.2.2.2.1, h))
  | 2 => bR q (fun x h => k (s.1, s.2.1, s.2.2.1, rz_r x :: s.2.2.2.1, h))
  | 3 => bL q (fun x h => k (s.1, s.2.1, s.2.2.1, rz_l x :: s.2.2.2.1, h))
  | _ => none
def rz_swk (k : rz_St → Option rz_Res) (x : Int32) (d : rz_St) : List (Int32 × rz_St) → Option rz_Res
  | [] => k d
  | (c, s) :: l => bif decide (x = c) then k s else rz_swk k x d l
abbrev rz_C : Type := Nat → List rz_V → rz_H → Option rz_Res
def rz_ap (cf : rz_C) (k : rz_St → Option rz_Res) (a : rz_Act) : Option rz_Res := match a with
  | .inl (b, s1, s2) => bif b then k s1 else match s2 with
    | some s2 => k s2
    | none => none
  | .inr (.inl (b, r)) => bif b then some r else none
  | .inr (.inr (.inl (r, g, f))) => Option.bind r (fun x => bif g x then k (f x) else none)
  | .inr (.inr (.inr (.inl (m, r, g, f, rk, s)))) => Option.bind r (fun x => bif g x then rz_back k rk s (cf m (f x) s.2.2.2.2) else none)
  | .inr (.inr (.inr (.inr (.inl (x, cs, d))))) => rz_swk k x d cs
  | .inr (.inr (.inr (.inr (.inr _)))) => none
