/-! what is asked of a row of the tables, by program -/
def rz_chunk : Nat → List Jvm.Cond := fun k => match k with
  | 0 => k2_sels lw_privs
  | 1 => tables_1_1
  | 2 => tables_1_2
  | 3 => tables_1_3
  | 4 => tables_1_4
  | 5 => tables_1_5
  | 6 => tables_1_6
  | _ => tables_1_7
theorem rz_chunk_in (k : Nat) (w : Jvm.Cond) (h : w ∈ rz_chunk k) : w ∈ lw_tbl := by
  unfold rz_chunk at h
  show w ∈ k2_sels lw_privs ++ (tables_1_1 ++ (tables_1_2 ++ (tables_1_3 ++ (tables_1_4 ++ (tables_1_5 ++ (tables_1_6 ++ tables_1_7))))))
  simp only [List.mem_append]
  split at h <;> simp [h]
def rz_tb (i : Nat) : Option Jvm.Cond := (rz_chunk (i / 1000))[i % 1000]?
/-- the words that a callee may take with it -/
def lwG : List Jvm.Cond := lw_tbl.filter goodWord
def rz_at (i : Nat) (w : Jvm.Cond) : Bool := decide (rz_tb i = some w) && goodWord w
theorem rz_tb_in {i : Nat} {w : Jvm.Cond} (h : rz_tb i = some w) : w ∈ lw_tbl := rz_chunk_in _ w (List.mem_of_getElem? h)
theorem rz_at_mem {i : Nat} {w : Jvm.Cond} (h : rz_at i w = true) : w ∈ lwG := by
  unfold rz_at at h
  rw [Bool.and_eq_true] at h
  exact List.mem_filter.mpr ⟨rz_tb_in (of_decide_eq_true h.1), h.2⟩
def rpc (M o : Nat) : Nat := match mF M o with
  | some r => r.1
  | none => 0
def ck_nx (M o pc len : Nat) : Bool := Nat.beq (rpc M (o + 1)) (pc + len)
def ck_br (M pc : Nat) (off : Int) (t : Nat) : Bool := decide ((pc : Int) + off = (rpc M t : Int))
def rz_isR : FieldType → Bool
  | .object _ => true
  | .array _ => true
  | _ => false
def ck_f0 (own : String) (idx p k c : Nat) : Bool := Nat.blt c 11 && (Nat.blt k (kN c) && rz_at p (.fieldLink own idx (kT c k).1 (kT c k).2.1 (kT c k).2.2.1))
def ck_get (own : String) (idx p k t c : Nat) : Bool := ck_f0 own idx p k c && (match t with
  | 0 => !(rz_isR (kY c k))
  | 1 => rz_isR (kY c k)
  | _ => false)
def ck_put (y : MethodName) (idx p k t c : Nat) : Bool := ck_f0 y.cls idx p k c && ((match t with
  | 0 => decide (kY c k = .int)
  | 1 => rz_isR (kY c k)
  | 2 => decide (kY c k = .boolean)
  | _ => false) && (!((kT c k).2.2.2) || (decide (y.name = "<init>") && decide ((kT c k).1 = y.cls))))
def ck_ar (desc : String) (n : Nat) : Bool := decide ((parseMethodDescriptor desc).map (fun d => d.parameters.length) = some n)
/-- the callee's own words -/
def ck_cal (mm n pi pcd pin : Nat) : Bool := (Nat.blt mm 279 && !(Nat.beq mm 274)) && (rz_at pcd (.code (mY mm) (mC mm) (mL mm) (mR mm)) && (rz_at pi (.instanceMethod (mY mm)) && (rz_at pin (.initialized (mY mm).cls) && ck_ar (mY mm).desc n)))
def ck_calS (mm n pi pcd pin : Nat) : Bool := (Nat.blt mm 279 && !(Nat.beq mm 274)) && (rz_at pcd (.code (mY mm) (mC mm) (mL mm) (mR mm)) && (rz_at pi (.static (mY mm)) && (rz_at pin (.initialized (mY mm).cls) && ck_ar (mY mm).desc n)))
def ck_sels (x y : MethodName) : List Nat → List Nat → Bool
  | [], [] => true
  | c :: cs, q :: qs => Nat.blt c 11 && (rz_at q (.selects (kC c) x y) && ck_sels x y cs qs)
  | _, _ => false
def ck_V (own : String) (idx mm n : Nat) (cs ps : List Nat) : Bool := match ps with
  | pl :: pi :: pcd :: pin :: 0 :: [q] => match cs with
    | [c] => ck_cal mm n pi pcd pin && (rz_at pl (.methodLink own idx (mY mm)) && (Nat.blt c 11 && (decide ((mY mm).cls = kC c) && rz_at q (.selects (kC c) (mY mm) (mY mm)))))
    | _ => false
  | pl :: pi :: pcd :: pin :: ps :: qs => ck_cal mm n pi pcd pin && (match rz_tb pl with
    | some (.methodLink o i x) => rz_at pl (.methodLink o i x) && ( decide (o = own) && (Nat.beq i idx && (decide (x.name = (mY mm).name) && (decide (x.desc = (mY mm).desc) && (rz_at ps (.sameMethod x.cls (mY mm).cls x.name x.desc) && ck_sels x (mY mm) cs qs)))))
    | _ => false)
  | _ => false
def ck_S (own : String) (idx mm n : Nat) (ps : List Nat) : Bool := match ps with
  | pl :: pi :: pcd :: pin :: [0] => ck_calS mm n pi pcd pin && rz_at pl (.methodLink own idx (mY mm))
  | pl :: pi :: pcd :: pin :: [ps] => ck_calS mm n pi pcd pin && (match rz_tb pl with
    | some (.methodLink o i x) => rz_at pl (.methodLink o i x) && ( decide (o = own) && (Nat.beq i idx && (decide (x.name = (mY mm).name) && (decide (x.desc = (mY mm).desc) && rz_at ps (.sameMethod x.cls (mY mm).cls x.name x.desc)))))
    | _ => false)
  | _ => false
def ck_I (own : String) (idx mm n : Nat) (cs ps : List Nat) : Bool := match ps with
  | pl :: pi :: pcd :: [pin] => ck_cal mm n pi pcd pin && (rz_at pl (.methodLink own idx (mY mm)) && (decide ((mY mm).name = "<init>") && (decide (mR mm = none) && cs.all (fun c => Nat.blt c 11))))
  | _ => false
def ck_tab (M pc : Nat) (lo : Int) : List Int → List Nat → Bool
  | [], [] => true
  | off :: offs, k :: t :: l => decide (((Int32.ofNat k).toInt) = lo) && (ck_br M pc off t && ck_tab M pc (lo + 1) offs l)
  | _, _ => false
def ck_lk (M pc : Nat) : List (Int × Int) → List Nat → Bool
  | [], [] => true
  | (a, off) :: ps, k :: t :: l => decide (((Int32.ofNat k).toInt) = a) && (ck_br M pc off t && ck_lk M pc ps l)
  | _, _ => false
def ck_1 (M o pc len : Nat) : Bool := Nat.beq len 1 && ck_nx M o pc len
def rz_ck (M o pc : Nat) (i : Instr) (len : Nat) (im : Int32) (aux ps : List Nat) : Bool := match i with
  | .iconst n => ck_1 M o pc len && decide (Int32.ofInt n = im)
  | .bipush n => (Nat.beq len 2 && ck_nx M o pc len) && decide ((Int8.ofInt n).toInt32 = im)
  | .sipush n => (Nat.beq len 3 && ck_nx M o pc len) && decide ((Int16.ofInt n).toInt32 = im)
  | .ldc idx => (Nat.beq len 2 && ck_nx M o pc len) && (match ps with
    | [p] => rz_at p (.constant (mY M).cls idx im)
    | _ => false)
  | .ldc_w idx => (Nat.beq len 3 && ck_nx M o pc len) && (match ps with
    | [p] => rz_at p (.constant (mY M).cls idx im)
    | _ => false)
  | .lconst n => ck_1 M o pc len && decide (Int64.ofNat (n : Nat) = im.toInt64)
  | .ldc2_w idx => (Nat.beq len 3 && ck_nx M o pc len) && (match ps with
    | [p] => rz_at p (.constantLong (mY M).cls idx im.toInt64)
    | _ => false)
  | .iload i => (Nat.beq len 2 && ck_nx M o pc len) && decide (aux = [i])
  | .iload_n i => ck_1 M o pc len && decide (aux = [(i : Nat)])
  | .lload i => (Nat.beq len 2 && ck_nx M o pc len) && decide (aux = [i])
  | .lload_n i => ck_1 M o pc len && decide (aux = [(i : Nat)])
  | .aload i => (Nat.beq len 2 && ck_nx M o pc len) && decide (aux = [i])
  | .aload_n i => ck_1 M o pc len && decide (aux = [(i : Nat)])
  | .istore i => (Nat.beq len 2 && ck_nx M o pc len) && decide (aux = [i])
  | .istore_n i => ck_1 M o pc len && decide (aux = [(i : Nat)])
  | .lstore i => (Nat.beq len 2 && ck_nx M o pc len) && decide (aux = [i])
  | .lstore_n i => ck_1 M o pc len && decide (aux = [(i : Nat)])
  | .astore i => (Nat.beq len 2 && ck_nx M o pc len) && decide (aux = [i])
  | .astore_n i => ck_1 M o pc len && decide (aux = [(i : Nat)])
  | .iinc i n => (Nat.beq len 3 && ck_nx M o pc len) && (decide (aux = [i]) && decide (Int32.ofInt n = im))
  | .goto off => Nat.beq len 3 && (match aux with
    | [t] => ck_br M pc off t
    | _ => false)
  | .ifCond _ off => (Nat.beq len 3 && ck_nx M o pc len) && (match aux with
    | [t] => ck_br M pc off t
    | _ => false)
  | .if_icmp _ off => (Nat.beq len 3 && ck_nx M o pc len) && (match aux with
    | [t] => ck_br M pc off t
    | _ => false)
  | .ifnull off => (Nat.beq len 3 && ck_nx M o pc len) && (match aux with
    | [t] => ck_br M pc off t
    | _ => false)
  | .ifnonnull off => (Nat.beq len 3 && ck_nx M o pc len) && (match aux with
    | [t] => ck_br M pc off t
    | _ => false)
  | .tableswitch d lo hi offs => match aux with
    | t :: l => ck_br M pc d t && (ck_tab M pc lo offs.toList l && decide (hi = lo + offs.toList.length - 1))
    | _ => false
  | .lookupswitch d prs => match aux with
    | t :: l => ck_br M pc d t && (ck_lk M pc prs.toList l && (prs.toList.zip (prs.toList.drop 1)).all (fun (a, next) => a.1 < next.1))
    | _ => false
  | .getfield idx => (Nat.beq len 3 && ck_nx M o pc len) && (match aux, ps with
    | k :: t :: cs, [p] => cs.all (ck_get (mY M).cls idx p k t)
    | _, _ => false)
  | .putfield idx => (Nat.beq len 3 && ck_nx M o pc len) && (match aux, ps with
    | k :: t :: cs, [p] => cs.all (ck_put (mY M) idx p k t)
    | _, _ => false)
  | .new idx => (Nat.beq len 3 && ck_nx M o pc len) && (match aux, ps with
    | [c, n], [p1, p2, p3] => Nat.blt c 11 && (Nat.beq n (kN c) && (rz_at p1 (.classLink (mY M).cls idx (kC c)) && (rz_at p2 (.instantiable (kC c) (kN c)) && rz_at p3 (.initialized (kC c)))))
    | _, _ => false)
  | .newarray aty => (Nat.beq len 2 && ck_nx M o pc len) && (match aux, ps with
    | [ty], [p] => rz_at p (.arrayClass (newarray.typeOf aty)) && ((Nat.beq ty 0 && decide (aty = .int)) || (Nat.beq ty 1 && decide (aty = .byte)))
    | _, _ => false)
  | .anewarray idx => (Nat.beq len 3 && ck_nx M o pc len) && (match aux, ps with
    | [ty], [p1, p2] => Nat.beq ty 2 && (rz_at p1 (.classLink (mY M).cls idx (kC 0)) && decide (rz_tb p2 = some (.arrayOver (.object (kC 0)))))
    | _, _ => false)
  | .aastore => ck_1 M o pc len && decide (aux = [0])
  | .invokevirtual idx => (Nat.beq len 3 && ck_nx M o pc len) && (match aux with
    | mm :: n :: cs => ck_V (mY M).cls idx mm n cs ps
    | _ => false)
  | .invokestatic idx => (Nat.beq len 3 && ck_nx M o pc len) && (match aux with
    | mm :: n :: _ => ck_S (mY M).cls idx mm n ps
    | _ => false)
  | .invokespecial idx => (Nat.beq len 3 && ck_nx M o pc len) && (match aux with
    | [] => (match ps with
      | [p1, p2, p3] => rz_at p1 (.methodLink (mY M).cls idx Lib.objectInit) && (rz_at p2 (.instanceMethod Lib.objectInit) && rz_at p3 (.code Lib.objectInit ⟨#[0xb1]⟩ 1 none))
      | _ => false)
    | mm :: n :: cs => ck_I (mY M).cls idx mm n cs ps
    | _ => false)
  | .ireturn => Nat.beq len 1
  | .lreturn => Nat.beq len 1
  | .areturn => Nat.beq len 1
  | .return_ => Nat.beq len 1
  | _ => ck_1 M o pc len
def rz_chk (M o : Nat) : Bool := match mF M o with
  | some (pc, i, len, im, aux, _, ps) => decide (decode (mC M) pc = .ok (i, len)) && rz_ck M o pc i len im aux ps
  | none => true
/-- a method's rows, and what is asked of the method -/
def rz_chM (M : Nat) : Bool := (List.range (mZ M)).all (rz_chk M)
