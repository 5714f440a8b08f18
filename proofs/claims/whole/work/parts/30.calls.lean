/-! calls to a depth -/
def rz_c1 : rz_V → Bool
  | .inr (.inr (.inl _)) => false
  | _ => true
def rz_okA (m : Nat) (args : List rz_V) : Bool := Nat.beq args.length (mA m) && args.all rz_c1
noncomputable def cW : Nat → rz_C
  | 0 => fun _ _ _ => none
  | d + 1 => fun m args h => bif rz_okA m args then rz_W (rz_act mT (mK m) none (mF m)) (cW d) (0, mB m, args.map some ++ List.replicate (mL m - args.length) none, [], h) else none
noncomputable def rW (d m : Nat) (s : rz_St) : Option rz_Res := rz_W (rz_act mT (mK m) none (mF m)) (cW d) s
theorem cW_eq (d m : Nat) (args : List rz_V) (h : rz_H) : cW (d + 1) m args h = bif rz_okA m args then rW d m (0, mB m, args.map some ++ List.replicate (mL m - args.length) none, [], h) else none := rfl
theorem rW_walk (d m : Nat) (cut : Nat → Bool) (n : Nat) (s : rz_St) : rW d m s = rz_ap (cW d) (rz_seg (rz_act mT (mK m) none (mF m)) (cW d) (rW d m) cut n) (rz_act mT (mK m) none (mF m) s) := rz_walk _ _ cut n s
def rz_cut (l : List Nat) (o : Nat) : Bool := l.any (Nat.beq o)
