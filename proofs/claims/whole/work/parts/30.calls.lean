/-! calls to a depth -/
noncomputable def cW : Nat → rz_C
  | 0 => fun _ _ _ => none
  | d + 1 => fun m args h => rz_W (rz_act mT (mK m) none (mF m)) (cW d) (0, mB m, args.map some ++ List.replicate (mL m - args.length) none, [], h)
noncomputable def rW (d m : Nat) (s : rz_St) : Option rz_Res := rz_W (rz_act mT (mK m) none (mF m)) (cW d) s
theorem cW_eq (d m : Nat) (args : List rz_V) (h : rz_H) : cW (d + 1) m args h = rW d m (0, mB m, args.map some ++ List.replicate (mL m - args.length) none, [], h) := rfl
theorem rW_walk (d m : Nat) (cut : Nat → Bool) (n : Nat) (s : rz_St) : rW d m s = rz_ap (cW d) (rz_seg (rz_act mT (mK m) none (mF m)) (cW d) (rW d m) cut n) (rz_act mT (mK m) none (mF m) s) := rz_walk _ _ cut n s
def rz_cut (l : List Nat) (o : Nat) : Bool := l.any (Nat.beq o)
