/-! the law's own run -/
def h00 : rz_H := (fun _ _ => 0, fun _ _ => none, [])
noncomputable def lawW (d L : Nat) (xs : Nat → Int32) (S : rz_St) : Option rz_Res := rz_W (rz_act mT (mK 273) (some (L, xs)) (mF 273)) (cW d) S
