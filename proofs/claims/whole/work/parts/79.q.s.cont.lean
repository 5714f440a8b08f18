/-! the law's text: what is still to come in a sum -/
abbrev FRM : Type := Option Nat × Option Nat
def clW (o : Option Nat) (f : Nat → CC → Nat → RC) (p : Nat) (c : CC) (n : Nat) : RC := match o with
  | none => f p c n
  | some s => f p (psh c n (s, 0)) (n + 1)
/-- behind a factor, with the sum's and the product's sign that wait -/
def aF (t : Nat → Nat) (L : Nat) : List FRM → Nat → FRM → Nat → CC → Nat → RC
  | [], g, m, p, c, n => clW m.2 (fun p c n => cbd (blp t L (fcG t L g) mulT 240 p c n) (clW m.1 (blp t L (prdT t L (fcG t L g)) addT 240))) p c n
  | m' :: r, g, m, p, c, n => cbd (clW m.2 (fun p c n => cbd (blp t L (fcG t L g) mulT 240 p c n) (clW m.1 (blp t L (prdT t L (fcG t L g)) addT 240))) p c n) (fun p c n => cbd (clL t L 93 p c n) (aF t L r (g + 1) m'))
theorem sum_aF (t : Nat → Nat) (L g p : Nat) (c : CC) (n : Nat) : sumT t L (fcG t L g) p c n = cbd (fcG t L g p c n) (aF t L [] g (none, none)) := by
  show cbd (cbd (fcG t L g p c n) (blp t L (fcG t L g) mulT 240)) (blp t L (prdT t L (fcG t L g)) addT 240) = _
  rw [cbd_as]
  rfl
