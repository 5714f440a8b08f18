/-! the law's text: how often a row goes on doesn't matter, if it is often enough -/
theorem cbd_cg {r : RC} {f g : Nat → CC → Nat → RC} (h : ∀ q, r = Sum.inr q → f q.1 q.2.1 q.2.2 = g q.1 q.2.1 q.2.2) : cbd r f = cbd r g := by
  rcases r with e | q
  · rfl
  · exact h q rfl
theorem blp_fu {t : Nat → Nat} {L B : Nat} {tp : Bool} {it : Nat → CC → Nat → RC} (h : Sp L tp B it) (is : Nat → Bool) : ∀ f f' p c n, L - p ≤ f → L - p ≤ f' → blp t L it is f p c n = blp t L it is f' p c n
  | 0, 0, p, c, n, _, _ => rfl
  | 0, f' + 1, p, c, n, h1, _ => by
    show _ = (if p < L ∧ is (t p) = true then _ else Sum.inr (p, c, n))
    rw [if_neg (by omega)]
    rfl
  | f + 1, 0, p, c, n, _, h2 => by
    show (if p < L ∧ is (t p) = true then _ else Sum.inr (p, c, n)) = _
    rw [if_neg (by omega)]
    rfl
  | f + 1, f' + 1, p, c, n, h1, h2 => by
    unfold blp
    by_cases c1 : p < L ∧ is (t p) = true
    · rw [if_pos c1, if_pos c1]
      refine cbd_cg fun q hq => ?_
      have g := h.at (by omega) hq
      have g2 := g.2.1
      have g3 := g.2.2.1
      exact blp_fu h is f f' q.1 _ _ (by omega) (by omega)
    · rw [if_neg c1, if_neg c1]
theorem jlp_fu {t : Nat → Nat} {L B : Nat} {tp : Bool} {it : Nat → CC → Nat → RC} (h : Sp L tp B it) (sg kd : Nat) : ∀ f f' p c n, L - p ≤ f → L - p ≤ f' → jlp t L it sg kd f p c n = jlp t L it sg kd f' p c n
  | 0, 0, p, c, n, _, _ => rfl
  | 0, f' + 1, p, c, n, h1, _ => by
    show _ = (if p < L ∧ t p = sg then _ else Sum.inr (p, c, n))
    rw [if_neg (by omega)]
    rfl
  | f + 1, 0, p, c, n, _, h2 => by
    show (if p < L ∧ t p = sg then _ else Sum.inr (p, c, n)) = _
    rw [if_neg (by omega)]
    rfl
  | f + 1, f' + 1, p, c, n, h1, h2 => by
    unfold jlp
    by_cases c1 : p < L ∧ t p = sg
    · rw [if_pos c1, if_pos c1]
      refine cbd_cg fun q hq => ?_
      have g := h.at (by omega) hq
      have g2 := g.2.1
      have g3 := g.2.2.1
      exact jlp_fu h sg kd f f' q.1 _ _ (by omega) (by omega)
    · rw [if_neg c1, if_neg c1]
