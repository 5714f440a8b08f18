/-! the law's text: what is still to come in a test -/
abbrev TFR : Type := Option (Option Nat × Option Nat)
def aiO (c : CC) (o : Option Nat) (n : Nat) : CC := match o with
  | none => c
  | some j => aimC c j n
/-- behind a test, with what is open around it -/
def aT (t : Nat → Nat) (L : Nat) : List TFR → Nat → Nat → CC → Nat → RC
  | [], _, p, c, n => Sum.inr (p, c, n)
  | none :: r, g, p, c, n => aT t L r (g + 1) p (psh c n (3, 0)) (n + 1)
  | some m :: r, g, p, c, n => cbd (jlp t L (tsG t L g) 38 5 240 p (aiO c m.2 n) n) (fun p c n => cbd (jlp t L (allT t L (tsG t L g)) 124 4 240 p (aiO c m.1 n) n) (fun p c n => cbd (clL t L 41 p c n) (aT t L r (g + 1))))
theorem cbd_i (p : Nat) (c : CC) (n : Nat) (f : Nat → CC → Nat → RC) : cbd (Sum.inr (p, c, n)) f = f p c n := rfl
theorem aT_z (t : Nat → Nat) (L g p : Nat) (c : CC) (n : Nat) : aT t L [] g p c n = Sum.inr (p, c, n) := rfl
theorem aT_n (t : Nat → Nat) (L : Nat) (r : List TFR) (g p : Nat) (c : CC) (n : Nat) : aT t L (none :: r) g p c n = aT t L r (g + 1) p (psh c n (3, 0)) (n + 1) := rfl
theorem aT_s (t : Nat → Nat) (L : Nat) (m : Option Nat × Option Nat) (r : List TFR) (g p : Nat) (c : CC) (n : Nat) : aT t L (some m :: r) g p c n = cbd (jlp t L (tsG t L g) 38 5 240 p (aiO c m.2 n) n) (fun p c n => cbd (jlp t L (allT t L (tsG t L g)) 124 4 240 p (aiO c m.1 n) n) (fun p c n => cbd (clL t L 41 p c n) (aT t L r (g + 1)))) := rfl
theorem jlp_s (t : Nat → Nat) (L : Nat) (it : Nat → CC → Nat → RC) (sg kd p : Nat) (c : CC) (n : Nat) : jlp t L it sg kd 240 p c n = if p < L ∧ t p = sg then cbd (it (p + 1) (psh c n (kd, 0)) (n + 1)) (fun p' c' n' => jlp t L it sg kd 239 p' (aimC c' n n') n') else Sum.inr (p, c, n) := rfl
theorem jlp_y {t : Nat → Nat} {L B : Nat} {tp : Bool} {it : Nat → CC → Nat → RC} (h : Sp L tp B it) {sg kd : Nat} (hL : L ≤ 240) {p : Nat} (hp : p < L) (hi : t p = sg) (c : CC) (n : Nat) : jlp t L it sg kd 240 p c n = cbd (it (p + 1) (psh c n (kd, 0)) (n + 1)) (fun p' c' n' => jlp t L it sg kd 240 p' (aimC c' n n') n') := by
  rw [jlp_s, if_pos ⟨hp, hi⟩]
  refine cbd_cg fun q hq => ?_
  have g := h.at (by omega) hq
  have g2 := g.2.1
  have g3 := g.2.2.1
  exact jlp_fu h sg kd 239 240 q.1 _ _ (by omega) (by omega)
theorem jlp_x {t : Nat → Nat} {L : Nat} {it : Nat → CC → Nat → RC} {sg kd p : Nat} (hi : ¬ (p < L ∧ t p = sg)) (c : CC) (n : Nat) : jlp t L it sg kd 240 p c n = Sum.inr (p, c, n) := by
  rw [jlp_s, if_neg hi]
theorem any_aT (t : Nat → Nat) (L g : Nat) (r : List TFR) (p : Nat) (c : CC) (n : Nat) : cbd (anyT t L (tsG t L g) p c n) (fun p c n => cbd (clL t L 41 p c n) (aT t L r (g + 1))) = cbd (tsG t L g p c n) (aT t L (some (none, none) :: r) g) := by
  show cbd (cbd (cbd (tsG t L g p c n) (jlp t L (tsG t L g) 38 5 240)) (jlp t L (allT t L (tsG t L g)) 124 4 240)) _ = _
  rw [cbd_as, cbd_as]
  refine cbd_cg fun q _ => ?_
  rw [aT_s]
  rfl
theorem tsG_n {t : Nat → Nat} {L : Nat} (fr : List TFR) (g : Nat) {p : Nat} (c : CC) (n : Nat) (h : p < L ∧ t p = 33) : cbd (tsG t L (g + 1) p c n) (aT t L fr (g + 1)) = cbd (tsG t L g (p + 1) c n) (aT t L (none :: fr) g) := by
  show cbd (tstT t L true (tsG t L g) _ _ p c n) _ = _
  unfold tstT
  rw [if_pos h, if_pos rfl, cbd_as]
  rfl
theorem tsG_o {t : Nat → Nat} {L : Nat} (fr : List TFR) (g : Nat) {p : Nat} (c : CC) (n : Nat) (h : p < L ∧ t p = 40) : cbd (tsG t L (g + 1) p c n) (aT t L fr (g + 1)) = cbd (tsG t L g (p + 1) c n) (aT t L (some (none, none) :: fr) g) := by
  rw [← any_aT]
  show cbd (tstT t L true _ (anyT t L (tsG t L g)) _ p c n) _ = _
  unfold tstT
  rw [if_neg (by omega), if_pos h, if_pos rfl, cbd_as]
theorem tsG_0 {t : Nat → Nat} {L : Nat} {p : Nat} (c : CC) (n : Nat) (h : p < L ∧ (t p = 33 ∨ t p = 40)) : tsG t L 0 p c n = Sum.inl (5, p) := by
  show tstT t L false _ _ _ p c n = _
  unfold tstT
  by_cases h1 : p < L ∧ t p = 33
  · rw [if_pos h1, if_neg (by decide)]
  · rw [if_neg h1, if_pos (by omega), if_neg (by decide)]
theorem tsG_c {t : Nat → Nat} {L : Nat} (g : Nat) {p : Nat} (c : CC) (n : Nat) (h : ¬ (p < L ∧ (t p = 33 ∨ t p = 40))) : tsG t L g p c n = cmpR t L (sumT t L (fcG t L g)) p c n := by
  cases g with
  | zero =>
    show tstT t L false _ _ _ p c n = _
    unfold tstT
    rw [if_neg (by omega), if_neg (by omega)]
  | succ g =>
    show tstT t L true _ _ _ p c n = _
    unfold tstT
    rw [if_neg (by omega), if_neg (by omega)]
theorem aT_k {t : Nat → Nat} {L : Nat} (m : Option Nat × Option Nat) (r : List TFR) (g : Nat) {p : Nat} (c : CC) (n : Nat) (h : p < L ∧ t p = 41) : aT t L (some m :: r) g p c n = aT t L r (g + 1) (p + 1) (aiO (aiO c m.2 n) m.1 n) n := by
  rw [aT_s, jlp_x (by omega)]
  rw [cbd_i]
  rw [jlp_x (by omega)]
  rw [cbd_i]
  unfold clL
  rw [if_pos h]
  rfl
theorem aT_w {t : Nat → Nat} {L : Nat} (m : Option Nat × Option Nat) (r : List TFR) (g : Nat) {p : Nat} (c : CC) (n : Nat) (h : ¬ (p < L ∧ (t p = 41 ∨ t p = 38 ∨ t p = 124))) : aT t L (some m :: r) g p c n = Sum.inl (1, p) := by
  rw [aT_s, jlp_x (by omega)]
  rw [cbd_i]
  rw [jlp_x (by omega)]
  rw [cbd_i]
  unfold clL
  rw [if_neg (by omega)]
  rfl
theorem aT_a {t : Nat → Nat} {L : Nat} (hL : L ≤ 240) (m : Option Nat × Option Nat) (r : List TFR) (g : Nat) {p : Nat} (c : CC) (n : Nat) (h : p < L ∧ t p = 38) : aT t L (some m :: r) g p c n = cbd (tsG t L g (p + 1) (psh (aiO c m.2 n) n (5, 0)) (n + 1)) (aT t L (some (m.1, some n) :: r) g) := by
  rw [aT_s, jlp_y (tsG_sp t L g) hL h.1 h.2, cbd_as]
  rfl
theorem aT_o {t : Nat → Nat} {L : Nat} (hL : L ≤ 240) (m : Option Nat × Option Nat) (r : List TFR) (g : Nat) {p : Nat} (c : CC) (n : Nat) (h : p < L ∧ t p = 124) : aT t L (some m :: r) g p c n = cbd (tsG t L g (p + 1) (psh (aiO (aiO c m.2 n) m.1 n) n (4, 0)) (n + 1)) (aT t L (some (some n, none) :: r) g) := by
  rw [aT_s, jlp_x (by omega)]
  rw [cbd_i]
  rw [jlp_y (all_sp (tsG_sp t L g)) hL h.1 h.2]
  show cbd (cbd (cbd _ _) _) _ = _
  rw [cbd_as, cbd_as]
  rfl
