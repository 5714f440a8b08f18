/-! the law's text: what is still to come, step by step -/
def pcO (o : Option Nat) (c : CC) (n : Nat) : CC := match o with
  | none => c
  | some s => psh c n (s, 0)
def pnO (o : Option Nat) (n : Nat) : Nat := match o with
  | none => n
  | some _ => n + 1
theorem clW_eq (o : Option Nat) (f : Nat → CC → Nat → RC) (p : Nat) (c : CC) (n : Nat) : clW o f p c n = f p (pcO o c n) (pnO o n) := by cases o <;> rfl
def bFM (t : Nat → Nat) (L g : Nat) (m : FRM) (p : Nat) (c : CC) (n : Nat) : RC := clW m.2 (fun p c n => cbd (blp t L (fcG t L g) mulT 240 p c n) (clW m.1 (blp t L (prdT t L (fcG t L g)) addT 240))) p c n
theorem aF_n (t : Nat → Nat) (L g : Nat) (m : FRM) (p : Nat) (c : CC) (n : Nat) : aF t L [] g m p c n = bFM t L g m p c n := rfl
theorem aF_c (t : Nat → Nat) (L g : Nat) (m m' : FRM) (r : List FRM) (p : Nat) (c : CC) (n : Nat) : aF t L (m' :: r) g m p c n = cbd (bFM t L g m p c n) (fun p c n => cbd (clL t L 93 p c n) (aF t L r (g + 1) m')) := rfl
theorem blp_s (t : Nat → Nat) (L : Nat) (it : Nat → CC → Nat → RC) (is : Nat → Bool) (p : Nat) (c : CC) (n : Nat) : blp t L it is 240 p c n = if p < L ∧ is (t p) = true then cbd (it (p + 1) c n) (fun p' c' n' => blp t L it is 239 p' (psh c' n' (t p, 0)) (n' + 1)) else Sum.inr (p, c, n) := rfl
theorem blp_y {t : Nat → Nat} {L B : Nat} {tp : Bool} {it : Nat → CC → Nat → RC} (h : Sp L tp B it) {is : Nat → Bool} (hL : L ≤ 240) {p : Nat} (hp : p < L) (hi : is (t p) = true) (c : CC) (n : Nat) : blp t L it is 240 p c n = cbd (it (p + 1) c n) (fun p' c' n' => blp t L it is 240 p' (psh c' n' (t p, 0)) (n' + 1)) := by
  rw [blp_s, if_pos ⟨hp, hi⟩]
  refine cbd_cg fun q hq => ?_
  have g := h.at (by omega) hq
  have g2 := g.2.1
  have g3 := g.2.2.1
  exact blp_fu h is 239 240 q.1 _ _ (by omega) (by omega)
theorem blp_x {t : Nat → Nat} {L : Nat} {it : Nat → CC → Nat → RC} {is : Nat → Bool} {p : Nat} (hi : ¬ (p < L ∧ is (t p) = true)) (c : CC) (n : Nat) : blp t L it is 240 p c n = Sum.inr (p, c, n) := by
  rw [blp_s, if_neg hi]
theorem bFM_m {t : Nat → Nat} {L : Nat} (hL : L ≤ 240) (g : Nat) (so po : Option Nat) {p : Nat} (c : CC) (n : Nat) (hp : p < L) (hm : mulT (t p) = true) : bFM t L g (so, po) p c n = cbd (fcG t L g (p + 1) (pcO po c n) (pnO po n)) (bFM t L g (so, some (t p))) := by
  show clW po _ p c n = _
  rw [clW_eq, blp_y (fcG_sp t L g) hL hp hm, cbd_as]
  rfl
theorem bFM_a {t : Nat → Nat} {L : Nat} (hL : L ≤ 240) (g : Nat) (so po : Option Nat) {p : Nat} (c : CC) (n : Nat) (hp : p < L) (hm : addT (t p) = true) : bFM t L g (so, po) p c n = cbd (fcG t L g (p + 1) (pcO so (pcO po c n) (pnO po n)) (pnO so (pnO po n))) (bFM t L g (some (t p), none)) := by
  have nm : ¬ (p < L ∧ mulT (t p) = true) := fun z => by
    have z1 : t p = 42 ∨ t p = 47 ∨ t p = 37 := of_decide_eq_true z.2
    have z2 : t p = 43 ∨ t p = 45 := of_decide_eq_true hm
    omega
  show clW po _ p c n = _
  rw [clW_eq, blp_x nm]
  show clW so _ p _ _ = _
  rw [clW_eq, blp_y (prd_sp (fcG_sp t L g)) hL hp hm]
  show cbd (cbd _ _) _ = _
  rw [cbd_as]
  rfl
theorem bFM_e {t : Nat → Nat} {L : Nat} (g : Nat) (so po : Option Nat) {p : Nat} (c : CC) (n : Nat) (h : ¬ (p < L ∧ (addT (t p) = true ∨ mulT (t p) = true))) : bFM t L g (so, po) p c n = Sum.inr (p, pcO so (pcO po c n) (pnO po n), pnO so (pnO po n)) := by
  show clW po _ p c n = _
  rw [clW_eq, blp_x (fun z => h ⟨z.1, Or.inr z.2⟩)]
  show clW so _ p _ _ = _
  rw [clW_eq, blp_x (fun z => h ⟨z.1, Or.inl z.2⟩)]
theorem aF_m {t : Nat → Nat} {L : Nat} (hL : L ≤ 240) (fr : List FRM) (g : Nat) (so po : Option Nat) {p : Nat} (c : CC) (n : Nat) (hp : p < L) (hm : mulT (t p) = true) : aF t L fr g (so, po) p c n = cbd (fcG t L g (p + 1) (pcO po c n) (pnO po n)) (aF t L fr g (so, some (t p))) := by
  cases fr with
  | nil => exact bFM_m hL g so po c n hp hm
  | cons m' r =>
    rw [aF_c, bFM_m hL g so po c n hp hm, cbd_as]
    rfl
theorem aF_a {t : Nat → Nat} {L : Nat} (hL : L ≤ 240) (fr : List FRM) (g : Nat) (so po : Option Nat) {p : Nat} (c : CC) (n : Nat) (hp : p < L) (hm : addT (t p) = true) : aF t L fr g (so, po) p c n = cbd (fcG t L g (p + 1) (pcO so (pcO po c n) (pnO po n)) (pnO so (pnO po n))) (aF t L fr g (some (t p), none)) := by
  cases fr with
  | nil => exact bFM_a hL g so po c n hp hm
  | cons m' r =>
    rw [aF_c, bFM_a hL g so po c n hp hm, cbd_as]
    rfl
theorem aF_z {t : Nat → Nat} {L : Nat} (g : Nat) (so po : Option Nat) {p : Nat} (c : CC) (n : Nat) (h : ¬ (p < L ∧ (addT (t p) = true ∨ mulT (t p) = true))) : aF t L [] g (so, po) p c n = Sum.inr (p, pcO so (pcO po c n) (pnO po n), pnO so (pnO po n)) := bFM_e g so po c n h
theorem aF_k {t : Nat → Nat} {L : Nat} (m' : FRM) (r : List FRM) (g : Nat) (so po : Option Nat) {p : Nat} (c : CC) (n : Nat) (hp : p < L) (hk : t p = 93) : aF t L (m' :: r) g (so, po) p c n = aF t L r (g + 1) m' (p + 1) (pcO so (pcO po c n) (pnO po n)) (pnO so (pnO po n)) := by
  have h : ¬ (p < L ∧ (addT (t p) = true ∨ mulT (t p) = true)) := by
    rw [hk]
    intro z
    exact absurd z.2 (by decide)
  rw [aF_c, bFM_e g so po c n h]
  show cbd (clL t L 93 p _ _) _ = _
  unfold clL
  rw [if_pos ⟨hp, hk⟩]
  rfl
theorem aF_w {t : Nat → Nat} {L : Nat} (m' : FRM) (r : List FRM) (g : Nat) (so po : Option Nat) {p : Nat} (c : CC) (n : Nat) (h : ¬ (p < L ∧ (addT (t p) = true ∨ mulT (t p) = true))) (hk : ¬ (p < L ∧ t p = 93)) : aF t L (m' :: r) g (so, po) p c n = Sum.inl (1, p) := by
  rw [aF_c, bFM_e g so po c n h]
  show cbd (clL t L 93 p _ _) _ = _
  unfold clL
  rw [if_neg hk]
  rfl
theorem fcG_o {t : Nat → Nat} {L : Nat} (fr : List FRM) (m : FRM) (g p : Nat) (c : CC) (n : Nat) (h : p < L ∧ t p = 91) : cbd (fcG t L (g + 1) p c n) (aF t L fr (g + 1) m) = cbd (fcG t L g (p + 1) c n) (aF t L (m :: fr) g (none, none)) := by
  show cbd (fctT t L true (sumT t L (fcG t L g)) p c n) _ = _
  unfold fctT
  rw [if_pos h, if_pos rfl, sum_aF, cbd_as, cbd_as]
  refine cbd_cg fun q _ => ?_
  rw [aF_c]
  rfl
theorem fcG_x (t : Nat → Nat) (L g : Nat) : ∃ o i, fcG t L g = fctT t L o i := by
  cases g with
  | zero => exact ⟨_, _, rfl⟩
  | succ g => exact ⟨_, _, rfl⟩
