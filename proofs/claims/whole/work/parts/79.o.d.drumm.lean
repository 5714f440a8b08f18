/-! a drum's text: the model's reader, and what is still to come -/
theorem rbd_assoc (r : RR) (f g : Nat → (Nat → Nat) → Nat → RR) : rbd (rbd r f) g = rbd r (fun p row size => rbd (f p row size) g) := by
  rcases r with e | q
  · rfl
  · rfl
theorem rlp_fu {L : Nat} {it : Nat → (Nat → Nat) → Nat → RR} (hit : ∀ p row size, p ≤ L → size ≤ 16 → rOk L p size (it p row size)) (cl : Nat → Bool) : ∀ f f' p row size, p ≤ L → size ≤ 16 → L + 1 - p ≤ f → L + 1 - p ≤ f' → rlp it cl f p row size = rlp it cl f' p row size
  | 0, _, p, _, _, hp, _, h1, _ => by omega
  | f + 1, 0, p, _, _, hp, _, _, h2 => by omega
  | f + 1, f' + 1, p, row, size, hp, hs, h1, h2 => by
    unfold rlp
    by_cases c : cl p = true
    · rw [if_pos c, if_pos c]
    · rw [if_neg c, if_neg c]
      have o := hit p row size hp hs
      generalize it p row size = z at o ⊢
      rcases z with e | ⟨p', row', size'⟩
      · rfl
      · obtain ⟨o1, o2, o3, o4⟩ := o
        have o1 : p < p' := o1
        exact rlp_fu hit cl f f' p' row' size' o2 o4 (by omega) (by omega)
def cnT (t : Nat → Nat) (L k : Nat) (ins : Bool) (p : Nat) (row : Nat → Nat) (size : Nat) : RR := rlp (itm t L k) (clT t L ins) (L + 1 - p) p row size
theorem rbd_cg {r : RR} {f g : Nat → (Nat → Nat) → Nat → RR} (h : ∀ q, r = Sum.inr q → f q.1 q.2.1 q.2.2 = g q.1 q.2.1 q.2.2) : rbd r f = rbd r g := by
  rcases r with e | q
  · rfl
  · exact h q rfl
theorem cnT_s {t : Nat → Nat} {L k : Nat} {ins : Bool} {p size : Nat} {row : Nat → Nat} (hp : p ≤ L) (hs : size ≤ 16) : cnT t L k ins p row size = if clT t L ins p = true then Sum.inr (p, row, size) else rbd (itm t L k p row size) (cnT t L k ins) := by
  unfold cnT
  rw [show L + 1 - p = (L - p) + 1 by omega, rlp]
  split
  · rfl
  · have o := itm_ok t L k p row size hp hs
    refine rbd_cg fun q hq => ?_
    rw [hq] at o
    obtain ⟨o1, o2, o3, o4⟩ := o
    exact rlp_fu (itm_ok t L k) (clT t L ins) _ _ q.1 q.2.1 q.2.2 o2 o4 (by omega) (Nat.le_refl _)
theorem rlp_60 {t : Nat → Nat} {L k : Nat} {ins : Bool} {p size : Nat} {row : Nat → Nat} (hp : p ≤ L) (h1 : 0 < p) (h60 : L ≤ 60) (hs : size ≤ 16) : rlp (itm t L k) (clT t L ins) 60 p row size = cnT t L k ins p row size := rlp_fu (itm_ok t L k) (clT t L ins) _ _ p row size hp hs (by omega) (Nat.le_refl _)
def clsT (t : Nat → Nat) (L f a m : Nat) (p : Nat) (row : Nat → Nat) (size : Nat) : RR := if p < L ∧ t p = 41 then repT (p + 1) row a (size - a) m f else Sum.inl (1, p)
/-- what is still to come, with these rounds open -/
def expT (t : Nat → Nat) (L : Nat) : List (Nat × Nat × Nat) → Nat → (Nat → Nat) → Nat → RR
  | [], p, row, size => cnT t L 2 false p row size
  | (f, a, m) :: r, p, row, size => rbd (rbd (cnT t L (1 - r.length) true p row size) (clsT t L f a m)) (expT t L r)
/-- what is still to come ahead of an item -/
def ahd (t : Nat → Nat) (L : Nat) (stk : List (Nat × Nat × Nat)) (p : Nat) (row : Nat → Nat) (size : Nat) : RR := rbd (itm t L (2 - stk.length) p row size) (expT t L stk)
theorem exp_ahd {t : Nat → Nat} {L : Nat} {stk : List (Nat × Nat × Nat)} {p size : Nat} {row : Nat → Nat} (hp : p ≤ L) (hs : size ≤ 16) (hx : (stk = [] ∧ p < L) ∨ (stk ≠ [] ∧ ¬ (p < L ∧ t p = 41))) : expT t L stk p row size = ahd t L stk p row size := by
  unfold ahd
  cases stk with
  | nil =>
    have hpl : p < L := by rcases hx with h | h; exact h.2; exact absurd rfl h.1
    have hc : clT t L false p = false := by
      unfold clT
      rw [if_neg (by simp), decide_eq_false (fun q => q hpl)]
    show cnT t L 2 false p row size = rbd (itm t L 2 p row size) (expT t L [])
    rw [cnT_s hp hs, hc, if_neg (by simp)]
    rfl
  | cons s r =>
    obtain ⟨f, a, m⟩ := s
    have hx : ¬ (p < L ∧ t p = 41) := by rcases hx with h | h; exact absurd h.1 (by simp); exact h.2
    have hc : clT t L true p = false := by
      unfold clT
      rw [if_pos rfl, decide_eq_false hx]
    have hk : 2 - ((f, a, m) :: r).length = 1 - r.length := by
      show 2 - (r.length + 1) = 1 - r.length
      omega
    rw [hk]
    show rbd (rbd (cnT t L (1 - r.length) true p row size) (clsT t L f a m)) (expT t L r) = _
    rw [cnT_s hp hs, hc, if_neg (by simp), rbd_assoc, rbd_assoc]
    refine rbd_cg fun q _ => ?_
    show _ = rbd (rbd (cnT t L (1 - r.length) true q.1 q.2.1 q.2.2) (clsT t L f a m)) (expT t L r)
    rw [rbd_assoc]
theorem exp_cls {t : Nat → Nat} {L f a m : Nat} {r : List (Nat × Nat × Nat)} {p size : Nat} {row : Nat → Nat} (hp : p < L) (ht : t p = 41) (hs : size ≤ 16) : expT t L ((f, a, m) :: r) p row size = rbd (repT (p + 1) row a (size - a) m f) (expT t L r) := by
  have hc : clT t L true p = true := by
    unfold clT
    rw [if_pos rfl, decide_eq_true ⟨hp, ht⟩]
  show rbd (rbd (cnT t L (1 - r.length) true p row size) (clsT t L f a m)) (expT t L r) = _
  rw [cnT_s (by omega) hs, hc, if_pos rfl]
  show rbd (clsT t L f a m p row size) (expT t L r) = _
  unfold clsT
  rw [if_pos ⟨hp, ht⟩]
theorem ahd_open {t : Nat → Nat} {L : Nat} (h60 : L ≤ 60) {stk : List (Nat × Nat × Nat)} (hl : stk.length < 2) {p size : Nat} {row : Nat → Nat} (hs : size ≤ 16) (c : (tmT t L p).2 < L ∧ t (tmT t L p).2 = 40) : ahd t L stk p row size = ahd t L ((p, size, (tmT t L p).1) :: stk) ((tmT t L p).2 + 1) row size := by
  unfold ahd
  have e1 : 2 - stk.length = (1 - stk.length) + 1 := by omega
  have e2 : 2 - ((p, size, (tmT t L p).1) :: stk).length = 1 - stk.length := by
    show 2 - (stk.length + 1) = 1 - stk.length
    omega
  rw [e2, e1, itm, if_pos c, rbd_assoc, rbd_assoc]
  have o := itm_ok t L (1 - stk.length) ((tmT t L p).2 + 1) row size c.1 hs
  refine rbd_cg fun q hq => ?_
  rw [hq] at o
  obtain ⟨o1, o2, o3, o4⟩ := o
  rw [rlp_60 o2 (by omega) h60 o4]
  show _ = rbd (rbd (cnT t L (1 - stk.length) true q.1 q.2.1 q.2.2) (clsT t L p size (tmT t L p).1)) (expT t L stk)
  rw [rbd_assoc]
  rfl
/-! the model's cells -/
def stO (h : rz_H) : List (Nat × Nat × Nat) → Prop
  | [] => True
  | (f, a, m) :: r => hI h 128 r.length = nI f ∧ hI h 129 r.length = nI a ∧ hI h 130 r.length = nI m ∧ stO h r
theorem stO_to {h h2 : rz_H} (E : ∀ b i, 128 ≤ b → b ≤ 130 → hI h2 b i = hI h b i) : ∀ r, stO h r → stO h2 r
  | [], _ => trivial
  | (f, a, m) :: r, ⟨a1, a2, a3, a4⟩ => ⟨(E _ _ (by omega) (by omega)).trans a1, (E _ _ (by omega) (by omega)).trans a2, (E _ _ (by omega) (by omega)).trans a3, stO_to E r a4⟩
theorem stO_up {h : rz_H} {h2 : rz_H} {n : Nat} (E : ∀ b i, i < n → 128 ≤ b → b ≤ 130 → hI h2 b i = hI h b i) : ∀ r : List (Nat × Nat × Nat), r.length ≤ n → stO h r → stO h2 r
  | [], _, _ => trivial
  | (f, a, m) :: r, hl, ⟨a1, a2, a3, a4⟩ => by
    have hl : r.length + 1 ≤ n := hl
    exact ⟨(E _ _ (by omega) (by omega) (by omega)).trans a1, (E _ _ (by omega) (by omega) (by omega)).trans a2, (E _ _ (by omega) (by omega) (by omega)).trans a3, stO_up E r (by omega) a4⟩
/-- bounds of the rounds that are open -/
def stB (L : Nat) : List (Nat × Nat × Nat) → Nat → Prop
  | [], _ => True
  | (f, a, m) :: r, size => f ≤ L ∧ a ≤ size ∧ 0 < m ∧ m ≤ 9 ∧ stB L r a
def DM (h0 : rz_H) (L : Nat) (h : rz_H) (p : Nat) (row : Nat → Nat) (size : Nat) (stk : List (Nat × Nat × Nat)) : Prop := h.2 = h0.2 ∧ hI h 109 6 = nI L ∧ hI h 109 5 = nI p ∧ hI h 109 31 = nI size ∧ hI h 109 32 = nI stk.length ∧ (∀ i, i < size → hI h 127 i = nI (row i)) ∧ stO h stk ∧ ∀ b i, ¬ (127 ≤ b ∧ b ≤ 130) → ¬ (b = 109 ∧ (i = 5 ∨ i = 7 ∨ (31 ≤ i ∧ i ≤ 34))) → hI h b i = hI h0 b i
def DMe (h0 : rz_H) (h : rz_H) (f fp : Nat) : Prop := h.2 = h0.2 ∧ hI h 109 7 = erI f fp ∧ ∀ b i, ¬ (127 ≤ b ∧ b ≤ 130) → ¬ (b = 109 ∧ (i = 5 ∨ i = 7 ∨ (31 ≤ i ∧ i ≤ 34))) → hI h b i = hI h0 b i
theorem DM.mt {h0 h : rz_H} {L p size : Nat} {row : Nat → Nat} {stk : List (Nat × Nat × Nat)} (s : DM h0 L h p row size stk) {N : Nat} {t : Nat → Nat} (T : Tm h0 N t) (hL : L ≤ N) (hp : p < 1000) : MT h N t L p := ⟨⟨T.1, fun i hi => ⟨(T.2 i hi).1, by rw [s.2.2.2.2.2.2.2 113 i (by omega) (by omega)]; exact (T.2 i hi).2⟩⟩, hL, s.2.1, s.2.2.1, hp⟩
theorem DM.err {h0 h : rz_H} {L p size : Nat} {row : Nat → Nat} {stk : List (Nat × Nat × Nat)} (s : DM h0 L h p row size stk) (f fp : Nat) : DMe h0 (setI h 109 7 (erI f fp)) f fp := ⟨s.1, by rw [hI_setI, if_pos ⟨rfl, rfl⟩], fun b i n1 n2 => by rw [hI_setI, if_neg (by omega)]; exact s.2.2.2.2.2.2.2 b i n1 n2⟩
theorem DM.set {h0 h : rz_H} {L p size : Nat} {row : Nat → Nat} {stk : List (Nat × Nat × Nat)} (s : DM h0 L h p row size stk) (i : Nat) (v : Int32) (hi : i = 33 ∨ i = 34) : DM h0 L (setI h 109 i v) p row size stk := by
  obtain ⟨s1, s2, s3, s4, s5, s6, s7, s8⟩ := s
  exact ⟨s1, by rw [hI_setI, if_neg (by omega)]; exact s2, by rw [hI_setI, if_neg (by omega)]; exact s3, by rw [hI_setI, if_neg (by omega)]; exact s4, by rw [hI_setI, if_neg (by omega)]; exact s5, fun j hj => by rw [hI_setI, if_neg (by omega)]; exact s6 j hj, stO_to (fun b j h1 h2 => by rw [hI_setI, if_neg (by omega)]) stk s7, fun b j n1 n2 => by rw [hI_setI, if_neg (by omega)]; exact s8 b j n1 n2⟩
theorem DM.skip {h0 h : rz_H} {L p size : Nat} {row : Nat → Nat} {stk : List (Nat × Nat × Nat)} (s : DM h0 L h p row size stk) (q : Nat) : DM h0 L (setI h 109 5 (nI q)) q row size stk := by
  obtain ⟨s1, s2, s3, s4, s5, s6, s7, s8⟩ := s
  exact ⟨s1, by rw [hI_setI, if_neg (by omega)]; exact s2, by rw [hI_setI, if_pos ⟨rfl, rfl⟩], by rw [hI_setI, if_neg (by omega)]; exact s4, by rw [hI_setI, if_neg (by omega)]; exact s5, fun j hj => by rw [hI_setI, if_neg (by omega)]; exact s6 j hj, stO_to (fun b j h1 h2 => by rw [hI_setI, if_neg (by omega)]) stk s7, fun b j n1 n2 => by rw [hI_setI, if_neg (by omega)]; exact s8 b j n1 n2⟩
/-- times ahead of an item -/
theorem K75 {rb dr : Nat} {jd : Option Nat} {h0 h : rz_H} (w0 : Wf rb dr jd h0) {N : Nat} {t : Nat → Nat} (T : Tm h0 N t) {L : Nat} (hL : L ≤ N) {p size : Nat} {row : Nat → Nat} {stk : List (Nat × Nat × Nat)} (s : DM h0 L h p row size stk) (hp : p < 900) (d : Nat) : ∃ h', cW (d + 2) 75 [rz_r (some 109)] h = some (rz_i 0, h') ∧ DM h0 L h' (tmT t L p).2 row size stk ∧ hI h' 109 33 = nI p ∧ hI h' 109 34 = nI (tmT t L p).1 := by
  have w : Wf rb dr jd h := w0.e s.1
  have e5 := s.2.2.1
  let h1 := setI (setI h 109 33 (nI p)) 109 34 1
  have s1 : DM h0 L h1 p row size stk := (s.set 33 _ (Or.inl rfl)).set 34 _ (Or.inr rfl)
  have w1 : Wf rb dr jd h1 := w
  have k49 := K49 w1 (s1.mt T hL (by omega))
  have hb : p < L → t p < 256 := fun q => (T.2 p (by omega)).1
  have p50 : pkI t L p < 50 ↔ (p < L → t p < 50) := pkk_lt (m := 50) hb (by omega)
  have p57 : (57 : Int32) < pkI t L p ↔ p < L ∧ 57 < t p := pkk_gt (m := 57) hb (by omega)
  have f33 : hI h1 109 33 = nI p := rfl
  have f34 : hI h1 109 34 = 1 := rfl
  unfold tmT
  by_cases c : p < L ∧ 50 ≤ t p ∧ t p ≤ 57
  · rw [if_pos c]
    have n2 : (50 : Int32) ≤ pkI t L p ∧ pkI t L p ≤ 57 := ⟨Int32.not_lt.mp fun q => by have := p50.mp q c.1; omega, Int32.not_lt.mp fun q => by have := (p57.mp q).2; omega⟩
    have u : pkI t L p - 48 = nI (t p - 48) := by rw [pkk_in c.1]; exact nI_sub (b := 48) (by omega)
    have v5 : hI (setI h1 109 34 (nI (t p - 48))) 109 5 = nI p := by rw [hI_setI, if_neg (by omega)]; exact s1.2.2.1
    refine ⟨setI (setI h1 109 34 (nI (t p - 48))) 109 5 (nI (p + 1)), ?_, (s1.set 34 _ (Or.inr rfl)).skip (p + 1), ?_, ?_⟩
    · rw [E75]
      simp only [bI_some, bV_some, bR_some, bL_some, ob_some, cd_t, cd_f, cd_d, okO_setI, okA_setI, okL_setI, aLen_setI, hR_setI, hI_setI, Bool.true_and, Bool.and_true, Bool.and_self, Option.isNone_some, Option.isSome_some, Option.isNone_none, Option.isSome_none, okO_chI, okA_chI, okL_chI, aLen_chI, hR_chI, ↓reduceIte, not_true_eq_false, not_false_eq_true, eq_self, c10, WMd w, e5]
      rw [show setI (setI h 109 33 (nI p)) 109 34 1 = h1 from rfl, k49]
      simp only [bI_some, S33, if_pos n2, bI_some, bV_some, bR_some, bL_some, ob_some, cd_t, cd_f, cd_d, okO_setI, okA_setI, okL_setI, aLen_setI, hR_setI, hI_setI, Bool.true_and, Bool.and_true, Bool.and_self, Option.isNone_some, Option.isSome_some, Option.isNone_none, Option.isSome_none, okO_chI, okA_chI, okL_chI, aLen_chI, hR_chI, ↓reduceIte, not_true_eq_false, not_false_eq_true, eq_self, c10, WMd w1, k49, u]
      simp only [s1.2.2.1, nI_1, show ¬ (5 = 34) by omega, and_false, if_false]
    · rw [hI_setI, if_neg (by omega), hI_setI, if_neg (by omega)]; exact f33
    · rw [hI_setI, if_neg (by omega), hI_setI, if_pos ⟨rfl, rfl⟩]
  · rw [if_neg c]
    have n2 : ¬ ((50 : Int32) ≤ pkI t L p ∧ pkI t L p ≤ 57) := fun q => by
      have q1 : ¬ (p < L → t p < 50) := fun z => Int32.not_lt.mpr q.1 (p50.mpr z)
      have hpl : p < L := Classical.byContradiction fun z => q1 fun y => absurd y z
      have q2 : ¬ (p < L ∧ 57 < t p) := fun z => Int32.not_lt.mpr q.2 (p57.mpr z)
      refine c ⟨hpl, ?_, ?_⟩
      · exact Nat.not_lt.mp fun z => q1 fun _ => z
      · exact Nat.not_lt.mp fun z => q2 ⟨hpl, z⟩
    refine ⟨h1, ?_, s1, f33, f34⟩
    rw [E75]
    simp only [bI_some, bV_some, bR_some, bL_some, ob_some, cd_t, cd_f, cd_d, okO_setI, okA_setI, okL_setI, aLen_setI, hR_setI, hI_setI, Bool.true_and, Bool.and_true, Bool.and_self, Option.isNone_some, Option.isSome_some, Option.isNone_none, Option.isSome_none, okO_chI, okA_chI, okL_chI, aLen_chI, hR_chI, ↓reduceIte, not_true_eq_false, not_false_eq_true, eq_self, c10, WMd w, e5]
    rw [show setI (setI h 109 33 (nI p)) 109 34 1 = h1 from rfl, k49]
    simp only [bI_some, S33, if_neg n2, bI_some, bV_some, bR_some, bL_some, ob_some, cd_t, cd_f, cd_d, okO_setI, okA_setI, okL_setI, aLen_setI, hR_setI, hI_setI, Bool.true_and, Bool.and_true, Bool.and_self, Option.isNone_some, Option.isSome_some, Option.isNone_none, Option.isSome_none, okO_chI, okA_chI, okL_chI, aLen_chI, hR_chI, ↓reduceIte, not_true_eq_false, not_false_eq_true, eq_self, c10]
/-- a span stands there so many times -/
theorem K76 {rb dr : Nat} {jd : Option Nat} {h0 h : rz_H} (w0 : Wf rb dr jd h0) {L p size : Nat} {row : Nat → Nat} {stk : List (Nat × Nat × Nat)} (s : DM h0 L h p row size stk) (hs : size ≤ 16) {a m f : Nat} (h1 : a < size) (h4 : 0 < m) (h5 : m ≤ 9) (d : Nat) : (16 < a + (size - a) * m → cW (d + 2) 76 [rz_r (some 109), rz_i (nI a), rz_i (nI m), rz_i (nI f)] h = some (rz_i 0, setI h 109 7 (erI 6 f))) ∧ (¬ 16 < a + (size - a) * m → ∃ h', cW (d + 2) 76 [rz_r (some 109), rz_i (nI a), rz_i (nI m), rz_i (nI f)] h = some (rz_i 1, h') ∧ DM h0 L h' p (itr (fil (size - a)) (a + (size - a)) ((size - a) * m - (size - a)) row) (a + (size - a) * m) stk) := by
  have w : Wf rb dr jd h := w0.e s.1
  have e31 := s.2.2.2.1
  have u : nI size - nI a = nI (size - a) := nI_sub (by omega)
  have hb : (size - a) * m ≤ 16 * 9 := Nat.mul_le_mul (by omega) h5
  have hb2 : size - a ≤ (size - a) * m := Nat.le_mul_of_pos_right _ h4
  have k51 := fun d => K51 w 6 f d
  rw [show nI 6 = (6 : Int32) from rfl] at k51
  constructor
  · intro c
    rw [E76]
    simp (disch := omega) only [↓cd_d, ↓irem_eq_mod, ↓ob_setI, ↓ob_chI, ↓ob_some, bI_some, bV_some, bR_some, bL_some, ob_some, cd_t, cd_f, okO_setI, okA_setI, okL_setI, aLen_setI, hR_setI, hI_setI, Bool.true_and, Bool.and_true, Bool.and_self, Option.isNone_some, Option.isSome_some, Option.isNone_none, Option.isSome_none, okO_chI, okA_chI, okL_chI, aLen_chI, hR_chI, ↓reduceIte, not_true_eq_false, not_false_eq_true, eq_self, c10, Nat.zero_add, nI_add, litA, litB, litM, nI_mul, nI_leI, nI_ltI, nI_eq, litLe, litLe2, litLt, litLt2, litEq, litEq2, in_nI, lit_in, nI_clamp, lit_cl, if_pos, if_neg, WMd w, e31, u, k51]
    rfl
  · intro c
    have lp := lp_hs (fun i (row : Nat → Nat) k (j : Option rz_V) => rW (d + 1) 76 (19, (0, 0), [some (rz_r (some 109)), some (rz_i (nI a)), some (rz_i (nI m)), j, some (rz_i (nI (size - a))), some (rz_i (nI (i - a)))], [], k)) (fil (size - a)) (fun i row k => size ≤ i ∧ k.2 = h0.2 ∧ hI k 109 6 = nI L ∧ hI k 109 5 = nI p ∧ hI k 109 32 = nI stk.length ∧ (∀ j, j < i → hI k 127 j = nI (row j)) ∧ stO k stk ∧ ∀ b i, ¬ (127 ≤ b ∧ b ≤ 130) → ¬ (b = 109 ∧ (i = 5 ∨ i = 7 ∨ (31 ≤ i ∧ i ≤ 34))) → hI k b i = hI h0 b i) (a + (size - a) * m) (fun i row k j hi ⟨q0, q1, q2, q3, q4, q5, q6, q7⟩ => by
      have wk : Wf rb dr jd k := w0.e q1
      have v := q5 (i - (size - a)) (by omega)
      have u1 : a + (i - a) = i := by omega
      have u2 : nI i - nI (size - a) = nI (i - (size - a)) := nI_sub (by omega)
      refine ⟨setI k 127 i (nI (row (i - (size - a)))), none, ?_, by omega, q1, by rw [hI_setI, if_neg (by omega)]; exact q2, by rw [hI_setI, if_neg (by omega)]; exact q3, by rw [hI_setI, if_neg (by omega)]; exact q4, fun j hj => ?_, stO_to (fun b j h1 h2 => by rw [hI_setI, if_neg (by omega)]) stk q6, fun b j n1 n2 => by rw [hI_setI, if_neg (by omega)]; exact q7 b j n1 n2⟩
      · show rW (d + 1) 76 (19, (0, 0), [some (rz_r (some 109)), some (rz_i (nI a)), some (rz_i (nI m)), j, some (rz_i (nI (size - a))), some (rz_i (nI (i - a)))], [], k) = _
        rw [E76_19]
        simp (disch := omega) only [↓cd_d, ↓irem_eq_mod, ↓ob_setI, ↓ob_chI, ↓ob_some, bI_some, bV_some, bR_some, bL_some, ob_some, cd_t, cd_f, okO_setI, okA_setI, okL_setI, aLen_setI, hR_setI, hI_setI, Bool.true_and, Bool.and_true, Bool.and_self, Option.isNone_some, Option.isSome_some, Option.isNone_none, Option.isSome_none, okO_chI, okA_chI, okL_chI, aLen_chI, hR_chI, ↓reduceIte, not_true_eq_false, not_false_eq_true, eq_self, c10, Nat.zero_add, nI_add, litA, litB, litM, nI_mul, nI_leI, nI_ltI, nI_eq, litLe, litLe2, litLt, litLt2, litEq, litEq2, in_nI, lit_in, nI_clamp, lit_cl, if_pos, if_neg, ↓WMb wk, WMd wk, u1, u2, v]
        rw [show i - a + 1 = i + 1 - a by omega]
      · unfold fil
        rw [hI_setI]
        by_cases ej : j = i
        · rw [if_pos ⟨rfl, ej⟩, if_pos ej]
        · rw [if_neg (fun z => ej z.2), if_neg ej]; exact q5 j (by omega)) ((size - a) * m - (size - a)) (a + (size - a)) row h (some (rz_i (nI f))) (by omega) ⟨by omega, s.1, s.2.1, s.2.2.1, s.2.2.2.2.1, fun j hj => s.2.2.2.2.2.1 j (by omega), s.2.2.2.2.2.2.1, s.2.2.2.2.2.2.2⟩
    obtain ⟨k, j, e, q0, q1, q2, q3, q4, q5, q6, q7⟩ := lp
    have wk : Wf rb dr jd k := w0.e q1
    refine ⟨setI k 109 31 (nI (a + (size - a) * m)), ?_, q1, by rw [hI_setI, if_neg (by omega)]; exact q2, by rw [hI_setI, if_neg (by omega)]; exact q3, by rw [hI_setI, if_pos ⟨rfl, rfl⟩], by rw [hI_setI, if_neg (by omega)]; exact q4, fun j hj => by rw [hI_setI, if_neg (by omega)]; exact q5 j hj, stO_to (fun b j h1 h2 => by rw [hI_setI, if_neg (by omega)]) stk q6, fun b j n1 n2 => by rw [hI_setI, if_neg (by omega)]; exact q7 b j n1 n2⟩
    rw [E76]
    simp (disch := omega) only [↓cd_d, ↓irem_eq_mod, ↓ob_setI, ↓ob_chI, ↓ob_some, bI_some, bV_some, bR_some, bL_some, ob_some, cd_t, cd_f, okO_setI, okA_setI, okL_setI, aLen_setI, hR_setI, hI_setI, Bool.true_and, Bool.and_true, Bool.and_self, Option.isNone_some, Option.isSome_some, Option.isNone_none, Option.isSome_none, okO_chI, okA_chI, okL_chI, aLen_chI, hR_chI, ↓reduceIte, not_true_eq_false, not_false_eq_true, eq_self, c10, Nat.zero_add, nI_add, litA, litB, litM, nI_mul, nI_leI, nI_ltI, nI_eq, litLe, litLe2, litLt, litLt2, litEq, litEq2, in_nI, lit_in, nI_clamp, lit_cl, if_pos, if_neg, WMd w, e31, u]
    rw [show a + (size - a) - a = size - a by omega] at e
    refine Eq.trans e ?_
    rw [show a + (size - a) * m - a = (size - a) * m by omega, E76_19]
    simp (disch := omega) only [↓cd_d, ↓irem_eq_mod, ↓ob_setI, ↓ob_chI, ↓ob_some, bI_some, bV_some, bR_some, bL_some, ob_some, cd_t, cd_f, okO_setI, okA_setI, okL_setI, aLen_setI, hR_setI, hI_setI, Bool.true_and, Bool.and_true, Bool.and_self, Option.isNone_some, Option.isSome_some, Option.isNone_none, Option.isSome_none, okO_chI, okA_chI, okL_chI, aLen_chI, hR_chI, ↓reduceIte, not_true_eq_false, not_false_eq_true, eq_self, c10, Nat.zero_add, nI_add, litA, litB, litM, nI_mul, nI_leI, nI_ltI, nI_eq, litLe, litLe2, litLt, litLt2, litEq, litEq2, in_nI, lit_in, nI_clamp, lit_cl, if_pos, if_neg, WMd wk]
