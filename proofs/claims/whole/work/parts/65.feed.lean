/-! feed -/
def cby (x : Int32) (j : Nat) : Int32 := (x.toUInt32 >>> ((nI (24 - 8 * j)).toUInt32 &&& Int32.toUInt32 31)).toInt32 &&& 255
def mby (x : Int32) (j : Nat) : Int32 := (x >>> (((8 : Int32) * nI (3 - j)) &&& 31)).toInt8.toInt32.toInt8.toInt32
/-- the class's tape behind a word, behind j bytes of it -/
def cT (h : rz_H) (n : Nat) (x : Int32) (j : Nat) : Nat → Nat → Int32 := fun b i => if b = 2 ∧ n ≤ i ∧ i < n + j then cby x (i - n) else if b = 1 ∧ i = 1 then nI (n + j) else hI h b i
def mTp (h : rz_H) (n : Nat) (x : Int32) (j : Nat) : Nat → Nat → Int32 := fun b i => if b = 113 ∧ n ≤ i ∧ i < n + j then mby x (i - n) else if b = 109 ∧ i = 4 then nI (n + j) else hI h b i
theorem shn (j : Nat) (hj : j < 4) : nI (24 - 8 * j) + (-8 : Int32) = Int32.ofInt (24 - 8 * (j + 1 : Nat)) := by
  rcases (show j = 0 ∨ j = 1 ∨ j = 2 ∨ j = 3 by omega) with rfl | rfl | rfl | rfl <;> rfl
theorem S270 {rb dr : Nat} {jd : Option Nat} {h : rz_H} (w : Wf rb dr jd h) {n : Nat} (hn : n + 4 ≤ 260) (hs : hI h 1 1 = nI n) (d : Nat) (x : Int32) : cW (d + 1) 270 [rz_r (some 1), rz_i x] h = some (rz_i 0, chI h (cT h n x 4)) := by
  rw [E270]
  have key := lp_u (fun j => rW d 270 (2, (0, 0), [some (rz_r (some 1)), some (rz_i x), some (rz_i (Int32.ofInt (24 - 8 * (j : Nat))))], [], chI h (cT h n x j))) 4 (fun j hj => by
    show rW d 270 (2, (0, 0), [some (rz_r (some 1)), some (rz_i x), some (rz_i (Int32.ofInt (24 - 8 * (j : Nat))))], [], chI h (cT h n x j)) = _
    have e24 : Int32.ofInt (24 - 8 * (j : Nat)) = nI (24 - 8 * j) := by
      rcases (show j = 0 ∨ j = 1 ∨ j = 2 ∨ j = 3 by omega) with rfl | rfl | rfl | rfl <;> rfl
    rw [e24, E270_2]
    have v1 : cT h n x j 1 1 = nI (n + j) := by simp [cT]
    have c1 : ¬ nI (24 - 8 * j) < 0 := nI_pos (by omega)
    have c2 : ¬ nI (n + j) < 0 := nI_pos (by omega)
    have c3 : ¬ (260 : Int32) ≤ nI (n + j) := nI_ge (a := n + j) (b := 260) (by omega) (by omega)
    have c4 : rz_in (nI (n + j)) 260 = true := in_nI (by omega) (by omega)
    have c5 : (nI (n + j)).toNatClampNeg = n + j := nI_clamp (by omega)
    have n12 : ¬ (1 = 2 ∧ 1 = n + j) := by omega
    simp only [bI_some, bV_some, bR_some, bL_some, ob_some, cd_t, cd_f, cd_d, okO_setI, okA_setI, okL_setI, aLen_setI, hR_setI, hI_setI, Bool.true_and, Bool.and_true, Bool.and_self, Option.isNone_some, Option.isSome_some, Option.isNone_none, Option.isSome_none, okO_chI, okA_chI, okL_chI, aLen_chI, hR_chI, WTp w, hI_chI, v1, if_neg c1, if_neg c2, if_neg c3, c4, c5, if_neg n12, nI_1, shn j hj]
    rw [setI_chI, setI_chI]
    refine congrArg (fun k => rW d 270 (2, (0, 0), [some (rz_r (some 1)), some (rz_i x), some (rz_i (Int32.ofInt (24 - 8 * (j + 1 : Nat))))], [], k)) (chI_ext fun b i => ?_)
    unfold cT
    by_cases p1 : b = 1 ∧ i = 1
    · obtain ⟨rfl, rfl⟩ := p1
      rw [if_pos ⟨rfl, rfl⟩, if_neg (by omega), if_pos ⟨rfl, rfl⟩]
      rfl
    · rw [if_neg p1]
      by_cases p2 : b = 2 ∧ i = n + j
      · obtain ⟨rfl, rfl⟩ := p2
        rw [if_pos ⟨rfl, rfl⟩, if_pos (by omega), show n + j - n = j by omega]
        rfl
      · rw [if_neg p2]
        by_cases p3 : b = 2 ∧ n ≤ i ∧ i < n + j
        · rw [if_pos p3, if_pos (by omega)]
        · rw [if_neg p3, if_neg p1, if_neg (by omega), if_neg p1])
  have e0 : chI h (cT h n x 0) = h := by
    rw [← chI_self h]
    refine chI_ext fun b i => ?_
    unfold cT
    rw [if_neg (by omega)]
    by_cases p1 : b = 1 ∧ i = 1
    · obtain ⟨rfl, rfl⟩ := p1
      simp [hI_chI, hs]
    · rw [if_neg p1]; rfl
  simp only [e0] at key
  rw [show (24 : Int32) = Int32.ofInt (24 - 8 * (0 : Nat)) from rfl, key, E270_2]
  simp only [bI_some, bV_some, bR_some, bL_some, ob_some, cd_t, cd_f, cd_d, okO_setI, okA_setI, okL_setI, aLen_setI, hR_setI, hI_setI, Bool.true_and, Bool.and_true, Bool.and_self, Option.isNone_some, Option.isSome_some, Option.isNone_none, Option.isSome_none, okO_chI, okA_chI, okL_chI, aLen_chI, hR_chI]
  rfl
theorem S46 {rb dr : Nat} {jd : Option Nat} {h : rz_H} (w : Wf rb dr jd h) {n : Nat} (hn : n + 4 ≤ 260) (hs : hI h 109 4 = nI n) (d : Nat) (x : Int32) : cW (d + 1) 46 [rz_r (some 109), rz_i x] h = some (rz_i 0, chI h (mTp h n x 4)) := by
  rw [E46]
  have key := lp_u (fun j => rW d 46 (2, (0, 0), [some (rz_r (some 109)), some (rz_i x), some (rz_i (Int32.ofInt (3 - (j : Nat))))], [], chI h (mTp h n x j))) 4 (fun j hj => by
    show rW d 46 (2, (0, 0), [some (rz_r (some 109)), some (rz_i x), some (rz_i (Int32.ofInt (3 - (j : Nat))))], [], chI h (mTp h n x j)) = _
    have e3 : Int32.ofInt (3 - (j : Nat)) = nI (3 - j) := by
      rcases (show j = 0 ∨ j = 1 ∨ j = 2 ∨ j = 3 by omega) with rfl | rfl | rfl | rfl <;> rfl
    have e4 : nI (3 - j) + (-1 : Int32) = Int32.ofInt (3 - (j + 1 : Nat)) := by
      rcases (show j = 0 ∨ j = 1 ∨ j = 2 ∨ j = 3 by omega) with rfl | rfl | rfl | rfl <;> rfl
    rw [e3, E46_2]
    have v1 : mTp h n x j 109 4 = nI (n + j) := by simp [mTp]
    have c1 : ¬ nI (3 - j) < 0 := nI_pos (by omega)
    have c4 : rz_in (nI (n + j)) 260 = true := in_nI (by omega) (by omega)
    have c5 : (nI (n + j)).toNatClampNeg = n + j := nI_clamp (by omega)
    have n12 : ¬ (109 = 113 ∧ 4 = n + j) := by omega
    simp only [bI_some, bV_some, bR_some, bL_some, ob_some, cd_t, cd_f, cd_d, okO_setI, okA_setI, okL_setI, aLen_setI, hR_setI, hI_setI, Bool.true_and, Bool.and_true, Bool.and_self, Option.isNone_some, Option.isSome_some, Option.isNone_none, Option.isSome_none, okO_chI, okA_chI, okL_chI, aLen_chI, hR_chI, WMd w, hI_chI, v1, if_neg c1, c4, c5, if_neg n12, nI_1, e4]
    rw [setI_chI, setI_chI]
    refine congrArg (fun k => rW d 46 (2, (0, 0), [some (rz_r (some 109)), some (rz_i x), some (rz_i (Int32.ofInt (3 - (j + 1 : Nat))))], [], k)) (chI_ext fun b i => ?_)
    unfold mTp
    by_cases p1 : b = 109 ∧ i = 4
    · obtain ⟨rfl, rfl⟩ := p1
      rw [if_pos ⟨rfl, rfl⟩, if_neg (by omega), if_pos ⟨rfl, rfl⟩]
      rfl
    · rw [if_neg p1]
      by_cases p2 : b = 113 ∧ i = n + j
      · obtain ⟨rfl, rfl⟩ := p2
        rw [if_pos ⟨rfl, rfl⟩, if_pos (by omega), show n + j - n = j by omega]
        rfl
      · rw [if_neg p2]
        by_cases p3 : b = 113 ∧ n ≤ i ∧ i < n + j
        · rw [if_pos p3, if_pos (by omega)]
        · rw [if_neg p3, if_neg p1, if_neg (by omega), if_neg p1])
  have e0 : chI h (mTp h n x 0) = h := by
    rw [← chI_self h]
    refine chI_ext fun b i => ?_
    unfold mTp
    rw [if_neg (by omega)]
    by_cases p1 : b = 109 ∧ i = 4
    · obtain ⟨rfl, rfl⟩ := p1
      simp [hI_chI, hs]
    · rw [if_neg p1]; rfl
  simp only [e0] at key
  rw [show (3 : Int32) = Int32.ofInt (3 - (0 : Nat)) from rfl, key, E46_2]
  simp only [bI_some, bV_some, bR_some, bL_some, ob_some, cd_t, cd_f, cd_d, okO_setI, okA_setI, okL_setI, aLen_setI, hR_setI, hI_setI, Bool.true_and, Bool.and_true, Bool.and_self, Option.isNone_some, Option.isSome_some, Option.isNone_none, Option.isSome_none, okO_chI, okA_chI, okL_chI, aLen_chI, hR_chI]
  rfl
/-- a byte is a byte -/
theorem by_eq (x : Int32) (j : Nat) (hj : j < 4) : ∃ b, b < 256 ∧ cby x j = nI b ∧ mby x j &&& 255 = nI b := by
  have h1 : ∀ y : Int32, ∃ b, b < 256 ∧ y &&& 255 = nI b := fun y => pk_andE y 8 rfl
  obtain ⟨b, hb, e⟩ := h1 ((x.toUInt32 >>> ((nI (24 - 8 * j)).toUInt32 &&& Int32.toUInt32 31)).toInt32)
  refine ⟨b, hb, e, ?_⟩
  rw [← e]
  unfold mby
  rw [bp_b, bp_b]
  have e8 : (8 : Int32) * nI (3 - j) = nI (24 - 8 * j) := by
    rcases (show j = 0 ∨ j = 1 ∨ j = 2 ∨ j = 3 by omega) with rfl | rfl | rfl | rfl <;> rfl
  rw [e8]
  apply b_ext
  intro i hi
  rw [b_and, b_and, b_255]
  by_cases h8 : i < 8
  · rw [b_sshr _ (by omega) x hi, b_ushr _ (by omega) x i, if_pos (by omega)]
  · simp [h8]
theorem cT_old {h : rz_H} {n : Nat} {x : Int32} {b i : Nat} (hb : b ≠ 1 ∨ i ≠ 1) (h2 : b ≠ 2 ∨ i < n) : hI (chI h (cT h n x 4)) b i = hI h b i := by
  show cT h n x 4 b i = _
  unfold cT
  rw [if_neg (by omega), if_neg (by omega)]
theorem cT_new {h : rz_H} {n : Nat} {x : Int32} {j : Nat} (hj : j < 4) : hI (chI h (cT h n x 4)) 2 (n + j) = cby x j := by
  show cT h n x 4 2 (n + j) = _
  unfold cT
  rw [if_pos (by omega), show n + j - n = j by omega]
theorem cT_sz {h : rz_H} {n : Nat} {x : Int32} : hI (chI h (cT h n x 4)) 1 1 = nI (n + 4) := by
  show cT h n x 4 1 1 = _
  unfold cT
  rw [if_neg (by omega), if_pos ⟨rfl, rfl⟩]
theorem mT_old {h : rz_H} {n : Nat} {x : Int32} {b i : Nat} (hb : b ≠ 109 ∨ i ≠ 4) (h2 : b ≠ 113 ∨ i < n) : hI (chI h (mTp h n x 4)) b i = hI h b i := by
  show mTp h n x 4 b i = _
  unfold mTp
  rw [if_neg (by omega), if_neg (by omega)]
theorem mT_new {h : rz_H} {n : Nat} {x : Int32} {j : Nat} (hj : j < 4) : hI (chI h (mTp h n x 4)) 113 (n + j) = mby x j := by
  show mTp h n x 4 113 (n + j) = _
  unfold mTp
  rw [if_pos (by omega), show n + j - n = j by omega]
theorem mT_sz {h : rz_H} {n : Nat} {x : Int32} : hI (chI h (mTp h n x 4)) 109 4 = nI (n + 4) := by
  show mTp h n x 4 109 4 = _
  unfold mTp
  rw [if_neg (by omega), if_pos ⟨rfl, rfl⟩]
theorem S270x {rb dr : Nat} {jd : Option Nat} {h : rz_H} (w : Wf rb dr jd h) {n : Nat} (hn : n + 4 ≤ 260) (hs : hI h 1 1 = nI n) (d : Nat) (x : Int32) : ∃ k, cW (d + 1) 270 [rz_r (some 1), rz_i x] h = some (rz_i 0, k) ∧ Wf rb dr jd k ∧ hI k 1 1 = nI (n + 4) ∧ (∀ b i, (b ≠ 1 ∨ i ≠ 1) → (b ≠ 2 ∨ i < n) → hI k b i = hI h b i) ∧ (∀ j, j < 4 → hI k 2 (n + j) = cby x j) :=
  ⟨chI h (cT h n x 4), S270 w hn hs d x, w, cT_sz, fun _ _ p q => cT_old p q, fun _ hj => cT_new hj⟩
theorem S46x {rb dr : Nat} {jd : Option Nat} {h : rz_H} (w : Wf rb dr jd h) {n : Nat} (hn : n + 4 ≤ 260) (hs : hI h 109 4 = nI n) (d : Nat) (x : Int32) : ∃ k, cW (d + 1) 46 [rz_r (some 109), rz_i x] h = some (rz_i 0, k) ∧ Wf rb dr jd k ∧ hI k 109 4 = nI (n + 4) ∧ (∀ b i, (b ≠ 109 ∨ i ≠ 4) → (b ≠ 113 ∨ i < n) → hI k b i = hI h b i) ∧ (∀ j, j < 4 → hI k 113 (n + j) = mby x j) :=
  ⟨chI h (mTp h n x 4), S46 w hn hs d x, w, mT_sz, fun _ _ p q => mT_old p q, fun _ hj => mT_new hj⟩
/-- the words in their row -/
def wd5 (a b c d e : Int32) (k : Nat) : Int32 := if k = 0 then a else if k = 1 then b else if k = 2 then c else if k = 3 then d else e
theorem S1 {rb dr : Nat} {jd : Option Nat} {h : rz_H} (w : Wf rb dr jd h) {n : Nat} (hx : n + 20 ≤ 260) (hs : hI h 1 1 = nI n) (d : Nat) (a b c e f : Int32) : ∃ k, cW (d + 1 + 1) 1 [rz_r (some 0), rz_i a, rz_i b, rz_i c, rz_i e, rz_i f] h = some (rz_i (nI (n + 20)), k) ∧ Wf rb dr jd k ∧ hI k 1 1 = nI (n + 20) ∧ (∀ b i, (b ≠ 1 ∨ i ≠ 1) → (b ≠ 2 ∨ i < n) → hI k b i = hI h b i) ∧ (∀ j, j < 20 → hI k 2 (n + j) = cby (wd5 a b c e f (j / 4)) (j % 4)) := by
  have e20 : nI n + (20 : Int32) = nI (n + 20) := nI_add n 20
  have c1 : nI (n + 20) ≤ (260 : Int32) := nI_le (a := n + 20) (b := 260) hx (by omega)
  obtain ⟨h1, q1, w1, z1, o1, f1⟩ := S270x w (by omega) hs d a
  obtain ⟨h2, q2, w2, z2, o2, f2⟩ := S270x w1 (by omega) z1 d b
  obtain ⟨h3, q3, w3, z3, o3, f3⟩ := S270x w2 (by omega) z2 d c
  obtain ⟨h4, q4, w4, z4, o4, f4⟩ := S270x w3 (by omega) z3 d e
  obtain ⟨h5, q5, w5, z5, o5, f5⟩ := S270x w4 (by omega) z4 d f
  refine ⟨h5, ?_, w5, z5, fun b i p1 p2 => ?_, fun j hj => ?_⟩
  · rw [E1]
    simp only [bI_some, bV_some, bR_some, bL_some, ob_some, cd_t, cd_f, cd_d, okO_setI, okA_setI, okL_setI, aLen_setI, hR_setI, hI_setI, Bool.true_and, Bool.and_true, Bool.and_self, Option.isNone_some, Option.isSome_some, Option.isNone_none, Option.isSome_none, okO_chI, okA_chI, okL_chI, aLen_chI, hR_chI, WTp w, S268 w d, hs, e20, if_pos c1]
    rw [q1]
    simp only [bI_some, bV_some, bR_some, bL_some, ob_some, cd_t, cd_f, cd_d, okO_setI, okA_setI, okL_setI, aLen_setI, hR_setI, hI_setI, Bool.true_and, Bool.and_true, Bool.and_self, Option.isNone_some, Option.isSome_some, Option.isNone_none, Option.isSome_none, okO_chI, okA_chI, okL_chI, aLen_chI, hR_chI, WTp w1]
    rw [q2]
    simp only [bI_some, bV_some, bR_some, bL_some, ob_some, cd_t, cd_f, cd_d, okO_setI, okA_setI, okL_setI, aLen_setI, hR_setI, hI_setI, Bool.true_and, Bool.and_true, Bool.and_self, Option.isNone_some, Option.isSome_some, Option.isNone_none, Option.isSome_none, okO_chI, okA_chI, okL_chI, aLen_chI, hR_chI, WTp w2]
    rw [q3]
    simp only [bI_some, bV_some, bR_some, bL_some, ob_some, cd_t, cd_f, cd_d, okO_setI, okA_setI, okL_setI, aLen_setI, hR_setI, hI_setI, Bool.true_and, Bool.and_true, Bool.and_self, Option.isNone_some, Option.isSome_some, Option.isNone_none, Option.isSome_none, okO_chI, okA_chI, okL_chI, aLen_chI, hR_chI, WTp w3]
    rw [q4]
    simp only [bI_some, bV_some, bR_some, bL_some, ob_some, cd_t, cd_f, cd_d, okO_setI, okA_setI, okL_setI, aLen_setI, hR_setI, hI_setI, Bool.true_and, Bool.and_true, Bool.and_self, Option.isNone_some, Option.isSome_some, Option.isNone_none, Option.isSome_none, okO_chI, okA_chI, okL_chI, aLen_chI, hR_chI, WTp w4]
    rw [q5]
    simp only [bI_some, bV_some, bR_some, bL_some, ob_some, cd_t, cd_f, cd_d, okO_setI, okA_setI, okL_setI, aLen_setI, hR_setI, hI_setI, Bool.true_and, Bool.and_true, Bool.and_self, Option.isNone_some, Option.isSome_some, Option.isNone_none, Option.isSome_none, okO_chI, okA_chI, okL_chI, aLen_chI, hR_chI, WTp w5, S268 w5 d, z5]
  · rw [o5 b i p1 (by omega), o4 b i p1 (by omega), o3 b i p1 (by omega), o2 b i p1 (by omega), o1 b i p1 (by omega)]
  · have e0 : n + j = n + 4 * (j / 4) + j % 4 := by omega
    have hr : j % 4 < 4 := by omega
    have hq : j / 4 < 5 := by omega
    rw [e0]
    generalize j % 4 = r at hr
    generalize j / 4 = q at hq
    rcases (show q = 0 ∨ q = 1 ∨ q = 2 ∨ q = 3 ∨ q = 4 by omega) with rfl | rfl | rfl | rfl | rfl
    · rw [o5 _ _ (by omega) (by omega), o4 _ _ (by omega) (by omega), o3 _ _ (by omega) (by omega), o2 _ _ (by omega) (by omega)]
      exact f1 r hr
    · rw [o5 _ _ (by omega) (by omega), o4 _ _ (by omega) (by omega), o3 _ _ (by omega) (by omega)]
      exact f2 r hr
    · rw [o5 _ _ (by omega) (by omega), o4 _ _ (by omega) (by omega)]
      exact f3 r hr
    · rw [o5 _ _ (by omega) (by omega)]
      exact f4 r hr
    · exact f5 r hr
theorem S47 {rb dr : Nat} {jd : Option Nat} {h : rz_H} (w : Wf rb dr jd h) {n : Nat} (hx : n + 20 ≤ 260) (hs : hI h 109 4 = nI n) (d : Nat) (a b c e f : Int32) : ∃ k, cW (d + 1 + 1) 47 [rz_r (some 109), rz_i a, rz_i b, rz_i c, rz_i e, rz_i f] h = some (rz_i (nI (n + 20)), k) ∧ Wf rb dr jd k ∧ hI k 109 4 = nI (n + 20) ∧ (∀ b i, (b ≠ 109 ∨ i ≠ 4) → (b ≠ 113 ∨ i < n) → hI k b i = hI h b i) ∧ (∀ j, j < 20 → hI k 113 (n + j) = mby (wd5 a b c e f (j / 4)) (j % 4)) := by
  have e20 : nI n + (20 : Int32) = nI (n + 20) := nI_add n 20
  have c1 : nI (n + 20) ≤ (260 : Int32) := nI_le (a := n + 20) (b := 260) hx (by omega)
  obtain ⟨h1, q1, w1, z1, o1, f1⟩ := S46x w (by omega) hs d a
  obtain ⟨h2, q2, w2, z2, o2, f2⟩ := S46x w1 (by omega) z1 d b
  obtain ⟨h3, q3, w3, z3, o3, f3⟩ := S46x w2 (by omega) z2 d c
  obtain ⟨h4, q4, w4, z4, o4, f4⟩ := S46x w3 (by omega) z3 d e
  obtain ⟨h5, q5, w5, z5, o5, f5⟩ := S46x w4 (by omega) z4 d f
  refine ⟨h5, ?_, w5, z5, fun b i p1 p2 => ?_, fun j hj => ?_⟩
  · rw [E47]
    simp only [bI_some, bV_some, bR_some, bL_some, ob_some, cd_t, cd_f, cd_d, okO_setI, okA_setI, okL_setI, aLen_setI, hR_setI, hI_setI, Bool.true_and, Bool.and_true, Bool.and_self, Option.isNone_some, Option.isSome_some, Option.isNone_none, Option.isSome_none, okO_chI, okA_chI, okL_chI, aLen_chI, hR_chI, WMd w, hs, e20, if_pos c1]
    rw [q1]
    simp only [bI_some, bV_some, bR_some, bL_some, ob_some, cd_t, cd_f, cd_d, okO_setI, okA_setI, okL_setI, aLen_setI, hR_setI, hI_setI, Bool.true_and, Bool.and_true, Bool.and_self, Option.isNone_some, Option.isSome_some, Option.isNone_none, Option.isSome_none, okO_chI, okA_chI, okL_chI, aLen_chI, hR_chI, WMd w1]
    rw [q2]
    simp only [bI_some, bV_some, bR_some, bL_some, ob_some, cd_t, cd_f, cd_d, okO_setI, okA_setI, okL_setI, aLen_setI, hR_setI, hI_setI, Bool.true_and, Bool.and_true, Bool.and_self, Option.isNone_some, Option.isSome_some, Option.isNone_none, Option.isSome_none, okO_chI, okA_chI, okL_chI, aLen_chI, hR_chI, WMd w2]
    rw [q3]
    simp only [bI_some, bV_some, bR_some, bL_some, ob_some, cd_t, cd_f, cd_d, okO_setI, okA_setI, okL_setI, aLen_setI, hR_setI, hI_setI, Bool.true_and, Bool.and_true, Bool.and_self, Option.isNone_some, Option.isSome_some, Option.isNone_none, Option.isSome_none, okO_chI, okA_chI, okL_chI, aLen_chI, hR_chI, WMd w3]
    rw [q4]
    simp only [bI_some, bV_some, bR_some, bL_some, ob_some, cd_t, cd_f, cd_d, okO_setI, okA_setI, okL_setI, aLen_setI, hR_setI, hI_setI, Bool.true_and, Bool.and_true, Bool.and_self, Option.isNone_some, Option.isSome_some, Option.isNone_none, Option.isSome_none, okO_chI, okA_chI, okL_chI, aLen_chI, hR_chI, WMd w4]
    rw [q5]
    simp only [bI_some, bV_some, bR_some, bL_some, ob_some, cd_t, cd_f, cd_d, okO_setI, okA_setI, okL_setI, aLen_setI, hR_setI, hI_setI, Bool.true_and, Bool.and_true, Bool.and_self, Option.isNone_some, Option.isSome_some, Option.isNone_none, Option.isSome_none, okO_chI, okA_chI, okL_chI, aLen_chI, hR_chI, WMd w5, z5]
  · rw [o5 b i p1 (by omega), o4 b i p1 (by omega), o3 b i p1 (by omega), o2 b i p1 (by omega), o1 b i p1 (by omega)]
  · have e0 : n + j = n + 4 * (j / 4) + j % 4 := by omega
    have hr : j % 4 < 4 := by omega
    have hq : j / 4 < 5 := by omega
    rw [e0]
    generalize j % 4 = r at hr
    generalize j / 4 = q at hq
    rcases (show q = 0 ∨ q = 1 ∨ q = 2 ∨ q = 3 ∨ q = 4 by omega) with rfl | rfl | rfl | rfl | rfl
    · rw [o5 _ _ (by omega) (by omega), o4 _ _ (by omega) (by omega), o3 _ _ (by omega) (by omega), o2 _ _ (by omega) (by omega)]
      exact f1 r hr
    · rw [o5 _ _ (by omega) (by omega), o4 _ _ (by omega) (by omega), o3 _ _ (by omega) (by omega)]
      exact f2 r hr
    · rw [o5 _ _ (by omega) (by omega), o4 _ _ (by omega) (by omega)]
      exact f3 r hr
    · rw [o5 _ _ (by omega) (by omega)]
      exact f4 r hr
    · exact f5 r hr
theorem P1 (a b c d e : Int32) : Pr Rel 1 47 [rz_i a, rz_i b, rz_i c, rz_i d, rz_i e] := by
  intro h r
  obtain ⟨rb, dr, jd, w, r1, r2, r3, r4, r5⟩ := id r
  have hrb := lw_rb w
  obtain ⟨n, hn, s1, s2, ht⟩ := r3
  have e20 : nI n + (20 : Int32) = nI (n + 20) := nI_add n 20
  by_cases hx : n + 20 ≤ 260
  · obtain ⟨h5, q5, w5, z5, o5, f5⟩ := S1 w hx s1 98 a b c d e
    obtain ⟨k5, q6, w6, z6, o6, f6⟩ := S47 w5 hx (by rw [o5 109 4 (by omega) (by omega)]; exact s2) 98 a b c d e
    refine ⟨nI (n + 20), h5, k5, q5, q6, (WMd w5).1, ?_⟩
    have out : ∀ b i, (b ≠ 1 ∨ i ≠ 1) → b ≠ 2 → (b ≠ 109 ∨ i ≠ 4) → b ≠ 113 → hI k5 b i = hI h b i := fun b i p1 p2 p3 p4 => by rw [o6 b i p3 (Or.inl p4), o5 b i p1 (Or.inl p2)]
    refine Rel_mk w6 (r1.to (fun b b1 b2 i => out b i (by omega) (by omega) (by omega) (by omega))) (r2.to (fun b hb i => out b i (by omega) (by omega) (by omega) (by omega))) ⟨n + 20, by omega, ?_, z6, fun i hi => ?_⟩ (r4.to (fun b hb i => out b i (by omega) (by omega) (by omega) (by omega)) (out 0 9 (by omega) (by omega) (by omega) (by omega)) (out 109 39 (by omega) (by omega) (by omega) (by omega))) (r5.to (fun b hb i => out b i (by omega) (by omega) (by omega) (by omega)) (out 109 13 (by omega) (by omega) (by omega) (by omega)))
    · rw [o6 1 1 (by omega) (by omega)]
      exact z5
    · rw [o6 2 i (by omega) (by omega)]
      by_cases hin : i < n
      · rw [o6 113 i (by omega) (Or.inr hin), o5 2 i (by omega) (Or.inr hin), o5 113 i (by omega) (by omega)]
        exact ht i hin
      · obtain ⟨j, rfl⟩ : ∃ j, i = n + j := ⟨i - n, by omega⟩
        rw [f5 j (by omega), f6 j (by omega)]
        obtain ⟨v, hv, g1, g2⟩ := by_eq (wd5 a b c d e (j / 4)) (j % 4) (by omega)
        exact ⟨v, hv, g1, g2⟩
  · have c1 : ¬ nI (n + 20) ≤ (260 : Int32) := nI_ge (a := 260) (b := n + 20) (by omega) (by omega)
    refine ⟨-1, h, h, ?_, ?_, (WMd w).1, r⟩
    · rw [show DD = 99 + 1 from rfl, E1]
      simp only [bI_some, bV_some, bR_some, bL_some, ob_some, cd_t, cd_f, cd_d, okO_setI, okA_setI, okL_setI, aLen_setI, hR_setI, hI_setI, Bool.true_and, Bool.and_true, Bool.and_self, Option.isNone_some, Option.isSome_some, Option.isNone_none, Option.isSome_none, okO_chI, okA_chI, okL_chI, aLen_chI, hR_chI, WTp w, S268 w 98, s1, e20, if_neg c1]
    · rw [show DD = 99 + 1 from rfl, E47]
      simp only [bI_some, bV_some, bR_some, bL_some, ob_some, cd_t, cd_f, cd_d, okO_setI, okA_setI, okL_setI, aLen_setI, hR_setI, hI_setI, Bool.true_and, Bool.and_true, Bool.and_self, Option.isNone_some, Option.isSome_some, Option.isNone_none, Option.isSome_none, okO_chI, okA_chI, okL_chI, aLen_chI, hR_chI, WMd w, s2, e20, if_neg c1]
