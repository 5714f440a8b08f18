/-! orders are carried out: the class -/
def apT (l : LN) (T : TU) : TU := if l.2.1 = 43 then (T.1, T.2.1, min 999 (T.2.2.1 + l.2.2.1), T.2.2.2) else if l.2.1 = 45 then (T.1, T.2.1, T.2.2.1 - l.2.2.1, T.2.2.2) else if l.2.1 = 64 then (T.1, l.2.2.1, T.2.2) else if l.2.1 = 35 then (T.1, T.2.1, T.2.2.1, T.2.2.2.1, T.2.2.2.2.1, T.2.2.2.2.2.1, udn T.2.2.2.2.2.2.1 l.2.2.1 l.2.2.2, udn T.2.2.2.2.2.2.2 l.2.2.1 0) else (T.1, T.2.1, T.2.2.1, T.2.2.2.1, T.2.2.2.2.1, (if l.2.1 = 33 then 1 else 0), T.2.2.2.2.2.2.1, T.2.2.2.2.2.2.2)
def apL (l : LN) (D : Nat → TU) : Nat → TU := fun j => if j = l.1 then apT l (D j) else D j
def apN (a : Nat → LN) : Nat → (Nat → TU) → (Nat → TU)
  | 0, D => D
  | n + 1, D => apL (a n) (apN a n D)
theorem apT_F (l : LN) (T : TU) : (apT l T).1 = T.1 := by
  unfold apT
  split
  · rfl
  · split
    · rfl
    · split
      · rfl
      · split
        · rfl
        · rfl
theorem apL_F (l : LN) (D : Nat → TU) (k : Nat) : (apL l D k).1 = (D k).1 := by
  unfold apL
  split
  · exact apT_F l _
  · rfl
theorem apN_F (a : Nat → LN) : ∀ n D k, (apN a n D k).1 = (D k).1
  | 0, _, _ => rfl
  | n + 1, D, k => (apL_F _ _ k).trans (apN_F a n D k)
theorem apN_up (a : Nat → LN) (m : Nat) (l : LN) (D : Nat → TU) : ∀ n, n ≤ m → apN (upl a m l) n D = apN a n D
  | 0, _ => rfl
  | n + 1, h => by
    show apL (upl a m l n) (apN (upl a m l) n D) = apL (a n) (apN a n D)
    rw [apN_up a m l D n (by omega)]
    have : upl a m l n = a n := if_neg (by omega)
    rw [this]
theorem apN_s (a : Nat → LN) (n : Nat) (l : LN) (D : Nat → TU) : apN (upl a n l) (n + 1) D = apL l (apN a n D) := by
  show apL (upl a n l n) (apN (upl a n l) n D) = _
  rw [apN_up a n l D n (Nat.le_refl _)]
  have : upl a n l n = l := if_pos rfl
  rw [this]
def tlO (l : LN) (T : TU) : Prop := 0 < T.1 ∧ sgT l.2.1 = true ∧ l.2.2.1 < 1000 ∧ l.2.2.2 ≤ 16 ∧ (l.2.1 = 64 ∨ l.2.1 = 35 → l.2.2.1 < T.1)
theorem tO_ap {l : LN} {T : TU} (O : tO T) (c : tlO l T) : tO (apT l T) := by
  obtain ⟨o1, o2, o3, o4, o5, o6, o7⟩ := O
  obtain ⟨c1, c2, c3, c4, c5⟩ := c
  have z : ¬ T.1 = 0 := by omega
  unfold apT
  split
  · exact ⟨o1, by show min 999 _ ≤ 999; omega, o3, o4, fun y => absurd y z, o6, o7⟩
  · split
    · exact ⟨o1, by show T.2.2.1 - l.2.2.1 ≤ 999; omega, o3, o4, fun y => absurd y z, o6, o7⟩
    · split
      · rename_i q
        exact ⟨o1, o2, o3, o4, fun y => absurd y z, fun y => ⟨c5 (Or.inl q), (o6 y).2⟩, o7⟩
      · split
        · refine ⟨o1, o2, o3, o4, fun y => absurd y z, o6, fun i hi => ⟨?_, ?_⟩⟩
          · show (if i = l.2.2.1 then l.2.2.2 else _) ≤ 16
            split
            · exact c4
            · exact (o7 i hi).1
          · show (if i = l.2.2.1 then 0 else _) ≤ 99
            split
            · omega
            · exact (o7 i hi).2
        · exact ⟨o1, o2, o3, by show (if l.2.1 = 33 then 1 else 0) ≤ 1; split <;> omega, fun y => absurd y z, o6, o7⟩
theorem ng_ck : ∀ k, k < 1000 → 0 < k → -(nI k) < 0 := by decide +kernel
theorem sub_clamp {t n : Nat} (ht : t ≤ 999) (hn : n < 1000) : (n ≤ t ∧ nI t + -(nI n) = nI (t - n)) ∨ (t - n = 0 ∧ nI t + -(nI n) < 0) := by
  by_cases c : n ≤ t
  · exact Or.inl ⟨c, by rw [← Int32.sub_eq_add_neg]; exact nI_sub c⟩
  · refine Or.inr ⟨by omega, ?_⟩
    rw [← Int32.sub_eq_add_neg, ← Int32.neg_sub, nI_sub (by omega)]
    exact ng_ck _ (by omega) (by omega)
/-- a count kept within 0 and 999 -/
def c999 (y : Int32) : Int32 := if (0 : Int32) < (if y < 999 then y else 999) then (if y < 999 then y else 999) else 0
theorem c999_add {t n : Nat} (ht : t ≤ 999) (hn : n < 1000) : c999 (nI t + nI n) = nI (min 999 (t + n)) := by
  rw [nI_add]
  unfold c999
  have e : (if nI (t + n) < 999 then nI (t + n) else 999) = nI (min 999 (t + n)) := by
    by_cases c : t + n < 999
    · have l : nI (t + n) < (999 : Int32) := (nI_ltI (a := t + n) (b := 999) (by omega) (by omega)).mpr c
      rw [if_pos l, Nat.min_eq_right (by omega)]
    · have l : ¬ nI (t + n) < (999 : Int32) := fun z => c ((nI_ltI (a := t + n) (b := 999) (by omega) (by omega)).mp z)
      rw [if_neg l, Nat.min_eq_left (by omega)]
      rfl
  rw [e]
  by_cases c : 0 < min 999 (t + n)
  · have l : (0 : Int32) < nI (min 999 (t + n)) := (nI_ltI (a := 0) (b := min 999 (t + n)) (by omega) (by omega)).mpr c
    rw [if_pos l]
  · have : min 999 (t + n) = 0 := by omega
    rw [this]
    rfl
theorem c999_sub {t n : Nat} (ht : t ≤ 999) (hn : n < 1000) : c999 (nI t + -(nI n)) = nI (t - n) := by
  rcases sub_clamp ht hn with ⟨a, b⟩ | ⟨a, b⟩
  · rw [b]
    have := c999_add (t := t - n) (n := 0) (by omega) (by omega)
    rw [nI_add, Nat.min_eq_right (show t - n + 0 ≤ 999 by omega)] at this
    exact this
  · unfold c999
    have l : nI t + -(nI n) < 999 := Int32.lt_trans b (by decide)
    have g : ¬ (0 : Int32) < nI t + -(nI n) := fun z => absurd (Int32.lt_trans b z) Int32.lt_irrefl
    rw [if_pos l, if_neg g, a]
    rfl
theorem C149 {rb dr : Nat} {jd : Option Nat} {h : rz_H} (w : Wf rb dr jd h) {a : Nat} (hd : isD a) (x : Int32) (d : Nat) : cW (d + 2) 149 [rz_r (some a), rz_i x] h = some (rz_i 0, setI h a 4 (c999 (hI h a 4 + x))) := by
  rw [E149]
  simp only [bI_some, bV_some, bR_some, bL_some, ob_some, cd_t, cd_f, cd_d, okO_setI, okA_setI, okL_setI, aLen_setI, hR_setI, hI_setI, Bool.true_and, Bool.and_true, Bool.and_self, Option.isNone_some, Option.isSome_some, Option.isNone_none, Option.isSome_none, okO_chI, okA_chI, okL_chI, aLen_chI, hR_chI, ↓reduceIte, not_true_eq_false, not_false_eq_true, eq_self, c10, WD w hd, S278, S277]
  rfl
theorem C224 {rb dr : Nat} {jd : Option Nat} {h : rz_H} (w : Wf rb dr jd h) {a : Nat} (hd : isD a) {T : TU} (O : tO T) (C : tC h a T) {l : LN} (c : tlO l T) (d : Nat) : ∃ h', cW (d + 3) 224 [rz_r (some a), rz_i (nI l.2.1), rz_i (nI l.2.2.1), rz_i (nI l.2.2.2)] h = some (rz_i 0, h') ∧ h'.2 = h.2 ∧ tC h' a (apT l T) ∧ ∀ b i, b ≠ a → b ≠ a + 1 → b ≠ a + 2 → hI h' b i = hI h b i := by
  obtain ⟨k, s, n, u⟩ := l
  obtain ⟨o1, o2, o3, o4, o5, o6, o7⟩ := O
  obtain ⟨m1, m2, m3, m4, m5, m6, m7⟩ := C
  obtain ⟨c1, c2, c3, c4, c5⟩ := c
  have c3 : n < 1000 := c3
  have sg : s = 33 ∨ s = 63 ∨ s = 64 ∨ s = 35 ∨ s = 43 ∨ s = 45 := of_decide_eq_true c2
  have n0 : ¬ nI n < 0 := Int32.not_lt.mpr (nI_pos' (by omega))
  have r4 : ∀ x, tC (setI h a 4 (nI x)) a (T.1, T.2.1, x, T.2.2.2) := fun x => ⟨by rw [hI_setI, if_neg (by omega)]; exact m1, by rw [hI_setI, if_neg (by omega)]; exact m2, by rw [hI_setI, if_pos ⟨rfl, rfl⟩], by rw [hI_setI, if_neg (by omega)]; exact m4, by rw [hI_setI, if_neg (by omega)]; exact m5, by rw [hI_setI, if_neg (by omega)]; exact m6, fun i hi => ⟨by rw [hI_setI, if_neg (by omega)]; exact (m7 i hi).1, by rw [hI_setI, if_neg (by omega)]; exact (m7 i hi).2⟩⟩
  have r7 : ∀ x, tC (setI h a 7 (nI x)) a (T.1, T.2.1, T.2.2.1, T.2.2.2.1, T.2.2.2.2.1, x, T.2.2.2.2.2.2.1, T.2.2.2.2.2.2.2) := fun x => ⟨by rw [hI_setI, if_neg (by omega)]; exact m1, by rw [hI_setI, if_neg (by omega)]; exact m2, by rw [hI_setI, if_neg (by omega)]; exact m3, by rw [hI_setI, if_neg (by omega)]; exact m4, by rw [hI_setI, if_neg (by omega)]; exact m5, by rw [hI_setI, if_pos ⟨rfl, rfl⟩], fun i hi => ⟨by rw [hI_setI, if_neg (by omega)]; exact (m7 i hi).1, by rw [hI_setI, if_neg (by omega)]; exact (m7 i hi).2⟩⟩
  have r3 : ∀ x, tC (setI h a 3 (nI x)) a (T.1, x, T.2.2) := fun x => ⟨by rw [hI_setI, if_neg (by omega)]; exact m1, by rw [hI_setI, if_pos ⟨rfl, rfl⟩], by rw [hI_setI, if_neg (by omega)]; exact m3, by rw [hI_setI, if_neg (by omega)]; exact m4, by rw [hI_setI, if_neg (by omega)]; exact m5, by rw [hI_setI, if_neg (by omega)]; exact m6, fun i hi => ⟨by rw [hI_setI, if_neg (by omega)]; exact (m7 i hi).1, by rw [hI_setI, if_neg (by omega)]; exact (m7 i hi).2⟩⟩
  show ∃ h', cW (d + 3) 224 [rz_r (some a), rz_i (nI s), rz_i (nI n), rz_i (nI u)] h = some (rz_i 0, h') ∧ _
  have lf : Int32.ofNat 35 = 35 ∧ Int32.ofNat 43 = 43 ∧ Int32.ofNat 45 = 45 ∧ Int32.ofNat 64 = 64 := ⟨rfl, rfl, rfl, rfl⟩
  have d1 : (decide ((1 : Int32) = 0) || decide ((1 : Int32) = 1)) = true := rfl
  have d0 : (decide ((0 : Int32) = 0) || decide ((0 : Int32) = 1)) = true := rfl
  have e151 : ∀ d, cW (d + 1) 151 [rz_r (some a), rz_i 1] h = some (rz_i 0, setI h a 7 1) := fun d => by
    rw [E151, d1]
    simp only [bI_some, bV_some, bR_some, bL_some, ob_some, cd_t, cd_f, cd_d, okO_setI, okA_setI, okL_setI, aLen_setI, hR_setI, hI_setI, Bool.true_and, Bool.and_true, Bool.and_self, Option.isNone_some, Option.isSome_some, Option.isNone_none, Option.isSome_none, okO_chI, okA_chI, okL_chI, aLen_chI, hR_chI, ↓reduceIte, not_true_eq_false, not_false_eq_true, eq_self, c10, WD w hd]
  have e151' : ∀ d, cW (d + 1) 151 [rz_r (some a), rz_i 0] h = some (rz_i 0, setI h a 7 0) := fun d => by
    rw [E151, d0]
    simp only [bI_some, bV_some, bR_some, bL_some, ob_some, cd_t, cd_f, cd_d, okO_setI, okA_setI, okL_setI, aLen_setI, hR_setI, hI_setI, Bool.true_and, Bool.and_true, Bool.and_self, Option.isNone_some, Option.isSome_some, Option.isNone_none, Option.isSome_none, okO_chI, okA_chI, okL_chI, aLen_chI, hR_chI, ↓reduceIte, not_true_eq_false, not_false_eq_true, eq_self, c10, WD w hd]
  rcases sg with rfl | rfl | rfl | rfl | rfl | rfl
  · refine ⟨setI h a 7 1, ?_, rfl, r7 1, fun b i n1 n2 n3 => by rw [hI_setI, if_neg (by omega)]⟩
    show cW (d + 3) 224 [rz_r (some a), rz_i 33, rz_i (nI n), rz_i (nI u)] h = _
    simp only [bI_some, bV_some, bR_some, bL_some, ob_some, cd_t, cd_f, cd_d, okO_setI, okA_setI, okL_setI, aLen_setI, hR_setI, hI_setI, Bool.true_and, Bool.and_true, Bool.and_self, Option.isNone_some, Option.isSome_some, Option.isNone_none, Option.isSome_none, okO_chI, okA_chI, okL_chI, aLen_chI, hR_chI, ↓reduceIte, not_true_eq_false, not_false_eq_true, eq_self, c10, X224, lf, lits, X224_20, WD w hd, e151, X224_28]
  · refine ⟨setI h a 7 0, ?_, rfl, r7 0, fun b i n1 n2 n3 => by rw [hI_setI, if_neg (by omega)]⟩
    show cW (d + 3) 224 [rz_r (some a), rz_i 63, rz_i (nI n), rz_i (nI u)] h = _
    simp only [bI_some, bV_some, bR_some, bL_some, ob_some, cd_t, cd_f, cd_d, okO_setI, okA_setI, okL_setI, aLen_setI, hR_setI, hI_setI, Bool.true_and, Bool.and_true, Bool.and_self, Option.isNone_some, Option.isSome_some, Option.isNone_none, Option.isSome_none, okO_chI, okA_chI, okL_chI, aLen_chI, hR_chI, ↓reduceIte, not_true_eq_false, not_false_eq_true, eq_self, c10, X224, lf, lits, X224_20, WD w hd, e151', X224_28]
  · have hF : n < T.1 := c5 (Or.inl rfl)
    refine ⟨setI h a 3 (nI n), ?_, rfl, r3 n, fun b i n1 n2 n3 => by rw [hI_setI, if_neg (by omega)]⟩
    have g : ¬ nI T.1 ≤ nI n := nI_ge (by omega) (by omega)
    show cW (d + 3) 224 [rz_r (some a), rz_i 64, rz_i (nI n), rz_i (nI u)] h = _
    simp only [bI_some, bV_some, bR_some, bL_some, ob_some, cd_t, cd_f, cd_d, okO_setI, okA_setI, okL_setI, aLen_setI, hR_setI, hI_setI, Bool.true_and, Bool.and_true, Bool.and_self, Option.isNone_some, Option.isSome_some, Option.isNone_none, Option.isSome_none, okO_chI, okA_chI, okL_chI, aLen_chI, hR_chI, ↓reduceIte, not_true_eq_false, not_false_eq_true, eq_self, c10, X224, lf, lits, X224_11, WD w hd, E150, n0, m1, g, X224_14, X224_28]
  · have hF : n < T.1 := c5 (Or.inr rfl)
    refine ⟨setI (setI h (a + 1) n (nI u)) (a + 2) n 0, ?_, rfl, ?_, fun b i n1 n2 n3 => by rw [hI_setI, if_neg (by omega), hI_setI, if_neg (by omega)]⟩
    · have g : ¬ nI T.1 ≤ nI n := nI_ge (by omega) (by omega)
      show cW (d + 3) 224 [rz_r (some a), rz_i 35, rz_i (nI n), rz_i (nI u)] h = _
      have e152 : ∀ d, cW (d + 1) 152 [rz_r (some a), rz_i (nI n), rz_i (nI u)] h = some (rz_i 0, setI (setI h (a + 1) n (nI u)) (a + 2) n 0) := fun d => by
        have w1 : Wf rb dr jd (setI h (a + 1) n (nI u)) := w
        rw [E152]
        simp (disch := omega) only [↓cd_d, ↓irem_eq_mod, ↓ob_setI, ↓ob_chI, ↓ob_some, bI_some, bV_some, bR_some, bL_some, ob_some, cd_t, cd_f, okO_setI, okA_setI, okL_setI, aLen_setI, hR_setI, hI_setI, Bool.true_and, Bool.and_true, Bool.and_self, Option.isNone_some, Option.isSome_some, Option.isNone_none, Option.isSome_none, okO_chI, okA_chI, okL_chI, aLen_chI, hR_chI, ↓reduceIte, not_true_eq_false, not_false_eq_true, eq_self, c10, Nat.zero_add, nI_add, litA, litB, litM, nI_mul, nI_leI, nI_ltI, nI_eq, litLe, litLe2, litLt, litLt2, litEq, litEq2, in_nI, lit_in, nI_clamp, lit_cl, if_pos, if_neg, n0, WD w hd, ↓WDb w hd, m1, g]
      simp only [bI_some, bV_some, bR_some, bL_some, ob_some, cd_t, cd_f, cd_d, okO_setI, okA_setI, okL_setI, aLen_setI, hR_setI, hI_setI, Bool.true_and, Bool.and_true, Bool.and_self, Option.isNone_some, Option.isSome_some, Option.isNone_none, Option.isSome_none, okO_chI, okA_chI, okL_chI, aLen_chI, hR_chI, ↓reduceIte, not_true_eq_false, not_false_eq_true, eq_self, c10, X224, lf, X224_15, WD w hd, e152, X224_19, X224_28]
    · have e0 : ∀ b i, ¬ (b = a + 1 ∧ i = n) → ¬ (b = a + 2 ∧ i = n) → hI (setI (setI h (a + 1) n (nI u)) (a + 2) n 0) b i = hI h b i := fun b i n1 n2 => by rw [hI_setI, if_neg n2, hI_setI, if_neg n1]
      refine ⟨(e0 _ _ (by omega) (by omega)).trans m1, (e0 _ _ (by omega) (by omega)).trans m2, (e0 _ _ (by omega) (by omega)).trans m3, (e0 _ _ (by omega) (by omega)).trans m4, (e0 _ _ (by omega) (by omega)).trans m5, (e0 _ _ (by omega) (by omega)).trans m6, fun i hi => ?_⟩
      show hI _ (a + 1) i = nI (if i = n then u else _) ∧ hI _ (a + 2) i = nI (if i = n then 0 else _)
      by_cases ei : i = n
      · subst ei
        rw [if_pos rfl, if_pos rfl]
        exact ⟨by rw [hI_setI, if_neg (by omega), hI_setI, if_pos ⟨rfl, rfl⟩], by rw [hI_setI, if_pos ⟨rfl, rfl⟩]; rfl⟩
      · rw [if_neg ei, if_neg ei]
        exact ⟨(e0 _ _ (by omega) (by omega)).trans (m7 i hi).1, (e0 _ _ (by omega) (by omega)).trans (m7 i hi).2⟩
  · refine ⟨setI h a 4 (nI (min 999 (T.2.2.1 + n))), ?_, rfl, r4 _, fun b i n1 n2 n3 => by rw [hI_setI, if_neg (by omega)]⟩
    show cW (d + 3) 224 [rz_r (some a), rz_i 43, rz_i (nI n), rz_i (nI u)] h = _
    simp only [bI_some, bV_some, bR_some, bL_some, ob_some, cd_t, cd_f, cd_d, okO_setI, okA_setI, okL_setI, aLen_setI, hR_setI, hI_setI, Bool.true_and, Bool.and_true, Bool.and_self, Option.isNone_some, Option.isSome_some, Option.isNone_none, Option.isSome_none, okO_chI, okA_chI, okL_chI, aLen_chI, hR_chI, ↓reduceIte, not_true_eq_false, not_false_eq_true, eq_self, c10, X224, lf, lits, X224_2, WD w hd, C149 w hd, m3, c999_add o2 c3, X224_5, X224_28]
  · refine ⟨setI h a 4 (nI (T.2.2.1 - n)), ?_, rfl, r4 _, fun b i n1 n2 n3 => by rw [hI_setI, if_neg (by omega)]⟩
    show cW (d + 3) 224 [rz_r (some a), rz_i 45, rz_i (nI n), rz_i (nI u)] h = _
    simp only [bI_some, bV_some, bR_some, bL_some, ob_some, cd_t, cd_f, cd_d, okO_setI, okA_setI, okL_setI, aLen_setI, hR_setI, hI_setI, Bool.true_and, Bool.and_true, Bool.and_self, Option.isNone_some, Option.isSome_some, Option.isNone_none, Option.isSome_none, okO_chI, okA_chI, okL_chI, aLen_chI, hR_chI, ↓reduceIte, not_true_eq_false, not_false_eq_true, eq_self, c10, X224, lf, lits, X224_6, WD w hd, C149 w hd, m3, c999_sub o2 c3, X224_10, X224_28]
theorem LO_ap {l : LN} {D : Nat → TU} {tk x : Nat} (O : LO D tk x) (c : tlO l (D l.1)) : LO (apL l D) tk x := ⟨fun k hk => by
  show tO (if k = l.1 then apT l (D k) else D k)
  by_cases e : k = l.1
  · subst e
    rw [if_pos rfl]
    exact tO_ap (O.1 _ hk) c
  · rw [if_neg e]
    exact O.1 k hk, O.2⟩
theorem lOk_t {D : Nat → TU} {l : LN} (c : lOk (fun k => (D k).1) l) {D' : Nat → TU} (e : ∀ k, (D' k).1 = (D k).1) : tlO l (D' l.1) := by
  obtain ⟨c1, c2, c3, c4, c5, c6⟩ := c
  refine ⟨?_, c3, c4, c5, fun z => ?_⟩
  · rw [e]
    exact c2
  · rw [e]
    exact c6 z
theorem LO_apN {a : Nat → LN} {D : Nat → TU} {tk x : Nat} (O : LO D tk x) : ∀ n, (∀ i, i < n → lOk (fun k => (D k).1) (a i)) → LO (apN a n D) tk x
  | 0, _ => O
  | n + 1, c => LO_ap (LO_apN O n fun i hi => c i (by omega)) (lOk_t (c n (by omega)) (apN_F a n D))
theorem C223 {rb dr : Nat} {jd : Option Nat} {h0 : rz_H} (w0 : Wf rb dr jd h0) {D : Nat → TU} {tk x : Nat} (O : LO D tk x) {n : Nat} (hn : n ≤ 20) {a : Nat → LN} (hl : ∀ i, i < n → lOk (fun k => (D k).1) (a i)) (e9 : hI h0 90 9 = nI n) (al : ∀ i, i < n → lAt h0 i (a i)) (d : Nat) : ∀ c i h, i + c = n → h.2 = h0.2 → (∀ b i, ¬ (5 ≤ b ∧ b < 29) → hI h b i = hI h0 b i) → LC h 3 (apN a i D) tk x → ∃ h', (∀ j3, rW (d + 3) 223 (2, (0, 0), [some (rz_r (some 90)), some (rz_r (some 3)), some (rz_i (nI i)), j3], [], h) = some (rz_i 0, h')) ∧ h'.2 = h0.2 ∧ (∀ b i, ¬ (5 ≤ b ∧ b < 29) → hI h' b i = hI h0 b i) ∧ LC h' 3 (apN a n D) tk x := by
  intro c
  induction c with
  | zero =>
    intro i h hi e f C
    have w : Wf rb dr jd h := w0.e e
    have v9 := (f 90 9 (by omega)).trans e9
    have hi : i = n := by omega
    subst hi
    refine ⟨h, fun j3 => ?_, e, f, C⟩
    rw [X223_2]
    simp (disch := omega) only [↓cd_d, ↓irem_eq_mod, ↓ob_setI, ↓ob_chI, ↓ob_some, bI_some, bV_some, bR_some, bL_some, ob_some, cd_t, cd_f, okO_setI, okA_setI, okL_setI, aLen_setI, hR_setI, hI_setI, Bool.true_and, Bool.and_true, Bool.and_self, Option.isNone_some, Option.isSome_some, Option.isNone_none, Option.isSome_none, okO_chI, okA_chI, okL_chI, aLen_chI, hR_chI, ↓reduceIte, not_true_eq_false, not_false_eq_true, eq_self, c10, Nat.zero_add, nI_add, litA, litB, litM, nI_mul, nI_leI, nI_ltI, nI_eq, litLe, litLe2, litLt, litLt2, litEq, litEq2, in_nI, lit_in, nI_clamp, lit_cl, if_pos, if_neg, WOr w, v9, X223_34]
  | succ c ih =>
    intro i h hi e f C
    have w : Wf rb dr jd h := w0.e e
    have v9 := (f 90 9 (by omega)).trans e9
    have hL3 : isL 3 := Or.inl rfl
    have lo := hl i (by omega)
    obtain ⟨a1, a2, a3, a4⟩ := al i (by omega)
    have a1 := (f 91 i (by omega)).trans a1
    have a2 := (f 92 i (by omega)).trans a2
    have a3 := (f 93 i (by omega)).trans a3
    have a4 := (f 94 i (by omega)).trans a4
    have O' := LO_apN O i fun j hj => hl j (by omega)
    have k8 : (a i).1 < 8 := lo.1
    have to := lOk_t lo (apN_F a i D)
    obtain ⟨-, hd⟩ := WLk w hL3 k8
    have c181 := fun d => C181 w hL3 k8 (O'.1 _ k8) (C.1 _ k8) to.1 d
    obtain ⟨h1, e1, q0, q1, q2⟩ := C224 w hd (O'.1 _ k8) (C.1 _ k8) to d
    have C1 : LC h1 3 (apN a (i + 1) D) tk x := by
      refine ⟨fun k hk => ?_, (q2 3 1 (by omega) (by omega) (by omega)).trans C.2.1, (q2 3 2 (by omega) (by omega) (by omega)).trans C.2.2⟩
      show tC h1 (3 + 2 + 3 * k) (if k = (a i).1 then apT (a i) (apN a i D k) else apN a i D k)
      by_cases ek : k = (a i).1
      · rw [if_pos ek, ek]
        exact q1
      · rw [if_neg ek]
        exact Dc.to (C.1 k hk) fun b hb j => q2 b j (by omega) (by omega) (by omega)
    obtain ⟨h', e2, z0, z1, z2⟩ := ih (i + 1) h1 (by omega) (q0.trans e) (fun b j z => (q2 b j (by omega) (by omega) (by omega)).trans (f b j z)) C1
    refine ⟨h', fun j3 => ?_, z0, z1, z2⟩
    rw [← e2 (some (rz_r (some (3 + 2 + 3 * (a i).1))))]
    have b5 := obR (WOr w).2.2.2.1
    have b6 := obR (WOr w).2.2.2.2.1
    have b7 := obR (WOr w).2.2.2.2.2.1
    have b8 := obR (WOr w).2.2.2.2.2.2.1
    have l3 := (WLd w hL3).1
    rw [X223_2]
    simp (disch := omega) only [↓cd_d, ↓irem_eq_mod, ↓ob_setI, ↓ob_chI, ↓ob_some, bI_some, bV_some, bR_some, bL_some, ob_some, cd_t, cd_f, okO_setI, okA_setI, okL_setI, aLen_setI, hR_setI, hI_setI, Bool.true_and, Bool.and_true, Bool.and_self, Option.isNone_some, Option.isSome_some, Option.isNone_none, Option.isSome_none, okO_chI, okA_chI, okL_chI, aLen_chI, hR_chI, ↓reduceIte, not_true_eq_false, not_false_eq_true, eq_self, c10, Nat.zero_add, nI_add, litA, litB, litM, nI_mul, nI_leI, nI_ltI, nI_eq, litLe, litLe2, litLt, litLt2, litEq, litEq2, in_nI, lit_in, nI_clamp, lit_cl, if_pos, if_neg, WOr w, v9, X223_6]
    rw [X223_9]
    simp (disch := omega) only [↓cd_d, ↓irem_eq_mod, ↓ob_setI, ↓ob_chI, ↓ob_some, bI_some, bV_some, bR_some, bL_some, ob_some, cd_t, cd_f, okO_setI, okA_setI, okL_setI, aLen_setI, hR_setI, hI_setI, Bool.true_and, Bool.and_true, Bool.and_self, Option.isNone_some, Option.isSome_some, Option.isNone_none, Option.isSome_none, okO_chI, okA_chI, okL_chI, aLen_chI, hR_chI, ↓reduceIte, not_true_eq_false, not_false_eq_true, eq_self, c10, Nat.zero_add, nI_add, litA, litB, litM, nI_mul, nI_leI, nI_ltI, nI_eq, litLe, litLe2, litLt, litLt2, litEq, litEq2, in_nI, lit_in, nI_clamp, lit_cl, if_pos, if_neg, WOr w, ↓b5, a1, l3, c181]
    rw [X223_16]
    simp only [bI_some, bV_some, bR_some, bL_some, ob_some, cd_t, cd_f, cd_d, okO_setI, okA_setI, okL_setI, aLen_setI, hR_setI, hI_setI, Bool.true_and, Bool.and_true, Bool.and_self, Option.isNone_some, Option.isSome_some, Option.isNone_none, Option.isSome_none, okO_chI, okA_chI, okL_chI, aLen_chI, hR_chI, ↓reduceIte, not_true_eq_false, not_false_eq_true, eq_self, c10]
    rw [X223_18]
    simp (disch := omega) only [↓cd_d, ↓irem_eq_mod, ↓ob_setI, ↓ob_chI, ↓ob_some, bI_some, bV_some, bR_some, bL_some, ob_some, cd_t, cd_f, okO_setI, okA_setI, okL_setI, aLen_setI, hR_setI, hI_setI, Bool.true_and, Bool.and_true, Bool.and_self, Option.isNone_some, Option.isSome_some, Option.isNone_none, Option.isSome_none, okO_chI, okA_chI, okL_chI, aLen_chI, hR_chI, ↓reduceIte, not_true_eq_false, not_false_eq_true, eq_self, c10, Nat.zero_add, nI_add, litA, litB, litM, nI_mul, nI_leI, nI_ltI, nI_eq, litLe, litLe2, litLt, litLt2, litEq, litEq2, in_nI, lit_in, nI_clamp, lit_cl, if_pos, if_neg, WOr w, ↓b6, ↓b7, ↓b8, a2, a3, a4, e1, X223_32, X223_33]
theorem ordT_ok (t : Nat → Nat) (L : Nat) (F : Nat → Nat) : ∀ f p n a, p ≤ L → (∀ i, i < n → lOk F (a i)) → (∀ e, ordT t L F f p n a = Sum.inl e → 0 < e.1 ∧ e.1 < 10 ∧ e.2 ≤ L) ∧ (∀ q, ordT t L F f p n a = Sum.inr q → ∀ i, i < q.1 → lOk F (q.2 i))
  | 0, p, n, a, hp, _ => ⟨fun e he => by
      have : (1, p) = e := by simpa [ordT] using he
      subst this
      exact ⟨by show 0 < 1; omega, by show 1 < 10; omega, hp⟩, fun q hq => by simp [ordT] at hq⟩
  | f + 1, p, n, a, hp, ha => by
    have ee : ordT t L F (f + 1) p n a = (match lnT t L F p n with
      | .inl e => Sum.inl e
      | .inr q => aft t L (ordT t L F f) q.1 (n + 1) (upl a n q.2)) := rfl
    rw [ee]
    rcases lnT_ok t L F p n hp with ⟨e, he, e1, e2, e3⟩ | ⟨q, hq, z1, z2, z3, z4⟩
    · rw [he]
      refine ⟨fun e' h' => ?_, fun q hq => ?_⟩
      · have : e = e' := by simpa using h'
        subst this
        exact ⟨e1, e2, e3⟩
      · exact absurd hq (by simp)
    · rw [hq]
      have ha' : ∀ i, i < n + 1 → lOk F (upl a n q.2 i) := fun i hi => by
        show lOk F (if i = n then q.2 else a i)
        split
        · exact z4
        · exact ha i (by omega)
      show (∀ e, aft t L (ordT t L F f) q.1 (n + 1) (upl a n q.2) = Sum.inl e → _) ∧ (∀ q', aft t L (ordT t L F f) q.1 (n + 1) (upl a n q.2) = Sum.inr q' → _)
      unfold aft
      by_cases c : q.1 < L
      · rw [if_pos c]
        by_cases c2 : t q.1 = 59
        · rw [if_pos c2]
          exact ordT_ok t L F f (q.1 + 1) (n + 1) (upl a n q.2) (by omega) ha'
        · rw [if_neg c2]
          refine ⟨fun e h' => ?_, fun q' h' => absurd h' (by simp)⟩
          have : (1, q.1) = e := by simpa using h'
          subst this
          exact ⟨by show 0 < 1; omega, by show 1 < 10; omega, z3⟩
      · rw [if_neg c]
        refine ⟨fun e h' => absurd h' (by simp), fun q' h' => ?_⟩
        have : (n + 1, upl a n q.2) = q' := by simpa using h'
        subst this
        exact ha'
