/-! literals and small numbers -/
theorem litA (n k : Nat) : (no_index (@OfNat.ofNat Int32 n Int32.instOfNat)) + nI k = nI (@OfNat.ofNat Nat n (instOfNatNat n) + k) := nI_add n k
theorem litB (n k : Nat) : nI k + (no_index (@OfNat.ofNat Int32 n Int32.instOfNat)) = nI (k + @OfNat.ofNat Nat n (instOfNatNat n)) := nI_add k n
theorem nI_mul (n k : Nat) : nI n * nI k = nI (n * k) := (Int32.ofNat_mul n k).symm
theorem litM (n k : Nat) : (no_index (@OfNat.ofNat Int32 n Int32.instOfNat)) * nI k = nI (@OfNat.ofNat Nat n (instOfNatNat n) * k) := nI_mul n k
theorem litLe {n k : Nat} (hn : @OfNat.ofNat Nat n (instOfNatNat n) < 2 ^ 31) (hk : k < 2 ^ 31) : (no_index (@OfNat.ofNat Int32 n Int32.instOfNat)) ≤ nI k ↔ @OfNat.ofNat Nat n (instOfNatNat n) ≤ k := nI_leI hn hk
theorem litLe2 {n k : Nat} (hn : @OfNat.ofNat Nat n (instOfNatNat n) < 2 ^ 31) (hk : k < 2 ^ 31) : nI k ≤ (no_index (@OfNat.ofNat Int32 n Int32.instOfNat)) ↔ k ≤ @OfNat.ofNat Nat n (instOfNatNat n) := nI_leI hk hn
theorem litLt {n k : Nat} (hn : @OfNat.ofNat Nat n (instOfNatNat n) < 2 ^ 31) (hk : k < 2 ^ 31) : (no_index (@OfNat.ofNat Int32 n Int32.instOfNat)) < nI k ↔ @OfNat.ofNat Nat n (instOfNatNat n) < k := nI_ltI hn hk
theorem litLt2 {n k : Nat} (hn : @OfNat.ofNat Nat n (instOfNatNat n) < 2 ^ 31) (hk : k < 2 ^ 31) : nI k < (no_index (@OfNat.ofNat Int32 n Int32.instOfNat)) ↔ k < @OfNat.ofNat Nat n (instOfNatNat n) := nI_ltI hk hn
theorem litEq {n k : Nat} (hn : @OfNat.ofNat Nat n (instOfNatNat n) < 2 ^ 31) (hk : k < 2 ^ 31) : (no_index (@OfNat.ofNat Int32 n Int32.instOfNat)) = nI k ↔ @OfNat.ofNat Nat n (instOfNatNat n) = k := nI_eq hn hk
theorem litEq2 {n k : Nat} (hn : @OfNat.ofNat Nat n (instOfNatNat n) < 2 ^ 31) (hk : k < 2 ^ 31) : nI k = (no_index (@OfNat.ofNat Int32 n Int32.instOfNat)) ↔ k = @OfNat.ofNat Nat n (instOfNatNat n) := nI_eq hk hn
theorem lit_in {n m : Nat} (h : @OfNat.ofNat Nat n (instOfNatNat n) < m) (hm : m < 2 ^ 31) : rz_in (no_index (@OfNat.ofNat Int32 n Int32.instOfNat)) m = true := in_nI (i := n) h hm
theorem lit_cl {n : Nat} (h : @OfNat.ofNat Nat n (instOfNatNat n) < 2 ^ 31) : (no_index (@OfNat.ofNat Int32 n Int32.instOfNat)).toNatClampNeg = @OfNat.ofNat Nat n (instOfNatNat n) := nI_clamp h
theorem lp_it {σ ρ : Type} (P : Nat → σ → ρ) (f : Nat → σ → σ) : ∀ (n m : Nat) (s : σ), (∀ i s, m ≤ i → i < m + n → P i s = P (i + 1) (f i s)) → P m s = P (m + n) (itr f m n s)
  | 0, _, _, _ => rfl
  | n + 1, m, s, hs => by
    rw [hs m s (by omega) (by omega), lp_it P f n (m + 1) (f m s) (fun i s h1 h2 => hs i s (by omega) (by omega))]
    show P (m + 1 + n) (itr f (m + 1) n (f m s)) = P (m + (n + 1)) (itr f (m + 1) n (f m s))
    rw [show m + 1 + n = m + (n + 1) by omega]
/-! one drum, all of it, on both sides -/
def Dv (h : rz_H) (a k F p t v s q : Nat) (g e : Nat → Nat) : Prop := isD a ∧ k < 8 ∧ F ≤ 16 ∧ t ≤ 999 ∧ s ≤ 15 ∧ q ≤ 1 ∧ (F = 0 → p = 0 ∧ t = 0 ∧ v = 0 ∧ s = 0 ∧ q = 0) ∧ (0 < F → p < F ∧ v < F) ∧ hI h a 2 = nI F ∧ hI h a 3 = nI p ∧ hI h a 4 = nI t ∧ hI h a 5 = nI v ∧ hI h a 6 = nI s ∧ hI h a 7 = nI q ∧ hI h 110 (256 + k) = nI F ∧ hI h 110 (264 + k) = nI p ∧ hI h 110 (272 + k) = nI t ∧ hI h 110 (280 + k) = nI v ∧ hI h 110 (288 + k) = nI s ∧ hI h 110 (296 + k) = nI q ∧ ∀ i, i < F → g i ≤ 16 ∧ e i ≤ 99 ∧ hI h (a + 1) i = nI (g i) ∧ hI h 110 (16 * k + i) = nI (g i) ∧ hI h (a + 2) i = nI (e i) ∧ hI h 110 (128 + 16 * k + i) = nI (e i)
theorem nI_self {x : Int32} {c : Nat} (hc : c < 2 ^ 31) (e : x = nI c) : x = nI x.toNatClampNeg ∧ x.toNatClampNeg = c := by
  rw [e, nI_clamp hc]
  exact ⟨rfl, rfl⟩
theorem mkDv {h : rz_H} {A : Nat} (hA : isL A) (r1 : LaOk h A) (r2 : LaRel h A 110) {k : Nat} (hk : k < 8) : ∃ F p t v s q g e, Dv h (A + 2 + 3 * k) k F p t v s q g e := by
  obtain ⟨F, p, t, v, s, q, f1, f2, f3, f4, f5, f6, f7, f8, f9, f10, f11, f12, f13⟩ := r1.1 k hk
  obtain ⟨a1, a2, a3, a4, a5, a6, a7⟩ := r2.1 k hk
  have hd : isD (A + 2 + 3 * k) := by
    rcases hA with rfl | rfl | rfl
    · exact ⟨5, k, Or.inl rfl, hk, rfl⟩
    · exact ⟨31, k, Or.inr (Or.inl rfl), hk, rfl⟩
    · exact ⟨57, k, Or.inr (Or.inr rfl), hk, rfl⟩
  refine ⟨F, p, t, v, s, q, fun i => (hI h (A + 2 + 3 * k + 1) i).toNatClampNeg, fun i => (hI h (A + 2 + 3 * k + 2) i).toNatClampNeg, hd, hk, f7, f8, f9, f10, f11, f12, f1, f2, f3, f4, f5, f6, a1.symm.trans f1, a2.symm.trans f2, a3.symm.trans f3, a4.symm.trans f4, a5.symm.trans f5, a6.symm.trans f6, fun i hi => ?_⟩
  obtain ⟨c, e, c1, c2, c3, c4⟩ := f13 i hi
  obtain ⟨b1, b2⟩ := a7 i (by omega) (by rw [f1]; exact nI_lt hi (by omega))
  obtain ⟨x1, x2⟩ := nI_self (by omega) c1
  obtain ⟨y1, y2⟩ := nI_self (by omega) c3
  exact ⟨Nat.le_trans (Nat.le_of_eq x2) c2, Nat.le_trans (Nat.le_of_eq y2) c4, x1, b1.symm.trans x1, y1, b2.symm.trans y1⟩
theorem Dv.dq {h : rz_H} {k F p t v s q : Nat} {g e : Nat → Nat} (D : Dv h (5 + 3 * k) k F p t v s q g e) (h0 : 0 < F) : Dq h k F g := by
  obtain ⟨d1, d2, d3, d4, d5, d6, d7, d8, d9, d10, d11, d12, d13, d14, d15, d16, d17, d18, d19, d20, d21⟩ := D
  exact ⟨d2, h0, d3, fun i hi => (d21 i hi).1, d9, d15, fun i hi => (d21 i hi).2.2.1, fun i hi => (d21 i hi).2.2.2.1⟩
/-- what shows of a frame; how many show nothing -/
def shw (g e : Nat → Nat) (i : Nat) : Nat := if e i < 99 then g i else 16
def gps (F : Nat) (g e : Nat → Nat) : Nat := itr (fun i c => if shw g e i = 16 then c + 1 else c) 0 F 0
theorem V146 {rb dr : Nat} {jd : Option Nat} {h : rz_H} (w : Wf rb dr jd h) {a k F p t v s q : Nat} {g e : Nat → Nat} (D : Dv h a k F p t v s q g e) (h0 : 0 < F) (d : Nat) : cW (d + 1) 146 [rz_r (some a)] h = some (rz_i (nI (shw g e p)), h) := by
  obtain ⟨d1, d2, d3, d4, d5, d6, d7, d8, d9, d10, d11, d12, d13, d14, d15, d16, d17, d18, d19, d20, d21⟩ := D
  obtain ⟨hp, hv⟩ := d8 h0
  obtain ⟨b1, b2, b3, b4, b5, b6⟩ := d21 p hp
  rw [E146]
  unfold shw
  by_cases hc : e p < 99
  · simp (disch := omega) only [bI_some, bV_some, bR_some, bL_some, ob_some, cd_t, cd_f, cd_d, okO_setI, okA_setI, okL_setI, aLen_setI, hR_setI, hI_setI, Bool.true_and, Bool.and_true, Bool.and_self, Option.isNone_some, Option.isSome_some, Option.isNone_none, Option.isSome_none, okO_chI, okA_chI, okL_chI, aLen_chI, hR_chI, ↓reduceIte, not_true_eq_false, not_false_eq_true, eq_self, c10, Nat.zero_add, nI_add, litA, litB, litM, nI_mul, nI_leI, nI_ltI, nI_eq, litLe, litLe2, litLt, litLt2, litEq, litEq2, in_nI, lit_in, nI_clamp, lit_cl, if_pos, if_neg, WD w d1, d10, b3, b5, b2]
  · simp (disch := omega) only [bI_some, bV_some, bR_some, bL_some, ob_some, cd_t, cd_f, cd_d, okO_setI, okA_setI, okL_setI, aLen_setI, hR_setI, hI_setI, Bool.true_and, Bool.and_true, Bool.and_self, Option.isNone_some, Option.isSome_some, Option.isNone_none, Option.isSome_none, okO_chI, okA_chI, okL_chI, aLen_chI, hR_chI, ↓reduceIte, not_true_eq_false, not_false_eq_true, eq_self, c10, Nat.zero_add, nI_add, litA, litB, litM, nI_mul, nI_leI, nI_ltI, nI_eq, litLe, litLe2, litLt, litLt2, litEq, litEq2, in_nI, lit_in, nI_clamp, lit_cl, if_pos, if_neg, WD w d1, d10, b3, b5, b2]
    rfl
theorem V43 {rb dr : Nat} {jd : Option Nat} {h : rz_H} (w : Wf rb dr jd h) {a k F p t v s q : Nat} {g e : Nat → Nat} (D : Dv h a k F p t v s q g e) {i : Nat} (hi : i < F) (d : Nat) : cW (d + 1) 43 [rz_r (some 109), rz_i (nI k), rz_i (nI i)] h = some (rz_i (nI (shw g e i)), h) := by
  obtain ⟨d1, d2, d3, d4, d5, d6, d7, d8, d9, d10, d11, d12, d13, d14, d15, d16, d17, d18, d19, d20, d21⟩ := D
  obtain ⟨b1, b2, b3, b4, b5, b6⟩ := d21 i hi
  rw [E43]
  unfold shw
  by_cases hc : e i < 99
  · simp (disch := omega) only [bI_some, bV_some, bR_some, bL_some, ob_some, cd_t, cd_f, cd_d, okO_setI, okA_setI, okL_setI, aLen_setI, hR_setI, hI_setI, Bool.true_and, Bool.and_true, Bool.and_self, Option.isNone_some, Option.isSome_some, Option.isNone_none, Option.isSome_none, okO_chI, okA_chI, okL_chI, aLen_chI, hR_chI, ↓reduceIte, not_true_eq_false, not_false_eq_true, eq_self, c10, Nat.zero_add, nI_add, litA, litB, litM, nI_mul, nI_leI, nI_ltI, nI_eq, litLe, litLe2, litLt, litLt2, litEq, litEq2, in_nI, lit_in, nI_clamp, lit_cl, if_pos, if_neg, WMd w, b4, b6, b2, Int32.zero_add]
  · simp (disch := omega) only [bI_some, bV_some, bR_some, bL_some, ob_some, cd_t, cd_f, cd_d, okO_setI, okA_setI, okL_setI, aLen_setI, hR_setI, hI_setI, Bool.true_and, Bool.and_true, Bool.and_self, Option.isNone_some, Option.isSome_some, Option.isNone_none, Option.isSome_none, okO_chI, okA_chI, okL_chI, aLen_chI, hR_chI, ↓reduceIte, not_true_eq_false, not_false_eq_true, eq_self, c10, Nat.zero_add, nI_add, litA, litB, litM, nI_mul, nI_leI, nI_ltI, nI_eq, litLe, litLe2, litLt, litLt2, litEq, litEq2, in_nI, lit_in, nI_clamp, lit_cl, if_pos, if_neg, WMd w, b4, b6, b2, Int32.zero_add]
    rfl
theorem lp_i0 {σ ρ : Type} (P : Nat → σ → ρ) (f : Nat → σ → σ) (n : Nat) (s : σ) (hs : ∀ i s, i < n → P i s = P (i + 1) (f i s)) : P 0 s = P n (itr f 0 n s) := by
  have := lp_it P f n 0 s (fun i s _ h => hs i s (by omega))
  rw [Nat.zero_add] at this
  exact this
theorem V147 {rb dr : Nat} {jd : Option Nat} {h : rz_H} (w : Wf rb dr jd h) {a k F p t v s q : Nat} {g e : Nat → Nat} (D : Dv h a k F p t v s q g e) (d : Nat) : cW (d + 1) 147 [rz_r (some a)] h = some (rz_i (nI (gps F g e)), h) := by
  obtain ⟨d1, d2, d3, d4, d5, d6, d7, d8, d9, d10, d11, d12, d13, d14, d15, d16, d17, d18, d19, d20, d21⟩ := D
  rw [E147]
  refine Eq.trans (lp_i0 (fun i c => rW d 147 (4, (0, 0), [some (rz_r (some a)), some (rz_i (nI c)), some (rz_i (nI i))], [], h)) (fun i c => if shw g e i = 16 then c + 1 else c) F 0 (fun i c hi => ?_)) ?_
  · obtain ⟨b1, b2, b3, b4, b5, b6⟩ := d21 i hi
    rw [E147_4]
    unfold shw
    by_cases hc : e i < 99 <;> by_cases hg : g i = 16 <;> simp (disch := omega) only [bI_some, bV_some, bR_some, bL_some, ob_some, cd_t, cd_f, cd_d, okO_setI, okA_setI, okL_setI, aLen_setI, hR_setI, hI_setI, Bool.true_and, Bool.and_true, Bool.and_self, Option.isNone_some, Option.isSome_some, Option.isNone_none, Option.isSome_none, okO_chI, okA_chI, okL_chI, aLen_chI, hR_chI, ↓reduceIte, not_true_eq_false, not_false_eq_true, eq_self, c10, Nat.zero_add, nI_add, litA, litB, litM, nI_mul, nI_leI, nI_ltI, nI_eq, litLe, litLe2, litLt, litLt2, litEq, litEq2, in_nI, lit_in, nI_clamp, lit_cl, if_pos, if_neg, WD w d1, d9, b3, b5, hc, hg]
  · skip
    rw [E147_4]
    simp (disch := omega) only [bI_some, bV_some, bR_some, bL_some, ob_some, cd_t, cd_f, cd_d, okO_setI, okA_setI, okL_setI, aLen_setI, hR_setI, hI_setI, Bool.true_and, Bool.and_true, Bool.and_self, Option.isNone_some, Option.isSome_some, Option.isNone_none, Option.isSome_none, okO_chI, okA_chI, okL_chI, aLen_chI, hR_chI, ↓reduceIte, not_true_eq_false, not_false_eq_true, eq_self, c10, Nat.zero_add, nI_add, litA, litB, litM, nI_mul, nI_leI, nI_ltI, nI_eq, litLe, litLe2, litLt, litLt2, litEq, litEq2, in_nI, lit_in, nI_clamp, lit_cl, if_pos, if_neg, WD w d1, d9]
    rfl
theorem V41 {rb dr : Nat} {jd : Option Nat} {h : rz_H} (w : Wf rb dr jd h) {a k F p t v s q : Nat} {g e : Nat → Nat} (D : Dv h a k F p t v s q g e) (d : Nat) : cW (d + 1) 41 [rz_r (some 109), rz_i (nI k)] h = some (rz_i (nI F), h) := by
  obtain ⟨d1, d2, d3, d4, d5, d6, d7, d8, d9, d10, d11, d12, d13, d14, d15, d16, d17, d18, d19, d20, d21⟩ := D
  rw [E41]
  simp (disch := omega) only [bI_some, bV_some, bR_some, bL_some, ob_some, cd_t, cd_f, cd_d, okO_setI, okA_setI, okL_setI, aLen_setI, hR_setI, hI_setI, Bool.true_and, Bool.and_true, Bool.and_self, Option.isNone_some, Option.isSome_some, Option.isNone_none, Option.isSome_none, okO_chI, okA_chI, okL_chI, aLen_chI, hR_chI, ↓reduceIte, not_true_eq_false, not_false_eq_true, eq_self, c10, Nat.zero_add, nI_add, litA, litB, litM, nI_mul, nI_leI, nI_ltI, nI_eq, litLe, litLe2, litLt, litLt2, litEq, litEq2, in_nI, lit_in, nI_clamp, lit_cl, if_pos, if_neg, WMd w, d15]
theorem V44 {rb dr : Nat} {jd : Option Nat} {h : rz_H} (w : Wf rb dr jd h) {a k F p t v s q : Nat} {g e : Nat → Nat} (D : Dv h a k F p t v s q g e) (d : Nat) : cW (d + 2) 44 [rz_r (some 109), rz_i (nI k)] h = some (rz_i (nI (gps F g e)), h) := by
  rw [E44]
  refine Eq.trans (lp_i0 (fun i c => rW (d + 1) 44 (4, (0, 0), [some (rz_r (some 109)), some (rz_i (nI k)), some (rz_i (nI c)), some (rz_i (nI i))], [], h)) (fun i c => if shw g e i = 16 then c + 1 else c) F 0 (fun i c hi => ?_)) ?_
  · have v43 := V43 w D hi
    have v41 := V41 w D
    obtain ⟨d1, d2, d3, d4, d5, d6, d7, d8, d9, d10, d11, d12, d13, d14, d15, d16, d17, d18, d19, d20, d21⟩ := D
    obtain ⟨b1, b2, b3, b4, b5, b6⟩ := d21 i hi
    have hs : shw g e i ≤ 16 := by unfold shw; split <;> omega
    rw [E44_4]
    by_cases hg : shw g e i = 16 <;> simp (disch := omega) only [bI_some, bV_some, bR_some, bL_some, ob_some, cd_t, cd_f, cd_d, okO_setI, okA_setI, okL_setI, aLen_setI, hR_setI, hI_setI, Bool.true_and, Bool.and_true, Bool.and_self, Option.isNone_some, Option.isSome_some, Option.isNone_none, Option.isSome_none, okO_chI, okA_chI, okL_chI, aLen_chI, hR_chI, ↓reduceIte, not_true_eq_false, not_false_eq_true, eq_self, c10, Nat.zero_add, nI_add, litA, litB, litM, nI_mul, nI_leI, nI_ltI, nI_eq, litLe, litLe2, litLt, litLt2, litEq, litEq2, in_nI, lit_in, nI_clamp, lit_cl, if_pos, if_neg, WMd w, v41, v43, hg]
  · skip
    rw [E44_4]
    have hF := D.2.2.1
    simp (disch := omega) only [bI_some, bV_some, bR_some, bL_some, ob_some, cd_t, cd_f, cd_d, okO_setI, okA_setI, okL_setI, aLen_setI, hR_setI, hI_setI, Bool.true_and, Bool.and_true, Bool.and_self, Option.isNone_some, Option.isSome_some, Option.isNone_none, Option.isSome_none, okO_chI, okA_chI, okL_chI, aLen_chI, hR_chI, ↓reduceIte, not_true_eq_false, not_false_eq_true, eq_self, c10, Nat.zero_add, nI_add, litA, litB, litM, nI_mul, nI_leI, nI_ltI, nI_eq, litLe, litLe2, litLt, litLt2, litEq, litEq2, in_nI, lit_in, nI_clamp, lit_cl, if_pos, if_neg, WMd w, V41 w D]
    rfl
theorem V145 {rb dr : Nat} {jd : Option Nat} {h : rz_H} (w : Wf rb dr jd h) {a k F p t v s q : Nat} {g e : Nat → Nat} (D : Dv h a k F p t v s q g e) {i : Nat} (hi : i < F) (d : Nat) : cW (d + 1) 145 [rz_r (some a), rz_i (nI i)] h = some (rz_i (nI (e i)), h) := by
  obtain ⟨d1, d2, d3, d4, d5, d6, d7, d8, d9, d10, d11, d12, d13, d14, d15, d16, d17, d18, d19, d20, d21⟩ := D
  obtain ⟨b1, b2, b3, b4, b5, b6⟩ := d21 i hi
  rw [E145]
  simp (disch := omega) only [bI_some, bV_some, bR_some, bL_some, ob_some, cd_t, cd_f, cd_d, okO_setI, okA_setI, okL_setI, aLen_setI, hR_setI, hI_setI, Bool.true_and, Bool.and_true, Bool.and_self, Option.isNone_some, Option.isSome_some, Option.isNone_none, Option.isSome_none, okO_chI, okA_chI, okL_chI, aLen_chI, hR_chI, ↓reduceIte, not_true_eq_false, not_false_eq_true, eq_self, c10, Nat.zero_add, nI_add, litA, litB, litM, nI_mul, nI_leI, nI_ltI, nI_eq, litLe, litLe2, litLt, litLt2, litEq, litEq2, in_nI, lit_in, nI_clamp, lit_cl, if_pos, if_neg, WD w d1, d9, b5]
theorem Gp_nI {F : Nat} {g : Nat → Nat} {i : Nat} (hi : i < 2 ^ 31) : Gp F g (nI i) = nI (g (i % F)) := by
  unfold Gp
  rw [nI_toInt hi, ← Int.natCast_emod, Int.toNat_natCast]
/-- a drum is told or not, with all of it -/
theorem tlv {h : rz_H} (r1 : LaOk h 3) (r2 : LaRel h 3 110) (x : Int32) : (∃ k F p t v s q g e, x = nI k ∧ 0 < F ∧ Dv h (5 + 3 * k) k F p t v s q g e) ∨ Dn h x := by
  rcases tld r1 r2 x with ⟨k, F, g, e, q⟩ | n
  · obtain ⟨F2, p, t, v, s, q2, g2, e2, D⟩ := mkDv (Or.inl rfl : isL 3) r1 r2 q.1
    rw [show 3 + 2 + 3 * k = 5 + 3 * k by omega] at D
    refine Or.inl ⟨k, F2, p, t, v, s, q2, g2, e2, e, ?_, D⟩
    have h1 := q.2.2.2.2.1
    have h2 : hI h (5 + 3 * k) 2 = nI F2 := D.2.2.2.2.2.2.2.2.1
    have h3 := q.2.1
    have h4 := q.2.2.1
    have h5 : F2 ≤ 16 := D.2.2.1
    rw [h2] at h1
    have := (nI_eq (by omega) (by omega)).mp h1
    omega
  · exact Or.inr n
theorem P7 (x y : Int32) : Pr Rel 7 92 [rz_i x, rz_i y] := by
  intro h r
  obtain ⟨rb, dr, jd, w, r1, r2, r3, r4, r5⟩ := id r
  rcases tlv r1 r2 x with ⟨k, F, p, t, v, s, q, g, e, rfl, h0, D⟩ | n
  · have v146 := V146 w D h0
    have v147 := V147 w D
    have v44 := V44 w D
    have dq := D.dq h0
    obtain ⟨hp, -⟩ := D.2.2.2.2.2.2.2.1 h0
    have v43 := V43 w D hp
    obtain ⟨d1, d2, d3, d4, d5, d6, d7, d8, d9, d10, d11, d12, d13, d14, d15, d16, d17, d18, d19, d20, d21⟩ := D
    have key : ∀ u, cW 100 7 [rz_r (some 0), rz_i (nI k), rz_i y] h = some (rz_i u, h) → cW 100 92 [rz_r (some 109), rz_i (nI k), rz_i y] h = some (rz_i u, h) → ∃ v h1 h2, cW DD 7 [rz_r (some 0), rz_i (nI k), rz_i y] h = some (rz_i v, h1) ∧ cW DD 92 [rz_r (some 109), rz_i (nI k), rz_i y] h1 = some (rz_i v, h2) ∧ okO h1 109 [10] = true ∧ Rel h2 := fun u e1 e2 => ⟨u, h, h, e1, e2, (WMd w).1, r⟩
    have h01 : hI h (5 + 3 * k) 7 = 0 ∨ hI h (5 + 3 * k) 7 = 1 := by
      rw [d14]
      rcases (show q = 0 ∨ q = 1 by omega) with rfl | rfl
      · exact Or.inl rfl
      · exact Or.inr rfl
    have t1 : ∀ z, cW 100 7 [rz_r (some 0), rz_i (nI k), rz_i y] h = z → cW 100 92 [rz_r (some 109), rz_i (nI k), rz_i y] h = z → z = z := fun _ _ _ => rfl
    by_cases y0 : y = Int32.ofNat 0
    · refine key (nI F) ?_ ?_
      · rw [E7]; simp (disch := omega) only [bI_some, bV_some, bR_some, bL_some, ob_some, cd_t, cd_f, cd_d, okO_setI, okA_setI, okL_setI, aLen_setI, hR_setI, hI_setI, Bool.true_and, Bool.and_true, Bool.and_self, Option.isNone_some, Option.isSome_some, Option.isNone_none, Option.isSome_none, okO_chI, okA_chI, okL_chI, aLen_chI, hR_chI, ↓reduceIte, not_true_eq_false, not_false_eq_true, eq_self, c10, Nat.zero_add, nI_add, litA, litB, litM, nI_mul, nI_leI, nI_ltI, nI_eq, litLe, litLe2, litLt, litLt2, litEq, litEq2, in_nI, lit_in, nI_clamp, lit_cl, if_pos, if_neg, WRt w, Q181 w dq, WD w d1, S136 w d1, d9, y0]
      · rw [E92]; simp (disch := omega) only [bI_some, bV_some, bR_some, bL_some, ob_some, cd_t, cd_f, cd_d, okO_setI, okA_setI, okL_setI, aLen_setI, hR_setI, hI_setI, Bool.true_and, Bool.and_true, Bool.and_self, Option.isNone_some, Option.isSome_some, Option.isNone_none, Option.isSome_none, okO_chI, okA_chI, okL_chI, aLen_chI, hR_chI, ↓reduceIte, not_true_eq_false, not_false_eq_true, eq_self, c10, Nat.zero_add, nI_add, litA, litB, litM, nI_mul, nI_leI, nI_ltI, nI_eq, litLe, litLe2, litLt, litLt2, litEq, litEq2, in_nI, lit_in, nI_clamp, lit_cl, if_pos, if_neg, Q39 w dq, WMd w, Q41 w dq, y0]
    by_cases y1 : y = Int32.ofNat 1
    · refine key (nI p) ?_ ?_
      · rw [E7]; simp (disch := omega) only [bI_some, bV_some, bR_some, bL_some, ob_some, cd_t, cd_f, cd_d, okO_setI, okA_setI, okL_setI, aLen_setI, hR_setI, hI_setI, Bool.true_and, Bool.and_true, Bool.and_self, Option.isNone_some, Option.isSome_some, Option.isNone_none, Option.isSome_none, okO_chI, okA_chI, okL_chI, aLen_chI, hR_chI, ↓reduceIte, not_true_eq_false, not_false_eq_true, eq_self, c10, Nat.zero_add, nI_add, litA, litB, litM, nI_mul, nI_leI, nI_ltI, nI_eq, litLe, litLe2, litLt, litLt2, litEq, litEq2, in_nI, lit_in, nI_clamp, lit_cl, if_pos, if_neg, WRt w, Q181 w dq, WD w d1, S137 w d1, d10, y1, if_neg (show ¬ Int32.ofNat 1 = Int32.ofNat 0 by decide)]
      · rw [E92]; simp (disch := omega) only [bI_some, bV_some, bR_some, bL_some, ob_some, cd_t, cd_f, cd_d, okO_setI, okA_setI, okL_setI, aLen_setI, hR_setI, hI_setI, Bool.true_and, Bool.and_true, Bool.and_self, Option.isNone_some, Option.isSome_some, Option.isNone_none, Option.isSome_none, okO_chI, okA_chI, okL_chI, aLen_chI, hR_chI, ↓reduceIte, not_true_eq_false, not_false_eq_true, eq_self, c10, Nat.zero_add, nI_add, litA, litB, litM, nI_mul, nI_leI, nI_ltI, nI_eq, litLe, litLe2, litLt, litLt2, litEq, litEq2, in_nI, lit_in, nI_clamp, lit_cl, if_pos, if_neg, Q39 w dq, WMd w, d16, y1, if_neg (show ¬ Int32.ofNat 1 = Int32.ofNat 0 by decide)]
    by_cases y2 : y = Int32.ofNat 2
    · refine key (nI t) ?_ ?_
      · rw [E7]; simp (disch := omega) only [bI_some, bV_some, bR_some, bL_some, ob_some, cd_t, cd_f, cd_d, okO_setI, okA_setI, okL_setI, aLen_setI, hR_setI, hI_setI, Bool.true_and, Bool.and_true, Bool.and_self, Option.isNone_some, Option.isSome_some, Option.isNone_none, Option.isSome_none, okO_chI, okA_chI, okL_chI, aLen_chI, hR_chI, ↓reduceIte, not_true_eq_false, not_false_eq_true, eq_self, c10, Nat.zero_add, nI_add, litA, litB, litM, nI_mul, nI_leI, nI_ltI, nI_eq, litLe, litLe2, litLt, litLt2, litEq, litEq2, in_nI, lit_in, nI_clamp, lit_cl, if_pos, if_neg, WRt w, Q181 w dq, WD w d1, S138 w d1, d11, if_neg y0, if_neg y1, if_pos y2]
      · rw [E92]; simp (disch := omega) only [bI_some, bV_some, bR_some, bL_some, ob_some, cd_t, cd_f, cd_d, okO_setI, okA_setI, okL_setI, aLen_setI, hR_setI, hI_setI, Bool.true_and, Bool.and_true, Bool.and_self, Option.isNone_some, Option.isSome_some, Option.isNone_none, Option.isSome_none, okO_chI, okA_chI, okL_chI, aLen_chI, hR_chI, ↓reduceIte, not_true_eq_false, not_false_eq_true, eq_self, c10, Nat.zero_add, nI_add, litA, litB, litM, nI_mul, nI_leI, nI_ltI, nI_eq, litLe, litLe2, litLt, litLt2, litEq, litEq2, in_nI, lit_in, nI_clamp, lit_cl, if_pos, if_neg, Q39 w dq, WMd w, d17, if_neg y0, if_neg y1, if_pos y2]
    by_cases y3 : y = Int32.ofNat 3
    · refine key (nI v) ?_ ?_
      · rw [E7]; simp (disch := omega) only [bI_some, bV_some, bR_some, bL_some, ob_some, cd_t, cd_f, cd_d, okO_setI, okA_setI, okL_setI, aLen_setI, hR_setI, hI_setI, Bool.true_and, Bool.and_true, Bool.and_self, Option.isNone_some, Option.isSome_some, Option.isNone_none, Option.isSome_none, okO_chI, okA_chI, okL_chI, aLen_chI, hR_chI, ↓reduceIte, not_true_eq_false, not_false_eq_true, eq_self, c10, Nat.zero_add, nI_add, litA, litB, litM, nI_mul, nI_leI, nI_ltI, nI_eq, litLe, litLe2, litLt, litLt2, litEq, litEq2, in_nI, lit_in, nI_clamp, lit_cl, if_pos, if_neg, WRt w, Q181 w dq, WD w d1, S139 w d1, d12, if_neg y0, if_neg y1, if_neg y2, if_pos y3]
      · rw [E92]; simp (disch := omega) only [bI_some, bV_some, bR_some, bL_some, ob_some, cd_t, cd_f, cd_d, okO_setI, okA_setI, okL_setI, aLen_setI, hR_setI, hI_setI, Bool.true_and, Bool.and_true, Bool.and_self, Option.isNone_some, Option.isSome_some, Option.isNone_none, Option.isSome_none, okO_chI, okA_chI, okL_chI, aLen_chI, hR_chI, ↓reduceIte, not_true_eq_false, not_false_eq_true, eq_self, c10, Nat.zero_add, nI_add, litA, litB, litM, nI_mul, nI_leI, nI_ltI, nI_eq, litLe, litLe2, litLt, litLt2, litEq, litEq2, in_nI, lit_in, nI_clamp, lit_cl, if_pos, if_neg, Q39 w dq, WMd w, d18, if_neg y0, if_neg y1, if_neg y2, if_pos y3]
    by_cases y4 : y = Int32.ofNat 4
    · refine key (nI s) ?_ ?_
      · rw [E7]; simp (disch := omega) only [bI_some, bV_some, bR_some, bL_some, ob_some, cd_t, cd_f, cd_d, okO_setI, okA_setI, okL_setI, aLen_setI, hR_setI, hI_setI, Bool.true_and, Bool.and_true, Bool.and_self, Option.isNone_some, Option.isSome_some, Option.isNone_none, Option.isSome_none, okO_chI, okA_chI, okL_chI, aLen_chI, hR_chI, ↓reduceIte, not_true_eq_false, not_false_eq_true, eq_self, c10, Nat.zero_add, nI_add, litA, litB, litM, nI_mul, nI_leI, nI_ltI, nI_eq, litLe, litLe2, litLt, litLt2, litEq, litEq2, in_nI, lit_in, nI_clamp, lit_cl, if_pos, if_neg, WRt w, Q181 w dq, WD w d1, S140 w d1, d13, if_neg y0, if_neg y1, if_neg y2, if_neg y3, if_pos y4]
      · rw [E92]; simp (disch := omega) only [bI_some, bV_some, bR_some, bL_some, ob_some, cd_t, cd_f, cd_d, okO_setI, okA_setI, okL_setI, aLen_setI, hR_setI, hI_setI, Bool.true_and, Bool.and_true, Bool.and_self, Option.isNone_some, Option.isSome_some, Option.isNone_none, Option.isSome_none, okO_chI, okA_chI, okL_chI, aLen_chI, hR_chI, ↓reduceIte, not_true_eq_false, not_false_eq_true, eq_self, c10, Nat.zero_add, nI_add, litA, litB, litM, nI_mul, nI_leI, nI_ltI, nI_eq, litLe, litLe2, litLt, litLt2, litEq, litEq2, in_nI, lit_in, nI_clamp, lit_cl, if_pos, if_neg, Q39 w dq, WMd w, d19, if_neg y0, if_neg y1, if_neg y2, if_neg y3, if_pos y4]
    by_cases y5 : y = Int32.ofNat 5
    · refine key (nI q) ?_ ?_
      · rw [E7]; simp (disch := omega) only [bI_some, bV_some, bR_some, bL_some, ob_some, cd_t, cd_f, cd_d, okO_setI, okA_setI, okL_setI, aLen_setI, hR_setI, hI_setI, Bool.true_and, Bool.and_true, Bool.and_self, Option.isNone_some, Option.isSome_some, Option.isNone_none, Option.isSome_none, okO_chI, okA_chI, okL_chI, aLen_chI, hR_chI, ↓reduceIte, not_true_eq_false, not_false_eq_true, eq_self, c10, Nat.zero_add, nI_add, litA, litB, litM, nI_mul, nI_leI, nI_ltI, nI_eq, litLe, litLe2, litLt, litLt2, litEq, litEq2, in_nI, lit_in, nI_clamp, lit_cl, if_pos, if_neg, WRt w, Q181 w dq, WD w d1, S141 w d1 _ h01, d14, if_neg y0, if_neg y1, if_neg y2, if_neg y3, if_neg y4, if_pos y5]
        rcases (show q = 0 ∨ q = 1 by omega) with rfl | rfl <;> rfl
      · rw [E92]; simp (disch := omega) only [bI_some, bV_some, bR_some, bL_some, ob_some, cd_t, cd_f, cd_d, okO_setI, okA_setI, okL_setI, aLen_setI, hR_setI, hI_setI, Bool.true_and, Bool.and_true, Bool.and_self, Option.isNone_some, Option.isSome_some, Option.isNone_none, Option.isSome_none, okO_chI, okA_chI, okL_chI, aLen_chI, hR_chI, ↓reduceIte, not_true_eq_false, not_false_eq_true, eq_self, c10, Nat.zero_add, nI_add, litA, litB, litM, nI_mul, nI_leI, nI_ltI, nI_eq, litLe, litLe2, litLt, litLt2, litEq, litEq2, in_nI, lit_in, nI_clamp, lit_cl, if_pos, if_neg, Q39 w dq, WMd w, d20, if_neg y0, if_neg y1, if_neg y2, if_neg y3, if_neg y4, if_pos y5]
    by_cases y6 : y = Int32.ofNat 6
    · refine key (nI (shw g e p)) ?_ ?_
      · rw [E7]; simp (disch := omega) only [bI_some, bV_some, bR_some, bL_some, ob_some, cd_t, cd_f, cd_d, okO_setI, okA_setI, okL_setI, aLen_setI, hR_setI, hI_setI, Bool.true_and, Bool.and_true, Bool.and_self, Option.isNone_some, Option.isSome_some, Option.isNone_none, Option.isSome_none, okO_chI, okA_chI, okL_chI, aLen_chI, hR_chI, ↓reduceIte, not_true_eq_false, not_false_eq_true, eq_self, c10, Nat.zero_add, nI_add, litA, litB, litM, nI_mul, nI_leI, nI_ltI, nI_eq, litLe, litLe2, litLt, litLt2, litEq, litEq2, in_nI, lit_in, nI_clamp, lit_cl, if_pos, if_neg, WRt w, Q181 w dq, WD w d1, v146, if_neg y0, if_neg y1, if_neg y2, if_neg y3, if_neg y4, if_neg y5, if_pos y6]
      · rw [E92]; simp (disch := omega) only [bI_some, bV_some, bR_some, bL_some, ob_some, cd_t, cd_f, cd_d, okO_setI, okA_setI, okL_setI, aLen_setI, hR_setI, hI_setI, Bool.true_and, Bool.and_true, Bool.and_self, Option.isNone_some, Option.isSome_some, Option.isNone_none, Option.isSome_none, okO_chI, okA_chI, okL_chI, aLen_chI, hR_chI, ↓reduceIte, not_true_eq_false, not_false_eq_true, eq_self, c10, Nat.zero_add, nI_add, litA, litB, litM, nI_mul, nI_leI, nI_ltI, nI_eq, litLe, litLe2, litLt, litLt2, litEq, litEq2, in_nI, lit_in, nI_clamp, lit_cl, if_pos, if_neg, Q39 w dq, WMd w, d16, v43, if_neg y0, if_neg y1, if_neg y2, if_neg y3, if_neg y4, if_neg y5, if_pos y6]
    by_cases y7 : y = Int32.ofNat 7
    · refine key (nI (gps F g e)) ?_ ?_
      · rw [E7]; simp (disch := omega) only [bI_some, bV_some, bR_some, bL_some, ob_some, cd_t, cd_f, cd_d, okO_setI, okA_setI, okL_setI, aLen_setI, hR_setI, hI_setI, Bool.true_and, Bool.and_true, Bool.and_self, Option.isNone_some, Option.isSome_some, Option.isNone_none, Option.isSome_none, okO_chI, okA_chI, okL_chI, aLen_chI, hR_chI, ↓reduceIte, not_true_eq_false, not_false_eq_true, eq_self, c10, Nat.zero_add, nI_add, litA, litB, litM, nI_mul, nI_leI, nI_ltI, nI_eq, litLe, litLe2, litLt, litLt2, litEq, litEq2, in_nI, lit_in, nI_clamp, lit_cl, if_pos, if_neg, WRt w, Q181 w dq, WD w d1, v147, if_neg y0, if_neg y1, if_neg y2, if_neg y3, if_neg y4, if_neg y5, if_neg y6, if_pos y7]
      · rw [E92]; simp (disch := omega) only [bI_some, bV_some, bR_some, bL_some, ob_some, cd_t, cd_f, cd_d, okO_setI, okA_setI, okL_setI, aLen_setI, hR_setI, hI_setI, Bool.true_and, Bool.and_true, Bool.and_self, Option.isNone_some, Option.isSome_some, Option.isNone_none, Option.isSome_none, okO_chI, okA_chI, okL_chI, aLen_chI, hR_chI, ↓reduceIte, not_true_eq_false, not_false_eq_true, eq_self, c10, Nat.zero_add, nI_add, litA, litB, litM, nI_mul, nI_leI, nI_ltI, nI_eq, litLe, litLe2, litLt, litLt2, litEq, litEq2, in_nI, lit_in, nI_clamp, lit_cl, if_pos, if_neg, Q39 w dq, WMd w, v44, if_neg y0, if_neg y1, if_neg y2, if_neg y3, if_neg y4, if_neg y5, if_neg y6, if_pos y7]
    · refine key (-1) ?_ ?_
      · rw [E7]; simp (disch := omega) only [bI_some, bV_some, bR_some, bL_some, ob_some, cd_t, cd_f, cd_d, okO_setI, okA_setI, okL_setI, aLen_setI, hR_setI, hI_setI, Bool.true_and, Bool.and_true, Bool.and_self, Option.isNone_some, Option.isSome_some, Option.isNone_none, Option.isSome_none, okO_chI, okA_chI, okL_chI, aLen_chI, hR_chI, ↓reduceIte, not_true_eq_false, not_false_eq_true, eq_self, c10, Nat.zero_add, nI_add, litA, litB, litM, nI_mul, nI_leI, nI_ltI, nI_eq, litLe, litLe2, litLt, litLt2, litEq, litEq2, in_nI, lit_in, nI_clamp, lit_cl, if_pos, if_neg, WRt w, Q181 w dq, WD w d1, if_neg y0, if_neg y1, if_neg y2, if_neg y3, if_neg y4, if_neg y5, if_neg y6, if_neg y7]
      · rw [E92]; simp (disch := omega) only [bI_some, bV_some, bR_some, bL_some, ob_some, cd_t, cd_f, cd_d, okO_setI, okA_setI, okL_setI, aLen_setI, hR_setI, hI_setI, Bool.true_and, Bool.and_true, Bool.and_self, Option.isNone_some, Option.isSome_some, Option.isNone_none, Option.isSome_none, okO_chI, okA_chI, okL_chI, aLen_chI, hR_chI, ↓reduceIte, not_true_eq_false, not_false_eq_true, eq_self, c10, Nat.zero_add, nI_add, litA, litB, litM, nI_mul, nI_leI, nI_ltI, nI_eq, litLe, litLe2, litLt, litLt2, litEq, litEq2, in_nI, lit_in, nI_clamp, lit_cl, if_pos, if_neg, Q39 w dq, WMd w, if_neg y0, if_neg y1, if_neg y2, if_neg y3, if_neg y4, if_neg y5, if_neg y6, if_neg y7]
  · refine ⟨-1, h, h, ?_, ?_, (WMd w).1, r⟩
    · rw [show DD = 99 + 1 from rfl, E7]; simp only [bI_some, bV_some, bR_some, bL_some, ob_some, cd_t, cd_f, cd_d, okO_setI, okA_setI, okL_setI, aLen_setI, hR_setI, hI_setI, Bool.true_and, Bool.and_true, Bool.and_self, Option.isNone_some, Option.isSome_some, Option.isNone_none, Option.isSome_none, okO_chI, okA_chI, okL_chI, aLen_chI, hR_chI, ↓reduceIte, not_true_eq_false, not_false_eq_true, eq_self, c10, WRt w, N181 w n]
    · rw [show DD = 99 + 1 from rfl, E92]; simp only [bI_some, bV_some, bR_some, bL_some, ob_some, cd_t, cd_f, cd_d, okO_setI, okA_setI, okL_setI, aLen_setI, hR_setI, hI_setI, Bool.true_and, Bool.and_true, Bool.and_self, Option.isNone_some, Option.isSome_some, Option.isNone_none, Option.isSome_none, okO_chI, okA_chI, okL_chI, aLen_chI, hR_chI, ↓reduceIte, not_true_eq_false, not_false_eq_true, eq_self, c10, WMd w, N39 w n]
theorem P8 (x y z : Int32) : Pr Rel 8 93 [rz_i x, rz_i y, rz_i z] := by
  intro h r
  obtain ⟨rb, dr, jd, w, r1, r2, r3, r4, r5⟩ := id r
  rcases tlv r1 r2 x with ⟨k, F, p, t, v, s, q, g, e, rfl, h0, D⟩ | n
  · have dq := D.dq h0
    have key : ∀ u, cW 100 8 [rz_r (some 0), rz_i (nI k), rz_i y, rz_i z] h = some (rz_i u, h) → cW 100 93 [rz_r (some 109), rz_i (nI k), rz_i y, rz_i z] h = some (rz_i u, h) → ∃ v h1 h2, cW DD 8 [rz_r (some 0), rz_i (nI k), rz_i y, rz_i z] h = some (rz_i v, h1) ∧ cW DD 93 [rz_r (some 109), rz_i (nI k), rz_i y, rz_i z] h1 = some (rz_i v, h2) ∧ okO h1 109 [10] = true ∧ Rel h2 := fun u e1 e2 => ⟨u, h, h, e1, e2, (WMd w).1, r⟩
    have V := fun i hi => V145 w D (i := i) hi
    obtain ⟨d1, d2, d3, d4, d5, d6, d7, d8, d9, d10, d11, d12, d13, d14, d15, d16, d17, d18, d19, d20, d21⟩ := D
    have eF : nI F - (1 : Int32) = nI (F - 1) := by
      obtain ⟨G, rfl⟩ : ∃ G, F = G + 1 := ⟨F - 1, by omega⟩
      exact nI_pred G
    by_cases c1 : y < 0
    · have c2 : ¬ (0 ≤ y ∧ y ≤ nI (F - 1)) := fun q => absurd q.1 (Int32.not_le.mpr c1)
      refine key (-1) ?_ ?_
      · rw [E8]; simp only [bI_some, bV_some, bR_some, bL_some, ob_some, cd_t, cd_f, cd_d, okO_setI, okA_setI, okL_setI, aLen_setI, hR_setI, hI_setI, Bool.true_and, Bool.and_true, Bool.and_self, Option.isNone_some, Option.isSome_some, Option.isNone_none, Option.isSome_none, okO_chI, okA_chI, okL_chI, aLen_chI, hR_chI, ↓reduceIte, not_true_eq_false, not_false_eq_true, eq_self, c10, WRt w, Q181 w dq, if_pos c1]
      · rw [E93]; simp only [bI_some, bV_some, bR_some, bL_some, ob_some, cd_t, cd_f, cd_d, okO_setI, okA_setI, okL_setI, aLen_setI, hR_setI, hI_setI, Bool.true_and, Bool.and_true, Bool.and_self, Option.isNone_some, Option.isSome_some, Option.isNone_none, Option.isSome_none, okO_chI, okA_chI, okL_chI, aLen_chI, hR_chI, ↓reduceIte, not_true_eq_false, not_false_eq_true, eq_self, c10, Q39 w dq, WMd w, Q41 w dq, eF, S33, if_neg c2]
    · obtain ⟨i, hi, rfl⟩ := nI_of c1
      by_cases hiF : i < F
      · obtain ⟨b1, b2, b3, b4, b5, b6⟩ := d21 i hiF
        have c2 : (0 ≤ nI i ∧ nI i ≤ nI (F - 1)) := ⟨nI_pos' (by omega), nI_le (by omega) (by omega)⟩
        have c3 : ¬ nI F ≤ nI i := nI_ge hiF (by omega)
        by_cases z0 : z < 0
        · have c4 : ¬ (0 ≤ z ∧ z ≤ 1) := fun q => absurd q.1 (Int32.not_le.mpr z0)
          refine key (-1) ?_ ?_
          · rw [E8]; simp only [bI_some, bV_some, bR_some, bL_some, ob_some, cd_t, cd_f, cd_d, okO_setI, okA_setI, okL_setI, aLen_setI, hR_setI, hI_setI, Bool.true_and, Bool.and_true, Bool.and_self, Option.isNone_some, Option.isSome_some, Option.isNone_none, Option.isSome_none, okO_chI, okA_chI, okL_chI, aLen_chI, hR_chI, ↓reduceIte, not_true_eq_false, not_false_eq_true, eq_self, c10, WRt w, Q181 w dq, if_neg c1, WD w d1, S136 w d1, d9, if_neg c3, if_pos z0]
          · rw [E93]; simp only [bI_some, bV_some, bR_some, bL_some, ob_some, cd_t, cd_f, cd_d, okO_setI, okA_setI, okL_setI, aLen_setI, hR_setI, hI_setI, Bool.true_and, Bool.and_true, Bool.and_self, Option.isNone_some, Option.isSome_some, Option.isNone_none, Option.isSome_none, okO_chI, okA_chI, okL_chI, aLen_chI, hR_chI, ↓reduceIte, not_true_eq_false, not_false_eq_true, eq_self, c10, Q39 w dq, WMd w, Q41 w dq, eF, S33, if_pos c2, if_neg c4]
        by_cases z1 : z ≤ 1
        · have c4 : (0 ≤ z ∧ z ≤ 1) := ⟨Int32.not_lt.mp z0, z1⟩
          obtain ⟨m, hm, rfl⟩ := nI_of2 (x := z) (M := 1) (n := 1) rfl z0 z1
          have gv : Gp F g (nI i) = nI (g i) := by
            rw [Gp_nI (by omega), Nat.mod_eq_of_lt hiF]
          rcases (show m = 0 ∨ m = 1 by omega) with rfl | rfl
          · refine key (nI (g i)) ?_ ?_
            · rw [E8]; simp (disch := omega) only [bI_some, bV_some, bR_some, bL_some, ob_some, cd_t, cd_f, cd_d, okO_setI, okA_setI, okL_setI, aLen_setI, hR_setI, hI_setI, Bool.true_and, Bool.and_true, Bool.and_self, Option.isNone_some, Option.isSome_some, Option.isNone_none, Option.isSome_none, okO_chI, okA_chI, okL_chI, aLen_chI, hR_chI, ↓reduceIte, not_true_eq_false, not_false_eq_true, eq_self, c10, Nat.zero_add, nI_add, litA, litB, litM, nI_mul, nI_leI, nI_ltI, nI_eq, litLe, litLe2, litLt, litLt2, litEq, litEq2, in_nI, lit_in, nI_clamp, lit_cl, if_pos, if_neg, WRt w, Q181 w dq, WD w d1, S136 w d1, d9, Q144 w dq, gv, show ¬ ¬ nI 0 = 0 from fun q => q rfl]
            · rw [E93]; simp (disch := omega) only [bI_some, bV_some, bR_some, bL_some, ob_some, cd_t, cd_f, cd_d, okO_setI, okA_setI, okL_setI, aLen_setI, hR_setI, hI_setI, Bool.true_and, Bool.and_true, Bool.and_self, Option.isNone_some, Option.isSome_some, Option.isNone_none, Option.isSome_none, okO_chI, okA_chI, okL_chI, aLen_chI, hR_chI, ↓reduceIte, not_true_eq_false, not_false_eq_true, eq_self, c10, Nat.zero_add, nI_add, litA, litB, litM, nI_mul, nI_leI, nI_ltI, nI_eq, litLe, litLe2, litLt, litLt2, litEq, litEq2, in_nI, lit_in, nI_clamp, lit_cl, if_pos, if_neg, Q39 w dq, WMd w, Q41 w dq, eF, S33, if_pos c2, if_pos c4, b4, Int32.zero_add]
          · refine key (nI (e i)) ?_ ?_
            · rw [E8]; simp (disch := omega) only [bI_some, bV_some, bR_some, bL_some, ob_some, cd_t, cd_f, cd_d, okO_setI, okA_setI, okL_setI, aLen_setI, hR_setI, hI_setI, Bool.true_and, Bool.and_true, Bool.and_self, Option.isNone_some, Option.isSome_some, Option.isNone_none, Option.isSome_none, okO_chI, okA_chI, okL_chI, aLen_chI, hR_chI, ↓reduceIte, not_true_eq_false, not_false_eq_true, eq_self, c10, Nat.zero_add, nI_add, litA, litB, litM, nI_mul, nI_leI, nI_ltI, nI_eq, litLe, litLe2, litLt, litLt2, litEq, litEq2, in_nI, lit_in, nI_clamp, lit_cl, if_pos, if_neg, WRt w, Q181 w dq, WD w d1, S136 w d1, d9, V i hiF]
            · rw [E93]; simp (disch := omega) only [bI_some, bV_some, bR_some, bL_some, ob_some, cd_t, cd_f, cd_d, okO_setI, okA_setI, okL_setI, aLen_setI, hR_setI, hI_setI, Bool.true_and, Bool.and_true, Bool.and_self, Option.isNone_some, Option.isSome_some, Option.isNone_none, Option.isSome_none, okO_chI, okA_chI, okL_chI, aLen_chI, hR_chI, ↓reduceIte, not_true_eq_false, not_false_eq_true, eq_self, c10, Nat.zero_add, nI_add, litA, litB, litM, nI_mul, nI_leI, nI_ltI, nI_eq, litLe, litLe2, litLt, litLt2, litEq, litEq2, in_nI, lit_in, nI_clamp, lit_cl, if_pos, if_neg, Q39 w dq, WMd w, Q41 w dq, eF, S33, if_pos c2, if_pos c4, b6, Int32.zero_add]
        · have c4 : ¬ (0 ≤ z ∧ z ≤ 1) := fun q => z1 q.2
          refine key (-1) ?_ ?_
          · rw [E8]; simp only [bI_some, bV_some, bR_some, bL_some, ob_some, cd_t, cd_f, cd_d, okO_setI, okA_setI, okL_setI, aLen_setI, hR_setI, hI_setI, Bool.true_and, Bool.and_true, Bool.and_self, Option.isNone_some, Option.isSome_some, Option.isNone_none, Option.isSome_none, okO_chI, okA_chI, okL_chI, aLen_chI, hR_chI, ↓reduceIte, not_true_eq_false, not_false_eq_true, eq_self, c10, WRt w, Q181 w dq, if_neg c1, WD w d1, S136 w d1, d9, if_neg c3, if_neg z0, if_neg z1]
          · rw [E93]; simp only [bI_some, bV_some, bR_some, bL_some, ob_some, cd_t, cd_f, cd_d, okO_setI, okA_setI, okL_setI, aLen_setI, hR_setI, hI_setI, Bool.true_and, Bool.and_true, Bool.and_self, Option.isNone_some, Option.isSome_some, Option.isNone_none, Option.isSome_none, okO_chI, okA_chI, okL_chI, aLen_chI, hR_chI, ↓reduceIte, not_true_eq_false, not_false_eq_true, eq_self, c10, Q39 w dq, WMd w, Q41 w dq, eF, S33, if_pos c2, if_neg c4]
      · have c2 : ¬ (0 ≤ nI i ∧ nI i ≤ nI (F - 1)) := fun q => nI_ge (a := F - 1) (b := i) (by omega) (by omega) q.2
        have c3 : nI F ≤ nI i := nI_le (by omega) (by omega)
        refine key (-1) ?_ ?_
        · rw [E8]; simp only [bI_some, bV_some, bR_some, bL_some, ob_some, cd_t, cd_f, cd_d, okO_setI, okA_setI, okL_setI, aLen_setI, hR_setI, hI_setI, Bool.true_and, Bool.and_true, Bool.and_self, Option.isNone_some, Option.isSome_some, Option.isNone_none, Option.isSome_none, okO_chI, okA_chI, okL_chI, aLen_chI, hR_chI, ↓reduceIte, not_true_eq_false, not_false_eq_true, eq_self, c10, WRt w, Q181 w dq, if_neg c1, WD w d1, S136 w d1, d9, if_pos c3]
        · rw [E93]; simp only [bI_some, bV_some, bR_some, bL_some, ob_some, cd_t, cd_f, cd_d, okO_setI, okA_setI, okL_setI, aLen_setI, hR_setI, hI_setI, Bool.true_and, Bool.and_true, Bool.and_self, Option.isNone_some, Option.isSome_some, Option.isNone_none, Option.isSome_none, okO_chI, okA_chI, okL_chI, aLen_chI, hR_chI, ↓reduceIte, not_true_eq_false, not_false_eq_true, eq_self, c10, Q39 w dq, WMd w, Q41 w dq, eF, S33, if_neg c2]
  · refine ⟨-1, h, h, ?_, ?_, (WMd w).1, r⟩
    · rw [show DD = 99 + 1 from rfl, E8]; simp only [bI_some, bV_some, bR_some, bL_some, ob_some, cd_t, cd_f, cd_d, okO_setI, okA_setI, okL_setI, aLen_setI, hR_setI, hI_setI, Bool.true_and, Bool.and_true, Bool.and_self, Option.isNone_some, Option.isSome_some, Option.isNone_none, Option.isSome_none, okO_chI, okA_chI, okL_chI, aLen_chI, hR_chI, ↓reduceIte, not_true_eq_false, not_false_eq_true, eq_self, c10, WRt w, N181 w n]
    · rw [show DD = 99 + 1 from rfl, E93]; simp only [bI_some, bV_some, bR_some, bL_some, ob_some, cd_t, cd_f, cd_d, okO_setI, okA_setI, okL_setI, aLen_setI, hR_setI, hI_setI, Bool.true_and, Bool.and_true, Bool.and_self, Option.isNone_some, Option.isSome_some, Option.isNone_none, Option.isSome_none, okO_chI, okA_chI, okL_chI, aLen_chI, hR_chI, ↓reduceIte, not_true_eq_false, not_false_eq_true, eq_self, c10, WMd w, N39 w n]
