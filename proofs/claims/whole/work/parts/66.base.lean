/-! what is asked of the frames: both sides see the same round row -/
def Gp (F : Nat) (g : Nat → Nat) (x : Int32) : Int32 := nI (g (x.toInt % (F : Int)).toNat)
def Dq (h : rz_H) (k F : Nat) (g : Nat → Nat) : Prop := k < 8 ∧ 0 < F ∧ F ≤ 16 ∧ (∀ i, i < F → g i ≤ 16) ∧ hI h (5 + 3 * k) 2 = nI F ∧ hI h 110 (256 + k) = nI F ∧ (∀ i, i < F → hI h (5 + 3 * k + 1) i = nI (g i)) ∧ ∀ i, i < F → hI h 110 (16 * k + i) = nI (g i)
/-- what the questions leave as it is -/
def Kc (h k : rz_H) : Prop := ∀ b i, (b < 55 ∨ (82 ≤ b ∧ b < 88) ∨ (96 ≤ b ∧ b < 102) ∨ b = 110 ∨ b = 112 ∨ b = 113 ∨ (120 ≤ b ∧ b < 125) ∨ (b = 109 ∧ (i = 13 ∨ i = 39))) → ¬ (b = 1 ∧ i = 1) → hI k b i = hI h b i
def Kp (h k : rz_H) : Prop := Kc h k ∧ hI k 1 1 = hI h 1 1 ∧ hI k 109 4 = hI h 109 4
theorem Kc.refl (h : rz_H) : Kc h h := fun _ _ _ _ => rfl
theorem Kp.refl (h : rz_H) : Kp h h := ⟨Kc.refl h, rfl, rfl⟩
theorem Kc.trans {h k l : rz_H} (a : Kc h k) (b : Kc k l) : Kc h l := fun x i h1 h2 => (b x i h1 h2).trans (a x i h1 h2)
theorem Kp.trans {h k l : rz_H} (a : Kp h k) (b : Kp k l) : Kp h l := ⟨a.1.trans b.1, b.2.1.trans a.2.1, b.2.2.trans a.2.2⟩
theorem Kp.set {h k : rz_H} (e : Kp h k) {a : Nat} (i : Nat) (v : Int32) (hs : (102 ≤ a ∧ a < 109) ∨ a = 111 ∨ (114 ≤ a ∧ a < 120) ∨ 125 ≤ a ∨ (55 ≤ a ∧ a < 82) ∨ (88 ≤ a ∧ a < 96) ∨ (a = 109 ∧ i ≠ 4 ∧ i ≠ 13 ∧ i ≠ 39)) : Kp h (setI k a i v) := by
  refine ⟨fun b j h1 h2 => ?_, ?_, ?_⟩
  · rw [hI_setI, if_neg (by omega)]; exact e.1 b j h1 h2
  · rw [hI_setI, if_neg (by omega)]; exact e.2.1
  · rw [hI_setI, if_neg (by omega)]; exact e.2.2
def R5 (rb : Nat) (h : rz_H) : Prop := LaOk h 3 ∧ LaRel h 3 110 ∧ TpRel h ∧ KpRel h ∧ LwRel h rb
theorem R5.kp {rb dr : Nat} {jd : Option Nat} {h k : rz_H} (r : R5 rb h) (w : Wf rb dr jd k) (e : Kp h k) : Rel k := by
  obtain ⟨r1, r2, r3, r4, r5⟩ := r
  have hrb := lw_rb w
  obtain ⟨e, ea, eb⟩ := e
  refine Rel_mk w (r1.to (fun b _ _ i => e b i (by omega) (by omega))) (r2.to (fun b _ i => e b i (by omega) (by omega))) (r3.to (fun b hb i => ?_) eb) (r4.to (fun b _ i => e b i (by omega) (by omega)) (e 0 9 (by omega) (by omega)) (e 109 39 (by omega) (by omega))) (r5.to (fun b _ i => e b i (by omega) (by omega)) (e 109 13 (by omega) (by omega)))
  by_cases h1 : b = 1 ∧ i = 1
  · obtain ⟨rfl, rfl⟩ := h1; exact ea
  · exact e b i (by omega) h1
theorem R5.kc {rb dr : Nat} {jd : Option Nat} {h k : rz_H} (r : R5 rb h) (w : Wf rb dr jd k) (e : Kc h k) (ea : hI k 1 1 = 0) (eb : hI k 109 4 = 0) : Rel k := by
  obtain ⟨r1, r2, r3, r4, r5⟩ := r
  have hrb := lw_rb w
  exact Rel_mk w (r1.to (fun b _ _ i => e b i (by omega) (by omega))) (r2.to (fun b _ i => e b i (by omega) (by omega))) ⟨0, by omega, ea, eb, fun i hi => absurd hi (by omega)⟩ (r4.to (fun b _ i => e b i (by omega) (by omega)) (e 0 9 (by omega) (by omega)) (e 109 39 (by omega) (by omega))) (r5.to (fun b _ i => e b i (by omega) (by omega)) (e 109 13 (by omega) (by omega)))
theorem Dq.kc {h h2 : rz_H} {k F : Nat} {g : Nat → Nat} (q : Dq h k F g) (e : Kc h h2) : Dq h2 k F g := by
  obtain ⟨a1, a2, a3, a4, a5, a6, a7, a8⟩ := q
  exact ⟨a1, a2, a3, a4, (e _ _ (by omega) (by omega)).trans a5, (e _ _ (by omega) (by omega)).trans a6, fun i hi => (e _ _ (by omega) (by omega)).trans (a7 i hi), fun i hi => (e _ _ (by omega) (by omega)).trans (a8 i hi)⟩
theorem gi_lt {F : Nat} (h0 : 0 < F) (z : Int) : (z % (F : Int)).toNat < F := by
  have hm : 0 ≤ z % (F : Int) := Int.emod_nonneg _ (by omega)
  have hm2 : z % (F : Int) < F := Int.emod_lt_of_pos _ (by omega)
  omega
theorem Dq.le {h : rz_H} {k F : Nat} {g : Nat → Nat} (q : Dq h k F g) (z : Int) : g (z % (F : Int)).toNat ≤ 16 := q.2.2.2.1 _ (gi_lt q.2.1 z)
theorem isD_3 {k : Nat} (hk : k < 8) : isD (5 + 3 * k) := ⟨5, k, Or.inl rfl, hk, rfl⟩
theorem Q144 {rb dr : Nat} {jd : Option Nat} {h : rz_H} (w : Wf rb dr jd h) {k F : Nat} {g : Nat → Nat} (q : Dq h k F g) (d : Nat) (x : Int32) : cW (d + 2) 144 [rz_r (some (5 + 3 * k)), rz_i x] h = some (rz_i (Gp F g x), h) := by
  have hF := q.2.1
  have hF2 := q.2.2.1
  have hl := gi_lt hF x.toInt
  have c0 : ¬ nI F ≤ 0 := nI_nle hF (by omega)
  have c1 : ¬ (16 : Int32) ≤ nI (x.toInt % (F : Int)).toNat := nI_ge (b := 16) (by omega) (by omega)
  have c2 : rz_in (nI (x.toInt % (F : Int)).toNat) 16 = true := in_nI (by omega) (by omega)
  have c3 : (nI (x.toInt % (F : Int)).toNat).toNatClampNeg = (x.toInt % (F : Int)).toNat := nI_clamp (by omega)
  have fm := S276 d h (z := x.toInt) (F := F) (Int32.le_toInt x) (by have := Int32.toInt_lt x; omega) hF (by omega)
  rw [Int32.ofInt_toInt] at fm
  rw [E144]
  simp only [bI_some, bV_some, bR_some, bL_some, ob_some, cd_t, cd_f, cd_d, okO_setI, okA_setI, okL_setI, aLen_setI, hR_setI, hI_setI, Bool.true_and, Bool.and_true, Bool.and_self, Option.isNone_some, Option.isSome_some, Option.isNone_none, Option.isSome_none, okO_chI, okA_chI, okL_chI, aLen_chI, hR_chI, WD w (isD_3 q.1), q.2.2.2.2.1, if_neg c0, fm, if_neg c1, c2, c3, q.2.2.2.2.2.2.1 _ hl]
  rfl
theorem rem2 {F : Nat} (h0 : 0 < F) (hF : F ≤ 16) (x : Int32) : (x % nI F + nI F) % nI F = nI (x.toInt % (F : Int)).toNat := by
  have hFt : (nI F).toInt = (F : Int) := nI_toInt (by omega)
  have hm : 0 ≤ x.toInt % (F : Int) := Int.emod_nonneg _ (by omega)
  have hm2 : x.toInt % (F : Int) < F := Int.emod_lt_of_pos _ (by omega)
  have hnt : (nI (x.toInt % (F : Int)).toNat).toInt = x.toInt % (F : Int) := by rw [nI_toInt (by omega)]; omega
  have hr : (x % nI F).toInt = x.toInt.tmod F := by rw [Int32.toInt_mod, hFt]
  have b1 : x.toInt.tmod F < F := Int.tmod_lt_of_pos _ (by omega)
  have b2 : -(F : Int) < x.toInt.tmod F := by
    have h3 := Int.tmod_lt_of_pos (-x.toInt) (b := (F : Int)) (by omega)
    rw [Int.neg_tmod] at h3
    omega
  have b3 : x.toInt.tmod F % (F : Int) = x.toInt % F := by
    have h4 := Int.tmod_add_mul_tdiv x.toInt F
    have h5 : x.toInt % (F : Int) = (x.toInt.tmod F + F * x.toInt.tdiv F) % F := by rw [h4]
    rw [h5, Int.add_mul_emod_self_left]
  have hs : (x % nI F + nI F).toInt = x.toInt.tmod F + F := by
    rw [Int32.toInt_add, hr, hFt, Int.bmod_eq_of_le (by omega) (by omega)]
  apply Int32.toInt_inj.mp
  rw [Int32.toInt_mod, hs, hFt, hnt, Int.tmod_eq_emod_of_nonneg (by omega)]
  simp [b3]
theorem Q41 {rb dr : Nat} {jd : Option Nat} {h : rz_H} (w : Wf rb dr jd h) {k F : Nat} {g : Nat → Nat} (q : Dq h k F g) (d : Nat) : cW (d + 1) 41 [rz_r (some 109), rz_i (nI k)] h = some (rz_i (nI F), h) := by
  have hk := q.1
  have e1 : (256 : Int32) + nI k = nI (256 + k) := nI_add 256 k
  have c2 : rz_in (nI (256 + k)) 306 = true := in_nI (by omega) (by omega)
  have c3 : (nI (256 + k)).toNatClampNeg = 256 + k := nI_clamp (by omega)
  rw [E41]
  simp only [bI_some, bV_some, bR_some, bL_some, ob_some, cd_t, cd_f, cd_d, okO_setI, okA_setI, okL_setI, aLen_setI, hR_setI, hI_setI, Bool.true_and, Bool.and_true, Bool.and_self, Option.isNone_some, Option.isSome_some, Option.isNone_none, Option.isSome_none, okO_chI, okA_chI, okL_chI, aLen_chI, hR_chI, WMd w, e1, c2, c3, q.2.2.2.2.2.1]
theorem Q42 {rb dr : Nat} {jd : Option Nat} {h : rz_H} (w : Wf rb dr jd h) {k F : Nat} {g : Nat → Nat} (q : Dq h k F g) (d : Nat) (x : Int32) : cW (d + 2) 42 [rz_r (some 109), rz_i (nI k), rz_i x] h = some (rz_i (Gp F g x), h) := by
  have hk := q.1
  have hF := q.2.1
  have hF2 := q.2.2.1
  have hl := gi_lt hF x.toInt
  have n0 : ¬ nI F = 0 := nI_ne0 hF (by omega)
  have e1 : (0 : Int32) + (16 : Int32) * nI k = nI (16 * k) := by
    have : nI 16 * nI k = nI (16 * k) := (Int32.ofNat_mul 16 k).symm
    rw [Int32.zero_add]; exact this
  have c2 : rz_in (nI (16 * k + (x.toInt % (F : Int)).toNat)) 306 = true := in_nI (by omega) (by omega)
  have c3 : (nI (16 * k + (x.toInt % (F : Int)).toNat)).toNatClampNeg = 16 * k + (x.toInt % (F : Int)).toNat := nI_clamp (by omega)
  rw [E42]
  simp only [bI_some, bV_some, bR_some, bL_some, ob_some, cd_t, cd_f, cd_d, okO_setI, okA_setI, okL_setI, aLen_setI, hR_setI, hI_setI, Bool.true_and, Bool.and_true, Bool.and_self, Option.isNone_some, Option.isSome_some, Option.isNone_none, Option.isSome_none, okO_chI, okA_chI, okL_chI, aLen_chI, hR_chI, Q41 w q, WMd w, if_pos n0, irem_eq_mod, rem2 hF hF2 x, e1, nI_add, c2, c3, q.2.2.2.2.2.2.2 _ hl]
  rfl
theorem Q136 {rb dr : Nat} {jd : Option Nat} {h : rz_H} (w : Wf rb dr jd h) {k F : Nat} {g : Nat → Nat} (q : Dq h k F g) (d : Nat) : cW (d + 1) 136 [rz_r (some (5 + 3 * k))] h = some (rz_i (nI F), h) := by
  rw [S136 w (isD_3 q.1), q.2.2.2.2.1]
/-- no such drum -/
def Dn (h : rz_H) (x : Int32) : Prop := ∀ k, k < 8 → x = nI k → hI h (5 + 3 * k) 2 = 0 ∧ hI h 110 (256 + k) = 0
theorem Dn.kc {h h2 : rz_H} {x : Int32} (q : Dn h x) (e : Kc h h2) : Dn h2 x := fun k hk hx => by
  rw [e _ _ (by omega) (by omega), e _ _ (by omega) (by omega)]
  exact q k hk hx
theorem tld {h : rz_H} (r1 : LaOk h 3) (r2 : LaRel h 3 110) (x : Int32) : (∃ k F g, x = nI k ∧ Dq h k F g) ∨ Dn h x := by
  by_cases hx : ∃ k, k < 8 ∧ x = nI k
  · obtain ⟨k, hk, rfl⟩ := hx
    obtain ⟨F, p, t, v, s, q, f1, f2, f3, f4, f5, f6, f7, f8, f9, f10, f11, f12, f13⟩ := r1.1 k hk
    obtain ⟨a1, a2, a3, a4, a5, a6, a7⟩ := r2.1 k hk
    rw [show 3 + 2 + 3 * k = 5 + 3 * k by omega] at *
    by_cases hF : F = 0
    · refine Or.inr fun j hj e => ?_
      have : k = j := (nI_eq (by omega) (by omega)).mp e
      subst this
      rw [← a1, f1, hF]
      exact ⟨rfl, rfl⟩
    · have hg : ∀ i, i < F → ∃ c, hI h (5 + 3 * k + 1) i = nI c ∧ c ≤ 16 := fun i hi => by
        obtain ⟨c, e, c1, c2, -⟩ := f13 i hi
        exact ⟨c, c1, c2⟩
      have hg2 : ∀ i, i < F → hI h (5 + 3 * k + 1) i = nI (hI h (5 + 3 * k + 1) i).toNatClampNeg ∧ (hI h (5 + 3 * k + 1) i).toNatClampNeg ≤ 16 := fun i hi => by
        obtain ⟨c, c1, c2⟩ := hg i hi
        rw [c1, nI_clamp (by omega)]
        exact ⟨rfl, c2⟩
      refine Or.inl ⟨k, F, fun i => (hI h (5 + 3 * k + 1) i).toNatClampNeg, rfl, hk, by omega, f7, fun i hi => (hg2 i hi).2, f1, a1.symm.trans f1, fun i hi => (hg2 i hi).1, fun i hi => ?_⟩
      have := (a7 i (by omega) (by rw [f1]; exact nI_lt hi (by omega))).1
      rw [← this]
      exact (hg2 i hi).1
  · refine Or.inr fun k hk e => absurd ⟨k, hk, e⟩ hx
theorem Q181 {rb dr : Nat} {jd : Option Nat} {h : rz_H} (w : Wf rb dr jd h) {k F : Nat} {g : Nat → Nat} (q : Dq h k F g) (d : Nat) : cW (d + 2) 181 [rz_r (some 3), rz_i (nI k)] h = some (rz_r (some (5 + 3 * k)), h) := by
  have hk := q.1
  have hF := q.2.1
  have hF2 := q.2.2.1
  have hL : isL 3 := Or.inl rfl
  obtain ⟨k1, k2⟩ := WLk w hL hk
  have c1 : ¬ nI k < 0 := nI_pos (by omega)
  have c2 : rz_in (nI k) 8 = true := in_nI (by omega) (by omega)
  have c3 : (nI k).toNatClampNeg = k := nI_clamp (by omega)
  have c4 : ¬ (8 : Int32) ≤ nI k := nI_ge (a := k) (b := 8) (by omega) (by omega)
  have c5 : ¬ nI F ≤ 0 := nI_nle hF (by omega)
  have c6 : ¬ (1 : Int32) = 0 := by decide
  have e5 : 3 + 2 + 3 * k = 5 + 3 * k := by omega
  rw [e5] at k1 k2
  rw [E181]
  simp only [bI_some, bV_some, bR_some, bL_some, ob_some, cd_t, cd_f, cd_d, okO_setI, okA_setI, okL_setI, aLen_setI, hR_setI, hI_setI, Bool.true_and, Bool.and_true, Bool.and_self, Option.isNone_some, Option.isSome_some, Option.isNone_none, Option.isSome_none, okO_chI, okA_chI, okL_chI, aLen_chI, hR_chI, WLd w hL, if_neg c1, if_neg c4, c2, c3, k1, WD w k2, S142 w k2, q.2.2.2.2.1, if_neg c5, if_neg c6]
theorem N181 {rb dr : Nat} {jd : Option Nat} {h : rz_H} (w : Wf rb dr jd h) {x : Int32} (q : Dn h x) (d : Nat) : cW (d + 2) 181 [rz_r (some 3), rz_i x] h = some (rz_r none, h) := by
  have hL : isL 3 := Or.inl rfl
  rw [E181]
  by_cases c1 : x < 0
  · simp only [bI_some, bV_some, bR_some, bL_some, ob_some, cd_t, cd_f, cd_d, okO_setI, okA_setI, okL_setI, aLen_setI, hR_setI, hI_setI, Bool.true_and, Bool.and_true, Bool.and_self, Option.isNone_some, Option.isSome_some, Option.isNone_none, Option.isSome_none, okO_chI, okA_chI, okL_chI, aLen_chI, hR_chI, if_pos c1]
  · by_cases c4 : (8 : Int32) ≤ x
    · simp only [bI_some, bV_some, bR_some, bL_some, ob_some, cd_t, cd_f, cd_d, okO_setI, okA_setI, okL_setI, aLen_setI, hR_setI, hI_setI, Bool.true_and, Bool.and_true, Bool.and_self, Option.isNone_some, Option.isSome_some, Option.isNone_none, Option.isSome_none, okO_chI, okA_chI, okL_chI, aLen_chI, hR_chI, WLd w hL, if_neg c1, if_pos c4]
    · obtain ⟨k, hk, rfl⟩ := nI_of c1
      have hk8 : k < 8 := Nat.not_le.mp fun q => c4 ((nI_leI (a := 8) (b := k) (by omega) (by omega)).mpr q)
      obtain ⟨k1, k2⟩ := WLk w hL hk8
      have e5 : 3 + 2 + 3 * k = 5 + 3 * k := by omega
      rw [e5] at k1 k2
      have c2 : rz_in (nI k) 8 = true := in_nI (by omega) (by omega)
      have c3 : (nI k).toNatClampNeg = k := nI_clamp (by omega)
      have c5 : (0 : Int32) ≤ 0 := by decide
      simp only [bI_some, bV_some, bR_some, bL_some, ob_some, cd_t, cd_f, cd_d, okO_setI, okA_setI, okL_setI, aLen_setI, hR_setI, hI_setI, Bool.true_and, Bool.and_true, Bool.and_self, Option.isNone_some, Option.isSome_some, Option.isNone_none, Option.isSome_none, okO_chI, okA_chI, okL_chI, aLen_chI, hR_chI, WLd w hL, if_neg c1, if_neg c4, c2, c3, k1, WD w k2, S142 w k2, (q k hk8 rfl).1, if_pos c5]
      rfl
theorem Q39 {rb dr : Nat} {jd : Option Nat} {h : rz_H} (w : Wf rb dr jd h) {k F : Nat} {g : Nat → Nat} (q : Dq h k F g) (d : Nat) : cW (d + 2) 39 [rz_r (some 109), rz_i (nI k)] h = some (rz_i 1, h) := by
  have hk := q.1
  have hF := q.2.1
  have hF2 := q.2.2.1
  have e1 : (256 : Int32) + nI k = nI (256 + k) := nI_add 256 k
  have c2 : rz_in (nI (256 + k)) 306 = true := in_nI (by omega) (by omega)
  have c3 : (nI (256 + k)).toNatClampNeg = 256 + k := nI_clamp (by omega)
  have c4 : (0 : Int32) ≤ nI k ∧ nI k ≤ 7 := ⟨nI_pos' (by omega), nI_le (b := 7) (by omega) (by omega)⟩
  have c5 : ¬ nI F ≤ 0 := nI_nle hF (by omega)
  have c6 : ¬ (1 : Int32) = 0 := by decide
  rw [E39]
  simp only [bI_some, bV_some, bR_some, bL_some, ob_some, cd_t, cd_f, cd_d, okO_setI, okA_setI, okL_setI, aLen_setI, hR_setI, hI_setI, Bool.true_and, Bool.and_true, Bool.and_self, Option.isNone_some, Option.isSome_some, Option.isNone_none, Option.isSome_none, okO_chI, okA_chI, okL_chI, aLen_chI, hR_chI, S33, if_pos c4, if_neg c6, WMd w, e1, c2, c3, q.2.2.2.2.2.1, if_neg c5]
theorem N39 {rb dr : Nat} {jd : Option Nat} {h : rz_H} (w : Wf rb dr jd h) {x : Int32} (q : Dn h x) (d : Nat) : cW (d + 2) 39 [rz_r (some 109), rz_i x] h = some (rz_i 0, h) := by
  rw [E39]
  by_cases c4 : (0 : Int32) ≤ x ∧ x ≤ 7
  · obtain ⟨k, hk, rfl⟩ := nI_of2 (x := x) (M := 7) (n := 7) rfl (Int32.not_lt.mpr c4.1) c4.2
    have e1 : (256 : Int32) + nI k = nI (256 + k) := nI_add 256 k
    have c2 : rz_in (nI (256 + k)) 306 = true := in_nI (by omega) (by omega)
    have c3 : (nI (256 + k)).toNatClampNeg = 256 + k := nI_clamp (by omega)
    have c6 : ¬ (1 : Int32) = 0 := by decide
    have c5 : (0 : Int32) ≤ 0 := by decide
    simp only [bI_some, bV_some, bR_some, bL_some, ob_some, cd_t, cd_f, cd_d, okO_setI, okA_setI, okL_setI, aLen_setI, hR_setI, hI_setI, Bool.true_and, Bool.and_true, Bool.and_self, Option.isNone_some, Option.isSome_some, Option.isNone_none, Option.isSome_none, okO_chI, okA_chI, okL_chI, aLen_chI, hR_chI, S33, if_pos c4, if_neg c6, WMd w, e1, c2, c3, (q k (by omega) rfl).2, if_pos c5]
  · simp only [bI_some, bV_some, bR_some, bL_some, ob_some, cd_t, cd_f, cd_d, okO_setI, okA_setI, okL_setI, aLen_setI, hR_setI, hI_setI, Bool.true_and, Bool.and_true, Bool.and_self, Option.isNone_some, Option.isSome_some, Option.isNone_none, Option.isSome_none, okO_chI, okA_chI, okL_chI, aLen_chI, hR_chI, S33, if_neg c4]
    rfl
theorem c10 : ¬ (1 : Int32) = 0 := by decide
theorem c00 : (0 : Int32) = 0 := rfl
theorem Q40 {rb dr : Nat} {jd : Option Nat} {h : rz_H} (w : Wf rb dr jd h) {k l F F2 : Nat} {g g2 : Nat → Nat} (q : Dq h k F g) (q2 : Dq h l F2 g2) (d : Nat) : cW (d + 3) 40 [rz_r (some 109), rz_i (nI k), rz_i (nI l)] h = some (rz_i 1, h) := by
  rw [E40]
  simp only [bI_some, bV_some, bR_some, bL_some, ob_some, cd_t, cd_f, cd_d, okO_setI, okA_setI, okL_setI, aLen_setI, hR_setI, hI_setI, Bool.true_and, Bool.and_true, Bool.and_self, Option.isNone_some, Option.isSome_some, Option.isNone_none, Option.isSome_none, okO_chI, okA_chI, okL_chI, aLen_chI, hR_chI, WMd w, Q39 w q, Q39 w q2, if_neg c10]
theorem N40a {rb dr : Nat} {jd : Option Nat} {h : rz_H} (w : Wf rb dr jd h) {x y : Int32} (q : Dn h x) (d : Nat) : cW (d + 3) 40 [rz_r (some 109), rz_i x, rz_i y] h = some (rz_i 0, h) := by
  rw [E40]
  simp only [bI_some, bV_some, bR_some, bL_some, ob_some, cd_t, cd_f, cd_d, okO_setI, okA_setI, okL_setI, aLen_setI, hR_setI, hI_setI, Bool.true_and, Bool.and_true, Bool.and_self, Option.isNone_some, Option.isSome_some, Option.isNone_none, Option.isSome_none, okO_chI, okA_chI, okL_chI, aLen_chI, hR_chI, ↓reduceIte, not_true_eq_false, not_false_eq_true, eq_self, c10, WMd w, N39 w q]
theorem N40b {rb dr : Nat} {jd : Option Nat} {h : rz_H} (w : Wf rb dr jd h) {k F : Nat} {g : Nat → Nat} {y : Int32} (q : Dq h k F g) (q2 : Dn h y) (d : Nat) : cW (d + 3) 40 [rz_r (some 109), rz_i (nI k), rz_i y] h = some (rz_i 0, h) := by
  rw [E40]
  simp only [bI_some, bV_some, bR_some, bL_some, ob_some, cd_t, cd_f, cd_d, okO_setI, okA_setI, okL_setI, aLen_setI, hR_setI, hI_setI, Bool.true_and, Bool.and_true, Bool.and_self, Option.isNone_some, Option.isSome_some, Option.isNone_none, Option.isSome_none, okO_chI, okA_chI, okL_chI, aLen_chI, hR_chI, ↓reduceIte, not_true_eq_false, not_false_eq_true, eq_self, c10, WMd w, Q39 w q, N39 w q2]
