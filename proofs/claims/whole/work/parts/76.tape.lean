/-! what is fed: both, paced, check -/
def Tm (h : rz_H) (n : Nat) (t : Nat → Nat) : Prop := n ≤ 260 ∧ ∀ i, i < n → t i < 256 ∧ hI h 113 i &&& 255 = nI (t i)
def Tq (h : rz_H) (n : Nat) (t : Nat → Nat) : Prop := Tm h n t ∧ hI h 1 1 = nI n ∧ hI h 109 4 = nI n ∧ ∀ i, i < n → hI h 2 i = nI (t i)
theorem mkTq {h : rz_H} (r : TpRel h) : ∃ n t, Tq h n t := by
  obtain ⟨n, hn, s1, s2, ht⟩ := r
  refine ⟨n, fun i => (hI h 2 i).toNatClampNeg, ⟨hn, fun i hi => ?_⟩, s1, s2, fun i hi => ?_⟩
  · obtain ⟨b, b1, b2, b3⟩ := ht i hi
    obtain ⟨x1, x2⟩ := nI_self (by omega) b2
    refine ⟨by show (hI h 2 i).toNatClampNeg < 256; omega, ?_⟩
    show _ = nI (hI h 2 i).toNatClampNeg
    rw [x2]; exact b3
  · obtain ⟨b, b1, b2, b3⟩ := ht i hi
    exact (nI_self (by omega) b2).1
theorem Tm.kc {h h2 : rz_H} {n : Nat} {t : Nat → Nat} (q : Tm h n t) (e : Kc h h2) : Tm h2 n t := ⟨q.1, fun i hi => by
  rw [e 113 i (by omega) (by omega)]
  exact q.2 i hi⟩
theorem Tq.kp {h h2 : rz_H} {n : Nat} {t : Nat → Nat} (q : Tq h n t) (e : Kp h h2) : Tq h2 n t := ⟨q.1.kc e.1, e.2.1.trans q.2.1, e.2.2.trans q.2.2.1, fun i hi => (e.1 2 i (by omega) (by omega)).trans (q.2.2.2 i hi)⟩
theorem T269 {rb dr : Nat} {jd : Option Nat} {h : rz_H} (w : Wf rb dr jd h) {n : Nat} {t : Nat → Nat} (q : Tq h n t) {i : Nat} (hi : i < n) (d : Nat) : cW (d + 1) 269 [rz_r (some 1), rz_i (nI i)] h = some (rz_i (nI (t i)), h) := by
  have hn := q.1.1
  have hv := q.2.2.2 i hi
  rw [E269]
  simp (disch := omega) only [bI_some, bV_some, bR_some, bL_some, ob_some, cd_t, cd_f, cd_d, okO_setI, okA_setI, okL_setI, aLen_setI, hR_setI, hI_setI, Bool.true_and, Bool.and_true, Bool.and_self, Option.isNone_some, Option.isSome_some, Option.isNone_none, Option.isSome_none, okO_chI, okA_chI, okL_chI, aLen_chI, hR_chI, ↓reduceIte, not_true_eq_false, not_false_eq_true, eq_self, c10, Nat.zero_add, nI_add, litA, litB, litM, nI_mul, nI_leI, nI_ltI, nI_eq, litLe, litLe2, litLt, litLt2, litEq, litEq2, in_nI, lit_in, nI_clamp, lit_cl, if_pos, if_neg, WTp w, q.2.1, hv]
theorem T48 {rb dr : Nat} {jd : Option Nat} {h : rz_H} (w : Wf rb dr jd h) {n : Nat} {t : Nat → Nat} (q : Tm h n t) {i : Nat} (hi : i < n) (d : Nat) : cW (d + 1) 48 [rz_r (some 109), rz_i (nI i)] h = some (rz_i (nI (t i)), h) := by
  have hn := q.1
  have hv := (q.2 i hi).2
  rw [E48]
  simp (disch := omega) only [bI_some, bV_some, bR_some, bL_some, ob_some, cd_t, cd_f, cd_d, okO_setI, okA_setI, okL_setI, aLen_setI, hR_setI, hI_setI, Bool.true_and, Bool.and_true, Bool.and_self, Option.isNone_some, Option.isSome_some, Option.isNone_none, Option.isSome_none, okO_chI, okA_chI, okL_chI, aLen_chI, hR_chI, ↓reduceIte, not_true_eq_false, not_false_eq_true, eq_self, c10, Nat.zero_add, nI_add, litA, litB, litM, nI_mul, nI_leI, nI_ltI, nI_eq, litLe, litLe2, litLt, litLt2, litEq, litEq2, in_nI, lit_in, nI_clamp, lit_cl, if_pos, if_neg, WMd w, hv]
theorem Kc.clr {h k : rz_H} (e : Kc h k) : Kc h (setI k 1 1 0) := fun b i h1 h2 => by
  rw [hI_setI, if_neg h2]; exact e b i h1 h2
theorem Kc.clm {h k : rz_H} (e : Kc h k) : Kc h (setI k 109 4 0) := fun b i h1 h2 => by
  rw [hI_setI, if_neg (by omega)]; exact e b i h1 h2
theorem fst_per {p : Nat → Bool} {L N : Nat} (hL : 0 < L) (hN : L ≤ N) (hp : ∀ t, t + L < N → p (t + L) = p t) : fst p 0 N = fst p 0 L := by
  rcases hf : fst p 0 L with _ | m
  · have h1 := fst_none L 0 hf
    refine fst_no N 0 (fun j _ hj => ?_)
    have : ∀ j, j < N → p j = false := by
      intro j
      induction j using Nat.strongRecOn with
      | _ j ih =>
        intro hj
        by_cases h : j < L
        · exact h1 j (by omega) (by omega)
        · have h2 := hp (j - L) (by omega)
          rw [show j - L + L = j by omega] at h2
          rw [h2]
          exact ih (j - L) (by omega) (by omega)
    exact this j (by omega)
  · obtain ⟨h1, h2, h3, h4⟩ := fst_some L 0 m hf
    exact fst_is N 0 (by omega) (by omega) h3 h4
theorem lcm_240 : ∀ a, a < 17 → ∀ b, b < 17 → Nat.lcm a b ≤ 240 := by decide +kernel
def btq (F F2 : Nat) (g g2 : Nat → Nat) (p p2 a b c e t : Nat) : Bool := decide (Gp F g (nI (p + t * a)) = nI c ∧ Gp F2 g2 (nI (p2 + t * b)) = nI e)
theorem btq_eq {F F2 : Nat} {g g2 : Nat → Nat} {p p2 a b c e : Nat} (h0 : 0 < F) (h2 : 0 < F2) (hF : F ≤ 16) (hF2 : F2 ≤ 16) (hp : p < 16) (hp2 : p2 < 16) (ha : a ≤ 15) (hb : b ≤ 15) : fst (btq F F2 g g2 p p2 a b c e) 0 (F * F2) = fst (btq F F2 g g2 p p2 a b c e) 0 240 := by
  have hL := lcm_240 F (by omega) F2 (by omega)
  have hL0 : 0 < Nat.lcm F F2 := Nat.lcm_pos h0 h2
  have hM : Nat.lcm F F2 ≤ F * F2 := Nat.le_of_dvd (Nat.mul_pos h0 h2) (Nat.lcm_dvd_mul F F2)
  have hMM : F * F2 ≤ 16 * 16 := Nat.mul_le_mul hF hF2
  obtain ⟨u, hu⟩ := Nat.dvd_lcm_left F F2
  obtain ⟨v, hv⟩ := Nat.dvd_lcm_right F F2
  have per : ∀ t, t < 1000 → btq F F2 g g2 p p2 a b c e (t + Nat.lcm F F2) = btq F F2 g g2 p p2 a b c e t := fun t ht => by
    unfold btq
    have x1 : (t + Nat.lcm F F2) * a ≤ 1240 * 15 := Nat.mul_le_mul (by omega) ha
    have x2 : (t + Nat.lcm F F2) * b ≤ 1240 * 15 := Nat.mul_le_mul (by omega) hb
    have x3 : t * a ≤ 1000 * 15 := Nat.mul_le_mul (by omega) ha
    have x4 : t * b ≤ 1000 * 15 := Nat.mul_le_mul (by omega) hb
    have y1 : (p + (t + Nat.lcm F F2) * a) % F = (p + t * a) % F := by
      rw [hu, Nat.add_mul, ← Nat.add_assoc, Nat.mul_assoc, Nat.add_mul_mod_self_left]
    have y2 : (p2 + (t + Nat.lcm F F2) * b) % F2 = (p2 + t * b) % F2 := by
      rw [hv, Nat.add_mul, ← Nat.add_assoc, Nat.mul_assoc, Nat.add_mul_mod_self_left]
    rw [Gp_nI (by omega), Gp_nI (by omega), Gp_nI (i := p + t * a) (by omega), Gp_nI (i := p2 + t * b) (by omega), y1, y2]
  rw [fst_per hL0 hM (fun t ht => per t (by omega)), fst_per (N := 240) hL0 hL (fun t ht => per t (by omega))]
/-- the tape is emptied on both sides -/
theorem clr2 {rb dr : Nat} {jd : Option Nat} {h : rz_H} (w : Wf rb dr jd h) (r : R5 rb h) {n : Nat} {t : Nat → Nat} (T : Tq h n t) : ∃ h1 h2, Wf rb dr jd h1 ∧ Kc h h1 ∧ Wf rb dr jd h2 ∧ Kc h h2 ∧ Rel h2 ∧ (∀ d, cW (d + 1) 272 [rz_r (some 1)] h = some (rz_i 0, h1)) ∧ setI h1 109 4 0 = h2 ∧ hI h1 109 4 = nI n := by
  have k1 : Kc h (setI h 1 1 0) := (Kc.refl h).clr
  have k2 : Kc h (setI (setI h 1 1 0) 109 4 0) := k1.clm
  refine ⟨setI h 1 1 0, setI (setI h 1 1 0) 109 4 0, w, k1, w, k2, R5.kc r (w : Wf rb dr jd (setI (setI h 1 1 0) 109 4 0)) k2 ?_ ?_, fun d => S272 w d, rfl, ?_⟩
  · rw [hI_setI, if_neg (by omega), hI_setI, if_pos ⟨rfl, rfl⟩]
  · rw [hI_setI, if_pos ⟨rfl, rfl⟩]
  · rw [hI_setI, if_neg (by omega)]; exact T.2.2.1
theorem P18 (x y : Int32) : Pr Rel 18 112 [rz_i x, rz_i y] := by
  intro h r
  obtain ⟨rb, dr, jd, w, r1, r2, r3, r4, r5⟩ := id r
  obtain ⟨n, t, T⟩ := mkTq r3
  have hn := T.1.1
  rcases tlv r1 r2 x with ⟨k, F, p, tt, v, s, qq, g, e, rfl, h0, D⟩ | nx
  · rcases tlv r1 r2 y with ⟨l, F2, p2, tt2, v2, s2, qq2, g2, e2, rfl, h02, D2⟩ | ny
    · have q := D.dq h0
      have q2 := D2.dq h02
      have hF := q.2.2.1
      have hF2 := q2.2.2.1
      obtain ⟨hp, -⟩ := D.2.2.2.2.2.2.2.1 h0
      obtain ⟨hp2, -⟩ := D2.2.2.2.2.2.2.2.1 h02
      have y1 : hI h (5 + 3 * k) 3 = nI p := D.2.2.2.2.2.2.2.2.2.1
      have y2 : hI h (5 + 3 * l) 3 = nI p2 := D2.2.2.2.2.2.2.2.2.2.1
      have m1 : hI h 110 (264 + k) = nI p := D.2.2.2.2.2.2.2.2.2.2.2.2.2.2.2.1
      have m2 : hI h 110 (264 + l) = nI p2 := D2.2.2.2.2.2.2.2.2.2.2.2.2.2.2.2.1
      have hk := q.1
      have hl := q2.1
      by_cases h4 : 4 ≤ n
      · have b0 := (T.1.2 0 (by omega)).1
        have b1 := (T.1.2 1 (by omega)).1
        have b2 := (T.1.2 2 (by omega)).1
        have b3 := (T.1.2 3 (by omega)).1
        obtain ⟨h1, h2, w1, k1, w2, k2, rel2, s272, e4, t4⟩ := clr2 w ⟨r1, r2, r3, r4, r5⟩ T
        have a0 : ∀ d, cW (d + 1) 269 [rz_r (some 1), rz_i 0] h = some (rz_i (nI (t 0)), h) := fun d => T269 w T (i := 0) (by omega) d
        have a1 : ∀ d, cW (d + 1) 269 [rz_r (some 1), rz_i 1] h = some (rz_i (nI (t 1)), h) := fun d => T269 w T (i := 1) (by omega) d
        have a2 : ∀ d, cW (d + 1) 269 [rz_r (some 1), rz_i 2] h = some (rz_i (nI (t 2)), h) := fun d => T269 w T (i := 2) (by omega) d
        have a3 : ∀ d, cW (d + 1) 269 [rz_r (some 1), rz_i 3] h = some (rz_i (nI (t 3)), h) := fun d => T269 w T (i := 3) (by omega) d
        have o0 : ∀ d, cW (d + 1) 48 [rz_r (some 109), rz_i 0] h2 = some (rz_i (nI (t 0)), h2) := fun d => T48 w2 (T.1.kc k2) (i := 0) (by omega) d
        have o1 : ∀ d, cW (d + 1) 48 [rz_r (some 109), rz_i 1] h2 = some (rz_i (nI (t 1)), h2) := fun d => T48 w2 (T.1.kc k2) (i := 1) (by omega) d
        have o2 : ∀ d, cW (d + 1) 48 [rz_r (some 109), rz_i 2] h2 = some (rz_i (nI (t 2)), h2) := fun d => T48 w2 (T.1.kc k2) (i := 2) (by omega) d
        have o3 : ∀ d, cW (d + 1) 48 [rz_r (some 109), rz_i 3] h2 = some (rz_i (nI (t 3)), h2) := fun d => T48 w2 (T.1.kc k2) (i := 3) (by omega) d
        have c4 : (4 : Int32) ≤ nI n := nI_le (a := 4) h4 (by omega)
        have z1 : hI h1 (5 + 3 * k) 3 = nI p := (k1 _ _ (by omega) (by omega)).trans y1
        have z2 : hI h1 (5 + 3 * l) 3 = nI p2 := (k1 _ _ (by omega) (by omega)).trans y2
        have z3 : hI h2 110 (264 + k) = nI p := (k2 _ _ (by omega) (by omega)).trans m1
        have z4 : hI h2 110 (264 + l) = nI p2 := (k2 _ _ (by omega) (by omega)).trans m2
        rcases Nat.lt_or_ge 15 (t 0) with hb0 | hb0
        · have f0 : (15 : Int32) < nI (t 0) := nI_lt (a := 15) (by omega) (by omega)
          refine ⟨-3, h1, h2, ?_, ?_, (WMd w1).1, rel2⟩
          · rw [show DD = 99 + 1 from rfl, E18]
            simp only [bI_some, bV_some, bR_some, bL_some, ob_some, cd_t, cd_f, cd_d, okO_setI, okA_setI, okL_setI, aLen_setI, hR_setI, hI_setI, Bool.true_and, Bool.and_true, Bool.and_self, Option.isNone_some, Option.isSome_some, Option.isNone_none, Option.isSome_none, okO_chI, okA_chI, okL_chI, aLen_chI, hR_chI, ↓reduceIte, not_true_eq_false, not_false_eq_true, eq_self, c10, WRt w, Q181 w q, Q181 w q2, S268 w, T.2.1, a0, a1, a2, a3, s272, if_pos c4, if_pos f0]
          · rw [show DD = 99 + 1 from rfl, E112]
            simp only [bI_some, bV_some, bR_some, bL_some, ob_some, cd_t, cd_f, cd_d, okO_setI, okA_setI, okL_setI, aLen_setI, hR_setI, hI_setI, Bool.true_and, Bool.and_true, Bool.and_self, Option.isNone_some, Option.isSome_some, Option.isNone_none, Option.isSome_none, okO_chI, okA_chI, okL_chI, aLen_chI, hR_chI, ↓reduceIte, not_true_eq_false, not_false_eq_true, eq_self, c10, WMd w1, e4, WMd w2, Q40 w1 (q.kc k1) (q2.kc k1), t4, o0, if_pos c4, if_pos f0]
        have f0 : ¬ (15 : Int32) < nI (t 0) := nI_nlt (a := 15) hb0 (by omega)
        rcases Nat.lt_or_ge 15 (t 1) with hb1 | hb1
        · have f1 : (15 : Int32) < nI (t 1) := nI_lt (a := 15) (by omega) (by omega)
          refine ⟨-3, h1, h2, ?_, ?_, (WMd w1).1, rel2⟩
          · rw [show DD = 99 + 1 from rfl, E18]
            simp only [bI_some, bV_some, bR_some, bL_some, ob_some, cd_t, cd_f, cd_d, okO_setI, okA_setI, okL_setI, aLen_setI, hR_setI, hI_setI, Bool.true_and, Bool.and_true, Bool.and_self, Option.isNone_some, Option.isSome_some, Option.isNone_none, Option.isSome_none, okO_chI, okA_chI, okL_chI, aLen_chI, hR_chI, ↓reduceIte, not_true_eq_false, not_false_eq_true, eq_self, c10, WRt w, Q181 w q, Q181 w q2, S268 w, T.2.1, a0, a1, a2, a3, s272, if_pos c4, if_neg f0, if_pos f1]
          · rw [show DD = 99 + 1 from rfl, E112]
            simp only [bI_some, bV_some, bR_some, bL_some, ob_some, cd_t, cd_f, cd_d, okO_setI, okA_setI, okL_setI, aLen_setI, hR_setI, hI_setI, Bool.true_and, Bool.and_true, Bool.and_self, Option.isNone_some, Option.isSome_some, Option.isNone_none, Option.isSome_none, okO_chI, okA_chI, okL_chI, aLen_chI, hR_chI, ↓reduceIte, not_true_eq_false, not_false_eq_true, eq_self, c10, WMd w1, e4, WMd w2, Q40 w1 (q.kc k1) (q2.kc k1), t4, o0, o1, if_pos c4, if_neg f0, if_pos f1]
        have f1 : ¬ (15 : Int32) < nI (t 1) := nI_nlt (a := 15) hb1 (by omega)
        rcases Nat.lt_or_ge 16 (t 2) with hb2 | hb2
        · have f2 : (16 : Int32) < nI (t 2) := nI_lt (a := 16) (by omega) (by omega)
          refine ⟨-3, h1, h2, ?_, ?_, (WMd w1).1, rel2⟩
          · rw [show DD = 99 + 1 from rfl, E18]
            simp only [bI_some, bV_some, bR_some, bL_some, ob_some, cd_t, cd_f, cd_d, okO_setI, okA_setI, okL_setI, aLen_setI, hR_setI, hI_setI, Bool.true_and, Bool.and_true, Bool.and_self, Option.isNone_some, Option.isSome_some, Option.isNone_none, Option.isSome_none, okO_chI, okA_chI, okL_chI, aLen_chI, hR_chI, ↓reduceIte, not_true_eq_false, not_false_eq_true, eq_self, c10, WRt w, Q181 w q, Q181 w q2, S268 w, T.2.1, a0, a1, a2, a3, s272, if_pos c4, if_neg f0, if_neg f1, if_pos f2]
          · rw [show DD = 99 + 1 from rfl, E112]
            simp only [bI_some, bV_some, bR_some, bL_some, ob_some, cd_t, cd_f, cd_d, okO_setI, okA_setI, okL_setI, aLen_setI, hR_setI, hI_setI, Bool.true_and, Bool.and_true, Bool.and_self, Option.isNone_some, Option.isSome_some, Option.isNone_none, Option.isSome_none, okO_chI, okA_chI, okL_chI, aLen_chI, hR_chI, ↓reduceIte, not_true_eq_false, not_false_eq_true, eq_self, c10, WMd w1, e4, WMd w2, Q40 w1 (q.kc k1) (q2.kc k1), t4, o0, o1, o2, if_pos c4, if_neg f0, if_neg f1, if_pos f2]
        have f2 : ¬ (16 : Int32) < nI (t 2) := nI_nlt (a := 16) hb2 (by omega)
        rcases Nat.lt_or_ge 16 (t 3) with hb3 | hb3
        · have f3 : ¬ nI (t 3) ≤ (16 : Int32) := nI_ge (a := 16) (by omega) (by omega)
          refine ⟨-3, h1, h2, ?_, ?_, (WMd w1).1, rel2⟩
          · rw [show DD = 99 + 1 from rfl, E18]
            simp only [bI_some, bV_some, bR_some, bL_some, ob_some, cd_t, cd_f, cd_d, okO_setI, okA_setI, okL_setI, aLen_setI, hR_setI, hI_setI, Bool.true_and, Bool.and_true, Bool.and_self, Option.isNone_some, Option.isSome_some, Option.isNone_none, Option.isSome_none, okO_chI, okA_chI, okL_chI, aLen_chI, hR_chI, ↓reduceIte, not_true_eq_false, not_false_eq_true, eq_self, c10, WRt w, Q181 w q, Q181 w q2, S268 w, T.2.1, a0, a1, a2, a3, s272, if_pos c4, if_neg f0, if_neg f1, if_neg f2, if_neg f3]
          · rw [show DD = 99 + 1 from rfl, E112]
            simp only [bI_some, bV_some, bR_some, bL_some, ob_some, cd_t, cd_f, cd_d, okO_setI, okA_setI, okL_setI, aLen_setI, hR_setI, hI_setI, Bool.true_and, Bool.and_true, Bool.and_self, Option.isNone_some, Option.isSome_some, Option.isNone_none, Option.isSome_none, okO_chI, okA_chI, okL_chI, aLen_chI, hR_chI, ↓reduceIte, not_true_eq_false, not_false_eq_true, eq_self, c10, WMd w1, e4, WMd w2, Q40 w1 (q.kc k1) (q2.kc k1), t4, o0, o1, o2, o3, if_pos c4, if_neg f0, if_neg f1, if_neg f2, if_neg f3]
        have f3 : nI (t 3) ≤ (16 : Int32) := nI_le (b := 16) hb3 (by omega)
        have hFF : F * F2 ≤ 16 * 16 := Nat.mul_le_mul hF hF2
        have kc := lp_jf (fun i (j : Option rz_V × Option rz_V × Option rz_V) => rW 99 18 (66, (0, 0), [j.1, j.2.1, j.2.2, some (rz_r (some (5 + 3 * k))), some (rz_r (some (5 + 3 * l))), some (rz_i (nI (t 0))), some (rz_i (nI (t 1))), some (rz_i (nI (t 2))), some (rz_i (nI (t 3))), some (rz_i (nI (F * F2))), some (rz_i (nI i))], [], h1)) (fun i => some (rz_i (nI i), h1)) (some (rz_i (-2), h1)) (btq F F2 g g2 p p2 (t 0) (t 1) (t 2) (t 3)) (F * F2) (fun i j hi => by
            refine ⟨fun hp => ?_, fun hp => ⟨(none, none, none), ?_⟩⟩
            · obtain ⟨u1, u2⟩ := of_decide_eq_true hp
              rw [E18_66]
              simp (disch := omega) only [bI_some, bV_some, bR_some, bL_some, ob_some, cd_t, cd_f, cd_d, okO_setI, okA_setI, okL_setI, aLen_setI, hR_setI, hI_setI, Bool.true_and, Bool.and_true, Bool.and_self, Option.isNone_some, Option.isSome_some, Option.isNone_none, Option.isSome_none, okO_chI, okA_chI, okL_chI, aLen_chI, hR_chI, ↓reduceIte, not_true_eq_false, not_false_eq_true, eq_self, c10, Nat.zero_add, nI_add, litA, litB, litM, nI_mul, nI_leI, nI_ltI, nI_eq, litLe, litLe2, litLt, litLt2, litEq, litEq2, in_nI, lit_in, nI_clamp, lit_cl, if_pos, if_neg, WD w1 (isD_3 q.1), WD w1 (isD_3 q2.1), S137 w1 (isD_3 q.1), S137 w1 (isD_3 q2.1), z1, z2, Q144 w1 (q.kc k1), Q144 w1 (q2.kc k1), u1, u2]
            · have hp := of_decide_eq_false hp
              rw [E18_66]
              by_cases u1 : Gp F g (nI (p + i * t 0)) = nI (t 2)
              · have u2 : ¬ Gp F2 g2 (nI (p2 + i * t 1)) = nI (t 3) := fun q => hp ⟨u1, q⟩
                simp (disch := omega) only [bI_some, bV_some, bR_some, bL_some, ob_some, cd_t, cd_f, cd_d, okO_setI, okA_setI, okL_setI, aLen_setI, hR_setI, hI_setI, Bool.true_and, Bool.and_true, Bool.and_self, Option.isNone_some, Option.isSome_some, Option.isNone_none, Option.isSome_none, okO_chI, okA_chI, okL_chI, aLen_chI, hR_chI, ↓reduceIte, not_true_eq_false, not_false_eq_true, eq_self, c10, Nat.zero_add, nI_add, litA, litB, litM, nI_mul, nI_leI, nI_ltI, nI_eq, litLe, litLe2, litLt, litLt2, litEq, litEq2, in_nI, lit_in, nI_clamp, lit_cl, if_pos, if_neg, WD w1 (isD_3 q.1), WD w1 (isD_3 q2.1), S137 w1 (isD_3 q.1), S137 w1 (isD_3 q2.1), z1, z2, Q144 w1 (q.kc k1), Q144 w1 (q2.kc k1), u1, u2]
              · simp (disch := omega) only [bI_some, bV_some, bR_some, bL_some, ob_some, cd_t, cd_f, cd_d, okO_setI, okA_setI, okL_setI, aLen_setI, hR_setI, hI_setI, Bool.true_and, Bool.and_true, Bool.and_self, Option.isNone_some, Option.isSome_some, Option.isNone_none, Option.isSome_none, okO_chI, okA_chI, okL_chI, aLen_chI, hR_chI, ↓reduceIte, not_true_eq_false, not_false_eq_true, eq_self, c10, Nat.zero_add, nI_add, litA, litB, litM, nI_mul, nI_leI, nI_ltI, nI_eq, litLe, litLe2, litLt, litLt2, litEq, litEq2, in_nI, lit_in, nI_clamp, lit_cl, if_pos, if_neg, WD w1 (isD_3 q.1), S137 w1 (isD_3 q.1), z1, Q144 w1 (q.kc k1), u1]) (fun j => by
            rw [E18_66]
            simp (disch := omega) only [bI_some, bV_some, bR_some, bL_some, ob_some, cd_t, cd_f, cd_d, okO_setI, okA_setI, okL_setI, aLen_setI, hR_setI, hI_setI, Bool.true_and, Bool.and_true, Bool.and_self, Option.isNone_some, Option.isSome_some, Option.isNone_none, Option.isSome_none, okO_chI, okA_chI, okL_chI, aLen_chI, hR_chI, ↓reduceIte, not_true_eq_false, not_false_eq_true, eq_self, c10, Nat.zero_add, nI_add, litA, litB, litM, nI_mul, nI_leI, nI_ltI, nI_eq, litLe, litLe2, litLt, litLt2, litEq, litEq2, in_nI, lit_in, nI_clamp, lit_cl, if_pos, if_neg]) (F * F2) 0 (some (rz_r (some 0)), some (rz_i (nI k)), some (rz_i (nI l))) (by omega)
        have km := lp_jf (τ := Unit) (fun i _ => rW 99 112 (38, (0, 0), [some (rz_r (some 109)), some (rz_i (nI k)), some (rz_i (nI l)), some (rz_i (nI i))], [], h2)) (fun i => some (rz_i (nI i), h2)) (some (rz_i (-2), h2)) (btq F F2 g g2 p p2 (t 0) (t 1) (t 2) (t 3)) 240 (fun i j hi => by
            refine ⟨fun hp => ?_, fun hp => ⟨(), ?_⟩⟩
            · obtain ⟨u1, u2⟩ := of_decide_eq_true hp
              rw [E112_38]
              simp (disch := omega) only [bI_some, bV_some, bR_some, bL_some, ob_some, cd_t, cd_f, cd_d, okO_setI, okA_setI, okL_setI, aLen_setI, hR_setI, hI_setI, Bool.true_and, Bool.and_true, Bool.and_self, Option.isNone_some, Option.isSome_some, Option.isNone_none, Option.isSome_none, okO_chI, okA_chI, okL_chI, aLen_chI, hR_chI, ↓reduceIte, not_true_eq_false, not_false_eq_true, eq_self, c10, Nat.zero_add, nI_add, litA, litB, litM, nI_mul, nI_leI, nI_ltI, nI_eq, litLe, litLe2, litLt, litLt2, litEq, litEq2, in_nI, lit_in, nI_clamp, lit_cl, if_pos, if_neg, WMd w2, z3, z4, o0, o1, o2, o3, Q42 w2 (q.kc k2), Q42 w2 (q2.kc k2), u1, u2]
            · have hp := of_decide_eq_false hp
              rw [E112_38]
              by_cases u1 : Gp F g (nI (p + i * t 0)) = nI (t 2)
              · have u2 : ¬ Gp F2 g2 (nI (p2 + i * t 1)) = nI (t 3) := fun q => hp ⟨u1, q⟩
                simp (disch := omega) only [bI_some, bV_some, bR_some, bL_some, ob_some, cd_t, cd_f, cd_d, okO_setI, okA_setI, okL_setI, aLen_setI, hR_setI, hI_setI, Bool.true_and, Bool.and_true, Bool.and_self, Option.isNone_some, Option.isSome_some, Option.isNone_none, Option.isSome_none, okO_chI, okA_chI, okL_chI, aLen_chI, hR_chI, ↓reduceIte, not_true_eq_false, not_false_eq_true, eq_self, c10, Nat.zero_add, nI_add, litA, litB, litM, nI_mul, nI_leI, nI_ltI, nI_eq, litLe, litLe2, litLt, litLt2, litEq, litEq2, in_nI, lit_in, nI_clamp, lit_cl, if_pos, if_neg, WMd w2, z3, z4, o0, o1, o2, o3, Q42 w2 (q.kc k2), Q42 w2 (q2.kc k2), u1, u2]
              · simp (disch := omega) only [bI_some, bV_some, bR_some, bL_some, ob_some, cd_t, cd_f, cd_d, okO_setI, okA_setI, okL_setI, aLen_setI, hR_setI, hI_setI, Bool.true_and, Bool.and_true, Bool.and_self, Option.isNone_some, Option.isSome_some, Option.isNone_none, Option.isSome_none, okO_chI, okA_chI, okL_chI, aLen_chI, hR_chI, ↓reduceIte, not_true_eq_false, not_false_eq_true, eq_self, c10, Nat.zero_add, nI_add, litA, litB, litM, nI_mul, nI_leI, nI_ltI, nI_eq, litLe, litLe2, litLt, litLt2, litEq, litEq2, in_nI, lit_in, nI_clamp, lit_cl, if_pos, if_neg, WMd w2, z3, z4, o0, o1, o2, o3, Q42 w2 (q.kc k2), Q42 w2 (q2.kc k2), u1]) (fun j => by
            rw [E112_38]
            simp (disch := omega) only [bI_some, bV_some, bR_some, bL_some, ob_some, cd_t, cd_f, cd_d, okO_setI, okA_setI, okL_setI, aLen_setI, hR_setI, hI_setI, Bool.true_and, Bool.and_true, Bool.and_self, Option.isNone_some, Option.isSome_some, Option.isNone_none, Option.isSome_none, okO_chI, okA_chI, okL_chI, aLen_chI, hR_chI, ↓reduceIte, not_true_eq_false, not_false_eq_true, eq_self, c10, Nat.zero_add, nI_add, litA, litB, litM, nI_mul, nI_leI, nI_ltI, nI_eq, litLe, litLe2, litLt, litLt2, litEq, litEq2, in_nI, lit_in, nI_clamp, lit_cl, if_pos, if_neg]) 240 0 () (by omega)
        refine ⟨oel nI (-2) (fst (btq F F2 g g2 p p2 (t 0) (t 1) (t 2) (t 3)) 0 240), h1, h2, ?_, ?_, (WMd w1).1, rel2⟩
        · rw [show DD = 99 + 1 from rfl, E18]
          simp only [bI_some, bV_some, bR_some, bL_some, ob_some, cd_t, cd_f, cd_d, okO_setI, okA_setI, okL_setI, aLen_setI, hR_setI, hI_setI, Bool.true_and, Bool.and_true, Bool.and_self, Option.isNone_some, Option.isSome_some, Option.isNone_none, Option.isSome_none, okO_chI, okA_chI, okL_chI, aLen_chI, hR_chI, ↓reduceIte, not_true_eq_false, not_false_eq_true, eq_self, c10, nI_mul, WRt w, Q181 w q, Q181 w q2, S268 w, T.2.1, a0, a1, a2, a3, s272, WD w1 (isD_3 q.1), WD w1 (isD_3 q2.1), Q136 w1 (q.kc k1), Q136 w1 (q2.kc k1), if_pos c4, if_neg f0, if_neg f1, if_neg f2, if_pos f3]
          refine Eq.trans kc ?_
          rw [oel_i, btq_eq h0 h02 hF hF2 (by omega) (by omega) hb0 hb1]
        · rw [show DD = 99 + 1 from rfl, E112]
          simp only [bI_some, bV_some, bR_some, bL_some, ob_some, cd_t, cd_f, cd_d, okO_setI, okA_setI, okL_setI, aLen_setI, hR_setI, hI_setI, Bool.true_and, Bool.and_true, Bool.and_self, Option.isNone_some, Option.isSome_some, Option.isNone_none, Option.isSome_none, okO_chI, okA_chI, okL_chI, aLen_chI, hR_chI, ↓reduceIte, not_true_eq_false, not_false_eq_true, eq_self, c10, WMd w1, e4, WMd w2, Q40 w1 (q.kc k1) (q2.kc k1), t4, o0, o1, o2, o3, if_pos c4, if_neg f0, if_neg f1, if_neg f2, if_pos f3]
          refine Eq.trans km ?_
          rw [oel_i]
      · have c4 : ¬ (4 : Int32) ≤ nI n := nI_ge (b := 4) (by omega) (by omega)
        refine ⟨-1, h, h, ?_, ?_, (WMd w).1, r⟩
        · rw [show DD = 99 + 1 from rfl, E18]
          simp only [bI_some, bV_some, bR_some, bL_some, ob_some, cd_t, cd_f, cd_d, okO_setI, okA_setI, okL_setI, aLen_setI, hR_setI, hI_setI, Bool.true_and, Bool.and_true, Bool.and_self, Option.isNone_some, Option.isSome_some, Option.isNone_none, Option.isSome_none, okO_chI, okA_chI, okL_chI, aLen_chI, hR_chI, ↓reduceIte, not_true_eq_false, not_false_eq_true, eq_self, c10, if_neg c4, WRt w, Q181 w q, Q181 w q2, S268 w, T.2.1]
        · rw [show DD = 99 + 1 from rfl, E112]
          simp only [bI_some, bV_some, bR_some, bL_some, ob_some, cd_t, cd_f, cd_d, okO_setI, okA_setI, okL_setI, aLen_setI, hR_setI, hI_setI, Bool.true_and, Bool.and_true, Bool.and_self, Option.isNone_some, Option.isSome_some, Option.isNone_none, Option.isSome_none, okO_chI, okA_chI, okL_chI, aLen_chI, hR_chI, ↓reduceIte, not_true_eq_false, not_false_eq_true, eq_self, c10, if_neg c4, WMd w, Q40 w q q2, T.2.2.1]
    · refine ⟨-1, h, h, ?_, ?_, (WMd w).1, r⟩
      · rw [show DD = 99 + 1 from rfl, E18]
        simp only [bI_some, bV_some, bR_some, bL_some, ob_some, cd_t, cd_f, cd_d, okO_setI, okA_setI, okL_setI, aLen_setI, hR_setI, hI_setI, Bool.true_and, Bool.and_true, Bool.and_self, Option.isNone_some, Option.isSome_some, Option.isNone_none, Option.isSome_none, okO_chI, okA_chI, okL_chI, aLen_chI, hR_chI, ↓reduceIte, not_true_eq_false, not_false_eq_true, eq_self, c10, WRt w, Q181 w (D.dq h0), N181 w ny]
      · rw [show DD = 99 + 1 from rfl, E112]
        simp only [bI_some, bV_some, bR_some, bL_some, ob_some, cd_t, cd_f, cd_d, okO_setI, okA_setI, okL_setI, aLen_setI, hR_setI, hI_setI, Bool.true_and, Bool.and_true, Bool.and_self, Option.isNone_some, Option.isSome_some, Option.isNone_none, Option.isSome_none, okO_chI, okA_chI, okL_chI, aLen_chI, hR_chI, ↓reduceIte, not_true_eq_false, not_false_eq_true, eq_self, c10, WMd w, N40b w (D.dq h0) ny]
  · refine ⟨-1, h, h, ?_, ?_, (WMd w).1, r⟩
    · rw [show DD = 99 + 1 from rfl, E18]
      rcases tld r1 r2 y with ⟨l, F2, g2, rfl, q2⟩ | n2
      · simp only [bI_some, bV_some, bR_some, bL_some, ob_some, cd_t, cd_f, cd_d, okO_setI, okA_setI, okL_setI, aLen_setI, hR_setI, hI_setI, Bool.true_and, Bool.and_true, Bool.and_self, Option.isNone_some, Option.isSome_some, Option.isNone_none, Option.isSome_none, okO_chI, okA_chI, okL_chI, aLen_chI, hR_chI, ↓reduceIte, not_true_eq_false, not_false_eq_true, eq_self, c10, WRt w, N181 w nx, Q181 w q2]
      · simp only [bI_some, bV_some, bR_some, bL_some, ob_some, cd_t, cd_f, cd_d, okO_setI, okA_setI, okL_setI, aLen_setI, hR_setI, hI_setI, Bool.true_and, Bool.and_true, Bool.and_self, Option.isNone_some, Option.isSome_some, Option.isNone_none, Option.isSome_none, okO_chI, okA_chI, okL_chI, aLen_chI, hR_chI, ↓reduceIte, not_true_eq_false, not_false_eq_true, eq_self, c10, WRt w, N181 w nx, N181 w n2]
    · rw [show DD = 99 + 1 from rfl, E112]
      simp only [bI_some, bV_some, bR_some, bL_some, ob_some, cd_t, cd_f, cd_d, okO_setI, okA_setI, okL_setI, aLen_setI, hR_setI, hI_setI, Bool.true_and, Bool.and_true, Bool.and_self, Option.isNone_some, Option.isSome_some, Option.isNone_none, Option.isSome_none, okO_chI, okA_chI, okL_chI, aLen_chI, hR_chI, ↓reduceIte, not_true_eq_false, not_false_eq_true, eq_self, c10, WMd w, N40a w nx]
/-! paced -/
def snq (F : Nat) (g t : Nat → Nat) (n pc fr : Nat) : Bool := decide (∀ j, j < n → Gp F g (nI (fr + j * pc)) = nI (t j))
def pcv (z : Int32) (F : Nat) (g t : Nat → Nat) (n pc : Nat) : Int32 := if ¬ z = 0 then nI ((fst (snq F g t n pc) 0 F).getD 0) else nI pc
theorem P19c {rb dr : Nat} {jd : Option Nat} {h : rz_H} (w : Wf rb dr jd h) {k F : Nat} {g : Nat → Nat} (q : Dq h k F g) {n : Nat} {t : Nat → Nat} (T : Tq h n t) {m : Nat} (hm : m ≤ n) (h16 : m ≤ 16) (z : Int32) (d : Nat) : cW (d + 3) 242 [rz_r (some 103), rz_r (some (5 + 3 * k)), rz_r (some 1), rz_i (nI m), rz_i z] h = some (rz_i (oel (pcv z F g t m) (-2) (fst (fun pc => (fst (snq F g t m pc) 0 F).isSome) 0 F)), h) := by
  have hF := q.2.2.1
  have hn := T.1.1
  rw [E242]
  have key := lp_jf (fun pc (j : Option rz_V × Option rz_V × Option rz_V) => rW (d + 2) 242 (2, (0, 0), [j.1, some (rz_r (some (5 + 3 * k))), some (rz_r (some 1)), some (rz_i (nI m)), some (rz_i z), some (rz_i (nI pc)), j.2.1, j.2.2], [], h)) (fun pc => some (rz_i (pcv z F g t m pc), h)) (some (rz_i (-2), h)) (fun pc => (fst (snq F g t m pc) 0 F).isSome) F (fun pc j hpc => by
    have inner := lp_jf (fun fr (j : Option rz_V × Option rz_V) => rW (d + 2) 242 (8, (0, 0), [j.1, some (rz_r (some (5 + 3 * k))), some (rz_r (some 1)), some (rz_i (nI m)), some (rz_i z), some (rz_i (nI pc)), some (rz_i (nI fr)), j.2], [], h)) (fun fr => some (rz_i (if ¬ z = 0 then nI fr else nI pc), h)) (rW (d + 2) 242 (2, (0, 0), [none, some (rz_r (some (5 + 3 * k))), some (rz_r (some 1)), some (rz_i (nI m)), some (rz_i z), some (rz_i (nI (pc + 1))), some (rz_i (nI F)), none], [], h)) (snq F g t m pc) F (fun fr j hfr => by
      have st : ∀ i, i < m → Gp F g (nI (fr + i * pc)) = nI (t i) → rW (d + 2) 242 (14, (0, 0), [none, some (rz_r (some (5 + 3 * k))), some (rz_r (some 1)), some (rz_i (nI m)), some (rz_i z), some (rz_i (nI pc)), some (rz_i (nI fr)), some (rz_i (nI i))], [], h) = rW (d + 2) 242 (14, (0, 0), [none, some (rz_r (some (5 + 3 * k))), some (rz_r (some 1)), some (rz_i (nI m)), some (rz_i z), some (rz_i (nI pc)), some (rz_i (nI fr)), some (rz_i (nI (i + 1)))], [], h) := fun i hi he => by
        have at1 := T269 w T (i := i) (by omega)
        have hip : i * pc ≤ 16 * 16 := Nat.mul_le_mul (by omega) (by omega)
        rw [E242_14]
        simp (disch := omega) only [bI_some, bV_some, bR_some, bL_some, ob_some, cd_t, cd_f, cd_d, okO_setI, okA_setI, okL_setI, aLen_setI, hR_setI, hI_setI, Bool.true_and, Bool.and_true, Bool.and_self, Option.isNone_some, Option.isSome_some, Option.isNone_none, Option.isSome_none, okO_chI, okA_chI, okL_chI, aLen_chI, hR_chI, ↓reduceIte, not_true_eq_false, not_false_eq_true, eq_self, c10, Nat.zero_add, nI_add, litA, litB, litM, nI_mul, nI_leI, nI_ltI, nI_eq, litLe, litLe2, litLt, litLt2, litEq, litEq2, in_nI, lit_in, nI_clamp, lit_cl, if_pos, if_neg, WTp w, WD w (isD_3 q.1), Q144 w q, at1, he]
      refine ⟨fun hp => ?_, fun hp => ?_⟩
      · have hp := of_decide_eq_true hp
        have e := lp_u (fun i => rW (d + 2) 242 (14, (0, 0), [none, some (rz_r (some (5 + 3 * k))), some (rz_r (some 1)), some (rz_i (nI m)), some (rz_i z), some (rz_i (nI pc)), some (rz_i (nI fr)), some (rz_i (nI i))], [], h)) m (fun i hi => st i hi (hp i hi))
        rw [E242_8]
        simp (disch := omega) only [bI_some, bV_some, bR_some, bL_some, ob_some, cd_t, cd_f, cd_d, okO_setI, okA_setI, okL_setI, aLen_setI, hR_setI, hI_setI, Bool.true_and, Bool.and_true, Bool.and_self, Option.isNone_some, Option.isSome_some, Option.isNone_none, Option.isSome_none, okO_chI, okA_chI, okL_chI, aLen_chI, hR_chI, ↓reduceIte, not_true_eq_false, not_false_eq_true, eq_self, c10, Nat.zero_add, nI_add, litA, litB, litM, nI_mul, nI_leI, nI_ltI, nI_eq, litLe, litLe2, litLt, litLt2, litEq, litEq2, in_nI, lit_in, nI_clamp, lit_cl, if_pos, if_neg, WD w (isD_3 q.1), Q136 w q]
        refine Eq.trans e ?_
        rw [E242_14]
        by_cases hz : z = 0 <;> simp (disch := omega) only [bI_some, bV_some, bR_some, bL_some, ob_some, cd_t, cd_f, cd_d, okO_setI, okA_setI, okL_setI, aLen_setI, hR_setI, hI_setI, Bool.true_and, Bool.and_true, Bool.and_self, Option.isNone_some, Option.isSome_some, Option.isNone_none, Option.isSome_none, okO_chI, okA_chI, okL_chI, aLen_chI, hR_chI, ↓reduceIte, not_true_eq_false, not_false_eq_true, eq_self, c10, Nat.zero_add, nI_add, litA, litB, litM, nI_mul, nI_leI, nI_ltI, nI_eq, litLe, litLe2, litLt, litLt2, litEq, litEq2, in_nI, lit_in, nI_clamp, lit_cl, if_pos, if_neg, hz]
      · have hp := of_decide_eq_false hp
        rcases hf : fst (fun i => !decide (Gp F g (nI (fr + i * pc)) = nI (t i))) 0 m with _ | i
        · refine absurd (fun j hj => ?_) hp
          have := fst_none m 0 hf j (by omega) (by omega)
          simpa using this
        · obtain ⟨b1, b2, b3, b4⟩ := fst_some m 0 i hf
          have e := lp_u (fun i => rW (d + 2) 242 (14, (0, 0), [none, some (rz_r (some (5 + 3 * k))), some (rz_r (some 1)), some (rz_i (nI m)), some (rz_i z), some (rz_i (nI pc)), some (rz_i (nI fr)), some (rz_i (nI i))], [], h)) i (fun i2 hi => st i2 (by omega) (by
            have := b4 i2 (by omega) hi
            simpa using this))
          refine ⟨(none, some (rz_i (nI i))), ?_⟩
          rw [E242_8]
          simp (disch := omega) only [bI_some, bV_some, bR_some, bL_some, ob_some, cd_t, cd_f, cd_d, okO_setI, okA_setI, okL_setI, aLen_setI, hR_setI, hI_setI, Bool.true_and, Bool.and_true, Bool.and_self, Option.isNone_some, Option.isSome_some, Option.isNone_none, Option.isSome_none, okO_chI, okA_chI, okL_chI, aLen_chI, hR_chI, ↓reduceIte, not_true_eq_false, not_false_eq_true, eq_self, c10, Nat.zero_add, nI_add, litA, litB, litM, nI_mul, nI_leI, nI_ltI, nI_eq, litLe, litLe2, litLt, litLt2, litEq, litEq2, in_nI, lit_in, nI_clamp, lit_cl, if_pos, if_neg, WD w (isD_3 q.1), Q136 w q]
          refine Eq.trans e ?_
          have at1 := T269 w T (i := i) (by omega)
          have he : ¬ Gp F g (nI (fr + i * pc)) = nI (t i) := by simpa using b3
          have hip : i * pc ≤ 16 * 16 := Nat.mul_le_mul (by omega) (by omega)
          rw [E242_14]
          simp (disch := omega) only [bI_some, bV_some, bR_some, bL_some, ob_some, cd_t, cd_f, cd_d, okO_setI, okA_setI, okL_setI, aLen_setI, hR_setI, hI_setI, Bool.true_and, Bool.and_true, Bool.and_self, Option.isNone_some, Option.isSome_some, Option.isNone_none, Option.isSome_none, okO_chI, okA_chI, okL_chI, aLen_chI, hR_chI, ↓reduceIte, not_true_eq_false, not_false_eq_true, eq_self, c10, Nat.zero_add, nI_add, litA, litB, litM, nI_mul, nI_leI, nI_ltI, nI_eq, litLe, litLe2, litLt, litLt2, litEq, litEq2, in_nI, lit_in, nI_clamp, lit_cl, if_pos, if_neg, WTp w, WD w (isD_3 q.1), Q144 w q, at1, he]) (fun j => by
      rw [E242_8]
      simp (disch := omega) only [bI_some, bV_some, bR_some, bL_some, ob_some, cd_t, cd_f, cd_d, okO_setI, okA_setI, okL_setI, aLen_setI, hR_setI, hI_setI, Bool.true_and, Bool.and_true, Bool.and_self, Option.isNone_some, Option.isSome_some, Option.isNone_none, Option.isSome_none, okO_chI, okA_chI, okL_chI, aLen_chI, hR_chI, ↓reduceIte, not_true_eq_false, not_false_eq_true, eq_self, c10, Nat.zero_add, nI_add, litA, litB, litM, nI_mul, nI_leI, nI_ltI, nI_eq, litLe, litLe2, litLt, litLt2, litEq, litEq2, in_nI, lit_in, nI_clamp, lit_cl, if_pos, if_neg, WD w (isD_3 q.1), Q136 w q]) F 0 (none, none) (by omega)
    refine ⟨fun hp => ?_, fun hp => ⟨(none, some (rz_i (nI F)), none), ?_⟩⟩
    · rw [E242_2]
      simp (disch := omega) only [bI_some, bV_some, bR_some, bL_some, ob_some, cd_t, cd_f, cd_d, okO_setI, okA_setI, okL_setI, aLen_setI, hR_setI, hI_setI, Bool.true_and, Bool.and_true, Bool.and_self, Option.isNone_some, Option.isSome_some, Option.isNone_none, Option.isSome_none, okO_chI, okA_chI, okL_chI, aLen_chI, hR_chI, ↓reduceIte, not_true_eq_false, not_false_eq_true, eq_self, c10, Nat.zero_add, nI_add, litA, litB, litM, nI_mul, nI_leI, nI_ltI, nI_eq, litLe, litLe2, litLt, litLt2, litEq, litEq2, in_nI, lit_in, nI_clamp, lit_cl, if_pos, if_neg, WD w (isD_3 q.1), Q136 w q]
      refine Eq.trans inner ?_
      unfold pcv
      cases hf : fst (snq F g t m pc) 0 F with
      | none => rw [hf] at hp; exact absurd hp (by decide)
      | some fr => rfl
    · rw [E242_2]
      simp (disch := omega) only [bI_some, bV_some, bR_some, bL_some, ob_some, cd_t, cd_f, cd_d, okO_setI, okA_setI, okL_setI, aLen_setI, hR_setI, hI_setI, Bool.true_and, Bool.and_true, Bool.and_self, Option.isNone_some, Option.isSome_some, Option.isNone_none, Option.isSome_none, okO_chI, okA_chI, okL_chI, aLen_chI, hR_chI, ↓reduceIte, not_true_eq_false, not_false_eq_true, eq_self, c10, Nat.zero_add, nI_add, litA, litB, litM, nI_mul, nI_leI, nI_ltI, nI_eq, litLe, litLe2, litLt, litLt2, litEq, litEq2, in_nI, lit_in, nI_clamp, lit_cl, if_pos, if_neg, WD w (isD_3 q.1), Q136 w q]
      refine Eq.trans inner ?_
      cases hf : fst (snq F g t m pc) 0 F with
      | none => rfl
      | some fr => rw [hf] at hp; exact absurd hp (by simp)) (fun j => by
    rw [E242_2]
    simp (disch := omega) only [bI_some, bV_some, bR_some, bL_some, ob_some, cd_t, cd_f, cd_d, okO_setI, okA_setI, okL_setI, aLen_setI, hR_setI, hI_setI, Bool.true_and, Bool.and_true, Bool.and_self, Option.isNone_some, Option.isSome_some, Option.isNone_none, Option.isSome_none, okO_chI, okA_chI, okL_chI, aLen_chI, hR_chI, ↓reduceIte, not_true_eq_false, not_false_eq_true, eq_self, c10, Nat.zero_add, nI_add, litA, litB, litM, nI_mul, nI_leI, nI_ltI, nI_eq, litLe, litLe2, litLt, litLt2, litEq, litEq2, in_nI, lit_in, nI_clamp, lit_cl, if_pos, if_neg, WD w (isD_3 q.1), Q136 w q]) F 0 (some (rz_r (some 103)), none, none) (by omega)
  refine Eq.trans key ?_
  cases fst (fun pc => (fst (snq F g t m pc) 0 F).isSome) 0 F <;> rfl
theorem Q113 {rb dr : Nat} {jd : Option Nat} {h : rz_H} (w : Wf rb dr jd h) {k F : Nat} {g : Nat → Nat} (q : Dq h k F g) {n : Nat} {t : Nat → Nat} (T : Tm h n t) {m : Nat} (hm : m ≤ n) (h16 : m ≤ 16) {pc fr : Nat} (hpc : pc ≤ 16) (d : Nat) : cW (d + 3) 113 [rz_r (some 109), rz_i (nI k), rz_i (nI m), rz_i (nI pc), rz_i (nI fr)] h = some (rz_i (bI1 (snq F g t m pc fr)), h) := by
  have hn := T.1
  rw [E113]
  have key := lp_jf (τ := Unit) (fun i _ => rW (d + 2) 113 (2, (0, 0), [some (rz_r (some 109)), some (rz_i (nI k)), some (rz_i (nI m)), some (rz_i (nI pc)), some (rz_i (nI fr)), some (rz_i (nI i))], [], h)) (fun _ => some (rz_i 0, h)) (some (rz_i 1, h)) (fun i => !decide (Gp F g (nI (fr + i * pc)) = nI (t i))) m (fun i _ hi => by
    have at1 := T48 w T (i := i) (by omega)
    refine ⟨fun hp => ?_, fun hp => ⟨(), ?_⟩⟩
    · have hp : ¬ Gp F g (nI (fr + i * pc)) = nI (t i) := by simpa using hp
      rw [E113_2]
      simp (disch := omega) only [bI_some, bV_some, bR_some, bL_some, ob_some, cd_t, cd_f, cd_d, okO_setI, okA_setI, okL_setI, aLen_setI, hR_setI, hI_setI, Bool.true_and, Bool.and_true, Bool.and_self, Option.isNone_some, Option.isSome_some, Option.isNone_none, Option.isSome_none, okO_chI, okA_chI, okL_chI, aLen_chI, hR_chI, ↓reduceIte, not_true_eq_false, not_false_eq_true, eq_self, c10, Nat.zero_add, nI_add, litA, litB, litM, nI_mul, nI_leI, nI_ltI, nI_eq, litLe, litLe2, litLt, litLt2, litEq, litEq2, in_nI, lit_in, nI_clamp, lit_cl, if_pos, if_neg, WMd w, Q42 w q, at1, hp]
    · have hp : Gp F g (nI (fr + i * pc)) = nI (t i) := by simpa using hp
      rw [E113_2]
      simp (disch := omega) only [bI_some, bV_some, bR_some, bL_some, ob_some, cd_t, cd_f, cd_d, okO_setI, okA_setI, okL_setI, aLen_setI, hR_setI, hI_setI, Bool.true_and, Bool.and_true, Bool.and_self, Option.isNone_some, Option.isSome_some, Option.isNone_none, Option.isSome_none, okO_chI, okA_chI, okL_chI, aLen_chI, hR_chI, ↓reduceIte, not_true_eq_false, not_false_eq_true, eq_self, c10, Nat.zero_add, nI_add, litA, litB, litM, nI_mul, nI_leI, nI_ltI, nI_eq, litLe, litLe2, litLt, litLt2, litEq, litEq2, in_nI, lit_in, nI_clamp, lit_cl, if_pos, if_neg, WMd w, Q42 w q, at1, hp]) (fun _ => by
    rw [E113_2]
    simp (disch := omega) only [bI_some, bV_some, bR_some, bL_some, ob_some, cd_t, cd_f, cd_d, okO_setI, okA_setI, okL_setI, aLen_setI, hR_setI, hI_setI, Bool.true_and, Bool.and_true, Bool.and_self, Option.isNone_some, Option.isSome_some, Option.isNone_none, Option.isSome_none, okO_chI, okA_chI, okL_chI, aLen_chI, hR_chI, ↓reduceIte, not_true_eq_false, not_false_eq_true, eq_self, c10, Nat.zero_add, nI_add, litA, litB, litM, nI_mul, nI_leI, nI_ltI, nI_eq, litLe, litLe2, litLt, litLt2, litEq, litEq2, in_nI, lit_in, nI_clamp, lit_cl, if_pos, if_neg]) m 0 () (by omega)
  refine Eq.trans key ?_
  unfold snq
  rcases hf : fst (fun i => !decide (Gp F g (nI (fr + i * pc)) = nI (t i))) 0 m with _ | i
  · have : ∀ j, j < m → Gp F g (nI (fr + j * pc)) = nI (t j) := fun j hj => by
      have := fst_none m 0 hf j (by omega) (by omega)
      simpa using this
    rw [decide_eq_true this]; rfl
  · obtain ⟨b1, b2, b3, b4⟩ := fst_some m 0 i hf
    have : ¬ ∀ j, j < m → Gp F g (nI (fr + j * pc)) = nI (t j) := fun e => by simp [e i (by omega)] at b3
    rw [decide_eq_false this]; rfl
theorem P19m {rb dr : Nat} {jd : Option Nat} {h : rz_H} (w : Wf rb dr jd h) {k F : Nat} {g : Nat → Nat} (q : Dq h k F g) {n : Nat} {t : Nat → Nat} (T : Tm h n t) {m : Nat} (hm : m ≤ n) (h16 : m ≤ 16) (z : Int32) (d : Nat) : rW (d + 3) 114 (39, (0, 0), [some (rz_r (some 109)), some (rz_i (nI k)), some (rz_i (nI m)), some (rz_i z), some (rz_i 0), none], [], h) = some (rz_i (oel (pcv z F g t m) (-2) (fst (fun pc => (fst (snq F g t m pc) 0 F).isSome) 0 F)), h) := by
  have hF := q.2.2.1
  have key := lp_jf (fun pc j => rW (d + 3) 114 (39, (0, 0), [some (rz_r (some 109)), some (rz_i (nI k)), some (rz_i (nI m)), some (rz_i z), some (rz_i (nI pc)), j], [], h)) (fun pc => some (rz_i (pcv z F g t m pc), h)) (some (rz_i (-2), h)) (fun pc => (fst (snq F g t m pc) 0 F).isSome) F (fun pc j hpc => by
    have inner := lp_jf (τ := Unit) (fun fr _ => rW (d + 3) 114 (46, (0, 0), [some (rz_r (some 109)), some (rz_i (nI k)), some (rz_i (nI m)), some (rz_i z), some (rz_i (nI pc)), some (rz_i (nI fr))], [], h)) (fun fr => some (rz_i (if ¬ z = 0 then nI fr else nI pc), h)) (rW (d + 3) 114 (39, (0, 0), [some (rz_r (some 109)), some (rz_i (nI k)), some (rz_i (nI m)), some (rz_i z), some (rz_i (nI (pc + 1))), some (rz_i (nI F))], [], h)) (snq F g t m pc) F (fun fr _ hfr => by
      have s113 := Q113 w q T hm h16 (pc := pc) (fr := fr) (by omega) d
      refine ⟨fun hp => ?_, fun hp => ⟨(), ?_⟩⟩
      · rw [hp] at s113
        rw [E114_46]
        by_cases hz : z = 0 <;> simp (disch := omega) only [bI_some, bV_some, bR_some, bL_some, ob_some, cd_t, cd_f, cd_d, okO_setI, okA_setI, okL_setI, aLen_setI, hR_setI, hI_setI, Bool.true_and, Bool.and_true, Bool.and_self, Option.isNone_some, Option.isSome_some, Option.isNone_none, Option.isSome_none, okO_chI, okA_chI, okL_chI, aLen_chI, hR_chI, ↓reduceIte, not_true_eq_false, not_false_eq_true, eq_self, c10, Nat.zero_add, nI_add, litA, litB, litM, nI_mul, nI_leI, nI_ltI, nI_eq, litLe, litLe2, litLt, litLt2, litEq, litEq2, in_nI, lit_in, nI_clamp, lit_cl, if_pos, if_neg, WMd w, Q41 w q, s113, bI1, hz]
      · rw [hp] at s113
        rw [E114_46]
        simp (disch := omega) only [bI_some, bV_some, bR_some, bL_some, ob_some, cd_t, cd_f, cd_d, okO_setI, okA_setI, okL_setI, aLen_setI, hR_setI, hI_setI, Bool.true_and, Bool.and_true, Bool.and_self, Option.isNone_some, Option.isSome_some, Option.isNone_none, Option.isSome_none, okO_chI, okA_chI, okL_chI, aLen_chI, hR_chI, ↓reduceIte, not_true_eq_false, not_false_eq_true, eq_self, c10, Nat.zero_add, nI_add, litA, litB, litM, nI_mul, nI_leI, nI_ltI, nI_eq, litLe, litLe2, litLt, litLt2, litEq, litEq2, in_nI, lit_in, nI_clamp, lit_cl, if_pos, if_neg, WMd w, Q41 w q, s113, bI1, Bool.false_eq_true]) (fun _ => by
      rw [E114_46]
      simp (disch := omega) only [bI_some, bV_some, bR_some, bL_some, ob_some, cd_t, cd_f, cd_d, okO_setI, okA_setI, okL_setI, aLen_setI, hR_setI, hI_setI, Bool.true_and, Bool.and_true, Bool.and_self, Option.isNone_some, Option.isSome_some, Option.isNone_none, Option.isSome_none, okO_chI, okA_chI, okL_chI, aLen_chI, hR_chI, ↓reduceIte, not_true_eq_false, not_false_eq_true, eq_self, c10, Nat.zero_add, nI_add, litA, litB, litM, nI_mul, nI_leI, nI_ltI, nI_eq, litLe, litLe2, litLt, litLt2, litEq, litEq2, in_nI, lit_in, nI_clamp, lit_cl, if_pos, if_neg, WMd w, Q41 w q]) F 0 () (by omega)
    refine ⟨fun hp => ?_, fun hp => ⟨some (rz_i (nI F)), ?_⟩⟩
    · rw [E114_39]
      simp (disch := omega) only [bI_some, bV_some, bR_some, bL_some, ob_some, cd_t, cd_f, cd_d, okO_setI, okA_setI, okL_setI, aLen_setI, hR_setI, hI_setI, Bool.true_and, Bool.and_true, Bool.and_self, Option.isNone_some, Option.isSome_some, Option.isNone_none, Option.isSome_none, okO_chI, okA_chI, okL_chI, aLen_chI, hR_chI, ↓reduceIte, not_true_eq_false, not_false_eq_true, eq_self, c10, Nat.zero_add, nI_add, litA, litB, litM, nI_mul, nI_leI, nI_ltI, nI_eq, litLe, litLe2, litLt, litLt2, litEq, litEq2, in_nI, lit_in, nI_clamp, lit_cl, if_pos, if_neg, WMd w, Q41 w q]
      refine Eq.trans inner ?_
      unfold pcv
      cases hf : fst (snq F g t m pc) 0 F with
      | none => rw [hf] at hp; exact absurd hp (by decide)
      | some fr => rfl
    · rw [E114_39]
      simp (disch := omega) only [bI_some, bV_some, bR_some, bL_some, ob_some, cd_t, cd_f, cd_d, okO_setI, okA_setI, okL_setI, aLen_setI, hR_setI, hI_setI, Bool.true_and, Bool.and_true, Bool.and_self, Option.isNone_some, Option.isSome_some, Option.isNone_none, Option.isSome_none, okO_chI, okA_chI, okL_chI, aLen_chI, hR_chI, ↓reduceIte, not_true_eq_false, not_false_eq_true, eq_self, c10, Nat.zero_add, nI_add, litA, litB, litM, nI_mul, nI_leI, nI_ltI, nI_eq, litLe, litLe2, litLt, litLt2, litEq, litEq2, in_nI, lit_in, nI_clamp, lit_cl, if_pos, if_neg, WMd w, Q41 w q]
      refine Eq.trans inner ?_
      cases hf : fst (snq F g t m pc) 0 F with
      | none => rfl
      | some fr => rw [hf] at hp; exact absurd hp (by simp)) (fun j => by
    rw [E114_39]
    simp (disch := omega) only [bI_some, bV_some, bR_some, bL_some, ob_some, cd_t, cd_f, cd_d, okO_setI, okA_setI, okL_setI, aLen_setI, hR_setI, hI_setI, Bool.true_and, Bool.and_true, Bool.and_self, Option.isNone_some, Option.isSome_some, Option.isNone_none, Option.isSome_none, okO_chI, okA_chI, okL_chI, aLen_chI, hR_chI, ↓reduceIte, not_true_eq_false, not_false_eq_true, eq_self, c10, Nat.zero_add, nI_add, litA, litB, litM, nI_mul, nI_leI, nI_ltI, nI_eq, litLe, litLe2, litLt, litLt2, litEq, litEq2, in_nI, lit_in, nI_clamp, lit_cl, if_pos, if_neg, WMd w, Q41 w q]) F 0 none (by omega)
  refine Eq.trans key ?_
  cases fst (fun pc => (fst (snq F g t m pc) 0 F).isSome) 0 F <;> rfl
theorem T271 {rb dr : Nat} {jd : Option Nat} {h : rz_H} (w : Wf rb dr jd h) {n : Nat} {t : Nat → Nat} (T : Tq h n t) {m : Nat} (hm : m ≤ n) (d : Nat) : cW (d + 2) 271 [rz_r (some 1), rz_i (nI m), rz_i 16] h = some (rz_i (bI1 (fst (fun i => decide (16 < t i)) 0 m).isNone), h) := by
  have hn := T.1.1
  rw [E271]
  have key := lp_jf (τ := Unit) (fun i _ => rW (d + 1) 271 (2, (0, 0), [some (rz_r (some 1)), some (rz_i (nI m)), some (rz_i 16), some (rz_i (nI i))], [], h)) (fun _ => some (rz_i 0, h)) (some (rz_i 1, h)) (fun i => decide (16 < t i)) m (fun i _ hi => by
    have at1 := T269 w T (i := i) (by omega)
    have hb := (T.1.2 i (by omega)).1
    refine ⟨fun hp => ?_, fun hp => ⟨(), ?_⟩⟩
    · have hp := of_decide_eq_true hp
      rw [E271_2]
      simp (disch := omega) only [bI_some, bV_some, bR_some, bL_some, ob_some, cd_t, cd_f, cd_d, okO_setI, okA_setI, okL_setI, aLen_setI, hR_setI, hI_setI, Bool.true_and, Bool.and_true, Bool.and_self, Option.isNone_some, Option.isSome_some, Option.isNone_none, Option.isSome_none, okO_chI, okA_chI, okL_chI, aLen_chI, hR_chI, ↓reduceIte, not_true_eq_false, not_false_eq_true, eq_self, c10, Nat.zero_add, nI_add, litA, litB, litM, nI_mul, nI_leI, nI_ltI, nI_eq, litLe, litLe2, litLt, litLt2, litEq, litEq2, in_nI, lit_in, nI_clamp, lit_cl, if_pos, if_neg, WTp w, T.2.1, at1]
    · have hp := of_decide_eq_false hp
      rw [E271_2]
      simp (disch := omega) only [bI_some, bV_some, bR_some, bL_some, ob_some, cd_t, cd_f, cd_d, okO_setI, okA_setI, okL_setI, aLen_setI, hR_setI, hI_setI, Bool.true_and, Bool.and_true, Bool.and_self, Option.isNone_some, Option.isSome_some, Option.isNone_none, Option.isSome_none, okO_chI, okA_chI, okL_chI, aLen_chI, hR_chI, ↓reduceIte, not_true_eq_false, not_false_eq_true, eq_self, c10, Nat.zero_add, nI_add, litA, litB, litM, nI_mul, nI_leI, nI_ltI, nI_eq, litLe, litLe2, litLt, litLt2, litEq, litEq2, in_nI, lit_in, nI_clamp, lit_cl, if_pos, if_neg, WTp w, T.2.1, at1]) (fun _ => by
    rw [E271_2]
    simp (disch := omega) only [bI_some, bV_some, bR_some, bL_some, ob_some, cd_t, cd_f, cd_d, okO_setI, okA_setI, okL_setI, aLen_setI, hR_setI, hI_setI, Bool.true_and, Bool.and_true, Bool.and_self, Option.isNone_some, Option.isSome_some, Option.isNone_none, Option.isSome_none, okO_chI, okA_chI, okL_chI, aLen_chI, hR_chI, ↓reduceIte, not_true_eq_false, not_false_eq_true, eq_self, c10, Nat.zero_add, nI_add, litA, litB, litM, nI_mul, nI_leI, nI_ltI, nI_eq, litLe, litLe2, litLt, litLt2, litEq, litEq2, in_nI, lit_in, nI_clamp, lit_cl, if_pos, if_neg]) m 0 () (by omega)
  refine Eq.trans key ?_
  cases fst (fun i => decide (16 < t i)) 0 m <;> rfl
theorem P19 (x y z : Int32) : Pr Rel 19 114 [rz_i x, rz_i y, rz_i z] := by
  intro h r
  obtain ⟨rb, dr, jd, w, r1, r2, r3, r4, r5⟩ := id r
  obtain ⟨n, t, T⟩ := mkTq r3
  have hn := T.1.1
  rcases tld r1 r2 x with ⟨k, F, g, rfl, q⟩ | nx
  · by_cases hy : 1 ≤ y ∧ y ≤ 16
    · obtain ⟨m, hm, rfl⟩ := nI_of2 (x := y) (M := 16) (n := 16) rfl (Int32.not_lt.mpr (Int32.le_trans (by decide) hy.1)) hy.2
      have h1 := Int32.not_lt.mpr hy.1
      have h2 := Int32.not_lt.mpr hy.2
      by_cases hz : 0 ≤ z ∧ z ≤ 1
      · have z1 := Int32.not_lt.mpr hz.1
        have z2 := Int32.not_lt.mpr hz.2
        by_cases hmn : m ≤ n
        · have c1 : nI m ≤ nI n := nI_le hmn (by omega)
          obtain ⟨hc, hc2, w1, k1, w2, k2, rel2, s272, e4, t4⟩ := clr2 w ⟨r1, r2, r3, r4, r5⟩ T
          have i271 := T271 w T hmn
          have lp := lp_jf (τ := Option rz_V) (fun i j => rW 99 114 (25, (0, 0), [some (rz_r (some 109)), some (rz_i (nI k)), some (rz_i (nI m)), some (rz_i z), some (rz_i (nI i)), j], [], hc2)) (fun _ => some (rz_i (-3), hc2)) (rW 99 114 (39, (0, 0), [some (rz_r (some 109)), some (rz_i (nI k)), some (rz_i (nI m)), some (rz_i z), some (rz_i 0), none], [], hc2)) (fun i => decide (16 < t i)) m (fun i _ hi => by
            have at1 := T48 w2 (T.1.kc k2) (i := i) (by omega)
            have hb := (T.1.2 i (by omega)).1
            refine ⟨fun hp => ?_, fun hp => ⟨none, ?_⟩⟩
            · have hp := of_decide_eq_true hp
              rw [E114_25]
              simp (disch := omega) only [bI_some, bV_some, bR_some, bL_some, ob_some, cd_t, cd_f, cd_d, okO_setI, okA_setI, okL_setI, aLen_setI, hR_setI, hI_setI, Bool.true_and, Bool.and_true, Bool.and_self, Option.isNone_some, Option.isSome_some, Option.isNone_none, Option.isSome_none, okO_chI, okA_chI, okL_chI, aLen_chI, hR_chI, ↓reduceIte, not_true_eq_false, not_false_eq_true, eq_self, c10, Nat.zero_add, nI_add, litA, litB, litM, nI_mul, nI_leI, nI_ltI, nI_eq, litLe, litLe2, litLt, litLt2, litEq, litEq2, in_nI, lit_in, nI_clamp, lit_cl, if_pos, if_neg, WMd w2, at1]
            · have hp := of_decide_eq_false hp
              rw [E114_25]
              simp (disch := omega) only [bI_some, bV_some, bR_some, bL_some, ob_some, cd_t, cd_f, cd_d, okO_setI, okA_setI, okL_setI, aLen_setI, hR_setI, hI_setI, Bool.true_and, Bool.and_true, Bool.and_self, Option.isNone_some, Option.isSome_some, Option.isNone_none, Option.isSome_none, okO_chI, okA_chI, okL_chI, aLen_chI, hR_chI, ↓reduceIte, not_true_eq_false, not_false_eq_true, eq_self, c10, Nat.zero_add, nI_add, litA, litB, litM, nI_mul, nI_leI, nI_ltI, nI_eq, litLe, litLe2, litLt, litLt2, litEq, litEq2, in_nI, lit_in, nI_clamp, lit_cl, if_pos, if_neg, WMd w2, at1]) (fun _ => by
            rw [E114_25]
            simp (disch := omega) only [bI_some, bV_some, bR_some, bL_some, ob_some, cd_t, cd_f, cd_d, okO_setI, okA_setI, okL_setI, aLen_setI, hR_setI, hI_setI, Bool.true_and, Bool.and_true, Bool.and_self, Option.isNone_some, Option.isSome_some, Option.isNone_none, Option.isSome_none, okO_chI, okA_chI, okL_chI, aLen_chI, hR_chI, ↓reduceIte, not_true_eq_false, not_false_eq_true, eq_self, c10, Nat.zero_add, nI_add, litA, litB, litM, nI_mul, nI_leI, nI_ltI, nI_eq, litLe, litLe2, litLt, litLt2, litEq, litEq2, in_nI, lit_in, nI_clamp, lit_cl, if_pos, if_neg]) m 0 none (by omega)
          cases hf : fst (fun i => decide (16 < t i)) 0 m with
          | some i =>
            rw [hf] at lp i271
            refine ⟨-3, hc, hc2, ?_, ?_, (WMd w1).1, rel2⟩
            · rw [show DD = 99 + 1 from rfl, E19]
              simp only [bI_some, bV_some, bR_some, bL_some, ob_some, cd_t, cd_f, cd_d, okO_setI, okA_setI, okL_setI, aLen_setI, hR_setI, hI_setI, Bool.true_and, Bool.and_true, Bool.and_self, Option.isNone_some, Option.isSome_some, Option.isNone_none, Option.isSome_none, okO_chI, okA_chI, okL_chI, aLen_chI, hR_chI, ↓reduceIte, not_true_eq_false, not_false_eq_true, eq_self, c10, WRt w, Q181 w q, S268 w, T.2.1, if_neg h1, if_neg h2, if_neg z1, if_neg z2, if_pos c1, i271, bI1, Bool.false_eq_true, s272]
            · rw [show DD = 99 + 1 from rfl, E114]
              simp only [bI_some, bV_some, bR_some, bL_some, ob_some, cd_t, cd_f, cd_d, okO_setI, okA_setI, okL_setI, aLen_setI, hR_setI, hI_setI, Bool.true_and, Bool.and_true, Bool.and_self, Option.isNone_some, Option.isSome_some, Option.isNone_none, Option.isSome_none, okO_chI, okA_chI, okL_chI, aLen_chI, hR_chI, ↓reduceIte, not_true_eq_false, not_false_eq_true, eq_self, c10, Q39 w1 (q.kc k1), S33, if_pos hy, if_pos hz, WMd w1, t4, if_pos c1, e4]
              exact lp
          | none =>
            rw [hf] at lp i271
            have pc := P19c w q T hmn hm z 96
            refine ⟨oel (pcv z F g t m) (-2) (fst (fun pc => (fst (snq F g t m pc) 0 F).isSome) 0 F), hc, hc2, ?_, ?_, (WMd w1).1, rel2⟩
            · rw [show DD = 99 + 1 from rfl, E19]
              simp only [bI_some, bV_some, bR_some, bL_some, ob_some, cd_t, cd_f, cd_d, okO_setI, okA_setI, okL_setI, aLen_setI, hR_setI, hI_setI, Bool.true_and, Bool.and_true, Bool.and_self, Option.isNone_some, Option.isSome_some, Option.isNone_none, Option.isSome_none, okO_chI, okA_chI, okL_chI, aLen_chI, hR_chI, ↓reduceIte, not_true_eq_false, not_false_eq_true, eq_self, c10, WRt w, Q181 w q, S268 w, T.2.1, if_neg h1, if_neg h2, if_neg z1, if_neg z2, if_pos c1, i271, bI1, pc, s272]
            · rw [show DD = 99 + 1 from rfl, E114]
              simp only [bI_some, bV_some, bR_some, bL_some, ob_some, cd_t, cd_f, cd_d, okO_setI, okA_setI, okL_setI, aLen_setI, hR_setI, hI_setI, Bool.true_and, Bool.and_true, Bool.and_self, Option.isNone_some, Option.isSome_some, Option.isNone_none, Option.isSome_none, okO_chI, okA_chI, okL_chI, aLen_chI, hR_chI, ↓reduceIte, not_true_eq_false, not_false_eq_true, eq_self, c10, Q39 w1 (q.kc k1), S33, if_pos hy, if_pos hz, WMd w1, t4, if_pos c1, e4]
              refine Eq.trans lp ?_
              exact P19m w2 (q.kc k2) (T.1.kc k2) hmn hm z 96
        · have c1 : ¬ nI m ≤ nI n := nI_ge (by omega) (by omega)
          refine ⟨-1, h, h, ?_, ?_, (WMd w).1, r⟩
          · rw [show DD = 99 + 1 from rfl, E19]
            simp only [bI_some, bV_some, bR_some, bL_some, ob_some, cd_t, cd_f, cd_d, okO_setI, okA_setI, okL_setI, aLen_setI, hR_setI, hI_setI, Bool.true_and, Bool.and_true, Bool.and_self, Option.isNone_some, Option.isSome_some, Option.isNone_none, Option.isSome_none, okO_chI, okA_chI, okL_chI, aLen_chI, hR_chI, ↓reduceIte, not_true_eq_false, not_false_eq_true, eq_self, c10, WRt w, Q181 w q, S268 w, T.2.1, if_neg h1, if_neg h2, if_neg z1, if_neg z2, if_neg c1]
          · rw [show DD = 99 + 1 from rfl, E114]
            simp only [bI_some, bV_some, bR_some, bL_some, ob_some, cd_t, cd_f, cd_d, okO_setI, okA_setI, okL_setI, aLen_setI, hR_setI, hI_setI, Bool.true_and, Bool.and_true, Bool.and_self, Option.isNone_some, Option.isSome_some, Option.isNone_none, Option.isSome_none, okO_chI, okA_chI, okL_chI, aLen_chI, hR_chI, ↓reduceIte, not_true_eq_false, not_false_eq_true, eq_self, c10, Q39 w q, S33, if_pos hy, if_pos hz, WMd w, T.2.2.1, if_neg c1]
      · refine ⟨-1, h, h, ?_, ?_, (WMd w).1, r⟩
        · rw [show DD = 99 + 1 from rfl, E19]
          by_cases z1 : z < 0
          · simp only [bI_some, bV_some, bR_some, bL_some, ob_some, cd_t, cd_f, cd_d, okO_setI, okA_setI, okL_setI, aLen_setI, hR_setI, hI_setI, Bool.true_and, Bool.and_true, Bool.and_self, Option.isNone_some, Option.isSome_some, Option.isNone_none, Option.isSome_none, okO_chI, okA_chI, okL_chI, aLen_chI, hR_chI, ↓reduceIte, not_true_eq_false, not_false_eq_true, eq_self, c10, WRt w, Q181 w q, if_neg h1, if_neg h2, if_pos z1]
          · have z2 : (1 : Int32) < z := Int32.not_le.mp fun e => hz ⟨Int32.not_lt.mp z1, e⟩
            simp only [bI_some, bV_some, bR_some, bL_some, ob_some, cd_t, cd_f, cd_d, okO_setI, okA_setI, okL_setI, aLen_setI, hR_setI, hI_setI, Bool.true_and, Bool.and_true, Bool.and_self, Option.isNone_some, Option.isSome_some, Option.isNone_none, Option.isSome_none, okO_chI, okA_chI, okL_chI, aLen_chI, hR_chI, ↓reduceIte, not_true_eq_false, not_false_eq_true, eq_self, c10, WRt w, Q181 w q, if_neg h1, if_neg h2, if_neg z1, if_pos z2]
        · rw [show DD = 99 + 1 from rfl, E114]
          simp only [bI_some, bV_some, bR_some, bL_some, ob_some, cd_t, cd_f, cd_d, okO_setI, okA_setI, okL_setI, aLen_setI, hR_setI, hI_setI, Bool.true_and, Bool.and_true, Bool.and_self, Option.isNone_some, Option.isSome_some, Option.isNone_none, Option.isSome_none, okO_chI, okA_chI, okL_chI, aLen_chI, hR_chI, ↓reduceIte, not_true_eq_false, not_false_eq_true, eq_self, c10, Q39 w q, S33, if_pos hy, if_neg hz, WMd w]
    · refine ⟨-1, h, h, ?_, ?_, (WMd w).1, r⟩
      · rw [show DD = 99 + 1 from rfl, E19]
        by_cases h1 : y < 1
        · simp only [bI_some, bV_some, bR_some, bL_some, ob_some, cd_t, cd_f, cd_d, okO_setI, okA_setI, okL_setI, aLen_setI, hR_setI, hI_setI, Bool.true_and, Bool.and_true, Bool.and_self, Option.isNone_some, Option.isSome_some, Option.isNone_none, Option.isSome_none, okO_chI, okA_chI, okL_chI, aLen_chI, hR_chI, ↓reduceIte, not_true_eq_false, not_false_eq_true, eq_self, c10, WRt w, Q181 w q, if_pos h1]
        · have h2 : (16 : Int32) < y := Int32.not_le.mp fun e => hy ⟨Int32.not_lt.mp h1, e⟩
          simp only [bI_some, bV_some, bR_some, bL_some, ob_some, cd_t, cd_f, cd_d, okO_setI, okA_setI, okL_setI, aLen_setI, hR_setI, hI_setI, Bool.true_and, Bool.and_true, Bool.and_self, Option.isNone_some, Option.isSome_some, Option.isNone_none, Option.isSome_none, okO_chI, okA_chI, okL_chI, aLen_chI, hR_chI, ↓reduceIte, not_true_eq_false, not_false_eq_true, eq_self, c10, WRt w, Q181 w q, if_neg h1, if_pos h2]
      · rw [show DD = 99 + 1 from rfl, E114]
        simp only [bI_some, bV_some, bR_some, bL_some, ob_some, cd_t, cd_f, cd_d, okO_setI, okA_setI, okL_setI, aLen_setI, hR_setI, hI_setI, Bool.true_and, Bool.and_true, Bool.and_self, Option.isNone_some, Option.isSome_some, Option.isNone_none, Option.isSome_none, okO_chI, okA_chI, okL_chI, aLen_chI, hR_chI, ↓reduceIte, not_true_eq_false, not_false_eq_true, eq_self, c10, Q39 w q, S33, if_neg hy, WMd w]
  · refine ⟨-1, h, h, ?_, ?_, (WMd w).1, r⟩
    · rw [show DD = 99 + 1 from rfl, E19]
      simp only [bI_some, bV_some, bR_some, bL_some, ob_some, cd_t, cd_f, cd_d, okO_setI, okA_setI, okL_setI, aLen_setI, hR_setI, hI_setI, Bool.true_and, Bool.and_true, Bool.and_self, Option.isNone_some, Option.isSome_some, Option.isNone_none, Option.isSome_none, okO_chI, okA_chI, okL_chI, aLen_chI, hR_chI, ↓reduceIte, not_true_eq_false, not_false_eq_true, eq_self, c10, WRt w, N181 w nx]
    · rw [show DD = 99 + 1 from rfl, E114]
      simp only [bI_some, bV_some, bR_some, bL_some, ob_some, cd_t, cd_f, cd_d, okO_setI, okA_setI, okL_setI, aLen_setI, hR_setI, hI_setI, Bool.true_and, Bool.and_true, Bool.and_self, Option.isNone_some, Option.isSome_some, Option.isNone_none, Option.isSome_none, okO_chI, okA_chI, okL_chI, aLen_chI, hR_chI, ↓reduceIte, not_true_eq_false, not_false_eq_true, eq_self, c10, WMd w, N39 w nx]
/-! check -/
theorem V39 {rb dr : Nat} {jd : Option Nat} {h : rz_H} (w : Wf rb dr jd h) {A : Nat} (hA : isL A) (r1 : LaOk h A) (r2 : LaRel h A 110) {k : Nat} (hk : k < 8) (d : Nat) : cW (d + 2) 39 [rz_r (some 109), rz_i (nI k)] h = some (rz_i (bI1 (!decide (hI h 110 (256 + k) = 0))), h) := by
  obtain ⟨F, p, t, v, s, q, g, e, D⟩ := mkDv hA r1 r2 hk
  obtain ⟨d1, d2, d3, d4, d5, d6, d7, d8, d9, d10, d11, d12, d13, d14, d15, d16, d17, d18, d19, d20, d21⟩ := D
  have c4 : (0 : Int32) ≤ nI k ∧ nI k ≤ 7 := ⟨nI_pos' (by omega), nI_le (b := 7) (by omega) (by omega)⟩
  rw [E39, d15]
  rcases Nat.eq_zero_or_pos F with hF | hF
  · simp (disch := omega) only [bI_some, bV_some, bR_some, bL_some, ob_some, cd_t, cd_f, cd_d, okO_setI, okA_setI, okL_setI, aLen_setI, hR_setI, hI_setI, Bool.true_and, Bool.and_true, Bool.and_self, Option.isNone_some, Option.isSome_some, Option.isNone_none, Option.isSome_none, okO_chI, okA_chI, okL_chI, aLen_chI, hR_chI, ↓reduceIte, not_true_eq_false, not_false_eq_true, eq_self, c10, Nat.zero_add, nI_add, litA, litB, litM, nI_mul, nI_leI, nI_ltI, nI_eq, litLe, litLe2, litLt, litLt2, litEq, litEq2, in_nI, lit_in, nI_clamp, lit_cl, if_pos, if_neg, S33, WMd w, d15, bI1, hF, decide_true, Bool.not_true, Bool.false_eq_true]
  · have n0 : ¬ nI F = 0 := nI_ne0 hF (by omega)
    simp (disch := omega) only [bI_some, bV_some, bR_some, bL_some, ob_some, cd_t, cd_f, cd_d, okO_setI, okA_setI, okL_setI, aLen_setI, hR_setI, hI_setI, Bool.true_and, Bool.and_true, Bool.and_self, Option.isNone_some, Option.isSome_some, Option.isNone_none, Option.isSome_none, okO_chI, okA_chI, okL_chI, aLen_chI, hR_chI, ↓reduceIte, not_true_eq_false, not_false_eq_true, eq_self, c10, Nat.zero_add, nI_add, litA, litB, litM, nI_mul, nI_leI, nI_ltI, nI_eq, litLe, litLe2, litLt, litLt2, litEq, litEq2, in_nI, lit_in, nI_clamp, lit_cl, if_pos, if_neg, S33, WMd w, d15, bI1, n0, decide_false, Bool.not_false]
def due (h : rz_H) (k : Nat) : Int32 := if hI h (5 + 3 * k) 2 = 0 then 255 else hI h (5 + 3 * k) 3
theorem P30 (x : Int32) : Pr Rel 30 133 [rz_i x] := by
  intro h r
  obtain ⟨rb, dr, jd, w, r1, r2, r3, r4, r5⟩ := id r
  obtain ⟨n, t, T⟩ := mkTq r3
  have hn := T.1.1
  by_cases hx : 0 ≤ x ∧ x ≤ 8
  · obtain ⟨m, hm, rfl⟩ := nI_of2 (x := x) (M := 8) (n := 8) rfl (Int32.not_lt.mpr hx.1) hx.2
    have h1 := Int32.not_lt.mpr hx.1
    have h2 := Int32.not_lt.mpr hx.2
    by_cases hmn : m ≤ n
    · have c1 : nI m ≤ nI n := nI_le hmn (by omega)
      obtain ⟨hc, hc2, w1, k1, w2, k2, rel2, s272, e4, t4⟩ := clr2 w ⟨r1, r2, r3, r4, r5⟩ T
      have drm : ∀ k, k < 8 → (∃ F p t v s q g e, 0 < F ∧ Dv h (5 + 3 * k) k F p t v s q g e ∧ due h k = nI p) ∨ (Dn h (nI k) ∧ due h k = 255) := fun k hk => by
        rcases tlv r1 r2 (nI k) with ⟨k2, F, p, t, v, s, q, g, e, ek, h0, D⟩ | nx
        · have : k = k2 := (nI_eq (by omega) (by have := D.2.1; omega)).mp ek
          subst this
          refine Or.inl ⟨F, p, t, v, s, q, g, e, h0, D, ?_⟩
          obtain ⟨d1, d2, d3, d4, d5, d6, d7, d8, d9, d10, d11, d12, d13, d14, d15, d16, d17, d18, d19, d20, d21⟩ := D
          unfold due
          rw [d9, if_neg (nI_ne0 h0 (by omega))]; exact d10
        · refine Or.inr ⟨nx, ?_⟩
          unfold due
          rw [if_pos (nx k hk rfl).1]
      have lc := lp_jf (fun k (j : Option rz_V × Option rz_V) => rW 99 30 (16, (0, 0), [some (rz_r (some 0)), some (rz_i (nI m)), some (rz_i (-1)), some (rz_i (nI k)), j.1, j.2], [], h)) (fun k => some (rz_i (nI k), hc)) (some (rz_i (-1), hc)) (fun k => !decide (nI (t k) = due h k)) m (fun k j hk => by
        have at1 := T269 w T (i := k) (by omega)
        have nm1 : ¬ nI k = (-1) := fun e => by
          have := congrArg Int32.toInt e
          rw [nI_toInt (by omega)] at this
          exact absurd this (by have : (-1 : Int32).toInt = -1 := rfl; omega)
        have fin : ∀ j : Option rz_V × Option rz_V, rW 99 30 (16, (0, 0), [some (rz_r (some 0)), some (rz_i (nI m)), some (rz_i (nI k)), some (rz_i (nI (k + 1))), j.1, j.2], [], h) = some (rz_i (nI k), hc) := fun j => by
          rw [E30_16]
          by_cases hl : nI m ≤ nI (k + 1) <;> simp only [bI_some, bV_some, bR_some, bL_some, ob_some, cd_t, cd_f, cd_d, okO_setI, okA_setI, okL_setI, aLen_setI, hR_setI, hI_setI, Bool.true_and, Bool.and_true, Bool.and_self, Option.isNone_some, Option.isSome_some, Option.isNone_none, Option.isSome_none, okO_chI, okA_chI, okL_chI, aLen_chI, hR_chI, ↓reduceIte, not_true_eq_false, not_false_eq_true, eq_self, c10, hl, nm1, WRt w, s272]
        rcases drm k (by omega) with ⟨F, p, tt, v, s, q, g, e, h0, D, hd⟩ | ⟨nx, hd⟩
        · have dq := D.dq h0
          obtain ⟨d1, d2, d3, d4, d5, d6, d7, d8, d9, d10, d11, d12, d13, d14, d15, d16, d17, d18, d19, d20, d21⟩ := D
          rw [hd]
          refine ⟨fun hp => ?_, fun hp => ⟨(some (rz_r (some (5 + 3 * k))), some (rz_i (nI p))), ?_⟩⟩
          · have hp : ¬ nI (t k) = nI p := by simpa using hp
            rw [E30_16]
            simp (disch := omega) only [bI_some, bV_some, bR_some, bL_some, ob_some, cd_t, cd_f, cd_d, okO_setI, okA_setI, okL_setI, aLen_setI, hR_setI, hI_setI, Bool.true_and, Bool.and_true, Bool.and_self, Option.isNone_some, Option.isSome_some, Option.isNone_none, Option.isSome_none, okO_chI, okA_chI, okL_chI, aLen_chI, hR_chI, ↓reduceIte, not_true_eq_false, not_false_eq_true, eq_self, c10, nI_leI, if_neg, nI_1, WRt w, Q181 w dq, WD w d1, S137 w d1, d10, at1, hp]
            exact fin (some (rz_r (some (5 + 3 * k))), some (rz_i (nI p)))
          · have hp : nI (t k) = nI p := by simpa using hp
            rw [E30_16]
            simp (disch := omega) only [bI_some, bV_some, bR_some, bL_some, ob_some, cd_t, cd_f, cd_d, okO_setI, okA_setI, okL_setI, aLen_setI, hR_setI, hI_setI, Bool.true_and, Bool.and_true, Bool.and_self, Option.isNone_some, Option.isSome_some, Option.isNone_none, Option.isSome_none, okO_chI, okA_chI, okL_chI, aLen_chI, hR_chI, ↓reduceIte, not_true_eq_false, not_false_eq_true, eq_self, c10, nI_leI, if_neg, nI_1, WRt w, Q181 w dq, WD w d1, S137 w d1, d10, at1, hp]
        · rw [hd]
          refine ⟨fun hp => ?_, fun hp => ⟨(some (rz_r none), some (rz_i 255)), ?_⟩⟩
          · have hp : ¬ nI (t k) = 255 := by simpa using hp
            rw [E30_16]
            simp (disch := omega) only [bI_some, bV_some, bR_some, bL_some, ob_some, cd_t, cd_f, cd_d, okO_setI, okA_setI, okL_setI, aLen_setI, hR_setI, hI_setI, Bool.true_and, Bool.and_true, Bool.and_self, Option.isNone_some, Option.isSome_some, Option.isNone_none, Option.isSome_none, okO_chI, okA_chI, okL_chI, aLen_chI, hR_chI, ↓reduceIte, not_true_eq_false, not_false_eq_true, eq_self, c10, nI_leI, if_neg, nI_1, WRt w, N181 w nx, at1, hp]
            exact fin (some (rz_r none), some (rz_i 255))
          · have hp : nI (t k) = 255 := by simpa using hp
            rw [E30_16]
            simp (disch := omega) only [bI_some, bV_some, bR_some, bL_some, ob_some, cd_t, cd_f, cd_d, okO_setI, okA_setI, okL_setI, aLen_setI, hR_setI, hI_setI, Bool.true_and, Bool.and_true, Bool.and_self, Option.isNone_some, Option.isSome_some, Option.isNone_none, Option.isSome_none, okO_chI, okA_chI, okL_chI, aLen_chI, hR_chI, ↓reduceIte, not_true_eq_false, not_false_eq_true, eq_self, c10, nI_leI, if_neg, nI_1, WRt w, N181 w nx, at1, hp]) (fun j => by
        rw [E30_16]
        simp (disch := omega) only [bI_some, bV_some, bR_some, bL_some, ob_some, cd_t, cd_f, cd_d, okO_setI, okA_setI, okL_setI, aLen_setI, hR_setI, hI_setI, Bool.true_and, Bool.and_true, Bool.and_self, Option.isNone_some, Option.isSome_some, Option.isNone_none, Option.isSome_none, okO_chI, okA_chI, okL_chI, aLen_chI, hR_chI, ↓reduceIte, not_true_eq_false, not_false_eq_true, eq_self, c10, nI_leI, if_pos, WRt w, s272]) m 0 (none, none) (by omega)
      have lm := lp_jf (τ := Unit) (fun k _ => rW 99 133 (16, (0, 0), [some (rz_r (some 109)), some (rz_i (nI m)), some (rz_i (nI k))], [], hc2)) (fun k => some (rz_i (nI k), hc2)) (some (rz_i (-1), hc2)) (fun k => !decide (nI (t k) = due h k)) m (fun k j hk => by
        have at1 := T48 w2 (T.1.kc k2) (i := k) (by omega)
        rcases drm k (by omega) with ⟨F, p, tt, v, s, q, g, e, h0, D, hd⟩ | ⟨nx, hd⟩
        · have dq := (D.dq h0).kc k2
          have d16 : hI hc2 110 (264 + k) = nI p := (k2 _ _ (by omega) (by omega)).trans D.2.2.2.2.2.2.2.2.2.2.2.2.2.2.2.1
          rw [hd]
          refine ⟨fun hp => ?_, fun hp => ⟨(), ?_⟩⟩
          · have hp : ¬ nI (t k) = nI p := by simpa using hp
            rw [E133_16]
            simp (disch := omega) only [bI_some, bV_some, bR_some, bL_some, ob_some, cd_t, cd_f, cd_d, okO_setI, okA_setI, okL_setI, aLen_setI, hR_setI, hI_setI, Bool.true_and, Bool.and_true, Bool.and_self, Option.isNone_some, Option.isSome_some, Option.isNone_none, Option.isSome_none, okO_chI, okA_chI, okL_chI, aLen_chI, hR_chI, ↓reduceIte, not_true_eq_false, not_false_eq_true, eq_self, c10, litA, in_nI, nI_clamp, nI_leI, if_neg, nI_1, WMd w2, Q39 w2 dq, d16, at1, hp]
          · have hp : nI (t k) = nI p := by simpa using hp
            rw [E133_16]
            simp (disch := omega) only [bI_some, bV_some, bR_some, bL_some, ob_some, cd_t, cd_f, cd_d, okO_setI, okA_setI, okL_setI, aLen_setI, hR_setI, hI_setI, Bool.true_and, Bool.and_true, Bool.and_self, Option.isNone_some, Option.isSome_some, Option.isNone_none, Option.isSome_none, okO_chI, okA_chI, okL_chI, aLen_chI, hR_chI, ↓reduceIte, not_true_eq_false, not_false_eq_true, eq_self, c10, litA, in_nI, nI_clamp, nI_leI, if_neg, nI_1, WMd w2, Q39 w2 dq, d16, at1, hp]
        · rw [hd]
          refine ⟨fun hp => ?_, fun hp => ⟨(), ?_⟩⟩
          · have hp : ¬ nI (t k) = 255 := by simpa using hp
            rw [E133_16]
            simp (disch := omega) only [bI_some, bV_some, bR_some, bL_some, ob_some, cd_t, cd_f, cd_d, okO_setI, okA_setI, okL_setI, aLen_setI, hR_setI, hI_setI, Bool.true_and, Bool.and_true, Bool.and_self, Option.isNone_some, Option.isSome_some, Option.isNone_none, Option.isSome_none, okO_chI, okA_chI, okL_chI, aLen_chI, hR_chI, ↓reduceIte, not_true_eq_false, not_false_eq_true, eq_self, c10, nI_leI, if_neg, nI_1, WMd w2, N39 w2 (nx.kc k2), at1, hp]
          · have hp : nI (t k) = 255 := by simpa using hp
            rw [E133_16]
            simp (disch := omega) only [bI_some, bV_some, bR_some, bL_some, ob_some, cd_t, cd_f, cd_d, okO_setI, okA_setI, okL_setI, aLen_setI, hR_setI, hI_setI, Bool.true_and, Bool.and_true, Bool.and_self, Option.isNone_some, Option.isSome_some, Option.isNone_none, Option.isSome_none, okO_chI, okA_chI, okL_chI, aLen_chI, hR_chI, ↓reduceIte, not_true_eq_false, not_false_eq_true, eq_self, c10, nI_leI, if_neg, nI_1, WMd w2, N39 w2 (nx.kc k2), at1, hp]) (fun j => by
        rw [E133_16]
        simp (disch := omega) only [bI_some, bV_some, bR_some, bL_some, ob_some, cd_t, cd_f, cd_d, okO_setI, okA_setI, okL_setI, aLen_setI, hR_setI, hI_setI, Bool.true_and, Bool.and_true, Bool.and_self, Option.isNone_some, Option.isSome_some, Option.isNone_none, Option.isSome_none, okO_chI, okA_chI, okL_chI, aLen_chI, hR_chI, ↓reduceIte, not_true_eq_false, not_false_eq_true, eq_self, c10, nI_leI, if_pos]) m 0 () (by omega)
      refine ⟨oel nI (-1) (fst (fun k => !decide (nI (t k) = due h k)) 0 m), hc, hc2, ?_, ?_, (WMd w1).1, rel2⟩
      · rw [show DD = 99 + 1 from rfl, E30]
        simp only [bI_some, bV_some, bR_some, bL_some, ob_some, cd_t, cd_f, cd_d, okO_setI, okA_setI, okL_setI, aLen_setI, hR_setI, hI_setI, Bool.true_and, Bool.and_true, Bool.and_self, Option.isNone_some, Option.isSome_some, Option.isNone_none, Option.isSome_none, okO_chI, okA_chI, okL_chI, aLen_chI, hR_chI, ↓reduceIte, not_true_eq_false, not_false_eq_true, eq_self, c10, WRt w, S268 w, T.2.1, if_neg h1, if_neg h2, if_pos c1]
        refine Eq.trans lc ?_
        rw [oel_i]
      · rw [show DD = 99 + 1 from rfl, E133]
        simp only [bI_some, bV_some, bR_some, bL_some, ob_some, cd_t, cd_f, cd_d, okO_setI, okA_setI, okL_setI, aLen_setI, hR_setI, hI_setI, Bool.true_and, Bool.and_true, Bool.and_self, Option.isNone_some, Option.isSome_some, Option.isNone_none, Option.isSome_none, okO_chI, okA_chI, okL_chI, aLen_chI, hR_chI, ↓reduceIte, not_true_eq_false, not_false_eq_true, eq_self, c10, S33, if_pos hx, WMd w1, t4, if_pos c1, e4]
        refine Eq.trans lm ?_
        rw [oel_i]
    · have c1 : ¬ nI m ≤ nI n := nI_ge (by omega) (by omega)
      refine ⟨-2, h, h, ?_, ?_, (WMd w).1, r⟩
      · rw [show DD = 99 + 1 from rfl, E30]
        simp only [bI_some, bV_some, bR_some, bL_some, ob_some, cd_t, cd_f, cd_d, okO_setI, okA_setI, okL_setI, aLen_setI, hR_setI, hI_setI, Bool.true_and, Bool.and_true, Bool.and_self, Option.isNone_some, Option.isSome_some, Option.isNone_none, Option.isSome_none, okO_chI, okA_chI, okL_chI, aLen_chI, hR_chI, ↓reduceIte, not_true_eq_false, not_false_eq_true, eq_self, c10, WRt w, S268 w, T.2.1, if_neg h1, if_neg h2, if_neg c1]
      · rw [show DD = 99 + 1 from rfl, E133]
        simp only [bI_some, bV_some, bR_some, bL_some, ob_some, cd_t, cd_f, cd_d, okO_setI, okA_setI, okL_setI, aLen_setI, hR_setI, hI_setI, Bool.true_and, Bool.and_true, Bool.and_self, Option.isNone_some, Option.isSome_some, Option.isNone_none, Option.isSome_none, okO_chI, okA_chI, okL_chI, aLen_chI, hR_chI, ↓reduceIte, not_true_eq_false, not_false_eq_true, eq_self, c10, S33, if_pos hx, WMd w, T.2.2.1, if_neg c1]
  · refine ⟨-2, h, h, ?_, ?_, (WMd w).1, r⟩
    · rw [show DD = 99 + 1 from rfl, E30]
      by_cases h1 : x < 0
      · simp only [bI_some, bV_some, bR_some, bL_some, ob_some, cd_t, cd_f, cd_d, okO_setI, okA_setI, okL_setI, aLen_setI, hR_setI, hI_setI, Bool.true_and, Bool.and_true, Bool.and_self, Option.isNone_some, Option.isSome_some, Option.isNone_none, Option.isSome_none, okO_chI, okA_chI, okL_chI, aLen_chI, hR_chI, ↓reduceIte, not_true_eq_false, not_false_eq_true, eq_self, c10, if_pos h1]
      · have h2 : (8 : Int32) < x := Int32.not_le.mp fun e => hx ⟨Int32.not_lt.mp h1, e⟩
        simp only [bI_some, bV_some, bR_some, bL_some, ob_some, cd_t, cd_f, cd_d, okO_setI, okA_setI, okL_setI, aLen_setI, hR_setI, hI_setI, Bool.true_and, Bool.and_true, Bool.and_self, Option.isNone_some, Option.isSome_some, Option.isNone_none, Option.isSome_none, okO_chI, okA_chI, okL_chI, aLen_chI, hR_chI, ↓reduceIte, not_true_eq_false, not_false_eq_true, eq_self, c10, if_neg h1, if_pos h2]
    · rw [show DD = 99 + 1 from rfl, E133]
      simp only [bI_some, bV_some, bR_some, bL_some, ob_some, cd_t, cd_f, cd_d, okO_setI, okA_setI, okL_setI, aLen_setI, hR_setI, hI_setI, Bool.true_and, Bool.and_true, Bool.and_self, Option.isNone_some, Option.isSome_some, Option.isNone_none, Option.isSome_none, okO_chI, okA_chI, okL_chI, aLen_chI, hR_chI, ↓reduceIte, not_true_eq_false, not_false_eq_true, eq_self, c10, S33, if_neg hx]
