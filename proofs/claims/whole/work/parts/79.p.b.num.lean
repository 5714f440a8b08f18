/-! numbers in a text: both sides -/
def dgT (t : Nat → Nat) (L p : Nat) : Bool := decide (p < L ∧ 48 ≤ t p ∧ t p ≤ 57)
theorem dgT_t {t : Nat → Nat} {L p : Nat} (h : dgT t L p = true) : p < L ∧ 48 ≤ t p ∧ t p ≤ 57 := of_decide_eq_true h
theorem dgT_f {t : Nat → Nat} {L p : Nat} (h : ¬ dgT t L p = true) : ¬ (p < L ∧ 48 ≤ t p ∧ t p ≤ 57) := fun q => h (decide_eq_true q)
def rdn (t : Nat → Nat) (L : Nat) : Nat → Nat → Nat → Nat × Nat
  | 0, p, v => (p, v)
  | m + 1, p, v => if dgT t L p = true then rdn t L m (p + 1) (10 * v + t p - 48) else (p, v)
theorem rdn_s (t : Nat → Nat) (L m p v : Nat) : rdn t L (m + 1) p v = if dgT t L p = true then rdn t L m (p + 1) (10 * v + t p - 48) else (p, v) := rfl
theorem rdn_ok (t : Nat → Nat) (L : Nat) : ∀ m p v, p ≤ L → p ≤ (rdn t L m p v).1 ∧ (rdn t L m p v).1 ≤ L ∧ (rdn t L m p v).2 + 1 ≤ (v + 1) * 10 ^ m
  | 0, p, v, h => ⟨Nat.le_refl _, h, by show v + 1 ≤ (v + 1) * 1; omega⟩
  | m + 1, p, v, h => by
    rw [rdn_s]
    by_cases c : dgT t L p = true
    · rw [if_pos c]
      have q := dgT_t c
      obtain ⟨a, b, e⟩ := rdn_ok t L m (p + 1) (10 * v + t p - 48) q.1
      refine ⟨by omega, b, Nat.le_trans e ?_⟩
      rw [Nat.pow_succ, Nat.mul_comm (10 ^ m) 10, ← Nat.mul_assoc]
      exact Nat.mul_le_mul_right _ (by omega)
    · rw [if_neg c]
      refine ⟨Nat.le_refl _, h, ?_⟩
      exact Nat.le_mul_of_pos_right _ (Nat.pow_pos (by omega))
def numT (t : Nat → Nat) (L m p : Nat) : (Nat × Nat) ⊕ (Nat × Nat) := if dgT t L p = true then (if dgT t L (rdn t L m p 0).1 = true then Sum.inl (2, (rdn t L m p 0).1) else Sum.inr (rdn t L m p 0)) else Sum.inl (1, p)
theorem numT_ok (t : Nat → Nat) (L m p : Nat) (hp : p ≤ L) : (∃ e, numT t L m p = Sum.inl e ∧ 0 < e.1 ∧ e.1 < 10 ∧ e.2 ≤ L) ∨ (∃ q, numT t L m p = Sum.inr q ∧ p ≤ q.1 ∧ q.1 ≤ L ∧ q.2 + 1 ≤ 10 ^ m) := by
  have o := rdn_ok t L m p 0 hp
  unfold numT
  split
  · split
    · exact Or.inl ⟨_, rfl, by show 0 < 2; omega, by show 2 < 10; omega, o.2.1⟩
    · exact Or.inr ⟨_, rfl, o.1, o.2.1, by have := o.2.2; omega⟩
  · exact Or.inl ⟨_, rfl, by show 0 < 1; omega, by show 1 < 10; omega, hp⟩
theorem dg_lt {t : Nat → Nat} {L p : Nat} (hb : p < L → t p < 256) : (pkI t L p < 48 ∨ 57 < pkI t L p) ↔ ¬ dgT t L p = true := by
  have p48 : pkI t L p < 48 ↔ (p < L → t p < 48) := pkk_lt (m := 48) hb (by omega)
  have p57 : (57 : Int32) < pkI t L p ↔ p < L ∧ 57 < t p := pkk_gt (m := 57) hb (by omega)
  constructor
  · intro q c
    have c := dgT_t c
    rcases q with q | q
    · have := p48.mp q c.1
      omega
    · have := p57.mp q
      omega
  · intro c
    have c := dgT_f c
    by_cases z : pkI t L p < 48
    · exact Or.inl z
    · refine Or.inr (p57.mpr ?_)
      have hp : p < L := Classical.byContradiction fun y => z (p48.mpr fun x => absurd x y)
      have : ¬ t p < 48 := fun y => z (p48.mpr fun _ => y)
      exact ⟨hp, by omega⟩
def bD (t : Nat → Nat) (L p : Nat) : Int32 := if dgT t L p = true then 1 else 0
theorem R236 (d : Nat) (h : rz_H) {t : Nat → Nat} {L p : Nat} (hb : p < L → t p < 256) : cW (d + 1) 236 [rz_i (pkI t L p)] h = some (rz_i (bD t L p), h) := by
  have q := dg_lt hb
  unfold bD
  rw [E236]
  by_cases c : dgT t L p = true
  · rw [if_pos c]
    have n1 : ¬ pkI t L p < 48 := fun z => q.mp (Or.inl z) c
    have n2 : ¬ (57 : Int32) < pkI t L p := fun z => q.mp (Or.inr z) c
    simp only [bI_some, bV_some, bR_some, bL_some, ob_some, cd_t, cd_f, cd_d, okO_setI, okA_setI, okL_setI, aLen_setI, hR_setI, hI_setI, Bool.true_and, Bool.and_true, Bool.and_self, Option.isNone_some, Option.isSome_some, Option.isNone_none, Option.isSome_none, okO_chI, okA_chI, okL_chI, aLen_chI, hR_chI, ↓reduceIte, not_true_eq_false, not_false_eq_true, eq_self, c10, n1, n2]
  · rw [if_neg c]
    by_cases n1 : pkI t L p < 48
    · simp only [bI_some, bV_some, bR_some, bL_some, ob_some, cd_t, cd_f, cd_d, okO_setI, okA_setI, okL_setI, aLen_setI, hR_setI, hI_setI, Bool.true_and, Bool.and_true, Bool.and_self, Option.isNone_some, Option.isSome_some, Option.isNone_none, Option.isSome_none, okO_chI, okA_chI, okL_chI, aLen_chI, hR_chI, ↓reduceIte, not_true_eq_false, not_false_eq_true, eq_self, c10, n1]
    · have n2 : (57 : Int32) < pkI t L p := by
        rcases q.mpr c with z | z
        · exact absurd z n1
        · exact z
      simp only [bI_some, bV_some, bR_some, bL_some, ob_some, cd_t, cd_f, cd_d, okO_setI, okA_setI, okL_setI, aLen_setI, hR_setI, hI_setI, Bool.true_and, Bool.and_true, Bool.and_self, Option.isNone_some, Option.isSome_some, Option.isNone_none, Option.isSome_none, okO_chI, okA_chI, okL_chI, aLen_chI, hR_chI, ↓reduceIte, not_true_eq_false, not_false_eq_true, eq_self, c10, n1, n2]
theorem R236e (d : Nat) (h : rz_H) : cW (d + 1) 236 [rz_i (-1)] h = some (rz_i 0, h) := by
  have n1 : (-1 : Int32) < 48 := by decide
  rw [E236]
  simp only [bI_some, bV_some, bR_some, bL_some, ob_some, cd_t, cd_f, cd_d, okO_setI, okA_setI, okL_setI, aLen_setI, hR_setI, hI_setI, Bool.true_and, Bool.and_true, Bool.and_self, Option.isNone_some, Option.isSome_some, Option.isNone_none, Option.isSome_none, okO_chI, okA_chI, okL_chI, aLen_chI, hR_chI, ↓reduceIte, not_true_eq_false, not_false_eq_true, eq_self, c10, n1]
theorem bD_t {t : Nat → Nat} {L p : Nat} (h : dgT t L p = true) : bD t L p = 1 := if_pos h
theorem bD_f {t : Nat → Nat} {L p : Nat} (h : ¬ dgT t L p = true) : bD t L p = 0 := if_neg h
/-- a reader's state; and in a fault -/
def Rs (r : Nat) (h : rz_H) (L p : Nat) : Prop := hI h r 1 = nI L ∧ hI h r 2 = nI p ∧ hI h r 3 = 0
def Re (r : Nat) (h : rz_H) (e : Nat × Nat) : Prop := hI h r 3 = nI e.1 ∧ hI h r 4 = nI e.2
def Fr (r : Nat) (h h' : rz_H) : Prop := h'.2 = h.2 ∧ ∀ b i, ¬ (b = r ∧ 2 ≤ i ∧ i ≤ 4) → hI h' b i = hI h b i
theorem Fr.rfl (r : Nat) (h : rz_H) : Fr r h h := ⟨_root_.rfl, fun _ _ _ => _root_.rfl⟩
theorem Fr.tr {r : Nat} {h h1 h2 : rz_H} (a : Fr r h h1) (b : Fr r h1 h2) : Fr r h h2 := ⟨b.1.trans a.1, fun c i n => (b.2 c i n).trans (a.2 c i n)⟩
theorem Fr.go (r : Nat) (h : rz_H) (x : Int32) : Fr r h (setI h r 2 x) := ⟨_root_.rfl, fun b i n => by rw [hI_setI, if_neg (by omega)]⟩
theorem Fr.bl (r : Nat) (h : rz_H) (x y : Int32) : Fr r h (setI (setI h r 3 x) r 4 y) := ⟨_root_.rfl, fun b i n => by rw [hI_setI, if_neg (by omega), hI_setI, if_neg (by omega)]⟩
theorem Rs.go {r : Nat} {h : rz_H} {L p : Nat} (s : Rs r h L p) (q : Nat) : Rs r (setI h r 2 (nI q)) L q := ⟨by rw [hI_setI, if_neg (by omega)]; exact s.1, by rw [hI_setI, if_pos ⟨_root_.rfl, _root_.rfl⟩], by rw [hI_setI, if_neg (by omega)]; exact s.2.2⟩
theorem Re.bl (r : Nat) (h : rz_H) (f p : Nat) : Re r (setI (setI h r 3 (nI f)) r 4 (nI p)) (f, p) := ⟨by rw [hI_setI, if_neg (by omega), hI_setI, if_pos ⟨_root_.rfl, _root_.rfl⟩], by rw [hI_setI, if_pos ⟨_root_.rfl, _root_.rfl⟩]⟩
theorem Tq.q {h h' : rz_H} {N : Nat} {t : Nat → Nat} (T : Tq h N t) (f : ∀ b i, (b = 113 ∨ b = 1 ∨ b = 2 ∨ (b = 109 ∧ i = 4)) → hI h' b i = hI h b i) : Tq h' N t := ⟨⟨T.1.1, fun i hi => ⟨(T.1.2 i hi).1, by rw [f 113 i (by omega)]; exact (T.1.2 i hi).2⟩⟩, (f 1 1 (by omega)).trans T.2.1, (f 109 4 (by omega)).trans T.2.2.1, fun i hi => (f 2 i (by omega)).trans (T.2.2.2 i hi)⟩
theorem isR_n {r : Nat} (h : isR r) : r = 81 ∨ r = 88 ∨ r = 90 := h
theorem Tq.fr {h h' : rz_H} {N : Nat} {t : Nat → Nat} (T : Tq h N t) {r : Nat} (hr : isR r) (f : Fr r h h') : Tq h' N t := by
  have := isR_n hr
  exact T.q fun b i hb => f.2 b i (by omega)
theorem R235l {rb dr : Nat} {jd : Option Nat} {h0 : rz_H} (w0 : Wf rb dr jd h0) {r : Nat} (hr : isR r) {N : Nat} {t : Nat → Nat} (T0 : Tq h0 N t) {L : Nat} (hL : L ≤ N) {m : Nat} (hm : m < 10) (d : Nat) : ∀ c i h p v, i + c = m → Fr r h0 h → Rs r h L p → p + c < 900 → ∃ h' i', rW (d + 2) 235 (10, (0, 0), [some (rz_r (some r)), some (rz_i (nI m)), some (rz_i (nI v)), some (rz_i (nI i))], [], h) = rW (d + 2) 235 (30, (0, 0), [some (rz_r (some r)), some (rz_i (nI m)), some (rz_i (nI (rdn t L c p v).2)), some (rz_i i')], [], h') ∧ Fr r h0 h' ∧ Rs r h' L (rdn t L c p v).1 := by
  intro c
  induction c with
  | zero =>
    intro i h p v hi f s hp
    refine ⟨h, nI i, ?_, f, s⟩
    rw [X235_10]
    simp (disch := omega) only [↓cd_d, ↓irem_eq_mod, ↓ob_setI, ↓ob_chI, ↓ob_some, bI_some, bV_some, bR_some, bL_some, ob_some, cd_t, cd_f, okO_setI, okA_setI, okL_setI, aLen_setI, hR_setI, hI_setI, Bool.true_and, Bool.and_true, Bool.and_self, Option.isNone_some, Option.isSome_some, Option.isNone_none, Option.isSome_none, okO_chI, okA_chI, okL_chI, aLen_chI, hR_chI, ↓reduceIte, not_true_eq_false, not_false_eq_true, eq_self, c10, Nat.zero_add, nI_add, litA, litB, litM, nI_mul, nI_leI, nI_ltI, nI_eq, litLe, litLe2, litLt, litLt2, litEq, litEq2, in_nI, lit_in, nI_clamp, lit_cl, if_pos, if_neg]
    rfl
  | succ c ih =>
    intro i h p v hi f s hp
    have w : Wf rb dr jd h := w0.e f.1
    have T := T0.fr hr f
    have ok := (WRd w hr).1
    have hN := T.1.1
    have hb : p < L → t p < 256 := fun q => (T.1.2 p (by omega)).1
    have pk := fun d => R227 w hr T hL s.1 s.2.1 (by omega) s.2.2 d
    rw [rdn_s]
    by_cases q : dgT t L p = true
    · rw [if_pos q]
      have qq := dgT_t q
      obtain ⟨h', i', e, f', s'⟩ := ih (i + 1) (setI h r 2 (nI (p + 1))) (p + 1) (10 * v + t p - 48) (by omega) (f.tr (Fr.go r h _)) (s.go (p + 1)) (by omega)
      refine ⟨h', i', ?_, f', s'⟩
      rw [← e]
      have u : (10 : Int32) * nI v + nI (t p) - 48 = nI (10 * v + t p - 48) := by
        rw [show (10 : Int32) = nI 10 from rfl, nI_mul, nI_add]
        exact nI_sub (b := 48) (by omega)
      rw [X235_10]
      simp (disch := omega) only [↓cd_d, ↓irem_eq_mod, ↓ob_setI, ↓ob_chI, ↓ob_some, bI_some, bV_some, bR_some, bL_some, ob_some, cd_t, cd_f, okO_setI, okA_setI, okL_setI, aLen_setI, hR_setI, hI_setI, Bool.true_and, Bool.and_true, Bool.and_self, Option.isNone_some, Option.isSome_some, Option.isNone_none, Option.isSome_none, okO_chI, okA_chI, okL_chI, aLen_chI, hR_chI, ↓reduceIte, not_true_eq_false, not_false_eq_true, eq_self, c10, Nat.zero_add, nI_add, litA, litB, litM, nI_mul, nI_leI, nI_ltI, nI_eq, litLe, litLe2, litLt, litLt2, litEq, litEq2, in_nI, lit_in, nI_clamp, lit_cl, if_pos, if_neg]
      rw [X235_13, pk]
      simp only [bI_some, bV_some, bR_some, bL_some, ob_some, cd_t, cd_f, cd_d, okO_setI, okA_setI, okL_setI, aLen_setI, hR_setI, hI_setI, Bool.true_and, Bool.and_true, Bool.and_self, Option.isNone_some, Option.isSome_some, Option.isNone_none, Option.isSome_none, okO_chI, okA_chI, okL_chI, aLen_chI, hR_chI, ↓reduceIte, not_true_eq_false, not_false_eq_true, eq_self, c10, ok, R236 _ _ hb, bD_t q]
      rw [X235_17, pk, pkk_in qq.1]
      simp only [bI_some, bV_some, bR_some, bL_some, ob_some, cd_t, cd_f, cd_d, okO_setI, okA_setI, okL_setI, aLen_setI, hR_setI, hI_setI, Bool.true_and, Bool.and_true, Bool.and_self, Option.isNone_some, Option.isSome_some, Option.isNone_none, Option.isSome_none, okO_chI, okA_chI, okL_chI, aLen_chI, hR_chI, ↓reduceIte, not_true_eq_false, not_false_eq_true, eq_self, c10, ok, u, X235_26, R229 w hr s.2.1, X235_28, X235_29, nI_1]
    · rw [if_neg q]
      refine ⟨h, nI i, ?_, f, s⟩
      rw [X235_10]
      simp (disch := omega) only [↓cd_d, ↓irem_eq_mod, ↓ob_setI, ↓ob_chI, ↓ob_some, bI_some, bV_some, bR_some, bL_some, ob_some, cd_t, cd_f, okO_setI, okA_setI, okL_setI, aLen_setI, hR_setI, hI_setI, Bool.true_and, Bool.and_true, Bool.and_self, Option.isNone_some, Option.isSome_some, Option.isNone_none, Option.isSome_none, okO_chI, okA_chI, okL_chI, aLen_chI, hR_chI, ↓reduceIte, not_true_eq_false, not_false_eq_true, eq_self, c10, Nat.zero_add, nI_add, litA, litB, litM, nI_mul, nI_leI, nI_ltI, nI_eq, litLe, litLe2, litLt, litLt2, litEq, litEq2, in_nI, lit_in, nI_clamp, lit_cl, if_pos, if_neg]
      rw [X235_13, pk]
      simp only [bI_some, bV_some, bR_some, bL_some, ob_some, cd_t, cd_f, cd_d, okO_setI, okA_setI, okL_setI, aLen_setI, hR_setI, hI_setI, Bool.true_and, Bool.and_true, Bool.and_self, Option.isNone_some, Option.isSome_some, Option.isNone_none, Option.isSome_none, okO_chI, okA_chI, okL_chI, aLen_chI, hR_chI, ↓reduceIte, not_true_eq_false, not_false_eq_true, eq_self, c10, ok, R236 _ _ hb, bD_f q]
theorem R235 {rb dr : Nat} {jd : Option Nat} {h : rz_H} (w : Wf rb dr jd h) {r : Nat} (hr : isR r) {N : Nat} {t : Nat → Nat} (T : Tq h N t) {L : Nat} (hL : L ≤ N) {m : Nat} (h0 : 0 < m) (hm : m < 10) {p : Nat} (s : Rs r h L p) (hp : p ≤ L) (d : Nat) : ∃ v h', cW (d + 3) 235 [rz_r (some r), rz_i (nI m)] h = some (rz_i v, h') ∧ Fr r h h' ∧ ((∃ e, numT t L m p = Sum.inl e ∧ Re r h' e) ∨ (∃ q, numT t L m p = Sum.inr q ∧ Rs r h' L q.1 ∧ v = nI q.2)) := by
  have hN := T.1.1
  have ok := (WRd w hr).1
  have hb : p < L → t p < 256 := fun q => (T.1.2 p (by omega)).1
  have pk := fun d => R227 w hr T hL s.1 s.2.1 (by omega) s.2.2 d
  have o := rdn_ok t L m p 0 hp
  unfold numT
  by_cases q : dgT t L p = true
  · rw [if_pos q]
    obtain ⟨h', i', e, f', s'⟩ := R235l w hr T hL hm d m 0 h p 0 (by omega) (Fr.rfl r h) s (by omega)
    have w' : Wf rb dr jd h' := w.e f'.1
    have T' := T.fr hr f'
    have ok' := (WRd w' hr).1
    have pk' := fun d => R227 w' hr T' hL s'.1 s'.2.1 (by omega) s'.2.2 d
    have hb' : (rdn t L m p 0).1 < L → t (rdn t L m p 0).1 < 256 := fun q => (T.1.2 _ (by omega)).1
    have st : cW (d + 3) 235 [rz_r (some r), rz_i (nI m)] h = rW (d + 2) 235 (30, (0, 0), [some (rz_r (some r)), some (rz_i (nI m)), some (rz_i (nI (rdn t L m p 0).2)), some (rz_i i')], [], h') := by
      rw [← e, X235, X235_2, pk]
      simp only [bI_some, bV_some, bR_some, bL_some, ob_some, cd_t, cd_f, cd_d, okO_setI, okA_setI, okL_setI, aLen_setI, hR_setI, hI_setI, Bool.true_and, Bool.and_true, Bool.and_self, Option.isNone_some, Option.isSome_some, Option.isNone_none, Option.isSome_none, okO_chI, okA_chI, okL_chI, aLen_chI, hR_chI, ↓reduceIte, not_true_eq_false, not_false_eq_true, eq_self, c10, ok, R236 _ _ hb, bD_t q, X235_8]
      rfl
    generalize rdn t L m p 0 = z at *
    by_cases q2 : dgT t L z.1 = true
    · rw [if_pos q2]
      refine ⟨nI z.2, setI (setI h' r 3 2) r 4 (nI z.1), ?_, f'.tr (Fr.bl r h' _ _), Or.inl ⟨_, rfl, Re.bl r h' 2 _⟩⟩
      rw [st, X235_30, pk']
      simp only [bI_some, bV_some, bR_some, bL_some, ob_some, cd_t, cd_f, cd_d, okO_setI, okA_setI, okL_setI, aLen_setI, hR_setI, hI_setI, Bool.true_and, Bool.and_true, Bool.and_self, Option.isNone_some, Option.isSome_some, Option.isNone_none, Option.isSome_none, okO_chI, okA_chI, okL_chI, aLen_chI, hR_chI, ↓reduceIte, not_true_eq_false, not_false_eq_true, eq_self, c10, ok', R236 _ _ hb', bD_t q2, X235_34, s'.2.1, R231 w' hr s'.2.2, X235_39]
    · rw [if_neg q2]
      refine ⟨nI z.2, h', ?_, f', Or.inr ⟨_, rfl, s', rfl⟩⟩
      rw [st, X235_30, pk']
      simp only [bI_some, bV_some, bR_some, bL_some, ob_some, cd_t, cd_f, cd_d, okO_setI, okA_setI, okL_setI, aLen_setI, hR_setI, hI_setI, Bool.true_and, Bool.and_true, Bool.and_self, Option.isNone_some, Option.isSome_some, Option.isNone_none, Option.isSome_none, okO_chI, okA_chI, okL_chI, aLen_chI, hR_chI, ↓reduceIte, not_true_eq_false, not_false_eq_true, eq_self, c10, ok', R236 _ _ hb', bD_f q2, X235_39]
  · rw [if_neg q]
    refine ⟨0, setI (setI h r 3 1) r 4 (nI p), ?_, Fr.bl r h _ _, Or.inl ⟨_, rfl, Re.bl r h 1 p⟩⟩
    have w1 : Wf rb dr jd (setI (setI h r 3 1) r 4 (nI p)) := w
    have e3 : ¬ hI (setI (setI h r 3 1) r 4 (nI p)) r 3 = 0 := by
      rw [hI_setI, if_neg (by omega), hI_setI, if_pos ⟨rfl, rfl⟩]
      decide
    have n0 : ¬ nI m ≤ 0 := nI_nle h0 (by omega)
    have ok1 := (WRd w1 hr).1
    have e227 := fun d => R227e w1 hr e3 d
    rw [X235, X235_2, pk]
    simp only [bI_some, bV_some, bR_some, bL_some, ob_some, cd_t, cd_f, cd_d, okO_setI, okA_setI, okL_setI, aLen_setI, hR_setI, hI_setI, Bool.true_and, Bool.and_true, Bool.and_self, Option.isNone_some, Option.isSome_some, Option.isNone_none, Option.isSome_none, okO_chI, okA_chI, okL_chI, aLen_chI, hR_chI, ↓reduceIte, not_true_eq_false, not_false_eq_true, eq_self, c10, ok, R236 _ _ hb, bD_f q, X235_6, R232 w hr s.2.1 s.2.2, X235_8]
    generalize setI (setI h r 3 1) r 4 (nI p) = g at *
    rw [X235_10]
    simp only [bI_some, bV_some, bR_some, bL_some, ob_some, cd_t, cd_f, cd_d, okO_setI, okA_setI, okL_setI, aLen_setI, hR_setI, hI_setI, Bool.true_and, Bool.and_true, Bool.and_self, Option.isNone_some, Option.isSome_some, Option.isNone_none, Option.isSome_none, okO_chI, okA_chI, okL_chI, aLen_chI, hR_chI, ↓reduceIte, not_true_eq_false, not_false_eq_true, eq_self, c10, n0]
    rw [X235_13]
    simp only [bI_some, bV_some, bR_some, bL_some, ob_some, cd_t, cd_f, cd_d, okO_setI, okA_setI, okL_setI, aLen_setI, hR_setI, hI_setI, Bool.true_and, Bool.and_true, Bool.and_self, Option.isNone_some, Option.isSome_some, Option.isNone_none, Option.isSome_none, okO_chI, okA_chI, okL_chI, aLen_chI, hR_chI, ↓reduceIte, not_true_eq_false, not_false_eq_true, eq_self, c10, ok1, e227, R236e]
    rw [X235_30]
    simp only [bI_some, bV_some, bR_some, bL_some, ob_some, cd_t, cd_f, cd_d, okO_setI, okA_setI, okL_setI, aLen_setI, hR_setI, hI_setI, Bool.true_and, Bool.and_true, Bool.and_self, Option.isNone_some, Option.isSome_some, Option.isNone_none, Option.isSome_none, okO_chI, okA_chI, okL_chI, aLen_chI, hR_chI, ↓reduceIte, not_true_eq_false, not_false_eq_true, eq_self, c10, ok1, e227, R236e]
    rw [X235_39]
/-! the model's -/
def Fm (h h' : rz_H) : Prop := h'.2 = h.2 ∧ ∀ b i, ¬ (b = 109 ∧ (i = 5 ∨ i = 7 ∨ i = 8)) → hI h' b i = hI h b i
theorem Fm.rfl (h : rz_H) : Fm h h := ⟨_root_.rfl, fun _ _ _ => _root_.rfl⟩
theorem Fm.tr {h h1 h2 : rz_H} (a : Fm h h1) (b : Fm h1 h2) : Fm h h2 := ⟨b.1.trans a.1, fun c i n => (b.2 c i n).trans (a.2 c i n)⟩
theorem Fm.one {h : rz_H} {i : Nat} (hi : i = 5 ∨ i = 7 ∨ i = 8) (x : Int32) : Fm h (setI h 109 i x) := ⟨_root_.rfl, fun b j n => by rw [hI_setI, if_neg (by omega)]⟩
theorem MT.fm {h h' : rz_H} {N : Nat} {t : Nat → Nat} {L p q : Nat} (m : MT h N t L p) (f : ∀ b i, b = 113 ∨ (b = 109 ∧ i = 6) → hI h' b i = hI h b i) (e : hI h' 109 5 = nI q) (hq : q < 1000) : MT h' N t L q := ⟨⟨m.1.1, fun i hi => ⟨(m.1.2 i hi).1, by rw [f 113 i (Or.inl _root_.rfl)]; exact (m.1.2 i hi).2⟩⟩, m.2.1, (f 109 6 (by omega)).trans m.2.2.1, e, hq⟩
theorem K50 {rb dr : Nat} {jd : Option Nat} {h : rz_H} (w : Wf rb dr jd h) {N : Nat} {t : Nat → Nat} {L p : Nat} (m : MT h N t L p) (d : Nat) : cW (d + 2) 50 [rz_r (some 109)] h = some (rz_i (bD t L p), h) := by
  have q := dg_lt (m.b p)
  unfold bD
  rw [E50]
  by_cases c : dgT t L p = true
  · rw [if_pos c]
    have n1 : ¬ pkI t L p < 48 := fun z => q.mp (Or.inl z) c
    have n2 : ¬ (57 : Int32) < pkI t L p := fun z => q.mp (Or.inr z) c
    simp only [bI_some, bV_some, bR_some, bL_some, ob_some, cd_t, cd_f, cd_d, okO_setI, okA_setI, okL_setI, aLen_setI, hR_setI, hI_setI, Bool.true_and, Bool.and_true, Bool.and_self, Option.isNone_some, Option.isSome_some, Option.isNone_none, Option.isSome_none, okO_chI, okA_chI, okL_chI, aLen_chI, hR_chI, ↓reduceIte, not_true_eq_false, not_false_eq_true, eq_self, c10, WMd w, K49 w m, n1, n2]
  · rw [if_neg c]
    by_cases n1 : pkI t L p < 48
    · simp only [bI_some, bV_some, bR_some, bL_some, ob_some, cd_t, cd_f, cd_d, okO_setI, okA_setI, okL_setI, aLen_setI, hR_setI, hI_setI, Bool.true_and, Bool.and_true, Bool.and_self, Option.isNone_some, Option.isSome_some, Option.isNone_none, Option.isSome_none, okO_chI, okA_chI, okL_chI, aLen_chI, hR_chI, ↓reduceIte, not_true_eq_false, not_false_eq_true, eq_self, c10, WMd w, K49 w m, n1]
    · have n2 : (57 : Int32) < pkI t L p := by
        rcases q.mpr c with z | z
        · exact absurd z n1
        · exact z
      simp only [bI_some, bV_some, bR_some, bL_some, ob_some, cd_t, cd_f, cd_d, okO_setI, okA_setI, okL_setI, aLen_setI, hR_setI, hI_setI, Bool.true_and, Bool.and_true, Bool.and_self, Option.isNone_some, Option.isSome_some, Option.isNone_none, Option.isSome_none, okO_chI, okA_chI, okL_chI, aLen_chI, hR_chI, ↓reduceIte, not_true_eq_false, not_false_eq_true, eq_self, c10, WMd w, K49 w m, n1, n2]
theorem K80l {rb dr : Nat} {jd : Option Nat} {h0 : rz_H} (w0 : Wf rb dr jd h0) {N : Nat} {t : Nat → Nat} {L : Nat} (x : Int32) {p0 : Nat} (hp0 : p0 < 900) (d : Nat) : ∀ c i h p v, i + c = 3 → p = p0 + i → Fm h0 h → MT h N t L p → hI h 109 8 = nI v → p ≤ L → L < 900 → ∃ h', Fm h0 h' ∧ ((dgT t L (rdn t L c p v).1 = true ∧ rW (d + 2) 80 (15, (0, 0), [some (rz_r (some 109)), some (rz_i x), some (rz_i (nI p0))], [], h) = some (rz_i 0, h') ∧ hI h' 109 7 = erI 2 (rdn t L c p v).1) ∨ (¬ dgT t L (rdn t L c p v).1 = true ∧ rW (d + 2) 80 (15, (0, 0), [some (rz_r (some 109)), some (rz_i x), some (rz_i (nI p0))], [], h) = rW (d + 2) 80 (48, (0, 0), [some (rz_r (some 109)), some (rz_i x), some (rz_i (nI p0))], [], h') ∧ MT h' N t L (rdn t L c p v).1 ∧ hI h' 109 8 = nI (rdn t L c p v).2)) := by
  intro c
  induction c with
  | zero =>
    intro i h p v hi hp f m e8 hpL hL
    have w : Wf rb dr jd h := w0.e f.1
    by_cases q : dgT t L p = true
    · refine ⟨setI h 109 7 (erI 2 p), f.tr (Fm.one (by omega) _), Or.inl ⟨q, ?_, by rw [hI_setI, if_pos ⟨rfl, rfl⟩]; rfl⟩⟩
      have k51 := fun d => K51 w 2 p d
      rw [show nI 2 = (2 : Int32) from rfl] at k51
      have u : nI p0 + 3 = nI p := by
        rw [show (3 : Int32) = nI 3 from rfl, nI_add]
        congr 1
        omega
      rw [X80_15]
      simp only [bI_some, bV_some, bR_some, bL_some, ob_some, cd_t, cd_f, cd_d, okO_setI, okA_setI, okL_setI, aLen_setI, hR_setI, hI_setI, Bool.true_and, Bool.and_true, Bool.and_self, Option.isNone_some, Option.isSome_some, Option.isNone_none, Option.isSome_none, okO_chI, okA_chI, okL_chI, aLen_chI, hR_chI, ↓reduceIte, not_true_eq_false, not_false_eq_true, eq_self, c10, WMd w, K50 w m, bD_t q, c10, X80_18, m.2.2.2.1, u, X80_24, k51]
      rfl
    · refine ⟨h, f, Or.inr ⟨q, ?_, m, e8⟩⟩
      rw [X80_15]
      simp only [bI_some, bV_some, bR_some, bL_some, ob_some, cd_t, cd_f, cd_d, okO_setI, okA_setI, okL_setI, aLen_setI, hR_setI, hI_setI, Bool.true_and, Bool.and_true, Bool.and_self, Option.isNone_some, Option.isSome_some, Option.isNone_none, Option.isSome_none, okO_chI, okA_chI, okL_chI, aLen_chI, hR_chI, ↓reduceIte, not_true_eq_false, not_false_eq_true, eq_self, c10, WMd w, K50 w m, bD_f q]
  | succ c ih =>
    intro i h p v hi hp f m e8 hpL hL
    have w : Wf rb dr jd h := w0.e f.1
    rw [rdn_s]
    by_cases q : dgT t L p = true
    · have qq := dgT_t q
      rw [if_pos q]
      let h1 := setI h 109 8 (nI (10 * v + t p - 48))
      let h2 := setI h1 109 5 (nI (p + 1))
      have w1 : Wf rb dr jd h1 := w
      have w2 : Wf rb dr jd h2 := w
      obtain ⟨h', f', o⟩ := ih (i + 1) h2 (p + 1) (10 * v + t p - 48) (by omega) (by omega) (f.tr ((Fm.one (by omega) _).tr (Fm.one (by omega) _))) (m.fm (fun b i hb => by show hI (setI (setI h 109 8 _) 109 5 _) b i = _; rw [hI_setI, if_neg (by omega), hI_setI, if_neg (by omega)]) (by show hI (setI h1 109 5 _) 109 5 = _; rw [hI_setI, if_pos ⟨rfl, rfl⟩]) (by omega)) (by show hI (setI (setI h 109 8 _) 109 5 _) 109 8 = _; rw [hI_setI, if_neg (by omega), hI_setI, if_pos ⟨rfl, rfl⟩]) (by omega) hL
      have e15 : rW (d + 2) 80 (15, (0, 0), [some (rz_r (some 109)), some (rz_i x), some (rz_i (nI p0))], [], h) = rW (d + 2) 80 (15, (0, 0), [some (rz_r (some 109)), some (rz_i x), some (rz_i (nI p0))], [], h2) := by
        have u : ¬ nI p = nI p0 + 3 := by
          rw [show (3 : Int32) = nI 3 from rfl, nI_add, nI_eq (by omega) (by omega)]
          omega
        have u2 : (10 : Int32) * nI v + nI (t p) - 48 = nI (10 * v + t p - 48) := by
          rw [show (10 : Int32) = nI 10 from rfl, nI_mul, nI_add]
          exact nI_sub (b := 48) (by omega)
        have v5 : hI h1 109 5 = nI p := by
          show hI (setI h 109 8 _) 109 5 = _
          rw [hI_setI, if_neg (by omega)]
          exact m.2.2.2.1
        rw [X80_15]
        simp only [bI_some, bV_some, bR_some, bL_some, ob_some, cd_t, cd_f, cd_d, okO_setI, okA_setI, okL_setI, aLen_setI, hR_setI, hI_setI, Bool.true_and, Bool.and_true, Bool.and_self, Option.isNone_some, Option.isSome_some, Option.isNone_none, Option.isSome_none, okO_chI, okA_chI, okL_chI, aLen_chI, hR_chI, ↓reduceIte, not_true_eq_false, not_false_eq_true, eq_self, c10, WMd w, K50 w m, bD_t q, c10]
        rw [X80_18]
        simp only [bI_some, bV_some, bR_some, bL_some, ob_some, cd_t, cd_f, cd_d, okO_setI, okA_setI, okL_setI, aLen_setI, hR_setI, hI_setI, Bool.true_and, Bool.and_true, Bool.and_self, Option.isNone_some, Option.isSome_some, Option.isNone_none, Option.isSome_none, okO_chI, okA_chI, okL_chI, aLen_chI, hR_chI, ↓reduceIte, not_true_eq_false, not_false_eq_true, eq_self, c10, WMd w, m.2.2.2.1, u]
        rw [X80_30]
        simp only [bI_some, bV_some, bR_some, bL_some, ob_some, cd_t, cd_f, cd_d, okO_setI, okA_setI, okL_setI, aLen_setI, hR_setI, hI_setI, Bool.true_and, Bool.and_true, Bool.and_self, Option.isNone_some, Option.isSome_some, Option.isNone_none, Option.isSome_none, okO_chI, okA_chI, okL_chI, aLen_chI, hR_chI, ↓reduceIte, not_true_eq_false, not_false_eq_true, eq_self, c10, WMd w, K49 w m, pkk_in qq.1, e8, u2]
        rw [show setI h 109 8 (nI (10 * v + t p - 48)) = h1 from rfl, X80_41]
        simp only [cd_t, (WMd w1).1, v5, nI_1]
        rw [show setI h1 109 5 (nI (p + 1)) = h2 from rfl, X80_47]
      refine ⟨h', f', ?_⟩
      rw [e15]
      exact o
    · rw [if_neg q]
      refine ⟨h, f, Or.inr ⟨q, ?_, m, e8⟩⟩
      rw [X80_15]
      simp only [bI_some, bV_some, bR_some, bL_some, ob_some, cd_t, cd_f, cd_d, okO_setI, okA_setI, okL_setI, aLen_setI, hR_setI, hI_setI, Bool.true_and, Bool.and_true, Bool.and_self, Option.isNone_some, Option.isSome_some, Option.isNone_none, Option.isSome_none, okO_chI, okA_chI, okL_chI, aLen_chI, hR_chI, ↓reduceIte, not_true_eq_false, not_false_eq_true, eq_self, c10, WMd w, K50 w m, bD_f q]
theorem K80 {rb dr : Nat} {jd : Option Nat} {h : rz_H} (w : Wf rb dr jd h) {N : Nat} {t : Nat → Nat} {L p : Nat} (m : MT h N t L p) (hp : p ≤ L) (hL : L < 900) {hi : Nat} (hh : hi < 1000) (d : Nat) : ∃ h', Fm h h' ∧ ((∃ e, numT t L 3 p = Sum.inl e ∧ cW (d + 3) 80 [rz_r (some 109), rz_i (nI hi)] h = some (rz_i 0, h') ∧ hI h' 109 7 = erI e.1 e.2) ∨ (∃ q, numT t L 3 p = Sum.inr q ∧ ((q.2 ≤ hi ∧ cW (d + 3) 80 [rz_r (some 109), rz_i (nI hi)] h = some (rz_i 1, h') ∧ MT h' N t L q.1 ∧ hI h' 109 8 = nI q.2) ∨ (¬ q.2 ≤ hi ∧ cW (d + 3) 80 [rz_r (some 109), rz_i (nI hi)] h = some (rz_i 0, h') ∧ hI h' 109 7 = erI 3 p)))) := by
  have o := rdn_ok t L 3 p 0 hp
  unfold numT
  have st : cW (d + 3) 80 [rz_r (some 109), rz_i (nI hi)] h = rW (d + 2) 80 (3, (0, 0), [some (rz_r (some 109)), some (rz_i (nI hi)), some (rz_i (nI p))], [], h) := by
    rw [X80]
    simp only [bI_some, bV_some, bR_some, bL_some, ob_some, cd_t, cd_f, cd_d, okO_setI, okA_setI, okL_setI, aLen_setI, hR_setI, hI_setI, Bool.true_and, Bool.and_true, Bool.and_self, Option.isNone_some, Option.isSome_some, Option.isNone_none, Option.isSome_none, okO_chI, okA_chI, okL_chI, aLen_chI, hR_chI, ↓reduceIte, not_true_eq_false, not_false_eq_true, eq_self, c10, WMd w, m.2.2.2.1]
  by_cases q : dgT t L p = true
  · rw [if_pos q]
    let h1 := setI h 109 8 0
    have w1 : Wf rb dr jd h1 := w
    have m1 : MT h1 N t L p := m.fm (fun b i hb => by show hI (setI h 109 8 0) b i = _; rw [hI_setI, if_neg (by omega)]) (by show hI (setI h 109 8 0) 109 5 = _; rw [hI_setI, if_neg (by omega)]; exact m.2.2.2.1) m.2.2.2.2
    obtain ⟨h', f', c⟩ := K80l w (N := N) (t := t) (L := L) (nI hi) (p0 := p) (by omega) d 3 0 h1 p 0 (by omega) (by omega) (Fm.one (by omega) _) m1 (by show hI (setI h 109 8 0) 109 8 = _; rw [hI_setI, if_pos ⟨rfl, rfl⟩]; rfl) hp hL
    have w' : Wf rb dr jd h' := w.e f'.1
    have st2 : rW (d + 2) 80 (3, (0, 0), [some (rz_r (some 109)), some (rz_i (nI hi)), some (rz_i (nI p))], [], h) = rW (d + 2) 80 (15, (0, 0), [some (rz_r (some 109)), some (rz_i (nI hi)), some (rz_i (nI p))], [], h1) := by
      rw [X80_3]
      simp only [bI_some, bV_some, bR_some, bL_some, ob_some, cd_t, cd_f, cd_d, okO_setI, okA_setI, okL_setI, aLen_setI, hR_setI, hI_setI, Bool.true_and, Bool.and_true, Bool.and_self, Option.isNone_some, Option.isSome_some, Option.isNone_none, Option.isSome_none, okO_chI, okA_chI, okL_chI, aLen_chI, hR_chI, ↓reduceIte, not_true_eq_false, not_false_eq_true, eq_self, c10, WMd w, K50 w m, bD_t q, c10]
      rw [X80_12]
      simp only [bI_some, bV_some, bR_some, bL_some, ob_some, cd_t, cd_f, cd_d, okO_setI, okA_setI, okL_setI, aLen_setI, hR_setI, hI_setI, Bool.true_and, Bool.and_true, Bool.and_self, Option.isNone_some, Option.isSome_some, Option.isNone_none, Option.isSome_none, okO_chI, okA_chI, okL_chI, aLen_chI, hR_chI, ↓reduceIte, not_true_eq_false, not_false_eq_true, eq_self, c10, WMd w]
      rfl
    generalize rdn t L 3 p 0 = z at *
    rcases c with ⟨c1, c2, c3⟩ | ⟨c1, c2, c3, c4⟩
    · rw [if_pos c1]
      exact ⟨h', f', Or.inl ⟨_, rfl, by rw [st, st2]; exact c2, c3⟩⟩
    · rw [if_neg c1]
      by_cases g : z.2 ≤ hi
      · refine ⟨h', f', Or.inr ⟨_, rfl, Or.inl ⟨g, ?_, c3, c4⟩⟩⟩
        have g1 : nI z.2 ≤ nI hi := nI_le g (by omega)
        rw [st, st2, c2, X80_48]
        simp only [bI_some, bV_some, bR_some, bL_some, ob_some, cd_t, cd_f, cd_d, okO_setI, okA_setI, okL_setI, aLen_setI, hR_setI, hI_setI, Bool.true_and, Bool.and_true, Bool.and_self, Option.isNone_some, Option.isSome_some, Option.isNone_none, Option.isSome_none, okO_chI, okA_chI, okL_chI, aLen_chI, hR_chI, ↓reduceIte, not_true_eq_false, not_false_eq_true, eq_self, c10, WMd w', c4, g1, X80_57]
      · refine ⟨setI h' 109 7 (erI 3 p), f'.tr (Fm.one (by omega) _), Or.inr ⟨_, rfl, Or.inr ⟨g, ?_, by rw [hI_setI, if_pos ⟨rfl, rfl⟩]⟩⟩⟩
        have g1 : ¬ nI z.2 ≤ nI hi := nI_ge (by omega) (by omega)
        have k51 := fun d => K51 w' 3 p d
        rw [show nI 3 = (3 : Int32) from rfl] at k51
        rw [st, st2, c2, X80_48]
        simp only [bI_some, bV_some, bR_some, bL_some, ob_some, cd_t, cd_f, cd_d, okO_setI, okA_setI, okL_setI, aLen_setI, hR_setI, hI_setI, Bool.true_and, Bool.and_true, Bool.and_self, Option.isNone_some, Option.isSome_some, Option.isNone_none, Option.isSome_none, okO_chI, okA_chI, okL_chI, aLen_chI, hR_chI, ↓reduceIte, not_true_eq_false, not_false_eq_true, eq_self, c10, WMd w', c4, g1, X80_52, k51, X80_59]
  · rw [if_neg q]
    refine ⟨setI h 109 7 (erI 1 p), Fm.one (by omega) _, Or.inl ⟨_, rfl, ?_, by rw [hI_setI, if_pos ⟨rfl, rfl⟩]⟩⟩
    have k51 := fun d => K51 w 1 p d
    rw [show nI 1 = (1 : Int32) from rfl] at k51
    rw [st, X80_3]
    simp only [bI_some, bV_some, bR_some, bL_some, ob_some, cd_t, cd_f, cd_d, okO_setI, okA_setI, okL_setI, aLen_setI, hR_setI, hI_setI, Bool.true_and, Bool.and_true, Bool.and_self, Option.isNone_some, Option.isSome_some, Option.isNone_none, Option.isSome_none, okO_chI, okA_chI, okL_chI, aLen_chI, hR_chI, ↓reduceIte, not_true_eq_false, not_false_eq_true, eq_self, c10, WMd w, K50 w m, bD_f q, X80_6, m.2.2.2.1, k51]
    rfl
