/-! a drum's text: the class's reader -/
def tmT (t : Nat → Nat) (L p : Nat) : Nat × Nat := if p < L ∧ 50 ≤ t p ∧ t p ≤ 57 then (t p - 48, p + 1) else (1, p)
theorem tmT_ok {t : Nat → Nat} {L p : Nat} (hp : p ≤ L) : 0 < (tmT t L p).1 ∧ (tmT t L p).1 ≤ 9 ∧ p ≤ (tmT t L p).2 ∧ (tmT t L p).2 ≤ L := by
  unfold tmT
  split
  · rename_i c
    exact ⟨by show 0 < t p - 48; omega, by show t p - 48 ≤ 9; omega, by show p ≤ p + 1; omega, c.1⟩
  · exact ⟨by show 0 < 1; omega, by show 1 ≤ 9; omega, Nat.le_refl _, hp⟩
/-- a fault and its place; or the place, the row, how many -/
abbrev RR : Type := (Nat × Nat) ⊕ (Nat × (Nat → Nat) × Nat)
def fil (span i : Nat) (row : Nat → Nat) : Nat → Nat := fun j => if j = i then row (i - span) else row j
def udn (row : Nat → Nat) (i c : Nat) : Nat → Nat := fun j => if j = i then c else row j
def repT (p : Nat) (row : Nat → Nat) (start span times first : Nat) : RR := if 16 < start + span * times then Sum.inl (6, first) else Sum.inr (p, itr (fil span) (start + span) (span * times - span) row, start + span * times)
def rbd (r : RR) (f : Nat → (Nat → Nat) → Nat → RR) : RR := match r with
  | .inl e => Sum.inl e
  | .inr q => f q.1 q.2.1 q.2.2
def rlp (it : Nat → (Nat → Nat) → Nat → RR) (cl : Nat → Bool) : Nat → Nat → (Nat → Nat) → Nat → RR
  | 0, p, row, size => Sum.inr (p, row, size)
  | f + 1, p, row, size => if cl p = true then Sum.inr (p, row, size) else rbd (it p row size) (rlp it cl f)
/-- where a row ends: outside at the end, inside at a bracket -/
def clT (t : Nat → Nat) (L : Nat) (ins : Bool) (p : Nat) : Bool := if ins = true then decide (p < L ∧ t p = 41) else decide (¬ p < L)
def frT (t : Nat → Nat) (L p first times : Nat) (row : Nat → Nat) (size : Nat) : RR := match pcT t L p with
  | none => Sum.inl (1, p)
  | some c => repT (p + 1) (udn row size c) size 1 times first
def itm (t : Nat → Nat) (L : Nat) : Nat → Nat → (Nat → Nat) → Nat → RR
  | 0, p, row, size => if (tmT t L p).2 < L ∧ t (tmT t L p).2 = 40 then Sum.inl (5, (tmT t L p).2) else frT t L (tmT t L p).2 p (tmT t L p).1 row size
  | k + 1, p, row, size => if (tmT t L p).2 < L ∧ t (tmT t L p).2 = 40 then rbd (rbd (itm t L k ((tmT t L p).2 + 1) row size) (rlp (itm t L k) (clT t L true) 60)) (fun p2 row2 size2 => if p2 < L ∧ t p2 = 41 then repT (p2 + 1) row2 size (size2 - size) (tmT t L p).1 p else Sum.inl (1, p2)) else frT t L (tmT t L p).2 p (tmT t L p).1 row size
/-- what a piece that was read leaves -/
def rOk (L p size : Nat) (r : RR) : Prop := match r with
  | .inl e => 0 < e.1 ∧ e.1 < 10 ∧ e.2 ≤ L
  | .inr q => p < q.1 ∧ q.1 ≤ L ∧ size < q.2.2 ∧ q.2.2 ≤ 16
def rOk' (L p size : Nat) (r : RR) : Prop := match r with
  | .inl e => 0 < e.1 ∧ e.1 < 10 ∧ e.2 ≤ L
  | .inr q => p ≤ q.1 ∧ q.1 ≤ L ∧ size ≤ q.2.2 ∧ q.2.2 ≤ 16
theorem repT_ok {L p p0 size start span times first : Nat} {row : Nat → Nat} (h1 : p0 < p) (h2 : p ≤ L) (hs : start = size) (h3 : 0 < span) (h4 : 0 < times) (hf : first ≤ L) : rOk L p0 size (repT p row start span times first) := by
  unfold repT
  have : span ≤ span * times := Nat.le_mul_of_pos_right _ h4
  split
  · exact ⟨by show 0 < 6; omega, by show 6 < 10; omega, hf⟩
  · exact ⟨h1, h2, by show size < start + span * times; omega, by show start + span * times ≤ 16; omega⟩
theorem frT_ok {t : Nat → Nat} {L p p0 first times size : Nat} {row : Nat → Nat} (h1 : p0 ≤ p) (h2 : p ≤ L) (h4 : 0 < times) (hf : first ≤ L) : rOk L p0 size (frT t L p first times row size) := by
  unfold frT
  split
  · exact ⟨by show 0 < 1; omega, by show 1 < 10; omega, h2⟩
  · rename_i c hc
    have := (pcT_le hc).2
    exact repT_ok (by omega) (by omega) rfl (by omega) h4 hf
theorem rlp_ok {L : Nat} {it : Nat → (Nat → Nat) → Nat → RR} (hit : ∀ p row size, p ≤ L → size ≤ 16 → rOk L p size (it p row size)) (cl : Nat → Bool) : ∀ f p row size, p ≤ L → size ≤ 16 → rOk' L p size (rlp it cl f p row size)
  | 0, p, row, size, h1, h2 => ⟨Nat.le_refl _, h1, Nat.le_refl _, h2⟩
  | f + 1, p, row, size, h1, h2 => by
    unfold rlp
    split
    · exact ⟨Nat.le_refl _, h1, Nat.le_refl _, h2⟩
    · have o := hit p row size h1 h2
      generalize it p row size = z at o ⊢
      rcases z with e | ⟨p', row', size'⟩
      · exact o
      · obtain ⟨o1, o2, o3, o4⟩ := o
        have o1 : p < p' := o1
        have o2 : p' ≤ L := o2
        have o3 : size < size' := o3
        have o4 : size' ≤ 16 := o4
        have q := rlp_ok hit cl f p' row' size' o2 o4
        show rOk' L p size (rlp it cl f p' row' size')
        generalize rlp it cl f p' row' size' = z at q ⊢
        rcases z with e | ⟨p2, row2, size2⟩
        · exact q
        · obtain ⟨q1, q2, q3, q4⟩ := q
          exact ⟨Nat.le_trans (Nat.le_of_lt o1) q1, q2, Nat.le_trans (Nat.le_of_lt o3) q3, q4⟩
theorem itm_ok (t : Nat → Nat) (L : Nat) : ∀ k p row size, p ≤ L → size ≤ 16 → rOk L p size (itm t L k p row size)
  | 0, p, row, size, h1, h2 => by
    obtain ⟨a1, a2, a3, a4⟩ := tmT_ok (t := t) h1
    unfold itm
    split
    · exact ⟨by show 0 < 5; omega, by show 5 < 10; omega, a4⟩
    · exact frT_ok a3 a4 a1 h1
  | k + 1, p, row, size, h1, h2 => by
    obtain ⟨a1, a2, a3, a4⟩ := tmT_ok (t := t) h1
    unfold itm
    split
    · rename_i c
      have o := itm_ok t L k ((tmT t L p).2 + 1) row size c.1 h2
      generalize itm t L k ((tmT t L p).2 + 1) row size = z at o ⊢
      rcases z with e | ⟨p', row', size'⟩
      · exact o
      · obtain ⟨o1, o2, o3, o4⟩ := o
        have o1 : (tmT t L p).2 + 1 < p' := o1
        have o3 : size < size' := o3
        have q := rlp_ok (itm_ok t L k) (clT t L true) 60 p' row' size' o2 o4
        show rOk L p size (rbd (rlp (itm t L k) (clT t L true) 60 p' row' size') _)
        generalize rlp (itm t L k) (clT t L true) 60 p' row' size' = z at q ⊢
        rcases z with e | ⟨p2, row2, size2⟩
        · exact q
        · obtain ⟨q1, q2, q3, q4⟩ := q
          have q1 : p' ≤ p2 := q1
          have q2 : p2 ≤ L := q2
          have q3 : size' ≤ size2 := q3
          show rOk L p size (if p2 < L ∧ t p2 = 41 then repT (p2 + 1) row2 size (size2 - size) (tmT t L p).1 p else Sum.inl (1, p2))
          split
          · rename_i c2
            exact repT_ok (by omega) (by omega) rfl (by omega) a1 h1
          · exact ⟨by show 0 < 1; omega, by show 1 < 10; omega, q2⟩
    · exact frT_ok a3 a4 a1 h1
/-! the class's cells -/
def DS (h0 : rz_H) (L : Nat) (h : rz_H) (p : Nat) (row : Nat → Nat) (size : Nat) : Prop := h.2 = h0.2 ∧ hI h 88 1 = nI L ∧ hI h 88 2 = nI p ∧ hI h 88 3 = 0 ∧ hI h 88 6 = nI size ∧ (∀ i, i < 16 → hI h 89 i = nI (row i)) ∧ ∀ b i, b ≠ 88 → b ≠ 89 → hI h b i = hI h0 b i
def DE (h0 : rz_H) (h : rz_H) (f fp : Nat) : Prop := h.2 = h0.2 ∧ hI h 88 3 = nI f ∧ hI h 88 4 = nI fp ∧ ∀ b i, b ≠ 88 → b ≠ 89 → hI h b i = hI h0 b i
def DP (h0 : rz_H) (L : Nat) (h : rz_H) (r : RR) : Prop := match r with
  | .inl e => DE h0 h e.1 e.2
  | .inr q => DS h0 L h q.1 q.2.1 q.2.2
theorem DS.kp {h0 h : rz_H} {L p size : Nat} {row : Nat → Nat} (s : DS h0 L h p row size) : Kp h0 h := ⟨fun b i h1 _ => s.2.2.2.2.2.2 b i (by omega) (by omega), s.2.2.2.2.2.2 1 1 (by omega) (by omega), s.2.2.2.2.2.2 109 4 (by omega) (by omega)⟩
theorem DS.err {h0 h : rz_H} {L p size : Nat} {row : Nat → Nat} (s : DS h0 L h p row size) (f fp : Nat) : DE h0 (setI (setI h 88 3 (nI f)) 88 4 (nI fp)) f fp := ⟨s.1, by rw [hI_setI, if_neg (by omega), hI_setI, if_pos ⟨rfl, rfl⟩], by rw [hI_setI, if_pos ⟨rfl, rfl⟩], fun b i n1 n2 => by rw [hI_setI, if_neg (by omega), hI_setI, if_neg (by omega)]; exact s.2.2.2.2.2.2 b i n1 n2⟩
theorem DS.skip {h0 h : rz_H} {L p size : Nat} {row : Nat → Nat} (s : DS h0 L h p row size) : DS h0 L (setI h 88 2 (nI (p + 1))) (p + 1) row size := by
  obtain ⟨s1, s2, s3, s4, s5, s6, s7⟩ := s
  exact ⟨s1, by rw [hI_setI, if_neg (by omega)]; exact s2, by rw [hI_setI, if_pos ⟨rfl, rfl⟩], by rw [hI_setI, if_neg (by omega)]; exact s4, by rw [hI_setI, if_neg (by omega)]; exact s5, fun i hi => by rw [hI_setI, if_neg (by omega)]; exact s6 i hi, fun b i n1 n2 => by rw [hI_setI, if_neg (by omega)]; exact s7 b i n1 n2⟩
theorem DS.put {h0 h : rz_H} {L p size : Nat} {row : Nat → Nat} (s : DS h0 L h p row size) {j : Nat} (c : Nat) : DS h0 L (setI h 89 j (nI c)) p (udn row j c) size := by
  obtain ⟨s1, s2, s3, s4, s5, s6, s7⟩ := s
  refine ⟨s1, s2, s3, s4, s5, fun i hi => ?_, fun b i n1 n2 => by rw [hI_setI, if_neg (by omega)]; exact s7 b i n1 n2⟩
  unfold udn
  rw [hI_setI]
  by_cases e : i = j
  · rw [if_pos ⟨rfl, e⟩, if_pos e]
  · rw [if_neg (fun q => e q.2), if_neg e]; exact s6 i hi
theorem DS.end_ {h0 h : rz_H} {L p size : Nat} {row : Nat → Nat} (s : DS h0 L h p row size) (m : Nat) : DS h0 L (setI h 88 6 (nI m)) p row m := by
  obtain ⟨s1, s2, s3, s4, s5, s6, s7⟩ := s
  exact ⟨s1, by rw [hI_setI, if_neg (by omega)]; exact s2, by rw [hI_setI, if_neg (by omega)]; exact s3, by rw [hI_setI, if_neg (by omega)]; exact s4, by rw [hI_setI, if_pos ⟨rfl, rfl⟩], fun i hi => by rw [hI_setI, if_neg (by omega)]; exact s6 i hi, fun b i n1 n2 => by rw [hI_setI, if_neg (by omega)]; exact s7 b i n1 n2⟩
theorem C163 {rb dr : Nat} {jd : Option Nat} {h0 h : rz_H} (w0 : Wf rb dr jd h0) {L p size : Nat} {row : Nat → Nat} (s : DS h0 L h p row size) {start span times first : Nat} (h1 : start ≤ 16) (h2 : 0 < span) (h3 : span ≤ 16) (h4 : 0 < times) (h5 : times ≤ 9) (d : Nat) : ∃ h', cW (d + 2) 163 [rz_r (some 88), rz_i (nI start), rz_i (nI span), rz_i (nI times), rz_i (nI first)] h = some (rz_i 0, h') ∧ DP h0 L h' (repT p row start span times first) := by
  have w : Wf rb dr jd h := w0.e s.1
  have hr : isR 88 := Or.inr (Or.inl rfl)
  have hb : span * times ≤ 16 * 9 := Nat.mul_le_mul h3 h5
  have hb2 : span ≤ span * times := Nat.le_mul_of_pos_right _ h4
  unfold repT
  by_cases c : 16 < start + span * times
  · rw [if_pos c]
    refine ⟨setI (setI h 88 3 (nI 6)) 88 4 (nI first), ?_, s.err 6 first⟩
    have r231 := R231 w hr s.2.2.2.1
    rw [E163]
    simp (disch := omega) only [↓cd_d, ↓irem_eq_mod, ↓ob_setI, ↓ob_chI, ↓ob_some, bI_some, bV_some, bR_some, bL_some, ob_some, cd_t, cd_f, okO_setI, okA_setI, okL_setI, aLen_setI, hR_setI, hI_setI, Bool.true_and, Bool.and_true, Bool.and_self, Option.isNone_some, Option.isSome_some, Option.isNone_none, Option.isSome_none, okO_chI, okA_chI, okL_chI, aLen_chI, hR_chI, ↓reduceIte, not_true_eq_false, not_false_eq_true, eq_self, c10, Nat.zero_add, nI_add, litA, litB, litM, nI_mul, nI_leI, nI_ltI, nI_eq, litLe, litLe2, litLt, litLt2, litEq, litEq2, in_nI, lit_in, nI_clamp, lit_cl, if_pos, if_neg, ↓WCb w, WDr w, r231]
    rfl
  · rw [if_neg c]
    have lp := lp_hs (fun i (row : Nat → Nat) k (j : Option rz_V × Option rz_V × Option rz_V) => rW (d + 1) 163 (20, (0, 0), [some (rz_r (some 88)), j.1, some (rz_i (nI span)), j.2.1, j.2.2, some (rz_i (nI (start + span * times))), some (rz_i (nI i))], [], k)) (fil span) (fun i row k => DS h0 L k p row size ∧ start + span ≤ i) (start + span * times) (fun i row k j hi ⟨sk, hge⟩ => by
      have wk : Wf rb dr jd k := w0.e sk.1
      have u : nI i - nI span = nI (i - span) := nI_sub (by omega)
      have v := sk.2.2.2.2.2.1 (i - span) (by omega)
      refine ⟨setI k 89 i (nI (row (i - span))), (none, none, none), ?_, ?_, by omega⟩
      · show rW (d + 1) 163 (20, (0, 0), [some (rz_r (some 88)), j.1, some (rz_i (nI span)), j.2.1, j.2.2, some (rz_i (nI (start + span * times))), some (rz_i (nI i))], [], k) = _
        rw [E163_20]
        simp (disch := omega) only [↓cd_d, ↓irem_eq_mod, ↓ob_setI, ↓ob_chI, ↓ob_some, bI_some, bV_some, bR_some, bL_some, ob_some, cd_t, cd_f, okO_setI, okA_setI, okL_setI, aLen_setI, hR_setI, hI_setI, Bool.true_and, Bool.and_true, Bool.and_self, Option.isNone_some, Option.isSome_some, Option.isNone_none, Option.isSome_none, okO_chI, okA_chI, okL_chI, aLen_chI, hR_chI, ↓reduceIte, not_true_eq_false, not_false_eq_true, eq_self, c10, Nat.zero_add, nI_add, litA, litB, litM, nI_mul, nI_leI, nI_ltI, nI_eq, litLe, litLe2, litLt, litLt2, litEq, litEq2, in_nI, lit_in, nI_clamp, lit_cl, if_pos, if_neg, ↓WCb wk, WDr wk, u, v]
      · exact sk.put (row (i - span))) (span * times - span) (start + span) row h (some (rz_i (nI start)), some (rz_i (nI times)), some (rz_i (nI first))) (by omega) ⟨s, Nat.le_refl _⟩
    obtain ⟨k, j, e, sk, -⟩ := lp
    have wk : Wf rb dr jd k := w0.e sk.1
    refine ⟨setI k 88 6 (nI (start + span * times)), ?_, sk.end_ (start + span * times)⟩
    rw [E163]
    simp (disch := omega) only [↓cd_d, ↓irem_eq_mod, ↓ob_setI, ↓ob_chI, ↓ob_some, bI_some, bV_some, bR_some, bL_some, ob_some, cd_t, cd_f, okO_setI, okA_setI, okL_setI, aLen_setI, hR_setI, hI_setI, Bool.true_and, Bool.and_true, Bool.and_self, Option.isNone_some, Option.isSome_some, Option.isNone_none, Option.isSome_none, okO_chI, okA_chI, okL_chI, aLen_chI, hR_chI, ↓reduceIte, not_true_eq_false, not_false_eq_true, eq_self, c10, Nat.zero_add, nI_add, litA, litB, litM, nI_mul, nI_leI, nI_ltI, nI_eq, litLe, litLe2, litLt, litLt2, litEq, litEq2, in_nI, lit_in, nI_clamp, lit_cl, if_pos, if_neg, ↓WCb w, WDr w]
    refine Eq.trans e ?_
    rw [E163_20]
    simp (disch := omega) only [↓cd_d, ↓irem_eq_mod, ↓ob_setI, ↓ob_chI, ↓ob_some, bI_some, bV_some, bR_some, bL_some, ob_some, cd_t, cd_f, okO_setI, okA_setI, okL_setI, aLen_setI, hR_setI, hI_setI, Bool.true_and, Bool.and_true, Bool.and_self, Option.isNone_some, Option.isSome_some, Option.isNone_none, Option.isSome_none, okO_chI, okA_chI, okL_chI, aLen_chI, hR_chI, ↓reduceIte, not_true_eq_false, not_false_eq_true, eq_self, c10, Nat.zero_add, nI_add, litA, litB, litM, nI_mul, nI_leI, nI_ltI, nI_eq, litLe, litLe2, litLt, litLt2, litEq, litEq2, in_nI, lit_in, nI_clamp, lit_cl, if_pos, if_neg, WDr wk]
theorem C162 {rb dr : Nat} {jd : Option Nat} {h0 : rz_H} (w0 : Wf rb dr jd h0) {N : Nat} {t : Nat → Nat} (T : Tq h0 N t) {L : Nat} (hL : L ≤ N) (h60 : L ≤ 60) {h : rz_H} {p size first times : Nat} {row : Nat → Nat} (s : DS h0 L h p row size) (hp : p ≤ L) (hs : size ≤ 16) (h4 : 0 < times) (h5 : times ≤ 9) (d : Nat) : ∃ h', cW (d + 3) 162 [rz_r (some 88), rz_i (nI first), rz_i (nI times)] h = some (rz_i 0, h') ∧ DP h0 L h' (frT t L p first times row size) := by
  have w : Wf rb dr jd h := w0.e s.1
  have hr : isR 88 := Or.inr (Or.inl rfl)
  have Th := T.kp s.kp
  have r227 := R227 w hr Th hL s.2.1 s.2.2.1 (by omega) s.2.2.2.1
  have r237 := fun d h => R237 d h (t := t) (L := L) (p := p) (fun q => (T.1.2 p (by omega)).1)
  unfold frT
  rcases hc : pcT t L p with _ | c
  · rw [hc] at r237
    refine ⟨setI (setI h 88 3 (nI 1)) 88 4 (nI p), ?_, s.err 1 p⟩
    have r232 := R232 w hr s.2.2.1 s.2.2.2.1
    rw [X162]
    simp only [bI_some, bV_some, bR_some, bL_some, ob_some, cd_t, cd_f, cd_d, okO_setI, okA_setI, okL_setI, aLen_setI, hR_setI, hI_setI, Bool.true_and, Bool.and_true, Bool.and_self, Option.isNone_some, Option.isSome_some, Option.isNone_none, Option.isSome_none, okO_chI, okA_chI, okL_chI, aLen_chI, hR_chI, ↓reduceIte, not_true_eq_false, not_false_eq_true, eq_self, c10, WDr w, r227, r237, pcI, X162_4, X162_7, r232, X162_9]
    rfl
  · rw [hc] at r237
    obtain ⟨c16, hpl⟩ := pcT_le hc
    have n1 : ¬ nI c = -1 := ne_m1 (by omega)
    have r229 := R229 w hr s.2.2.1
    have s1 := s.skip
    have w1 : Wf rb dr jd (setI h 88 2 (nI (p + 1))) := w
    have e6 := s1.2.2.2.2.1
    have step : cW (d + 3) 162 [rz_r (some 88), rz_i (nI first), rz_i (nI times)] h = rW (d + 2) 162 (12, (0, 0), [some (rz_r (some 88)), some (rz_i (nI first)), some (rz_i (nI times)), some (rz_i (nI c))], [], setI h 88 2 (nI (p + 1))) := by
      rw [X162]
      simp only [bI_some, bV_some, bR_some, bL_some, ob_some, cd_t, cd_f, cd_d, okO_setI, okA_setI, okL_setI, aLen_setI, hR_setI, hI_setI, Bool.true_and, Bool.and_true, Bool.and_self, Option.isNone_some, Option.isSome_some, Option.isNone_none, Option.isSome_none, okO_chI, okA_chI, okL_chI, aLen_chI, hR_chI, ↓reduceIte, not_true_eq_false, not_false_eq_true, eq_self, c10, WDr w, r227, r237, pcI, X162_4, n1, X162_10, r229]
    generalize setI h 88 2 (nI (p + 1)) = h1 at s1 w1 e6 step
    by_cases c2 : size < 16
    · have s2 := s1.put (j := size) c
      have w2 : Wf rb dr jd (setI h1 89 size (nI c)) := w1
      obtain ⟨h', e, D⟩ := C163 w0 s2 (start := size) (span := 1) (times := times) (first := first) hs (by omega) (by omega) h4 h5 d
      refine ⟨h', ?_, D⟩
      have e6' : hI (setI h1 89 size (nI c)) 88 6 = nI size := s2.2.2.2.2.1
      rw [step, X162_12]
      simp (disch := omega) only [↓cd_d, ↓irem_eq_mod, ↓ob_setI, ↓ob_chI, ↓ob_some, bI_some, bV_some, bR_some, bL_some, ob_some, cd_t, cd_f, okO_setI, okA_setI, okL_setI, aLen_setI, hR_setI, hI_setI, Bool.true_and, Bool.and_true, Bool.and_self, Option.isNone_some, Option.isSome_some, Option.isNone_none, Option.isSome_none, okO_chI, okA_chI, okL_chI, aLen_chI, hR_chI, ↓reduceIte, not_true_eq_false, not_false_eq_true, eq_self, c10, Nat.zero_add, nI_add, litA, litB, litM, nI_mul, nI_leI, nI_ltI, nI_eq, litLe, litLe2, litLt, litLt2, litEq, litEq2, in_nI, lit_in, nI_clamp, lit_cl, if_pos, if_neg, WDr w1, e6, X162_15, ↓WCb w1, X162_21]
      generalize setI h1 89 size (nI c) = h2 at e w2 e6' ⊢
      rw [show nI 1 = (1 : Int32) from rfl] at e
      rw [X162_27]
      simp only [bI_some, bV_some, bR_some, bL_some, ob_some, cd_t, cd_f, cd_d, okO_setI, okA_setI, okL_setI, aLen_setI, hR_setI, hI_setI, Bool.true_and, Bool.and_true, Bool.and_self, Option.isNone_some, Option.isSome_some, Option.isNone_none, Option.isSome_none, okO_chI, okA_chI, okL_chI, aLen_chI, hR_chI, ↓reduceIte, not_true_eq_false, not_false_eq_true, eq_self, c10, WDr w2, e6', e, X162_34]
    · have hs16 : size = 16 := by omega
      subst hs16
      obtain ⟨h', e, D⟩ := C163 w0 s1 (start := 16) (span := 1) (times := times) (first := first) hs (by omega) (by omega) h4 h5 d
      refine ⟨h', ?_, ?_⟩
      · rw [step, X162_12]
        rw [show nI 1 = (1 : Int32) from rfl] at e
        simp (disch := omega) only [↓cd_d, ↓irem_eq_mod, ↓ob_setI, ↓ob_chI, ↓ob_some, bI_some, bV_some, bR_some, bL_some, ob_some, cd_t, cd_f, okO_setI, okA_setI, okL_setI, aLen_setI, hR_setI, hI_setI, Bool.true_and, Bool.and_true, Bool.and_self, Option.isNone_some, Option.isSome_some, Option.isNone_none, Option.isSome_none, okO_chI, okA_chI, okL_chI, aLen_chI, hR_chI, ↓reduceIte, not_true_eq_false, not_false_eq_true, eq_self, c10, Nat.zero_add, nI_add, litA, litB, litM, nI_mul, nI_leI, nI_ltI, nI_eq, litLe, litLe2, litLt, litLt2, litEq, litEq2, in_nI, lit_in, nI_clamp, lit_cl, if_pos, if_neg, WDr w1, e6, X162_15, ↓WCb w1]
        rw [X162_27]
        simp only [bI_some, bV_some, bR_some, bL_some, ob_some, cd_t, cd_f, cd_d, okO_setI, okA_setI, okL_setI, aLen_setI, hR_setI, hI_setI, Bool.true_and, Bool.and_true, Bool.and_self, Option.isNone_some, Option.isSome_some, Option.isNone_none, Option.isSome_none, okO_chI, okA_chI, okL_chI, aLen_chI, hR_chI, ↓reduceIte, not_true_eq_false, not_false_eq_true, eq_self, c10, WDr w1, e6, e, X162_34]
      · show DP h0 L h' (repT (p + 1) (udn row 16 c) 16 1 times first)
        unfold repT at D ⊢
        rw [if_pos (by omega)] at D ⊢
        exact D
theorem C159 {rb dr : Nat} {jd : Option Nat} {h0 : rz_H} (w0 : Wf rb dr jd h0) {N : Nat} {t : Nat → Nat} (T : Tq h0 N t) {L : Nat} (hL : L ≤ N) (h60 : L ≤ 60) {k : Nat} {ins : Bool} {dep : Nat} (hins : (ins = true ∧ 0 < dep) ∨ (ins = false ∧ dep = 0)) (hdep : dep ≤ 2) (d : Nat) (hit : ∀ h p row size, DS h0 L h p row size → p ≤ L → size ≤ 16 → ∃ h', cW (d + 2) 160 [rz_r (some 88), rz_i (nI dep)] h = some (rz_i 0, h') ∧ DP h0 L h' (itm t L k p row size)) {h : rz_H} {p size : Nat} {row : Nat → Nat} (s : DS h0 L h p row size) (hp : p ≤ L) (hs : size ≤ 16) : ∃ h', cW (d + 3) 159 [rz_r (some 88), rz_i (nI dep)] h = some (rz_i 0, h') ∧ DP h0 L h' (rbd (itm t L k p row size) (rlp (itm t L k) (clT t L ins) 60)) := by
  have hr : isR 88 := Or.inr (Or.inl rfl)
  have w : Wf rb dr jd h := w0.e s.1
  let cs : Int32 := if ins = true then 41 else -1
  have lp : ∀ f i h p row size, i + f = 60 → DS h0 L h p row size → p ≤ L → size ≤ 16 → ∃ h', rW (d + 2) 159 (11, (0, 0), [some (rz_r (some 88)), some (rz_i (nI dep)), some (rz_i cs), some (rz_i (nI i))], [], h) = some (rz_i 0, h') ∧ DP h0 L h' (rlp (itm t L k) (clT t L ins) f p row size) := by
    intro f
    induction f with
    | zero =>
      intro i h p row size hi s hp hs
      refine ⟨h, ?_, s⟩
      rw [E159_11]
      simp (disch := omega) only [↓cd_d, ↓irem_eq_mod, ↓ob_setI, ↓ob_chI, ↓ob_some, bI_some, bV_some, bR_some, bL_some, ob_some, cd_t, cd_f, okO_setI, okA_setI, okL_setI, aLen_setI, hR_setI, hI_setI, Bool.true_and, Bool.and_true, Bool.and_self, Option.isNone_some, Option.isSome_some, Option.isNone_none, Option.isSome_none, okO_chI, okA_chI, okL_chI, aLen_chI, hR_chI, ↓reduceIte, not_true_eq_false, not_false_eq_true, eq_self, c10, Nat.zero_add, nI_add, litA, litB, litM, nI_mul, nI_leI, nI_ltI, nI_eq, litLe, litLe2, litLt, litLt2, litEq, litEq2, in_nI, lit_in, nI_clamp, lit_cl, if_pos, if_neg]
    | succ f ih =>
      intro i h p row size hi s hp hs
      have w : Wf rb dr jd h := w0.e s.1
      have r230 := R230 w hr s.2.2.2.1
      have Th := T.kp s.kp
      have r227 := R227 w hr Th hL s.2.1 s.2.2.1 (by omega) s.2.2.2.1
      have hcl : pkI t L p = cs ↔ clT t L ins p = true := by
        unfold clT
        rcases hins with ⟨e, -⟩ | ⟨e, -⟩
        · show pkI t L p = (if ins = true then 41 else -1) ↔ _
          rw [if_pos e, if_pos e, decide_eq_true_iff]
          exact pkk_eq (m := 41) (fun q => (T.1.2 p (by omega)).1) (by omega)
        · show pkI t L p = (if ins = true then 41 else -1) ↔ _
          rw [e, if_neg (by simp), if_neg (by simp), decide_eq_true_iff]
          constructor
          · intro q hp2
            rw [pkk_in hp2] at q
            exact ne_m1 (by have := (T.1.2 p (by omega)).1; omega) q
          · exact pkk_out
      unfold rlp
      by_cases c : clT t L ins p = true
      · refine ⟨h, ?_, by rw [if_pos c]; exact s⟩
        rw [E159_11]
        simp (disch := omega) only [↓cd_d, ↓irem_eq_mod, ↓ob_setI, ↓ob_chI, ↓ob_some, bI_some, bV_some, bR_some, bL_some, ob_some, cd_t, cd_f, okO_setI, okA_setI, okL_setI, aLen_setI, hR_setI, hI_setI, Bool.true_and, Bool.and_true, Bool.and_self, Option.isNone_some, Option.isSome_some, Option.isNone_none, Option.isSome_none, okO_chI, okA_chI, okL_chI, aLen_chI, hR_chI, ↓reduceIte, not_true_eq_false, not_false_eq_true, eq_self, c10, Nat.zero_add, nI_add, litA, litB, litM, nI_mul, nI_leI, nI_ltI, nI_eq, litLe, litLe2, litLt, litLt2, litEq, litEq2, in_nI, lit_in, nI_clamp, lit_cl, if_pos, if_neg, WDr w, r230, r227, hcl.mpr c]
      · have nc : ¬ pkI t L p = cs := fun q => c (hcl.mp q)
        obtain ⟨h1, e1, D1⟩ := hit h p row size s hp hs
        have o := itm_ok t L k p row size hp hs
        rw [if_neg c]
        have st : rW (d + 2) 159 (11, (0, 0), [some (rz_r (some 88)), some (rz_i (nI dep)), some (rz_i cs), some (rz_i (nI i))], [], h) = rW (d + 2) 159 (11, (0, 0), [some (rz_r (some 88)), some (rz_i (nI dep)), some (rz_i cs), some (rz_i (nI (i + 1)))], [], h1) := by
          rw [E159_11]
          simp (disch := omega) only [↓cd_d, ↓irem_eq_mod, ↓ob_setI, ↓ob_chI, ↓ob_some, bI_some, bV_some, bR_some, bL_some, ob_some, cd_t, cd_f, okO_setI, okA_setI, okL_setI, aLen_setI, hR_setI, hI_setI, Bool.true_and, Bool.and_true, Bool.and_self, Option.isNone_some, Option.isSome_some, Option.isNone_none, Option.isSome_none, okO_chI, okA_chI, okL_chI, aLen_chI, hR_chI, ↓reduceIte, not_true_eq_false, not_false_eq_true, eq_self, c10, Nat.zero_add, nI_add, litA, litB, litM, nI_mul, nI_leI, nI_ltI, nI_eq, litLe, litLe2, litLt, litLt2, litEq, litEq2, in_nI, lit_in, nI_clamp, lit_cl, if_pos, if_neg, WDr w, r230, r227, nc, e1]
        rw [st]
        generalize itm t L k p row size = z at o D1 ⊢
        rcases z with er | ⟨p', row', size'⟩
        · refine ⟨h1, ?_, D1⟩
          have D1 : DE h0 h1 er.1 er.2 := D1
          have w1 : Wf rb dr jd h1 := w0.e D1.1
          have o : 0 < er.1 ∧ er.1 < 10 ∧ er.2 ≤ L := o
          have n3 : ¬ hI h1 88 3 = 0 := by rw [D1.2.1]; exact nI_ne0 o.1 (by omega)
          rw [E159_11]
          by_cases c60 : i + 1 < 60
          · simp (disch := omega) only [↓cd_d, ↓irem_eq_mod, ↓ob_setI, ↓ob_chI, ↓ob_some, bI_some, bV_some, bR_some, bL_some, ob_some, cd_t, cd_f, okO_setI, okA_setI, okL_setI, aLen_setI, hR_setI, hI_setI, Bool.true_and, Bool.and_true, Bool.and_self, Option.isNone_some, Option.isSome_some, Option.isNone_none, Option.isSome_none, okO_chI, okA_chI, okL_chI, aLen_chI, hR_chI, ↓reduceIte, not_true_eq_false, not_false_eq_true, eq_self, c10, Nat.zero_add, nI_add, litA, litB, litM, nI_mul, nI_leI, nI_ltI, nI_eq, litLe, litLe2, litLt, litLt2, litEq, litEq2, in_nI, lit_in, nI_clamp, lit_cl, if_pos, if_neg, WDr w1, R230e w1 hr n3]
          · simp (disch := omega) only [↓cd_d, ↓irem_eq_mod, ↓ob_setI, ↓ob_chI, ↓ob_some, bI_some, bV_some, bR_some, bL_some, ob_some, cd_t, cd_f, okO_setI, okA_setI, okL_setI, aLen_setI, hR_setI, hI_setI, Bool.true_and, Bool.and_true, Bool.and_self, Option.isNone_some, Option.isSome_some, Option.isNone_none, Option.isSome_none, okO_chI, okA_chI, okL_chI, aLen_chI, hR_chI, ↓reduceIte, not_true_eq_false, not_false_eq_true, eq_self, c10, Nat.zero_add, nI_add, litA, litB, litM, nI_mul, nI_leI, nI_ltI, nI_eq, litLe, litLe2, litLt, litLt2, litEq, litEq2, in_nI, lit_in, nI_clamp, lit_cl, if_pos, if_neg]
        · obtain ⟨o1, o2, o3, o4⟩ := o
          exact ih (i + 1) h1 p' row' size' (by omega) D1 o2 o4
  obtain ⟨h1, e1, D1⟩ := hit h p row size s hp hs
  have o := itm_ok t L k p row size hp hs
  have st : cW (d + 3) 159 [rz_r (some 88), rz_i (nI dep)] h = rW (d + 2) 159 (11, (0, 0), [some (rz_r (some 88)), some (rz_i (nI dep)), some (rz_i cs), some (rz_i (nI 0))], [], h1) := by
    rw [E159]
    rcases hins with ⟨e, hd⟩ | ⟨e, hd⟩
    · rw [show cs = 41 from if_pos e]
      simp (disch := omega) only [↓cd_d, ↓irem_eq_mod, ↓ob_setI, ↓ob_chI, ↓ob_some, bI_some, bV_some, bR_some, bL_some, ob_some, cd_t, cd_f, okO_setI, okA_setI, okL_setI, aLen_setI, hR_setI, hI_setI, Bool.true_and, Bool.and_true, Bool.and_self, Option.isNone_some, Option.isSome_some, Option.isNone_none, Option.isSome_none, okO_chI, okA_chI, okL_chI, aLen_chI, hR_chI, ↓reduceIte, not_true_eq_false, not_false_eq_true, eq_self, c10, Nat.zero_add, nI_add, litA, litB, litM, nI_mul, nI_leI, nI_ltI, nI_eq, litLe, litLe2, litLt, litLt2, litEq, litEq2, in_nI, lit_in, nI_clamp, lit_cl, if_pos, if_neg, WDr w, e1]
      rfl
    · rw [show cs = -1 from if_neg (by rw [e]; simp)]
      subst hd
      simp (disch := omega) only [↓cd_d, ↓irem_eq_mod, ↓ob_setI, ↓ob_chI, ↓ob_some, bI_some, bV_some, bR_some, bL_some, ob_some, cd_t, cd_f, okO_setI, okA_setI, okL_setI, aLen_setI, hR_setI, hI_setI, Bool.true_and, Bool.and_true, Bool.and_self, Option.isNone_some, Option.isSome_some, Option.isNone_none, Option.isSome_none, okO_chI, okA_chI, okL_chI, aLen_chI, hR_chI, ↓reduceIte, not_true_eq_false, not_false_eq_true, eq_self, c10, Nat.zero_add, nI_add, litA, litB, litM, nI_mul, nI_leI, nI_ltI, nI_eq, litLe, litLe2, litLt, litLt2, litEq, litEq2, in_nI, lit_in, nI_clamp, lit_cl, if_pos, if_neg, WDr w, e1]
      rfl
  rw [st]
  generalize itm t L k p row size = z at o D1 ⊢
  rcases z with er | ⟨p', row', size'⟩
  · refine ⟨h1, ?_, D1⟩
    have D1 : DE h0 h1 er.1 er.2 := D1
    have w1 : Wf rb dr jd h1 := w0.e D1.1
    have o : 0 < er.1 ∧ er.1 < 10 ∧ er.2 ≤ L := o
    have n3 : ¬ hI h1 88 3 = 0 := by rw [D1.2.1]; exact nI_ne0 o.1 (by omega)
    rw [E159_11]
    simp (disch := omega) only [↓cd_d, ↓irem_eq_mod, ↓ob_setI, ↓ob_chI, ↓ob_some, bI_some, bV_some, bR_some, bL_some, ob_some, cd_t, cd_f, okO_setI, okA_setI, okL_setI, aLen_setI, hR_setI, hI_setI, Bool.true_and, Bool.and_true, Bool.and_self, Option.isNone_some, Option.isSome_some, Option.isNone_none, Option.isSome_none, okO_chI, okA_chI, okL_chI, aLen_chI, hR_chI, ↓reduceIte, not_true_eq_false, not_false_eq_true, eq_self, c10, Nat.zero_add, nI_add, litA, litB, litM, nI_mul, nI_leI, nI_ltI, nI_eq, litLe, litLe2, litLt, litLt2, litEq, litEq2, in_nI, lit_in, nI_clamp, lit_cl, if_pos, if_neg, WDr w1, R230e w1 hr n3]
  · obtain ⟨o1, o2, o3, o4⟩ := o
    exact lp 60 0 h1 p' row' size' (by omega) D1 o2 o4
theorem C160p {rb dr : Nat} {jd : Option Nat} {h0 : rz_H} (w0 : Wf rb dr jd h0) {N : Nat} {t : Nat → Nat} (T : Tq h0 N t) {L : Nat} (hL : L ≤ N) (h60 : L ≤ 60) {h : rz_H} {p size : Nat} {row : Nat → Nat} (s : DS h0 L h p row size) (hp : p ≤ L) (x : Int32) (d : Nat) : ∃ h1, cW (d + 3) 160 [rz_r (some 88), rz_i x] h = rW (d + 2) 160 (20, (0, 0), [some (rz_r (some 88)), some (rz_i x), some (rz_i (nI p)), some (rz_i (nI (tmT t L p).1))], [], h1) ∧ DS h0 L h1 (tmT t L p).2 row size := by
  have hr : isR 88 := Or.inr (Or.inl rfl)
  have w : Wf rb dr jd h := w0.e s.1
  have Th := T.kp s.kp
  have hb : p < L → t p < 256 := fun q => (T.1.2 p (by omega)).1
  have r227 := R227 w hr Th hL s.2.1 s.2.2.1 (by omega) s.2.2.2.1
  have r228 := R228 w hr
  rw [s.2.2.1] at r228
  have p50 : pkI t L p < 50 ↔ (p < L → t p < 50) := pkk_lt (m := 50) hb (by omega)
  have p57 : (57 : Int32) < pkI t L p ↔ p < L ∧ 57 < t p := pkk_gt (m := 57) hb (by omega)
  unfold tmT
  by_cases c : p < L ∧ 50 ≤ t p ∧ t p ≤ 57
  · rw [if_pos c]
    refine ⟨setI h 88 2 (nI (p + 1)), ?_, s.skip⟩
    have n1 : ¬ pkI t L p < 50 := fun q => by have := p50.mp q c.1; omega
    have n2 : ¬ (57 : Int32) < pkI t L p := fun q => by have := (p57.mp q).2; omega
    have r229 := R229 w hr s.2.2.1
    have u : pkI t L p - 48 = nI (t p - 48) := by rw [pkk_in c.1]; exact nI_sub (b := 48) (by omega)
    rw [X160]
    simp only [bI_some, bV_some, bR_some, bL_some, ob_some, cd_t, cd_f, cd_d, okO_setI, okA_setI, okL_setI, aLen_setI, hR_setI, hI_setI, Bool.true_and, Bool.and_true, Bool.and_self, Option.isNone_some, Option.isSome_some, Option.isNone_none, Option.isSome_none, okO_chI, okA_chI, okL_chI, aLen_chI, hR_chI, ↓reduceIte, not_true_eq_false, not_false_eq_true, eq_self, c10, WDr w, r228, X160_3, X160_5, r227, n1, X160_9, n2, X160_13, u, X160_18, r229]
  · rw [if_neg c]
    refine ⟨h, ?_, s⟩
    by_cases c1 : pkI t L p < 50
    · rw [X160]
      simp only [bI_some, bV_some, bR_some, bL_some, ob_some, cd_t, cd_f, cd_d, okO_setI, okA_setI, okL_setI, aLen_setI, hR_setI, hI_setI, Bool.true_and, Bool.and_true, Bool.and_self, Option.isNone_some, Option.isSome_some, Option.isNone_none, Option.isSome_none, okO_chI, okA_chI, okL_chI, aLen_chI, hR_chI, ↓reduceIte, not_true_eq_false, not_false_eq_true, eq_self, c10, WDr w, r228, X160_3, X160_5, r227, c1]
      rfl
    · have n2 : (57 : Int32) < pkI t L p := by
        have hpl : p < L := Classical.byContradiction fun q => c1 (p50.mpr fun z => absurd z q)
        refine p57.mpr ⟨hpl, ?_⟩
        have : ¬ t p < 50 := fun q => c1 (p50.mpr fun _ => q)
        omega
      rw [X160]
      simp only [bI_some, bV_some, bR_some, bL_some, ob_some, cd_t, cd_f, cd_d, okO_setI, okA_setI, okL_setI, aLen_setI, hR_setI, hI_setI, Bool.true_and, Bool.and_true, Bool.and_self, Option.isNone_some, Option.isSome_some, Option.isNone_none, Option.isSome_none, okO_chI, okA_chI, okL_chI, aLen_chI, hR_chI, ↓reduceIte, not_true_eq_false, not_false_eq_true, eq_self, c10, WDr w, r228, X160_3, X160_5, r227, c1, X160_9, n2]
      rfl
theorem C160 {rb dr : Nat} {jd : Option Nat} {h0 : rz_H} (w0 : Wf rb dr jd h0) {N : Nat} {t : Nat → Nat} (T : Tq h0 N t) {L : Nat} (hL : L ≤ N) (h60 : L ≤ 60) (d : Nat) : ∀ k, k ≤ 2 → ∀ h p row size, DS h0 L h p row size → p ≤ L → size ≤ 16 → ∃ h', cW (d + (4 + 3 * k)) 160 [rz_r (some 88), rz_i (nI (2 - k))] h = some (rz_i 0, h') ∧ DP h0 L h' (itm t L k p row size) := by
  have hr : isR 88 := Or.inr (Or.inl rfl)
  intro k
  induction k with
  | zero =>
    intro hk h p row size s hp hs
    obtain ⟨a1, a2, a3, a4⟩ := tmT_ok (t := t) hp
    obtain ⟨h1, e1, s1⟩ := C160p w0 T hL h60 s hp (nI 2) (d + 1)
    have w1 : Wf rb dr jd h1 := w0.e s1.1
    have Th := T.kp s1.kp
    have r227 := R227 w1 hr Th hL s1.2.1 s1.2.2.1 (by omega) s1.2.2.2.1
    have p40 : pkI t L (tmT t L p).2 = 40 ↔ (tmT t L p).2 < L ∧ t (tmT t L p).2 = 40 := pkk_eq (m := 40) (fun q => (T.1.2 _ (by omega)).1) (by omega)
    show ∃ h', cW (d + 1 + 3) 160 [rz_r (some 88), rz_i (nI 2)] h = some (rz_i 0, h') ∧ _
    rw [e1, X160_20]
    unfold itm
    by_cases c : (tmT t L p).2 < L ∧ t (tmT t L p).2 = 40
    · rw [if_pos c]
      have r228 := R228 w1 hr
      rw [s1.2.2.1] at r228
      have r231 := R231 w1 hr s1.2.2.2.1
      have e161 : ∀ d (x y : Int32), cW (d + 2) 161 [rz_r (some 88), rz_i (nI 2), rz_i x, rz_i y] h1 = some (rz_i 0, setI (setI h1 88 3 (nI 5)) 88 4 (nI (tmT t L p).2)) := fun d x y => by
        rw [E161]
        simp (disch := omega) only [↓cd_d, ↓irem_eq_mod, ↓ob_setI, ↓ob_chI, ↓ob_some, bI_some, bV_some, bR_some, bL_some, ob_some, cd_t, cd_f, okO_setI, okA_setI, okL_setI, aLen_setI, hR_setI, hI_setI, Bool.true_and, Bool.and_true, Bool.and_self, Option.isNone_some, Option.isSome_some, Option.isNone_none, Option.isSome_none, okO_chI, okA_chI, okL_chI, aLen_chI, hR_chI, ↓reduceIte, not_true_eq_false, not_false_eq_true, eq_self, c10, Nat.zero_add, nI_add, litA, litB, litM, nI_mul, nI_leI, nI_ltI, nI_eq, litLe, litLe2, litLt, litLt2, litEq, litEq2, in_nI, lit_in, nI_clamp, lit_cl, if_pos, if_neg, WDr w1, r228, r231]
        rfl
      refine ⟨_, ?_, s1.err 5 (tmT t L p).2⟩
      simp only [bI_some, bV_some, bR_some, bL_some, ob_some, cd_t, cd_f, cd_d, okO_setI, okA_setI, okL_setI, aLen_setI, hR_setI, hI_setI, Bool.true_and, Bool.and_true, Bool.and_self, Option.isNone_some, Option.isSome_some, Option.isNone_none, Option.isSome_none, okO_chI, okA_chI, okL_chI, aLen_chI, hR_chI, ↓reduceIte, not_true_eq_false, not_false_eq_true, eq_self, c10, WDr w1, r227, p40.mpr c, X160_24, e161, X160_29, X160_34]
    · rw [if_neg c]
      have n : ¬ pkI t L (tmT t L p).2 = 40 := fun q => c (p40.mp q)
      obtain ⟨h', e, D⟩ := C162 w0 T hL h60 s1 (first := p) a4 hs a1 a2 d
      refine ⟨h', ?_, D⟩
      simp only [bI_some, bV_some, bR_some, bL_some, ob_some, cd_t, cd_f, cd_d, okO_setI, okA_setI, okL_setI, aLen_setI, hR_setI, hI_setI, Bool.true_and, Bool.and_true, Bool.and_self, Option.isNone_some, Option.isSome_some, Option.isNone_none, Option.isSome_none, okO_chI, okA_chI, okL_chI, aLen_chI, hR_chI, ↓reduceIte, not_true_eq_false, not_false_eq_true, eq_self, c10, WDr w1, r227, n, X160_30, e, X160_34]
  | succ k ih =>
    intro hk h p row size s hp hs
    obtain ⟨a1, a2, a3, a4⟩ := tmT_ok (t := t) hp
    rw [show d + (4 + 3 * (k + 1)) = d + (4 + 3 * k) + 3 by omega]
    obtain ⟨h1, e1, s1⟩ := C160p w0 T hL h60 s hp (nI (2 - (k + 1))) (d + (4 + 3 * k))
    have w1 : Wf rb dr jd h1 := w0.e s1.1
    have Th := T.kp s1.kp
    have r227 := R227 w1 hr Th hL s1.2.1 s1.2.2.1 (by omega) s1.2.2.2.1
    have p40 : pkI t L (tmT t L p).2 = 40 ↔ (tmT t L p).2 < L ∧ t (tmT t L p).2 = 40 := pkk_eq (m := 40) (fun q => (T.1.2 _ (by omega)).1) (by omega)
    rw [e1, X160_20]
    unfold itm
    by_cases c : (tmT t L p).2 < L ∧ t (tmT t L p).2 = 40
    · rw [if_pos c]
      have e161 : ∃ h', cW (d + (4 + 3 * k) + 2) 161 [rz_r (some 88), rz_i (nI (2 - (k + 1))), rz_i (nI p), rz_i (nI (tmT t L p).1)] h1 = some (rz_i 0, h') ∧ DP h0 L h' (rbd (rbd (itm t L k ((tmT t L p).2 + 1) row size) (rlp (itm t L k) (clT t L true) 60)) (fun p2 row2 size2 => if p2 < L ∧ t p2 = 41 then repT (p2 + 1) row2 size (size2 - size) (tmT t L p).1 p else Sum.inl (1, p2))) := by
        have r229 := R229 w1 hr s1.2.2.1
        have s2 := s1.skip
        have w2 : Wf rb dr jd (setI h1 88 2 (nI ((tmT t L p).2 + 1))) := w1
        have e6 := s2.2.2.2.2.1
        have hd2 : nI (2 - (k + 1)) + 1 = nI (2 - k) := by rw [nI_1, show 2 - (k + 1) + 1 = 2 - k by omega]
        obtain ⟨h3, e3, D3⟩ := C159 w0 T hL h60 (k := k) (ins := true) (dep := 2 - k) (Or.inl ⟨rfl, by omega⟩) (by omega) (d + (2 + 3 * k)) (fun h p row size s hp hs => by
          have := ih (by omega) h p row size s hp hs
          rw [show d + (4 + 3 * k) = d + (2 + 3 * k) + 2 by omega] at this
          exact this) s2 c.1 hs
        rw [show d + (2 + 3 * k) + 3 = d + (4 + 3 * k) + 1 by omega] at e3
        have o := itm_ok t L k ((tmT t L p).2 + 1) row size c.1 hs
        have o2 : rOk' L ((tmT t L p).2 + 1) size (rbd (itm t L k ((tmT t L p).2 + 1) row size) (rlp (itm t L k) (clT t L true) 60)) := by
          generalize itm t L k ((tmT t L p).2 + 1) row size = z at o ⊢
          rcases z with e | ⟨p', row', size'⟩
          · exact o
          · obtain ⟨o1, o2, o3, o4⟩ := o
            have o1 : (tmT t L p).2 + 1 < p' := o1
            have o3 : size < size' := o3
            have q := rlp_ok (itm_ok t L k) (clT t L true) 60 p' row' size' o2 o4
            show rOk' L ((tmT t L p).2 + 1) size (rlp (itm t L k) (clT t L true) 60 p' row' size')
            generalize rlp (itm t L k) (clT t L true) 60 p' row' size' = z at q ⊢
            rcases z with e | ⟨p2, row2, size2⟩
            · exact q
            · obtain ⟨q1, q2, q3, q4⟩ := q
              exact ⟨Nat.le_trans (Nat.le_of_lt o1) q1, q2, Nat.le_trans (Nat.le_of_lt o3) q3, q4⟩
        have o3 : ∀ q, rbd (itm t L k ((tmT t L p).2 + 1) row size) (rlp (itm t L k) (clT t L true) 60) = Sum.inr q → size < q.2.2 := fun q hq => by
          generalize itm t L k ((tmT t L p).2 + 1) row size = z at o hq
          rcases z with e | ⟨p', row', size'⟩
          · exact absurd hq (by simp [rbd])
          · obtain ⟨o1, o2, o3, o4⟩ := o
            have o3 : size < size' := o3
            have q' := rlp_ok (itm_ok t L k) (clT t L true) 60 p' row' size' o2 o4
            have hq : rlp (itm t L k) (clT t L true) 60 p' row' size' = Sum.inr q := hq
            rw [hq] at q'
            exact Nat.lt_of_lt_of_le o3 q'.2.2.1
        generalize rbd (itm t L k ((tmT t L p).2 + 1) row size) (rlp (itm t L k) (clT t L true) 60) = z at D3 o2 o3 ⊢
        have st : ∀ (h4 h5 : rz_H), cW (d + (4 + 3 * k) + 1) 233 [rz_r (some 88), rz_i 41] h3 = some (rz_i 0, h4) → h4.2 = h3.2 → Wf rb dr jd h3 → ((¬ hI h4 88 3 = 0 ∧ h5 = h4) ∨ (hI h4 88 3 = 0 ∧ cW (d + (4 + 3 * k) + 1) 163 [rz_r (some 88), rz_i (nI size), rz_i (hI h4 88 6 - nI size), rz_i (nI (tmT t L p).1), rz_i (nI p)] h4 = some (rz_i 0, h5))) → cW (d + (4 + 3 * k) + 2) 161 [rz_r (some 88), rz_i (nI (2 - (k + 1))), rz_i (nI p), rz_i (nI (tmT t L p).1)] h1 = some (rz_i 0, h5) := fun h4 h5 q1 q2 w3 q3 => by
          have w4 : Wf rb dr jd h4 := w3.e q2
          generalize setI h1 88 2 (nI ((tmT t L p).2 + 1)) = h2 at r229 w2 e6 e3
          rw [E161]
          rcases q3 with ⟨q3, q4⟩ | ⟨q3, q4⟩
          · subst q4
            simp (disch := omega) only [↓cd_d, ↓irem_eq_mod, ↓ob_setI, ↓ob_chI, ↓ob_some, bI_some, bV_some, bR_some, bL_some, ob_some, cd_t, cd_f, okO_setI, okA_setI, okL_setI, aLen_setI, hR_setI, hI_setI, Bool.true_and, Bool.and_true, Bool.and_self, Option.isNone_some, Option.isSome_some, Option.isNone_none, Option.isSome_none, okO_chI, okA_chI, okL_chI, aLen_chI, hR_chI, ↓reduceIte, not_true_eq_false, not_false_eq_true, eq_self, c10, Nat.zero_add, nI_add, litA, litB, litM, nI_mul, nI_leI, nI_ltI, nI_eq, litLe, litLe2, litLt, litLt2, litEq, litEq2, in_nI, lit_in, nI_clamp, lit_cl, if_pos, if_neg, WDr w1, r229, WDr w2, hd2, e3, WDr w3, q1, WDr w4, R230e w4 hr q3]
          · simp (disch := omega) only [↓cd_d, ↓irem_eq_mod, ↓ob_setI, ↓ob_chI, ↓ob_some, bI_some, bV_some, bR_some, bL_some, ob_some, cd_t, cd_f, okO_setI, okA_setI, okL_setI, aLen_setI, hR_setI, hI_setI, Bool.true_and, Bool.and_true, Bool.and_self, Option.isNone_some, Option.isSome_some, Option.isNone_none, Option.isSome_none, okO_chI, okA_chI, okL_chI, aLen_chI, hR_chI, ↓reduceIte, not_true_eq_false, not_false_eq_true, eq_self, c10, Nat.zero_add, nI_add, litA, litB, litM, nI_mul, nI_leI, nI_ltI, nI_eq, litLe, litLe2, litLt, litLt2, litEq, litEq2, in_nI, lit_in, nI_clamp, lit_cl, if_pos, if_neg, WDr w1, r229, WDr w2, hd2, e3, WDr w3, q1, WDr w4, R230 w4 hr q3, e6, q4]
        rcases z with er | ⟨p2, row2, size2⟩
        · have D3 : DE h0 h3 er.1 er.2 := D3
          have w3 : Wf rb dr jd h3 := w0.e D3.1
          have o : 0 < er.1 ∧ er.1 < 10 ∧ er.2 ≤ L := o2
          have n3 : ¬ hI h3 88 3 = 0 := by rw [D3.2.1]; exact nI_ne0 o.1 (by omega)
          refine ⟨h3, st h3 h3 ?_ rfl w3 (Or.inl ⟨n3, rfl⟩), D3⟩
          rw [show d + (4 + 3 * k) + 1 = d + (2 + 3 * k) + 3 by omega]
          exact R233e w3 hr n3 (d + (2 + 3 * k)) (m := 41) (by omega)
        · have D3 : DS h0 L h3 p2 row2 size2 := D3
          have w3 : Wf rb dr jd h3 := w0.e D3.1
          have o4 : size < size2 := o3 (p2, row2, size2) rfl
          obtain ⟨-, q2, -, q4⟩ := o2
          have q2 : p2 ≤ L := q2
          have q4 : size2 ≤ 16 := q4
          have r233 := R233 w3 hr (T.kp D3.kp) hL D3.2.1 D3.2.2.1 (by omega) D3.2.2.2.1 (m := 41) (by omega) (d + (2 + 3 * k))
          rw [show d + (2 + 3 * k) + 3 = d + (4 + 3 * k) + 1 by omega] at r233
          show ∃ h', _ ∧ DP h0 L h' (if p2 < L ∧ t p2 = 41 then repT (p2 + 1) row2 size (size2 - size) (tmT t L p).1 p else Sum.inl (1, p2))
          by_cases c2 : p2 < L ∧ t p2 = 41
          · rw [if_pos c2] at r233 ⊢
            have s4 := D3.skip
            obtain ⟨h5, e5, D5⟩ := C163 w0 s4 (start := size) (span := size2 - size) (times := (tmT t L p).1) (first := p) hs (by omega) (by omega) a1 a2 (d + (3 + 3 * k))
            rw [show d + (3 + 3 * k) + 2 = d + (4 + 3 * k) + 1 by omega] at e5
            have u : nI size2 - nI size = nI (size2 - size) := nI_sub (by omega)
            refine ⟨h5, st _ h5 r233 rfl w3 (Or.inr ⟨s4.2.2.2.1, ?_⟩), D5⟩
            rw [s4.2.2.2.2.1, u]
            exact e5
          · rw [if_neg c2] at r233 ⊢
            have er := D3.err 1 p2
            refine ⟨_, st _ _ r233 rfl w3 (Or.inl ⟨?_, rfl⟩), er⟩
            rw [hI_setI, if_neg (by omega), hI_setI, if_pos ⟨rfl, rfl⟩]
            decide
      obtain ⟨h', e, D⟩ := e161
      refine ⟨h', ?_, D⟩
      simp only [bI_some, bV_some, bR_some, bL_some, ob_some, cd_t, cd_f, cd_d, okO_setI, okA_setI, okL_setI, aLen_setI, hR_setI, hI_setI, Bool.true_and, Bool.and_true, Bool.and_self, Option.isNone_some, Option.isSome_some, Option.isNone_none, Option.isSome_none, okO_chI, okA_chI, okL_chI, aLen_chI, hR_chI, ↓reduceIte, not_true_eq_false, not_false_eq_true, eq_self, c10, WDr w1, r227, p40.mpr c, X160_24, e, X160_29, X160_34]
    · rw [if_neg c]
      have n : ¬ pkI t L (tmT t L p).2 = 40 := fun q => c (p40.mp q)
      obtain ⟨h', e, D⟩ := C162 w0 T hL h60 s1 (first := p) a4 hs a1 a2 (d + (3 + 3 * k))
      rw [show d + (3 + 3 * k) + 3 = d + (4 + 3 * k) + 2 by omega] at e
      refine ⟨h', ?_, D⟩
      simp only [bI_some, bV_some, bR_some, bL_some, ob_some, cd_t, cd_f, cd_d, okO_setI, okA_setI, okL_setI, aLen_setI, hR_setI, hI_setI, Bool.true_and, Bool.and_true, Bool.and_self, Option.isNone_some, Option.isSome_some, Option.isNone_none, Option.isSome_none, okO_chI, okA_chI, okL_chI, aLen_chI, hR_chI, ↓reduceIte, not_true_eq_false, not_false_eq_true, eq_self, c10, WDr w1, r227, n, X160_30, e, X160_34]
/-- the whole text -/
def drT (t : Nat → Nat) (L : Nat) (row : Nat → Nat) : RR := rbd (itm t L 2 0 row 0) (rlp (itm t L 2) (clT t L false) 60)
theorem drT_ok (t : Nat → Nat) (L : Nat) (row : Nat → Nat) : (∃ e, drT t L row = Sum.inl e ∧ 0 < e.1 ∧ e.1 < 10 ∧ e.2 ≤ L) ∨ ∃ p row' size, drT t L row = Sum.inr (p, row', size) ∧ 0 < size ∧ size ≤ 16 := by
  have o := itm_ok t L 2 0 row 0 (by omega) (by omega)
  unfold drT
  generalize itm t L 2 0 row 0 = z at o ⊢
  rcases z with e | ⟨p', row', size'⟩
  · exact Or.inl ⟨e, rfl, o⟩
  · obtain ⟨o1, o2, o3, o4⟩ := o
    have o3 : 0 < size' := o3
    have q := rlp_ok (itm_ok t L 2) (clT t L false) 60 p' row' size' o2 o4
    show (∃ e, rlp (itm t L 2) (clT t L false) 60 p' row' size' = Sum.inl e ∧ _) ∨ ∃ p row2 size, rlp (itm t L 2) (clT t L false) 60 p' row' size' = Sum.inr (p, row2, size) ∧ _
    generalize rlp (itm t L 2) (clT t L false) 60 p' row' size' = z at q ⊢
    rcases z with e | ⟨p2, row2, size2⟩
    · exact Or.inl ⟨e, rfl, q⟩
    · obtain ⟨q1, q2, q3, q4⟩ := q
      exact Or.inr ⟨p2, row2, size2, rfl, Nat.lt_of_lt_of_le o3 q3, q4⟩
theorem C158 {rb dr : Nat} {jd : Option Nat} {h0 : rz_H} (w0 : Wf rb dr jd h0) {N : Nat} {t : Nat → Nat} (T : Tq h0 N t) {L : Nat} (hL : L ≤ N) (h60 : L ≤ 60) (d : Nat) : ∃ row h', cW (d + 12) 158 [rz_r (some 88), rz_i (nI L)] h0 = some (rz_i (match drT t L row with | .inl e => erI e.1 e.2 | .inr q => nI q.2.2), h') ∧ DP h0 L h' (drT t L row) := by
  have hr : isR 88 := Or.inr (Or.inl rfl)
  have ch := Classical.axiomOfChoice (r := fun i (n : Nat) => hI h0 89 i = nI n) fun i => nI_all (hI h0 89 i)
  obtain ⟨row, hrow⟩ := ch
  let h1 := setI (setI (setI (setI (setI h0 88 1 (nI L)) 88 2 0) 88 3 0) 88 4 0) 88 6 0
  have s1 : DS h0 L h1 0 row 0 := ⟨rfl, rfl, rfl, rfl, rfl, fun i _ => hrow i, fun b i n1 n2 => by
    show hI (setI (setI (setI (setI (setI h0 88 1 (nI L)) 88 2 0) 88 3 0) 88 4 0) 88 6 0) b i = _
    rw [hI_setI, if_neg (by omega), hI_setI, if_neg (by omega), hI_setI, if_neg (by omega), hI_setI, if_neg (by omega), hI_setI, if_neg (by omega)]⟩
  obtain ⟨h', e, D⟩ := C159 w0 T hL h60 (k := 2) (ins := false) (dep := 0) (Or.inr ⟨rfl, rfl⟩) (by omega) (d + 8) (fun h p row size s hp hs => C160 w0 T hL h60 d 2 (by omega) h p row size s hp hs) s1 (by omega) (by omega)
  refine ⟨row, h', ?_, D⟩
  have D : DP h0 L h' (drT t L row) := D
  have r226 := R226 w0 hr (nI L)
  have w1 : Wf rb dr jd h1 := w0
  rw [E158]
  have ok := (WDr w0).1
  simp only [bI_some, bV_some, bR_some, bL_some, ob_some, cd_t, cd_f, cd_d, okO_setI, okA_setI, okL_setI, aLen_setI, hR_setI, hI_setI, Bool.true_and, Bool.and_true, Bool.and_self, Option.isNone_some, Option.isSome_some, Option.isNone_none, Option.isSome_none, okO_chI, okA_chI, okL_chI, aLen_chI, hR_chI, ↓reduceIte, not_true_eq_false, not_false_eq_true, eq_self, c10, ok, r226]
  rw [show setI (setI (setI (setI (setI h0 88 1 (nI L)) 88 2 0) 88 3 0) 88 4 0) 88 6 0 = h1 from rfl]
  rw [show nI 0 = (0 : Int32) from rfl] at e
  rcases drT_ok t L row with ⟨er, e1, e2, e3, e4⟩ | ⟨p, row', size, e1, e2, e3⟩
  · rw [e1] at D ⊢
    have D : DE h0 h' er.1 er.2 := D
    have w2 : Wf rb dr jd h' := w0.e D.1
    simp only [bI_some, bV_some, bR_some, bL_some, ob_some, cd_t, cd_f, cd_d, okO_setI, okA_setI, okL_setI, aLen_setI, hR_setI, hI_setI, Bool.true_and, Bool.and_true, Bool.and_self, Option.isNone_some, Option.isSome_some, Option.isNone_none, Option.isSome_none, okO_chI, okA_chI, okL_chI, aLen_chI, hR_chI, ↓reduceIte, not_true_eq_false, not_false_eq_true, eq_self, c10, e, WDr w2, R234e w2 hr D.2.1 e2 e3 D.2.2.1]
  · rw [e1] at D ⊢
    have D : DS h0 L h' p row' size := D
    have w2 : Wf rb dr jd h' := w0.e D.1
    simp only [bI_some, bV_some, bR_some, bL_some, ob_some, cd_t, cd_f, cd_d, okO_setI, okA_setI, okL_setI, aLen_setI, hR_setI, hI_setI, Bool.true_and, Bool.and_true, Bool.and_self, Option.isNone_some, Option.isSome_some, Option.isNone_none, Option.isSome_none, okO_chI, okA_chI, okL_chI, aLen_chI, hR_chI, ↓reduceIte, not_true_eq_false, not_false_eq_true, eq_self, c10, e, WDr w2, R234 w2 hr D.2.2.2.1, D.2.2.2.2.1]
