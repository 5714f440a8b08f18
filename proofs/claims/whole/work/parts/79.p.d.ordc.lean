/-! orders: lines of the class's reader -/
abbrev LN : Type := Nat × Nat × Nat × Nat
def lnT (t : Nat → Nat) (L : Nat) (F : Nat → Nat) (p n : Nat) : (Nat × Nat) ⊕ (Nat × LN) :=
  if p < L ∧ 48 ≤ t p ∧ t p ≤ 55 then (if n < 20 then match orT t L (F (t p - 48)) p with
    | .inl e => Sum.inl e
    | .inr q => Sum.inr (q.1, t p - 48, t (p + 1), q.2.1, q.2.2) else Sum.inl (4, p)) else Sum.inl (1, p)
def upl (a : Nat → LN) (n : Nat) (l : LN) : Nat → LN := fun i => if i = n then l else a i
def aft (t : Nat → Nat) (L : Nat) (f : Nat → Nat → (Nat → LN) → (Nat × Nat) ⊕ (Nat × (Nat → LN))) (p n : Nat) (a : Nat → LN) : (Nat × Nat) ⊕ (Nat × (Nat → LN)) := if p < L then (if t p = 59 then f (p + 1) n a else Sum.inl (1, p)) else Sum.inr (n, a)
def ordT (t : Nat → Nat) (L : Nat) (F : Nat → Nat) : Nat → Nat → Nat → (Nat → LN) → (Nat × Nat) ⊕ (Nat × (Nat → LN))
  | 0, p, _, _ => Sum.inl (1, p)
  | f + 1, p, n, a => match lnT t L F p n with
    | .inl e => Sum.inl e
    | .inr q => aft t L (ordT t L F f) q.1 (n + 1) (upl a n q.2)
/-- a line that is sound -/
def lOk (F : Nat → Nat) (l : LN) : Prop := l.1 < 8 ∧ 0 < F l.1 ∧ sgT l.2.1 = true ∧ l.2.2.1 < 1000 ∧ l.2.2.2 ≤ 16 ∧ (l.2.1 = 64 ∨ l.2.1 = 35 → l.2.2.1 < F l.1)
theorem lnT_ok (t : Nat → Nat) (L : Nat) (F : Nat → Nat) (p n : Nat) (hp : p ≤ L) : (∃ e, lnT t L F p n = Sum.inl e ∧ 0 < e.1 ∧ e.1 < 10 ∧ e.2 ≤ L) ∨ (∃ q, lnT t L F p n = Sum.inr q ∧ n < 20 ∧ p < q.1 ∧ q.1 ≤ L ∧ lOk F q.2) := by
  unfold lnT
  split
  · rename_i c
    split
    · rename_i hn
      rcases orT_ok t L (F (t p - 48)) p c.1 with ⟨e, he, e1, e2, e3⟩ | ⟨q, hq, q1, q2, q3, q4, q5, q6, q7, q8⟩
      · rw [he]
        exact Or.inl ⟨e, rfl, e1, e2, e3⟩
      · rw [hq]
        exact Or.inr ⟨_, rfl, hn, by show p < q.1; omega, q5, by show t p - 48 < 8; omega, q3, q2, q6, q7, q8⟩
    · exact Or.inl ⟨_, rfl, by show 0 < 4; omega, by show 4 < 10; omega, hp⟩
  · exact Or.inl ⟨_, rfl, by show 0 < 1; omega, by show 1 < 10; omega, hp⟩
def lAt (h : rz_H) (i : Nat) (l : LN) : Prop := hI h 91 i = nI l.1 ∧ hI h 92 i = nI l.2.1 ∧ hI h 93 i = nI l.2.2.1 ∧ hI h 94 i = nI l.2.2.2
def Oh (h0 h : rz_H) : Prop := h.2 = h0.2 ∧ ∀ b i, ¬ (90 ≤ b ∧ b ≤ 94) → hI h b i = hI h0 b i
theorem Oh.tr {h h1 h2 : rz_H} (a : Oh h h1) (b : Oh h1 h2) : Oh h h2 := ⟨b.1.trans a.1, fun c i n => (b.2 c i n).trans (a.2 c i n)⟩
def Cs (h0 h : rz_H) (L p n : Nat) (a : Nat → LN) : Prop := Oh h0 h ∧ Rs 90 h L p ∧ hI h 90 9 = nI n ∧ ∀ i, i < n → lAt h i (a i)
def Ce (h0 h : rz_H) (e : Nat × Nat) : Prop := Oh h0 h ∧ Re 90 h e
theorem Tq.oh {h h' : rz_H} {N : Nat} {t : Nat → Nat} (T : Tq h N t) (f : Oh h h') : Tq h' N t := T.q fun b i hb => f.2 b i (by omega)
theorem C181n {rb dr : Nat} {jd : Option Nat} {h : rz_H} (w : Wf rb dr jd h) {A k : Nat} (hA : isL A) (hk : k < 8) {F p t v s q : Nat} {g e : Nat → Nat} (O : tOk F p t v s q g e) (C : Dc h (A + 2 + 3 * k) F p t v s q g e) (h0 : F = 0) (d : Nat) : cW (d + 2) 181 [rz_r (some A), rz_i (nI k)] h = some (rz_r none, h) := by
  obtain ⟨k1, hd⟩ := WLk w hA hk
  have c142 := C142 w hd O C
  rw [decide_eq_false (show ¬ 0 < F by omega)] at c142
  have c142 : ∀ d, cW (d + 1) 142 [rz_r (some (A + 2 + 3 * k))] h = some (rz_i 0, h) := c142
  rw [E181]
  simp (disch := omega) only [↓cd_d, ↓irem_eq_mod, ↓ob_setI, ↓ob_chI, ↓ob_some, bI_some, bV_some, bR_some, bL_some, ob_some, cd_t, cd_f, okO_setI, okA_setI, okL_setI, aLen_setI, hR_setI, hI_setI, Bool.true_and, Bool.and_true, Bool.and_self, Option.isNone_some, Option.isSome_some, Option.isNone_none, Option.isSome_none, okO_chI, okA_chI, okL_chI, aLen_chI, hR_chI, ↓reduceIte, not_true_eq_false, not_false_eq_true, eq_self, c10, Nat.zero_add, nI_add, litA, litB, litM, nI_mul, nI_leI, nI_ltI, nI_eq, litLe, litLe2, litLt, litLt2, litEq, litEq2, in_nI, lit_in, nI_clamp, lit_cl, if_pos, if_neg, ↓WLb w hA, ↓obR k1, WLd w hA, WD w hd, c142, k1]
theorem C220e {rb dr : Nat} {jd : Option Nat} {h : rz_H} (w : Wf rb dr jd h) (e3 : ¬ hI h 90 3 = 0) (d : Nat) : cW (d + 3) 220 [rz_r (some 90), rz_r (some 3)] h = some (rz_i 0, h) := by
  have n1 : (-1 : Int32) < 48 := by decide
  rw [X220]
  simp only [bI_some, bV_some, bR_some, bL_some, ob_some, cd_t, cd_f, cd_d, okO_setI, okA_setI, okL_setI, aLen_setI, hR_setI, hI_setI, Bool.true_and, Bool.and_true, Bool.and_self, Option.isNone_some, Option.isSome_some, Option.isNone_none, Option.isSome_none, okO_chI, okA_chI, okL_chI, aLen_chI, hR_chI, ↓reduceIte, not_true_eq_false, not_false_eq_true, eq_self, c10, WOr w, R227e w isR90 e3, X220_3, n1, X220_9, R232e w isR90 e3, X220_11]
theorem C220 {rb dr : Nat} {jd : Option Nat} {h0 : rz_H} (w0 : Wf rb dr jd h0) {N : Nat} {t : Nat → Nat} (T0 : Tq h0 N t) {L : Nat} (hL : L ≤ N) {D : Nat → TU} {tk x : Nat} (O : LO D tk x) (C : LC h0 3 D tk x) {h : rz_H} {p n : Nat} {a : Nat → LN} (S : Cs h0 h L p n a) (hp : p ≤ L) (hn : n ≤ 20) (d : Nat) : ∃ h', cW (d + 5) 220 [rz_r (some 90), rz_r (some 3)] h = some (rz_i 0, h') ∧ ((∃ e, lnT t L (fun k => (D k).1) p n = Sum.inl e ∧ Ce h0 h' e) ∨ (∃ q, lnT t L (fun k => (D k).1) p n = Sum.inr q ∧ Cs h0 h' L q.1 (n + 1) (upl a n q.2))) := by
  obtain ⟨f, s, e9, al⟩ := S
  have w : Wf rb dr jd h := w0.e f.1
  have T := T0.oh f
  have hN := T.1.1
  have hb : p < L → t p < 256 := fun q => (T.1.2 p (by omega)).1
  have pk := fun d => R227 w isR90 T hL s.1 s.2.1 (by omega) s.2.2 d
  have p48 : pkI t L p < 48 ↔ (p < L → t p < 48) := pkk_lt (m := 48) hb (by omega)
  have p55 : (55 : Int32) < pkI t L p ↔ p < L ∧ 55 < t p := pkk_gt (m := 55) hb (by omega)
  unfold lnT
  by_cases c : p < L ∧ 48 ≤ t p ∧ t p ≤ 55
  · rw [if_pos c]
    have n1 : ¬ pkI t L p < 48 := fun z => by
      have := p48.mp z c.1
      omega
    have n2 : pkI t L p ≤ 55 := Int32.not_lt.mp fun z => by
      have := p55.mp z
      omega
    have n0 : ¬ nI n < 0 := Int32.not_lt.mpr (nI_pos' (by omega))
    have st : cW (d + 5) 220 [rz_r (some 90), rz_r (some 3)] h = rW (d + 4) 220 (15, (0, 0), [some (rz_r (some 90)), some (rz_r (some 3)), some (rz_i (nI (t p)))], [], h) := by
      rw [X220, pk]
      simp only [bI_some, bV_some, bR_some, bL_some, ob_some, cd_t, cd_f, cd_d, okO_setI, okA_setI, okL_setI, aLen_setI, hR_setI, hI_setI, Bool.true_and, Bool.and_true, Bool.and_self, Option.isNone_some, Option.isSome_some, Option.isNone_none, Option.isSome_none, okO_chI, okA_chI, okL_chI, aLen_chI, hR_chI, ↓reduceIte, not_true_eq_false, not_false_eq_true, eq_self, c10, WOr w, X220_3, n1, X220_6, n2, X220_12, e9, n0]
      rw [pkk_in c.1]
    rw [st, X220_15]
    by_cases c2 : n < 20
    · rw [if_pos c2]
      have k8 : t p - 48 < 8 := by omega
      have u : nI (t p) - 48 = nI (t p - 48) := nI_sub (b := 48) (by omega)
      let h1 := setI h 90 2 (nI (p + 1))
      let h2 := setI h1 91 n (nI (t p - 48))
      let h3 := setI h2 92 n (pkI t L (p + 1))
      let h4 := setI h3 93 n 0
      let h5 := setI h4 94 n 16
      have w1 : Wf rb dr jd h1 := w
      have w2 : Wf rb dr jd h2 := w
      have w3 : Wf rb dr jd h3 := w
      have w4 : Wf rb dr jd h4 := w
      have w5 : Wf rb dr jd h5 := w
      have o1 : ∀ b i, ¬ (b = 90 ∧ i = 2) → hI h1 b i = hI h b i := fun b i z => by
        show hI (setI h 90 2 _) b i = _
        rw [hI_setI, if_neg z]
      have o2 : ∀ b i, ¬ (b = 91 ∧ i = n) → hI h2 b i = hI h1 b i := fun b i z => by
        show hI (setI h1 91 n _) b i = _
        rw [hI_setI, if_neg z]
      have o3 : ∀ b i, ¬ (b = 92 ∧ i = n) → hI h3 b i = hI h2 b i := fun b i z => by
        show hI (setI h2 92 n _) b i = _
        rw [hI_setI, if_neg z]
      have o4 : ∀ b i, ¬ (b = 93 ∧ i = n) → hI h4 b i = hI h3 b i := fun b i z => by
        show hI (setI h3 93 n _) b i = _
        rw [hI_setI, if_neg z]
      have o5 : ∀ b i, ¬ (b = 94 ∧ i = n) → hI h5 b i = hI h4 b i := fun b i z => by
        show hI (setI h4 94 n _) b i = _
        rw [hI_setI, if_neg z]
      have q1 : hI h1 90 9 = nI n := (o1 90 9 (by omega)).trans e9
      have q2 : hI h2 90 9 = nI n := (o2 90 9 (by omega)).trans q1
      have q3 : hI h3 90 9 = nI n := (o3 90 9 (by omega)).trans q2
      have q4 : hI h4 90 9 = nI n := (o4 90 9 (by omega)).trans q3
      have q5 : hI h5 90 9 = nI n := (o5 90 9 (by omega)).trans q4
      have s1 : Rs 90 h1 L (p + 1) := s.go (p + 1)
      have s2 : Rs 90 h2 L (p + 1) := s1.w (by omega) _ _
      have s3 : Rs 90 h3 L (p + 1) := s2.w (by omega) _ _
      have s4 : Rs 90 h4 L (p + 1) := s3.w (by omega) _ _
      have s5 : Rs 90 h5 L (p + 1) := s4.w (by omega) _ _
      have f2 : Oh h h2 := ⟨rfl, fun b i z => (o2 b i (by omega)).trans (o1 b i (by omega))⟩
      have f5 : Oh h h5 := ⟨rfl, fun b i z => (o5 b i (by omega)).trans ((o4 b i (by omega)).trans ((o3 b i (by omega)).trans (f2.2 b i z)))⟩
      have T2 := T.oh f2
      have T5 := T.oh f5
      have pk2 := fun d => R227 w2 isR90 T2 hL s2.1 s2.2.1 (by omega) s2.2.2 d
      have pk5 := fun d => R227 w5 isR90 T5 hL s5.1 s5.2.1 (by omega) s5.2.2 d
      have C5 : LC h5 3 D tk x := C.to fun b b1 b2 i => (f5.2 b i (by omega)).trans (f.2 b i (by omega))
      obtain ⟨-, hd⟩ := WLk w5 (a := 3) (k := t p - 48) (Or.inl rfl) k8
      have hr : ∃ r, (∀ d, cW (d + 2) 181 [rz_r (some 3), rz_i (nI (t p - 48))] h5 = some (rz_r r, h5)) ∧ (((D (t p - 48)).1 = 0 ∧ r = none) ∨ (0 < (D (t p - 48)).1 ∧ ∃ a, r = some a ∧ isD a ∧ hI h5 a 2 = nI (D (t p - 48)).1)) := by
        by_cases hF : (D (t p - 48)).1 = 0
        · exact ⟨none, fun d => C181n w5 (Or.inl rfl) k8 (O.1 _ k8) (C5.1 _ k8) hF d, Or.inl ⟨hF, rfl⟩⟩
        · exact ⟨some _, fun d => C181 w5 (Or.inl rfl) k8 (O.1 _ k8) (C5.1 _ k8) (by omega) d, Or.inr ⟨by omega, _, rfl, hd, (C5.1 _ k8).1⟩⟩
      obtain ⟨r, er, hr⟩ := hr
      have hF16 : (D (t p - 48)).1 ≤ 16 := (O.1 _ k8).1
      obtain ⟨h6, e6, f6, o6⟩ := C221 w5 T5 hL s5 (by omega) q5 c2 (by show hI (setI h4 94 n 16) 93 n = _; rw [hI_setI, if_neg (by omega)]; show hI (setI h3 93 n 0) 93 n = _; rw [hI_setI, if_pos ⟨rfl, rfl⟩]; rfl) (by show hI (setI h4 94 n 16) 94 n = _; rw [hI_setI, if_pos ⟨rfl, rfl⟩]; rfl) hF16 hr d
      have w6 : Wf rb dr jd h6 := w5.e f6.1
      have q6 : hI h6 90 9 = nI n := (f6.2 90 9 (by omega) (by omega) (by omega)).trans q5
      have F6 : Oh h h6 := f5.tr ⟨f6.1, fun b i z => f6.2 b i (by omega) (by omega) (by omega)⟩
      have st2 : rW (d + 4) 220 (25, (0, 0), [some (rz_r (some 90)), some (rz_r (some 3)), some (rz_i (nI (t p)))], [], h) = some (rz_i 0, setI h6 90 9 (nI (n + 1))) := by
        have b5 := obR (WOr w1).2.2.2.1
        have b6 := obR (WOr w2).2.2.2.2.1
        have b7 := obR (WOr w3).2.2.2.2.2.1
        have b8 := obR (WOr w4).2.2.2.2.2.2.1
        rw [X220_25]
        simp only [bI_some, bV_some, bR_some, bL_some, ob_some, cd_t, cd_f, cd_d, okO_setI, okA_setI, okL_setI, aLen_setI, hR_setI, hI_setI, Bool.true_and, Bool.and_true, Bool.and_self, Option.isNone_some, Option.isSome_some, Option.isNone_none, Option.isSome_none, okO_chI, okA_chI, okL_chI, aLen_chI, hR_chI, ↓reduceIte, not_true_eq_false, not_false_eq_true, eq_self, c10, WOr w, R229 w isR90 s.2.1]
        rw [show setI h 90 2 (nI (p + 1)) = h1 from rfl, X220_27]
        simp (disch := omega) only [↓cd_d, ↓irem_eq_mod, ↓ob_setI, ↓ob_chI, ↓ob_some, bI_some, bV_some, bR_some, bL_some, ob_some, cd_t, cd_f, okO_setI, okA_setI, okL_setI, aLen_setI, hR_setI, hI_setI, Bool.true_and, Bool.and_true, Bool.and_self, Option.isNone_some, Option.isSome_some, Option.isNone_none, Option.isSome_none, okO_chI, okA_chI, okL_chI, aLen_chI, hR_chI, ↓reduceIte, not_true_eq_false, not_false_eq_true, eq_self, c10, Nat.zero_add, nI_add, litA, litB, litM, nI_mul, nI_leI, nI_ltI, nI_eq, litLe, litLe2, litLt, litLt2, litEq, litEq2, in_nI, lit_in, nI_clamp, lit_cl, if_pos, if_neg, WOr w1, ↓b5, q1, u]
        rw [show setI h1 91 n (nI (t p - 48)) = h2 from rfl, X220_35, pk2]
        simp (disch := omega) only [↓cd_d, ↓irem_eq_mod, ↓ob_setI, ↓ob_chI, ↓ob_some, bI_some, bV_some, bR_some, bL_some, ob_some, cd_t, cd_f, okO_setI, okA_setI, okL_setI, aLen_setI, hR_setI, hI_setI, Bool.true_and, Bool.and_true, Bool.and_self, Option.isNone_some, Option.isSome_some, Option.isNone_none, Option.isSome_none, okO_chI, okA_chI, okL_chI, aLen_chI, hR_chI, ↓reduceIte, not_true_eq_false, not_false_eq_true, eq_self, c10, Nat.zero_add, nI_add, litA, litB, litM, nI_mul, nI_leI, nI_ltI, nI_eq, litLe, litLe2, litLt, litLt2, litEq, litEq2, in_nI, lit_in, nI_clamp, lit_cl, if_pos, if_neg, WOr w2, ↓b6, q2]
        rw [show setI h2 92 n (pkI t L (p + 1)) = h3 from rfl, X220_42]
        simp (disch := omega) only [↓cd_d, ↓irem_eq_mod, ↓ob_setI, ↓ob_chI, ↓ob_some, bI_some, bV_some, bR_some, bL_some, ob_some, cd_t, cd_f, okO_setI, okA_setI, okL_setI, aLen_setI, hR_setI, hI_setI, Bool.true_and, Bool.and_true, Bool.and_self, Option.isNone_some, Option.isSome_some, Option.isNone_none, Option.isSome_none, okO_chI, okA_chI, okL_chI, aLen_chI, hR_chI, ↓reduceIte, not_true_eq_false, not_false_eq_true, eq_self, c10, Nat.zero_add, nI_add, litA, litB, litM, nI_mul, nI_leI, nI_ltI, nI_eq, litLe, litLe2, litLt, litLt2, litEq, litEq2, in_nI, lit_in, nI_clamp, lit_cl, if_pos, if_neg, WOr w3, ↓b7, q3]
        rw [show setI h3 93 n 0 = h4 from rfl, X220_48]
        simp (disch := omega) only [↓cd_d, ↓irem_eq_mod, ↓ob_setI, ↓ob_chI, ↓ob_some, bI_some, bV_some, bR_some, bL_some, ob_some, cd_t, cd_f, okO_setI, okA_setI, okL_setI, aLen_setI, hR_setI, hI_setI, Bool.true_and, Bool.and_true, Bool.and_self, Option.isNone_some, Option.isSome_some, Option.isNone_none, Option.isSome_none, okO_chI, okA_chI, okL_chI, aLen_chI, hR_chI, ↓reduceIte, not_true_eq_false, not_false_eq_true, eq_self, c10, Nat.zero_add, nI_add, litA, litB, litM, nI_mul, nI_leI, nI_ltI, nI_eq, litLe, litLe2, litLt, litLt2, litEq, litEq2, in_nI, lit_in, nI_clamp, lit_cl, if_pos, if_neg, WOr w4, ↓b8, q4]
        rw [show setI h4 94 n 16 = h5 from rfl, X220_54, u]
        have l3 := (WLd w5 (a := 3) (Or.inl rfl)).1
        have o90 := (WOr w5).1
        generalize h5 = g5 at *
        simp only [bI_some, bV_some, bR_some, bL_some, ob_some, cd_t, cd_f, cd_d, okO_setI, okA_setI, okL_setI, aLen_setI, hR_setI, hI_setI, Bool.true_and, Bool.and_true, Bool.and_self, Option.isNone_some, Option.isSome_some, Option.isNone_none, Option.isSome_none, okO_chI, okA_chI, okL_chI, aLen_chI, hR_chI, ↓reduceIte, not_true_eq_false, not_false_eq_true, eq_self, c10, l3, er, o90, pk5, e6]
        rw [X220_63]
        simp only [bI_some, bV_some, bR_some, bL_some, ob_some, cd_t, cd_f, cd_d, okO_setI, okA_setI, okL_setI, aLen_setI, hR_setI, hI_setI, Bool.true_and, Bool.and_true, Bool.and_self, Option.isNone_some, Option.isSome_some, Option.isNone_none, Option.isSome_none, okO_chI, okA_chI, okL_chI, aLen_chI, hR_chI, ↓reduceIte, not_true_eq_false, not_false_eq_true, eq_self, c10, WOr w6, q6, nI_1, X220_69]
      have F7 : Oh h0 (setI h6 90 9 (nI (n + 1))) := (f.tr F6).tr ⟨rfl, fun b i z => by rw [hI_setI, if_neg (by omega)]⟩
      refine ⟨setI h6 90 9 (nI (n + 1)), ?_, ?_⟩
      · have g : nI n < 20 := (nI_ltI (a := n) (b := 20) (by omega) (by omega)).mpr c2
        simp only [bI_some, bV_some, bR_some, bL_some, ob_some, cd_t, cd_f, cd_d, okO_setI, okA_setI, okL_setI, aLen_setI, hR_setI, hI_setI, Bool.true_and, Bool.and_true, Bool.and_self, Option.isNone_some, Option.isSome_some, Option.isNone_none, Option.isSome_none, okO_chI, okA_chI, okL_chI, aLen_chI, hR_chI, ↓reduceIte, not_true_eq_false, not_false_eq_true, eq_self, c10, WOr w, e9, g]
        exact st2
      · have oo := orT_ok t L (D (t p - 48)).1 p c.1
        show (∃ e, (match orT t L (D (t p - 48)).1 p with
          | .inl e => Sum.inl e
          | .inr q => Sum.inr (q.1, t p - 48, t (p + 1), q.2.1, q.2.2)) = Sum.inl e ∧ _) ∨ (∃ q, (match orT t L (D (t p - 48)).1 p with
          | .inl e => Sum.inl e
          | .inr q => Sum.inr (q.1, t p - 48, t (p + 1), q.2.1, q.2.2)) = Sum.inr q ∧ _)
        rcases o6 with ⟨e, he, o6⟩ | ⟨q, hq, o6, v1, v2⟩
        · rw [he]
          exact Or.inl ⟨e, rfl, F7, by rw [hI_setI, if_neg (by omega)]; exact o6.1, by rw [hI_setI, if_neg (by omega)]; exact o6.2⟩
        · rw [hq] at oo ⊢
          have c3 : p + 1 < L := by
            rcases oo with ⟨e, he, -⟩ | ⟨q', -, z, -⟩
            · exact absurd he (by simp)
            · exact z
          refine Or.inr ⟨_, rfl, F7, ⟨by rw [hI_setI, if_neg (by omega)]; exact o6.1, by rw [hI_setI, if_neg (by omega)]; exact o6.2.1, by rw [hI_setI, if_neg (by omega)]; exact o6.2.2⟩, by rw [hI_setI, if_pos ⟨rfl, rfl⟩], fun i hi => ?_⟩
          show lAt _ i (if i = n then _ else a i)
          by_cases ei : i = n
          · subst ei
            rw [if_pos rfl]
            refine ⟨?_, ?_, ?_, ?_⟩
            · rw [hI_setI, if_neg (by omega), f6.2 91 i (by omega) (by omega) (by omega), o5 91 i (by omega), o4 91 i (by omega), o3 91 i (by omega)]
              show hI (setI h1 91 i _) 91 i = _
              rw [hI_setI, if_pos ⟨rfl, rfl⟩]
            · rw [hI_setI, if_neg (by omega), f6.2 92 i (by omega) (by omega) (by omega), o5 92 i (by omega), o4 92 i (by omega)]
              show hI (setI h2 92 i _) 92 i = _
              rw [hI_setI, if_pos ⟨rfl, rfl⟩, pkk_in c3]
            · rw [hI_setI, if_neg (by omega)]
              exact v1
            · rw [hI_setI, if_neg (by omega)]
              exact v2
          · rw [if_neg ei]
            obtain ⟨a1, a2, a3, a4⟩ := al i (by omega)
            have oi : ∀ b, 91 ≤ b → b ≤ 94 → hI (setI h6 90 9 (nI (n + 1))) b i = hI h b i := fun b b1 b2 => by
              rw [hI_setI, if_neg (by omega), f6.2 b i (by omega) (by omega) (by omega), o5 b i (by omega), o4 b i (by omega), o3 b i (by omega), o2 b i (by omega), o1 b i (by omega)]
            exact ⟨(oi 91 (by omega) (by omega)).trans a1, (oi 92 (by omega) (by omega)).trans a2, (oi 93 (by omega) (by omega)).trans a3, (oi 94 (by omega) (by omega)).trans a4⟩
    · rw [if_neg c2]
      have g : ¬ nI n < 20 := fun z => c2 ((nI_ltI (a := n) (b := 20) (by omega) (by omega)).mp z)
      refine ⟨setI (setI h 90 3 4) 90 4 (nI p), ?_, Or.inl ⟨_, rfl, f.tr ⟨rfl, fun b i z => by rw [hI_setI, if_neg (by omega), hI_setI, if_neg (by omega)]⟩, Re.bl 90 h 4 p⟩⟩
      simp only [bI_some, bV_some, bR_some, bL_some, ob_some, cd_t, cd_f, cd_d, okO_setI, okA_setI, okL_setI, aLen_setI, hR_setI, hI_setI, Bool.true_and, Bool.and_true, Bool.and_self, Option.isNone_some, Option.isSome_some, Option.isNone_none, Option.isSome_none, okO_chI, okA_chI, okL_chI, aLen_chI, hR_chI, ↓reduceIte, not_true_eq_false, not_false_eq_true, eq_self, c10, WOr w, e9, g, X220_19, R228 w isR90, s.2.1, R231 w isR90 s.2.2, X220_24]
  · rw [if_neg c]
    refine ⟨setI (setI h 90 3 1) 90 4 (nI p), ?_, Or.inl ⟨_, rfl, f.tr ⟨rfl, fun b i z => by rw [hI_setI, if_neg (by omega), hI_setI, if_neg (by omega)]⟩, Re.bl 90 h 1 p⟩⟩
    rw [X220, pk]
    by_cases n1 : pkI t L p < 48
    · simp only [bI_some, bV_some, bR_some, bL_some, ob_some, cd_t, cd_f, cd_d, okO_setI, okA_setI, okL_setI, aLen_setI, hR_setI, hI_setI, Bool.true_and, Bool.and_true, Bool.and_self, Option.isNone_some, Option.isSome_some, Option.isNone_none, Option.isSome_none, okO_chI, okA_chI, okL_chI, aLen_chI, hR_chI, ↓reduceIte, not_true_eq_false, not_false_eq_true, eq_self, c10, WOr w, X220_3, n1, X220_9, R232 w isR90 s.2.1 s.2.2, X220_11]
    · have n2 : ¬ pkI t L p ≤ 55 := Int32.not_le.mpr (p55.mpr (by
        have hp : p < L := Classical.byContradiction fun z => n1 (p48.mpr fun y => absurd y z)
        have : ¬ t p < 48 := fun z => n1 (p48.mpr fun _ => z)
        omega))
      simp only [bI_some, bV_some, bR_some, bL_some, ob_some, cd_t, cd_f, cd_d, okO_setI, okA_setI, okL_setI, aLen_setI, hR_setI, hI_setI, Bool.true_and, Bool.and_true, Bool.and_self, Option.isNone_some, Option.isSome_some, Option.isNone_none, Option.isSome_none, okO_chI, okA_chI, okL_chI, aLen_chI, hR_chI, ↓reduceIte, not_true_eq_false, not_false_eq_true, eq_self, c10, WOr w, X220_3, n1, X220_6, n2, X220_9, R232 w isR90 s.2.1 s.2.2, X220_11]
/-- how the class's reader ends -/
def Of (h0 h' : rz_H) (v : Int32) (z : (Nat × Nat) ⊕ (Nat × (Nat → LN))) : Prop := (∃ e, z = Sum.inl e ∧ v = erI e.1 e.2 ∧ Oh h0 h') ∨ (∃ q, z = Sum.inr q ∧ v = nI q.1 ∧ 0 < q.1 ∧ q.1 ≤ 20 ∧ Oh h0 h' ∧ hI h' 90 9 = nI q.1 ∧ ∀ i, i < q.1 → lAt h' i (q.2 i))
theorem T11e {rb dr : Nat} {jd : Option Nat} {h : rz_H} (w : Wf rb dr jd h) {e : Nat × Nat} (s : Re 90 h e) (h0 : 0 < e.1) (h1 : e.1 < 10) (i : Int32) (d : Nat) (j1 : Option rz_V) : rW (d + 3) 219 (11, (0, 0), [some (rz_r (some 90)), j1, some (rz_r (some 3)), some (rz_i i)], [], h) = some (rz_i (erI e.1 e.2), h) := by
  have e3 := s.ne h0 h1
  have fin : rW (d + 3) 219 (26, (0, 0), [some (rz_r (some 90)), none, some (rz_r (some 3)), some (rz_i i)], [], h) = some (rz_i (erI e.1 e.2), h) := by
    rw [X219_26]
    simp only [bI_some, bV_some, bR_some, bL_some, ob_some, cd_t, cd_f, cd_d, okO_setI, okA_setI, okL_setI, aLen_setI, hR_setI, hI_setI, Bool.true_and, Bool.and_true, Bool.and_self, Option.isNone_some, Option.isSome_some, Option.isNone_none, Option.isSome_none, okO_chI, okA_chI, okL_chI, aLen_chI, hR_chI, ↓reduceIte, not_true_eq_false, not_false_eq_true, eq_self, c10, WOr w, R234e w isR90 s.1 h0 h1 s.2]
  rw [X219_11]
  by_cases c : (20 : Int32) ≤ i
  · simp only [bI_some, bV_some, bR_some, bL_some, ob_some, cd_t, cd_f, cd_d, okO_setI, okA_setI, okL_setI, aLen_setI, hR_setI, hI_setI, Bool.true_and, Bool.and_true, Bool.and_self, Option.isNone_some, Option.isSome_some, Option.isNone_none, Option.isSome_none, okO_chI, okA_chI, okL_chI, aLen_chI, hR_chI, ↓reduceIte, not_true_eq_false, not_false_eq_true, eq_self, c10, c]
    exact fin
  · simp only [bI_some, bV_some, bR_some, bL_some, ob_some, cd_t, cd_f, cd_d, okO_setI, okA_setI, okL_setI, aLen_setI, hR_setI, hI_setI, Bool.true_and, Bool.and_true, Bool.and_self, Option.isNone_some, Option.isSome_some, Option.isNone_none, Option.isSome_none, okO_chI, okA_chI, okL_chI, aLen_chI, hR_chI, ↓reduceIte, not_true_eq_false, not_false_eq_true, eq_self, c10, c]
    rw [X219_14]
    simp only [bI_some, bV_some, bR_some, bL_some, ob_some, cd_t, cd_f, cd_d, okO_setI, okA_setI, okL_setI, aLen_setI, hR_setI, hI_setI, Bool.true_and, Bool.and_true, Bool.and_self, Option.isNone_some, Option.isSome_some, Option.isNone_none, Option.isSome_none, okO_chI, okA_chI, okL_chI, aLen_chI, hR_chI, ↓reduceIte, not_true_eq_false, not_false_eq_true, eq_self, c10, WOr w, R227e w isR90 e3]
    exact fin
theorem T11 {rb dr : Nat} {jd : Option Nat} {h0 : rz_H} (w0 : Wf rb dr jd h0) {N : Nat} {t : Nat → Nat} (T0 : Tq h0 N t) {L : Nat} (hL : L ≤ N) {D : Nat → TU} {tk x : Nat} (O : LO D tk x) (C : LC h0 3 D tk x) (d : Nat) : ∀ f i h p n a, i + f = 20 → n = i + 1 → n ≤ 20 → Cs h0 h L p n a → p ≤ L → ∃ v h', (∀ j1, rW (d + 5) 219 (11, (0, 0), [some (rz_r (some 90)), j1, some (rz_r (some 3)), some (rz_i (nI i))], [], h) = some (rz_i v, h')) ∧ Of h0 h' v (aft t L (ordT t L (fun k => (D k).1) f) p n a) := by
  intro f
  induction f with
  | zero => intro i h p n a hi hn h20; omega
  | succ f ih =>
    intro i h p n a hi hni hn S hp
    have w : Wf rb dr jd h := w0.e S.1.1
    have T := T0.oh S.1
    have s := S.2.1
    have hN := T.1.1
    have pk := fun d => R227 w isR90 T hL s.1 s.2.1 (by omega) s.2.2 d
    have g20 : ¬ (20 : Int32) ≤ nI i := nI_ge (b := 20) (by omega) (by omega)
    have e233 : ∀ d, cW (d + 3) 233 [rz_r (some 90), rz_i 59] h = if p < L ∧ t p = 59 then some (rz_i 0, setI h 90 2 (nI (p + 1))) else some (rz_i 0, setI (setI h 90 3 1) 90 4 (nI p)) := fun d => R233 w isR90 T hL s.1 s.2.1 (by omega) s.2.2 (m := 59) (by omega) d
    unfold aft
    by_cases c : p < L
    · rw [if_pos c]
      have tb := (T.1.2 p (by omega)).1
      have ne : ¬ nI (t p) = (-1 : Int32) := ne_m1 (by omega)
      have st : ∀ j1, rW (d + 5) 219 (11, (0, 0), [some (rz_r (some 90)), j1, some (rz_r (some 3)), some (rz_i (nI i))], [], h) = rW (d + 5) 219 (18, (0, 0), [some (rz_r (some 90)), none, some (rz_r (some 3)), some (rz_i (nI i))], [], h) := fun j1 => by
        rw [X219_11]
        simp only [bI_some, bV_some, bR_some, bL_some, ob_some, cd_t, cd_f, cd_d, okO_setI, okA_setI, okL_setI, aLen_setI, hR_setI, hI_setI, Bool.true_and, Bool.and_true, Bool.and_self, Option.isNone_some, Option.isSome_some, Option.isNone_none, Option.isSome_none, okO_chI, okA_chI, okL_chI, aLen_chI, hR_chI, ↓reduceIte, not_true_eq_false, not_false_eq_true, eq_self, c10, g20]
        rw [X219_14, pk, pkk_in c]
        simp only [bI_some, bV_some, bR_some, bL_some, ob_some, cd_t, cd_f, cd_d, okO_setI, okA_setI, okL_setI, aLen_setI, hR_setI, hI_setI, Bool.true_and, Bool.and_true, Bool.and_self, Option.isNone_some, Option.isSome_some, Option.isNone_none, Option.isSome_none, okO_chI, okA_chI, okL_chI, aLen_chI, hR_chI, ↓reduceIte, not_true_eq_false, not_false_eq_true, eq_self, c10, WOr w, ne]
      by_cases c2 : t p = 59
      · rw [if_pos c2]
        let h1 := setI h 90 2 (nI (p + 1))
        have w1 : Wf rb dr jd h1 := w
        have f1 : Fr 90 h h1 := Fr.go 90 h _
        have S1 : Cs h0 h1 L (p + 1) n a := ⟨S.1.tr ⟨f1.1, fun b i z => f1.2 b i (by omega)⟩, s.go (p + 1), (f1.2 90 9 (by omega)).trans S.2.2.1, fun i hi => by
          obtain ⟨a1, a2, a3, a4⟩ := S.2.2.2 i hi
          exact ⟨(f1.2 91 i (by omega)).trans a1, (f1.2 92 i (by omega)).trans a2, (f1.2 93 i (by omega)).trans a3, (f1.2 94 i (by omega)).trans a4⟩⟩
        obtain ⟨h2, e2, o2⟩ := C220 w0 T0 hL O C S1 (by omega) hn d
        have st2 : ∀ j1, rW (d + 5) 219 (11, (0, 0), [some (rz_r (some 90)), j1, some (rz_r (some 3)), some (rz_i (nI i))], [], h) = rW (d + 5) 219 (11, (0, 0), [some (rz_r (some 90)), none, some (rz_r (some 3)), some (rz_i (nI (i + 1)))], [], h2) := fun j1 => by
          rw [st j1, X219_18]
          simp only [bI_some, bV_some, bR_some, bL_some, ob_some, cd_t, cd_f, cd_d, okO_setI, okA_setI, okL_setI, aLen_setI, hR_setI, hI_setI, Bool.true_and, Bool.and_true, Bool.and_self, Option.isNone_some, Option.isSome_some, Option.isNone_none, Option.isSome_none, okO_chI, okA_chI, okL_chI, aLen_chI, hR_chI, ↓reduceIte, not_true_eq_false, not_false_eq_true, eq_self, c10, WOr w, e233, if_pos (show p < L ∧ t p = 59 from ⟨c, c2⟩)]
          rw [show setI h 90 2 (nI (p + 1)) = h1 from rfl, X219_21, e2]
          simp only [bI_some, bV_some, bR_some, bL_some, ob_some, cd_t, cd_f, cd_d, okO_setI, okA_setI, okL_setI, aLen_setI, hR_setI, hI_setI, Bool.true_and, Bool.and_true, Bool.and_self, Option.isNone_some, Option.isSome_some, Option.isNone_none, Option.isSome_none, okO_chI, okA_chI, okL_chI, aLen_chI, hR_chI, ↓reduceIte, not_true_eq_false, not_false_eq_true, eq_self, c10, WOr w1, X219_24, X219_25, nI_1]
        show ∃ v h', _ ∧ Of h0 h' v (match lnT t L (fun k => (D k).1) (p + 1) n with
          | .inl e => Sum.inl e
          | .inr q => aft t L (ordT t L (fun k => (D k).1) f) q.1 (n + 1) (upl a n q.2))
        rcases o2 with ⟨e, he, o2⟩ | ⟨q, hq, o2⟩
        · rw [he]
          have w2 : Wf rb dr jd h2 := w0.e o2.1.1
          rcases lnT_ok t L (fun k => (D k).1) (p + 1) n (by omega) with ⟨e', he', z1, z2, z3⟩ | ⟨q, hq, -⟩
          · rw [he] at he'
            have : e = e' := by simpa using he'
            subst this
            exact ⟨_, h2, fun j1 => (st2 j1).trans (T11e w2 o2.2 z1 z2 _ (d + 2) _), Or.inl ⟨e, rfl, rfl, o2.1⟩⟩
          · rw [he] at hq
            exact absurd hq (by simp)
        · rw [hq]
          rcases lnT_ok t L (fun k => (D k).1) (p + 1) n (by omega) with ⟨e', he', -⟩ | ⟨q', hq', z1, z2, z3, z4⟩
          · rw [hq] at he'
            exact absurd he' (by simp)
          · rw [hq] at hq'
            have : q = q' := by simpa using hq'
            subst this
            obtain ⟨v, h', e, o⟩ := ih (i + 1) h2 q.1 (n + 1) (upl a n q.2) (by omega) (by omega) (by omega) o2 z3
            exact ⟨v, h', fun j1 => (st2 j1).trans (e _), o⟩
      · rw [if_neg c2]
        let h1 := setI (setI h 90 3 1) 90 4 (nI p)
        have w1 : Wf rb dr jd h1 := w
        have f1 : Fr 90 h h1 := Fr.bl 90 h _ _
        have s1 : Re 90 h1 (1, p) := Re.bl 90 h 1 p
        have e3 := s1.ne (by show 0 < 1; omega) (by show 1 < 10; omega)
        refine ⟨_, h1, fun j1 => ?_, Or.inl ⟨_, rfl, rfl, S.1.tr ⟨f1.1, fun b i z => f1.2 b i (by omega)⟩⟩⟩
        rw [st j1, X219_18]
        simp only [bI_some, bV_some, bR_some, bL_some, ob_some, cd_t, cd_f, cd_d, okO_setI, okA_setI, okL_setI, aLen_setI, hR_setI, hI_setI, Bool.true_and, Bool.and_true, Bool.and_self, Option.isNone_some, Option.isSome_some, Option.isNone_none, Option.isSome_none, okO_chI, okA_chI, okL_chI, aLen_chI, hR_chI, ↓reduceIte, not_true_eq_false, not_false_eq_true, eq_self, c10, WOr w, e233, if_neg (show ¬ (p < L ∧ t p = 59) from fun z => c2 z.2)]
        rw [show setI (setI h 90 3 1) 90 4 (nI p) = h1 from rfl, X219_21, C220e w1 e3]
        simp only [bI_some, bV_some, bR_some, bL_some, ob_some, cd_t, cd_f, cd_d, okO_setI, okA_setI, okL_setI, aLen_setI, hR_setI, hI_setI, Bool.true_and, Bool.and_true, Bool.and_self, Option.isNone_some, Option.isSome_some, Option.isNone_none, Option.isSome_none, okO_chI, okA_chI, okL_chI, aLen_chI, hR_chI, ↓reduceIte, not_true_eq_false, not_false_eq_true, eq_self, c10, WOr w1, X219_24, X219_25]
        exact T11e w1 s1 (by show 0 < 1; omega) (by show 1 < 10; omega) _ (d + 2) _
    · rw [if_neg c]
      refine ⟨nI n, h, fun j1 => ?_, Or.inr ⟨_, rfl, rfl, by show 0 < n; omega, hn, S.1, S.2.2.1, S.2.2.2⟩⟩
      rw [X219_11]
      simp only [bI_some, bV_some, bR_some, bL_some, ob_some, cd_t, cd_f, cd_d, okO_setI, okA_setI, okL_setI, aLen_setI, hR_setI, hI_setI, Bool.true_and, Bool.and_true, Bool.and_self, Option.isNone_some, Option.isSome_some, Option.isNone_none, Option.isSome_none, okO_chI, okA_chI, okL_chI, aLen_chI, hR_chI, ↓reduceIte, not_true_eq_false, not_false_eq_true, eq_self, c10, g20]
      rw [X219_14, pk, pkk_out c]
      simp only [bI_some, bV_some, bR_some, bL_some, ob_some, cd_t, cd_f, cd_d, okO_setI, okA_setI, okL_setI, aLen_setI, hR_setI, hI_setI, Bool.true_and, Bool.and_true, Bool.and_self, Option.isNone_some, Option.isSome_some, Option.isNone_none, Option.isSome_none, okO_chI, okA_chI, okL_chI, aLen_chI, hR_chI, ↓reduceIte, not_true_eq_false, not_false_eq_true, eq_self, c10, WOr w]
      rw [X219_26]
      simp only [bI_some, bV_some, bR_some, bL_some, ob_some, cd_t, cd_f, cd_d, okO_setI, okA_setI, okL_setI, aLen_setI, hR_setI, hI_setI, Bool.true_and, Bool.and_true, Bool.and_self, Option.isNone_some, Option.isSome_some, Option.isNone_none, Option.isSome_none, okO_chI, okA_chI, okL_chI, aLen_chI, hR_chI, ↓reduceIte, not_true_eq_false, not_false_eq_true, eq_self, c10, WOr w, S.2.2.1, R234 w isR90 s.2.2]
theorem C219 {rb dr : Nat} {jd : Option Nat} {h : rz_H} (w : Wf rb dr jd h) {N : Nat} {t : Nat → Nat} (T : Tq h N t) {L : Nat} (hL : L ≤ N) {D : Nat → TU} {tk x : Nat} (O : LO D tk x) (C : LC h 3 D tk x) (a : Nat → LN) (d : Nat) : ∃ v h', cW (d + 6) 219 [rz_r (some 90), rz_i (nI L), rz_r (some 3)] h = some (rz_i v, h') ∧ Of h h' v (ordT t L (fun k => (D k).1) 21 0 0 a) := by
  let h1 := setI (setI (setI (setI h 90 1 (nI L)) 90 2 0) 90 3 0) 90 4 0
  let h2 := setI h1 90 9 0
  have w1 : Wf rb dr jd h1 := w
  have w2 : Wf rb dr jd h2 := w
  have o2 : ∀ b i, b ≠ 90 → hI h2 b i = hI h b i := fun b i z => by
    show hI (setI (setI (setI (setI (setI h 90 1 (nI L)) 90 2 0) 90 3 0) 90 4 0) 90 9 0) b i = _
    rw [hI_setI, if_neg (by omega), hI_setI, if_neg (by omega), hI_setI, if_neg (by omega), hI_setI, if_neg (by omega), hI_setI, if_neg (by omega)]
  have S2 : Cs h h2 L 0 0 a := ⟨⟨rfl, fun b i z => o2 b i (by omega)⟩, ⟨rfl, rfl, rfl⟩, rfl, fun i hi => absurd hi (by omega)⟩
  obtain ⟨h3, e3, o3⟩ := C220 w T hL O C S2 (by omega) (by omega) d
  have st : cW (d + 6) 219 [rz_r (some 90), rz_i (nI L), rz_r (some 3)] h = rW (d + 5) 219 (11, (0, 0), [some (rz_r (some 90)), some (rz_i (nI L)), some (rz_r (some 3)), some (rz_i (nI 0))], [], h3) := by
    rw [X219]
    simp only [bI_some, bV_some, bR_some, bL_some, ob_some, cd_t, cd_f, cd_d, okO_setI, okA_setI, okL_setI, aLen_setI, hR_setI, hI_setI, Bool.true_and, Bool.and_true, Bool.and_self, Option.isNone_some, Option.isSome_some, Option.isNone_none, Option.isSome_none, okO_chI, okA_chI, okL_chI, aLen_chI, hR_chI, ↓reduceIte, not_true_eq_false, not_false_eq_true, eq_self, c10, WOr w, R226 w isR90]
    rw [show setI (setI (setI (setI h 90 1 (nI L)) 90 2 0) 90 3 0) 90 4 0 = h1 from rfl, X219_3]
    simp only [bI_some, bV_some, bR_some, bL_some, ob_some, cd_t, cd_f, cd_d, okO_setI, okA_setI, okL_setI, aLen_setI, hR_setI, hI_setI, Bool.true_and, Bool.and_true, Bool.and_self, Option.isNone_some, Option.isSome_some, Option.isNone_none, Option.isSome_none, okO_chI, okA_chI, okL_chI, aLen_chI, hR_chI, ↓reduceIte, not_true_eq_false, not_false_eq_true, eq_self, c10, WOr w1]
    rw [show setI h1 90 9 0 = h2 from rfl, X219_6, e3]
    simp only [bI_some, bV_some, bR_some, bL_some, ob_some, cd_t, cd_f, cd_d, okO_setI, okA_setI, okL_setI, aLen_setI, hR_setI, hI_setI, Bool.true_and, Bool.and_true, Bool.and_self, Option.isNone_some, Option.isSome_some, Option.isNone_none, Option.isSome_none, okO_chI, okA_chI, okL_chI, aLen_chI, hR_chI, ↓reduceIte, not_true_eq_false, not_false_eq_true, eq_self, c10, WOr w2, X219_9]
    rfl
  rw [st]
  show ∃ v h', _ ∧ Of h h' v (match lnT t L (fun k => (D k).1) 0 0 with
    | .inl e => Sum.inl e
    | .inr q => aft t L (ordT t L (fun k => (D k).1) 20) q.1 (0 + 1) (upl a 0 q.2))
  rcases o3 with ⟨e, he, o3⟩ | ⟨q, hq, o3⟩
  · rw [he]
    have w3 : Wf rb dr jd h3 := w.e o3.1.1
    rcases lnT_ok t L (fun k => (D k).1) 0 0 (by omega) with ⟨e', he', z1, z2, z3⟩ | ⟨q, hq, -⟩
    · rw [he] at he'
      have : e = e' := by simpa using he'
      subst this
      exact ⟨_, h3, T11e w3 o3.2 z1 z2 _ (d + 2) _, Or.inl ⟨e, rfl, rfl, o3.1⟩⟩
    · rw [he] at hq
      exact absurd hq (by simp)
  · rw [hq]
    rcases lnT_ok t L (fun k => (D k).1) 0 0 (by omega) with ⟨e', he', -⟩ | ⟨q', hq', z1, z2, z3, z4⟩
    · rw [hq] at he'
      exact absurd he' (by simp)
    · rw [hq] at hq'
      have : q = q' := by simpa using hq'
      subst this
      obtain ⟨v, h', e, o⟩ := T11 w T hL O C d 20 0 h3 q.1 (0 + 1) (upl a 0 q.2) (by omega) (by omega) (by omega) o3 z3
      exact ⟨v, h', e _, o⟩
