/-! the law's text: the model reads the whole -/
/-- where the rules' codes begin in the model's -/
def bMl (a : Nat → RU) : Nat → Nat
  | 0 => 0
  | q + 1 => bMl a q + (a q).2.1.1 + (a q).2.2.1
theorem bMl_up (a : Nat → RU) (m : Nat) (l : RU) : ∀ n, n ≤ m → bMl (upr a m l) n = bMl a n
  | 0, _ => rfl
  | n + 1, h => by
    have e : upr a m l n = a n := if_neg (by omega)
    show bMl (upr a m l) n + (upr a m l n).2.1.1 + (upr a m l n).2.2.1 = bMl a n + (a n).2.1.1 + (a n).2.2.1
    rw [bMl_up a m l n (by omega), e]
theorem bMl_s (a : Nat → RU) (n : Nat) (l : RU) : bMl (upr a n l) (n + 1) = bMl a n + l.2.1.1 + l.2.2.1 := by
  have e : upr a n l n = l := if_pos rfl
  show bMl (upr a n l) n + (upr a n l n).2.1.1 + (upr a n l n).2.2.1 = _
  rw [bMl_up a n l n (Nat.le_refl _), e]
theorem bMl_mono (a : Nat → RU) : ∀ n q, q < n → bMl a q + (a q).2.1.1 + (a q).2.2.1 ≤ bMl a n
  | 0, q, h => absurd h (by omega)
  | n + 1, q, h => by
    by_cases e : q = n
    · subst e
      exact Nat.le_refl _
    · have := bMl_mono a n q (by omega)
      show _ ≤ bMl a n + (a n).2.1.1 + (a n).2.2.1
      omega
def FLm (h0 h : rz_H) : Prop := h.2 = h0.2 ∧ ∀ b i, ¬ (b = 109 ∧ (i = 5 ∨ (7 ≤ i ∧ i ≤ 12))) → ¬ (114 ≤ b ∧ b ≤ 119) → hI h b i = hI h0 b i
theorem FN.fl {lo ms nr : Nat} (hlo : 114 ≤ lo) {h0 h : rz_H} (f : FN lo ms nr h0 h) : FLm h0 h := ⟨f.1, fun b i n1 n2 => f.2 b i n1 (by omega) (by omega) (by omega)⟩
theorem FLm.tr {h0 h1 h2 : rz_H} (f : FLm h0 h1) (g : FLm h1 h2) : FLm h0 h2 := ⟨g.1.trans f.1, fun b i n1 n2 => (g.2 b i n1 n2).trans (f.2 b i n1 n2)⟩
def LgM (h0 h : rz_H) (N : Nat) (t : Nat → Nat) (L p nr : Nat) (a : Nat → RU) : Prop := FLm h0 h ∧ MT h N t L p ∧ hI h 109 10 = nI (bMl a nr) ∧ hI h 109 12 = nI nr ∧ bMl a nr ≤ p ∧ p ≤ L ∧ ∀ q, q < nr → RuM 116 h (bMl a q) q (a q) ∧ CoM 114 h (bMl a q) (a q)
theorem LgM.nx {h0 h h' : rz_H} {N : Nat} {t : Nat → Nat} {L p nr : Nat} {a : Nat → RU} (s : LgM h0 h N t L p nr a) {q : Nat × RU} (f : FN 116 (bMl a nr) nr h h') (m : MT h' N t L q.1) (e10 : hI h' 109 10 = nI (bMl a nr + q.2.2.1.1 + q.2.2.2.1)) (e12 : hI h' 109 12 = nI (nr + 1)) (R : RuM 116 h' (bMl a nr) nr q.2) (C : CoM 114 h' (bMl a nr) q.2) (l1 : bMl a nr + q.2.2.1.1 + q.2.2.2.1 ≤ q.1) (l2 : q.1 ≤ L) : LgM h0 h' N t L q.1 (nr + 1) (upr a nr q.2) := by
  obtain ⟨f0, m0, g10, g12, g1, g2, g3⟩ := s
  refine ⟨f0.tr (f.fl (by omega)), m, by rw [bMl_s]; exact e10, e12, by rw [bMl_s]; exact l1, l2, fun i hi => ?_⟩
  by_cases ei : i = nr
  · subst ei
    have e : upr a i q.2 i = q.2 := if_pos rfl
    rw [bMl_up a i q.2 i (Nat.le_refl _), e]
    exact ⟨R, C⟩
  · have e : upr a nr q.2 i = a i := if_neg ei
    rw [bMl_up a nr q.2 i (by omega), e]
    obtain ⟨⟨r1, r2, r3, r4⟩, c1, c2⟩ := g3 i (by omega)
    have mo := bMl_mono a nr i (by omega)
    have cell : ∀ b, 116 ≤ b → hI h' b i = hI h b i := fun b hb => f.2 b i (by omega) (by omega) (by omega) (by omega)
    have cod : ∀ j, j < bMl a nr → hI h' 114 j = hI h 114 j := fun j hj => f.2 114 j (by omega) (by omega) (by omega) (by omega)
    exact ⟨⟨(cell 116 (by omega)).trans r1, (cell 117 (by omega)).trans r2, (cell 118 (by omega)).trans r3, (cell 119 (by omega)).trans r4⟩, fun j hj => (cod _ (by omega)).trans (c1 j hj), fun j hj => (cod _ (by omega)).trans (c2 j hj)⟩
/-- how the model's reading ends -/
def MlO (h0 h' : rz_H) (N : Nat) (t : Nat → Nat) (L : Nat) (b : Int32) (z : (Nat × Nat) ⊕ (Nat × (Nat → RU))) : Prop := (∃ e, z = Sum.inl e ∧ b = 0 ∧ hI h' 109 7 = erI e.1 e.2 ∧ FLm h0 h') ∨ (∃ q, z = Sum.inr q ∧ b = 1 ∧ 0 < q.1 ∧ q.1 ≤ 16 ∧ ∃ p, LgM h0 h' N t L p q.1 q.2)
theorem T17e (h : rz_H) (d : Nat) (j1 j3 : Option rz_V) : rW d 70 (17, (0, 0), [some (rz_r (some 109)), j1, some (rz_i 0), j3], [], h) = rW d 70 (36, (0, 0), [some (rz_r (some 109)), none, some (rz_i 0), none], [], h) := by
  rw [X70_17]
  simp only [bI_some, bV_some, bR_some, bL_some, ob_some, cd_t, cd_f, cd_d, okO_setI, okA_setI, okL_setI, aLen_setI, hR_setI, hI_setI, Bool.true_and, Bool.and_true, Bool.and_self, Option.isNone_some, Option.isSome_some, Option.isNone_none, Option.isSome_none, okO_chI, okA_chI, okL_chI, aLen_chI, hR_chI, ↓reduceIte, not_true_eq_false, not_false_eq_true, eq_self, c10]
theorem T17 {rb dr : Nat} {jd : Option Nat} {h0 : rz_H} (w0 : Wf rb dr jd h0) {N : Nat} {t : Nat → Nat} {L : Nat} (hb : ∀ i, i < L → t i < 256) (hL : L ≤ 240) (d : Nat) : ∀ f h p n a, n + f = 17 → n ≤ 16 → 0 < n → LgM h0 h N t L p n a → ∃ b h', (∀ j1 j3, rW (d + 8) 70 (17, (0, 0), [some (rz_r (some 109)), j1, some (rz_i 1), j3], [], h) = rW (d + 8) 70 (36, (0, 0), [some (rz_r (some 109)), none, some (rz_i b), none], [], h')) ∧ MlO h0 h' N t L b (aftL t L (lawT t L f) p n a) := by
  intro f
  induction f with
  | zero => intro h p n a hn h16; omega
  | succ f ih =>
    intro h p n a hn h16 n0 s
    have s' := s
    obtain ⟨f0, m, g10, g12, g1, hp, g3⟩ := s
    have w : Wf rb dr jd h := w0.e f0.1
    have e5 := m.2.2.2.1
    have e6 := m.2.2.1
    unfold aftL
    have k52 : ∀ d, cW (d + 2) 52 [rz_r (some 109), rz_i 59] h = if p < L ∧ t p = 59 then some (rz_i 1, setI h 109 5 (nI (p + 1))) else some (rz_i 0, setI h 109 7 (erI 1 p)) := fun d => K52 w m (c := 59) (by omega) d
    by_cases c : p < L
    · rw [if_pos c]
      have g : ¬ nI L ≤ nI p := nI_ge (by omega) (by omega)
      have st : ∀ j1 j3, rW (d + 8) 70 (17, (0, 0), [some (rz_r (some 109)), j1, some (rz_i 1), j3], [], h) = rW (d + 8) 70 (24, (0, 0), [some (rz_r (some 109)), none, some (rz_i 1), none], [], h) := fun j1 j3 => by
        rw [X70_17]
        simp only [bI_some, bV_some, bR_some, bL_some, ob_some, cd_t, cd_f, cd_d, okO_setI, okA_setI, okL_setI, aLen_setI, hR_setI, hI_setI, Bool.true_and, Bool.and_true, Bool.and_self, Option.isNone_some, Option.isSome_some, Option.isNone_none, Option.isSome_none, okO_chI, okA_chI, okL_chI, aLen_chI, hR_chI, ↓reduceIte, not_true_eq_false, not_false_eq_true, eq_self, c10]
        rw [X70_19]
        simp only [bI_some, bV_some, bR_some, bL_some, ob_some, cd_t, cd_f, cd_d, okO_setI, okA_setI, okL_setI, aLen_setI, hR_setI, hI_setI, Bool.true_and, Bool.and_true, Bool.and_self, Option.isNone_some, Option.isSome_some, Option.isNone_none, Option.isSome_none, okO_chI, okA_chI, okL_chI, aLen_chI, hR_chI, ↓reduceIte, not_true_eq_false, not_false_eq_true, eq_self, c10, WMd w, e5, e6, g]
      by_cases c2 : t p = 59
      · rw [if_pos c2]
        let h1 := setI h 109 5 (nI (p + 1))
        have w1 : Wf rb dr jd h1 := w
        have o1 : ∀ b i, ¬ (b = 109 ∧ i = 5) → hI h1 b i = hI h b i := fun b i z => by
          show hI (setI h 109 5 _) b i = _
          rw [hI_setI, if_neg z]
        have m1 : MT h1 N t L (p + 1) := m.fm (fun b i hb => o1 b i (by omega)) (by show hI (setI h 109 5 _) 109 5 = _; rw [hI_setI, if_pos ⟨rfl, rfl⟩]) (by omega)
        have s1 : LgM h0 h1 N t L (p + 1) n a := ⟨f0.tr ⟨rfl, fun b i n1 n2 => o1 b i (by omega)⟩, m1, (o1 109 10 (by omega)).trans g10, (o1 109 12 (by omega)).trans g12, by omega, by omega, fun q hq => by
          obtain ⟨⟨r1, r2, r3, r4⟩, c1, c2⟩ := g3 q hq
          exact ⟨⟨(o1 _ _ (by omega)).trans r1, (o1 _ _ (by omega)).trans r2, (o1 _ _ (by omega)).trans r3, (o1 _ _ (by omega)).trans r4⟩, fun j hj => (o1 _ _ (by omega)).trans (c1 j hj), fun j hj => (o1 _ _ (by omega)).trans (c2 j hj)⟩⟩
        obtain ⟨h2, o⟩ := K68 w1 hb hL m1 s1.2.2.1 s1.2.2.2.1 h16 (by omega) (by omega) d
        have st2 : ∀ j1 j3 b, cW (d + 8) 68 [rz_r (some 109)] h1 = some (rz_i b, h2) → rW (d + 8) 70 (17, (0, 0), [some (rz_r (some 109)), j1, some (rz_i 1), j3], [], h) = if b = 0 then rW (d + 8) 70 (33, (0, 0), [some (rz_r (some 109)), none, some (rz_i 1), none], [], h2) else rW (d + 8) 70 (31, (0, 0), [some (rz_r (some 109)), none, some (rz_i 1), none], [], h2) := fun j1 j3 b e2 => by
          rw [st j1 j3, X70_24]
          simp only [bI_some, bV_some, bR_some, bL_some, ob_some, cd_t, cd_f, cd_d, okO_setI, okA_setI, okL_setI, aLen_setI, hR_setI, hI_setI, Bool.true_and, Bool.and_true, Bool.and_self, Option.isNone_some, Option.isSome_some, Option.isNone_none, Option.isSome_none, okO_chI, okA_chI, okL_chI, aLen_chI, hR_chI, ↓reduceIte, not_true_eq_false, not_false_eq_true, eq_self, c10, WMd w, k52, if_pos (show p < L ∧ t p = 59 from ⟨c, c2⟩)]
          rw [show setI h 109 5 (nI (p + 1)) = h1 from rfl, X70_28, e2]
          have ok := (WMd w1).1
          generalize h1 = g1 at *
          simp only [bI_some, bV_some, bR_some, bL_some, ob_some, cd_t, cd_f, cd_d, okO_setI, okA_setI, okL_setI, aLen_setI, hR_setI, hI_setI, Bool.true_and, Bool.and_true, Bool.and_self, Option.isNone_some, Option.isSome_some, Option.isNone_none, Option.isSome_none, okO_chI, okA_chI, okL_chI, aLen_chI, hR_chI, ↓reduceIte, not_true_eq_false, not_false_eq_true, eq_self, c10, ok]
        show ∃ b h', _ ∧ MlO h0 h' N t L b (match rulT t L (p + 1) n with
          | .inl e => Sum.inl e
          | .inr q => aftL t L (lawT t L f) q.1 (n + 1) (upr a n q.2))
        rcases o with ⟨e, he, o2, v7, o4⟩ | ⟨q, hq, n16, o2, o3, o4, o5, o6, o7, o8, o9, o10⟩
        · rw [he]
          refine ⟨0, h2, fun j1 j3 => ?_, Or.inl ⟨e, rfl, rfl, v7, s1.1.tr (o4.fl (by omega))⟩⟩
          rw [st2 j1 j3 0 o2, if_pos rfl, X70_33, X70_35]
          exact T17e h2 _ _ _
        · rw [hq]
          obtain ⟨b, h', e, o⟩ := ih h2 q.1 (n + 1) (upr a n q.2) (by omega) (by omega) (by omega) (s1.nx o3 o4 o5 o6 o7 o8 o9 o10)
          refine ⟨b, h', fun j1 j3 => ?_, o⟩
          rw [st2 j1 j3 1 o2, if_neg (show ¬ (1 : Int32) = 0 by decide), X70_31, X70_35]
          exact e _ _
      · rw [if_neg c2]
        refine ⟨0, setI h 109 7 (erI 1 p), fun j1 j3 => ?_, Or.inl ⟨_, rfl, rfl, by rw [hI_setI, if_pos ⟨rfl, rfl⟩], f0.tr ⟨rfl, fun b i n1 n2 => by rw [hI_setI, if_neg (by omega)]⟩⟩⟩
        rw [st j1 j3, X70_24]
        simp only [bI_some, bV_some, bR_some, bL_some, ob_some, cd_t, cd_f, cd_d, okO_setI, okA_setI, okL_setI, aLen_setI, hR_setI, hI_setI, Bool.true_and, Bool.and_true, Bool.and_self, Option.isNone_some, Option.isSome_some, Option.isNone_none, Option.isSome_none, okO_chI, okA_chI, okL_chI, aLen_chI, hR_chI, ↓reduceIte, not_true_eq_false, not_false_eq_true, eq_self, c10, WMd w, k52, if_neg (show ¬ (p < L ∧ t p = 59) from fun z => c2 z.2), X70_33, X70_35]
        exact T17e _ _ _ _
    · rw [if_neg c]
      refine ⟨1, h, fun j1 j3 => ?_, Or.inr ⟨_, rfl, rfl, n0, h16, p, s'⟩⟩
      have g : nI L ≤ nI p := nI_le (by omega) (by omega)
      rw [X70_17]
      simp only [bI_some, bV_some, bR_some, bL_some, ob_some, cd_t, cd_f, cd_d, okO_setI, okA_setI, okL_setI, aLen_setI, hR_setI, hI_setI, Bool.true_and, Bool.and_true, Bool.and_self, Option.isNone_some, Option.isSome_some, Option.isNone_none, Option.isSome_none, okO_chI, okA_chI, okL_chI, aLen_chI, hR_chI, ↓reduceIte, not_true_eq_false, not_false_eq_true, eq_self, c10]
      rw [X70_19]
      simp only [bI_some, bV_some, bR_some, bL_some, ob_some, cd_t, cd_f, cd_d, okO_setI, okA_setI, okL_setI, aLen_setI, hR_setI, hI_setI, Bool.true_and, Bool.and_true, Bool.and_self, Option.isNone_some, Option.isSome_some, Option.isNone_none, Option.isSome_none, okO_chI, okA_chI, okL_chI, aLen_chI, hR_chI, ↓reduceIte, not_true_eq_false, not_false_eq_true, eq_self, c10, WMd w, e5, e6, g]
/-- the codes are copied -/
theorem T50 {rb dr : Nat} {jd : Option Nat} {h0 : rz_H} (w0 : Wf rb dr jd h0) {M : Nat} (e10 : hI h0 109 10 = nI M) (hM : M ≤ 250) (d : Nat) : ∀ c i h, i + c = M → h.2 = h0.2 → (∀ b j, b ≠ 120 → hI h b j = hI h0 b j) → (∀ j, j < i → hI h 120 j = hI h0 114 j) → ∃ h', (∀ j1 j2, rW d 70 (50, (0, 0), [some (rz_r (some 109)), j1, j2, some (rz_i (nI i))], [], h) = rW d 70 (66, (0, 0), [some (rz_r (some 109)), none, none, some (rz_i 0)], [], h')) ∧ h'.2 = h0.2 ∧ (∀ b j, b ≠ 120 → hI h' b j = hI h0 b j) ∧ (∀ j, j < M → hI h' 120 j = hI h0 114 j) := by
  intro c
  induction c with
  | zero =>
    intro i h hi f o v
    have w : Wf rb dr jd h := w0.e f
    have v10 : hI h 109 10 = nI M := (o 109 10 (by omega)).trans e10
    refine ⟨h, fun j1 j2 => ?_, f, o, fun j hj => v j (by omega)⟩
    have g : nI M ≤ nI i := nI_le (by omega) (by omega)
    rw [X70_50]
    simp only [bI_some, bV_some, bR_some, bL_some, ob_some, cd_t, cd_f, cd_d, okO_setI, okA_setI, okL_setI, aLen_setI, hR_setI, hI_setI, Bool.true_and, Bool.and_true, Bool.and_self, Option.isNone_some, Option.isSome_some, Option.isNone_none, Option.isSome_none, okO_chI, okA_chI, okL_chI, aLen_chI, hR_chI, ↓reduceIte, not_true_eq_false, not_false_eq_true, eq_self, c10, WMd w, v10, g, X70_64]
  | succ c ih =>
    intro i h hi f o v
    have w : Wf rb dr jd h := w0.e f
    have v10 : hI h 109 10 = nI M := (o 109 10 (by omega)).trans e10
    let h1 := setI h 120 i (hI h 114 i)
    obtain ⟨h', e, r⟩ := ih (i + 1) h1 (by omega) f (fun b j n => by show hI (setI h 120 i _) b j = _; rw [hI_setI, if_neg (by omega)]; exact o b j n) (fun j hj => by
      show hI (setI h 120 i (hI h 114 i)) 120 j = _
      by_cases ej : j = i
      · subst ej
        rw [hI_setI, if_pos ⟨rfl, rfl⟩]
        exact o 114 j (by omega)
      · rw [hI_setI, if_neg (by omega)]
        exact v j (by omega))
    refine ⟨h', fun j1 j2 => ?_, r⟩
    have g : ¬ nI M ≤ nI i := nI_ge (by omega) (by omega)
    rw [X70_50]
    simp only [bI_some, bV_some, bR_some, bL_some, ob_some, cd_t, cd_f, cd_d, okO_setI, okA_setI, okL_setI, aLen_setI, hR_setI, hI_setI, Bool.true_and, Bool.and_true, Bool.and_self, Option.isNone_some, Option.isSome_some, Option.isNone_none, Option.isSome_none, okO_chI, okA_chI, okL_chI, aLen_chI, hR_chI, ↓reduceIte, not_true_eq_false, not_false_eq_true, eq_self, c10, WMd w, v10, g]
    rw [X70_54]
    simp (disch := omega) only [↓cd_d, ↓irem_eq_mod, ↓ob_setI, ↓ob_chI, ↓ob_some, bI_some, bV_some, bR_some, bL_some, ob_some, cd_t, cd_f, okO_setI, okA_setI, okL_setI, aLen_setI, hR_setI, hI_setI, Bool.true_and, Bool.and_true, Bool.and_self, Option.isNone_some, Option.isSome_some, Option.isNone_none, Option.isSome_none, okO_chI, okA_chI, okL_chI, aLen_chI, hR_chI, ↓reduceIte, not_true_eq_false, not_false_eq_true, eq_self, c10, Nat.zero_add, nI_add, litA, litB, litM, nI_mul, nI_leI, nI_ltI, nI_eq, litLe, litLe2, litLt, litLt2, litEq, litEq2, in_nI, lit_in, nI_clamp, lit_cl, if_pos, if_neg, ↓WMb w, WMd w]
    rw [show setI h 120 i (hI h 114 i) = h1 from rfl, X70_62, nI_1, X70_63]
    exact e _ _
/-- the rules are copied -/
theorem T66 {rb dr : Nat} {jd : Option Nat} {h0 : rz_H} (w0 : Wf rb dr jd h0) {n : Nat} (e12 : hI h0 109 12 = nI n) (hn : n ≤ 16) (d : Nat) : ∀ c i h, i + c = n → h.2 = h0.2 → (∀ b j, ¬ (121 ≤ b ∧ b ≤ 124) → hI h b j = hI h0 b j) → (∀ j, j < i → hI h 121 j = hI h0 116 j ∧ hI h 122 j = hI h0 117 j ∧ hI h 123 j = hI h0 118 j ∧ hI h 124 j = hI h0 119 j) → ∃ h', (∀ j1 j2, rW d 70 (66, (0, 0), [some (rz_r (some 109)), j1, j2, some (rz_i (nI i))], [], h) = some (rz_i (nI n), h')) ∧ h'.2 = h0.2 ∧ (∀ b j, ¬ (121 ≤ b ∧ b ≤ 124) → hI h' b j = hI h0 b j) ∧ (∀ j, j < n → hI h' 121 j = hI h0 116 j ∧ hI h' 122 j = hI h0 117 j ∧ hI h' 123 j = hI h0 118 j ∧ hI h' 124 j = hI h0 119 j) := by
  intro c
  induction c with
  | zero =>
    intro i h hi f o v
    have w : Wf rb dr jd h := w0.e f
    have v12 : hI h 109 12 = nI n := (o 109 12 (by omega)).trans e12
    refine ⟨h, fun j1 j2 => ?_, f, o, fun j hj => v j (by omega)⟩
    have g : nI n ≤ nI i := nI_le (by omega) (by omega)
    rw [X70_66]
    simp only [bI_some, bV_some, bR_some, bL_some, ob_some, cd_t, cd_f, cd_d, okO_setI, okA_setI, okL_setI, aLen_setI, hR_setI, hI_setI, Bool.true_and, Bool.and_true, Bool.and_self, Option.isNone_some, Option.isSome_some, Option.isNone_none, Option.isSome_none, okO_chI, okA_chI, okL_chI, aLen_chI, hR_chI, ↓reduceIte, not_true_eq_false, not_false_eq_true, eq_self, c10, WMd w, v12, g, X70_104]
  | succ c ih =>
    intro i h hi f o v
    have w : Wf rb dr jd h := w0.e f
    have v12 : hI h 109 12 = nI n := (o 109 12 (by omega)).trans e12
    let h1 := setI h 121 i (hI h 116 i)
    let h2 := setI h1 122 i (hI h1 117 i)
    let h3 := setI h2 123 i (hI h2 118 i)
    let h4 := setI h3 124 i (hI h3 119 i)
    have w1 : Wf rb dr jd h1 := w
    have w2 : Wf rb dr jd h2 := w
    have w3 : Wf rb dr jd h3 := w
    have o1 : ∀ b j, ¬ (b = 121 ∧ j = i) → hI h1 b j = hI h b j := fun b j z => by
      show hI (setI h 121 i _) b j = _
      rw [hI_setI, if_neg z]
    have o2 : ∀ b j, ¬ (b = 122 ∧ j = i) → hI h2 b j = hI h1 b j := fun b j z => by
      show hI (setI h1 122 i _) b j = _
      rw [hI_setI, if_neg z]
    have o3 : ∀ b j, ¬ (b = 123 ∧ j = i) → hI h3 b j = hI h2 b j := fun b j z => by
      show hI (setI h2 123 i _) b j = _
      rw [hI_setI, if_neg z]
    have o4 : ∀ b j, ¬ (b = 124 ∧ j = i) → hI h4 b j = hI h3 b j := fun b j z => by
      show hI (setI h3 124 i _) b j = _
      rw [hI_setI, if_neg z]
    have x1 : hI h1 121 i = hI h 116 i := by
      show hI (setI h 121 i _) 121 i = _
      rw [hI_setI, if_pos ⟨rfl, rfl⟩]
    have x2 : hI h2 122 i = hI h1 117 i := by
      show hI (setI h1 122 i _) 122 i = _
      rw [hI_setI, if_pos ⟨rfl, rfl⟩]
    have x3 : hI h3 123 i = hI h2 118 i := by
      show hI (setI h2 123 i _) 123 i = _
      rw [hI_setI, if_pos ⟨rfl, rfl⟩]
    have x4 : hI h4 124 i = hI h3 119 i := by
      show hI (setI h3 124 i _) 124 i = _
      rw [hI_setI, if_pos ⟨rfl, rfl⟩]
    obtain ⟨h', e, r⟩ := ih (i + 1) h4 (by omega) f (fun b j n => (o4 b j (by omega)).trans ((o3 b j (by omega)).trans ((o2 b j (by omega)).trans ((o1 b j (by omega)).trans (o b j n))))) (fun j hj => by
      by_cases ej : j = i
      · subst ej
        exact ⟨(o4 121 j (by omega)).trans ((o3 121 j (by omega)).trans ((o2 121 j (by omega)).trans (x1.trans (o 116 j (by omega))))), (o4 122 j (by omega)).trans ((o3 122 j (by omega)).trans (x2.trans ((o1 117 j (by omega)).trans (o 117 j (by omega))))), (o4 123 j (by omega)).trans (x3.trans ((o2 118 j (by omega)).trans ((o1 118 j (by omega)).trans (o 118 j (by omega))))), x4.trans ((o3 119 j (by omega)).trans ((o2 119 j (by omega)).trans ((o1 119 j (by omega)).trans (o 119 j (by omega)))))⟩
      · have ol : ∀ b, hI h4 b j = hI h b j := fun b => (o4 b j (by omega)).trans ((o3 b j (by omega)).trans ((o2 b j (by omega)).trans (o1 b j (by omega))))
        rw [ol 121, ol 122, ol 123, ol 124]
        exact v j (by omega))
    refine ⟨h', fun j1 j2 => ?_, r⟩
    have g : ¬ nI n ≤ nI i := nI_ge (by omega) (by omega)
    rw [X70_66]
    simp only [bI_some, bV_some, bR_some, bL_some, ob_some, cd_t, cd_f, cd_d, okO_setI, okA_setI, okL_setI, aLen_setI, hR_setI, hI_setI, Bool.true_and, Bool.and_true, Bool.and_self, Option.isNone_some, Option.isSome_some, Option.isNone_none, Option.isSome_none, okO_chI, okA_chI, okL_chI, aLen_chI, hR_chI, ↓reduceIte, not_true_eq_false, not_false_eq_true, eq_self, c10, WMd w, v12, g]
    rw [X70_70]
    simp (disch := omega) only [↓cd_d, ↓irem_eq_mod, ↓ob_setI, ↓ob_chI, ↓ob_some, bI_some, bV_some, bR_some, bL_some, ob_some, cd_t, cd_f, okO_setI, okA_setI, okL_setI, aLen_setI, hR_setI, hI_setI, Bool.true_and, Bool.and_true, Bool.and_self, Option.isNone_some, Option.isSome_some, Option.isNone_none, Option.isSome_none, okO_chI, okA_chI, okL_chI, aLen_chI, hR_chI, ↓reduceIte, not_true_eq_false, not_false_eq_true, eq_self, c10, Nat.zero_add, nI_add, litA, litB, litM, nI_mul, nI_leI, nI_ltI, nI_eq, litLe, litLe2, litLt, litLt2, litEq, litEq2, in_nI, lit_in, nI_clamp, lit_cl, if_pos, if_neg, ↓WMb w, WMd w]
    rw [show setI h 121 i (hI h 116 i) = h1 from rfl, X70_78]
    have e2 : setI h1 122 i (hI h1 117 i) = h2 := rfl
    generalize h1 = g1 at *
    simp (disch := omega) only [↓cd_d, ↓irem_eq_mod, ↓ob_setI, ↓ob_chI, ↓ob_some, bI_some, bV_some, bR_some, bL_some, ob_some, cd_t, cd_f, okO_setI, okA_setI, okL_setI, aLen_setI, hR_setI, hI_setI, Bool.true_and, Bool.and_true, Bool.and_self, Option.isNone_some, Option.isSome_some, Option.isNone_none, Option.isSome_none, okO_chI, okA_chI, okL_chI, aLen_chI, hR_chI, ↓reduceIte, not_true_eq_false, not_false_eq_true, eq_self, c10, Nat.zero_add, nI_add, litA, litB, litM, nI_mul, nI_leI, nI_ltI, nI_eq, litLe, litLe2, litLt, litLt2, litEq, litEq2, in_nI, lit_in, nI_clamp, lit_cl, if_pos, if_neg, ↓WMb w1, WMd w1]
    rw [e2, X70_86]
    have e3 : setI h2 123 i (hI h2 118 i) = h3 := rfl
    generalize h2 = g2 at *
    simp (disch := omega) only [↓cd_d, ↓irem_eq_mod, ↓ob_setI, ↓ob_chI, ↓ob_some, bI_some, bV_some, bR_some, bL_some, ob_some, cd_t, cd_f, okO_setI, okA_setI, okL_setI, aLen_setI, hR_setI, hI_setI, Bool.true_and, Bool.and_true, Bool.and_self, Option.isNone_some, Option.isSome_some, Option.isNone_none, Option.isSome_none, okO_chI, okA_chI, okL_chI, aLen_chI, hR_chI, ↓reduceIte, not_true_eq_false, not_false_eq_true, eq_self, c10, Nat.zero_add, nI_add, litA, litB, litM, nI_mul, nI_leI, nI_ltI, nI_eq, litLe, litLe2, litLt, litLt2, litEq, litEq2, in_nI, lit_in, nI_clamp, lit_cl, if_pos, if_neg, ↓WMb w2, WMd w2]
    rw [e3, X70_94]
    have e4 : setI h3 124 i (hI h3 119 i) = h4 := rfl
    generalize h3 = g3 at *
    simp (disch := omega) only [↓cd_d, ↓irem_eq_mod, ↓ob_setI, ↓ob_chI, ↓ob_some, bI_some, bV_some, bR_some, bL_some, ob_some, cd_t, cd_f, okO_setI, okA_setI, okL_setI, aLen_setI, hR_setI, hI_setI, Bool.true_and, Bool.and_true, Bool.and_self, Option.isNone_some, Option.isSome_some, Option.isNone_none, Option.isSome_none, okO_chI, okA_chI, okL_chI, aLen_chI, hR_chI, ↓reduceIte, not_true_eq_false, not_false_eq_true, eq_self, c10, Nat.zero_add, nI_add, litA, litB, litM, nI_mul, nI_leI, nI_ltI, nI_eq, litLe, litLe2, litLt, litLt2, litEq, litEq2, in_nI, lit_in, nI_clamp, lit_cl, if_pos, if_neg, ↓WMb w3, WMd w3]
    rw [e4, X70_102, nI_1, X70_103]
    exact e _ _
