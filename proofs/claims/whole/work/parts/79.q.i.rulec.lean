/-! the law's text: a rule, the class's reader -/
def hasA (s : Nat) : Bool := decide (s = 118 ∨ s = 97)
def isRl (s : Nat) : Bool := decide (s = 118 ∨ s = 97 ∨ s = 108 ∨ s = 120)
def czz : CC := fun _ => (0, 0)
/-- letter, the amount's code, the test's code -/
abbrev RU : Type := Nat × (Nat × CC) × (Nat × CC)
def tailT (t : Nat → Nat) (L s : Nat) (A : Nat × CC) (p : Nat) : (Nat × Nat) ⊕ (Nat × RU) := if p < L ∧ t p = 40 then (match anyT t L (tsG t L 5) (p + 1) czz 0 with
    | .inl e => Sum.inl e
    | .inr q => if q.1 < L ∧ t q.1 = 41 then Sum.inr (q.1 + 1, s, A, (q.2.2, q.2.1)) else Sum.inl (1, q.1)) else Sum.inl (1, p)
def rulT (t : Nat → Nat) (L p nr : Nat) : (Nat × Nat) ⊕ (Nat × RU) := if p < L ∧ isRl (t p) = true then (if nr < 16 then (if hasA (t p) = true then (match sumT t L (fcG t L 6) (p + 1) czz 0 with
    | .inl e => Sum.inl e
    | .inr q => tailT t L (t p) (q.2.2, q.2.1) q.1) else tailT t L (t p) (0, czz) (p + 1)) else Sum.inl (4, p)) else Sum.inl (1, p)
/-- a stretch of code in the class's cells -/
def StC (dr : Nat) (h : rz_H) (cs n : Nat) (c : CC) : Prop := hI h (dr + 4) (cs + n) = 0 ∧ ∀ i, i < n → hI h (dr + 4) (cs + i) = nI (c i).1 ∧ hI h (dr + 5) (cs + i) = nI (vlC cs (c i))
def FR (dr st nr : Nat) (h h' : rz_H) : Prop := h'.2 = h.2 ∧ ∀ b i, ¬ (b = 81 ∧ 2 ≤ i ∧ i ≤ 4) → ¬ (b = dr ∧ (i = 5 ∨ i = 6)) → ¬ ((b = dr + 4 ∨ b = dr + 5) ∧ st ≤ i) → ¬ ((b = dr + 1 ∨ b = dr + 2 ∨ b = dr + 3) ∧ i = nr) → hI h' b i = hI h b i
theorem G196 {rb dr : Nat} {jd : Option Nat} {h : rz_H} (w : Wf rb dr jd h) {nr : Nat} (e5 : hI h dr 5 = nI nr) (hn : nr < 16) (x y z : Int32) (d : Nat) : cW (d + 1) 196 [rz_r (some dr), rz_i x, rz_i y, rz_i z] h = some (rz_i 0, setI (setI (setI (setI h (dr + 1) nr x) (dr + 2) nr y) (dr + 3) nr z) dr 5 (nI (nr + 1))) := by
  have hd := isW_dr w
  have n0 : ¬ nI nr < 0 := Int32.not_lt.mpr (nI_pos' (by omega))
  rw [E196]
  simp (disch := omega) only [↓cd_d, ↓irem_eq_mod, ↓ob_setI, ↓ob_chI, ↓ob_some, bI_some, bV_some, bR_some, bL_some, ob_some, cd_t, cd_f, okO_setI, okA_setI, okL_setI, aLen_setI, hR_setI, hI_setI, Bool.true_and, Bool.and_true, Bool.and_self, Option.isNone_some, Option.isSome_some, Option.isNone_none, Option.isSome_none, okO_chI, okA_chI, okL_chI, aLen_chI, hR_chI, ↓reduceIte, not_true_eq_false, not_false_eq_true, eq_self, c10, Nat.zero_add, nI_add, litA, litB, litM, nI_mul, nI_leI, nI_ltI, nI_eq, litLe, litLe2, litLt, litLt2, litEq, litEq2, in_nI, lit_in, nI_clamp, lit_cl, if_pos, if_neg, ↓WLwb w hd, WLw w hd, e5, n0]
theorem A196 {rb dr : Nat} {jd : Option Nat} {h : rz_H} (w : Wf rb dr jd h) (x y z : Int32) (d : Nat) : ∃ h', cW (d + 1) 196 [rz_r (some dr), rz_i x, rz_i y, rz_i z] h = some (rz_i 0, h') ∧ h'.2 = h.2 ∧ ∀ b i, ¬ (dr ≤ b ∧ b ≤ dr + 5) → hI h' b i = hI h b i := by
  have hd := isW_dr w
  by_cases n0 : hI h dr 5 < 0
  · refine ⟨h, ?_, rfl, fun _ _ _ => rfl⟩
    rw [E196]
    simp only [bI_some, bV_some, bR_some, bL_some, ob_some, cd_t, cd_f, cd_d, okO_setI, okA_setI, okL_setI, aLen_setI, hR_setI, hI_setI, Bool.true_and, Bool.and_true, Bool.and_self, Option.isNone_some, Option.isSome_some, Option.isNone_none, Option.isSome_none, okO_chI, okA_chI, okL_chI, aLen_chI, hR_chI, ↓reduceIte, not_true_eq_false, not_false_eq_true, eq_self, c10, WLw w hd, if_pos n0]
  · obtain ⟨m, hm, em⟩ := nI_of n0
    by_cases c : m < 16
    · exact ⟨_, G196 w em c x y z d, rfl, fun b i n => by rw [hI_setI, if_neg (by omega), hI_setI, if_neg (by omega), hI_setI, if_neg (by omega), hI_setI, if_neg (by omega)]⟩
    · refine ⟨h, ?_, rfl, fun _ _ _ => rfl⟩
      have n0 : ¬ nI m < 0 := Int32.not_lt.mpr (nI_pos' hm)
      have g : (16 : Int32) ≤ nI m := nI_le (a := 16) (by omega) hm
      rw [E196]
      simp only [bI_some, bV_some, bR_some, bL_some, ob_some, cd_t, cd_f, cd_d, okO_setI, okA_setI, okL_setI, aLen_setI, hR_setI, hI_setI, Bool.true_and, Bool.and_true, Bool.and_self, Option.isNone_some, Option.isSome_some, Option.isNone_none, Option.isSome_none, okO_chI, okA_chI, okL_chI, aLen_chI, hR_chI, ↓reduceIte, not_true_eq_false, not_false_eq_true, eq_self, c10, ↓WLwb w hd, WLw w hd, em, if_neg n0, if_pos g]
theorem Le.rul {rb dr : Nat} {jd : Option Nat} {h0 : rz_H} (w0 : Wf rb dr jd h0) {h : rz_H} {e : Nat × Nat} (s : Le dr h0 h e) (x y z : Int32) (d : Nat) : ∃ h', cW (d + 1) 196 [rz_r (some dr), rz_i x, rz_i y, rz_i z] h = some (rz_i 0, h') ∧ Le dr h0 h' e := by
  have hd := isW_n (isW_dr w0)
  have w : Wf rb dr jd h := w0.e s.1.1
  obtain ⟨h', e1, q1, q2⟩ := A196 w x y z d
  exact ⟨h', e1, s.1.tr ⟨q1, fun b i n1 n2 => q2 b i n2⟩, ⟨(q2 81 3 (by omega)).trans s.2.1.1, (q2 81 4 (by omega)).trans s.2.1.2⟩, s.2.2⟩
/-! in a fault -/
theorem T65r {rb dr : Nat} {jd : Option Nat} {h0 : rz_H} (w0 : Wf rb dr jd h0) {h : rz_H} {e : Nat × Nat} (s : Le dr h0 h e) (x1 x3 x4 : Int32) (d : Nat) : ∃ h', rW (d + 1) 208 (65, (0, 0), [some (rz_r (some 81)), some (rz_i x1), none, some (rz_i x3), some (rz_i x4)], [], h) = some (rz_i 0, h') ∧ Le dr h0 h' e := by
  have hd := isW_dr w0
  have w : Wf rb dr jd h := w0.e s.1.1
  obtain ⟨v, h1, e1, s1⟩ := s.add w0 0 0 d
  have w1 : Wf rb dr jd h1 := w0.e s1.1.1
  obtain ⟨h2, e2, s2⟩ := s1.rul w0 x1 x3 x4 d
  refine ⟨h2, ?_, s2⟩
  have b5 := obR (WLr w).2.2.2
  have b5' := obR (WLr w1).2.2.2
  rw [X208_65]
  simp only [bI_some, bV_some, bR_some, bL_some, ob_some, cd_t, cd_f, cd_d, okO_setI, okA_setI, okL_setI, aLen_setI, hR_setI, hI_setI, Bool.true_and, Bool.and_true, Bool.and_self, Option.isNone_some, Option.isSome_some, Option.isNone_none, Option.isSome_none, okO_chI, okA_chI, okL_chI, aLen_chI, hR_chI, ↓reduceIte, not_true_eq_false, not_false_eq_true, eq_self, c10, WLr w, WLr w1, ↓b5, ↓b5', WLw w hd, WLw w1 hd, e1, e2, X208_77]
theorem T62r {rb dr : Nat} {jd : Option Nat} {h0 : rz_H} (w0 : Wf rb dr jd h0) {h : rz_H} {e : Nat × Nat} (s : Le dr h0 h e) (x1 x3 x4 : Int32) (d : Nat) : ∃ h', rW (d + 3) 208 (62, (0, 0), [some (rz_r (some 81)), some (rz_i x1), none, some (rz_i x3), some (rz_i x4)], [], h) = some (rz_i 0, h') ∧ Le dr h0 h' e := by
  have w : Wf rb dr jd h := w0.e s.1.1
  obtain ⟨h2, e2, s2⟩ := T65r w0 s x1 x3 x4 (d + 2)
  refine ⟨h2, ?_, s2⟩
  have e233 : ∀ d, cW (d + 3) 233 [rz_r (some 81), rz_i 41] h = some (rz_i 0, h) := fun d => R233e w isR81 s.ne d (m := 41) (by omega)
  rw [X208_62]
  simp only [bI_some, bV_some, bR_some, bL_some, ob_some, cd_t, cd_f, cd_d, okO_setI, okA_setI, okL_setI, aLen_setI, hR_setI, hI_setI, Bool.true_and, Bool.and_true, Bool.and_self, Option.isNone_some, Option.isSome_some, Option.isNone_none, Option.isSome_none, okO_chI, okA_chI, okL_chI, aLen_chI, hR_chI, ↓reduceIte, not_true_eq_false, not_false_eq_true, eq_self, c10, WLr w, e233]
  exact e2
theorem T59r {rb dr : Nat} {jd : Option Nat} {h0 : rz_H} (w0 : Wf rb dr jd h0) {h : rz_H} {e : Nat × Nat} (s : Le dr h0 h e) (x1 x3 x4 : Int32) (d : Nat) : ∃ h', rW (d + 8) 208 (59, (0, 0), [some (rz_r (some 81)), some (rz_i x1), none, some (rz_i x3), some (rz_i x4)], [], h) = some (rz_i 0, h') ∧ Le dr h0 h' e := by
  have w : Wf rb dr jd h := w0.e s.1.1
  obtain ⟨h1, e1, s1⟩ := C209e w0 s 1 d
  obtain ⟨h2, e2, s2⟩ := T62r w0 s1 x1 x3 x4 (d + 5)
  refine ⟨h2, ?_, s2⟩
  rw [X208_59, e1]
  simp only [bI_some, bV_some, bR_some, bL_some, ob_some, cd_t, cd_f, cd_d, okO_setI, okA_setI, okL_setI, aLen_setI, hR_setI, hI_setI, Bool.true_and, Bool.and_true, Bool.and_self, Option.isNone_some, Option.isSome_some, Option.isNone_none, Option.isSome_none, okO_chI, okA_chI, okL_chI, aLen_chI, hR_chI, ↓reduceIte, not_true_eq_false, not_false_eq_true, eq_self, c10, WLr w]
  exact e2
theorem T52r {rb dr : Nat} {jd : Option Nat} {h0 : rz_H} (w0 : Wf rb dr jd h0) {h : rz_H} {e : Nat × Nat} (s : Le dr h0 h e) (x1 x3 : Int32) (d : Nat) (j2 j4 : Option rz_V) : ∃ h', rW (d + 8) 208 (52, (0, 0), [some (rz_r (some 81)), some (rz_i x1), j2, some (rz_i x3), j4], [], h) = some (rz_i 0, h') ∧ Le dr h0 h' e := by
  have hd := isW_dr w0
  have w : Wf rb dr jd h := w0.e s.1.1
  obtain ⟨h2, e2, s2⟩ := T59r w0 s x1 x3 (hI h dr 6) d
  refine ⟨h2, ?_, s2⟩
  have e233 : ∀ d, cW (d + 3) 233 [rz_r (some 81), rz_i 40] h = some (rz_i 0, h) := fun d => R233e w isR81 s.ne d (m := 40) (by omega)
  have b5 := obR (WLr w).2.2.2
  rw [X208_52]
  simp only [bI_some, bV_some, bR_some, bL_some, ob_some, cd_t, cd_f, cd_d, okO_setI, okA_setI, okL_setI, aLen_setI, hR_setI, hI_setI, Bool.true_and, Bool.and_true, Bool.and_self, Option.isNone_some, Option.isSome_some, Option.isNone_none, Option.isSome_none, okO_chI, okA_chI, okL_chI, aLen_chI, hR_chI, ↓reduceIte, not_true_eq_false, not_false_eq_true, eq_self, c10, WLr w, ↓b5, WLw w hd, E195]
  rw [X208_56]
  simp only [bI_some, bV_some, bR_some, bL_some, ob_some, cd_t, cd_f, cd_d, okO_setI, okA_setI, okL_setI, aLen_setI, hR_setI, hI_setI, Bool.true_and, Bool.and_true, Bool.and_self, Option.isNone_some, Option.isSome_some, Option.isNone_none, Option.isSome_none, okO_chI, okA_chI, okL_chI, aLen_chI, hR_chI, ↓reduceIte, not_true_eq_false, not_false_eq_true, eq_self, c10, WLr w, e233]
  exact e2
/-! the test of a rule -/
def OcT (dr st nr ca s L : Nat) (h h' : rz_H) (z : (Nat × Nat) ⊕ (Nat × RU)) : Prop := (∃ e, z = Sum.inl e ∧ Le dr h h' e) ∨ (∃ q, z = Sum.inr q ∧ FR dr st nr h h' ∧ Rs 81 h' L q.1 ∧ q.1 ≤ L ∧ st + q.2.2.2.1 + 1 ≤ q.1 ∧ hI h' dr 5 = nI (nr + 1) ∧ hI h' dr 6 = nI (st + q.2.2.2.1 + 1) ∧ hI h' (dr + 1) nr = nI s ∧ hI h' (dr + 2) nr = nI ca ∧ hI h' (dr + 3) nr = nI st ∧ StC dr h' st q.2.2.2.1 q.2.2.2.2)
theorem T52 {rb dr : Nat} {jd : Option Nat} {h : rz_H} (w : Wf rb dr jd h) {N : Nat} {t : Nat → Nat} (T : Tq h N t) {L : Nat} (hL : L ≤ N) (h240 : L ≤ 240) {p st nr ca s : Nat} (r : Rs 81 h L p) (hp : p ≤ L) (e6 : hI h dr 6 = nI st) (hst : st ≤ p) (e5 : hI h dr 5 = nI nr) (hnr : nr < 16) (A : Nat × CC) (d : Nat) (j2 j4 : Option rz_V) : ∃ h', rW (d + 24) 208 (52, (0, 0), [some (rz_r (some 81)), some (rz_i (nI s)), j2, some (rz_i (nI ca)), j4], [], h) = some (rz_i 0, h') ∧ OcT dr st nr ca s L h h' (tailT t L s A p) := by
  have hd := isW_dr w
  have hdn := isW_n hd
  have hN := T.1.1
  have b5 := obR (WLr w).2.2.2
  have e233 : ∀ d, cW (d + 3) 233 [rz_r (some 81), rz_i 40] h = if p < L ∧ t p = 40 then some (rz_i 0, setI h 81 2 (nI (p + 1))) else some (rz_i 0, setI (setI h 81 3 1) 81 4 (nI p)) := fun d => R233 w isR81 T hL r.1 r.2.1 (by omega) r.2.2 (m := 40) (by omega) d
  have s0 : Lz dr st h h L p czz 0 := ⟨⟨rfl, fun _ _ _ _ _ => rfl⟩, r, e6, fun i hi => absurd hi (by omega)⟩
  have st0 : ∀ g, cW (d + 24) 233 [rz_r (some 81), rz_i 40] h = some (rz_i 0, g) → rW (d + 24) 208 (52, (0, 0), [some (rz_r (some 81)), some (rz_i (nI s)), j2, some (rz_i (nI ca)), j4], [], h) = rW (d + 24) 208 (59, (0, 0), [some (rz_r (some 81)), some (rz_i (nI s)), none, some (rz_i (nI ca)), some (rz_i (nI st))], [], g) := fun g e => by
    rw [X208_52]
    simp only [bI_some, bV_some, bR_some, bL_some, ob_some, cd_t, cd_f, cd_d, okO_setI, okA_setI, okL_setI, aLen_setI, hR_setI, hI_setI, Bool.true_and, Bool.and_true, Bool.and_self, Option.isNone_some, Option.isSome_some, Option.isNone_none, Option.isSome_none, okO_chI, okA_chI, okL_chI, aLen_chI, hR_chI, ↓reduceIte, not_true_eq_false, not_false_eq_true, eq_self, c10, WLr w, ↓b5, WLw w hd, E195, e6]
    rw [X208_56, e]
    simp only [bI_some, bV_some, bR_some, bL_some, ob_some, cd_t, cd_f, cd_d, okO_setI, okA_setI, okL_setI, aLen_setI, hR_setI, hI_setI, Bool.true_and, Bool.and_true, Bool.and_self, Option.isNone_some, Option.isSome_some, Option.isNone_none, Option.isSome_none, okO_chI, okA_chI, okL_chI, aLen_chI, hR_chI, ↓reduceIte, not_true_eq_false, not_false_eq_true, eq_self, c10, WLr w]
  unfold tailT
  by_cases c1 : p < L ∧ t p = 40
  · rw [if_pos c1]
    have e1 := e233 (d + 21)
    rw [if_pos c1] at e1
    rw [st0 _ e1]
    have s1 : Lz dr st h (setI h 81 2 (nI (p + 1))) L (p + 1) czz 0 := s0.go hd (p + 1)
    have w1 : Wf rb dr jd (setI h 81 2 (nI (p + 1))) := w
    obtain ⟨h2, e2, o2⟩ := AG w T hL h240 st d _ (p + 1) czz 0 s1 (by omega) (by omega)
    have e2 : cW (d + 24) 209 [rz_r (some 81), rz_i 1] (setI h 81 2 (nI (p + 1))) = some (rz_i 0, h2) := e2
    rw [X208_59, e2]
    simp only [bV_some, cd_t, (WLr w1).1]
    rcases o2 with ⟨e, he, le⟩ | ⟨q, hq, s2⟩
    · rw [he]
      obtain ⟨h3, e3, le3⟩ := T62r w le (nI s) (nI ca) (nI st) (d + 21)
      exact ⟨h3, e3, Or.inl ⟨e, rfl, le3⟩⟩
    · rw [hq]
      have g := (any_sp (t := t) (tsG_sp t L 5)).at (by omega) hq
      have gL := g.1
      have gn := g.2.2.1
      have w2 : Wf rb dr jd h2 := w.e s2.1.1
      have T2 := T.fe hd s2.1.fe
      have r2 := s2.2.1
      have e233' : ∀ d, cW (d + 3) 233 [rz_r (some 81), rz_i 41] h2 = if q.1 < L ∧ t q.1 = 41 then some (rz_i 0, setI h2 81 2 (nI (q.1 + 1))) else some (rz_i 0, setI (setI h2 81 3 1) 81 4 (nI q.1)) := fun d => R233 w2 isR81 T2 hL r2.1 r2.2.1 (by omega) r2.2.2 (m := 41) (by omega) d
      have e3 := e233' (d + 21)
      show ∃ h', _ ∧ OcT dr st nr ca s L h h' (if q.1 < L ∧ t q.1 = 41 then Sum.inr (q.1 + 1, s, A, (q.2.2, q.2.1)) else Sum.inl (1, q.1))
      by_cases c2 : q.1 < L ∧ t q.1 = 41
      · rw [if_pos c2] at e3 ⊢
        have s3 : Lz dr st h (setI h2 81 2 (nI (q.1 + 1))) L (q.1 + 1) q.2.1 q.2.2 := s2.go hd (q.1 + 1)
        have w3 : Wf rb dr jd (setI h2 81 2 (nI (q.1 + 1))) := w2
        obtain ⟨h4, e4, s4⟩ := s3.add w (by omega) (0, 0) (d + 23)
        rw [vl0] at e4
        have e4 : cW (d + 24) 197 [rz_r (some dr), rz_i 0, rz_i 0] (setI h2 81 2 (nI (q.1 + 1))) = some (rz_i (nI (st + q.2.2)), h4) := e4
        have w4 : Wf rb dr jd h4 := w.e s4.1.1
        have v5 : hI h4 dr 5 = nI nr := (s4.1.2 dr 5 (by omega) (by omega) (by omega)).trans e5
        have e5' := G196 w4 v5 hnr (nI s) (nI ca) (nI st) (d + 23)
        have oo : ∀ b i, ¬ (b = dr ∧ i = 5) → ¬ ((b = dr + 1 ∨ b = dr + 2 ∨ b = dr + 3) ∧ i = nr) → hI (setI (setI (setI (setI h4 (dr + 1) nr (nI s)) (dr + 2) nr (nI ca)) (dr + 3) nr (nI st)) dr 5 (nI (nr + 1))) b i = hI h4 b i := fun b i n1 n2 => by rw [hI_setI, if_neg (by omega), hI_setI, if_neg (by omega), hI_setI, if_neg (by omega), hI_setI, if_neg (by omega)]
        refine ⟨setI (setI (setI (setI h4 (dr + 1) nr (nI s)) (dr + 2) nr (nI ca)) (dr + 3) nr (nI st)) dr 5 (nI (nr + 1)), ?_, Or.inr ⟨_, rfl, ⟨s4.1.1, fun b i n1 n2 n3 n4 => (oo b i (by omega) n4).trans (s4.1.2 b i n1 (by omega) n3)⟩, ⟨(oo 81 1 (by omega) (by omega)).trans s4.2.1.1, (oo 81 2 (by omega) (by omega)).trans s4.2.1.2.1, (oo 81 3 (by omega) (by omega)).trans s4.2.1.2.2⟩, c2.1, by show st + q.2.2 + 1 ≤ q.1 + 1; omega, by rw [hI_setI, if_pos ⟨rfl, rfl⟩], (oo dr 6 (by omega) (by omega)).trans s4.2.2.1, ?_, ?_, ?_, ?_, fun i hi => ?_⟩⟩
        · rw [X208_62, e3]
          simp only [bV_some, cd_t, (WLr w2).1]
          have b6 := obR (WLr w3).2.2.2
          have b7 := obR (WLr w4).2.2.2
          rw [X208_65]
          generalize setI h2 81 2 (nI (q.1 + 1)) = g3 at *
          simp only [bI_some, bV_some, bR_some, bL_some, ob_some, cd_t, cd_f, cd_d, okO_setI, okA_setI, okL_setI, aLen_setI, hR_setI, hI_setI, Bool.true_and, Bool.and_true, Bool.and_self, Option.isNone_some, Option.isSome_some, Option.isNone_none, Option.isSome_none, okO_chI, okA_chI, okL_chI, aLen_chI, hR_chI, ↓reduceIte, not_true_eq_false, not_false_eq_true, eq_self, c10, WLr w3, WLr w4, ↓b6, ↓b7, WLw w3 hd, WLw w4 hd, e4, e5', X208_77]
        · rw [hI_setI, if_neg (by omega), hI_setI, if_neg (by omega), hI_setI, if_neg (by omega), hI_setI, if_pos ⟨rfl, rfl⟩]
        · rw [hI_setI, if_neg (by omega), hI_setI, if_neg (by omega), hI_setI, if_pos ⟨rfl, rfl⟩]
        · rw [hI_setI, if_neg (by omega), hI_setI, if_pos ⟨rfl, rfl⟩]
        · have a := (s4.2.2.2 q.2.2 (by omega)).1
          have z : psh q.2.1 q.2.2 (0, 0) q.2.2 = (0, 0) := if_pos rfl
          rw [z] at a
          exact (oo _ _ (by omega) (by omega)).trans a
        · have hi : i < q.2.2 := hi
          have a := s4.2.2.2 i (by omega)
          have z : psh q.2.1 q.2.2 (0, 0) i = q.2.1 i := if_neg (by omega)
          rw [z] at a
          exact ⟨(oo _ _ (by omega) (by omega)).trans a.1, (oo _ _ (by omega) (by omega)).trans a.2⟩
      · rw [if_neg c2] at e3 ⊢
        obtain ⟨h4, e4, le4⟩ := T65r w (s2.bl 1 q.1 (by omega) (by omega)) (nI s) (nI ca) (nI st) (d + 23)
        refine ⟨h4, ?_, Or.inl ⟨_, rfl, le4⟩⟩
        rw [X208_62, e3]
        simp only [bV_some, cd_t, (WLr w2).1]
        exact e4
  · rw [if_neg c1]
    have e1 := e233 (d + 21)
    rw [if_neg c1] at e1
    rw [st0 _ e1]
    obtain ⟨h3, e3, le3⟩ := T59r w (s0.bl 1 p (by omega) (by omega)) (nI s) (nI ca) (nI st) (d + 16)
    exact ⟨h3, e3, Or.inl ⟨_, rfl, le3⟩⟩
