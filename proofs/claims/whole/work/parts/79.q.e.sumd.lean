/-! the law's text: the class's reader, amounts that are sound -/
theorem Sp.at {L : Nat} {tp : Bool} {B : Nat} {R : Nat → CC → Nat → RC} (h : Sp L tp B R) {p : Nat} {c : CC} {n : Nat} (hp : p ≤ L) {q : Nat × CC × Nat} (e : R p c n = Sum.inr q) : Gd L tp B p c n q.1 q.2.1 q.2.2 := by
  rcases h p c n hp with ⟨e', he, -⟩ | ⟨q', hq, g⟩
  · rw [e] at he
    exact absurd he (by simp)
  · rw [e] at hq
    have : q = q' := by simpa using hq
    subst this
    exact g
theorem Le.ne {dr : Nat} {h0 h : rz_H} {e : Nat × Nat} (s : Le dr h0 h e) : ¬ hI h 81 3 = 0 := s.2.1.ne s.2.2.1 s.2.2.2
theorem vl0 (cs s : Nat) : vlC cs (s, 0) = 0 := if_neg (fun z => absurd z.2 (by show ¬ 0 < 0; omega))
theorem vl1 (cs v : Nat) : vlC cs (1, v) = v := if_neg (fun z => absurd z.1 (by show ¬ (1 = 4 ∨ 1 = 5); omega))
theorem vl2 (cs v : Nat) : vlC cs (2, v) = v := if_neg (fun z => absurd z.1 (by show ¬ (2 = 4 ∨ 2 = 5); omega))
theorem C216 {rb dr : Nat} {jd : Option Nat} {h : rz_H} (w : Wf rb dr jd h) {p dep : Nat} (s : hI h 81 2 = nI p) (hd : dep < 6) (d : Nat) : cW (d + 2) 216 [rz_r (some 81), rz_i (nI dep)] h = some (rz_i 1, setI h 81 2 (nI (p + 1))) := by
  have g : nI dep < 6 := (nI_ltI (a := dep) (b := 6) (by omega) (by omega)).mpr hd
  rw [E216]
  simp only [bI_some, bV_some, bR_some, bL_some, ob_some, cd_t, cd_f, cd_d, okO_setI, okA_setI, okL_setI, aLen_setI, hR_setI, hI_setI, Bool.true_and, Bool.and_true, Bool.and_self, Option.isNone_some, Option.isSome_some, Option.isNone_none, Option.isSome_none, okO_chI, okA_chI, okL_chI, aLen_chI, hR_chI, ↓reduceIte, not_true_eq_false, not_false_eq_true, eq_self, c10, g, WLr w, R229 w isR81 s]
theorem C216n {rb dr : Nat} {jd : Option Nat} {h : rz_H} (w : Wf rb dr jd h) {p dep : Nat} (s : hI h 81 2 = nI p) (e3 : hI h 81 3 = 0) (hd : ¬ dep < 6) (h7 : dep < 100) (d : Nat) : cW (d + 2) 216 [rz_r (some 81), rz_i (nI dep)] h = some (rz_i 0, setI (setI h 81 3 5) 81 4 (nI p)) := by
  have g : ¬ nI dep < 6 := fun z => hd ((nI_ltI (a := dep) (b := 6) (by omega) (by omega)).mp z)
  rw [E216]
  simp only [bI_some, bV_some, bR_some, bL_some, ob_some, cd_t, cd_f, cd_d, okO_setI, okA_setI, okL_setI, aLen_setI, hR_setI, hI_setI, Bool.true_and, Bool.and_true, Bool.and_self, Option.isNone_some, Option.isSome_some, Option.isNone_none, Option.isSome_none, okO_chI, okA_chI, okL_chI, aLen_chI, hR_chI, ↓reduceIte, not_true_eq_false, not_false_eq_true, eq_self, c10, g, WLr w, R228 w isR81, s, R231 w isR81 e3]
theorem C215 {rb dr : Nat} {jd : Option Nat} {h0 : rz_H} (w0 : Wf rb dr jd h0) {N : Nat} {t : Nat → Nat} (T0 : Tq h0 N t) {L : Nat} (hL : L ≤ N) (h240 : L ≤ 240) {cs dep : Nat} {op : Bool} (ho : op = true ↔ dep < 6) (h6 : dep ≤ 6) {inner : Nat → CC → Nat → RC} {B : Nat} (hs : op = true → Sp L false B inner) {d : Nat} (hi : op = true → SC dr cs h0 L 213 (d + 3) (dep + 1) inner) : SC dr cs h0 L 215 (d + 4) dep (fctT t L op inner) := by
  intro h p c n s hp hroom
  have hd := isW_dr w0
  have w : Wf rb dr jd h := w0.e s.1.1
  have T := T0.fe hd s.1.fe
  have hN := T.1.1
  have r := s.2.1
  have hb : p < L → t p < 256 := fun q => (T.1.2 p (by omega)).1
  have pk := fun d => R227 w isR81 T hL r.1 r.2.1 (by omega) r.2.2 d
  have e91 : pkI t L p = 91 ↔ p < L ∧ t p = 91 := pkk_eq (m := 91) hb (by omega)
  have b5 := obR (WLr w).2.2.2
  have st : cW (d + 4) 215 [rz_r (some 81), rz_i (nI dep)] h = rW (d + 3) 215 (3, (0, 0), [some (rz_r (some 81)), some (rz_i (nI dep)), some (rz_i (pkI t L p))], [], h) := by
    rw [X215, pk]
    simp only [bI_some, bV_some, bR_some, bL_some, ob_some, cd_t, cd_f, cd_d, okO_setI, okA_setI, okL_setI, aLen_setI, hR_setI, hI_setI, Bool.true_and, Bool.and_true, Bool.and_self, Option.isNone_some, Option.isSome_some, Option.isNone_none, Option.isSome_none, okO_chI, okA_chI, okL_chI, aLen_chI, hR_chI, ↓reduceIte, not_true_eq_false, not_false_eq_true, eq_self, c10, WLr w]
  rw [st, X215_3]
  unfold fctT
  by_cases c1 : p < L ∧ t p = 91
  · rw [if_pos c1]
    simp only [bI_some, bV_some, bR_some, bL_some, ob_some, cd_t, cd_f, cd_d, okO_setI, okA_setI, okL_setI, aLen_setI, hR_setI, hI_setI, Bool.true_and, Bool.and_true, Bool.and_self, Option.isNone_some, Option.isSome_some, Option.isNone_none, Option.isSome_none, okO_chI, okA_chI, okL_chI, aLen_chI, hR_chI, ↓reduceIte, not_true_eq_false, not_false_eq_true, eq_self, c10, e91.mpr c1]
    rw [X215_6]
    by_cases c2 : op = true
    · rw [if_pos c2]
      have c216 := fun d => C216 w r.2.1 (ho.mp c2) d
      let h1 := setI h 81 2 (nI (p + 1))
      have w1 : Wf rb dr jd h1 := w
      have s1 : Lz dr cs h0 h1 L (p + 1) c n := s.go hd (p + 1)
      obtain ⟨h2, e2, o2⟩ := hi c2 h1 (p + 1) c n s1 (by omega) (by omega)
      have st2 : ∀ h', rW (d + 3) 215 (15, (0, 0), [some (rz_r (some 81)), some (rz_i (nI dep)), some (rz_i 91)], [], h2) = some (rz_i 0, h') → (bif okO h 81 [5] then bI (cW (d + 3) 216 [rz_r (some 81), rz_i (nI dep)] h) fun x2 h1 => (bif decide (x2 = 0) then rW (d + 3) 215 (45, (0, 0), [some (rz_r (some 81)), some (rz_i (nI dep)), some (rz_i 91)], [], h1) else rW (d + 3) 215 (10, (0, 0), [some (rz_r (some 81)), some (rz_i (nI dep)), some (rz_i 91)], [], h1)) else none) = some (rz_i 0, h') := fun h' e => by
        simp only [bI_some, bV_some, bR_some, bL_some, ob_some, cd_t, cd_f, cd_d, okO_setI, okA_setI, okL_setI, aLen_setI, hR_setI, hI_setI, Bool.true_and, Bool.and_true, Bool.and_self, Option.isNone_some, Option.isSome_some, Option.isNone_none, Option.isSome_none, okO_chI, okA_chI, okL_chI, aLen_chI, hR_chI, ↓reduceIte, not_true_eq_false, not_false_eq_true, eq_self, c10, WLr w, c216, c10]
        rw [show setI h 81 2 (nI (p + 1)) = h1 from rfl, X215_10, nI_1, e2]
        simp only [bV_some, cd_t, (WLr w1).1]
        exact e
      rcases o2 with ⟨e, he, le⟩ | ⟨q, hq, s2⟩
      · rw [he]
        refine ⟨h2, st2 h2 ?_, Or.inl ⟨e, rfl, le⟩⟩
        have w2 : Wf rb dr jd h2 := w0.e le.1.1
        have e233 : ∀ d, cW (d + 3) 233 [rz_r (some 81), rz_i 93] h2 = some (rz_i 0, h2) := fun d => R233e w2 isR81 le.ne d (m := 93) (by omega)
        rw [X215_15]
        simp only [bI_some, bV_some, bR_some, bL_some, ob_some, cd_t, cd_f, cd_d, okO_setI, okA_setI, okL_setI, aLen_setI, hR_setI, hI_setI, Bool.true_and, Bool.and_true, Bool.and_self, Option.isNone_some, Option.isSome_some, Option.isNone_none, Option.isSome_none, okO_chI, okA_chI, okL_chI, aLen_chI, hR_chI, ↓reduceIte, not_true_eq_false, not_false_eq_true, eq_self, c10, WLr w2, e233, X215_18, X215_45]
      · rw [hq]
        have g := (hs c2).at (by omega) hq
        have w2 : Wf rb dr jd h2 := w0.e s2.1.1
        have T2 := T0.fe hd s2.1.fe
        have r2 := s2.2.1
        have gL := g.1
        have e233 : ∀ d, cW (d + 3) 233 [rz_r (some 81), rz_i 93] h2 = if q.1 < L ∧ t q.1 = 93 then some (rz_i 0, setI h2 81 2 (nI (q.1 + 1))) else some (rz_i 0, setI (setI h2 81 3 1) 81 4 (nI q.1)) := fun d => R233 w2 isR81 T2 hL r2.1 r2.2.1 (by omega) r2.2.2 (m := 93) (by omega) d
        show ∃ h', _ ∧ Oz dr cs h0 h' L (clL t L 93 q.1 q.2.1 q.2.2)
        unfold clL
        by_cases c3 : q.1 < L ∧ t q.1 = 93
        · rw [if_pos c3]
          refine ⟨_, st2 (setI h2 81 2 (nI (q.1 + 1))) ?_, Or.inr ⟨_, rfl, s2.go hd (q.1 + 1)⟩⟩
          rw [X215_15]
          simp only [bI_some, bV_some, bR_some, bL_some, ob_some, cd_t, cd_f, cd_d, okO_setI, okA_setI, okL_setI, aLen_setI, hR_setI, hI_setI, Bool.true_and, Bool.and_true, Bool.and_self, Option.isNone_some, Option.isSome_some, Option.isNone_none, Option.isSome_none, okO_chI, okA_chI, okL_chI, aLen_chI, hR_chI, ↓reduceIte, not_true_eq_false, not_false_eq_true, eq_self, c10, WLr w2, e233, if_pos c3, X215_18, X215_45]
        · rw [if_neg c3]
          refine ⟨_, st2 (setI (setI h2 81 3 1) 81 4 (nI q.1)) ?_, Or.inl ⟨_, rfl, s2.bl 1 q.1 (by omega) (by omega)⟩⟩
          rw [X215_15]
          simp only [bI_some, bV_some, bR_some, bL_some, ob_some, cd_t, cd_f, cd_d, okO_setI, okA_setI, okL_setI, aLen_setI, hR_setI, hI_setI, Bool.true_and, Bool.and_true, Bool.and_self, Option.isNone_some, Option.isSome_some, Option.isNone_none, Option.isSome_none, okO_chI, okA_chI, okL_chI, aLen_chI, hR_chI, ↓reduceIte, not_true_eq_false, not_false_eq_true, eq_self, c10, WLr w2, e233, if_neg c3, X215_18, X215_45]
    · rw [if_neg c2]
      refine ⟨_, ?_, Or.inl ⟨_, rfl, s.bl 5 p (by omega) (by omega)⟩⟩
      have c216 := fun d => C216n w r.2.1 r.2.2 (fun z => c2 (ho.mpr z)) (by omega) d
      simp only [bI_some, bV_some, bR_some, bL_some, ob_some, cd_t, cd_f, cd_d, okO_setI, okA_setI, okL_setI, aLen_setI, hR_setI, hI_setI, Bool.true_and, Bool.and_true, Bool.and_self, Option.isNone_some, Option.isSome_some, Option.isNone_none, Option.isSome_none, okO_chI, okA_chI, okL_chI, aLen_chI, hR_chI, ↓reduceIte, not_true_eq_false, not_false_eq_true, eq_self, c10, WLr w, c216, X215_45]
      rfl
  · rw [if_neg c1]
    have n91 : ¬ pkI t L p = 91 := fun z => c1 (e91.mp z)
    simp only [bI_some, bV_some, bR_some, bL_some, ob_some, cd_t, cd_f, cd_d, okO_setI, okA_setI, okL_setI, aLen_setI, hR_setI, hI_setI, Bool.true_and, Bool.and_true, Bool.and_self, Option.isNone_some, Option.isSome_some, Option.isNone_none, Option.isSome_none, okO_chI, okA_chI, okL_chI, aLen_chI, hR_chI, ↓reduceIte, not_true_eq_false, not_false_eq_true, eq_self, c10, n91]
    rw [X215_19, R236 _ _ hb]
    by_cases c2 : dgT t L p = true
    · rw [if_pos c2]
      simp only [bI_some, bV_some, bR_some, bL_some, ob_some, cd_t, cd_f, cd_d, okO_setI, okA_setI, okL_setI, aLen_setI, hR_setI, hI_setI, Bool.true_and, Bool.and_true, Bool.and_self, Option.isNone_some, Option.isSome_some, Option.isNone_none, Option.isSome_none, okO_chI, okA_chI, okL_chI, aLen_chI, hR_chI, ↓reduceIte, not_true_eq_false, not_false_eq_true, eq_self, c10, bD_t c2, c10]
      obtain ⟨v, h1, e1, f1, o1⟩ := R235 w isR81 T hL (m := 5) (by omega) (by omega) r hp d
      have e1 : cW (d + 3) 235 [rz_r (some 81), rz_i 5] h = some (rz_i v, h1) := e1
      have w1 : Wf rb dr jd h1 := w.e f1.1
      have fin : ∀ x5 h2, cW (d + 3) 197 [rz_r (some dr), rz_i 1, rz_i v] h1 = some (rz_i x5, h2) → rW (d + 3) 215 (22, (0, 0), [some (rz_r (some 81)), some (rz_i (nI dep)), some (rz_i (pkI t L p))], [], h) = some (rz_i 0, h2) := fun x5 h2 e => by
        rw [X215_22, e1]
        simp only [bI_some, bV_some, bR_some, bL_some, ob_some, cd_t, cd_f, cd_d, okO_setI, okA_setI, okL_setI, aLen_setI, hR_setI, hI_setI, Bool.true_and, Bool.and_true, Bool.and_self, Option.isNone_some, Option.isSome_some, Option.isNone_none, Option.isSome_none, okO_chI, okA_chI, okL_chI, aLen_chI, hR_chI, ↓reduceIte, not_true_eq_false, not_false_eq_true, eq_self, c10, WLr w, ↓b5, WLw w1 hd, e, X215_45]
      rcases o1 with ⟨e, he, re⟩ | ⟨q, hq, rs, rfl⟩
      · rw [he]
        have oo : 0 < e.1 ∧ e.1 < 10 := by
          rcases numT_ok t L 5 p hp with ⟨e', he', a, b, -⟩ | ⟨q, hq, -⟩
          · rw [he] at he'
            have : e = e' := by simpa using he'
            subst this
            exact ⟨a, b⟩
          · rw [he] at hq
            exact absurd hq (by simp)
        obtain ⟨x5, h2, e2, le⟩ := (s.er f1 re oo.1 oo.2).add w0 1 v (d + 2)
        exact ⟨h2, fin x5 h2 e2, Or.inl ⟨e, rfl, le⟩⟩
      · rw [hq]
        obtain ⟨h2, e2, s2⟩ := (s.fr hd f1 rs).add w0 (by omega) (1, q.2) (d + 2)
        rw [vl1] at e2
        exact ⟨h2, fin _ h2 e2, Or.inr ⟨_, rfl, s2⟩⟩
    · rw [if_neg c2]
      simp only [bI_some, bV_some, bR_some, bL_some, ob_some, cd_t, cd_f, cd_d, okO_setI, okA_setI, okL_setI, aLen_setI, hR_setI, hI_setI, Bool.true_and, Bool.and_true, Bool.and_self, Option.isNone_some, Option.isSome_some, Option.isNone_none, Option.isSome_none, okO_chI, okA_chI, okL_chI, aLen_chI, hR_chI, ↓reduceIte, not_true_eq_false, not_false_eq_true, eq_self, c10, bD_f c2]
      rw [X215_31, lkI hb]
      by_cases c3 : p < L ∧ lkT (t p) = true
      · rw [if_pos c3, if_pos c3]
        have s1 : Lz dr cs h0 (setI h 81 2 (nI (p + 1))) L (p + 1) c n := s.go hd (p + 1)
        have w1 : Wf rb dr jd (setI h 81 2 (nI (p + 1))) := w
        obtain ⟨h2, e2, s2⟩ := s1.add w0 (by omega) (2, t p) (d + 2)
        rw [vl2] at e2
        have e2 : cW (d + 3) 197 [rz_r (some dr), rz_i 2, rz_i (nI (t p))] (setI h 81 2 (nI (p + 1))) = some (rz_i (nI (cs + n)), h2) := e2
        refine ⟨h2, ?_, Or.inr ⟨_, rfl, s2⟩⟩
        have b5' := obR (WLr w1).2.2.2
        simp only [bI_some, bV_some, bR_some, bL_some, ob_some, cd_t, cd_f, cd_d, okO_setI, okA_setI, okL_setI, aLen_setI, hR_setI, hI_setI, Bool.true_and, Bool.and_true, Bool.and_self, Option.isNone_some, Option.isSome_some, Option.isNone_none, Option.isSome_none, okO_chI, okA_chI, okL_chI, aLen_chI, hR_chI, ↓reduceIte, not_true_eq_false, not_false_eq_true, eq_self, c10, c10]
        rw [X215_34]
        simp only [bI_some, bV_some, bR_some, bL_some, ob_some, cd_t, cd_f, cd_d, okO_setI, okA_setI, okL_setI, aLen_setI, hR_setI, hI_setI, Bool.true_and, Bool.and_true, Bool.and_self, Option.isNone_some, Option.isSome_some, Option.isNone_none, Option.isSome_none, okO_chI, okA_chI, okL_chI, aLen_chI, hR_chI, ↓reduceIte, not_true_eq_false, not_false_eq_true, eq_self, c10, WLr w, R229 w isR81 r.2.1]
        rw [X215_36, pkk_in c3.1]
        generalize setI h 81 2 (nI (p + 1)) = g1 at *
        simp only [bI_some, bV_some, bR_some, bL_some, ob_some, cd_t, cd_f, cd_d, okO_setI, okA_setI, okL_setI, aLen_setI, hR_setI, hI_setI, Bool.true_and, Bool.and_true, Bool.and_self, Option.isNone_some, Option.isSome_some, Option.isNone_none, Option.isSome_none, okO_chI, okA_chI, okL_chI, aLen_chI, hR_chI, ↓reduceIte, not_true_eq_false, not_false_eq_true, eq_self, c10, WLr w1, ↓b5', WLw w1 hd, e2, X215_45]
      · rw [if_neg c3, if_neg c3]
        refine ⟨_, ?_, Or.inl ⟨_, rfl, s.bl 1 p (by omega) (by omega)⟩⟩
        simp only [bI_some, bV_some, bR_some, bL_some, ob_some, cd_t, cd_f, cd_d, okO_setI, okA_setI, okL_setI, aLen_setI, hR_setI, hI_setI, Bool.true_and, Bool.and_true, Bool.and_self, Option.isNone_some, Option.isSome_some, Option.isNone_none, Option.isSome_none, okO_chI, okA_chI, okL_chI, aLen_chI, hR_chI, ↓reduceIte, not_true_eq_false, not_false_eq_true, eq_self, c10, X215_43, WLr w, R232 w isR81 r.2.1 r.2.2, X215_45]
        rfl
theorem L214 {rb dr : Nat} {jd : Option Nat} {h0 : rz_H} (w0 : Wf rb dr jd h0) {N : Nat} {t : Nat → Nat} (T0 : Tq h0 N t) {L : Nat} (hL : L ≤ N) (h240 : L ≤ 240) {cs dep : Nat} {R : Nat → CC → Nat → RC} {B : Nat} (hs : Sp L false B R) {d : Nat} (hi : SC dr cs h0 L 215 (d + 4) dep R) : ∀ f i h p c n, i + f = 240 → Lz dr cs h0 h L p c n → p ≤ L → cs + n ≤ p → ∃ h', (∀ j3, rW (d + 4) 214 (5, (0, 0), [some (rz_r (some 81)), some (rz_i (nI dep)), some (rz_i (nI i)), j3], [], h) = some (rz_i 0, h')) ∧ Oz dr cs h0 h' L (blp t L R mulT f p c n) := by
  intro f
  induction f with
  | zero =>
    intro i h p c n hf s hp hr
    refine ⟨h, fun j3 => ?_, Or.inr ⟨_, rfl, s⟩⟩
    have g : (240 : Int32) ≤ nI i := nI_le (a := 240) (by omega) (by omega)
    rw [X214_5]
    simp only [bI_some, bV_some, bR_some, bL_some, ob_some, cd_t, cd_f, cd_d, okO_setI, okA_setI, okL_setI, aLen_setI, hR_setI, hI_setI, Bool.true_and, Bool.and_true, Bool.and_self, Option.isNone_some, Option.isSome_some, Option.isNone_none, Option.isSome_none, okO_chI, okA_chI, okL_chI, aLen_chI, hR_chI, ↓reduceIte, not_true_eq_false, not_false_eq_true, eq_self, c10, g, X214_36]
  | succ f ih =>
    intro i h p c n hf s hp hroom
    have hd := isW_dr w0
    have w : Wf rb dr jd h := w0.e s.1.1
    have T := T0.fe hd s.1.fe
    have hN := T.1.1
    have r := s.2.1
    have hb : p < L → t p < 256 := fun q => (T.1.2 p (by omega)).1
    have pk := fun d => R227 w isR81 T hL r.1 r.2.1 (by omega) r.2.2 d
    have g : ¬ (240 : Int32) ≤ nI i := nI_ge (b := 240) (by omega) (by omega)
    have q1 : pkI t L p = 42 ↔ p < L ∧ t p = 42 := pkk_eq (m := 42) hb (by omega)
    have q2 : pkI t L p = 47 ↔ p < L ∧ t p = 47 := pkk_eq (m := 47) hb (by omega)
    have q3 : pkI t L p = 37 ↔ p < L ∧ t p = 37 := pkk_eq (m := 37) hb (by omega)
    have lk : mulT (t p) = true ↔ (t p = 42 ∨ t p = 47 ∨ t p = 37) := ⟨of_decide_eq_true, decide_eq_true⟩
    unfold blp
    by_cases c1 : p < L ∧ mulT (t p) = true
    · rw [if_pos c1]
      have st : ∀ j3, rW (d + 4) 214 (5, (0, 0), [some (rz_r (some 81)), some (rz_i (nI dep)), some (rz_i (nI i)), j3], [], h) = rW (d + 4) 214 (20, (0, 0), [some (rz_r (some 81)), some (rz_i (nI dep)), some (rz_i (nI i)), none], [], h) := fun j3 => by
        rw [X214_5]
        simp only [bI_some, bV_some, bR_some, bL_some, ob_some, cd_t, cd_f, cd_d, okO_setI, okA_setI, okL_setI, aLen_setI, hR_setI, hI_setI, Bool.true_and, Bool.and_true, Bool.and_self, Option.isNone_some, Option.isSome_some, Option.isNone_none, Option.isSome_none, okO_chI, okA_chI, okL_chI, aLen_chI, hR_chI, ↓reduceIte, not_true_eq_false, not_false_eq_true, eq_self, c10, g]
        rw [X214_8, pk]
        by_cases d1 : pkI t L p = 42
        · simp only [bI_some, bV_some, bR_some, bL_some, ob_some, cd_t, cd_f, cd_d, okO_setI, okA_setI, okL_setI, aLen_setI, hR_setI, hI_setI, Bool.true_and, Bool.and_true, Bool.and_self, Option.isNone_some, Option.isSome_some, Option.isNone_none, Option.isSome_none, okO_chI, okA_chI, okL_chI, aLen_chI, hR_chI, ↓reduceIte, not_true_eq_false, not_false_eq_true, eq_self, c10, WLr w, d1]
        · simp only [bI_some, bV_some, bR_some, bL_some, ob_some, cd_t, cd_f, cd_d, okO_setI, okA_setI, okL_setI, aLen_setI, hR_setI, hI_setI, Bool.true_and, Bool.and_true, Bool.and_self, Option.isNone_some, Option.isSome_some, Option.isNone_none, Option.isSome_none, okO_chI, okA_chI, okL_chI, aLen_chI, hR_chI, ↓reduceIte, not_true_eq_false, not_false_eq_true, eq_self, c10, WLr w, d1]
          rw [X214_12, pk]
          by_cases d2 : pkI t L p = 47
          · simp only [bI_some, bV_some, bR_some, bL_some, ob_some, cd_t, cd_f, cd_d, okO_setI, okA_setI, okL_setI, aLen_setI, hR_setI, hI_setI, Bool.true_and, Bool.and_true, Bool.and_self, Option.isNone_some, Option.isSome_some, Option.isNone_none, Option.isSome_none, okO_chI, okA_chI, okL_chI, aLen_chI, hR_chI, ↓reduceIte, not_true_eq_false, not_false_eq_true, eq_self, c10, WLr w, d2]
          · simp only [bI_some, bV_some, bR_some, bL_some, ob_some, cd_t, cd_f, cd_d, okO_setI, okA_setI, okL_setI, aLen_setI, hR_setI, hI_setI, Bool.true_and, Bool.and_true, Bool.and_self, Option.isNone_some, Option.isSome_some, Option.isNone_none, Option.isSome_none, okO_chI, okA_chI, okL_chI, aLen_chI, hR_chI, ↓reduceIte, not_true_eq_false, not_false_eq_true, eq_self, c10, WLr w, d2]
            rw [X214_16, pk]
            have d3 : pkI t L p = 37 := by
              rcases lk.mp c1.2 with z | z | z
              · exact absurd (q1.mpr ⟨c1.1, z⟩) d1
              · exact absurd (q2.mpr ⟨c1.1, z⟩) d2
              · exact q3.mpr ⟨c1.1, z⟩
            simp only [bI_some, bV_some, bR_some, bL_some, ob_some, cd_t, cd_f, cd_d, okO_setI, okA_setI, okL_setI, aLen_setI, hR_setI, hI_setI, Bool.true_and, Bool.and_true, Bool.and_self, Option.isNone_some, Option.isSome_some, Option.isNone_none, Option.isSome_none, okO_chI, okA_chI, okL_chI, aLen_chI, hR_chI, ↓reduceIte, not_true_eq_false, not_false_eq_true, eq_self, c10, WLr w, d3]
      let h1 := setI h 81 2 (nI (p + 1))
      have w1 : Wf rb dr jd h1 := w
      have s1 : Lz dr cs h0 h1 L (p + 1) c n := s.go hd (p + 1)
      obtain ⟨h2, e2, o2⟩ := hi h1 (p + 1) c n s1 (by omega) (by omega)
      have st2 : ∀ j3, rW (d + 4) 214 (5, (0, 0), [some (rz_r (some 81)), some (rz_i (nI dep)), some (rz_i (nI i)), j3], [], h) = rW (d + 4) 214 (28, (0, 0), [some (rz_r (some 81)), some (rz_i (nI dep)), some (rz_i (nI i)), some (rz_i (nI (t p)))], [], h2) := fun j3 => by
        rw [st j3, X214_20, pk, pkk_in c1.1]
        simp only [bI_some, bV_some, bR_some, bL_some, ob_some, cd_t, cd_f, cd_d, okO_setI, okA_setI, okL_setI, aLen_setI, hR_setI, hI_setI, Bool.true_and, Bool.and_true, Bool.and_self, Option.isNone_some, Option.isSome_some, Option.isNone_none, Option.isSome_none, okO_chI, okA_chI, okL_chI, aLen_chI, hR_chI, ↓reduceIte, not_true_eq_false, not_false_eq_true, eq_self, c10, WLr w]
        rw [X214_23]
        simp only [bI_some, bV_some, bR_some, bL_some, ob_some, cd_t, cd_f, cd_d, okO_setI, okA_setI, okL_setI, aLen_setI, hR_setI, hI_setI, Bool.true_and, Bool.and_true, Bool.and_self, Option.isNone_some, Option.isSome_some, Option.isNone_none, Option.isSome_none, okO_chI, okA_chI, okL_chI, aLen_chI, hR_chI, ↓reduceIte, not_true_eq_false, not_false_eq_true, eq_self, c10, WLr w, R229 w isR81 r.2.1]
        rw [show setI h 81 2 (nI (p + 1)) = h1 from rfl, X214_25, e2]
        simp only [bV_some, cd_t, (WLr w1).1]
      rcases o2 with ⟨e, he, le⟩ | ⟨q, hq, s2⟩
      · rw [he]
        have w2 : Wf rb dr jd h2 := w0.e le.1.1
        obtain ⟨x5, h3, e3, le3⟩ := le.add w0 (nI (t p)) 0 (d + 3)
        have w3 : Wf rb dr jd h3 := w0.e le3.1.1
        refine ⟨h3, fun j3 => ?_, Or.inl ⟨e, rfl, le3⟩⟩
        have b5 := obR (WLr w2).2.2.2
        rw [st2 j3, X214_28]
        simp only [bI_some, bV_some, bR_some, bL_some, ob_some, cd_t, cd_f, cd_d, okO_setI, okA_setI, okL_setI, aLen_setI, hR_setI, hI_setI, Bool.true_and, Bool.and_true, Bool.and_self, Option.isNone_some, Option.isSome_some, Option.isNone_none, Option.isSome_none, okO_chI, okA_chI, okL_chI, aLen_chI, hR_chI, ↓reduceIte, not_true_eq_false, not_false_eq_true, eq_self, c10, WLr w2, ↓b5, WLw w2 hd, e3, X214_35]
        exact L214e w3 le3.ne _ _ (d + 1) _
      · rw [hq]
        have gg := hs.at (by omega) hq
        have gL := gg.1
        have gn := gg.2.2.1
        have w2 : Wf rb dr jd h2 := w0.e s2.1.1
        obtain ⟨h3, e3, s3⟩ := s2.add w0 (by omega) (t p, 0) (d + 3)
        rw [vl0] at e3
        have e3 : cW (d + 4) 197 [rz_r (some dr), rz_i (nI (t p)), rz_i 0] h2 = some (rz_i (nI (cs + q.2.2)), h3) := e3
        obtain ⟨h', e, o⟩ := ih (i + 1) h3 q.1 (psh q.2.1 q.2.2 (t p, 0)) (q.2.2 + 1) (by omega) s3 gL (by omega)
        refine ⟨h', fun j3 => ?_, o⟩
        have b5 := obR (WLr w2).2.2.2
        rw [st2 j3, X214_28]
        simp only [bI_some, bV_some, bR_some, bL_some, ob_some, cd_t, cd_f, cd_d, okO_setI, okA_setI, okL_setI, aLen_setI, hR_setI, hI_setI, Bool.true_and, Bool.and_true, Bool.and_self, Option.isNone_some, Option.isSome_some, Option.isNone_none, Option.isSome_none, okO_chI, okA_chI, okL_chI, aLen_chI, hR_chI, ↓reduceIte, not_true_eq_false, not_false_eq_true, eq_self, c10, WLr w2, ↓b5, WLw w2 hd, e3, X214_35, nI_1]
        exact e _
    · rw [if_neg c1]
      refine ⟨h, fun j3 => ?_, Or.inr ⟨_, rfl, s⟩⟩
      have d1 : ¬ pkI t L p = 42 := fun z => c1 ⟨(q1.mp z).1, lk.mpr (Or.inl (q1.mp z).2)⟩
      have d2 : ¬ pkI t L p = 47 := fun z => c1 ⟨(q2.mp z).1, lk.mpr (Or.inr (Or.inl (q2.mp z).2))⟩
      have d3 : ¬ pkI t L p = 37 := fun z => c1 ⟨(q3.mp z).1, lk.mpr (Or.inr (Or.inr (q3.mp z).2))⟩
      rw [X214_5]
      simp only [bI_some, bV_some, bR_some, bL_some, ob_some, cd_t, cd_f, cd_d, okO_setI, okA_setI, okL_setI, aLen_setI, hR_setI, hI_setI, Bool.true_and, Bool.and_true, Bool.and_self, Option.isNone_some, Option.isSome_some, Option.isNone_none, Option.isSome_none, okO_chI, okA_chI, okL_chI, aLen_chI, hR_chI, ↓reduceIte, not_true_eq_false, not_false_eq_true, eq_self, c10, g]
      rw [X214_8, pk]
      simp only [bI_some, bV_some, bR_some, bL_some, ob_some, cd_t, cd_f, cd_d, okO_setI, okA_setI, okL_setI, aLen_setI, hR_setI, hI_setI, Bool.true_and, Bool.and_true, Bool.and_self, Option.isNone_some, Option.isSome_some, Option.isNone_none, Option.isSome_none, okO_chI, okA_chI, okL_chI, aLen_chI, hR_chI, ↓reduceIte, not_true_eq_false, not_false_eq_true, eq_self, c10, WLr w, d1]
      rw [X214_12, pk]
      simp only [bI_some, bV_some, bR_some, bL_some, ob_some, cd_t, cd_f, cd_d, okO_setI, okA_setI, okL_setI, aLen_setI, hR_setI, hI_setI, Bool.true_and, Bool.and_true, Bool.and_self, Option.isNone_some, Option.isSome_some, Option.isNone_none, Option.isSome_none, okO_chI, okA_chI, okL_chI, aLen_chI, hR_chI, ↓reduceIte, not_true_eq_false, not_false_eq_true, eq_self, c10, WLr w, d2]
      rw [X214_16, pk]
      simp only [bI_some, bV_some, bR_some, bL_some, ob_some, cd_t, cd_f, cd_d, okO_setI, okA_setI, okL_setI, aLen_setI, hR_setI, hI_setI, Bool.true_and, Bool.and_true, Bool.and_self, Option.isNone_some, Option.isSome_some, Option.isNone_none, Option.isSome_none, okO_chI, okA_chI, okL_chI, aLen_chI, hR_chI, ↓reduceIte, not_true_eq_false, not_false_eq_true, eq_self, c10, WLr w, d3, X214_36]
theorem C214 {rb dr : Nat} {jd : Option Nat} {h0 : rz_H} (w0 : Wf rb dr jd h0) {N : Nat} {t : Nat → Nat} (T0 : Tq h0 N t) {L : Nat} (hL : L ≤ N) (h240 : L ≤ 240) {cs dep : Nat} {R : Nat → CC → Nat → RC} {B : Nat} (hs : Sp L false B R) {d : Nat} (hi : SC dr cs h0 L 215 (d + 4) dep R) : SC dr cs h0 L 214 (d + 5) dep (prdT t L R) := by
  intro h p c n s hp hroom
  have w : Wf rb dr jd h := w0.e s.1.1
  obtain ⟨h1, e1, o1⟩ := hi h p c n s hp hroom
  have st : cW (d + 5) 214 [rz_r (some 81), rz_i (nI dep)] h = rW (d + 4) 214 (5, (0, 0), [some (rz_r (some 81)), some (rz_i (nI dep)), some (rz_i (nI 0)), none], [], h1) := by
    rw [X214, e1]
    simp only [bI_some, bV_some, bR_some, bL_some, ob_some, cd_t, cd_f, cd_d, okO_setI, okA_setI, okL_setI, aLen_setI, hR_setI, hI_setI, Bool.true_and, Bool.and_true, Bool.and_self, Option.isNone_some, Option.isSome_some, Option.isNone_none, Option.isSome_none, okO_chI, okA_chI, okL_chI, aLen_chI, hR_chI, ↓reduceIte, not_true_eq_false, not_false_eq_true, eq_self, c10, WLr w, X214_3]
    rfl
  rw [st]
  show ∃ h', _ ∧ Oz dr cs h0 h' L (cbd (R p c n) (blp t L R mulT 240))
  rcases o1 with ⟨e, he, le⟩ | ⟨q, hq, s1⟩
  · rw [he]
    have w1 : Wf rb dr jd h1 := w0.e le.1.1
    exact ⟨h1, L214e w1 le.ne _ _ (d + 1) _, Or.inl ⟨e, rfl, le⟩⟩
  · rw [hq]
    have gg := hs.at hp hq
    have gn := gg.2.2.1
    obtain ⟨h', e, o⟩ := L214 w0 T0 hL h240 hs hi 240 0 h1 q.1 q.2.1 q.2.2 (by omega) s1 gg.1 (by omega)
    exact ⟨h', e _, o⟩
