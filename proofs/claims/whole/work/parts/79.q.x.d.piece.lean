/-! the law's text: the model ends a piece, compares -/
def TQ (h0 h : rz_H) (N : Nat) (t : Nat → Nat) (L ms p : Nat) (c : CC) (n : Nat) (fr : List TFR) (g : Nat) : Prop := MS h0 h N t L ms p c n (tSM ms fr) fr.length ∧ fr.length + g = 6 ∧ TOk c n fr ∧ bOM fr ∧ ms + n + nBM fr ≤ p ∧ (tSM ms fr).length ≤ p ∧ p ≤ L
theorem X63t (d : Nat) (h : rz_H) : rW d 63 (20, (0, 0), [some (rz_r (some 109))], [], h) = cW (d + 1) 63 [rz_r (some 109)] h := by
  rw [X63_20, X63]
/-- what waits on top of a bracket -/
theorem tp_s {ms n : Nat} {c : CC} {m : Option Nat × Option Nat} {r : List TFR} (h : TOk c n (some m :: r)) (hn : ms + n < 1000) : ∃ v X, tSM ms (some m :: r) = v :: X ∧ (v / 1048576 = 11 ∨ v / 1048576 = 12 ∨ v / 1048576 = 13) := by
  obtain ⟨jo, ja⟩ := h m (List.mem_cons_self ..)
  obtain ⟨oj, aj⟩ := m
  cases aj with
  | some j =>
    have jl := (ja j rfl).1
    exact ⟨1048576 * 11 + (ms + j), _, rfl, Or.inl (by omega)⟩
  | none =>
    cases oj with
    | some j =>
      have jl := (jo j rfl).1
      exact ⟨1048576 * 12 + (ms + j), _, rfl, Or.inr (Or.inl (by omega))⟩
    | none => exact ⟨1048576 * 13, _, rfl, Or.inr (Or.inr (by decide))⟩
theorem K63 {rb dr : Nat} {jd : Option Nat} {h0 : rz_H} (w0 : Wf rb dr jd h0) {N : Nat} {t : Nat → Nat} {L ms p : Nat} (hL : L ≤ 240) (d : Nat) : ∀ fr c n g h, TQ h0 h N t L ms p c n fr g → ∃ h' c' n' m r g', cW (d + 2) 63 [rz_r (some 109)] h = some (rz_i 0, h') ∧ TQ h0 h' N t L ms p c' n' (some m :: r) g' ∧ aT t L fr g p c n = aT t L (some m :: r) g' p c' n'
  | [], c, n, g, h, q => absurd q.2.2.2.1 id
  | none :: r, c, n, g, h, q => by
    obtain ⟨s, q1, q2, q3, q4, q5, q6⟩ := q
    rw [List.length_cons] at q1
    have s : MS h0 h N t L ms p c n (1048576 * 10 :: tSM ms r) (r.length + 1) := s
    have q4 : ms + n + (nBM r + 1) ≤ p := q4
    have q5 : (tSM ms r).length + 1 ≤ p := q5
    have w : Wf rb dr jd h := w0.e s.1.1
    have k56 := fun d => K56 w (v := 1048576 * 10) (r := tSM ms r) (by omega) (s.2.2.2.2.1.trans (by rw [List.length_cons])) s.2.2.2.2.2.1 d
    have k56 : ∀ d, cW (d + 1) 56 [rz_r (some 109)] h = some (rz_i 10, h) := k56
    obtain ⟨h1, e1, s1⟩ := s.nt w0 (by omega) (3, 0) (k := 10) (v := 0) rfl d
    have e1 : cW (d + 1) 54 [rz_r (some 109), rz_i 10, rz_i 0] h = some (rz_i 0, h1) := e1
    have w1 : Wf rb dr jd h1 := w0.e s1.1.1
    have s2 := s1.dn
    have e11 : hI h1 109 11 = nI ((tSM ms r).length + 1) := s1.2.2.2.2.1.trans (by rw [List.length_cons])
    have e9 := s1.2.2.2.2.2.2
    have u : nI ((tSM ms r).length + 1) - 1 = nI (tSM ms r).length := nI_sub (b := 1) (by omega)
    have u2 : nI (r.length + 1) - 1 = nI r.length := nI_sub (b := 1) (by omega)
    have st : cW (d + 2) 63 [rz_r (some 109)] h = cW (d + 2) 63 [rz_r (some 109)] (setI (setI h1 109 11 (nI (tSM ms r).length)) 109 9 (nI r.length)) := by
      have l9 : hI (setI h1 109 11 (nI (tSM ms r).length)) 109 9 = nI (r.length + 1) := by
        rw [hI_setI, if_neg (by omega)]
        exact e9
      rw [X63]
      simp only [bI_some, bV_some, bR_some, bL_some, ob_some, cd_t, cd_f, cd_d, okO_setI, okA_setI, okL_setI, aLen_setI, hR_setI, hI_setI, Bool.true_and, Bool.and_true, Bool.and_self, Option.isNone_some, Option.isSome_some, Option.isNone_none, Option.isSome_none, okO_chI, okA_chI, okL_chI, aLen_chI, hR_chI, ↓reduceIte, not_true_eq_false, not_false_eq_true, eq_self, c10, WMd w, k56, X63_4, e1]
      rw [X63_8]
      simp only [cd_t, (WMd w1).1, e11, u]
      rw [X63_14]
      have w2 : Wf rb dr jd (setI h1 109 11 (nI (tSM ms r).length)) := w1
      simp only [cd_t, (WMd w2).1, l9, u2]
      rw [X63t]
    have tk0 : TOk (psh c n (3, 0)) (n + 1) (none :: r) := q2.to (by omega) (kp_p c n (3, 0))
    have tk : TOk (psh c n (3, 0)) (n + 1) r := fun m hm => tk0 m (List.mem_cons_of_mem _ hm)
    obtain ⟨h', c', n', m, r', g', o1, o2, o3⟩ := K63 w0 hL d r _ _ (g + 1) _ ⟨s2, by omega, tk, q3, by omega, by omega, q6⟩
    exact ⟨h', c', n', m, r', g', st.trans o1, o2, o3⟩
  | some m :: r, c, n, g, h, q => by
    refine ⟨h, c, n, m, r, g, ?_, q, rfl⟩
    obtain ⟨s, q1, q2, q3, q4, q5, q6⟩ := q
    have w : Wf rb dr jd h := w0.e s.1.1
    obtain ⟨v, X, ev, hv⟩ := tp_s (ms := ms) q2 (by omega)
    rw [ev] at s q5
    rw [List.length_cons] at q5
    have k56 := fun d => K56 w (v := v) (r := X) (by omega) (s.2.2.2.2.1.trans (by rw [List.length_cons])) s.2.2.2.2.2.1 d
    have l : ¬ nI (v / 1048576) = (10 : Int32) := fun z => by
      have := (nI_eq (a := v / 1048576) (b := 10) (by omega) (by omega)).mp z
      omega
    rw [X63]
    simp only [bI_some, bV_some, bR_some, bL_some, ob_some, cd_t, cd_f, cd_d, okO_setI, okA_setI, okL_setI, aLen_setI, hR_setI, hI_setI, Bool.true_and, Bool.and_true, Bool.and_self, Option.isNone_some, Option.isSome_some, Option.isNone_none, Option.isSome_none, okO_chI, okA_chI, okL_chI, aLen_chI, hR_chI, ↓reduceIte, not_true_eq_false, not_false_eq_true, eq_self, c10, WMd w, k56, l, X63_21]
theorem tpo_t {ms n : Nat} {c : CC} {fr : List TFR} (h : TOk c n fr) (hn : ms + n < 1000) : TpO (tSM ms fr) := by
  match fr, h with
  | [], _ => exact Or.inl rfl
  | none :: r, _ => exact Or.inr ⟨1048576 * 10, _, rfl, by decide⟩
  | some m :: r, h =>
    obtain ⟨v, X, e, z⟩ := tp_s h hn
    exact Or.inr ⟨v, X, e, by omega⟩
def cmN (s : Nat) : Nat := if s = 60 then 7 else if s = 62 then 8 else 9
theorem cmN_lt (s : Nat) : cmN s < 10 := by
  unfold cmN
  repeat' split
  all_goals omega
theorem nm10 : ∀ k, k < 10 → ¬ nI k = -1 := by decide
theorem K66h {rb dr : Nat} {jd : Option Nat} {h : rz_H} (w : Wf rb dr jd h) {N : Nat} {t : Nat → Nat} {L p : Nat} (m : MT h N t L p) (hb : ∀ i, i < L → t i < 256) (d : Nat) : rW (d + 1) 66 (5, (0, 0), [some (rz_r (some 109)), none], [], h) = rW (d + 1) 66 (25, (0, 0), [some (rz_r (some 109)), some (rz_i (if p < L ∧ cmpT (t p) = true then nI (cmN (t p)) else -1))], [], h) := by
  have a := pkk_eq (t := t) (L := L) (p := p) (m := 60) (hb p) (by omega)
  have b := pkk_eq (t := t) (L := L) (p := p) (m := 62) (hb p) (by omega)
  have c := pkk_eq (t := t) (L := L) (p := p) (m := 61) (hb p) (by omega)
  have cm : p < L ∧ cmpT (t p) = true ↔ p < L ∧ (t p = 60 ∨ t p = 62 ∨ t p = 61) := by
    unfold cmpT
    rw [decide_eq_true_iff]
  rw [X66_5]
  by_cases z1 : p < L ∧ t p = 60
  · have y1 : pkI t L p = 60 := a.mpr z1
    rw [if_pos (cm.mpr ⟨z1.1, Or.inl z1.2⟩), show cmN (t p) = 7 by rw [z1.2]; rfl]
    simp only [bI_some, bV_some, bR_some, bL_some, ob_some, cd_t, cd_f, cd_d, okO_setI, okA_setI, okL_setI, aLen_setI, hR_setI, hI_setI, Bool.true_and, Bool.and_true, Bool.and_self, Option.isNone_some, Option.isSome_some, Option.isNone_none, Option.isSome_none, okO_chI, okA_chI, okL_chI, aLen_chI, hR_chI, ↓reduceIte, not_true_eq_false, not_false_eq_true, eq_self, c10, WMd w, K49 w m, y1, X66_9]
    rfl
  · have y1 : ¬ pkI t L p = 60 := fun y => z1 (a.mp y)
    by_cases z2 : p < L ∧ t p = 62
    · have y2 : pkI t L p = 62 := b.mpr z2
      have l1 : ¬ (62 : Int32) = 60 := by decide
      rw [if_pos (cm.mpr ⟨z2.1, Or.inr (Or.inl z2.2)⟩), show cmN (t p) = 8 by rw [z2.2]; rfl]
      simp only [bI_some, bV_some, bR_some, bL_some, ob_some, cd_t, cd_f, cd_d, okO_setI, okA_setI, okL_setI, aLen_setI, hR_setI, hI_setI, Bool.true_and, Bool.and_true, Bool.and_self, Option.isNone_some, Option.isSome_some, Option.isNone_none, Option.isSome_none, okO_chI, okA_chI, okL_chI, aLen_chI, hR_chI, ↓reduceIte, not_true_eq_false, not_false_eq_true, eq_self, c10, WMd w, K49 w m, y2, l1, X66_11, X66_15]
      rfl
    · have y2 : ¬ pkI t L p = 62 := fun y => z2 (b.mp y)
      by_cases z3 : p < L ∧ t p = 61
      · have y3 : pkI t L p = 61 := c.mpr z3
        have l1 : ¬ (61 : Int32) = 60 := by decide
        have l2 : ¬ (61 : Int32) = 62 := by decide
        rw [if_pos (cm.mpr ⟨z3.1, Or.inr (Or.inr z3.2)⟩), show cmN (t p) = 9 by rw [z3.2]; rfl]
        simp only [bI_some, bV_some, bR_some, bL_some, ob_some, cd_t, cd_f, cd_d, okO_setI, okA_setI, okL_setI, aLen_setI, hR_setI, hI_setI, Bool.true_and, Bool.and_true, Bool.and_self, Option.isNone_some, Option.isSome_some, Option.isNone_none, Option.isSome_none, okO_chI, okA_chI, okL_chI, aLen_chI, hR_chI, ↓reduceIte, not_true_eq_false, not_false_eq_true, eq_self, c10, WMd w, K49 w m, y3, l1, l2, X66_11, X66_17, X66_21]
        rfl
      · have y3 : ¬ pkI t L p = 61 := fun y => z3 (c.mp y)
        rw [if_neg (fun y => by have := cm.mp y; omega)]
        simp only [bI_some, bV_some, bR_some, bL_some, ob_some, cd_t, cd_f, cd_d, okO_setI, okA_setI, okL_setI, aLen_setI, hR_setI, hI_setI, Bool.true_and, Bool.and_true, Bool.and_self, Option.isNone_some, Option.isSome_some, Option.isNone_none, Option.isSome_none, okO_chI, okA_chI, okL_chI, aLen_chI, hR_chI, ↓reduceIte, not_true_eq_false, not_false_eq_true, eq_self, c10, WMd w, K49 w m, y1, y2, y3, X66_11, X66_17, X66_23]
theorem K66 {rb dr : Nat} {jd : Option Nat} {h0 : rz_H} (w0 : Wf rb dr jd h0) {N : Nat} {t : Nat → Nat} {L ms : Nat} (hb : ∀ i, i < L → t i < 256) (hL : L ≤ 240) {g p : Nat} {c : CC} {n : Nat} {fr : List TFR} {h : rz_H} (q : TQ h0 h N t L ms p c n fr g) (d : Nat) : ∃ h', (∃ e, cbd (cmpR t L (sumT t L (fcG t L g)) p c n) (aT t L fr g) = Sum.inl e ∧ cW (d + 6) 66 [rz_r (some 109)] h = some (rz_i 0, h') ∧ ME ms h0 h' e) ∨ (∃ p' c' n' m r g', cbd (cmpR t L (sumT t L (fcG t L g)) p c n) (aT t L fr g) = aT t L (some m :: r) g' p' c' n' ∧ cW (d + 6) 66 [rz_r (some 109)] h = some (rz_i 1, h') ∧ TQ h0 h' N t L ms p' c' n' (some m :: r) g' ∧ p < p') := by
  obtain ⟨s, q1, q2, q3, q4, q5, q6⟩ := q
  have w : Wf rb dr jd h := w0.e s.1.1
  have tp : TpO (tSM ms fr) := tpo_t (ms := ms) q2 (by omega)
  have sps := sum_sp (t := t) (fcG_sp t L g)
  obtain ⟨h1, o⟩ := K62 w0 (K := nBM fr) hb hL tp s q1 q4 q5 q6 d
  unfold cmpR
  rw [X66]
  rcases o with ⟨e, o1, o2, o3⟩ | ⟨z, o1, o2, s1, z1, z2, z3⟩
  · refine ⟨h1, Or.inl ⟨e, by rw [o1]; rfl, ?_, o3⟩⟩
    simp only [bI_some, bV_some, bR_some, bL_some, ob_some, cd_t, cd_f, cd_d, okO_setI, okA_setI, okL_setI, aLen_setI, hR_setI, hI_setI, Bool.true_and, Bool.and_true, Bool.and_self, Option.isNone_some, Option.isSome_some, Option.isNone_none, Option.isSome_none, okO_chI, okA_chI, okL_chI, aLen_chI, hR_chI, ↓reduceIte, not_true_eq_false, not_false_eq_true, eq_self, c10, WMd w, o2, X66_3]
  · have w1 : Wf rb dr jd h1 := w0.e s1.1.1
    have gd1 := sps.at q6 o1
    obtain ⟨p1, c1, n1⟩ := z
    have s1 : MS h0 h1 N t L ms p1 c1 n1 (tSM ms fr) fr.length := s1
    have z1 : ms + n1 + nBM fr ≤ p1 := z1
    have z2 : p < p1 := z2
    have z3 : p1 ≤ L := z3
    rw [o1]
    show ∃ h', (∃ e, cbd (if p1 < L ∧ cmpT (t p1) = true then cbd (sumT t L (fcG t L g) (p1 + 1) c1 n1) (ptst (t p1)) else Sum.inl (1, p1)) (aT t L fr g) = Sum.inl e ∧ _) ∨ (∃ p' c' n' m r g', cbd (if p1 < L ∧ cmpT (t p1) = true then cbd (sumT t L (fcG t L g) (p1 + 1) c1 n1) (ptst (t p1)) else Sum.inl (1, p1)) (aT t L fr g) = aT t L (some m :: r) g' p' c' n' ∧ _)
    simp only [bI_some, bV_some, bR_some, bL_some, ob_some, cd_t, cd_f, cd_d, okO_setI, okA_setI, okL_setI, aLen_setI, hR_setI, hI_setI, Bool.true_and, Bool.and_true, Bool.and_self, Option.isNone_some, Option.isSome_some, Option.isNone_none, Option.isSome_none, okO_chI, okA_chI, okL_chI, aLen_chI, hR_chI, ↓reduceIte, not_true_eq_false, not_false_eq_true, c10, WMd w, o2, K66h w1 s1.2.1 hb]
    by_cases cm : p1 < L ∧ cmpT (t p1) = true
    · rw [if_pos cm, if_pos cm]
      have s2 := s1.go (by omega)
      have w2 : Wf rb dr jd (setI h1 109 5 (nI (p1 + 1))) := w0.e s2.1.1
      obtain ⟨h3, o⟩ := K62 w0 (K := nBM fr + 1) hb hL tp s2 q1 (by omega) (by omega) (by omega) d
      have st : rW (d + 5) 66 (25, (0, 0), [some (rz_r (some 109)), some (rz_i (nI (cmN (t p1))))], [], h1) = rW (d + 5) 66 (40, (0, 0), [some (rz_r (some 109)), some (rz_i (nI (cmN (t p1))))], [], setI h1 109 5 (nI (p1 + 1))) := by
        rw [X66_25]
        simp only [bI_some, bV_some, bR_some, bL_some, ob_some, cd_t, cd_f, cd_d, okO_setI, okA_setI, okL_setI, aLen_setI, hR_setI, hI_setI, Bool.true_and, Bool.and_true, Bool.and_self, Option.isNone_some, Option.isSome_some, Option.isNone_none, Option.isSome_none, okO_chI, okA_chI, okL_chI, aLen_chI, hR_chI, ↓reduceIte, not_true_eq_false, not_false_eq_true, eq_self, c10, WMd w1, nm10 _ (cmN_lt (t p1)), X66_34, s1.2.1.2.2.2.1, nI_1]
      rw [st, X66_40]
      generalize setI h1 109 5 (nI (p1 + 1)) = h2 at *
      rcases o with ⟨e, o3, o4, o5⟩ | ⟨z, o3, o4, s3, y1, y2, y3⟩
      · refine ⟨h3, Or.inl ⟨e, by rw [o3]; rfl, ?_, o5⟩⟩
        simp only [bI_some, bV_some, bR_some, bL_some, ob_some, cd_t, cd_f, cd_d, okO_setI, okA_setI, okL_setI, aLen_setI, hR_setI, hI_setI, Bool.true_and, Bool.and_true, Bool.and_self, Option.isNone_some, Option.isSome_some, Option.isNone_none, Option.isSome_none, okO_chI, okA_chI, okL_chI, aLen_chI, hR_chI, ↓reduceIte, not_true_eq_false, not_false_eq_true, eq_self, c10, WMd w2, o4, X66_43]
      · have w3 : Wf rb dr jd h3 := w0.e s3.1.1
        have gd2 := sps.at (by omega) o3
        obtain ⟨p3, c3, n3⟩ := z
        have s3 : MS h0 h3 N t L ms p3 c3 n3 (tSM ms fr) fr.length := s3
        have y1 : ms + n3 + (nBM fr + 1) ≤ p3 := y1
        have y2 : p1 + 1 < p3 := y2
        have y3 : p3 ≤ L := y3
        have zz : t p1 = 60 ∨ t p1 = 62 ∨ t p1 = 61 := of_decide_eq_true cm.2
        obtain ⟨h4, e4, s4⟩ := s3.nt w0 (by omega) (t p1, 0) (k := cmN (t p1)) (v := 0) (by rcases zz with y | y | y <;> rw [y] <;> rfl) (d + 4)
        have e4 : cW (d + 5) 54 [rz_r (some 109), rz_i (nI (cmN (t p1))), rz_i 0] h3 = some (rz_i 0, h4) := e4
        have w4 : Wf rb dr jd h4 := w0.e s4.1.1
        have n01 : n < n1 := gd1.2.1
        have n13 : n1 < n3 := gd2.2.1
        have tk : TOk (psh c3 n3 (t p1, 0)) (n3 + 1) fr := q2.to (by omega) fun i hi => by
          have a1 : psh c3 n3 (t p1, 0) i = c3 i := if_neg (by omega)
          have a2 : c3 i = c1 i := gd2.2.2.2.1 i (by show i < n1; omega)
          have a3 : c1 i = c i := gd1.2.2.2.1 i hi
          rw [a1, a2, a3]
          exact ⟨rfl, id⟩
        obtain ⟨h5, c', n', m, r, g', e5, q5', ea⟩ := K63 w0 hL (d + 3) fr _ _ g h4 ⟨s4, q1, tk, q3, by omega, by omega, y3⟩
        have e5 : cW (d + 5) 63 [rz_r (some 109)] h4 = some (rz_i 0, h5) := e5
        refine ⟨h5, Or.inr ⟨p3, c', n', m, r, g', ?_, ?_, q5', by omega⟩⟩
        · rw [o3]
          exact ea
        · simp only [bI_some, bV_some, bR_some, bL_some, ob_some, cd_t, cd_f, cd_d, okO_setI, okA_setI, okL_setI, aLen_setI, hR_setI, hI_setI, Bool.true_and, Bool.and_true, Bool.and_self, Option.isNone_some, Option.isSome_some, Option.isNone_none, Option.isSome_none, okO_chI, okA_chI, okL_chI, aLen_chI, hR_chI, ↓reduceIte, not_true_eq_false, not_false_eq_true, eq_self, c10, WMd w2, WMd w3, WMd w4, o4, X66_45, e4, X66_49, e5, X66_51]
    · rw [if_neg cm, if_neg cm]
      have k51 := fun d => K51 w1 1 p1 d
      rw [show nI 1 = (1 : Int32) from rfl] at k51
      refine ⟨_, Or.inl ⟨_, rfl, ?_, s1.wr 1 p1⟩⟩
      rw [X66_25]
      simp only [bI_some, bV_some, bR_some, bL_some, ob_some, cd_t, cd_f, cd_d, okO_setI, okA_setI, okL_setI, aLen_setI, hR_setI, hI_setI, Bool.true_and, Bool.and_true, Bool.and_self, Option.isNone_some, Option.isSome_some, Option.isNone_none, Option.isSome_none, okO_chI, okA_chI, okL_chI, aLen_chI, hR_chI, ↓reduceIte, not_true_eq_false, not_false_eq_true, eq_self, c10, WMd w1, X66_28, s1.2.1.2.2.2.1, k51]
      rfl
