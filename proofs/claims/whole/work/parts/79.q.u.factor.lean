/-! the law's text: the model reads a factor -/
def oWM (o : Option Nat) : List Nat := match o with
  | none => []
  | some s => [1048576 * sgN s]
def fWM (m : FRM) : List Nat := oWM m.2 ++ oWM m.1
def fSM : List FRM → List Nat
  | [] => []
  | m :: r => 1048576 * 14 :: (fWM m ++ fSM r)
def FOk (m : FRM) : Prop := (∀ s, m.1 = some s → addT s = true) ∧ (∀ s, m.2 = some s → mulT s = true)
theorem MS.fm {h0 h : rz_H} {N : Nat} {t : Nat → Nat} {L ms p : Nat} {c : CC} {n : Nat} {W : List Nat} {op : Nat} (s : MS h0 h N t L ms p c n W op) {h' : rz_H} (f : Fm h h') {q : Nat} (m : MT h' N t L q) : MS h0 h' N t L ms q c n W op := by
  obtain ⟨f0, m0, e10, cd, e11, ws, e9⟩ := s
  exact ⟨⟨f.1.trans f0.1, fun b i n1 n2 n3 => (f.2 b i (by omega)).trans (f0.2 b i n1 n2 n3)⟩, m, (f.2 109 10 (by omega)).trans e10, fun i hi => (f.2 114 _ (by omega)).trans (cd i hi), (f.2 109 11 (by omega)).trans e11, ws.to W (fun i _ => f.2 115 i (by omega)), (f.2 109 9 (by omega)).trans e9⟩
theorem MS.er {h0 h : rz_H} {N : Nat} {t : Nat → Nat} {L ms p : Nat} {c : CC} {n : Nat} {W : List Nat} {op : Nat} (s : MS h0 h N t L ms p c n W op) {h' : rz_H} (f : Fm h h') {e : Nat × Nat} (m : hI h' 109 7 = erI e.1 e.2) : ME ms h0 h' e := ⟨⟨f.1.trans s.1.1, fun b i n1 n2 n3 => (f.2 b i (by omega)).trans (s.1.2 b i n1 n2 n3)⟩, m⟩
theorem MS.wr {h0 h : rz_H} {N : Nat} {t : Nat → Nat} {L ms p : Nat} {c : CC} {n : Nat} {W : List Nat} {op : Nat} (s : MS h0 h N t L ms p c n W op) (f q : Nat) : ME ms h0 (setI h 109 7 (erI f q)) (f, q) := s.er (Fm.one (by omega) _) (by rw [hI_setI, if_pos ⟨rfl, rfl⟩])
theorem MS.go {h0 h : rz_H} {N : Nat} {t : Nat → Nat} {L ms p : Nat} {c : CC} {n : Nat} {W : List Nat} {op : Nat} (s : MS h0 h N t L ms p c n W op) (hp : p < 900) : MS h0 (setI h 109 5 (nI (p + 1))) N t L ms (p + 1) c n W op := s.fm (Fm.one (by omega) _) (s.2.1.fm (fun b i hb => by rw [hI_setI, if_neg (by omega)]) (by rw [hI_setI, if_pos ⟨rfl, rfl⟩]) (by omega))
theorem lkN_lt (s : Nat) : lkN s < 9 := by
  unfold lkN
  repeat' split
  all_goals omega
theorem nm9 : ∀ k, k < 9 → ¬ nI k = -1 := by decide
theorem K60x {rb dr : Nat} {jd : Option Nat} {h0 : rz_H} (w0 : Wf rb dr jd h0) {h : rz_H} {N : Nat} {t : Nat → Nat} {L ms p : Nat} {c : CC} {n : Nat} {W : List Nat} {op : Nat} (s : MS h0 h N t L ms p c n W op) (hb : ∀ i, i < L → t i < 256) (hL : L ≤ 240) (hp : p ≤ L) (hn : ms + n < 260) (g : Nat) (nb : ¬ (p < L ∧ t p = 91)) (d : Nat) : ∃ h', (∃ e, fcG t L g p c n = Sum.inl e ∧ rW (d + 3) 60 (10, (0, 0), [some (rz_r (some 109)), none], [], h) = some (rz_i 0, h') ∧ ME ms h0 h' e) ∨ (∃ p' c', fcG t L g p c n = Sum.inr (p', c', n + 1) ∧ rW (d + 3) 60 (10, (0, 0), [some (rz_r (some 109)), none], [], h) = some (rz_i 1, h') ∧ MS h0 h' N t L ms p' c' (n + 1) W op ∧ p < p' ∧ p' ≤ L) := by
  have w : Wf rb dr jd h := w0.e s.1.1
  have lim : ∀ q, fcG t L g p c n = Sum.inr q → p < q.1 ∧ q.1 ≤ L := fun q hq => by
    have z := (fcG_sp t L g).at hp hq
    have z2 := z.2.1
    have z3 := z.2.2.1
    exact ⟨by omega, z.1⟩
  obtain ⟨o, inn, ef⟩ := fcG_x t L g
  rw [ef] at lim ⊢
  unfold fctT at lim ⊢
  rw [if_neg nb] at lim ⊢
  by_cases c2 : dgT t L p = true
  · rw [if_pos c2] at lim ⊢
    obtain ⟨h1, f1, z⟩ := K53 w s.2.1 hp (by omega) c2 d
    rcases z with ⟨e, e1, e2, e3⟩ | ⟨z, e1, e2, m1, e8⟩
    · rw [e1]
      refine ⟨h1, Or.inl ⟨e, rfl, ?_, s.er f1 e3⟩⟩
      rw [X60_10]
      simp only [bI_some, bV_some, bR_some, bL_some, ob_some, cd_t, cd_f, cd_d, okO_setI, okA_setI, okL_setI, aLen_setI, hR_setI, hI_setI, Bool.true_and, Bool.and_true, Bool.and_self, Option.isNone_some, Option.isSome_some, Option.isNone_none, Option.isSome_none, okO_chI, okA_chI, okL_chI, aLen_chI, hR_chI, ↓reduceIte, not_true_eq_false, not_false_eq_true, eq_self, c10, WMd w, K50 w s.2.1, bD_t c2, X60_13, e2, X60_16]
    · rw [e1] at lim ⊢
      have s1 := s.fm f1 m1
      have w1 : Wf rb dr jd h1 := w0.e s1.1.1
      obtain ⟨h2, e54, s2⟩ := s1.nt w0 hn (1, z.2) (k := 0) (v := z.2) (by rw [show encM ms (1, z.2) = z.2 from rfl]; omega) (d + 2)
      have e54 : cW (d + 3) 54 [rz_r (some 109), rz_i 0, rz_i (nI z.2)] h1 = some (rz_i 0, h2) := e54
      refine ⟨h2, Or.inr ⟨z.1, _, rfl, ?_, s2, lim _ rfl⟩⟩
      rw [X60_10]
      simp only [bI_some, bV_some, bR_some, bL_some, ob_some, cd_t, cd_f, cd_d, okO_setI, okA_setI, okL_setI, aLen_setI, hR_setI, hI_setI, Bool.true_and, Bool.and_true, Bool.and_self, Option.isNone_some, Option.isSome_some, Option.isNone_none, Option.isSome_none, okO_chI, okA_chI, okL_chI, aLen_chI, hR_chI, ↓reduceIte, not_true_eq_false, not_false_eq_true, eq_self, c10, WMd w, WMd w1, K50 w s.2.1, bD_t c2, X60_13, e2, X60_18, e8, e54, X60_23]
  · rw [if_neg c2] at lim ⊢
    by_cases c3 : p < L ∧ lkT (t p) = true
    · rw [if_pos c3] at lim ⊢
      obtain ⟨h1, e54, s1⟩ := s.nt w0 hn (2, t p) (k := 1) (v := lkN (t p)) (by rw [show encM ms (2, t p) = 1048576 + lkN (t p) from rfl]) (d + 2)
      have e54 : cW (d + 3) 54 [rz_r (some 109), rz_i 1, rz_i (nI (lkN (t p)))] h = some (rz_i 0, h1) := e54
      have w1 : Wf rb dr jd h1 := w0.e s1.1.1
      refine ⟨setI h1 109 5 (nI (p + 1)), Or.inr ⟨p + 1, _, rfl, ?_, s1.go (by omega), lim _ rfl⟩⟩
      rw [X60_10]
      simp only [bI_some, bV_some, bR_some, bL_some, ob_some, cd_t, cd_f, cd_d, okO_setI, okA_setI, okL_setI, aLen_setI, hR_setI, hI_setI, Bool.true_and, Bool.and_true, Bool.and_self, Option.isNone_some, Option.isSome_some, Option.isNone_none, Option.isSome_none, okO_chI, okA_chI, okL_chI, aLen_chI, hR_chI, ↓reduceIte, not_true_eq_false, not_false_eq_true, eq_self, c10, WMd w, WMd w1, K50 w s.2.1, bD_f c2, X60_25, K49 w s.2.1, K57 (hb p), if_pos c3, X60_29, nm9 _ (lkN_lt (t p)), X60_38, e54, X60_42, s1.2.1.2.2.2.1, nI_1, X60_48]
    · rw [if_neg c3]
      have k51 := fun d => K51 w 1 p d
      rw [show nI 1 = (1 : Int32) from rfl] at k51
      refine ⟨_, Or.inl ⟨_, rfl, ?_, s.wr 1 p⟩⟩
      rw [X60_10]
      simp only [bI_some, bV_some, bR_some, bL_some, ob_some, cd_t, cd_f, cd_d, okO_setI, okA_setI, okL_setI, aLen_setI, hR_setI, hI_setI, Bool.true_and, Bool.and_true, Bool.and_self, Option.isNone_some, Option.isSome_some, Option.isNone_none, Option.isSome_none, okO_chI, okA_chI, okL_chI, aLen_chI, hR_chI, ↓reduceIte, not_true_eq_false, not_false_eq_true, eq_self, c10, WMd w, K50 w s.2.1, bD_f c2, X60_25, K49 w s.2.1, K57 (hb p), if_neg c3, X60_29, X60_32, s.2.1.2.2.2.1, k51]
      rfl
/-- what is to come when a factor is to be read: place, code, what waits -/
def QSm (h0 h : rz_H) (N : Nat) (t : Nat → Nat) (L ms : Nat) (W0 : List Nat) (K o0 p : Nat) (c : CC) (n : Nat) (fr : List FRM) (m : FRM) (g : Nat) : Prop := MS h0 h N t L ms p c n (fWM m ++ (fSM fr ++ W0)) (o0 + fr.length) ∧ o0 + fr.length + g = 6 ∧ FOk m ∧ (∀ x, x ∈ fr → FOk x) ∧ ms + n + (fWM m).length + (fSM fr).length + K ≤ p ∧ (fWM m).length + (fSM fr).length + W0.length ≤ p ∧ p ≤ L
theorem K60b {t : Nat → Nat} {L p : Nat} (hb : ∀ i, i < L → t i < 256) {α : Type} (A B : α) : (if ¬ pkI t L p = (91 : Int32) then A else B) = if p < L ∧ t p = 91 then B else A := by
  have e := pkk_eq (t := t) (L := L) (p := p) (m := 91) (hb p) (by omega)
  by_cases z : p < L ∧ t p = 91
  · rw [if_pos z, if_neg (show ¬ ¬ pkI t L p = (91 : Int32) from fun y => y (e.mpr z))]
  · rw [if_neg z, if_pos (show ¬ pkI t L p = (91 : Int32) from fun y => z (e.mp y))]
theorem K60l {rb dr : Nat} {jd : Option Nat} {h0 : rz_H} (w0 : Wf rb dr jd h0) {N : Nat} {t : Nat → Nat} {L ms : Nat} {W0 : List Nat} {K o0 : Nat} (hb : ∀ i, i < L → t i < 256) (hL : L ≤ 240) (d : Nat) : ∀ g p c n fr m h, QSm h0 h N t L ms W0 K o0 p c n fr m g → ∃ h', (∃ e, cbd (fcG t L g p c n) (aF t L fr g m) = Sum.inl e ∧ (if p < L ∧ t p = 91 then rW (d + 3) 60 (4, (0, 0), [some (rz_r (some 109)), none], [], h) else rW (d + 3) 60 (10, (0, 0), [some (rz_r (some 109)), none], [], h)) = some (rz_i 0, h') ∧ ME ms h0 h' e) ∨ (∃ p' c' n' fr' m' g', cbd (fcG t L g p c n) (aF t L fr g m) = aF t L fr' g' m' p' c' n' ∧ (if p < L ∧ t p = 91 then rW (d + 3) 60 (4, (0, 0), [some (rz_r (some 109)), none], [], h) else rW (d + 3) 60 (10, (0, 0), [some (rz_r (some 109)), none], [], h)) = some (rz_i 1, h') ∧ QSm h0 h' N t L ms W0 K o0 p' c' n' fr' m' g' ∧ p < p') := by
  have nb : ∀ g p c n fr m h, QSm h0 h N t L ms W0 K o0 p c n fr m g → ¬ (p < L ∧ t p = 91) → ∃ h', (∃ e, cbd (fcG t L g p c n) (aF t L fr g m) = Sum.inl e ∧ (if p < L ∧ t p = 91 then rW (d + 3) 60 (4, (0, 0), [some (rz_r (some 109)), none], [], h) else rW (d + 3) 60 (10, (0, 0), [some (rz_r (some 109)), none], [], h)) = some (rz_i 0, h') ∧ ME ms h0 h' e) ∨ (∃ p' c' n' fr' m' g', cbd (fcG t L g p c n) (aF t L fr g m) = aF t L fr' g' m' p' c' n' ∧ (if p < L ∧ t p = 91 then rW (d + 3) 60 (4, (0, 0), [some (rz_r (some 109)), none], [], h) else rW (d + 3) 60 (10, (0, 0), [some (rz_r (some 109)), none], [], h)) = some (rz_i 1, h') ∧ QSm h0 h' N t L ms W0 K o0 p' c' n' fr' m' g' ∧ p < p') := by
    intro g p c n fr m h q z
    obtain ⟨s, q1, q2, q3, q4, q5, q6⟩ := q
    rw [if_neg z]
    obtain ⟨h', o⟩ := K60x w0 s hb hL q6 (by omega) g z d
    rcases o with ⟨e, e1, e2, e3⟩ | ⟨p', c', e1, e2, e3, e4, e5⟩
    · exact ⟨h', Or.inl ⟨e, by rw [e1]; rfl, e2, e3⟩⟩
    · exact ⟨h', Or.inr ⟨p', c', n + 1, fr, m, g, by rw [e1]; rfl, e2, ⟨e3, q1, q2, q3, by omega, by omega, e5⟩, e4⟩⟩
  intro g
  induction g with
  | zero =>
    intro p c n fr m h q
    by_cases z : p < L ∧ t p = 91
    · obtain ⟨s, q1, q2, q3, q4, q5, q6⟩ := q
      rw [show o0 + fr.length = 6 by omega] at s
      have w : Wf rb dr jd h := w0.e s.1.1
      obtain ⟨h1, e1, m1⟩ := s.on w0 14 (d + 1)
      have e1 : cW (d + 3) 55 [rz_r (some 109), rz_i 14] h = some (rz_i 0, h1) := e1
      refine ⟨h1, Or.inl ⟨(5, p), ?_, ?_, m1⟩⟩
      · show cbd (fctT t L false _ p c n) _ = _
        unfold fctT
        rw [if_pos z, if_neg (by decide)]
        rfl
      · rw [if_pos z, X60_4]
        simp only [bI_some, bV_some, bR_some, bL_some, ob_some, cd_t, cd_f, cd_d, okO_setI, okA_setI, okL_setI, aLen_setI, hR_setI, hI_setI, Bool.true_and, Bool.and_true, Bool.and_self, Option.isNone_some, Option.isSome_some, Option.isNone_none, Option.isSome_none, okO_chI, okA_chI, okL_chI, aLen_chI, hR_chI, ↓reduceIte, not_true_eq_false, not_false_eq_true, eq_self, c10, WMd w, e1, X60_8]
    · exact nb 0 p c n fr m h q z
  | succ g ih =>
    intro p c n fr m h q
    by_cases z : p < L ∧ t p = 91
    · obtain ⟨s, q1, q2, q3, q4, q5, q6⟩ := q
      have w : Wf rb dr jd h := w0.e s.1.1
      obtain ⟨h1, e1, s1⟩ := s.op w0 (by omega) (by rw [List.length_append, List.length_append]; omega) (by omega) (k := 14) (by omega) (d + 2)
      have e1 : cW (d + 3) 55 [rz_r (some 109), rz_i 14] h = some (rz_i 1, h1) := e1
      have w1 : Wf rb dr jd h1 := w0.e s1.1.1
      have q' : QSm h0 h1 N t L ms W0 K o0 (p + 1) c n (m :: fr) (none, none) g := by
        have el : fWM (none, none) ++ (fSM (m :: fr) ++ W0) = 1048576 * 14 :: (fWM m ++ (fSM fr ++ W0)) := by
          show 1048576 * 14 :: ((fWM m ++ fSM fr) ++ W0) = _
          rw [List.append_assoc]
        have ln : (fSM (m :: fr)).length = (fWM m).length + (fSM fr).length + 1 := by
          show (1048576 * 14 :: (fWM m ++ fSM fr)).length = _
          rw [List.length_cons, List.length_append]
        have l0 : (fWM (none, none)).length = 0 := rfl
        refine ⟨?_, ?_, ⟨fun s y => absurd y (by simp), fun s y => absurd y (by simp)⟩, ?_, ?_, ?_, by omega⟩
        · rw [el, List.length_cons]
          exact s1
        · rw [List.length_cons]
          omega
        · intro x hx
          rcases List.mem_cons.mp hx with rfl | hx
          · exact q2
          · exact q3 x hx
        · rw [l0, ln]
          omega
        · rw [l0, ln]
          omega
      have st : (if p < L ∧ t p = 91 then rW (d + 3) 60 (4, (0, 0), [some (rz_r (some 109)), none], [], h) else rW (d + 3) 60 (10, (0, 0), [some (rz_r (some 109)), none], [], h)) = (if p + 1 < L ∧ t (p + 1) = 91 then rW (d + 3) 60 (4, (0, 0), [some (rz_r (some 109)), none], [], h1) else rW (d + 3) 60 (10, (0, 0), [some (rz_r (some 109)), none], [], h1)) := by
        rw [if_pos z, X60_4]
        simp only [bI_some, bV_some, bR_some, bL_some, ob_some, cd_t, cd_f, cd_d, okO_setI, okA_setI, okL_setI, aLen_setI, hR_setI, hI_setI, Bool.true_and, Bool.and_true, Bool.and_self, Option.isNone_some, Option.isSome_some, Option.isNone_none, Option.isSome_none, okO_chI, okA_chI, okL_chI, aLen_chI, hR_chI, ↓reduceIte, not_true_eq_false, not_false_eq_true, c10, WMd w, WMd w1, e1, K49 w1 s1.2.1]
        exact K60b hb _ _
      obtain ⟨h', o⟩ := ih (p + 1) c n (m :: fr) (none, none) h1 q'
      rw [fcG_o fr m g p c n z, st]
      rcases o with ⟨e, o1, o2, o3⟩ | ⟨p', c', n', fr', m', g', o1, o2, o3, o4⟩
      · exact ⟨h', Or.inl ⟨e, o1, o2, o3⟩⟩
      · exact ⟨h', Or.inr ⟨p', c', n', fr', m', g', o1, o2, o3, by omega⟩⟩
    · exact nb (g + 1) p c n fr m h q z
theorem K60 {rb dr : Nat} {jd : Option Nat} {h0 : rz_H} (w0 : Wf rb dr jd h0) {N : Nat} {t : Nat → Nat} {L ms : Nat} {W0 : List Nat} {K o0 : Nat} (hb : ∀ i, i < L → t i < 256) (hL : L ≤ 240) (d : Nat) {g p : Nat} {c : CC} {n : Nat} {fr : List FRM} {m : FRM} {h : rz_H} (q : QSm h0 h N t L ms W0 K o0 p c n fr m g) : ∃ h', (∃ e, cbd (fcG t L g p c n) (aF t L fr g m) = Sum.inl e ∧ cW (d + 4) 60 [rz_r (some 109)] h = some (rz_i 0, h') ∧ ME ms h0 h' e) ∨ (∃ p' c' n' fr' m' g', cbd (fcG t L g p c n) (aF t L fr g m) = aF t L fr' g' m' p' c' n' ∧ cW (d + 4) 60 [rz_r (some 109)] h = some (rz_i 1, h') ∧ QSm h0 h' N t L ms W0 K o0 p' c' n' fr' m' g' ∧ p < p') := by
  have w : Wf rb dr jd h := w0.e q.1.1.1
  have st : cW (d + 4) 60 [rz_r (some 109)] h = (if p < L ∧ t p = 91 then rW (d + 3) 60 (4, (0, 0), [some (rz_r (some 109)), none], [], h) else rW (d + 3) 60 (10, (0, 0), [some (rz_r (some 109)), none], [], h)) := by
    rw [X60]
    simp only [bI_some, bV_some, bR_some, bL_some, ob_some, cd_t, cd_f, cd_d, okO_setI, okA_setI, okL_setI, aLen_setI, hR_setI, hI_setI, Bool.true_and, Bool.and_true, Bool.and_self, Option.isNone_some, Option.isSome_some, Option.isNone_none, Option.isSome_none, okO_chI, okA_chI, okL_chI, aLen_chI, hR_chI, ↓reduceIte, WMd w, K49 w q.1.2.1]
    exact K60b hb _ _
  rw [st]
  exact K60l w0 hb hL d g p c n fr m h q
