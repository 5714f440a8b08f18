/-! the law's text: the model reads a sum -/
def TpO (X : List Nat) : Prop := X = [] ∨ ∃ v r, X = v :: r ∧ 7 ≤ v / 1048576
theorem K59e {rb dr : Nat} {jd : Option Nat} {h0 : rz_H} (w0 : Wf rb dr jd h0) {h : rz_H} {N : Nat} {t : Nat → Nat} {L ms p : Nat} {c : CC} {n : Nat} {X : List Nat} {op : Nat} (hX : TpO X) (hl : X.length < 250) (s : MS h0 h N t L ms p c n X op) (x : Int32) (d : Nat) : rW (d + 1) 59 (0, (0, 0), [some (rz_r (some 109)), some (rz_i x)], [], h) = some (rz_i 0, h) := by
  have w : Wf rb dr jd h := w0.e s.1.1
  rcases hX with rfl | ⟨v, r, rfl, hv⟩
  · exact K59n w s.2.2.2.2.1 x d
  · rw [List.length_cons] at hl
    exact K59t w (r := r) (v := v) (by omega) (s.2.2.2.2.1.trans (by rw [List.length_cons])) s.2.2.2.2.2.1 hv x d
theorem K59p {rb dr : Nat} {jd : Option Nat} {h0 : rz_H} (w0 : Wf rb dr jd h0) {h : rz_H} {N : Nat} {t : Nat → Nat} {L ms p : Nat} {c : CC} {n : Nat} {X : List Nat} {op : Nat} {so po : Option Nat} (f : FOk (so, po)) (hX : TpO X) (hl : X.length ≤ 240) (s : MS h0 h N t L ms p c n (fWM (so, po) ++ X) op) (hn : ms + n < 260) (d : Nat) : ∃ h', cW (d + 2) 59 [rz_r (some 109), rz_i 0] h = some (rz_i 0, h') ∧ MS h0 h' N t L ms p (pcO po c n) (pnO po n) (fWM (so, none) ++ X) op := by
  have last : ∀ h c n, MS h0 h N t L ms p c n (fWM (so, none) ++ X) op → rW (d + 1) 59 (0, (0, 0), [some (rz_r (some 109)), some (rz_i 0)], [], h) = some (rz_i 0, h) := by
    intro h c n s
    cases so with
    | none => exact K59e w0 hX (by omega) s 0 d
    | some y =>
      have s : MS h0 h N t L ms p c n (1048576 * sgN y :: X) op := s
      exact K59z (w0.e s.1.1) (f.1 y rfl) (by omega) (s.2.2.2.2.1.trans (by rw [List.length_cons])) s.2.2.2.2.2.1 d
  rw [E59]
  cases po with
  | none => exact ⟨h, last h c n s, s⟩
  | some y =>
    have s : MS h0 h N t L ms p c n (1048576 * sgN y :: (fWM (so, none) ++ X)) op := s
    have hm := f.2 y rfl
    obtain ⟨h1, e1, s1⟩ := K59a w0 (Or.inr hm) s hn (by
      rw [List.length_append]
      have : (fWM (so, none)).length ≤ 1 := by
        cases so with
        | none => exact Nat.zero_le _
        | some y => exact Nat.le_refl _
      omega) 0 (Or.inl hm) d
    exact ⟨h1, e1.trans (last h1 _ _ s1), s1⟩
theorem K59s {rb dr : Nat} {jd : Option Nat} {h0 : rz_H} (w0 : Wf rb dr jd h0) {h : rz_H} {N : Nat} {t : Nat → Nat} {L ms p : Nat} {c : CC} {n : Nat} {X : List Nat} {op : Nat} {so po : Option Nat} (f : FOk (so, po)) (hX : TpO X) (hl : X.length ≤ 240) (s : MS h0 h N t L ms p c n (fWM (so, po) ++ X) op) (hn : ms + n + 1 < 260) (d : Nat) : ∃ h', cW (d + 2) 59 [rz_r (some 109), rz_i 1] h = some (rz_i 0, h') ∧ MS h0 h' N t L ms p (pcO so (pcO po c n) (pnO po n)) (pnO so (pnO po n)) X op := by
  have last : ∀ h c n, ms + n < 260 → MS h0 h N t L ms p c n (fWM (so, none) ++ X) op → ∃ h', rW (d + 1) 59 (0, (0, 0), [some (rz_r (some 109)), some (rz_i 1)], [], h) = some (rz_i 0, h') ∧ MS h0 h' N t L ms p (pcO so c n) (pnO so n) X op := by
    intro h c n hn s
    cases so with
    | none => exact ⟨h, K59e w0 hX (by omega) s 1 d, s⟩
    | some y =>
      have s : MS h0 h N t L ms p c n (1048576 * sgN y :: X) op := s
      obtain ⟨h1, e1, s1⟩ := K59a w0 (Or.inl (f.1 y rfl)) s hn (by omega) 1 (Or.inr rfl) d
      exact ⟨h1, e1.trans (K59e w0 hX (by omega) s1 1 d), s1⟩
  rw [E59]
  cases po with
  | none => exact last h c n (by omega) s
  | some y =>
    have s : MS h0 h N t L ms p c n (1048576 * sgN y :: (fWM (so, none) ++ X)) op := s
    have hm := f.2 y rfl
    obtain ⟨h1, e1, s1⟩ := K59a w0 (Or.inr hm) s (by omega) (by
      rw [List.length_append]
      have : (fWM (so, none)).length ≤ 1 := by
        cases so with
        | none => exact Nat.zero_le _
        | some y => exact Nat.le_refl _
      omega) 1 (Or.inl hm) d
    obtain ⟨h2, e2, s2⟩ := last h1 _ _ (by omega) s1
    exact ⟨h2, e1.trans e2, s2⟩
theorem WS.dr {h : rz_H} : ∀ A X, WS h (A ++ X) → WS h X
  | [], _, s => s
  | _ :: A, X, s => WS.dr A X s.2.2
theorem K61l {rb dr : Nat} {jd : Option Nat} {h : rz_H} (w : Wf rb dr jd h) {W0 : List Nat} (d : Nat) : ∀ k A B j1, A.length = k → WS h (A ++ (B ++ W0)) → hI h 109 11 = nI (A.length + (B.length + W0.length)) → A.length + (B.length + W0.length) < 250 → rW d 61 (2, (0, 0), [some (rz_r (some 109)), j1, some (rz_i (nI (B.length + W0.length)))], [], h) = some (rz_i (if A.any (fun v => v / 1048576 == 14) = true then 1 else 0), h)
  | 0, A, B, j1, hA, ws, e11, hl => by
    have : A = [] := List.eq_nil_of_length_eq_zero hA
    subst this
    have e11 : hI h 109 11 = nI (B.length + W0.length) := by rw [e11, List.length_nil, Nat.zero_add]
    rw [E61_2]
    simp (disch := omega) only [↓cd_d, ↓irem_eq_mod, ↓ob_setI, ↓ob_chI, ↓ob_some, bI_some, bV_some, bR_some, bL_some, ob_some, cd_t, cd_f, okO_setI, okA_setI, okL_setI, aLen_setI, hR_setI, hI_setI, Bool.true_and, Bool.and_true, Bool.and_self, Option.isNone_some, Option.isSome_some, Option.isNone_none, Option.isSome_none, okO_chI, okA_chI, okL_chI, aLen_chI, hR_chI, ↓reduceIte, not_true_eq_false, not_false_eq_true, eq_self, c10, Nat.zero_add, nI_add, litA, litB, litM, nI_mul, nI_leI, nI_ltI, nI_eq, litLe, litLe2, litLt, litLt2, litEq, litEq2, in_nI, lit_in, nI_clamp, lit_cl, if_pos, if_neg, WMd w, e11, Nat.le_refl, List.any_nil, Bool.false_eq_true]
  | k + 1, A, B, j1, hA, ws, e11, hl => by
    rcases List.eq_nil_or_concat A with z | ⟨A', v, z⟩
    · rw [z] at hA
      exact absurd hA (by simp)
    · rw [List.concat_eq_append] at z
      rw [z] at hA ws e11 hl ⊢
      rw [List.length_append, List.length_singleton] at hA e11 hl
      have ws' : WS h (A' ++ (v :: B ++ W0)) := by
        rw [List.append_assoc] at ws
        exact ws
      have wv : WS h (v :: (B ++ W0)) := WS.dr A' _ ws'
      have sv : hI h 115 (B.length + W0.length) = nI v := by
        have := wv.1
        rw [List.length_append] at this
        exact this
      have dv : nI v / (1048576 : Int32) = nI (v / 1048576) := nI_div (a := v) (b := 1048576) (by have := wv.2.1; omega) (by omega)
      have nl : ¬ A'.length + 1 + (B.length + W0.length) ≤ B.length + W0.length := by omega
      rw [E61_2]
      by_cases c1 : v / 1048576 = 14
      · simp (disch := omega) only [↓cd_d, ↓irem_eq_mod, ↓ob_setI, ↓ob_chI, ↓ob_some, bI_some, bV_some, bR_some, bL_some, ob_some, cd_t, cd_f, okO_setI, okA_setI, okL_setI, aLen_setI, hR_setI, hI_setI, Bool.true_and, Bool.and_true, Bool.and_self, Option.isNone_some, Option.isSome_some, Option.isNone_none, Option.isSome_none, okO_chI, okA_chI, okL_chI, aLen_chI, hR_chI, ↓reduceIte, not_true_eq_false, not_false_eq_true, eq_self, c10, Nat.zero_add, nI_add, litA, litB, litM, nI_mul, nI_leI, nI_ltI, nI_eq, litLe, litLe2, litLt, litLt2, litEq, litEq2, in_nI, lit_in, nI_clamp, lit_cl, if_pos, if_neg, ↓WMb w, WMd w, e11, nl, sv, dv, c1, List.any_append, List.any_cons, List.any_nil]
        simp
      · have ih := K61l w d k A' (v :: B) none (by omega) ws' (by rw [e11, List.length_cons]; congr 1; omega) (by rw [List.length_cons]; omega)
        rw [List.length_cons] at ih
        have c2 : (v / 1048576 == 14) = false := by simpa using c1
        have v16 : v / 1048576 < 16 := by have := wv.2.1; omega
        have c3 : ¬ nI (v / 1048576) = (14 : Int32) := fun y => c1 ((nI_eq (a := v / 1048576) (b := 14) (by omega) (by omega)).mp y)
        have ix : nI (B.length + W0.length) + 1 = nI (B.length + 1 + W0.length) := by
          rw [nI_1]
          congr 1
          omega
        simp (disch := omega) only [↓ix, ↓c3, ↓cd_d, ↓irem_eq_mod, ↓ob_setI, ↓ob_chI, ↓ob_some, bI_some, bV_some, bR_some, bL_some, ob_some, cd_t, cd_f, okO_setI, okA_setI, okL_setI, aLen_setI, hR_setI, hI_setI, Bool.true_and, Bool.and_true, Bool.and_self, Option.isNone_some, Option.isSome_some, Option.isNone_none, Option.isSome_none, okO_chI, okA_chI, okL_chI, aLen_chI, hR_chI, ↓reduceIte, not_true_eq_false, not_false_eq_true, eq_self, c10, Nat.zero_add, nI_add, litA, litB, litM, nI_mul, nI_leI, nI_ltI, nI_eq, litLe, litLe2, litLt, litLt2, litEq, litEq2, in_nI, lit_in, nI_clamp, lit_cl, if_pos, if_neg, ↓WMb w, WMd w, e11, nl, sv, dv, ih, List.any_append, List.any_cons, List.any_nil, c2, Bool.or_false]
theorem fr_any (m : FRM) (f : FOk m) : (fWM m).any (fun v => v / 1048576 == 14) = false := by
  have sg : ∀ s, ¬ sgN s = 14 := fun s => by
    have : sgN s ≤ 6 := by
      unfold sgN
      repeat' split
      all_goals omega
    omega
  rcases m with ⟨so, po⟩
  cases so <;> cases po <;> simp [fWM, oWM, sg]
theorem K61 {rb dr : Nat} {jd : Option Nat} {h0 : rz_H} (w0 : Wf rb dr jd h0) {h : rz_H} {N : Nat} {t : Nat → Nat} {L ms p : Nat} {c : CC} {n : Nat} {W0 : List Nat} {op : Nat} {fr : List FRM} {m : FRM} (f : FOk m) (s : MS h0 h N t L ms p c n (fWM m ++ (fSM fr ++ W0)) op) (hl : (fWM m).length + (fSM fr).length + W0.length < 250) (d : Nat) : cW (d + 1) 61 [rz_r (some 109), rz_i (nI W0.length)] h = some (rz_i (if fr = [] then 0 else 1), h) := by
  have w : Wf rb dr jd h := w0.e s.1.1
  have e11 := s.2.2.2.2.1
  have ws := s.2.2.2.2.2.1
  rw [List.length_append, List.length_append] at e11
  have e := K61l w (W0 := W0) d _ (fWM m ++ fSM fr) [] (some (rz_i (nI W0.length))) rfl (by rw [List.append_assoc]; exact ws) (by rw [e11, List.length_append, List.length_nil]; congr 1; omega) (by rw [List.length_append, List.length_nil]; omega)
  rw [List.length_nil, Nat.zero_add] at e
  rw [E61, e]
  congr 3
  cases fr with
  | nil =>
    have : (fWM m ++ fSM []).any (fun v => v / 1048576 == 14) = false := by
      rw [show fSM [] = [] from rfl, List.append_nil]
      exact fr_any m f
    rw [this]
    rfl
  | cons m' r =>
    have : (fWM m ++ fSM (m' :: r)).any (fun v => v / 1048576 == 14) = true := by
      rw [List.any_append, show fSM (m' :: r) = 1048576 * 14 :: (fWM m' ++ fSM r) from rfl, List.any_cons]
      simp
    rw [this]
    rfl
/-- a sign waits -/
theorem MS.pu {h0 h : rz_H} {N : Nat} {t : Nat → Nat} {L ms p : Nat} {c : CC} {n : Nat} {W : List Nat} {op : Nat} (s : MS h0 h N t L ms p c n W op) (hp : p < 900) {v : Nat} (hv : v < 16777216) : MS h0 (setI (setI (setI h 115 W.length (nI v)) 109 11 (nI (W.length + 1))) 109 5 (nI (p + 1))) N t L ms (p + 1) c n (v :: W) op := by
  obtain ⟨f, m, e10, cd, e11, ws, e9⟩ := s
  have oo : ∀ b i, ¬ (b = 115 ∧ i = W.length) → ¬ (b = 109 ∧ (i = 5 ∨ i = 11)) → hI (setI (setI (setI h 115 W.length (nI v)) 109 11 (nI (W.length + 1))) 109 5 (nI (p + 1))) b i = hI h b i := fun b i n1 n2 => by
    rw [hI_setI, if_neg (by omega), hI_setI, if_neg (by omega), hI_setI, if_neg n1]
  refine ⟨⟨f.1, fun b i n1 n2 n3 => (oo b i (by omega) (by omega)).trans (f.2 b i n1 n2 n3)⟩, m.fm (fun b i hb => oo b i (by omega) (by omega)) (by rw [hI_setI, if_pos ⟨rfl, rfl⟩]) (by omega), (oo 109 10 (by omega) (by omega)).trans e10, fun i hi => (oo 114 _ (by omega) (by omega)).trans (cd i hi), by rw [hI_setI, if_neg (by omega), hI_setI, if_pos ⟨rfl, rfl⟩]; rfl, ⟨by rw [hI_setI, if_neg (by omega), hI_setI, if_neg (by omega), hI_setI, if_pos ⟨rfl, rfl⟩], hv, ws.to W (fun i hi => oo 115 i (by omega) (by omega))⟩, (oo 109 9 (by omega) (by omega)).trans e9⟩
/-- a bracket is closed -/
theorem MS.cl {h0 h : rz_H} {N : Nat} {t : Nat → Nat} {L ms p : Nat} {c : CC} {n v : Nat} {W : List Nat} {op : Nat} (s : MS h0 h N t L ms p c n (v :: W) (op + 1)) (hp : p < 900) : MS h0 (setI (setI (setI h 109 11 (nI W.length)) 109 9 (nI op)) 109 5 (nI (p + 1))) N t L ms (p + 1) c n W op := by
  obtain ⟨f, m, e10, cd, e11, ws, e9⟩ := s
  have oo : ∀ b i, ¬ (b = 109 ∧ (i = 5 ∨ i = 9 ∨ i = 11)) → hI (setI (setI (setI h 109 11 (nI W.length)) 109 9 (nI op)) 109 5 (nI (p + 1))) b i = hI h b i := fun b i n2 => by
    rw [hI_setI, if_neg (by omega), hI_setI, if_neg (by omega), hI_setI, if_neg (by omega)]
  refine ⟨⟨f.1, fun b i n1 n2 n3 => (oo b i (by omega)).trans (f.2 b i n1 n2 n3)⟩, m.fm (fun b i hb => oo b i (by omega)) (by rw [hI_setI, if_pos ⟨rfl, rfl⟩]) (by omega), (oo 109 10 (by omega)).trans e10, fun i hi => (oo 114 _ (by omega)).trans (cd i hi), by rw [hI_setI, if_neg (by omega), hI_setI, if_neg (by omega), hI_setI, if_pos ⟨rfl, rfl⟩], ws.2.2.to W (fun i hi => oo 115 i (by omega)), by rw [hI_setI, if_neg (by omega), hI_setI, if_pos ⟨rfl, rfl⟩]⟩
