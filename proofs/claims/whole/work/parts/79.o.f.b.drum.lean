/-! a drum is told: the pair -/
def rLe (r : RR) : Prop := match r with
  | .inl _ => True
  | .inr q => ∀ i, i < q.2.2 → q.2.1 i ≤ 16
theorem fil_le (span : Nat) (h0 : 0 < span) : ∀ c i row, span ≤ i → (∀ j, j < i → row j ≤ 16) → ∀ j, j < i + c → itr (fil span) i c row j ≤ 16
  | 0, i, row, _, h, j, hj => h j hj
  | c + 1, i, row, hi, h, j, hj => by
    refine fil_le span h0 c (i + 1) (fil span i row) (by omega) (fun j hj => ?_) j (by omega)
    unfold fil
    split
    · exact h _ (by omega)
    · exact h _ (by omega)
theorem repT_le {p start span times first : Nat} {row : Nat → Nat} (h0 : 0 < span) (h4 : 0 < times) (h : ∀ j, j < start + span → row j ≤ 16) : rLe (repT p row start span times first) := by
  unfold repT
  split
  · trivial
  · have : span ≤ span * times := Nat.le_mul_of_pos_right _ h4
    exact fun i hi => fil_le span h0 (span * times - span) (start + span) row (by omega) h i (by have hi : i < start + span * times := hi; omega)
theorem frT_le {t : Nat → Nat} {L p first times size : Nat} {row : Nat → Nat} (h4 : 0 < times) (h : ∀ j, j < size → row j ≤ 16) : rLe (frT t L p first times row size) := by
  unfold frT
  split
  · trivial
  · rename_i c hc
    have := (pcT_le hc).1
    refine repT_le (by omega) h4 fun j hj => ?_
    unfold udn
    split
    · exact this
    · exact h j (by omega)
theorem rlp_le {L : Nat} {it : Nat → (Nat → Nat) → Nat → RR} (hok : ∀ p row size, p ≤ L → size ≤ 16 → rOk L p size (it p row size)) (hit : ∀ p row size, p ≤ L → size ≤ 16 → (∀ j, j < size → row j ≤ 16) → rLe (it p row size)) (cl : Nat → Bool) : ∀ f p row size, p ≤ L → size ≤ 16 → (∀ j, j < size → row j ≤ 16) → rLe (rlp it cl f p row size)
  | 0, p, row, size, _, _, h => h
  | f + 1, p, row, size, h1, h2, h => by
    unfold rlp
    split
    · exact h
    · have o := hok p row size h1 h2
      have q := hit p row size h1 h2 h
      generalize it p row size = z at o q ⊢
      rcases z with e | ⟨p', row', size'⟩
      · trivial
      · obtain ⟨o1, o2, o3, o4⟩ := o
        exact rlp_le hok hit cl f p' row' size' o2 o4 q
theorem itm_le (t : Nat → Nat) (L : Nat) : ∀ k p row size, p ≤ L → size ≤ 16 → (∀ j, j < size → row j ≤ 16) → rLe (itm t L k p row size)
  | 0, p, row, size, h1, h2, h => by
    obtain ⟨a1, a2, a3, a4⟩ := tmT_ok (t := t) h1
    unfold itm
    split
    · trivial
    · exact frT_le a1 h
  | k + 1, p, row, size, h1, h2, h => by
    obtain ⟨a1, a2, a3, a4⟩ := tmT_ok (t := t) h1
    unfold itm
    split
    · rename_i c
      have o := itm_ok t L k ((tmT t L p).2 + 1) row size c.1 h2
      have q := itm_le t L k ((tmT t L p).2 + 1) row size c.1 h2 h
      generalize itm t L k ((tmT t L p).2 + 1) row size = z at o q ⊢
      rcases z with e | ⟨p', row', size'⟩
      · trivial
      · obtain ⟨o1, o2, o3, o4⟩ := o
        have o3 : size < size' := o3
        have o5 := rlp_ok (itm_ok t L k) (clT t L true) 60 p' row' size' o2 o4
        have q5 := rlp_le (itm_ok t L k) (itm_le t L k) (clT t L true) 60 p' row' size' o2 o4 q
        show rLe (rbd (rlp (itm t L k) (clT t L true) 60 p' row' size') _)
        generalize rlp (itm t L k) (clT t L true) 60 p' row' size' = z at o5 q5 ⊢
        rcases z with e | ⟨p2, row2, size2⟩
        · trivial
        · obtain ⟨-, -, r3, r4⟩ := o5
          have r3 : size' ≤ size2 := r3
          show rLe (if p2 < L ∧ t p2 = 41 then repT (p2 + 1) row2 size (size2 - size) (tmT t L p).1 p else Sum.inl (1, p2))
          split
          · exact repT_le (by omega) a1 fun j hj => q5 j (by show j < size2; omega)
          · trivial
    · exact frT_le a1 h
theorem drT_le (t : Nat → Nat) (L : Nat) (row : Nat → Nat) : rLe (drT t L row) := by
  have o := itm_ok t L 2 0 row 0 (by omega) (by omega)
  have q := itm_le t L 2 0 row 0 (by omega) (by omega) (fun j hj => absurd hj (by omega))
  unfold drT
  generalize itm t L 2 0 row 0 = z at o q ⊢
  rcases z with e | ⟨p', row', size'⟩
  · trivial
  · obtain ⟨o1, o2, o3, o4⟩ := o
    exact rlp_le (itm_ok t L 2) (itm_le t L 2) (clT t L false) 60 p' row' size' o2 o4 q
theorem er_ck : ∀ f, f < 10 → 0 < f → ∀ p, p < 300 → erI f p ≤ 0 := by decide +kernel
/-! the model's whole text -/
theorem K78 {rb dr : Nat} {jd : Option Nat} {h0 h : rz_H} (w0 : Wf rb dr jd h0) {N : Nat} {t : Nat → Nat} (T : Tm h0 N t) {L : Nat} (hL : L ≤ N) (h60 : L ≤ 60) {p size : Nat} {row : Nat → Nat} {stk : List (Nat × Nat × Nat)} (s : DM h0 L h p row size stk) (hp : p ≤ L) (hs : size ≤ 16) (hB : stB L stk size) (hl : stk.length ≤ 2) (d : Nat) : ∃ b h', cW (d + 3) 78 [rz_r (some 109)] h = some (rz_i b, h') ∧ Oc h0 t L h' b p (ahd t L stk p row size) := by
  have w : Wf rb dr jd h := w0.e s.1
  obtain ⟨h1, e1, s1, f1, f2⟩ := K75 w0 T hL s (by omega) d
  obtain ⟨b, h', e, O⟩ := K78b w0 T hL h60 p d (2 - stk.length) stk h1 p row size (by omega) s1 f1 f2 hp hs hB (Nat.le_refl _)
  refine ⟨b, h', ?_, O⟩
  rw [X78]
  simp only [bI_some, bV_some, bR_some, bL_some, ob_some, cd_t, cd_f, cd_d, okO_setI, okA_setI, okL_setI, aLen_setI, hR_setI, hI_setI, Bool.true_and, Bool.and_true, Bool.and_self, Option.isNone_some, Option.isSome_some, Option.isNone_none, Option.isSome_none, okO_chI, okA_chI, okL_chI, aLen_chI, hR_chI, ↓reduceIte, not_true_eq_false, not_false_eq_true, eq_self, c10, WMd w, e1]
  exact e _ _ _
def Fin79 (h0 : rz_H) (L : Nat) (b : Int32) (h' : rz_H) (Z : RR) : Prop := (b = 0 ∧ ∃ e, Z = Sum.inl e ∧ DMe h0 h' e.1 e.2) ∨ (b = 1 ∧ ∃ p row size, Z = Sum.inr (p, row, size) ∧ DM h0 L h' p row size [] ∧ 0 < size ∧ size ≤ 16)
theorem K79l {rb dr : Nat} {jd : Option Nat} {h0 : rz_H} (w0 : Wf rb dr jd h0) {N : Nat} {t : Nat → Nat} (T : Tm h0 N t) {L : Nat} (hL : L ≤ N) (h60 : L ≤ 60) (x : Int32) (d : Nat) : ∀ n b h p0 Z, L - p0 < n → p0 ≤ L → Oc h0 t L h b p0 Z → ∃ b' h', (∀ j2 j4, rW (d + 3) 79 (28, (0, 0), [some (rz_r (some 109)), some (rz_i x), j2, some (rz_i b), j4], [], h) = rW (d + 3) 79 (42, (0, 0), [some (rz_r (some 109)), some (rz_i x), none, some (rz_i b'), none], [], h')) ∧ Fin79 h0 L b' h' Z := by
  intro n
  induction n with
  | zero => intro b h p0 Z hn; omega
  | succ n ih =>
    intro b h p0 Z hn hp0 O
    rcases O with ⟨rfl, e, hZ, D⟩ | ⟨rfl, p, row, size, stk, hZ, s, hpp, hp, hs, h0s, hB, hl, hx⟩
    · refine ⟨0, h, fun j2 j4 => ?_, Or.inl ⟨rfl, e, hZ, D⟩⟩
      rw [X79_28]
      simp only [bI_some, bV_some, bR_some, bL_some, ob_some, cd_t, cd_f, cd_d, okO_setI, okA_setI, okL_setI, aLen_setI, hR_setI, hI_setI, Bool.true_and, Bool.and_true, Bool.and_self, Option.isNone_some, Option.isSome_some, Option.isNone_none, Option.isSome_none, okO_chI, okA_chI, okL_chI, aLen_chI, hR_chI, ↓reduceIte, not_true_eq_false, not_false_eq_true, eq_self, c10]
    · have w : Wf rb dr jd h := w0.e s.1
      have e5 := s.2.2.1
      have e6 := s.2.1
      have e32 := s.2.2.2.2.1
      have go : ((stk = [] ∧ p < L) ∨ (stk ≠ [] ∧ ¬ (p < L ∧ t p = 41))) → ∃ b' h', (∀ j2 j4, rW (d + 3) 79 (28, (0, 0), [some (rz_r (some 109)), some (rz_i x), j2, some (rz_i 1), j4], [], h) = rW (d + 3) 79 (42, (0, 0), [some (rz_r (some 109)), some (rz_i x), none, some (rz_i b'), none], [], h')) ∧ Fin79 h0 L b' h' Z := fun hc => by
        obtain ⟨b1, h1, e1, O1⟩ := K78 w0 T hL h60 s hp hs (stB_mono (by omega) stk hB) hl d
        rw [exp_ahd hp hs hc] at hZ
        rw [← hZ] at O1
        obtain ⟨b', h', e2, F⟩ := ih b1 h1 p Z (by omega) hp O1
        refine ⟨b', h', fun j2 j4 => ?_, F⟩
        rw [X79_28]
        by_cases c : p < L
        · simp (disch := omega) only [↓cd_d, ↓irem_eq_mod, ↓ob_setI, ↓ob_chI, ↓ob_some, bI_some, bV_some, bR_some, bL_some, ob_some, cd_t, cd_f, okO_setI, okA_setI, okL_setI, aLen_setI, hR_setI, hI_setI, Bool.true_and, Bool.and_true, Bool.and_self, Option.isNone_some, Option.isSome_some, Option.isNone_none, Option.isSome_none, okO_chI, okA_chI, okL_chI, aLen_chI, hR_chI, ↓reduceIte, not_true_eq_false, not_false_eq_true, eq_self, c10, Nat.zero_add, nI_add, litA, litB, litM, nI_mul, nI_leI, nI_ltI, nI_eq, litLe, litLe2, litLt, litLt2, litEq, litEq2, in_nI, lit_in, nI_clamp, lit_cl, if_pos, if_neg, X79_30, WMd w, e5, e6, X79_38, e1, X79_41]
          exact e2 _ _
        · have hne : stk ≠ [] := by
            rcases hc with q | q
            · exact absurd q.2 c
            · exact q.1
          have hlen : 0 < stk.length := by
            cases stk with
            | nil => exact absurd rfl hne
            | cons a r => show 0 < r.length + 1; omega
          simp (disch := omega) only [↓cd_d, ↓irem_eq_mod, ↓ob_setI, ↓ob_chI, ↓ob_some, bI_some, bV_some, bR_some, bL_some, ob_some, cd_t, cd_f, okO_setI, okA_setI, okL_setI, aLen_setI, hR_setI, hI_setI, Bool.true_and, Bool.and_true, Bool.and_self, Option.isNone_some, Option.isSome_some, Option.isNone_none, Option.isSome_none, okO_chI, okA_chI, okL_chI, aLen_chI, hR_chI, ↓reduceIte, not_true_eq_false, not_false_eq_true, eq_self, c10, Nat.zero_add, nI_add, litA, litB, litM, nI_mul, nI_leI, nI_ltI, nI_eq, litLe, litLe2, litLt, litLt2, litEq, litEq2, in_nI, lit_in, nI_clamp, lit_cl, if_pos, if_neg, X79_30, WMd w, e5, e6, X79_35, e32, X79_38, e1, X79_41]
          exact e2 _ _
      rcases hx with hx | hx
      · subst hx
        by_cases c : p < L
        · exact go (Or.inl ⟨rfl, c⟩)
        · have hv : expT t L [] p row size = Sum.inr (p, row, size) := by
            show cnT t L 2 false p row size = _
            have hc : clT t L false p = true := by
              unfold clT
              rw [if_neg (by simp), decide_eq_true c]
            rw [cnT_s hp hs, hc, if_pos rfl]
          rw [hv] at hZ
          refine ⟨1, h, fun j2 j4 => ?_, Or.inr ⟨rfl, p, row, size, hZ, s, h0s, hs⟩⟩
          have e32 : hI h 109 32 = nI 0 := e32
          rw [X79_28]
          simp (disch := omega) only [↓cd_d, ↓irem_eq_mod, ↓ob_setI, ↓ob_chI, ↓ob_some, bI_some, bV_some, bR_some, bL_some, ob_some, cd_t, cd_f, okO_setI, okA_setI, okL_setI, aLen_setI, hR_setI, hI_setI, Bool.true_and, Bool.and_true, Bool.and_self, Option.isNone_some, Option.isSome_some, Option.isNone_none, Option.isSome_none, okO_chI, okA_chI, okL_chI, aLen_chI, hR_chI, ↓reduceIte, not_true_eq_false, not_false_eq_true, eq_self, c10, Nat.zero_add, nI_add, litA, litB, litM, nI_mul, nI_leI, nI_ltI, nI_eq, litLe, litLe2, litLt, litLt2, litEq, litEq2, in_nI, lit_in, nI_clamp, lit_cl, if_pos, if_neg, X79_30, WMd w, e5, e6, X79_35, e32]
      · cases stk with
        | nil =>
          by_cases c : p < L
          · exact go (Or.inl ⟨rfl, c⟩)
          · have hv : expT t L [] p row size = Sum.inr (p, row, size) := by
              show cnT t L 2 false p row size = _
              have hc : clT t L false p = true := by
                unfold clT
                rw [if_neg (by simp), decide_eq_true c]
              rw [cnT_s hp hs, hc, if_pos rfl]
            rw [hv] at hZ
            refine ⟨1, h, fun j2 j4 => ?_, Or.inr ⟨rfl, p, row, size, hZ, s, h0s, hs⟩⟩
            have e32 : hI h 109 32 = nI 0 := e32
            rw [X79_28]
            simp (disch := omega) only [↓cd_d, ↓irem_eq_mod, ↓ob_setI, ↓ob_chI, ↓ob_some, bI_some, bV_some, bR_some, bL_some, ob_some, cd_t, cd_f, okO_setI, okA_setI, okL_setI, aLen_setI, hR_setI, hI_setI, Bool.true_and, Bool.and_true, Bool.and_self, Option.isNone_some, Option.isSome_some, Option.isNone_none, Option.isSome_none, okO_chI, okA_chI, okL_chI, aLen_chI, hR_chI, ↓reduceIte, not_true_eq_false, not_false_eq_true, eq_self, c10, Nat.zero_add, nI_add, litA, litB, litM, nI_mul, nI_leI, nI_ltI, nI_eq, litLe, litLe2, litLt, litLt2, litEq, litEq2, in_nI, lit_in, nI_clamp, lit_cl, if_pos, if_neg, X79_30, WMd w, e5, e6, X79_35, e32]
        | cons a r => exact go (Or.inr ⟨by simp, hx⟩)
theorem drT_ahd {t : Nat → Nat} {L : Nat} (h60 : L ≤ 60) (row : Nat → Nat) : drT t L row = ahd t L [] 0 row 0 := by
  unfold drT ahd
  have o := itm_ok t L 2 0 row 0 (by omega) (by omega)
  refine rbd_cg fun q hq => ?_
  rw [hq] at o
  obtain ⟨o1, o2, o3, o4⟩ := o
  rw [rlp_60 o2 (by omega) h60 o4]
  rfl
/-! it is told -/
def nwT (size : Nat) (row : Nat → Nat) : TU := (size, 0, 0, 0, 0, 0, row, fun _ => 0)
theorem nwT_ok {size : Nat} {row : Nat → Nat} (h1 : 0 < size) (h2 : size ≤ 16) (h3 : ∀ i, i < size → row i ≤ 16) : tO (nwT size row) := ⟨h2, by show 0 ≤ 999; omega, by show 0 ≤ 15; omega, by show 0 ≤ 1; omega, fun z => absurd z (show ¬ size = 0 by omega), fun _ => ⟨h1, h1⟩, fun i hi => ⟨h3 i hi, by show 0 ≤ 99; omega⟩⟩
theorem C148 {rb dr : Nat} {jd : Option Nat} {h : rz_H} (w : Wf rb dr jd h) {a : Nat} (hd : isD a) {size : Nat} {row : Nat → Nat} (hs : size ≤ 16) (hr : ∀ i, i < size → hI h 89 i = nI (row i)) (d : Nat) : ∃ h', cW (d + 1) 148 [rz_r (some a), rz_r (some 89), rz_i (nI size)] h = some (rz_i 0, h') ∧ h'.2 = h.2 ∧ tC h' a (nwT size row) ∧ ∀ b i, b ≠ a → b ≠ a + 1 → b ≠ a + 2 → hI h' b i = hI h b i := by
  have ha : a + 2 < 89 := by
    obtain ⟨b, k, hb, hk, rfl⟩ := hd
    omega
  obtain ⟨k, -, e, q0, q1, q2, q3⟩ := lp_hs (σ := Unit) (τ := Unit) (fun i _ k _ => rW d 148 (5, (0, 0), [some (rz_r (some a)), some (rz_r (some 89)), some (rz_i (nI size)), some (rz_i (nI i))], [], k)) (fun _ s => s) (fun i _ k => k.2 = h.2 ∧ hI k a 2 = nI i ∧ (∀ j, j < i → hI k (a + 1) j = nI (row j) ∧ hI k (a + 2) j = nI 0) ∧ ∀ b i, b ≠ a → b ≠ a + 1 → b ≠ a + 2 → hI k b i = hI h b i) size (fun i _ k _ hi ⟨q0, q1, q2, q3⟩ => by
    have wk : Wf rb dr jd k := w.e q0
    have v : hI k 89 i = nI (row i) := (q3 89 i (by omega) (by omega) (by omega)).trans (hr i hi)
    refine ⟨setI (setI (setI k (a + 1) i (nI (row i))) (a + 2) i 0) a 2 (nI (i + 1)), (), ?_, q0, by rw [hI_setI, if_pos ⟨rfl, rfl⟩], fun j hj => ?_, fun b j n1 n2 n3 => by rw [hI_setI, if_neg (by omega), hI_setI, if_neg (by omega), hI_setI, if_neg (by omega)]; exact q3 b j n1 n2 n3⟩
    · have w1 : Wf rb dr jd (setI k (a + 1) i (nI (row i))) := wk
      have w2 : Wf rb dr jd (setI (setI k (a + 1) i (nI (row i))) (a + 2) i 0) := wk
      have v2 : hI (setI (setI k (a + 1) i (nI (row i))) (a + 2) i 0) a 2 = nI i := by rw [hI_setI, if_neg (by omega), hI_setI, if_neg (by omega)]; exact q1
      show rW d 148 (5, (0, 0), [some (rz_r (some a)), some (rz_r (some 89)), some (rz_i (nI size)), some (rz_i (nI i))], [], k) = _
      rw [X148_5]
      simp (disch := omega) only [↓cd_d, ↓irem_eq_mod, ↓ob_setI, ↓ob_chI, ↓ob_some, bI_some, bV_some, bR_some, bL_some, ob_some, cd_t, cd_f, okO_setI, okA_setI, okL_setI, aLen_setI, hR_setI, hI_setI, Bool.true_and, Bool.and_true, Bool.and_self, Option.isNone_some, Option.isSome_some, Option.isNone_none, Option.isSome_none, okO_chI, okA_chI, okL_chI, aLen_chI, hR_chI, ↓reduceIte, not_true_eq_false, not_false_eq_true, eq_self, c10, Nat.zero_add, nI_add, litA, litB, litM, nI_mul, nI_leI, nI_ltI, nI_eq, litLe, litLe2, litLt, litLt2, litEq, litEq2, in_nI, lit_in, nI_clamp, lit_cl, if_pos, if_neg, X148_8, ↓WDb wk hd, WD wk hd, X148_13, X148_18, WDr wk, X148_22, v]
      rw [X148_29]
      simp (disch := omega) only [↓cd_d, ↓irem_eq_mod, ↓ob_setI, ↓ob_chI, ↓ob_some, bI_some, bV_some, bR_some, bL_some, ob_some, cd_t, cd_f, okO_setI, okA_setI, okL_setI, aLen_setI, hR_setI, hI_setI, Bool.true_and, Bool.and_true, Bool.and_self, Option.isNone_some, Option.isSome_some, Option.isNone_none, Option.isSome_none, okO_chI, okA_chI, okL_chI, aLen_chI, hR_chI, ↓reduceIte, not_true_eq_false, not_false_eq_true, eq_self, c10, Nat.zero_add, nI_add, litA, litB, litM, nI_mul, nI_leI, nI_ltI, nI_eq, litLe, litLe2, litLt, litLt2, litEq, litEq2, in_nI, lit_in, nI_clamp, lit_cl, if_pos, if_neg, ↓WDb w1 hd, WD w1 hd]
      rw [X148_34]
      generalize setI (setI k (a + 1) i (nI (row i))) (a + 2) i 0 = k2 at w2 v2 ⊢
      simp (disch := omega) only [↓cd_d, ↓irem_eq_mod, ↓ob_setI, ↓ob_chI, ↓ob_some, bI_some, bV_some, bR_some, bL_some, ob_some, cd_t, cd_f, okO_setI, okA_setI, okL_setI, aLen_setI, hR_setI, hI_setI, Bool.true_and, Bool.and_true, Bool.and_self, Option.isNone_some, Option.isSome_some, Option.isNone_none, Option.isSome_none, okO_chI, okA_chI, okL_chI, aLen_chI, hR_chI, ↓reduceIte, not_true_eq_false, not_false_eq_true, eq_self, c10, Nat.zero_add, nI_add, litA, litB, litM, nI_mul, nI_leI, nI_ltI, nI_eq, litLe, litLe2, litLt, litLt2, litEq, litEq2, in_nI, lit_in, nI_clamp, lit_cl, if_pos, if_neg, WD w2 hd, v2, X148_40, X148_41]
    · by_cases ej : j = i
      · subst ej
        exact ⟨by rw [hI_setI, if_neg (by omega), hI_setI, if_neg (by omega), hI_setI, if_pos ⟨rfl, rfl⟩], by rw [hI_setI, if_neg (by omega), hI_setI, if_pos ⟨rfl, rfl⟩]; rfl⟩
      · exact ⟨by rw [hI_setI, if_neg (by omega), hI_setI, if_neg (by omega), hI_setI, if_neg (by omega)]; exact (q2 j (by omega)).1, by rw [hI_setI, if_neg (by omega), hI_setI, if_neg (by omega), hI_setI, if_neg (by omega)]; exact (q2 j (by omega)).2⟩) size 0 () (setI h a 2 0) () (by omega) ⟨rfl, (by rw [hI_setI, if_pos ⟨rfl, rfl⟩]; rfl), fun j hj => absurd hj (by omega), fun b i n1 n2 n3 => by rw [hI_setI, if_neg (by omega)]⟩
  have wk : Wf rb dr jd k := w.e q0
  let k1 := setI k a 3 0
  let k2 := setI k1 a 4 0
  let k3 := setI k2 a 5 0
  let k4 := setI k3 a 6 0
  let k5 := setI k4 a 7 0
  have w1 : Wf rb dr jd k1 := wk
  have w2 : Wf rb dr jd k2 := wk
  have w3 : Wf rb dr jd k3 := wk
  have w4 : Wf rb dr jd k4 := wk
  have out : ∀ b i, ¬ (b = a ∧ 3 ≤ i ∧ i ≤ 7) → hI k5 b i = hI k b i := fun b i n => by
    show hI (setI (setI (setI (setI (setI k a 3 0) a 4 0) a 5 0) a 6 0) a 7 0) b i = _
    rw [hI_setI, if_neg (by omega), hI_setI, if_neg (by omega), hI_setI, if_neg (by omega), hI_setI, if_neg (by omega), hI_setI, if_neg (by omega)]
  have inn : ∀ i, 3 ≤ i → i ≤ 7 → hI k5 a i = nI 0 := fun i h3 h7 => by
    show hI (setI (setI (setI (setI (setI k a 3 0) a 4 0) a 5 0) a 6 0) a 7 0) a i = _
    rcases (show i = 3 ∨ i = 4 ∨ i = 5 ∨ i = 6 ∨ i = 7 by omega) with rfl | rfl | rfl | rfl | rfl <;> simp [hI_setI] <;> rfl
  refine ⟨k5, ?_, q0, ⟨(out _ _ (by omega)).trans q1, inn 3 (by omega) (by omega), inn 4 (by omega) (by omega), inn 5 (by omega) (by omega), inn 6 (by omega) (by omega), inn 7 (by omega) (by omega), fun i hi => ⟨(out _ _ (by omega)).trans (q2 i hi).1, (out _ _ (by omega)).trans (q2 i hi).2⟩⟩, fun b i n1 n2 n3 => (out b i (by omega)).trans (q3 b i n1 n2 n3)⟩
  have d1 : (decide ((0 : Int32) = 0) || decide ((0 : Int32) = 1)) = true := rfl
  rw [X148]
  simp only [bI_some, bV_some, bR_some, bL_some, ob_some, cd_t, cd_f, cd_d, okO_setI, okA_setI, okL_setI, aLen_setI, hR_setI, hI_setI, Bool.true_and, Bool.and_true, Bool.and_self, Option.isNone_some, Option.isSome_some, Option.isNone_none, Option.isSome_none, okO_chI, okA_chI, okL_chI, aLen_chI, hR_chI, ↓reduceIte, not_true_eq_false, not_false_eq_true, eq_self, c10, WD w hd, X148_3]
  refine Eq.trans e ?_
  rw [X148_5]
  simp (disch := omega) only [↓cd_d, ↓irem_eq_mod, ↓ob_setI, ↓ob_chI, ↓ob_some, bI_some, bV_some, bR_some, bL_some, ob_some, cd_t, cd_f, okO_setI, okA_setI, okL_setI, aLen_setI, hR_setI, hI_setI, Bool.true_and, Bool.and_true, Bool.and_self, Option.isNone_some, Option.isSome_some, Option.isNone_none, Option.isSome_none, okO_chI, okA_chI, okL_chI, aLen_chI, hR_chI, ↓reduceIte, not_true_eq_false, not_false_eq_true, eq_self, c10, Nat.zero_add, nI_add, litA, litB, litM, nI_mul, nI_leI, nI_ltI, nI_eq, litLe, litLe2, litLt, litLt2, litEq, litEq2, in_nI, lit_in, nI_clamp, lit_cl, if_pos, if_neg]
  rw [X148_42]
  simp only [bI_some, bV_some, bR_some, bL_some, ob_some, cd_t, cd_f, cd_d, okO_setI, okA_setI, okL_setI, aLen_setI, hR_setI, hI_setI, Bool.true_and, Bool.and_true, Bool.and_self, Option.isNone_some, Option.isSome_some, Option.isNone_none, Option.isSome_none, okO_chI, okA_chI, okL_chI, aLen_chI, hR_chI, ↓reduceIte, not_true_eq_false, not_false_eq_true, eq_self, c10, WD wk hd]
  rw [show setI k a 3 0 = k1 from rfl, X148_45]
  simp only [bI_some, bV_some, bR_some, bL_some, ob_some, cd_t, cd_f, cd_d, okO_setI, okA_setI, okL_setI, aLen_setI, hR_setI, hI_setI, Bool.true_and, Bool.and_true, Bool.and_self, Option.isNone_some, Option.isSome_some, Option.isNone_none, Option.isSome_none, okO_chI, okA_chI, okL_chI, aLen_chI, hR_chI, ↓reduceIte, not_true_eq_false, not_false_eq_true, eq_self, c10, WD w1 hd]
  rw [show setI k1 a 4 0 = k2 from rfl, X148_48]
  simp only [bI_some, bV_some, bR_some, bL_some, ob_some, cd_t, cd_f, cd_d, okO_setI, okA_setI, okL_setI, aLen_setI, hR_setI, hI_setI, Bool.true_and, Bool.and_true, Bool.and_self, Option.isNone_some, Option.isSome_some, Option.isNone_none, Option.isSome_none, okO_chI, okA_chI, okL_chI, aLen_chI, hR_chI, ↓reduceIte, not_true_eq_false, not_false_eq_true, eq_self, c10, WD w2 hd]
  rw [show setI k2 a 5 0 = k3 from rfl, X148_51]
  simp only [bI_some, bV_some, bR_some, bL_some, ob_some, cd_t, cd_f, cd_d, okO_setI, okA_setI, okL_setI, aLen_setI, hR_setI, hI_setI, Bool.true_and, Bool.and_true, Bool.and_self, Option.isNone_some, Option.isSome_some, Option.isNone_none, Option.isSome_none, okO_chI, okA_chI, okL_chI, aLen_chI, hR_chI, ↓reduceIte, not_true_eq_false, not_false_eq_true, eq_self, c10, WD w3 hd]
  rw [show setI k3 a 6 0 = k4 from rfl, X148_54, d1]
  simp only [bI_some, bV_some, bR_some, bL_some, ob_some, cd_t, cd_f, cd_d, okO_setI, okA_setI, okL_setI, aLen_setI, hR_setI, hI_setI, Bool.true_and, Bool.and_true, Bool.and_self, Option.isNone_some, Option.isSome_some, Option.isNone_none, Option.isSome_none, okO_chI, okA_chI, okL_chI, aLen_chI, hR_chI, ↓reduceIte, not_true_eq_false, not_false_eq_true, eq_self, c10, WD w4 hd, X148_57]
  rfl
theorem K79t {rb dr : Nat} {jd : Option Nat} {h : rz_H} (w : Wf rb dr jd h) {k : Nat} (hk : k < 8) {size : Nat} {row : Nat → Nat} (h1 : 0 < size) (hs : size ≤ 16) (e31 : hI h 109 31 = nI size) (hr : ∀ i, i < size → hI h 127 i = nI (row i)) (d : Nat) (j2 j3 : Option rz_V) : ∃ h', rW d 79 (52, (0, 0), [some (rz_r (some 109)), some (rz_i (nI k)), j2, j3, some (rz_i 0)], [], h) = some (rz_i (nI size), h') ∧ h'.2 = h.2 ∧ tM h' k (nwT size row) ∧ ∀ b i, ¬ (b = 110 ∧ ((16 * k ≤ i ∧ i < 16 * k + 16) ∨ (128 + 16 * k ≤ i ∧ i < 144 + 16 * k) ∨ (256 ≤ i ∧ i < 304 ∧ i % 8 = k))) → hI h' b i = hI h b i := by
  obtain ⟨ka, ⟨ja, jb⟩, ea, a0, a1, a2⟩ := lp_hs (σ := Unit) (τ := Option rz_V × Option rz_V) (fun i _ k' j => rW d 79 (52, (0, 0), [some (rz_r (some 109)), some (rz_i (nI k)), j.1, j.2, some (rz_i (nI i))], [], k')) (fun _ s => s) (fun i _ k' => k'.2 = h.2 ∧ (∀ j, j < i → (j < size → hI k' 110 (16 * k + j) = nI (row j)) ∧ hI k' 110 (128 + 16 * k + j) = nI 0) ∧ ∀ b i, ¬ (b = 110 ∧ ((16 * k ≤ i ∧ i < 16 * k + 16) ∨ (128 + 16 * k ≤ i ∧ i < 144 + 16 * k))) → hI k' b i = hI h b i) 16 (fun i _ k' j hi ⟨q0, q1, q2⟩ => by
    have wk : Wf rb dr jd k' := w.e q0
    have f31 := (q2 109 31 (by omega)).trans e31
    let v : Int32 := if i < size then nI (row i) else 0
    let k1 := setI k' 110 (16 * k + i) v
    have w1 : Wf rb dr jd k1 := wk
    refine ⟨setI k1 110 (128 + 16 * k + i) 0, (none, none), ?_, q0, fun j hj => ?_, fun b j n => ?_⟩
    · show rW d 79 (52, (0, 0), [some (rz_r (some 109)), some (rz_i (nI k)), j.1, j.2, some (rz_i (nI i))], [], k') = _
      rw [X79_52]
      simp (disch := omega) only [↓cd_d, ↓irem_eq_mod, ↓ob_setI, ↓ob_chI, ↓ob_some, bI_some, bV_some, bR_some, bL_some, ob_some, cd_t, cd_f, okO_setI, okA_setI, okL_setI, aLen_setI, hR_setI, hI_setI, Bool.true_and, Bool.and_true, Bool.and_self, Option.isNone_some, Option.isSome_some, Option.isNone_none, Option.isSome_none, okO_chI, okA_chI, okL_chI, aLen_chI, hR_chI, ↓reduceIte, not_true_eq_false, not_false_eq_true, eq_self, c10, Nat.zero_add, nI_add, litA, litB, litM, nI_mul, nI_leI, nI_ltI, nI_eq, litLe, litLe2, litLt, litLt2, litEq, litEq2, in_nI, lit_in, nI_clamp, lit_cl, if_pos, if_neg]
      rw [X79_55]
      have tail : rW d 79 (75, (0, 0), [some (rz_r (some 109)), some (rz_i (nI k)), none, none, some (rz_i (nI i))], [], k1) = rW d 79 (52, (0, 0), [some (rz_r (some 109)), some (rz_i (nI k)), none, none, some (rz_i (nI (i + 1)))], [], setI k1 110 (128 + 16 * k + i) 0) := by
        rw [X79_75]
        simp (disch := omega) only [↓cd_d, ↓irem_eq_mod, ↓ob_setI, ↓ob_chI, ↓ob_some, bI_some, bV_some, bR_some, bL_some, ob_some, cd_t, cd_f, okO_setI, okA_setI, okL_setI, aLen_setI, hR_setI, hI_setI, Bool.true_and, Bool.and_true, Bool.and_self, Option.isNone_some, Option.isSome_some, Option.isNone_none, Option.isSome_none, okO_chI, okA_chI, okL_chI, aLen_chI, hR_chI, ↓reduceIte, not_true_eq_false, not_false_eq_true, eq_self, c10, Nat.zero_add, nI_add, litA, litB, litM, nI_mul, nI_leI, nI_ltI, nI_eq, litLe, litLe2, litLt, litLt2, litEq, litEq2, in_nI, lit_in, nI_clamp, lit_cl, if_pos, if_neg, ↓WMb w1, WMd w1, X79_86, X79_87]
      by_cases c : i < size
      · have f127 := (q2 127 i (by omega)).trans (hr i c)
        have hv : v = nI (row i) := if_pos c
        rw [show k1 = setI k' 110 (16 * k + i) v from rfl, hv] at tail ⊢
        simp (disch := omega) only [↓cd_d, ↓irem_eq_mod, ↓ob_setI, ↓ob_chI, ↓ob_some, bI_some, bV_some, bR_some, bL_some, ob_some, cd_t, cd_f, okO_setI, okA_setI, okL_setI, aLen_setI, hR_setI, hI_setI, Bool.true_and, Bool.and_true, Bool.and_self, Option.isNone_some, Option.isSome_some, Option.isNone_none, Option.isSome_none, okO_chI, okA_chI, okL_chI, aLen_chI, hR_chI, ↓reduceIte, not_true_eq_false, not_false_eq_true, eq_self, c10, Nat.zero_add, nI_add, litA, litB, litM, nI_mul, nI_leI, nI_ltI, nI_eq, litLe, litLe2, litLt, litLt2, litEq, litEq2, in_nI, lit_in, nI_clamp, lit_cl, if_pos, if_neg, ↓WMb wk, WMd wk, f31, f127, Int32.zero_add]
        exact tail
      · have hv : v = 0 := if_neg c
        rw [show k1 = setI k' 110 (16 * k + i) v from rfl, hv] at tail ⊢
        simp (disch := omega) only [↓cd_d, ↓irem_eq_mod, ↓ob_setI, ↓ob_chI, ↓ob_some, bI_some, bV_some, bR_some, bL_some, ob_some, cd_t, cd_f, okO_setI, okA_setI, okL_setI, aLen_setI, hR_setI, hI_setI, Bool.true_and, Bool.and_true, Bool.and_self, Option.isNone_some, Option.isSome_some, Option.isNone_none, Option.isSome_none, okO_chI, okA_chI, okL_chI, aLen_chI, hR_chI, ↓reduceIte, not_true_eq_false, not_false_eq_true, eq_self, c10, Nat.zero_add, nI_add, litA, litB, litM, nI_mul, nI_leI, nI_ltI, nI_eq, litLe, litLe2, litLt, litLt2, litEq, litEq2, in_nI, lit_in, nI_clamp, lit_cl, if_pos, if_neg, ↓WMb wk, WMd wk, f31, Int32.zero_add]
        exact tail
    · have out : ∀ b j, ¬ (b = 110 ∧ (j = 16 * k + i ∨ j = 128 + 16 * k + i)) → hI (setI k1 110 (128 + 16 * k + i) 0) b j = hI k' b j := fun b j n => by
        rw [hI_setI, if_neg (by omega)]
        show hI (setI k' 110 (16 * k + i) v) b j = _
        rw [hI_setI, if_neg (by omega)]
      by_cases ej : j = i
      · subst ej
        refine ⟨fun hj2 => ?_, by rw [hI_setI, if_pos ⟨rfl, rfl⟩]; rfl⟩
        rw [hI_setI, if_neg (by omega)]
        show hI (setI k' 110 (16 * k + j) v) 110 (16 * k + j) = _
        rw [hI_setI, if_pos ⟨rfl, rfl⟩]
        exact if_pos hj2
      · exact ⟨fun hj2 => (out _ _ (by omega)).trans ((q1 j (by omega)).1 hj2), (out _ _ (by omega)).trans (q1 j (by omega)).2⟩
    · rw [hI_setI, if_neg (by omega)]
      show hI (setI k' 110 (16 * k + i) v) b j = _
      rw [hI_setI, if_neg (by omega)]
      exact q2 b j n) 16 0 () h (j2, j3) (by omega) ⟨rfl, fun j hj => absurd hj (by omega), fun _ _ _ => rfl⟩
  have wa : Wf rb dr jd ka := w.e a0
  obtain ⟨kb, ⟨jc, jd'⟩, eb, b0, b1, b2⟩ := lp_hs (σ := Unit) (τ := Option rz_V × Option rz_V) (fun i _ k' j => rW d 79 (90, (0, 0), [some (rz_r (some 109)), some (rz_i (nI k)), j.1, j.2, some (rz_i (nI (256 + 8 * i)))], [], k')) (fun _ s => s) (fun i _ k' => k'.2 = h.2 ∧ (∀ j, j < i → hI k' 110 (256 + 8 * j + k) = nI 0) ∧ ∀ b i, ¬ (b = 110 ∧ 256 ≤ i ∧ i < 304 ∧ i % 8 = k) → hI k' b i = hI ka b i) 6 (fun i _ k' j hi ⟨q0, q1, q2⟩ => by
    have wk : Wf rb dr jd k' := w.e q0
    refine ⟨setI k' 110 (256 + 8 * i + k) 0, (none, none), ?_, q0, fun j hj => ?_, fun b j n => by rw [hI_setI, if_neg (by omega)]; exact q2 b j n⟩
    · show rW d 79 (90, (0, 0), [some (rz_r (some 109)), some (rz_i (nI k)), j.1, j.2, some (rz_i (nI (256 + 8 * i)))], [], k') = _
      rw [X79_90]
      simp (disch := omega) only [↓cd_d, ↓irem_eq_mod, ↓ob_setI, ↓ob_chI, ↓ob_some, bI_some, bV_some, bR_some, bL_some, ob_some, cd_t, cd_f, okO_setI, okA_setI, okL_setI, aLen_setI, hR_setI, hI_setI, Bool.true_and, Bool.and_true, Bool.and_self, Option.isNone_some, Option.isSome_some, Option.isNone_none, Option.isSome_none, okO_chI, okA_chI, okL_chI, aLen_chI, hR_chI, ↓reduceIte, not_true_eq_false, not_false_eq_true, eq_self, c10, Nat.zero_add, nI_add, litA, litB, litM, nI_mul, nI_leI, nI_ltI, nI_eq, litLe, litLe2, litLt, litLt2, litEq, litEq2, in_nI, lit_in, nI_clamp, lit_cl, if_pos, if_neg, X79_93, ↓WMb wk, WMd wk, X79_100, X79_104]
      rfl
    · by_cases ej : j = i
      · subst ej
        rw [hI_setI, if_pos ⟨rfl, rfl⟩]; rfl
      · rw [hI_setI, if_neg (by omega)]; exact q1 j (by omega)) 6 0 () ka (none, none) (by omega) ⟨a0, fun j hj => absurd hj (by omega), fun _ _ _ => rfl⟩
  have wb : Wf rb dr jd kb := w.e b0
  have f31 : hI kb 109 31 = nI size := ((b2 109 31 (by omega)).trans (a2 109 31 (by omega))).trans e31
  let kc := setI kb 110 (256 + k) (nI size)
  have wc : Wf rb dr jd kc := wb
  have g31 : hI kc 109 31 = nI size := f31
  have out : ∀ b i, ¬ (b = 110 ∧ i = 256 + k) → hI kc b i = hI kb b i := fun b i n => by
    show hI (setI kb 110 (256 + k) (nI size)) b i = _
    rw [hI_setI, if_neg n]
  have z : ∀ j, j < 6 → 0 < j → ∀ m, m = 256 + 8 * j + k → hI kc 110 m = nI 0 := fun j hj h0 m hm => by
    rw [out _ _ (by omega), hm]
    exact b1 j hj
  refine ⟨kc, ?_, b0, ⟨?_, z 1 (by omega) (by omega) _ (by omega), z 2 (by omega) (by omega) _ (by omega), z 3 (by omega) (by omega) _ (by omega), z 4 (by omega) (by omega) _ (by omega), z 5 (by omega) (by omega) _ (by omega), fun i hi => ?_⟩, fun b i n => ?_⟩
  · refine Eq.trans ea ?_
    rw [X79_52]
    simp (disch := omega) only [↓cd_d, ↓irem_eq_mod, ↓ob_setI, ↓ob_chI, ↓ob_some, bI_some, bV_some, bR_some, bL_some, ob_some, cd_t, cd_f, okO_setI, okA_setI, okL_setI, aLen_setI, hR_setI, hI_setI, Bool.true_and, Bool.and_true, Bool.and_self, Option.isNone_some, Option.isSome_some, Option.isNone_none, Option.isSome_none, okO_chI, okA_chI, okL_chI, aLen_chI, hR_chI, ↓reduceIte, not_true_eq_false, not_false_eq_true, eq_self, c10, Nat.zero_add, nI_add, litA, litB, litM, nI_mul, nI_leI, nI_ltI, nI_eq, litLe, litLe2, litLt, litLt2, litEq, litEq2, in_nI, lit_in, nI_clamp, lit_cl, if_pos, if_neg, X79_88]
    refine Eq.trans eb ?_
    rw [X79_90]
    simp (disch := omega) only [↓cd_d, ↓irem_eq_mod, ↓ob_setI, ↓ob_chI, ↓ob_some, bI_some, bV_some, bR_some, bL_some, ob_some, cd_t, cd_f, okO_setI, okA_setI, okL_setI, aLen_setI, hR_setI, hI_setI, Bool.true_and, Bool.and_true, Bool.and_self, Option.isNone_some, Option.isSome_some, Option.isNone_none, Option.isSome_none, okO_chI, okA_chI, okL_chI, aLen_chI, hR_chI, ↓reduceIte, not_true_eq_false, not_false_eq_true, eq_self, c10, Nat.zero_add, nI_add, litA, litB, litM, nI_mul, nI_leI, nI_ltI, nI_eq, litLe, litLe2, litLt, litLt2, litEq, litEq2, in_nI, lit_in, nI_clamp, lit_cl, if_pos, if_neg, X79_105, ↓WMb wb, WMd wb, f31]
    rw [show setI kb 110 (256 + k) (nI size) = kc from rfl, X79_113]
    simp only [bI_some, bV_some, bR_some, bL_some, ob_some, cd_t, cd_f, cd_d, okO_setI, okA_setI, okL_setI, aLen_setI, hR_setI, hI_setI, Bool.true_and, Bool.and_true, Bool.and_self, Option.isNone_some, Option.isSome_some, Option.isNone_none, Option.isSome_none, okO_chI, okA_chI, okL_chI, aLen_chI, hR_chI, ↓reduceIte, not_true_eq_false, not_false_eq_true, eq_self, c10, WMd wc, g31]
  · show hI (setI kb 110 (256 + k) (nI size)) 110 (256 + k) = _
    rw [hI_setI, if_pos ⟨rfl, rfl⟩]
    rfl
  · have hi : i < size := hi
    exact ⟨((out _ _ (by omega)).trans (b2 _ _ (by omega))).trans ((a1 i (by omega)).1 hi), ((out _ _ (by omega)).trans (b2 _ _ (by omega))).trans (a1 i (by omega)).2⟩
  · rw [out b i (by omega), b2 b i (by omega), a2 b i (by omega)]
theorem mkRelc {rb dr : Nat} {jd : Option Nat} {h k : rz_H} {D : Nat → TU} {tk x : Nat} (r : KpRel h ∧ LwRel h rb) (w : Wf rb dr jd k) (O : LO D tk x) (C : LC k 3 D tk x) (M : LM k D tk x) (t0 : hI k 1 1 = 0) (t1 : hI k 109 4 = 0) (f : ∀ b i, (b = 0 ∨ (29 ≤ b ∧ b < 55) ∨ b = 112 ∨ (82 ≤ b ∧ b < 88) ∨ (96 ≤ b ∧ b < 102) ∨ (120 ≤ b ∧ b < 125) ∨ (b = 109 ∧ (i = 13 ∨ i = 39))) → hI k b i = hI h b i) : Rel k := by
  have hrb := lw_rb w
  obtain ⟨r4, r5⟩ := r
  obtain ⟨a, b⟩ := unL O C M
  exact Rel_mk w a b ⟨0, by omega, t0, t1, fun i hi => absurd hi (by omega)⟩ (r4.to (fun b hb i => f b i (by omega)) (f 0 9 (by omega)) (f 109 39 (by omega))) (r5.to (fun b hb i => f b i (by omega)) (f 109 13 (by omega)))
theorem K79 {rb dr : Nat} {jd : Option Nat} {h : rz_H} (w : Wf rb dr jd h) {N : Nat} {t : Nat → Nat} (T : Tm h N t) (e4 : hI h 109 4 = nI N) {k n : Nat} (hk : k < 8) (h0 : 0 < n) (hn : n ≤ 60) (hN : n ≤ N) (row : Nat → Nat) : ∃ h', h'.2 = h.2 ∧ hI h' 109 4 = 0 ∧ ((∃ e, drT t n row = Sum.inl e ∧ cW 100 79 [rz_r (some 109), rz_i (nI k), rz_i (nI n)] h = some (rz_i (erI e.1 e.2), h') ∧ ∀ b i, ¬ (127 ≤ b ∧ b ≤ 130) → ¬ (b = 109 ∧ ((4 ≤ i ∧ i ≤ 7) ∨ i = 10 ∨ i = 12 ∨ (31 ≤ i ∧ i ≤ 34))) → hI h' b i = hI h b i) ∨ (∃ p row' size, drT t n row = Sum.inr (p, row', size) ∧ cW 100 79 [rz_r (some 109), rz_i (nI k), rz_i (nI n)] h = some (rz_i (nI size), h') ∧ tM h' k (nwT size row') ∧ ∀ b i, ¬ (127 ≤ b ∧ b ≤ 130) → ¬ (b = 109 ∧ ((4 ≤ i ∧ i ≤ 7) ∨ i = 10 ∨ i = 12 ∨ (31 ≤ i ∧ i ≤ 34))) → ¬ (b = 110 ∧ ((16 * k ≤ i ∧ i < 16 * k + 16) ∨ (128 + 16 * k ≤ i ∧ i < 144 + 16 * k) ∨ (256 ≤ i ∧ i < 304 ∧ i % 8 = k))) → hI h' b i = hI h b i)) := by
  have hNN := T.1
  let hb := setI (setI (setI (setI (setI (setI h 109 5 0) 109 6 (nI n)) 109 10 0) 109 12 0) 109 31 0) 109 32 0
  have wb : Wf rb dr jd hb := w
  have ob : ∀ b i, ¬ (b = 109 ∧ (i = 5 ∨ i = 6 ∨ i = 10 ∨ i = 12 ∨ i = 31 ∨ i = 32)) → hI hb b i = hI h b i := fun b i n1 => by
    show hI (setI (setI (setI (setI (setI (setI h 109 5 0) 109 6 (nI n)) 109 10 0) 109 12 0) 109 31 0) 109 32 0) b i = _
    rw [hI_setI, if_neg (by omega), hI_setI, if_neg (by omega), hI_setI, if_neg (by omega), hI_setI, if_neg (by omega), hI_setI, if_neg (by omega), hI_setI, if_neg (by omega)]
  have Tb : Tm hb N t := ⟨T.1, fun i hi => ⟨(T.2 i hi).1, by rw [ob 113 i (by omega)]; exact (T.2 i hi).2⟩⟩
  have sb : DM hb n hb 0 row 0 [] := ⟨rfl, rfl, rfl, rfl, rfl, fun i hi => absurd hi (by omega), trivial, fun _ _ _ _ => rfl⟩
  obtain ⟨b1, h1, e1, O1⟩ := K78 wb Tb hN hn sb (by omega) (by omega) trivial (by show 0 ≤ 2; omega) 96
  rw [← drT_ahd hn row] at O1
  obtain ⟨b2, h2, e2, F2⟩ := K79l wb Tb hN hn (nI k) 96 (n + 1) b1 h1 0 _ (by omega) (by omega) O1
  have k7 : (0 : Int32) ≤ nI k ∧ nI k ≤ 7 := ⟨nI_pos' (by omega), nI_le (b := 7) (by omega) (by omega)⟩
  have n60 : (1 : Int32) ≤ nI n ∧ nI n ≤ 60 := ⟨nI_le (a := 1) (by omega) (by omega), nI_le (b := 60) (by omega) (by omega)⟩
  have e69 : ∀ d, cW (d + 1) 69 [rz_r (some 109), rz_i (nI n)] h = some (rz_i 0, setI (setI (setI (setI h 109 5 0) 109 6 (nI n)) 109 10 0) 109 12 0) := fun d => by
    rw [E69]
    simp only [bI_some, bV_some, bR_some, bL_some, ob_some, cd_t, cd_f, cd_d, okO_setI, okA_setI, okL_setI, aLen_setI, hR_setI, hI_setI, Bool.true_and, Bool.and_true, Bool.and_self, Option.isNone_some, Option.isSome_some, Option.isNone_none, Option.isSome_none, okO_chI, okA_chI, okL_chI, aLen_chI, hR_chI, ↓reduceIte, not_true_eq_false, not_false_eq_true, eq_self, c10, WMd w]
  have st : cW 100 79 [rz_r (some 109), rz_i (nI k), rz_i (nI n)] h = rW 99 79 (42, (0, 0), [some (rz_r (some 109)), some (rz_i (nI k)), none, some (rz_i b2), none], [], h2) := by
    rw [X79]
    simp only [bI_some, bV_some, bR_some, bL_some, ob_some, cd_t, cd_f, cd_d, okO_setI, okA_setI, okL_setI, aLen_setI, hR_setI, hI_setI, Bool.true_and, Bool.and_true, Bool.and_self, Option.isNone_some, Option.isSome_some, Option.isNone_none, Option.isSome_none, okO_chI, okA_chI, okL_chI, aLen_chI, hR_chI, ↓reduceIte, not_true_eq_false, not_false_eq_true, eq_self, c10, S33, if_pos k7, X79_5, if_pos n60, X79_10, WMd w, e4]
    simp (disch := omega) only [↓cd_d, ↓irem_eq_mod, ↓ob_setI, ↓ob_chI, ↓ob_some, bI_some, bV_some, bR_some, bL_some, ob_some, cd_t, cd_f, okO_setI, okA_setI, okL_setI, aLen_setI, hR_setI, hI_setI, Bool.true_and, Bool.and_true, Bool.and_self, Option.isNone_some, Option.isSome_some, Option.isNone_none, Option.isSome_none, okO_chI, okA_chI, okL_chI, aLen_chI, hR_chI, ↓reduceIte, not_true_eq_false, not_false_eq_true, eq_self, c10, Nat.zero_add, nI_add, litA, litB, litM, nI_mul, nI_leI, nI_ltI, nI_eq, litLe, litLe2, litLt, litLt2, litEq, litEq2, in_nI, lit_in, nI_clamp, lit_cl, if_pos, if_neg, X79_16, WMd w, e69]
    have w3 : Wf rb dr jd (setI (setI (setI (setI h 109 5 0) 109 6 (nI n)) 109 10 0) 109 12 0) := w
    have w4 : Wf rb dr jd (setI (setI (setI (setI (setI h 109 5 0) 109 6 (nI n)) 109 10 0) 109 12 0) 109 31 0) := w
    rw [X79_19]
    simp only [cd_t, (WMd w3).1]
    rw [X79_22]
    simp only [cd_t, (WMd w4).1]
    rw [show setI (setI (setI (setI (setI (setI h 109 5 0) 109 6 (nI n)) 109 10 0) 109 12 0) 109 31 0) 109 32 0 = hb from rfl, X79_25]
    simp only [cd_t, (WMd wb).1, e1, bI_some]
    exact e2 _ _
  rcases F2 with ⟨rfl, e, hZ, D⟩ | ⟨rfl, p, row', size, hZ, s, q1, q2⟩
  · have w2 : Wf rb dr jd h2 := wb.e D.1
    have w2' : Wf rb dr jd (setI h2 109 4 0) := w2
    refine ⟨setI h2 109 4 0, D.1, by rw [hI_setI, if_pos ⟨rfl, rfl⟩], Or.inl ⟨e, hZ, ?_, fun b i n1 n2 => by rw [hI_setI, if_neg (by omega), D.2.2 b i n1 (by omega), ob b i (by omega)]⟩⟩
    have v : hI (setI h2 109 4 0) 109 7 = erI e.1 e.2 := by rw [hI_setI, if_neg (by omega)]; exact D.2.1
    rw [st, X79_42]
    simp only [bI_some, bV_some, bR_some, bL_some, ob_some, cd_t, cd_f, cd_d, okO_setI, okA_setI, okL_setI, aLen_setI, hR_setI, hI_setI, Bool.true_and, Bool.and_true, Bool.and_self, Option.isNone_some, Option.isSome_some, Option.isNone_none, Option.isSome_none, okO_chI, okA_chI, okL_chI, aLen_chI, hR_chI, ↓reduceIte, not_true_eq_false, not_false_eq_true, eq_self, c10, WMd w2, X79_45]
    rw [X79_47, v]
    simp only [bI_some, bV_some, bR_some, bL_some, ob_some, cd_t, cd_f, cd_d, okO_setI, okA_setI, okL_setI, aLen_setI, hR_setI, hI_setI, Bool.true_and, Bool.and_true, Bool.and_self, Option.isNone_some, Option.isSome_some, Option.isNone_none, Option.isSome_none, okO_chI, okA_chI, okL_chI, aLen_chI, hR_chI, ↓reduceIte, not_true_eq_false, not_false_eq_true, eq_self, c10, WMd w2']
  · have w2 : Wf rb dr jd h2 := wb.e s.1
    have w2' : Wf rb dr jd (setI h2 109 4 0) := w2
    obtain ⟨h3, e3, z0, z1, z2⟩ := K79t w2' hk q1 q2 (by rw [hI_setI, if_neg (by omega)]; exact s.2.2.2.1) (row := row') (fun i hi => by rw [hI_setI, if_neg (by omega)]; exact s.2.2.2.2.2.1 i hi) 99 none (some (rz_i 1))
    refine ⟨h3, z0.trans s.1, by rw [z2 109 4 (by omega), hI_setI, if_pos ⟨rfl, rfl⟩], Or.inr ⟨p, row', size, hZ, ?_, z1, fun b i n1 n2 n3 => by rw [z2 b i n3, hI_setI, if_neg (by omega), s.2.2.2.2.2.2.2 b i n1 (by omega), ob b i (by omega)]⟩⟩
    rw [st, X79_42]
    simp only [bI_some, bV_some, bR_some, bL_some, ob_some, cd_t, cd_f, cd_d, okO_setI, okA_setI, okL_setI, aLen_setI, hR_setI, hI_setI, Bool.true_and, Bool.and_true, Bool.and_self, Option.isNone_some, Option.isSome_some, Option.isNone_none, Option.isSome_none, okO_chI, okA_chI, okL_chI, aLen_chI, hR_chI, ↓reduceIte, not_true_eq_false, not_false_eq_true, eq_self, c10, WMd w2, X79_45, X79_50]
    exact e3
theorem P3 (x y : Int32) : Pr Rel 3 79 [rz_i x, rz_i y] := by
  intro h r
  obtain ⟨rb, dr, jd, w, r1, r2, r3, r4, r5⟩ := id r
  have hrb := lw_rb w
  have hL3 : isL 3 := Or.inl rfl
  obtain ⟨D, tk, z, O, C, M⟩ := mkL hL3 r1 r2
  obtain ⟨N, t, T⟩ := mkTq r3
  have hNN := T.1.1
  by_cases hx : 0 ≤ x ∧ x ≤ 7
  · have x1 := Int32.not_lt.mpr hx.1
    obtain ⟨k, hk, rfl⟩ := nI_of2 (x := x) (M := 7) (n := 7) rfl x1 hx.2
    have x2 : ¬ (8 : Int32) ≤ nI k := nI_ge (b := 8) (by omega) (by omega)
    by_cases hy : 1 ≤ y ∧ y ≤ 60
    · have y1 := Int32.not_lt.mpr hy.1
      have y2 := Int32.not_lt.mpr hy.2
      obtain ⟨n, hn, rfl⟩ := nI_of2 (x := y) (M := 60) (n := 60) rfl (fun q => y1 (Int32.lt_trans q (by decide))) hy.2
      have n0 : 0 < n := (nI_leI (a := 1) (b := n) (by omega) (by omega)).mp hy.1
      by_cases hnN : n ≤ N
      · have c1 : nI n ≤ nI N := nI_le hnN (by omega)
        obtain ⟨row, g1, e1, D1⟩ := C158 w T hnN hn 87
        obtain ⟨-, hd⟩ := WLk w hL3 (show k < 8 by omega)
        rcases drT_ok t n row with ⟨er, hz, z2, z3, z4⟩ | ⟨p, row', size, hz, z2, z3⟩
        · rw [hz] at e1 D1
          have D1 : DE h g1 er.1 er.2 := D1
          have w1 : Wf rb dr jd g1 := w.e D1.1
          have ng : erI er.1 er.2 ≤ 0 := er_ck er.1 z3 z2 er.2 (by omega)
          have e1 : cW 99 158 [rz_r (some 88), rz_i (nI n)] h = some (rz_i (erI er.1 er.2), g1) := e1
          have o1 : ∀ b i, b ≠ 88 → b ≠ 89 → ¬ (b = 1 ∧ i = 1) → hI (setI g1 1 1 0) b i = hI h b i := fun b i n1 n2 n3 => by rw [hI_setI, if_neg n3]; exact D1.2.2.2 b i n1 n2
          have w2 : Wf rb dr jd (setI g1 1 1 0) := w1
          have T2 : Tm (setI g1 1 1 0) N t := ⟨T.1.1, fun i hi => ⟨(T.1.2 i hi).1, by rw [o1 113 i (by omega) (by omega) (by omega)]; exact (T.1.2 i hi).2⟩⟩
          obtain ⟨g2, a0, a1, a2⟩ := K79 w2 T2 ((o1 109 4 (by omega) (by omega) (by omega)).trans T.2.2.1) (k := k) (by omega) n0 hn hnN row
          rcases a2 with ⟨e, hz', e2, f2⟩ | ⟨p, row', size, hz', -⟩
          · rw [hz] at hz'
            have : er = e := by simpa using hz'
            subst this
            have w3 : Wf rb dr jd g2 := w2.e a0
            have oo : ∀ b i, b ≠ 88 → b ≠ 89 → ¬ (b = 1 ∧ i = 1) → ¬ (127 ≤ b ∧ b ≤ 130) → ¬ (b = 109 ∧ ((4 ≤ i ∧ i ≤ 7) ∨ i = 10 ∨ i = 12 ∨ (31 ≤ i ∧ i ≤ 34))) → hI g2 b i = hI h b i := fun b i n1 n2 n3 n4 n5 => (f2 b i n4 n5).trans (o1 b i n1 n2 n3)
            refine ⟨erI er.1 er.2, setI g1 1 1 0, g2, ?_, e2, (WMd w2).1, mkRelc ⟨r4, r5⟩ w3 O (C.to fun b b1 b2 i => oo b i (by omega) (by omega) (by omega) (by omega) (by omega)) (M.to fun i => oo 110 i (by omega) (by omega) (by omega) (by omega) (by omega)) ?_ a1 (fun b i hb => oo b i (by omega) (by omega) (by omega) (by omega) (by omega))⟩
            · rw [show DD = 99 + 1 from rfl, E3]
              simp only [bI_some, bV_some, bR_some, bL_some, ob_some, cd_t, cd_f, cd_d, okO_setI, okA_setI, okL_setI, aLen_setI, hR_setI, hI_setI, Bool.true_and, Bool.and_true, Bool.and_self, Option.isNone_some, Option.isSome_some, Option.isNone_none, Option.isSome_none, okO_chI, okA_chI, okL_chI, aLen_chI, hR_chI, ↓reduceIte, not_true_eq_false, not_false_eq_true, eq_self, c10, if_neg x1, if_neg x2, if_neg y1, if_neg y2, ↓WCb w, ↓WCb w1, WRt w, WRt w1, S268 w, T.2.1, if_pos c1, e1, S272 w1, if_pos ng]
            · rw [f2 1 1 (by omega) (by omega), hI_setI, if_pos ⟨rfl, rfl⟩]
          · rw [hz] at hz'
            exact absurd hz' (by simp)
        · rw [hz] at e1 D1
          have D1 : DS h n g1 p row' size := D1
          have w1 : Wf rb dr jd g1 := w.e D1.1
          have e1 : cW 99 158 [rz_r (some 88), rz_i (nI n)] h = some (rz_i (nI size), g1) := e1
          have le16 : ∀ i, i < size → row' i ≤ 16 := by
            have := drT_le t n row
            rw [hz] at this
            exact this
          have o1 : ∀ b i, b ≠ 88 → b ≠ 89 → ¬ (b = 1 ∧ i = 1) → hI (setI g1 1 1 0) b i = hI h b i := fun b i n1 n2 n3 => by rw [hI_setI, if_neg n3]; exact D1.2.2.2.2.2.2 b i n1 n2
          have w2 : Wf rb dr jd (setI g1 1 1 0) := w1
          obtain ⟨g3, e3, a0, a1, a2⟩ := C148 w2 hd (size := size) (row := row') z3 (fun i hi => by rw [hI_setI, if_neg (by omega)]; exact D1.2.2.2.2.2.1 i (by omega)) 97
          have w3 : Wf rb dr jd g3 := w2.e a0
          have o3 : ∀ b i, b ≠ 88 → b ≠ 89 → ¬ (b = 1 ∧ i = 1) → b ≠ 3 + 2 + 3 * k → b ≠ 3 + 2 + 3 * k + 1 → b ≠ 3 + 2 + 3 * k + 2 → hI g3 b i = hI h b i := fun b i n1 n2 n3 n4 n5 n6 => (a2 b i n4 n5 n6).trans (o1 b i n1 n2 n3)
          have T3 : Tm g3 N t := ⟨T.1.1, fun i hi => ⟨(T.1.2 i hi).1, by rw [o3 113 i (by omega) (by omega) (by omega) (by omega) (by omega) (by omega)]; exact (T.1.2 i hi).2⟩⟩
          obtain ⟨g4, b0, b1, b2⟩ := K79 w3 T3 ((o3 109 4 (by omega) (by omega) (by omega) (by omega) (by omega) (by omega)).trans T.2.2.1) (k := k) (by omega) n0 hn hnN row
          rcases b2 with ⟨e, hz', -⟩ | ⟨p', row2, size2, hz', e4, M4, f4⟩
          · rw [hz] at hz'
            exact absurd hz' (by simp)
          · rw [hz] at hz'
            have hq : (p, row', size) = (p', row2, size2) := by simpa using hz'
            cases hq
            have w4 : Wf rb dr jd g4 := w3.e b0
            let D' : Nat → TU := fun j => if j = k then nwT size row' else D j
            have O' : LO D' tk z := ⟨fun j hj => by
              show tO (if j = k then nwT size row' else D j)
              split
              · exact nwT_ok z2 z3 le16
              · exact O.1 j hj, O.2⟩
            have oo : ∀ b i, b ≠ 88 → b ≠ 89 → ¬ (b = 1 ∧ i = 1) → b ≠ 3 + 2 + 3 * k → b ≠ 3 + 2 + 3 * k + 1 → b ≠ 3 + 2 + 3 * k + 2 → ¬ (127 ≤ b ∧ b ≤ 130) → ¬ (b = 109 ∧ ((4 ≤ i ∧ i ≤ 7) ∨ i = 10 ∨ i = 12 ∨ (31 ≤ i ∧ i ≤ 34))) → b ≠ 110 → hI g4 b i = hI h b i := fun b i n1 n2 n3 n4 n5 n6 n7 n8 n9 => (f4 b i n7 n8 (fun q => n9 q.1)).trans (o3 b i n1 n2 n3 n4 n5 n6)
            have C' : LC g4 3 D' tk z := by
              refine ⟨fun j hj => ?_, (oo 3 1 (by omega) (by omega) (by omega) (by omega) (by omega) (by omega) (by omega) (by omega) (by omega)).trans C.2.1, (oo 3 2 (by omega) (by omega) (by omega) (by omega) (by omega) (by omega) (by omega) (by omega) (by omega)).trans C.2.2⟩
              show tC g4 (3 + 2 + 3 * j) (if j = k then nwT size row' else D j)
              by_cases ej : j = k
              · subst ej
                rw [if_pos rfl]
                exact Dc.to a1 (fun b hb i => f4 b i (by omega) (by omega) (by omega))
              · rw [if_neg ej]
                exact Dc.to (C.1 j hj) (fun b hb i => oo b i (by omega) (by omega) (by omega) (by omega) (by omega) (by omega) (by omega) (by omega) (by omega))
            have M' : LM g4 D' tk z := by
              have om : ∀ i, ¬ ((16 * k ≤ i ∧ i < 16 * k + 16) ∨ (128 + 16 * k ≤ i ∧ i < 144 + 16 * k) ∨ (256 ≤ i ∧ i < 304 ∧ i % 8 = k)) → hI g4 110 i = hI h 110 i := fun i n => (f4 110 i (by omega) (by omega) (fun q => n q.2)).trans (o3 110 i (by omega) (by omega) (by omega) (by omega) (by omega) (by omega))
              refine ⟨fun j hj => ?_, (om 304 (by omega)).trans M.2.1, (om 305 (by omega)).trans M.2.2⟩
              show tM g4 j (if j = k then nwT size row' else D j)
              by_cases ej : j = k
              · subst ej
                rw [if_pos rfl]
                exact M4
              · rw [if_neg ej]
                have hF : (D j).1 ≤ 16 := (O.1 j hj).1
                obtain ⟨m1, m2, m3, m4, m5, m6, m7⟩ := M.1 j hj
                exact ⟨(om _ (by omega)).trans m1, (om _ (by omega)).trans m2, (om _ (by omega)).trans m3, (om _ (by omega)).trans m4, (om _ (by omega)).trans m5, (om _ (by omega)).trans m6, fun i hi => ⟨(om _ (by omega)).trans (m7 i hi).1, (om _ (by omega)).trans (m7 i hi).2⟩⟩
            refine ⟨nI size, g3, g4, ?_, e4, (WMd w3).1, mkRelc ⟨r4, r5⟩ w4 O' C' M' ?_ b1 (fun b i hb => oo b i (by omega) (by omega) (by omega) (by omega) (by omega) (by omega) (by omega) (by omega) (by omega))⟩
            · have ps : ¬ nI size ≤ 0 := nI_nle z2 (by omega)
              have e157 : ∀ d, cW (d + 1) 157 [rz_r (some 88)] (setI g1 1 1 0) = some (rz_r (some 89), setI g1 1 1 0) := fun d => by
                rw [E157]
                simp only [bI_some, bV_some, bR_some, bL_some, ob_some, cd_t, cd_f, cd_d, okO_setI, okA_setI, okL_setI, aLen_setI, hR_setI, hI_setI, Bool.true_and, Bool.and_true, Bool.and_self, Option.isNone_some, Option.isSome_some, Option.isNone_none, Option.isSome_none, okO_chI, okA_chI, okL_chI, aLen_chI, hR_chI, ↓reduceIte, not_true_eq_false, not_false_eq_true, eq_self, c10, WDr w2]
              have e182 : cW 99 182 [rz_r (some 3), rz_i (nI k), rz_r (some 89), rz_i (nI size)] (setI g1 1 1 0) = some (rz_i 0, g3) := by
                obtain ⟨k1, -⟩ := WLk w1 hL3 (show k < 8 by omega)
                rw [show 99 = 98 + 1 from rfl, E182]
                simp (disch := omega) only [↓cd_d, ↓irem_eq_mod, ↓ob_setI, ↓ob_chI, ↓ob_some, bI_some, bV_some, bR_some, bL_some, ob_some, cd_t, cd_f, okO_setI, okA_setI, okL_setI, aLen_setI, hR_setI, hI_setI, Bool.true_and, Bool.and_true, Bool.and_self, Option.isNone_some, Option.isSome_some, Option.isNone_none, Option.isSome_none, okO_chI, okA_chI, okL_chI, aLen_chI, hR_chI, ↓reduceIte, not_true_eq_false, not_false_eq_true, eq_self, c10, Nat.zero_add, nI_add, litA, litB, litM, nI_mul, nI_leI, nI_ltI, nI_eq, litLe, litLe2, litLt, litLt2, litEq, litEq2, in_nI, lit_in, nI_clamp, lit_cl, if_pos, if_neg, ↓WLb w1 hL3, ↓obR k1, WLd w1 hL3, WLd w2 hL3, WD w1 hd, e3]
              rw [show DD = 99 + 1 from rfl, E3]
              simp only [bI_some, bV_some, bR_some, bL_some, ob_some, cd_t, cd_f, cd_d, okO_setI, okA_setI, okL_setI, aLen_setI, hR_setI, hI_setI, Bool.true_and, Bool.and_true, Bool.and_self, Option.isNone_some, Option.isSome_some, Option.isNone_none, Option.isSome_none, okO_chI, okA_chI, okL_chI, aLen_chI, hR_chI, ↓reduceIte, not_true_eq_false, not_false_eq_true, eq_self, c10, if_neg x1, if_neg x2, if_neg y1, if_neg y2, ↓WCb w, ↓WCb w1, ↓WCb w2, WRt w, WRt w1, S268 w, T.2.1, if_pos c1, e1, S272 w1, if_neg ps, e157, e182]
            · rw [f4 1 1 (by omega) (by omega) (by omega), a2 1 1 (by omega) (by omega) (by omega), hI_setI, if_pos ⟨rfl, rfl⟩]
      · have c1 : ¬ nI n ≤ nI N := nI_ge (by omega) (by omega)
        refine ⟨-1, h, h, ?_, ?_, (WMd w).1, r⟩
        · rw [show DD = 99 + 1 from rfl, E3]
          simp only [bI_some, bV_some, bR_some, bL_some, ob_some, cd_t, cd_f, cd_d, okO_setI, okA_setI, okL_setI, aLen_setI, hR_setI, hI_setI, Bool.true_and, Bool.and_true, Bool.and_self, Option.isNone_some, Option.isSome_some, Option.isNone_none, Option.isSome_none, okO_chI, okA_chI, okL_chI, aLen_chI, hR_chI, ↓reduceIte, not_true_eq_false, not_false_eq_true, eq_self, c10, if_neg x1, if_neg x2, if_neg y1, if_neg y2, ↓WCb w, WRt w, S268 w, T.2.1, if_neg c1]
        · rw [show DD = 99 + 1 from rfl, X79]
          simp only [bI_some, bV_some, bR_some, bL_some, ob_some, cd_t, cd_f, cd_d, okO_setI, okA_setI, okL_setI, aLen_setI, hR_setI, hI_setI, Bool.true_and, Bool.and_true, Bool.and_self, Option.isNone_some, Option.isSome_some, Option.isNone_none, Option.isSome_none, okO_chI, okA_chI, okL_chI, aLen_chI, hR_chI, ↓reduceIte, not_true_eq_false, not_false_eq_true, eq_self, c10, S33, if_pos hx, X79_5, if_pos hy, X79_10, WMd w, T.2.2.1, if_neg c1, X79_14]
    · refine ⟨-1, h, h, ?_, ?_, (WMd w).1, r⟩
      · rw [show DD = 99 + 1 from rfl, E3]
        by_cases y1 : y < 1
        · simp only [bI_some, bV_some, bR_some, bL_some, ob_some, cd_t, cd_f, cd_d, okO_setI, okA_setI, okL_setI, aLen_setI, hR_setI, hI_setI, Bool.true_and, Bool.and_true, Bool.and_self, Option.isNone_some, Option.isSome_some, Option.isNone_none, Option.isSome_none, okO_chI, okA_chI, okL_chI, aLen_chI, hR_chI, ↓reduceIte, not_true_eq_false, not_false_eq_true, eq_self, c10, if_neg x1, if_neg x2, if_pos y1]
        · have y2 : (60 : Int32) < y := Int32.not_le.mp fun e => hy ⟨Int32.not_lt.mp y1, e⟩
          simp only [bI_some, bV_some, bR_some, bL_some, ob_some, cd_t, cd_f, cd_d, okO_setI, okA_setI, okL_setI, aLen_setI, hR_setI, hI_setI, Bool.true_and, Bool.and_true, Bool.and_self, Option.isNone_some, Option.isSome_some, Option.isNone_none, Option.isSome_none, okO_chI, okA_chI, okL_chI, aLen_chI, hR_chI, ↓reduceIte, not_true_eq_false, not_false_eq_true, eq_self, c10, if_neg x1, if_neg x2, if_neg y1, if_pos y2]
      · rw [show DD = 99 + 1 from rfl, X79]
        simp only [bI_some, bV_some, bR_some, bL_some, ob_some, cd_t, cd_f, cd_d, okO_setI, okA_setI, okL_setI, aLen_setI, hR_setI, hI_setI, Bool.true_and, Bool.and_true, Bool.and_self, Option.isNone_some, Option.isSome_some, Option.isNone_none, Option.isSome_none, okO_chI, okA_chI, okL_chI, aLen_chI, hR_chI, ↓reduceIte, not_true_eq_false, not_false_eq_true, eq_self, c10, S33, if_pos hx, X79_5, if_neg hy, X79_14]
  · refine ⟨-1, h, h, ?_, ?_, (WMd w).1, r⟩
    · rw [show DD = 99 + 1 from rfl, E3]
      by_cases x1 : x < 0
      · simp only [bI_some, bV_some, bR_some, bL_some, ob_some, cd_t, cd_f, cd_d, okO_setI, okA_setI, okL_setI, aLen_setI, hR_setI, hI_setI, Bool.true_and, Bool.and_true, Bool.and_self, Option.isNone_some, Option.isSome_some, Option.isNone_none, Option.isSome_none, okO_chI, okA_chI, okL_chI, aLen_chI, hR_chI, ↓reduceIte, not_true_eq_false, not_false_eq_true, eq_self, c10, if_pos x1]
      · have x2 : (8 : Int32) ≤ x := by
          refine Classical.byContradiction fun q => ?_
          obtain ⟨k, hk, rfl⟩ := nI_of x1
          have : k < 8 := Nat.not_le.mp fun z => q (nI_le (a := 8) z hk)
          exact hx ⟨Int32.not_lt.mp x1, nI_le (b := 7) (by omega) (by omega)⟩
        simp only [bI_some, bV_some, bR_some, bL_some, ob_some, cd_t, cd_f, cd_d, okO_setI, okA_setI, okL_setI, aLen_setI, hR_setI, hI_setI, Bool.true_and, Bool.and_true, Bool.and_self, Option.isNone_some, Option.isSome_some, Option.isNone_none, Option.isSome_none, okO_chI, okA_chI, okL_chI, aLen_chI, hR_chI, ↓reduceIte, not_true_eq_false, not_false_eq_true, eq_self, c10, if_neg x1, if_pos x2]
    · rw [show DD = 99 + 1 from rfl, X79]
      simp only [bI_some, bV_some, bR_some, bL_some, ob_some, cd_t, cd_f, cd_d, okO_setI, okA_setI, okL_setI, aLen_setI, hR_setI, hI_setI, Bool.true_and, Bool.and_true, Bool.and_self, Option.isNone_some, Option.isSome_some, Option.isNone_none, Option.isSome_none, okO_chI, okA_chI, okL_chI, aLen_chI, hR_chI, ↓reduceIte, not_true_eq_false, not_false_eq_true, eq_self, c10, S33, if_neg hx, X79_14]
