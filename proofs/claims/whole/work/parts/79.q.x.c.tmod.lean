/-! the law's text: the model's tests: jumps, landings -/
def jWM (k ms : Nat) (o : Option Nat) : List Nat := match o with
  | none => []
  | some j => [1048576 * k + (ms + j)]
def tSM (ms : Nat) : List TFR → List Nat
  | [] => []
  | none :: r => 1048576 * 10 :: tSM ms r
  | some m :: r => jWM 11 ms m.2 ++ (jWM 12 ms m.1 ++ (1048576 * 13 :: tSM ms r))
def nBM : List TFR → Nat
  | [] => 0
  | none :: r => nBM r + 1
  | some _ :: r => nBM r
def bOM : List TFR → Prop
  | [] => False
  | none :: r => bOM r
  | some _ :: r => r = [] ∨ bOM r
def JOk (c : CC) (n kd : Nat) (o : Option Nat) : Prop := ∀ j, o = some j → j < n ∧ (c j).1 = kd ∧ (c j).2 ≤ 1000
def TOk (c : CC) (n : Nat) (fr : List TFR) : Prop := ∀ m, some m ∈ fr → JOk c n 4 m.1 ∧ JOk c n 5 m.2
theorem JOk.to {c c' : CC} {n n' kd : Nat} {o : Option Nat} (h : JOk c n kd o) (hn : n ≤ n') (e : ∀ i, i < n → (c' i).1 = (c i).1 ∧ ((c i).2 ≤ 1000 → (c' i).2 ≤ 1000)) : JOk c' n' kd o := fun j hj => by
  obtain ⟨a, b, d⟩ := h j hj
  have z := e j a
  exact ⟨by omega, z.1.trans b, z.2 d⟩
theorem TOk.to {c c' : CC} {n n' : Nat} {fr : List TFR} (h : TOk c n fr) (hn : n ≤ n') (e : ∀ i, i < n → (c' i).1 = (c i).1 ∧ ((c i).2 ≤ 1000 → (c' i).2 ≤ 1000)) : TOk c' n' fr := fun m hm => ⟨(h m hm).1.to hn e, (h m hm).2.to hn e⟩
theorem kp_p (c : CC) (n : Nat) (o : Nat × Nat) : ∀ i, i < n → (psh c n o i).1 = (c i).1 ∧ ((c i).2 ≤ 1000 → (psh c n o i).2 ≤ 1000) := fun i hi => by
  have : psh c n o i = c i := if_neg (by omega)
  rw [this]
  exact ⟨rfl, id⟩
theorem kp_a (c : CC) (o : Option Nat) {m : Nat} (hm : m ≤ 1000) (n : Nat) : ∀ i, i < n → (aiO c o m i).1 = (c i).1 ∧ ((c i).2 ≤ 1000 → (aiO c o m i).2 ≤ 1000) := fun i hi => by
  cases o with
  | none => exact ⟨rfl, id⟩
  | some j =>
    show (if i = j then ((c j).1, m) else c i).1 = _ ∧ (_ → (if i = j then ((c j).1, m) else c i).2 ≤ 1000)
    by_cases e : i = j
    · subst e
      rw [if_pos rfl]
      exact ⟨rfl, fun _ => hm⟩
    · rw [if_neg e]
      exact ⟨rfl, id⟩
/-- one is closed, the place stays -/
theorem MS.dn {h0 h : rz_H} {N : Nat} {t : Nat → Nat} {L ms p : Nat} {c : CC} {n v : Nat} {W : List Nat} {op : Nat} (s : MS h0 h N t L ms p c n (v :: W) (op + 1)) : MS h0 (setI (setI h 109 11 (nI W.length)) 109 9 (nI op)) N t L ms p c n W op := by
  obtain ⟨f, m, e10, cd, e11, ws, e9⟩ := s
  have oo : ∀ b i, ¬ (b = 109 ∧ (i = 9 ∨ i = 11)) → hI (setI (setI h 109 11 (nI W.length)) 109 9 (nI op)) b i = hI h b i := fun b i n2 => by
    rw [hI_setI, if_neg (by omega), hI_setI, if_neg (by omega)]
  exact ⟨⟨f.1, fun b i n1 n2 n3 => (oo b i (by omega)).trans (f.2 b i n1 n2 n3)⟩, m.fm (fun b i hb => oo b i (by omega)) ((oo 109 5 (by omega)).trans m.2.2.2.1) m.2.2.2.2, (oo 109 10 (by omega)).trans e10, fun i hi => (oo 114 _ (by omega)).trans (cd i hi), by rw [hI_setI, if_neg (by omega), hI_setI, if_pos ⟨rfl, rfl⟩], ws.2.2.to W (fun i hi => oo 115 i (by omega)), by rw [hI_setI, if_pos ⟨rfl, rfl⟩]⟩
/-- one waits, the place stays -/
theorem MS.p0 {h0 h : rz_H} {N : Nat} {t : Nat → Nat} {L ms p : Nat} {c : CC} {n : Nat} {W : List Nat} {op : Nat} (s : MS h0 h N t L ms p c n W op) {v : Nat} (hv : v < 16777216) : MS h0 (setI (setI h 115 W.length (nI v)) 109 11 (nI (W.length + 1))) N t L ms p c n (v :: W) op := by
  obtain ⟨f, m, e10, cd, e11, ws, e9⟩ := s
  have oo : ∀ b i, ¬ (b = 115 ∧ i = W.length) → ¬ (b = 109 ∧ i = 11) → hI (setI (setI h 115 W.length (nI v)) 109 11 (nI (W.length + 1))) b i = hI h b i := fun b i n1 n2 => by
    rw [hI_setI, if_neg n2, hI_setI, if_neg n1]
  exact ⟨⟨f.1, fun b i n1 n2 n3 => (oo b i (by omega) (by omega)).trans (f.2 b i n1 n2 n3)⟩, m.fm (fun b i hb => oo b i (by omega) (by omega)) ((oo 109 5 (by omega) (by omega)).trans m.2.2.2.1) m.2.2.2.2, (oo 109 10 (by omega) (by omega)).trans e10, fun i hi => (oo 114 _ (by omega) (by omega)).trans (cd i hi), by rw [hI_setI, if_pos ⟨rfl, rfl⟩]; rfl, ⟨by rw [hI_setI, if_neg (by omega), hI_setI, if_pos ⟨rfl, rfl⟩], hv, ws.to W (fun i hi => oo 115 i (by omega) (by omega))⟩, (oo 109 9 (by omega) (by omega)).trans e9⟩
/-- a jump is noted, and waits -/
theorem K65 {rb dr : Nat} {jd : Option Nat} {h0 : rz_H} (w0 : Wf rb dr jd h0) {h : rz_H} {N : Nat} {t : Nat → Nat} {L ms p : Nat} {c : CC} {n : Nat} {W : List Nat} {op : Nat} (s : MS h0 h N t L ms p c n W op) (hW : W.length < 250) (hp : p < 900) (hn : ms + n < 260) {k kd : Nat} (hk : (k = 11 ∧ kd = 5) ∨ (k = 12 ∧ kd = 4)) (d : Nat) : ∃ h', cW (d + 2) 65 [rz_r (some 109), rz_i (nI k)] h = some (rz_i 0, h') ∧ MS h0 h' N t L ms (p + 1) (psh c n (kd, 0)) (n + 1) ((1048576 * k + (ms + n)) :: W) op := by
  have w : Wf rb dr jd h := w0.e s.1.1
  have e11 := s.2.2.2.2.1
  have e10 := s.2.2.1
  have s1 := s.p0 (v := 1048576 * k + (ms + n)) (by omega)
  obtain ⟨h2, e2, s2⟩ := s1.nt w0 hn (kd, 0) (k := k) (v := 0) (by rcases hk with ⟨rfl, rfl⟩ | ⟨rfl, rfl⟩ <;> rfl) d
  have w1 : Wf rb dr jd (setI (setI h 115 W.length (nI (1048576 * k + (ms + n)))) 109 11 (nI (W.length + 1))) := w0.e s1.1.1
  have w2 : Wf rb dr jd h2 := w0.e s2.1.1
  refine ⟨setI h2 109 5 (nI (p + 1)), ?_, s2.go hp⟩
  have st : cW (d + 2) 65 [rz_r (some 109), rz_i (nI k)] h = rW (d + 1) 65 (17, (0, 0), [some (rz_r (some 109)), some (rz_i (nI k))], [], setI (setI h 115 W.length (nI (1048576 * k + (ms + n)))) 109 11 (nI (W.length + 1))) := by
    rw [X65]
    simp (disch := omega) only [↓cd_d, ↓irem_eq_mod, ↓ob_setI, ↓ob_chI, ↓ob_some, bI_some, bV_some, bR_some, bL_some, ob_some, cd_t, cd_f, okO_setI, okA_setI, okL_setI, aLen_setI, hR_setI, hI_setI, Bool.true_and, Bool.and_true, Bool.and_self, Option.isNone_some, Option.isSome_some, Option.isNone_none, Option.isSome_none, okO_chI, okA_chI, okL_chI, aLen_chI, hR_chI, ↓reduceIte, not_true_eq_false, not_false_eq_true, eq_self, c10, Nat.zero_add, nI_add, litA, litB, litM, nI_mul, nI_leI, nI_ltI, nI_eq, litLe, litLe2, litLt, litLt2, litEq, litEq2, in_nI, lit_in, nI_clamp, lit_cl, if_pos, if_neg, ↓WMb w, WMd w, e11, e10, X65_11]
  have e2 : cW (d + 1) 54 [rz_r (some 109), rz_i (nI k), rz_i 0] (setI (setI h 115 W.length (nI (1048576 * k + (ms + n)))) 109 11 (nI (W.length + 1))) = some (rz_i 0, h2) := e2
  rw [st, X65_17]
  generalize (setI (setI h 115 W.length (nI (1048576 * k + (ms + n)))) 109 11 (nI (W.length + 1))) = h1 at *
  simp only [bI_some, bV_some, bR_some, bL_some, ob_some, cd_t, cd_f, cd_d, okO_setI, okA_setI, okL_setI, aLen_setI, hR_setI, hI_setI, Bool.true_and, Bool.and_true, Bool.and_self, Option.isNone_some, Option.isSome_some, Option.isNone_none, Option.isSome_none, okO_chI, okA_chI, okL_chI, aLen_chI, hR_chI, ↓reduceIte, not_true_eq_false, not_false_eq_true, eq_self, c10, WMd w1, WMd w2, e2, X65_21, s2.2.1.2.2.2.1, nI_1, X65_27]
theorem enc_j {ms kd v : Nat} (hk : kd = 4 ∨ kd = 5) : encM ms (kd, v) = 1048576 * (16 - kd) + (if 0 < v then ms + v else 0) := by
  rcases hk with rfl | rfl <;> rfl
/-- a jump lands -/
theorem K64a {rb dr : Nat} {jd : Option Nat} {h0 : rz_H} (w0 : Wf rb dr jd h0) {h : rz_H} {N : Nat} {t : Nat → Nat} {L ms p : Nat} {c : CC} {n j : Nat} {W : List Nat} {op kd : Nat} (hk : kd = 4 ∨ kd = 5) (s : MS h0 h N t L ms p c n ((1048576 * (16 - kd) + (ms + j)) :: W) op) (hW : W.length < 250) (hn : ms + n < 260) (jo : j < n ∧ (c j).1 = kd ∧ (c j).2 ≤ 1000) (x : Int32) (hx : kd = 5 ∨ x = 1) (d : Nat) : ∃ h', cW (d + 2) 64 [rz_r (some 109), rz_i x] h = cW (d + 2) 64 [rz_r (some 109), rz_i x] h' ∧ MS h0 h' N t L ms p (aimC c j n) n W op := by
  have w : Wf rb dr jd h := w0.e s.1.1
  obtain ⟨jl, jk, jv⟩ := jo
  have k56 := fun d => K56 w hW (s.2.2.2.2.1.trans (by rw [List.length_cons])) s.2.2.2.2.2.1 d
  rw [show (1048576 * (16 - kd) + (ms + j)) / 1048576 = 16 - kd by omega] at k56
  obtain ⟨f, m, e10, cd, e11, ws, e9⟩ := s
  have e11 : hI h 109 11 = nI (W.length + 1) := e11.trans (by rw [List.length_cons])
  have u : nI (W.length + 1) - 1 = nI W.length := nI_sub (b := 1) (by omega)
  have sv : hI h 115 W.length = nI (1048576 * (16 - kd) + (ms + j)) := ws.1
  have ev : hI h 114 (ms + j) = nI (encM ms (c j)) := cd j jl
  have ec : encM ms (c j) / 1048576 = 16 - kd ∧ encM ms (c j) < 16777216 := by
    have : c j = (kd, (c j).2) := by rw [← jk]
    rw [this, enc_j hk]
    by_cases q : 0 < (c j).2
    · rw [if_pos q]
      omega
    · rw [if_neg q]
      omega
  have en : encM ms (kd, n) = 1048576 * (16 - kd) + (ms + n) := by
    rw [enc_j hk, if_pos (by omega)]
  let h1 := setI h 114 (ms + j) (nI (1048576 * (16 - kd) + (ms + n)))
  let h2 := setI h1 109 11 (nI W.length)
  have w1 : Wf rb dr jd h1 := w
  have w2 : Wf rb dr jd h2 := w
  have oo : ∀ b i, ¬ (b = 114 ∧ i = ms + j) → ¬ (b = 109 ∧ i = 11) → hI h2 b i = hI h b i := fun b i n1 n2 => by
    show hI (setI (setI h 114 (ms + j) _) 109 11 _) b i = _
    rw [hI_setI, if_neg n2, hI_setI, if_neg n1]
  refine ⟨h2, ?_, ⟨f.1, fun b i n1 n2 n3 => (oo b i (by omega) (by omega)).trans (f.2 b i n1 n2 n3)⟩, m.fm (fun b i hb => oo b i (by omega) (by omega)) ((oo 109 5 (by omega) (by omega)).trans m.2.2.2.1) m.2.2.2.2, (oo 109 10 (by omega) (by omega)).trans e10, fun i hi => ?_, by show hI (setI h1 109 11 _) 109 11 = _; rw [hI_setI, if_pos ⟨rfl, rfl⟩], ws.2.2.to W (fun i hi => oo 115 i (by omega) (by omega)), (oo 109 9 (by omega) (by omega)).trans e9⟩
  · have um : nI (1048576 * (16 - kd) + (ms + j)) % (1048576 : Int32) = nI (ms + j) := by
      rw [show (1048576 : Int32) = nI 1048576 from rfl, nI_mod (by omega) (by omega) (by omega)]
      congr 1
      omega
    have dv : nI (encM ms (c j)) / (1048576 : Int32) = nI (16 - kd) := (nI_div (a := encM ms (c j)) (b := 1048576) (by omega) (by omega)).trans (by rw [ec.1])
    have to10 : cW (d + 2) 64 [rz_r (some 109), rz_i x] h = rW (d + 1) 64 (10, (0, 0), [some (rz_r (some 109)), some (rz_i x), none], [], h) := by
      rw [X64]
      rcases hk with rfl | rfl
      · have k56 : ∀ d, cW (d + 1) 56 [rz_r (some 109)] h = some (rz_i 12, h) := k56
        have hx : x = 1 := hx.resolve_left (by decide)
        subst hx
        have l1 : ¬ (12 : Int32) = 11 := by decide
        simp only [bI_some, bV_some, bR_some, bL_some, ob_some, cd_t, cd_f, cd_d, okO_setI, okA_setI, okL_setI, aLen_setI, hR_setI, hI_setI, Bool.true_and, Bool.and_true, Bool.and_self, Option.isNone_some, Option.isSome_some, Option.isNone_none, Option.isSome_none, okO_chI, okA_chI, okL_chI, aLen_chI, hR_chI, ↓reduceIte, not_true_eq_false, not_false_eq_true, eq_self, c10, WMd w, k56, l1, X64_4, X64_6]
      · have k56 : ∀ d, cW (d + 1) 56 [rz_r (some 109)] h = some (rz_i 11, h) := k56
        simp only [bI_some, bV_some, bR_some, bL_some, ob_some, cd_t, cd_f, cd_d, okO_setI, okA_setI, okL_setI, aLen_setI, hR_setI, hI_setI, Bool.true_and, Bool.and_true, Bool.and_self, Option.isNone_some, Option.isSome_some, Option.isNone_none, Option.isSome_none, okO_chI, okA_chI, okL_chI, aLen_chI, hR_chI, ↓reduceIte, not_true_eq_false, not_false_eq_true, eq_self, c10, WMd w, k56]
    have to20 : rW (d + 1) 64 (10, (0, 0), [some (rz_r (some 109)), some (rz_i x), none], [], h) = rW (d + 1) 64 (20, (0, 0), [some (rz_r (some 109)), some (rz_i x), some (rz_i (nI (ms + j)))], [], h) := by
      rw [X64_10]
      simp (disch := omega) only [↓cd_d, ↓irem_eq_mod, ↓ob_setI, ↓ob_chI, ↓ob_some, bI_some, bV_some, bR_some, bL_some, ob_some, cd_t, cd_f, okO_setI, okA_setI, okL_setI, aLen_setI, hR_setI, hI_setI, Bool.true_and, Bool.and_true, Bool.and_self, Option.isNone_some, Option.isSome_some, Option.isNone_none, Option.isSome_none, okO_chI, okA_chI, okL_chI, aLen_chI, hR_chI, ↓reduceIte, not_true_eq_false, not_false_eq_true, eq_self, c10, Nat.zero_add, nI_add, litA, litB, litM, nI_mul, nI_leI, nI_ltI, nI_eq, litLe, litLe2, litLt, litLt2, litEq, litEq2, in_nI, lit_in, nI_clamp, lit_cl, if_pos, if_neg, ↓WMb w, WMd w, e11, u, sv, um]
    have to35 : rW (d + 1) 64 (20, (0, 0), [some (rz_r (some 109)), some (rz_i x), some (rz_i (nI (ms + j)))], [], h) = rW (d + 1) 64 (35, (0, 0), [some (rz_r (some 109)), some (rz_i x), some (rz_i (nI (ms + j)))], [], h1) := by
      rw [X64_20]
      simp (disch := omega) only [↓cd_d, ↓irem_eq_mod, ↓ob_setI, ↓ob_chI, ↓ob_some, bI_some, bV_some, bR_some, bL_some, ob_some, cd_t, cd_f, okO_setI, okA_setI, okL_setI, aLen_setI, hR_setI, hI_setI, Bool.true_and, Bool.and_true, Bool.and_self, Option.isNone_some, Option.isSome_some, Option.isNone_none, Option.isSome_none, okO_chI, okA_chI, okL_chI, aLen_chI, hR_chI, ↓reduceIte, not_true_eq_false, not_false_eq_true, eq_self, c10, Nat.zero_add, nI_add, litA, litB, litM, nI_mul, nI_leI, nI_ltI, nI_eq, litLe, litLe2, litLt, litLt2, litEq, litEq2, in_nI, lit_in, nI_clamp, lit_cl, if_pos, if_neg, ↓WMb w, WMd w, e10, ev, dv]
      rfl
    have v11 : hI h1 109 11 = nI (W.length + 1) := by
      show hI (setI h 114 _ _) 109 11 = _
      rw [hI_setI, if_neg (by omega)]
      exact e11
    rw [to10, to20, to35, X64_35]
    simp only [cd_t, (WMd w1).1, v11, u]
    rw [show setI h1 109 11 (nI W.length) = h2 from rfl, X64_41, X64]
  · show hI h2 114 (ms + i) = nI (encM ms (if i = j then ((c j).1, n) else c i))
    by_cases ei : i = j
    · subst ei
      rw [if_pos rfl, jk, en]
      show hI (setI (setI h 114 (ms + i) _) 109 11 _) 114 (ms + i) = _
      rw [hI_setI, if_neg (by omega), hI_setI, if_pos ⟨rfl, rfl⟩]
    · rw [if_neg ei, oo 114 (ms + i) (by omega) (by omega)]
      exact cd i hi
/-- nothing more lands -/
theorem K64e {rb dr : Nat} {jd : Option Nat} {h0 : rz_H} (w0 : Wf rb dr jd h0) {h : rz_H} {N : Nat} {t : Nat → Nat} {L ms p : Nat} {c : CC} {n v : Nat} {W : List Nat} {op : Nat} (s : MS h0 h N t L ms p c n (v :: W) op) (hW : W.length < 250) (x : Int32) (hv : v / 1048576 = 13 ∨ (v / 1048576 = 12 ∧ x = 0)) (d : Nat) : cW (d + 2) 64 [rz_r (some 109), rz_i x] h = some (rz_i 0, h) := by
  have w : Wf rb dr jd h := w0.e s.1.1
  have k56 := fun d => K56 w hW (s.2.2.2.2.1.trans (by rw [List.length_cons])) s.2.2.2.2.2.1 d
  rcases hv with hv | ⟨hv, rfl⟩
  · rw [hv] at k56
    have k56 : ∀ d, cW (d + 1) 56 [rz_r (some 109)] h = some (rz_i 13, h) := k56
    have l1 : ¬ (13 : Int32) = 11 := by decide
    have l2 : ¬ (13 : Int32) = 12 := by decide
    rw [X64]
    simp only [bI_some, bV_some, bR_some, bL_some, ob_some, cd_t, cd_f, cd_d, okO_setI, okA_setI, okL_setI, aLen_setI, hR_setI, hI_setI, Bool.true_and, Bool.and_true, Bool.and_self, Option.isNone_some, Option.isSome_some, Option.isNone_none, Option.isSome_none, okO_chI, okA_chI, okL_chI, aLen_chI, hR_chI, ↓reduceIte, not_true_eq_false, not_false_eq_true, eq_self, c10, WMd w, k56, l1, X64_4]
    by_cases hx : x = 0
    · simp only [hx, ↓reduceIte, X64_42]
    · simp only [hx, ↓reduceIte, X64_6, bI_some, bV_some, bR_some, bL_some, ob_some, cd_t, cd_f, cd_d, okO_setI, okA_setI, okL_setI, aLen_setI, hR_setI, hI_setI, Bool.true_and, Bool.and_true, Bool.and_self, Option.isNone_some, Option.isSome_some, Option.isNone_none, Option.isSome_none, okO_chI, okA_chI, okL_chI, aLen_chI, hR_chI, ↓reduceIte, not_true_eq_false, not_false_eq_true, eq_self, c10, WMd w, k56, l2, X64_42]
  · rw [hv] at k56
    have k56 : ∀ d, cW (d + 1) 56 [rz_r (some 109)] h = some (rz_i 12, h) := k56
    have l1 : ¬ (12 : Int32) = 11 := by decide
    rw [X64]
    simp only [bI_some, bV_some, bR_some, bL_some, ob_some, cd_t, cd_f, cd_d, okO_setI, okA_setI, okL_setI, aLen_setI, hR_setI, hI_setI, Bool.true_and, Bool.and_true, Bool.and_self, Option.isNone_some, Option.isSome_some, Option.isNone_none, Option.isSome_none, okO_chI, okA_chI, okL_chI, aLen_chI, hR_chI, ↓reduceIte, not_true_eq_false, not_false_eq_true, eq_self, c10, WMd w, k56, l1, X64_4, X64_42]
theorem K64 {rb dr : Nat} {jd : Option Nat} {h0 : rz_H} (w0 : Wf rb dr jd h0) {h : rz_H} {N : Nat} {t : Nat → Nat} {L ms p : Nat} {c : CC} {n : Nat} {W : List Nat} {op : Nat} {oj aj : Option Nat} (jo : JOk c n 4 oj) (ja : JOk c n 5 aj) (s : MS h0 h N t L ms p c n (jWM 11 ms aj ++ (jWM 12 ms oj ++ (1048576 * 13 :: W))) op) (hW : W.length < 240) (hn : ms + n < 260) (d : Nat) : (∃ h', cW (d + 2) 64 [rz_r (some 109), rz_i 0] h = some (rz_i 0, h') ∧ MS h0 h' N t L ms p (aiO c aj n) n (jWM 12 ms oj ++ (1048576 * 13 :: W)) op) ∧ (∃ h', cW (d + 2) 64 [rz_r (some 109), rz_i 1] h = some (rz_i 0, h') ∧ MS h0 h' N t L ms p (aiO (aiO c aj n) oj n) n (1048576 * 13 :: W) op) := by
  have l1 : (jWM 12 ms oj ++ (1048576 * 13 :: W)).length < 250 := by
    rw [List.length_append, List.length_cons]
    have : (jWM 12 ms oj).length ≤ 1 := by cases oj <;> simp [jWM]
    omega
  have first : ∀ x : Int32, ∃ h', cW (d + 2) 64 [rz_r (some 109), rz_i x] h = cW (d + 2) 64 [rz_r (some 109), rz_i x] h' ∧ MS h0 h' N t L ms p (aiO c aj n) n (jWM 12 ms oj ++ (1048576 * 13 :: W)) op := by
    intro x
    cases aj with
    | none => exact ⟨h, rfl, s⟩
    | some j => exact K64a w0 (kd := 5) (Or.inr rfl) s l1 hn (ja j rfl) x (Or.inl rfl) d
  constructor
  · obtain ⟨h1, e1, s1⟩ := first 0
    refine ⟨h1, ?_, s1⟩
    rw [e1]
    cases oj with
    | none =>
      have s1 : MS h0 h1 N t L ms p (aiO c aj n) n (1048576 * 13 :: W) op := s1
      exact K64e w0 s1 (by omega) 0 (Or.inl (by decide)) d
    | some j =>
      have s1 : MS h0 h1 N t L ms p (aiO c aj n) n ((1048576 * 12 + (ms + j)) :: (1048576 * 13 :: W)) op := s1
      have jl := (jo j rfl).1
      exact K64e w0 s1 (by rw [List.length_cons]; omega) 0 (Or.inr ⟨by omega, rfl⟩) d
  · obtain ⟨h1, e1, s1⟩ := first 1
    cases oj with
    | none =>
      have s1 : MS h0 h1 N t L ms p (aiO c aj n) n (1048576 * 13 :: W) op := s1
      exact ⟨h1, e1.trans (K64e w0 s1 (by omega) 1 (Or.inl (by decide)) d), s1⟩
    | some j =>
      have s1 : MS h0 h1 N t L ms p (aiO c aj n) n ((1048576 * 12 + (ms + j)) :: (1048576 * 13 :: W)) op := s1
      have jn := (jo j rfl).1
      obtain ⟨h2, e2, s2⟩ := K64a w0 (kd := 4) (Or.inl rfl) s1 (by rw [List.length_cons]; omega) hn (jo.to (Nat.le_refl _) (kp_a c aj (by omega) n) j rfl) 1 (Or.inr rfl) d
      exact ⟨h2, e1.trans (e2.trans (K64e w0 s2 (by omega) 1 (Or.inl (by decide)) d)), s2⟩
