/-! one drum goes on by one tick -/
def lcg (x : Nat) : Nat := (25173 * x + 13849) % 65536
theorem lcg_le (x : Nat) : lcg x ≤ 65535 := by unfold lcg; omega
theorem lcg_e {x : Nat} (hx : x ≤ 65535) : nI (25173 * x + 13849) % (65536 : Int32) = nI (lcg x) := nI_mod (b := 65536) (by omega) (by omega) (by omega)
def np (F p pc : Nat) (bk : Bool) : Nat := if bk = true then (p + (15 * F - pc)) % F else (p + pc) % F
theorem np_lt {F : Nat} (h0 : 0 < F) (p pc : Nat) (bk : Bool) : np F p pc bk < F := by
  unfold np
  split <;> exact Nat.mod_lt _ h0
def trT (T : TU) (pc wr : Nat) (bk fr : Bool) : TU := (T.1, np T.1 T.2.1 pc bk, T.2.2.1 - (T.2.2.2.1 + pc) / T.1, (T.2.2.2.1 + pc) % T.1, pc, if fr = true then 1 else T.2.2.2.2.2.1, T.2.2.2.2.2.2.1, fun i => if i = np T.1 T.2.1 pc bk then min 99 (T.2.2.2.2.2.2.2 (np T.1 T.2.1 pc bk) + wr) else T.2.2.2.2.2.2.2 i)
def faT (k tk x : Nat) (T : TU) : Nat → Int32 := fct k T.1 T.2.1 T.2.2.1 T.2.2.2.2.1 T.2.2.2.2.2.2.1 T.2.2.2.2.2.2.2 tk (x % 10)
def trn (h0 : rz_H) (k tk x : Nat) (T : TU) : TU := trT T (lwV h0 (faT k tk x T) 118 15) (lwV h0 (faT k tk x T) 97 99) (lwB h0 (faT k tk x T) 108) (lwB h0 (faT k tk x T) 120)
theorem trT_ok {T : TU} (O : tO T) (h0 : 0 < T.1) {pc : Nat} (hpc : pc ≤ 15) (wr : Nat) (bk fr : Bool) : tO (trT T pc wr bk fr) := by
  obtain ⟨F, p, t, v, s, q, g, e⟩ := T
  obtain ⟨o1, o2, o3, o4, o5, o6, o7⟩ := O
  have h0 : 0 < F := h0
  refine ⟨o1, ?_, hpc, ?_, fun z => absurd z (show ¬ F = 0 by omega), fun _ => ⟨np_lt h0 _ _ _, Nat.mod_lt _ h0⟩, fun i hi => ⟨(o7 i hi).1, ?_⟩⟩
  · have o2 : t ≤ 999 := o2
    exact Nat.le_trans (Nat.sub_le _ _) o2
  · have o4 : q ≤ 1 := o4
    show (if fr = true then 1 else q) ≤ 1
    split <;> omega
  · show (if i = np F p pc bk then min 99 (e (np F p pc bk) + wr) else e i) ≤ 99
    split
    · omega
    · exact (o7 i hi).2
/-! the class's side -/
theorem T276 (d : Nat) (h : rz_H) (x : Int32) {F : Nat} (h0 : 0 < F) (hF : F < 1000) : cW (d + 1) 276 [rz_i x, rz_i (nI F)] h = some (rz_i (nI (x.toInt % (F : Int)).toNat), h) := by
  have fm := S276 d h (z := x.toInt) (F := F) (Int32.le_toInt x) (by have := Int32.toInt_lt x; omega) h0 hF
  rw [Int32.ofInt_toInt] at fm
  exact fm
theorem np_f {F p pc : Nat} (hp : p < 1000) (hpc : pc < 1000) : ((nI p + nI pc).toInt % (F : Int)).toNat = np F p pc false := by
  rw [nI_add, nI_toInt (by omega), ← Int.natCast_emod, Int.toNat_natCast]
  rfl
theorem np_b {F p pc : Nat} (h0 : 0 < F) (hp : p < 1000) (hpc : pc ≤ 15) : ((nI p - nI pc).toInt % (F : Int)).toNat = np F p pc true := by
  rw [sub_z, toInt_ofI (by omega) (by omega)]
  have e : ((p + (15 * F - pc) : Nat) : Int) = (p : Int) - (pc : Int) + (F : Int) * 15 := by omega
  have e2 : ((p : Int) - (pc : Int)) % (F : Int) = ((p + (15 * F - pc) : Nat) : Int) % (F : Int) := by rw [e, Int.add_mul_emod_self_left]
  rw [e2, ← Int.natCast_emod, Int.toNat_natCast]
  rfl
theorem sub1 {w F : Nat} (h : F ≤ w) (h0 : 0 < F) : (w - F) / F + 1 = w / F ∧ (w - F) % F = w % F := by
  obtain ⟨x, rfl⟩ := Nat.exists_eq_add_of_le h
  rw [Nat.add_sub_cancel_left, Nat.add_comm F x, Nat.add_div_right _ h0, Nat.add_mod_right]
  exact ⟨rfl, rfl⟩
theorem C153l {rb dr : Nat} {jd : Option Nat} {a F : Nat} (hd : isD a) (h0 : 0 < F) (hF : F ≤ 16) (d : Nat) : ∀ c i w0 t0 k, w0 / F = c → i + c ≤ 30 → w0 < 1000 → t0 ≤ 999 → Wf rb dr jd k → hI k a 5 = nI w0 → hI k a 4 = nI t0 → hI k a 2 = nI F → ∃ k', (∀ j1 j2, rW (d + 1) 153 (31, (0, 0), [some (rz_r (some a)), j1, j2, some (rz_i (nI i))], [], k) = some (rz_i 0, k')) ∧ k'.2 = k.2 ∧ hI k' a 5 = nI (w0 % F) ∧ hI k' a 4 = nI (t0 - w0 / F) ∧ ∀ b i, ¬ (b = a ∧ (i = 4 ∨ i = 5)) → hI k' b i = hI k b i := by
  intro c
  induction c with
  | zero =>
    intro i w0 t0 k hc hi hw ht w e5 e4 e2
    have hl : w0 < F := by
      refine Nat.not_le.mp fun q => ?_
      have z := (sub1 q h0).1
      rw [hc] at z
      exact Nat.succ_ne_zero _ z
    refine ⟨k, fun j1 j2 => ?_, rfl, by rw [Nat.mod_eq_of_lt hl]; exact e5, by rw [hc]; exact e4, fun _ _ _ => rfl⟩
    rw [X153_31]
    simp (disch := omega) only [↓cd_d, ↓irem_eq_mod, ↓ob_setI, ↓ob_chI, ↓ob_some, bI_some, bV_some, bR_some, bL_some, ob_some, cd_t, cd_f, okO_setI, okA_setI, okL_setI, aLen_setI, hR_setI, hI_setI, Bool.true_and, Bool.and_true, Bool.and_self, Option.isNone_some, Option.isSome_some, Option.isNone_none, Option.isSome_none, okO_chI, okA_chI, okL_chI, aLen_chI, hR_chI, ↓reduceIte, not_true_eq_false, not_false_eq_true, eq_self, c10, Nat.zero_add, nI_add, litA, litB, litM, nI_mul, nI_leI, nI_ltI, nI_eq, litLe, litLe2, litLt, litLt2, litEq, litEq2, in_nI, lit_in, nI_clamp, lit_cl, if_pos, if_neg, WD w hd, e5, e2]
  | succ c ih =>
    intro i w0 t0 k hc hi hw ht w e5 e4 e2
    have hl : F ≤ w0 := by
      refine Nat.not_lt.mp fun q => ?_
      rw [Nat.div_eq_of_lt q] at hc
      exact Nat.succ_ne_zero _ hc.symm
    obtain ⟨s1, s2⟩ := sub1 hl h0
    have u1 : nI w0 - nI F = nI (w0 - F) := nI_sub hl
    have u2 : mx 0 (nI t0 - 1) = nI (t0 - 1) := mx0_sub (b := 1) (by omega) (by omega)
    obtain ⟨k', e, q1, q2, q3, q4⟩ := ih (i + 1) (w0 - F) (t0 - 1) (setI (setI k a 5 (nI (w0 - F))) a 4 (nI (t0 - 1))) (by omega) (by omega) (by omega) (by omega) w (by rw [hI_setI, if_neg (by omega), hI_setI, if_pos ⟨rfl, rfl⟩]) (by rw [hI_setI, if_pos ⟨rfl, rfl⟩]) (by rw [hI_setI, if_neg (by omega), hI_setI, if_neg (by omega)]; exact e2)
    refine ⟨k', fun j1 j2 => ?_, q1, by rw [q2, s2], by rw [q3, show t0 - 1 - (w0 - F) / F = t0 - w0 / F by omega], fun b i hb => (q4 b i hb).trans (by rw [hI_setI, if_neg (by omega), hI_setI, if_neg (by omega)])⟩
    have v1 : hI (setI k a 5 (nI (w0 - F))) a 4 = nI t0 := by rw [hI_setI, if_neg (by omega)]; exact e4
    have w1 : Wf rb dr jd (setI k a 5 (nI (w0 - F))) := w
    rw [X153_31]
    simp (disch := omega) only [↓cd_d, ↓irem_eq_mod, ↓ob_setI, ↓ob_chI, ↓ob_some, bI_some, bV_some, bR_some, bL_some, ob_some, cd_t, cd_f, okO_setI, okA_setI, okL_setI, aLen_setI, hR_setI, hI_setI, Bool.true_and, Bool.and_true, Bool.and_self, Option.isNone_some, Option.isSome_some, Option.isNone_none, Option.isSome_none, okO_chI, okA_chI, okL_chI, aLen_chI, hR_chI, ↓reduceIte, not_true_eq_false, not_false_eq_true, eq_self, c10, Nat.zero_add, nI_add, litA, litB, litM, nI_mul, nI_leI, nI_ltI, nI_eq, litLe, litLe2, litLt, litLt2, litEq, litEq2, in_nI, lit_in, nI_clamp, lit_cl, if_pos, if_neg, WD w hd, e5, e2, u1]
    rw [X153_46]
    simp (disch := omega) only [↓cd_d, bI_some, bV_some, cd_t, okO_setI, WD w hd, v1, T277, u2]
    rw [X153_54, nI_1]
    exact e none none
theorem C153 {rb dr : Nat} {jd : Option Nat} {h : rz_H} (w : Wf rb dr jd h) {a : Nat} (hd : isD a) {F p t v s q : Nat} {g e : Nat → Nat} (O : tOk F p t v s q g e) (C : Dc h a F p t v s q g e) (h0 : 0 < F) {pc : Nat} (hpc : pc ≤ 15) (bk : Bool) (d : Nat) : ∃ k', cW (d + 2) 153 [rz_r (some a), rz_i (nI pc), rz_i (bI1 bk)] h = some (rz_i 0, k') ∧ k'.2 = h.2 ∧ hI k' a 3 = nI (np F p pc bk) ∧ hI k' a 6 = nI pc ∧ hI k' a 5 = nI ((v + pc) % F) ∧ hI k' a 4 = nI (t - (v + pc) / F) ∧ ∀ b i, ¬ (b = a ∧ 3 ≤ i ∧ i ≤ 6) → hI k' b i = hI h b i := by
  obtain ⟨o1, o2, o3, o4, o5, o6, o7⟩ := O
  obtain ⟨c1, c2, c3, c4, c5, c6, c7⟩ := C
  obtain ⟨hp, hv⟩ := o6 h0
  have hdv : (v + pc) / F ≤ v + pc := Nat.div_le_self _ _
  have hm : hI (setI (setI h a 3 (nI (np F p pc bk))) a 6 (nI pc)) a 5 = nI v := by rw [hI_setI, if_neg (by omega), hI_setI, if_neg (by omega)]; exact c4
  obtain ⟨k', e, q1, q2, q3, q4⟩ := C153l (rb := rb) (dr := dr) (jd := jd) hd h0 o1 d ((v + pc) / F) 0 (v + pc) t (setI (setI (setI h a 3 (nI (np F p pc bk))) a 6 (nI pc)) a 5 (nI (v + pc))) rfl (by omega) (by omega) o2 w (by rw [hI_setI, if_pos ⟨rfl, rfl⟩]) (by rw [hI_setI, if_neg (by omega), hI_setI, if_neg (by omega), hI_setI, if_neg (by omega)]; exact c3) (by rw [hI_setI, if_neg (by omega), hI_setI, if_neg (by omega), hI_setI, if_neg (by omega)]; exact c1)
  refine ⟨k', ?_, q1, ?_, ?_, q2, q3, fun b i hb => ?_⟩
  · have s1 : cW (d + 2) 153 [rz_r (some a), rz_i (nI pc), rz_i (bI1 bk)] h = rW (d + 1) 153 (20, (0, 0), [some (rz_r (some a)), some (rz_i (nI pc)), some (rz_i (bI1 bk)), none], [], setI h a 3 (nI (np F p pc bk))) := by
      rw [X153]
      have z0 : (0 : Int32) < nI F := nI_lt (a := 0) h0 (by omega)
      cases bk with
      | false =>
        have ff := T276 d h (nI p + nI pc) h0 (by omega)
        rw [np_f (by omega) (by omega)] at ff
        simp only [↓cd_d, bI1, Bool.false_eq_true, ↓reduceIte, cd_t, WD w hd, c1, c2, z0, ff, bI_some]
      | true =>
        have ff := T276 d h (nI p - nI pc) h0 (by omega)
        rw [np_b h0 (by omega) (by omega)] at ff
        simp only [↓cd_d, bI1, ↓reduceIte, c10, cd_t, WD w hd, c1, c2, z0, ff, bI_some]
    rw [s1, X153_20]
    simp only [cd_t, okO_setI, WD w hd]
    rw [X153_23]
    simp only [cd_t, okO_setI, WD w hd, hm, nI_add]
    rw [X153_29]
    exact e _ _
  · rw [q4 a 3 (by omega), hI_setI, if_neg (by omega), hI_setI, if_neg (by omega), hI_setI, if_pos ⟨rfl, rfl⟩]
  · rw [q4 a 6 (by omega), hI_setI, if_neg (by omega), hI_setI, if_pos ⟨rfl, rfl⟩]
  · rw [q4 b i (by omega), hI_setI, if_neg (by omega), hI_setI, if_neg (by omega), hI_setI, if_neg (by omega)]
theorem C154 {rb dr : Nat} {jd : Option Nat} {h : rz_H} (w : Wf rb dr jd h) {a : Nat} (hd : isD a) {p ep wr : Nat} (hp : p < 16) (e3 : hI h a 3 = nI p) (e1 : hI h (a + 2) p = nI ep) (he : ep ≤ 99) (hw : wr ≤ 99) (d : Nat) : cW (d + 2) 154 [rz_r (some a), rz_i (nI wr)] h = some (rz_i 0, setI h (a + 2) p (nI (min 99 (ep + wr)))) := by
  have u : mn (99 : Int32) (nI (ep + wr)) = nI (min 99 (ep + wr)) := mn_nI (a := 99) (by omega) (by omega)
  rw [E154]
  simp (disch := omega) only [↓cd_d, ↓irem_eq_mod, ↓ob_setI, ↓ob_chI, ↓ob_some, bI_some, bV_some, bR_some, bL_some, ob_some, cd_t, cd_f, okO_setI, okA_setI, okL_setI, aLen_setI, hR_setI, hI_setI, Bool.true_and, Bool.and_true, Bool.and_self, Option.isNone_some, Option.isSome_some, Option.isNone_none, Option.isSome_none, okO_chI, okA_chI, okL_chI, aLen_chI, hR_chI, ↓reduceIte, not_true_eq_false, not_false_eq_true, eq_self, c10, Nat.zero_add, nI_add, litA, litB, litM, nI_mul, nI_leI, nI_ltI, nI_eq, litLe, litLe2, litLt, litLt2, litEq, litEq2, in_nI, lit_in, nI_clamp, lit_cl, if_pos, if_neg, ↓WDb w hd, WD w hd, e3, e1, T278, u]
theorem okO_setR (h : rz_H) (a i : Nat) (v : Option Nat) (b : Nat) (cs : List Nat) : okO (setR h a i v) b cs = okO h b cs := rfl
theorem rf_95 : ∀ q ∈ RF, ¬ (q.1 = 95 ∧ q.2.1 = 4) := by decide +kernel
theorem Wf.jd {rb dr : Nat} {jd : Option Nat} {h : rz_H} (w : Wf rb dr jd h) (r : Option Nat) : Wf rb dr r (setR h 95 4 r) := by
  obtain ⟨w1, w2, w3, w4, w5, w6⟩ := w
  refine ⟨w1, fun q hq => ?_, w3, w4, ?_, w6⟩
  · have := rf_95 q hq
    show (if q.1 = 95 ∧ q.2.1 = 4 then r else hR h q.1 q.2.1) = some q.2.2
    rw [if_neg this]
    exact w2 q hq
  · show (if 95 = 95 ∧ 4 = 4 then r else hR h 95 4) = r
    rw [if_pos ⟨rfl, rfl⟩]
theorem C188 {rb dr : Nat} {jd : Option Nat} {h : rz_H} (w : Wf rb dr jd h) {h0 : rz_H} (R : LwRel h0 rb) (E : Ecl h0 rb h) {A k : Nat} (hA : isL A) (hk : k < 8) {T : TU} (O : tO T) (C : tC h (A + 2 + 3 * k) T) (hF : 0 < T.1) {tk x : Nat} (ht : hI h A 1 = nI tk) (htk : tk < 10000) (hx : hI h A 2 = nI x) (hx2 : x ≤ 65535) (d : Nat) : ∃ h', cW (d + 7) 188 [rz_r (some A), rz_i (nI k), rz_r (some (A + 2 + 3 * k)), rz_r (some 95)] h = some (rz_i (nI (trn h0 k tk (lcg x) T).2.2.2.2.1), h') ∧ Wf rb dr (some (A + 2 + 3 * k)) h' ∧ tC h' (A + 2 + 3 * k) (trn h0 k tk (lcg x) T) ∧ hI h' A 2 = nI (lcg x) ∧ ∀ b i, ¬ (b = A ∧ i = 2) → b ≠ A + 2 + 3 * k → b ≠ A + 2 + 3 * k + 1 → b ≠ A + 2 + 3 * k + 2 → b ≠ 95 → b ≠ 102 → hI h' b i = hI h b i := by
  obtain ⟨F, p, t, v, s, q, g, e⟩ := T
  have hF : 0 < F := hF
  have C : Dc h (A + 2 + 3 * k) F p t v s q g e := C
  have O : tOk F p t v s q g e := O
  obtain ⟨-, hd⟩ := WLk w hA hk
  have hA3 : A = 3 ∨ A = 29 ∨ A = 55 := hA
  have hr := lw_rb w
  generalize ha : A + 2 + 3 * k = a at C hd ⊢
  let fa := faT k tk (lcg x) (F, p, t, v, s, q, g, e)
  let h1 := setI h A 2 (nI (lcg x))
  have w1 : Wf rb dr jd h1 := w
  let h2 := setI (setI (setR (setI h1 95 5 (nI k)) 95 4 (some a)) 95 6 (nI tk)) 95 7 (nI (lcg x % 10))
  have w2 : Wf rb dr (some a) h2 := Wf.jd (w : Wf rb dr jd (setI h1 95 5 (nI k))) (some a)
  have x1 : hI h1 A 1 = nI tk := by
    show hI (setI h A 2 (nI (lcg x))) A 1 = _
    rw [hI_setI, if_neg (by omega)]; exact ht
  have x2 : hI h1 A 2 = nI (lcg x) := by
    show hI (setI h A 2 (nI (lcg x))) A 2 = _
    rw [hI_setI, if_pos ⟨rfl, rfl⟩]
  have ou2 : ∀ b i, ¬ (b = A ∧ i = 2) → b ≠ 95 → hI h2 b i = hI h b i := fun b i n1 n2 => by
    show hI (setI (setI (setR (setI (setI h A 2 (nI (lcg x))) 95 5 (nI k)) 95 4 (some a)) 95 6 (nI tk)) 95 7 (nI (lcg x % 10))) b i = _
    rw [hI_setI, if_neg (by omega), hI_setI, if_neg (by omega), hI_setR, hI_setI, if_neg (by omega), hI_setI, if_neg n1]
  have f5 : hI h2 95 5 = nI k := by
    show hI (setI (setI (setR (setI h1 95 5 (nI k)) 95 4 (some a)) 95 6 (nI tk)) 95 7 (nI (lcg x % 10))) 95 5 = _
    rw [hI_setI, if_neg (by omega), hI_setI, if_neg (by omega), hI_setR, hI_setI, if_pos ⟨rfl, rfl⟩]
  have f6 : hI h2 95 6 = nI tk := by
    show hI (setI (setI (setR (setI h1 95 5 (nI k)) 95 4 (some a)) 95 6 (nI tk)) 95 7 (nI (lcg x % 10))) 95 6 = _
    rw [hI_setI, if_neg (by omega), hI_setI, if_pos ⟨rfl, rfl⟩]
  have f7 : hI h2 95 7 = nI (lcg x % 10) := by
    show hI (setI (setI (setR (setI h1 95 5 (nI k)) 95 4 (some a)) 95 6 (nI tk)) 95 7 (nI (lcg x % 10))) 95 7 = _
    rw [hI_setI, if_pos ⟨rfl, rfl⟩]
  have C2 : Dc h2 a F p t v s q g e := C.to (fun b hb i => ou2 b i (by omega) (by omega))
  have l2 : lkd fa h2 := fun k2 j v9 hv d => C173 (w2.e j.1) hd O (C2.to (fun b hb i => j.2 b i (by omega) (by omega))) hF ((j.2 95 5 (by omega) (by omega)).trans f5) ((j.2 95 6 (by omega) (by omega)).trans f6) htk ((j.2 95 7 (by omega) (by omega)).trans f7) hv d
  have E2 : Ecl h0 rb h2 := fun b i y1 y2 => (ou2 b i (by omega) (by omega)).trans (E b i y1 y2)
  have e167 : ∀ d, cW (d + 1) 167 [rz_r (some 95), rz_i (nI k), rz_r (some a), rz_i (nI tk), rz_i (nI (lcg x % 10))] h1 = some (rz_i 0, h2) := fun d => by
    rw [E167]
    simp only [cd_t, okO_setI, okO_setR, WJg w1]
    rfl
  obtain ⟨k3, e3, j3⟩ := C168 w2 R (L := 118) (Or.inl rfl) (H := 15) (by omega) E2 l2 (d + 1)
  obtain ⟨k4, e4, j4⟩ := C169 (w2.e j3.1) R 108 (E2.jf (by omega) j3) (l2.jf j3) (d + 1)
  have j4 := j3.trans j4
  obtain ⟨k5, e5, j5⟩ := C168 (w2.e j4.1) R (L := 97) (Or.inr rfl) (H := 99) (by omega) (E2.jf (by omega) j4) (l2.jf j4) (d + 1)
  have j5 := j4.trans j5
  obtain ⟨k6, e6, j6⟩ := C169 (w2.e j5.1) R 120 (E2.jf (by omega) j5) (l2.jf j5) (d + 1)
  have j6 := j5.trans j6
  have w6 : Wf rb dr (some a) k6 := w2.e j6.1
  have C6 : Dc k6 a F p t v s q g e := C2.to (fun b hb i => j6.2 b i (by omega) (by omega))
  have hpc := lwV_le h0 fa 118 15
  have hwr := lwV_le h0 fa 97 99
  generalize hpc' : lwV h0 fa 118 15 = pc at e3 hpc
  generalize hwr' : lwV h0 fa 97 99 = wr at e5 hwr
  generalize hbk' : lwB h0 fa 108 = bk at e4
  generalize hfr' : lwB h0 fa 120 = fr at e6
  have htr : trn h0 k tk (lcg x) (F, p, t, v, s, q, g, e) = trT (F, p, t, v, s, q, g, e) pc wr bk fr := by
    unfold trn
    rw [show faT k tk (lcg x) (F, p, t, v, s, q, g, e) = fa from rfl, hpc', hwr', hbk', hfr']
  rw [htr]
  obtain ⟨k7, e7, y1, y2, y3, y4, y5, y6⟩ := C153 w6 hd O C6 hF hpc bk (d + 4)
  have w7 : Wf rb dr (some a) k7 := w6.e y1
  have hnp := np_lt hF p pc bk
  obtain ⟨o1, o2, o3, o4, o5, o6, o7⟩ := O
  have hnp16 : np F p pc bk < 16 := by omega
  have e8a : hI k7 (a + 2) (np F p pc bk) = nI (e (np F p pc bk)) := (y6 _ _ (by omega)).trans (C6.2.2.2.2.2.2 _ hnp).2
  have e8 := C154 w7 hd hnp16 y2 e8a (o7 _ hnp).2 hwr (d + 4)
  let k8 := setI k7 (a + 2) (np F p pc bk) (nI (min 99 (e (np F p pc bk) + wr)))
  have w8 : Wf rb dr (some a) k8 := w7
  have z7 : hI k8 a 7 = nI q := by
    show hI (setI k7 (a + 2) (np F p pc bk) (nI (min 99 (e (np F p pc bk) + wr)))) a 7 = _
    rw [hI_setI, if_neg (by omega), y6 a 7 (by omega)]; exact C6.2.2.2.2.2.1
  let k9 := if fr = true then setI k8 a 7 1 else k8
  have w9 : Wf rb dr (some a) k9 := by
    show Wf rb dr (some a) (if fr = true then setI k8 a 7 1 else k8)
    split
    · exact w8
    · exact w8
  have o9 : ∀ b i, ¬ (b = a ∧ i = 7) → hI k9 b i = hI k8 b i := fun b i n => by
    show hI (if fr = true then setI k8 a 7 1 else k8) b i = _
    split
    · rw [hI_setI, if_neg n]
    · rfl
  have o8 : ∀ b i, ¬ (b = a + 2 ∧ i = np F p pc bk) → hI k8 b i = hI k7 b i := fun b i n => by
    show hI (setI k7 (a + 2) (np F p pc bk) (nI (min 99 (e (np F p pc bk) + wr)))) b i = _
    rw [hI_setI, if_neg n]
  refine ⟨k9, ?_, w9, ⟨?_, ?_, ?_, ?_, ?_, ?_, fun i hi => ⟨?_, ?_⟩⟩, ?_, fun b i n1 n2 n3 n4 n5 n6 => ?_⟩
  · rw [X188]
    have le := lcg_e hx2
    simp (disch := omega) only [↓cd_d, ↓irem_eq_mod, ↓ob_setI, ↓ob_chI, ↓ob_some, bI_some, bV_some, bR_some, bL_some, ob_some, cd_t, cd_f, okO_setI, okA_setI, okL_setI, aLen_setI, hR_setI, hI_setI, Bool.true_and, Bool.and_true, Bool.and_self, Option.isNone_some, Option.isSome_some, Option.isNone_none, Option.isSome_none, okO_chI, okA_chI, okL_chI, aLen_chI, hR_chI, ↓reduceIte, not_true_eq_false, not_false_eq_true, eq_self, c10, Nat.zero_add, nI_add, litA, litB, litM, nI_mul, nI_leI, nI_ltI, nI_eq, litLe, litLe2, litLt, litLt2, litEq, litEq2, in_nI, lit_in, nI_clamp, lit_cl, if_pos, if_neg, WLd w hA, hx, le]
    rw [show setI h A 2 (nI (lcg x)) = h1 from rfl, X188_10]
    have md := nI_mod (a := lcg x) (b := 10) (by have := lcg_le x; omega) (by omega) (by omega)
    rw [show nI 10 = (10 : Int32) from rfl] at md
    simp only [bI_some, bV_some, bR_some, bL_some, ob_some, cd_t, cd_f, cd_d, okO_setI, okA_setI, okL_setI, aLen_setI, hR_setI, hI_setI, Bool.true_and, Bool.and_true, Bool.and_self, Option.isNone_some, Option.isSome_some, Option.isNone_none, Option.isSome_none, okO_chI, okA_chI, okL_chI, aLen_chI, hR_chI, ↓reduceIte, not_true_eq_false, not_false_eq_true, eq_self, c10, ↓irem_eq_mod, WLd w1 hA, WJg w1, x1, x2, md, e167]
    rw [X188_20]
    simp only [↓ob_some, cd_t, bI_some, bV_some, WJg w2, WJg (w2.e j3.1), WJg (w2.e j4.1), WJg (w2.e j5.1), show (15 : Int32) = nI 15 from rfl, show (99 : Int32) = nI 99 from rfl, e3, e4, e5, e6, WD w6 hd, e7]
    rw [X188_42]
    simp only [↓ob_some, cd_t, bV_some, WD w7 hd, e8]
    rw [X188_45]
    cases fr with
    | false =>
      simp only [↓cd_d, bI1, Bool.false_eq_true, ↓reduceIte, X188_50]
      rfl
    | true =>
      have d1 : (decide ((1 : Int32) = 0) || decide ((1 : Int32) = 1)) = true := rfl
      have e151 : ∀ d, cW (d + 1) 151 [rz_r (some a), rz_i 1] k8 = some (rz_i 0, setI k8 a 7 1) := fun d => by
        rw [E151, d1]
        simp only [bI_some, bV_some, bR_some, bL_some, ob_some, cd_t, cd_f, cd_d, okO_setI, okA_setI, okL_setI, aLen_setI, hR_setI, hI_setI, Bool.true_and, Bool.and_true, Bool.and_self, Option.isNone_some, Option.isSome_some, Option.isNone_none, Option.isSome_none, okO_chI, okA_chI, okL_chI, aLen_chI, hR_chI, ↓reduceIte, not_true_eq_false, not_false_eq_true, eq_self, c10, WD w8 hd]
      simp only [↓cd_d, bI1, ↓reduceIte, c10, ↓ob_some, cd_t, bV_some, okO_setI, WD w7 hd, show setI k7 (a + 2) (np F p pc bk) (nI (min 99 (e (np F p pc bk) + wr))) = k8 from rfl, e151, WD w8 hd, X188_50]
      rfl
  · rw [o9 a 2 (by omega), o8 a 2 (by omega), y6 a 2 (by omega)]; exact C6.1
  · rw [o9 a 3 (by omega), o8 a 3 (by omega)]; exact y2
  · rw [o9 a 4 (by omega), o8 a 4 (by omega)]; exact y5
  · rw [o9 a 5 (by omega), o8 a 5 (by omega)]; exact y4
  · rw [o9 a 6 (by omega), o8 a 6 (by omega)]; exact y3
  · show hI (if fr = true then setI k8 a 7 1 else k8) a 7 = nI (if fr = true then 1 else q)
    cases fr with
    | false => exact z7
    | true => show hI (setI k8 a 7 1) a 7 = nI 1; rw [hI_setI, if_pos ⟨rfl, rfl⟩]; rfl
  · rw [o9 (a + 1) i (by omega), o8 (a + 1) i (by omega), y6 (a + 1) i (by omega)]; exact (C6.2.2.2.2.2.2 i hi).1
  · rw [o9 (a + 2) i (by omega)]
    show hI (setI k7 (a + 2) (np F p pc bk) (nI (min 99 (e (np F p pc bk) + wr)))) (a + 2) i = nI (if i = np F p pc bk then min 99 (e (np F p pc bk) + wr) else e i)
    rw [hI_setI]
    by_cases ci : i = np F p pc bk
    · rw [if_pos ⟨rfl, ci⟩, if_pos ci]
    · rw [if_neg (fun z => ci z.2), if_neg ci, y6 (a + 2) i (by omega)]; exact (C6.2.2.2.2.2.2 i hi).2
  · have aA : a ≠ A := by omega
    rw [o9 A 2 (by omega), o8 A 2 (by omega), y6 A 2 (by omega), j6.2 A 2 (by omega) (by omega)]
    show hI (setI (setI (setR (setI h1 95 5 (nI k)) 95 4 (some a)) 95 6 (nI tk)) 95 7 (nI (lcg x % 10))) A 2 = _
    rw [hI_setI, if_neg (by omega), hI_setI, if_neg (by omega), hI_setR, hI_setI, if_neg (by omega)]
    exact x2
  · rw [o9 b i (by omega), o8 b i (by omega), y6 b i (by omega), j6.2 b i (by omega) (by omega), ou2 b i n1 n5]
