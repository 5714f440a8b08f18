/-! what the law's codes come to: a pure run, and the model's -/
theorem nI_div {a b : Nat} (ha : a < 2 ^ 31) (hb : b < 2 ^ 31) : nI a / nI b = nI (a / b) := by
  apply Int32.toInt_inj.mp
  have h1 := Nat.div_le_self a b
  rw [Int32.toInt_div, nI_toInt ha, nI_toInt hb, ← Int.ofNat_tdiv]
  generalize a / b = c at h1 ⊢
  rw [nI_toInt (by omega), Int.bmod_eq_of_le (by omega) (by omega)]
def udx (s : Nat → Int32) (i : Nat) (v : Int32) : Nat → Int32 := fun k => if k = i then v else s k
theorem udx_eq (s : Nat → Int32) (i : Nat) (v : Int32) : udx s i v i = v := if_pos rfl
theorem udx_ne (s : Nat → Int32) {i k : Nat} (v : Int32) (h : k ≠ i) : udx s i v k = s k := if_neg h
def rck (op : Nat) (x y : Int32) : Int32 := if op = 2 then x + y else if op = 3 then x - y else if op = 4 then x * y else if op = 5 then x / y else if op = 6 then x - x / y * y else if op = 7 then (if y ≤ x then 0 else 1) else if op = 8 then (if x ≤ y then 0 else 1) else if x = y then 1 else 0
def evl (cd : Nat → Nat) (fa : Nat → Int32) (ms n : Nat) : Nat → Nat → Nat → (Nat → Int32) → Int32
  | 0, _, _, _ => 0
  | f + 1, j, p, s => if n ≤ j then s 0 else
    if cd (ms + j) / 1048576 = 0 then evl cd fa ms n f (j + 1) (p + 1) (udx s p (nI (cd (ms + j) % 1048576)))
    else if cd (ms + j) / 1048576 = 1 then evl cd fa ms n f (j + 1) (p + 1) (udx s p (fa (cd (ms + j) % 1048576)))
    else if cd (ms + j) / 1048576 = 10 then evl cd fa ms n f (j + 1) p (udx s (p - 1) (1 - s (p - 1)))
    else if cd (ms + j) / 1048576 = 11 then (if s (p - 1) = 0 then evl cd fa ms n f (cd (ms + j) % 1048576 - ms) p s else evl cd fa ms n f (j + 1) (p - 1) s)
    else if cd (ms + j) / 1048576 = 12 then (if s (p - 1) = 1 then evl cd fa ms n f (cd (ms + j) % 1048576 - ms) p s else evl cd fa ms n f (j + 1) (p - 1) s)
    else if (cd (ms + j) / 1048576 = 5 ∨ cd (ms + j) / 1048576 = 6) ∧ s (p - 1) = 0 then 0
    else evl cd fa ms n f (j + 1) (p - 1) (udx s (p - 2) (rck (cd (ms + j) / 1048576) (s (p - 2)) (s (p - 1))))
section
variable {cd : Nat → Nat} {fa : Nat → Int32} {ms n f j p : Nat} {s : Nat → Int32}
theorem evl_end (h : n ≤ j) : evl cd fa ms n (f + 1) j p s = s 0 := by
  unfold evl
  rw [if_pos h]
theorem evl_num (h : j < n) {v : Nat} (hc : cd (ms + j) = v) (hv : v < 1048576) : evl cd fa ms n (f + 1) j p s = evl cd fa ms n f (j + 1) (p + 1) (udx s p (nI v)) := by
  rw [evl, if_neg (by omega), hc, if_pos (by omega), Nat.mod_eq_of_lt hv]
theorem evl_let (h : j < n) {v : Nat} (hc : cd (ms + j) = 1048576 + v) (hv : v < 9) : evl cd fa ms n (f + 1) j p s = evl cd fa ms n f (j + 1) (p + 1) (udx s p (fa v)) := by
  rw [evl, if_neg (by omega), hc, if_neg (by omega), if_pos (by omega), show (1048576 + v) % 1048576 = v by omega]
theorem evl_not (h : j < n) (hc : cd (ms + j) = 1048576 * 10) : evl cd fa ms n (f + 1) j (p + 1) s = evl cd fa ms n f (j + 1) (p + 1) (udx s p (1 - s p)) := by
  rw [evl, if_neg (by omega), hc, if_neg (by omega), if_neg (by omega), if_pos (by omega)]
  rfl
theorem evl_jn (h : j < n) {t : Nat} (hc : cd (ms + j) = 1048576 * 11 + (ms + t)) (ht : ms + t < 1048576) : evl cd fa ms n (f + 1) j (p + 1) s = if s p = 0 then evl cd fa ms n f t (p + 1) s else evl cd fa ms n f (j + 1) p s := by
  rw [evl, if_neg (by omega), hc, if_neg (by omega), if_neg (by omega), if_neg (by omega), if_pos (by omega), show (1048576 * 11 + (ms + t)) % 1048576 - ms = t by omega]
  rfl
theorem evl_jh (h : j < n) {t : Nat} (hc : cd (ms + j) = 1048576 * 12 + (ms + t)) (ht : ms + t < 1048576) : evl cd fa ms n (f + 1) j (p + 1) s = if s p = 1 then evl cd fa ms n f t (p + 1) s else evl cd fa ms n f (j + 1) p s := by
  rw [evl, if_neg (by omega), hc, if_neg (by omega), if_neg (by omega), if_neg (by omega), if_neg (by omega), if_pos (by omega), show (1048576 * 12 + (ms + t)) % 1048576 - ms = t by omega]
  rfl
theorem evl_op (h : j < n) {g : Nat} (hg : g < 8) (hc : cd (ms + j) = 1048576 * (2 + g)) : evl cd fa ms n (f + 1) j (p + 2) s = if (g = 3 ∨ g = 4) ∧ s (p + 1) = 0 then 0 else evl cd fa ms n f (j + 1) (p + 1) (udx s p (rck (2 + g) (s p) (s (p + 1)))) := by
  rw [evl, if_neg (by omega), hc, if_neg (by omega), if_neg (by omega), if_neg (by omega), if_neg (by omega), if_neg (by omega), show 1048576 * (2 + g) / 1048576 = 2 + g by omega]
  have e1 : p + 2 - 1 = p + 1 := rfl
  have e2 : p + 2 - 2 = p := rfl
  rw [e1, e2]
  by_cases c : (g = 3 ∨ g = 4) ∧ s (p + 1) = 0
  · rw [if_pos c, if_pos ⟨by omega, c.2⟩]
  · rw [if_neg c, if_neg (fun q => c ⟨by omega, q.2⟩)]
end
/-- the kinds on the stack hold -/
def tyo : List Bool → (Nat → Int32) → Prop
  | [], _ => True
  | b :: r, s => (b = true → s r.length = 0 ∨ s r.length = 1) ∧ tyo r s
theorem tyo_up (i : Nat) (v : Int32) (s : Nat → Int32) : ∀ r : List Bool, r.length ≤ i → tyo r s → tyo r (udx s i v)
  | [], _, _ => trivial
  | b :: r, hl, h => by
    have hl : r.length + 1 ≤ i := hl
    refine ⟨fun hb => ?_, tyo_up i v s r (by omega) h.2⟩
    rw [udx_ne s v (by omega)]
    exact h.1 hb
theorem tyo_ps (v : Int32) (s : Nat → Int32) (b : Bool) (r : List Bool) (h : tyo r s) (hv : b = true → v = 0 ∨ v = 1) : tyo (b :: r) (udx s r.length v) := by
  refine ⟨fun hb => ?_, tyo_up _ _ _ _ (Nat.le_refl _) h⟩
  rw [udx_eq]
  exact hv hb
theorem rck_01 {g : Nat} (h : 5 ≤ g) (x y : Int32) : rck (2 + g) x y = 0 ∨ rck (2 + g) x y = 1 := by
  unfold rck
  rw [if_neg (by omega), if_neg (by omega), if_neg (by omega), if_neg (by omega), if_neg (by omega)]
  split
  · split
    · exact Or.inl rfl
    · exact Or.inr rfl
  · split
    · split
      · exact Or.inl rfl
      · exact Or.inr rfl
    · split
      · exact Or.inr rfl
      · exact Or.inl rfl
def cdn (h : rz_H) (i : Nat) : Nat := (hI h 120 i).toNatClampNeg
def tyN (x : Int32) : Int32 := 1 - x
theorem not_01 {x : Int32} (h : x = 0 ∨ x = 1) : 1 - x = 0 ∨ 1 - x = 1 := by
  rcases h with rfl | rfl
  · exact Or.inr rfl
  · exact Or.inl rfl
/-- a test comes to 0 or 1 -/
theorem ev_01 {h0 : rz_H} {fa : Nat → Int32} {wl cs ms n : Nat} {ty : Nat → List Bool} (hn : ms + n ≤ 260) (tn : ty n = [true]) (ops : ∀ j, j < n → OpR (hI h0 (wl + 4) (cs + j)) (hI h0 (wl + 5) (cs + j)) cs (hI h0 120 (ms + j)) ms n j ty) : ∀ f j p s, j ≤ n → p = (ty j).length → tyo (ty j) s → evl (cdn h0) fa ms n f j p s = 0 ∨ evl (cdn h0) fa ms n f j p s = 1 := by
  intro f
  induction f with
  | zero => intro j p s _ _ _; exact Or.inl rfl
  | succ f ih =>
    intro j p s hj hp ht
    by_cases hjn : j = n
    · subst hjn
      rw [evl_end (Nat.le_refl _)]
      rw [tn] at ht
      exact ht.1 rfl
    · have hlt : j < n := by omega
      rcases ops j hlt with ⟨v, a1, a2, a3, a4, a5⟩ | ⟨v, a1, a2, a3, a4, a5⟩ | ⟨g, a, b, r, a1, a2, a3, a4, a5⟩ | ⟨r, a1, a2, a3, a4⟩ | ⟨t, r, a1, a2, a3, a4, a5, a6, a7, a8⟩ | ⟨t, r, a1, a2, a3, a4, a5, a6, a7, a8⟩
      · have hc : cdn h0 (ms + j) = v := by unfold cdn; rw [a4, nI_clamp (by omega)]
        rw [evl_num hlt hc (by omega)]
        refine ih (j + 1) (p + 1) _ hlt (by rw [a5, hp]; rfl) ?_
        rw [a5, hp]
        exact tyo_ps _ _ _ _ ht (fun q => absurd q (by simp))
      · have hc : cdn h0 (ms + j) = 1048576 + v := by unfold cdn; rw [a4, nI_clamp (by omega)]
        rw [evl_let hlt hc (by omega)]
        refine ih (j + 1) (p + 1) _ hlt (by rw [a5, hp]; rfl) ?_
        rw [a5, hp]
        exact tyo_ps _ _ _ _ ht (fun q => absurd q (by simp))
      · have hc : cdn h0 (ms + j) = 1048576 * (2 + g) := by unfold cdn; rw [a3, nI_clamp (by omega)]
        rw [a4] at hp ht
        have hp : p = r.length + 2 := hp
        subst hp
        rw [evl_op hlt a1 hc]
        split
        · exact Or.inl rfl
        · refine ih (j + 1) (r.length + 1) _ hlt (by rw [a5]; rfl) ?_
          rw [a5]
          exact tyo_ps _ _ _ _ ht.2.2 (fun q => rck_01 (of_decide_eq_true q) _ _)
      · have hc : cdn h0 (ms + j) = 1048576 * 10 := by unfold cdn; rw [a2, nI_clamp (by omega)]
        rw [a3] at hp ht
        have hp : p = r.length + 1 := hp
        subst hp
        rw [evl_not hlt hc]
        refine ih (j + 1) (r.length + 1) _ hlt (by rw [a4]; rfl) ?_
        rw [a4]
        exact tyo_ps _ _ _ _ ht.2 (fun _ => not_01 (ht.1 rfl))
      · have hc : cdn h0 (ms + j) = 1048576 * 11 + (ms + t) := by unfold cdn; rw [a3, nI_clamp (by omega)]
        rw [a4] at hp
        have hp : p = r.length + 1 := hp
        subst hp
        rw [evl_jn hlt hc (by omega)]
        split
        · refine ih t (r.length + 1) s a7 (by rw [a8, a4]; rfl) (by rw [a8]; exact ht)
        · rw [a4] at ht
          exact ih (j + 1) r.length s hlt (by rw [a5]) (by rw [a5]; exact ht.2)
      · have hc : cdn h0 (ms + j) = 1048576 * 12 + (ms + t) := by unfold cdn; rw [a3, nI_clamp (by omega)]
        rw [a4] at hp
        have hp : p = r.length + 1 := hp
        subst hp
        rw [evl_jh hlt hc (by omega)]
        split
        · refine ih t (r.length + 1) s a7 (by rw [a8, a4]; rfl) (by rw [a8]; exact ht)
        · rw [a4] at ht
          exact ih (j + 1) r.length s hlt (by rw [a5]) (by rw [a5]; exact ht.2)
theorem M71 (d : Nat) (h : rz_H) {g : Nat} (hg : g < 8) (x y : Int32) (hy : ¬ ((g = 3 ∨ g = 4) ∧ y = 0)) : cW (d + 1) 71 [rz_i (nI (2 + g)), rz_i x, rz_i y] h = some (rz_i (rck (2 + g) x y), h) := by
  rw [E71]
  simp only [cd_d]
  rcases (show g = 0 ∨ g = 1 ∨ g = 2 ∨ g = 3 ∨ g = 4 ∨ g = 5 ∨ g = 6 ∨ g = 7 by omega) with rfl | rfl | rfl | rfl | rfl | rfl | rfl | rfl
  · rw [if_pos (by decide)]; rfl
  · rw [if_neg (by decide), if_pos (by decide)]; rfl
  · rw [if_neg (by decide), if_neg (by decide), if_pos (by decide)]; rfl
  · rw [if_neg (by decide), if_neg (by decide), if_neg (by decide), if_pos (by decide), if_pos (fun q => hy ⟨Or.inl rfl, q⟩)]; rfl
  · rw [if_neg (by decide), if_neg (by decide), if_neg (by decide), if_neg (by decide), if_pos (by decide), if_pos (fun q => hy ⟨Or.inr rfl, q⟩)]; rfl
  · rw [if_neg (by decide), if_neg (by decide), if_neg (by decide), if_neg (by decide), if_neg (by decide), if_pos (by decide)]
    have : rck (2 + 5) x y = if y ≤ x then 0 else 1 := rfl
    rw [this]
    split <;> rfl
  · rw [if_neg (by decide), if_neg (by decide), if_neg (by decide), if_neg (by decide), if_neg (by decide), if_neg (by decide), if_pos (by decide)]
    have : rck (2 + 6) x y = if x ≤ y then 0 else 1 := rfl
    rw [this]
    split <;> rfl
  · rw [if_neg (by decide), if_neg (by decide), if_neg (by decide), if_neg (by decide), if_neg (by decide), if_neg (by decide), if_neg (by decide)]
    have : rck (2 + 7) x y = if x = y then 1 else 0 := rfl
    rw [this]
    by_cases c : x = y
    · rw [if_neg (fun q => q c), if_pos c]
    · rw [if_pos c, if_neg c]
def Em (h0 : rz_H) (fa : Nat → Int32) (k : rz_H) : Prop := (∀ i, hI k 120 i = hI h0 120 i) ∧ ∀ v, v < 9 → hI k 126 v = fa v
theorem MR {rb dr : Nat} {jd : Option Nat} {h0 : rz_H} {fa : Nat → Int32} {wl cs ms n : Nat} {tp : Bool} {ty : Nat → List Bool} (hn : ms + n ≤ 260) (tn : ty n = [tp]) (tl : ∀ j, j ≤ n → (ty j).length ≤ 60) (ops : ∀ j, j < n → OpR (hI h0 (wl + 4) (cs + j)) (hI h0 (wl + 5) (cs + j)) cs (hI h0 120 (ms + j)) ms n j ty) (d : Nat) : ∀ f j p s k, n - j < f → j ≤ n → p = (ty j).length → Wf rb dr jd k → Em h0 fa k → (∀ i, i < p → hI k 125 i = s i) → ∃ k', (∀ j1 j6 j7, rW (d + 1) 72 (10, (0, 0), [some (rz_r (some 109)), j1, some (rz_i (nI (ms + n))), some (rz_i (nI p)), some (rz_i 0), some (rz_i (nI (ms + j))), j6, j7], [], k) = some (rz_i (evl (cdn h0) fa ms n f j p s), k')) ∧ k'.2 = k.2 ∧ ∀ b i, b ≠ 125 → hI k' b i = hI k b i := by
  intro f
  induction f with
  | zero => intro j p s k hf; omega
  | succ f ih =>
    intro j p s k hf hj hp w E hs
    have hp60 := tl j hj
    by_cases hjn : j = n
    · subst hjn
      rw [tn] at hp
      have hp : p = 1 := hp
      subst hp
      refine ⟨k, fun j1 j6 j7 => ?_, rfl, fun _ _ _ => rfl⟩
      rw [evl_end (Nat.le_refl _), X72_10]
      simp (disch := omega) only [↓cd_d, ↓irem_eq_mod, ↓ob_setI, ↓ob_chI, ↓ob_some, bI_some, bV_some, bR_some, bL_some, ob_some, cd_t, cd_f, okO_setI, okA_setI, okL_setI, aLen_setI, hR_setI, hI_setI, Bool.true_and, Bool.and_true, Bool.and_self, Option.isNone_some, Option.isSome_some, Option.isNone_none, Option.isSome_none, okO_chI, okA_chI, okL_chI, aLen_chI, hR_chI, ↓reduceIte, not_true_eq_false, not_false_eq_true, eq_self, c10, Nat.zero_add, nI_add, litA, litB, litM, nI_mul, nI_leI, nI_ltI, nI_eq, litLe, litLe2, litLt, litLt2, litEq, litEq2, in_nI, lit_in, nI_clamp, lit_cl, if_pos, if_neg, X72_13, X72_20, X72_27, X72_31, X72_33, X72_36, X72_48, X72_52, X72_53, X72_56, X72_70, X72_71, X72_74, X72_77, X72_90, X72_94, X72_95, X72_99, X72_100, X72_104, X72_107, X72_110, X72_115, X72_117, X72_135, X72_136, ↓WMb w, WMd w, hs]
    · have hlt : j < n := by omega
      have dv : ∀ N, N < 2 ^ 31 → nI N / (1048576 : Int32) = nI (N / 1048576) := fun N hN => nI_div (b := 1048576) hN (by omega)
      have md : ∀ N, N < 2 ^ 31 → nI N % (1048576 : Int32) = nI (N % 1048576) := fun N hN => nI_mod (b := 1048576) hN (by omega) (by omega)
      rcases ops j hlt with ⟨v, a1, a2, a3, a4, a5⟩ | ⟨v, a1, a2, a3, a4, a5⟩ | ⟨g, a, b, r, a1, a2, a3, a4, a5⟩ | ⟨r, a1, a2, a3, a4⟩ | ⟨t, r, a1, a2, a3, a4, a5, a6, a7, a8⟩ | ⟨t, r, a1, a2, a3, a4, a5, a6, a7, a8⟩
      · have hc : cdn h0 (ms + j) = v := by unfold cdn; rw [a4, nI_clamp (by omega)]
        have hk := (E.1 (ms + j)).trans a4
        obtain ⟨k', e, q1, q2⟩ := ih (j + 1) (p + 1) (udx s p (nI v)) (setI k 125 p (nI v)) (by omega) (by omega) (by rw [a5, hp]; rfl) w ⟨fun i => E.1 i, fun v hv => E.2 v hv⟩ (fun i hi => by
          rw [hI_setI]
          by_cases c : i = p
          · subst c; rw [if_pos ⟨rfl, rfl⟩, udx_eq]
          · rw [if_neg (fun q => c q.2), udx_ne _ _ c]; exact hs i (by omega))
        refine ⟨k', fun j1 j6 j7 => ?_, q1, fun b i hb => (q2 b i hb).trans (by rw [hI_setI, if_neg (fun q => hb q.1)])⟩
        rw [evl_num hlt hc (by omega), X72_10]
        have z0 := dv v (by omega)
        have z1 := md v (by omega)
        rw [show v / 1048576 = 0 by omega] at z0
        rw [show v % 1048576 = v by omega] at z1
        simp (disch := omega) only [↓cd_d, ↓irem_eq_mod, ↓ob_setI, ↓ob_chI, ↓ob_some, bI_some, bV_some, bR_some, bL_some, ob_some, cd_t, cd_f, okO_setI, okA_setI, okL_setI, aLen_setI, hR_setI, hI_setI, Bool.true_and, Bool.and_true, Bool.and_self, Option.isNone_some, Option.isSome_some, Option.isNone_none, Option.isSome_none, okO_chI, okA_chI, okL_chI, aLen_chI, hR_chI, ↓reduceIte, not_true_eq_false, not_false_eq_true, eq_self, c10, Nat.zero_add, nI_add, litA, litB, litM, nI_mul, nI_leI, nI_ltI, nI_eq, litLe, litLe2, litLt, litLt2, litEq, litEq2, in_nI, lit_in, nI_clamp, lit_cl, if_pos, if_neg, X72_13, X72_20, X72_27, X72_31, X72_33, X72_36, X72_48, X72_52, X72_53, X72_56, X72_70, X72_71, X72_74, X72_77, X72_90, X72_94, X72_95, X72_99, X72_100, X72_104, X72_107, X72_110, X72_115, X72_117, X72_135, X72_136, ↓WMb w, WMd w, hk, z0, z1]
        exact e _ _ _
      · have hc : cdn h0 (ms + j) = 1048576 + v := by unfold cdn; rw [a4, nI_clamp (by omega)]
        have hk := (E.1 (ms + j)).trans a4
        obtain ⟨k', e, q1, q2⟩ := ih (j + 1) (p + 1) (udx s p (fa v)) (setI k 125 p (fa v)) (by omega) (by omega) (by rw [a5, hp]; rfl) w ⟨fun i => E.1 i, fun v hv => E.2 v hv⟩ (fun i hi => by
          rw [hI_setI]
          by_cases c : i = p
          · subst c; rw [if_pos ⟨rfl, rfl⟩, udx_eq]
          · rw [if_neg (fun q => c q.2), udx_ne _ _ c]; exact hs i (by omega))
        refine ⟨k', fun j1 j6 j7 => ?_, q1, fun b i hb => (q2 b i hb).trans (by rw [hI_setI, if_neg (fun q => hb q.1)])⟩
        rw [evl_let hlt hc (by omega), X72_10]
        have z0 := dv (1048576 + v) (by omega)
        have z1 := md (1048576 + v) (by omega)
        rw [show (1048576 + v) / 1048576 = 1 by omega] at z0
        rw [show (1048576 + v) % 1048576 = v by omega] at z1
        have z2 := E.2 v a1
        simp (disch := omega) only [↓cd_d, ↓irem_eq_mod, ↓ob_setI, ↓ob_chI, ↓ob_some, bI_some, bV_some, bR_some, bL_some, ob_some, cd_t, cd_f, okO_setI, okA_setI, okL_setI, aLen_setI, hR_setI, hI_setI, Bool.true_and, Bool.and_true, Bool.and_self, Option.isNone_some, Option.isSome_some, Option.isNone_none, Option.isSome_none, okO_chI, okA_chI, okL_chI, aLen_chI, hR_chI, ↓reduceIte, not_true_eq_false, not_false_eq_true, eq_self, c10, Nat.zero_add, nI_add, litA, litB, litM, nI_mul, nI_leI, nI_ltI, nI_eq, litLe, litLe2, litLt, litLt2, litEq, litEq2, in_nI, lit_in, nI_clamp, lit_cl, if_pos, if_neg, X72_13, X72_20, X72_27, X72_31, X72_33, X72_36, X72_48, X72_52, X72_53, X72_56, X72_70, X72_71, X72_74, X72_77, X72_90, X72_94, X72_95, X72_99, X72_100, X72_104, X72_107, X72_110, X72_115, X72_117, X72_135, X72_136, ↓WMb w, WMd w, hk, z0, z1, z2]
        exact e _ _ _
      · have hc : cdn h0 (ms + j) = 1048576 * (2 + g) := by unfold cdn; rw [a3, nI_clamp (by omega)]
        have hk := (E.1 (ms + j)).trans a3
        rw [a4] at hp hp60
        have hp : p = r.length + 2 := hp
        have hp60 : r.length + 2 ≤ 60 := hp60
        generalize hm : r.length = m at hp hp60
        subst hp
        have z0 := dv (1048576 * (2 + g)) (by omega)
        have z1 := md (1048576 * (2 + g)) (by omega)
        rw [show 1048576 * (2 + g) / 1048576 = 2 + g by omega] at z0
        rw [show 1048576 * (2 + g) % 1048576 = 0 by omega] at z1
        have u1 : nI (m + 2) - 1 = nI (m + 1) := nI_pred (m + 1)
        have u2 : nI (m + 1) - 1 = nI m := nI_pred m
        have s1 := hs (m + 1) (by omega)
        have s2 := hs m (by omega)
        rw [evl_op hlt a1 hc]
        by_cases c : (g = 3 ∨ g = 4) ∧ s (m + 1) = 0
        · refine ⟨k, fun j1 j6 j7 => ?_, rfl, fun _ _ _ => rfl⟩
          rw [if_pos c, X72_10]
          have c2 := c.2
          rcases c.1 with rfl | rfl
          · simp (disch := omega) only [↓cd_d, ↓irem_eq_mod, ↓ob_setI, ↓ob_chI, ↓ob_some, bI_some, bV_some, bR_some, bL_some, ob_some, cd_t, cd_f, okO_setI, okA_setI, okL_setI, aLen_setI, hR_setI, hI_setI, Bool.true_and, Bool.and_true, Bool.and_self, Option.isNone_some, Option.isSome_some, Option.isNone_none, Option.isSome_none, okO_chI, okA_chI, okL_chI, aLen_chI, hR_chI, ↓reduceIte, not_true_eq_false, not_false_eq_true, eq_self, c10, Nat.zero_add, nI_add, litA, litB, litM, nI_mul, nI_leI, nI_ltI, nI_eq, litLe, litLe2, litLt, litLt2, litEq, litEq2, in_nI, lit_in, nI_clamp, lit_cl, if_pos, if_neg, X72_13, X72_20, X72_27, X72_31, X72_33, X72_36, X72_48, X72_52, X72_53, X72_56, X72_70, X72_71, X72_74, X72_77, X72_90, X72_94, X72_95, X72_99, X72_100, X72_104, X72_107, X72_110, X72_115, X72_117, X72_135, X72_136, ↓WMb w, WMd w, hk, z0, z1, u1, u2, s1, s2, c2]
          · simp (disch := omega) only [↓cd_d, ↓irem_eq_mod, ↓ob_setI, ↓ob_chI, ↓ob_some, bI_some, bV_some, bR_some, bL_some, ob_some, cd_t, cd_f, okO_setI, okA_setI, okL_setI, aLen_setI, hR_setI, hI_setI, Bool.true_and, Bool.and_true, Bool.and_self, Option.isNone_some, Option.isSome_some, Option.isNone_none, Option.isSome_none, okO_chI, okA_chI, okL_chI, aLen_chI, hR_chI, ↓reduceIte, not_true_eq_false, not_false_eq_true, eq_self, c10, Nat.zero_add, nI_add, litA, litB, litM, nI_mul, nI_leI, nI_ltI, nI_eq, litLe, litLe2, litLt, litLt2, litEq, litEq2, in_nI, lit_in, nI_clamp, lit_cl, if_pos, if_neg, X72_13, X72_20, X72_27, X72_31, X72_33, X72_36, X72_48, X72_52, X72_53, X72_56, X72_70, X72_71, X72_74, X72_77, X72_90, X72_94, X72_95, X72_99, X72_100, X72_104, X72_107, X72_110, X72_115, X72_117, X72_135, X72_136, ↓WMb w, WMd w, hk, z0, z1, u1, u2, s1, s2, c2]
        · have m71 := fun d h => M71 d h a1 (s m) (s (m + 1)) c
          obtain ⟨k', e, q1, q2⟩ := ih (j + 1) (m + 1) (udx s m (rck (2 + g) (s m) (s (m + 1)))) (setI k 125 m (rck (2 + g) (s m) (s (m + 1)))) (by omega) (by omega) (by rw [a5, ← hm]; rfl) w ⟨fun i => E.1 i, fun v hv => E.2 v hv⟩ (fun i hi => by
            rw [hI_setI]
            by_cases c : i = m
            · subst c; rw [if_pos ⟨rfl, rfl⟩, udx_eq]
            · rw [if_neg (fun q => c q.2), udx_ne _ _ c]; exact hs i (by omega))
          refine ⟨k', fun j1 j6 j7 => ?_, q1, fun b i hb => (q2 b i hb).trans (by rw [hI_setI, if_neg (fun q => hb q.1)])⟩
          rw [if_neg c, X72_10]
          by_cases g3 : g = 3
          · have c2 : ¬ s (m + 1) = 0 := fun q => c ⟨Or.inl g3, q⟩
            subst g3
            simp (disch := omega) only [↓cd_d, ↓irem_eq_mod, ↓ob_setI, ↓ob_chI, ↓ob_some, bI_some, bV_some, bR_some, bL_some, ob_some, cd_t, cd_f, okO_setI, okA_setI, okL_setI, aLen_setI, hR_setI, hI_setI, Bool.true_and, Bool.and_true, Bool.and_self, Option.isNone_some, Option.isSome_some, Option.isNone_none, Option.isSome_none, okO_chI, okA_chI, okL_chI, aLen_chI, hR_chI, ↓reduceIte, not_true_eq_false, not_false_eq_true, eq_self, c10, Nat.zero_add, nI_add, litA, litB, litM, nI_mul, nI_leI, nI_ltI, nI_eq, litLe, litLe2, litLt, litLt2, litEq, litEq2, in_nI, lit_in, nI_clamp, lit_cl, if_pos, if_neg, X72_13, X72_20, X72_27, X72_31, X72_33, X72_36, X72_48, X72_52, X72_53, X72_56, X72_70, X72_71, X72_74, X72_77, X72_90, X72_94, X72_95, X72_99, X72_100, X72_104, X72_107, X72_110, X72_115, X72_117, X72_135, X72_136, ↓WMb w, WMd w, hk, z0, z1, u1, u2, s1, s2, c2, m71]
            exact e _ _ _
          · by_cases g4 : g = 4
            · have c2 : ¬ s (m + 1) = 0 := fun q => c ⟨Or.inr g4, q⟩
              subst g4
              simp (disch := omega) only [↓cd_d, ↓irem_eq_mod, ↓ob_setI, ↓ob_chI, ↓ob_some, bI_some, bV_some, bR_some, bL_some, ob_some, cd_t, cd_f, okO_setI, okA_setI, okL_setI, aLen_setI, hR_setI, hI_setI, Bool.true_and, Bool.and_true, Bool.and_self, Option.isNone_some, Option.isSome_some, Option.isNone_none, Option.isSome_none, okO_chI, okA_chI, okL_chI, aLen_chI, hR_chI, ↓reduceIte, not_true_eq_false, not_false_eq_true, eq_self, c10, Nat.zero_add, nI_add, litA, litB, litM, nI_mul, nI_leI, nI_ltI, nI_eq, litLe, litLe2, litLt, litLt2, litEq, litEq2, in_nI, lit_in, nI_clamp, lit_cl, if_pos, if_neg, X72_13, X72_20, X72_27, X72_31, X72_33, X72_36, X72_48, X72_52, X72_53, X72_56, X72_70, X72_71, X72_74, X72_77, X72_90, X72_94, X72_95, X72_99, X72_100, X72_104, X72_107, X72_110, X72_115, X72_117, X72_135, X72_136, ↓WMb w, WMd w, hk, z0, z1, u1, u2, s1, s2, c2, m71]
              exact e _ _ _
            · simp (disch := omega) only [↓cd_d, ↓irem_eq_mod, ↓ob_setI, ↓ob_chI, ↓ob_some, bI_some, bV_some, bR_some, bL_some, ob_some, cd_t, cd_f, okO_setI, okA_setI, okL_setI, aLen_setI, hR_setI, hI_setI, Bool.true_and, Bool.and_true, Bool.and_self, Option.isNone_some, Option.isSome_some, Option.isNone_none, Option.isSome_none, okO_chI, okA_chI, okL_chI, aLen_chI, hR_chI, ↓reduceIte, not_true_eq_false, not_false_eq_true, eq_self, c10, Nat.zero_add, nI_add, litA, litB, litM, nI_mul, nI_leI, nI_ltI, nI_eq, litLe, litLe2, litLt, litLt2, litEq, litEq2, in_nI, lit_in, nI_clamp, lit_cl, if_pos, if_neg, X72_13, X72_20, X72_27, X72_31, X72_33, X72_36, X72_48, X72_52, X72_53, X72_56, X72_70, X72_71, X72_74, X72_77, X72_90, X72_94, X72_95, X72_99, X72_100, X72_104, X72_107, X72_110, X72_115, X72_117, X72_135, X72_136, ↓WMb w, WMd w, hk, z0, z1, u1, u2, s1, s2, m71]
              exact e _ _ _
      · have hc : cdn h0 (ms + j) = 1048576 * 10 := by unfold cdn; rw [a2, nI_clamp (by omega)]
        have hk := (E.1 (ms + j)).trans a2
        rw [a3] at hp hp60
        have hp : p = r.length + 1 := hp
        have hp60 : r.length + 1 ≤ 60 := hp60
        generalize hm : r.length = m at hp hp60
        subst hp
        have z0 := dv (1048576 * 10) (by omega)
        have z1 := md (1048576 * 10) (by omega)
        rw [show 1048576 * 10 / 1048576 = 10 by omega] at z0
        rw [show 1048576 * 10 % 1048576 = 0 by omega] at z1
        have u2 : nI (m + 1) - 1 = nI m := nI_pred m
        have s2 := hs m (by omega)
        obtain ⟨k', e, q1, q2⟩ := ih (j + 1) (m + 1) (udx s m (1 - s m)) (setI k 125 m (1 - s m)) (by omega) (by omega) (by rw [a4, ← hm]; rfl) w ⟨fun i => E.1 i, fun v hv => E.2 v hv⟩ (fun i hi => by
          rw [hI_setI]
          by_cases c : i = m
          · subst c; rw [if_pos ⟨rfl, rfl⟩, udx_eq]
          · rw [if_neg (fun q => c q.2), udx_ne _ _ c]; exact hs i (by omega))
        refine ⟨k', fun j1 j6 j7 => ?_, q1, fun b i hb => (q2 b i hb).trans (by rw [hI_setI, if_neg (fun q => hb q.1)])⟩
        rw [evl_not hlt hc, X72_10]
        simp (disch := omega) only [↓cd_d, ↓irem_eq_mod, ↓ob_setI, ↓ob_chI, ↓ob_some, bI_some, bV_some, bR_some, bL_some, ob_some, cd_t, cd_f, okO_setI, okA_setI, okL_setI, aLen_setI, hR_setI, hI_setI, Bool.true_and, Bool.and_true, Bool.and_self, Option.isNone_some, Option.isSome_some, Option.isNone_none, Option.isSome_none, okO_chI, okA_chI, okL_chI, aLen_chI, hR_chI, ↓reduceIte, not_true_eq_false, not_false_eq_true, eq_self, c10, Nat.zero_add, nI_add, litA, litB, litM, nI_mul, nI_leI, nI_ltI, nI_eq, litLe, litLe2, litLt, litLt2, litEq, litEq2, in_nI, lit_in, nI_clamp, lit_cl, if_pos, if_neg, X72_13, X72_20, X72_27, X72_31, X72_33, X72_36, X72_48, X72_52, X72_53, X72_56, X72_70, X72_71, X72_74, X72_77, X72_90, X72_94, X72_95, X72_99, X72_100, X72_104, X72_107, X72_110, X72_115, X72_117, X72_135, X72_136, ↓WMb w, WMd w, hk, z0, z1, u2, s2]
        exact e _ _ _
      · have hc : cdn h0 (ms + j) = 1048576 * 11 + (ms + t) := by unfold cdn; rw [a3, nI_clamp (by omega)]
        have hk := (E.1 (ms + j)).trans a3
        have hp' := hp
        rw [a4] at hp hp60
        have hp : p = r.length + 1 := hp
        have hp60 : r.length + 1 ≤ 60 := hp60
        generalize hm : r.length = m at hp hp60
        subst hp
        have z0 := dv (1048576 * 11 + (ms + t)) (by omega)
        have z1 := md (1048576 * 11 + (ms + t)) (by omega)
        rw [show (1048576 * 11 + (ms + t)) / 1048576 = 11 by omega] at z0
        rw [show (1048576 * 11 + (ms + t)) % 1048576 = ms + t by omega] at z1
        have u2 : nI (m + 1) - 1 = nI m := nI_pred m
        have s2 := hs m (by omega)
        have zz : (0 : Int32) + nI (ms + t) = nI (ms + t) := Int32.zero_add _
        rw [evl_jn hlt hc (by omega)]
        by_cases c : s m = 0
        · obtain ⟨k', e, q1, q2⟩ := ih t (m + 1) s k (by omega) a7 (by rw [a8]; exact hp') w E hs
          refine ⟨k', fun j1 j6 j7 => ?_, q1, q2⟩
          rw [if_pos c, X72_10]
          simp (disch := omega) only [↓cd_d, ↓irem_eq_mod, ↓ob_setI, ↓ob_chI, ↓ob_some, bI_some, bV_some, bR_some, bL_some, ob_some, cd_t, cd_f, okO_setI, okA_setI, okL_setI, aLen_setI, hR_setI, hI_setI, Bool.true_and, Bool.and_true, Bool.and_self, Option.isNone_some, Option.isSome_some, Option.isNone_none, Option.isSome_none, okO_chI, okA_chI, okL_chI, aLen_chI, hR_chI, ↓reduceIte, not_true_eq_false, not_false_eq_true, eq_self, c10, Nat.zero_add, nI_add, litA, litB, litM, nI_mul, nI_leI, nI_ltI, nI_eq, litLe, litLe2, litLt, litLt2, litEq, litEq2, in_nI, lit_in, nI_clamp, lit_cl, if_pos, if_neg, X72_13, X72_20, X72_27, X72_31, X72_33, X72_36, X72_48, X72_52, X72_53, X72_56, X72_70, X72_71, X72_74, X72_77, X72_90, X72_94, X72_95, X72_99, X72_100, X72_104, X72_107, X72_110, X72_115, X72_117, X72_135, X72_136, ↓WMb w, WMd w, hk, z0, z1, u2, s2, c, zz]
          exact e _ _ _
        · obtain ⟨k', e, q1, q2⟩ := ih (j + 1) m s k (by omega) (by omega) (by rw [a5, hm]) w E (fun i hi => hs i (by omega))
          refine ⟨k', fun j1 j6 j7 => ?_, q1, q2⟩
          rw [if_neg c, X72_10]
          simp (disch := omega) only [↓cd_d, ↓irem_eq_mod, ↓ob_setI, ↓ob_chI, ↓ob_some, bI_some, bV_some, bR_some, bL_some, ob_some, cd_t, cd_f, okO_setI, okA_setI, okL_setI, aLen_setI, hR_setI, hI_setI, Bool.true_and, Bool.and_true, Bool.and_self, Option.isNone_some, Option.isSome_some, Option.isNone_none, Option.isSome_none, okO_chI, okA_chI, okL_chI, aLen_chI, hR_chI, ↓reduceIte, not_true_eq_false, not_false_eq_true, eq_self, c10, Nat.zero_add, nI_add, litA, litB, litM, nI_mul, nI_leI, nI_ltI, nI_eq, litLe, litLe2, litLt, litLt2, litEq, litEq2, in_nI, lit_in, nI_clamp, lit_cl, if_pos, if_neg, X72_13, X72_20, X72_27, X72_31, X72_33, X72_36, X72_48, X72_52, X72_53, X72_56, X72_70, X72_71, X72_74, X72_77, X72_90, X72_94, X72_95, X72_99, X72_100, X72_104, X72_107, X72_110, X72_115, X72_117, X72_135, X72_136, ↓WMb w, WMd w, hk, z0, z1, u2, s2, c]
          exact e _ _ _
      · have hc : cdn h0 (ms + j) = 1048576 * 12 + (ms + t) := by unfold cdn; rw [a3, nI_clamp (by omega)]
        have hk := (E.1 (ms + j)).trans a3
        have hp' := hp
        rw [a4] at hp hp60
        have hp : p = r.length + 1 := hp
        have hp60 : r.length + 1 ≤ 60 := hp60
        generalize hm : r.length = m at hp hp60
        subst hp
        have z0 := dv (1048576 * 12 + (ms + t)) (by omega)
        have z1 := md (1048576 * 12 + (ms + t)) (by omega)
        rw [show (1048576 * 12 + (ms + t)) / 1048576 = 12 by omega] at z0
        rw [show (1048576 * 12 + (ms + t)) % 1048576 = ms + t by omega] at z1
        have u2 : nI (m + 1) - 1 = nI m := nI_pred m
        have s2 := hs m (by omega)
        have zz : (0 : Int32) + nI (ms + t) = nI (ms + t) := Int32.zero_add _
        rw [evl_jh hlt hc (by omega)]
        by_cases c : s m = 1
        · obtain ⟨k', e, q1, q2⟩ := ih t (m + 1) s k (by omega) a7 (by rw [a8]; exact hp') w E hs
          refine ⟨k', fun j1 j6 j7 => ?_, q1, q2⟩
          rw [if_pos c, X72_10]
          simp (disch := omega) only [↓cd_d, ↓irem_eq_mod, ↓ob_setI, ↓ob_chI, ↓ob_some, bI_some, bV_some, bR_some, bL_some, ob_some, cd_t, cd_f, okO_setI, okA_setI, okL_setI, aLen_setI, hR_setI, hI_setI, Bool.true_and, Bool.and_true, Bool.and_self, Option.isNone_some, Option.isSome_some, Option.isNone_none, Option.isSome_none, okO_chI, okA_chI, okL_chI, aLen_chI, hR_chI, ↓reduceIte, not_true_eq_false, not_false_eq_true, eq_self, c10, Nat.zero_add, nI_add, litA, litB, litM, nI_mul, nI_leI, nI_ltI, nI_eq, litLe, litLe2, litLt, litLt2, litEq, litEq2, in_nI, lit_in, nI_clamp, lit_cl, if_pos, if_neg, X72_13, X72_20, X72_27, X72_31, X72_33, X72_36, X72_48, X72_52, X72_53, X72_56, X72_70, X72_71, X72_74, X72_77, X72_90, X72_94, X72_95, X72_99, X72_100, X72_104, X72_107, X72_110, X72_115, X72_117, X72_135, X72_136, ↓WMb w, WMd w, hk, z0, z1, u2, s2, c, zz]
          exact e _ _ _
        · obtain ⟨k', e, q1, q2⟩ := ih (j + 1) m s k (by omega) (by omega) (by rw [a5, hm]) w E (fun i hi => hs i (by omega))
          refine ⟨k', fun j1 j6 j7 => ?_, q1, q2⟩
          rw [if_neg c, X72_10]
          simp (disch := omega) only [↓cd_d, ↓irem_eq_mod, ↓ob_setI, ↓ob_chI, ↓ob_some, bI_some, bV_some, bR_some, bL_some, ob_some, cd_t, cd_f, okO_setI, okA_setI, okL_setI, aLen_setI, hR_setI, hI_setI, Bool.true_and, Bool.and_true, Bool.and_self, Option.isNone_some, Option.isSome_some, Option.isNone_none, Option.isSome_none, okO_chI, okA_chI, okL_chI, aLen_chI, hR_chI, ↓reduceIte, not_true_eq_false, not_false_eq_true, eq_self, c10, Nat.zero_add, nI_add, litA, litB, litM, nI_mul, nI_leI, nI_ltI, nI_eq, litLe, litLe2, litLt, litLt2, litEq, litEq2, in_nI, lit_in, nI_clamp, lit_cl, if_pos, if_neg, X72_13, X72_20, X72_27, X72_31, X72_33, X72_36, X72_48, X72_52, X72_53, X72_56, X72_70, X72_71, X72_74, X72_77, X72_90, X72_94, X72_95, X72_99, X72_100, X72_104, X72_107, X72_110, X72_115, X72_117, X72_135, X72_136, ↓WMb w, WMd w, hk, z0, z1, u2, s2, c]
          exact e _ _ _
/-- what a stretch comes to -/
def evq (h0 : rz_H) (fa : Nat → Int32) (ms n : Nat) : Int32 := evl (cdn h0) fa ms n (n + 1) 0 0 (fun _ => 0)
theorem M72 {rb dr : Nat} {jd : Option Nat} {h : rz_H} (w : Wf rb dr jd h) {h0 : rz_H} {fa : Nat → Int32} {wl cs ms n : Nat} {tp : Bool} (co : CoRel h0 wl cs ms n tp) (E : Em h0 fa h) (d : Nat) : ∃ k', cW (d + 2) 72 [rz_r (some 109), rz_i (nI ms), rz_i (nI (ms + n))] h = some (rz_i (evq h0 fa ms n), k') ∧ k'.2 = h.2 ∧ ∀ b i, b ≠ 125 → hI k' b i = hI h b i := by
  obtain ⟨c1, c2, c3, ty, t0, tn, tl, ops⟩ := co
  have n0 : n ≠ 0 := fun e => by
    subst e
    rw [t0] at tn
    exact absurd tn (by simp)
  obtain ⟨k', e, q1, q2⟩ := MR c2 tn tl ops d (n + 1) 0 0 (fun _ => 0) h (by omega) (by omega) (by rw [t0]; rfl) w E (fun i hi => absurd hi (by omega))
  refine ⟨k', ?_, q1, q2⟩
  rw [E72]
  have z : nI ms / (260 : Int32) = nI (ms / 260) := nI_div (b := 260) (by omega) (by omega)
  rw [show ms / 260 = 0 by omega] at z
  rw [z, show (260 : Int32) * nI 0 = 0 from rfl]
  exact e _ _ _
theorem evq_01 {h0 : rz_H} {wl cs ms n : Nat} (co : CoRel h0 wl cs ms n true) (fa : Nat → Int32) : evq h0 fa ms n = 0 ∨ evq h0 fa ms n = 1 := by
  obtain ⟨c1, c2, c3, ty, t0, tn, tl, ops⟩ := co
  exact ev_01 c2 tn ops (n + 1) 0 0 _ (by omega) (by rw [t0]; rfl) (by rw [t0]; trivial)
