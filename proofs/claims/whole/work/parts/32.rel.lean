/-! how a pure heap lies in the machine's -/
def tV (sz bs : Nat) : rz_V → Value
  | .inl x => .int x
  | .inr (.inl r) => va_rf (r.map (fun j => sz + j))
  | .inr (.inr (.inl x)) => .long x
  | .inr (.inr (.inr _)) => .ref bs
def tFv (sz : Nat) (h : rz_H) (c j k : Nat) : Value := bif rz_isR (kY c k) then va_rf ((hR h j k).map (fun i => sz + i)) else .int (hI h j k)
def tFs (sz : Nat) (h : rz_H) (c j : Nat) : List Value := (List.range (kN c)).map (tFv sz h c j)
def tE (sz : Nat) (ca : Nat → ClassId) (h : rz_H) (j : Nat) : (Nat ⊕ (Nat × Nat)) → va_E
  | .inl c => .inr (c, tFs sz h c j)
  | .inr (2, n) => .inl (ca 2, n, .inr (.inr (.inr (.inr (fun i => (hR h j i).map (fun i => sz + i))))))
  | .inr (ty, n) => .inl (ca ty, n, .inl (hI h j))
def tW (sz : Nat) (ca : Nat → ClassId) (h : rz_H) : va_W := h.2.2.mapIdx (fun j s => (sz + j, tE sz ca h j s))
abbrev tys (ca : Nat → ClassId) : List (ClassId × FieldType) := [(ca 0, .int), (ca 1, .byte), (ca 2, .object (kC 0))]
theorem rz_nth_eq {α : Type} : ∀ (l : List α) (i : Nat), rz_nth l i = l[i]?
  | [], _ => by simp [rz_nth]
  | a :: l, 0 => by simp [rz_nth]
  | a :: l, n + 1 => by simp [rz_nth, rz_nth_eq l n]
theorem hS_eq (h : rz_H) (a : Nat) : hS h a = h.2.2[a]? := rz_nth_eq _ _
theorem tW_get (sz : Nat) (ca : Nat → ClassId) (h : rz_H) (j : Nat) : (tW sz ca h)[j]? = (hS h j).map (fun s => (sz + j, tE sz ca h j s)) := by
  rw [hS_eq]
  simp [tW, List.getElem?_mapIdx]
theorem tW_at {sz : Nat} {ca : Nat → ClassId} {h : rz_H} {j : Nat} {s : Nat ⊕ (Nat × Nat)} (hs : hS h j = some s) : (tW sz ca h)[j]? = some (sz + j, tE sz ca h j s) := by
  rw [tW_get, hs]; rfl
theorem hS_lt {h : rz_H} {j : Nat} {s : Nat ⊕ (Nat × Nat)} (hs : hS h j = some s) : j < rz_len h := by
  rw [hS_eq] at hs
  exact (List.getElem?_eq_some_iff.mp hs).1
theorem tW_D (sz : Nat) (ca : Nat → ClassId) (h : rz_H) : va_D (fun q => sz ≤ q) (tW sz ca h) := by
  have key : ∀ (i : Nat) (q : Nat × va_E), (tW sz ca h)[i]? = some q → q.1 = sz + i := by
    intro i q hq
    rw [tW_get] at hq
    cases hs : hS h i with
    | none => rw [hs] at hq; cases hq
    | some s => rw [hs] at hq; cases hq; rfl
  refine ⟨fun i j x y hi hj hxy => ?_, fun k q hk => ?_⟩
  · have h1 := key i x hi
    have h2 := key j y hj
    omega
  · have h1 := key k q hk
    show sz ≤ q.1
    omega
theorem hI_setI (h : rz_H) (a i : Nat) (v : Int32) (b j : Nat) : hI (setI h a i v) b j = if b = a ∧ j = i then v else hI h b j := rfl
theorem hR_setI (h : rz_H) (a i : Nat) (v : Int32) (b j : Nat) : hR (setI h a i v) b j = hR h b j := rfl
theorem hS_setI (h : rz_H) (a i : Nat) (v : Int32) (b : Nat) : hS (setI h a i v) b = hS h b := rfl
theorem hI_setR (h : rz_H) (a i : Nat) (v : Option Nat) (b j : Nat) : hI (setR h a i v) b j = hI h b j := rfl
theorem hR_setR (h : rz_H) (a i : Nat) (v : Option Nat) (b j : Nat) : hR (setR h a i v) b j = if b = a ∧ j = i then v else hR h b j := rfl
theorem hS_setR (h : rz_H) (a i : Nat) (v : Option Nat) (b : Nat) : hS (setR h a i v) b = hS h b := rfl
theorem rz_len_setI (h : rz_H) (a i : Nat) (v : Int32) : rz_len (setI h a i v) = rz_len h := rfl
theorem rz_len_setR (h : rz_H) (a i : Nat) (v : Option Nat) : rz_len (setR h a i v) = rz_len h := rfl
theorem tE_setI_ne {sz : Nat} {ca : Nat → ClassId} {h : rz_H} {a i : Nat} {v : Int32} {j : Nat} (hj : j ≠ a) (s : Nat ⊕ (Nat × Nat)) : tE sz ca (setI h a i v) j s = tE sz ca h j s := by
  have e1 : hI (setI h a i v) j = hI h j := by
    funext k
    rw [hI_setI, if_neg (fun q => hj q.1)]
  have e2 : hR (setI h a i v) j = hR h j := rfl
  unfold tE tFs tFv
  split <;> simp [e1, e2]
theorem tE_setR_ne {sz : Nat} {ca : Nat → ClassId} {h : rz_H} {a i : Nat} {v : Option Nat} {j : Nat} (hj : j ≠ a) (s : Nat ⊕ (Nat × Nat)) : tE sz ca (setR h a i v) j s = tE sz ca h j s := by
  have e1 : hR (setR h a i v) j = hR h j := by
    funext k
    rw [hR_setR, if_neg (fun q => hj q.1)]
  have e2 : hI (setR h a i v) j = hI h j := rfl
  unfold tE tFs tFv
  split <;> simp [e1, e2]
theorem tW_setI {sz : Nat} {ca : Nat → ClassId} {h : rz_H} {a i : Nat} {v : Int32} {s : Nat ⊕ (Nat × Nat)} (hs : hS h a = some s) {x : va_E} (hx : tE sz ca (setI h a i v) a s = x) : tW sz ca (setI h a i v) = (tW sz ca h).set a (sz + a, x) := by
  apply List.ext_getElem?
  intro j
  have hl : a < (tW sz ca h).length := (List.getElem?_eq_some_iff.mp (tW_at hs)).1
  rw [tW_get, hS_setI, List.getElem?_set]
  by_cases hj : a = j
  · subst hj
    rw [if_pos rfl, if_pos hl, hs]
    simp [hx]
  · rw [if_neg hj, tW_get]
    cases hS h j with
    | none => rfl
    | some t => simp [tE_setI_ne (Ne.symm hj)]
theorem tW_setR {sz : Nat} {ca : Nat → ClassId} {h : rz_H} {a i : Nat} {v : Option Nat} {s : Nat ⊕ (Nat × Nat)} (hs : hS h a = some s) {x : va_E} (hx : tE sz ca (setR h a i v) a s = x) : tW sz ca (setR h a i v) = (tW sz ca h).set a (sz + a, x) := by
  apply List.ext_getElem?
  intro j
  have hl : a < (tW sz ca h).length := (List.getElem?_eq_some_iff.mp (tW_at hs)).1
  rw [tW_get, hS_setR, List.getElem?_set]
  by_cases hj : a = j
  · subst hj
    rw [if_pos rfl, if_pos hl, hs]
    simp [hx]
  · rw [if_neg hj, tW_get]
    cases hS h j with
    | none => rfl
    | some t => simp [tE_setR_ne (Ne.symm hj)]
theorem tFs_get {sz : Nat} {h : rz_H} {c j k : Nat} (hk : k < kN c) : (tFs sz h c j)[k]? = some (tFv sz h c j k) := by
  simp [tFs, hk]
theorem tFs_len (sz : Nat) (h : rz_H) (c j : Nat) : (tFs sz h c j).length = kN c := by simp [tFs]
theorem tFs_setI {sz : Nat} {h : rz_H} {c j k : Nat} {v : Int32} (hk : k < kN c) (hR0 : rz_isR (kY c k) = false) : tFs sz (setI h j k v) c j = (tFs sz h c j).set k (.int v) := by
  apply List.ext_getElem?
  intro i
  rw [List.getElem?_set, tFs_len]
  by_cases hi : i < kN c
  · rw [tFs_get hi]
    by_cases e : k = i
    · subst e
      rw [if_pos rfl, if_pos hk]
      simp [tFv, hR0, hI_setI]
    · rw [if_neg e, tFs_get hi]
      have e' : ¬ i = k := fun q => e q.symm
      simp [tFv, hI_setI, hR_setI, e']
  · have h1 : (tFs sz (setI h j k v) c j)[i]? = none := by simp [tFs, hi]
    have h2 : (tFs sz h c j)[i]? = none := by simp [tFs, hi]
    rw [h1, if_neg (by omega), h2]
theorem tFs_setR {sz : Nat} {h : rz_H} {c j k : Nat} {v : Option Nat} (hk : k < kN c) (hR0 : rz_isR (kY c k) = true) : tFs sz (setR h j k v) c j = (tFs sz h c j).set k (va_rf (v.map (fun i => sz + i))) := by
  apply List.ext_getElem?
  intro i
  rw [List.getElem?_set, tFs_len]
  by_cases hi : i < kN c
  · rw [tFs_get hi]
    by_cases e : k = i
    · subst e
      rw [if_pos rfl, if_pos hk]
      simp [tFv, hR0, hR_setR]
    · rw [if_neg e, tFs_get hi]
      have e' : ¬ i = k := fun q => e q.symm
      simp [tFv, hI_setR, hR_setR, e']
  · have h1 : (tFs sz (setR h j k v) c j)[i]? = none := by simp [tFs, hi]
    have h2 : (tFs sz h c j)[i]? = none := by simp [tFs, hi]
    rw [h1, if_neg (by omega), h2]
/-- an int array's cell -/
theorem tE_arr {sz : Nat} {ca : Nat → ClassId} {h : rz_H} {j ty n : Nat} (hty : ty ≠ 2) : tE sz ca h j (.inr (ty, n)) = .inl (ca ty, n, .inl (hI h j)) := by
  unfold tE
  split
  · rename_i e; cases e
  · rename_i e; cases e; exact absurd rfl hty
  · rename_i e; cases e; rfl
theorem tE_arrR {sz : Nat} {ca : Nat → ClassId} {h : rz_H} {j n : Nat} : tE sz ca h j (.inr (2, n)) = .inl (ca 2, n, .inr (.inr (.inr (.inr (fun i => (hR h j i).map (fun i => sz + i)))))) := rfl
theorem hI_upd (h : rz_H) (a i : Nat) (v : Int32) : hI (setI h a i v) a = upd (hI h a) i v := by
  funext k
  rw [hI_setI]
  by_cases hk : k = i <;> simp [upd, hk]
theorem hR_upd (sz : Nat) (h : rz_H) (a i : Nat) (v : Option Nat) : (fun k => (hR (setR h a i v) a k).map (fun j => sz + j)) = va_up (fun k => (hR h a k).map (fun j => sz + j)) i (v.map (fun j => sz + j)) := by
  funext k
  rw [hR_setR]
  by_cases hk : k = i <;> simp [va_up, hk]
/-- a new cell -/
theorem hS_new (h : rz_H) (s : Nat ⊕ (Nat × Nat)) (j : Nat) : hS (rz_new h s) j = if j < rz_len h then hS h j else if j = rz_len h then some s else none := by
  rw [hS_eq, hS_eq]
  show (h.2.2 ++ [s])[j]? = _
  by_cases hj : j < rz_len h
  · rw [if_pos hj, List.getElem?_append_left hj]
  · rw [if_neg hj, List.getElem?_append_right (Nat.not_lt.mp hj)]
    by_cases e : j = rz_len h
    · rw [if_pos e, e]
      show [s][h.2.2.length - h.2.2.length]? = some s
      rw [Nat.sub_self]; rfl
    · rw [if_neg e]
      have : 1 ≤ j - h.2.2.length := by
        have : h.2.2.length < j := Nat.lt_of_le_of_ne (Nat.not_lt.mp hj) (Ne.symm e)
        omega
      rw [List.getElem?_eq_none_iff]
      simpa using this
theorem tE_new_ne {sz : Nat} {ca : Nat → ClassId} {h : rz_H} {s0 : Nat ⊕ (Nat × Nat)} {j : Nat} (hj : j ≠ rz_len h) (s : Nat ⊕ (Nat × Nat)) : tE sz ca (rz_new h s0) j s = tE sz ca h j s := by
  have e1 : hI (rz_new h s0) j = hI h j := by
    funext k
    show (if j = h.2.2.length then (0 : Int32) else h.1 j k) = h.1 j k
    exact if_neg hj
  have e2 : hR (rz_new h s0) j = hR h j := by
    funext k
    show (if j = h.2.2.length then none else h.2.1 j k) = h.2.1 j k
    exact if_neg hj
  unfold tE tFs tFv
  split <;> simp [e1, e2]
theorem tW_new (sz : Nat) (ca : Nat → ClassId) (h : rz_H) (s : Nat ⊕ (Nat × Nat)) : tW sz ca (rz_new h s) = tW sz ca h ++ [(sz + rz_len h, tE sz ca (rz_new h s) (rz_len h) s)] := by
  have hl : (tW sz ca h).length = rz_len h := by simp [tW, rz_len]
  apply List.ext_getElem?
  intro j
  rw [tW_get, hS_new]
  by_cases hj : j < rz_len h
  · rw [if_pos hj, List.getElem?_append_left (by omega), tW_get]
    cases hS h j with
    | none => rfl
    | some t => simp [tE_new_ne (Nat.ne_of_lt hj)]
  · rw [if_neg hj, List.getElem?_append_right (by omega), hl]
    by_cases e : j = rz_len h
    · subst e
      rw [if_pos rfl, Nat.sub_self]; rfl
    · rw [if_neg e]
      have : 1 ≤ j - rz_len h := by omega
      simp
      omega
theorem hI_new0 (h : rz_H) (s : Nat ⊕ (Nat × Nat)) (k : Nat) : hI (rz_new h s) (rz_len h) k = 0 := by
  show (if h.2.2.length = h.2.2.length then (0 : Int32) else _) = 0
  rw [if_pos rfl]
theorem hR_new0 (h : rz_H) (s : Nat ⊕ (Nat × Nat)) (k : Nat) : hR (rz_new h s) (rz_len h) k = none := by
  show (if h.2.2.length = h.2.2.length then none else _) = none
  rw [if_pos rfl]
theorem rz_len_new (h : rz_H) (s : Nat ⊕ (Nat × Nat)) : rz_len (rz_new h s) = rz_len h + 1 := by simp [rz_len, rz_new]
/-- the locals -/
def rz_LR (sz bs : Nat) (la : Array Slot) (nL : Nat) (ls : List (Option rz_V)) : Prop := la.size = nL ∧ lv_wf la ∧ ∀ (i : Nat) (v : rz_V), rz_nth ls i = some (some v) → la[i]? = some (.val (tV sz bs v))
theorem rz_LR_set {sz bs : Nat} {la : Array Slot} {nL : Nat} {ls : List (Option rz_V)} (h : rz_LR sz bs la nL ls) (i : Nat) : rz_LR sz bs la nL (ls.set i none) := by
  refine ⟨h.1, h.2.1, fun j v hj => ?_⟩
  rw [rz_nth_eq, List.getElem?_set] at hj
  by_cases e : i = j
  · rw [if_pos e] at hj
    split at hj <;> cases hj
  · rw [if_neg e] at hj
    exact h.2.2 j v (by rw [rz_nth_eq]; exact hj)
theorem rz_LR_drop {sz bs : Nat} {la : Array Slot} {nL : Nat} : ∀ (is : List Nat) {ls : List (Option rz_V)}, rz_LR sz bs la nL ls → rz_LR sz bs la nL (rz_drop ls is)
  | [], _, h => h
  | i :: is, _, h => rz_LR_drop is (rz_LR_set h i)
theorem rz_len_drop : ∀ (is : List Nat) (ls : List (Option rz_V)), (rz_drop ls is).length = ls.length
  | [], _ => rfl
  | i :: is, ls => by
    show (rz_drop (ls.set i none) is).length = _
    rw [rz_len_drop is, List.length_set]
/-- the listed locals, as the kit has them -/
def rz_lv (sz bs : Nat) (ls : List (Option rz_V)) : List (Nat × Value) := (List.range ls.length).filterMap (fun i => match ls[i]? with
  | some (some v) => some (i, tV sz bs v)
  | _ => none)
theorem rz_lv_mem {sz bs : Nat} {ls : List (Option rz_V)} {i : Nat} {v : rz_V} (h : rz_nth ls i = some (some v)) : (i, tV sz bs v) ∈ rz_lv sz bs ls := by
  rw [rz_nth_eq] at h
  refine List.mem_filterMap.mpr ⟨i, List.mem_range.mpr (List.getElem?_eq_some_iff.mp h).1, ?_⟩
  rw [h]
theorem rz_lv_of {sz bs : Nat} {ls : List (Option rz_V)} {q : Nat × Value} (h : q ∈ rz_lv sz bs ls) : ∃ v, rz_nth ls q.1 = some (some v) ∧ q.2 = tV sz bs v := by
  obtain ⟨i, -, hi⟩ := List.mem_filterMap.mp h
  split at hi
  · rename_i v hv
    cases hi
    exact ⟨v, by rw [rz_nth_eq]; exact hv, rfl⟩
  · cases hi
theorem rz_LR_has {sz bs : Nat} {la : Array Slot} {nL : Nat} {ls : List (Option rz_V)} (h : rz_LR sz bs la nL ls) : lv_has la nL (rz_lv sz bs ls) := by
  refine ⟨h.1, h.2.1, fun q hq => ?_⟩
  obtain ⟨v, h1, h2⟩ := rz_lv_of hq
  rw [h2]
  exact h.2.2 _ v h1
theorem tV_cat (sz bs : Nat) (v : rz_V) : (tV sz bs v).category = rz_cat v := by
  rcases v with x | (_ | x) | x | x <;> rfl
/-- storing a value of one slot -/
theorem rz_LR_st1 {sz bs : Nat} {la : Array Slot} {nL : Nat} {ls : List (Option rz_V)} {i : Nat} {v : rz_V} (hok : rz_okS ls i = true)
    (h : lv_has la nL ((i, tV sz bs v) :: (rz_lv sz bs ls).filter (fun q => !(q.1 == i) && !(q.1 + 1 == i && q.2.category == 2)))) : rz_LR sz bs la nL (ls.set i (some v)) := by
  refine ⟨h.1, h.2.1, fun j w hj => ?_⟩
  rw [rz_nth_eq, List.getElem?_set] at hj
  by_cases e : i = j
  · subst e
    rw [if_pos rfl] at hj
    split at hj
    · cases hj
      exact h.2.2 (i, tV sz bs v) List.mem_cons_self
    · cases hj
  · rw [if_neg e] at hj
    have hj' : rz_nth ls j = some (some w) := by rw [rz_nth_eq]; exact hj
    refine h.2.2 (j, tV sz bs w) (List.mem_cons_of_mem _ (List.mem_filter.mpr ⟨rz_lv_mem hj', ?_⟩))
    have e' : (j == i) = false := by simpa using Ne.symm e
    show (!(j == i) && !(j + 1 == i && (tV sz bs w).category == 2)) = true
    rw [e', tV_cat]
    by_cases e2 : j + 1 = i
    · subst e2
      have h3 : rz_notL (rz_nth ls j) = true := hok
      rw [hj'] at h3
      have : rz_cat w = 1 := by
        rcases w with x | x | x | x
        · rfl
        · rfl
        · cases h3
        · rfl
      simp [this]
    · simp [e2]
theorem rz_LR_st2 {sz bs : Nat} {la : Array Slot} {nL : Nat} {ls : List (Option rz_V)} {i : Nat} {v : rz_V} (hok : rz_okS ls i = true)
    (h : lv_has la nL ((i, tV sz bs v) :: (rz_lv sz bs ls).filter (fun q => !(q.1 == i) && (!(q.1 == i + 1) && !(q.1 + 1 == i && q.2.category == 2))))) : rz_LR sz bs la nL ((ls.set i (some v)).set (i + 1) none) := by
  refine ⟨h.1, h.2.1, fun j w hj => ?_⟩
  rw [rz_nth_eq, List.getElem?_set] at hj
  by_cases e1 : i + 1 = j
  · rw [if_pos e1] at hj
    split at hj <;> cases hj
  rw [if_neg e1, List.getElem?_set] at hj
  by_cases e : i = j
  · subst e
    rw [if_pos rfl] at hj
    split at hj
    · cases hj
      exact h.2.2 (i, tV sz bs v) List.mem_cons_self
    · cases hj
  · rw [if_neg e] at hj
    have hj' : rz_nth ls j = some (some w) := by rw [rz_nth_eq]; exact hj
    refine h.2.2 (j, tV sz bs w) (List.mem_cons_of_mem _ (List.mem_filter.mpr ⟨rz_lv_mem hj', ?_⟩))
    have e' : (j == i) = false := by simpa using Ne.symm e
    have e3 : (j == i + 1) = false := by simpa using Ne.symm e1
    show (!(j == i) && (!(j == i + 1) && !(j + 1 == i && (tV sz bs w).category == 2))) = true
    rw [e', e3, tV_cat]
    by_cases e2 : j + 1 = i
    · subst e2
      have h3 : rz_notL (rz_nth ls j) = true := hok
      rw [hj'] at h3
      have : rz_cat w = 1 := by
        rcases w with x | x | x | x
        · rfl
        · rfl
        · cases h3
        · rfl
      simp [this]
    · simp [e2]
/-- the locals at the entry -/
theorem rz_args_get : ∀ (vs : List Value) (k i : Nat) (v : Value), (∀ w ∈ vs, w.category = 1) → vs[i]? = some v → (k + i, v) ∈ lv_args k vs
  | [], _, _, _, _, h => by simp at h
  | w :: vs, k, 0, v, _, h => by
    simp at h
    subst h
    exact List.mem_cons_self
  | w :: vs, k, i + 1, v, hc, h => by
    have h1 : w.category = 1 := hc w List.mem_cons_self
    have h2 := rz_args_get vs (k + 1) i v (fun x hx => hc x (List.mem_cons_of_mem _ hx)) (by simpa using h)
    unfold lv_args
    rw [if_neg (by omega)]
    refine List.mem_cons_of_mem _ ?_
    rw [show k + (i + 1) = k + 1 + i by omega]
    exact h2
theorem rz_LR_entry {sz bs : Nat} {as : List rz_V} {n : Nat} (hc : as.all rz_c1 = true) (hn : as.length ≤ n) {la : Array Slot} (h : lv_has la n (lv_args 0 (as.map (tV sz bs)))) : rz_LR sz bs la n (as.map some ++ List.replicate (n - as.length) none) := by
  have hcat : ∀ w ∈ as.map (tV sz bs), w.category = 1 := by
    intro w hw
    obtain ⟨v, hv, rfl⟩ := List.mem_map.mp hw
    have := List.all_eq_true.mp hc v hv
    rw [tV_cat]
    rcases v with x | x | x | x
    · rfl
    · rfl
    · cases this
    · rfl
  refine ⟨h.1, h.2.1, fun i v hi => ?_⟩
  rw [rz_nth_eq] at hi
  by_cases hl : i < as.length
  · rw [List.getElem?_append_left (by simpa using hl), List.getElem?_map] at hi
    have h2 : (as.map (tV sz bs))[i]? = some (tV sz bs v) := by
      rw [List.getElem?_map]
      cases ha : as[i]? with
      | none => rw [ha] at hi; cases hi
      | some a =>
        rw [ha] at hi
        cases hi
        rfl
    have := rz_args_get _ 0 i _ hcat h2
    rw [Nat.zero_add] at this
    exact h.2.2 _ this
  · rw [List.getElem?_append_right (by simpa using hl)] at hi
    have := List.eq_of_mem_replicate (List.mem_of_getElem? hi)
    cases this
theorem rz_cats_eq (sz bs : Nat) : ∀ st : List rz_V, ((st.map (tV sz bs)).map fun v => v.category).sum = rz_cats st
  | [] => rfl
  | v :: st => by
    simp only [List.map_cons, List.sum_cons]
    rw [rz_cats_eq sz bs st, tV_cat]; rfl
