/-! heap instructions -/
theorem okO_spec {h : rz_H} {a : Nat} {cs : List Nat} (g : okO h a cs = true) : ∃ c, hS h a = some (.inl c) ∧ c ∈ cs := by
  unfold okO at g
  split at g
  · rename_i c hc
    exact ⟨c, hc, List.mem_of_elem_eq_true g⟩
  · cases g
theorem rz_in_spec {i : Int32} {n : Nat} (g : rz_in i n = true) : vp_in i n := by
  obtain ⟨g1, g2⟩ := ba g
  rintro (h | h)
  · rw [decide_eq_true h] at g1; cases g1
  · exact absurd (Nat.blt_eq.mp g2) (Nat.not_lt.mpr h)
theorem okA_spec {h : rz_H} {a ty : Nat} {i : Int32} (g : okA h a ty i = true) : ∃ n, hS h a = some (.inr (ty, n)) ∧ vp_in i n := by
  unfold okA at g
  split at g
  · rename_i t n hc
    obtain ⟨g1, g2⟩ := ba g
    have e := Nat.eq_of_beq_eq_true g1
    subst e
    exact ⟨n, hc, rz_in_spec g2⟩
  · cases g
theorem okL_spec {h : rz_H} {a : Nat} (g : okL h a = true) : ∃ ty n, hS h a = some (.inr (ty, n)) ∧ ty < 3 ∧ aLen h a = Int32.ofNat n := by
  unfold okL at g
  split at g
  · rename_i t n hc
    refine ⟨t, n, hc, Nat.blt_eq.mp g, ?_⟩
    unfold aLen
    rw [hc]
  · cases g
theorem lwG_good {ws : List Jvm.Cond} (h : ∀ w ∈ ws, w ∈ lwG) : GoodIn lwG ws := fun w hw => ⟨h w hw, good_of_word (List.mem_filter.mp (h w hw)).2⟩
theorem kCl_get : ∀ c, c < 11 → kCl[c]? = some (kC c, kT c, kN c)
  | 0, _ => rfl
  | 1, _ => rfl
  | 2, _ => rfl
  | 3, _ => rfl
  | 4, _ => rfl
  | 5, _ => rfl
  | 6, _ => rfl
  | 7, _ => rfl
  | 8, _ => rfl
  | 9, _ => rfl
  | 10, _ => rfl
  | n + 11, h => absurd h (by omega)
def kP : Nat → List Nat := fun c => match c with
  | 0 => [1059, 1061, 1063, 1065, 1067, 1069, 1071, 1073]
  | 1 => [1154, 1155, 1156, 1157, 1158, 1150, 1152]
  | 2 => [1201, 1203, 1205, 1207, 1209, 1211, 1213, 1215]
  | 3 => [1079, 1081, 1083]
  | 4 => [1101, 1103, 1105, 1107, 1109, 1111, 1113]
  | 5 => [1131, 1133, 1135, 1137, 1139, 1129]
  | 6 => [1181, 1182, 1183, 1184, 1185, 1171, 1173, 1175, 1177, 1179]
  | 7 => [1229, 1231, 1233, 1235, 1237]
  | 8 => [1032, 1034]
  | 9 => [2010, 2012, 2014, 2016, 2018, 2020, 2022, 2024, 2026, 2028]
  | _ => [5107, 5109, 5111, 5113, 5115, 5117, 5119, 5121, 5123, 5125, 5127, 5129, 5131, 5133, 5135, 5137, 5139, 5141, 5143, 5145, 5147, 5149, 5151, 5153, 5155, 5157, 5159, 5161, 5163, 5165, 5167, 5169, 5171, 5173, 5175, 5177, 5179, 5181, 5183, 5185]
def ck_kp (c : Nat) : Bool := (List.range (kN c)).all (fun k => match (kP c)[k]? with
  | some q => rz_at q (u_lay (kC c) (kT c) k)
  | none => false)
theorem ck_kpR : (List.range 11).all ck_kp = true := by decide +kernel
theorem kIn (c : Nat) (hc : c < 11) : ∀ w ∈ u_ws (kC c) (kT c) (kN c), w ∈ lwG := by
  intro w hw
  obtain ⟨k, hk, rfl⟩ := List.mem_map.mp hw
  have h1 := List.all_eq_true.mp (List.all_eq_true.mp ck_kpR c (List.mem_range.mpr hc)) k hk
  split at h1
  · exact rz_at_mem h1
  · cases h1
def ck_ty (c : Nat) : Bool := (List.range (kN c)).all (fun k => decide (parseFieldDescriptor (kT c k).2.2.1 = some (kY c k)))
theorem ck_tyR : (List.range 11).all ck_ty = true := by decide +kernel
theorem kTy (c : Nat) (hc : c < 11) : ∀ k, k < kN c → parseFieldDescriptor (kT c k).2.2.1 = some (kY c k) := fun k hk => of_decide_eq_true (List.all_eq_true.mp (List.all_eq_true.mp ck_tyR c (List.mem_range.mpr hc)) k (List.mem_range.mpr hk))
def ck_nm (c : Nat) : Bool := (List.range (kN c)).all (fun a => (List.range (kN c)).all (fun b => decide (a ≠ b → (kT c a).2.1 ≠ (kT c b).2.1)))
theorem ck_nmR : (List.range 11).all ck_nm = true := by decide +kernel
theorem kNm (c : Nat) (hc : c < 11) : ∀ a, a < kN c → ∀ b, b < kN c → a ≠ b → (kT c a).2.1 ≠ (kT c b).2.1 := fun a ha b hb => of_decide_eq_true (List.all_eq_true.mp (List.all_eq_true.mp (List.all_eq_true.mp ck_nmR c (List.mem_range.mpr hc)) a (List.mem_range.mpr ha)) b (List.mem_range.mpr hb))
theorem ckf {own : String} {idx p k c : Nat} (h : ck_f0 own idx p k c = true) : c < 11 ∧ k < kN c ∧ Jvm.Cond.fieldLink own idx (kT c k).1 (kT c k).2.1 (kT c k).2.2.1 ∈ lwG := by
  obtain ⟨h1, h2⟩ := ba h
  obtain ⟨h3, h4⟩ := ba h2
  exact ⟨Nat.blt_eq.mp h1, Nat.blt_eq.mp h3, rz_at_mem h4⟩
theorem W_ub {p : Program} {l : Launch} {e : Env} {R : Room} {s : State} {m : MethodId} {args : Array Value} {below : List Frame} {meth : Method} {c : Code} {Q : State → Prop} {H : Heap} {locs : List Loc} {cells slots : Nat} {g : JFrame} (k : H.size ≤ s.heap.size + cells → W p l e R s m args below meth c H locs cells slots Q g) : W p l e R s m args below meth c H locs cells slots Q g := fun T hT X => k (by have := X.heapSize; rw [hT] at this; exact this) T hT X
theorem rz_hsz {s : State} {sz cells : Nat} {D : va_G} {ca : Nat → ClassId} {h : rz_H} {H : Heap} {locs : List Loc} (hsz : sz ≤ s.heap.size) (hP : va_P D kCl (tW sz ca h) H) (hV : va_S (fun q => sz ≤ q) s.heap H locs) (hl : s.heap.size + cells = sz + rz_len h) (hub : H.size ≤ s.heap.size + cells) : H.size = sz + rz_len h := by
  have h1 : sz + rz_len h ≤ H.size := by
    by_cases h0 : rz_len h = 0
    · have := hV.1
      omega
    · have hlt : rz_len h - 1 < h.2.2.length := by
        show rz_len h - 1 < rz_len h
        omega
      have h2 : hS h (rz_len h - 1) = some (h.2.2[rz_len h - 1]) := by rw [hS_eq]; exact List.getElem?_eq_getElem hlt
      have h3 := (hP _ _ (tW_at (sz := sz) (ca := ca) h2)).lt
      have h4 : sz + (rz_len h - 1) < H.size := h3
      omega
  omega
theorem rs_getfield {p : Program} {l : Launch} {e : Env} {R : Room} {s : State} {m : MethodId} {args : Array Value} {below : List Frame} {meth : Method} {c : Code} {Q : State → Prop} {M sz bs mcl msl : Nat} {D : va_G} {ca : Nat → ClassId} {scr : Option (Nat × (Nat → Int32))} {rk o pc len : Nat} {im : Int32} {aux ps : List Nat} {b : Nat × Nat} {ls : List (Option rz_V)} {st : List rz_V} {h : rz_H} {cf : rz_C} {k : rz_St → Option rz_Res} {r : rz_Res} {H : Heap} {locs : List Loc} {cells slots : Nat} {la : Array Slot} {idx : Nat} (C : rz_Cx p s m args meth c R M sz bs mcl msl D ca scr) (IH : ∀ S, k S = some r → rz_Wt p l e R s m args below meth c Q M sz bs mcl msl D ca S) (hr : rz_Rel s M sz bs mcl msl D ca b ls h H locs cells slots la) (hdec : decode (mC M) pc = .ok (.getfield idx, len)) (hck : rz_ck M o pc (.getfield idx) len im aux ps = true) (hap : rz_ap cf k (rz_do mT rk scr (.getfield idx) im aux o b ls st h) = some r) : W p l e R s m args below meth c H locs cells slots Q (F0 m pc la (st.map (tV sz bs))) := by
  obtain ⟨hx, hb, hml, hown, hts, hK, hAO, hnm, hsz, hmc, hms, hfr, hlo, hscr⟩ := C
  obtain ⟨h1, h2⟩ := ba hck
  obtain ⟨rfl, hn⟩ := ckn h1
  rcases st with _ | ⟨x | (_ | a) | x | x, st⟩ <;> rcases aux with _ | ⟨k0, _ | ⟨(_ | _ | t), cs⟩⟩ <;> try exact (nomatch (show (none : Option rz_Res) = some r from hap))
  · rcases ps with _ | ⟨q, _ | ⟨q2, ps⟩⟩ <;> try exact (nomatch (show false = true from h2))
    obtain ⟨g, hap⟩ := rz_bn hap
    obtain ⟨cc, hs, hcs⟩ := okO_spec g
    obtain ⟨h3, h4⟩ := ba (List.all_eq_true.mp h2 cc hcs)
    obtain ⟨hc, hk, hlk⟩ := ckf h3
    have hR0 : rz_isR (kY cc k0) = false := by simpa using h4
    exact va_get hx hb hts (kIn cc hc) hown hK hr.2.2.1 a (tW_at hs) (kCl_get cc hc) k0 hk (hts _ hlk) (fun _ q => q) (v := .int (hI h a k0)) (by rw [tFs_get hk]; simp [tFv, hR0]) hdec (rz_go (IH _ hap) hn hr)
  · rcases ps with _ | ⟨q, _ | ⟨q2, ps⟩⟩ <;> try exact (nomatch (show false = true from h2))
    obtain ⟨g, hap⟩ := rz_bn hap
    obtain ⟨cc, hs, hcs⟩ := okO_spec g
    obtain ⟨h3, h4⟩ := ba (List.all_eq_true.mp h2 cc hcs)
    obtain ⟨hc, hk, hlk⟩ := ckf h3
    have hR0 : rz_isR (kY cc k0) = true := h4
    exact va_get hx hb hts (kIn cc hc) hown hK hr.2.2.1 a (tW_at hs) (kCl_get cc hc) k0 hk (hts _ hlk) (fun _ q => q) (v := tV sz bs (rz_r (hR h a k0))) (by rw [tFs_get hk]; simp [tFv, hR0, tV]) hdec (rz_go (IH _ hap) hn hr)
theorem rs_put_aux {p : Program} {l : Launch} {e : Env} {R : Room} {s : State} {m : MethodId} {args : Array Value} {below : List Frame} {meth : Method} {c : Code} {Q : State → Prop} {M sz bs mcl msl : Nat} {D : va_G} {ca : Nat → ClassId} {scr : Option (Nat × (Nat → Int32))} {pc idx q k0 t cc a : Nat} {h : rz_H} {H : Heap} {locs : List Loc} {cells slots : Nat} {la : Array Slot} {rest : List Value} (C : rz_Cx p s m args meth c R M sz bs mcl msl D ca scr) (hP : va_P D kCl (tW sz ca h) H) (hV : va_S (fun q => sz ≤ q) s.heap H locs) (hs : hS h a = some (.inl cc)) (hck : ck_put (mY M) idx q k0 t cc = true) {v : Value} (hnar : narrow (kY cc k0) v = v) (hfit : fits (kY cc k0) v = true) (hdec : decode (mC M) pc = .ok (.putfield idx, 3)) (kk : ∀ (H1 : Heap) (locs1 : List Loc), va_P D kCl ((tW sz ca h).set a (sz + a, .inr (cc, (tFs sz h cc a).set k0 v))) H1 → va_S (fun q => sz ≤ q) s.heap H1 locs1 → W p l e R s m args below meth c H1 locs1 cells slots Q (F0 m (pc + 3) la rest)) : W p l e R s m args below meth c H locs cells slots Q (F0 m pc la (v :: .ref (sz + a) :: rest)) := by
  obtain ⟨hx, hb, hml, hown, hts, hK, hAO, hnm, hsz, hmc, hms, hfr, hlo, hscr⟩ := C
  obtain ⟨h3, h4⟩ := ba hck
  obtain ⟨hc, hk, hlk⟩ := ckf h3
  obtain ⟨-, h5⟩ := ba h4
  cases hf : (kT cc k0).2.2.2 with
  | false => exact va_put hx hb hts (kIn cc hc) (kY cc) (kTy cc hc) (kNm cc hc) hown hK hP (tW_D sz ca h) hV a (tW_at hs) (kCl_get cc hc) k0 hk (hts _ hlk) (fun _ q => q) hf (kTy cc hc k0 hk) hnar hfit (by rw [tFs_len]; exact hk) hdec (fun H1 locs1 a1 _ a3 => kk H1 locs1 a1 a3)
  | true =>
    rw [hf] at h5
    obtain ⟨h6, h7⟩ := ba (show (decide ((mY M).name = "<init>") && decide ((kT cc k0).1 = (mY M).cls)) = true from h5)
    exact va_putF hx hb hts (kIn cc hc) (kY cc) (kTy cc hc) (kNm cc hc) hown hK hP (tW_D sz ca h) hV a (tW_at hs) (kCl_get cc hc) k0 hk (hts _ hlk) (fun _ q => q) hf (hnm (of_decide_eq_true h6)) (of_decide_eq_true h7) (kTy cc hc k0 hk) hnar hfit (by rw [tFs_len]; exact hk) hdec (fun H1 locs1 a1 _ a3 => kk H1 locs1 a1 a3)
theorem rz_narR {ty : FieldType} {sz : Nat} (h : rz_isR ty = true) (x : Option Nat) : narrow ty (va_rf (x.map (fun i => sz + i))) = va_rf (x.map (fun i => sz + i)) := by
  cases ty <;> cases x <;> first | rfl | cases h
theorem rz_fitR {ty : FieldType} {sz : Nat} (h : rz_isR ty = true) (x : Option Nat) : fits ty (va_rf (x.map (fun i => sz + i))) = true := by
  cases ty <;> cases x <;> first | rfl | cases h
theorem rs_putfield {p : Program} {l : Launch} {e : Env} {R : Room} {s : State} {m : MethodId} {args : Array Value} {below : List Frame} {meth : Method} {c : Code} {Q : State → Prop} {M sz bs mcl msl : Nat} {D : va_G} {ca : Nat → ClassId} {scr : Option (Nat × (Nat → Int32))} {rk o pc len : Nat} {im : Int32} {aux ps : List Nat} {b : Nat × Nat} {ls : List (Option rz_V)} {st : List rz_V} {h : rz_H} {cf : rz_C} {k : rz_St → Option rz_Res} {r : rz_Res} {H : Heap} {locs : List Loc} {cells slots : Nat} {la : Array Slot} {idx : Nat} (C : rz_Cx p s m args meth c R M sz bs mcl msl D ca scr) (IH : ∀ S, k S = some r → rz_Wt p l e R s m args below meth c Q M sz bs mcl msl D ca S) (hr : rz_Rel s M sz bs mcl msl D ca b ls h H locs cells slots la) (hdec : decode (mC M) pc = .ok (.putfield idx, len)) (hck : rz_ck M o pc (.putfield idx) len im aux ps = true) (hap : rz_ap cf k (rz_do mT rk scr (.putfield idx) im aux o b ls st h) = some r) : W p l e R s m args below meth c H locs cells slots Q (F0 m pc la (st.map (tV sz bs))) := by
  obtain ⟨hx, hb, hml, hown, hts, hK, hAO, hnm, hsz, hmc, hms, hfr, hlo, hscr⟩ := id C
  obtain ⟨h1, h2⟩ := ba hck
  obtain ⟨rfl, hn⟩ := ckn h1
  obtain ⟨r1, r2, r3, r4, r5, r6, r7⟩ := hr
  rcases aux with _ | ⟨k0, _ | ⟨(_ | _ | _ | t), cs⟩⟩ <;> rcases st with _ | ⟨x | x | x | x, _ | ⟨z | (_ | a) | z | z, st⟩⟩ <;> try exact (nomatch (show (none : Option rz_Res) = some r from hap))
  · rcases ps with _ | ⟨q, _ | ⟨q2, ps⟩⟩ <;> try exact (nomatch (show false = true from h2))
    obtain ⟨g, hap⟩ := rz_bn hap
    obtain ⟨cc, hs, hcs⟩ := okO_spec g
    have h3 := List.all_eq_true.mp h2 cc hcs
    have h4 := (ba (ba h3).2).1
    obtain ⟨hc, hk, -⟩ := ckf (ba h3).1
    have hy : kY cc k0 = .int := of_decide_eq_true h4
    refine rs_put_aux C r3 r4 hs h3 (by rw [hy]; rfl) (by rw [hy]; rfl) hdec (fun H1 locs1 a1 a3 => rz_go (IH _ hap) hn ⟨r1, r2, ?_, a3, r5, r6, r7⟩)
    show va_P D kCl (tW sz ca (setI h a k0 x)) H1
    rw [tW_setI hs (x := .inr (cc, (tFs sz h cc a).set k0 (.int x))) (by show Sum.inr (cc, tFs sz (setI h a k0 x) cc a) = _; rw [tFs_setI hk (by rw [hy]; rfl)])]
    exact a1
  · rcases ps with _ | ⟨q, _ | ⟨q2, ps⟩⟩ <;> try exact (nomatch (show false = true from h2))
    obtain ⟨g, hap⟩ := rz_bn hap
    obtain ⟨cc, hs, hcs⟩ := okO_spec g
    have h3 := List.all_eq_true.mp h2 cc hcs
    have h4 := (ba (ba h3).2).1
    obtain ⟨hc, hk, -⟩ := ckf (ba h3).1
    have hR0 : rz_isR (kY cc k0) = true := h4
    refine rs_put_aux C r3 r4 hs h3 (v := va_rf (x.map (fun i => sz + i))) (rz_narR hR0 x) (rz_fitR hR0 x) hdec (fun H1 locs1 a1 a3 => rz_go (IH _ hap) hn ⟨r1, r2, ?_, a3, r5, r6, r7⟩)
    show va_P D kCl (tW sz ca (setR h a k0 x)) H1
    rw [tW_setR hs (x := .inr (cc, (tFs sz h cc a).set k0 (va_rf (x.map (fun i => sz + i))))) (by show Sum.inr (cc, tFs sz (setR h a k0 x) cc a) = _; rw [tFs_setR hk hR0])]
    exact a1
  · rcases ps with _ | ⟨q, _ | ⟨q2, ps⟩⟩ <;> try exact (nomatch (show false = true from h2))
    obtain ⟨g, hap⟩ := rz_bn hap
    obtain ⟨g, g2⟩ := ba g
    obtain ⟨cc, hs, hcs⟩ := okO_spec g
    have h3 := List.all_eq_true.mp h2 cc hcs
    have h4 := (ba (ba h3).2).1
    obtain ⟨hc, hk, -⟩ := ckf (ba h3).1
    have hy : kY cc k0 = .boolean := of_decide_eq_true h4
    have hx01 : x = 0 ∨ x = 1 := by simpa using g2
    refine rs_put_aux C r3 r4 hs h3 (by rw [hy]; rcases hx01 with rfl | rfl <;> rfl) (by rw [hy]; rcases hx01 with rfl | rfl <;> rfl) hdec (fun H1 locs1 a1 a3 => rz_go (IH _ hap) hn ⟨r1, r2, ?_, a3, r5, r6, r7⟩)
    show va_P D kCl (tW sz ca (setI h a k0 x)) H1
    rw [tW_setI hs (x := .inr (cc, (tFs sz h cc a).set k0 (.int x))) (by show Sum.inr (cc, tFs sz (setI h a k0 x) cc a) = _; rw [tFs_setI hk (by rw [hy]; rfl)])]
    exact a1
theorem rs_iaload {p : Program} {l : Launch} {e : Env} {R : Room} {s : State} {m : MethodId} {args : Array Value} {below : List Frame} {meth : Method} {c : Code} {Q : State → Prop} {M sz bs mcl msl : Nat} {D : va_G} {ca : Nat → ClassId} {scr : Option (Nat × (Nat → Int32))} {rk o pc len : Nat} {im : Int32} {aux ps : List Nat} {b : Nat × Nat} {ls : List (Option rz_V)} {st : List rz_V} {h : rz_H} {cf : rz_C} {k : rz_St → Option rz_Res} {r : rz_Res} {H : Heap} {locs : List Loc} {cells slots : Nat} {la : Array Slot} (C : rz_Cx p s m args meth c R M sz bs mcl msl D ca scr) (IH : ∀ S, k S = some r → rz_Wt p l e R s m args below meth c Q M sz bs mcl msl D ca S) (hr : rz_Rel s M sz bs mcl msl D ca b ls h H locs cells slots la) (hdec : decode (mC M) pc = .ok (.iaload, len)) (hck : rz_ck M o pc (.iaload) len im aux ps = true) (hap : rz_ap cf k (rz_do mT rk scr (.iaload) im aux o b ls st h) = some r) : W p l e R s m args below meth c H locs cells slots Q (F0 m pc la (st.map (tV sz bs))) := by
  obtain ⟨hx, hb, hml, hown, hts, hK, hAO, hnm, hsz, hmc, hms, hfr, hlo, hscr⟩ := C
  obtain ⟨rfl, hn⟩ := ck1 hck
  rcases st with _ | ⟨x | x | x | x, _ | ⟨z | (_ | a) | z | z, st⟩⟩ <;> try exact (nomatch (show (none : Option rz_Res) = some r from hap))
  · obtain ⟨g, hap⟩ := rz_bn hap
    obtain ⟨n, hs, hin⟩ := okA_spec g
    exact va_iald hx hb hK hr.2.2.1 a 0 ((tW_at hs).trans (by rw [tE_arr (by decide)])) rfl hin hdec (rz_go (IH _ hap) hn hr)
  · rcases scr with _ | ⟨L, xs⟩
    · exact (nomatch (show (none : Option rz_Res) = some r from hap))
    · obtain ⟨g, hap⟩ := rz_bn hap
      obtain ⟨hX, hbs⟩ := hscr L xs rfl
      exact va_sld hx hb hX (Nat.lt_of_lt_of_le hbs hsz) (Nat.not_le.mpr hbs) hr.2.2.2.1 (rz_in_spec g) hdec (rz_go (IH _ hap) hn hr)
theorem rs_baload {p : Program} {l : Launch} {e : Env} {R : Room} {s : State} {m : MethodId} {args : Array Value} {below : List Frame} {meth : Method} {c : Code} {Q : State → Prop} {M sz bs mcl msl : Nat} {D : va_G} {ca : Nat → ClassId} {scr : Option (Nat × (Nat → Int32))} {rk o pc len : Nat} {im : Int32} {aux ps : List Nat} {b : Nat × Nat} {ls : List (Option rz_V)} {st : List rz_V} {h : rz_H} {cf : rz_C} {k : rz_St → Option rz_Res} {r : rz_Res} {H : Heap} {locs : List Loc} {cells slots : Nat} {la : Array Slot} (C : rz_Cx p s m args meth c R M sz bs mcl msl D ca scr) (IH : ∀ S, k S = some r → rz_Wt p l e R s m args below meth c Q M sz bs mcl msl D ca S) (hr : rz_Rel s M sz bs mcl msl D ca b ls h H locs cells slots la) (hdec : decode (mC M) pc = .ok (.baload, len)) (hck : rz_ck M o pc (.baload) len im aux ps = true) (hap : rz_ap cf k (rz_do mT rk scr (.baload) im aux o b ls st h) = some r) : W p l e R s m args below meth c H locs cells slots Q (F0 m pc la (st.map (tV sz bs))) := by
  obtain ⟨hx, hb, hml, hown, hts, hK, hAO, hnm, hsz, hmc, hms, hfr, hlo, hscr⟩ := C
  obtain ⟨rfl, hn⟩ := ck1 hck
  rcases st with _ | ⟨x | x | x | x, _ | ⟨z | (_ | a) | z | z, st⟩⟩ <;> try exact (nomatch (show (none : Option rz_Res) = some r from hap))
  · obtain ⟨g, hap⟩ := rz_bn hap
    obtain ⟨n, hs, hin⟩ := okA_spec g
    exact va_bald hx hb hK hr.2.2.1 a 1 ((tW_at hs).trans (by rw [tE_arr (by decide)])) rfl hin hdec (rz_go (IH _ hap) hn hr)
theorem rs_aaload {p : Program} {l : Launch} {e : Env} {R : Room} {s : State} {m : MethodId} {args : Array Value} {below : List Frame} {meth : Method} {c : Code} {Q : State → Prop} {M sz bs mcl msl : Nat} {D : va_G} {ca : Nat → ClassId} {scr : Option (Nat × (Nat → Int32))} {rk o pc len : Nat} {im : Int32} {aux ps : List Nat} {b : Nat × Nat} {ls : List (Option rz_V)} {st : List rz_V} {h : rz_H} {cf : rz_C} {k : rz_St → Option rz_Res} {r : rz_Res} {H : Heap} {locs : List Loc} {cells slots : Nat} {la : Array Slot} (C : rz_Cx p s m args meth c R M sz bs mcl msl D ca scr) (IH : ∀ S, k S = some r → rz_Wt p l e R s m args below meth c Q M sz bs mcl msl D ca S) (hr : rz_Rel s M sz bs mcl msl D ca b ls h H locs cells slots la) (hdec : decode (mC M) pc = .ok (.aaload, len)) (hck : rz_ck M o pc (.aaload) len im aux ps = true) (hap : rz_ap cf k (rz_do mT rk scr (.aaload) im aux o b ls st h) = some r) : W p l e R s m args below meth c H locs cells slots Q (F0 m pc la (st.map (tV sz bs))) := by
  obtain ⟨hx, hb, hml, hown, hts, hK, hAO, hnm, hsz, hmc, hms, hfr, hlo, hscr⟩ := C
  obtain ⟨rfl, hn⟩ := ck1 hck
  rcases st with _ | ⟨x | x | x | x, _ | ⟨z | (_ | a) | z | z, st⟩⟩ <;> try exact (nomatch (show (none : Option rz_Res) = some r from hap))
  · obtain ⟨g, hap⟩ := rz_bn hap
    obtain ⟨n, hs, hin⟩ := okA_spec g
    exact va_aldq hx hb hK hr.2.2.1 a 2 (f := fun i => (hR h a i).map (fun i => sz + i)) ((tW_at hs).trans (by rw [tE_arrR])) rfl hin hdec (rz_go (IH _ hap) hn hr)
theorem rs_iastore {p : Program} {l : Launch} {e : Env} {R : Room} {s : State} {m : MethodId} {args : Array Value} {below : List Frame} {meth : Method} {c : Code} {Q : State → Prop} {M sz bs mcl msl : Nat} {D : va_G} {ca : Nat → ClassId} {scr : Option (Nat × (Nat → Int32))} {rk o pc len : Nat} {im : Int32} {aux ps : List Nat} {b : Nat × Nat} {ls : List (Option rz_V)} {st : List rz_V} {h : rz_H} {cf : rz_C} {k : rz_St → Option rz_Res} {r : rz_Res} {H : Heap} {locs : List Loc} {cells slots : Nat} {la : Array Slot} (C : rz_Cx p s m args meth c R M sz bs mcl msl D ca scr) (IH : ∀ S, k S = some r → rz_Wt p l e R s m args below meth c Q M sz bs mcl msl D ca S) (hr : rz_Rel s M sz bs mcl msl D ca b ls h H locs cells slots la) (hdec : decode (mC M) pc = .ok (.iastore, len)) (hck : rz_ck M o pc (.iastore) len im aux ps = true) (hap : rz_ap cf k (rz_do mT rk scr (.iastore) im aux o b ls st h) = some r) : W p l e R s m args below meth c H locs cells slots Q (F0 m pc la (st.map (tV sz bs))) := by
  obtain ⟨hx, hb, hml, hown, hts, hK, hAO, hnm, hsz, hmc, hms, hfr, hlo, hscr⟩ := C
  obtain ⟨rfl, hn⟩ := ck1 hck
  obtain ⟨r1, r2, r3, r4, r5, r6, r7⟩ := hr
  rcases st with _ | ⟨v | v | v | v, _ | ⟨x | x | x | x, _ | ⟨z | (_ | a) | z | z, st⟩⟩⟩ <;> try exact (nomatch (show (none : Option rz_Res) = some r from hap))
  obtain ⟨g, hap⟩ := rz_bn hap
  obtain ⟨n, hs, hin⟩ := okA_spec g
  refine va_iast hx hb hK r3 (tW_D sz ca h) r4 a 0 ((tW_at hs).trans (by rw [tE_arr (by decide)])) rfl hin hdec (fun H1 locs1 a1 _ a3 => rz_go (IH _ hap) hn ⟨r1, r2, ?_, a3, r5, r6, r7⟩)
  show va_P D kCl (tW sz ca (setI h a x.toNatClampNeg v)) H1
  rw [tW_setI hs (x := .inl (ca 0, n, .inl (upd (hI h a) x.toNatClampNeg v))) (by rw [tE_arr (by decide), hI_upd])]
  exact a1
theorem rs_bastore {p : Program} {l : Launch} {e : Env} {R : Room} {s : State} {m : MethodId} {args : Array Value} {below : List Frame} {meth : Method} {c : Code} {Q : State → Prop} {M sz bs mcl msl : Nat} {D : va_G} {ca : Nat → ClassId} {scr : Option (Nat × (Nat → Int32))} {rk o pc len : Nat} {im : Int32} {aux ps : List Nat} {b : Nat × Nat} {ls : List (Option rz_V)} {st : List rz_V} {h : rz_H} {cf : rz_C} {k : rz_St → Option rz_Res} {r : rz_Res} {H : Heap} {locs : List Loc} {cells slots : Nat} {la : Array Slot} (C : rz_Cx p s m args meth c R M sz bs mcl msl D ca scr) (IH : ∀ S, k S = some r → rz_Wt p l e R s m args below meth c Q M sz bs mcl msl D ca S) (hr : rz_Rel s M sz bs mcl msl D ca b ls h H locs cells slots la) (hdec : decode (mC M) pc = .ok (.bastore, len)) (hck : rz_ck M o pc (.bastore) len im aux ps = true) (hap : rz_ap cf k (rz_do mT rk scr (.bastore) im aux o b ls st h) = some r) : W p l e R s m args below meth c H locs cells slots Q (F0 m pc la (st.map (tV sz bs))) := by
  obtain ⟨hx, hb, hml, hown, hts, hK, hAO, hnm, hsz, hmc, hms, hfr, hlo, hscr⟩ := C
  obtain ⟨rfl, hn⟩ := ck1 hck
  obtain ⟨r1, r2, r3, r4, r5, r6, r7⟩ := hr
  rcases st with _ | ⟨v | v | v | v, _ | ⟨x | x | x | x, _ | ⟨z | (_ | a) | z | z, st⟩⟩⟩ <;> try exact (nomatch (show (none : Option rz_Res) = some r from hap))
  obtain ⟨g, hap⟩ := rz_bn hap
  obtain ⟨n, hs, hin⟩ := okA_spec g
  refine va_bast hx hb hK r3 (tW_D sz ca h) r4 a 1 ((tW_at hs).trans (by rw [tE_arr (by decide)])) rfl hin hdec (fun H1 locs1 a1 _ a3 => rz_go (IH _ hap) hn ⟨r1, r2, ?_, a3, r5, r6, r7⟩)
  show va_P D kCl (tW sz ca (setI h a x.toNatClampNeg v.toInt8.toInt32)) H1
  rw [tW_setI hs (x := .inl (ca 1, n, .inl (upd (hI h a) x.toNatClampNeg (v.toInt8.toInt32)))) (by rw [tE_arr (by decide), hI_upd])]
  rw [vp_nar_byte] at a1
  exact a1
theorem rs_aastore {p : Program} {l : Launch} {e : Env} {R : Room} {s : State} {m : MethodId} {args : Array Value} {below : List Frame} {meth : Method} {c : Code} {Q : State → Prop} {M sz bs mcl msl : Nat} {D : va_G} {ca : Nat → ClassId} {scr : Option (Nat × (Nat → Int32))} {rk o pc len : Nat} {im : Int32} {aux ps : List Nat} {b : Nat × Nat} {ls : List (Option rz_V)} {st : List rz_V} {h : rz_H} {cf : rz_C} {k : rz_St → Option rz_Res} {r : rz_Res} {H : Heap} {locs : List Loc} {cells slots : Nat} {la : Array Slot} (C : rz_Cx p s m args meth c R M sz bs mcl msl D ca scr) (IH : ∀ S, k S = some r → rz_Wt p l e R s m args below meth c Q M sz bs mcl msl D ca S) (hr : rz_Rel s M sz bs mcl msl D ca b ls h H locs cells slots la) (hdec : decode (mC M) pc = .ok (.aastore, len)) (hck : rz_ck M o pc (.aastore) len im aux ps = true) (hap : rz_ap cf k (rz_do mT rk scr (.aastore) im aux o b ls st h) = some r) : W p l e R s m args below meth c H locs cells slots Q (F0 m pc la (st.map (tV sz bs))) := by
  obtain ⟨hx, hb, hml, hown, hts, hK, hAO, hnm, hsz, hmc, hms, hfr, hlo, hscr⟩ := C
  obtain ⟨h1, h2⟩ := ba hck
  obtain ⟨rfl, hn⟩ := ck1 h1
  have ha := of_decide_eq_true h2
  subst ha
  obtain ⟨r1, r2, r3, r4, r5, r6, r7⟩ := hr
  rcases st with _ | ⟨v | (_ | v) | v | v, _ | ⟨x | x | x | x, _ | ⟨z | (_ | a) | z | z, st⟩⟩⟩ <;> try exact (nomatch (show (none : Option rz_Res) = some r from hap))
  obtain ⟨g, hap⟩ := rz_bn hap
  obtain ⟨g, g2⟩ := ba g
  obtain ⟨n, hs, hin⟩ := okA_spec g
  obtain ⟨cc, hs2, hcc⟩ := okO_spec g2
  have e0 : cc = 0 := by simpa using hcc
  subst e0
  refine va_astq hx hb hK r3 (tW_D sz ca h) r4 a 2 v 0 (r := (kC 0, kT 0, kN 0)) ((tW_at hs).trans (by rw [tE_arrR])) rfl (tW_at hs2) rfl hin hdec (fun H1 locs1 a1 _ a3 => rz_go (IH _ hap) hn ⟨r1, r2, ?_, a3, r5, r6, r7⟩)
  show va_P D kCl (tW sz ca (setR h a x.toNatClampNeg (some v))) H1
  rw [tW_setR hs (x := .inl (ca 2, n, .inr (.inr (.inr (.inr (va_up (fun i => (hR h a i).map (fun i => sz + i)) x.toNatClampNeg (some (sz + v)))))))) (by rw [tE_arrR]; exact congrArg (fun f => Sum.inl (ca 2, n, Sum.inr (Sum.inr (Sum.inr (Sum.inr f))))) (hR_upd sz h a x.toNatClampNeg (some v)))]
  exact a1
theorem rs_arraylength {p : Program} {l : Launch} {e : Env} {R : Room} {s : State} {m : MethodId} {args : Array Value} {below : List Frame} {meth : Method} {c : Code} {Q : State → Prop} {M sz bs mcl msl : Nat} {D : va_G} {ca : Nat → ClassId} {scr : Option (Nat × (Nat → Int32))} {rk o pc len : Nat} {im : Int32} {aux ps : List Nat} {b : Nat × Nat} {ls : List (Option rz_V)} {st : List rz_V} {h : rz_H} {cf : rz_C} {k : rz_St → Option rz_Res} {r : rz_Res} {H : Heap} {locs : List Loc} {cells slots : Nat} {la : Array Slot} (C : rz_Cx p s m args meth c R M sz bs mcl msl D ca scr) (IH : ∀ S, k S = some r → rz_Wt p l e R s m args below meth c Q M sz bs mcl msl D ca S) (hr : rz_Rel s M sz bs mcl msl D ca b ls h H locs cells slots la) (hdec : decode (mC M) pc = .ok (.arraylength, len)) (hck : rz_ck M o pc (.arraylength) len im aux ps = true) (hap : rz_ap cf k (rz_do mT rk scr (.arraylength) im aux o b ls st h) = some r) : W p l e R s m args below meth c H locs cells slots Q (F0 m pc la (st.map (tV sz bs))) := by
  obtain ⟨hx, hb, hml, hown, hts, hK, hAO, hnm, hsz, hmc, hms, hfr, hlo, hscr⟩ := C
  obtain ⟨rfl, hn⟩ := ck1 hck
  rcases st with _ | ⟨x | (_ | a) | x | x, st⟩ <;> try exact (nomatch (show (none : Option rz_Res) = some r from hap))
  · obtain ⟨g, hap⟩ := rz_bn hap
    obtain ⟨ty, n, hs, hty, hlen⟩ := okL_spec g
    rcases (show ty = 0 ∨ ty = 1 ∨ ty = 2 by omega) with rfl | rfl | rfl
    · exact va_alen hx hb hK hr.2.2.1 a 0 ((tW_at hs).trans (by rw [tE_arr (by decide)])) rfl hlen.symm hdec (rz_go (IH _ hap) hn hr)
    · exact va_alen hx hb hK hr.2.2.1 a 1 ((tW_at hs).trans (by rw [tE_arr (by decide)])) rfl hlen.symm hdec (rz_go (IH _ hap) hn hr)
    · exact va_alen hx hb hK hr.2.2.1 a 2 ((tW_at hs).trans (by rw [tE_arrR])) rfl hlen.symm hdec (rz_go (IH _ hap) hn hr)
  · rcases scr with _ | ⟨L, xs⟩
    · exact (nomatch (show (none : Option rz_Res) = some r from hap))
    · obtain ⟨hX, hbs⟩ := hscr L xs rfl
      exact va_slen hx hb hX (Nat.lt_of_lt_of_le hbs hsz) (Nat.not_le.mpr hbs) hr.2.2.2.1 hdec (rz_go (IH _ hap) hn hr)
theorem rz_Pnew {sz : Nat} {D : va_G} {ca : Nat → ClassId} {h : rz_H} {H H1 : Heap} {sh : Nat ⊕ (Nat × Nat)} (hP : va_P D kCl (tW sz ca h) H) (hz : H.size = sz + rz_len h) (o1 : ∀ q : Nat, q < H.size → H1[q]? = H[q]?) (hat : va_at D kCl (sz + rz_len h, tE sz ca (rz_new h sh) (rz_len h) sh) H1) : va_P D kCl (tW sz ca (rz_new h sh)) H1 := by
  rw [tW_new]
  refine (hP.kept (fun k x hx => o1 x.1 ((hP k x hx).lt))).app (fun k x hx => ?_)
  have hk : k < 1 := (List.getElem?_eq_some_iff.mp hx).1
  rw [show k = 0 by omega] at hx
  cases hx
  exact hat
theorem rz_Snew {s : State} {sz : Nat} {H H1 : Heap} {locs : List Loc} (hV : va_S (fun q => sz ≤ q) s.heap H locs) (z1 : H.size ≤ H1.size) (o1 : ∀ q : Nat, q < H.size → H1[q]? = H[q]?) : va_S (fun q => sz ≤ q) s.heap H1 locs := ⟨Nat.le_trans hV.1 z1, fun x h1 h2 => (o1 x (Nat.lt_of_lt_of_le h1 hV.1)).trans (hV.2.1 x h1 h2), hV.2.2⟩
theorem rz_dflt (c : Nat) (hc : c < 11) : ∀ k, k < kN c → defaultValue (kY c k) = bif rz_isR (kY c k) then .null else .int 0 := by
  have h : (List.range 11).all (fun c => (List.range (kN c)).all (fun k => decide (defaultValue (kY c k) = bif rz_isR (kY c k) then .null else .int 0))) = true := by decide +kernel
  intro k hk
  exact of_decide_eq_true (List.all_eq_true.mp (List.all_eq_true.mp h c (List.mem_range.mpr hc)) k (List.mem_range.mpr hk))
theorem rs_new {p : Program} {l : Launch} {e : Env} {R : Room} {s : State} {m : MethodId} {args : Array Value} {below : List Frame} {meth : Method} {c : Code} {Q : State → Prop} {M sz bs mcl msl : Nat} {D : va_G} {ca : Nat → ClassId} {scr : Option (Nat × (Nat → Int32))} {rk o pc len : Nat} {im : Int32} {aux ps : List Nat} {b : Nat × Nat} {ls : List (Option rz_V)} {st : List rz_V} {h : rz_H} {cf : rz_C} {k : rz_St → Option rz_Res} {r : rz_Res} {H : Heap} {locs : List Loc} {cells slots : Nat} {la : Array Slot} {idx : Nat} (C : rz_Cx p s m args meth c R M sz bs mcl msl D ca scr) (IH : ∀ S, k S = some r → rz_Wt p l e R s m args below meth c Q M sz bs mcl msl D ca S) (hr : rz_Rel s M sz bs mcl msl D ca b ls h H locs cells slots la) (hdec : decode (mC M) pc = .ok (.new idx, len)) (hck : rz_ck M o pc (.new idx) len im aux ps = true) (hap : rz_ap cf k (rz_do mT rk scr (.new idx) im aux o b ls st h) = some r) : W p l e R s m args below meth c H locs cells slots Q (F0 m pc la (st.map (tV sz bs))) := by
  obtain ⟨hx, hb, hml, hown, hts, hK, hAO, hnm, hsz, hmc, hms, hfr, hlo, hscr⟩ := C
  obtain ⟨h1, h2⟩ := ba hck
  obtain ⟨rfl, hn⟩ := ckn h1
  obtain ⟨r1, r2, r3, r4, r5, r6, r7⟩ := hr
  rcases aux with _ | ⟨cc, _ | ⟨n, _ | ⟨n2, aux⟩⟩⟩ <;> try exact (nomatch (show (none : Option rz_Res) = some r from hap))
  rcases ps with _ | ⟨p1, _ | ⟨p2, _ | ⟨p3, _ | ⟨p4, ps⟩⟩⟩⟩ <;> try exact (nomatch (show false = true from h2))
  obtain ⟨g1, g2⟩ := ba h2
  obtain ⟨g3, g4⟩ := ba g2
  obtain ⟨g5, g6⟩ := ba g4
  obtain ⟨g7, g8⟩ := ba g6
  have hc := Nat.blt_eq.mp g1
  have en := Nat.eq_of_beq_eq_true g3
  subst en
  obtain ⟨g9, hap⟩ := rz_bn hap
  obtain ⟨b1, b2⟩ := ba g9
  have b1 := Nat.le_of_ble_eq_true b1
  have b2 := Nat.le_of_ble_eq_true b2
  refine W_ub (fun hub => ?_)
  have hz := rz_hsz hsz r3 r4 r5 hub
  have hKn := hK.1 cc _ (kCl_get cc hc)
  refine W.newcK hx hb hown (hts _ (rz_at_mem g5)) (hts _ (rz_at_mem g7)) (hts _ (rz_at_mem g8)) rfl hdec (by omega) (by omega) hKn.2.1 hz (fun H1 kC1 hkC e1 z1 o1 => ?_)
  rw [← hz] at o1
  refine rz_go (IH _ hap) hn ⟨r1, r2, rz_Pnew r3 hz o1 ?_, rz_Snew r4 (by omega) o1, by show s.heap.size + (cells + 1) = sz + rz_len (rz_new h (.inl cc)); rw [rz_len_new]; omega, by show cells + 1 + (b.1 - 1) = mcl; omega, by show slots + kN cc + (b.2 - kN cc) ≤ msl; omega⟩
  refine ⟨_, kCl_get cc hc, (u_born (kY cc) hts (kIn cc hc) hKn hkC e1 (kTy cc hc)).to (fun k hk => ?_)⟩
  show defaultValue (kY cc k) = vp_V (tFs sz (rz_new h (.inl cc)) cc (rz_len h)) k
  rw [rz_dflt cc hc k hk]
  unfold vp_V
  rw [List.getD_eq_getElem?_getD, tFs_get hk]
  show _ = tFv sz (rz_new h (.inl cc)) cc (rz_len h) k
  unfold tFv
  rw [hI_new0, hR_new0]
  cases rz_isR (kY cc k) <;> rfl
theorem rs_newarray {p : Program} {l : Launch} {e : Env} {R : Room} {s : State} {m : MethodId} {args : Array Value} {below : List Frame} {meth : Method} {c : Code} {Q : State → Prop} {M sz bs mcl msl : Nat} {D : va_G} {ca : Nat → ClassId} {scr : Option (Nat × (Nat → Int32))} {rk o pc len : Nat} {im : Int32} {aux ps : List Nat} {b : Nat × Nat} {ls : List (Option rz_V)} {st : List rz_V} {h : rz_H} {cf : rz_C} {k : rz_St → Option rz_Res} {r : rz_Res} {H : Heap} {locs : List Loc} {cells slots : Nat} {la : Array Slot} {aty : ArrayType} (C : rz_Cx p s m args meth c R M sz bs mcl msl D ca scr) (IH : ∀ S, k S = some r → rz_Wt p l e R s m args below meth c Q M sz bs mcl msl D ca S) (hr : rz_Rel s M sz bs mcl msl D ca b ls h H locs cells slots la) (hdec : decode (mC M) pc = .ok (.newarray aty, len)) (hck : rz_ck M o pc (.newarray aty) len im aux ps = true) (hap : rz_ap cf k (rz_do mT rk scr (.newarray aty) im aux o b ls st h) = some r) : W p l e R s m args below meth c H locs cells slots Q (F0 m pc la (st.map (tV sz bs))) := by
  obtain ⟨hx, hb, hml, hown, hts, hK, hAO, hnm, hsz, hmc, hms, hfr, hlo, hscr⟩ := C
  obtain ⟨h1, h2⟩ := ba hck
  obtain ⟨rfl, hn⟩ := ckn h1
  obtain ⟨r1, r2, r3, r4, r5, r6, r7⟩ := hr
  rcases aux with _ | ⟨ty, _ | ⟨n2, aux⟩⟩ <;> rcases st with _ | ⟨n | n | n | n, st⟩ <;> try exact (nomatch (show (none : Option rz_Res) = some r from hap))
  rcases ps with _ | ⟨p1, _ | ⟨p2, ps⟩⟩ <;> try exact (nomatch (show false = true from h2))
  obtain ⟨g1, g2⟩ := ba h2
  obtain ⟨g9, hap2⟩ := rz_bn hap
  obtain ⟨b1, b2⟩ := ba g9
  obtain ⟨b2, b3⟩ := ba b2
  obtain ⟨b3, b4⟩ := ba b3
  have b1 := Nat.le_of_ble_eq_true b1
  have b2 := Nat.le_of_ble_eq_true b2
  have b4 := Nat.le_of_ble_eq_true b4
  have b3 : ¬ n < 0 := by simpa using b3
  refine W_ub (fun hub => ?_)
  have hz := rz_hsz hsz r3 r4 r5 hub
  rcases (show (ty = 0 ∧ aty = .int) ∨ (ty = 1 ∧ aty = .byte) by simpa using g2) with ⟨rfl, rfl⟩ | ⟨rfl, rfl⟩
  · refine va_newaK (atype := .int) hx hb (hts _ (rz_at_mem g1)) rfl hdec rfl b3 rfl (by show n.toNatClampNeg * _ ≤ _; exact Nat.le_trans (Nat.mul_le_mul_right _ b4) (Nat.le_of_ble_eq_true rfl)) (by omega) (by omega) hz (fun H1 cA e1 z1 o1 hAr hNm => ?_)
    rw [← hz] at o1
    have ec : cA = ca 0 := Option.some.inj (hNm.symm.trans (hK.2 0 _ rfl).2)
    subst ec
    refine rz_go (IH _ hap2) hn ⟨r1, r2, rz_Pnew r3 hz o1 ?_, rz_Snew r4 (by omega) o1, by show s.heap.size + (cells + 1) = sz + rz_len (rz_new h (.inr (0, n.toNatClampNeg))); rw [rz_len_new]; omega, by show cells + 1 + (b.1 - 1) = mcl; omega, by show slots + n.toNatClampNeg + (b.2 - n.toNatClampNeg) ≤ msl; omega⟩
    show H1[sz + rz_len h]? = some (vp_cell _ _)
    rw [e1]
    rw [vp_cell_i]
    refine congrArg some (congrArg (arrV (ca 0) n.toNatClampNeg) (funext fun j => ?_))
    rw [hI_new0]
    rfl
  · refine va_newaK (atype := .byte) hx hb (hts _ (rz_at_mem g1)) rfl hdec rfl b3 rfl (by show n.toNatClampNeg * _ ≤ _; exact Nat.le_trans (Nat.mul_le_mul_right _ b4) (Nat.le_of_ble_eq_true rfl)) (by omega) (by omega) hz (fun H1 cA e1 z1 o1 hAr hNm => ?_)
    rw [← hz] at o1
    have ec : cA = ca 1 := Option.some.inj (hNm.symm.trans (hK.2 1 _ rfl).2)
    subst ec
    refine rz_go (IH _ hap2) hn ⟨r1, r2, rz_Pnew r3 hz o1 ?_, rz_Snew r4 (by omega) o1, by show s.heap.size + (cells + 1) = sz + rz_len (rz_new h (.inr (1, n.toNatClampNeg))); rw [rz_len_new]; omega, by show cells + 1 + (b.1 - 1) = mcl; omega, by show slots + n.toNatClampNeg + (b.2 - n.toNatClampNeg) ≤ msl; omega⟩
    show H1[sz + rz_len h]? = some (vp_cell _ _)
    rw [e1]
    rw [vp_cell_i]
    refine congrArg some (congrArg (arrV (ca 1) n.toNatClampNeg) (funext fun j => ?_))
    rw [hI_new0]
    rfl
theorem rs_anewarray {p : Program} {l : Launch} {e : Env} {R : Room} {s : State} {m : MethodId} {args : Array Value} {below : List Frame} {meth : Method} {c : Code} {Q : State → Prop} {M sz bs mcl msl : Nat} {D : va_G} {ca : Nat → ClassId} {scr : Option (Nat × (Nat → Int32))} {rk o pc len : Nat} {im : Int32} {aux ps : List Nat} {b : Nat × Nat} {ls : List (Option rz_V)} {st : List rz_V} {h : rz_H} {cf : rz_C} {k : rz_St → Option rz_Res} {r : rz_Res} {H : Heap} {locs : List Loc} {cells slots : Nat} {la : Array Slot} {idx : Nat} (C : rz_Cx p s m args meth c R M sz bs mcl msl D ca scr) (IH : ∀ S, k S = some r → rz_Wt p l e R s m args below meth c Q M sz bs mcl msl D ca S) (hr : rz_Rel s M sz bs mcl msl D ca b ls h H locs cells slots la) (hdec : decode (mC M) pc = .ok (.anewarray idx, len)) (hck : rz_ck M o pc (.anewarray idx) len im aux ps = true) (hap : rz_ap cf k (rz_do mT rk scr (.anewarray idx) im aux o b ls st h) = some r) : W p l e R s m args below meth c H locs cells slots Q (F0 m pc la (st.map (tV sz bs))) := by
  obtain ⟨hx, hb, hml, hown, hts, hK, hAO, hnm, hsz, hmc, hms, hfr, hlo, hscr⟩ := C
  obtain ⟨h1, h2⟩ := ba hck
  obtain ⟨rfl, hn⟩ := ckn h1
  obtain ⟨r1, r2, r3, r4, r5, r6, r7⟩ := hr
  rcases aux with _ | ⟨ty, _ | ⟨n2, aux⟩⟩ <;> rcases st with _ | ⟨n | n | n | n, st⟩ <;> try exact (nomatch (show (none : Option rz_Res) = some r from hap))
  rcases ps with _ | ⟨p1, _ | ⟨p2, _ | ⟨p3, ps⟩⟩⟩ <;> try exact (nomatch (show false = true from h2))
  obtain ⟨g1, g2⟩ := ba h2
  obtain ⟨g3, g4⟩ := ba g2
  have ety := Nat.eq_of_beq_eq_true g1
  subst ety
  obtain ⟨g9, hap2⟩ := rz_bn hap
  obtain ⟨b1, b2⟩ := ba g9
  obtain ⟨b2, b3⟩ := ba b2
  obtain ⟨b3, b4⟩ := ba b3
  have b1 := Nat.le_of_ble_eq_true b1
  have b2 := Nat.le_of_ble_eq_true b2
  have b4 := Nat.le_of_ble_eq_true b4
  have b3 : ¬ n < 0 := by simpa using b3
  refine W_ub (fun hub => ?_)
  have hz := rz_hsz hsz r3 r4 r5 hub
  refine W.anew hx hb hown (hts _ (rz_at_mem g3)) (va_AO.use hAO) rfl hdec rfl b3 (Nat.le_trans (Nat.mul_le_mul_right _ b4) (Nat.le_of_ble_eq_true rfl)) (by omega) (by omega) (fun cA kA comp f1 f2 f3 f4 => ?_)
  generalize hH1 : H.push ({ cls := cA, slots := Array.replicate n.toNatClampNeg .null, vm := .none } : Cell) = H1
  have z1 : H1.size = H.size + 1 := by rw [← hH1, Array.size_push]
  have e1 : H1[H.size]? = some (arrV cA n.toNatClampNeg (fun _ => .null)) := by rw [← hH1, Array.getElem?_push_size, ← arrV_new]
  have o1 : ∀ q : Nat, q < H.size → H1[q]? = H[q]? := fun q hq => by rw [← hH1, Array.getElem?_push, if_neg (Nat.ne_of_lt hq)]
  obtain ⟨-, kA2, comp2, -, -, -, f5⟩ := hK.2 2 _ rfl
  have ec : cA = ca 2 := Option.some.inj (f1.symm.trans f5)
  subst ec
  rw [hz]
  refine rz_go (IH _ hap2) hn ⟨r1, r2, rz_Pnew r3 hz o1 ?_, rz_Snew r4 (by omega) o1, by show s.heap.size + (cells + 1) = sz + rz_len (rz_new h (.inr (2, n.toNatClampNeg))); rw [rz_len_new]; omega, by show cells + 1 + (b.1 - 1) = mcl; omega, by show slots + n.toNatClampNeg + (b.2 - n.toNatClampNeg) ≤ msl; omega⟩
  show H1[sz + rz_len h]? = some (vp_cell _ _)
  rw [← hz, e1]
  rw [vp_cell_q]
  refine congrArg some (congrArg (arrV (ca 2) n.toNatClampNeg) (funext fun j => ?_))
  rw [hR_new0]
  rfl
