/-! switches -/
theorem rz_tab {M pc : Nat} {k : rz_St → Option rz_Res} {r : rz_Res} {x : Int32} {f : Nat → rz_St} {dS : rz_St} : ∀ (offs : List Int) (l : List Nat) (lo : Int), ck_tab M pc lo offs l = true → rz_swk k x dS (rz_prs f l) = some r → (∃ (j : Nat) (off : Int) (t : Nat), offs[j]? = some off ∧ x.toInt = lo + (j : Int) ∧ ck_br M pc off t = true ∧ k (f t) = some r) ∨ ((x.toInt < lo ∨ lo + (offs.length : Int) ≤ x.toInt) ∧ k dS = some r)
  | [], [], lo, _, h => Or.inr ⟨by simp; omega, h⟩
  | [], _ :: _, _, h, _ => by cases h
  | _ :: _, [], _, h, _ => by cases h
  | _ :: _, [_], _, h, _ => by cases h
  | off :: offs, q :: t :: l, lo, hc, h => by
    obtain ⟨c1, c2⟩ := ba hc
    obtain ⟨c3, c4⟩ := ba c2
    have c1 := of_decide_eq_true c1
    by_cases e : x = Int32.ofNat q
    · refine Or.inl ⟨0, off, t, rfl, ?_, c3, rz_bt (decide_eq_true e) h⟩
      rw [e, c1]; simp
    · have h2 := rz_bf (decide_eq_false e) h
      have ne : ¬ x.toInt = lo := fun z => e (Int32.toInt_inj.mp (by rw [z, c1]))
      rcases rz_tab offs l (lo + 1) c4 h2 with ⟨j, off2, t2, a1, a2, a3, a4⟩ | ⟨a1, a2⟩
      · exact Or.inl ⟨j + 1, off2, t2, a1, by rw [a2]; push_cast; omega, a3, a4⟩
      · refine Or.inr ⟨?_, a2⟩
        rw [List.length_cons]
        push_cast
        omega
theorem rz_lk {M pc : Nat} {k : rz_St → Option rz_Res} {r : rz_Res} {x : Int32} {f : Nat → rz_St} {d : Int} {td : Nat} (hd : ck_br M pc d td = true) : ∀ (prs : List (Int × Int)) (l : List Nat), ck_lk M pc prs l = true → rz_swk k x (f td) (rz_prs f l) = some r → ∃ t, (pc : Int) + Op.lookupswitch.offset prs d x.toInt = (rpc M t : Int) ∧ k (f t) = some r
  | [], [], _, h => ⟨td, ckb hd, h⟩
  | [], _ :: _, h, _ => by cases h
  | (_, _) :: _, [], h, _ => by cases h
  | (_, _) :: _, [_], h, _ => by cases h
  | (a, off) :: prs, q :: t :: l, hc, h => by
    obtain ⟨c1, c2⟩ := ba hc
    obtain ⟨c3, c4⟩ := ba c2
    have c1 := of_decide_eq_true c1
    rw [Op.lookupswitch.offset_cons]
    by_cases e : x = Int32.ofNat q
    · refine ⟨t, ?_, rz_bt (decide_eq_true e) h⟩
      rw [if_pos (by rw [e, c1])]
      exact ckb c3
    · have h2 := rz_bf (decide_eq_false e) h
      have ne : ¬ a = x.toInt := fun z => e (Int32.toInt_inj.mp (by rw [← z, c1]))
      rw [if_neg ne]
      exact rz_lk hd prs l c4 h2
theorem rs_tableswitch {p : Program} {l : Launch} {e : Env} {R : Room} {s : State} {m : MethodId} {args : Array Value} {below : List Frame} {meth : Method} {c : Code} {Q : State → Prop} {M sz bs mcl msl : Nat} {D : va_G} {ca : Nat → ClassId} {scr : Option (Nat × (Nat → Int32))} {rk o pc len : Nat} {im : Int32} {aux ps : List Nat} {b : Nat × Nat} {ls : List (Option rz_V)} {st : List rz_V} {h : rz_H} {cf : rz_C} {k : rz_St → Option rz_Res} {r : rz_Res} {H : Heap} {locs : List Loc} {cells slots : Nat} {la : Array Slot} {df lo hi : Int} {offs : Array Int} (C : rz_Cx p s m args meth c R M sz bs mcl msl D ca scr) (IH : ∀ S, k S = some r → rz_Wt p l e R s m args below meth c Q M sz bs mcl msl D ca S) (hr : rz_Rel s M sz bs mcl msl D ca b ls h H locs cells slots la) (hdec : decode (mC M) pc = .ok (.tableswitch df lo hi offs, len)) (hck : rz_ck M o pc (.tableswitch df lo hi offs) len im aux ps = true) (hap : rz_ap cf k (rz_do mT rk scr (.tableswitch df lo hi offs) im aux o b ls st h) = some r) : W p l e R s m args below meth c H locs cells slots Q (F0 m pc la (st.map (tV sz bs))) := by
  obtain ⟨hx, hb, hml, hown, hts, hK, hAO, hnm, hsz, hmc, hms, hfr, hlo, hscr⟩ := C
  rcases aux with _ | ⟨t, l2⟩ <;> rcases st with _ | ⟨x | x | x | x, st⟩ <;> try exact (nomatch (show (none : Option rz_Res) = some r from hap))
  obtain ⟨h1, h2⟩ := ba hck
  obtain ⟨h3, h4⟩ := ba h2
  have h4 := of_decide_eq_true h4
  rcases rz_tab offs.toList l2 lo h3 hap with ⟨j, off, t2, a1, a2, a3, a4⟩ | ⟨a1, a2⟩
  · have hj : j < offs.toList.length := (List.getElem?_eq_some_iff.mp a1).1
    exact lv_tableIn hx hb hdec (by omega) (by omega) (by rw [show (x.toInt - lo).toNat = j by omega, ← Array.getElem?_toList]; exact a1) (ckb a3) (rz_go (IH _ a4) rfl hr)
  · exact lv_tableOut hx hb hdec (by omega) (ckb h1) (rz_go (IH _ a2) rfl hr)
theorem rs_lookupswitch {p : Program} {l : Launch} {e : Env} {R : Room} {s : State} {m : MethodId} {args : Array Value} {below : List Frame} {meth : Method} {c : Code} {Q : State → Prop} {M sz bs mcl msl : Nat} {D : va_G} {ca : Nat → ClassId} {scr : Option (Nat × (Nat → Int32))} {rk o pc len : Nat} {im : Int32} {aux ps : List Nat} {b : Nat × Nat} {ls : List (Option rz_V)} {st : List rz_V} {h : rz_H} {cf : rz_C} {k : rz_St → Option rz_Res} {r : rz_Res} {H : Heap} {locs : List Loc} {cells slots : Nat} {la : Array Slot} {df : Int} {prs : Array (Int × Int)} (C : rz_Cx p s m args meth c R M sz bs mcl msl D ca scr) (IH : ∀ S, k S = some r → rz_Wt p l e R s m args below meth c Q M sz bs mcl msl D ca S) (hr : rz_Rel s M sz bs mcl msl D ca b ls h H locs cells slots la) (hdec : decode (mC M) pc = .ok (.lookupswitch df prs, len)) (hck : rz_ck M o pc (.lookupswitch df prs) len im aux ps = true) (hap : rz_ap cf k (rz_do mT rk scr (.lookupswitch df prs) im aux o b ls st h) = some r) : W p l e R s m args below meth c H locs cells slots Q (F0 m pc la (st.map (tV sz bs))) := by
  obtain ⟨hx, hb, hml, hown, hts, hK, hAO, hnm, hsz, hmc, hms, hfr, hlo, hscr⟩ := C
  rcases aux with _ | ⟨t, l2⟩ <;> rcases st with _ | ⟨x | x | x | x, st⟩ <;> try exact (nomatch (show (none : Option rz_Res) = some r from hap))
  obtain ⟨h1, h2⟩ := ba hck
  obtain ⟨h3, h4⟩ := ba h2
  obtain ⟨t2, a1, a2⟩ := rz_lk (f := fun t => (t, b, ls, st, h)) h1 prs.toList l2 h3 hap
  exact lv_lookup hx hb hdec h4 rfl a1 (rz_go (IH _ a2) rfl hr)
/-! returns -/
def rz_ret (sz bs rk : Nat) (i : Instr) (v : rz_V) (st : List Value) : Prop :=
  (i = .ireturn ∧ rk = 1 ∧ ∃ x, v = rz_i x ∧ st = [.int x]) ∨ (i = .ireturn ∧ rk = 4 ∧ ∃ x, (x = 0 ∨ x = 1) ∧ v = rz_i x ∧ st = [.int x]) ∨ (i = .lreturn ∧ rk = 3 ∧ ∃ x, v = rz_l x ∧ st = [.long x]) ∨ (i = .areturn ∧ rk = 2 ∧ ∃ x, v = rz_r x ∧ st = [tV sz bs (rz_r x)]) ∨ (i = .return_ ∧ rk = 0 ∧ st = [])
theorem rz_kk {rk : Nat} : rk = 0 ∨ rk = 1 ∨ rk = 2 ∨ rk = 3 ∨ rk = 4 ∨ ∃ n, rk = n + 5 := by
  rcases rk with _ | _ | _ | _ | _ | n <;> simp
theorem rs_ireturn {p : Program} {l : Launch} {e : Env} {R : Room} {s : State} {m : MethodId} {args : Array Value} {below : List Frame} {meth : Method} {c : Code} {Q : State → Prop} {M sz bs mcl msl : Nat} {D : va_G} {ca : Nat → ClassId} {scr : Option (Nat × (Nat → Int32))} {o pc len : Nat} {im : Int32} {aux ps : List Nat} {b : Nat × Nat} {ls : List (Option rz_V)} {st : List rz_V} {h : rz_H} {cf : rz_C} {k : rz_St → Option rz_Res} {r : rz_Res} {H : Heap} {locs : List Loc} {cells slots : Nat} {la : Array Slot} (C : rz_Cx p s m args meth c R M sz bs mcl msl D ca scr) (hr : rz_Rel s M sz bs mcl msl D ca b ls h H locs cells slots la) (hend : ∀ (i : Instr) (pc : Nat) (st : List Value) (H : Heap) (locs : List Loc) (slots : Nat) (la : Array Slot), decode (mC M) pc = .ok (i, 1) → rz_ret sz bs (mK M) i r.1 st → va_P D kCl (tW sz ca r.2) H → va_S (fun q => sz ≤ q) s.heap H locs → s.heap.size + mcl = sz + rz_len r.2 → slots ≤ msl → W p l e R s m args below meth c H locs mcl slots Q (F0 m pc la st)) (hdec : decode (mC M) pc = .ok (.ireturn, len)) (hck : rz_ck M o pc (.ireturn) len im aux ps = true) (hap : rz_ap cf k (rz_do mT (mK M) scr (.ireturn) im aux o b ls st h) = some r) : W p l e R s m args below meth c H locs cells slots Q (F0 m pc la (st.map (tV sz bs))) := by
  obtain ⟨hx, hb, hml, hown, hts, hK, hAO, hnm, hsz, hmc, hms, hfr, hlo, hscr⟩ := C
  have el := Nat.eq_of_beq_eq_true hck
  subst el
  obtain ⟨r1, r2, r3, r4, r5, r6, r7⟩ := hr
  generalize hrk : mK M = rk at hap hend
  rcases rk with _ | _ | _ | _ | _ | n <;> rcases st with _ | ⟨x | x | x | x, _ | ⟨y, st⟩⟩ <;> try exact (nomatch (show (none : Option rz_Res) = some r from hap))
  · obtain ⟨g, hap⟩ := rz_bn hap
    have e0 : b.1 = 0 := Nat.eq_of_beq_eq_true g
    cases hap
    have ec : cells = mcl := by omega
    subst ec
    exact hend _ pc _ H locs slots la hdec (Or.inl ⟨rfl, rfl, x, rfl, rfl⟩) r3 r4 r5 (by omega)
  · obtain ⟨g, hap⟩ := rz_bn hap
    obtain ⟨g, g2⟩ := ba g
    have e0 : b.1 = 0 := Nat.eq_of_beq_eq_true g
    cases hap
    have ec : cells = mcl := by omega
    subst ec
    exact hend _ pc _ H locs slots la hdec (Or.inr (Or.inl ⟨rfl, rfl, x, by simpa using g2, rfl, rfl⟩)) r3 r4 r5 (by omega)
theorem rs_lreturn {p : Program} {l : Launch} {e : Env} {R : Room} {s : State} {m : MethodId} {args : Array Value} {below : List Frame} {meth : Method} {c : Code} {Q : State → Prop} {M sz bs mcl msl : Nat} {D : va_G} {ca : Nat → ClassId} {scr : Option (Nat × (Nat → Int32))} {o pc len : Nat} {im : Int32} {aux ps : List Nat} {b : Nat × Nat} {ls : List (Option rz_V)} {st : List rz_V} {h : rz_H} {cf : rz_C} {k : rz_St → Option rz_Res} {r : rz_Res} {H : Heap} {locs : List Loc} {cells slots : Nat} {la : Array Slot} (C : rz_Cx p s m args meth c R M sz bs mcl msl D ca scr) (hr : rz_Rel s M sz bs mcl msl D ca b ls h H locs cells slots la) (hend : ∀ (i : Instr) (pc : Nat) (st : List Value) (H : Heap) (locs : List Loc) (slots : Nat) (la : Array Slot), decode (mC M) pc = .ok (i, 1) → rz_ret sz bs (mK M) i r.1 st → va_P D kCl (tW sz ca r.2) H → va_S (fun q => sz ≤ q) s.heap H locs → s.heap.size + mcl = sz + rz_len r.2 → slots ≤ msl → W p l e R s m args below meth c H locs mcl slots Q (F0 m pc la st)) (hdec : decode (mC M) pc = .ok (.lreturn, len)) (hck : rz_ck M o pc (.lreturn) len im aux ps = true) (hap : rz_ap cf k (rz_do mT (mK M) scr (.lreturn) im aux o b ls st h) = some r) : W p l e R s m args below meth c H locs cells slots Q (F0 m pc la (st.map (tV sz bs))) := by
  obtain ⟨hx, hb, hml, hown, hts, hK, hAO, hnm, hsz, hmc, hms, hfr, hlo, hscr⟩ := C
  have el := Nat.eq_of_beq_eq_true hck
  subst el
  obtain ⟨r1, r2, r3, r4, r5, r6, r7⟩ := hr
  generalize hrk : mK M = rk at hap hend
  rcases rk with _ | _ | _ | _ | n <;> rcases st with _ | ⟨x | x | x | x, _ | ⟨y, st⟩⟩ <;> try exact (nomatch (show (none : Option rz_Res) = some r from hap))
  obtain ⟨g, hap⟩ := rz_bn hap
  have e0 : b.1 = 0 := Nat.eq_of_beq_eq_true g
  cases hap
  have ec : cells = mcl := by omega
  subst ec
  exact hend _ pc _ H locs slots la hdec (Or.inr (Or.inr (Or.inl ⟨rfl, rfl, x, rfl, rfl⟩))) r3 r4 r5 (by omega)
theorem rs_areturn {p : Program} {l : Launch} {e : Env} {R : Room} {s : State} {m : MethodId} {args : Array Value} {below : List Frame} {meth : Method} {c : Code} {Q : State → Prop} {M sz bs mcl msl : Nat} {D : va_G} {ca : Nat → ClassId} {scr : Option (Nat × (Nat → Int32))} {o pc len : Nat} {im : Int32} {aux ps : List Nat} {b : Nat × Nat} {ls : List (Option rz_V)} {st : List rz_V} {h : rz_H} {cf : rz_C} {k : rz_St → Option rz_Res} {r : rz_Res} {H : Heap} {locs : List Loc} {cells slots : Nat} {la : Array Slot} (C : rz_Cx p s m args meth c R M sz bs mcl msl D ca scr) (hr : rz_Rel s M sz bs mcl msl D ca b ls h H locs cells slots la) (hend : ∀ (i : Instr) (pc : Nat) (st : List Value) (H : Heap) (locs : List Loc) (slots : Nat) (la : Array Slot), decode (mC M) pc = .ok (i, 1) → rz_ret sz bs (mK M) i r.1 st → va_P D kCl (tW sz ca r.2) H → va_S (fun q => sz ≤ q) s.heap H locs → s.heap.size + mcl = sz + rz_len r.2 → slots ≤ msl → W p l e R s m args below meth c H locs mcl slots Q (F0 m pc la st)) (hdec : decode (mC M) pc = .ok (.areturn, len)) (hck : rz_ck M o pc (.areturn) len im aux ps = true) (hap : rz_ap cf k (rz_do mT (mK M) scr (.areturn) im aux o b ls st h) = some r) : W p l e R s m args below meth c H locs cells slots Q (F0 m pc la (st.map (tV sz bs))) := by
  obtain ⟨hx, hb, hml, hown, hts, hK, hAO, hnm, hsz, hmc, hms, hfr, hlo, hscr⟩ := C
  have el := Nat.eq_of_beq_eq_true hck
  subst el
  obtain ⟨r1, r2, r3, r4, r5, r6, r7⟩ := hr
  generalize hrk : mK M = rk at hap hend
  rcases rk with _ | _ | _ | n <;> rcases st with _ | ⟨x | x | x | x, _ | ⟨y, st⟩⟩ <;> try exact (nomatch (show (none : Option rz_Res) = some r from hap))
  obtain ⟨g, hap⟩ := rz_bn hap
  have e0 : b.1 = 0 := Nat.eq_of_beq_eq_true g
  cases hap
  have ec : cells = mcl := by omega
  subst ec
  exact hend _ pc _ H locs slots la hdec (Or.inr (Or.inr (Or.inr (Or.inl ⟨rfl, rfl, x, rfl, rfl⟩)))) r3 r4 r5 (by omega)
theorem rs_return_ {p : Program} {l : Launch} {e : Env} {R : Room} {s : State} {m : MethodId} {args : Array Value} {below : List Frame} {meth : Method} {c : Code} {Q : State → Prop} {M sz bs mcl msl : Nat} {D : va_G} {ca : Nat → ClassId} {scr : Option (Nat × (Nat → Int32))} {o pc len : Nat} {im : Int32} {aux ps : List Nat} {b : Nat × Nat} {ls : List (Option rz_V)} {st : List rz_V} {h : rz_H} {cf : rz_C} {k : rz_St → Option rz_Res} {r : rz_Res} {H : Heap} {locs : List Loc} {cells slots : Nat} {la : Array Slot} (C : rz_Cx p s m args meth c R M sz bs mcl msl D ca scr) (hr : rz_Rel s M sz bs mcl msl D ca b ls h H locs cells slots la) (hend : ∀ (i : Instr) (pc : Nat) (st : List Value) (H : Heap) (locs : List Loc) (slots : Nat) (la : Array Slot), decode (mC M) pc = .ok (i, 1) → rz_ret sz bs (mK M) i r.1 st → va_P D kCl (tW sz ca r.2) H → va_S (fun q => sz ≤ q) s.heap H locs → s.heap.size + mcl = sz + rz_len r.2 → slots ≤ msl → W p l e R s m args below meth c H locs mcl slots Q (F0 m pc la st)) (hdec : decode (mC M) pc = .ok (.return_, len)) (hck : rz_ck M o pc (.return_) len im aux ps = true) (hap : rz_ap cf k (rz_do mT (mK M) scr (.return_) im aux o b ls st h) = some r) : W p l e R s m args below meth c H locs cells slots Q (F0 m pc la (st.map (tV sz bs))) := by
  obtain ⟨hx, hb, hml, hown, hts, hK, hAO, hnm, hsz, hmc, hms, hfr, hlo, hscr⟩ := C
  have el := Nat.eq_of_beq_eq_true hck
  subst el
  obtain ⟨r1, r2, r3, r4, r5, r6, r7⟩ := hr
  generalize hrk : mK M = rk at hap hend
  rcases rk with _ | n <;> rcases st with _ | ⟨y, st⟩ <;> try exact (nomatch (show (none : Option rz_Res) = some r from hap))
  obtain ⟨g, hap⟩ := rz_bn hap
  have e0 : b.1 = 0 := Nat.eq_of_beq_eq_true g
  cases hap
  have ec : cells = mcl := by omega
  subst ec
  exact hend _ pc _ H locs slots la hdec (Or.inr (Or.inr (Or.inr (Or.inr ⟨rfl, rfl, rfl⟩)))) r3 r4 r5 (by omega)
set_option maxHeartbeats 4000000 in
theorem rz_step {p : Program} {l : Launch} {e : Env} {R : Room} {s : State} {m : MethodId} {args : Array Value} {below : List Frame} {meth : Method} {c : Code} {Q : State → Prop} {M sz bs mcl msl : Nat} {D : va_G} {ca : Nat → ClassId} {scr : Option (Nat × (Nat → Int32))} {o pc len : Nat} {im : Int32} {aux ps : List Nat} {b : Nat × Nat} {ls : List (Option rz_V)} {st : List rz_V} {h : rz_H} {cf : rz_C} {k : rz_St → Option rz_Res} {r : rz_Res} {H : Heap} {locs : List Loc} {cells slots : Nat} {la : Array Slot} {i : Instr} {d : Nat} (C : rz_Cx p s m args meth c R M sz bs mcl msl D ca scr) (IH : ∀ S, k S = some r → rz_Wt p l e R s m args below meth c Q M sz bs mcl msl D ca S) (hr : rz_Rel s M sz bs mcl msl D ca b ls h H locs cells slots la) (hcf : ∀ (mm : Nat) (as : List rz_V) (h : rz_H) (r : rz_Res), mm < 279 → mm ≠ 274 → cf mm as h = some r → rz_Ct l sz bs D ca d mm as h r) (hRf : d + 1 ≤ R.frames) (hRl : 40 * d + 40 ≤ R.locals) (hme : ∀ M, M < 279 → M ≠ 274 → ck_me M = true) (hend : ∀ (i : Instr) (pc : Nat) (st : List Value) (H : Heap) (locs : List Loc) (slots : Nat) (la : Array Slot), decode (mC M) pc = .ok (i, 1) → rz_ret sz bs (mK M) i r.1 st → va_P D kCl (tW sz ca r.2) H → va_S (fun q => sz ≤ q) s.heap H locs → s.heap.size + mcl = sz + rz_len r.2 → slots ≤ msl → W p l e R s m args below meth c H locs mcl slots Q (F0 m pc la st)) (hdec : decode (mC M) pc = .ok (i, len)) (hck : rz_ck M o pc i len im aux ps = true) (hap : rz_ap cf k (rz_do mT (mK M) scr i im aux o b ls st h) = some r) : W p l e R s m args below meth c H locs cells slots Q (F0 m pc la (st.map (tV sz bs))) := by
  cases i
  case iconst => exact rs_iconst C IH hr hdec hck hap
  case bipush => exact rs_bipush C IH hr hdec hck hap
  case sipush => exact rs_sipush C IH hr hdec hck hap
  case ldc => exact rs_ldc C IH hr hdec hck hap
  case ldc_w => exact rs_ldc_w C IH hr hdec hck hap
  case lconst => exact rs_lconst C IH hr hdec hck hap
  case ldc2_w => exact rs_ldc2_w C IH hr hdec hck hap
  case aconst_null => exact rs_aconst_null C IH hr hdec hck hap
  case iload => exact rs_iload C IH hr hdec hck hap
  case iload_n => exact rs_iload_n C IH hr hdec hck hap
  case lload => exact rs_lload C IH hr hdec hck hap
  case lload_n => exact rs_lload_n C IH hr hdec hck hap
  case aload => exact rs_aload C IH hr hdec hck hap
  case aload_n => exact rs_aload_n C IH hr hdec hck hap
  case istore => exact rs_istore C IH hr hdec hck hap
  case istore_n => exact rs_istore_n C IH hr hdec hck hap
  case lstore => exact rs_lstore C IH hr hdec hck hap
  case lstore_n => exact rs_lstore_n C IH hr hdec hck hap
  case astore => exact rs_astore C IH hr hdec hck hap
  case astore_n => exact rs_astore_n C IH hr hdec hck hap
  case iinc => exact rs_iinc C IH hr hdec hck hap
  case iadd => exact rs_iadd C IH hr hdec hck hap
  case isub => exact rs_isub C IH hr hdec hck hap
  case imul => exact rs_imul C IH hr hdec hck hap
  case iand => exact rs_iand C IH hr hdec hck hap
  case ior => exact rs_ior C IH hr hdec hck hap
  case ixor => exact rs_ixor C IH hr hdec hck hap
  case ishl => exact rs_ishl C IH hr hdec hck hap
  case ishr => exact rs_ishr C IH hr hdec hck hap
  case iushr => exact rs_iushr C IH hr hdec hck hap
  case idiv => exact rs_idiv C IH hr hdec hck hap
  case irem => exact rs_irem C IH hr hdec hck hap
  case ladd => exact rs_ladd C IH hr hdec hck hap
  case lmul => exact rs_lmul C IH hr hdec hck hap
  case ldiv => exact rs_ldiv C IH hr hdec hck hap
  case lcmp => exact rs_lcmp C IH hr hdec hck hap
  case ineg => exact rs_ineg C IH hr hdec hck hap
  case i2b => exact rs_i2b C IH hr hdec hck hap
  case i2l => exact rs_i2l C IH hr hdec hck hap
  case dup => exact rs_dup C IH hr hdec hck hap
  case pop => exact rs_pop C IH hr hdec hck hap
  case dup2 => exact rs_dup2 C IH hr hdec hck hap
  case goto => exact rs_goto C IH hr hdec hck hap
  case ifCond => exact rs_ifCond C IH hr hdec hck hap
  case if_icmp => exact rs_if_icmp C IH hr hdec hck hap
  case ifnull => exact rs_ifnull C IH hr hdec hck hap
  case ifnonnull => exact rs_ifnonnull C IH hr hdec hck hap
  case getfield => exact rs_getfield C IH hr hdec hck hap
  case putfield => exact rs_putfield C IH hr hdec hck hap
  case iaload => exact rs_iaload C IH hr hdec hck hap
  case baload => exact rs_baload C IH hr hdec hck hap
  case aaload => exact rs_aaload C IH hr hdec hck hap
  case iastore => exact rs_iastore C IH hr hdec hck hap
  case bastore => exact rs_bastore C IH hr hdec hck hap
  case aastore => exact rs_aastore C IH hr hdec hck hap
  case arraylength => exact rs_arraylength C IH hr hdec hck hap
  case new => exact rs_new C IH hr hdec hck hap
  case newarray => exact rs_newarray C IH hr hdec hck hap
  case anewarray => exact rs_anewarray C IH hr hdec hck hap
  case tableswitch => exact rs_tableswitch C IH hr hdec hck hap
  case lookupswitch => exact rs_lookupswitch C IH hr hdec hck hap
  case invokevirtual => exact rs_invokevirtual C IH hr hcf hRf hRl hme hdec hck hap
  case invokespecial => exact rs_invokespecial C IH hr hcf hRf hRl hme hdec hck hap
  case invokestatic => exact rs_invokestatic C IH hr hcf hRf hRl hme hdec hck hap
  case ireturn => exact rs_ireturn C hr hend hdec hck hap
  case lreturn => exact rs_lreturn C hr hend hdec hck hap
  case areturn => exact rs_areturn C hr hend hdec hck hap
  case return_ => exact rs_return_ C hr hend hdec hck hap
  all_goals exact (nomatch (show (none : Option rz_Res) = some r from hap))
theorem rz_run {p : Program} {l : Launch} {e : Env} {R : Room} {s : State} {m : MethodId} {args : Array Value} {below : List Frame} {meth : Method} {c : Code} {Q : State → Prop} {M sz bs mcl msl : Nat} {D : va_G} {ca : Nat → ClassId} {scr : Option (Nat × (Nat → Int32))} {cf : rz_C} {r : rz_Res} {d : Nat} (C : rz_Cx p s m args meth c R M sz bs mcl msl D ca scr) (hcf : ∀ (mm : Nat) (as : List rz_V) (h : rz_H) (r : rz_Res), mm < 279 → mm ≠ 274 → cf mm as h = some r → rz_Ct l sz bs D ca d mm as h r) (hRf : d + 1 ≤ R.frames) (hRl : 40 * d + 40 ≤ R.locals) (hme : ∀ M, M < 279 → M ≠ 274 → ck_me M = true) (hend : ∀ (i : Instr) (pc : Nat) (st : List Value) (H : Heap) (locs : List Loc) (slots : Nat) (la : Array Slot), decode (mC M) pc = .ok (i, 1) → rz_ret sz bs (mK M) i r.1 st → va_P D kCl (tW sz ca r.2) H → va_S (fun q => sz ≤ q) s.heap H locs → s.heap.size + mcl = sz + rz_len r.2 → slots ≤ msl → W p l e R s m args below meth c H locs mcl slots Q (F0 m pc la st)) (hrows : rz_chM M = true) (hzM : ∀ o, mF M o ≠ none → o < mZ M) : ∀ (n : Nat) (S : rz_St), rz_N (rz_act mT (mK M) scr (mF M)) cf n S = some r → rz_Wt p l e R s m args below meth c Q M sz bs mcl msl D ca S
  | 0, S, hn => by cases hn
  | n + 1, S, hn => by
    obtain ⟨o, b, ls, st, h⟩ := S
    intro H locs cells slots la hr
    have hap : rz_ap cf (rz_N (rz_act mT (mK M) scr (mF M)) cf n) (rz_act mT (mK M) scr (mF M) (o, b, ls, st, h)) = some r := hn
    unfold rz_act at hap
    dsimp only at hap
    rcases hF : mF M o with _ | ⟨pc, i, len, im, aux, dead, ps⟩ <;> rw [hF] at hap
    · exact (nomatch (show (none : Option rz_Res) = some r from hap))
    have hck := List.all_eq_true.mp hrows o (List.mem_range.mpr (hzM o (by rw [hF]; exact fun q => by cases q)))
    unfold rz_chk at hck
    rw [hF] at hck
    obtain ⟨k1, k2⟩ := ba hck
    have hpc : rpc M o = pc := by unfold rpc; rw [hF]
    obtain ⟨r1, r2, r3⟩ := hr
    show W p l e R s m args below meth c H locs cells slots Q (F0 m (rpc M o) la (st.map (tV sz bs)))
    rw [hpc]
    exact rz_step C (fun S hS => rz_run C hcf hRf hRl hme hend hrows hzM n S hS) ⟨rz_LR_drop dead r1, by rw [rz_len_drop]; exact r2, r3⟩ hcf hRf hRl hme hend (of_decide_eq_true k1) k2 hap
