/-! the machine does what the pure machine does: instructions -/
/-- what holds in a frame all the time -/
def rz_Cx (p : Program) (s : State) (m : MethodId) (args : Array Value) (meth : Method) (c : Code) (R : Room) (M sz bs mcl msl : Nat) (D : va_G) (ca : Nat → ClassId) (scr : Option (Nat × (Nat → Int32))) : Prop :=
  p.tables.exec = Jvm.exec ∧ c.code = mC M ∧ c.maxLocals = mL M ∧ s.vm.findClass (mY M).cls = some m.cls ∧ (∀ w ∈ lwG, w.before args s = true) ∧ va_K D kCl (tys ca) s ∧ va_AO (kC 0) s ∧ ((mY M).name = "<init>" → meth.name = "<init>") ∧ sz ≤ s.heap.size ∧ mcl ≤ R.cells ∧ msl ≤ R.slots ∧ 1 ≤ R.frames ∧ 20 ≤ R.locals ∧ ∀ (L : Nat) (xs : Nat → Int32), scr = some (L, xs) → va_X bs L xs s s.heap ∧ bs < sz
def rz_Rel (s : State) (M sz bs mcl msl : Nat) (D : va_G) (ca : Nat → ClassId) (b : Nat × Nat) (ls : List (Option rz_V)) (h : rz_H) (H : Heap) (locs : List Loc) (cells slots : Nat) (la : Array Slot) : Prop :=
  rz_LR sz bs la (mL M) ls ∧ ls.length = mL M ∧ va_P D kCl (tW sz ca h) H ∧ va_S (fun q => sz ≤ q) s.heap H locs ∧ s.heap.size + cells = sz + rz_len h ∧ cells + b.1 = mcl ∧ slots + b.2 ≤ msl
def rz_Wx (p : Program) (l : Launch) (e : Env) (R : Room) (s : State) (m : MethodId) (args : Array Value) (below : List Frame) (meth : Method) (c : Code) (Q : State → Prop) (M sz bs mcl msl : Nat) (D : va_G) (ca : Nat → ClassId) (o : Nat) (b : Nat × Nat) (ls : List (Option rz_V)) (st : List rz_V) (h : rz_H) : Prop :=
  ∀ (H : Heap) (locs : List Loc) (cells slots : Nat) (la : Array Slot), rz_Rel s M sz bs mcl msl D ca b ls h H locs cells slots la → W p l e R s m args below meth c H locs cells slots Q (F0 m (rpc M o) la (st.map (tV sz bs)))
def rz_Wt (p : Program) (l : Launch) (e : Env) (R : Room) (s : State) (m : MethodId) (args : Array Value) (below : List Frame) (meth : Method) (c : Code) (Q : State → Prop) (M sz bs mcl msl : Nat) (D : va_G) (ca : Nat → ClassId) (S : rz_St) : Prop := rz_Wx p l e R s m args below meth c Q M sz bs mcl msl D ca S.1 S.2.1 S.2.2.1 S.2.2.2.1 S.2.2.2.2
theorem rz_bt {b : Bool} {A B : Option rz_Res} {r : rz_Res} (hb : b = true) (h : (bif b then A else B) = some r) : A = some r := by rw [hb] at h; exact h
theorem rz_bf {b : Bool} {A B : Option rz_Res} {r : rz_Res} (hb : b = false) (h : (bif b then A else B) = some r) : B = some r := by rw [hb] at h; exact h
theorem rz_bn {b : Bool} {A : Option rz_Res} {r : rz_Res} (h : (bif b then A else none) = some r) : b = true ∧ A = some r := by
  cases b
  · cases h
  · exact ⟨rfl, h⟩
theorem ba {a b : Bool} (h : (a && b) = true) : a = true ∧ b = true := by
  cases a <;> cases b <;> first | exact ⟨rfl, rfl⟩ | cases h
theorem ck1 {M o pc len : Nat} (h : ck_1 M o pc len = true) : len = 1 ∧ rpc M (o + 1) = pc + 1 := by
  obtain ⟨h1, h2⟩ := ba h
  have e := Nat.eq_of_beq_eq_true h1
  subst e
  exact ⟨rfl, Nat.eq_of_beq_eq_true h2⟩
theorem ckn {M o pc len n : Nat} (h : (Nat.beq len n && ck_nx M o pc len) = true) : len = n ∧ rpc M (o + 1) = pc + n := by
  obtain ⟨h1, h2⟩ := ba h
  have e := Nat.eq_of_beq_eq_true h1
  subst e
  exact ⟨rfl, Nat.eq_of_beq_eq_true h2⟩
theorem ckb {M pc : Nat} {off : Int} {t : Nat} (h : ck_br M pc off t = true) : (pc : Int) + off = (rpc M t : Int) := of_decide_eq_true h
theorem rz_go {p : Program} {l : Launch} {e : Env} {R : Room} {s : State} {m : MethodId} {args : Array Value} {below : List Frame} {meth : Method} {c : Code} {Q : State → Prop} {M sz bs mcl msl : Nat} {D : va_G} {ca : Nat → ClassId} {o pc : Nat} {b : Nat × Nat} {ls : List (Option rz_V)} {st : List rz_V} {h : rz_H} {H : Heap} {locs : List Loc} {cells slots : Nat} {la : Array Slot} (w : rz_Wx p l e R s m args below meth c Q M sz bs mcl msl D ca o b ls st h) (hn : rpc M o = pc) (hr : rz_Rel s M sz bs mcl msl D ca b ls h H locs cells slots la) : W p l e R s m args below meth c H locs cells slots Q (F0 m pc la (st.map (tV sz bs))) := by
  subst hn
  exact w H locs cells slots la hr
theorem rs_iconst {p : Program} {l : Launch} {e : Env} {R : Room} {s : State} {m : MethodId} {args : Array Value} {below : List Frame} {meth : Method} {c : Code} {Q : State → Prop} {M sz bs mcl msl : Nat} {D : va_G} {ca : Nat → ClassId} {scr : Option (Nat × (Nat → Int32))} {rk o pc len : Nat} {im : Int32} {aux ps : List Nat} {b : Nat × Nat} {ls : List (Option rz_V)} {st : List rz_V} {h : rz_H} {cf : rz_C} {k : rz_St → Option rz_Res} {r : rz_Res} {H : Heap} {locs : List Loc} {cells slots : Nat} {la : Array Slot} {n : Int} (C : rz_Cx p s m args meth c R M sz bs mcl msl D ca scr) (IH : ∀ S, k S = some r → rz_Wt p l e R s m args below meth c Q M sz bs mcl msl D ca S) (hr : rz_Rel s M sz bs mcl msl D ca b ls h H locs cells slots la) (hdec : decode (mC M) pc = .ok (.iconst n, len)) (hck : rz_ck M o pc (.iconst n) len im aux ps = true) (hap : rz_ap cf k (rz_do mT rk scr (.iconst n) im aux o b ls st h) = some r) : W p l e R s m args below meth c H locs cells slots Q (F0 m pc la (st.map (tV sz bs))) := by
  obtain ⟨hx, hb, hml, hown, hts, hK, hAO, hnm, hsz, hmc, hms, hfr, hlo, hscr⟩ := C
  obtain ⟨h1, h2⟩ := ba hck
  obtain ⟨rfl, hn⟩ := ck1 h1
  exact lv_iconst hx hb hdec (of_decide_eq_true h2) (rz_go (IH _ hap) hn hr)
theorem rs_bipush {p : Program} {l : Launch} {e : Env} {R : Room} {s : State} {m : MethodId} {args : Array Value} {below : List Frame} {meth : Method} {c : Code} {Q : State → Prop} {M sz bs mcl msl : Nat} {D : va_G} {ca : Nat → ClassId} {scr : Option (Nat × (Nat → Int32))} {rk o pc len : Nat} {im : Int32} {aux ps : List Nat} {b : Nat × Nat} {ls : List (Option rz_V)} {st : List rz_V} {h : rz_H} {cf : rz_C} {k : rz_St → Option rz_Res} {r : rz_Res} {H : Heap} {locs : List Loc} {cells slots : Nat} {la : Array Slot} {n : Int} (C : rz_Cx p s m args meth c R M sz bs mcl msl D ca scr) (IH : ∀ S, k S = some r → rz_Wt p l e R s m args below meth c Q M sz bs mcl msl D ca S) (hr : rz_Rel s M sz bs mcl msl D ca b ls h H locs cells slots la) (hdec : decode (mC M) pc = .ok (.bipush n, len)) (hck : rz_ck M o pc (.bipush n) len im aux ps = true) (hap : rz_ap cf k (rz_do mT rk scr (.bipush n) im aux o b ls st h) = some r) : W p l e R s m args below meth c H locs cells slots Q (F0 m pc la (st.map (tV sz bs))) := by
  obtain ⟨hx, hb, hml, hown, hts, hK, hAO, hnm, hsz, hmc, hms, hfr, hlo, hscr⟩ := C
  obtain ⟨h1, h2⟩ := ba hck
  obtain ⟨rfl, hn⟩ := ckn h1
  exact lv_bipush hx hb hdec (of_decide_eq_true h2) (rz_go (IH _ hap) hn hr)
theorem rs_sipush {p : Program} {l : Launch} {e : Env} {R : Room} {s : State} {m : MethodId} {args : Array Value} {below : List Frame} {meth : Method} {c : Code} {Q : State → Prop} {M sz bs mcl msl : Nat} {D : va_G} {ca : Nat → ClassId} {scr : Option (Nat × (Nat → Int32))} {rk o pc len : Nat} {im : Int32} {aux ps : List Nat} {b : Nat × Nat} {ls : List (Option rz_V)} {st : List rz_V} {h : rz_H} {cf : rz_C} {k : rz_St → Option rz_Res} {r : rz_Res} {H : Heap} {locs : List Loc} {cells slots : Nat} {la : Array Slot} {n : Int} (C : rz_Cx p s m args meth c R M sz bs mcl msl D ca scr) (IH : ∀ S, k S = some r → rz_Wt p l e R s m args below meth c Q M sz bs mcl msl D ca S) (hr : rz_Rel s M sz bs mcl msl D ca b ls h H locs cells slots la) (hdec : decode (mC M) pc = .ok (.sipush n, len)) (hck : rz_ck M o pc (.sipush n) len im aux ps = true) (hap : rz_ap cf k (rz_do mT rk scr (.sipush n) im aux o b ls st h) = some r) : W p l e R s m args below meth c H locs cells slots Q (F0 m pc la (st.map (tV sz bs))) := by
  obtain ⟨hx, hb, hml, hown, hts, hK, hAO, hnm, hsz, hmc, hms, hfr, hlo, hscr⟩ := C
  obtain ⟨h1, h2⟩ := ba hck
  obtain ⟨rfl, hn⟩ := ckn h1
  exact lv_sipush hx hb hdec (of_decide_eq_true h2) (rz_go (IH _ hap) hn hr)
theorem rs_lconst {p : Program} {l : Launch} {e : Env} {R : Room} {s : State} {m : MethodId} {args : Array Value} {below : List Frame} {meth : Method} {c : Code} {Q : State → Prop} {M sz bs mcl msl : Nat} {D : va_G} {ca : Nat → ClassId} {scr : Option (Nat × (Nat → Int32))} {rk o pc len : Nat} {im : Int32} {aux ps : List Nat} {b : Nat × Nat} {ls : List (Option rz_V)} {st : List rz_V} {h : rz_H} {cf : rz_C} {k : rz_St → Option rz_Res} {r : rz_Res} {H : Heap} {locs : List Loc} {cells slots : Nat} {la : Array Slot} {n : Fin 2} (C : rz_Cx p s m args meth c R M sz bs mcl msl D ca scr) (IH : ∀ S, k S = some r → rz_Wt p l e R s m args below meth c Q M sz bs mcl msl D ca S) (hr : rz_Rel s M sz bs mcl msl D ca b ls h H locs cells slots la) (hdec : decode (mC M) pc = .ok (.lconst n, len)) (hck : rz_ck M o pc (.lconst n) len im aux ps = true) (hap : rz_ap cf k (rz_do mT rk scr (.lconst n) im aux o b ls st h) = some r) : W p l e R s m args below meth c H locs cells slots Q (F0 m pc la (st.map (tV sz bs))) := by
  obtain ⟨hx, hb, hml, hown, hts, hK, hAO, hnm, hsz, hmc, hms, hfr, hlo, hscr⟩ := C
  obtain ⟨h1, h2⟩ := ba hck
  obtain ⟨rfl, hn⟩ := ck1 h1
  exact lv_lconst hx hb hdec (of_decide_eq_true h2) (rz_go (IH _ hap) hn hr)
theorem rs_ldc {p : Program} {l : Launch} {e : Env} {R : Room} {s : State} {m : MethodId} {args : Array Value} {below : List Frame} {meth : Method} {c : Code} {Q : State → Prop} {M sz bs mcl msl : Nat} {D : va_G} {ca : Nat → ClassId} {scr : Option (Nat × (Nat → Int32))} {rk o pc len : Nat} {im : Int32} {aux ps : List Nat} {b : Nat × Nat} {ls : List (Option rz_V)} {st : List rz_V} {h : rz_H} {cf : rz_C} {k : rz_St → Option rz_Res} {r : rz_Res} {H : Heap} {locs : List Loc} {cells slots : Nat} {la : Array Slot} {n : Nat} (C : rz_Cx p s m args meth c R M sz bs mcl msl D ca scr) (IH : ∀ S, k S = some r → rz_Wt p l e R s m args below meth c Q M sz bs mcl msl D ca S) (hr : rz_Rel s M sz bs mcl msl D ca b ls h H locs cells slots la) (hdec : decode (mC M) pc = .ok (.ldc n, len)) (hck : rz_ck M o pc (.ldc n) len im aux ps = true) (hap : rz_ap cf k (rz_do mT rk scr (.ldc n) im aux o b ls st h) = some r) : W p l e R s m args below meth c H locs cells slots Q (F0 m pc la (st.map (tV sz bs))) := by
  obtain ⟨hx, hb, hml, hown, hts, hK, hAO, hnm, hsz, hmc, hms, hfr, hlo, hscr⟩ := C
  obtain ⟨h1, h2⟩ := ba hck
  obtain ⟨rfl, hn⟩ := ckn h1
  rcases ps with _ | ⟨q, _ | ⟨q2, ps⟩⟩
  · cases h2
  · exact lv_ldc hx hb hown (hts _ (rz_at_mem h2)) hdec (rz_go (IH _ hap) hn hr)
  · cases h2
theorem rs_ldc_w {p : Program} {l : Launch} {e : Env} {R : Room} {s : State} {m : MethodId} {args : Array Value} {below : List Frame} {meth : Method} {c : Code} {Q : State → Prop} {M sz bs mcl msl : Nat} {D : va_G} {ca : Nat → ClassId} {scr : Option (Nat × (Nat → Int32))} {rk o pc len : Nat} {im : Int32} {aux ps : List Nat} {b : Nat × Nat} {ls : List (Option rz_V)} {st : List rz_V} {h : rz_H} {cf : rz_C} {k : rz_St → Option rz_Res} {r : rz_Res} {H : Heap} {locs : List Loc} {cells slots : Nat} {la : Array Slot} {n : Nat} (C : rz_Cx p s m args meth c R M sz bs mcl msl D ca scr) (IH : ∀ S, k S = some r → rz_Wt p l e R s m args below meth c Q M sz bs mcl msl D ca S) (hr : rz_Rel s M sz bs mcl msl D ca b ls h H locs cells slots la) (hdec : decode (mC M) pc = .ok (.ldc_w n, len)) (hck : rz_ck M o pc (.ldc_w n) len im aux ps = true) (hap : rz_ap cf k (rz_do mT rk scr (.ldc_w n) im aux o b ls st h) = some r) : W p l e R s m args below meth c H locs cells slots Q (F0 m pc la (st.map (tV sz bs))) := by
  obtain ⟨hx, hb, hml, hown, hts, hK, hAO, hnm, hsz, hmc, hms, hfr, hlo, hscr⟩ := C
  obtain ⟨h1, h2⟩ := ba hck
  obtain ⟨rfl, hn⟩ := ckn h1
  rcases ps with _ | ⟨q, _ | ⟨q2, ps⟩⟩
  · cases h2
  · exact lv_ldcw hx hb hown (hts _ (rz_at_mem h2)) hdec (rz_go (IH _ hap) hn hr)
  · cases h2
theorem rs_ldc2_w {p : Program} {l : Launch} {e : Env} {R : Room} {s : State} {m : MethodId} {args : Array Value} {below : List Frame} {meth : Method} {c : Code} {Q : State → Prop} {M sz bs mcl msl : Nat} {D : va_G} {ca : Nat → ClassId} {scr : Option (Nat × (Nat → Int32))} {rk o pc len : Nat} {im : Int32} {aux ps : List Nat} {b : Nat × Nat} {ls : List (Option rz_V)} {st : List rz_V} {h : rz_H} {cf : rz_C} {k : rz_St → Option rz_Res} {r : rz_Res} {H : Heap} {locs : List Loc} {cells slots : Nat} {la : Array Slot} {n : Nat} (C : rz_Cx p s m args meth c R M sz bs mcl msl D ca scr) (IH : ∀ S, k S = some r → rz_Wt p l e R s m args below meth c Q M sz bs mcl msl D ca S) (hr : rz_Rel s M sz bs mcl msl D ca b ls h H locs cells slots la) (hdec : decode (mC M) pc = .ok (.ldc2_w n, len)) (hck : rz_ck M o pc (.ldc2_w n) len im aux ps = true) (hap : rz_ap cf k (rz_do mT rk scr (.ldc2_w n) im aux o b ls st h) = some r) : W p l e R s m args below meth c H locs cells slots Q (F0 m pc la (st.map (tV sz bs))) := by
  obtain ⟨hx, hb, hml, hown, hts, hK, hAO, hnm, hsz, hmc, hms, hfr, hlo, hscr⟩ := C
  obtain ⟨h1, h2⟩ := ba hck
  obtain ⟨rfl, hn⟩ := ckn h1
  rcases ps with _ | ⟨q, _ | ⟨q2, ps⟩⟩
  · cases h2
  · exact lv_ldc2 hx hb hown (hts _ (rz_at_mem h2)) hdec (rz_go (IH _ hap) hn hr)
  · cases h2
theorem rs_aconst_null {p : Program} {l : Launch} {e : Env} {R : Room} {s : State} {m : MethodId} {args : Array Value} {below : List Frame} {meth : Method} {c : Code} {Q : State → Prop} {M sz bs mcl msl : Nat} {D : va_G} {ca : Nat → ClassId} {scr : Option (Nat × (Nat → Int32))} {rk o pc len : Nat} {im : Int32} {aux ps : List Nat} {b : Nat × Nat} {ls : List (Option rz_V)} {st : List rz_V} {h : rz_H} {cf : rz_C} {k : rz_St → Option rz_Res} {r : rz_Res} {H : Heap} {locs : List Loc} {cells slots : Nat} {la : Array Slot} (C : rz_Cx p s m args meth c R M sz bs mcl msl D ca scr) (IH : ∀ S, k S = some r → rz_Wt p l e R s m args below meth c Q M sz bs mcl msl D ca S) (hr : rz_Rel s M sz bs mcl msl D ca b ls h H locs cells slots la) (hdec : decode (mC M) pc = .ok (.aconst_null, len)) (hck : rz_ck M o pc (.aconst_null) len im aux ps = true) (hap : rz_ap cf k (rz_do mT rk scr (.aconst_null) im aux o b ls st h) = some r) : W p l e R s m args below meth c H locs cells slots Q (F0 m pc la (st.map (tV sz bs))) := by
  obtain ⟨hx, hb, hml, hown, hts, hK, hAO, hnm, hsz, hmc, hms, hfr, hlo, hscr⟩ := C
  obtain ⟨rfl, hn⟩ := ck1 hck
  exact lv_null hx hb hdec (rz_go (IH _ hap) hn hr)
theorem rs_iload {p : Program} {l : Launch} {e : Env} {R : Room} {s : State} {m : MethodId} {args : Array Value} {below : List Frame} {meth : Method} {c : Code} {Q : State → Prop} {M sz bs mcl msl : Nat} {D : va_G} {ca : Nat → ClassId} {scr : Option (Nat × (Nat → Int32))} {rk o pc len : Nat} {im : Int32} {aux ps : List Nat} {b : Nat × Nat} {ls : List (Option rz_V)} {st : List rz_V} {h : rz_H} {cf : rz_C} {k : rz_St → Option rz_Res} {r : rz_Res} {H : Heap} {locs : List Loc} {cells slots : Nat} {la : Array Slot} {q : Nat} (C : rz_Cx p s m args meth c R M sz bs mcl msl D ca scr) (IH : ∀ S, k S = some r → rz_Wt p l e R s m args below meth c Q M sz bs mcl msl D ca S) (hr : rz_Rel s M sz bs mcl msl D ca b ls h H locs cells slots la) (hdec : decode (mC M) pc = .ok (.iload q, len)) (hck : rz_ck M o pc (.iload q) len im aux ps = true) (hap : rz_ap cf k (rz_do mT rk scr (.iload q) im aux o b ls st h) = some r) : W p l e R s m args below meth c H locs cells slots Q (F0 m pc la (st.map (tV sz bs))) := by
  obtain ⟨hx, hb, hml, hown, hts, hK, hAO, hnm, hsz, hmc, hms, hfr, hlo, hscr⟩ := C
  obtain ⟨h1, h2⟩ := ba hck
  obtain ⟨rfl, hn⟩ := ckn h1
  have ha := of_decide_eq_true h2
  subst ha
  have hl := hr.1.2.2 q
  change rz_ap cf k (rz_ldi [q] ls (fun v => (o + 1, b, ls, v :: st, h))) = some r at hap
  unfold rz_ldi at hap
  dsimp only at hap
  rcases hq : rz_nth ls q with _ | _ | x | x | x | x <;> rw [hq] at hap <;> try exact (nomatch (show (none : Option rz_Res) = some r from hap))
  exact lv_iload hx hb hdec (hl _ hq) (rz_go (IH _ hap) hn hr)
theorem rs_iload_n {p : Program} {l : Launch} {e : Env} {R : Room} {s : State} {m : MethodId} {args : Array Value} {below : List Frame} {meth : Method} {c : Code} {Q : State → Prop} {M sz bs mcl msl : Nat} {D : va_G} {ca : Nat → ClassId} {scr : Option (Nat × (Nat → Int32))} {rk o pc len : Nat} {im : Int32} {aux ps : List Nat} {b : Nat × Nat} {ls : List (Option rz_V)} {st : List rz_V} {h : rz_H} {cf : rz_C} {k : rz_St → Option rz_Res} {r : rz_Res} {H : Heap} {locs : List Loc} {cells slots : Nat} {la : Array Slot} {q : Fin 4} (C : rz_Cx p s m args meth c R M sz bs mcl msl D ca scr) (IH : ∀ S, k S = some r → rz_Wt p l e R s m args below meth c Q M sz bs mcl msl D ca S) (hr : rz_Rel s M sz bs mcl msl D ca b ls h H locs cells slots la) (hdec : decode (mC M) pc = .ok (.iload_n q, len)) (hck : rz_ck M o pc (.iload_n q) len im aux ps = true) (hap : rz_ap cf k (rz_do mT rk scr (.iload_n q) im aux o b ls st h) = some r) : W p l e R s m args below meth c H locs cells slots Q (F0 m pc la (st.map (tV sz bs))) := by
  obtain ⟨hx, hb, hml, hown, hts, hK, hAO, hnm, hsz, hmc, hms, hfr, hlo, hscr⟩ := C
  obtain ⟨h1, h2⟩ := ba hck
  obtain ⟨rfl, hn⟩ := ck1 h1
  have ha := of_decide_eq_true h2
  subst ha
  have hl := hr.1.2.2 (q : Nat)
  change rz_ap cf k (rz_ldi [(q : Nat)] ls (fun v => (o + 1, b, ls, v :: st, h))) = some r at hap
  unfold rz_ldi at hap
  dsimp only at hap
  rcases hq : rz_nth ls (q : Nat) with _ | _ | x | x | x | x <;> rw [hq] at hap <;> try exact (nomatch (show (none : Option rz_Res) = some r from hap))
  exact lv_iload_n hx hb hdec rfl (hl _ hq) (rz_go (IH _ hap) hn hr)
theorem rs_lload {p : Program} {l : Launch} {e : Env} {R : Room} {s : State} {m : MethodId} {args : Array Value} {below : List Frame} {meth : Method} {c : Code} {Q : State → Prop} {M sz bs mcl msl : Nat} {D : va_G} {ca : Nat → ClassId} {scr : Option (Nat × (Nat → Int32))} {rk o pc len : Nat} {im : Int32} {aux ps : List Nat} {b : Nat × Nat} {ls : List (Option rz_V)} {st : List rz_V} {h : rz_H} {cf : rz_C} {k : rz_St → Option rz_Res} {r : rz_Res} {H : Heap} {locs : List Loc} {cells slots : Nat} {la : Array Slot} {q : Nat} (C : rz_Cx p s m args meth c R M sz bs mcl msl D ca scr) (IH : ∀ S, k S = some r → rz_Wt p l e R s m args below meth c Q M sz bs mcl msl D ca S) (hr : rz_Rel s M sz bs mcl msl D ca b ls h H locs cells slots la) (hdec : decode (mC M) pc = .ok (.lload q, len)) (hck : rz_ck M o pc (.lload q) len im aux ps = true) (hap : rz_ap cf k (rz_do mT rk scr (.lload q) im aux o b ls st h) = some r) : W p l e R s m args below meth c H locs cells slots Q (F0 m pc la (st.map (tV sz bs))) := by
  obtain ⟨hx, hb, hml, hown, hts, hK, hAO, hnm, hsz, hmc, hms, hfr, hlo, hscr⟩ := C
  obtain ⟨h1, h2⟩ := ba hck
  obtain ⟨rfl, hn⟩ := ckn h1
  have ha := of_decide_eq_true h2
  subst ha
  have hl := hr.1.2.2 q
  change rz_ap cf k (rz_ldl [q] ls (fun v => (o + 1, b, ls, v :: st, h))) = some r at hap
  unfold rz_ldl at hap
  dsimp only at hap
  rcases hq : rz_nth ls q with _ | _ | x | x | x | x <;> rw [hq] at hap <;> try exact (nomatch (show (none : Option rz_Res) = some r from hap))
  exact lv_lload hx hb hdec (hl _ hq) (rz_go (IH _ hap) hn hr)
theorem rs_lload_n {p : Program} {l : Launch} {e : Env} {R : Room} {s : State} {m : MethodId} {args : Array Value} {below : List Frame} {meth : Method} {c : Code} {Q : State → Prop} {M sz bs mcl msl : Nat} {D : va_G} {ca : Nat → ClassId} {scr : Option (Nat × (Nat → Int32))} {rk o pc len : Nat} {im : Int32} {aux ps : List Nat} {b : Nat × Nat} {ls : List (Option rz_V)} {st : List rz_V} {h : rz_H} {cf : rz_C} {k : rz_St → Option rz_Res} {r : rz_Res} {H : Heap} {locs : List Loc} {cells slots : Nat} {la : Array Slot} {q : Fin 4} (C : rz_Cx p s m args meth c R M sz bs mcl msl D ca scr) (IH : ∀ S, k S = some r → rz_Wt p l e R s m args below meth c Q M sz bs mcl msl D ca S) (hr : rz_Rel s M sz bs mcl msl D ca b ls h H locs cells slots la) (hdec : decode (mC M) pc = .ok (.lload_n q, len)) (hck : rz_ck M o pc (.lload_n q) len im aux ps = true) (hap : rz_ap cf k (rz_do mT rk scr (.lload_n q) im aux o b ls st h) = some r) : W p l e R s m args below meth c H locs cells slots Q (F0 m pc la (st.map (tV sz bs))) := by
  obtain ⟨hx, hb, hml, hown, hts, hK, hAO, hnm, hsz, hmc, hms, hfr, hlo, hscr⟩ := C
  obtain ⟨h1, h2⟩ := ba hck
  obtain ⟨rfl, hn⟩ := ck1 h1
  have ha := of_decide_eq_true h2
  subst ha
  have hl := hr.1.2.2 (q : Nat)
  change rz_ap cf k (rz_ldl [(q : Nat)] ls (fun v => (o + 1, b, ls, v :: st, h))) = some r at hap
  unfold rz_ldl at hap
  dsimp only at hap
  rcases hq : rz_nth ls (q : Nat) with _ | _ | x | x | x | x <;> rw [hq] at hap <;> try exact (nomatch (show (none : Option rz_Res) = some r from hap))
  exact lv_lload_n hx hb hdec rfl (hl _ hq) (rz_go (IH _ hap) hn hr)
theorem rs_aload {p : Program} {l : Launch} {e : Env} {R : Room} {s : State} {m : MethodId} {args : Array Value} {below : List Frame} {meth : Method} {c : Code} {Q : State → Prop} {M sz bs mcl msl : Nat} {D : va_G} {ca : Nat → ClassId} {scr : Option (Nat × (Nat → Int32))} {rk o pc len : Nat} {im : Int32} {aux ps : List Nat} {b : Nat × Nat} {ls : List (Option rz_V)} {st : List rz_V} {h : rz_H} {cf : rz_C} {k : rz_St → Option rz_Res} {r : rz_Res} {H : Heap} {locs : List Loc} {cells slots : Nat} {la : Array Slot} {q : Nat} (C : rz_Cx p s m args meth c R M sz bs mcl msl D ca scr) (IH : ∀ S, k S = some r → rz_Wt p l e R s m args below meth c Q M sz bs mcl msl D ca S) (hr : rz_Rel s M sz bs mcl msl D ca b ls h H locs cells slots la) (hdec : decode (mC M) pc = .ok (.aload q, len)) (hck : rz_ck M o pc (.aload q) len im aux ps = true) (hap : rz_ap cf k (rz_do mT rk scr (.aload q) im aux o b ls st h) = some r) : W p l e R s m args below meth c H locs cells slots Q (F0 m pc la (st.map (tV sz bs))) := by
  obtain ⟨hx, hb, hml, hown, hts, hK, hAO, hnm, hsz, hmc, hms, hfr, hlo, hscr⟩ := C
  obtain ⟨h1, h2⟩ := ba hck
  obtain ⟨rfl, hn⟩ := ckn h1
  have ha := of_decide_eq_true h2
  subst ha
  have hl := hr.1.2.2 q
  change rz_ap cf k (rz_lda [q] ls (fun v => (o + 1, b, ls, v :: st, h))) = some r at hap
  unfold rz_lda at hap
  dsimp only at hap
  rcases hq : rz_nth ls q with _ | _ | x | x | x | x <;> rw [hq] at hap <;> try exact (nomatch (show (none : Option rz_Res) = some r from hap))
  · cases x with
    | none => exact lv_aloadN hx hb hdec (hl _ hq) (rz_go (IH _ hap) hn hr)
    | some x => exact lv_aload hx hb hdec (hl _ hq) (rz_go (IH _ hap) hn hr)
  · exact lv_aload hx hb hdec (hl _ hq) (rz_go (IH _ hap) hn hr)
theorem rs_aload_n {p : Program} {l : Launch} {e : Env} {R : Room} {s : State} {m : MethodId} {args : Array Value} {below : List Frame} {meth : Method} {c : Code} {Q : State → Prop} {M sz bs mcl msl : Nat} {D : va_G} {ca : Nat → ClassId} {scr : Option (Nat × (Nat → Int32))} {rk o pc len : Nat} {im : Int32} {aux ps : List Nat} {b : Nat × Nat} {ls : List (Option rz_V)} {st : List rz_V} {h : rz_H} {cf : rz_C} {k : rz_St → Option rz_Res} {r : rz_Res} {H : Heap} {locs : List Loc} {cells slots : Nat} {la : Array Slot} {q : Fin 4} (C : rz_Cx p s m args meth c R M sz bs mcl msl D ca scr) (IH : ∀ S, k S = some r → rz_Wt p l e R s m args below meth c Q M sz bs mcl msl D ca S) (hr : rz_Rel s M sz bs mcl msl D ca b ls h H locs cells slots la) (hdec : decode (mC M) pc = .ok (.aload_n q, len)) (hck : rz_ck M o pc (.aload_n q) len im aux ps = true) (hap : rz_ap cf k (rz_do mT rk scr (.aload_n q) im aux o b ls st h) = some r) : W p l e R s m args below meth c H locs cells slots Q (F0 m pc la (st.map (tV sz bs))) := by
  obtain ⟨hx, hb, hml, hown, hts, hK, hAO, hnm, hsz, hmc, hms, hfr, hlo, hscr⟩ := C
  obtain ⟨h1, h2⟩ := ba hck
  obtain ⟨rfl, hn⟩ := ck1 h1
  have ha := of_decide_eq_true h2
  subst ha
  have hl := hr.1.2.2 (q : Nat)
  change rz_ap cf k (rz_lda [(q : Nat)] ls (fun v => (o + 1, b, ls, v :: st, h))) = some r at hap
  unfold rz_lda at hap
  dsimp only at hap
  rcases hq : rz_nth ls (q : Nat) with _ | _ | x | x | x | x <;> rw [hq] at hap <;> try exact (nomatch (show (none : Option rz_Res) = some r from hap))
  · cases x with
    | none => exact lv_aload_nN hx hb hdec rfl (hl _ hq) (rz_go (IH _ hap) hn hr)
    | some x => exact lv_aload_n hx hb hdec rfl (hl _ hq) (rz_go (IH _ hap) hn hr)
  · exact lv_aload_n hx hb hdec rfl (hl _ hq) (rz_go (IH _ hap) hn hr)
theorem rs_istore {p : Program} {l : Launch} {e : Env} {R : Room} {s : State} {m : MethodId} {args : Array Value} {below : List Frame} {meth : Method} {c : Code} {Q : State → Prop} {M sz bs mcl msl : Nat} {D : va_G} {ca : Nat → ClassId} {scr : Option (Nat × (Nat → Int32))} {rk o pc len : Nat} {im : Int32} {aux ps : List Nat} {b : Nat × Nat} {ls : List (Option rz_V)} {st : List rz_V} {h : rz_H} {cf : rz_C} {k : rz_St → Option rz_Res} {r : rz_Res} {H : Heap} {locs : List Loc} {cells slots : Nat} {la : Array Slot} {q : Nat} (C : rz_Cx p s m args meth c R M sz bs mcl msl D ca scr) (IH : ∀ S, k S = some r → rz_Wt p l e R s m args below meth c Q M sz bs mcl msl D ca S) (hr : rz_Rel s M sz bs mcl msl D ca b ls h H locs cells slots la) (hdec : decode (mC M) pc = .ok (.istore q, len)) (hck : rz_ck M o pc (.istore q) len im aux ps = true) (hap : rz_ap cf k (rz_do mT rk scr (.istore q) im aux o b ls st h) = some r) : W p l e R s m args below meth c H locs cells slots Q (F0 m pc la (st.map (tV sz bs))) := by
  obtain ⟨hx, hb, hml, hown, hts, hK, hAO, hnm, hsz, hmc, hms, hfr, hlo, hscr⟩ := C
  obtain ⟨h1, h2⟩ := ba hck
  obtain ⟨rfl, hn⟩ := ckn h1
  have ha := of_decide_eq_true h2
  subst ha
  obtain ⟨r1, r2, r3⟩ := hr
  rcases st with _ | ⟨x | x | x | x, st⟩ <;> try exact (nomatch (show (none : Option rz_Res) = some r from hap))
  obtain ⟨h3, hap⟩ := rz_bn hap
  obtain ⟨h4, h5⟩ := ba h3
  have hq : q < mL M := by rw [← r2]; exact Nat.blt_eq.mp h5
  exact lv_istore hx hb hdec (rz_LR_has r1) hq rfl (fun la2 hl => rz_go (IH _ hap) hn ⟨rz_LR_st1 (bs := bs) (v := rz_i x) h4 hl, by simp [r2], r3⟩)
theorem rs_istore_n {p : Program} {l : Launch} {e : Env} {R : Room} {s : State} {m : MethodId} {args : Array Value} {below : List Frame} {meth : Method} {c : Code} {Q : State → Prop} {M sz bs mcl msl : Nat} {D : va_G} {ca : Nat → ClassId} {scr : Option (Nat × (Nat → Int32))} {rk o pc len : Nat} {im : Int32} {aux ps : List Nat} {b : Nat × Nat} {ls : List (Option rz_V)} {st : List rz_V} {h : rz_H} {cf : rz_C} {k : rz_St → Option rz_Res} {r : rz_Res} {H : Heap} {locs : List Loc} {cells slots : Nat} {la : Array Slot} {q : Fin 4} (C : rz_Cx p s m args meth c R M sz bs mcl msl D ca scr) (IH : ∀ S, k S = some r → rz_Wt p l e R s m args below meth c Q M sz bs mcl msl D ca S) (hr : rz_Rel s M sz bs mcl msl D ca b ls h H locs cells slots la) (hdec : decode (mC M) pc = .ok (.istore_n q, len)) (hck : rz_ck M o pc (.istore_n q) len im aux ps = true) (hap : rz_ap cf k (rz_do mT rk scr (.istore_n q) im aux o b ls st h) = some r) : W p l e R s m args below meth c H locs cells slots Q (F0 m pc la (st.map (tV sz bs))) := by
  obtain ⟨hx, hb, hml, hown, hts, hK, hAO, hnm, hsz, hmc, hms, hfr, hlo, hscr⟩ := C
  obtain ⟨h1, h2⟩ := ba hck
  obtain ⟨rfl, hn⟩ := ck1 h1
  have ha := of_decide_eq_true h2
  subst ha
  obtain ⟨r1, r2, r3⟩ := hr
  rcases st with _ | ⟨x | x | x | x, st⟩ <;> try exact (nomatch (show (none : Option rz_Res) = some r from hap))
  obtain ⟨h3, hap⟩ := rz_bn hap
  obtain ⟨h4, h5⟩ := ba h3
  have hq : (q : Nat) < mL M := by rw [← r2]; exact Nat.blt_eq.mp h5
  exact lv_istore_n hx hb hdec rfl (rz_LR_has r1) hq rfl (fun la2 hl => rz_go (IH _ hap) hn ⟨rz_LR_st1 (bs := bs) (v := rz_i x) h4 hl, by simp [r2], r3⟩)
theorem rs_lstore {p : Program} {l : Launch} {e : Env} {R : Room} {s : State} {m : MethodId} {args : Array Value} {below : List Frame} {meth : Method} {c : Code} {Q : State → Prop} {M sz bs mcl msl : Nat} {D : va_G} {ca : Nat → ClassId} {scr : Option (Nat × (Nat → Int32))} {rk o pc len : Nat} {im : Int32} {aux ps : List Nat} {b : Nat × Nat} {ls : List (Option rz_V)} {st : List rz_V} {h : rz_H} {cf : rz_C} {k : rz_St → Option rz_Res} {r : rz_Res} {H : Heap} {locs : List Loc} {cells slots : Nat} {la : Array Slot} {q : Nat} (C : rz_Cx p s m args meth c R M sz bs mcl msl D ca scr) (IH : ∀ S, k S = some r → rz_Wt p l e R s m args below meth c Q M sz bs mcl msl D ca S) (hr : rz_Rel s M sz bs mcl msl D ca b ls h H locs cells slots la) (hdec : decode (mC M) pc = .ok (.lstore q, len)) (hck : rz_ck M o pc (.lstore q) len im aux ps = true) (hap : rz_ap cf k (rz_do mT rk scr (.lstore q) im aux o b ls st h) = some r) : W p l e R s m args below meth c H locs cells slots Q (F0 m pc la (st.map (tV sz bs))) := by
  obtain ⟨hx, hb, hml, hown, hts, hK, hAO, hnm, hsz, hmc, hms, hfr, hlo, hscr⟩ := C
  obtain ⟨h1, h2⟩ := ba hck
  obtain ⟨rfl, hn⟩ := ckn h1
  have ha := of_decide_eq_true h2
  subst ha
  obtain ⟨r1, r2, r3⟩ := hr
  rcases st with _ | ⟨x | x | x | x, st⟩ <;> try exact (nomatch (show (none : Option rz_Res) = some r from hap))
  obtain ⟨h3, hap⟩ := rz_bn hap
  obtain ⟨h4, h5⟩ := ba h3
  have hq : q + 1 < mL M := by rw [← r2]; exact Nat.blt_eq.mp h5
  exact lv_lstore hx hb hdec (rz_LR_has r1) hq rfl (fun la2 hl => rz_go (IH _ hap) hn ⟨rz_LR_st2 (bs := bs) (v := rz_l x) h4 hl, by simp [r2], r3⟩)
theorem rs_lstore_n {p : Program} {l : Launch} {e : Env} {R : Room} {s : State} {m : MethodId} {args : Array Value} {below : List Frame} {meth : Method} {c : Code} {Q : State → Prop} {M sz bs mcl msl : Nat} {D : va_G} {ca : Nat → ClassId} {scr : Option (Nat × (Nat → Int32))} {rk o pc len : Nat} {im : Int32} {aux ps : List Nat} {b : Nat × Nat} {ls : List (Option rz_V)} {st : List rz_V} {h : rz_H} {cf : rz_C} {k : rz_St → Option rz_Res} {r : rz_Res} {H : Heap} {locs : List Loc} {cells slots : Nat} {la : Array Slot} {q : Fin 4} (C : rz_Cx p s m args meth c R M sz bs mcl msl D ca scr) (IH : ∀ S, k S = some r → rz_Wt p l e R s m args below meth c Q M sz bs mcl msl D ca S) (hr : rz_Rel s M sz bs mcl msl D ca b ls h H locs cells slots la) (hdec : decode (mC M) pc = .ok (.lstore_n q, len)) (hck : rz_ck M o pc (.lstore_n q) len im aux ps = true) (hap : rz_ap cf k (rz_do mT rk scr (.lstore_n q) im aux o b ls st h) = some r) : W p l e R s m args below meth c H locs cells slots Q (F0 m pc la (st.map (tV sz bs))) := by
  obtain ⟨hx, hb, hml, hown, hts, hK, hAO, hnm, hsz, hmc, hms, hfr, hlo, hscr⟩ := C
  obtain ⟨h1, h2⟩ := ba hck
  obtain ⟨rfl, hn⟩ := ck1 h1
  have ha := of_decide_eq_true h2
  subst ha
  obtain ⟨r1, r2, r3⟩ := hr
  rcases st with _ | ⟨x | x | x | x, st⟩ <;> try exact (nomatch (show (none : Option rz_Res) = some r from hap))
  obtain ⟨h3, hap⟩ := rz_bn hap
  obtain ⟨h4, h5⟩ := ba h3
  have hq : (q : Nat) + 1 < mL M := by rw [← r2]; exact Nat.blt_eq.mp h5
  exact lv_lstore_n hx hb hdec rfl (rz_LR_has r1) hq rfl (fun la2 hl => rz_go (IH _ hap) hn ⟨rz_LR_st2 (bs := bs) (v := rz_l x) h4 hl, by simp [r2], r3⟩)
theorem rs_astore {p : Program} {l : Launch} {e : Env} {R : Room} {s : State} {m : MethodId} {args : Array Value} {below : List Frame} {meth : Method} {c : Code} {Q : State → Prop} {M sz bs mcl msl : Nat} {D : va_G} {ca : Nat → ClassId} {scr : Option (Nat × (Nat → Int32))} {rk o pc len : Nat} {im : Int32} {aux ps : List Nat} {b : Nat × Nat} {ls : List (Option rz_V)} {st : List rz_V} {h : rz_H} {cf : rz_C} {k : rz_St → Option rz_Res} {r : rz_Res} {H : Heap} {locs : List Loc} {cells slots : Nat} {la : Array Slot} {q : Nat} (C : rz_Cx p s m args meth c R M sz bs mcl msl D ca scr) (IH : ∀ S, k S = some r → rz_Wt p l e R s m args below meth c Q M sz bs mcl msl D ca S) (hr : rz_Rel s M sz bs mcl msl D ca b ls h H locs cells slots la) (hdec : decode (mC M) pc = .ok (.astore q, len)) (hck : rz_ck M o pc (.astore q) len im aux ps = true) (hap : rz_ap cf k (rz_do mT rk scr (.astore q) im aux o b ls st h) = some r) : W p l e R s m args below meth c H locs cells slots Q (F0 m pc la (st.map (tV sz bs))) := by
  obtain ⟨hx, hb, hml, hown, hts, hK, hAO, hnm, hsz, hmc, hms, hfr, hlo, hscr⟩ := C
  obtain ⟨h1, h2⟩ := ba hck
  obtain ⟨rfl, hn⟩ := ckn h1
  have ha := of_decide_eq_true h2
  subst ha
  obtain ⟨r1, r2, r3⟩ := hr
  rcases st with _ | ⟨x | x | x | x, st⟩ <;> try exact (nomatch (show (none : Option rz_Res) = some r from hap))
  obtain ⟨h3, hap⟩ := rz_bn hap
  obtain ⟨h4, h5⟩ := ba h3
  have hq : q < mL M := by rw [← r2]; exact Nat.blt_eq.mp h5
  cases x with
  | none => exact lv_astoreN hx hb hdec (rz_LR_has r1) hq rfl (fun la2 hl => rz_go (IH _ hap) hn ⟨rz_LR_st1 (bs := bs) (v := rz_r none) h4 hl, by simp [r2], r3⟩)
  | some x => exact lv_astore hx hb hdec (rz_LR_has r1) hq rfl (fun la2 hl => rz_go (IH _ hap) hn ⟨rz_LR_st1 (bs := bs) (v := rz_r (some x)) h4 hl, by simp [r2], r3⟩)
theorem rs_astore_n {p : Program} {l : Launch} {e : Env} {R : Room} {s : State} {m : MethodId} {args : Array Value} {below : List Frame} {meth : Method} {c : Code} {Q : State → Prop} {M sz bs mcl msl : Nat} {D : va_G} {ca : Nat → ClassId} {scr : Option (Nat × (Nat → Int32))} {rk o pc len : Nat} {im : Int32} {aux ps : List Nat} {b : Nat × Nat} {ls : List (Option rz_V)} {st : List rz_V} {h : rz_H} {cf : rz_C} {k : rz_St → Option rz_Res} {r : rz_Res} {H : Heap} {locs : List Loc} {cells slots : Nat} {la : Array Slot} {q : Fin 4} (C : rz_Cx p s m args meth c R M sz bs mcl msl D ca scr) (IH : ∀ S, k S = some r → rz_Wt p l e R s m args below meth c Q M sz bs mcl msl D ca S) (hr : rz_Rel s M sz bs mcl msl D ca b ls h H locs cells slots la) (hdec : decode (mC M) pc = .ok (.astore_n q, len)) (hck : rz_ck M o pc (.astore_n q) len im aux ps = true) (hap : rz_ap cf k (rz_do mT rk scr (.astore_n q) im aux o b ls st h) = some r) : W p l e R s m args below meth c H locs cells slots Q (F0 m pc la (st.map (tV sz bs))) := by
  obtain ⟨hx, hb, hml, hown, hts, hK, hAO, hnm, hsz, hmc, hms, hfr, hlo, hscr⟩ := C
  obtain ⟨h1, h2⟩ := ba hck
  obtain ⟨rfl, hn⟩ := ck1 h1
  have ha := of_decide_eq_true h2
  subst ha
  obtain ⟨r1, r2, r3⟩ := hr
  rcases st with _ | ⟨x | x | x | x, st⟩ <;> try exact (nomatch (show (none : Option rz_Res) = some r from hap))
  obtain ⟨h3, hap⟩ := rz_bn hap
  obtain ⟨h4, h5⟩ := ba h3
  have hq : (q : Nat) < mL M := by rw [← r2]; exact Nat.blt_eq.mp h5
  cases x with
  | none => exact lv_astore_nN hx hb hdec rfl (rz_LR_has r1) hq rfl (fun la2 hl => rz_go (IH _ hap) hn ⟨rz_LR_st1 (bs := bs) (v := rz_r none) h4 hl, by simp [r2], r3⟩)
  | some x => exact lv_astore_n hx hb hdec rfl (rz_LR_has r1) hq rfl (fun la2 hl => rz_go (IH _ hap) hn ⟨rz_LR_st1 (bs := bs) (v := rz_r (some x)) h4 hl, by simp [r2], r3⟩)
theorem rs_iinc {p : Program} {l : Launch} {e : Env} {R : Room} {s : State} {m : MethodId} {args : Array Value} {below : List Frame} {meth : Method} {c : Code} {Q : State → Prop} {M sz bs mcl msl : Nat} {D : va_G} {ca : Nat → ClassId} {scr : Option (Nat × (Nat → Int32))} {rk o pc len : Nat} {im : Int32} {aux ps : List Nat} {b : Nat × Nat} {ls : List (Option rz_V)} {st : List rz_V} {h : rz_H} {cf : rz_C} {k : rz_St → Option rz_Res} {r : rz_Res} {H : Heap} {locs : List Loc} {cells slots : Nat} {la : Array Slot} {q : Nat} {n : Int} (C : rz_Cx p s m args meth c R M sz bs mcl msl D ca scr) (IH : ∀ S, k S = some r → rz_Wt p l e R s m args below meth c Q M sz bs mcl msl D ca S) (hr : rz_Rel s M sz bs mcl msl D ca b ls h H locs cells slots la) (hdec : decode (mC M) pc = .ok (.iinc q n, len)) (hck : rz_ck M o pc (.iinc q n) len im aux ps = true) (hap : rz_ap cf k (rz_do mT rk scr (.iinc q n) im aux o b ls st h) = some r) : W p l e R s m args below meth c H locs cells slots Q (F0 m pc la (st.map (tV sz bs))) := by
  obtain ⟨hx, hb, hml, hown, hts, hK, hAO, hnm, hsz, hmc, hms, hfr, hlo, hscr⟩ := C
  obtain ⟨h1, h2⟩ := ba hck
  obtain ⟨rfl, hn⟩ := ckn h1
  obtain ⟨h6, h7⟩ := ba h2
  have ha := of_decide_eq_true h6
  subst ha
  obtain ⟨r1, r2, r3⟩ := hr
  change rz_ap cf k (match rz_nth ls q with | some (some (.inl x)) => rz_st1 [q] ls (rz_i (x + im)) (fun ls => (o + 1, b, ls, st, h)) | _ => ac_no) = some r at hap
  rcases hq : rz_nth ls q with _ | _ | x | x | x | x <;> rw [hq] at hap <;> try exact (nomatch (show (none : Option rz_Res) = some r from hap))
  obtain ⟨h3, hap⟩ := rz_bn hap
  obtain ⟨h4, h5⟩ := ba h3
  have hq2 : q < mL M := by rw [← r2]; exact Nat.blt_eq.mp h5
  obtain ⟨kk, hkk⟩ := List.getElem?_of_mem (rz_lv_mem (sz := sz) (bs := bs) hq)
  exact lv_iinc hx hb hdec (rz_LR_has r1) hkk (by rw [of_decide_eq_true h7]) hq2 rfl (fun la2 hl => rz_go (IH _ hap) hn ⟨rz_LR_st1 (bs := bs) (v := rz_i (x + im)) h4 hl, by simp [r2], r3⟩)
theorem rs_iadd {p : Program} {l : Launch} {e : Env} {R : Room} {s : State} {m : MethodId} {args : Array Value} {below : List Frame} {meth : Method} {c : Code} {Q : State → Prop} {M sz bs mcl msl : Nat} {D : va_G} {ca : Nat → ClassId} {scr : Option (Nat × (Nat → Int32))} {rk o pc len : Nat} {im : Int32} {aux ps : List Nat} {b : Nat × Nat} {ls : List (Option rz_V)} {st : List rz_V} {h : rz_H} {cf : rz_C} {k : rz_St → Option rz_Res} {r : rz_Res} {H : Heap} {locs : List Loc} {cells slots : Nat} {la : Array Slot} (C : rz_Cx p s m args meth c R M sz bs mcl msl D ca scr) (IH : ∀ S, k S = some r → rz_Wt p l e R s m args below meth c Q M sz bs mcl msl D ca S) (hr : rz_Rel s M sz bs mcl msl D ca b ls h H locs cells slots la) (hdec : decode (mC M) pc = .ok (.iadd, len)) (hck : rz_ck M o pc (.iadd) len im aux ps = true) (hap : rz_ap cf k (rz_do mT rk scr (.iadd) im aux o b ls st h) = some r) : W p l e R s m args below meth c H locs cells slots Q (F0 m pc la (st.map (tV sz bs))) := by
  obtain ⟨hx, hb, hml, hown, hts, hK, hAO, hnm, hsz, hmc, hms, hfr, hlo, hscr⟩ := C
  obtain ⟨rfl, hn⟩ := ck1 hck
  rcases st with _ | ⟨y | y | y | y, _ | ⟨x | x | x | x, st⟩⟩ <;> try exact (nomatch (show (none : Option rz_Res) = some r from hap))
  exact lv_iadd hx hb hdec (rz_go (IH _ hap) hn hr)
theorem rs_isub {p : Program} {l : Launch} {e : Env} {R : Room} {s : State} {m : MethodId} {args : Array Value} {below : List Frame} {meth : Method} {c : Code} {Q : State → Prop} {M sz bs mcl msl : Nat} {D : va_G} {ca : Nat → ClassId} {scr : Option (Nat × (Nat → Int32))} {rk o pc len : Nat} {im : Int32} {aux ps : List Nat} {b : Nat × Nat} {ls : List (Option rz_V)} {st : List rz_V} {h : rz_H} {cf : rz_C} {k : rz_St → Option rz_Res} {r : rz_Res} {H : Heap} {locs : List Loc} {cells slots : Nat} {la : Array Slot} (C : rz_Cx p s m args meth c R M sz bs mcl msl D ca scr) (IH : ∀ S, k S = some r → rz_Wt p l e R s m args below meth c Q M sz bs mcl msl D ca S) (hr : rz_Rel s M sz bs mcl msl D ca b ls h H locs cells slots la) (hdec : decode (mC M) pc = .ok (.isub, len)) (hck : rz_ck M o pc (.isub) len im aux ps = true) (hap : rz_ap cf k (rz_do mT rk scr (.isub) im aux o b ls st h) = some r) : W p l e R s m args below meth c H locs cells slots Q (F0 m pc la (st.map (tV sz bs))) := by
  obtain ⟨hx, hb, hml, hown, hts, hK, hAO, hnm, hsz, hmc, hms, hfr, hlo, hscr⟩ := C
  obtain ⟨rfl, hn⟩ := ck1 hck
  rcases st with _ | ⟨y | y | y | y, _ | ⟨x | x | x | x, st⟩⟩ <;> try exact (nomatch (show (none : Option rz_Res) = some r from hap))
  exact lv_isub hx hb hdec (rz_go (IH _ hap) hn hr)
theorem rs_imul {p : Program} {l : Launch} {e : Env} {R : Room} {s : State} {m : MethodId} {args : Array Value} {below : List Frame} {meth : Method} {c : Code} {Q : State → Prop} {M sz bs mcl msl : Nat} {D : va_G} {ca : Nat → ClassId} {scr : Option (Nat × (Nat → Int32))} {rk o pc len : Nat} {im : Int32} {aux ps : List Nat} {b : Nat × Nat} {ls : List (Option rz_V)} {st : List rz_V} {h : rz_H} {cf : rz_C} {k : rz_St → Option rz_Res} {r : rz_Res} {H : Heap} {locs : List Loc} {cells slots : Nat} {la : Array Slot} (C : rz_Cx p s m args meth c R M sz bs mcl msl D ca scr) (IH : ∀ S, k S = some r → rz_Wt p l e R s m args below meth c Q M sz bs mcl msl D ca S) (hr : rz_Rel s M sz bs mcl msl D ca b ls h H locs cells slots la) (hdec : decode (mC M) pc = .ok (.imul, len)) (hck : rz_ck M o pc (.imul) len im aux ps = true) (hap : rz_ap cf k (rz_do mT rk scr (.imul) im aux o b ls st h) = some r) : W p l e R s m args below meth c H locs cells slots Q (F0 m pc la (st.map (tV sz bs))) := by
  obtain ⟨hx, hb, hml, hown, hts, hK, hAO, hnm, hsz, hmc, hms, hfr, hlo, hscr⟩ := C
  obtain ⟨rfl, hn⟩ := ck1 hck
  rcases st with _ | ⟨y | y | y | y, _ | ⟨x | x | x | x, st⟩⟩ <;> try exact (nomatch (show (none : Option rz_Res) = some r from hap))
  exact lv_imul hx hb hdec (rz_go (IH _ hap) hn hr)
theorem rs_iand {p : Program} {l : Launch} {e : Env} {R : Room} {s : State} {m : MethodId} {args : Array Value} {below : List Frame} {meth : Method} {c : Code} {Q : State → Prop} {M sz bs mcl msl : Nat} {D : va_G} {ca : Nat → ClassId} {scr : Option (Nat × (Nat → Int32))} {rk o pc len : Nat} {im : Int32} {aux ps : List Nat} {b : Nat × Nat} {ls : List (Option rz_V)} {st : List rz_V} {h : rz_H} {cf : rz_C} {k : rz_St → Option rz_Res} {r : rz_Res} {H : Heap} {locs : List Loc} {cells slots : Nat} {la : Array Slot} (C : rz_Cx p s m args meth c R M sz bs mcl msl D ca scr) (IH : ∀ S, k S = some r → rz_Wt p l e R s m args below meth c Q M sz bs mcl msl D ca S) (hr : rz_Rel s M sz bs mcl msl D ca b ls h H locs cells slots la) (hdec : decode (mC M) pc = .ok (.iand, len)) (hck : rz_ck M o pc (.iand) len im aux ps = true) (hap : rz_ap cf k (rz_do mT rk scr (.iand) im aux o b ls st h) = some r) : W p l e R s m args below meth c H locs cells slots Q (F0 m pc la (st.map (tV sz bs))) := by
  obtain ⟨hx, hb, hml, hown, hts, hK, hAO, hnm, hsz, hmc, hms, hfr, hlo, hscr⟩ := C
  obtain ⟨rfl, hn⟩ := ck1 hck
  rcases st with _ | ⟨y | y | y | y, _ | ⟨x | x | x | x, st⟩⟩ <;> try exact (nomatch (show (none : Option rz_Res) = some r from hap))
  exact lv_iand hx hb hdec (rz_go (IH _ hap) hn hr)
theorem rs_ior {p : Program} {l : Launch} {e : Env} {R : Room} {s : State} {m : MethodId} {args : Array Value} {below : List Frame} {meth : Method} {c : Code} {Q : State → Prop} {M sz bs mcl msl : Nat} {D : va_G} {ca : Nat → ClassId} {scr : Option (Nat × (Nat → Int32))} {rk o pc len : Nat} {im : Int32} {aux ps : List Nat} {b : Nat × Nat} {ls : List (Option rz_V)} {st : List rz_V} {h : rz_H} {cf : rz_C} {k : rz_St → Option rz_Res} {r : rz_Res} {H : Heap} {locs : List Loc} {cells slots : Nat} {la : Array Slot} (C : rz_Cx p s m args meth c R M sz bs mcl msl D ca scr) (IH : ∀ S, k S = some r → rz_Wt p l e R s m args below meth c Q M sz bs mcl msl D ca S) (hr : rz_Rel s M sz bs mcl msl D ca b ls h H locs cells slots la) (hdec : decode (mC M) pc = .ok (.ior, len)) (hck : rz_ck M o pc (.ior) len im aux ps = true) (hap : rz_ap cf k (rz_do mT rk scr (.ior) im aux o b ls st h) = some r) : W p l e R s m args below meth c H locs cells slots Q (F0 m pc la (st.map (tV sz bs))) := by
  obtain ⟨hx, hb, hml, hown, hts, hK, hAO, hnm, hsz, hmc, hms, hfr, hlo, hscr⟩ := C
  obtain ⟨rfl, hn⟩ := ck1 hck
  rcases st with _ | ⟨y | y | y | y, _ | ⟨x | x | x | x, st⟩⟩ <;> try exact (nomatch (show (none : Option rz_Res) = some r from hap))
  exact lv_ior hx hb hdec (rz_go (IH _ hap) hn hr)
theorem rs_ixor {p : Program} {l : Launch} {e : Env} {R : Room} {s : State} {m : MethodId} {args : Array Value} {below : List Frame} {meth : Method} {c : Code} {Q : State → Prop} {M sz bs mcl msl : Nat} {D : va_G} {ca : Nat → ClassId} {scr : Option (Nat × (Nat → Int32))} {rk o pc len : Nat} {im : Int32} {aux ps : List Nat} {b : Nat × Nat} {ls : List (Option rz_V)} {st : List rz_V} {h : rz_H} {cf : rz_C} {k : rz_St → Option rz_Res} {r : rz_Res} {H : Heap} {locs : List Loc} {cells slots : Nat} {la : Array Slot} (C : rz_Cx p s m args meth c R M sz bs mcl msl D ca scr) (IH : ∀ S, k S = some r → rz_Wt p l e R s m args below meth c Q M sz bs mcl msl D ca S) (hr : rz_Rel s M sz bs mcl msl D ca b ls h H locs cells slots la) (hdec : decode (mC M) pc = .ok (.ixor, len)) (hck : rz_ck M o pc (.ixor) len im aux ps = true) (hap : rz_ap cf k (rz_do mT rk scr (.ixor) im aux o b ls st h) = some r) : W p l e R s m args below meth c H locs cells slots Q (F0 m pc la (st.map (tV sz bs))) := by
  obtain ⟨hx, hb, hml, hown, hts, hK, hAO, hnm, hsz, hmc, hms, hfr, hlo, hscr⟩ := C
  obtain ⟨rfl, hn⟩ := ck1 hck
  rcases st with _ | ⟨y | y | y | y, _ | ⟨x | x | x | x, st⟩⟩ <;> try exact (nomatch (show (none : Option rz_Res) = some r from hap))
  exact lv_ixor hx hb hdec (rz_go (IH _ hap) hn hr)
theorem rs_ishl {p : Program} {l : Launch} {e : Env} {R : Room} {s : State} {m : MethodId} {args : Array Value} {below : List Frame} {meth : Method} {c : Code} {Q : State → Prop} {M sz bs mcl msl : Nat} {D : va_G} {ca : Nat → ClassId} {scr : Option (Nat × (Nat → Int32))} {rk o pc len : Nat} {im : Int32} {aux ps : List Nat} {b : Nat × Nat} {ls : List (Option rz_V)} {st : List rz_V} {h : rz_H} {cf : rz_C} {k : rz_St → Option rz_Res} {r : rz_Res} {H : Heap} {locs : List Loc} {cells slots : Nat} {la : Array Slot} (C : rz_Cx p s m args meth c R M sz bs mcl msl D ca scr) (IH : ∀ S, k S = some r → rz_Wt p l e R s m args below meth c Q M sz bs mcl msl D ca S) (hr : rz_Rel s M sz bs mcl msl D ca b ls h H locs cells slots la) (hdec : decode (mC M) pc = .ok (.ishl, len)) (hck : rz_ck M o pc (.ishl) len im aux ps = true) (hap : rz_ap cf k (rz_do mT rk scr (.ishl) im aux o b ls st h) = some r) : W p l e R s m args below meth c H locs cells slots Q (F0 m pc la (st.map (tV sz bs))) := by
  obtain ⟨hx, hb, hml, hown, hts, hK, hAO, hnm, hsz, hmc, hms, hfr, hlo, hscr⟩ := C
  obtain ⟨rfl, hn⟩ := ck1 hck
  rcases st with _ | ⟨y | y | y | y, _ | ⟨x | x | x | x, st⟩⟩ <;> try exact (nomatch (show (none : Option rz_Res) = some r from hap))
  exact lv_ishl hx hb hdec (rz_go (IH _ hap) hn hr)
theorem rs_ishr {p : Program} {l : Launch} {e : Env} {R : Room} {s : State} {m : MethodId} {args : Array Value} {below : List Frame} {meth : Method} {c : Code} {Q : State → Prop} {M sz bs mcl msl : Nat} {D : va_G} {ca : Nat → ClassId} {scr : Option (Nat × (Nat → Int32))} {rk o pc len : Nat} {im : Int32} {aux ps : List Nat} {b : Nat × Nat} {ls : List (Option rz_V)} {st : List rz_V} {h : rz_H} {cf : rz_C} {k : rz_St → Option rz_Res} {r : rz_Res} {H : Heap} {locs : List Loc} {cells slots : Nat} {la : Array Slot} (C : rz_Cx p s m args meth c R M sz bs mcl msl D ca scr) (IH : ∀ S, k S = some r → rz_Wt p l e R s m args below meth c Q M sz bs mcl msl D ca S) (hr : rz_Rel s M sz bs mcl msl D ca b ls h H locs cells slots la) (hdec : decode (mC M) pc = .ok (.ishr, len)) (hck : rz_ck M o pc (.ishr) len im aux ps = true) (hap : rz_ap cf k (rz_do mT rk scr (.ishr) im aux o b ls st h) = some r) : W p l e R s m args below meth c H locs cells slots Q (F0 m pc la (st.map (tV sz bs))) := by
  obtain ⟨hx, hb, hml, hown, hts, hK, hAO, hnm, hsz, hmc, hms, hfr, hlo, hscr⟩ := C
  obtain ⟨rfl, hn⟩ := ck1 hck
  rcases st with _ | ⟨y | y | y | y, _ | ⟨x | x | x | x, st⟩⟩ <;> try exact (nomatch (show (none : Option rz_Res) = some r from hap))
  exact lv_ishr hx hb hdec (rz_go (IH _ hap) hn hr)
theorem rs_iushr {p : Program} {l : Launch} {e : Env} {R : Room} {s : State} {m : MethodId} {args : Array Value} {below : List Frame} {meth : Method} {c : Code} {Q : State → Prop} {M sz bs mcl msl : Nat} {D : va_G} {ca : Nat → ClassId} {scr : Option (Nat × (Nat → Int32))} {rk o pc len : Nat} {im : Int32} {aux ps : List Nat} {b : Nat × Nat} {ls : List (Option rz_V)} {st : List rz_V} {h : rz_H} {cf : rz_C} {k : rz_St → Option rz_Res} {r : rz_Res} {H : Heap} {locs : List Loc} {cells slots : Nat} {la : Array Slot} (C : rz_Cx p s m args meth c R M sz bs mcl msl D ca scr) (IH : ∀ S, k S = some r → rz_Wt p l e R s m args below meth c Q M sz bs mcl msl D ca S) (hr : rz_Rel s M sz bs mcl msl D ca b ls h H locs cells slots la) (hdec : decode (mC M) pc = .ok (.iushr, len)) (hck : rz_ck M o pc (.iushr) len im aux ps = true) (hap : rz_ap cf k (rz_do mT rk scr (.iushr) im aux o b ls st h) = some r) : W p l e R s m args below meth c H locs cells slots Q (F0 m pc la (st.map (tV sz bs))) := by
  obtain ⟨hx, hb, hml, hown, hts, hK, hAO, hnm, hsz, hmc, hms, hfr, hlo, hscr⟩ := C
  obtain ⟨rfl, hn⟩ := ck1 hck
  rcases st with _ | ⟨y | y | y | y, _ | ⟨x | x | x | x, st⟩⟩ <;> try exact (nomatch (show (none : Option rz_Res) = some r from hap))
  exact lv_iushr hx hb hdec rfl (rz_go (IH _ hap) hn hr)
theorem rs_idiv {p : Program} {l : Launch} {e : Env} {R : Room} {s : State} {m : MethodId} {args : Array Value} {below : List Frame} {meth : Method} {c : Code} {Q : State → Prop} {M sz bs mcl msl : Nat} {D : va_G} {ca : Nat → ClassId} {scr : Option (Nat × (Nat → Int32))} {rk o pc len : Nat} {im : Int32} {aux ps : List Nat} {b : Nat × Nat} {ls : List (Option rz_V)} {st : List rz_V} {h : rz_H} {cf : rz_C} {k : rz_St → Option rz_Res} {r : rz_Res} {H : Heap} {locs : List Loc} {cells slots : Nat} {la : Array Slot} (C : rz_Cx p s m args meth c R M sz bs mcl msl D ca scr) (IH : ∀ S, k S = some r → rz_Wt p l e R s m args below meth c Q M sz bs mcl msl D ca S) (hr : rz_Rel s M sz bs mcl msl D ca b ls h H locs cells slots la) (hdec : decode (mC M) pc = .ok (.idiv, len)) (hck : rz_ck M o pc (.idiv) len im aux ps = true) (hap : rz_ap cf k (rz_do mT rk scr (.idiv) im aux o b ls st h) = some r) : W p l e R s m args below meth c H locs cells slots Q (F0 m pc la (st.map (tV sz bs))) := by
  obtain ⟨hx, hb, hml, hown, hts, hK, hAO, hnm, hsz, hmc, hms, hfr, hlo, hscr⟩ := C
  obtain ⟨rfl, hn⟩ := ck1 hck
  rcases st with _ | ⟨y | y | y | y, _ | ⟨x | x | x | x, st⟩⟩ <;> try exact (nomatch (show (none : Option rz_Res) = some r from hap))
  obtain ⟨h3, hap⟩ := rz_bn hap
  exact lv_idiv hx hb hdec (of_decide_eq_true h3) (rz_go (IH _ hap) hn hr)
theorem rs_irem {p : Program} {l : Launch} {e : Env} {R : Room} {s : State} {m : MethodId} {args : Array Value} {below : List Frame} {meth : Method} {c : Code} {Q : State → Prop} {M sz bs mcl msl : Nat} {D : va_G} {ca : Nat → ClassId} {scr : Option (Nat × (Nat → Int32))} {rk o pc len : Nat} {im : Int32} {aux ps : List Nat} {b : Nat × Nat} {ls : List (Option rz_V)} {st : List rz_V} {h : rz_H} {cf : rz_C} {k : rz_St → Option rz_Res} {r : rz_Res} {H : Heap} {locs : List Loc} {cells slots : Nat} {la : Array Slot} (C : rz_Cx p s m args meth c R M sz bs mcl msl D ca scr) (IH : ∀ S, k S = some r → rz_Wt p l e R s m args below meth c Q M sz bs mcl msl D ca S) (hr : rz_Rel s M sz bs mcl msl D ca b ls h H locs cells slots la) (hdec : decode (mC M) pc = .ok (.irem, len)) (hck : rz_ck M o pc (.irem) len im aux ps = true) (hap : rz_ap cf k (rz_do mT rk scr (.irem) im aux o b ls st h) = some r) : W p l e R s m args below meth c H locs cells slots Q (F0 m pc la (st.map (tV sz bs))) := by
  obtain ⟨hx, hb, hml, hown, hts, hK, hAO, hnm, hsz, hmc, hms, hfr, hlo, hscr⟩ := C
  obtain ⟨rfl, hn⟩ := ck1 hck
  rcases st with _ | ⟨y | y | y | y, _ | ⟨x | x | x | x, st⟩⟩ <;> try exact (nomatch (show (none : Option rz_Res) = some r from hap))
  obtain ⟨h3, hap⟩ := rz_bn hap
  exact lv_irem hx hb hdec (of_decide_eq_true h3) (rz_go (IH _ hap) hn hr)
theorem rs_ladd {p : Program} {l : Launch} {e : Env} {R : Room} {s : State} {m : MethodId} {args : Array Value} {below : List Frame} {meth : Method} {c : Code} {Q : State → Prop} {M sz bs mcl msl : Nat} {D : va_G} {ca : Nat → ClassId} {scr : Option (Nat × (Nat → Int32))} {rk o pc len : Nat} {im : Int32} {aux ps : List Nat} {b : Nat × Nat} {ls : List (Option rz_V)} {st : List rz_V} {h : rz_H} {cf : rz_C} {k : rz_St → Option rz_Res} {r : rz_Res} {H : Heap} {locs : List Loc} {cells slots : Nat} {la : Array Slot} (C : rz_Cx p s m args meth c R M sz bs mcl msl D ca scr) (IH : ∀ S, k S = some r → rz_Wt p l e R s m args below meth c Q M sz bs mcl msl D ca S) (hr : rz_Rel s M sz bs mcl msl D ca b ls h H locs cells slots la) (hdec : decode (mC M) pc = .ok (.ladd, len)) (hck : rz_ck M o pc (.ladd) len im aux ps = true) (hap : rz_ap cf k (rz_do mT rk scr (.ladd) im aux o b ls st h) = some r) : W p l e R s m args below meth c H locs cells slots Q (F0 m pc la (st.map (tV sz bs))) := by
  obtain ⟨hx, hb, hml, hown, hts, hK, hAO, hnm, hsz, hmc, hms, hfr, hlo, hscr⟩ := C
  obtain ⟨rfl, hn⟩ := ck1 hck
  rcases st with _ | ⟨y | y | y | y, _ | ⟨x | x | x | x, st⟩⟩ <;> try exact (nomatch (show (none : Option rz_Res) = some r from hap))
  exact lv_ladd hx hb hdec (rz_go (IH _ hap) hn hr)
theorem rs_lmul {p : Program} {l : Launch} {e : Env} {R : Room} {s : State} {m : MethodId} {args : Array Value} {below : List Frame} {meth : Method} {c : Code} {Q : State → Prop} {M sz bs mcl msl : Nat} {D : va_G} {ca : Nat → ClassId} {scr : Option (Nat × (Nat → Int32))} {rk o pc len : Nat} {im : Int32} {aux ps : List Nat} {b : Nat × Nat} {ls : List (Option rz_V)} {st : List rz_V} {h : rz_H} {cf : rz_C} {k : rz_St → Option rz_Res} {r : rz_Res} {H : Heap} {locs : List Loc} {cells slots : Nat} {la : Array Slot} (C : rz_Cx p s m args meth c R M sz bs mcl msl D ca scr) (IH : ∀ S, k S = some r → rz_Wt p l e R s m args below meth c Q M sz bs mcl msl D ca S) (hr : rz_Rel s M sz bs mcl msl D ca b ls h H locs cells slots la) (hdec : decode (mC M) pc = .ok (.lmul, len)) (hck : rz_ck M o pc (.lmul) len im aux ps = true) (hap : rz_ap cf k (rz_do mT rk scr (.lmul) im aux o b ls st h) = some r) : W p l e R s m args below meth c H locs cells slots Q (F0 m pc la (st.map (tV sz bs))) := by
  obtain ⟨hx, hb, hml, hown, hts, hK, hAO, hnm, hsz, hmc, hms, hfr, hlo, hscr⟩ := C
  obtain ⟨rfl, hn⟩ := ck1 hck
  rcases st with _ | ⟨y | y | y | y, _ | ⟨x | x | x | x, st⟩⟩ <;> try exact (nomatch (show (none : Option rz_Res) = some r from hap))
  exact lv_lmul hx hb hdec (rz_go (IH _ hap) hn hr)
theorem rs_ldiv {p : Program} {l : Launch} {e : Env} {R : Room} {s : State} {m : MethodId} {args : Array Value} {below : List Frame} {meth : Method} {c : Code} {Q : State → Prop} {M sz bs mcl msl : Nat} {D : va_G} {ca : Nat → ClassId} {scr : Option (Nat × (Nat → Int32))} {rk o pc len : Nat} {im : Int32} {aux ps : List Nat} {b : Nat × Nat} {ls : List (Option rz_V)} {st : List rz_V} {h : rz_H} {cf : rz_C} {k : rz_St → Option rz_Res} {r : rz_Res} {H : Heap} {locs : List Loc} {cells slots : Nat} {la : Array Slot} (C : rz_Cx p s m args meth c R M sz bs mcl msl D ca scr) (IH : ∀ S, k S = some r → rz_Wt p l e R s m args below meth c Q M sz bs mcl msl D ca S) (hr : rz_Rel s M sz bs mcl msl D ca b ls h H locs cells slots la) (hdec : decode (mC M) pc = .ok (.ldiv, len)) (hck : rz_ck M o pc (.ldiv) len im aux ps = true) (hap : rz_ap cf k (rz_do mT rk scr (.ldiv) im aux o b ls st h) = some r) : W p l e R s m args below meth c H locs cells slots Q (F0 m pc la (st.map (tV sz bs))) := by
  obtain ⟨hx, hb, hml, hown, hts, hK, hAO, hnm, hsz, hmc, hms, hfr, hlo, hscr⟩ := C
  obtain ⟨rfl, hn⟩ := ck1 hck
  rcases st with _ | ⟨y | y | y | y, _ | ⟨x | x | x | x, st⟩⟩ <;> try exact (nomatch (show (none : Option rz_Res) = some r from hap))
  obtain ⟨h3, hap⟩ := rz_bn hap
  exact lv_ldiv hx hb hdec (of_decide_eq_true h3) (rz_go (IH _ hap) hn hr)
theorem rs_lcmp {p : Program} {l : Launch} {e : Env} {R : Room} {s : State} {m : MethodId} {args : Array Value} {below : List Frame} {meth : Method} {c : Code} {Q : State → Prop} {M sz bs mcl msl : Nat} {D : va_G} {ca : Nat → ClassId} {scr : Option (Nat × (Nat → Int32))} {rk o pc len : Nat} {im : Int32} {aux ps : List Nat} {b : Nat × Nat} {ls : List (Option rz_V)} {st : List rz_V} {h : rz_H} {cf : rz_C} {k : rz_St → Option rz_Res} {r : rz_Res} {H : Heap} {locs : List Loc} {cells slots : Nat} {la : Array Slot} (C : rz_Cx p s m args meth c R M sz bs mcl msl D ca scr) (IH : ∀ S, k S = some r → rz_Wt p l e R s m args below meth c Q M sz bs mcl msl D ca S) (hr : rz_Rel s M sz bs mcl msl D ca b ls h H locs cells slots la) (hdec : decode (mC M) pc = .ok (.lcmp, len)) (hck : rz_ck M o pc (.lcmp) len im aux ps = true) (hap : rz_ap cf k (rz_do mT rk scr (.lcmp) im aux o b ls st h) = some r) : W p l e R s m args below meth c H locs cells slots Q (F0 m pc la (st.map (tV sz bs))) := by
  obtain ⟨hx, hb, hml, hown, hts, hK, hAO, hnm, hsz, hmc, hms, hfr, hlo, hscr⟩ := C
  obtain ⟨rfl, hn⟩ := ck1 hck
  rcases st with _ | ⟨y | y | y | y, _ | ⟨x | x | x | x, st⟩⟩ <;> try exact (nomatch (show (none : Option rz_Res) = some r from hap))
  exact W.lcmp hx hb hdec (rz_go (IH _ hap) hn hr)
theorem rs_ineg {p : Program} {l : Launch} {e : Env} {R : Room} {s : State} {m : MethodId} {args : Array Value} {below : List Frame} {meth : Method} {c : Code} {Q : State → Prop} {M sz bs mcl msl : Nat} {D : va_G} {ca : Nat → ClassId} {scr : Option (Nat × (Nat → Int32))} {rk o pc len : Nat} {im : Int32} {aux ps : List Nat} {b : Nat × Nat} {ls : List (Option rz_V)} {st : List rz_V} {h : rz_H} {cf : rz_C} {k : rz_St → Option rz_Res} {r : rz_Res} {H : Heap} {locs : List Loc} {cells slots : Nat} {la : Array Slot} (C : rz_Cx p s m args meth c R M sz bs mcl msl D ca scr) (IH : ∀ S, k S = some r → rz_Wt p l e R s m args below meth c Q M sz bs mcl msl D ca S) (hr : rz_Rel s M sz bs mcl msl D ca b ls h H locs cells slots la) (hdec : decode (mC M) pc = .ok (.ineg, len)) (hck : rz_ck M o pc (.ineg) len im aux ps = true) (hap : rz_ap cf k (rz_do mT rk scr (.ineg) im aux o b ls st h) = some r) : W p l e R s m args below meth c H locs cells slots Q (F0 m pc la (st.map (tV sz bs))) := by
  obtain ⟨hx, hb, hml, hown, hts, hK, hAO, hnm, hsz, hmc, hms, hfr, hlo, hscr⟩ := C
  obtain ⟨rfl, hn⟩ := ck1 hck
  rcases st with _ | ⟨x | x | x | x, st⟩ <;> try exact (nomatch (show (none : Option rz_Res) = some r from hap))
  exact lv_ineg hx hb hdec (rz_go (IH _ hap) hn hr)
theorem rs_i2b {p : Program} {l : Launch} {e : Env} {R : Room} {s : State} {m : MethodId} {args : Array Value} {below : List Frame} {meth : Method} {c : Code} {Q : State → Prop} {M sz bs mcl msl : Nat} {D : va_G} {ca : Nat → ClassId} {scr : Option (Nat × (Nat → Int32))} {rk o pc len : Nat} {im : Int32} {aux ps : List Nat} {b : Nat × Nat} {ls : List (Option rz_V)} {st : List rz_V} {h : rz_H} {cf : rz_C} {k : rz_St → Option rz_Res} {r : rz_Res} {H : Heap} {locs : List Loc} {cells slots : Nat} {la : Array Slot} (C : rz_Cx p s m args meth c R M sz bs mcl msl D ca scr) (IH : ∀ S, k S = some r → rz_Wt p l e R s m args below meth c Q M sz bs mcl msl D ca S) (hr : rz_Rel s M sz bs mcl msl D ca b ls h H locs cells slots la) (hdec : decode (mC M) pc = .ok (.i2b, len)) (hck : rz_ck M o pc (.i2b) len im aux ps = true) (hap : rz_ap cf k (rz_do mT rk scr (.i2b) im aux o b ls st h) = some r) : W p l e R s m args below meth c H locs cells slots Q (F0 m pc la (st.map (tV sz bs))) := by
  obtain ⟨hx, hb, hml, hown, hts, hK, hAO, hnm, hsz, hmc, hms, hfr, hlo, hscr⟩ := C
  obtain ⟨rfl, hn⟩ := ck1 hck
  rcases st with _ | ⟨x | x | x | x, st⟩ <;> try exact (nomatch (show (none : Option rz_Res) = some r from hap))
  exact lv_i2b hx hb hdec rfl (rz_go (IH _ hap) hn hr)
theorem rs_i2l {p : Program} {l : Launch} {e : Env} {R : Room} {s : State} {m : MethodId} {args : Array Value} {below : List Frame} {meth : Method} {c : Code} {Q : State → Prop} {M sz bs mcl msl : Nat} {D : va_G} {ca : Nat → ClassId} {scr : Option (Nat × (Nat → Int32))} {rk o pc len : Nat} {im : Int32} {aux ps : List Nat} {b : Nat × Nat} {ls : List (Option rz_V)} {st : List rz_V} {h : rz_H} {cf : rz_C} {k : rz_St → Option rz_Res} {r : rz_Res} {H : Heap} {locs : List Loc} {cells slots : Nat} {la : Array Slot} (C : rz_Cx p s m args meth c R M sz bs mcl msl D ca scr) (IH : ∀ S, k S = some r → rz_Wt p l e R s m args below meth c Q M sz bs mcl msl D ca S) (hr : rz_Rel s M sz bs mcl msl D ca b ls h H locs cells slots la) (hdec : decode (mC M) pc = .ok (.i2l, len)) (hck : rz_ck M o pc (.i2l) len im aux ps = true) (hap : rz_ap cf k (rz_do mT rk scr (.i2l) im aux o b ls st h) = some r) : W p l e R s m args below meth c H locs cells slots Q (F0 m pc la (st.map (tV sz bs))) := by
  obtain ⟨hx, hb, hml, hown, hts, hK, hAO, hnm, hsz, hmc, hms, hfr, hlo, hscr⟩ := C
  obtain ⟨rfl, hn⟩ := ck1 hck
  rcases st with _ | ⟨x | x | x | x, st⟩ <;> try exact (nomatch (show (none : Option rz_Res) = some r from hap))
  exact lv_i2l hx hb hdec rfl (rz_go (IH _ hap) hn hr)
theorem rs_dup {p : Program} {l : Launch} {e : Env} {R : Room} {s : State} {m : MethodId} {args : Array Value} {below : List Frame} {meth : Method} {c : Code} {Q : State → Prop} {M sz bs mcl msl : Nat} {D : va_G} {ca : Nat → ClassId} {scr : Option (Nat × (Nat → Int32))} {rk o pc len : Nat} {im : Int32} {aux ps : List Nat} {b : Nat × Nat} {ls : List (Option rz_V)} {st : List rz_V} {h : rz_H} {cf : rz_C} {k : rz_St → Option rz_Res} {r : rz_Res} {H : Heap} {locs : List Loc} {cells slots : Nat} {la : Array Slot} (C : rz_Cx p s m args meth c R M sz bs mcl msl D ca scr) (IH : ∀ S, k S = some r → rz_Wt p l e R s m args below meth c Q M sz bs mcl msl D ca S) (hr : rz_Rel s M sz bs mcl msl D ca b ls h H locs cells slots la) (hdec : decode (mC M) pc = .ok (.dup, len)) (hck : rz_ck M o pc (.dup) len im aux ps = true) (hap : rz_ap cf k (rz_do mT rk scr (.dup) im aux o b ls st h) = some r) : W p l e R s m args below meth c H locs cells slots Q (F0 m pc la (st.map (tV sz bs))) := by
  obtain ⟨hx, hb, hml, hown, hts, hK, hAO, hnm, hsz, hmc, hms, hfr, hlo, hscr⟩ := C
  obtain ⟨rfl, hn⟩ := ck1 hck
  rcases st with _ | ⟨v, st⟩
  · exact (nomatch (show (none : Option rz_Res) = some r from hap))
  obtain ⟨h3, hap⟩ := rz_bn hap
  exact lv_dup hx hb hdec (by rw [tV_cat]; exact Nat.eq_of_beq_eq_true h3) (rz_go (IH _ hap) hn hr)
theorem rs_pop {p : Program} {l : Launch} {e : Env} {R : Room} {s : State} {m : MethodId} {args : Array Value} {below : List Frame} {meth : Method} {c : Code} {Q : State → Prop} {M sz bs mcl msl : Nat} {D : va_G} {ca : Nat → ClassId} {scr : Option (Nat × (Nat → Int32))} {rk o pc len : Nat} {im : Int32} {aux ps : List Nat} {b : Nat × Nat} {ls : List (Option rz_V)} {st : List rz_V} {h : rz_H} {cf : rz_C} {k : rz_St → Option rz_Res} {r : rz_Res} {H : Heap} {locs : List Loc} {cells slots : Nat} {la : Array Slot} (C : rz_Cx p s m args meth c R M sz bs mcl msl D ca scr) (IH : ∀ S, k S = some r → rz_Wt p l e R s m args below meth c Q M sz bs mcl msl D ca S) (hr : rz_Rel s M sz bs mcl msl D ca b ls h H locs cells slots la) (hdec : decode (mC M) pc = .ok (.pop, len)) (hck : rz_ck M o pc (.pop) len im aux ps = true) (hap : rz_ap cf k (rz_do mT rk scr (.pop) im aux o b ls st h) = some r) : W p l e R s m args below meth c H locs cells slots Q (F0 m pc la (st.map (tV sz bs))) := by
  obtain ⟨hx, hb, hml, hown, hts, hK, hAO, hnm, hsz, hmc, hms, hfr, hlo, hscr⟩ := C
  obtain ⟨rfl, hn⟩ := ck1 hck
  rcases st with _ | ⟨v, st⟩
  · exact (nomatch (show (none : Option rz_Res) = some r from hap))
  obtain ⟨h3, hap⟩ := rz_bn hap
  exact lv_pop hx hb hdec (by rw [tV_cat]; exact Nat.eq_of_beq_eq_true h3) (rz_go (IH _ hap) hn hr)
theorem rs_dup2 {p : Program} {l : Launch} {e : Env} {R : Room} {s : State} {m : MethodId} {args : Array Value} {below : List Frame} {meth : Method} {c : Code} {Q : State → Prop} {M sz bs mcl msl : Nat} {D : va_G} {ca : Nat → ClassId} {scr : Option (Nat × (Nat → Int32))} {rk o pc len : Nat} {im : Int32} {aux ps : List Nat} {b : Nat × Nat} {ls : List (Option rz_V)} {st : List rz_V} {h : rz_H} {cf : rz_C} {k : rz_St → Option rz_Res} {r : rz_Res} {H : Heap} {locs : List Loc} {cells slots : Nat} {la : Array Slot} (C : rz_Cx p s m args meth c R M sz bs mcl msl D ca scr) (IH : ∀ S, k S = some r → rz_Wt p l e R s m args below meth c Q M sz bs mcl msl D ca S) (hr : rz_Rel s M sz bs mcl msl D ca b ls h H locs cells slots la) (hdec : decode (mC M) pc = .ok (.dup2, len)) (hck : rz_ck M o pc (.dup2) len im aux ps = true) (hap : rz_ap cf k (rz_do mT rk scr (.dup2) im aux o b ls st h) = some r) : W p l e R s m args below meth c H locs cells slots Q (F0 m pc la (st.map (tV sz bs))) := by
  obtain ⟨hx, hb, hml, hown, hts, hK, hAO, hnm, hsz, hmc, hms, hfr, hlo, hscr⟩ := C
  obtain ⟨rfl, hn⟩ := ck1 hck
  rcases st with _ | ⟨v, _ | ⟨w, st⟩⟩
  · exact (nomatch (show (none : Option rz_Res) = some r from hap))
  · exact (nomatch (show (none : Option rz_Res) = some r from hap))
  obtain ⟨h3, hap⟩ := rz_bn hap
  obtain ⟨h4, h5⟩ := ba h3
  exact lv_dup2_11 hx hb hdec (by rw [tV_cat]; exact Nat.eq_of_beq_eq_true h4) (by rw [tV_cat]; exact Nat.eq_of_beq_eq_true h5) (rz_go (IH _ hap) hn hr)
theorem rs_goto {p : Program} {l : Launch} {e : Env} {R : Room} {s : State} {m : MethodId} {args : Array Value} {below : List Frame} {meth : Method} {c : Code} {Q : State → Prop} {M sz bs mcl msl : Nat} {D : va_G} {ca : Nat → ClassId} {scr : Option (Nat × (Nat → Int32))} {rk o pc len : Nat} {im : Int32} {aux ps : List Nat} {b : Nat × Nat} {ls : List (Option rz_V)} {st : List rz_V} {h : rz_H} {cf : rz_C} {k : rz_St → Option rz_Res} {r : rz_Res} {H : Heap} {locs : List Loc} {cells slots : Nat} {la : Array Slot} {off : Int} (C : rz_Cx p s m args meth c R M sz bs mcl msl D ca scr) (IH : ∀ S, k S = some r → rz_Wt p l e R s m args below meth c Q M sz bs mcl msl D ca S) (hr : rz_Rel s M sz bs mcl msl D ca b ls h H locs cells slots la) (hdec : decode (mC M) pc = .ok (.goto off, len)) (hck : rz_ck M o pc (.goto off) len im aux ps = true) (hap : rz_ap cf k (rz_do mT rk scr (.goto off) im aux o b ls st h) = some r) : W p l e R s m args below meth c H locs cells slots Q (F0 m pc la (st.map (tV sz bs))) := by
  obtain ⟨hx, hb, hml, hown, hts, hK, hAO, hnm, hsz, hmc, hms, hfr, hlo, hscr⟩ := C
  obtain ⟨h1, h2⟩ := ba hck
  have e := Nat.eq_of_beq_eq_true h1
  subst e
  rcases aux with _ | ⟨t, _ | ⟨t2, aux⟩⟩
  · cases h2
  · exact lv_goto hx hb hdec (ckb h2) (rz_go (IH _ hap) rfl hr)
  · cases h2
theorem rs_ifCond {p : Program} {l : Launch} {e : Env} {R : Room} {s : State} {m : MethodId} {args : Array Value} {below : List Frame} {meth : Method} {c : Code} {Q : State → Prop} {M sz bs mcl msl : Nat} {D : va_G} {ca : Nat → ClassId} {scr : Option (Nat × (Nat → Int32))} {rk o pc len : Nat} {im : Int32} {aux ps : List Nat} {b : Nat × Nat} {ls : List (Option rz_V)} {st : List rz_V} {h : rz_H} {cf : rz_C} {k : rz_St → Option rz_Res} {r : rz_Res} {H : Heap} {locs : List Loc} {cells slots : Nat} {la : Array Slot} {cc : Jvm.ClassFile.Cond} {off : Int} (C : rz_Cx p s m args meth c R M sz bs mcl msl D ca scr) (IH : ∀ S, k S = some r → rz_Wt p l e R s m args below meth c Q M sz bs mcl msl D ca S) (hr : rz_Rel s M sz bs mcl msl D ca b ls h H locs cells slots la) (hdec : decode (mC M) pc = .ok (.ifCond cc off, len)) (hck : rz_ck M o pc (.ifCond cc off) len im aux ps = true) (hap : rz_ap cf k (rz_do mT rk scr (.ifCond cc off) im aux o b ls st h) = some r) : W p l e R s m args below meth c H locs cells slots Q (F0 m pc la (st.map (tV sz bs))) := by
  obtain ⟨hx, hb, hml, hown, hts, hK, hAO, hnm, hsz, hmc, hms, hfr, hlo, hscr⟩ := C
  obtain ⟨h1, h2⟩ := ba hck
  obtain ⟨rfl, hn⟩ := ckn h1
  rcases aux with _ | ⟨t, _ | ⟨t2, aux⟩⟩ <;> try exact (nomatch (show false = true from h2))
  rcases st with _ | ⟨x | x | x | x, st⟩ <;> try exact (nomatch (show (none : Option rz_Res) = some r from hap))
  cases cc
  · exact lv_if_eq hx hb hdec (ckb h2) (fun q => rz_go (IH _ (rz_bt (decide_eq_true q) hap)) rfl hr) (fun q => rz_go (IH _ (rz_bf (decide_eq_false q) hap)) hn hr)
  · exact lv_if_ne hx hb hdec (ckb h2) (fun q => rz_go (IH _ (rz_bt (decide_eq_true q) hap)) rfl hr) (fun q => rz_go (IH _ (rz_bf (decide_eq_false (fun n => n q)) hap)) hn hr)
  · exact lv_if_lt hx hb hdec (ckb h2) (fun q => rz_go (IH _ (rz_bt (decide_eq_true q) hap)) rfl hr) (fun q => rz_go (IH _ (rz_bf (decide_eq_false q) hap)) hn hr)
  · exact lv_if_ge hx hb hdec (ckb h2) (fun q => rz_go (IH _ (rz_bt (decide_eq_true q) hap)) rfl hr) (fun q => rz_go (IH _ (rz_bf (decide_eq_false q) hap)) hn hr)
  · exact lv_if_gt hx hb hdec (ckb h2) (fun q => rz_go (IH _ (rz_bt (decide_eq_true q) hap)) rfl hr) (fun q => rz_go (IH _ (rz_bf (decide_eq_false q) hap)) hn hr)
  · exact lv_if_le hx hb hdec (ckb h2) (fun q => rz_go (IH _ (rz_bt (decide_eq_true q) hap)) rfl hr) (fun q => rz_go (IH _ (rz_bf (decide_eq_false q) hap)) hn hr)
theorem rs_if_icmp {p : Program} {l : Launch} {e : Env} {R : Room} {s : State} {m : MethodId} {args : Array Value} {below : List Frame} {meth : Method} {c : Code} {Q : State → Prop} {M sz bs mcl msl : Nat} {D : va_G} {ca : Nat → ClassId} {scr : Option (Nat × (Nat → Int32))} {rk o pc len : Nat} {im : Int32} {aux ps : List Nat} {b : Nat × Nat} {ls : List (Option rz_V)} {st : List rz_V} {h : rz_H} {cf : rz_C} {k : rz_St → Option rz_Res} {r : rz_Res} {H : Heap} {locs : List Loc} {cells slots : Nat} {la : Array Slot} {cc : Jvm.ClassFile.Cond} {off : Int} (C : rz_Cx p s m args meth c R M sz bs mcl msl D ca scr) (IH : ∀ S, k S = some r → rz_Wt p l e R s m args below meth c Q M sz bs mcl msl D ca S) (hr : rz_Rel s M sz bs mcl msl D ca b ls h H locs cells slots la) (hdec : decode (mC M) pc = .ok (.if_icmp cc off, len)) (hck : rz_ck M o pc (.if_icmp cc off) len im aux ps = true) (hap : rz_ap cf k (rz_do mT rk scr (.if_icmp cc off) im aux o b ls st h) = some r) : W p l e R s m args below meth c H locs cells slots Q (F0 m pc la (st.map (tV sz bs))) := by
  obtain ⟨hx, hb, hml, hown, hts, hK, hAO, hnm, hsz, hmc, hms, hfr, hlo, hscr⟩ := C
  obtain ⟨h1, h2⟩ := ba hck
  obtain ⟨rfl, hn⟩ := ckn h1
  rcases aux with _ | ⟨t, _ | ⟨t2, aux⟩⟩ <;> try exact (nomatch (show false = true from h2))
  rcases st with _ | ⟨y | y | y | y, _ | ⟨x | x | x | x, st⟩⟩ <;> try exact (nomatch (show (none : Option rz_Res) = some r from hap))
  cases cc
  · exact lv_icmp_eq hx hb hdec (ckb h2) (fun q => rz_go (IH _ (rz_bt (decide_eq_true q) hap)) rfl hr) (fun q => rz_go (IH _ (rz_bf (decide_eq_false q) hap)) hn hr)
  · exact lv_icmp_ne hx hb hdec (ckb h2) (fun q => rz_go (IH _ (rz_bt (decide_eq_true q) hap)) rfl hr) (fun q => rz_go (IH _ (rz_bf (decide_eq_false (fun n => n q)) hap)) hn hr)
  · exact lv_icmp_lt hx hb hdec (ckb h2) (fun q => rz_go (IH _ (rz_bt (decide_eq_true q) hap)) rfl hr) (fun q => rz_go (IH _ (rz_bf (decide_eq_false q) hap)) hn hr)
  · exact lv_icmp_ge hx hb hdec (ckb h2) (fun q => rz_go (IH _ (rz_bt (decide_eq_true q) hap)) rfl hr) (fun q => rz_go (IH _ (rz_bf (decide_eq_false q) hap)) hn hr)
  · exact lv_icmp_gt hx hb hdec (ckb h2) (fun q => rz_go (IH _ (rz_bt (decide_eq_true q) hap)) rfl hr) (fun q => rz_go (IH _ (rz_bf (decide_eq_false q) hap)) hn hr)
  · exact lv_icmp_le hx hb hdec (ckb h2) (fun q => rz_go (IH _ (rz_bt (decide_eq_true q) hap)) rfl hr) (fun q => rz_go (IH _ (rz_bf (decide_eq_false q) hap)) hn hr)
theorem rs_ifnull {p : Program} {l : Launch} {e : Env} {R : Room} {s : State} {m : MethodId} {args : Array Value} {below : List Frame} {meth : Method} {c : Code} {Q : State → Prop} {M sz bs mcl msl : Nat} {D : va_G} {ca : Nat → ClassId} {scr : Option (Nat × (Nat → Int32))} {rk o pc len : Nat} {im : Int32} {aux ps : List Nat} {b : Nat × Nat} {ls : List (Option rz_V)} {st : List rz_V} {h : rz_H} {cf : rz_C} {k : rz_St → Option rz_Res} {r : rz_Res} {H : Heap} {locs : List Loc} {cells slots : Nat} {la : Array Slot} {off : Int} (C : rz_Cx p s m args meth c R M sz bs mcl msl D ca scr) (IH : ∀ S, k S = some r → rz_Wt p l e R s m args below meth c Q M sz bs mcl msl D ca S) (hr : rz_Rel s M sz bs mcl msl D ca b ls h H locs cells slots la) (hdec : decode (mC M) pc = .ok (.ifnull off, len)) (hck : rz_ck M o pc (.ifnull off) len im aux ps = true) (hap : rz_ap cf k (rz_do mT rk scr (.ifnull off) im aux o b ls st h) = some r) : W p l e R s m args below meth c H locs cells slots Q (F0 m pc la (st.map (tV sz bs))) := by
  obtain ⟨hx, hb, hml, hown, hts, hK, hAO, hnm, hsz, hmc, hms, hfr, hlo, hscr⟩ := C
  obtain ⟨h1, h2⟩ := ba hck
  obtain ⟨rfl, hn⟩ := ckn h1
  rcases aux with _ | ⟨t, _ | ⟨t2, aux⟩⟩ <;> try exact (nomatch (show false = true from h2))
  rcases st with _ | ⟨x | (_ | x) | x | x, st⟩ <;> try exact (nomatch (show (none : Option rz_Res) = some r from hap))
  · exact lv_ifnullN hx hb hdec (ckb h2) (rz_go (IH _ hap) rfl hr)
  · exact lv_ifnull hx hb hdec (rz_go (IH _ hap) hn hr)
theorem rs_ifnonnull {p : Program} {l : Launch} {e : Env} {R : Room} {s : State} {m : MethodId} {args : Array Value} {below : List Frame} {meth : Method} {c : Code} {Q : State → Prop} {M sz bs mcl msl : Nat} {D : va_G} {ca : Nat → ClassId} {scr : Option (Nat × (Nat → Int32))} {rk o pc len : Nat} {im : Int32} {aux ps : List Nat} {b : Nat × Nat} {ls : List (Option rz_V)} {st : List rz_V} {h : rz_H} {cf : rz_C} {k : rz_St → Option rz_Res} {r : rz_Res} {H : Heap} {locs : List Loc} {cells slots : Nat} {la : Array Slot} {off : Int} (C : rz_Cx p s m args meth c R M sz bs mcl msl D ca scr) (IH : ∀ S, k S = some r → rz_Wt p l e R s m args below meth c Q M sz bs mcl msl D ca S) (hr : rz_Rel s M sz bs mcl msl D ca b ls h H locs cells slots la) (hdec : decode (mC M) pc = .ok (.ifnonnull off, len)) (hck : rz_ck M o pc (.ifnonnull off) len im aux ps = true) (hap : rz_ap cf k (rz_do mT rk scr (.ifnonnull off) im aux o b ls st h) = some r) : W p l e R s m args below meth c H locs cells slots Q (F0 m pc la (st.map (tV sz bs))) := by
  obtain ⟨hx, hb, hml, hown, hts, hK, hAO, hnm, hsz, hmc, hms, hfr, hlo, hscr⟩ := C
  obtain ⟨h1, h2⟩ := ba hck
  obtain ⟨rfl, hn⟩ := ckn h1
  rcases aux with _ | ⟨t, _ | ⟨t2, aux⟩⟩ <;> try exact (nomatch (show false = true from h2))
  rcases st with _ | ⟨x | (_ | x) | x | x, st⟩ <;> try exact (nomatch (show (none : Option rz_Res) = some r from hap))
  · exact lv_ifnonnullN hx hb hdec (rz_go (IH _ hap) hn hr)
  · exact lv_ifnonnull hx hb hdec (ckb h2) (rz_go (IH _ hap) rfl hr)
