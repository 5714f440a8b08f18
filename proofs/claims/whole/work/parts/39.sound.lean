/-! every method keeps the contract that its pure run gives -/
def rz_Tab : Prop := (∀ M, M < 279 → rz_chM M = true) ∧ (∀ M, M < 279 → M ≠ 274 → ck_me M = true) ∧ (∀ M o, M < 279 → mF M o ≠ none → o < mZ M) ∧ ∀ M, M < 279 → rpc M 0 = 0
theorem rz_W_end {p : Program} {l : Launch} {e : Env} {R : Room} {s : State} {m : MethodId} {args : Array Value} {below : List Frame} {meth : Method} {c : Code} {M sz bs mcl msl : Nat} {D : va_G} {ca : Nat → ClassId} {Qc : Array Value → State → Outcome → State → Prop} {r : rz_Res} (hx : p.tables.exec = Jvm.exec) (hb : c.code = mC M) (hr : meth.sig.returnType = mR M) (hlocks : meth.locks = false) (hme : ck_me M = true)
    (hq : ∀ (H : Heap) (t : State), t.heap = H → va_P D kCl (tW sz ca r.2) H → va_F (fun q => sz ≤ q) s t → s.heap.size + mcl = sz + rz_len r.2 → Qc args s (.returned (rz_rv sz bs (mK M) r.1)) t) :
    ∀ (i : Instr) (pc : Nat) (st : List Value) (H : Heap) (locs : List Loc) (slots : Nat) (la : Array Slot), decode (mC M) pc = .ok (i, 1) → rz_ret sz bs (mK M) i r.1 st → va_P D kCl (tW sz ca r.2) H → va_S (fun q => sz ≤ q) s.heap H locs → s.heap.size + mcl = sz + rz_len r.2 → slots ≤ msl → W p l e R s m args below meth c H locs mcl slots (MQ below Qc args s mcl msl (fun q => sz ≤ q)) (F0 m pc la st) := by
  intro i pc st H locs slots la hdec hret hP hV hlen hsl
  refine W.widen (k := mcl) (n := msl) (Nat.le_refl _) hsl ?_
  have hq2 : ∀ t : State, t.heap = H → Qc args s (.returned (rz_rv sz bs (mK M) r.1)) t := fun t ht => hq H t ht hP (hV.F ht) hlen
  have hf : ∀ q ∈ locs, (fun q => sz ≤ q) q.base := hV.2.2
  obtain ⟨-, h1⟩ := ba hme
  obtain ⟨-, h1⟩ := ba h1
  obtain ⟨-, h1⟩ := ba h1
  obtain ⟨-, h1⟩ := ba h1
  obtain ⟨-, h1⟩ := ba h1
  rcases hret with ⟨rfl, hk, x, hv, rfl⟩ | ⟨rfl, hk, x, h01, hv, rfl⟩ | ⟨rfl, hk, x, hv, rfl⟩ | ⟨rfl, hk, x, hv, rfl⟩ | ⟨rfl, hk, rfl⟩
  · rw [hk] at hq2 h1
    rw [hv] at hq2
    have hR : mR M = some .int := by
      cases hm : mR M with
      | none => rw [hm] at h1; cases h1
      | some rt =>
        rw [hm] at h1
        cases rt <;> first | rfl | cases h1
    exact W.iret hx hb (hr.trans hR) (fun t ht _ => hq2 t ht) hf hdec hlocks
  · rw [hk] at hq2 h1
    rw [hv] at hq2
    have hR : mR M = some .boolean := by
      cases hm : mR M with
      | none => rw [hm] at h1; cases h1
      | some rt =>
        rw [hm] at h1
        cases rt <;> first | rfl | cases h1
    exact W.zret hx hb (hr.trans hR) (by rcases h01 with rfl | rfl <;> rfl) (fun t ht _ => hq2 t ht) hf hdec hlocks
  · rw [hk] at hq2 h1
    rw [hv] at hq2
    have hR : mR M = some .long := by
      cases hm : mR M with
      | none => rw [hm] at h1; cases h1
      | some rt =>
        rw [hm] at h1
        cases rt <;> first | rfl | cases h1
    exact W.lret hx hb (hr.trans hR) (fun t ht _ => hq2 t ht) hf hdec hlocks
  · rw [hk] at hq2 h1
    rw [hv] at hq2
    have hR : ∃ rt, mR M = some rt ∧ ((∃ n, rt = .object n) ∨ ∃ t, rt = .array t) := by
      cases hm : mR M with
      | none => rw [hm] at h1; cases h1
      | some rt =>
        rw [hm] at h1
        cases rt <;> first | exact ⟨_, rfl, Or.inl ⟨_, rfl⟩⟩ | exact ⟨_, rfl, Or.inr ⟨_, rfl⟩⟩ | cases h1
    obtain ⟨rt, hR, hrt⟩ := hR
    exact W.aret hx hb (hr.trans hR) hrt (by cases x with | none => exact Or.inl rfl | some x => exact Or.inr ⟨_, rfl⟩) (fun t ht _ => hq2 t ht) hf hdec hlocks
  · rw [hk] at hq2 h1
    have hR : mR M = none := by
      cases hm : mR M with
      | none => rfl
      | some rt => rw [hm] at h1; cases h1
    exact W.vret hx hb (hr.trans hR) (fun t ht _ => hq2 t ht) hf hdec hlocks
theorem rz_lg (sz bs : Nat) : ∀ as : List rz_V, as.all rz_c1 = true → (lg_sl (as.map (tV sz bs))).length = as.length
  | [], _ => rfl
  | v :: as, h => by
    obtain ⟨q1, q2⟩ := ba (show (rz_c1 v && as.all rz_c1) = true from h)
    have hcat : (tV sz bs v).category = 1 := by
      rw [tV_cat]
      rcases v with x | x | x | x
      · rfl
      · rfl
      · cases q1
      · rfl
    have e : lg_sl ((v :: as).map (tV sz bs)) = .val (tV sz bs v) :: lg_sl (as.map (tV sz bs)) := by
      simp [lg_sl, hcat]
    rw [e, List.length_cons, rz_lg sz bs as q2, List.length_cons]
theorem rz_ofW {l : Launch} {y : MethodName} {ws ws' : List Jvm.Cond} {rm : Room} {Pc : Array Value → State → Prop} {Qc : Array Value → State → Outcome → State → Prop} {mc ms : Nat} {free : Addr → Prop} {cc : ByteArray} {maxL : Nat} {ret : Option FieldType} (hy : plainFor y = true) (hw : ws = Jvm.Cond.code y cc maxL ret :: ws')
    (body : ∀ p e s m args below meth c s₁, BodyLoose p l y (headSpec ws rm) cc maxL ret e s m args below meth c s₁ → c.maxLocals = maxL → Pc args s → W p l e (headSpec ws rm).room s m args below meth c s.heap [] 0 0 (MQ below Qc args s mc ms free) (entryFrame m args maxL)) : Met l y ws rm Pc Qc mc ms free := by
  refine MetFree.of_bodySF (code := cc) (maxLocals := maxL) (ret := ret) hy (fun args s m h hn => ?_) (fun p e s m args below meth c s₁ B hml hP _ => ?_)
  · obtain ⟨meth, c, h1, h2, h3, h4, h5, h6, -, -⟩ := Cond.code_spec hn (atoms_spec (ws := ws) h _ (by rw [hw]; exact List.mem_cons_self))
    exact ⟨meth, c, h1, h2, h3, h4, h5, h6⟩
  · have hh0 : s₁.heap = s.heap := by rw [B.state]; rfl
    obtain ⟨t, a1, o, b1, b2, b3⟩ := body p e s m args below meth c s₁ B hml hP s₁ hh0 (Stand.of_body B)
    exact ⟨t, o, a1, b1, b2, b3⟩
theorem rz_sound (hT : rz_Tab) (l : Launch) (sz bs : Nat) (D : va_G) (ca : Nat → ClassId) : ∀ (d mm : Nat) (as : List rz_V) (h : rz_H) (r : rz_Res), mm < 279 → mm ≠ 274 → cW d mm as h = some r → rz_Ct l sz bs D ca d mm as h r
  | 0, _, _, _, _, _, _, hc => by cases hc
  | d + 1, mm, as, h, r, hmm, hm2, hc => by
    obtain ⟨hrows, hme, hzM, hp0⟩ := id hT
    have hmeM := hme mm hmm hm2
    obtain ⟨hok, hW⟩ := rz_bn hc
    obtain ⟨hok1, hok2⟩ := ba hok
    have hlen : as.length = mA mm := Nat.eq_of_beq_eq_true hok1
    have hmL : mA mm ≤ mL mm := Nat.le_of_ble_eq_true (ba hmeM).1
    obtain ⟨n, hn⟩ := (rz_W_iff _ _ _ r).mp hW
    have hpl : plainFor (mY mm) = true := (ba (ba (ba hmeM).2).2).1
    refine rz_ofW (cc := mC mm) (maxL := mL mm) (ret := mR mm) hpl rfl ?_
    intro p e s m args below meth c s₁ B hml hv
    obtain ⟨rfl, hsz, hP, hK, hAO⟩ := hv
    have hts := atoms_spec (ws := rz_ws mm) B.pre
    have hown : s.vm.findClass (mY mm).cls = some m.cls := findClass_of_methodNamed B.named
    have hin : meth.name = (mY mm).name := (name_of_methodNamed B.named B.method).1
    have C : rz_Cx p s m (as.map (tV sz bs)).toArray meth c (headSpec (rz_ws mm) (rz_rm mm (d + 1))).room mm sz bs (mB mm).1 (mB mm).2 D ca none := by
      refine ⟨B.exec, B.bytes, hml, hown, fun w hw => hts w (List.mem_cons_of_mem _ hw), hK, hAO, fun q => hin.trans q, by omega, Nat.le_refl _, Nat.le_refl _, ?_, ?_, fun L xs q => by cases q⟩
      · show 1 ≤ d + 1
        omega
      · show 20 ≤ 40 * (d + 1)
        omega
    have hend := rz_W_end (p := p) (l := l) (e := e) (R := (headSpec (rz_ws mm) (rz_rm mm (d + 1))).room) (s := s) (m := m) (args := (as.map (tV sz bs)).toArray) (below := below) (meth := meth) (c := c) (M := mm) (sz := sz) (bs := bs) (mcl := (mB mm).1) (msl := (mB mm).2) (D := D) (ca := ca) (Qc := rz_Qc sz bs D ca mm (rz_len h) r) (r := r) B.exec B.bytes B.returns B.notSynchronized hmeM
      (fun H t ht hP2 hF2 hl2 => ⟨rfl, by rw [ht]; exact hP2, by omega, hF2⟩)
    have w := rz_run C (fun mm as h r a1 a2 a3 => rz_sound hT l sz bs D ca d mm as h r a1 a2 a3) (show d + 1 ≤ d + 1 from Nat.le_refl _) (show 40 * d + 40 ≤ 40 * (d + 1) by omega) hme hend (hrows mm hmm) (fun o ho => hzM mm o hmm ho) n _ hn
    have hnl : (lg_sl (as.map (tV sz bs))).length ≤ mL mm := by
      have := rz_lg sz bs as hok2
      omega
    have hl := lv_entry (as.map (tV sz bs)) (n := mL mm) hnl
    rw [lg_entry_eq]
    have w2 := w s.heap [] 0 0 _ ⟨rz_LR_entry hok2 (by omega) hl, by simp; omega, hP, va_S.rf, by show s.heap.size + 0 = sz + rz_len h; omega, by show 0 + (mB mm).1 = (mB mm).1; omega, by show 0 + (mB mm).2 ≤ (mB mm).2; omega⟩
    rw [show rpc mm (0, mB mm, as.map some ++ List.replicate (mL mm - as.length) none, ([] : List rz_V), h).1 = 0 from hp0 mm hmm] at w2
    exact w2
