/-! a static method called by a subclass's name: the kit has no row for it -/
section SUP
variable {p : Program} {l : Launch} {e : Env} {R : Room} {s : State} {m : MethodId} {args : Array Value} {below : List Frame} {meth : Method} {c : Code} {T : State} {locs : List Loc} {cells slots : Nat}
/-- linking first, then the call as of a linked site -/
theorem su_link {Q : Unit → Pre} {E : CtlPost} {dl : Bool} {acts : List Action} {S S0 : State} {f : JFrame} {index ci nt cn : Nat} {mk : MethodId} {dk ck : Class} {cf : ClassFile} {nm ds : String} (hs : S.topJava?.isSome) (hp : e.platform.polymorphicOnlyByInvokevirtual = true)
    (hW : S0.WarmedH S.vm) (hE : S0.MethodEntryUp e S.vm f.method.cls index cn mk ci) (hdk : S0.vm.classes[f.method.cls]? = some dk) (hcf : dk.cf = some cf)
    (hcp : cf.constantPool[index]? = some (.methodref ci nt)) (hnt : cf.constantPool.nameAndType? nt = some (nm, ds)) (hck : S0.vm.classes[cn]? = some ck) (hno : (ck.methods.any fun y => y.name == nm && !y.isStatic && signaturePolymorphic ck y) = false) :
    wp (invokestatic.sem index) Q E e dl acts (S.setTop f) ↔ wp (invokestatic.sem index) Q E e dl acts ((S.setVm (S.vm.calledUp f.method.cls ci index cn mk)).setTop f) := by
  obtain ⟨g1, -, hW1, g2⟩ := hE.classFirst
  have via : cf.constantPool[index]? = some (if false then .interfaceMethodref ci nt else .methodref ci nt) := hcp
  obtain ⟨ka, hka, ea⟩ := hW.alike.2.2 _ _ hdk
  obtain ⟨kb, hkb, eb⟩ := hE.warmed.alike.2.2 _ _ hdk
  obtain ⟨kc, hkc, ec⟩ := hW1.alike.2.2 _ _ hck
  obtain ⟨kd, hkd, ed⟩ := hE.warmed.alike.2.2 _ _ hck
  have ma := memberRef_ask_via (e := e) hka (by rw [ea]; exact hcf) via hnt
  have mb := memberRef_ask_via (e := e) hkb (by rw [eb]; exact hcf) via hnt
  have nc : (kc.methods.any fun y => y.name == nm && !y.isStatic && signaturePolymorphic kc y) = false := by rw [ec]; exact hno
  have nd : (kd.methods.any fun y => y.name == nm && !y.isStatic && signaturePolymorphic kd y) = false := by rw [ed]; exact hno
  have t1 := State.method?_setTop (s := S) f hs
  have t2 := State.method?_setTop (s := S.setVm (S.vm.noted f.method.cls ci (.cls cn))) f hs
  have t3 := State.method?_setTop (s := S.setVm (S.vm.calledUp f.method.cls ci index cn mk)) f hs
  have rc : ∀ {Q' : ClassId → Pre} {d' : Bool} {a' : List Action}, wp (Jvm.resolveClassAt ci) Q' E e d' a' (S.setTop f) ↔ Q' cn d' a' ((S.setVm (S.vm.noted f.method.cls ci (.cls cn))).setTop f) := W.resolveClassAt_links (t := S.setTop f) t1 g1
  have rm : ∀ {Q' : MethodId → Pre} {d' : Bool} {a' : List Action}, wp (Jvm.resolveMethodAt index) Q' E e d' a' ((S.setVm (S.vm.noted f.method.cls ci (.cls cn))).setTop f) ↔ Q' mk d' a' ((S.setVm (S.vm.calledUp f.method.cls ci index cn mk)).setTop f) := W.resolveMethodAt_links (t := (S.setVm (S.vm.noted f.method.cls ci (.cls cn))).setTop f) t2 g2
  simp [invokestatic.sem, hp, Seam.memberRefOf, t1, t3, ma, mb, rc, rm, W.resolveClassAt_ready (s := (S.setVm (S.vm.calledUp f.method.cls ci index cn mk)).setTop f) t3 hE.classReady, W.resolveMethodAt_ready (s := (S.setVm (S.vm.calledUp f.method.cls ci index cn mk)).setTop f) t3 hE.ready, hkc, hkd, nc, nd, -Array.any_eq_true]
theorem su_go (X : Stand p l e R s m args below meth c T locs cells slots) (hexec : p.tables.exec = Jvm.exec) {own : String} {index : Nat} {x y : MethodName} (hown : s.vm.findClass own = some m.cls) (hlink : (Jvm.Cond.methodLink own index x).before args s = true) (hsame : (Jvm.Cond.sameMethod x.cls y.cls x.name x.desc).before args s = true) (hxn : x.name = y.name) (hxd : x.desc = y.desc) (hy : y.cls ≠ "java/lang/invoke/MethodHandle" ∧ y.cls ≠ "java/lang/invoke/VarHandle")
    {mk : MethodId} {mm : Method} {km : Class} (hn : s.methodNamed? y = some mk) (hm : s.vm.method? mk = some mm) (hst : mm.isStatic = true) (hkm : s.vm.classes[mk.cls]? = some km) (hini : km.init = .initialized)
    {g : JFrame} (hg : g.method = m) {As rest : List Value} (hlen : As.length = mm.sig.parameters.length) (hstack : g.stack = As.reverse ++ rest) (hdg : decode c.code g.pc = .ok (.invokestatic index, 3)) :
    ∃ vm', Stand p l e R s m args below meth c (T.setVm vm') locs cells slots ∧ ∀ target, (∀ acts, Steps p.tables e below (doInvoke e ((T.setVm vm').setTop { g with stack := rest }) acts mk As.toArray).1 target) → Steps p.tables e below (T.setTop g) target := by
  have pa : e.platform.magicAccessors = ({} : Platform).magicAccessors := by rw [X.admits.platform]
  have pb : e.platform.polymorphicOnlyByInvokevirtual = true := by rw [X.admits.platform]
  have hn' : s.methodNamed? ⟨y.cls, x.name, x.desc⟩ = some mk := by rw [hxn, hxd]; exact hn
  obtain ⟨cn, ck, r1, f1, f2, f3, f4, f5⟩ := Cond.sameMethod_found hsame
  cases hn'.symm.trans f5
  obtain ⟨ci, hl, hright⟩ := Cond.methodLink_specUp hown f1 f2 f3 f4 hlink e.platform pa (by rw [X.admits.platform])
  have hE : s.MethodEntryUp e T.vm m.cls index cn mk ci := State.methodEntryUp X.warmed hl hright
  obtain ⟨kx, hkx, nx⟩ := className_of_methodNamed hn
  cases hkm.symm.trans hkx
  obtain ⟨dk, cfile, nt, nm, ds, ck', _, _, hd, hcf, hcp, hnt, -, -, hck', -, hnopoly, -⟩ := hl.here
  cases f2.symm.trans hck'
  have al := hE.warmed.alike
  obtain ⟨d2, hd2, ed2⟩ := al.2.2 _ _ hd
  obtain ⟨k2, hk2, ek2⟩ := al.2.2 _ _ hkm
  obtain ⟨c2, hc2, ec2⟩ := al.2.2 _ _ f2
  have no1 : (ck.methods.any fun y => y.name == nm && !y.isStatic && signaturePolymorphic ck y) = false := by simp [hnopoly]
  have no2 : (c2.methods.any fun y => y.name == nm && !y.isStatic && signaturePolymorphic c2 y) = false := by rw [ec2]; exact no1
  have via : cfile.constantPool[index]? = some (if false then .interfaceMethodref ci nt else .methodref ci nt) := hcp
  refine ⟨T.vm.calledUp m.cls ci index cn mk, X.noted hE.warmed, fun target hrest => ?_⟩
  subst hg
  jvm_step X.here [hexec, hdg, su_link (e := e) (S := T) (S0 := s) (f := g) X.here.top pb X.warmed hE hd hcf hcp hnt f2 no1,
    invokestatic.wp_ready (e := e) (s := T.setVm (T.vm.calledUp g.method.cls ci index cn mk)) (k := k2) (meth := mm) (m := mk) (args := As) (rest := rest) (f := g)
      X.here.top ⟨ci, nm, ds, false, cn, c2, memberRef_ask_via (e := e) hd2 (by rw [ed2]; exact hcf) via hnt, hE.classReady, hc2, no2⟩ hE.ready hk2
      (by show (T.vm.calledUp g.method.cls ci index cn mk).method? mk = some mm; rw [al.method?]; exact hm)
      (by rw [ek2]; show signaturePolymorphic km mm = false; simp [signaturePolymorphic, nx, hy.1, hy.2]) hst (by rw [ek2]; exact hini) hlen hstack]
  exact fun acts => hrest _
end SUP
theorem rz_runSU {p : Program} {l : Launch} {e : Env} {R : Room} {s : State} {m : MethodId} {args : Array Value} {below : List Frame} {meth : Method} {c : Code} {H : Heap} {locs : List Loc} {cells slots : Nat} {x y : MethodName} {bytes cc : ByteArray} {maxL nL mc ms n index : Nat} {ret : Option FieldType} {ws ws' : List Jvm.Cond} {rm : Room} {Pc : Array Value → State → Prop} {Qc : Array Value → State → Outcome → State → Prop} {free : Addr → Prop} {own : String} {As rest : List Value} {g : JFrame}
    (S : CallFix p m c cc nL s args lwG own) (hM : Met l y ws rm Pc Qc mc ms free) (hws : ∀ w ∈ ws, w ∈ lwG) (hw : ws = Jvm.Cond.code y bytes maxL ret :: ws') (hrc : rm.cells = mc) (hrs : rm.slots = ms) (hl : (Jvm.Cond.methodLink own index x).before args s = true) (hsame : (Jvm.Cond.sameMethod x.cls y.cls x.name x.desc).before args s = true) (hxn : x.name = y.name) (hxd : x.desc = y.desc) (hstat : (Jvm.Cond.static y).before args s = true) (hini : (Jvm.Cond.initialized y.cls).before args s = true) (hcode : (Jvm.Cond.code y bytes maxL ret).before args s = true)
    (hd : y.cls ≠ "java/lang/invoke/MethodHandle" ∧ y.cls ≠ "java/lang/invoke/VarHandle" ∧ (parseMethodDescriptor y.desc).map (fun d => d.parameters.length) = some n) (hR : rm.frames + 1 ≤ R.frames ∧ 8 + (maxL + 11) + rm.locals ≤ R.locals) (hp : PreS s H Pc As)
    (hg : g.method = m) (hn : As.length = n) (hsize : g.locals.size = nL) (hstack : g.stack = As.reverse ++ rest) (hW : 2 * g.monitorRoom + (rest.map fun v => v.category).sum ≤ 8) (hdg : decode cc g.pc = .ok (.invokestatic index, 3)) (hf : cells + mc ≤ R.cells ∧ slots + ms ≤ R.slots) :
    va_Run p l e R s m args below meth c H locs cells slots mc ms g rest (Qc As.toArray) free := by
  obtain ⟨hx, hb, hml, ho, hts⟩ := S
  have hcw : Jvm.Cond.code y bytes maxL ret ∈ ws := by rw [hw]; exact List.mem_cons_self
  have hK : Back l R p e below s args y 3 8 (PreOf R mc ms Pc) (PostOf Qc mc ms free) := back_of (bytes := bytes) (maxL := maxL) (ret := ret) hM hp.1 hrc hrs hR.1 hR.2 (pay_in hts (lwG_good hws)) hcw (fun a' U hW => word_at hW (Or.inl (by first | rfl | simp [Cond.onTables, Cond.keeps, Cond.steady])) hini)
  obtain ⟨mk, hnamed⟩ := Cond.code_named hcode
  obtain ⟨methM, cM, hmethM, -, -, -, -, -, -, hsigM⟩ := Cond.code_spec hnamed hcode
  have hstatic : methM.isStatic = true := Cond.static_spec hnamed hmethM hstat
  obtain ⟨kP, hkP, -⟩ := className_of_methodNamed hnamed
  have hinitP : kP.init = .initialized := Cond.initialized_spec (findClass_of_methodNamed hnamed) hkP hini
  have hlenP : As.length = methM.sig.parameters.length := by
    have h2 := hd.2.2
    rw [hsigM] at h2
    exact hn.trans (Option.some.inj h2).symm
  intro T hT X
  obtain ⟨vm₁, X₁, hstep₁⟩ := su_go X hx ho hl hsame hxn hxd ⟨hd.1, hd.2.1⟩ hnamed hmethM hstatic hkP hinitP (g := g) hg hlenP hstack (by rw [hb]; exact hdg)
  obtain ⟨v, B, X', ⟨g', mk', t, L, e1, e2, hq, h1, hL, h2, h3⟩, hsteps⟩ := hK m meth c ⟨T.setVm vm₁, locs, cells, slots⟩ { g with stack := rest } (.invokestatic index) mk As.toArray X₁ hg (hsize.trans hml.symm) (by rw [hb]; exact hdg) hW (X₁.named hnamed) ⟨hf.1, hf.2, hp.2 (T.setVm vm₁) hT X₁.warmed⟩
  obtain ⟨U', l2, c2, s2⟩ := B
  dsimp only [Pt.U, Pt.locs, Pt.cells, Pt.slots] at X' e1 e2 h1 h2 h3 hsteps
  subst h1; subst h2; subst h3
  exact ⟨v, (T.setVm vm₁).calling g' mk' As.toArray, t, U', L, hT, X', hL, e1, e2, hq, fun target h => hstep₁ _ fun acts => by rw [doInvoke_state]; exact hsteps.trans h⟩
