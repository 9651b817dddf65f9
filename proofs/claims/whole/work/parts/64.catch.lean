/-! CATCHING: the note of a thrown object over this method's frame, whose table has one row or two; the classes by name -/
set_option maxHeartbeats 400000 in
theorem xc_row {e : Env} {s : State} {f : JFrame} {a : Addr} {x : ExceptionTableEntry} {t : List ExceptionTableEntry} {c : ClassId} {cell : Cell} (hx : covers x f.pc = true) (h0 : x.catchType ≠ 0)
    (hl : s.vm.ClassLinks e.platform f.method.cls x.catchType c) (hcell : s.heap[a]? = some cell) (hobj : ∀ k, cell.vm ≠ .statics k)
    (hk : ∃ k, s.vm.classes[cell.cls]? = some k) (hc : ∃ k, s.vm.classes[c]? = some k) (b : Bool) (hb : s.vm.assignable cell.cls c = b) (Q : Handler → Pre) (E : CtlPost) (d : Bool) (acts : List Action) :
    wp (findHandler.go f a (x :: t)) Q E e d acts s ↔ (if b = true then Q (.found x.handlerPc) d acts (s.setVm (s.vm.noted f.method.cls x.catchType (.cls c))) else wp (findHandler.go f a t) Q E e d acts (s.setVm (s.vm.noted f.method.cls x.catchType (.cls c)))) := by
  simp only [covers] at hx
  obtain ⟨ha, ht⟩ := (resolveClass_links e.toSetting hl).op (op := VmOp.resolveClass f.method.cls x.catchType) rfl
  have hal : s.vm.Alike (s.vm.noted f.method.cls x.catchType (.cls c)) := (Vm.Alike.refl s.vm).noted _ _ _
  obtain ⟨k1, hk1⟩ := hk
  obtain ⟨k2, hk2⟩ := hc
  obtain ⟨j1, hj1, -⟩ := hal.2.2 _ _ hk1
  obtain ⟨j2, hj2, -⟩ := hal.2.2 _ _ hk2
  have hb' : (s.vm.noted f.method.cls x.catchType (.cls c)).assignable cell.cls c = b := by rw [hal.assignable]; exact hb
  cases b <;> simp [findHandler.go, hx, h0, ha, ht, hcell, hobj, hj1, hj2, hb', VmOp.dirties, VmOp.acts]
theorem xc_step {e : Env} {s : State} {a : Addr} {f : JFrame} {r : List Frame} {pc : Nat} {vm' : Vm} (hfind : ∀ (Q : Handler → Pre) (E : CtlPost) (d : Bool) (acts : List Action), wp (findHandler f a) Q E e d acts s ↔ Q (.found pc) d acts (s.setVm vm')) :
    (stepThrowing e s a (.java f :: r)).1 = (s.setVm vm').setFrames (.java { f with pc := pc, stack := [.ref a] } :: r) := by
  simp only [stepThrowing, searchFrame, vmDo]
  generalize hr : Sem.go _ e false [] s = res
  obtain ⟨as, rfl, ha⟩ := Sem.eq_ok_of hr (a := Handler.found pc) (s' := s.setVm vm') (acts' := []) (by simp [hfind _ _ _ _])
  rfl
theorem xc_frames (u : State) (v : Vm) (F G : List Frame) : ((u.setFrames F).setVm v).setFrames G = (u.setVm v).setFrames G := by
  have h1 : (u.setFrames F).setVm v = (u.setVm v).setFrames F := rfl
  rw [h1, State.setFrames_setFrames]
section XC
variable {p : Program} {l : Launch} {e : Env} {R : Room} {s : State} {m : MethodId} {args : Array Value} {below : List Frame} {meth : Method} {c : Code} {H : Heap} {locs : List Loc} {cells slots : Nat} {Q : State → Prop} {T : State}
set_option maxHeartbeats 400000 in
theorem xc_go (X : Stand p l e R s m args below meth c T locs cells slots) {g : JFrame} (hg : g.method = m) {q : Addr} {vm' : Vm} {hp : Nat}
    (hfind : ∀ (Q : Handler → Pre) (E : CtlPost) (d : Bool) (acts : List Action), wp (findHandler g q) Q E e d acts ((T.setTop g).pushFrame (.throwing q)) ↔ Q (.found hp) d acts (((T.setTop g).pushFrame (.throwing q)).setVm vm'))
    {target : State} (hrest : Steps p.tables e below ((T.setVm vm').setTop { g with pc := hp, stack := [.ref q] }) target) : Steps p.tables e below ((T.setTop g).pushFrame (.throwing q)) target := by
  subst hg
  have h : At T g.method c below := X.here
  obtain ⟨hgo, hw⟩ := h.throwing q
  refine Steps.head hgo hw ?_
  rw [stepThread_throwing (frames_entered h.top _), xc_step (s := (T.setTop g).pushFrame (.throwing q)) hfind]
  obtain ⟨g₀, hg0⟩ := Option.isSome_iff_exists.mp h.top
  obtain ⟨r, hr⟩ := State.topJava?_eq_some.mp hg0
  have hr' : (T.setVm vm').frames = .java g₀ :: r := hr
  rw [State.setTop_of_frames _ hr'] at hrest
  rw [hr, List.tail_cons, State.pushFrame, xc_frames, State.setTop_of_frames _ hr, xc_frames]
  exact hrest
set_option maxHeartbeats 400000 in
theorem xc_catch1 {own name E : String} {ce : Cell} {q : Addr} {pc : Nat} {ls : Array Slot} {rest : List Value} (hown : s.vm.findClass own = some m.cls) (x : ExceptionTableEntry) (suf : List ExceptionTableEntry) (hsplit : c.exceptionTable.toList = x :: suf) (hx : covers x pc = true) (h0 : x.catchType ≠ 0)
    (hlink : (Cond.classLink own x.catchType name).before args s = true) (hcast : (Cond.castable E name).before args s = true) (hcell : H[q]? = some ce) (hv : ce.vm = .none) (hcl : s.vm.findClass E = some ce.cls)
    (kk : W p l e R s m args below meth c H locs cells slots Q (F0 m x.handlerPc ls [.ref q])) : vx_W p l e R s m args below meth c H locs cells slots Q (F0 m pc ls rest) q := by
  intro T hT X
  have hpl : e.platform.magicAccessors = ({} : Platform).magicAccessors := by rw [X.admits.platform]
  obtain ⟨c3, c4, hc3, hc4, hasg⟩ := Cond.castable_spec hcast
  cases Option.some.inj (hc3.symm.trans hcl)
  obtain ⟨c5, hc5, hcl5⟩ := Cond.classLink_spec hown hlink e.platform hpl
  cases Option.some.inj (hc4.symm.trans hc5)
  obtain ⟨dk, _, _, kt, hd, _, _, _, _, hkt, _, hopen⟩ := hcl5.here
  have hW1 : s.WarmedH (T.vm.noted m.cls x.catchType (.cls c4)) := X.warmed.noted hd hopen (State.rightAt_cls hcl5)
  have hal := X.warmed.alike
  obtain ⟨kt', hkt', -⟩ := hal.2.2 _ _ hkt
  obtain ⟨k9, h9, -⟩ := Vm.findClass_spec hcl
  obtain ⟨k9', h9', -⟩ := hal.2.2 _ _ h9
  have hobj : ∀ k, ce.vm ≠ .statics k := fun k hk => by rw [hv] at hk; cases hk
  have hrow : ∀ (Q : Handler → Pre) (E : CtlPost) (d : Bool) (acts : List Action), wp (findHandler (F0 m pc ls rest) q) Q E e d acts ((T.setTop (F0 m pc ls rest)).pushFrame (.throwing q)) ↔ Q (.found x.handlerPc) d acts (((T.setTop (F0 m pc ls rest)).pushFrame (.throwing q)).setVm (T.vm.noted m.cls x.catchType (.cls c4))) := by
    intro Q E d acts
    rw [W.findHandler_eq (meth := meth) (code := c) X.method' X.code, hsplit]
    rw [xc_row (s := (T.setTop (F0 m pc ls rest)).pushFrame (.throwing q)) (f := F0 m pc ls rest) (c := c4) (cell := ce) hx h0 (X.warmed.classLinks hcl5) (by show T.heap[q]? = some ce; rw [hT]; exact hcell) hobj ⟨k9', h9'⟩ ⟨kt', hkt'⟩ true (by show T.vm.assignable _ _ = true; rw [hal.assignable]; exact hasg), if_pos rfl]
    rfl
  obtain ⟨t, a1, b1⟩ := kk (T.setVm (T.vm.noted m.cls x.catchType (.cls c4))) hT (X.noted hW1)
  exact ⟨t, xc_go X rfl hrow a1, b1⟩
set_option maxHeartbeats 400000 in
theorem xc_catch2 {own n1 name E : String} {ce : Cell} {q : Addr} {pc : Nat} {ls : Array Slot} {rest : List Value} (hown : s.vm.findClass own = some m.cls) (x1 x : ExceptionTableEntry) (suf : List ExceptionTableEntry) (hsplit : c.exceptionTable.toList = x1 :: x :: suf) (hx1 : covers x1 pc = true) (h01 : x1.catchType ≠ 0) (hlink1 : (Cond.classLink own x1.catchType n1).before args s = true) (hno : va_Nc E n1 s) (hx : covers x pc = true) (h0 : x.catchType ≠ 0)
    (hlink : (Cond.classLink own x.catchType name).before args s = true) (hcast : (Cond.castable E name).before args s = true) (hcell : H[q]? = some ce) (hv : ce.vm = .none) (hcl : s.vm.findClass E = some ce.cls)
    (kk : W p l e R s m args below meth c H locs cells slots Q (F0 m x.handlerPc ls [.ref q])) : vx_W p l e R s m args below meth c H locs cells slots Q (F0 m pc ls rest) q := by
  intro T hT X
  have hpl : e.platform.magicAccessors = ({} : Platform).magicAccessors := by rw [X.admits.platform]
  obtain ⟨zc3, zc4, hc3, hc4, zhasg⟩ := Cond.castable_spec hcast
  cases Option.some.inj (hc3.symm.trans hcl)
  obtain ⟨zc5, hc5, hcl5⟩ := Cond.classLink_spec hown hlink e.platform hpl
  cases Option.some.inj (hc4.symm.trans hc5)
  obtain ⟨zc6, hc6, hcl6⟩ := Cond.classLink_spec hown hlink1 e.platform hpl
  obtain ⟨zn3, zn4, hn3, hn4, zhnas⟩ := hno
  cases Option.some.inj (hn3.symm.trans hcl)
  cases Option.some.inj (hn4.symm.trans hc6)
  obtain ⟨zdk1, _, _, zkt1, zhd1, _, _, _, _, zhkt1, _, zhopen1⟩ := hcl6.here
  obtain ⟨zdk, _, _, zkt, zhd, _, _, _, _, zhkt, _, zhopen⟩ := hcl5.here
  have zhW1 : s.WarmedH (T.vm.noted m.cls x1.catchType (.cls zc6)) := X.warmed.noted zhd1 zhopen1 (State.rightAt_cls hcl6)
  have zhW2 : s.WarmedH ((T.vm.noted m.cls x1.catchType (.cls zc6)).noted m.cls x.catchType (.cls zc4)) := zhW1.noted zhd zhopen (State.rightAt_cls hcl5)
  have zhal := X.warmed.alike
  have zhal1 := zhW1.alike
  obtain ⟨zkt1', zhkt1', -⟩ := zhal.2.2 _ _ zhkt1
  obtain ⟨zkt', zhkt', -⟩ := zhal1.2.2 _ _ zhkt
  obtain ⟨zk9, zh9, -⟩ := Vm.findClass_spec hcl
  obtain ⟨zk9', zh9', -⟩ := zhal.2.2 _ _ zh9
  obtain ⟨k8', zh8', -⟩ := zhal1.2.2 _ _ zh9
  have zhobj : ∀ k, ce.vm ≠ .statics k := fun k hk => by rw [hv] at hk; cases hk
  have zhc0 : T.heap[q]? = some ce := by rw [hT]; exact hcell
  have zhrow : ∀ (Q : Handler → Pre) (E : CtlPost) (d : Bool) (acts : List Action), wp (findHandler (F0 m pc ls rest) q) Q E e d acts ((T.setTop (F0 m pc ls rest)).pushFrame (.throwing q)) ↔ Q (.found x.handlerPc) d acts (((T.setTop (F0 m pc ls rest)).pushFrame (.throwing q)).setVm ((T.vm.noted m.cls x1.catchType (.cls zc6)).noted m.cls x.catchType (.cls zc4))) := by
    intro Q E d acts
    rw [W.findHandler_eq (meth := meth) (code := c) X.method' X.code, hsplit]
    rw [xc_row (s := (T.setTop (F0 m pc ls rest)).pushFrame (.throwing q)) (f := F0 m pc ls rest) (c := zc6) (cell := ce) hx1 h01 (X.warmed.classLinks hcl6) zhc0 zhobj ⟨zk9', zh9'⟩ ⟨zkt1', zhkt1'⟩ false (by show T.vm.assignable _ _ = false; rw [zhal.assignable]; exact zhnas), if_neg (by decide)]
    refine Iff.trans (xc_row (s := ((T.setTop (F0 m pc ls rest)).pushFrame (.throwing q)).setVm (T.vm.noted m.cls x1.catchType (.cls zc6))) (f := F0 m pc ls rest) (c := zc4) (cell := ce) hx h0 (zhW1.classLinks hcl5) zhc0 zhobj ⟨k8', zh8'⟩ ⟨zkt', zhkt'⟩ true (by show (T.vm.noted m.cls x1.catchType (.cls zc6)).assignable _ _ = true; rw [zhal1.assignable]; exact zhasg) Q E d acts) ?_
    rw [if_pos rfl]
    rfl
  obtain ⟨t, a1, b1⟩ := kk (T.setVm ((T.vm.noted m.cls x1.catchType (.cls zc6)).noted m.cls x.catchType (.cls zc4))) hT (X.noted zhW2)
  exact ⟨t, xc_go X rfl zhrow a1, b1⟩
end XC
