/-! THE LAW'S HELPERS: a static method with a table over one call that may throw; out: an array of one long -/
abbrev oE (cy : Nat → ClassId) (ao : Nat) (f : Nat → Int64) : Nat × va_E := (ao, .inl (cy 1, 1, .inr (.inl f)))
def oF (code : Nat) (f : Nat → Int64) (r : Int64) : Nat → Int64 := if code = 0 then vp_updL f 0 r else f
def b2l (b : Bool) : Int64 := if b then 1 else 0
theorem oget {Y : va_W} {cy : Nat → ClassId} {ao : Nat} {f : Nat → Int64} {a : Nat → Nat} {P : Nat} {σ : CS} : (cW (Y ++ [oE cy ao f]) cy a P σ)[Y.length]? = some (oE cy ao f) := by
  unfold cW
  rw [List.getElem?_append_left (by rw [List.length_append, List.length_append]; simp; omega), List.getElem?_append_left (by simp), List.getElem?_append_right (Nat.le_refl _), Nat.sub_self]; rfl
theorem oset {Y : va_W} {cy : Nat → ClassId} {ao : Nat} {f g : Nat → Int64} {a : Nat → Nat} {P : Nat} {σ : CS} : (cW (Y ++ [oE cy ao f]) cy a P σ).set Y.length (oE cy ao g) = cW (Y ++ [oE cy ao g]) cy a P σ := by
  unfold cW
  rw [List.set_append_left _ _ (by rw [List.length_append, List.length_append]; simp; omega), List.set_append_left _ _ (by simp), List.set_append_right _ _ (Nat.le_refl _), Nat.sub_self]; rfl
abbrev xIA : String := "java/lang/IllegalArgumentException"
abbrev xIS : String := "java/lang/IllegalStateException"
def kPl (D : va_G) (tys : List (ClassId × FieldType)) (w0 : va_W) (sz : Nat) (U : State) : Prop := kPx D tys w0 sz U ∧ va_Nc xIS xIA U
theorem klblind {D : va_G} {tys : List (ClassId × FieldType)} {av : List Value} {w0 : va_W} {sz : Nat} : FrameBlind (va_Pc av (kPl D tys w0 sz)) := fun a U g mk q => by
  obtain ⟨q0, q1, q2⟩ := q
  exact ⟨q0, (kxblind a U g mk ⟨q0, q1⟩).2, va_Nc.moved (u := U) (U := U.calling g mk a) (Vm.Alike.refl U.vm) q2⟩
theorem kx_to {D : va_G} {tys : List (ClassId × FieldType)} {w0 : va_W} {s U : State} (h : kPx D tys w0 s.heap.size s) (hh : U.heap = s.heap) (hW : s.WarmedH U.vm) : kPx D tys w0 s.heap.size U := by
  obtain ⟨⟨q1, qP, qK, qN, qD⟩, ⟨q2, q3⟩, q4⟩ := h
  refine ⟨⟨by rw [hh], by rw [hh]; exact qP, va_K.moved hW.alike qK, kN.warm nestA_ok hW qN, qD⟩, ⟨?_, ?_⟩, fun z hz => (q4 z hz).elim fun sa h => ⟨sa, vk_R.warm hW h⟩⟩
  · rw [hh]; exact vx_Zq.moved hW.alike q2
  · rw [hh]; exact vx_Zq.moved hW.alike q3
theorem lh_start {l : Launch} {y : MethodName} {cc : ByteArray} {n : Nat} {hh : List (Nat × Nat × Nat × Nat)} {rm : Room} {D : va_G} {tys : List (ClassId × FieldType)} {av : List Value} {w0 : va_W} {sz mc ms : Nat} {Qc : Array Value → State → Outcome → State → Prop} (hy : plainName y.cls = true) (ho : y.cls = RL) (hlen : (lg_sl av).length ≤ n)
    (body : ∀ (p : Program) (e : Env) (s : State) (m : MethodId) (args : Array Value) (below : List Frame) (meth : Method) (c : Code), CallFix p m c cc n s args (Cond.codeWith y cc n (some .int) hh :: gw) RL → meth.sig.returnType = some .int → meth.locks = false → va_K D vwCl tys s → kN nestA s → va_P D vwCl w0 s.heap → va_D (va_A w0 sz) w0 → s.heap.size = sz → (∀ q, s.heap.size ≤ q → va_A w0 sz q) → kPx D tys w0 sz s → va_Nc xIS xIA s → c.exceptionTable.toList = tableOf hh → ∀ ls : Array Slot, lv_has ls n (lv_args 0 av) →
      W p l e rm s m args below meth c s.heap [] 0 0 (MQ below Qc args s mc ms (va_A w0 sz)) (F0 m 0 ls [])) :
    Met l y (Cond.codeWith y cc n (some .int) hh :: gw) rm (va_Pc av (kPl D tys w0 sz)) Qc mc ms (va_A w0 sz) := by
  refine va_MetW (cc := cc) (maxL := n) (ret := some .int) hy rfl ?_
  intro p e s m args below meth c s₁ B hml hv
  obtain ⟨rfl, hX, hno⟩ := hv
  have hX0 := hX
  obtain ⟨⟨hsz, hP, hK, hN, hD⟩, hU, hstr⟩ := hX
  have hts := atoms_spec (ws := Cond.codeWith y cc n (some .int) hh :: gw) B.pre
  have hown : s.vm.findClass RL = some m.cls := by rw [← ho]; exact findClass_of_methodNamed B.named
  have hl := lv_entry av (n := n) hlen
  rw [lg_entry_eq]
  exact body p e s m _ below meth c ⟨B.exec, B.bytes, hml, hown, hts⟩ B.returns B.notSynchronized hK hN hP (hD.self (sz := sz)) hsz (fun q h => Or.inr (by rw [← hsz]; exact h)) hX0 hno (vx_table (x := y) B (hts _ List.mem_cons_self)) _ hl
theorem hcA {args : Array Value} {s : State} (hN : kN nestA s) : (Cond.castable xIA xIA).before args s = true := va_Nw.use rfl (hN _ (List.mem_append_right _ (List.mem_of_getElem? (i := 0) rfl)))
theorem hcS {args : Array Value} {s : State} (hN : kN nestA s) : (Cond.castable xIS xIS).before args s = true := va_Nw.use rfl (hN _ (List.mem_append_right _ (List.mem_of_getElem? (i := 7) rfl)))
theorem kxpre {D : va_G} {tys : List (ClassId × FieldType)} {av : List Value} {w0 : va_W} {s : State} (h : kPx D tys w0 s.heap.size s) : ∀ U : State, U.heap = s.heap → s.WarmedH U.vm → va_Pc av (kPx D tys w0 s.heap.size) av.toArray U := fun U hU hW => ⟨rfl, kx_to h hU hW⟩
