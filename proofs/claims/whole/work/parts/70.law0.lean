/-! THE LAW'S LOOP: Rr k P σ τ is any relation between class and reference after k calls that the calls keep (the parts behind this one give it) -/
def lrI (Rr : Nat → Nat → CS → MS → Prop) : Prop := ∀ k P σ τ, Rr k P σ τ → cI P σ ∧ mI P τ
def lrT : Prop := ∀ τ : MS, (∀ j, r50 (τ 11 j)) → mEnds τ
def lrLink (Rr : Nat → Nat → CS → MS → Prop) : Prop := ∀ k P σ τ (x y z w : Int32), k < 512 → Rr k P σ τ → (mLink x y z w τ) 0 0 = nI (linkC x y z w σ) ∧ (linkC x y z w σ = 0 → cLinkR x y z w σ = mLinkR x y z w τ) ∧ Rr (k + 1) P (cLink x y z w σ) (mLink x y z w τ)
def lrFail (Rr : Nat → Nat → CS → MS → Prop) : Prop := ∀ k P σ τ (x y : Int32), k < 512 → Rr k P σ τ → (mFail P x y τ) 0 0 = nI (failC x y σ) ∧ (failC x y σ = 0 → cFailR x y σ = mFailR x y τ) ∧ Rr (k + 1) P (cFail P x y σ) (mFail P x y τ)
def lrRest (Rr : Nat → Nat → CS → MS → Prop) : Prop := ∀ k P σ τ (x y : Int32), k < 512 → Rr k P σ τ → (mRest x y τ) 0 0 = nI (failC x y σ) ∧ (failC x y σ = 0 → cRestR x y σ = mRestR x y τ) ∧ Rr (k + 1) P (cRest x y σ) (mRest x y τ)
def lrStart (Rr : Nat → Nat → CS → MS → Prop) : Prop := ∀ k P σ τ (x : Int32), k < 512 → Rr k P σ τ → (mStart x τ) 0 0 = nI (nodeC x) ∧ (nodeC x = 0 → cStartR x σ = mStartR x τ) ∧ Rr (k + 1) P (cStart x σ) (mStart x τ)
def lrCrash (Rr : Nat → Nat → CS → MS → Prop) : Prop := ∀ k P σ τ (x : Int32), k < 512 → Rr k P σ τ → (mCrash P x τ) 0 0 = nI (nodeC x) ∧ (nodeC x = 0 → cCrashR x σ = mCrashR x τ) ∧ Rr (k + 1) P (cCrash P x σ) (mCrash P x τ)
def lrTick (Rr : Nat → Nat → CS → MS → Prop) : Prop := ∀ k P σ τ (x : Int32), k < 512 → Rr k P σ τ → (mTick P x τ) 0 0 = nI (tickC x) ∧ (tickC x = 0 → cTickR P x σ = mTickR P x τ) ∧ Rr (k + 1) P (cTick P x σ) (mTick P x τ)
def lrSend (Rr : Nat → Nat → CS → MS → Prop) : Prop := ∀ k P σ τ (x y z : Int32), k < 512 → Rr k P σ τ → (mSend P x y z τ) 0 0 = nI (sendC x y z σ) ∧ (sendC x y z σ = 0 → nI P = mSendR P x y z τ) ∧ Rr (k + 1) (if sendC x y z σ = 0 then P + 1 else P) (if sendC x y z σ = 0 then cSend P x y z σ else σ) (mSend P x y z τ)
def lrNews (Rr : Nat → Nat → CS → MS → Prop) : Prop := ∀ k P σ τ (x y z : Int32), k < 512 → Rr k P σ τ → cNews x y z σ = mNews x y z τ ∧ Rr (k + 1) P σ (mT0 τ)
def lrFly (Rr : Nat → Nat → CS → MS → Prop) : Prop := ∀ k P σ τ, k < 512 → Rr k P σ τ → σ.1 0 4 = mFly τ ∧ Rr (k + 1) P σ (mT0 τ)
def lrDist (Rr : Nat → Nat → CS → MS → Prop) : Prop := ∀ k P σ τ (x y : Int32), k < 512 → Rr k P σ τ → cDist x y σ = mDist x y τ ∧ Rr (k + 1) P (cDistS x y σ) (mDistS x y τ)
def lrNext (Rr : Nat → Nat → CS → MS → Prop) : Prop := ∀ k P σ τ (x y : Int32), k < 512 → Rr k P σ τ → cNext x y σ = mNext x y τ ∧ Rr (k + 1) P (cDistS x y σ) (mNextS x y τ)
def lrPkt (Rr : Nat → Nat → CS → MS → Prop) : Prop := ∀ k P σ τ (x y : Int32), k < 512 → Rr k P σ τ → cPkt P x y σ = mPkt x y τ ∧ Rr (k + 1) P σ (mT0 τ)
def lrSet (Rr : Nat → Nat → CS → MS → Prop) : Prop := ∀ k P σ τ, k < 512 → Rr k P σ τ → b2i (cSettled σ) = mSetR τ ∧ Rr (k + 1) P σ (mSetS τ)
def lrSkip (Rr : Nat → Nat → CS → MS → Prop) : Prop := ∀ k P σ τ, k < 512 → Rr k P σ τ → Rr (k + 1) P σ τ
abbrev lA (s : State) : Nat → Prop := fun q => s.heap.size ≤ q
abbrev wl (cy : Nat → ClassId) (am : Nat → Nat) (ao : Nat) (a : Nat → Nat) (P : Nat) (σ : CS) (τ : MS) (f : Nat → Int64) : va_W := cW (mB cy am τ ++ [oE cy ao f]) cy a P σ
abbrev wmd (cy : Nat → ClassId) (am : Nat → Nat) (ao : Nat) (a : Nat → Nat) (P : Nat) (σ : CS) (τ : MS) (f : Nat → Int64) : va_W := (([oE cy ao f] ++ cK cy a P σ) ++ cB cy a σ) ++ mB cy am τ
theorem pm_lm {α : Type} (M O K B : List α) : (((M ++ O) ++ K) ++ B).Perm (((O ++ K) ++ B) ++ M) := by
  rw [List.append_assoc M O K, List.append_assoc M (O ++ K) B]
  exact List.perm_append_comm
theorem cDistS_keep {x y : Int32} {σ : CS} : keep σ (cDistS x y σ) := by
  unfold cDistS
  split
  · split
    · split
      · exact keep.r
      · exact cMeas_keep
    · exact keep.r
  · exact keep.r
/-- what stays over the whole law -/
def lFix (p : Program) (l : Launch) (m : MethodId) (c : Code) (s : State) (b L : Nat) (xs : Nat → Int32) (D : va_G) (cy : Nat → ClassId) : Prop :=
  CallFix p m c code 7 s #[Value.ref b] (Cond.initialized "FloodingNetLaw" :: gw) RL ∧ l.stackTraces = false ∧ va_K D vwCl (tyA cy) s ∧ kN nestA s ∧ (vx_Zq Bundle.tN "UNASSIGNED_STACK" Bundle.steD (lA s) s s.heap ∧ vx_Zq Bundle.tN "SUPPRESSED_SENTINEL" Bundle.listD (lA s) s s.heap) ∧ (∀ q ∈ strL, ∃ sa : Nat, vk_R RX2 q.1 q.2 sa s) ∧ va_Nc xIS xIA s ∧ va_X b L xs s s.heap ∧ b < s.heap.size ∧ L ≤ 2560
section LA
variable {p : Program} {l : Launch} {e : Env} {R : Room} {s : State} {m : MethodId} {args : Array Value} {below : List Frame} {meth : Method} {c : Code} {H : Heap} {locs : List Loc} {cells slots : Nat} {Q : State → Prop}
variable {cc : ByteArray} {pc nL : Nat} {ls : Array Slot} {rest : List Value} {D : va_G} {A : Nat → Prop} {Ts : List Cond} {own : String} {b L : Nat} {xs : Nat → Int32}
/-- an int of the script -/
theorem ll_arg (S : CallFix p m c cc nL s args Ts own) (hX : va_X b L xs s s.heap) (hbl : b < s.heap.size) (hS : va_S (lA s) s.heap H locs) {k j : Nat} {jj : Int} (hj : Int32.ofInt jj = nI j) (hjk : 5 * k + j < L) (hL : L ≤ 2560) (h0 : ls[0]? = some (.val (.ref b))) (h4 : ls[4]? = some (.val (.int (nI (5 * k)))))
    (d0 : decode cc pc = .ok (.aload_n 0, 1)) (d1 : decode cc (pc + 1) = .ok (.iload 4, 2)) (d2 : decode cc (pc + 3) = .ok (.iconst jj, 1)) (d3 : decode cc (pc + 4) = .ok (.iadd, 1)) (d4 : decode cc (pc + 5) = .ok (.iaload, 1))
    (kk : W p l e R s m args below meth c H locs cells slots Q (F0 m (pc + 6) ls (.int (xs (5 * k + j)) :: rest))) : W p l e R s m args below meth c H locs cells slots Q (F0 m pc ls rest) := by
  refine lv_aload_n S.1 S.2.1 d0 rfl h0 ?_
  refine lv_iload S.1 S.2.1 d1 h4 ?_
  refine lv_iconst (v := nI j) S.1 S.2.1 d2 hj ?_
  refine lv_iadd S.1 S.2.1 d3 ?_
  refine k_top (nI_add (5 * k) j) ?_
  refine va_sld (A := lA s) S.1 S.2.1 hX hbl (by show ¬ s.heap.size ≤ b; omega) hS (vp_in_nI hjk (by omega)) d4 ?_
  rw [nI_clamp (by omega)]
  exact kk
theorem kl_pre {cy : Nat → ClassId} {ws : va_W} {av : List Value} (F : lFix p l m c s b L xs D cy) (hP : va_P D vwCl ws H) (hD : va_D (lA s) ws) (hS : va_S (lA s) s.heap H locs) : ∀ U : State, U.heap = H → s.WarmedH U.vm → va_Pc av (kPl D (tyA cy) ws H.size) av.toArray U := by
  obtain ⟨S, hl, hK, hN, ⟨z1, z2⟩, hst, hno, -⟩ := F
  intro U hU hW
  have hF : ∀ q, va_A ws H.size q → lA s q := kfree hD hS (fun q h => h)
  have hk : ∀ a : Nat, a < s.heap.size → ¬ lA s a → H[a]? = s.heap[a]? := hS.2.1
  refine ⟨rfl, ⟨(kpre (av := av) nestA_ok hN hK hP hD U hU hW).2, ⟨?_, ?_⟩, fun z hz => (hst z hz).elim fun sa h => ⟨sa, vk_R.warm hW h⟩⟩, va_Nc.moved hW.alike hno⟩
  · rw [hU]; exact vx_Zq.moved hW.alike ((vx_Zq.kept z1 hk).narrow hF)
  · rw [hU]; exact vx_Zq.moved hW.alike ((vx_Zq.kept z2 hk).narrow hF)
/-- like numbers, by lcmp -/
theorem lg_self {x y : Int64} (h : x = y) : lg_cmp x y = 0 := by
  subst h
  unfold lg_cmp
  rw [if_neg (by intro h; exact absurd (Int64.lt_iff_toInt_lt.mp h) (by omega)), if_pos rfl]
end LA
def lNx (Rr : Nat → Nat → CS → MS → Prop) (p : Program) (l : Launch) (e : Env) (s : State) (m : MethodId) (below : List Frame) (meth : Method) (c : Code) (b : Nat) (Q : State → Prop) (D : va_G) (cy : Nat → ClassId) (am : Nat → Nat) (ao k : Nat) : Prop :=
  ∀ (P : Nat) (σ : CS) (τ : MS) (a : Nat → Nat) (f : Nat → Int64) (H : Heap) (locs : List Loc) (ls : Array Slot) (cells slots : Nat), Rr (k + 1) P σ τ → va_P D vwCl (wl cy am ao a P σ τ f) H → va_D (lA s) (wl cy am ao a P σ τ f) → va_S (lA s) s.heap H locs → lv_has ls 7 [(0, .ref b), (1, .ref (a 0)), (2, .ref (am 0)), (3, .ref ao), (4, .int (nI (5 * k)))] → cells ≤ 64 + 2 * (k + 1) → slots ≤ 12000 + 39 * (k + 1) →
    W p l e room_1 s m #[Value.ref b] below meth c H locs cells slots Q (F0 m 794 ls [])
