/-! PURE FUNCTIONS OF THE REFERENCE (packets), and what holds of its state -/
def r50 (x : Int32) : Prop := 0 ≤ x.toInt ∧ x.toInt ≤ 50
/-- packets: their targets, how many nodes their traces have, where those under way go -/
def mWF (P : Nat) (τ : MS) : Prop := ∀ p : Nat, p < P → ∃ g n : Nat, g < 8 ∧ n < 32 ∧ τ 17 p = nI g ∧ τ 23 p = nI n ∧ (τ 19 p = 0 → ∃ v f : Nat, v < 8 ∧ τ 21 p = nI v ∧ τ 18 p = nI f ∧ n + f ≤ 30)
def mUn (P : Nat) (τ : MS) : Prop := ∀ p : Nat, P ≤ p → τ 19 p = 0 ∧ τ 23 p = nI 0
def mI (P : Nat) (τ : MS) : Prop := P ≤ 20 ∧ τ 0 16 = nI P ∧ (mWF P τ ∧ mUn P τ) ∧ (∀ j, r50 (τ 6 j)) ∧ (∀ j, r50 (τ 11 j)) ∧ ∀ j, r50 (τ 15 j)
theorem mI_S {P k j : Nat} {v : Int32} {τ : MS} (h : mI P τ) (hk : k = 2 ∨ k = 3 ∨ k = 5 ∨ k = 7 ∨ k = 8 ∨ k = 9 ∨ k = 10 ∨ k = 12 ∨ k = 13 ∨ k = 14 ∨ k = 20 ∨ k = 22 ∨ k = 24 ∨ k = 25 ∨ k = 26) : mI P (mS k j v τ) := by
  rcases hk with rfl | rfl | rfl | rfl | rfl | rfl | rfl | rfl | rfl | rfl | rfl | rfl | rfl | rfl | rfl <;> exact h
theorem mI_0 {P j : Nat} {v : Int32} {τ : MS} (h : mI P τ) (hj : j ≠ 16) : mI P (mS 0 j v τ) := by
  obtain ⟨h1, h2, h3⟩ := h
  refine ⟨h1, ?_, h3⟩
  show upd (τ 0) j v 16 = nI P
  rw [pk_un (Ne.symm hj)]; exact h2
theorem r50_u {f : Nat → Int32} {j : Nat} {v : Int32} (h : ∀ i, r50 (f i)) (hv : r50 v) : ∀ i, r50 (upd f j v i) := by
  intro i
  by_cases hi : i = j
  · subst hi; rw [pk_us]; exact hv
  · rw [pk_un hi]; exact h i
theorem mI_6 {P j : Nat} {v : Int32} {τ : MS} (h : mI P τ) (hv : r50 v) : mI P (mS 6 j v τ) := ⟨h.1, h.2.1, h.2.2.1, r50_u h.2.2.2.1 hv, h.2.2.2.2.1, h.2.2.2.2.2⟩
theorem mI_11 {P j : Nat} {v : Int32} {τ : MS} (h : mI P τ) (hv : r50 v) : mI P (mS 11 j v τ) := ⟨h.1, h.2.1, h.2.2.1, h.2.2.2.1, r50_u h.2.2.2.2.1 hv, h.2.2.2.2.2⟩
theorem mI_15 {P j : Nat} {v : Int32} {τ : MS} (h : mI P τ) (hv : r50 v) : mI P (mS 15 j v τ) := ⟨h.1, h.2.1, h.2.2.1, h.2.2.2.1, h.2.2.2.2.1, r50_u h.2.2.2.2.2 hv⟩
theorem mI_19 {P j : Nat} {v : Int32} {τ : MS} (h : mI P τ) (hj : j < P) (hv : ¬ v = 0 ∨ v = τ 19 j) : mI P (mS 19 j v τ) := by
  obtain ⟨h1, h2, ⟨h3, h5⟩, h4⟩ := h
  refine ⟨h1, h2, ⟨?_, ?_⟩, h4⟩
  · intro p hp
    obtain ⟨g, n, hg, hn, e1, e2, e3⟩ := h3 p hp
    refine ⟨g, n, hg, hn, e1, e2, ?_⟩
    show upd (τ 19) j v p = 0 → _
    intro hz
    by_cases hpj : p = j
    · subst hpj
      rw [pk_us] at hz
      rcases hv with hv | hv
      · exact absurd hz hv
      · exact e3 (hv.symm.trans hz)
    · rw [pk_un hpj] at hz
      exact e3 hz
  · intro p hp
    refine ⟨?_, (h5 p hp).2⟩
    show upd (τ 19) j v p = 0
    rw [pk_un (by omega)]
    exact (h5 p hp).1
theorem itr_invN {α : Type} {f : Nat → α → α} {P : α → Prop} {N : Nat} (h : ∀ i s, i < N → P s → P (f i s)) : ∀ (n i : Nat) (s : α), i + n ≤ N → P s → P (itr f n i s) := by
  intro n
  induction n with
  | zero => intro i s _ hs; exact hs
  | succ n ih => intro i s hi hs; exact ih (i + 1) (f i s) (by omega) (h i s (by omega) hs)
/-- one packet's row changes -/
theorem mI_upd {P p : Nat} {τ σ : MS} (h : mI P τ) (hp : p < P) (h0 : σ 0 16 = τ 0 16) (h6 : σ 6 = τ 6) (h11 : σ 11 = τ 11) (h15 : σ 15 = τ 15)
    (ho : ∀ q : Nat, q ≠ p → σ 17 q = τ 17 q ∧ σ 18 q = τ 18 q ∧ σ 19 q = τ 19 q ∧ σ 21 q = τ 21 q ∧ σ 23 q = τ 23 q)
    (hr : ∃ g n : Nat, g < 8 ∧ n < 32 ∧ σ 17 p = nI g ∧ σ 23 p = nI n ∧ (σ 19 p = 0 → ∃ v f : Nat, v < 8 ∧ σ 21 p = nI v ∧ σ 18 p = nI f ∧ n + f ≤ 30)) : mI P σ := by
  obtain ⟨h1, h2, ⟨h3, h5⟩, h4, h7, h8⟩ := h
  refine ⟨h1, h0.trans h2, ⟨?_, ?_⟩, by rw [h6]; exact h4, by rw [h11]; exact h7, by rw [h15]; exact h8⟩
  · intro q hq
    by_cases e : q = p
    · subst e; exact hr
    · obtain ⟨o1, o2, o3, o4, o5⟩ := ho q e
      rw [o1, o2, o3, o4, o5]
      exact h3 q hq
  · intro q hq
    obtain ⟨o1, o2, o3, o4, o5⟩ := ho q (by omega)
    rw [o3, o5]
    exact h5 q hq
theorem mGoes_I {P : Nat} {p q : Bool} {τ : MS} (h : mI P τ) : mI P (mGoes p q τ) := mI_0 h (by decide)
theorem r50_0 : r50 (nI 0) := by constructor <;> decide
theorem mP3_I {P u v o : Nat} {τ : MS} (h : mI P τ) : mI P (mP3 u v o τ) := h
theorem mPass_I {P u v o : Nat} {τ : MS} (h : mI P τ) : mI P (mPass u v o τ) := by
  unfold mPass
  split
  · exact h
  · split
    · split
      · exact itr_inv (P := mI P) (fun i s hs => mI_15 hs (hs.2.2.2.2.1 _)) 8 0 _ (mP3_I h)
      · exact h
    · exact h
theorem mTell_I {P u : Nat} {τ : MS} (h : mI P τ) : mI P (mTell u τ) := by
  unfold mTell
  refine itr_inv (P := mI P) (fun i s hs => mPass_I hs) 8 0 _ ?_
  refine itr_inv (P := mI P) (fun i s hs => ?_) 8 0 _ (show mI P (mT3 u τ) from h)
  unfold fT1
  split
  · exact mI_11 hs (hs.2.2.2.1 _)
  · exact mI_11 hs r50_0
theorem mSendAll_I {P u v : Nat} {τ : MS} (h : mI P τ) : mI P (mSendAll u v τ) := itr_inv (P := mI P) (fun i s hs => mPass_I hs) 8 0 _ h
theorem mRecv_I {P u v o : Nat} {τ : MS} (h : mI P τ) : mI P (mRecv u v o τ) := by
  unfold mRecv
  split
  · split
    · exact h
    · exact mTell_I (show mI P (mS 3 v _ (mR1 u v o τ)) from h)
  · split
    · split
      · exact h
      · exact mPass_I (show mI P (mR1 u v o τ) from h)
    · refine itr_inv (P := mI P) (fun i s hs => ?_) 8 0 _ ?_
      · unfold fRs; split
        · exact hs
        · exact mPass_I hs
      · exact itr_inv (P := mI P) (fun i s hs => mI_11 hs (hs.2.2.2.2.2 _)) 8 0 _ (show mI P (mR3 u v o τ) from h)
theorem mForget_I {P u : Nat} {τ : MS} (h : mI P τ) : mI P (mForget u τ) := by
  unfold mForget
  exact mI_S (itr_inv (P := mI P) (fun i s hs => hs) 8 0 _ h) (by simp)
theorem mGrow_I {P : Nat} {τ : MS} (h : mI P τ) : mI P (mGrow τ) := by
  unfold mGrow
  refine itr_inv (P := mI P) (fun i s hs => ?_) 512 0 _ (itr_inv (P := mI P) (fun i s hs => ?_) 64 0 _ h)
  · unfold fG2; split <;> exact hs
  · unfold fG1; split <;> exact hs
theorem mUp_I {P u v : Nat} {τ : MS} (h : mI P τ) : mI P (mUp u v τ) := by
  have h1 : mI P (mU1 u v τ) := h
  unfold mUp mU2
  split
  · exact h1
  · split
    · exact h1
    · split <;> exact mSendAll_I (mSendAll_I (mTell_I (mTell_I h1)))
theorem fD3_I {P v i j : Nat} {s : MS × Int32} (h : mI P s.1) : mI P (fD3 v i j s).1 := by
  unfold fD3
  split
  · exact h
  · split
    · exact h
    · split
      · exact h
      · split <;> exact h
theorem mRnd_I {P v : Nat} {τ : MS} (h : mI P τ) : mI P (mRnd v τ).1 :=
  itr_inv (P := fun s : MS × Int32 => mI P s.1) (fun i s hs => itr_inv (P := fun s : MS × Int32 => mI P s.1) (fun j s hs => fD3_I hs) 8 0 s hs) 8 0 (τ, nI 0) h
theorem mWhile_I {P v : Nat} : ∀ (n : Nat) {τ : MS}, mI P τ → mI P (mWhile v n τ) := by
  intro n
  induction n with
  | zero => intro τ h; exact h
  | succ n ih =>
    intro τ h
    show mI P (if (mRnd v τ).2 = 0 then (mRnd v τ).1 else mWhile v n (mRnd v τ).1)
    split
    · exact mRnd_I h
    · exact ih (mRnd_I h)
theorem mD0_I {P g : Nat} {τ : MS} (h : mI P τ) : mI P (mD0 g τ) := itr_inv (P := mI P) (fun i s hs => by unfold fD0; split <;> exact hs) 8 0 _ h
theorem mMeas_I {P v g : Nat} {τ : MS} (h : mI P τ) : mI P (mMeas v g τ) := mWhile_I mFuel (mD0_I h)
/-! cutting a link -/
def onB (τ : MS) (u v i : Nat) : Bool := if τ 20 i = nI u then (if τ 21 i = nI v then true else if τ 20 i = nI v then (if τ 21 i = nI u then true else false) else false) else if τ 20 i = nI v then (if τ 21 i = nI u then true else false) else false
def fCut1 (u v i : Nat) (τ : MS) : MS := mS 12 (64 * v + 8 * u + i) (nI 0) (mS 12 (64 * u + 8 * v + i) (nI 0) τ)
def fCut2 (u v i : Nat) (τ : MS) : MS := if τ 19 i = 0 then (if onB τ u v i = true then mS 19 i (nI 3) τ else mS 19 i (τ 19 i) τ) else mS 19 i (τ 19 i) τ
def mCut (P u v : Nat) (τ : MS) : MS := itr (fCut2 u v) P 0 (itr (fCut1 u v) 8 0 τ)
theorem fCut1_I {P u v : Nat} (i : Nat) {τ : MS} (h : mI P τ) : mI P (fCut1 u v i τ) := h
theorem fCut2_I {P u v : Nat} (i : Nat) (hi : i < P) {τ : MS} (h : mI P τ) : mI P (fCut2 u v i τ) := by
  unfold fCut2
  split
  · split
    · exact mI_19 h hi (Or.inl (by decide))
    · exact mI_19 h hi (Or.inr rfl)
  · exact mI_19 h hi (Or.inr rfl)
theorem mCut_I {P u v : Nat} {τ : MS} (h : mI P τ) : mI P (mCut P u v τ) := itr_invN (P := mI P) (N := P) (fun i s hi hs => fCut2_I i hi hs) P 0 _ (by omega) (itr_inv (P := mI P) (fun i s hs => fCut1_I i hs) 8 0 _ h)
def mFa1 (u v : Nat) (τ : MS) : MS := mS 8 (8 * v + u) (nI 0) (mS 8 (8 * u + v) (nI 0) (mGoes true true τ))
def mFa2 (P u v : Nat) (τ : MS) : MS := if (mFa1 u v τ) 2 u = 0 then mFa1 u v τ else if (mFa1 u v τ) 2 v = 0 then mFa1 u v τ else if v ≤ u then mTell u (mTell v (mCut P u v (mFa1 u v τ))) else mTell v (mTell u (mCut P u v (mFa1 u v τ)))
def mFail (P : Nat) (x y : Int32) (τ : MS) : MS := if mHas τ x y = true then (if (mGoes true true τ) 8 (8 * x.toNatClampNeg + y.toNatClampNeg) = 0 then mGoes true true τ else mFa2 P x.toNatClampNeg y.toNatClampNeg τ) else mGoes false true τ
def mFailR (x y : Int32) (τ : MS) : Bool := if mHas τ x y = true then (if (mGoes true true τ) 8 (8 * x.toNatClampNeg + y.toNatClampNeg) = 0 then false else true) else false
def fCr1 (τ : MS) (u i : Nat) (x : Int32) : Int32 := if mCarr τ u i = true then x ||| (nI 1 <<< (nI i &&& 31)) else x
def fCr2 (P u i : Nat) (τ : MS) : MS := mCut P u i τ
def fCr3 (x : Int32) (i : Nat) (τ : MS) : MS := if (x >>> (nI i &&& 31)) &&& nI 1 = nI 1 then mTell i τ else τ
theorem fCr2_I {P u : Nat} (i : Nat) {τ : MS} (h : mI P τ) : mI P (fCr2 P u i τ) := mCut_I h
theorem fCr3_I {P : Nat} {x : Int32} (i : Nat) {τ : MS} (h : mI P τ) : mI P (fCr3 x i τ) := by
  unfold fCr3; split
  · exact mTell_I h
  · exact h
def mCrB (P u : Nat) (τ : MS) : MS := itr (fCr3 (itr (fCr1 τ u) 8 0 (nI 0))) 8 0 (itr (fCr2 P u) 8 0 (mForget u (mS 2 u (nI 0) τ)))
def mCrash (P : Nat) (x : Int32) (τ : MS) : MS := if isN x = true then (if (mGoes true true τ) 2 x.toNatClampNeg = 0 then mGoes true true τ else mCrB P x.toNatClampNeg (mGoes true true τ)) else mGoes false true τ
def mCrashR (x : Int32) (τ : MS) : Bool := if isN x = true then (if (mGoes true true τ) 2 x.toNatClampNeg = 0 then false else true) else false
/-! a packet is at a node -/
def mA1 (p v : Nat) (τ : MS) : MS := mS 24 (40 * p + (τ 23 p).toNatClampNeg) (nI v) τ
def mA2 (p v : Nat) (τ : MS) : MS := mS 23 p ((mA1 p v τ) 23 p + nI 1) (mA1 p v τ)
def mA3 (p v : Nat) (h : Int32) (τ : MS) : MS := mS 21 p h (mS 20 p (nI v) (mS 18 p (τ 18 p - nI 1) τ))
def mAH (p v : Nat) (h : Int32) (τ : MS) : MS := if h = -1 then mS 19 p (nI 3) τ else if mCarr τ v h.toNatClampNeg = true then mS 22 p ((mA3 p v h τ) 0 1 + (mA3 p v h τ) 7 (8 * v + h.toNatClampNeg)) (mA3 p v h τ) else mS 19 p (nI 3) τ
def mIsAt (p v : Nat) (τ : MS) : MS := if v = (τ 17 p).toNatClampNeg then mS 19 p (nI 1) (mA2 p v τ) else if (mA2 p v τ) 18 p = 0 then mS 19 p (nI 2) (mA2 p v τ) else mAH p v (mHop v (τ 17 p).toNatClampNeg (mA2 p v τ)) (mMeas v (τ 17 p).toNatClampNeg (mA2 p v τ))
theorem dwn_inv {α : Type} {f : Nat → α → α} {P : α → Prop} : ∀ (n : Nat) (s : α), (∀ i s, i < n → P s → P (f i s)) → P s → P (dwn f n s) := by
  intro n
  induction n with
  | zero => intro s _ hs; exact hs
  | succ n ih => intro s h hs; exact ih (f n s) (fun i s hi => h i s (by omega)) (h n s (by omega) hs)
theorem mHop_of {v g : Nat} {τ : MS} (h : ¬ mHop v g τ = -1) : ∃ j : Nat, j < 8 ∧ mHop v g τ = nI j := by
  have key : mHop v g τ = -1 ∨ ∃ j : Nat, j < 8 ∧ mHop v g τ = nI j := by
    unfold mHop
    split
    · exact Or.inl rfl
    · refine dwn_inv (P := fun x => x = -1 ∨ ∃ j : Nat, j < 8 ∧ x = nI j) 8 (-1) (fun i s hi hs => ?_) (Or.inl rfl)
      unfold fNx
      split
      · exact hs
      · split
        · exact hs
        · split
          · exact Or.inr ⟨i, hi, rfl⟩
          · exact hs
  exact key.resolve_left h
theorem fD3_k {k v i j : Nat} {s : MS × Int32} (hk : k ≠ 25) : (fD3 v i j s).1 k = s.1 k := by
  have e : ∀ (x : Nat) (y : Int32), (mS 25 x y s.1) k = s.1 k := fun x y => va_up_ne _ _ hk
  unfold fD3
  split
  · rfl
  · split
    · rfl
    · split
      · exact e _ _
      · split
        · rfl
        · exact e _ _
theorem fD2_k {k v i : Nat} {s : MS × Int32} (hk : k ≠ 25) : (fD2 v i s).1 k = s.1 k := by
  unfold fD2
  exact itr_inv (f := fD3 v i) (P := fun q : MS × Int32 => q.1 k = s.1 k) (fun j q hq => (fD3_k hk).trans hq) 8 0 s rfl
theorem mRnd_k {k v : Nat} {τ : MS} (hk : k ≠ 25) : (mRnd v τ).1 k = τ k := by
  unfold mRnd
  exact itr_inv (f := fD2 v) (P := fun q : MS × Int32 => q.1 k = τ k) (fun j q hq => (fD2_k hk).trans hq) 8 0 (τ, nI 0) rfl
theorem mWhile_k {k v : Nat} (hk : k ≠ 25) : ∀ (n : Nat) (τ : MS), (mWhile v n τ) k = τ k := by
  intro n
  induction n with
  | zero => intro τ; rfl
  | succ n ih =>
    intro τ
    show (if (mRnd v τ).2 = 0 then (mRnd v τ).1 else mWhile v n (mRnd v τ).1) k = τ k
    split
    · exact mRnd_k hk
    · rw [ih]; exact mRnd_k hk
theorem mMeas_k {k v g : Nat} {τ : MS} (hk : k ≠ 25) : (mMeas v g τ) k = τ k := by
  unfold mMeas
  rw [mWhile_k hk]
  exact itr_inv (P := fun s : MS => s k = τ k) (fun i s hs => by unfold fD0; split <;> exact (va_up_ne _ _ hk).trans hs) 8 0 τ rfl
theorem mS_at {k j : Nat} {v : Int32} {τ : MS} : (mS k j v τ) k = upd (τ k) j v := va_up_self _ _ _
theorem mS_ne {k i j : Nat} {v : Int32} {τ : MS} (h : i ≠ k) : (mS k j v τ) i = τ i := va_up_ne _ _ h
/-- the row of packet p while it is looked at: the target, one node more in its trace, its life -/
theorem mIsAt_I {P p v : Nat} {τ : MS} (h : mI P τ) (hp : p < P) (hz : τ 19 p = 0) (hlt : ∃ n f : Nat, τ 23 p = nI n ∧ τ 18 p = nI f ∧ n + f ≤ 30) : mI P (mIsAt p v τ) := by
  obtain ⟨n, f, e23, e18, hnf⟩ := hlt
  obtain ⟨g, n', hg, hn', e17, -, -⟩ := h.2.2.1.1 p hp
  have hn1 : τ 23 p + nI 1 = nI (n + 1) := by rw [e23]; exact nI_add n 1
  have fin : ∀ (B : MS) (x : Int32), (∀ k, k ≠ 25 → k ≠ 24 → k ≠ 23 → B k = τ k) → B 23 = upd (τ 23) p (τ 23 p + nI 1) → ¬ x = 0 → mI P (mS 19 p x B) := by
    intro B x hB hB23 hx
    refine mI_upd h hp (by rw [mS_ne (by decide), hB 0 (by decide) (by decide) (by decide)]) (by rw [mS_ne (by decide), hB 6 (by decide) (by decide) (by decide)]) (by rw [mS_ne (by decide), hB 11 (by decide) (by decide) (by decide)]) (by rw [mS_ne (by decide), hB 15 (by decide) (by decide) (by decide)]) ?_ ?_
    · intro q hq
      refine ⟨by rw [mS_ne (by decide), hB 17 (by decide) (by decide) (by decide)], by rw [mS_ne (by decide), hB 18 (by decide) (by decide) (by decide)], by rw [mS_at, pk_un hq, hB 19 (by decide) (by decide) (by decide)], by rw [mS_ne (by decide), hB 21 (by decide) (by decide) (by decide)], by rw [mS_ne (by decide), hB23, pk_un hq]⟩
    · refine ⟨g, n + 1, hg, by omega, by rw [mS_ne (by decide), hB 17 (by decide) (by decide) (by decide)]; exact e17, by rw [mS_ne (by decide), hB23, pk_us]; exact hn1, ?_⟩
      rw [mS_at, pk_us]
      exact fun q => absurd q hx
  have a2 : ∀ k, k ≠ 25 → k ≠ 24 → k ≠ 23 → (mA2 p v τ) k = τ k := fun k _ h24 h23 => by unfold mA2 mA1; rw [mS_ne h23, mS_ne h24]
  have a23 : (mA2 p v τ) 23 = upd (τ 23) p (τ 23 p + nI 1) := by unfold mA2 mA1; rw [mS_at, mS_ne (by decide)]
  unfold mIsAt
  split
  · exact fin _ _ a2 a23 (by decide)
  · split
    · exact fin _ _ a2 a23 (by decide)
    · rename_i hl
      have hf : 0 < f := by
        rcases Nat.eq_zero_or_pos f with h0 | h0
        · exfalso; apply hl
          rw [a2 18 (by decide) (by decide) (by decide), e18, h0]; rfl
        · exact h0
      have b2 : ∀ k, k ≠ 25 → k ≠ 24 → k ≠ 23 → (mMeas v (τ 17 p).toNatClampNeg (mA2 p v τ)) k = τ k := fun k h25 h24 h23 => by rw [mMeas_k h25]; exact a2 k h25 h24 h23
      have b23 : (mMeas v (τ 17 p).toNatClampNeg (mA2 p v τ)) 23 = upd (τ 23) p (τ 23 p + nI 1) := by rw [mMeas_k (by decide)]; exact a23
      unfold mAH
      split
      · exact fin _ _ b2 b23 (by decide)
      · rename_i hh
        obtain ⟨j, hj, ej⟩ := mHop_of hh
        split
        · generalize hB : mMeas v (τ 17 p).toNatClampNeg (mA2 p v τ) = B at *
          generalize hH : mHop v (τ 17 p).toNatClampNeg (mA2 p v τ) = hop at *
          unfold mA3
          refine mI_upd h hp ?_ ?_ ?_ ?_ ?_ ?_
          · rw [mS_ne (by decide), mS_ne (by decide), mS_ne (by decide), mS_ne (by decide), b2 0 (by decide) (by decide) (by decide)]
          · rw [mS_ne (by decide), mS_ne (by decide), mS_ne (by decide), mS_ne (by decide), b2 6 (by decide) (by decide) (by decide)]
          · rw [mS_ne (by decide), mS_ne (by decide), mS_ne (by decide), mS_ne (by decide), b2 11 (by decide) (by decide) (by decide)]
          · rw [mS_ne (by decide), mS_ne (by decide), mS_ne (by decide), mS_ne (by decide), b2 15 (by decide) (by decide) (by decide)]
          · intro q hq
            refine ⟨?_, ?_, ?_, ?_, ?_⟩
            · rw [mS_ne (by decide), mS_ne (by decide), mS_ne (by decide), mS_ne (by decide), b2 17 (by decide) (by decide) (by decide)]
            · rw [mS_ne (by decide), mS_ne (by decide), mS_ne (by decide), mS_at, pk_un hq, b2 18 (by decide) (by decide) (by decide)]
            · rw [mS_ne (by decide), mS_ne (by decide), mS_ne (by decide), mS_ne (by decide), b2 19 (by decide) (by decide) (by decide)]
            · rw [mS_ne (by decide), mS_at, pk_un hq, mS_ne (by decide), mS_ne (by decide), b2 21 (by decide) (by decide) (by decide)]
            · rw [mS_ne (by decide), mS_ne (by decide), mS_ne (by decide), mS_ne (by decide), b23, pk_un hq]
          · refine ⟨g, n + 1, hg, by omega, ?_, ?_, fun _ => ⟨j, f - 1, hj, ?_, ?_, by omega⟩⟩
            · rw [mS_ne (by decide), mS_ne (by decide), mS_ne (by decide), mS_ne (by decide), b2 17 (by decide) (by decide) (by decide)]; exact e17
            · rw [mS_ne (by decide), mS_ne (by decide), mS_ne (by decide), mS_ne (by decide), b23, pk_us]; exact hn1
            · rw [mS_ne (by decide), mS_at, pk_us]; exact ej
            · rw [mS_ne (by decide), mS_ne (by decide), mS_ne (by decide), mS_at, pk_us, b2 18 (by decide) (by decide) (by decide), e18]
              exact pk_sub (by omega)
        · exact fin _ _ b2 b23 (by decide)
/-! a tick -/
def fTk1 (i : Nat) (τ : MS) : MS := if τ 2 i = 0 then τ else if τ 9 (8 * i + i) ≤ 0 then τ else if τ 10 (8 * i + i) = nI 40 then mTell i τ else τ
def fTk2 (i : Nat) (τ : MS) : MS := if τ 12 i ≤ 0 then τ else if τ 14 i = τ 0 1 then mRecv (i / 64) (i / 8 % 8) (i % 8) τ else τ
def fTk3 (i : Nat) (τ : MS) : MS := if τ 19 i = 0 then (if τ 22 i = τ 0 1 then mIsAt i (τ 21 i).toNatClampNeg τ else τ) else τ
theorem fTk1_I {P : Nat} (i : Nat) {τ : MS} (h : mI P τ) : mI P (fTk1 i τ) := by
  unfold fTk1
  split
  · exact h
  · split
    · exact h
    · split
      · exact mTell_I h
      · exact h
theorem fTk2_I {P : Nat} (i : Nat) {τ : MS} (h : mI P τ) : mI P (fTk2 i τ) := by
  unfold fTk2
  split
  · exact h
  · split
    · exact mRecv_I h
    · exact h
theorem fTk3_I {P : Nat} (i : Nat) (hi : i < P) {τ : MS} (h : mI P τ) : mI P (fTk3 i τ) := by
  unfold fTk3
  split
  · rename_i hz
    split
    · obtain ⟨g, n, -, -, -, e23, e⟩ := h.2.2.1.1 i hi
      obtain ⟨v, f, -, -, e18, hnf⟩ := e hz
      exact mIsAt_I h hi hz ⟨n, f, e23, e18, hnf⟩
    · exact h
  · exact h
def mTk0 (τ : MS) : MS := mS 0 1 (τ 0 1 + nI 1) τ
def mTick1 (P : Nat) (τ : MS) : MS := itr fTk3 P 0 (itr fTk2 512 0 (itr fTk1 8 0 (mGrow (mTk0 τ))))
theorem mTick1_I {P : Nat} {τ : MS} (h : mI P τ) : mI P (mTick1 P τ) := by
  unfold mTick1
  refine itr_invN (P := mI P) (N := P) (fun i s hi hs => fTk3_I i hi hs) P 0 _ (by omega) ?_
  refine itr_inv (P := mI P) (fun i s hs => fTk2_I i hs) 512 0 _ ?_
  exact itr_inv (P := mI P) (fun i s hs => fTk1_I i hs) 8 0 _ (mGrow_I (mI_0 h (by decide)))
def fTick (P : Nat) (_ : Nat) (τ : MS) : MS := mTick1 P τ
theorem fTick_I {P : Nat} (i : Nat) {τ : MS} (h : mI P τ) : mI P (fTick P i τ) := mTick1_I h
def mTick (P : Nat) (x : Int32) (τ : MS) : MS := if inR x (nI 1) (nI 50) = true then itr (fTick P) x.toNatClampNeg 0 (mGoes true true τ) else mGoes false true τ
def mTickR (P : Nat) (x : Int32) (τ : MS) : Int32 := if inR x (nI 1) (nI 50) = true then (mTick P x τ) 0 1 else nI 0
