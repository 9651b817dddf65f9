/-! PURE FUNCTIONS OF THE REFERENCE (first batch) -/
def thr (p q : Bool) : Int32 := if p = true then (if q = true then nI 0 else nI 2) else nI 1
def mGoes (p q : Bool) (τ : MS) : MS := mS 0 0 (thr p q) τ
def inR (x y z : Int32) : Bool := if x < y then false else if z < x then false else true
theorem inR_isN (x : Int32) : inR x (nI 0) (nI 7) = isN x := by
  unfold inR isN
  have e0 : nI 0 = (0 : Int32) := by decide
  rw [e0]
  by_cases h : x < 0
  · rw [if_pos h, if_pos h]
  · rw [if_neg h, if_neg h]
    by_cases h2 : nI 7 < x
    · rw [if_pos h2, if_pos]
      have := Int32.lt_iff_toInt_lt.mp h2
      apply Int32.le_iff_toInt_le.mpr
      have e7 : (nI 7).toInt = 7 := by decide
      have e8 : (nI 8).toInt = 8 := by decide
      omega
    · rw [if_neg h2, if_neg]
      intro h3
      apply h2
      have := Int32.le_iff_toInt_le.mp h3
      apply Int32.lt_iff_toInt_lt.mpr
      have e7 : (nI 7).toInt = 7 := by decide
      have e8 : (nI 8).toInt = 8 := by decide
      omega
theorem inR_of {x : Int32} {a b : Nat} (ha : a < 2 ^ 31) (hb : b < 2 ^ 31) (h : inR x (nI a) (nI b) = true) : ∃ j : Nat, a ≤ j ∧ j ≤ b ∧ x = nI j := by
  unfold inR at h
  by_cases h1 : x < nI a
  · rw [if_pos h1] at h; cases h
  · rw [if_neg h1] at h
    by_cases h2 : nI b < x
    · rw [if_pos h2] at h; cases h
    · have h3 : ¬ x.toInt < (nI a).toInt := fun q => h1 (Int32.lt_iff_toInt_lt.mpr q)
      have h4 : ¬ (nI b).toInt < x.toInt := fun q => h2 (Int32.lt_iff_toInt_lt.mpr q)
      rw [nI_toInt ha] at h3
      rw [nI_toInt hb] at h4
      have h5 : ¬ x < 0 := fun q => by
        have := Int32.lt_iff_toInt_lt.mp q
        have e0 : (0 : Int32).toInt = 0 := by decide
        omega
      obtain ⟨j, hj, rfl⟩ := nI_of h5
      rw [nI_toInt hj] at h3 h4
      exact ⟨j, by omega, by omega, rfl⟩
def mHas (τ : MS) (x y : Int32) : Bool := if isN x = true then if isN y = true then if τ 5 (8 * x.toNatClampNeg + y.toNatClampNeg) = 0 then false else true else false else false
theorem mHas_of {τ : MS} {x y : Int32} (h : mHas τ x y = true) : ∃ j : Nat, j < 8 ∧ ∃ k : Nat, k < 8 ∧ x = nI j ∧ y = nI k ∧ ¬ τ 5 (8 * j + k) = 0 := by
  unfold mHas at h
  by_cases h1 : isN x = true
  · rw [if_pos h1] at h
    by_cases h2 : isN y = true
    · rw [if_pos h2] at h
      obtain ⟨j, hj, rfl⟩ := isN_of h1
      obtain ⟨k, hk, rfl⟩ := isN_of h2
      rw [cl8 hj, cl8 hk] at h
      by_cases h3 : τ 5 (8 * j + k) = 0
      · rw [if_pos h3] at h; cases h
      · exact ⟨j, hj, k, hk, rfl, rfl, h3⟩
    · rw [if_neg h2] at h; cases h
  · rw [if_neg h1] at h; cases h
def mCarr (τ : MS) (u v : Nat) : Bool := if τ 5 (8 * u + v) = 0 then false else if τ 8 (8 * u + v) = 0 then false else if τ 2 u = 0 then false else if τ 2 v = 0 then false else true
def mP1 (u v o : Nat) (τ : MS) : MS := mS 12 (64 * u + 8 * v + o) (τ 9 (8 * u + o)) τ
def mP2 (u v o : Nat) (τ : MS) : MS := mS 13 (64 * u + 8 * v + o) ((mP1 u v o τ) 10 (8 * u + o)) (mP1 u v o τ)
def mP3 (u v o : Nat) (τ : MS) : MS := mS 14 (64 * u + 8 * v + o) ((mP2 u v o τ) 0 1 + (mP2 u v o τ) 7 (8 * u + v)) (mP2 u v o τ)
def fPass (k f i : Nat) (τ : MS) : MS := mS 15 (8 * f + i) (τ 11 (8 * k + i)) τ
def mPass (u v o : Nat) (τ : MS) : MS := if τ 9 (8 * u + o) = 0 then τ else if mCarr τ u v = true then (if τ 12 (64 * u + 8 * v + o) < τ 9 (8 * u + o) then itr (fPass (8 * u + o) (64 * u + 8 * v + o)) 8 0 (mP3 u v o τ) else τ) else τ
def mT1 (u : Nat) (τ : MS) : MS := mS 3 u (τ 3 u + nI 1) τ
def mT2 (u : Nat) (τ : MS) : MS := mS 9 (8 * u + u) ((mT1 u τ) 3 u) (mT1 u τ)
def mT3 (u : Nat) (τ : MS) : MS := mS 10 (8 * u + u) (nI 0) (mT2 u τ)
def fT1 (u i : Nat) (τ : MS) : MS := if mCarr τ u i = true then mS 11 (8 * (8 * u + u) + i) (τ 6 (8 * u + i)) τ else mS 11 (8 * (8 * u + u) + i) (nI 0) τ
def fT2 (u i : Nat) (τ : MS) : MS := mPass u i u τ
def mTell (u : Nat) (τ : MS) : MS := itr (fT2 u) 8 0 (itr (fT1 u) 8 0 (mT3 u τ))
def mSendAll (u v : Nat) (τ : MS) : MS := itr (mPass u v) 8 0 τ
def mR1 (u v o : Nat) (τ : MS) : MS := mS 12 (64 * u + 8 * v + o) (nI 0) τ
def mR2 (u v o : Nat) (τ : MS) : MS := mS 9 (8 * v + o) (τ 12 (64 * u + 8 * v + o)) (mR1 u v o τ)
def mR3 (u v o : Nat) (τ : MS) : MS := mS 10 (8 * v + o) ((mR2 u v o τ) 13 (64 * u + 8 * v + o)) (mR2 u v o τ)
def fRc (k f i : Nat) (τ : MS) : MS := mS 11 (8 * k + i) (τ 15 (8 * f + i)) τ
def fRs (u v o i : Nat) (τ : MS) : MS := if i = u then τ else mPass v i o τ
def mRecv (u v o : Nat) (τ : MS) : MS := if o = v then (if τ 12 (64 * u + 8 * v + o) ≤ (mR1 u v o τ) 3 v then mR1 u v o τ else mTell v (mS 3 v (τ 12 (64 * u + 8 * v + o)) (mR1 u v o τ))) else if τ 12 (64 * u + 8 * v + o) ≤ (mR1 u v o τ) 9 (8 * v + o) then (if (mR1 u v o τ) 9 (8 * v + o) ≤ τ 12 (64 * u + 8 * v + o) then mR1 u v o τ else mPass v u o (mR1 u v o τ)) else itr (fRs u v o) 8 0 (itr (fRc (8 * v + o) (64 * u + 8 * v + o)) 8 0 (mR3 u v o τ))
def mU1 (u v : Nat) (τ : MS) : MS := mS 8 (8 * v + u) (nI 1) (mS 8 (8 * u + v) (nI 1) τ)
def mU2 (x y : Nat) (τ : MS) : MS := mSendAll y x (mSendAll x y (mTell y (mTell x τ)))
def mUp (u v : Nat) (τ : MS) : MS := if (mU1 u v τ) 2 u = 0 then mU1 u v τ else if (mU1 u v τ) 2 v = 0 then mU1 u v τ else if v ≤ u then mU2 v (u + v - v) (mU1 u v τ) else mU2 u (u + v - u) (mU1 u v τ)
def fFg (u i : Nat) (τ : MS) : MS := mS 9 (8 * u + i) (nI 0) τ
def mForget (u : Nat) (τ : MS) : MS := mS 3 u (nI 0) (itr (fFg u) 8 0 τ)
def mG0 (a i : Nat) (τ : MS) : MS := mS a i (τ a i + nI 1) τ
def fG1 (i : Nat) (τ : MS) : MS := if (mG0 10 i τ) 10 i < nI 60 then mS 9 i ((mG0 10 i τ) 9 i) (mG0 10 i τ) else mS 9 i (nI 0) (mG0 10 i τ)
def fG2 (i : Nat) (τ : MS) : MS := if (mG0 13 i τ) 13 i < nI 60 then mS 12 i ((mG0 13 i τ) 12 i) (mG0 13 i τ) else mS 12 i (nI 0) (mG0 13 i τ)
def mGrow (τ : MS) : MS := itr fG2 512 0 (itr fG1 64 0 τ)
def mStep (τ : MS) (v a b : Nat) : Int32 := if τ 9 (8 * v + a) ≤ 0 then nI 0 else if τ 9 (8 * v + b) ≤ 0 then nI 0 else if τ 11 (8 * (8 * v + b) + a) ≤ 0 then nI 0 else τ 11 (8 * (8 * v + a) + b)
def fFly (τ : MS) (i : Nat) (x : Int32) : Int32 := if τ 12 i ≤ 0 then x else x + nI 1
def mT0 (τ : MS) : MS := mS 0 0 (nI 0) τ
def mFly (τ : MS) : Int32 := itr (fFly (mT0 τ)) 512 0 (nI 0)
def fNw (τ : MS) (k i : Nat) (x : Int32) : Int32 := if τ 11 (8 * k + i) ≤ 0 then x else x + nI 1
def mNewsB (k : Nat) (z : Int32) (τ : MS) : Int32 := if z = 0 then τ 9 k else if z = nI 1 then τ 10 k else if z = nI 2 then itr (fNw τ k) 8 0 (nI 0) else -1
def mNews (x y z : Int32) (τ : MS) : Int32 := if isN x = true then if isN y = true then if (mT0 τ) 9 (8 * x.toNatClampNeg + y.toNatClampNeg) = 0 then -1 else if inR z (nI 10) (nI 17) = true then (mT0 τ) 11 (8 * (8 * x.toNatClampNeg + y.toNatClampNeg) + z.toNatClampNeg - 10) else mNewsB (8 * x.toNatClampNeg + y.toNatClampNeg) z (mT0 τ) else -1 else -1
/-! the measuring loop: its rounds, with fuel -/
def fD0 (g i : Nat) (τ : MS) : MS := if i = g then mS 25 i (nI 0) τ else mS 25 i (-1) τ
def fD3 (v i j : Nat) (s : MS × Int32) : MS × Int32 := if mStep s.1 v i j ≤ 0 then s else if s.1 25 j = -1 then s else if s.1 25 i = -1 then (mS 25 i (s.1 25 j + mStep s.1 v i j) s.1, nI 1) else if s.1 25 i ≤ s.1 25 j + mStep s.1 v i j then s else (mS 25 i (s.1 25 j + mStep s.1 v i j) s.1, nI 1)
def fD2 (v i : Nat) (s : MS × Int32) : MS × Int32 := itr (fD3 v i) 8 0 s
def mRnd (v : Nat) (τ : MS) : MS × Int32 := itr (fD2 v) 8 0 (τ, nI 0)
def mStops (v : Nat) : Nat → MS → Prop
  | 0, _ => False
  | n + 1, τ => (mRnd v τ).2 = 0 ∨ mStops v n (mRnd v τ).1
def mWhile (v : Nat) : Nat → MS → MS
  | 0, τ => τ
  | n + 1, τ => if (mRnd v τ).2 = 0 then (mRnd v τ).1 else mWhile v n (mRnd v τ).1
theorem mStops_next {v n : Nat} {τ τ' : MS} {x : Int32} (h : mStops v (n + 1) τ) (hr : mRnd v τ = (τ', x)) (hx : ¬ x = 0) : mStops v n τ' := by
  have h : (mRnd v τ).2 = 0 ∨ mStops v n (mRnd v τ).1 := h
  rw [hr] at h
  exact h.elim (fun h => absurd h hx) id
theorem mWhile_next {v n : Nat} {τ τ' T : MS} {x : Int32} (h : mWhile v (n + 1) τ = T) (hr : mRnd v τ = (τ', x)) (hx : ¬ x = 0) : mWhile v n τ' = T := by
  have h : (if (mRnd v τ).2 = 0 then (mRnd v τ).1 else mWhile v n (mRnd v τ).1) = T := h
  rw [hr] at h
  rw [if_neg hx] at h
  exact h
theorem mWhile_last {v n : Nat} {τ τ' T : MS} {x : Int32} (h : mWhile v (n + 1) τ = T) (hr : mRnd v τ = (τ', x)) (hx : x = 0) : τ' = T := by
  have h : (if (mRnd v τ).2 = 0 then (mRnd v τ).1 else mWhile v n (mRnd v τ).1) = T := h
  rw [hr] at h
  rw [if_pos hx] at h
  exact h
def mFuel : Nat := 8000
def mD0 (g : Nat) (τ : MS) : MS := itr (fD0 g) 8 0 τ
def mMeas (v g : Nat) (τ : MS) : MS := mWhile v mFuel (mD0 g τ)
/-- the reference's measuring ends, for every two nodes, in this state -/
def mEnds (τ : MS) : Prop := ∀ v g : Nat, v < 8 → g < 8 → mStops v mFuel (mD0 g τ)
def dwn {α : Type} (f : Nat → α → α) : Nat → α → α
  | 0, s => s
  | n + 1, s => dwn f n (f n s)
theorem dwn_step {α : Type} {f : Nat → α → α} {n : Nat} {s s' r : α} (h : dwn f (n + 1) s = r) (e : f n s = s') : dwn f n s' = r := by rw [← e]; exact h
theorem nI_dec (n : Nat) : nI n + Int32.ofInt (-1) = nI n - 1 := by
  show nI n + (-1) = nI n - 1
  rw [Int32.sub_eq_add_neg]
def fNx (τ : MS) (v i : Nat) (x : Int32) : Int32 := if mStep τ v v i ≤ 0 then x else if τ 25 i = -1 then x else if τ 25 i + mStep τ v v i = τ 25 v then nI i else x
def mHop (v g : Nat) (τ : MS) : Int32 := if (mMeas v g τ) 25 v = -1 then -1 else dwn (fNx (mMeas v g τ) v) 8 (-1)
def mDistS (x y : Int32) (τ : MS) : MS := if isN x = true then if isN y = true then if (mT0 τ) 2 x.toNatClampNeg = 0 then mT0 τ else mMeas x.toNatClampNeg y.toNatClampNeg (mT0 τ) else mT0 τ else mT0 τ
def mDist (x y : Int32) (τ : MS) : Int32 := if isN x = true then if isN y = true then if (mT0 τ) 2 x.toNatClampNeg = 0 then -1 else (mMeas x.toNatClampNeg y.toNatClampNeg (mT0 τ)) 25 x.toNatClampNeg else -1 else -1
def mNextS (x y : Int32) (τ : MS) : MS := if isN x = true then if isN y = true then if x.toNatClampNeg = y.toNatClampNeg then mT0 τ else if (mT0 τ) 2 x.toNatClampNeg = 0 then mT0 τ else mMeas x.toNatClampNeg y.toNatClampNeg (mT0 τ) else mT0 τ else mT0 τ
def mNext (x y : Int32) (τ : MS) : Int32 := if isN x = true then if isN y = true then if x.toNatClampNeg = y.toNatClampNeg then -1 else if (mT0 τ) 2 x.toNatClampNeg = 0 then -1 else mHop x.toNatClampNeg y.toNatClampNeg (mT0 τ) else -1 else -1
