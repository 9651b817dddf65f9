/-! PURE FUNCTIONS OF THE REFERENCE: send, packet -/
def mSendG (x y z : Int32) : Bool := if isN x = true then if isN y = true then if inR z (nI 0) (nI 30) = true then true else false else false else false
def mSn1 (P y : Nat) (z : Int32) (τ : MS) : MS := mS 18 P z (mS 17 P (nI y) (mS 0 16 (nI (P + 1)) τ))
def mSend (P : Nat) (x y z : Int32) (τ : MS) : MS := if mSendG x y z = true then (if τ 2 x.toNatClampNeg = 0 then mGoes true false τ else if 20 ≤ P then mGoes true false τ else mIsAt P x.toNatClampNeg (mSn1 P y.toNatClampNeg z (mGoes true true τ))) else mGoes false false τ
def mSendR (P : Nat) (x y z : Int32) (τ : MS) : Int32 := if mSendG x y z = true then (if τ 2 x.toNatClampNeg = 0 then nI 0 else if 20 ≤ P then nI 0 else nI P) else nI 0
def mPktB (j : Nat) (z : Int32) (τ : MS) : Int32 := if z < nI 10 then (if z = 0 then τ 19 j else if z = nI 1 then τ 18 j else if z = nI 2 then τ 23 j else -1) else if τ 23 j ≤ z - nI 10 then -1 else τ 24 (40 * j + z.toNatClampNeg - 10)
def mPkt (x z : Int32) (τ : MS) : Int32 := if inR x (nI 0) ((mT0 τ) 0 16 - nI 1) = true then mPktB x.toNatClampNeg z (mT0 τ) else -1
theorem inP_of {x y : Int32} {P : Nat} (hP : P ≤ 20) (hy : y = nI P) (h : inR x (nI 0) (y - nI 1) = true) : ∃ j : Nat, j < P ∧ x = nI j := by
  subst hy
  rcases Nat.eq_zero_or_pos P with h0 | h0
  · subst h0
    exfalso
    unfold inR at h
    by_cases h1 : x < nI 0
    · rw [if_pos h1] at h; cases h
    · rw [if_neg h1] at h
      have e : nI 0 - nI 1 = -1 := by decide
      rw [e] at h
      rw [if_pos] at h
      · cases h
      · have h2 : ¬ x.toInt < (nI 0).toInt := fun q => h1 (Int32.lt_iff_toInt_lt.mpr q)
        apply Int32.lt_iff_toInt_lt.mpr
        have e0 : (nI 0).toInt = 0 := by decide
        have e1 : (-1 : Int32).toInt = -1 := by decide
        omega
  · rw [pk_sub (show 1 ≤ P from h0)] at h
    obtain ⟨j, -, hj, rfl⟩ := inR_of (by decide) (by omega) h
    exact ⟨j, by omega, rfl⟩
theorem pk_z {z c : Int32} {n : Nat} (hn : n < 40) (hc : c = nI n) (h1 : ¬ z < nI 10) (h2 : ¬ c ≤ z - nI 10) : ∃ t : Nat, t < n ∧ z = nI (10 + t) := by
  subst hc
  have h3 : ¬ z.toInt < (nI 10).toInt := fun q => h1 (Int32.lt_iff_toInt_lt.mpr q)
  have e10 : (nI 10).toInt = 10 := by decide
  have h5 : ¬ z < 0 := fun q => by
    have := Int32.lt_iff_toInt_lt.mp q
    have e0 : (0 : Int32).toInt = 0 := by decide
    omega
  obtain ⟨j, hj, rfl⟩ := nI_of h5
  rw [nI_toInt hj, e10] at h3
  have hj10 : 10 ≤ j := by omega
  rw [pk_sub hj10] at h2
  have h4 : ¬ n ≤ j - 10 := fun q => h2 ((nI_leI (by omega) (by omega)).mpr q)
  exact ⟨j - 10, by omega, by congr 1; omega⟩
