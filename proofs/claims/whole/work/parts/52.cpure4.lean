/-! PURE FUNCTIONS OF THE CLASS: the calls that may throw (code: 0 returns, 1 IllegalArgumentException, 2 IllegalStateException), packet -/
theorem cPutLink_keep {u v : Nat} {x y : Int32} {σ : CS} : keep σ (cPutLink u v x y σ) := (keep_sI (by decide) (Or.inl (by decide))).t (keep_sI (by decide) (Or.inl (by decide)))
theorem cUp_keep {u v : Nat} {σ : CS} : keep σ (cUp u v σ) := by
  have h : keep σ (up1 u v σ) := (keep_sI (by decide) (Or.inl (by decide))).t (keep_sI (by decide) (Or.inl (by decide)))
  unfold cUp
  split
  · exact h.t (cTell_keep.t (cTell_keep.t (cSendAll_keep.t cSendAll_keep)))
  · exact h
def linkC (x y z w : Int32) (σ : CS) : Nat := if isN x = true then if isN y = true then if x.toNatClampNeg = y.toNatClampNeg then 1 else if z < nI 1 then 1 else if nI 50 < z then 1 else if w < nI 1 then 1 else if w ≤ nI 8 then (if hasL σ x y = true then 2 else if σ.1 0 0 < nI 12 then 0 else 2) else 1 else 1 else 1
def link1 (u v : Nat) (z w : Int32) (σ : CS) : CS := sI 0 0 ((cPutLink v u z w (cPutLink u v z w σ)).1 0 0 + nI 1) (cPutLink v u z w (cPutLink u v z w σ))
def cLink (x y z w : Int32) (σ : CS) : CS := if linkC x y z w σ = 0 then cUp x.toNatClampNeg y.toNatClampNeg (link1 x.toNatClampNeg y.toNatClampNeg z w σ) else σ
def cLinkR (x y z w : Int32) (σ : CS) : Int32 := (cLink x y z w σ).1 0 0
def failC (x y : Int32) (σ : CS) : Nat := if hasL σ x y = true then 0 else 1
def cFail (P : Nat) (x y : Int32) (σ : CS) : CS := if failC x y σ = 0 then (if σ.1 5 (x.toNatClampNeg * 8 + y.toNatClampNeg) = 0 then σ else cDown P x.toNatClampNeg y.toNatClampNeg σ) else σ
def cFailR (x y : Int32) (σ : CS) : Bool := if σ.1 5 (x.toNatClampNeg * 8 + y.toNatClampNeg) = 0 then false else true
def cRest (x y : Int32) (σ : CS) : CS := if failC x y σ = 0 then (if σ.1 5 (x.toNatClampNeg * 8 + y.toNatClampNeg) = 0 then cUp x.toNatClampNeg y.toNatClampNeg σ else σ) else σ
def cRestR (x y : Int32) (σ : CS) : Bool := if σ.1 5 (x.toNatClampNeg * 8 + y.toNatClampNeg) = 0 then true else false
def nodeC (x : Int32) : Nat := if isN x = true then 0 else 1
def fStC (u i : Nat) (σ : CS) : CS := if carr σ i u = true then cSendAll i u σ else σ
def start1 (u : Nat) (σ : CS) : CS := sI 2 u (nI 0) (sI 1 u (nI 1) σ)
def cStart (x : Int32) (σ : CS) : CS := if nodeC x = 0 then (if σ.1 1 x.toNatClampNeg = 0 then itr (fStC x.toNatClampNeg) 8 0 (cTell x.toNatClampNeg (cTellN x.toNatClampNeg (start1 x.toNatClampNeg σ))) else σ) else σ
def cStartR (x : Int32) (σ : CS) : Bool := if σ.1 1 x.toNatClampNeg = 0 then true else false
def fCrC (P u i : Nat) (σ : CS) : CS := cEmpty P u i (pClear 6 0 3 (u * 8 + i) σ)
theorem fCrC_I {P u : Nat} (i : Nat) {σ : CS} (h : cI P σ) : cI P (fCrC P u i σ) := cEmpty_I (cI_keep h (pClear_keep (by decide) (by decide) (by decide)))
def cCrash (P : Nat) (x : Int32) (σ : CS) : CS := if nodeC x = 0 then (if σ.1 1 x.toNatClampNeg = 0 then σ else cTellN x.toNatClampNeg (itr (fCrC P x.toNatClampNeg) 8 0 (sI 1 x.toNatClampNeg (nI 0) σ))) else σ
def cCrashR (x : Int32) (σ : CS) : Bool := if σ.1 1 x.toNatClampNeg = 0 then false else true
def tickC (x : Int32) : Nat := if x < nI 1 then 1 else if x ≤ nI 50 then 0 else 1
def tk1 (σ : CS) : CS := sI 0 2 (σ.1 0 2 + nI 1) σ
def tk2 (σ : CS) : CS := cClrB 6 7 0 3 64 ((tk1 σ).1 0 2 - nI 60) (tk1 σ)
def tk3 (σ : CS) : CS := cClrB 8 9 1 4 512 ((tk2 σ).1 0 2 - nI 60) (tk2 σ)
def fTkC (P : Nat) (_ : Nat) (σ : CS) : CS := cMove P (cArr (cTellA (tk3 σ)))
theorem tk3_keep {σ : CS} : keep σ (tk3 σ) := ((keep_sI (by decide) (Or.inr (by decide))).t (cClrB_keep (by decide) (by decide) (by decide))).t (cClrB_keep (by decide) (by decide) (by decide))
theorem fTkC_I {P : Nat} (i : Nat) {σ : CS} (h : cI P σ) : cI P (fTkC P i σ) := cMove_I (cI_keep h (tk3_keep.t (cTellA_keep.t cArr_keep)))
def cTick (P : Nat) (x : Int32) (σ : CS) : CS := if tickC x = 0 then itr (fTkC P) x.toNatClampNeg 0 σ else σ
def cTickR (P : Nat) (x : Int32) (σ : CS) : Int32 := (cTick P x σ).1 0 2
theorem tk_of {x : Int32} (h1 : ¬ x < nI 1) (h2 : x ≤ nI 50) : ∃ j : Nat, 1 ≤ j ∧ j ≤ 50 ∧ x = nI j := by
  refine inR_of (by decide) (by decide) ?_
  unfold inR
  rw [if_neg h1, if_neg]
  intro h3
  have h4 := Int32.le_iff_toInt_le.mp h2
  have h5 := Int32.lt_iff_toInt_lt.mp h3
  omega
def cPktB (j : Nat) (z : Int32) (σ : CS) : Int32 := if z = nI 0 then σ.1 15 j else if z = nI 1 then σ.1 14 j else if z = nI 2 then σ.1 13 j else if z < nI 10 then -1 else if σ.1 13 j ≤ z - nI 10 then -1 else σ.1 (19 + j) (z.toNatClampNeg - 10)
def cPkt (P : Nat) (x z : Int32) (σ : CS) : Int32 := if x < 0 then -1 else if x < nI P then cPktB x.toNatClampNeg z σ else -1
theorem px_of {x : Int32} {P : Nat} (hP : P ≤ 20) (h1 : ¬ x < 0) (h2 : x < nI P) : ∃ j : Nat, j < P ∧ x = nI j := by
  obtain ⟨j, hj, rfl⟩ := nI_of h1
  exact ⟨j, (nI_ltI hj (by omega)).mp h2, rfl⟩
