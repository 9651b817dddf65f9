/-! PURE FUNCTIONS OF THE REFERENCE (second batch) -/
def mLinkG (x y z w : Int32) : Bool := if isN x = true then if isN y = true then if x.toNatClampNeg = y.toNatClampNeg then false else if inR z (nI 1) (nI 50) = true then if inR w (nI 1) (nI 8) = true then true else false else false else false else false
def mL1 (u v : Nat) (z w : Int32) (τ : MS) : MS := mS 7 (8 * v + u) w (mS 7 (8 * u + v) w (mS 6 (8 * v + u) z (mS 6 (8 * u + v) z (mS 5 (8 * v + u) (nI 1) (mS 5 (8 * u + v) (nI 1) (mS 0 4 (τ 0 4 + nI 1) τ))))))
def mLinkB (u v : Nat) (z w : Int32) (τ : MS) : MS := if τ 5 (8 * u + v) = 0 then (if nI 12 ≤ τ 0 4 then mGoes true false τ else mUp u v (mL1 u v z w (mGoes true true τ))) else mGoes true false τ
def mLink (x y z w : Int32) (τ : MS) : MS := if mLinkG x y z w = true then mLinkB x.toNatClampNeg y.toNatClampNeg z w τ else mGoes false false τ
def mLinkR (x y z w : Int32) (τ : MS) : Int32 := if mLinkG x y z w = true then (if τ 5 (8 * x.toNatClampNeg + y.toNatClampNeg) = 0 then (if nI 12 ≤ τ 0 4 then nI 0 else (mLink x y z w τ) 0 4) else nI 0) else nI 0
def mRest (x y : Int32) (τ : MS) : MS := if mHas τ x y = true then (if (mGoes true true τ) 8 (8 * x.toNatClampNeg + y.toNatClampNeg) = 0 then mUp x.toNatClampNeg y.toNatClampNeg (mGoes true true τ) else mGoes true true τ) else mGoes false true τ
def mRestR (x y : Int32) (τ : MS) : Bool := if mHas τ x y = true then (if (mGoes true true τ) 8 (8 * x.toNatClampNeg + y.toNatClampNeg) = 0 then true else false) else false
def fSt1 (u i : Nat) (τ : MS) : MS := if mCarr τ u i = true then mTell i τ else τ
def fSt2 (u i : Nat) (τ : MS) : MS := if mCarr τ u i = true then mSendAll i u τ else τ
def mSt0 (u : Nat) (τ : MS) : MS := mS 2 u (nI 1) (mForget u τ)
def mStB (u : Nat) (τ : MS) : MS := itr (fSt2 u) 8 0 (mTell u (itr (fSt1 u) 8 0 (mSt0 u τ)))
def mStart (x : Int32) (τ : MS) : MS := if isN x = true then (if (mGoes true true τ) 2 x.toNatClampNeg = 0 then mStB x.toNatClampNeg (mGoes true true τ) else mGoes true true τ) else mGoes false true τ
def mStartR (x : Int32) (τ : MS) : Bool := if isN x = true then (if (mGoes true true τ) 2 x.toNatClampNeg = 0 then true else false) else false
/-! settled -/
def fS2 (i j : Nat) (τ : MS) : MS := if τ 2 i = 0 then (if i = j then mS 26 (8 * i + j) (nI 0) τ else if mCarr τ i j = true then mS 26 (8 * i + j) (nI 1) τ else mS 26 (8 * i + j) (nI 0) τ) else if i = j then mS 26 (8 * i + j) (nI 1) τ else if mCarr τ i j = true then mS 26 (8 * i + j) (nI 1) τ else mS 26 (8 * i + j) (nI 0) τ
def fS1 (i : Nat) (τ : MS) : MS := itr (fS2 i) 8 0 τ
def fS4 (i j : Nat) (τ : MS) : MS := if τ 26 j = 0 then (if τ 26 (j / 8 * 8 + i) = 0 then mS 26 j (nI 0) τ else if τ 26 (8 * i + j % 8) = 0 then mS 26 j (nI 0) τ else mS 26 j (nI 1) τ) else mS 26 j (nI 1) τ
def fS3 (i : Nat) (τ : MS) : MS := itr (fS4 i) 64 0 τ
def mTog (τ : MS) : MS := itr fS3 8 0 (itr fS1 8 0 (mT0 τ))
/-- the innermost: ends early where k isn't together -/
def gS6 (τ : MS) (k : Nat) : Nat → Nat → Int32 → Int32
  | 0, _, x => x
  | n + 1, i, x => if τ 26 k = 0 then x else gS6 τ k n (i + 1) (if x = 0 then nI 0 else if τ 26 (k / 8 * 8 + i) = 0 then nI 1 else if τ 9 (k / 8 * 8 + i) = τ 9 (k % 8 * 8 + i) then nI 1 else nI 0)
def fS5 (τ : MS) (k : Nat) (x : Int32) : Int32 := gS6 τ k 8 0 x
def mSetS (τ : MS) : MS := if mFly τ ≤ 0 then mTog τ else mT0 τ
def mSetR (τ : MS) : Int32 := if mFly τ ≤ 0 then itr (fS5 (mTog τ)) 64 0 (nI 1) else nI 0
theorem gS6_01 (τ : MS) (k : Nat) : ∀ (n i : Nat) (x : Int32), (x = nI 0 ∨ x = nI 1) → (gS6 τ k n i x = nI 0 ∨ gS6 τ k n i x = nI 1) := by
  intro n
  induction n with
  | zero => intro i x h; exact h
  | succ n ih =>
    intro i x h
    show (if τ 26 k = 0 then x else gS6 τ k n (i + 1) _) = nI 0 ∨ (if τ 26 k = 0 then x else gS6 τ k n (i + 1) _) = nI 1
    by_cases h1 : τ 26 k = 0
    · rw [if_pos h1]; exact h
    · rw [if_neg h1]
      apply ih
      by_cases h2 : x = 0
      · rw [if_pos h2]; exact Or.inl rfl
      · rw [if_neg h2]
        by_cases h3 : τ 26 (k / 8 * 8 + i) = 0
        · rw [if_pos h3]; exact Or.inr rfl
        · rw [if_neg h3]
          by_cases h4 : τ 9 (k / 8 * 8 + i) = τ 9 (k % 8 * 8 + i)
          · rw [if_pos h4]; exact Or.inr rfl
          · rw [if_neg h4]; exact Or.inl rfl
theorem itr_inv {α : Type} {f : Nat → α → α} {P : α → Prop} (h : ∀ i s, P s → P (f i s)) : ∀ (n i : Nat) (s : α), P s → P (itr f n i s) := by
  intro n
  induction n with
  | zero => intro i s hs; exact hs
  | succ n ih => intro i s hs; exact ih (i + 1) (f i s) (h i s hs)
theorem fS5_01 (τ : MS) (n : Nat) : itr (fS5 τ) n 0 (nI 1) = nI 0 ∨ itr (fS5 τ) n 0 (nI 1) = nI 1 := itr_inv (P := fun x => x = nI 0 ∨ x = nI 1) (fun i s h => gS6_01 τ i 8 0 s h) n 0 (nI 1) (Or.inr rfl)
theorem nar01 {x : Int32} (h : x = nI 0 ∨ x = nI 1) : narrow .boolean (.int x) = .int x := by rcases h with rfl | rfl <;> rfl
