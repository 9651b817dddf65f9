/-! PURE FUNCTIONS OF THE CLASS (first batch) -/
def itr {α : Type} (f : Nat → α → α) : Nat → Nat → α → α
  | 0, _, s => s
  | n + 1, i, s => itr f n (i + 1) (f i s)
theorem itr_step {α : Type} {f : Nat → α → α} {n i : Nat} {s s' r : α} (h : itr f (n + 1) i s = r) (e : f i s = s') : itr f n (i + 1) s' = r := by rw [← e]; exact h
def isN (x : Int32) : Bool := if x < 0 then false else if nI 8 ≤ x then false else true
theorem isN_of {x : Int32} (h : isN x = true) : ∃ j : Nat, j < 8 ∧ x = nI j := by
  unfold isN at h
  by_cases h1 : x < 0
  · rw [if_pos h1] at h; cases h
  · rw [if_neg h1] at h
    by_cases h2 : nI 8 ≤ x
    · rw [if_pos h2] at h; cases h
    · rcases pk_ix x (n := 8) (by decide) with h3 | h3 | ⟨j, hj, rfl⟩
      · exact absurd h3 h1
      · exact absurd h3 h2
      · exact ⟨j, hj, rfl⟩
def pWrite (nb bb cb cn row : Nat) (num bo : Int32) (co : Int64) (σ : CS) : CS :=
  if σ.1 nb row = 0 then sJ cb row co (sI bb row bo (sI nb row num (sI 0 cn (σ.1 0 cn + nI 1) σ))) else sJ cb row co (sI bb row bo (sI nb row num σ))
def pClear (nb cb cn row : Nat) (σ : CS) : CS :=
  if σ.1 nb row ≤ 0 then sJ cb row 0 (sI nb row (nI 0) σ) else sJ cb row 0 (sI nb row (nI 0) (sI 0 cn (σ.1 0 cn - nI 1) σ))
def costF (co : Int64) (w : Nat) : Int32 := (co >>> ((nI (6 * w)).toInt64 &&& 63)).toInt32 &&& nI 63
def packF (x : Int32) (w : Nat) : Int64 := x.toInt64 <<< ((nI (6 * w)).toInt64 &&& 63)
def fCnt (co : Int64) (i : Nat) (x : Int32) : Int32 := if costF co i ≤ 0 then x else x + Int32.ofInt 1
def cntF (co : Int64) : Int32 := itr (fCnt co) 8 0 (nI 0)
def hasL (σ : CS) (x y : Int32) : Bool := if isN x = true then if isN y = true then if σ.1 3 (x.toNatClampNeg * 8 + y.toNatClampNeg) ≤ 0 then false else true else false else false
def carr (σ : CS) (u v : Nat) : Bool := if σ.1 5 (u * 8 + v) = 0 then false else if σ.1 1 u = 0 then false else if σ.1 1 v = 0 then false else true
def fCosts (σ : CS) (u : Nat) (i : Nat) (x : Int64) : Int64 := if carr σ u i = true then x ||| packF (σ.1 3 (u * 8 + i)) i else x
def cCosts (σ : CS) (u : Nat) : Int64 := itr (fCosts σ u) 8 0 0
def cPutLink (u v : Nat) (x y : Int32) (σ : CS) : CS := sI 4 (u * 8 + v) y (sI 3 (u * 8 + v) x σ)
def cSendW (f t o : Nat) (σ : CS) : CS := pWrite 8 9 1 4 ((f * 8 + t) * 8 + o) (σ.1 6 (f * 8 + o)) (σ.1 7 (f * 8 + o)) (σ.2 0 (f * 8 + o)) σ
def cSendKnown (f t o : Nat) (σ : CS) : CS := if σ.1 6 (f * 8 + o) ≤ σ.1 8 ((f * 8 + t) * 8 + o) then σ else sI 10 ((f * 8 + t) * 8 + o) ((cSendW f t o σ).1 0 2 + (cSendW f t o σ).1 4 (f * 8 + t)) (cSendW f t o σ)
def cSendAll (f t : Nat) (σ : CS) : CS := itr (cSendKnown f t) 8 0 σ
def fSpread (u o : Nat) (x : Int32) (i : Nat) (σ : CS) : CS := if nI i = x then σ else if carr σ u i = true then cSendKnown u i o σ else σ
def cSpread (u o : Nat) (x : Int32) (σ : CS) : CS := itr (fSpread u o x) 8 0 σ
def tell1 (u : Nat) (σ : CS) : CS := sI 2 u (σ.1 2 u + nI 1) σ
def tell2 (u : Nat) (σ : CS) : CS := pWrite 6 7 0 3 (u * 8 + u) ((tell1 u σ).1 2 u) ((tell1 u σ).1 0 2) (cCosts (tell1 u σ) u) (tell1 u σ)
def cTell (u : Nat) (σ : CS) : CS := cSpread u u (-1) (tell2 u σ)
def cStep (σ : CS) (v f t : Nat) : Int32 := if costF (σ.2 0 (v * 8 + t)) f ≤ 0 then nI 0 else costF (σ.2 0 (v * 8 + f)) t
