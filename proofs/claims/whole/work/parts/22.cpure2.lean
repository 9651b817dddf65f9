/-! PURE FUNCTIONS OF THE CLASS (second batch), and rows that the walks of it want -/
def srch (f : Nat → Option Int32) : Nat → Nat → Option Int32
  | 0, _ => none
  | n + 1, i => match f i with
    | some r => some r
    | none => srch f n (i + 1)
theorem srch_next {f : Nat → Option Int32} {n i : Nat} {r : Option Int32} (h : srch f (n + 1) i = r) (e : f i = none) : srch f n (i + 1) = r := by
  rw [← h]; show _ = (match f i with | some r => some r | none => srch f n (i + 1)); rw [e]
theorem srch_hit {f : Nat → Option Int32} {n i : Nat} {r : Option Int32} {v : Int32} (h : srch f (n + 1) i = r) (e : f i = some v) : some v = r := by
  rw [← h]; show _ = (match f i with | some r => some r | none => srch f n (i + 1)); rw [e]
theorem cl8 {j : Nat} (h : j < 8) : (nI j).toNatClampNeg = j := nI_clamp (by omega)
theorem hasL_of {σ : CS} {x y : Int32} (h : hasL σ x y = true) : ∃ j : Nat, j < 8 ∧ ∃ k : Nat, k < 8 ∧ x = nI j ∧ y = nI k ∧ ¬ σ.1 3 (j * 8 + k) ≤ 0 := by
  unfold hasL at h
  by_cases h1 : isN x = true
  · rw [if_pos h1] at h
    by_cases h2 : isN y = true
    · rw [if_pos h2] at h
      obtain ⟨j, hj, rfl⟩ := isN_of h1
      obtain ⟨k, hk, rfl⟩ := isN_of h2
      rw [cl8 hj, cl8 hk] at h
      by_cases h3 : σ.1 3 (j * 8 + k) ≤ 0
      · rw [if_pos h3] at h; cases h
      · exact ⟨j, hj, k, hk, rfl, rfl, h3⟩
    · rw [if_neg h2] at h; cases h
  · rw [if_neg h1] at h; cases h
theorem sw02 (x : Int32) : x = nI 0 ∨ (¬ x = nI 0 ∧ x = nI 1) ∨ (¬ x = nI 0 ∧ ¬ x = nI 1 ∧ x = nI 2) ∨ (¬ x = nI 0 ∧ ¬ x = nI 1 ∧ ¬ x = nI 2 ∧ (x.toInt < 0 ∨ 2 < x.toInt)) := by
  by_cases h0 : x = nI 0
  · exact Or.inl h0
  · by_cases h1 : x = nI 1
    · exact Or.inr (Or.inl ⟨h0, h1⟩)
    · by_cases h2 : x = nI 2
      · exact Or.inr (Or.inr (Or.inl ⟨h0, h1, h2⟩))
      · refine Or.inr (Or.inr (Or.inr ⟨h0, h1, h2, ?_⟩))
        by_cases h3 : x.toInt < 0
        · exact Or.inl h3
        · refine Or.inr ?_
          rcases Int.lt_or_le 2 x.toInt with h4 | h4
          · exact h4
          · exfalso
            have e0 : (nI 0).toInt = 0 := by decide
            have e1 : (nI 1).toInt = 1 := by decide
            have e2 : (nI 2).toInt = 2 := by decide
            rcases (show x.toInt = 0 ∨ x.toInt = 1 ∨ x.toInt = 2 by omega) with h | h | h
            · exact h0 (Int32.toInt_inj.mp (h.trans e0.symm))
            · exact h1 (Int32.toInt_inj.mp (h.trans e1.symm))
            · exact h2 (Int32.toInt_inj.mp (h.trans e2.symm))
section KM
variable {p : Program} {l : Launch} {e : Env} {R : Room} {s : State} {m : MethodId} {args : Array Value} {below : List Frame} {meth : Method} {c : Code} {H : Heap} {locs : List Loc} {cells slots : Nat} {Q : State → Prop}
variable {cc : ByteArray} {pc nL : Nat} {ls : Array Slot} {rest : List Value} {D : va_G} {w0 : Cond} {X : va_W} {cy : Nat → ClassId} {a : Nat → Nat} {σ : CS}
theorem k_min (S : CallFix p m c cc nL s args (w0 :: gw) RX2) (hsz : ls.size = nL) (hfr : 1 ≤ R.frames) (hlo : (rest.map fun v => v.category).sum + 13 ≤ R.locals) (hc : cells ≤ R.cells) (hs : slots ≤ R.slots) {u v : Nat} (hu : u < 8) (hv : v < 8) (hdg : decode cc pc = .ok (.invokestatic 183, 3))
    (kk : W p l e R s m args below meth c H locs cells slots Q (F0 m (pc + 3) ls (.int (nI (min u v)) :: rest))) : W p l e R s m args below meth c H locs cells slots Q (F0 m pc ls (.int (nI v) :: .int (nI u) :: rest)) := by
  refine va_mmin S.1 S.2.1 (S.2.2.1.trans hsz.symm) S.2.2.2.1 (S.2.2.2.2 _ (List.mem_cons_of_mem _ wm_309)) (S.2.2.2.2 _ (List.mem_cons_of_mem _ wm_310)) (S.2.2.2.2 _ (List.mem_cons_of_mem _ wm_56)) (S.2.2.2.2 _ (List.mem_cons_of_mem _ wm_311)) hfr hlo hc hs hdg ?_
  refine k_top ?_ kk
  by_cases h : u ≤ v
  · rw [Nat.min_eq_left h]
    by_cases h2 : u = v
    · subst h2; simp
    · rw [if_neg (nI_nlt h (by omega))]
  · rw [Nat.min_eq_right (by omega), if_pos (nI_lt (by omega) (by omega))]
theorem k_max (S : CallFix p m c cc nL s args (w0 :: gw) RX2) (hsz : ls.size = nL) (hfr : 1 ≤ R.frames) (hlo : (rest.map fun v => v.category).sum + 13 ≤ R.locals) (hc : cells ≤ R.cells) (hs : slots ≤ R.slots) {u v : Nat} (hu : u < 8) (hv : v < 8) (hdg : decode cc pc = .ok (.invokestatic 188, 3))
    (kk : W p l e R s m args below meth c H locs cells slots Q (F0 m (pc + 3) ls (.int (nI (max u v)) :: rest))) : W p l e R s m args below meth c H locs cells slots Q (F0 m pc ls (.int (nI v) :: .int (nI u) :: rest)) := by
  refine va_mmax S.1 S.2.1 (S.2.2.1.trans hsz.symm) S.2.2.2.1 (S.2.2.2.2 _ (List.mem_cons_of_mem _ wm_312)) (S.2.2.2.2 _ (List.mem_cons_of_mem _ wm_313)) (S.2.2.2.2 _ (List.mem_cons_of_mem _ wm_56)) (S.2.2.2.2 _ (List.mem_cons_of_mem _ wm_314)) hfr hlo hc hs hdg ?_
  refine k_top ?_ kk
  by_cases h : u < v
  · rw [Nat.max_eq_right (by omega), if_pos (nI_lt h (by omega))]
  · rw [Nat.max_eq_left (by omega), if_neg (nI_nlt (by omega) (by omega))]
theorem cl_knNumber {own : String} {Ts : List Cond} (S : CallFix p m c cc nL s args Ts own) (hK : va_K D vwCl (tyA cy) s) (hP : va_P D vwCl (X ++ cB cy a σ) H) (hdg : decode cc pc = .ok (.arraylength, 1)) (kk : W p l e R s m args below meth c H locs cells slots Q (F0 m (pc + 1) ls (.int (nI 64) :: rest))) : W p l e R s m args below meth c H locs cells slots Q (F0 m pc ls (.ref (a 8) :: rest)) :=
  va_alen S.1 S.2.1 hK hP (X.length + 8) 0 cw_8 (ty := .int) rfl rfl hdg kk
theorem cl_inNumber {own : String} {Ts : List Cond} (S : CallFix p m c cc nL s args Ts own) (hK : va_K D vwCl (tyA cy) s) (hP : va_P D vwCl (X ++ cB cy a σ) H) (hdg : decode cc pc = .ok (.arraylength, 1)) (kk : W p l e R s m args below meth c H locs cells slots Q (F0 m (pc + 1) ls (.int (nI 512) :: rest))) : W p l e R s m args below meth c H locs cells slots Q (F0 m pc ls (.ref (a 11) :: rest)) :=
  va_alen S.1 S.2.1 hK hP (X.length + 11) 0 cw_11 (ty := .int) rfl rfl hdg kk
end KM
def cClr (nb bb cb cn : Nat) (y : Int32) : Nat → Nat → Int32 → CS → CS
  | 0, _, _, σ => σ
  | n + 1, i, x, σ => if x ≤ 0 then σ else if σ.1 nb i ≤ 0 then cClr nb bb cb cn y n (i + 1) x σ else if y < σ.1 bb i then cClr nb bb cb cn y n (i + 1) (x + Int32.ofInt (-1)) σ else cClr nb bb cb cn y n (i + 1) (x + Int32.ofInt (-1)) (pClear nb cb cn i σ)
def cClrB (nb bb cb cn N : Nat) (y : Int32) (σ : CS) : CS := cClr nb bb cb cn y N 0 (σ.1 0 cn) σ
def up1 (u v : Nat) (σ : CS) : CS := sI 5 (v * 8 + u) (nI 1) (sI 5 (u * 8 + v) (nI 1) σ)
def cUp (u v : Nat) (σ : CS) : CS := if carr (up1 u v σ) u v = true then cSendAll (max u v) (min u v) (cSendAll (min u v) (max u v) (cTell (max u v) (cTell (min u v) (up1 u v σ)))) else up1 u v σ
def fTN (u i : Nat) (σ : CS) : CS := if σ.1 5 (u * 8 + i) = 0 then σ else if σ.1 1 i = 0 then σ else cTell i σ
def cTellN (u : Nat) (σ : CS) : CS := itr (fTN u) 8 0 σ
def fTA (i : Nat) (σ : CS) : CS := if σ.1 6 (i * 8 + i) ≤ 0 then σ else if σ.1 0 2 - σ.1 7 (i * 8 + i) = nI 40 then cTell i σ else σ
def cTellA (σ : CS) : CS := itr fTA 8 0 σ
def cRecvB (row f t o : Nat) (σ : CS) : CS := if o = t then (if σ.1 8 row ≤ σ.1 2 t then σ else cTell t (sI 2 t (σ.1 8 row) σ)) else if σ.1 8 row ≤ σ.1 6 (t * 8 + o) then (if σ.1 6 (t * 8 + o) ≤ σ.1 8 row then σ else cSendKnown t f o σ) else cSpread t o (nI f) (pWrite 6 7 0 3 (t * 8 + o) (σ.1 8 row) (σ.1 9 row) (σ.2 1 row) σ)
def cRecv (row : Nat) (σ : CS) : CS := pClear 8 1 4 row (cRecvB row (row / 64) (row / 8 % 8) (row % 8) σ)
def fArr (i : Nat) (σ : CS) : CS := if σ.1 8 i ≤ 0 then σ else if σ.1 10 i = σ.1 0 2 then cRecv i σ else σ
def cArr (σ : CS) : CS := if σ.1 0 4 = 0 then σ else itr fArr 512 0 σ
def fM0 (g i : Nat) (σ : CS) : CS := if i = g then sI 11 i (nI 0) σ else sI 11 i (nI 1000) σ
def fM3 (v i j : Nat) (σ : CS) : CS := if cStep σ v i j ≤ 0 then σ else if σ.1 11 i ≤ cStep σ v i j + σ.1 11 j then σ else sI 11 i (cStep σ v i j + σ.1 11 j) σ
def fM2 (v i : Nat) (σ : CS) : CS := itr (fM3 v i) 8 0 σ
def fM1 (v : Nat) (_ : Nat) (σ : CS) : CS := itr (fM2 v) 8 0 σ
def cMeas (v g : Nat) (σ : CS) : CS := itr (fM1 v) 7 1 (itr (fM0 g) 8 0 σ)
def fHop (σ : CS) (v i : Nat) : Option Int32 := if cStep σ v v i ≤ 0 then none else if cStep σ v v i + σ.1 11 i = σ.1 11 v then some (nI i) else none
def cHop (v g : Nat) (σ : CS) : Int32 := if v = g then -1 else if (cMeas v g σ).1 11 v < nI 1000 then (srch (fHop (cMeas v g σ) v) 8 0).getD (-1) else -1
def fNbr (σ : CS) (u i : Nat) (x : Int32) : Int32 := if carr σ u i = true then x ||| (nI 1 <<< (nI i &&& 31)) else x
def cNbr (σ : CS) (u : Nat) : Int32 := itr (fNbr σ u) 8 0 (nI 0)
def fJ2 (σ : CS) (i : Nat) (x : Int32) : Int32 := if (x >>> (nI i &&& 31)) &&& nI 1 = nI 1 then x ||| cNbr σ i else x
def fJ1 (σ : CS) (_ : Nat) (x : Int32) : Int32 := itr (fJ2 σ) 8 0 x
def cJoin (σ : CS) (u : Nat) : Int32 := itr (fJ1 σ) 7 1 (nI 1 <<< (nI u &&& 31))
def fAgr (σ : CS) (o i : Nat) : Option Int32 := if (cJoin σ o >>> (nI i &&& 31)) &&& nI 1 = nI 1 then (if σ.1 6 (i * 8 + o) = σ.1 6 (o * 8 + o) then none else some (nI 0)) else none
def cAgr (σ : CS) (o : Nat) : Bool := (srch (fAgr σ o) 8 0).isNone
def fSet (σ : CS) (i : Nat) : Option Int32 := if σ.1 1 i = 0 then none else if cAgr σ i = true then none else some (nI 0)
def cSettled (σ : CS) : Bool := if σ.1 0 4 ≤ 0 then (srch (fSet σ) 8 0).isNone else false
def dGuard (σ : CS) (x y : Int32) : Bool := if isN x = true then if isN y = true then if σ.1 1 x.toNatClampNeg = 0 then false else true else false else false
def cDistS (x y : Int32) (σ : CS) : CS := if isN x = true then if isN y = true then if σ.1 1 x.toNatClampNeg = 0 then σ else cMeas x.toNatClampNeg y.toNatClampNeg σ else σ else σ
def cDist (x y : Int32) (σ : CS) : Int32 := if isN x = true then if isN y = true then if σ.1 1 x.toNatClampNeg = 0 then -1 else if nI 1000 ≤ (cMeas x.toNatClampNeg y.toNatClampNeg σ).1 11 x.toNatClampNeg then -1 else (cMeas x.toNatClampNeg y.toNatClampNeg σ).1 11 x.toNatClampNeg else -1 else -1
def cNext (x y : Int32) (σ : CS) : Int32 := if isN x = true then if isN y = true then if σ.1 1 x.toNatClampNeg = 0 then -1 else cHop x.toNatClampNeg y.toNatClampNeg σ else -1 else -1
def cNews (x y z : Int32) (σ : CS) : Int32 := if isN x = true then if isN y = true then if σ.1 6 (x.toNatClampNeg * 8 + y.toNatClampNeg) = 0 then -1 else if z = nI 0 then σ.1 6 (x.toNatClampNeg * 8 + y.toNatClampNeg) else if z = nI 1 then σ.1 0 2 - σ.1 7 (x.toNatClampNeg * 8 + y.toNatClampNeg) else if z = nI 2 then cntF (σ.2 0 (x.toNatClampNeg * 8 + y.toNatClampNeg)) else if z < nI 10 then -1 else if isN (z - nI 10) = true then costF (σ.2 0 (x.toNatClampNeg * 8 + y.toNatClampNeg)) (z - nI 10).toNatClampNeg else -1 else -1 else -1
