/-! THE CLASS'S PACKETS: P of them; banks 12 goal, 13 traceLength, 14 life, 15 state, 16 last, 17 towards, 18 arrival, 19 + p the trace of packet p; cells a 16 (the array), a (17 + 2 p), a (18 + 2 p) -/
abbrev pObj (a : Nat → Nat) (σ : CS) (p : Nat) : Nat × va_E := (a (17 + 2 * p), .inr (0, [.int (σ.1 12 p), .ref (a (18 + 2 * p)), .int (σ.1 13 p), .int (σ.1 14 p), .int (σ.1 15 p), .int (σ.1 16 p), .int (σ.1 17 p), .int (σ.1 18 p)]))
abbrev pTr (cy : Nat → ClassId) (a : Nat → Nat) (σ : CS) (p : Nat) : Nat × va_E := (a (18 + 2 * p), .inl (cy 0, 31, .inl (σ.1 (19 + p))))
def pRow (a : Nat → Nat) (P : Nat) : Nat → Option Nat := fun i => if i < P then some (a (17 + 2 * i)) else none
abbrev pArr (cy : Nat → ClassId) (a : Nat → Nat) (P : Nat) : Nat × va_E := (a 16, .inl (cy 3, 20, .inr (.inr (.inr (.inr (pRow a P))))))
def cK (cy : Nat → ClassId) (a : Nat → Nat) (P : Nat) (σ : CS) : va_W := pArr cy a P :: ((List.range P).map (pObj a σ) ++ (List.range P).map (pTr cy a σ))
theorem cK_len {cy : Nat → ClassId} {a : Nat → Nat} {P : Nat} {σ : CS} : (cK cy a P σ).length = 1 + P + P := by simp [cK]; omega
theorem map_set {α : Type} (f g : Nat → α) {P r : Nat} (h : ∀ q, q < P → q ≠ r → f q = g q) : ((List.range P).map f).set r (g r) = (List.range P).map g := by
  apply List.ext_getElem
  · simp
  · intro i h1 h2
    simp only [List.getElem_set, List.getElem_map, List.getElem_range]
    split
    · rename_i e; subst e; rfl
    · rename_i e
      exact h i (by simpa using h2) (fun q => e q.symm)
theorem cK_eq {cy : Nat → ClassId} {a : Nat → Nat} {P : Nat} {σ ρ : CS} (h : ∀ k, 12 ≤ k → ρ.1 k = σ.1 k) : cK cy a P σ = cK cy a P ρ := by
  have e1 : pObj a σ = pObj a ρ := by
    funext p
    simp only [pObj, h 12 (by omega), h 13 (by omega), h 14 (by omega), h 15 (by omega), h 16 (by omega), h 17 (by omega), h 18 (by omega)]
  have e2 : pTr cy a σ = pTr cy a ρ := by
    funext p
    simp only [pTr, h (19 + p) (by omega)]
  unfold cK
  rw [e1, e2]
section PW
variable {X : va_W} {cy : Nat → ClassId} {a : Nat → Nat} {P r : Nat} {σ ρ : CS}
abbrev cW (X : va_W) (cy : Nat → ClassId) (a : Nat → Nat) (P : Nat) (σ : CS) : va_W := (X ++ cK cy a P σ) ++ cB cy a σ
theorem pk_wa : (cW X cy a P σ)[X.length]? = some (pArr cy a P) := by
  rw [List.getElem?_append_left (by rw [List.length_append, cK_len]; omega), List.getElem?_append_right (Nat.le_refl _), Nat.sub_self]; rfl
theorem pk_wo (hr : r < P) : (cW X cy a P σ)[X.length + (1 + r)]? = some (pObj a σ r) := by
  rw [List.getElem?_append_left (by rw [List.length_append, cK_len]; omega), List.getElem?_append_right (by omega), Nat.add_sub_cancel_left]
  show (pArr cy a P :: _)[1 + r]? = _
  rw [Nat.add_comm 1 r, List.getElem?_cons_succ, List.getElem?_append_left (by simpa using hr)]
  simp [hr]
theorem pk_wt (hr : r < P) : (cW X cy a P σ)[X.length + (1 + (P + r))]? = some (pTr cy a σ r) := by
  rw [List.getElem?_append_left (by rw [List.length_append, cK_len]; omega), List.getElem?_append_right (by omega), Nat.add_sub_cancel_left]
  show (pArr cy a P :: _)[1 + (P + r)]? = _
  rw [Nat.add_comm 1 (P + r), List.getElem?_cons_succ, List.getElem?_append_right (by simp)]
  simp [hr]
theorem pk_so (hr : r < P) (hb : cB cy a σ = cB cy a ρ) (ho : ∀ q, q < P → q ≠ r → pObj a σ q = pObj a ρ q) (ht : ∀ q, q < P → pTr cy a σ q = pTr cy a ρ q) : (cW X cy a P σ).set (X.length + (1 + r)) (pObj a ρ r) = cW X cy a P ρ := by
  unfold cW
  rw [List.set_append_left _ _ (by rw [List.length_append, cK_len]; omega), List.set_append_right _ _ (by omega), Nat.add_sub_cancel_left, hb]
  congr 2
  show (pArr cy a P :: _).set (1 + r) _ = pArr cy a P :: _
  rw [Nat.add_comm 1 r, List.set_cons_succ, List.set_append_left _ _ (by simpa using hr), map_set _ _ ho]
  congr 2
  exact List.map_congr_left (fun q hq => ht q (by simpa using hq))
theorem pk_st (hr : r < P) (hb : cB cy a σ = cB cy a ρ) (ho : ∀ q, q < P → pObj a σ q = pObj a ρ q) (ht : ∀ q, q < P → q ≠ r → pTr cy a σ q = pTr cy a ρ q) : (cW X cy a P σ).set (X.length + (1 + (P + r))) (pTr cy a ρ r) = cW X cy a P ρ := by
  unfold cW
  rw [List.set_append_left _ _ (by rw [List.length_append, cK_len]; omega), List.set_append_right _ _ (by omega), Nat.add_sub_cancel_left, hb]
  congr 2
  show (pArr cy a P :: _).set (1 + (P + r)) _ = pArr cy a P :: _
  rw [Nat.add_comm 1 (P + r), List.set_cons_succ, List.set_append_right _ _ (by simp)]
  rw [show P + r - ((List.range P).map (pObj a σ)).length = r by simp, map_set _ _ ht]
  congr 2
  exact List.map_congr_left (fun q hq => ho q (by simpa using hq))
theorem sI_k {k i j : Nat} {v : Int32} {σ : CS} (h : i ≠ k) : (sI k j v σ).1 i = σ.1 i := va_up_ne _ _ h
theorem sI_at {k j : Nat} {v : Int32} {σ : CS} : (sI k j v σ).1 k = upd (σ.1 k) j v := va_up_self _ _ _
end PW
