/-! SHORTEST WAYS: rounds of relaxing, in natural numbers; 1000 stands for none -/
def cntP (p : Nat → Prop) [DecidablePred p] : Nat → Nat
  | 0 => 0
  | n + 1 => cntP p n + (if p n then 1 else 0)
theorem cntP_le {p : Nat → Prop} [DecidablePred p] : ∀ n, cntP p n ≤ n := by
  intro n
  induction n with
  | zero => exact Nat.le_refl _
  | succ n ih => show cntP p n + _ ≤ _; split <;> omega
theorem cntP_mono {p q : Nat → Prop} [DecidablePred p] [DecidablePred q] : ∀ n, (∀ k, k < n → p k → q k) → cntP p n ≤ cntP q n := by
  intro n
  induction n with
  | zero => intro _; exact Nat.le_refl _
  | succ n ih =>
    intro h
    have := ih (fun k hk => h k (by omega))
    show cntP p n + _ ≤ cntP q n + _
    by_cases hp : p n
    · rw [if_pos hp, if_pos (h n (by omega) hp)]; omega
    · rw [if_neg hp]; omega
theorem cntP_lt {p q : Nat → Prop} [DecidablePred p] [DecidablePred q] {j : Nat} : ∀ n, (∀ k, k < n → p k → q k) → j < n → ¬ p j → q j → cntP p n + 1 ≤ cntP q n := by
  intro n
  induction n with
  | zero => intro _ h; omega
  | succ n ih =>
    intro h hj hp hq
    show cntP p n + _ + 1 ≤ cntP q n + _
    by_cases e : j = n
    · subst e
      rw [if_neg hp, if_pos hq]
      have := cntP_mono j (fun k hk => h k (by omega))
      omega
    · have := ih (fun k hk => h k (by omega)) (by omega) hp hq
      by_cases hp : p n
      · rw [if_pos hp, if_pos (h n (by omega) hp)]; omega
      · rw [if_neg hp]; omega
theorem cntP_full {p : Nat → Prop} [DecidablePred p] {j n : Nat} (hj : j < n) (h : ¬ p j) : cntP p n + 1 ≤ n := by
  have := cntP_lt (p := p) (q := fun _ => True) n (fun _ _ _ => trivial) hj h trivial
  have := cntP_le (p := fun _ => True) n
  omega
def sumN (f : Nat → Nat) : Nat → Nat
  | 0 => 0
  | n + 1 => sumN f n + f n
theorem sumN_le {f h : Nat → Nat} : ∀ n, (∀ k, k < n → f k ≤ h k) → sumN f n ≤ sumN h n := by
  intro n
  induction n with
  | zero => intro _; exact Nat.le_refl _
  | succ n ih =>
    intro q
    have := ih (fun k hk => q k (by omega))
    have := q n (by omega)
    show sumN f n + f n ≤ sumN h n + h n
    omega
theorem sumN_lt {f h : Nat → Nat} {j : Nat} : ∀ n, (∀ k, k < n → f k ≤ h k) → j < n → f j < h j → sumN f n < sumN h n := by
  intro n
  induction n with
  | zero => intro _ h; omega
  | succ n ih =>
    intro q hj hlt
    show sumN f n + f n < sumN h n + h n
    by_cases e : j = n
    · subst e
      have := sumN_le j (fun k hk => q k (by omega))
      omega
    · have := ih (fun k hk => q k (by omega)) (by omega) hlt
      have := q n (by omega)
      omega
def uN (f : Nat → Nat) (k x : Nat) : Nat → Nat := fun j => if j = k then x else f j
theorem uN_s {f : Nat → Nat} {k x : Nat} : uN f k x k = x := if_pos rfl
theorem uN_n {f : Nat → Nat} {k x j : Nat} (h : j ≠ k) : uN f k x j = f j := if_neg h
def rx (w : Nat → Nat → Nat) (i j : Nat) (f : Nat → Nat) : Nat → Nat := if w i j = 0 then f else if f i ≤ w i j + f j then f else uN f i (w i j + f j)
def rd2 (w : Nat → Nat → Nat) (i : Nat) (f : Nat → Nat) : Nat → Nat := itr (rx w i) 8 0 f
def rd (w : Nat → Nat → Nat) (f : Nat → Nat) : Nat → Nat := itr (rd2 w) 8 0 f
def rds (w : Nat → Nat → Nat) : Nat → (Nat → Nat) → Nat → Nat
  | 0, f => f
  | n + 1, f => rds w n (rd w f)
def ff (g : Nat) : Nat → Nat := fun i => if i = g then 0 else 1000
section DI
variable {w : Nat → Nat → Nat}
theorem rx_le {i j : Nat} {f : Nat → Nat} (k : Nat) : rx w i j f k ≤ f k := by
  unfold rx
  split
  · exact Nat.le_refl _
  · split
    · exact Nat.le_refl _
    · by_cases e : k = i
      · rw [e, uN_s]; omega
      · rw [uN_n e]; exact Nat.le_refl _
theorem rx_out {i j : Nat} {f : Nat → Nat} {k : Nat} (h : k ≠ i) : rx w i j f k = f k := by
  unfold rx
  split
  · rfl
  · split
    · rfl
    · exact uN_n h
theorem rd2_le {i : Nat} {f : Nat → Nat} (k : Nat) : rd2 w i f k ≤ f k := itr_inv (P := fun q : Nat → Nat => q k ≤ f k) (fun i s h => Nat.le_trans (rx_le k) h) 8 0 f (Nat.le_refl _)
theorem rd_le {f : Nat → Nat} (k : Nat) : rd w f k ≤ f k := itr_inv (P := fun q : Nat → Nat => q k ≤ f k) (fun i s h => Nat.le_trans (rd2_le k) h) 8 0 f (Nat.le_refl _)
theorem rd_out {f : Nat → Nat} {k : Nat} (h : 8 ≤ k) : rd w f k = f k := itr_ind (fun _ q => q k = f k) 0 f rfl 8 (fun j s hj hs => by
  refine (itr_inv (P := fun q : Nat → Nat => q k = s k) (fun i q e => (rx_out (by omega)).trans e) 8 0 s rfl).trans hs)
theorem rds_le {n : Nat} : ∀ {f : Nat → Nat} (k : Nat), rds w n f k ≤ f k := by
  induction n with
  | zero => intro f k; exact Nat.le_refl _
  | succ n ih => intro f k; exact Nat.le_trans (ih (f := rd w f) k) (rd_le k)
theorem rds_out {n : Nat} : ∀ {f : Nat → Nat} {k : Nat}, 8 ≤ k → rds w n f k = f k := by
  induction n with
  | zero => intro f k _; rfl
  | succ n ih => intro f k h; exact (ih (f := rd w f) h).trans (rd_out h)
theorem rds_add {b : Nat} : ∀ (a : Nat) (f : Nat → Nat), rds w (a + b) f = rds w b (rds w a f) := by
  intro a
  induction a with
  | zero => intro f; rw [Nat.zero_add]; rfl
  | succ a ih =>
    intro f
    rw [show a + 1 + b = (a + b) + 1 by omega]
    exact ih (rd w f)
theorem rds_st {n : Nat} {f : Nat → Nat} (h : rd w f = f) : rds w n f = f := by
  induction n with
  | zero => rfl
  | succ n ih => show rds w n (rd w f) = f; rw [h]; exact ih
theorem rd_ne {f : Nat → Nat} (h : rd w f ≠ f) : sumN (rd w f) 8 < sumN f 8 := by
  by_cases q : ∃ k, k < 8 ∧ rd w f k ≠ f k
  · obtain ⟨k, hk, e⟩ := q
    exact sumN_lt 8 (fun k _ => rd_le k) hk (by have := rd_le (w := w) (f := f) k; omega)
  · exfalso
    apply h
    funext k
    by_cases hk : k < 8
    · exact Decidable.byContradiction (fun e => q ⟨k, hk, e⟩)
    · exact rd_out (by omega)
theorem rds_lim : ∀ (m : Nat) (f : Nat → Nat), sumN f 8 ≤ m → ∃ K, rd w (rds w K f) = rds w K f := by
  intro m
  induction m with
  | zero =>
    intro f h
    refine ⟨0, ?_⟩
    exact Classical.byContradiction (fun e => by have := rd_ne (w := w) (f := f) e; omega)
  | succ m ih =>
    intro f h
    by_cases e : rd w f = f
    · exact ⟨0, e⟩
    · obtain ⟨K, hK⟩ := ih (rd w f) (by have := rd_ne e; omega)
      exact ⟨K + 1, hK⟩
theorem itr_hit {α : Type} {f : Nat → α → α} {n i0 j : Nat} {s : α} (hj : j < n) (Q R : α → Prop) (h1 : ∀ m s, R s → R (f m s)) (h2 : ∀ s, R s → Q (f (i0 + j) s)) (h3 : ∀ m s, Q s → Q (f m s)) (hs : R s) : Q (itr f n i0 s) :=
  (itr_ind (f := f) (fun m s => R s ∧ (j < m → Q s)) i0 s ⟨hs, fun h => absurd h (by omega)⟩ n (fun m s hm h => ⟨h1 _ _ h.1, fun q => by
    by_cases e : j = m
    · rw [← e]; exact h2 s h.1
    · exact h3 _ _ (h.2 (by omega))⟩)).2 hj
theorem rd_relax {f : Nat → Nat} {i j : Nat} (hi : i < 8) (hj : j < 8) (hw : w i j ≠ 0) : rd w f i ≤ w i j + f j := by
  refine itr_hit hi (fun q : Nat → Nat => q i ≤ w i j + f j) (fun q => ∀ k, q k ≤ f k) (fun m s h k => Nat.le_trans (rd2_le k) (h k)) (fun s h => ?_) (fun m s h => Nat.le_trans (rd2_le i) h) (fun k => Nat.le_refl _)
  rw [Nat.zero_add]
  refine itr_hit hj (fun q : Nat → Nat => q i ≤ w i j + f j) (fun q => ∀ k, q k ≤ f k) (fun m s h k => Nat.le_trans (rx_le k) (h k)) (fun s h => ?_) (fun m s h => Nat.le_trans (rx_le i) h) h
  rw [Nat.zero_add]
  have := h j
  unfold rx
  rw [if_neg hw]
  split
  · omega
  · rw [uN_s]; omega
/-- every value has a way to come from -/
def Sup (w : Nat → Nat → Nat) (g : Nat) (f : Nat → Nat) : Prop := f g = 0 ∧ ∀ i, i < 8 → f i ≤ 1000 ∧ (i ≠ g → f i = 1000 ∨ ∃ j, j < 8 ∧ w i j ≠ 0 ∧ w i j + f j ≤ f i)
theorem sup_rx {g i j : Nat} {f : Nat → Nat} (h : Sup w g f) (hj : j < 8) : Sup w g (rx w i j f) := by
  by_cases h1 : w i j = 0
  · unfold rx; rw [if_pos h1]; exact h
  · by_cases h2 : f i ≤ w i j + f j
    · unfold rx; rw [if_neg h1, if_pos h2]; exact h
    · have e : rx w i j f = uN f i (w i j + f j) := by unfold rx; rw [if_neg h1, if_neg h2]
      rw [e]
      obtain ⟨hg, hs⟩ := h
      have hig : g ≠ i := fun q => by rw [← q, hg] at h2; omega
      have hij : j ≠ i := fun q => by rw [q] at h2; omega
      have hle : ∀ k, uN f i (w i j + f j) k ≤ f k := fun k => by
        by_cases q : k = i
        · rw [q, uN_s]; omega
        · rw [uN_n q]; exact Nat.le_refl _
      refine ⟨by rw [uN_n hig]; exact hg, fun k hk => ⟨Nat.le_trans (hle k) (hs k hk).1, fun hkg => ?_⟩⟩
      by_cases q : k = i
      · right
        rw [q, uN_s]
        exact ⟨j, hj, h1, by rw [uN_n hij]; exact Nat.le_refl _⟩
      · rw [uN_n q]
        rcases (hs k hk).2 hkg with a | ⟨m, a1, a2, a3⟩
        · exact Or.inl a
        · exact Or.inr ⟨m, a1, a2, by have := hle m; omega⟩
theorem sup_rd {g : Nat} {f : Nat → Nat} (h : Sup w g f) : Sup w g (rd w f) := itr_inv (P := Sup w g) (fun i s hs => itr_invN (P := Sup w g) (N := 8) (fun j s hj hs => sup_rx hs hj) 8 0 s (by omega) hs) 8 0 f h
theorem sup_rds {g n : Nat} : ∀ {f : Nat → Nat}, Sup w g f → Sup w g (rds w n f) := by
  induction n with
  | zero => intro f h; exact h
  | succ n ih => intro f h; exact ih (sup_rd h)
theorem sup_0 {g : Nat} : Sup w g (ff g) := by
  refine ⟨if_pos rfl, fun i _ => ⟨?_, fun h => Or.inl (if_neg h)⟩⟩
  unfold ff
  split <;> omega
/-- seven rounds are enough -/
theorem rds_7 {g : Nat} (hg : g < 8) : rd w (rds w 7 (ff g)) = rds w 7 (ff g) := by
  obtain ⟨K, hK⟩ := rds_lim (w := w) (sumN (ff g) 8) (ff g) (Nat.le_refl _)
  have SF : Sup w g (rds w K (ff g)) := sup_rds sup_0
  have sand : ∀ r k, rds w K (ff g) k ≤ rds w r (ff g) k := fun r k => by
    rcases Nat.lt_or_ge K r with h | h
    · obtain ⟨d, hd⟩ : ∃ d, r = K + d := ⟨r - K, by omega⟩
      rw [hd, rds_add, rds_st hK]; exact Nat.le_refl _
    · obtain ⟨d, hd⟩ : ∃ d, K = r + d := ⟨K - r, by omega⟩
      rw [hd, rds_add]; exact rds_le k
  have FO : ∀ k, 8 ≤ k → rds w K (ff g) k = ff g k := fun k hk => rds_out hk
  generalize rds w K (ff g) = F at *
  have key : ∀ r i, i < 8 → F i < 1000 → cntP (fun k => F k < F i) 8 ≤ r → rds w r (ff g) i = F i := by
    intro r
    induction r with
    | zero =>
      intro i hi hf hr
      by_cases e : i = g
      · rw [e, SF.1]; exact if_pos rfl
      · exfalso
        rcases (SF.2 i hi).2 e with a | ⟨j, a1, a2, a3⟩
        · omega
        · have := cntP_lt (p := fun _ => False) (q := fun k => F k < F i) (j := j) 8 (fun _ _ h => absurd h id) a1 id (by omega)
          omega
    | succ r ih =>
      intro i hi hf hr
      by_cases e : i = g
      · rw [e, SF.1]; exact (sup_rds (n := r + 1) sup_0).1
      · rcases (SF.2 i hi).2 e with a | ⟨j, a1, a2, a3⟩
        · omega
        · have hlt := cntP_lt (p := fun k => F k < F j) (q := fun k => F k < F i) (j := j) 8 (fun _ _ h => by omega) a1 (by omega) (by omega)
          have ej := ih j a1 (by omega) (by omega)
          have h1 : rds w (r + 1) (ff g) i ≤ w i j + rds w r (ff g) j := by
            rw [rds_add r]
            exact rd_relax hi a1 a2
          have h2 := sand (r + 1) i
          omega
  have e7 : rds w 7 (ff g) = F := by
    funext i
    by_cases hi : i < 8
    · by_cases hf : F i < 1000
      · exact key 7 i hi hf (by have := cntP_full (p := fun k => F k < F i) hi (by omega); omega)
      · have h1 := sand 7 i
        have h2 := ((sup_rds (w := w) (n := 7) (sup_0 (g := g))).2 i hi).1
        have h3 := (SF.2 i hi).1
        omega
    · rw [FO i (by omega)]; exact rds_out (by omega)
  rw [e7]; exact hK
end DI
