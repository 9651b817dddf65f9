/-! NUMBERS, LOOPS, COUNTS -/
theorem t0 : (0 : Int32).toInt = 0 := by decide
theorem tlt {a b : Int32} : a < b ↔ a.toInt < b.toInt := Int32.lt_iff_toInt_lt
theorem tle {a b : Int32} : a ≤ b ↔ a.toInt ≤ b.toInt := Int32.le_iff_toInt_le
theorem teq {a b : Int32} : a = b ↔ a.toInt = b.toInt := Int32.toInt_inj.symm
theorem te0 {a : Int32} : a = 0 ↔ a.toInt = 0 := by rw [teq, t0]
theorem tr (a : Int32) : -2147483648 ≤ a.toInt ∧ a.toInt < 2147483648 := ⟨Int32.le_toInt a, Int32.toInt_lt a⟩
theorem tA {a b : Int32} (h1 : -2147483648 ≤ a.toInt + b.toInt) (h2 : a.toInt + b.toInt < 2147483648) : (a + b).toInt = a.toInt + b.toInt := by
  rw [Int32.toInt_add]
  exact Int.bmod_eq_of_le (by omega) (by omega)
theorem tS {a b : Int32} (h1 : -2147483648 ≤ a.toInt - b.toInt) (h2 : a.toInt - b.toInt < 2147483648) : (a - b).toInt = a.toInt - b.toInt := by
  rw [Int32.toInt_sub]
  exact Int.bmod_eq_of_le (by omega) (by omega)
theorem tn {n : Nat} (h : n < 2 ^ 31) : (nI n).toInt = (n : Int) := nI_toInt h
theorem tn1 : (nI 1).toInt = 1 := by decide
theorem tnm : (-1 : Int32).toInt = -1 := by decide
theorem nI0 : nI 0 = (0 : Int32) := by decide
/-- loops -/
theorem itr_snoc {α : Type} {f : Nat → α → α} : ∀ (n i : Nat) (s : α), itr f (n + 1) i s = f (i + n) (itr f n i s) := by
  intro n
  induction n with
  | zero => intro i s; rfl
  | succ n ih =>
    intro i s
    show itr f (n + 1) (i + 1) (f i s) = _
    rw [ih]
    show f (i + 1 + n) (itr f n (i + 1) (f i s)) = f (i + (n + 1)) (itr f n (i + 1) (f i s))
    rw [show i + 1 + n = i + (n + 1) by omega]
theorem itr_rel {α β : Type} {f : Nat → α → α} {g : Nat → β → β} (Q : Nat → α → β → Prop) (i : Nat) (s : α) (t : β) (h0 : Q 0 s t) : ∀ n : Nat, (∀ j s t, j < n → Q j s t → Q (j + 1) (f (i + j) s) (g (i + j) t)) → Q n (itr f n i s) (itr g n i t) := by
  intro n
  induction n with
  | zero => intro _; exact h0
  | succ n ih =>
    intro h
    rw [itr_snoc, itr_snoc]
    exact h n _ _ (by omega) (ih (fun j s t hj => h j s t (by omega)))
theorem itr_ind {α : Type} {f : Nat → α → α} (Q : Nat → α → Prop) (i : Nat) (s : α) (h0 : Q 0 s) : ∀ n : Nat, (∀ j s, j < n → Q j s → Q (j + 1) (f (i + j) s)) → Q n (itr f n i s) := by
  intro n
  induction n with
  | zero => intro _; exact h0
  | succ n ih =>
    intro h
    rw [itr_snoc]
    exact h n _ (by omega) (ih (fun j s hj => h j s (by omega)))
theorem itr_id {α : Type} {f : Nat → α → α} (i : Nat) (s : α) : ∀ n : Nat, (∀ j, j < n → f (i + j) s = s) → itr f n i s = s := by
  intro n h
  exact itr_ind (fun _ t => t = s) i s rfl n (fun j t hj ht => by rw [ht]; exact h j hj)
theorem itr_add {α : Type} {f : Nat → α → α} : ∀ (m n i : Nat) (s : α), itr f (m + n) i s = itr f n (i + m) (itr f m i s) := by
  intro m n
  induction n with
  | zero => intro i s; rfl
  | succ n ih =>
    intro i s
    rw [show m + (n + 1) = (m + n) + 1 by omega, itr_snoc, ih, itr_snoc, show i + (m + n) = i + m + n by omega]
theorem itr_congr {α : Type} {f g : Nat → α → α} (i : Nat) (s : α) : ∀ n : Nat, (∀ j s, j < n → f (i + j) s = g (i + j) s) → itr f n i s = itr g n i s := by
  intro n
  induction n with
  | zero => intro _; rfl
  | succ n ih =>
    intro h
    rw [itr_snoc, itr_snoc, ih (fun j s hj => h j s (by omega)), h n _ (by omega)]
/-- a loop that fills a part of one array of the reference -/
theorem fill {b base : Nat} {v : Nat → Int32} {f : Nat → MS → MS} {τ0 : MS} (hf : ∀ i τ', (∀ k, k ≠ b → τ' k = τ0 k) → f i τ' = mS b (base + i) (v i) τ') (n : Nat) : (∀ k, k ≠ b → (itr f n 0 τ0) k = τ0 k) ∧ ∀ j, (itr f n 0 τ0) b j = if base ≤ j ∧ j < base + n then v (j - base) else τ0 b j := by
  induction n with
  | zero => exact ⟨fun _ _ => rfl, fun j => by rw [if_neg (by omega)]; rfl⟩
  | succ n ih =>
    obtain ⟨h1, h2⟩ := ih
    rw [itr_snoc, Nat.zero_add, hf n _ h1]
    refine ⟨fun k hk => by rw [mS_ne hk]; exact h1 k hk, fun j => ?_⟩
    rw [mS_at]
    by_cases e : j = base + n
    · rw [e, pk_us, if_pos (by omega), show base + n - base = n by omega]
    · rw [pk_un e, h2]
      by_cases e2 : base ≤ j ∧ j < base + n
      · rw [if_pos e2, if_pos (by omega)]
      · rw [if_neg e2, if_neg (by omega)]
/-- how many of the first n aren't 0 -/
def cntN (f : Nat → Int32) : Nat → Nat
  | 0 => 0
  | n + 1 => cntN f n + (if f n = 0 then 0 else 1)
theorem cntN_le (f : Nat → Int32) : ∀ n, cntN f n ≤ n := by
  intro n
  induction n with
  | zero => exact Nat.le_refl _
  | succ n ih => show cntN f n + _ ≤ n + 1; split <;> omega
theorem cntN_same {f g : Nat → Int32} : ∀ n, (∀ j, j < n → (f j = 0 ↔ g j = 0)) → cntN f n = cntN g n := by
  intro n
  induction n with
  | zero => intro _; rfl
  | succ n ih =>
    intro h
    show cntN f n + _ = cntN g n + _
    rw [ih (fun j hj => h j (by omega))]
    by_cases e : f n = 0
    · rw [if_pos e, if_pos ((h n (by omega)).mp e)]
    · rw [if_neg e, if_neg (fun q => e ((h n (by omega)).mpr q))]
theorem cntN_out {f : Nat → Int32} {j : Nat} {x : Int32} : ∀ n, n ≤ j → cntN (upd f j x) n = cntN f n := fun n h => cntN_same n (fun i hi => by rw [pk_un (by omega)])
theorem cntN_upd {f : Nat → Int32} {j : Nat} {x : Int32} : ∀ n, j < n → cntN (upd f j x) n + (if f j = 0 then 0 else 1) = cntN f n + (if x = 0 then 0 else 1) := by
  intro n
  induction n with
  | zero => intro h; omega
  | succ n ih =>
    intro h
    show cntN (upd f j x) n + _ + _ = cntN f n + _ + _
    by_cases e : j = n
    · subst e
      rw [cntN_out j (Nat.le_refl _), pk_us]
      omega
    · have := ih (by omega)
      rw [pk_un (show n ≠ j from fun q => e q.symm)]
      omega
theorem cntN_0 {f : Nat → Int32} : ∀ n, cntN f n = 0 → ∀ j, j < n → f j = 0 := by
  intro n
  induction n with
  | zero => intro _ j h; omega
  | succ n ih =>
    intro h j hj
    have h : cntN f n + (if f n = 0 then 0 else 1) = 0 := h
    by_cases e : f n = 0
    · rw [if_pos e] at h
      rcases Nat.lt_or_ge j n with h1 | h1
      · exact ih h j h1
      · rw [show j = n by omega]; exact e
    · rw [if_neg e] at h; omega
theorem cntN_pos {f : Nat → Int32} {n j : Nat} (hj : j < n) (h : f j ≠ 0) : 0 < cntN f n := by
  rcases Nat.eq_zero_or_pos (cntN f n) with e | e
  · exact absurd (cntN_0 n e j hj) h
  · exact e
theorem nI_inj {a b : Nat} (ha : a < 2 ^ 31) (hb : b < 2 ^ 31) (h : nI a = nI b) : a = b := by
  have := congrArg Int32.toInt h
  rw [tn ha, tn hb] at this
  omega
