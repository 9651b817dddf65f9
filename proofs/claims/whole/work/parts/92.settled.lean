/-! SETTLED -/
theorem fly_cnt {τ : MS} : ∀ n, (∀ j, j < n → 0 ≤ (τ 12 j).toInt) → itr (fFly τ) n 0 (nI 0) = nI (cntN (τ 12) n) := by
  intro n
  induction n with
  | zero => intro _; rfl
  | succ n ih =>
    intro h
    rw [itr_snoc, ih (fun j hj => h j (by omega)), Nat.zero_add]
    show (if τ 12 n ≤ 0 then _ else _) = nI (cntN (τ 12) n + (if τ 12 n = 0 then 0 else 1))
    by_cases e : τ 12 n = 0
    · rw [if_pos (by rw [e]; exact tle.mpr (Int.le_refl _)), if_pos e]; rfl
    · rw [if_neg (fun q => e (te0.mpr (by have := tle.mp q; have := h n (by omega); rw [t0] at *; omega))), if_neg e, nI_add]
theorem fly_eq {M : Int} {σ : CS} {τ : MS} (R : Rel M 600 σ τ) : σ.1 0 4 = mFly τ := by
  obtain ⟨T, N, U, K, F, Hh, Ca, C⟩ := R
  unfold mFly
  have e : (mT0 τ) 12 = τ 12 := rfl
  have h1 : itr (fFly (mT0 τ)) 512 0 (nI 0) = nI (cntN ((mT0 τ) 12) 512) := fly_cnt 512 (fun j hj => by rw [e]; exact (F j hj (by omega)).2.1)
  rw [h1, e, C.2.2.2]
  exact congrArg nI (cntN_same 512 (fun j hj => by rw [(F j hj (by omega)).1]))
theorem srch_none {f : Nat → Option Int32} : ∀ n, (srch f n 0).isNone = true ↔ ∀ i, i < n → f i = none := by
  intro n
  induction n with
  | zero => exact ⟨fun _ i h => by omega, fun _ => rfl⟩
  | succ n ih =>
    rw [srch_snoc, Nat.zero_add]
    constructor
    · intro h i hi
      cases hs : srch f n 0 with
      | some r => rw [hs] at h; cases h
      | none =>
        rw [hs] at h ih
        by_cases e : i = n
        · rw [e]
          have h : (f n).isNone = true := h
          exact Option.isNone_iff_eq_none.mp h
        · exact ih.mp rfl i (by omega)
    · intro h
      have h1 := ih.mpr (fun i hi => h i (by omega))
      rw [Option.isNone_iff_eq_none.mp h1, h n (by omega)]
      rfl
/-- who is reached over links that carry -/
def reach (c : Nat → Nat → Prop) (o i : Nat) : Prop := ∀ Q : Nat → Prop, Q o → (∀ a b, a < 8 → b < 8 → Q a → c a b → Q b) → Q i
theorem reach_self {c : Nat → Nat → Prop} {o : Nat} : reach c o o := fun _ h _ => h
theorem reach_lt {c : Nat → Nat → Prop} {o i : Nat} (ho : o < 8) (h : reach c o i) : i < 8 := h (fun i => i < 8) ho (fun _ _ _ h _ _ => h)
theorem reach_step {c : Nat → Nat → Prop} {o i j : Nat} (h : reach c o i) (hi : i < 8) (hj : j < 8) (hc : c i j) : reach c o j := fun Q h0 hs => hs i j hi hj (h Q h0 hs) hc
theorem reach_ind {c : Nat → Nat → Prop} {o i : Nat} {Q : Nat → Prop} (h : reach c o i) (h0 : Q o) (hs : ∀ a b, a < 8 → b < 8 → reach c o a → Q a → c a b → Q b) : Q i :=
  (h (fun i => reach c o i ∧ Q i) ⟨reach_self, h0⟩ (fun a b ha hb q e => ⟨reach_step q.1 ha hb e, hs a b ha hb q.1 q.2 e⟩)).2
/-- the class's closure -/
def jn (c : Nat → Nat → Bool) (i : Nat) (s : Nat → Bool) : Nat → Bool := if s i = true then (fun j => s j || c i j) else s
def jr (c : Nat → Nat → Bool) (s : Nat → Bool) : Nat → Bool := itr (jn c) 8 0 s
def jrs (c : Nat → Nat → Bool) : Nat → (Nat → Bool) → Nat → Bool
  | 0, s => s
  | n + 1, s => jrs c n (jr c s)
def jcl (c : Nat → Nat → Bool) (s : Nat → Bool) : Prop := ∀ i j, i < 8 → j < 8 → s i = true → c i j = true → s j = true
section JJ
variable {c : Nat → Nat → Bool}
theorem jn_mono {i j : Nat} {s : Nat → Bool} (h : s j = true) : jn c i s j = true := by
  unfold jn
  split
  · show (s j || c i j) = true; rw [h]; rfl
  · exact h
theorem jr_mono {j : Nat} {s : Nat → Bool} (h : s j = true) : jr c s j = true := itr_inv (P := fun q : Nat → Bool => q j = true) (fun i q hq => jn_mono hq) 8 0 s h
theorem jr_hit {i j : Nat} {s : Nat → Bool} (hi : i < 8) (h : s i = true) (hc : c i j = true) : jr c s j = true := by
  refine itr_hit (f := jn c) (i0 := 0) hi (fun q : Nat → Bool => q j = true) (fun q => q i = true) (fun m q hq => jn_mono hq) (fun q hq => ?_) (fun m q hq => jn_mono hq) h
  rw [Nat.zero_add]
  unfold jn
  rw [if_pos hq]
  show (q j || c i j) = true
  rw [hc]; simp
theorem jr_cl {s : Nat → Bool} (h : jcl c s) : ∀ j, j < 8 → jr c s j = s j :=
  itr_ind (f := jn c) (fun _ t => ∀ j, j < 8 → t j = s j) 0 s (fun _ _ => rfl) 8 (fun i t hi ht j hj => by
    rw [Nat.zero_add]
    unfold jn
    by_cases e : t i = true
    · rw [if_pos e]
      show (t j || c i j) = s j
      rw [ht j hj]
      rw [ht i hi] at e
      by_cases hc : c i j = true
      · rw [h i j hi hj e hc]; rfl
      · have : c i j = false := by simpa using hc
        rw [this]; simp
    · rw [if_neg e]; exact ht j hj)
theorem jcl_c {s t : Nat → Bool} (h : jcl c s) (e : ∀ j, j < 8 → t j = s j) : jcl c t := fun i j hi hj a b => by
  rw [e j hj]; rw [e i hi] at a; exact h i j hi hj a b
theorem jrs_cl : ∀ (n : Nat) (s : Nat → Bool), jcl c s → jcl c (jrs c n s) := by
  intro n
  induction n with
  | zero => intro s h; exact h
  | succ n ih => intro s h; exact ih (jr c s) (jcl_c h (jr_cl h))
theorem jrs_grow : ∀ (n : Nat) (s : Nat → Bool), jcl c (jrs c n s) ∨ cntP (fun j => s j = true) 8 + n ≤ cntP (fun j => jrs c n s j = true) 8 := by
  intro n
  induction n with
  | zero => intro s; exact Or.inr (Nat.le_refl _)
  | succ n ih =>
    intro s
    by_cases q : ∃ j, j < 8 ∧ s j ≠ true ∧ jr c s j = true
    · obtain ⟨j, hj, h1, h2⟩ := q
      rcases ih (jr c s) with h | h
      · exact Or.inl h
      · right
        have := cntP_lt (p := fun j => s j = true) (q := fun j => jr c s j = true) (j := j) 8 (fun k _ h => jr_mono h) hj h1 h2
        show _ ≤ cntP (fun j => jrs c n (jr c s) j = true) 8
        omega
    · left
      have hcl : jcl c s := fun i j hi hj a b => Classical.byContradiction (fun e => q ⟨j, hj, e, jr_hit hi a b⟩)
      exact jrs_cl (n + 1) s hcl
theorem jrs_mono {j : Nat} : ∀ (n : Nat) (s : Nat → Bool), s j = true → jrs c n s j = true := by
  intro n
  induction n with
  | zero => intro s h; exact h
  | succ n ih => intro s h; exact ih (jr c s) (jr_mono h)
theorem jrs_7 {o : Nat} {s : Nat → Bool} (ho : o < 8) (hs : s o = true) : jcl c (jrs c 7 s) := by
  rcases jrs_grow (c := c) 7 s with h | h
  · exact h
  · have h1 := cntP_lt (p := fun _ => False) (q := fun j => s j = true) (j := o) 8 (fun _ _ h => absurd h id) ho id hs
    intro i j hi hj _ _
    refine Classical.byContradiction (fun e => ?_)
    have := cntP_full (p := fun j => jrs c 7 s j = true) hj e
    omega
theorem jrs_sound {o : Nat} {C : Nat → Nat → Prop} (hC : ∀ i j, i < 8 → j < 8 → c i j = true → C i j) : ∀ (n : Nat) (s : Nat → Bool), (∀ j, j < 8 → s j = true → reach C o j) → ∀ j, j < 8 → jrs c n s j = true → reach C o j := by
  intro n
  induction n with
  | zero => intro s h; exact h
  | succ n ih =>
    intro s h
    refine ih (jr c s) ?_
    refine itr_ind (f := jn c) (fun _ t => ∀ j, j < 8 → t j = true → reach C o j) 0 s h 8 (fun i t hi ht j hj q => ?_)
    rw [Nat.zero_add] at q
    unfold jn at q
    by_cases e : t i = true
    · rw [if_pos e] at q
      have q : (t j || c i j) = true := q
      by_cases e2 : t j = true
      · exact ht j hj e2
      · have e3 : t j = false := by simpa using e2
        rw [e3, Bool.false_or] at q
        exact reach_step (ht i hi e) hi hj (hC i j hi hj q)
    · rw [if_neg e] at q; exact ht j hj q
end JJ
theorem bt_nbr {σ : CS} {u j : Nat} (hj : j < 8) : bt (cNbr σ u) j = carr σ u j := by
  unfold cNbr
  rw [bt_msk (f := fun i => carr σ u i) (g := fNbr σ u) (fun i x => rfl) 8 (by omega) j hj, bt_z hj]
  simp [hj]
theorem join_jrs {σ : CS} {o : Nat} (ho : o < 8) : ∀ j, j < 8 → bt (cJoin σ o) j = jrs (fun a b => carr σ a b) 7 (fun j => decide (j = o)) j := by
  have e : ∀ (n i : Nat) (s : Nat → Bool), itr (fun _ => jr (fun a b => carr σ a b)) n i s = jrs (fun a b => carr σ a b) n s := by
    intro n
    induction n with
    | zero => intro i s; rfl
    | succ n ih => intro i s; exact ih (i + 1) _
  rw [← e 7 1]
  unfold cJoin
  refine itr_rel (f := fJ1 σ) (g := fun _ => jr (fun a b => carr σ a b)) (fun _ x s => ∀ j, j < 8 → bt x j = s j) 1 _ _ (fun j hj => bt_one o ho j hj) 7 (fun m x s _ h => ?_)
  refine itr_rel (f := fJ2 σ) (g := jn (fun a b => carr σ a b)) (fun _ x s => ∀ j, j < 8 → bt x j = s j) 0 x s h 8 (fun i x s hi h j hj => ?_)
  rw [Nat.zero_add]
  unfold fJ2 jn
  by_cases e : s i = true
  · rw [if_pos ((bt_iff hi).mpr (by rw [h i hi]; exact e)), if_pos e, bt_or, bt_nbr hj, h j hj]
  · rw [if_neg (fun q => e (by rw [← h i hi]; exact (bt_iff hi).mp q)), if_neg e]; exact h j hj
theorem join_iff {σ : CS} {o i : Nat} (ho : o < 8) (hi : i < 8) : bt (cJoin σ o) i = true ↔ reach (fun a b => carr σ a b = true) o i := by
  rw [join_jrs ho i hi]
  constructor
  · exact jrs_sound (C := fun a b => carr σ a b = true) (fun _ _ _ _ h => h) 7 _ (fun j _ h => by rw [of_decide_eq_true h]; exact reach_self) i hi
  · intro h
    have hcl : jcl (fun a b => carr σ a b) (jrs (fun a b => carr σ a b) 7 (fun j => decide (j = o))) := jrs_7 ho (by simp)
    have : ∀ j, reach (fun a b => carr σ a b = true) o j → jrs (fun a b => carr σ a b) 7 (fun j => decide (j = o)) j = true := by
      intro j hj
      exact reach_ind hj (jrs_mono 7 _ (by simp)) (fun a b ha hb _ q e => hcl a b ha hb q e)
    exact this i h
/-- the reference's closure -/
def A0 (τ : MS) (a b : Nat) : Prop := (a = b ∧ τ 2 a ≠ 0) ∨ (a ≠ b ∧ mCarr τ a b = true)
theorem fS2_eq {i j : Nat} {τ : MS} : ∃ x : Int32, fS2 i j τ = mS 26 (8 * i + j) x τ ∧ (x ≠ 0 ↔ A0 τ i j) := by
  have n0 : ¬ nI 0 ≠ 0 := by decide
  have n1 : nI 1 ≠ 0 := by decide
  unfold fS2 A0
  by_cases h1 : τ 2 i = 0
  · rw [if_pos h1]
    by_cases h2 : i = j
    · rw [if_pos h2]
      exact ⟨nI 0, rfl, fun q => absurd q n0, fun q => by rcases q with ⟨-, q⟩ | ⟨q, -⟩; exact absurd h1 q; exact absurd h2 q⟩
    · rw [if_neg h2]
      by_cases h3 : mCarr τ i j = true
      · rw [if_pos h3]; exact ⟨nI 1, rfl, fun _ => Or.inr ⟨h2, h3⟩, fun _ => n1⟩
      · rw [if_neg h3]; exact ⟨nI 0, rfl, fun q => absurd q n0, fun q => by rcases q with ⟨q, -⟩ | ⟨-, q⟩; exact absurd q h2; exact absurd q h3⟩
  · rw [if_neg h1]
    by_cases h2 : i = j
    · rw [if_pos h2]; exact ⟨nI 1, rfl, fun _ => Or.inl ⟨h2, h1⟩, fun _ => n1⟩
    · rw [if_neg h2]
      by_cases h3 : mCarr τ i j = true
      · rw [if_pos h3]; exact ⟨nI 1, rfl, fun _ => Or.inr ⟨h2, h3⟩, fun _ => n1⟩
      · rw [if_neg h3]; exact ⟨nI 0, rfl, fun q => absurd q n0, fun q => by rcases q with ⟨q, -⟩ | ⟨-, q⟩; exact absurd q h2; exact absurd q h3⟩
theorem tog_init {τ : MS} : (∀ k, k ≠ 26 → (itr fS1 8 0 τ) k = τ k) ∧ ∀ a b, a < 8 → b < 8 → ((itr fS1 8 0 τ) 26 (8 * a + b) ≠ 0 ↔ A0 τ a b) := by
  have hA : ∀ (t : MS) (a b : Nat), (∀ k, k ≠ 26 → t k = τ k) → (A0 t a b ↔ A0 τ a b) := fun t a b h => by
    unfold A0; rw [h 2 (by decide), mCarr_c (h 5 (by decide)) (h 8 (by decide)) (h 2 (by decide))]
  have := itr_ind (f := fS1) (fun n t => (∀ k, k ≠ 26 → t k = τ k) ∧ ∀ a b, a < n → b < 8 → (t 26 (8 * a + b) ≠ 0 ↔ A0 τ a b)) 0 τ ⟨fun _ _ => rfl, fun a b h => by omega⟩ 8 (fun n t hn ht => by
    rw [Nat.zero_add]
    obtain ⟨t1, t2⟩ := ht
    have := itr_ind (f := fS2 n) (fun m q => (∀ k, k ≠ 26 → q k = τ k) ∧ (∀ a b, a < n → b < 8 → (q 26 (8 * a + b) ≠ 0 ↔ A0 τ a b)) ∧ ∀ b, b < m → (q 26 (8 * n + b) ≠ 0 ↔ A0 τ n b)) 0 t ⟨t1, t2, fun b h => by omega⟩ 8 (fun m q hm hq => by
      rw [Nat.zero_add]
      obtain ⟨q1, q2, q3⟩ := hq
      obtain ⟨x, e, hx⟩ := fS2_eq (i := n) (j := m) (τ := q)
      rw [e]
      refine ⟨fun k hk => by rw [mS_ne hk]; exact q1 k hk, fun a b ha hb => ?_, fun b hb => ?_⟩
      · rw [mS_at, pk_un (by omega)]; exact q2 a b ha hb
      · rw [mS_at]
        by_cases e2 : b = m
        · rw [e2, pk_us, hx]; exact hA q n m q1
        · rw [pk_un (by omega)]; exact q3 b (by omega))
    obtain ⟨r1, r2, r3⟩ := this
    refine ⟨r1, fun a b ha hb => ?_⟩
    show (itr (fS2 n) 8 0 t) 26 (8 * a + b) ≠ 0 ↔ _
    by_cases e : a = n
    · rw [e]; exact r3 b hb
    · exact r2 a b (by omega) hb)
  exact this
theorem fS4_eq {i j : Nat} {τ : MS} : ∃ x : Int32, fS4 i j τ = mS 26 j x τ ∧ (x ≠ 0 ↔ τ 26 j ≠ 0 ∨ (τ 26 (j / 8 * 8 + i) ≠ 0 ∧ τ 26 (8 * i + j % 8) ≠ 0)) := by
  have n0 : ¬ nI 0 ≠ 0 := by decide
  have n1 : nI 1 ≠ 0 := by decide
  unfold fS4
  by_cases h1 : τ 26 j = 0
  · rw [if_pos h1]
    by_cases h2 : τ 26 (j / 8 * 8 + i) = 0
    · rw [if_pos h2]; exact ⟨nI 0, rfl, fun q => absurd q n0, fun q => by rcases q with q | ⟨q, -⟩; exact absurd h1 q; exact absurd h2 q⟩
    · rw [if_neg h2]
      by_cases h3 : τ 26 (8 * i + j % 8) = 0
      · rw [if_pos h3]; exact ⟨nI 0, rfl, fun q => absurd q n0, fun q => by rcases q with q | ⟨-, q⟩; exact absurd h1 q; exact absurd h3 q⟩
      · rw [if_neg h3]; exact ⟨nI 1, rfl, fun _ => Or.inr ⟨h2, h3⟩, fun _ => n1⟩
  · rw [if_neg h1]; exact ⟨nI 1, rfl, fun _ => Or.inl h1, fun _ => n1⟩
theorem tog_stage {i : Nat} {τ : MS} (hi : i < 8) : (∀ k, k ≠ 26 → (fS3 i τ) k = τ k) ∧ ∀ a b, a < 8 → b < 8 → ((fS3 i τ) 26 (8 * a + b) ≠ 0 ↔ τ 26 (8 * a + b) ≠ 0 ∨ (τ 26 (8 * a + i) ≠ 0 ∧ τ 26 (8 * i + b) ≠ 0)) := by
  have h := itr_ind (f := fS4 i) (fun n t => (∀ k, k ≠ 26 → t k = τ k) ∧ (∀ j, j < n → (t 26 j ≠ 0 ↔ τ 26 j ≠ 0 ∨ (τ 26 (j / 8 * 8 + i) ≠ 0 ∧ τ 26 (8 * i + j % 8) ≠ 0))) ∧ ∀ j, n ≤ j → t 26 j = τ 26 j) 0 τ ⟨fun _ _ => rfl, fun j h => by omega, fun _ _ => rfl⟩ 64 (fun n t hn ht => by
    rw [Nat.zero_add]
    obtain ⟨t1, t2, t3⟩ := ht
    obtain ⟨x, e, hx⟩ := fS4_eq (i := i) (j := n) (τ := t)
    rw [e]
    have c1 : t 26 (n / 8 * 8 + i) ≠ 0 ↔ τ 26 (n / 8 * 8 + i) ≠ 0 := by
      by_cases q : n / 8 * 8 + i < n
      · rw [t2 _ q, show (n / 8 * 8 + i) / 8 * 8 + i = n / 8 * 8 + i by omega]
        exact ⟨fun h => h.elim id (fun h => h.1), Or.inl⟩
      · rw [t3 _ (by omega)]
    have c2 : t 26 (8 * i + n % 8) ≠ 0 ↔ τ 26 (8 * i + n % 8) ≠ 0 := by
      by_cases q : 8 * i + n % 8 < n
      · rw [t2 _ q, show (8 * i + n % 8) % 8 = n % 8 by omega]
        exact ⟨fun h => h.elim id (fun h => h.2), Or.inl⟩
      · rw [t3 _ (by omega)]
    refine ⟨fun k hk => by rw [mS_ne hk]; exact t1 k hk, fun j hj => ?_, fun j hj => ?_⟩
    · rw [mS_at]
      by_cases e2 : j = n
      · rw [e2, pk_us, hx, t3 n (Nat.le_refl _), c1, c2]
      · rw [pk_un e2]; exact t2 j (by omega)
    · rw [mS_at, pk_un (by omega)]; exact t3 j (by omega))
  obtain ⟨h1, h2, -⟩ := h
  refine ⟨h1, fun a b ha hb => ?_⟩
  have := h2 (8 * a + b) (by omega)
  rw [show (8 * a + b) / 8 * 8 + i = 8 * a + i by omega, show (8 * a + b) % 8 = b by omega] at this
  exact this
/-- the reference's closure is reach, where the first node is there -/
theorem tog_iff {M : Int} {σ : CS} {τ : MS} (T : gT M σ τ) : (∀ k, k ≠ 26 → k ≠ 0 → (mTog τ) k = τ k) ∧ ∀ a b, a < 8 → b < 8 → ((mTog τ) 26 (8 * a + b) ≠ 0 ↔ τ 2 a ≠ 0 ∧ reach (fun i j => mCarr τ i j = true) a b) := by
  obtain ⟨I1, I2⟩ := tog_init (τ := mT0 τ)
  have h := itr_ind (f := fS3) (fun n t => (∀ k, k ≠ 26 → t k = (mT0 τ) k) ∧ (∀ a b, a < 8 → b < 8 → A0 τ a b → t 26 (8 * a + b) ≠ 0) ∧ (∀ a b, a < 8 → b < 8 → t 26 (8 * a + b) ≠ 0 → τ 2 a ≠ 0 ∧ reach (fun i j => mCarr τ i j = true) a b) ∧ ∀ m a b, m < n → a < 8 → b < 8 → t 26 (8 * a + m) ≠ 0 → t 26 (8 * m + b) ≠ 0 → t 26 (8 * a + b) ≠ 0) 0 (itr fS1 8 0 (mT0 τ)) ⟨I1, fun a b ha hb h => (I2 a b ha hb).mpr h, fun a b ha hb h => by
      rcases (I2 a b ha hb).mp h with ⟨e, q⟩ | ⟨e, q⟩
      · rw [← e]; exact ⟨q, reach_self⟩
      · exact ⟨(mCarr_of q).2.2.1, reach_step reach_self ha hb q⟩, fun m a b h => by omega⟩ 8 (fun n t hn ht => by
    rw [Nat.zero_add]
    obtain ⟨t1, t2, t3, t4⟩ := ht
    obtain ⟨S1, S2⟩ := tog_stage (i := n) (τ := t) hn
    refine ⟨fun k hk => (S1 k hk).trans (t1 k hk), fun a b ha hb h => (S2 a b ha hb).mpr (Or.inl (t2 a b ha hb h)), fun a b ha hb h => ?_, fun m a b hm ha hb h1 h2 => ?_⟩
    · rcases (S2 a b ha hb).mp h with q | ⟨q1, q2⟩
      · exact t3 a b ha hb q
      · obtain ⟨p1, p2⟩ := t3 a n ha hn q1
        obtain ⟨-, p3⟩ := t3 n b hn hb q2
        exact ⟨p1, reach_ind p3 p2 (fun a b ha hb _ q e => reach_step q ha hb e)⟩
    · rw [S2 a m ha (by omega)] at h1
      rw [S2 m b (by omega) hb] at h2
      rw [S2 a b ha hb]
      by_cases e : m = n
      · rw [e] at h1 h2
        right
        exact ⟨h1.elim id (fun h => h.1), h2.elim id (fun h => h.2)⟩
      · have hmn : m < n := by omega
        rcases h1 with h1 | ⟨h1, h1'⟩
        · rcases h2 with h2 | ⟨h2, h2'⟩
          · exact Or.inl (t4 m a b hmn ha hb h1 h2)
          · exact Or.inr ⟨t4 m a n hmn ha hn h1 h2, h2'⟩
        · rcases h2 with h2 | ⟨h2, h2'⟩
          · exact Or.inr ⟨h1, t4 m n b hmn hn hb h1' h2⟩
          · exact Or.inr ⟨h1, h2'⟩)
  obtain ⟨h1, h2, h3, h4⟩ := h
  refine ⟨fun k hk h0 => (h1 k hk).trans (mS_ne h0), fun a b ha hb => ⟨h3 a b ha hb, fun ⟨q1, q2⟩ => ?_⟩⟩
  have : ∀ j, reach (fun i j => mCarr τ i j = true) a j → (mTog τ) 26 (8 * a + j) ≠ 0 := by
    intro j hj
    exact reach_ind (Q := fun j => (mTog τ) 26 (8 * a + j) ≠ 0) hj (h2 a a ha ha (Or.inl ⟨rfl, q1⟩)) (fun i b hi hb _ q e => h4 i a b hi ha hb q (h2 i b hi hb (Or.inr ⟨mCarr_ne T hi e, e⟩)))
  exact this b q2
theorem gS6_iff {τ : MS} {k : Nat} : ∀ (n i : Nat) (x : Int32), (x = nI 0 ∨ x = nI 1) → (gS6 τ k n i x = nI 1 ↔ x = nI 1 ∧ (τ 26 k = 0 ∨ ∀ m, m < n → τ 26 (k / 8 * 8 + (i + m)) = 0 ∨ τ 9 (k / 8 * 8 + (i + m)) = τ 9 (k % 8 * 8 + (i + m)))) := by
  have n1 : nI 1 ≠ 0 := by decide
  have n01 : nI 0 ≠ nI 1 := by decide
  intro n
  induction n with
  | zero => intro i x h; exact ⟨fun q => ⟨q, Or.inr (fun m hm => by omega)⟩, fun q => q.1⟩
  | succ n ih =>
    intro i x h
    show (if τ 26 k = 0 then x else gS6 τ k n (i + 1) _) = nI 1 ↔ _
    by_cases h1 : τ 26 k = 0
    · rw [if_pos h1]; exact ⟨fun q => ⟨q, Or.inl h1⟩, fun q => q.1⟩
    · rw [if_neg h1]
      have hy : ∀ y : Int32, y = (if x = 0 then nI 0 else if τ 26 (k / 8 * 8 + i) = 0 then nI 1 else if τ 9 (k / 8 * 8 + i) = τ 9 (k % 8 * 8 + i) then nI 1 else nI 0) → (y = nI 0 ∨ y = nI 1) ∧ (y = nI 1 ↔ x = nI 1 ∧ (τ 26 (k / 8 * 8 + i) = 0 ∨ τ 9 (k / 8 * 8 + i) = τ 9 (k % 8 * 8 + i))) := by
        intro y hy
        rw [hy]
        rcases h with h | h
        · rw [h, if_pos nI0]
          exact ⟨Or.inl rfl, fun q => absurd q n01, fun q => absurd q.1 n01⟩
        · rw [h, if_neg n1]
          by_cases h2 : τ 26 (k / 8 * 8 + i) = 0
          · rw [if_pos h2]; exact ⟨Or.inr rfl, fun _ => ⟨rfl, Or.inl h2⟩, fun _ => rfl⟩
          · rw [if_neg h2]
            by_cases h3 : τ 9 (k / 8 * 8 + i) = τ 9 (k % 8 * 8 + i)
            · rw [if_pos h3]; exact ⟨Or.inr rfl, fun _ => ⟨rfl, Or.inr h3⟩, fun _ => rfl⟩
            · rw [if_neg h3]; exact ⟨Or.inl rfl, fun q => absurd q n01, fun q => by rcases q.2 with q | q; exact absurd q h2; exact absurd q h3⟩
      obtain ⟨y1, y2⟩ := hy _ rfl
      rw [ih (i + 1) _ y1, y2]
      constructor
      · rintro ⟨⟨a, b⟩, c⟩
        refine ⟨a, Or.inr (fun m hm => ?_)⟩
        cases m with
        | zero => rw [Nat.add_zero]; exact b
        | succ m =>
          have := (c.resolve_left h1) m (by omega)
          rw [show i + 1 + m = i + (m + 1) by omega] at this
          exact this
      · rintro ⟨a, c⟩
        have c := c.resolve_left h1
        refine ⟨⟨a, ?_⟩, Or.inr (fun m hm => ?_)⟩
        · have := c 0 (by omega); rw [Nat.add_zero] at this; exact this
        · rw [show i + 1 + m = i + (m + 1) by omega]; exact c (m + 1) (by omega)
theorem fS5_iff {τ : MS} : ∀ n, itr (fS5 τ) n 0 (nI 1) = nI 1 ↔ ∀ k, k < n → τ 26 k = 0 ∨ ∀ m, m < 8 → τ 26 (k / 8 * 8 + m) = 0 ∨ τ 9 (k / 8 * 8 + m) = τ 9 (k % 8 * 8 + m) := by
  intro n
  induction n with
  | zero => exact ⟨fun _ k h => by omega, fun _ => rfl⟩
  | succ n ih =>
    rw [itr_snoc, Nat.zero_add]
    show gS6 τ n 8 0 (itr (fS5 τ) n 0 (nI 1)) = nI 1 ↔ _
    rw [gS6_iff 8 0 _ (fS5_01 τ n), ih]
    constructor
    · rintro ⟨a, b⟩ k hk
      by_cases e : k = n
      · rw [e]
        rcases b with b | b
        · exact Or.inl b
        · exact Or.inr (fun m hm => by have := b m hm; rw [Nat.zero_add] at this; exact this)
      · exact a k (by omega)
    · intro h
      refine ⟨fun k hk => h k (by omega), ?_⟩
      rcases h n (by omega) with b | b
      · exact Or.inl b
      · exact Or.inr (fun m hm => by rw [Nat.zero_add]; exact b m hm)
theorem agr_iff {σ : CS} {o : Nat} (ho : o < 8) : cAgr σ o = true ↔ ∀ i, i < 8 → reach (fun a b => carr σ a b = true) o i → σ.1 6 (i * 8 + o) = σ.1 6 (o * 8 + o) := by
  unfold cAgr
  rw [srch_none]
  constructor
  · intro h i hi hr
    have h := h i hi
    unfold fAgr at h
    rw [if_pos ((bt_iff hi).mpr ((join_iff ho hi).mpr hr))] at h
    by_cases e : σ.1 6 (i * 8 + o) = σ.1 6 (o * 8 + o)
    · exact e
    · rw [if_neg e] at h; cases h
  · intro h i hi
    unfold fAgr
    by_cases q : (cJoin σ o >>> (nI i &&& 31)) &&& nI 1 = nI 1
    · rw [if_pos q, if_pos (h i hi ((join_iff ho hi).mp ((bt_iff hi).mp q)))]
    · rw [if_neg q]
theorem settled_eq {M : Int} {σ : CS} {τ : MS} (R : Rel M 600 σ τ) : b2i (cSettled σ) = mSetR τ := by
  have hfl := fly_eq R
  obtain ⟨T, N, U, K, F, Hh, Ca, C⟩ := R
  have hT := T
  obtain ⟨G1, G2⟩ := tog_iff T
  unfold cSettled mSetR
  rw [hfl]
  by_cases hf : mFly τ ≤ 0
  · rw [if_pos hf, if_pos hf]
    have g9 : (mTog τ) 9 = τ 9 := G1 9 (by decide) (by decide)
    have key : (srch (fSet σ) 8 0).isNone = true ↔ itr (fS5 (mTog τ)) 64 0 (nI 1) = nI 1 := by
      rw [srch_none, fS5_iff]
      have rc : ∀ o i, o < 8 → (reach (fun a b => carr σ a b = true) o i ↔ reach (fun a b => mCarr τ a b = true) o i) := fun o i ho => by
        constructor
        · intro h
          exact reach_ind h reach_self (fun a b ha hb _ q e => reach_step q ha hb (by rw [← carr_eq T ha hb]; exact e))
        · intro h
          exact reach_ind h reach_self (fun a b ha hb _ q e => reach_step q ha hb (by rw [carr_eq T ha hb]; exact e))
      have tr : ∀ a b d, a < 8 → b < 8 → reach (fun i j => mCarr τ i j = true) a b → reach (fun i j => mCarr τ i j = true) b d → reach (fun i j => mCarr τ i j = true) a d := fun a b d ha hb h1 h2 => by
        exact reach_ind h2 h1 (fun a b ha hb _ q e => reach_step q ha hb e)
      have sy : ∀ a b, a < 8 → reach (fun i j => mCarr τ i j = true) a b → reach (fun i j => mCarr τ i j = true) b a := fun a b ha h => by
        exact reach_ind (Q := fun b => reach (fun i j => mCarr τ i j = true) b a) h reach_self (fun i b hi hb _ q e => tr _ _ _ hb hi (reach_step reach_self hb hi (by rw [mCarr_sym T hb hi]; exact e)) q)
      have th : ∀ a b, a < 8 → τ 2 a ≠ 0 → reach (fun i j => mCarr τ i j = true) a b → τ 2 b ≠ 0 := fun a b ha hz h => by
        exact reach_ind (Q := fun b => τ 2 b ≠ 0) h hz (fun i b hi hb _ q e => (mCarr_of e).2.2.2)
      have k6 : ∀ a b, a < 8 → b < 8 → σ.1 6 (a * 8 + b) = τ 9 (a * 8 + b) := fun a b ha hb => (K (a * 8 + b) (by omega) (fun h => h)).1
      constructor
      · intro h k hk
        by_cases hz : (mTog τ) 26 k = 0
        · exact Or.inl hz
        · right
          intro m hm
          by_cases hm0 : (mTog τ) 26 (k / 8 * 8 + m) = 0
          · exact Or.inl hm0
          · right
            obtain ⟨p1, p2⟩ := (G2 (k / 8) (k % 8) (by omega) (by omega)).mp (by rw [show 8 * (k / 8) + k % 8 = k by omega]; exact hz)
            obtain ⟨-, p3⟩ := (G2 (k / 8) m (by omega) hm).mp (by rw [show 8 * (k / 8) + m = k / 8 * 8 + m by omega]; exact hm0)
            have hth := th _ _ (by omega) p1 p3
            have h1 := h m hm
            unfold fSet at h1
            rw [T.2.1 m hm, if_neg hth] at h1
            by_cases ha : cAgr σ m = true
            · have ha := (agr_iff hm).mp ha
              have q1 := ha (k / 8) (by omega) ((rc m _ hm).mpr (sy _ _ (by omega) p3))
              have q2 := ha (k % 8) (by omega) ((rc m _ hm).mpr (tr _ _ _ hm (by omega) (sy _ _ (by omega) p3) p2))
              rw [g9, ← k6 _ _ (by omega) hm, ← k6 _ _ (by omega) hm, q1, q2]
            · rw [if_neg ha] at h1; cases h1
      · intro h o ho
        unfold fSet
        rw [T.2.1 o ho]
        by_cases hz : τ 2 o = 0
        · rw [if_pos hz]
        · rw [if_neg hz, if_pos]
          refine (agr_iff ho).mpr (fun i hi hr => ?_)
          have hr := (rc o i ho).mp hr
          have hr' := sy o i ho hr
          have hti := th o i ho hz hr
          have a1 : (mTog τ) 26 (8 * i + o) ≠ 0 := (G2 i o hi ho).mpr ⟨hti, hr'⟩
          have := h (8 * i + o) (by omega)
          rcases this with q | q
          · exact absurd q a1
          · rcases q o ho with q | q
            · rw [show (8 * i + o) / 8 * 8 + o = 8 * i + o by omega] at q; exact absurd q a1
            · rw [show (8 * i + o) / 8 * 8 + o = i * 8 + o by omega, show (8 * i + o) % 8 * 8 + o = o * 8 + o by omega, g9] at q
              rw [k6 i o hi ho, k6 o o ho ho]
              exact q
    rcases fS5_01 (mTog τ) 64 with h01 | h01
    · rw [h01]
      have hn : (srch (fSet σ) 8 0).isNone = false := by
        cases e : (srch (fSet σ) 8 0).isNone with
        | false => rfl
        | true => rw [h01] at key; exact absurd (key.mp e) (by decide)
      rw [hn]; rfl
    · rw [h01, key.mpr h01]; rfl
  · rw [if_neg hf, if_neg hf]; rfl
