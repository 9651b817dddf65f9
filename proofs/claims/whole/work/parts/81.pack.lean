/-! THE PACKED COSTS -/
theorem sh_w {w : Nat} (hw : w < 8) : ((nI (6 * w)).toInt64 &&& 63).toBitVec.smod 64 = BitVec.ofNat 64 (6 * w) := by
  rcases (show w = 0 ∨ w = 1 ∨ w = 2 ∨ w = 3 ∨ w = 4 ∨ w = 5 ∨ w = 6 ∨ w = 7 by omega) with rfl | rfl | rfl | rfl | rfl | rfl | rfl | rfl <;> decide
theorem nI_nat {n : Nat} (h : n < 2 ^ 31) : (nI n).toBitVec.toNat = n := by
  show (BitVec.ofNat 32 n).toNat = n
  rw [BitVec.toNat_ofNat]
  omega
theorem lN_nat {n : Nat} (h : n < 2 ^ 63) : (Int64.ofNat n).toBitVec.toNat = n := by
  show (BitVec.ofNat 64 n).toNat = n
  rw [BitVec.toNat_ofNat]
  omega
theorem costF_nat {S w : Nat} (hS : S < 2 ^ 48) (hw : w < 8) : costF (Int64.ofNat S) w = nI (S / 2 ^ (6 * w) % 64) := by
  have hm : S / 2 ^ (6 * w) % 64 < 64 := Nat.mod_lt _ (by decide)
  have hd : S / 2 ^ (6 * w) ≤ S := Nat.div_le_self _ _
  apply Int32.toBitVec_inj.mp
  apply BitVec.eq_of_toNat_eq
  unfold costF
  have h63 : (nI 63).toBitVec.toNat = 2 ^ 6 - 1 := by decide
  rw [Int32.toBitVec_and, BitVec.toNat_and, h63, Nat.and_two_pow_sub_one_eq_mod, nI_nat (by omega), Int64.toBitVec_toInt32, BitVec.signExtend_eq_setWidth_of_le _ (by decide), BitVec.toNat_setWidth, Int64.toBitVec_shiftRight, sh_w hw]
  have hmsb : (Int64.ofNat S).toBitVec.msb = false := by
    rw [BitVec.msb_eq_false_iff_two_mul_lt, lN_nat (by omega)]
    omega
  have hsh : (BitVec.ofNat 64 (6 * w)).toNat = 6 * w := by rw [BitVec.toNat_ofNat]; omega
  rw [BitVec.sshiftRight', BitVec.sshiftRight_eq_of_msb_false hmsb, BitVec.toNat_ushiftRight, lN_nat (by omega), hsh, Nat.shiftRight_eq_div_pow]
  omega
theorem packF_nat : ∀ c : Nat, c < 64 → ∀ w : Nat, w < 8 → packF (nI c) w = Int64.ofNat (c * 2 ^ (6 * w)) := by decide +kernel
theorem or_nat {S c k : Nat} (hS : S < 2 ^ k) (hc : S + c * 2 ^ k < 2 ^ 63) : Int64.ofNat S ||| Int64.ofNat (c * 2 ^ k) = Int64.ofNat (S + c * 2 ^ k) := by
  apply Int64.toBitVec_inj.mp
  apply BitVec.eq_of_toNat_eq
  have h1 : c * 2 ^ k < 2 ^ 63 := by omega
  rw [Int64.toBitVec_or, BitVec.toNat_or, lN_nat (by omega), lN_nat h1, lN_nat hc, Nat.or_comm, Nat.mul_comm c, ← Nat.two_pow_add_eq_or_of_lt hS c, Nat.add_comm]
def sgN (x : Nat → Nat) : Nat → Nat
  | 0 => 0
  | n + 1 => sgN x n + x n * 2 ^ (6 * n)
theorem sgN_lt {x : Nat → Nat} (hx : ∀ i, x i < 64) : ∀ n, sgN x n < 2 ^ (6 * n) := by
  intro n
  induction n with
  | zero => exact Nat.one_pos
  | succ n ih =>
    show sgN x n + x n * 2 ^ (6 * n) < 2 ^ (6 * (n + 1))
    rw [show 6 * (n + 1) = 6 * n + 6 by omega, Nat.pow_add]
    have h1 : x n * 2 ^ (6 * n) ≤ 63 * 2 ^ (6 * n) := Nat.mul_le_mul_right _ (by have := hx n; omega)
    omega
theorem sgN_dig {x : Nat → Nat} (hx : ∀ i, x i < 64) {w : Nat} : ∀ n, w < n → sgN x n / 2 ^ (6 * w) % 64 = x w := by
  intro n
  induction n with
  | zero => intro h; omega
  | succ n ih =>
    intro h
    show (sgN x n + x n * 2 ^ (6 * n)) / 2 ^ (6 * w) % 64 = x w
    by_cases e : w = n
    · subst e
      rw [Nat.add_mul_div_right _ _ (Nat.pow_pos (by decide)), Nat.div_eq_of_lt (sgN_lt hx w), Nat.zero_add]
      exact Nat.mod_eq_of_lt (hx w)
    · have hl : 6 * n = 6 * w + (6 + 6 * (n - w - 1)) := by omega
      rw [hl, Nat.pow_add, Nat.pow_add, show x n * (2 ^ (6 * w) * (2 ^ 6 * 2 ^ (6 * (n - w - 1)))) = (x n * 2 ^ (6 * (n - w - 1)) * 64) * 2 ^ (6 * w) by
        rw [show (2 : Nat) ^ 6 = 64 from rfl]; generalize 2 ^ (6 * w) = A; generalize 2 ^ (6 * (n - w - 1)) = B; rw [Nat.mul_comm A, ← Nat.mul_assoc, Nat.mul_comm 64 B, ← Nat.mul_assoc]]
      rw [Nat.add_mul_div_right _ _ (Nat.pow_pos (by decide)), Nat.add_mul_mod_self_right]
      exact ih (by omega)
theorem r50_nat {x : Int32} (h : r50 x) : ∃ c : Nat, c ≤ 50 ∧ x = nI c := by
  refine ⟨x.toInt.toNat, ?_, ?_⟩
  · have := h.1; have := h.2; omega
  · apply teq.mpr
    have := h.1; have := h.2
    rw [tn (by omega)]
    omega
def xcN (σ : CS) (u : Nat) (i : Nat) : Nat := if carr σ u i = true then (σ.1 3 (u * 8 + i)).toNatClampNeg % 64 else 0
theorem xcN_lt {σ : CS} {u : Nat} (i : Nat) : xcN σ u i < 64 := by
  unfold xcN; split
  · exact Nat.mod_lt _ (by decide)
  · decide
theorem cCosts_nat {σ : CS} {u : Nat} (h : ∀ i, i < 8 → r50 (σ.1 3 (u * 8 + i))) : cCosts σ u = Int64.ofNat (sgN (xcN σ u) 8) := by
  unfold cCosts
  refine itr_ind (fun n x => x = Int64.ofNat (sgN (xcN σ u) n)) 0 0 rfl 8 (fun j x hj hx => ?_)
  rw [Nat.zero_add, hx]
  have hlt := sgN_lt (x := xcN σ u) xcN_lt j
  unfold fCosts
  split
  · rename_i hc
    obtain ⟨c, hc50, ec⟩ := r50_nat (h j hj)
    have exc : xcN σ u j = c := by
      unfold xcN; rw [if_pos hc, ec, nI_clamp (by omega)]; omega
    show _ = Int64.ofNat (sgN (xcN σ u) j + xcN σ u j * 2 ^ (6 * j))
    rw [exc, ec, packF_nat c (by omega) j hj]
    refine or_nat hlt ?_
    have h1 : c * 2 ^ (6 * j) ≤ 50 * 2 ^ (6 * j) := Nat.mul_le_mul_right _ hc50
    have h2 : 2 ^ (6 * j) ≤ 2 ^ 42 := Nat.pow_le_pow_right (by decide) (by omega)
    omega
  · rename_i hc
    show _ = Int64.ofNat (sgN (xcN σ u) j + xcN σ u j * 2 ^ (6 * j))
    have exc : xcN σ u j = 0 := by unfold xcN; rw [if_neg hc]
    rw [exc, Nat.zero_mul, Nat.add_zero]
theorem cCosts_F {σ : CS} {u w : Nat} (h : ∀ i, i < 8 → r50 (σ.1 3 (u * 8 + i))) (hw : w < 8) : costF (cCosts σ u) w = if carr σ u w = true then σ.1 3 (u * 8 + w) else nI 0 := by
  rw [cCosts_nat h, costF_nat (Nat.lt_of_lt_of_le (sgN_lt xcN_lt 8) (by decide)) hw, sgN_dig xcN_lt 8 hw]
  unfold xcN
  split
  · obtain ⟨c, hc50, ec⟩ := r50_nat (h w hw)
    rw [ec, nI_clamp (by omega), Nat.mod_eq_of_lt (by omega)]
  · rfl
theorem costF_0 {w : Nat} (hw : w < 8) : costF 0 w = 0 := by
  have := costF_nat (S := 0) (by decide) hw
  rw [Nat.zero_div] at this
  exact this
