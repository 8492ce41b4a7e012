/-! pure rows: guards, memory, bits -/
theorem grd_t {α : Type} {q : Prop} [Decidable q] {x : Option α} (h : q) : grd q x = x := if_pos h
theorem grd_in {α : Type} {k N : Nat} {x : Option α} (h : k < N) (hN : N < 2 ^ 31) : grd (¬ (nI k < 0 ∨ N ≤ (nI k).toNatClampNeg)) x = x := if_pos (nI_in h hN)
theorem bi_s {α : Type} {r : Int32} {k : Int32 → Option α} : bi (some r) k = k r := rfl
theorem bk_s {α : Type} {r : Nat} {k : Nat → Option α} : bk (some r) k = k r := rfl
theorem bv_s {α : Type} {r : Mem} {k : Mem → Option α} : bv (some r) k = k r := rfl
theorem bm_s {α : Type} {r : Int32} {τ : Mem} {k : Int32 → Mem → Option α} : bm (some (r, τ)) k = k r τ := rfl
theorem mup_at (σ : Mem) (k j : Nat) (v : Int32) (a b : Nat) : mup σ k j v a b = if a = k ∧ b = j then v else σ a b := by
  unfold mup upd
  by_cases h : a = k
  · subst h
    by_cases h2 : b = j <;> simp [h2]
  · simp [h]
theorem mup_s (σ : Mem) (k j : Nat) (v : Int32) : mup σ k j v k j = v := by simp [mup_at]
theorem mup_n {σ : Mem} {k j : Nat} {v : Int32} {a b : Nat} (h : a ≠ k ∨ b ≠ j) : mup σ k j v a b = σ a b := by
  rw [mup_at, if_neg]
  rintro ⟨rfl, rfl⟩
  rcases h with h | h <;> exact h rfl
theorem shl1 : ∀ {k : Nat}, k < 31 → (1 : Int32) <<< (nI k &&& 31) = nI (2 ^ k) := by
  have h : ∀ k, k < 31 → (1 : Int32) <<< (nI k &&& 31) = nI (2 ^ k) := by decide +kernel
  intro k hk
  exact h k hk
theorem sm31 : ∀ k, k < 32 → ((nI k &&& 31).toBitVec.smod 32).toNat = k := by decide +kernel
theorem shr_n {m k : Nat} (hm : m < 2 ^ 31) (hk : k < 31) : nI m >>> (nI k &&& 31) = nI (m / 2 ^ k) := pk_shrN hm _ k (sm31 k (by omega))
theorem shrbit {m k : Nat} (hm : m < 2 ^ 31) (hk : k < 31) : (nI m >>> (nI k &&& 31)) &&& 1 = if m.testBit k then 1 else 0 := by
  rw [shr_n hm hk, show (1 : Int32) = nI 1 from rfl, fa_and, Nat.and_one_is_mod]
  rw [Nat.testBit_eq_decide_div_mod_eq]
  have h := Nat.mod_two_eq_zero_or_one (m / 2 ^ k)
  rcases h with h | h <;> simp [h] <;> rfl
/-- sets of numbers below N as bits -/
def msk (P : Nat → Bool) : Nat → Nat
  | 0 => 0
  | N + 1 => if P N then msk P N ||| 2 ^ N else msk P N
theorem msk_lt (P : Nat → Bool) : ∀ N, msk P N < 2 ^ N
  | 0 => by simp [msk]
  | N + 1 => by
    have h := msk_lt P N
    have e : 2 ^ N < 2 ^ (N + 1) := Nat.pow_lt_pow_right (by omega) (by omega)
    unfold msk
    split
    · exact Nat.or_lt_two_pow (by omega) e
    · omega
theorem msk_bit (P : Nat → Bool) : ∀ N i, (msk P N).testBit i = (decide (i < N) && P i)
  | 0, i => by simp [msk]
  | N + 1, i => by
    have h := msk_bit P N i
    unfold msk
    by_cases hi : i = N
    · subst hi
      by_cases hp : P i = true
      · simp [hp, Nat.testBit_or, Nat.testBit_two_pow_self]
      · simp [hp, h]
    · have e : decide (i < N + 1) = decide (i < N) := by
        by_cases q : i < N <;> simp [q] <;> omega
      split
      · rw [Nat.testBit_or, h, Nat.testBit_two_pow_of_ne (Ne.symm hi), e]; simp
      · rw [h, e]
theorem bit_ext {a b : Nat} (h : ∀ i, a.testBit i = b.testBit i) : a = b := Nat.eq_of_testBit_eq h
theorem msk_of {a N : Nat} {P : Nat → Bool} (ha : a < 2 ^ N) (h : ∀ i, i < N → a.testBit i = P i) : a = msk P N := by
  apply bit_ext
  intro i
  rw [msk_bit]
  by_cases hi : i < N
  · simp [hi, h i hi]
  · rw [Nat.testBit_lt_two_pow (Nat.lt_of_lt_of_le ha (Nat.pow_le_pow_right (by omega) (by omega)))]
    simp [hi]
theorem msk_cong {P Q : Nat → Bool} {N : Nat} (h : ∀ i, i < N → P i = Q i) : msk P N = msk Q N := msk_of (msk_lt P N) (fun i hi => by rw [msk_bit]; simp [hi, h i hi])
theorem fJbc : ∀ m, m < 256 → fJ6_bitCount_0f7a4 (nI m) = some (nI (fa_cnt m.testBit 8)) := by decide +kernel
theorem fX7on : ∀ m, m < 256 → fX7_ones (nI m) = some (nI (fa_cnt m.testBit 8)) := by decide +kernel
