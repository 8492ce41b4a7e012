/-! the reference: which entries count, the year of an event in a house -/
theorem in_ok (x a b : Int64) : fX7_in x a b = some (if a ≤ x ∧ x ≤ b then 1 else 0) := by
  have h0 : ∀ u v : Int64, ¬ lg_cmp u v < 0 ↔ v ≤ u := by
    intro u v
    unfold lg_cmp
    rw [fa_le64]
    have e1 := fa_lt64 v u
    have e2 := fa_eq64 u v
    by_cases q1 : v < u
    · have := e1.mp q1
      simp [q1]; omega
    · by_cases q2 : u = v
      · subst q2; simp
      · have h3 : ¬ u.toInt = v.toInt := fun q => q2 (e2.mpr q)
        have h4 : ¬ v.toInt < u.toInt := fun q => q1 (e1.mpr q)
        simp [q1, q2]; first | omega | (constructor <;> intro h <;> first | omega | (exact absurd h (by decide)))
  have h1 : ∀ u v : Int64, ¬ 0 < lg_cmp u v ↔ u ≤ v := by
    intro u v
    unfold lg_cmp
    rw [fa_le64]
    have e1 := fa_lt64 v u
    have e2 := fa_eq64 u v
    by_cases q1 : v < u
    · have := e1.mp q1
      simp [q1]; first | omega | (constructor <;> intro h <;> first | omega | (exact absurd h (by decide)))
    · by_cases q2 : u = v
      · subst q2; simp
      · have h3 : ¬ u.toInt = v.toInt := fun q => q2 (e2.mpr q)
        have h4 : ¬ v.toInt < u.toInt := fun q => q1 (e1.mpr q)
        simp [q1, q2]; first | omega | (constructor <;> intro h <;> first | omega | (exact absurd h (by decide)))
  unfold fX7_in
  by_cases a1 : a ≤ x
  · rw [if_neg ((h0 x a).mpr a1)]
    by_cases a2 : x ≤ b
    · rw [if_neg ((h1 x b).mpr a2), if_pos ⟨a1, a2⟩]
    · rw [if_pos (Decidable.not_not.mp (fun q => a2 ((h1 x b).mp q))), if_neg (fun q => a2 q.2)]
  · rw [if_pos (Decidable.not_not.mp (fun q => a1 ((h0 x a).mp q))), if_neg (fun q => a1 q.1)]
theorem in32 (x a b : Int32) : fX7_in x.toInt64 a.toInt64 b.toInt64 = some (if a ≤ x ∧ x ≤ b then 1 else 0) := by
  rw [in_ok]
  simp only [fa_wide_le]
theorem in32r (x a b : Int32) {α : Type} {k : Int32 → Option α} : bi (fX7_in x.toInt64 a.toInt64 b.toInt64) k = k (if a ≤ x ∧ x ≤ b then 1 else 0) := by
  rw [in32]; rfl
theorem g01 {α : Type} (c : Prop) [Decidable c] (x : Option α) : grd ((if c then (1 : Int32) else 0) = 0 ∨ (if c then (1 : Int32) else 0) = 1) x = x := by
  apply grd_t
  by_cases h : c
  · right; rw [if_pos h]
  · left; rw [if_neg h]
theorem has_ok {m k : Nat} (hm : m < 2 ^ 31) (hk : k < 31) : fX7_has (nI m) (nI k) = some (if m.testBit k then 1 else 0) := by
  unfold fX7_has
  rw [shrbit hm hk]
  by_cases h : m.testBit k = true
  · simp [h]
  · simp [h]
def RC (ρ : Mem) (n : Nat) (sz : Nat → Nat) (ev yr : Nat → Nat → Nat) (sb : Nat → Nat) (lo : Int32) (ho : Nat) : Prop :=
  ρ 0 7 = nI n ∧ (∀ h, h < n → ρ 5 h = nI (sz h)) ∧ (∀ h k, h < n → k < sz h → ρ 6 (6 * h + k) = nI (ev h k) ∧ ρ 1 (1 + 6 * h + k) = nI (yr h k) ∧ ρ 1 (25 + 6 * h + k) = if (sb h).testBit k then 1 else 0) ∧ ρ 0 19 = lo ∧ ρ 0 20 = nI ho
def KV (n : Nat) (sz : Nat → Nat) (ev yr : Nat → Nat → Nat) (sb : Nat → Nat) (sl : Nat) : Prop :=
  n ≤ 4 ∧ (∀ h, h < n → sz h ≤ 6 ∧ sb h < 2 ^ sz h) ∧ (∀ h k, h < n → k < sz h → ev h k < 8 ∧ yr h k ≤ 99) ∧ (∀ h i j, h < n → i < j → j < sz h → ev h i ≠ ev h j) ∧ (∀ h i j, h < n → i < j → j < sz h → yr h i ≤ yr h j) ∧ sl ≤ 9
def acR (n : Nat) (sz : Nat → Nat) (sb : Nat → Nat) (lo : Int32) (ho : Nat) (h k : Nat) : Bool := decide (h < n) && decide (k < sz h) && !(sb h).testBit k && !decide (lo = nI (6 * h + k)) && !ho.testBit h
theorem first_is {P : Nat → Bool} {n k : Nat} (h1 : ∀ i, i < k → P i = false) (h2 : P k = true) (hk : k < n) : fa_first P n = k := by
  rcases Nat.lt_trichotomy (fa_first P n) k with h | h | h
  · have a := fa_first_yes P n (by omega)
    rw [h1 _ h] at a; cases a
  · exact h
  · have a := fa_first_no P n k h
    rw [h2] at a; cases a
theorem first_none {P : Nat → Bool} {n : Nat} (h1 : ∀ i, i < n → P i = false) : fa_first P n = n := by
  rcases Nat.lt_or_ge (fa_first P n) n with h | h
  · have a := fa_first_yes P n h
    rw [h1 _ h] at a; cases a
  · exact Nat.le_antisymm (fa_first_le P n) h
/-- the place of an event among the entries that count; 6 where there is none -/
def plc (ac : Nat → Nat → Bool) (ev : Nat → Nat → Nat) (h e : Nat) : Nat := fa_first (fun k => ac h k && (ev h k == e)) 6
section RB
variable {ρ : Mem} {n : Nat} {sz : Nat → Nat} {ev yr : Nat → Nat → Nat} {sb : Nat → Nat} {sl : Nat} {lo : Int32} {ho : Nat}
theorem sub1_le {x : Int32} {n : Nat} (hn : n < 1000) : x ≤ nI n - 1 ↔ x < nI n := by
  have e : (nI n - 1).toInt = (n : Int) - 1 := pk_sub_toInt (b := 1) (by omega) (by omega)
  rw [fa_le, fa_lt, e, nI_toInt (by omega)]
  omega
theorem house_cs (x : Int32) (n : Nat) (hn : n < 1000) : (∃ h, h < n ∧ x = nI h) ∨ ¬ (0 ≤ x ∧ x < nI n) := by
  by_cases h : 0 ≤ x ∧ x < nI n
  · left
    obtain ⟨j, hj, e⟩ := nI_of (x := x) (by rw [fa_lt]; have := h.1; rw [fa_le] at this; omega)
    subst e
    exact ⟨j, (nI_ltI hj (by omega)).mp h.2, rfl⟩
  · exact Or.inr h
theorem nI_pos2 {h n : Nat} (hh : h < n) (hn : n < 2 ^ 31) : 0 ≤ nI h ∧ nI h < nI n := ⟨nI_pos' (by omega), nI_lt hh hn⟩
theorem isHouse_ok (hv : KV n sz ev yr sb sl) (hc : RC ρ n sz ev yr sb lo ho) (x : Int32) : fX7_isHouse x ρ = some (if 0 ≤ x ∧ x < nI n then 1 else 0) := by
  unfold fX7_isHouse
  have hn := hv.1
  rw [hc.1, show (0 : Int64) = (0 : Int32).toInt64 from rfl, in32r]
  simp only [sub1_le (show n < 1000 by omega), g01]
theorem isEntry_ok (hv : KV n sz ev yr sb sl) (hc : RC ρ n sz ev yr sb lo ho) {h : Nat} (hh : h < n) (y : Int32) : fX7_isEntry (nI h) y ρ = some (if 0 ≤ y ∧ y < nI (sz h) then 1 else 0) := by
  unfold fX7_isEntry
  have hn := hv.1
  have hs := (hv.2.1 h hh).1
  rw [isHouse_ok hv hc, if_pos (nI_pos2 hh (by omega)), bi_s, if_neg (by decide), grd_in (by omega) (by omega), nI_clamp (by omega), hc.2.1 h hh, show (0 : Int64) = (0 : Int32).toInt64 from rfl, in32r]
  simp only [sub1_le (show sz h < 1000 by omega)]
  by_cases q : 0 ≤ y ∧ y < nI (sz h)
  · simp [q]
  · simp [q]
theorem isEntry_no (hv : KV n sz ev yr sb sl) (hc : RC ρ n sz ev yr sb lo ho) {x : Int32} (hx : ¬ (0 ≤ x ∧ x < nI n)) (y : Int32) : fX7_isEntry x y ρ = some 0 := by
  unfold fX7_isEntry
  rw [isHouse_ok hv hc, if_neg hx, bi_s, if_pos rfl]
theorem counts_ok (hv : KV n sz ev yr sb sl) (hc : RC ρ n sz ev yr sb lo ho) (hho : ho < 16) {h k : Nat} (hh : h < 4) (hk : k < 6) : fX7_counts (nI h) (nI k) ρ = some (if acR n sz sb lo ho h k then 1 else 0) := by
  unfold fX7_counts
  have hn := hv.1
  by_cases q : h < n
  · have hs := (hv.2.1 h q).1
    rw [isEntry_ok hv hc q]
    by_cases q2 : k < sz h
    · obtain ⟨e1, e2, e3⟩ := hc.2.2.1 h k q q2
      have ix : (25 : Int32) + (6 : Int32) * nI h + nI k = nI (25 + 6 * h + k) := by
        rw [show (25 : Int32) = nI 25 from rfl, show (6 : Int32) = nI 6 from rfl, pk_mul, nI_add, nI_add]
      have ix2 : (6 : Int32) * nI h + nI k = nI (6 * h + k) := by
        rw [show (6 : Int32) = nI 6 from rfl, pk_mul, nI_add]
      rw [if_pos (nI_pos2 q2 (by omega)), bi_s, if_neg (by decide), ix, grd_in (by omega) (by omega), nI_clamp (by omega), e3, ix2, hc.2.2.2.1, hc.2.2.2.2, has_ok (by omega) (by omega)]
      unfold acR
      by_cases b1 : (sb h).testBit k = true
      · simp [b1]
      · by_cases b2 : lo = nI (6 * h + k)
        · simp [b1, b2]
        · by_cases b3 : ho.testBit h = true
          · simp [b1, b2, b3, bi_s]
          · simp [b1, b2, b3, q, q2, bi_s]
    · rw [if_neg (fun z => q2 ((nI_ltI (by omega) (by omega)).mp z.2)), bi_s, if_pos rfl]
      simp [acR, q2]
  · rw [isEntry_no hv hc (fun z => q ((nI_ltI (by omega) (by omega)).mp z.2)), bi_s, if_pos rfl]
    simp [acR, q]
theorem acR_in {h k : Nat} (q : acR n sz sb lo ho h k = true) : h < n ∧ k < sz h := by
  simp [acR] at q
  exact ⟨q.1.1.1.1, q.1.1.1.2⟩
theorem yearIn_ok (hv : KV n sz ev yr sb sl) (hc : RC ρ n sz ev yr sb lo ho) (hho : ho < 16) {h e : Nat} (hh : h < 4) (he : e < 8) :
    fX7_yearIn (nI h) (nI e) ρ = some (if plc (acR n sz sb lo ho) ev h e < 6 then nI (yr h (plc (acR n sz sb lo ho) ev h e)) else -9) := by
  have key : ∀ c k fu, k + c = 6 → c < fu → (∀ i, i < k → (acR n sz sb lo ho h i && (ev h i == e)) = false) → fX7_yearIn_2 ρ fu (nI h) (nI e) (nI k) = some (if plc (acR n sz sb lo ho) ev h e < 6 then nI (yr h (plc (acR n sz sb lo ho) ev h e)) else -9) := by
    intro c
    induction c with
    | zero =>
      intro k fu hk hf hp
      obtain ⟨fu, rfl⟩ : ∃ q, fu = q + 1 := ⟨fu - 1, by omega⟩
      have : k = 6 := by omega
      subst this
      rw [fX7_yearIn_2, if_pos (by decide)]
      unfold plc
      rw [first_none hp]
      rfl
    | succ c ih =>
      intro k fu hk hf hp
      obtain ⟨fu, rfl⟩ : ∃ q, fu = q + 1 := ⟨fu - 1, by omega⟩
      rw [fX7_yearIn_2, if_neg (show ¬ (6 : Int32) ≤ nI k from nI_ge (b := 6) (by omega) (by omega)), counts_ok hv hc hho hh (by omega), bi_s]
      by_cases q : acR n sz sb lo ho h k = true
      · obtain ⟨q1, q2⟩ := acR_in q
        obtain ⟨e1, e2, e3⟩ := hc.2.2.1 h k q1 q2
        have hb := (hv.2.2.1 h k q1 q2).1
        have hs := (hv.2.1 h q1).1
        have ix : (1 : Int32) + (6 : Int32) * nI h + nI k = nI (1 + 6 * h + k) := by
          rw [show (1 : Int32) = nI 1 from rfl, show (6 : Int32) = nI 6 from rfl, pk_mul, nI_add, nI_add]
        have ix2 : (6 : Int32) * nI h + nI k = nI (6 * h + k) := by
          rw [show (6 : Int32) = nI 6 from rfl, pk_mul, nI_add]
        rw [if_pos q, if_neg (by decide), ix2, grd_in (by omega) (by omega), nI_clamp (by omega), e1, ix, grd_in (by omega) (by omega), nI_clamp (by omega), e2]
        by_cases q3 : ev h k = e
        · rw [if_pos (by rw [q3])]
          have : plc (acR n sz sb lo ho) ev h e = k := first_is hp (by simp [q, q3]) (by omega)
          rw [this, if_pos (by omega)]
        · rw [if_neg (fun z => q3 ((nI_eq (by omega) (by omega)).mp z)), nI_1]
          refine ih (k + 1) fu (by omega) (by omega) (fun i hi => ?_)
          by_cases w : i = k
          · subst w; simp [q3]
          · exact hp i (by omega)
      · rw [if_neg q, if_pos rfl, nI_1]
        refine ih (k + 1) fu (by omega) (by omega) (fun i hi => ?_)
        by_cases w : i = k
        · subst w; simp [q]
        · exact hp i (by omega)
  unfold fX7_yearIn
  exact key 6 0 FU rfl (by decide) (fun i hi => absurd hi (by omega))
end RB
