/-! the class's houses -/
theorem RC_chm {ρ : Mem} {n : Nat} {sz : Nat → Nat} {ev yr : Nat → Nat → Nat} {sb : Nat → Nat} {lo : Int32} {ho : Nat} (hc : RC ρ n sz ev yr sb lo ho) {A : Nat → Nat} {k : Nat} : RC (chm 10 ρ A k) n sz ev yr sb lo ho := by
  obtain ⟨h1, h2, h3, h4, h5⟩ := hc
  refine ⟨by rw [chm_out (by omega)]; exact h1, fun h hh => by rw [chm_out (by omega)]; exact h2 h hh, fun h k hh hk => ?_, by rw [chm_out (by omega)]; exact h4, by rw [chm_out (by omega)]; exact h5⟩
  rw [chm_out (by omega), chm_out (by omega), chm_out (by omega)]
  exact h3 h k hh hk
theorem Pre_rf {A : Nat → Nat} (h : ∀ e, e < 8 → A e < 256) : Pre A A := ⟨h, fun _ _ _ q => q, fun S h1 _ e f he q => h1 e f he q⟩
theorem R_chain {ρ : Mem} {n : Nat} {sz : Nat → Nat} {ev yr : Nat → Nat → Nat} {sb : Nat → Nat} {sl : Nat} {lo : Int32} {ho : Nat} (hv : KV n sz ev yr sb sl) (hc : RC ρ n sz ev yr sb lo ho) (hho : ho < 16) :
    ∃ c, Cl (fun e => ahm (acR n sz sb lo ho) ev yr e n) c ∧ fX7_laysChains ρ = some (chm 10 ρ c 8) := by
  obtain ⟨c, h1, h2⟩ := lay_all (ρ := ρ) (A := fun e => ahm (acR n sz sb lo ho) ev yr e n) 65 FU (fun e => ahm (acR n sz sb lo ho) ev yr e n) (by omega) (by rw [FU_big]; omega) (Pre_rf (fun e _ => ahm_lt _ _ _ _ _))
  refine ⟨c, h1, ?_⟩
  unfold fX7_laysChains
  refine loop1s (fun fu k s => fX7_laysChains_2 fu (nI k) s) 8 (fun k => chm 10 ρ (fun e => ahm (acR n sz sb lo ho) ev yr e n) k) (s0 := ρ) chm_0.symm (fun fu => ?_) (fun fu k hk => ?_) (by rw [FU_big]; omega)
  · show fX7_laysChains_2 _ _ _ = _
    rw [fX7_laysChains_2, if_pos (by decide)]
    exact h2
  · show fX7_laysChains_2 _ _ _ = fX7_laysChains_2 _ _ _
    rw [fX7_laysChains_2, if_neg (nle8 hk), aheadOf_ok hv (RC_chm hc) hho hk, bi_s, grd_in hk (by omega), nI_clamp (by omega), nI_1]
    congr 1
    exact chm_next
theorem R_knots {ρ : Mem} {n : Nat} {sz : Nat → Nat} {ev yr : Nat → Nat → Nat} {sb : Nat → Nat} {sl : Nat} {lo : Int32} {ho : Nat} (hv : KV n sz ev yr sb sl) (hc : RC ρ n sz ev yr sb lo ho) (hho : ho < 16) :
    ∃ c, Cl (fun e => ahm (acR n sz sb lo ho) ev yr e n) c ∧ fX7_knots ρ = some (nI (msk (fun e => (c e).testBit e) 8), chm 10 ρ c 8) := by
  obtain ⟨c, h1, h2⟩ := R_chain hv hc hho
  refine ⟨c, h1, ?_⟩
  unfold fX7_knots
  rw [h2, bv_s]
  refine loop1 (fun fu k s => fX7_knots_8 fu (nI s) (nI k) (chm 10 ρ c 8)) 8 (fun k => msk (fun e => (c e).testBit e) k) (fun fu => ?_) (fun fu k hk => ?_) (by rw [FU_big]; omega)
  · show fX7_knots_8 _ _ _ _ = _
    rw [fX7_knots_8, if_pos (by decide)]
  · show fX7_knots_8 _ _ _ _ = fX7_knots_8 _ _ _ _
    rw [fX7_knots_8, if_neg (nle8 hk), grd_in hk (by omega), nI_clamp (by omega), chm_in hk, shl1 (by omega), fa_and, fa_or, nI_1, and_pow]
    by_cases q : (c k).testBit k = true
    · simp [msk, q]
    · simp [msk, q]
/-- a house of the class -/
def XH (σ : Mem) (h sz : Nat) (ev yr : Nat → Nat) (sb : Nat) : Prop := σ h 2 = nI sz ∧ σ h 3 = nI sb ∧ (∀ k, k < sz → σ (h + 1) k = nI (ev k)) ∧ ∀ k, k < sz → σ (h + 2) k = nI (yr k)
def HV (sz : Nat) (ev yr : Nat → Nat) (sb : Nat) : Prop := sz ≤ 6 ∧ sb < 2 ^ sz ∧ (∀ k, k < sz → ev k < 8 ∧ yr k ≤ 99) ∧ (∀ i j, i < j → j < sz → ev i ≠ ev j) ∧ ∀ i j, i < j → j < sz → yr i ≤ yr j
def a1 (sz sb k : Nat) : Bool := decide (k < sz) && !sb.testBit k
def pl1 (a : Nat → Bool) (ev : Nat → Nat) (e : Nat) : Nat := fa_first (fun k => a k && (ev k == e)) 6
theorem HV_sb {sz : Nat} {ev yr : Nat → Nat} {sb : Nat} (h : HV sz ev yr sb) : sb < 64 := Nat.lt_of_lt_of_le h.2.1 (Nat.pow_le_pow_right (n := 2) (by omega) h.1)
section XHs
variable {σ : Mem} {h sz sb : Nat} {ev yr : Nat → Nat}
theorem isStruck_ok {m : Nat} (hm : σ h 3 = nI m) (hs : m < 2 ^ 31) {k : Nat} (hk : k < 31) : fX2_isStruck h (nI k) σ = some (if m.testBit k then 1 else 0) := by
  unfold fX2_isStruck
  rw [hm, shrbit hs hk]
  by_cases q : m.testBit k = true
  · simp [q]
  · simp [q]
theorem first_lt {P : Nat → Bool} {n : Nat} : fa_first P n < n ↔ ∃ k, k < n ∧ P k = true := by
  constructor
  · intro q; exact ⟨_, q, fa_first_yes P n q⟩
  · rintro ⟨k, hk, hp⟩
    rcases Nat.lt_or_ge (fa_first P n) n with w | w
    · exact w
    · have := fa_first_no P n k (by omega)
      rw [hp] at this; cases this
theorem placeOf_ok (hv : HV sz ev yr sb) (hx : XH σ h sz ev yr sb) {e : Nat} (he : e < 2 ^ 31) :
    fX2_placeOf h (nI e) σ = some (if pl1 (a1 sz sb) ev e < 6 then nI (pl1 (a1 sz sb) ev e) else -1) := by
  have hs := hv.1
  have h64 := HV_sb hv
  have key : ∀ c k fu, k + c = sz → c < fu → (∀ i, i < k → (a1 sz sb i && (ev i == e)) = false) → fX2_placeOf_2 h σ fu (nI e) (nI k) = some (if pl1 (a1 sz sb) ev e < 6 then nI (pl1 (a1 sz sb) ev e) else -1) := by
    intro c
    induction c with
    | zero =>
      intro k fu hk hf hp
      obtain ⟨fu, rfl⟩ : ∃ q, fu = q + 1 := ⟨fu - 1, by omega⟩
      have : k = sz := by omega
      subst this
      rw [fX2_placeOf_2, hx.1, if_pos (nI_le (Nat.le_refl _) (by omega)), if_neg]
      intro w
      obtain ⟨i, hi, hpi⟩ := first_lt.mp w
      by_cases z : i < k
      · rw [hp i z] at hpi; cases hpi
      · simp [a1, z] at hpi
    | succ c ih =>
      intro k fu hk hf hp
      obtain ⟨fu, rfl⟩ : ∃ q, fu = q + 1 := ⟨fu - 1, by omega⟩
      have hb := (hv.2.2.1 k (by omega)).1
      rw [fX2_placeOf_2, hx.1, if_neg (nI_ge (by omega) (by omega)), grd_in (by omega) (by omega), nI_clamp (by omega), hx.2.2.1 k (by omega), isStruck_ok hx.2.1 (by omega) (by omega), bi_s, nI_1]
      by_cases q3 : ev k = e
      · rw [if_pos (by rw [q3])]
        by_cases q : sb.testBit k = true
        · rw [if_pos q, if_neg (by decide)]
          refine ih (k + 1) fu (by omega) (by omega) (fun i hi => ?_)
          by_cases w : i = k
          · subst w; simp [a1, q]
          · exact hp i (by omega)
        · rw [if_neg q, if_pos rfl]
          have : pl1 (a1 sz sb) ev e = k := first_is hp (by simp [a1, q, q3, show k < sz by omega]) (by omega)
          rw [this, if_pos (by omega)]
      · rw [if_neg (fun z => q3 ((nI_eq (by omega) (by omega)).mp z))]
        refine ih (k + 1) fu (by omega) (by omega) (fun i hi => ?_)
        by_cases w : i = k
        · subst w; simp [q3]
        · exact hp i (by omega)
  unfold fX2_placeOf
  exact key sz 0 FU (by omega) (by rw [FU_big]; omega) (fun i hi => absurd hi (by omega))
theorem or_msk {P Q : Nat → Bool} {e : Nat} (he : e < 8) (h : ∀ i, i < 8 → Q i = (P i || decide (i = e))) : msk P 8 ||| 2 ^ e = msk Q 8 := by
  apply msk_of
  · exact Nat.or_lt_two_pow (msk_lt P 8) (Nat.pow_lt_pow_right (by omega) he)
  · intro i hi
    rw [Nat.testBit_or, msk_bit, h i hi]
    by_cases q : i = e
    · subst q; simp [Nat.testBit_two_pow_self]
    · rw [Nat.testBit_two_pow_of_ne (Ne.symm q)]; simp [q, hi]
theorem eventBits_ok (hv : HV sz ev yr sb) (hx : XH σ h sz ev yr sb) : fX2_eventBits h σ = some (nI (msk (fun e => decide (pl1 (a1 sz sb) ev e < 6)) 8)) := by
  have hs := hv.1
  have h64 := HV_sb hv
  unfold fX2_eventBits
  refine loop1s (fun fu k s => fX2_eventBits_4 h σ fu (nI s) (nI k)) sz (fun k => msk (fun e => decide (fa_first (fun j => a1 sz sb j && (ev j == e)) k < k)) 8) (s0 := 0) (by rfl) (fun fu => ?_) (fun fu k hk => ?_) (by rw [FU_big]; omega)
  · show fX2_eventBits_4 _ _ _ _ _ = _
    rw [fX2_eventBits_4, hx.1, if_pos (nI_le (Nat.le_refl _) (by omega))]
    congr 2
    apply msk_cong
    intro e _
    apply decide_eq_decide.mpr
    unfold pl1
    rw [first_lt, first_lt]
    constructor
    · rintro ⟨i, hi, q⟩; exact ⟨i, by omega, q⟩
    · rintro ⟨i, hi, q⟩
      refine ⟨i, ?_, q⟩
      simp [a1] at q
      exact q.1.1
  · show fX2_eventBits_4 _ _ _ _ _ = fX2_eventBits_4 _ _ _ _ _
    have hb := (hv.2.2.1 k hk).1
    rw [fX2_eventBits_4, hx.1, if_neg (nI_ge hk (by omega)), isStruck_ok hx.2.1 (by omega) (by omega), bi_s, grd_in (by omega) (by omega), nI_clamp (by omega), hx.2.2.1 k hk, shl1 (by omega), fa_or, nI_1]
    by_cases q : sb.testBit k = true
    · rw [if_pos q, if_neg (by decide)]
      congr 2
      apply msk_cong
      intro e _
      apply decide_eq_decide.mpr
      rw [first_lt, first_lt]
      constructor
      · rintro ⟨i, hi, w⟩; exact ⟨i, by omega, w⟩
      · rintro ⟨i, hi, w⟩
        refine ⟨i, ?_, w⟩
        rcases Nat.lt_or_ge i k with z | z
        · exact z
        · have : i = k := by omega
          subst this
          simp [a1, q] at w
    · rw [if_neg q, if_pos rfl]
      congr 2
      apply or_msk hb
      intro e _
      rw [Bool.eq_iff_iff]
      simp only [Bool.or_eq_true, decide_eq_true_eq]
      rw [first_lt, first_lt]
      constructor
      · rintro ⟨i, hi, w⟩
        by_cases z : i = k
        · subst z
          simp at w
          exact Or.inr w.2.symm
        · exact Or.inl ⟨i, by omega, w⟩
      · rintro (⟨i, hi, w⟩ | w)
        · exact ⟨i, by omega, w⟩
        · exact ⟨k, by omega, by simp [a1, q, hk, w]⟩
theorem cnt_left : ∀ sz, sz < 7 → ∀ sb, sb < 64 → sb < 2 ^ sz → fa_cnt sb.testBit 8 ≤ sz ∧ sz - fa_cnt sb.testBit 8 = fa_cnt (a1 sz sb) 6 := by decide +kernel
theorem entriesLeft_ok (hv : HV sz ev yr sb) (hx : XH σ h sz ev yr sb) : fX2_entriesLeft h σ = some (nI (fa_cnt (a1 sz sb) 6)) := by
  have h64 := HV_sb hv
  have hs := hv.1
  obtain ⟨c1, c2⟩ := cnt_left sz (by omega) sb h64 hv.2.1
  unfold fX2_entriesLeft
  rw [hx.2.1, hx.1, fJbc sb (by omega), bi_s, pk_sub c1, c2]
end XHs
