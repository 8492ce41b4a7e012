/-! loops by their state at each step -/
theorem loopK {S R : Type} {F : Nat → Nat → S → Option R} {n : Nat} {st : Nat → S} {res : Option R} (hx : ∀ fu, F (fu + 1) n (st n) = res) (hs : ∀ fu k, k < n → F (fu + 1) k (st k) = F fu (k + 1) (st (k + 1))) :
    ∀ (c k fu : Nat), k + c = n → c < fu → F fu k (st k) = res := by
  intro c
  induction c with
  | zero =>
    intro k fu hk hf
    obtain ⟨fu, rfl⟩ : ∃ q, fu = q + 1 := ⟨fu - 1, by omega⟩
    have : k = n := by omega
    subst this
    exact hx fu
  | succ c ih =>
    intro k fu hk hf
    obtain ⟨fu, rfl⟩ : ∃ q, fu = q + 1 := ⟨fu - 1, by omega⟩
    rw [hs fu k (by omega)]
    exact ih (k + 1) fu (by omega) (by omega)
theorem loop1 {S R : Type} (F : Nat → Nat → S → Option R) (n : Nat) (st : Nat → S) {res : Option R} (hx : ∀ fu, F (fu + 1) n (st n) = res) (hs : ∀ fu k, k < n → F (fu + 1) k (st k) = F fu (k + 1) (st (k + 1))) {fu : Nat} (h : n < fu) : F fu 0 (st 0) = res :=
  loopK hx hs n 0 fu (by omega) h
theorem loop1s {S R : Type} (F : Nat → Nat → S → Option R) (n : Nat) (st : Nat → S) {s0 : S} (h0 : s0 = st 0) {res : Option R} (hx : ∀ fu, F (fu + 1) n (st n) = res) (hs : ∀ fu k, k < n → F (fu + 1) k (st k) = F fu (k + 1) (st (k + 1))) {fu : Nat} (h : n < fu) : F fu 0 s0 = res := by
  rw [h0]
  exact loop1 F n st hx hs h
theorem loopA {S R : Type} (F : Nat → Nat → S → Option R) (a n : Nat) (st : Nat → S) {res : Option R} (ha : a ≤ n) (hx : ∀ fu, F (fu + 1) n (st n) = res) (hs : ∀ fu k, a ≤ k → k < n → F (fu + 1) k (st k) = F fu (k + 1) (st (k + 1))) {fu : Nat} (h : n < fu) : F fu a (st a) = res := by
  have key : ∀ (c k fu : Nat), a ≤ k → k + c = n → c < fu → F fu k (st k) = res := by
    intro c
    induction c with
    | zero =>
      intro k fu h0 hk hf
      obtain ⟨fu, rfl⟩ : ∃ q, fu = q + 1 := ⟨fu - 1, by omega⟩
      have : k = n := by omega
      subst this
      exact hx fu
    | succ c ih =>
      intro k fu h0 hk hf
      obtain ⟨fu, rfl⟩ : ∃ q, fu = q + 1 := ⟨fu - 1, by omega⟩
      rw [hs fu k h0 (by omega)]
      exact ih (k + 1) fu (by omega) (by omega) (by omega)
  exact key (n - a) a fu (Nat.le_refl a) (by omega) (by omega)
theorem FU_big : FU = 1000 := rfl
theorem or0 (x : Int32) : x ||| 0 = x := by simp
theorem nle8 {k : Nat} (h : k < 8) : ¬ (8 : Int32) ≤ nI k := nI_ge (b := 8) h (by omega)
theorem nle6 {k : Nat} (h : k < 6) : ¬ (6 : Int32) ≤ nI k := nI_ge (b := 6) h (by omega)
theorem nle4 {k : Nat} (h : k < 4) : ¬ (4 : Int32) ≤ nI k := nI_ge (b := 4) h (by omega)
/-- which events an event is ahead of, as far as the first h houses tell -/
def ahm (ac : Nat → Nat → Bool) (ev yr : Nat → Nat → Nat) (e : Nat) : Nat → Nat
  | 0 => 0
  | h + 1 => if plc ac ev h e < 6 then ahm ac ev yr e h ||| msk (fun f => decide (plc ac ev h f < 6) && decide (yr h (plc ac ev h e) < yr h (plc ac ev h f))) 8 else ahm ac ev yr e h
theorem ahm_lt (ac : Nat → Nat → Bool) (ev yr : Nat → Nat → Nat) (e : Nat) : ∀ h, ahm ac ev yr e h < 2 ^ 8
  | 0 => by simp [ahm]
  | h + 1 => by
    have a := ahm_lt ac ev yr e h
    unfold ahm
    split
    · exact Nat.or_lt_two_pow a (msk_lt _ 8)
    · exact a
section RQ
variable {ρ : Mem} {n : Nat} {sz : Nat → Nat} {ev yr : Nat → Nat → Nat} {sb : Nat → Nat} {sl : Nat} {lo : Int32} {ho : Nat}
theorem plc_in (ac : Nat → Nat → Bool) {h e : Nat} (q : plc ac ev h e < 6) : ac h (plc ac ev h e) = true ∧ ev h (plc ac ev h e) = e := by
  have a := fa_first_yes (fun k => ac h k && (ev h k == e)) 6 q
  simp only [Bool.and_eq_true, beq_iff_eq] at a
  exact a
theorem yr_small (hv : KV n sz ev yr sb sl) {h e : Nat} (q : plc (acR n sz sb lo ho) ev h e < 6) : yr h (plc (acR n sz sb lo ho) ev h e) ≤ 99 := by
  obtain ⟨a, -⟩ := plc_in (acR n sz sb lo ho) q
  obtain ⟨b, c⟩ := acR_in a
  exact (hv.2.2.1 _ _ b c).2
theorem neg9 : ((-9 : Int32) < 0) := by decide
theorem housesOf_ok (hv : KV n sz ev yr sb sl) (hc : RC ρ n sz ev yr sb lo ho) (hho : ho < 16) {e : Nat} (he : e < 8) :
    fX7_housesOf (nI e) ρ = some (nI (msk (fun h => decide (plc (acR n sz sb lo ho) ev h e < 6)) n)) := by
  have hn := hv.1
  unfold fX7_housesOf
  refine loop1 (fun fu k s => fX7_housesOf_4 ρ fu (nI e) (nI s) (nI k)) n (fun k => msk (fun h => decide (plc (acR n sz sb lo ho) ev h e < 6)) k) (fun fu => ?_) (fun fu k hk => ?_) (by rw [FU_big]; omega)
  · show fX7_housesOf_4 _ _ _ _ _ = _
    rw [fX7_housesOf_4, hc.1, if_pos (nI_le (Nat.le_refl n) (by omega))]
  · show fX7_housesOf_4 _ _ _ _ _ = fX7_housesOf_4 _ _ _ _ _
    rw [fX7_housesOf_4, hc.1, if_neg (nI_ge hk (by omega)), yearIn_ok hv hc hho (by omega) he, bi_s]
    by_cases q : plc (acR n sz sb lo ho) ev k e < 6
    · have y := yr_small hv q
      rw [if_pos q, if_neg (nI_pos (by omega)), shl1 (by omega), fa_or, nI_1]
      simp [msk, q]
    · rw [if_neg q, if_pos neg9, or0, nI_1]
      simp [msk, q]
theorem sizeOf_ok (hv : KV n sz ev yr sb sl) (hc : RC ρ n sz ev yr sb lo ho) (hho : ho < 16) {h : Nat} (hh : h < 4) :
    fX7_sizeOf (nI h) ρ = some (nI (fa_cnt (acR n sz sb lo ho h) 6)) := by
  unfold fX7_sizeOf
  refine loop1 (fun fu k s => fX7_sizeOf_4 ρ fu (nI h) (nI s) (nI k)) 6 (fun k => fa_cnt (acR n sz sb lo ho h) k) (fun fu => ?_) (fun fu k hk => ?_) (by rw [FU_big]; omega)
  · show fX7_sizeOf_4 _ _ _ _ _ = _
    rw [fX7_sizeOf_4, if_pos (by decide)]
  · show fX7_sizeOf_4 _ _ _ _ _ = fX7_sizeOf_4 _ _ _ _ _
    rw [fX7_sizeOf_4, if_neg (nle6 hk), counts_ok hv hc hho hh hk, bi_s]
    by_cases q : acR n sz sb lo ho h k = true
    · rw [if_pos q, if_neg (by decide), nI_1, nI_1, fa_cnt_yes q]
    · rw [if_neg q, if_pos rfl, nI_1, fa_cnt_no (by simpa using q)]
      simp
theorem aheadOf_ok (hv : KV n sz ev yr sb sl) (hc : RC ρ n sz ev yr sb lo ho) (hho : ho < 16) {e : Nat} (he : e < 8) :
    fX7_aheadOf (nI e) ρ = some (nI (ahm (acR n sz sb lo ho) ev yr e n)) := by
  have hn := hv.1
  unfold fX7_aheadOf
  refine loop1 (fun fu k s => fX7_aheadOf_4 ρ fu (nI e) (nI s) (nI k)) n (fun k => ahm (acR n sz sb lo ho) ev yr e k) (fun fu => ?_) (fun fu k hk => ?_) (by rw [FU_big]; omega)
  · show fX7_aheadOf_4 _ _ _ _ _ = _
    rw [fX7_aheadOf_4, hc.1, if_pos (nI_le (Nat.le_refl n) (by omega))]
  · show fX7_aheadOf_4 _ _ _ _ _ = fX7_aheadOf_4 _ _ _ _ _
    rw [fX7_aheadOf_4, hc.1, if_neg (nI_ge hk (by omega)), yearIn_ok hv hc hho (by omega) he, bi_s]
    by_cases q : plc (acR n sz sb lo ho) ev k e < 6
    · have y := yr_small hv q
      rw [if_pos q]
      refine loop1s (fun fu2 j s => fX7_aheadOf_23 (fun a0 a1 a2 => fX7_aheadOf_4 ρ fu a0 a1 a2) ρ fu2 (nI e) (nI s) (nI k) (nI (yr k (plc (acR n sz sb lo ho) ev k e))) (nI j)) 8 (fun j => ahm (acR n sz sb lo ho) ev yr e k ||| msk (fun f => decide (plc (acR n sz sb lo ho) ev k f < 6) && decide (yr k (plc (acR n sz sb lo ho) ev k e) < yr k (plc (acR n sz sb lo ho) ev k f))) j) (s0 := ahm (acR n sz sb lo ho) ev yr e k) (by simp [msk]) (fun fu2 => ?_) (fun fu2 j hj => ?_) (by rw [FU_big]; omega)
      · show fX7_aheadOf_23 _ _ _ _ _ _ _ _ = _
        rw [fX7_aheadOf_23, if_pos (by decide), nI_1]
        simp only [ahm, q, if_true]
      · show fX7_aheadOf_23 _ _ _ _ _ _ _ _ = fX7_aheadOf_23 _ _ _ _ _ _ _ _
        rw [fX7_aheadOf_23, if_neg (nle8 hj), if_neg (nI_pos (by omega)), yearIn_ok hv hc hho (by omega) hj, bi_s]
        by_cases q2 : plc (acR n sz sb lo ho) ev k j < 6
        · have y2 := yr_small hv q2
          rw [if_pos q2]
          by_cases q3 : yr k (plc (acR n sz sb lo ho) ev k e) < yr k (plc (acR n sz sb lo ho) ev k j)
          · rw [if_neg (nI_ge q3 (by omega)), shl1 (by omega), fa_or, nI_1]
            simp [msk, q2, q3, Nat.or_assoc]
          · rw [if_pos (nI_le (by omega) (by omega)), or0, nI_1]
            simp [msk, q2, q3]
        · rw [if_neg q2, if_pos (by rw [fa_le, nI_toInt (by omega)]; show (-9 : Int) ≤ _; omega), or0, nI_1]
          simp [msk, q2]
    · rw [if_neg q, FU_big, fX7_aheadOf_23, if_neg (by decide), if_pos neg9, nI_1]
      simp [ahm, q]
end RQ
