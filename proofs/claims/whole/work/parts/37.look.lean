theorem first_cong {P Q : Nat → Bool} {n : Nat} (h : ∀ k, k < n → P k = Q k) : fa_first P n = fa_first Q n := by
  rcases Nat.lt_or_ge (fa_first P n) n with q | q
  · refine (first_is (fun i hi => ?_) ?_ q).symm
    · rw [← h i (by omega)]; exact fa_first_no P n i hi
    · rw [← h _ q]; exact fa_first_yes P n q
  · rw [Nat.le_antisymm (fa_first_le P n) q]
    refine (first_none (fun i hi => ?_)).symm
    rw [← h i hi]; exact fa_first_no P n i (by omega)
def XChr (σ : Mem) (c n : Nat) (sz : Nat → Nat) (ev yr : Nat → Nat → Nat) (sb : Nat → Nat) (sl : Nat) : Prop := σ c 1 = nI n ∧ σ c 2 = nI sl ∧ ∀ h, h < n → XH σ (c + 2 + 3 * h) (sz h) (ev h) (yr h) (sb h)
theorem KV_H {n : Nat} {sz : Nat → Nat} {ev yr : Nat → Nat → Nat} {sb : Nat → Nat} {sl : Nat} (hv : KV n sz ev yr sb sl) {h : Nat} (hh : h < n) : HV (sz h) (ev h) (yr h) (sb h) :=
  ⟨(hv.2.1 h hh).1, (hv.2.1 h hh).2, fun k hk => hv.2.2.1 h k hh hk, fun i j hi hj => hv.2.2.2.1 h i j hh hi hj, fun i j hi hj => hv.2.2.2.2.1 h i j hh hi hj⟩
theorem plc_pl1 {ac : Nat → Nat → Bool} {ev : Nat → Nat → Nat} {h : Nat} {a : Nat → Bool} (q : ∀ k, k < 6 → ac h k = a k) (e : Nat) : plc ac ev h e = pl1 a (ev h) e := by
  unfold plc pl1
  exact first_cong (fun k hk => by rw [q k hk])
theorem m9_ne {k : Nat} (h : k < 1000) : ¬ (-9 : Int32) = nI k := by
  intro q
  have e : (-9 : Int32).toInt = (nI k).toInt := by rw [q]
  rw [nI_toInt (by omega), show (-9 : Int32).toInt = -9 from rfl] at e
  omega
theorem xh_chm {σ : Mem} {A : Nat → Nat} {h sz sb : Nat} {ev yr : Nat → Nat} {ix k : Nat} (hi : ix < 17) (h17 : 17 ≤ h) (hx : XH σ h sz ev yr sb) : XH (chm ix σ A k) h sz ev yr sb := by
  obtain ⟨a, b, c, d⟩ := hx
  exact ⟨by rw [chm_out (by omega)]; exact a, by rw [chm_out (by omega)]; exact b, fun k hk => by rw [chm_out (by omega)]; exact c k hk, fun k hk => by rw [chm_out (by omega)]; exact d k hk⟩
/-- one more house is asked -/
theorem ask_next {σ : Mem} {c n : Nat} {sz : Nat → Nat} {ev yr : Nat → Nat → Nat} {sb : Nat → Nat} {sl : Nat} (hv : KV n sz ev yr sb sl) (hc : 17 ≤ c) (hx : XChr σ c n sz ev yr sb sl) {h : Nat} (hh : h < n) {ac : Nat → Nat → Bool} {m : Nat} (hm : m < 64) (hac : ∀ k, k < 6 → ac h k = a1 (sz h) m k) :
    fX3_ask (c + 2 + 3 * h) (nI m) (chm 13 σ (fun e => ahm ac ev yr e h) 8) = some (chm 13 σ (fun e => ahm ac ev yr e (h + 1)) 8) := by
  have H := KV_H hv hh
  rw [ask_ok (by omega) (hx.2.2 h hh) H.1 H.2.2.1 hm]
  congr 1
  apply chm_cong
  intro e he
  rw [air_ok (B := fun e => ahm ac ev yr e h) H.1 H.2.2.1 H.2.2.2.1 H.2.2.2.2 (ahm_lt ac ev yr e h)]
  simp only [ahm, plc_pl1 hac]
theorem ask_skip {ac : Nat → Nat → Bool} {ev yr : Nat → Nat → Nat} {h : Nat} (hac : ∀ k, k < 6 → ac h k = false) (e : Nat) : ahm ac ev yr e (h + 1) = ahm ac ev yr e h := by
  rw [ahm, if_neg]
  unfold plc
  rw [first_none (fun i hi => by rw [hac i hi]; rfl)]
  omega
theorem ah_lt {ac : Nat → Nat → Bool} {ev yr : Nat → Nat → Nat} {n : Nat} : ∀ e, e < 8 → (fun e => ahm ac ev yr e n) e < 256 := fun e _ => ahm_lt ac ev yr e n
theorem look_ok {σ : Mem} {c n : Nat} {sz : Nat → Nat} {ev yr : Nat → Nat → Nat} {sb : Nat → Nat} {sl lo : Nat} (hv : KV n sz ev yr sb sl) (hc : 17 ≤ c) (hx : XChr σ c n sz ev yr sb sl) (hlo : lo < 16) :
    fX3_look c (nI lo) σ = some (chm 14 (chm 13 σ (fun e => ahm (acR n sz sb (-9) lo) ev yr e n) 8) (wrs (fun e => ahm (acR n sz sb (-9) lo) ev yr e n) 8) 8) := by
  have hn := hv.1
  unfold fX3_look
  rw [oempty_ok, bv_s]
  refine loop1 (fun fu h s => fX3_look_6 c fu (nI lo) (nI h) (chm 13 σ s 8)) n (fun h e => ahm (acR n sz sb (-9) lo) ev yr e h) (fun fu => ?_) (fun fu h hh => ?_) (by rw [FU_big]; omega)
  · show fX3_look_6 _ _ _ _ _ = _
    rw [fX3_look_6, chm_out (by omega), hx.1, if_pos (nI_le (Nat.le_refl _) (by omega)), chain_ok ah_lt]
    rfl
  · show fX3_look_6 _ _ _ _ _ = fX3_look_6 _ _ _ _ _
    have H := KV_H hv hh
    have h64 := HV_sb H
    have hs := H.1
    rw [fX3_look_6, chm_out (by omega), hx.1, if_neg (nI_ge hh (by omega)), shrbit (by omega) (by omega)]
    simp only [grd_in (show h < 4 by omega) (show 4 < 2 ^ 31 by omega)]
    rw [nI_clamp (by omega), chm_out (by omega), (hx.2.2 h hh).2.1, nI_1]
    by_cases q : lo.testBit h = true
    · rw [if_pos q, if_neg (by decide)]
      congr 1
      apply chm_cong
      intro e _
      exact (ask_skip (fun k _ => by simp [acR, q]) e).symm
    · rw [if_neg q, if_pos rfl, ask_next hv hc hx hh h64 (fun k hk => ?_), bv_s]
      have := m9_ne (k := 6 * h + k) (by omega)
      simp [acR, a1, hh, q, this]
theorem lookStruck_ok {σ : Mem} {c n : Nat} {sz : Nat → Nat} {ev yr : Nat → Nat → Nat} {sb : Nat → Nat} {sl h0 k0 : Nat} (hv : KV n sz ev yr sb sl) (hc : 17 ≤ c) (hx : XChr σ c n sz ev yr sb sl) (hh0 : h0 < n) (hk0 : k0 < sz h0) :
    fX3_lookStruck c (nI h0) (nI k0) σ = some (chm 14 (chm 13 σ (fun e => ahm (acR n sz sb (nI (6 * h0 + k0)) 0) ev yr e n) 8) (wrs (fun e => ahm (acR n sz sb (nI (6 * h0 + k0)) 0) ev yr e n) 8) 8) := by
  have hn := hv.1
  have hs0 := (KV_H hv hh0).1
  unfold fX3_lookStruck
  rw [oempty_ok, bv_s]
  refine loop1 (fun fu h s => fX3_lookStruck_7 c fu (nI h0) (nI k0) (nI h) (chm 13 σ s 8)) n (fun h e => ahm (acR n sz sb (nI (6 * h0 + k0)) 0) ev yr e h) (fun fu => ?_) (fun fu h hh => ?_) (by rw [FU_big]; omega)
  · show fX3_lookStruck_7 _ _ _ _ _ _ = _
    rw [fX3_lookStruck_7, chm_out (by omega), hx.1, if_pos (nI_le (Nat.le_refl _) (by omega)), chain_ok ah_lt]
    rfl
  · show fX3_lookStruck_7 _ _ _ _ _ _ = fX3_lookStruck_7 _ _ _ _ _ _
    have H := KV_H hv hh
    have h64 := HV_sb H
    have hs := H.1
    rw [fX3_lookStruck_7, chm_out (by omega), hx.1, if_neg (nI_ge hh (by omega))]
    simp only [fX3_lookStruck_29, grd_in (show h < 4 by omega) (show 4 < 2 ^ 31 by omega)]
    rw [nI_clamp (by omega), chm_out (by omega), (hx.2.2 h hh).2.1, nI_1, shl1 (by omega), fa_or, show (0 : Int32) = nI 0 from rfl, fa_or]
    by_cases q : h = h0
    · subst q
      rw [if_pos rfl, ask_next hv hc hx hh (Nat.or_lt_two_pow (n := 6) h64 (Nat.pow_lt_pow_right (by omega) (by omega))) (fun k hk => ?_), bv_s]
      have e : (nI (6 * h + k0) = nI (6 * h + k)) ↔ k0 = k := by
        rw [nI_eq (by omega) (by omega)]; omega
      simp only [acR, a1, hh, e, Nat.testBit_or, Nat.testBit_two_pow]
      by_cases w : k0 = k
      · simp [w]
      · simp [w]
    · rw [if_neg (fun z => q ((nI_eq (by omega) (by omega)).mp z)), ask_next hv hc hx hh (by simpa using h64) (fun k hk => ?_), bv_s]
      have e : ¬ (nI (6 * h0 + k0) = nI (6 * h + k)) := by
        rw [nI_eq (by omega) (by omega)]; omega
      simp [acR, a1, hh, e]
