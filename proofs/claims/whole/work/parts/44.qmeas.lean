/-! knots, measures, rank -/
def knA (ac : Nat → Nat → Bool) (ev yr : Nat → Nat → Nat) (n : Nat) : Nat → Nat := fun e => ahm ac ev yr e n
def knm (ac : Nat → Nat → Bool) (ev yr : Nat → Nat → Nat) (n : Nat) : Nat := msk (fun e => (wrs (knA ac ev yr n) 8 e).testBit e) 8
theorem knm_lt {ac : Nat → Nat → Bool} {ev yr : Nat → Nat → Nat} {n : Nat} : knm ac ev yr n < 256 := msk_lt _ 8
section QM
variable {σ ρ : Mem} {n : Nat} {sz : Nat → Nat} {ev yr : Nat → Nat → Nat} {sb : Nat → Nat} {sl : Nat}
theorem R_kn {lo : Int32} {ho : Nat} (hv : KV n sz ev yr sb sl) (hc : RC ρ n sz ev yr sb lo ho) (hho : ho < 16) : ∃ ρ', fX7_knots ρ = some (nI (knm (acR n sz sb lo ho) ev yr n), ρ') ∧ Rsm ρ ρ' ∧ ∀ e, e < 8 → ρ' 10 e = nI (wrs (knA (acR n sz sb lo ho) ev yr n) 8 e) := by
  obtain ⟨c, h1, h2⟩ := R_knots hv hc hho
  have e := Cl_one h1 (wrs_cl (A := fun e => ahm (acR n sz sb lo ho) ev yr e n) ah_lt)
  refine ⟨chm 10 ρ c 8, ?_, Rsm_chm, fun k hk => ?_⟩
  · rw [h2]
    congr 3
    exact msk_cong (fun k hk => by rw [e k hk]; rfl)
  · rw [chm_in hk, e k hk]; rfl
theorem xlook {lo : Nat} (hv : KV n sz ev yr sb sl) (hx : XChr σ 17 n sz ev yr sb sl) (hlo : lo < 16) : ∃ σ', fX3_look 17 (nI lo) σ = some σ' ∧ Xsm σ σ' ∧ fX3_knots σ' = some (nI (knm (acR n sz sb (-9) lo) ev yr n)) ∧ (∀ e, e < 8 → σ' 13 e = nI (knA (acR n sz sb (-9) lo) ev yr n e)) ∧ (∀ e, e < 8 → σ' 14 e = nI (wrs (knA (acR n sz sb (-9) lo) ev yr n) 8 e)) ∧ ∀ b, σ' 15 b = σ 15 b :=
  ⟨_, look_ok hv (by omega) hx hlo, Xsm_look, oknots_ok, fun e he => by rw [chm_out (by omega), chm_in he]; rfl, fun e he => by rw [chm_in he]; rfl, fun b => by rw [chm_out (by omega), chm_out (by omega)]⟩
theorem xlookS {h0 k0 : Nat} (hv : KV n sz ev yr sb sl) (hx : XChr σ 17 n sz ev yr sb sl) (hh0 : h0 < n) (hk0 : k0 < sz h0) : ∃ σ', fX3_lookStruck 17 (nI h0) (nI k0) σ = some σ' ∧ Xsm σ σ' ∧ fX3_knots σ' = some (nI (knm (acR n sz sb (nI (6 * h0 + k0)) 0) ev yr n)) :=
  ⟨_, lookStruck_ok hv (by omega) hx hh0 hk0, Xsm_look, oknots_ok⟩
theorem xknots (hv : KV n sz ev yr sb sl) (hx : XChr σ 17 n sz ev yr sb sl) : ∃ σ', fX6_knotsNow σ = some (nI (knm (acN n sz sb) ev yr n), σ') ∧ Xsm σ σ' ∧ ∀ b, σ' 15 b = σ 15 b := by
  obtain ⟨σ', h1, h2, h3, -, -, h4⟩ := xlook (lo := 0) hv hx (by omega)
  refine ⟨σ', ?_, h2, h4⟩
  unfold fX6_knotsNow
  rw [show (0 : Int32) = nI 0 from rfl, h1, bv_s, h3, bi_s]
  rfl
/-- whether none of the first k houses but h has an event -/
def nob (ac : Nat → Nat → Bool) (ev : Nat → Nat → Nat) (h e : Nat) : Nat → Bool
  | 0 => true
  | k + 1 => nob ac ev h e k && (decide (k = h) || !decide (plc ac ev k e < 6))
theorem nob_iff {ac : Nat → Nat → Bool} {ev : Nat → Nat → Nat} {h e : Nat} : ∀ k, nob ac ev h e k = true ↔ ∀ i, i < k → i ≠ h → ¬ plc ac ev i e < 6
  | 0 => by simp [nob]
  | k + 1 => by
    rw [nob, Bool.and_eq_true, nob_iff k]
    simp only [Bool.or_eq_true, decide_eq_true_eq, Bool.not_eq_true', decide_eq_false_iff_not]
    constructor
    · rintro ⟨a, b⟩ i hi hn
      by_cases w : i = k
      · subst w
        rcases b with b | b
        · exact absurd b hn
        · exact b
      · exact a i (by omega) hn
    · intro a
      refine ⟨fun i hi hn => a i (by omega) hn, ?_⟩
      by_cases w : k = h
      · exact Or.inl w
      · exact Or.inr (a k (by omega) w)
theorem xalone (hv : KV n sz ev yr sb sl) (hx : XChr σ 17 n sz ev yr sb sl) {h : Nat} (hh : h < n) : fX6_eventsOfNoOther (nI h) σ = some (nI (msk (fun e => decide (plc (acN n sz sb) ev h e < 6) && nob (acN n sz sb) ev h e n) 8)) := by
  have hn := hv.1
  unfold fX6_eventsOfNoOther
  rw [grd_in (by omega) (by omega), nI_clamp (by omega), eventBits_ok (KV_H hv hh) (hx.2.2 h hh), bi_s]
  have st0 : msk (fun e => decide (pl1 (a1 (sz h) (sb h)) (ev h) e < 6)) 8 = msk (fun e => decide (plc (acN n sz sb) ev h e < 6) && nob (acN n sz sb) ev h e 0) 8 := msk_cong (fun e _ => by rw [acN_H hv hh]; simp [nob])
  rw [st0]
  refine loop1 (fun fu i s => fX6_eventsOfNoOther_15 σ fu (nI h) (nI s) (nI i)) n (fun i => msk (fun e => decide (plc (acN n sz sb) ev h e < 6) && nob (acN n sz sb) ev h e i) 8) (fun fu => ?_) (fun fu i hi => ?_) (by rw [FU_big]; omega)
  · show fX6_eventsOfNoOther_15 _ _ _ _ _ = _
    rw [fX6_eventsOfNoOther_15, hx.1, if_pos (nI_le (Nat.le_refl _) (by omega))]
  · show fX6_eventsOfNoOther_15 _ _ _ _ _ = fX6_eventsOfNoOther_15 _ _ _ _ _
    rw [fX6_eventsOfNoOther_15, hx.1, if_neg (nI_ge hi (by omega)), grd_in (by omega) (by omega), nI_clamp (by omega), eventBits_ok (KV_H hv hi) (hx.2.2 i hi), bi_s, andn_ok, nI_1]
    simp only [nI_eq (show i < 2 ^ 31 by omega) (show h < 2 ^ 31 by omega)]
    by_cases q : i = h
    · rw [if_pos q]
      congr 2
      apply msk_cong
      intro e _
      simp [nob, q]
    · rw [if_neg q]
      congr 2
      apply msk_of
      · exact Nat.lt_of_le_of_lt (andn_le _ _) (msk_lt _ 8)
      · intro e he
        have := msk_lt (fun e => decide (plc (acN n sz sb) ev h e < 6) && nob (acN n sz sb) ev h e i) 8
        rw [andn_bit (by omega), msk_bit, msk_bit]
        simp only [he, decide_true, Bool.true_and, acN_H hv hi, nob, q, decide_false, Bool.false_or, Bool.and_assoc]
theorem ralone (hv : KV n sz ev yr sb sl) (hc : RC ρ n sz ev yr sb (-9) 0) {h : Nat} (hh : h < n) : fX7_aloneIn (nI h) ρ = some (nI (fa_cnt (fun e => decide (plc (acN n sz sb) ev h e < 6) && nob (acN n sz sb) ev h e n) 8)) := by
  have hn := hv.1
  unfold fX7_aloneIn
  refine loop1 (fun fu e s => fX7_aloneIn_4 ρ fu (nI h) (nI s) (nI e)) 8 (fun e => fa_cnt (fun e => decide (plc (acN n sz sb) ev h e < 6) && nob (acN n sz sb) ev h e n) e) (fun fu => ?_) (fun fu e he => ?_) (by rw [FU_big]; omega)
  · show fX7_aloneIn_4 _ _ _ _ _ = _
    rw [fX7_aloneIn_4, if_pos (by decide)]
  · show fX7_aloneIn_4 _ _ _ _ _ = fX7_aloneIn_4 _ _ _ _ _
    have hm := msk_lt (fun i => decide (plc (acN n sz sb) ev i e < 6)) n
    have h16 : (2 : Nat) ^ n ≤ 2 ^ 4 := Nat.pow_le_pow_right (by omega) hn
    have h2 : (2 : Nat) ^ h ≤ 2 ^ 4 := Nat.pow_le_pow_right (by omega) (by omega)
    have key : msk (fun i => decide (plc (acN n sz sb) ev i e < 6)) n = 2 ^ h ↔ (decide (plc (acN n sz sb) ev h e < 6) && nob (acN n sz sb) ev h e n) = true := by
      rw [Bool.and_eq_true, nob_iff, decide_eq_true_eq]
      constructor
      · intro z
        refine ⟨?_, fun i hi hne => ?_⟩
        · have b := msk_bit (fun i => decide (plc (acN n sz sb) ev i e < 6)) n h
          rw [z, Nat.testBit_two_pow_self] at b
          simp [hh] at b
          exact b
        · have b := msk_bit (fun i => decide (plc (acN n sz sb) ev i e < 6)) n i
          rw [z, Nat.testBit_two_pow_of_ne (Ne.symm hne)] at b
          simp [hi] at b
          omega
      · rintro ⟨z1, z2⟩
        refine (msk_of (Nat.pow_lt_pow_right (by omega) hh) (fun i hi => ?_)).symm
        by_cases w : i = h
        · subst w; rw [Nat.testBit_two_pow_self]; simp [z1]
        · rw [Nat.testBit_two_pow_of_ne (Ne.symm w)]; simp [z2 i hi w]
    have ho := housesOf_ok hv hc (by omega) he
    rw [fX7_aloneIn_4, if_neg (nle8 he), ho, bi_s, shl1 (by omega), nI_1, nI_1]
    have e2 : (nI (msk (fun h => decide (plc (acR n sz sb (-9) 0) ev h e < 6)) n) = nI (2 ^ h)) ↔ (decide (plc (acN n sz sb) ev h e < 6) && nob (acN n sz sb) ev h e n) = true := by
      rw [nI_eq (by unfold acN at hm; omega) (by omega)]
      exact key
    simp only [e2]
    by_cases q : (decide (plc (acN n sz sb) ev h e < 6) && nob (acN n sz sb) ev h e n) = true
    · rw [if_pos q, fa_cnt_yes q]
    · rw [if_neg q, fa_cnt_no (by simpa using q)]
      simp
theorem cnt_msk (Q : Nat → Bool) : fa_cnt (msk Q 8).testBit 8 = fa_cnt Q 8 := fa_cnt_cong (fun k hk => by rw [msk_bit]; simp [hk])
/-- a measure of a house -/
def msr (n : Nat) (sz : Nat → Nat) (ev yr : Nat → Nat → Nat) (sb : Nat → Nat) (sl b h : Nat) : Nat :=
  if b = 0 then fa_cnt (acN n sz sb h) 6 else if b = 1 then fa_cnt (agm n sz ev yr sb h true).testBit 8
  else if b = 2 then (if h = 0 then (if fa_cnt (acN n sz sb 0) 6 = 0 then 0 else 1) else mny (ofs (cmL n sz ev yr sb h)) (cmL n sz ev yr sb h).length sl)
  else if b = 3 then fa_cnt (fun e => decide (plc (acN n sz sb) ev h e < 6) && nob (acN n sz sb) ev h e n) 8
  else fa_cnt (fun e => (knm (acN n sz sb) ev yr n).testBit e && decide (plc (acN n sz sb) ev h e < 6)) 8
theorem msr2 {h : Nat} (q : ¬ h = 0) : msr n sz ev yr sb sl 2 h = mny (ofs (cmL n sz ev yr sb h)) (cmL n sz ev yr sb h).length sl := by simp [msr, q]
theorem msr_le (hv : KV n sz ev yr sb sl) (b h : Nat) : msr n sz ev yr sb sl b h ≤ 8 := by
  unfold msr
  split
  · exact Nat.le_trans (fa_cnt_le _ 6) (by omega)
  split
  · exact fa_cnt_le _ 8
  split
  · split
    · split <;> omega
    · exact Nat.le_trans (mny_le (cmL_LOK hv).1) (by omega)
  split
  · exact fa_cnt_le _ 8
  · exact fa_cnt_le _ 8
theorem xleft (hv : KV n sz ev yr sb sl) (hx : XChr σ 17 n sz ev yr sb sl) {h : Nat} (hh : h < n) : fX2_entriesLeft (17 + 2 + 3 * h) σ = some (nI (fa_cnt (acN n sz sb h) 6)) := by
  rw [entriesLeft_ok (KV_H hv hh) (hx.2.2 h hh)]
  congr 2
  exact (fa_cnt_cong (fun k hk => acX hv hh k hk)).symm
theorem xmeas (hv : KV n sz ev yr sb sl) (hx : XChr σ 17 n sz ev yr sb sl) {h b : Nat} (hh : h < n) (hb : b < 5) : ∃ σ', fX6_measureOf (nI h) (nI b) σ = some (nI (msr n sz ev yr sb sl b h), σ') ∧ Xsm σ σ' ∧ ∀ b, σ' 15 b = σ 15 b := by
  have hn := hv.1
  have hsl := hv.2.2.2.2.2
  unfold fX6_measureOf
  have hb' : b = 0 ∨ b = 1 ∨ b = 2 ∨ b = 3 ∨ b = 4 := by omega
  rcases hb' with rfl | rfl | rfl | rfl | rfl
  · rw [if_pos (by decide), grd_in (by omega) (by omega), nI_clamp (by omega), xleft hv hx hh, bi_s]
    exact ⟨σ, rfl, Xsm.rf, fun _ => rfl⟩
  · rw [if_neg (by decide), if_pos (by decide), xag hv hx hh, bm_s, fJbc _ agm_lt, bi_s]
    exact ⟨_, rfl, Xsm_if, fun b => by split <;> first | rfl | exact xpm_x (by omega) (by omega) (by omega)⟩
  · rw [if_neg (by decide), if_neg (by decide), if_pos (by decide)]
    unfold fX6_spansByFirst
    simp only [nI_z (show h < 2 ^ 31 by omega)]
    by_cases q : h = 0
    · subst q
      have hc6 : fa_cnt (acN n sz sb 0) 6 ≤ 6 := fa_cnt_le _ 6
      rw [if_pos rfl, grd_t z4, z4c, xleft hv hx hh, bi_s, show (0 : Int32) = nI 0 from rfl]
      simp only [nI_eq (show fa_cnt (acN n sz sb 0) 6 < 2 ^ 31 by omega) (show 0 < 2 ^ 31 by omega)]
      refine ⟨σ, ?_, Xsm.rf, fun _ => rfl⟩
      by_cases w : fa_cnt (acN n sz sb 0) 6 = 0
      · simp only [w, if_true, bm_s]; simp [msr, w]
      · simp only [w, if_false, bm_s]; simp [msr, w]; rfl
    · obtain ⟨hN, h8, hb, hd⟩ := cmL_LOK hv (h := h)
      rw [if_neg q, grd_t z4, grd_in (by omega) (by omega), nI_clamp (by omega), z4c, join_ok hv (by omega) hx (p := 0) (by omega) hh, bv_s, xpm_x (by omega) (by omega) (by omega), hx.2.1]
      have e := xspans_ok (σ := xpm σ (cmL n sz ev yr sb h)) hN hsl hb (fun i hi => xpm_o hi) xpm_n
      unfold cmL acN at e
      rw [e, bi_s, bm_s]
      refine ⟨xpm σ (cmL n sz ev yr sb h), ?_, Xsm_xpm, fun b => xpm_x (by omega) (by omega) (by omega)⟩
      rw [msr2 q]
      unfold cmL acN
      rfl
  · rw [if_neg (by decide), if_neg (by decide), if_neg (by decide), if_pos (by decide), xalone hv hx hh, bi_s, fJbc _ (msk_lt _ 8), bi_s, cnt_msk]
    exact ⟨σ, rfl, Xsm.rf, fun _ => rfl⟩
  · obtain ⟨σ', e, sm, s15⟩ := xknots hv hx
    rw [if_neg (by decide), if_neg (by decide), if_neg (by decide), if_neg (by decide), grd_in (by omega) (by omega), nI_clamp (by omega), eventBits_ok (KV_H hv hh) (hx.2.2 h hh), bi_s, e, bm_s, fa_and]
    have em : msk (fun e => decide (pl1 (a1 (sz h) (sb h)) (ev h) e < 6)) 8 &&& knm (acN n sz sb) ev yr n = msk (fun e => (knm (acN n sz sb) ev yr n).testBit e && decide (plc (acN n sz sb) ev h e < 6)) 8 := by
      apply msk_of
      · exact Nat.lt_of_le_of_lt Nat.and_le_left (msk_lt _ 8)
      · intro e he
        rw [Nat.testBit_and, msk_bit, acN_H hv hh]
        simp only [he, decide_true, Bool.true_and]
        exact Bool.and_comm _ _
    rw [em, fJbc _ (msk_lt _ 8), bi_s, cnt_msk]
    exact ⟨σ', rfl, sm, s15⟩
theorem rmeas (hv : KV n sz ev yr sb sl) (hc : RC ρ n sz ev yr sb (-9) 0) (h10 : ρ 1 0 = nI sl) {h b : Nat} (hh : h < n) (hb : b < 5) : ∃ ρ', fX7_measured (nI h) (nI b) ρ = some (nI (msr n sz ev yr sb sl b h), ρ') ∧ Rsm ρ ρ' := by
  have hn := hv.1
  unfold fX7_measured
  have hb' : b = 0 ∨ b = 1 ∨ b = 2 ∨ b = 3 ∨ b = 4 := by omega
  rcases hb' with rfl | rfl | rfl | rfl | rfl
  · rw [if_pos (by decide), sizeOf_ok hv hc (by omega) (by omega), bi_s]
    exact ⟨ρ, rfl, Rsm.rf⟩
  · obtain ⟨ρ', e, sm⟩ := rag hv hc hh true
    simp only [if_true] at e
    rw [if_neg (by decide), if_pos (by decide), e, bm_s, fX7on _ agm_lt, bi_s]
    exact ⟨ρ', rfl, sm⟩
  · rw [if_neg (by decide), if_neg (by decide), if_pos (by decide)]
    by_cases q : h = 0
    · subst q
      have hc6 : fa_cnt (acR n sz sb (-9) 0 0) 6 ≤ 6 := fa_cnt_le _ 6
      rw [if_pos (by decide), show (0 : Int32) = nI 0 from rfl, sizeOf_ok hv hc (by omega) (by omega), bi_s]
      simp only [nI_leI (show fa_cnt (acR n sz sb (-9) 0 0) 6 < 2 ^ 31 by omega) (show 0 < 2 ^ 31 by omega)]
      refine ⟨ρ, ?_, Rsm.rf⟩
      by_cases w : fa_cnt (acR n sz sb (-9) 0 0) 6 = 0
      · simp only [w, Nat.le_refl, if_true]; simp [msr, acN, w]
      · rw [if_neg (by omega)]; simp [msr, acN, w]; rfl
    · obtain ⟨ρ', e, sm⟩ := rspans_full hv hc h10 (p := 0) (q := h) (by omega) (by omega)
      rw [if_neg (nI_nle (by omega) (by omega)), show (0 : Int32) = nI 0 from rfl, e, bm_s]
      refine ⟨ρ', ?_, sm⟩
      rw [msr2 q]
      unfold cmL acN
      rfl
  · rw [if_neg (by decide), if_neg (by decide), if_neg (by decide), if_pos (by decide), ralone hv hc hh, bi_s]
    exact ⟨ρ, rfl, Rsm.rf⟩
  · obtain ⟨ρ', e, sm, -⟩ := R_kn hv hc (by omega)
    have hc' := RC_sm sm hc
    rw [if_neg (by decide), if_neg (by decide), if_neg (by decide), if_neg (by decide)]
    unfold fX7_knotsIn
    rw [e, bm_s]
    have key : fX7_knotsIn_10 FU (nI h) (nI (knm (acR n sz sb (-9) 0) ev yr n)) 0 0 ρ' = some (nI (fa_cnt (fun e => (knm (acN n sz sb) ev yr n).testBit e && decide (plc (acN n sz sb) ev h e < 6)) 8), ρ') := by
      refine loop1 (fun fu e s => fX7_knotsIn_10 fu (nI h) (nI (knm (acR n sz sb (-9) 0) ev yr n)) (nI s) (nI e) ρ') 8 (fun e => fa_cnt (fun e => (knm (acN n sz sb) ev yr n).testBit e && decide (plc (acN n sz sb) ev h e < 6)) e) (fun fu => ?_) (fun fu e he => ?_) (by rw [FU_big]; omega)
      · show fX7_knotsIn_10 _ _ _ _ _ _ = _
        rw [fX7_knotsIn_10, if_pos (by decide)]
      · show fX7_knotsIn_10 _ _ _ _ _ _ = fX7_knotsIn_10 _ _ _ _ _ _
        have hk := knm_lt (ac := acR n sz sb (-9) 0) (ev := ev) (yr := yr) (n := n)
        rw [fX7_knotsIn_10, if_neg (nle8 he), has_ok (by omega) (by omega), bi_s, yearIn_ok hv hc' (by omega) (by omega) he, bi_s, nI_1, nI_1, show nI (fa_cnt (fun e => (knm (acN n sz sb) ev yr n).testBit e && decide (plc (acN n sz sb) ev h e < 6)) e) + 0 = nI (fa_cnt (fun e => (knm (acN n sz sb) ev yr n).testBit e && decide (plc (acN n sz sb) ev h e < 6)) e) by simp]
        by_cases q1 : (knm (acN n sz sb) ev yr n).testBit e = true
        · have q1' : (knm (acR n sz sb (-9) 0) ev yr n).testBit e = true := q1
          rw [if_pos q1']
          simp only [one0, if_false]
          by_cases q2 : plc (acN n sz sb) ev h e < 6
          · have q2' : plc (acR n sz sb (-9) 0) ev h e < 6 := q2
            have y := yr_small hv q2'
            rw [if_pos q2', if_neg (nI_pos (by omega)), fa_cnt_yes (by simp [q1, q2])]
          · have q2' : ¬ plc (acR n sz sb (-9) 0) ev h e < 6 := q2
            rw [if_neg q2', if_pos neg9, fa_cnt_no (by simp [q2])]
        · have q1' : ¬ (knm (acR n sz sb (-9) 0) ev yr n).testBit e = true := q1
          rw [if_neg q1', if_pos rfl, fa_cnt_no (by simp [q1])]
    rw [key]
    exact ⟨ρ', rfl, sm⟩
end QM
