/-! shift, agreed, measures -/
section QT
variable {σ ρ : Mem} {n : Nat} {sz : Nat → Nat} {ev yr : Nat → Nat → Nat} {sb : Nat → Nat} {sl : Nat}
def acN (n : Nat) (sz : Nat → Nat) (sb : Nat → Nat) : Nat → Nat → Bool := acR n sz sb (-9) 0
def cmL (n : Nat) (sz : Nat → Nat) (ev yr : Nat → Nat → Nat) (sb : Nat → Nat) (h : Nat) : List (Nat × Int) := cml (acN n sz sb) ev yr 0 h 6
def sft (n : Nat) (sz : Nat → Nat) (ev yr : Nat → Nat → Nat) (sb : Nat → Nat) (h : Nat) : Int := if h = 0 then 0 else (bst (ofs (cmL n sz ev yr sb h)) (cmL n sz ev yr sb h).length (cmL n sz ev yr sb h).length).1
theorem cmL_LOK (hv : KV n sz ev yr sb sl) {h : Nat} : LOK (cmL n sz ev yr sb h) := cml_LOK hv
theorem bd0 : bd 0 := ⟨by decide, by decide⟩
theorem sft_bd (hv : KV n sz ev yr sb sl) (h : Nat) : bd (sft n sz ev yr sb h) := by
  unfold sft
  split
  · exact bd0
  · exact (bst_bd (cmL_LOK hv).2.2.1 _ (Nat.le_refl _)).1
theorem z4 : ¬ ((0 : Int32) < 0 ∨ 4 ≤ (0 : Int32).toNatClampNeg) := by decide
theorem z4c : (0 : Int32).toNatClampNeg = 0 := rfl
theorem nI_z {h : Nat} (hh : h < 2 ^ 31) : (nI h = 0) = (h = 0) := by
  rw [show (0 : Int32) = nI 0 from rfl]
  exact propext (nI_eq hh (by omega))
theorem xshift (hv : KV n sz ev yr sb sl) (hx : XChr σ 17 n sz ev yr sb sl) {h : Nat} (hh : h < n) : fX6_shiftOf (nI h) σ = some (oI (sft n sz ev yr sb h), if h = 0 then σ else xpm σ (cmL n sz ev yr sb h)) := by
  have hn := hv.1
  unfold fX6_shiftOf sft
  simp only [nI_z (show h < 2 ^ 31 by omega)]
  by_cases q : h = 0
  · simp only [q, if_true]; rfl
  · obtain ⟨hN, h8, hb, hd⟩ := cmL_LOK hv (h := h)
    rw [if_neg q, if_neg q, if_neg q, grd_t z4, grd_in (by omega) (by omega), nI_clamp (by omega), z4c, join_ok hv (by omega) hx (p := 0) (by omega) hh, bv_s]
    have e := xbest_ok (σ := σ) hN h8 hb hd
    unfold cmL acN at e ⊢
    rw [e, bi_s]
theorem rshift (hv : KV n sz ev yr sb sl) (hc : RC ρ n sz ev yr sb (-9) 0) {h : Nat} (hh : h < n) : ∃ ρ', fX7_shiftOf (nI h) ρ = some (oI (sft n sz ev yr sb h), ρ') ∧ Rsm ρ ρ' := by
  have hn := hv.1
  unfold fX7_shiftOf sft fX7_shiftOf_14
  simp only [nI_z (show h < 2 ^ 31 by omega)]
  by_cases q : h = 0
  · refine ⟨ρ, ?_, Rsm.rf⟩
    rw [if_pos q, if_pos q]
    exact rshift_go (off := fun _ => 0) (N := 0) (by omega) (fun i hi => absurd hi (by omega)) (fun i hi => absurd hi (by omega))
  · obtain ⟨hN, h8, hb, hd⟩ := cmL_LOK hv (h := h)
    refine ⟨bthm 11 12 ρ (cmL n sz ev yr sb h), ?_, Rsm_bth⟩
    rw [if_neg q, if_neg q, show (0 : Int32) = nI 0 from rfl, both_ok hv hc (by omega) (by omega) (by omega), bm_s]
    exact rshift_go hN hb (fun i hi => bthm_o (by omega) hi)
/-- the events that speak for the shift (or against it) -/
def agm (n : Nat) (sz : Nat → Nat) (ev yr : Nat → Nat → Nat) (sb : Nat → Nat) (h : Nat) (are : Bool) : Nat := msk (fun e => decide (plc (acN n sz sb) ev 0 e < 6) && decide (plc (acN n sz sb) ev h e < 6) && (decide ((yr h (plc (acN n sz sb) ev h e) : Int) - yr 0 (plc (acN n sz sb) ev 0 e) = sft n sz ev yr sb h) == are)) 8
theorem agm_lt {h : Nat} {are : Bool} : agm n sz ev yr sb h are < 256 := msk_lt _ 8
theorem rag (hv : KV n sz ev yr sb sl) (hc : RC ρ n sz ev yr sb (-9) 0) {h : Nat} (hh : h < n) (are : Bool) : ∃ ρ', fX7_agreed (nI h) (if are then 1 else 0) ρ = some (nI (agm n sz ev yr sb h are), ρ') ∧ Rsm ρ ρ' := by
  have hn := hv.1
  obtain ⟨ρ', e, sm⟩ := rshift hv hc hh
  refine ⟨ρ', ?_, sm⟩
  have hc' := RC_sm sm hc
  unfold fX7_agreed
  rw [e, bm_s]
  refine loop1 (fun fu e s => fX7_agreed_12 fu (nI h) (if are then 1 else 0) (nI s) (oI (sft n sz ev yr sb h)) (nI e) ρ') 8 (fun e => msk (fun e => decide (plc (acN n sz sb) ev 0 e < 6) && decide (plc (acN n sz sb) ev h e < 6) && (decide ((yr h (plc (acN n sz sb) ev h e) : Int) - yr 0 (plc (acN n sz sb) ev 0 e) = sft n sz ev yr sb h) == are)) e) (fun fu => ?_) (fun fu e he => ?_) (by rw [FU_big]; omega)
  · show fX7_agreed_12 _ _ _ _ _ _ _ = _
    rw [fX7_agreed_12, if_pos (by decide)]
    rfl
  · show fX7_agreed_12 _ _ _ _ _ _ _ = fX7_agreed_12 _ _ _ _ _ _ _
    have y0 := yearIn_ok hv hc' (by omega) (h := 0) (by omega) he
    have yh := yearIn_ok hv hc' (by omega) (h := h) (by omega) he
    rw [fX7_agreed_12, if_neg (nle8 he), show (0 : Int32) = nI 0 from rfl, y0, yh]
    simp only [bi_s, fX7_agreed_63, nI_1, msk]
    rw [show (nI 0 : Int32) = 0 from rfl]
    show (if (if plc (acN n sz sb) ev 0 e < 6 then nI (yr 0 (plc (acN n sz sb) ev 0 e)) else -9) < 0 then _ else (if (if plc (acN n sz sb) ev h e < 6 then nI (yr h (plc (acN n sz sb) ev h e)) else -9) < 0 then _ else (if (if plc (acN n sz sb) ev h e < 6 then nI (yr h (plc (acN n sz sb) ev h e)) else -9) - (if plc (acN n sz sb) ev 0 e < 6 then nI (yr 0 (plc (acN n sz sb) ev 0 e)) else -9) = _ then _ else _))) = _
    by_cases q0 : plc (acN n sz sb) ev 0 e < 6
    · have b0 := yr_small hv q0
      simp only [q0, if_true, if_neg (nI_pos (show yr 0 (plc (acN n sz sb) ev 0 e) < 2 ^ 31 by unfold acN; omega)), decide_true, Bool.true_and]
      by_cases q1 : plc (acN n sz sb) ev h e < 6
      · have b1 := yr_small hv q1
        have e1 : nI (yr h (plc (acN n sz sb) ev h e)) - nI (yr 0 (plc (acN n sz sb) ev 0 e)) = oI ((yr h (plc (acN n sz sb) ev h e) : Int) - yr 0 (plc (acN n sz sb) ev 0 e)) := oI_sub (by unfold acN; omega) (by unfold acN; omega)
        have e2 : oI ((yr h (plc (acN n sz sb) ev h e) : Int) - yr 0 (plc (acN n sz sb) ev 0 e)) = oI (sft n sz ev yr sb h) ↔ (yr h (plc (acN n sz sb) ev h e) : Int) - yr 0 (plc (acN n sz sb) ev 0 e) = sft n sz ev yr sb h := oI_eq (by unfold bd acN; omega) (sft_bd hv h)
        simp only [q1, if_true, if_neg (nI_pos (show yr h (plc (acN n sz sb) ev h e) < 2 ^ 31 by unfold acN; omega)), decide_true, Bool.true_and, e1, e2, shl1 (show e < 31 by omega), fa_or, or0]
        by_cases q2 : (yr h (plc (acN n sz sb) ev h e) : Int) - yr 0 (plc (acN n sz sb) ev 0 e) = sft n sz ev yr sb h
        · cases are <;> simp [q2]
        · cases are <;> simp [q2]
      · simp [q1]
    · simp [q0]
theorem acN_H (hv : KV n sz ev yr sb sl) {h : Nat} (hh : h < n) (e : Nat) : pl1 (a1 (sz h) (sb h)) (ev h) e = plc (acN n sz sb) ev h e := (plc_pl1 (acX hv hh) e).symm
theorem ewm_ag (hv : KV n sz ev yr sb sl) {h : Nat} (hq : h ≠ 0) : ewm (cmL n sz ev yr sb h) (sft n sz ev yr sb h) (cmL n sz ev yr sb h).length = agm n sz ev yr sb h true := by
  obtain ⟨hN, h8, hb, hd⟩ := cmL_LOK hv (h := h)
  apply msk_of (ewm_lt h8 _ (Nat.le_refl _))
  intro e he
  rw [Bool.eq_iff_iff, ewm_bit]
  simp only [Bool.and_eq_true, decide_eq_true_eq, beq_true]
  constructor
  · rintro ⟨j, hj, h1, h2⟩
    have m : (cmL n sz ev yr sb h).getD j (0, 0) ∈ cmL n sz ev yr sb h := getD_mem hj
    have m2 : (evs (cmL n sz ev yr sb h) j, ofs (cmL n sz ev yr sb h) j) ∈ cmL n sz ev yr sb h := m
    rw [h1, h2] at m2
    obtain ⟨w1, w2, w3⟩ := (cml_mem hv).mp m2
    exact ⟨⟨w1, w2⟩, w3.symm⟩
  · rintro ⟨⟨w1, w2⟩, w3⟩
    obtain ⟨j, hj, e2⟩ := mem_getD ((cml_mem hv (lo := -9) (ho := 0)).mpr ⟨w1, w2, w3.symm⟩)
    exact ⟨j, hj, by unfold ofs cmL acN; rw [e2], by unfold evs cmL acN; rw [e2]⟩
theorem xag (hv : KV n sz ev yr sb sl) (hx : XChr σ 17 n sz ev yr sb sl) {h : Nat} (hh : h < n) : fX6_agreedOf (nI h) σ = some (nI (agm n sz ev yr sb h true), if h = 0 then σ else xpm σ (cmL n sz ev yr sb h)) := by
  have hn := hv.1
  unfold fX6_agreedOf
  simp only [nI_z (show h < 2 ^ 31 by omega)]
  by_cases q : h = 0
  · subst q
    have hx0 := hx.2.2 0 hh
    rw [if_pos rfl, if_pos rfl, grd_t z4, z4c, eventBits_ok (KV_H hv hh) hx0, bi_s]
    congr 3
    apply msk_cong
    intro e _
    rw [acN_H hv hh, show sft n sz ev yr sb 0 = 0 from rfl]
    by_cases w : plc (acN n sz sb) ev 0 e < 6 <;> simp [w]
  · obtain ⟨hN, h8, hb, hd⟩ := cmL_LOK hv (h := h)
    rw [if_neg q, xshift hv hx hh, bm_s, if_neg q, eventsWith_ok hN h8 hb (sft_bd hv h), bi_s, ewm_ag hv q]
theorem xagst (hv : KV n sz ev yr sb sl) (hx : XChr σ 17 n sz ev yr sb sl) {h : Nat} (hh : h < n) : fX6_againstOf (nI h) σ = some (nI (agm n sz ev yr sb h false), if h = 0 then σ else xpm σ (cmL n sz ev yr sb h)) := by
  have hn := hv.1
  unfold fX6_againstOf
  simp only [nI_z (show h < 2 ^ 31 by omega)]
  by_cases q : h = 0
  · subst q
    rw [if_pos rfl, if_pos rfl]
    congr 2
    have : (0 : Nat) = agm n sz ev yr sb 0 false := by
      apply msk_of (by omega)
      intro e _
      rw [show sft n sz ev yr sb 0 = 0 from rfl]
      simp
    rw [← this]; rfl
  · obtain ⟨hN, h8, hb, hd⟩ := cmL_LOK hv (h := h)
    obtain ⟨m, m1, m2, m3⟩ := pairBits_ok (σ := σ) hN h8
    rw [if_neg q, xag hv hx hh, bm_s, if_neg q, m3, bi_s, andn_ok]
    congr 2
    have : andn m (agm n sz ev yr sb h true) = agm n sz ev yr sb h false := by
      apply msk_of
      · have := andn_le m (agm n sz ev yr sb h true); omega
      · intro e he
        rw [andn_bit (by omega)]
        have mb : m.testBit e = (decide (plc (acN n sz sb) ev 0 e < 6) && decide (plc (acN n sz sb) ev h e < 6)) := by
          rw [Bool.eq_iff_iff, m2]
          simp only [Bool.and_eq_true, decide_eq_true_eq]
          constructor
          · rintro ⟨j, hj, h2⟩
            have m9 : (evs (cmL n sz ev yr sb h) j, ofs (cmL n sz ev yr sb h) j) ∈ cmL n sz ev yr sb h := getD_mem hj
            rw [h2] at m9
            obtain ⟨w1, w2, w3⟩ := (cml_mem hv).mp m9
            exact ⟨w1, w2⟩
          · rintro ⟨w1, w2⟩
            obtain ⟨j, hj, e2⟩ := mem_getD ((cml_mem hv (lo := -9) (ho := 0)).mpr ⟨w1, w2, rfl⟩)
            exact ⟨j, hj, by unfold evs cmL acN; rw [e2]⟩
        rw [mb]
        unfold agm
        rw [msk_bit]
        simp only [he, decide_true, Bool.true_and]
        cases decide (plc (acN n sz sb) ev 0 e < 6) <;> cases decide (plc (acN n sz sb) ev h e < 6) <;> cases decide ((yr h (plc (acN n sz sb) ev h e) : Int) - yr 0 (plc (acN n sz sb) ev 0 e) = sft n sz ev yr sb h) <;> rfl
    rw [this]
theorem Xsm_if {h : Nat} {L : List (Nat × Int)} : Xsm σ (if h = 0 then σ else xpm σ L) := by
  split
  · exact Xsm.rf
  · exact Xsm_xpm
theorem q_shift (h : Bo σ ρ n sz ev yr sb sl) (a w : Int32) : Qa σ ρ (fX6_shift a w σ) (fX7_shift a w ρ) := by
  obtain ⟨hv, hx, hc, h10⟩ := h
  have hn := hv.1
  unfold fX6_shift fX7_shift fX7_shift_47
  rw [hasHouse_ok hx.1 a, isHouse_ok hv hc a]
  rcases (house_cs a n (by omega)).symm with ha | ⟨p, hp, rfl⟩
  · rw [if_neg ha]; exact Qa.same
  rw [if_pos (nI_pos2 hp (by omega)), show (0 : Int64) = (0 : Int32).toInt64 from rfl, show (2 : Int64) = (nI 2).toInt64 from rfl, in32r]
  simp only [bi_s, one0, if_false]
  by_cases hw : 0 ≤ w ∧ w ≤ nI 2
  · rw [if_pos hw]
    simp only [one0, if_false]
    obtain ⟨t, ht, rfl⟩ := (in_small (by omega)).mp hw
    have ht : t = 0 ∨ t = 1 ∨ t = 2 := by omega
    rcases ht with rfl | rfl | rfl
    · obtain ⟨ρ', e, sm⟩ := rshift hv hc hp
      rw [if_pos (by decide), if_pos (by decide), xshift hv hx hp, e]
      exact ⟨_, _, _, rfl, rfl, Xsm_if, sm⟩
    · obtain ⟨ρ', e, sm⟩ := rag hv hc hp true
      rw [if_neg (by decide), if_pos (by decide), if_neg (by decide), if_pos (by decide), xag hv hx hp]
      simp only [if_true] at e
      rw [e]
      exact ⟨_, _, _, rfl, rfl, Xsm_if, sm⟩
    · obtain ⟨ρ', e, sm⟩ := rag hv hc hp false
      rw [if_neg (by decide), if_neg (by decide), if_pos (by decide), if_neg (by decide), if_neg (by decide), xagst hv hx hp]
      simp only [Bool.false_eq_true, if_false] at e
      rw [e]
      exact ⟨_, _, _, rfl, rfl, Xsm_if, sm⟩
  · rw [if_neg hw]
    simp only [if_true]
    have hw' : ∀ t : Nat, t ≤ 2 → ¬ w = nI t := fun t ht z => hw ((in_small (by omega)).mpr ⟨t, ht, z⟩)
    have w0 : ¬ w = 0 := hw' 0 (by omega)
    have w1 : ¬ w = 1 := hw' 1 (by omega)
    have w2 : ¬ w = 2 := hw' 2 (by omega)
    rw [if_neg w0, if_neg w1, if_neg w2]
    exact Qa.same
end QT
