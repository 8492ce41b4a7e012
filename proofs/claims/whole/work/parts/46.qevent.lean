/-! event, date, late, count of what is told -/
section QE
variable {σ ρ : Mem} {n : Nat} {sz : Nat → Nat} {ev yr : Nat → Nat → Nat} {sb : Nat → Nat} {sl : Nat}
theorem isEvent_ok (x : Int32) : fX6_isEvent x = some (if 0 ≤ x ∧ x ≤ nI 7 then 1 else 0) := by
  unfold fX6_isEvent
  by_cases q1 : x < 0
  · rw [if_pos q1, if_neg (fun z => (lt0_iff x).mp q1 z.1)]
  · have q1' : 0 ≤ x := Classical.byContradiction fun y => q1 ((lt0_iff x).mpr y)
    rw [if_neg q1]
    by_cases q2 : (8 : Int32) ≤ x
    · rw [if_pos q2, if_neg (fun z => (ge_iff x (m := 7) (by omega)).mp q2 z.2)]
    · rw [if_neg q2, if_pos ⟨q1', Classical.byContradiction fun y => q2 ((ge_iff x (m := 7) (by omega)).mpr y)⟩]
theorem xhave {μ : Mem} (hv : KV n sz ev yr sb sl) (hx : XChr μ 17 n sz ev yr sb sl) {e : Nat} (he : e < 8) : fX0_housesThatHave 17 (nI e) μ = some (nI (msk (fun h => decide (plc (acN n sz sb) ev h e < 6)) n)) := by
  have hn := hv.1
  unfold fX0_housesThatHave
  refine loop1 (fun fu h s => fX0_housesThatHave_4 17 μ fu (nI e) (nI s) (nI h)) n (fun h => msk (fun h => decide (plc (acN n sz sb) ev h e < 6)) h) (fun fu => ?_) (fun fu h hh => ?_) (by rw [FU_big]; omega)
  · show fX0_housesThatHave_4 _ _ _ _ _ _ = _
    rw [fX0_housesThatHave_4, hx.1, if_pos (nI_le (Nat.le_refl _) (by omega))]
  · show fX0_housesThatHave_4 _ _ _ _ _ _ = fX0_housesThatHave_4 _ _ _ _ _ _
    rw [fX0_housesThatHave_4, hx.1, if_neg (nI_ge hh (by omega)), grd_in (by omega) (by omega), nI_clamp (by omega), placeOf_ok (KV_H hv hh) (hx.2.2 h hh) (by omega), bi_s, shl1 (by omega), fa_or, nI_1, acN_H hv hh]
    by_cases q : plc (acN n sz sb) ev h e < 6
    · rw [if_pos q, if_neg (nI_pos (by omega))]
      simp [msk, q]
    · rw [if_neg q, if_pos (by decide)]
      simp [msk, q]
theorem q_event (h : Bo σ ρ n sz ev yr sb sl) (a w : Int32) : Qa σ ρ (fX6_event a w σ) (fX7_event a w ρ) := by
  obtain ⟨hv, hx, hc, h10⟩ := h
  have hn := hv.1
  unfold fX6_event fX7_event
  rw [isEvent_ok, show (0 : Int64) = (0 : Int32).toInt64 from rfl, show (7 : Int64) = (nI 7).toInt64 from rfl, show (3 : Int64) = (nI 3).toInt64 from rfl, in32r, in32r, bi_s]
  rcases by_cs a (m := 7) (by omega) with ha | ⟨e, he, rfl⟩
  · rw [if_neg ha]
    simp only [if_true]
    exact Qa.same
  rw [if_pos (show 0 ≤ nI e ∧ nI e ≤ nI 7 from ⟨nI_pos' (by omega), nI_le he (by omega)⟩)]
  simp only [one0, if_false]
  obtain ⟨σ', x1, x2, x3, x4, x5, -⟩ := xlook (lo := 0) hv hx (by omega)
  rw [show fX3_look 17 (0 : Int32) σ = some σ' from x1, bv_s]
  rcases by_cs w (m := 3) (by omega) with hw | ⟨b, hb, rfl⟩
  · rw [if_neg hw]
    simp only [if_true]
    have hw' : ∀ t : Nat, t ≤ 3 → ¬ w = nI t := fun t ht z => hw ((in_small (by omega)).mpr ⟨t, ht, z⟩)
    rw [if_neg (show ¬ w = 0 from hw' 0 (by omega)), if_neg (show ¬ w = 1 from hw' 1 (by omega)), if_neg (show ¬ w = 2 from hw' 2 (by omega)), if_neg (show ¬ w = 3 from hw' 3 (by omega))]
    exact ⟨_, _, _, rfl, rfl, x2, Rsm.rf⟩
  rw [if_pos (show 0 ≤ nI b ∧ nI b ≤ nI 3 from ⟨nI_pos' (by omega), nI_le hb (by omega)⟩)]
  simp only [one0, if_false]
  obtain ⟨ρ', r1, r2, r3⟩ := R_kn hv hc (by omega)
  have hc' := RC_sm r2 hc
  have hk := knm_lt (ac := acR n sz sb (-9) 0) (ev := ev) (yr := yr) (n := n)
  rw [r1, bm_s]
  have hb' : b = 0 ∨ b = 1 ∨ b = 2 ∨ b = 3 := by omega
  rcases hb' with rfl | rfl | rfl | rfl
  · rw [if_pos (by decide), if_pos (by decide), xhave hv (XChr_sm x2 (by omega) hx) (by omega), housesOf_ok hv hc' (by omega) (by omega)]
    exact ⟨_, _, _, rfl, rfl, x2, r2⟩
  · rw [if_neg (by decide), if_pos (by decide), if_neg (by decide), if_pos (by decide), grd_in (by omega) (by omega), nI_clamp (by omega), x4 e (by omega), aheadOf_ok hv hc' (by omega) (by omega)]
    exact ⟨_, _, _, rfl, rfl, x2, r2⟩
  · rw [if_neg (by decide), if_neg (by decide), if_pos (by decide), if_neg (by decide), if_neg (by decide), if_pos (by decide), grd_in (by omega) (by omega), grd_in (by omega) (by omega), nI_clamp (by omega), x5 e (by omega), r3 e (by omega)]
    exact ⟨_, _, _, rfl, rfl, x2, r2⟩
  · rw [if_neg (by decide), if_neg (by decide), if_neg (by decide), if_pos (by decide), if_neg (by decide), if_neg (by decide), if_neg (by decide), x3, bi_s]
    exact ⟨_, _, _, rfl, rfl, x2, r2⟩
/-- the date of an event, by the lowest house that has it -/
def dte (n : Nat) (sz : Nat → Nat) (ev yr : Nat → Nat → Nat) (sb : Nat → Nat) (e : Nat) : Int32 := if fa_first (fun h => decide (plc (acN n sz sb) ev h e < 6)) n < n then oI ((yr (fa_first (fun h => decide (plc (acN n sz sb) ev h e < 6)) n) (plc (acN n sz sb) ev (fa_first (fun h => decide (plc (acN n sz sb) ev h e < 6)) n) e) : Int)) - oI (sft n sz ev yr sb (fa_first (fun h => decide (plc (acN n sz sb) ev h e < 6)) n)) else -1000000
theorem nI_oI {k : Nat} : nI k = oI (k : Int) := by
  unfold nI oI
  exact (Int32.ofInt_eq_ofNat).symm
theorem xdate {μ : Mem} (hv : KV n sz ev yr sb sl) (hx : XChr μ 17 n sz ev yr sb sl) {e : Nat} (he : e < 8) : ∃ μ', fX6_dateOf (nI e) μ = some (dte n sz ev yr sb e, μ') ∧ Xsm μ μ' := by
  have hn := hv.1
  have key : ∀ c h fu, h + c = n → c < fu → (∀ i, i < h → decide (plc (acN n sz sb) ev i e < 6) = false) → ∃ μ', fX6_dateOf_2 fu (nI e) (nI h) μ = some (dte n sz ev yr sb e, μ') ∧ Xsm μ μ' := by
    intro c
    induction c with
    | zero =>
      intro h fu h2 hf hp
      obtain ⟨fu, rfl⟩ : ∃ q, fu = q + 1 := ⟨fu - 1, by omega⟩
      have : h = n := by omega
      subst this
      refine ⟨μ, ?_, Xsm.rf⟩
      rw [fX6_dateOf_2, hx.1, if_pos (nI_le (Nat.le_refl _) (by omega))]
      unfold dte
      rw [first_none hp, if_neg (by omega)]
    | succ c ih =>
      intro h fu h2 hf hp
      obtain ⟨fu, rfl⟩ : ∃ q, fu = q + 1 := ⟨fu - 1, by omega⟩
      have hh : h < n := by omega
      rw [fX6_dateOf_2, hx.1, if_neg (nI_ge (by omega) (by omega))]
      simp only [grd_in (show h < 4 by omega) (show 4 < 2 ^ 31 by omega)]
      rw [nI_clamp (by omega), placeOf_ok (KV_H hv hh) (hx.2.2 h hh) (by omega), bi_s, acN_H hv hh, nI_1]
      by_cases q : plc (acN n sz sb) ev h e < 6
      · have hf : fa_first (fun h => decide (plc (acN n sz sb) ev h e < 6)) n = h := first_is hp (by simp [q]) hh
        obtain ⟨w1, w2⟩ := plc_in (acN n sz sb) q
        have w3 := (acR_in w1).2
        rw [if_pos q, if_neg (nI_pos (by omega)), grd_in q (by omega), xshift hv hx hh, bm_s, nI_clamp (by omega), (hx.2.2 h hh).2.2.2 _ w3]
        refine ⟨if h = 0 then μ else xpm μ (cmL n sz ev yr sb h), ?_, Xsm_if⟩
        unfold dte
        rw [hf, if_pos hh, nI_oI]
      · rw [if_neg q, if_pos (by decide)]
        exact ih (h + 1) fu (by omega) (by omega) (fun i hi => by
          by_cases w : i = h
          · subst w; simp [q]
          · exact hp i (by omega))
  unfold fX6_dateOf
  exact key n 0 FU (by omega) (by rw [FU_big]; omega) (fun i hi => absurd hi (by omega))
theorem rdate {μ : Mem} (hv : KV n sz ev yr sb sl) (hc : RC μ n sz ev yr sb (-9) 0) {e : Nat} (he : e < 8) : ∃ μ', fX7_date (nI e) μ = some (dte n sz ev yr sb e, μ') ∧ Rsm μ μ' := by
  have hn := hv.1
  have key : ∀ c h fu, h + c = n → c < fu → (∀ i, i < h → decide (plc (acN n sz sb) ev i e < 6) = false) → ∃ μ', fX7_date_2 fu (nI e) (nI h) μ = some (dte n sz ev yr sb e, μ') ∧ Rsm μ μ' := by
    intro c
    induction c with
    | zero =>
      intro h fu h2 hf hp
      obtain ⟨fu, rfl⟩ : ∃ q, fu = q + 1 := ⟨fu - 1, by omega⟩
      have : h = n := by omega
      subst this
      refine ⟨μ, ?_, Rsm.rf⟩
      rw [fX7_date_2, hc.1, if_pos (nI_le (Nat.le_refl _) (by omega))]
      unfold dte
      rw [first_none hp, if_neg (by omega)]
    | succ c ih =>
      intro h fu h2 hf hp
      obtain ⟨fu, rfl⟩ : ∃ q, fu = q + 1 := ⟨fu - 1, by omega⟩
      have hh : h < n := by omega
      obtain ⟨μ', e1, s1⟩ := rshift hv hc hh
      have y := yearIn_ok hv hc (by omega) (h := h) (by omega) he
      rw [fX7_date_2, hc.1, if_neg (nI_ge (by omega) (by omega)), show (0 : Int64) = (0 : Int32).toInt64 from rfl, show (7 : Int64) = (nI 7).toInt64 from rfl, in32r, if_pos (show 0 ≤ nI e ∧ nI e ≤ nI 7 from ⟨nI_pos' (by omega), nI_le (by omega) (by omega)⟩)]
      simp only [one0, if_false]
      rw [y, bi_s, bi_s, e1, bm_s, nI_1]
      by_cases q : plc (acN n sz sb) ev h e < 6
      · have hf : fa_first (fun h => decide (plc (acN n sz sb) ev h e < 6)) n = h := first_is hp (by simp [q]) hh
        have q' : plc (acR n sz sb (-9) 0) ev h e < 6 := q
        have b1 := yr_small hv q'
        refine ⟨μ', ?_, s1⟩
        rw [if_pos q', if_neg (nI_pos (by omega))]
        unfold dte
        rw [hf, if_pos hh, nI_oI]
        rfl
      · have q' : ¬ plc (acR n sz sb (-9) 0) ev h e < 6 := q
        rw [if_neg q', if_pos neg9]
        exact ih (h + 1) fu (by omega) (by omega) (fun i hi => by
          by_cases w : i = h
          · subst w; simp [q]
          · exact hp i (by omega))
  unfold fX7_date
  exact key n 0 FU (by omega) (by rw [FU_big]; omega) (fun i hi => absurd hi (by omega))
theorem rdate_no {μ : Mem} (hv : KV n sz ev yr sb sl) (hc : RC μ n sz ev yr sb (-9) 0) {a : Int32} (ha : ¬ (0 ≤ a ∧ a ≤ nI 7)) : fX7_date a μ = some (-1000000, μ) := by
  have hn := hv.1
  unfold fX7_date
  rw [FU_big, fX7_date_2, hc.1, show (0 : Int64) = (0 : Int32).toInt64 from rfl, show (7 : Int64) = (nI 7).toInt64 from rfl, in32r, if_neg ha]
  simp only [if_true]
  split <;> rfl
theorem q_date (h : Bo σ ρ n sz ev yr sb sl) (a : Int32) : Qa σ ρ (fX6_date a σ) (fX7_date a ρ) := by
  obtain ⟨hv, hx, hc, h10⟩ := h
  unfold fX6_date
  rw [isEvent_ok, bi_s]
  rcases by_cs a (m := 7) (by omega) with ha | ⟨e, he, rfl⟩
  · rw [if_neg ha, rdate_no hv hc ha]
    simp only [if_true]
    exact Qa.same
  · obtain ⟨σ', e1, s1⟩ := xdate hv hx (e := e) (by omega)
    obtain ⟨ρ', e2, s2⟩ := rdate hv hc (e := e) (by omega)
    rw [if_pos (show 0 ≤ nI e ∧ nI e ≤ nI 7 from ⟨nI_pos' (by omega), nI_le he (by omega)⟩), e1, e2]
    simp only [one0, if_false, bm_s]
    exact ⟨_, _, _, rfl, rfl, s1, s2⟩
theorem q_late (h : Bo σ ρ n sz ev yr sb sl) (a b : Int32) : Qa σ ρ (fX6_late a b σ) (fX7_late a b ρ) := by
  obtain ⟨hv, hx, hc, h10⟩ := h
  unfold fX6_late fX7_late fX6_late_43 fX7_late_26
  rw [isEvent_ok, isEvent_ok, bi_s]
  rcases by_cs a (m := 7) (by omega) with ha | ⟨e, he, rfl⟩
  · rw [if_neg ha, rdate_no hv hc ha, bm_s]
    simp only [if_true]
    rcases by_cs b (m := 7) (by omega) with hb | ⟨f, hf, rfl⟩
    · rw [rdate_no hv hc hb, bm_s]
      exact Qa.same
    · obtain ⟨ρ', e2, s2⟩ := rdate hv hc (e := f) (by omega)
      rw [e2, bm_s]
      exact ⟨_, _, _, rfl, rfl, Xsm.rf, s2⟩
  · obtain ⟨σ', e1, s1⟩ := xdate hv hx (e := e) (by omega)
    obtain ⟨ρ', e2, s2⟩ := rdate hv hc (e := e) (by omega)
    rw [if_pos (show 0 ≤ nI e ∧ nI e ≤ nI 7 from ⟨nI_pos' (by omega), nI_le he (by omega)⟩), e1, e2, bi_s, bm_s, bm_s]
    simp only [one0, if_false]
    rcases by_cs b (m := 7) (by omega) with hb | ⟨f, hf, rfl⟩
    · rw [if_neg hb, rdate_no hv (RC_sm s2 hc) hb, bm_s]
      simp only [if_true]
      refine ⟨-1000000, σ, ρ', rfl, ?_, Xsm.rf, s2⟩
      split <;> rfl
    · obtain ⟨σ2, e3, s3⟩ := xdate hv (XChr_sm s1 (by omega) hx) (e := f) (by omega)
      obtain ⟨ρ2, e4, s4⟩ := rdate hv (RC_sm s2 hc) (e := f) (by omega)
      rw [if_pos (show 0 ≤ nI f ∧ nI f ≤ nI 7 from ⟨nI_pos' (by omega), nI_le hf (by omega)⟩), e3, e4, bm_s, bm_s]
      simp only [one0, if_false]
      by_cases q1 : dte n sz ev yr sb e = -1000000
      · rw [if_pos q1, if_pos q1]; exact ⟨_, _, _, rfl, rfl, Xsm.tr s1 s3, Rsm.tr s2 s4⟩
      · by_cases q2 : dte n sz ev yr sb f = -1000000
        · rw [if_neg q1, if_neg q1, if_pos q2, if_pos q2]; exact ⟨_, _, _, rfl, rfl, Xsm.tr s1 s3, Rsm.tr s2 s4⟩
        · rw [if_neg q1, if_neg q1, if_neg q2, if_neg q2]; exact ⟨_, _, _, rfl, rfl, Xsm.tr s1 s3, Rsm.tr s2 s4⟩
end QE
