/-! unseen on both sides; count -/
theorem cnt_first {u : Nat → Bool} : ∀ x, fa_cnt u x = 0 ↔ ¬ fa_first u x < x
  | 0 => by simp [fa_cnt]
  | x + 1 => by
    have ih := cnt_first (u := u) x
    rw [fa_cnt, fa_first]
    by_cases q : u x = true
    · by_cases w : fa_first u x < x
      · simp only [q, w, if_true]; omega
      · simp only [q, w, if_true, if_false]; omega
    · by_cases w : fa_first u x < x
      · simp only [q, w, if_true, if_false]
        have : ¬ fa_cnt u x = 0 := fun z => ih.mp z w
        simp only [Bool.false_eq_true, if_false]; omega
      · simp only [q, w, if_false]
        have : fa_cnt u x = 0 := ih.mpr w
        simp only [Bool.false_eq_true, if_false]; omega
theorem fv_yes {u : Nat → Bool} {x : Nat} (h : u x = true) : fv u (x + 1) = if fa_cnt u x = 0 then vl x else fv u x := by
  unfold fv
  rw [fa_first]
  by_cases w : fa_first u x < x
  · simp only [w, if_true]
    rw [if_pos (by omega), if_neg (fun z => (cnt_first x).mp z w)]
  · simp only [w, if_false, h, if_true]
    rw [if_pos (by omega), if_pos ((cnt_first x).mpr w)]
theorem fv_no {u : Nat → Bool} {x : Nat} (h : u x = false) : fv u (x + 1) = fv u x := by
  unfold fv
  rw [fa_first]
  by_cases w : fa_first u x < x
  · simp only [w, if_true]
    rw [if_pos (by omega)]
  · simp only [w, if_false, h, Bool.false_eq_true]
    rw [if_neg (by omega)]
theorem flat_u {u : Nat → Bool} {a : Nat} : ∀ d, (∀ t, a ≤ t → t < a + d → u t = false) → fa_cnt u (a + d) = fa_cnt u a ∧ fv u (a + d) = fv u a
  | 0, _ => ⟨rfl, rfl⟩
  | d + 1, h => by
    obtain ⟨i1, i2⟩ := flat_u d (fun t h1 h2 => h t h1 (by omega))
    have q := h (a + d) (by omega) (by omega)
    exact ⟨by rw [← Nat.add_assoc, fa_cnt_no q]; exact i1, by rw [← Nat.add_assoc, fv_no q]; exact i2⟩
section QV
variable {σ ρ : Mem} {n : Nat} {sz : Nat → Nat} {ev yr : Nat → Nat → Nat} {sb : Nat → Nat} {sl : Nat}
theorem u24_at {sv : Nat → Int32} {s h k : Nat} (hk : k < 6) : u24 n sz ev yr sb sv s (6 * h + k) = usn n sz ev yr sb sv s h k := by
  unfold u24
  rw [show (6 * h + k) / 6 = h by omega, show (6 * h + k) % 6 = k by omega]
theorem usn_out {sv : Nat → Int32} {s h k : Nat} (hk : ¬ (h < n ∧ k < sz h)) : usn n sz ev yr sb sv s h k = false := by
  unfold usn acN acR
  by_cases q : h < n
  · have : ¬ k < sz h := fun z => hk ⟨q, z⟩
    simp [this]
  · simp [q]
theorem Xsm_get {μ ν : Mem} (h : Xsm μ ν) {a b : Nat} (q : a < 9 ∨ 15 < a ∨ a = 12) : ν a b = μ a b := h a b (by omega) (by omega) (by omega) (by omega) (by omega) (by omega)
theorem xunseen_row {μ : Mem} {sv : Nat → Int32} {s : Nat} (hv : KV n sz ev yr sb sl) (hx : XChr μ 17 n sz ev yr sb sl) (hs : s ≤ 6) (h1 : μ 0 10 = nI s) (h16 : ∀ j, j < s → μ 16 j = sv j) {h : Nat} (hh : h < n) (w : Int32) (K : Int32 → Int32 → Int32 → Int32 → Mem → Option (Int32 × Mem)) :
    ∀ (c k fu : Nat) (ν : Mem), k + c = sz h → c < fu → Xsm μ ν → ∃ ν', fX6_unseen_34 K fu w (nI (fa_cnt (u24 n sz ev yr sb sv s) (6 * h + k))) (fv (u24 n sz ev yr sb sv s) (6 * h + k)) (nI h) (nI k) ν = K w (nI (fa_cnt (u24 n sz ev yr sb sv s) (6 * (h + 1)))) (fv (u24 n sz ev yr sb sv s) (6 * (h + 1))) (nI (h + 1)) ν' ∧ Xsm μ ν' := by
  have hn := hv.1
  have H := KV_H hv hh
  have h6 := H.1
  intro c
  induction c with
  | zero =>
    intro k fu ν h2 hf sm
    obtain ⟨fu, rfl⟩ : ∃ q, fu = q + 1 := ⟨fu - 1, by omega⟩
    have hk : k = sz h := by omega
    subst hk
    have hx' := XChr_sm sm (by omega) hx
    obtain ⟨i1, i2⟩ := flat_u (u := u24 n sz ev yr sb sv s) (a := 6 * h + sz h) (6 - sz h) (fun t t1 t2 => by
      rw [show t = 6 * h + (t - 6 * h) by omega, u24_at (by omega)]
      exact usn_out (fun z => by omega))
    rw [show 6 * h + sz h + (6 - sz h) = 6 * (h + 1) by omega] at i1 i2
    refine ⟨ν, ?_, sm⟩
    rw [fX6_unseen_34, grd_in (by omega) (by omega), nI_clamp (by omega), (hx'.2.2 h hh).1, if_pos (nI_le (Nat.le_refl _) (by omega)), nI_1, i1, i2]
  | succ c ih =>
    intro k fu ν h2 hf sm
    obtain ⟨fu, rfl⟩ : ∃ q, fu = q + 1 := ⟨fu - 1, by omega⟩
    have hx' := XChr_sm sm (by omega) hx
    obtain ⟨ν1, y1, y2⟩ := xseem (sv := sv) hv hx' hs (by rw [Xsm_get sm (by omega)]; exact h1) (fun j hj => by rw [Xsm_get sm (by omega)]; exact h16 j hj) hh (show k < sz h by omega)
    obtain ⟨ν2, z1, z2⟩ := ih (k + 1) fu ν1 (by omega) (by omega) (Xsm.tr sm y2)
    refine ⟨ν2, ?_, z2⟩
    rw [← z1, fX6_unseen_34, grd_in (by omega) (by omega), nI_clamp (by omega), (hx'.2.2 h hh).1, if_neg (nI_ge (by omega) (by omega)), y1, bm_s, nI_1, nI_1]
    have hu := u24_at (n := n) (sz := sz) (ev := ev) (yr := yr) (sb := sb) (sv := sv) (s := s) (h := h) (k := k) (by omega)
    have hc := fa_cnt_le (u24 n sz ev yr sb sv s) (6 * h + k)
    by_cases q : usn n sz ev yr sb sv s h k = true
    · rw [if_pos q]
      simp only [one0, if_false]
      have e10 : (10 : Int32) * nI h + nI k = vl (6 * h + k) := by
        rw [show (10 : Int32) = nI 10 from rfl, pk_mul, nI_add]
        unfold vl
        congr 1
        omega
      rw [← Nat.add_assoc, fa_cnt_yes (hu.trans q), fv_yes (hu.trans q), e10]
      simp only [nI_z (show fa_cnt (u24 n sz ev yr sb sv s) (6 * h + k) < 2 ^ 31 by omega)]
      by_cases w0 : fa_cnt (u24 n sz ev yr sb sv s) (6 * h + k) = 0
      · rw [if_pos w0, if_pos w0]
      · rw [if_neg w0, if_neg w0]
    · rw [if_neg q]
      simp only [if_true]
      have q' : usn n sz ev yr sb sv s h k = false := by simpa using q
      rw [← Nat.add_assoc, fa_cnt_no (hu.trans q'), fv_no (hu.trans q')]
theorem xunseen {μ : Mem} {sv : Nat → Int32} {s : Nat} (hv : KV n sz ev yr sb sl) (hx : XChr μ 17 n sz ev yr sb sl) (hs : s ≤ 6) (h1 : μ 0 10 = nI s) (h16 : ∀ j, j < s → μ 16 j = sv j) (w : Int32) : ∃ μ', fX6_unseen_11 w μ = some (if w = 0 then nI (fa_cnt (u24 n sz ev yr sb sv s) 24) else fv (u24 n sz ev yr sb sv s) 24, μ') ∧ Xsm μ μ' := by
  have hn := hv.1
  have key : ∀ (c h fu : Nat) (ν : Mem), h + c = n → c < fu → Xsm μ ν → ∃ ν', fX6_unseen_19 fu w (nI (fa_cnt (u24 n sz ev yr sb sv s) (6 * h))) (fv (u24 n sz ev yr sb sv s) (6 * h)) (nI h) ν = some (if w = 0 then nI (fa_cnt (u24 n sz ev yr sb sv s) 24) else fv (u24 n sz ev yr sb sv s) 24, ν') ∧ Xsm μ ν' := by
    intro c
    induction c with
    | zero =>
      intro h fu ν h2 hf sm
      obtain ⟨fu, rfl⟩ : ∃ q, fu = q + 1 := ⟨fu - 1, by omega⟩
      have : h = n := by omega
      subst this
      have hx' := XChr_sm sm (by omega) hx
      obtain ⟨i1, i2⟩ := flat_u (u := u24 h sz ev yr sb sv s) (a := 6 * h) (24 - 6 * h) (fun t t1 t2 => by
        rw [show t = 6 * (t / 6) + t % 6 by omega, u24_at (by omega)]
        exact usn_out (fun z => by omega))
      rw [show 6 * h + (24 - 6 * h) = 24 by omega] at i1 i2
      refine ⟨ν, ?_, sm⟩
      rw [fX6_unseen_19, hx'.1, if_pos (nI_le (Nat.le_refl _) (by omega)), i1, i2]
      by_cases q : w = 0
      · rw [if_pos q, if_pos q]
      · rw [if_neg q, if_neg q]
    | succ c ih =>
      intro h fu ν h2 hf sm
      obtain ⟨fu, rfl⟩ : ∃ q, fu = q + 1 := ⟨fu - 1, by omega⟩
      have hx' := XChr_sm sm (by omega) hx
      have h6 := (KV_H hv (show h < n by omega)).1
      obtain ⟨ν1, y1, y2⟩ := xunseen_row (sv := sv) hv hx hs h1 h16 (show h < n by omega) w (fun a0 a1 a2 a3 a4 => fX6_unseen_19 fu a0 a1 a2 a3 a4) (sz h) 0 FU ν (by omega) (by rw [FU_big]; omega) sm
      obtain ⟨ν2, z1, z2⟩ := ih (h + 1) fu ν1 (by omega) (by omega) y2
      refine ⟨ν2, ?_, z2⟩
      rw [← z1, fX6_unseen_19, hx'.1, if_neg (nI_ge (by omega) (by omega))]
      exact y1
  obtain ⟨ν', e, sm⟩ := key n 0 FU μ (by omega) (by rw [FU_big]; omega) Xsm.rf
  exact ⟨ν', e, sm⟩
theorem q_unseen (h : Bo σ ρ n sz ev yr sb sl) {s : Nat} (hs : s ≤ 6) (h1 : σ 0 10 = nI s) (h2 : ρ 0 4 = nI s) (h3 : ∀ j, j < s → ρ 3 j = σ 16 j) (w : Int32) : Qa σ ρ (fX6_unseen w σ) (fX7_unseen w ρ) := by
  obtain ⟨hv, hx, hc, h10⟩ := h
  obtain ⟨σ', x1, x2⟩ := xunseen (sv := σ 16) hv hx hs h1 (fun j _ => rfl) w
  obtain ⟨ρ', r1, r2⟩ := runseen (sv := σ 16) hv hc hs h2 h3 w
  unfold fX6_unseen fX7_unseen
  rw [x1, r1, show (0 : Int64) = (0 : Int32).toInt64 from rfl, show (1 : Int64) = (nI 1).toInt64 from rfl, in32r]
  rcases by_cs w (m := 1) (by omega) with hw | ⟨b, hb, rfl⟩
  · rw [if_neg hw]
    simp only [if_true]
    have hw' : ∀ t : Nat, t ≤ 1 → ¬ w = nI t := fun t ht z => hw ((in_small (by omega)).mpr ⟨t, ht, z⟩)
    rw [if_neg (show ¬ w = 0 from hw' 0 (by omega)), if_neg (show ¬ w = 1 from hw' 1 (by omega))]
    exact Qa.same
  rw [if_pos (show 0 ≤ nI b ∧ nI b ≤ nI 1 from ⟨nI_pos' (by omega), nI_le hb (by omega)⟩)]
  simp only [one0, if_false]
  have hb' : b = 0 ∨ b = 1 := by omega
  rcases hb' with rfl | rfl
  · rw [if_pos (show nI 0 = 0 from rfl)]
    exact ⟨_, _, _, rfl, rfl, x2, r2⟩
  · rw [if_neg (show ¬ nI 1 = 0 by decide), if_pos (show nI 1 = 1 from rfl)]
    exact ⟨_, _, _, rfl, rfl, x2, r2⟩
/-- the events of the first h houses -/
def evm (n : Nat) (sz : Nat → Nat) (ev : Nat → Nat → Nat) (sb : Nat → Nat) (h : Nat) : Nat := msk (fun e => decide (∃ i, i < h ∧ plc (acN n sz sb) ev i e < 6)) 8
theorem xev (hv : KV n sz ev yr sb sl) (hx : XChr σ 17 n sz ev yr sb sl) : fX0_eventBits 17 σ = some (nI (evm n sz ev sb n)) := by
  have hn := hv.1
  unfold fX0_eventBits
  refine loop1s (fun fu h s => fX0_eventBits_4 17 σ fu (nI s) (nI h)) n (fun h => evm n sz ev sb h) (s0 := 0) ?_ (fun fu => ?_) (fun fu h hh => ?_) (by rw [FU_big]; omega)
  · apply bit_ext
    intro i
    unfold evm
    rw [msk_bit]
    simp
  · show fX0_eventBits_4 _ _ _ _ _ = _
    rw [fX0_eventBits_4, hx.1, if_pos (nI_le (Nat.le_refl _) (by omega))]
  · show fX0_eventBits_4 _ _ _ _ _ = fX0_eventBits_4 _ _ _ _ _
    rw [fX0_eventBits_4, hx.1, if_neg (nI_ge hh (by omega)), grd_in (by omega) (by omega), nI_clamp (by omega), eventBits_ok (KV_H hv hh) (hx.2.2 h hh), bi_s, fa_or, nI_1]
    congr 2
    apply bit_ext
    intro i
    unfold evm
    rw [Nat.testBit_or, msk_bit, msk_bit, msk_bit, acN_H hv hh]
    by_cases q : i < 8
    · simp only [q, decide_true, Bool.true_and]
      rw [← Bool.decide_or]
      apply decide_eq_decide.mpr
      constructor
      · rintro (⟨j, hj, hp⟩ | hp)
        · exact ⟨j, by omega, hp⟩
        · exact ⟨h, by omega, hp⟩
      · rintro ⟨j, hj, hp⟩
        by_cases w : j = h
        · subst w; exact Or.inr hp
        · exact Or.inl ⟨j, by omega, hp⟩
    · simp [q]
theorem hz_iff (hv : KV n sz ev yr sb sl) {e : Nat} (he : e < 8) : (nI (msk (fun h => decide (plc (acN n sz sb) ev h e < 6)) n) = 0) = ((evm n sz ev sb n).testBit e = false) := by
  have hn := hv.1
  have l := msk_lt (fun h => decide (plc (acN n sz sb) ev h e < 6)) n
  have l2 : 2 ^ n ≤ 2 ^ 4 := Nat.pow_le_pow_right (by omega) hn
  rw [nI_z (by omega)]
  unfold evm
  rw [msk_bit]
  simp only [he, decide_true, Bool.true_and, decide_eq_false_iff_not]
  apply propext
  constructor
  · rintro h0 ⟨i, hi, hp⟩
    have := msk_bit (fun h => decide (plc (acN n sz sb) ev h e < 6)) n i
    rw [h0] at this
    simp [hi, hp] at this
  · intro h0
    apply bit_ext
    intro i
    rw [msk_bit]
    by_cases q : i < n
    · have : ¬ plc (acN n sz sb) ev i e < 6 := fun z => h0 ⟨i, q, z⟩
      simp [this]
    · simp [q]
theorem rev (hv : KV n sz ev yr sb sl) (hc : RC ρ n sz ev yr sb (-9) 0) : fX7_events ρ = some (nI (fa_cnt (evm n sz ev sb n).testBit 8)) := by
  have hn := hv.1
  unfold fX7_events
  refine loop1 (fun fu k s => fX7_events_4 ρ fu (nI s) (nI k)) 8 (fun k => fa_cnt (evm n sz ev sb n).testBit k) (fun fu => ?_) (fun fu k hk => ?_) (by rw [FU_big]; omega)
  · show fX7_events_4 _ _ _ _ = _
    rw [fX7_events_4, if_pos (by decide)]
  · show fX7_events_4 _ _ _ _ = fX7_events_4 _ _ _ _
    have hz : (nI (msk (fun h => decide (plc (acR n sz sb (-9) 0) ev h k < 6)) n) = 0) = ((evm n sz ev sb n).testBit k = false) := hz_iff hv hk
    rw [fX7_events_4, if_neg (nle8 hk), housesOf_ok hv hc (by omega) hk, bi_s]
    simp only [hz]
    by_cases q : (evm n sz ev sb n).testBit k = false
    · rw [if_pos q, nI_1, fa_cnt_no q]
      simp
    · have q' : (evm n sz ev sb n).testBit k = true := by simpa using q
      rw [if_neg q, nI_1, nI_1, fa_cnt_yes q']
theorem q_entries (hv : KV n sz ev yr sb sl) (hx : XChr σ 17 n sz ev yr sb sl) (hc : RC ρ n sz ev yr sb (-9) 0) : ∃ r, fX0_entriesLeft 17 σ = some r ∧ fX7_entries ρ = some r := by
  have hn := hv.1
  refine ⟨nI (fb_sm (fun h => fa_cnt (acN n sz sb h) 6) n), ?_, ?_⟩
  · unfold fX0_entriesLeft
    refine loop1 (fun fu k s => fX0_entriesLeft_4 17 σ fu (nI s) (nI k)) n (fun k => fb_sm (fun h => fa_cnt (acN n sz sb h) 6) k) (fun fu => ?_) (fun fu k hk => ?_) (by rw [FU_big]; omega)
    · show fX0_entriesLeft_4 _ _ _ _ _ = _
      rw [fX0_entriesLeft_4, hx.1, if_pos (nI_le (Nat.le_refl _) (by omega))]
    · show fX0_entriesLeft_4 _ _ _ _ _ = fX0_entriesLeft_4 _ _ _ _ _
      rw [fX0_entriesLeft_4, hx.1, if_neg (nI_ge hk (by omega)), grd_in (by omega) (by omega), nI_clamp (by omega), xleft hv hx hk, bi_s, nI_1, nI_add, fb_sm_succ]
  · unfold fX7_entries
    refine loop1 (fun fu k s => fX7_entries_4 ρ fu (nI s) (nI k)) n (fun k => fb_sm (fun h => fa_cnt (acN n sz sb h) 6) k) (fun fu => ?_) (fun fu k hk => ?_) (by rw [FU_big]; omega)
    · show fX7_entries_4 _ _ _ _ = _
      rw [fX7_entries_4, hc.1, if_pos (nI_le (Nat.le_refl _) (by omega))]
    · show fX7_entries_4 _ _ _ _ = fX7_entries_4 _ _ _ _
      rw [fX7_entries_4, hc.1, if_neg (nI_ge hk (by omega)), sizeOf_ok hv hc (by omega) (by omega), bi_s, nI_1, nI_add, fb_sm_succ]
      rfl
theorem q_count (h : Bo σ ρ n sz ev yr sb sl) (h1 : σ 0 10 = ρ 0 4) (h2 : σ 1 0 = ρ 0 6) (h3 : σ 4 0 = ρ 0 2) (w : Int32) : Qa σ ρ (fX6_count w σ) (fX7_count w ρ) := by
  obtain ⟨hv, hx, hc, h10⟩ := h
  have kl := knm_lt (ac := acN n sz sb) (ev := ev) (yr := yr) (n := n)
  have el : evm n sz ev sb n < 256 := msk_lt _ 8
  unfold fX6_count fX7_count
  by_cases w0 : w = 0
  · rw [if_pos w0, if_pos w0, hx.1, hc.1]
    exact Qa.same
  rw [if_neg w0, if_neg w0]
  by_cases w1 : w = 1
  · obtain ⟨r, e1, e2⟩ := q_entries hv hx hc
    rw [if_pos w1, if_pos w1, e1, e2]
    exact Qa.same
  rw [if_neg w1, if_neg w1]
  by_cases w2 : w = 2
  · rw [if_pos w2, if_pos w2, xev hv hx, bi_s, fJbc _ el, rev hv hc]
    exact Qa.same
  rw [if_neg w2, if_neg w2]
  by_cases w3 : w = 3
  · obtain ⟨σ', x1, x2, -⟩ := xknots hv hx
    obtain ⟨ρ', r1, r2, -⟩ := R_kn hv hc (by omega)
    rw [if_pos w3, if_pos w3, x1, bm_s, fJbc _ kl, r1, bm_s, fX7on _ (show knm (acR n sz sb (-9) 0) ev yr n < 256 from kl)]
    exact ⟨_, _, _, rfl, rfl, x2, r2⟩
  rw [if_neg w3, if_neg w3]
  by_cases w4 : w = 4
  · rw [if_pos w4, if_pos w4, grd_t (by decide), hx.2.1]
    exact ⟨_, _, _, rfl, by rw [show (0 : Int32).toNatClampNeg = 0 from rfl, h10], Xsm.rf, Rsm.rf⟩
  rw [if_neg w4, if_neg w4]
  by_cases w5 : w = 5
  · rw [if_pos w5, if_pos w5, h1]
    exact Qa.same
  rw [if_neg w5, if_neg w5]
  by_cases w6 : w = 6
  · rw [if_pos w6, if_pos w6, h2]
    exact Qa.same
  rw [if_neg w6, if_neg w6]
  by_cases w7 : w = 7
  · rw [if_pos w7, if_pos w7, h3]
    exact Qa.same
  rw [if_neg w7, if_neg w7]
  exact Qa.same
end QV
