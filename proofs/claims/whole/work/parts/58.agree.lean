/-! reading the text: by how much is left -/
section RF
variable {σa ρa : Mem} {t : Nat} {tx : Nat → Nat}
theorem sub97 {tok : Nat} (h1 : 97 ≤ tok) (h2 : tok ≤ 104) : tkI tok - 97 = nI (tok - 97) := by
  unfold tkI
  rw [if_neg (by omega)]
  conv => lhs; rw [show tok = (tok - 97) + 97 by omega, ← nI_add]
  rw [show (97 : Int32) = nI 97 from rfl, Int32.add_sub_cancel]
theorem sub1000 {tok : Nat} (h1 : 1000 ≤ tok) (h2 : tok ≤ 1099) : tkI tok - 1000 = nI (tok - 1000) := by
  unfold tkI
  rw [if_neg (by omega)]
  conv => lhs; rw [show tok = (tok - 1000) + 1000 by omega, ← nI_add]
  rw [show (1000 : Int32) = nI 1000 from rfl, Int32.add_sub_cancel]
/-- the part of the reference's reading behind an event that fits -/
def R131 (K : Int32 → Int32 → Mem → Option (Int32 × Mem)) (N k : Nat) (ρ : Mem) : Option (Int32 × Mem) := bv (fX7_take ρ) fun σ17 => if nI k = 0 then fX7_readsHouse_131 K (nI (6 * N)) (nI k) 0 σ17 else grd (¬ ((nI (6 * N + k) - 1) < 0 ∨ 24 ≤ (nI (6 * N + k) - 1).toNatClampNeg)) (fX7_readsHouse_131 K (nI (6 * N)) (nI k) (σ17 9 (nI (6 * N + k) - 1).toNatClampNeg) σ17)
theorem r46 {σ ρ : Mem} {tok N k : Nat} {sz : Nat → Nat} {ev yr : Nat → Nat → Nat} (K : Int32 → Int32 → Mem → Option (Int32 × Mem)) (hd : PD σ ρ (N + 1) sz ev yr) (hk : sz N = k) (hr : ρ 0 12 = tkI tok) (h1 : 97 ≤ tok) (h2 : tok ≤ 104) (c0 : Bool) (hc : c0 = true → k < 6) :
    fX7_readsHouse_46 K FU (nI (6 * N)) (nI k) (if c0 then 1 else 0) 0 ρ = if c0 = true ∧ ¬ ∃ j, j < k ∧ ev N j = tok - 97 then R131 K N k (mup ρ 8 (6 * N + k) (nI (tok - 97))) else some (0, ρ) := by
  have hv := hd.1
  have hn := hv.1
  have h6 := (hv.2.1 N (by omega)).1
  refine loop1s (fun fu j s => fX7_readsHouse_46 K fu (nI (6 * N)) (nI k) (if s then 1 else 0) (nI j) ρ) k (fun j => c0 && !decide (∃ i, i < j ∧ ev N i = tok - 97)) (s0 := c0) (fu := FU) ?_ (fun fu => ?_) (fun fu j hj => ?_) (by rw [FU_big]; omega)
  · simp
  · show fX7_readsHouse_46 _ _ _ _ _ _ _ = _
    rw [fX7_readsHouse_46, if_pos (nI_le (Nat.le_refl k) (by omega)), nI_add, hr, sub97 h1 h2]
    by_cases q : c0 = true ∧ ¬ ∃ j, j < k ∧ ev N j = tok - 97
    · have q1 : (c0 && !decide (∃ i, i < k ∧ ev N i = tok - 97)) = true := by
        simp only [q.1, q.2, decide_false, Bool.not_false, Bool.and_self]
      have k6 := hc q.1
      rw [if_pos q, if_pos q1]
      simp only [one0, if_false]
      rw [grd_in (by omega) (by omega), nI_clamp (by omega)]
      rfl
    · have q1 : ¬ (c0 && !decide (∃ i, i < k ∧ ev N i = tok - 97)) = true := by
        intro z
        simp only [Bool.and_eq_true, Bool.not_eq_true', decide_eq_false_iff_not] at z
        exact q z
      rw [if_neg q, if_neg q1, if_pos rfl]
  · show fX7_readsHouse_46 _ _ _ _ _ _ _ = fX7_readsHouse_46 _ _ _ _ _ _ _
    have e8 := ((hd.2.2.2 N (by omega)).2 j (by omega)).2.2.1
    have b8 := (hv.2.2.1 N j (by omega) (by omega)).1
    rw [fX7_readsHouse_46, if_neg (nI_ge hj (by omega)), nI_add, hr, sub97 h1 h2, nI_1]
    by_cases q : (c0 && !decide (∃ i, i < j ∧ ev N i = tok - 97)) = true
    · rw [if_pos q]
      simp only [one0, if_false]
      rw [grd_in (by omega) (by omega), nI_clamp (by omega), e8]
      simp only [Bool.and_eq_true, Bool.not_eq_true', decide_eq_false_iff_not] at q
      by_cases w : ev N j = tok - 97
      · rw [if_pos (by rw [w])]
        have : (c0 && !decide (∃ i, i < j + 1 ∧ ev N i = tok - 97)) = false := by
          have : ∃ i, i < j + 1 ∧ ev N i = tok - 97 := ⟨j, by omega, w⟩
          simp only [this, decide_true, Bool.not_true, Bool.and_false]
        rw [this]
        rfl
      · rw [if_neg (fun z => w ((nI_eq (by omega) (by omega)).mp z))]
        have : (c0 && !decide (∃ i, i < j + 1 ∧ ev N i = tok - 97)) = true := by
          have : ¬ ∃ i, i < j + 1 ∧ ev N i = tok - 97 := by
            rintro ⟨i, hi, hw⟩
            by_cases z : i = j
            · subst z; exact w hw
            · exact q.2 ⟨i, by omega, hw⟩
          simp only [this, q.1, decide_false, Bool.not_false, Bool.and_self]
        rw [this]
        rfl
    · rw [if_neg q]
      simp only [if_true]
      have : (c0 && !decide (∃ i, i < j + 1 ∧ ev N i = tok - 97)) = false := by
        by_cases z : c0 = true
        · simp only [z, Bool.true_and, Bool.not_eq_true', decide_eq_false_iff_not, Classical.not_not] at q
          obtain ⟨i, hi, hw⟩ := q
          have : ∃ i, i < j + 1 ∧ ev N i = tok - 97 := ⟨i, by omega, hw⟩
          simp only [this, decide_true, Bool.not_true, Bool.and_false]
        · have z' : c0 = false := by simpa using z
          simp only [z', Bool.false_and]
      rw [this]
      rfl
theorem r24_no {σ ρ : Mem} {tok N k fu2 it : Nat} {sz : Nat → Nat} (hm : CM σ ρ it N sz) (hN : N < 4) (hr : ρ 0 12 = tkI tok) (ht : tok ≤ 3000) (he : ¬ (97 ≤ tok ∧ tok ≤ 104)) : fX7_readsHouse_24 (fu2 + 1) (nI (6 * N)) (nI k) ρ = bm (fX7_readsEnd (mup (mup ρ 7 N (nI k)) 0 15 (nI (N + 1)))) fun r9 σ10 => grd (r9 = 0 ∨ r9 = 1) (some (r9, σ10)) := by
  rw [fX7_readsHouse_24, isEv_ok hr ht, bi_s, if_neg he]
  simp only [if_true]
  rw [hm.2.2.2.1, grd_in (by omega) (by omega), nI_clamp (by omega), mup_n (a := 0) (b := 15) (by omega), hm.2.2.2.1, nI_1]
theorem r24_ev {ρ : Mem} {tok N k fu2 : Nat} (hk : k ≤ 6) (hr : ρ 0 12 = tkI tok) (ht : tok ≤ 3000) (he : 97 ≤ tok ∧ tok ≤ 104) : fX7_readsHouse_24 (fu2 + 1) (nI (6 * N)) (nI k) ρ = fX7_readsHouse_46 (fun a0 a1 a2 => fX7_readsHouse_24 fu2 a0 a1 a2) FU (nI (6 * N)) (nI k) (if decide (k < 6) then 1 else 0) 0 ρ := by
  rw [fX7_readsHouse_24, isEv_ok hr ht, bi_s, if_pos he]
  simp only [one0, if_false]
  by_cases q : k < 6
  · rw [if_neg (nle6 q)]
    simp only [q, decide_true, if_true]
  · rw [if_pos (show (6 : Int32) ≤ nI k from nI_le (a := 6) (by omega) (by omega))]
    simp only [q, decide_false, Bool.false_eq_true, if_false]
theorem r131 {σ ρ ρ2 : Mem} {tok N k : Nat} {sz : Nat → Nat} {ev yr : Nat → Nat → Nat} {K : Int32 → Int32 → Mem → Option (Int32 × Mem)} (ht : fX7_take ρ = some ρ2) (hd : PD σ ρ2 (N + 1) sz ev yr) (hk : sz N = k) (hk6 : k < 6) (hr : ρ2 0 12 = tkI tok) (hl : tok ≤ 3000) : R131 K N k ρ = if (1000 ≤ tok ∧ tok ≤ 1099) ∧ (k = 0 ∨ yr N (k - 1) ≤ tok - 1000) then bv (fX7_take (mup ρ2 9 (6 * N + k) (nI (tok - 1000)))) fun σ25 => K (nI (6 * N)) (nI (k + 1)) σ25 else some (0, ρ2) := by
  have hv := hd.1
  have hn := hv.1
  unfold R131
  rw [ht, bv_s]
  have main : ∀ lo, lo ≤ 99 → (1000 + lo ≤ tok ∧ tok ≤ 1000 + 99 ↔ (1000 ≤ tok ∧ tok ≤ 1099) ∧ (k = 0 ∨ yr N (k - 1) ≤ tok - 1000)) → fX7_readsHouse_131 K (nI (6 * N)) (nI k) (nI lo) ρ2 = if (1000 ≤ tok ∧ tok ≤ 1099) ∧ (k = 0 ∨ yr N (k - 1) ≤ tok - 1000) then bv (fX7_take (mup ρ2 9 (6 * N + k) (nI (tok - 1000)))) fun σ25 => K (nI (6 * N)) (nI (k + 1)) σ25 else some (0, ρ2) := by
    intro lo hlo hiff
    unfold fX7_readsHouse_131
    rw [show (99 : Int32) = nI 99 from rfl, isNum_ok hr hl hlo (by omega), bi_s, nI_add]
    by_cases q : (1000 ≤ tok ∧ tok ≤ 1099) ∧ (k = 0 ∨ yr N (k - 1) ≤ tok - 1000)
    · rw [if_pos q, if_pos (hiff.mpr q)]
      simp only [one0, if_false]
      rw [grd_in (by omega) (by omega), nI_clamp (by omega), hr, sub1000 q.1.1 q.1.2, nI_1]
    · rw [if_neg q, if_neg (fun z => q (hiff.mp z)), if_pos rfl]
  by_cases q : k = 0
  · rw [if_pos (show nI k = 0 by rw [q]; rfl), show (0 : Int32) = nI 0 from rfl]
    exact main 0 (by omega) (by omega)
  · have e9 := ((hd.2.2.2 N (by omega)).2 (k - 1) (by omega)).2.2.2
    have b9 := (hv.2.2.1 N (k - 1) (by omega) (by omega)).2
    have ep : nI (6 * N + k) - 1 = nI (6 * N + (k - 1)) := by
      rw [show 6 * N + k = (6 * N + (k - 1)) + 1 by omega]; exact nI_pred _
    rw [if_neg (show ¬ nI k = 0 from fun z => q ((nI_eq (b := 0) (by omega) (by omega)).mp z)), ep, grd_in (by omega) (by omega), nI_clamp (by omega), e9]
    exact main _ b9 (by omega)
theorem stepB {m : Nat} (hA : PA σa ρa t tx m) (hB : PB σa ρa t tx m) : PB σa ρa t tx (m + 1) := by
  intro σ ρ tok b x i it N k sz ev yr fu fu1 fu2 hc hi hi0 hit h6 hm hd hk hme hf hf1 hf2
  obtain ⟨fu, rfl⟩ : ∃ q, fu = q + 1 := ⟨fu - 1, by omega⟩
  obtain ⟨fu2, rfl⟩ : ∃ q, fu2 = q + 1 := ⟨fu2 - 1, by omega⟩
  obtain ⟨c1, c2, c3, c4, c5, c6⟩ := id hc
  have h110 := c1.1
  have hv := hd.1
  have hn := hv.1
  have hk6 := (hv.2.1 N (by omega)).1
  have hl := tok_le c4
  obtain ⟨t1, t2, t3, t4, t5, t6, t7, t8, t9⟩ := id c4
  obtain ⟨m1, m2, m3, m4, m5⟩ := id hm
  by_cases e97 : 97 ≤ tok ∧ tok ≤ 104
  · have tne : tok ≠ 3000 := by omega
    have hix := hi tne
    rw [r24_ev (by omega) t6 hl e97, r46 _ hd hk t6 e97.1 e97.2 (decide (k < 6)) (fun z => by simpa using z)]
    have tk2 := take_2 h6 t5 m1 t8 hd
    rw [if_neg (show ¬ tok = 59 by omega)] at tk2
    by_cases q : (decide (k < 6) = true) ∧ ¬ ∃ j, j < k ∧ ev N j = tok - 97
    · have k6 : k < 6 := by simpa using q.1
      rw [if_pos q]
      rw [if_pos (show (97 ≤ tok ∧ tok ≤ 104) ∧ sz N < 6 ∧ ¬ ∃ k, k < sz N ∧ ev N k = tok - 97 from ⟨e97, by omega, by rw [hk]; exact q.2⟩)] at tk2
      obtain ⟨σ2, ρ2, tok1, b1, x1, a1, a2, a3, a4, a5, a6, a7⟩ := CO_adv (σ := mup (mup σ 1 8 (σ 1 5)) 1 6 3) (ρ := mup ρ 8 (6 * N + k) (nI (tok - 97))) (x := x) (TT_mR (TT_mX (TT_mX c1 (by omega)) (by omega)) (by omega)) (FX_m (FX_m c2 (by omega)) (by omega)) (FR_m c3 (by omega)) (by rw [mup_n (by omega), mup_n (by omega)]; exact t1) (by rw [mup_n (by omega)]; exact t2) c6
      obtain ⟨d1, d2, d3, d4, d5, d6⟩ := id a3
      have hn1 := mea_nx (t := t) (tok := tok) (x := x) tne a4 a5 d6
      have hl1 := tok_le d4
      obtain ⟨u1, u2, u3, u4, u5, u6, u7, u8, u9⟩ := id d4
      obtain ⟨fu, rfl⟩ : ∃ q, fu = q + 1 := ⟨fu - 1, by omega⟩
      have hd2 : PD σ2 ρ2 (N + 1) sz ev yr := PD_fr (PD_ev (v := nI (tok - 97)) hd hk) (fun p q _ _ _ => by rw [a6 _ _ (by omega), mup_n (by omega), mup_n (by omega)]) (fun p q _ => a7 _ _ (by omega))
      have s6 : σ2 1 6 = 3 := by rw [a6 _ _ (by omega), mup_s]
      have s8 : σ2 1 8 = nI (tok - 97) := by rw [a6 _ _ (by omega), mup_n (by omega), mup_s]; exact t8 e97.1 e97.2
      have r8 : ρ2 8 (6 * N + k) = nI (tok - 97) := by rw [a7 _ _ (by omega), mup_s]
      have hm2 : CM σ2 ρ2 it N sz := CM_fr hm (by rw [a6 _ _ (by omega), mup_n (by omega), mup_n (by omega)]) (by rw [a6 _ _ (by omega), mup_n (by omega), mup_n (by omega)]) (by rw [a6 _ _ (by omega), mup_n (by omega), mup_n (by omega)]) (fun b _ _ => by rw [a7 _ _ (by omega), mup_n (by omega)]) (fun b => by rw [a7 _ _ (by omega), mup_n (by omega)])
      rw [read_go (k_ne c4 tne) (by omega) tk2 a1, r131 a2 hd2 hk k6 u6 hl1]
      by_cases z : tok1 = 3000
      · rw [if_neg (by omega), bm_s, K0_0]
        exact end_fail a3 z s6 (by decide)
      · have tk3 := take_3 s6 u5 s8 u7 hd2 (by omega)
        rw [hk] at tk3
        by_cases y : (1000 ≤ tok1 ∧ tok1 ≤ 1099) ∧ (k = 0 ∨ yr N (k - 1) ≤ tok1 - 1000)
        · rw [if_pos y] at tk3
          rw [if_pos y]
          obtain ⟨σ4, ρ4, tok2, b2, x2, f1, f2, f3, f4, f5, f6, f7⟩ := CO_adv (σ := mup (mup (mup (mup σ2 1 6 2) (31 + 2 + 3 * N + 1) k (nI (tok - 97))) (31 + 2 + 3 * N + 2) k (nI (tok1 - 1000))) (31 + 2 + 3 * N) 2 (nI (k + 1))) (ρ := mup ρ2 9 (6 * N + k) (nI (tok1 - 1000))) (x := x1) (TT_mR (TT_mX (TT_mX (TT_mX (TT_mX d1 (by omega)) (by omega)) (by omega)) (by omega)) (by omega)) (FX_m (FX_m (FX_m (FX_m d2 (by omega)) (by omega)) (by omega)) (by omega)) (FR_m d3 (by omega)) (by rw [mup_n (by omega), mup_n (by omega), mup_n (by omega), mup_n (by omega)]; exact u1) (by rw [mup_n (by omega)]; exact u2) d6
          have hn2 := mea_nx (t := t) (tok := tok1) (x := x1) z f4 f5 f3.2.2.2.2.2
          have hx1 := a4 z
          rw [read_go (k_ne d4 z) (by omega) tk3 f1, f2, bv_s]
          refine hB σ4 ρ4 tok2 b2 x2 (i + 1 + 1) it N (k + 1) (fun h => if h = N then k + 1 else sz h) (fun h j => if h = N ∧ j = k then tok - 97 else ev h j) (fun h j => if h = N ∧ j = k then tok1 - 1000 else yr h j) fu fu1 fu2 f3 (fun w => by have := f4 w; omega) (by omega) (by omega) ?_ ?_ ?_ (if_pos rfl) (by omega) (by omega) (by omega) (by omega)
          · rw [f6 _ _ (by omega), mup_n (by omega), mup_n (by omega), mup_n (by omega), mup_s]
          · have hm3 := CM_fr (σ' := σ4) (ρ' := ρ4) hm2 (by rw [f6 _ _ (by omega), mup_n (by omega), mup_n (by omega), mup_n (by omega), mup_n (by omega)]) (by rw [f6 _ _ (by omega), mup_n (by omega), mup_n (by omega), mup_n (by omega), mup_n (by omega)]) (by rw [f6 _ _ (by omega), mup_n (by omega), mup_n (by omega), mup_n (by omega), mup_n (by omega)]) (fun b _ _ => by rw [f7 _ _ (by omega), mup_n (by omega)]) (fun b => by rw [f7 _ _ (by omega), mup_n (by omega)])
            exact ⟨hm3.1, hm3.2.1, hm3.2.2.1, hm3.2.2.2.1, fun h hh => by
              show _ = nI (if h = N then k + 1 else sz h)
              rw [if_neg (by omega)]
              exact hm3.2.2.2.2 h hh⟩
          · exact PD_fr (PD_add hd2 hk k6 (by omega) (by omega) q.2 y.2 r8) (fun p q _ _ _ => f6 _ _ (by omega)) (fun p q _ => f7 _ _ (by omega))
        · rw [if_neg y] at tk3
          rw [if_neg y, bm_s, K0_0]
          exact tok_fail a3 z (by have := a4 z; omega) tk3 (FX_m d2 (by omega)) (mup_n (by omega))
    · rw [if_neg q, bm_s, K0_0]
      rw [if_neg (show ¬ ((97 ≤ tok ∧ tok ≤ 104) ∧ sz N < 6 ∧ ¬ ∃ k, k < sz N ∧ ev N k = tok - 97) from fun w => q ⟨by simpa [hk] using w.2.1, by have := w.2.2; rw [hk] at this; exact this⟩)] at tk2
      exact tok_fail hc tne hix tk2 (FX_m (FX_m c2 (by omega)) (by omega)) (by rw [mup_n (by omega), mup_n (by omega)])
  · have hc1 : CO σa ρa t tx σ (mup (mup ρ 7 N (nI k)) 0 15 (nI (N + 1))) tok b x := ⟨TT_mR (TT_mR c1 (by omega)) (by omega), c2, FR_m (FR_m c3 (by omega)) (by omega), TK_m (TK_m c4 (by omega)) (by omega), c5, c6⟩
    have r12 : mup (mup ρ 7 N (nI k)) 0 15 (nI (N + 1)) 0 12 = tkI tok := by rw [mup_n (by omega), mup_n (by omega)]; exact t6
    rw [r24_no hm (by omega) t6 hl e97]
    by_cases q : tok = 59
    · have tne : tok ≠ 3000 := by omega
      have hix := hi tne
      have tk2 := take_2 h6 t5 m1 t8 hd
      rw [if_pos q] at tk2
      have hm1 : CM σ (mup (mup ρ 7 N (nI k)) 0 15 (nI (N + 1))) it (N + 1) sz := by
        refine ⟨m1, by rw [mup_n (by omega), mup_n (by omega)]; exact m2, SL_fr m3 rfl rfl (by rw [mup_n (by omega), mup_n (by omega)]), mup_s _ _ _ _, fun h hh => ?_⟩
        rw [mup_n (by omega)]
        by_cases w : h = N
        · subst w
          rw [mup_s, hk]
        · rw [mup_n (by omega)]
          exact m5 h (by omega)
      have hd1 : PD σ (mup (mup ρ 7 N (nI k)) 0 15 (nI (N + 1))) (N + 1) sz ev yr := PD_fr hd (fun p q _ _ _ => rfl) (fun p q _ => by rw [mup_n (by omega), mup_n (by omega)])
      obtain ⟨ρ2, g1, g2⟩ := stopA hA hc1 q hix hit tk2 hm1 hd1 (by omega) hf (fu1 := fu1) hf1
      rw [rEnd_y r12 q, g1, bv_s, bm_s, grd_t (Or.inr rfl), bm_s, K0_1]
      exact g2
    · rw [rEnd_n r12 hl q, bm_s, grd_t (Or.inl rfl), bm_s, K0_0]
      by_cases z : tok = 3000
      · exact end_fail hc1 z h6 (by decide)
      · have tk2 := take_2 h6 t5 m1 t8 hd
        rw [if_neg q, if_neg (fun w => e97 w.1)] at tk2
        exact tok_fail hc1 z (hi z) tk2 (FX_m (FX_m c2 (by omega)) (by omega)) (by rw [mup_n (by omega), mup_n (by omega)])
end RF
