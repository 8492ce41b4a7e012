/-! measure, rank, event, date, late agree -/
section QR
variable {σ ρ : Mem} {n : Nat} {sz : Nat → Nat} {ev yr : Nat → Nat → Nat} {sb : Nat → Nat} {sl : Nat}
theorem by_cs (w : Int32) {m : Nat} (hm : m < 1000) : (¬ (0 ≤ w ∧ w ≤ nI m)) ∨ ∃ j, j ≤ m ∧ w = nI j := by
  by_cases h : 0 ≤ w ∧ w ≤ nI m
  · exact Or.inr ((in_small hm).mp h)
  · exact Or.inl h
theorem lt0_iff (w : Int32) : w < 0 ↔ ¬ 0 ≤ w := by
  rw [fa_lt, fa_le]; omega
theorem ge_iff (w : Int32) {m : Nat} (hm : m < 1000) : nI (m + 1) ≤ w ↔ ¬ w ≤ nI m := by
  rw [fa_le, fa_le, nI_toInt (by omega), nI_toInt (by omega)]; omega
theorem lt_iff' (w : Int32) {m : Nat} (hm : m < 1000) : w < nI (m + 1) ↔ w ≤ nI m := by
  rw [fa_lt, fa_le, nI_toInt (by omega), nI_toInt (by omega)]; omega
theorem q_measure (h : Bo σ ρ n sz ev yr sb sl) (a w : Int32) : Qa σ ρ (fX6_measure a w σ) (fX7_measure a w ρ) := by
  obtain ⟨hv, hx, hc, h10⟩ := h
  have hn := hv.1
  unfold fX6_measure fX7_measure fX7_measure_20
  rw [hasHouse_ok hx.1 a, isHouse_ok hv hc a]
  rcases (house_cs a n (by omega)).symm with ha | ⟨p, hp, rfl⟩
  · rw [if_neg ha]; exact Qa.same
  rw [if_pos (nI_pos2 hp (by omega)), show (0 : Int64) = (0 : Int32).toInt64 from rfl, show (4 : Int64) = (nI 4).toInt64 from rfl, in32r]
  simp only [bi_s, one0, if_false]
  rcases by_cs w (m := 4) (by omega) with hw | ⟨b, hb, rfl⟩
  · rw [if_neg hw]
    simp only [if_true]
    by_cases w0 : w < 0
    · rw [if_pos w0]; exact Qa.same
    · rw [if_neg w0, if_neg]
      · exact Qa.same
      · intro z
        exact hw ⟨Classical.byContradiction fun y => w0 ((lt0_iff w).mpr y), (lt_iff' w (m := 4) (by omega)).mp z⟩
  · obtain ⟨σ', e1, s1, -⟩ := xmeas hv hx hp (b := b) (by omega)
    obtain ⟨ρ', e2, s2⟩ := rmeas hv hc h10 hp (b := b) (by omega)
    rw [if_pos (show 0 ≤ nI b ∧ nI b ≤ nI 4 from ⟨nI_pos' (by omega), nI_le hb (by omega)⟩), if_neg (nI_pos (by omega)), if_pos (show nI b < (5 : Int32) from nI_lt (b := 5) (by omega) (by omega)), e1, e2]
    simp only [one0, if_false, bm_s]
    exact ⟨_, _, _, rfl, rfl, s1, s2⟩
/-- how many houses stand ahead of one -/
def abv (m : Nat → Nat) (n h : Nat) : Nat := fa_cnt (fun p => decide (m h < m p) || (decide (m p = m h) && decide (p < h))) n
def rnk (m : Nat → Nat) (n k : Nat) : Nat := fa_first (fun h => decide (abv m n h = k)) n
theorem xabove {μ : Mem} {m : Nat → Nat} (hn : n ≤ 4) (hm : ∀ h, m h ≤ 8) (h1 : μ 17 1 = nI n) (h15 : ∀ h, h < n → μ 15 h = nI (m h)) {h : Nat} (hh : h < n) : fX6_housesAbove (nI h) μ = some (nI (abv m n h)) := by
  unfold fX6_housesAbove
  refine loop1 (fun fu p s => fX6_housesAbove_4 μ fu (nI h) (nI s) (nI p)) n (fun p => fa_cnt (fun p => decide (m h < m p) || (decide (m p = m h) && decide (p < h))) p) (fun fu => ?_) (fun fu p hp => ?_) (by rw [FU_big]; omega)
  · show fX6_housesAbove_4 _ _ _ _ _ = _
    rw [fX6_housesAbove_4, h1, if_pos (nI_le (Nat.le_refl _) (by omega))]
    rfl
  · show fX6_housesAbove_4 _ _ _ _ _ = fX6_housesAbove_4 _ _ _ _ _
    have b1 := hm h
    have b2 := hm p
    rw [fX6_housesAbove_4, h1, if_neg (nI_ge hp (by omega))]
    simp only [grd_in (show p < 4 by omega) (show 4 < 2 ^ 31 by omega), grd_in (show h < 4 by omega) (show 4 < 2 ^ 31 by omega)]
    rw [nI_clamp (by omega), nI_clamp (by omega), h15 h hh, h15 p hp, nI_1, nI_1]
    simp only [nI_ltI (show m h < 2 ^ 31 by omega) (show m p < 2 ^ 31 by omega), nI_leI (show h < 2 ^ 31 by omega) (show p < 2 ^ 31 by omega), nI_eq (show m p < 2 ^ 31 by omega) (show m h < 2 ^ 31 by omega)]
    by_cases q1 : m h < m p
    · rw [if_pos q1, fa_cnt_yes (by simp [q1])]
    · by_cases q2 : h ≤ p
      · rw [if_neg q1, if_pos q2, fa_cnt_no (by simp [q1, show ¬ p < h by omega])]
      · by_cases q3 : m p = m h
        · rw [if_neg q1, if_neg q2, if_pos q3, fa_cnt_yes (by simp [q3, show p < h by omega])]
        · rw [if_neg q1, if_neg q2, if_neg q3, fa_cnt_no (by simp [q1, q3])]
theorem xrank48 {μ : Mem} {m : Nat → Nat} (hn : n ≤ 4) (hm : ∀ h, m h ≤ 8) (h1 : μ 17 1 = nI n) (h15 : ∀ h, h < n → μ 15 h = nI (m h)) {k : Nat} (hk : k < 2 ^ 31) : fX6_rank_48 FU (nI k) 0 μ = some (if rnk m n k < n then nI (rnk m n k) else -9, μ) := by
  have key : ∀ c h fu, h + c = n → c < fu → (∀ i, i < h → decide (abv m n i = k) = false) → fX6_rank_48 fu (nI k) (nI h) μ = some (if rnk m n k < n then nI (rnk m n k) else -9, μ) := by
    intro c
    induction c with
    | zero =>
      intro h fu h2 hf hp
      obtain ⟨fu, rfl⟩ : ∃ q, fu = q + 1 := ⟨fu - 1, by omega⟩
      have : h = n := by omega
      subst this
      rw [fX6_rank_48, h1, if_pos (nI_le (Nat.le_refl _) (by omega))]
      unfold rnk
      rw [first_none hp, if_neg (by omega)]
    | succ c ih =>
      intro h fu h2 hf hp
      obtain ⟨fu, rfl⟩ : ∃ q, fu = q + 1 := ⟨fu - 1, by omega⟩
      have ha : abv m n h ≤ n := fa_cnt_le _ _
      rw [fX6_rank_48, h1, if_neg (nI_ge (by omega) (by omega)), xabove hn hm h1 h15 (by omega), bi_s, nI_1]
      simp only [nI_eq (show abv m n h < 2 ^ 31 by omega) hk]
      by_cases q : abv m n h = k
      · have : rnk m n k = h := first_is hp (by simp [q]) (by omega)
        rw [if_pos q, this, if_pos (by omega)]
      · rw [if_neg q]
        refine ih (h + 1) fu (by omega) (by omega) (fun i hi => ?_)
        by_cases w : i = h
        · subst w; simp [q]
        · exact hp i (by omega)
  exact key n 0 FU (by omega) (by rw [FU_big]; omega) (fun i hi => absurd hi (by omega))
theorem xrank17 (hv : KV n sz ev yr sb sl) {b k : Nat} (hb : b < 5) (hk : k < 2 ^ 31) : ∀ (c h fu : Nat) (μ : Mem), h + c = n → c < fu → XChr μ 17 n sz ev yr sb sl → (∀ i, i < h → μ 15 i = nI (msr n sz ev yr sb sl b i)) → ∃ μ', fX6_rank_17 fu (nI b) (nI k) (nI h) μ = some (if rnk (msr n sz ev yr sb sl b) n k < n then nI (rnk (msr n sz ev yr sb sl b) n k) else -9, μ') ∧ Xsm μ μ' := by
  have hn := hv.1
  intro c
  induction c with
  | zero =>
    intro h fu μ h2 hf hx h15
    obtain ⟨fu, rfl⟩ : ∃ q, fu = q + 1 := ⟨fu - 1, by omega⟩
    have : h = n := by omega
    subst this
    rw [fX6_rank_17, hx.1, if_pos (nI_le (Nat.le_refl _) (by omega))]
    exact ⟨μ, xrank48 hn (fun h => msr_le hv b h) hx.1 h15 hk, Xsm.rf⟩
  | succ c ih =>
    intro h fu μ h2 hf hx h15
    obtain ⟨fu, rfl⟩ : ∃ q, fu = q + 1 := ⟨fu - 1, by omega⟩
    obtain ⟨μ1, e, s, s15⟩ := xmeas hv hx (h := h) (by omega) hb
    rw [fX6_rank_17, hx.1, if_neg (nI_ge (by omega) (by omega)), e, bm_s, grd_in (by omega) (by omega), nI_clamp (by omega), nI_1]
    have s2 : Xsm μ (mup μ1 15 h (nI (msr n sz ev yr sb sl b h))) := Xsm.tr s Xsm_15
    obtain ⟨μ2, e2, s3⟩ := ih (h + 1) fu (mup μ1 15 h (nI (msr n sz ev yr sb sl b h))) (by omega) (by omega) (XChr_sm s2 (by omega) hx) (fun i hi => by
      by_cases w : i = h
      · subst w; exact mup_s _ _ _ _
      · rw [mup_n (Or.inr w), s15]; exact h15 i (by omega))
    exact ⟨μ2, e2, Xsm.tr s2 s3⟩
theorem rrank20 (hv : KV n sz ev yr sb sl) {b k : Nat} (hb : b < 5) (hk : k < 2 ^ 31) : ∀ (c h fu : Nat) (μ : Mem), h + c = n → c < fu → RC μ n sz ev yr sb (-9) 0 → μ 1 0 = nI sl → (∀ i, i < h → decide (abv (msr n sz ev yr sb sl b) n i = k) = false) → ∃ μ', fX7_rank_20 fu (nI b) (nI k) (nI h) μ = some (if rnk (msr n sz ev yr sb sl b) n k < n then nI (rnk (msr n sz ev yr sb sl b) n k) else -9, μ') ∧ Rsm μ μ' := by
  have hn := hv.1
  intro c
  induction c with
  | zero =>
    intro h fu μ h2 hf hc h10 hp
    obtain ⟨fu, rfl⟩ : ∃ q, fu = q + 1 := ⟨fu - 1, by omega⟩
    have : h = n := by omega
    subst this
    refine ⟨μ, ?_, Rsm.rf⟩
    rw [fX7_rank_20, hc.1, if_pos (nI_le (Nat.le_refl _) (by omega))]
    unfold rnk
    rw [first_none hp, if_neg (by omega)]
  | succ c ih =>
    intro h fu μ h2 hf hc h10 hp
    obtain ⟨fu, rfl⟩ : ∃ q, fu = q + 1 := ⟨fu - 1, by omega⟩
    obtain ⟨μ1, e, s⟩ := rmeas hv hc h10 (h := h) (b := b) (by omega) hb
    rw [fX7_rank_20, hc.1, if_neg (nI_ge (by omega) (by omega)), e, bm_s]
    have inner : ∀ (d p fu2 : Nat) (ν : Mem), p + d = n → d < fu2 → Rsm μ ν → ∃ ν', fX7_rank_42 (fun a0 a1 a2 a3 => fX7_rank_20 fu a0 a1 a2 a3) fu2 (nI b) (nI k) (nI h) (nI (msr n sz ev yr sb sl b h)) (nI (fa_cnt (fun p => decide (msr n sz ev yr sb sl b h < msr n sz ev yr sb sl b p) || (decide (msr n sz ev yr sb sl b p = msr n sz ev yr sb sl b h) && decide (p < h))) p)) (nI p) ν = (if abv (msr n sz ev yr sb sl b) n h = k then some (nI h, ν') else fX7_rank_20 fu (nI b) (nI k) (nI (h + 1)) ν') ∧ Rsm μ ν' := by
      intro d
      induction d with
      | zero =>
        intro p fu2 ν h3 hf2 sν
        obtain ⟨fu2, rfl⟩ : ∃ q, fu2 = q + 1 := ⟨fu2 - 1, by omega⟩
        have : p = n := by omega
        subst this
        have ha : abv (msr p sz ev yr sb sl b) p h ≤ p := fa_cnt_le _ _
        refine ⟨ν, ?_, sν⟩
        rw [fX7_rank_42, (RC_sm sν hc).1, if_pos (nI_le (Nat.le_refl _) (by omega)), nI_1]
        show (if nI (abv (msr p sz ev yr sb sl b) p h) = nI k then _ else _) = _
        simp only [nI_eq (show abv (msr p sz ev yr sb sl b) p h < 2 ^ 31 by omega) hk]
      | succ d ih2 =>
        intro p fu2 ν h3 hf2 sν
        obtain ⟨fu2, rfl⟩ : ∃ q, fu2 = q + 1 := ⟨fu2 - 1, by omega⟩
        obtain ⟨ν1, e2, s2⟩ := rmeas hv (RC_sm sν hc) (by rw [sν 1 0 (by omega) (by omega) (by omega) (by omega)]; exact h10) (h := p) (b := b) (by omega) hb
        obtain ⟨ν2, e3, s3⟩ := ih2 (p + 1) fu2 ν1 (by omega) (by omega) (Rsm.tr sν s2)
        refine ⟨ν2, ?_, s3⟩
        have b1 := msr_le hv b h
        have b2 := msr_le hv b p
        rw [← e3, fX7_rank_42, (RC_sm sν hc).1, if_neg (nI_ge (by omega) (by omega)), e2, bm_s]
        simp only [fX7_rank_82, nI_1, nI_ltI (show msr n sz ev yr sb sl b h < 2 ^ 31 by omega) (show msr n sz ev yr sb sl b p < 2 ^ 31 by omega), nI_leI (show h < 2 ^ 31 by omega) (show p < 2 ^ 31 by omega), nI_eq (show msr n sz ev yr sb sl b p < 2 ^ 31 by omega) (show msr n sz ev yr sb sl b h < 2 ^ 31 by omega)]
        rw [show ∀ x : Int32, x + 0 = x from fun x => by simp]
        by_cases q1 : msr n sz ev yr sb sl b h < msr n sz ev yr sb sl b p
        · rw [if_pos q1, fa_cnt_yes (by simp [q1])]
        · by_cases q3 : msr n sz ev yr sb sl b p = msr n sz ev yr sb sl b h
          · by_cases q2 : h ≤ p
            · rw [if_neg q1, if_pos q3, if_pos q2, fa_cnt_no (by simp [q1, show ¬ p < h by omega])]
            · rw [if_neg q1, if_pos q3, if_neg q2, fa_cnt_yes (by simp [q3, show p < h by omega])]
          · rw [if_neg q1, if_neg q3, fa_cnt_no (by simp [q1, q3])]
    obtain ⟨ν', e4, s4⟩ := inner n 0 FU μ1 (by omega) (by rw [FU_big]; omega) s
    have e5 : fX7_rank_42 (fun a0 a1 a2 a3 => fX7_rank_20 fu a0 a1 a2 a3) FU (nI b) (nI k) (nI h) (nI (msr n sz ev yr sb sl b h)) 0 0 μ1 = (if abv (msr n sz ev yr sb sl b) n h = k then some (nI h, ν') else fX7_rank_20 fu (nI b) (nI k) (nI (h + 1)) ν') := e4
    rw [e5]
    by_cases q : abv (msr n sz ev yr sb sl b) n h = k
    · have : rnk (msr n sz ev yr sb sl b) n k = h := first_is hp (by simp [q]) (by omega)
      rw [if_pos q, this, if_pos (by omega)]
      exact ⟨ν', rfl, s4⟩
    · rw [if_neg q]
      obtain ⟨ν2, e6, s6⟩ := ih (h + 1) fu ν' (by omega) (by omega) (RC_sm s4 hc) (by rw [s4 1 0 (by omega) (by omega) (by omega) (by omega)]; exact h10) (fun i hi => by
        by_cases w : i = h
        · subst w; simp [q]
        · exact hp i (by omega))
      exact ⟨ν2, e6, Rsm.tr s4 s6⟩
theorem q_rank (h : Bo σ ρ n sz ev yr sb sl) (w k : Int32) : Qa σ ρ (fX6_rank w k σ) (fX7_rank w k ρ) := by
  obtain ⟨hv, hx, hc, h10⟩ := h
  have hn := hv.1
  unfold fX6_rank fX7_rank
  rw [show (0 : Int64) = (0 : Int32).toInt64 from rfl, show (4 : Int64) = (nI 4).toInt64 from rfl, in32r]
  rcases by_cs w (m := 4) (by omega) with hw | ⟨b, hb, rfl⟩
  · rw [if_neg hw]
    simp only [if_true]
    by_cases w0 : w < 0
    · rw [if_pos w0]; exact Qa.same
    · rw [if_neg w0, if_pos]
      · exact Qa.same
      · exact (ge_iff w (m := 4) (by omega)).mpr (fun z => hw ⟨Classical.byContradiction fun y => w0 ((lt0_iff w).mpr y), z⟩)
  · rw [if_pos (show 0 ≤ nI b ∧ nI b ≤ nI 4 from ⟨nI_pos' (by omega), nI_le hb (by omega)⟩), if_neg (nI_pos (by omega)), if_neg (show ¬ (5 : Int32) ≤ nI b from nI_ge (b := 5) (by omega) (by omega))]
    simp only [one0, if_false]
    by_cases hk : 0 ≤ k
    · obtain ⟨j, hj, rfl⟩ := nI_of (x := k) (by rw [lt0_iff]; exact fun z => z hk)
      rw [if_pos hk, if_pos hk]
      obtain ⟨σ', e1, s1⟩ := xrank17 hv (b := b) (by omega) hj n 0 FU σ (by omega) (by rw [FU_big]; omega) hx (fun i hi => absurd hi (by omega))
      obtain ⟨ρ', e2, s2⟩ := rrank20 hv (b := b) (by omega) hj n 0 FU ρ (by omega) (by rw [FU_big]; omega) hc h10 (fun i hi => absurd hi (by omega))
      exact ⟨_, _, _, e1, e2, s1, s2⟩
    · rw [if_neg hk, if_neg hk]; exact Qa.same
end QR
