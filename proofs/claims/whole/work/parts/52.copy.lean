/-! copies; images -/
def hcm (h0 h1 : Nat) (σ : Mem) (k : Nat) : Mem := fun a b => if (a = h0 + 1 ∨ a = h0 + 2) ∧ b < k then σ (a - h0 + h1) b else σ a b
def hcp (h0 h1 : Nat) (σ : Mem) : Mem := fun a b => if ((a = h0 + 1 ∨ a = h0 + 2) ∧ b < 6) ∨ (a = h0 ∧ (b = 2 ∨ b = 3)) then σ (a - h0 + h1) b else σ a b
theorem hcm_step {h0 h1 : Nat} (hd : h0 + 3 ≤ h1 ∨ h1 + 3 ≤ h0) {σ : Mem} {k : Nat} : mup (mup (hcm h0 h1 σ k) (h0 + 1) k (hcm h0 h1 σ k (h1 + 1) k)) (h0 + 2) k (mup (hcm h0 h1 σ k) (h0 + 1) k (hcm h0 h1 σ k (h1 + 1) k) (h1 + 2) k) = hcm h0 h1 σ (k + 1) := by
  have e1 : hcm h0 h1 σ k (h1 + 1) k = σ (h1 + 1) k := if_neg (by omega)
  have e2 : hcm h0 h1 σ k (h1 + 2) k = σ (h1 + 2) k := if_neg (by omega)
  rw [mup_n (a := h1 + 2) (Or.inl (by omega)), e1, e2]
  funext a b
  by_cases qb : b = k
  · subst qb
    by_cases q1 : a = h0 + 1
    · subst q1
      rw [mup_n (Or.inl (by omega)), mup_s]
      unfold hcm
      rw [if_pos (by omega), show h0 + 1 - h0 + h1 = h1 + 1 by omega]
    · by_cases q2 : a = h0 + 2
      · subst q2
        rw [mup_s]
        unfold hcm
        rw [if_pos (by omega), show h0 + 2 - h0 + h1 = h1 + 2 by omega]
      · rw [mup_n (Or.inl q2), mup_n (Or.inl q1)]
        unfold hcm
        rw [if_neg (by omega), if_neg (by omega)]
  · rw [mup_n (Or.inr qb), mup_n (Or.inr qb)]
    unfold hcm
    by_cases q : (a = h0 + 1 ∨ a = h0 + 2) ∧ b < k
    · rw [if_pos q, if_pos (by omega)]
    · rw [if_neg q, if_neg (by omega)]
theorem hcopy_ok {h0 h1 : Nat} (hd : h0 + 3 ≤ h1 ∨ h1 + 3 ≤ h0) {σ : Mem} : fX2_copy h0 h1 σ = some (hcp h0 h1 σ) := by
  unfold fX2_copy
  refine loop1s (fun fu k s => fX2_copy_2 h0 h1 fu (nI k) s) 6 (fun k => hcm h0 h1 σ k) (s0 := σ) ?_ (fun fu => ?_) (fun fu k hk => ?_) (by rw [FU_big]; omega)
  · funext a b
    exact (if_neg (by omega)).symm
  · show fX2_copy_2 _ _ _ _ _ = _
    rw [fX2_copy_2, if_pos (by decide)]
    congr 1
    have e1 : hcm h0 h1 σ 6 h1 2 = σ h1 2 := if_neg (by omega)
    have e2 : hcm h0 h1 σ 6 h1 3 = σ h1 3 := if_neg (by omega)
    rw [mup_n (a := h1) (Or.inl (by omega)), e1, e2]
    funext a b
    by_cases q : a = h0
    · subst q
      by_cases q3 : b = 3
      · subst q3
        rw [mup_s]
        unfold hcp
        rw [if_pos (by omega), show a - a + h1 = h1 by omega]
      · by_cases q2 : b = 2
        · subst q2
          rw [mup_n (by omega), mup_s]
          unfold hcp
          rw [if_pos (by omega), show a - a + h1 = h1 by omega]
        · rw [mup_n (by omega), mup_n (by omega)]
          unfold hcp hcm
          rw [if_neg (by omega), if_neg (by omega)]
    · rw [mup_n (by omega), mup_n (by omega)]
      unfold hcp hcm
      by_cases q1 : (a = h0 + 1 ∨ a = h0 + 2) ∧ b < 6
      · rw [if_pos q1, if_pos (Or.inl q1)]
      · rw [if_neg q1, if_neg (by omega)]
  · show fX2_copy_2 _ _ _ _ _ = fX2_copy_2 _ _ _ _ _
    rw [fX2_copy_2, if_neg (nle6 hk), grd_in (by omega) (by omega), grd_in (by omega) (by omega), grd_in (by omega) (by omega), grd_in (by omega) (by omega), nI_clamp (by omega), nI_1, hcm_step hd]
def ccm (c0 c1 : Nat) (σ : Mem) (j : Nat) : Mem := fun a b => if c0 + 2 ≤ a ∧ a < c0 + 2 + 3 * j ∧ (((a - c0) % 3 = 2 ∧ (b = 2 ∨ b = 3)) ∨ ((a - c0) % 3 ≠ 2 ∧ b < 6)) then σ (a - c0 + c1) b else σ a b
def ccp (c0 c1 : Nat) (σ : Mem) : Mem := mup (mup (ccm c0 c1 σ 4) c0 1 (σ c1 1)) c0 2 (σ c1 2)
theorem ccm_step {c0 c1 : Nat} (hd : c0 + 14 ≤ c1 ∨ c1 + 14 ≤ c0) {σ : Mem} {j : Nat} (hj : j < 4) : hcp (c0 + 2 + 3 * j) (c1 + 2 + 3 * j) (ccm c0 c1 σ j) = ccm c0 c1 σ (j + 1) := by
  funext a b
  unfold hcp
  by_cases q : ((a = c0 + 2 + 3 * j + 1 ∨ a = c0 + 2 + 3 * j + 2) ∧ b < 6) ∨ (a = c0 + 2 + 3 * j ∧ (b = 2 ∨ b = 3))
  · rw [if_pos q, show a - (c0 + 2 + 3 * j) + (c1 + 2 + 3 * j) = a - c0 + c1 by omega]
    unfold ccm
    rw [if_neg (by omega), if_pos ⟨by omega, by omega, by omega⟩]
  · rw [if_neg q]
    unfold ccm
    by_cases w : c0 + 2 ≤ a ∧ a < c0 + 2 + 3 * j ∧ (((a - c0) % 3 = 2 ∧ (b = 2 ∨ b = 3)) ∨ ((a - c0) % 3 ≠ 2 ∧ b < 6))
    · rw [if_pos w, if_pos ⟨w.1, by omega, w.2.2⟩]
    · rw [if_neg w, if_neg]
      rintro ⟨w1, w2, w3⟩
      apply w
      refine ⟨w1, ?_, w3⟩
      omega
theorem ccopy_ok {c0 c1 : Nat} (hd : c0 + 14 ≤ c1 ∨ c1 + 14 ≤ c0) {σ : Mem} : fX0_copy c0 c1 σ = some (ccp c0 c1 σ) := by
  unfold fX0_copy
  refine loop1s (fun fu k s => fX0_copy_2 c0 c1 fu (nI k) s) 4 (fun k => ccm c0 c1 σ k) (s0 := σ) ?_ (fun fu => ?_) (fun fu k hk => ?_) (by rw [FU_big]; omega)
  · funext a b
    exact (if_neg (by omega)).symm
  · show fX0_copy_2 _ _ _ _ _ = _
    rw [fX0_copy_2, if_pos (by decide)]
    have e1 : ccm c0 c1 σ 4 c1 1 = σ c1 1 := if_neg (by omega)
    have e2 : ccm c0 c1 σ 4 c1 2 = σ c1 2 := if_neg (by omega)
    rw [mup_n (a := c1) (Or.inl (by omega)), e1, e2]
    rfl
  · show fX0_copy_2 _ _ _ _ _ = fX0_copy_2 _ _ _ _ _
    rw [fX0_copy_2, if_neg (nle4 hk), grd_in (by omega) (by omega), grd_in (by omega) (by omega), nI_clamp (by omega), nI_1, hcopy_ok (by omega), bv_s, ccm_step hd hk]
theorem ccp_out {c0 c1 : Nat} {σ : Mem} {a b : Nat} (h : a < c0 ∨ c0 + 14 ≤ a) : ccp c0 c1 σ a b = σ a b := by
  unfold ccp
  rw [mup_n (by omega), mup_n (by omega)]
  exact if_neg (by omega)
theorem ccp_rel {c0 c1 : Nat} {σ : Mem} {a b : Nat} (h : rel a b) : ccp c0 c1 σ (c0 + a) b = σ (c1 + a) b := by
  unfold ccp
  rcases h with ⟨rfl, rfl | rfl⟩ | ⟨h1, h2, h3⟩
  · rw [mup_n (Or.inr (by omega))]
    exact mup_s _ _ _ _
  · exact mup_s _ _ _ _
  · rw [mup_n (by omega), mup_n (by omega)]
    unfold ccm
    rw [if_pos ⟨by omega, by omega, by omega⟩, show c0 + a - c0 + c1 = c1 + a by omega]
def rcm (o1 o2 : Nat) (ρ : Mem) (k : Nat) : Mem := fun a b => if a = 1 ∧ o2 ≤ b ∧ b < o2 + k then ρ 1 (b - o2 + o1) else ρ a b
theorem rcopy_ok {o1 o2 : Nat} (hd : o1 + 49 ≤ o2 ∨ o2 + 49 ≤ o1) (h1 : o1 + 49 ≤ 637) (h2 : o2 + 49 ≤ 637) {ρ : Mem} : fX7_copy (nI o1) (nI o2) ρ = some (rcm o1 o2 ρ 49) := by
  unfold fX7_copy
  refine loop1s (fun fu k s => fX7_copy_2 fu (nI o1) (nI o2) (nI k) s) 49 (fun k => rcm o1 o2 ρ k) (s0 := ρ) ?_ (fun fu => ?_) (fun fu k hk => ?_) (by rw [FU_big]; omega)
  · funext a b
    exact (if_neg (by omega)).symm
  · show fX7_copy_2 _ _ _ _ _ = _
    rw [fX7_copy_2, if_pos (by decide)]
  · show fX7_copy_2 _ _ _ _ _ = fX7_copy_2 _ _ _ _ _
    rw [fX7_copy_2, if_neg (show ¬ (49 : Int32) ≤ nI k from nI_ge (b := 49) hk (by omega)), nI_add, nI_add, grd_in (by omega) (by omega), grd_in (by omega) (by omega), nI_clamp (by omega), nI_clamp (by omega), nI_1]
    congr 1
    have e : rcm o1 o2 ρ k 1 (o1 + k) = ρ 1 (o1 + k) := if_neg (by omega)
    rw [e]
    funext a b
    by_cases q : a = 1 ∧ b = o2 + k
    · obtain ⟨rfl, rfl⟩ := q
      rw [mup_s]
      unfold rcm
      rw [if_pos (by omega), show o2 + k - o2 + o1 = o1 + k by omega]
    · rw [mup_n (by omega)]
      unfold rcm
      by_cases w : a = 1 ∧ o2 ≤ b ∧ b < o2 + k
      · rw [if_pos w, if_pos (by omega)]
      · rw [if_neg w, if_neg (by omega)]
theorem rcm_out {o1 o2 : Nat} {ρ : Mem} {a b : Nat} (h : a ≠ 1 ∨ b < o2 ∨ o2 + 49 ≤ b) : rcm o1 o2 ρ 49 a b = ρ a b := if_neg (by omega)
theorem rcm_in {o1 o2 : Nat} {ρ : Mem} {b : Nat} (h : b < 49) : rcm o1 o2 ρ 49 1 (o2 + b) = ρ 1 (o1 + b) := by
  unfold rcm
  rw [if_pos (by omega), show o2 + b - o2 + o1 = o1 + b by omega]
theorem kb_or : ∀ kb, kb < 4 → ∀ i, i < 2 → kb ||| 2 ^ i < 4 ∧ ∀ j, j < 2 → (kb ||| 2 ^ i).testBit j = (kb.testBit j || decide (j = i)) := by decide +kernel
theorem img_ix {i : Nat} : (49 : Int32) + (49 : Int32) * nI i = nI (49 + 49 * i) := by
  rw [show (49 : Int32) = nI 49 from rfl, pk_mul, nI_add]
theorem st_keep : St_keep II := fun σ ρ x h => by
  obtain ⟨n, sz, ev, D, u, kb, t, s, h1, h2, h3, h4, h5⟩ := id h
  unfold fX6_keep fX7_keep
  rw [show (0 : Int64) = (0 : Int32).toInt64 from rfl, show (1 : Int64) = (nI 1).toInt64 from rfl, in32r]
  have e2 : (x < 2) = (x ≤ nI 1) := propext (lt_iff' x (m := 1) (by omega))
  simp only [e2]
  rcases arg_cs x (m := 1) (by omega) with ⟨q, q2⟩ | ⟨i, hi, rfl, q1, q2, q3⟩
  · rw [if_neg q]
    simp only [if_true]
    rcases q2 with q2 | ⟨q2, q4⟩
    · rw [if_pos q2]; exact st_same h
    · rw [if_neg q2, if_neg q4]; exact st_same h
  · rw [if_neg q1, if_pos q2, if_pos q3]
    simp only [one0, if_false]
    obtain ⟨k1, k2, k3⟩ := id h3
    obtain ⟨o1, o2⟩ := kb_or kb k1 i (by omega)
    rw [grd_in (by omega) (by omega), nI_clamp (by omega), ccopy_ok (by omega), bv_s, img_ix, show (0 : Int32) = nI 0 from rfl, rcopy_ok (by omega) (by omega) (by omega), bv_s, grd_t (show ¬ (nI i < nI 0 ∨ 2 ≤ i) by
      rintro (z | z)
      · exact q1 z
      · omega)]
    rw [ccp_out (a := 0) (by omega), k2, shl1 (by omega), fa_or, mup_n (a := 17) (Or.inl (by omega)), ccp_out (a := 17) (by omega), mup_n (a := 0) (Or.inl (by omega)), rcm_out (a := 0) (by omega), h1.2.1.1, h1.2.2.1.1]
    refine ⟨nI n, _, _, rfl, rfl, n, sz, ev, D, u, kb ||| 2 ^ i, t, s, Nw_fr h1 ?_ ?_ ?_ ?_ ?_, Hs_fr h2 ?_ ?_ ?_, ⟨o1, mup_s _ _ _ _, fun j hj => ?_⟩, Tx_fr h4 ?_ ?_ ?_ ?_, Sn_fr h5 ?_ ?_ ?_ ?_⟩
    case refine_9 =>
      rw [o2 j hj]
      by_cases z : j = i
      · subst z
        refine Or.inr ⟨by simp, mup_s _ _ _ _, D u, h1.1, ?_, ?_⟩
        · refine XCd_mv h1.1 h1.2.1 (fun a b r => ?_)
          rw [mup_n (Or.inl (by omega))]
          exact ccp_rel r
        · refine BK_mv h1.1 h1.2.2.2 (fun b hb => ?_)
          rw [mup_n (Or.inl (by omega))]
          exact rcm_in hb
      · rcases k3 j hj with ⟨a1, a2⟩ | ⟨a1, a2, d, b1, b2, b3⟩
        · refine Or.inl ⟨by simp [a1, z], ?_⟩
          rw [mup_n (Or.inr z), rcm_out (by omega)]
          exact a2
        · refine Or.inr ⟨by simp [a1], ?_, d, b1, XCd_fr b1 b2 (fun a b c1 c2 => ?_), BK_fr b1 b3 (fun b c1 c2 => ?_)⟩
          · rw [mup_n (Or.inr z), rcm_out (by omega)]
            exact a2
          · rw [mup_n (Or.inl (by omega)), ccp_out (by omega)]
          · rw [mup_n (Or.inl (by omega)), rcm_out (by omega)]
    all_goals intros
    all_goals first
      | rw [mup_n (by omega), ccp_out (by omega)]
      | rw [mup_n (by omega), rcm_out (by omega)]
theorem st_back : St_back II := fun σ ρ x h => by
  obtain ⟨n, sz, ev, D, u, kb, t, s, h1, h2, h3, h4, h5⟩ := id h
  unfold fX6_back fX7_back
  rw [show (0 : Int64) = (0 : Int32).toInt64 from rfl, show (1 : Int64) = (nI 1).toInt64 from rfl, in32r]
  have e2 : (x < 2) = (x ≤ nI 1) := propext (lt_iff' x (m := 1) (by omega))
  simp only [e2]
  rcases arg_cs x (m := 1) (by omega) with ⟨q, q2⟩ | ⟨i, hi, rfl, q1, q2, q3⟩
  · rw [if_neg q]
    simp only [if_true]
    rcases q2 with q2 | ⟨q2, q4⟩
    · rw [if_pos q2]; exact st_same h
    · rw [if_neg q2, if_neg q4]; exact st_same h
  · rw [if_neg q1, if_pos q2, if_pos q3]
    simp only [one0, if_false]
    obtain ⟨k1, k2, k3⟩ := id h3
    rw [k2, grd_in (by omega) (by omega), grd_in (by omega) (by omega), nI_clamp (by omega)]
    simp only [bit0' (show kb < 2 ^ 31 by omega) (show i < 31 by omega)]
    rcases k3 i (by omega) with ⟨a1, a2⟩ | ⟨a1, a2, d, b1, b2, b3⟩
    · rw [if_pos a1, if_pos a2]
      exact st_same h
    · rw [if_neg (by simp [a1]), a2]
      simp only [one0, if_false]
      rw [ccopy_ok (by omega), bv_s, img_ix, show (0 : Int32) = nI 0 from rfl, rcopy_ok (by omega) (by omega) (by omega), bv_s]
      have hn1 : ccp 17 (45 + 14 * i) σ 17 1 = nI n := by
        have := ccp_rel (c0 := 17) (c1 := 45 + 14 * i) (σ := σ) (a := 0) (b := 1) (Or.inl ⟨rfl, Or.inl rfl⟩)
        rw [Nat.add_zero, Nat.add_zero] at this
        rw [this]
        exact b2.1
      rw [mup_n (a := 17) (Or.inl (by omega)), hn1, mup_n (a := 0) (Or.inr (by omega)), rcm_out (a := 0) (by omega), h1.2.2.1.1]
      refine ⟨nI n, _, _, rfl, rfl, n, sz, ev, fun _ => d, 0, kb, t, s, ⟨b1, ?_, SR_fr h1.2.2.1 ?_ ?_ ?_, ?_⟩, ⟨by omega, mup_s _ _ _ _, mup_s _ _ _ _, fun j hj => absurd hj (by omega)⟩, Im_fr h3 ?_ ?_ ?_ ?_, Tx_fr h4 ?_ ?_ ?_ ?_, Sn_fr h5 ?_ ?_ ?_ ?_⟩
      case refine_1 =>
        refine XCd_mv b1 b2 (fun a b r => ?_)
        rw [mup_n (Or.inl (by omega))]
        exact ccp_rel r
      case refine_5 =>
        refine BK_mv b1 b3 (fun b hb => ?_)
        rw [mup_n (Or.inl (by omega))]
        exact rcm_in hb
      all_goals intros
      all_goals first
        | rw [mup_n (by omega), ccp_out (by omega)]
        | rw [mup_n (by omega), rcm_out (by omega)]
