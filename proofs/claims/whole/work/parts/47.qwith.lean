/-! without, unseen -/
def pc8 (m : Nat) : Nat := fa_cnt m.testBit 8
def wth (kz : Nat → Bool) (b0 : Nat) : Nat → Nat
  | 0 => b0
  | s + 1 => if (decide (pc8 s < pc8 (wth kz b0 s)) && kz s) = true then s else wth kz b0 s
theorem wth_lt {kz : Nat → Bool} {b0 : Nat} (hb : b0 < 16) : ∀ s, s ≤ 16 → wth kz b0 s < 16
  | 0, _ => hb
  | s + 1, h => by
    rw [wth]
    split
    · omega
    · exact wth_lt hb s (by omega)
theorem pc_full : ∀ n, n < 5 → ∀ s, s < 16 → s < 2 ^ n - 1 → pc8 s < pc8 (2 ^ n - 1) ∧ pc8 s < pc8 15 := by decide +kernel
theorem pc_full2 : ∀ n, n < 4 → pc8 (2 ^ n - 1) < pc8 15 := by decide +kernel
theorem p2_le : ∀ n, n < 5 → 2 ^ n ≤ 16 ∧ 0 < 2 ^ n := by decide +kernel
theorem wth_eq {kz : Nat → Bool} {n : Nat} (hn : n ≤ 4) (hf : kz (2 ^ n - 1) = true) : wth kz (2 ^ n - 1) (2 ^ n) = wth kz 15 (2 ^ n) := by
  obtain ⟨hp1, hp2⟩ := p2_le n (by omega)
  have key : ∀ s, s ≤ 2 ^ n - 1 → wth kz (2 ^ n - 1) s = wth kz 15 s ∨ (wth kz (2 ^ n - 1) s = 2 ^ n - 1 ∧ wth kz 15 s = 15) := by
    intro s
    induction s with
    | zero => intro _; exact Or.inr ⟨rfl, rfl⟩
    | succ s ih =>
      intro hs
      rcases ih (by omega) with h | ⟨h1, h2⟩
      · left; rw [wth, wth, h]
      · obtain ⟨a, b⟩ := pc_full n (by omega) s (by omega) (by omega)
        rw [wth, wth, h1, h2]
        by_cases q : kz s = true
        · left; simp [a, b, q]
        · right; simp [q]
  have e : 2 ^ n = (2 ^ n - 1) + 1 := by omega
  rw [show wth kz (2 ^ n - 1) (2 ^ n) = wth kz (2 ^ n - 1) ((2 ^ n - 1) + 1) from by rw [← e], show wth kz 15 (2 ^ n) = wth kz 15 ((2 ^ n - 1) + 1) from by rw [← e], wth, wth]
  rcases key (2 ^ n - 1) (Nat.le_refl _) with h | ⟨h1, h2⟩
  · rw [h]
  · rw [h1, h2]
    by_cases q : n = 4
    · subst q; simp
    · have := pc_full2 n (by omega)
      simp [this, hf]
theorem wrs0 : ∀ v e, wrs (fun _ => 0) v e = 0
  | 0, _ => rfl
  | v + 1, e => by rw [wrs, wsh, wrs0 v e]; simp
theorem knm_full {n : Nat} {sz : Nat → Nat} {ev yr : Nat → Nat → Nat} {sb : Nat → Nat} {lo : Int32} {s : Nat} (h : ∀ i, i < n → s.testBit i = true) : knm (acR n sz sb lo s) ev yr n = 0 := by
  have key : ∀ h', h' ≤ n → ∀ e, ahm (acR n sz sb lo s) ev yr e h' = 0 := by
    intro h'
    induction h' with
    | zero => intro _ e; rfl
    | succ k ih =>
      intro hk e
      rw [ask_skip (fun j _ => by simp [acR, h k (by omega)])]
      exact ih (by omega) e
  have e : knA (acR n sz sb lo s) ev yr n = fun _ => 0 := by
    funext e
    exact key n (Nat.le_refl _) e
  unfold knm
  rw [e]
  refine (msk_of (by omega) (fun i _ => ?_)).symm
  rw [wrs0]
theorem full_bits : ∀ n, n < 5 → ∀ i, i < 5 → i < n → (2 ^ n - 1).testBit i = true := by decide +kernel
section QW
variable {σ ρ : Mem} {n : Nat} {sz : Nat → Nat} {ev yr : Nat → Nat → Nat} {sb : Nat → Nat} {sl : Nat}
def kzz (n : Nat) (sz : Nat → Nat) (ev yr : Nat → Nat → Nat) (sb : Nat → Nat) (s : Nat) : Bool := decide (knm (acR n sz sb (-9) s) ev yr n = 0)
theorem kn_zero {ac : Nat → Nat → Bool} : nI (knm ac ev yr n) = 0 ↔ knm ac ev yr n = 0 := by
  have := knm_lt (ac := ac) (ev := ev) (yr := yr) (n := n)
  rw [show (0 : Int32) = nI 0 from rfl, nI_eq (by omega) (by omega)]
theorem pcl (m : Nat) : pc8 m ≤ 8 := fa_cnt_le _ 8
theorem xwith (hv : KV n sz ev yr sb sl) : ∀ (c s fu : Nat) (μ : Mem), s + c = 2 ^ n → c < fu → XChr μ 17 n sz ev yr sb sl → ∃ μ', fX6_without_14 fu (nI (wth (kzz n sz ev yr sb) (2 ^ n - 1) s)) (nI s) μ = some (nI (wth (kzz n sz ev yr sb) (2 ^ n - 1) (2 ^ n)), μ') ∧ Xsm μ μ' := by
  have hn := hv.1
  obtain ⟨hp1, hp2⟩ := p2_le n (by omega)
  intro c
  induction c with
  | zero =>
    intro s fu μ h1 hf hx
    obtain ⟨fu, rfl⟩ : ∃ q, fu = q + 1 := ⟨fu - 1, by omega⟩
    have : s = 2 ^ n := by omega
    subst this
    refine ⟨μ, ?_, Xsm.rf⟩
    rw [fX6_without_14, hx.1, shl1 (by omega), if_pos (nI_le (Nat.le_refl _) (by omega))]
  | succ c ih =>
    intro s fu μ h1 hf hx
    obtain ⟨fu, rfl⟩ : ∃ q, fu = q + 1 := ⟨fu - 1, by omega⟩
    have hw := wth_lt (kz := kzz n sz ev yr sb) (b0 := 2 ^ n - 1) (by omega) s (by omega)
    have p1 := pcl s
    have p2 := pcl (wth (kzz n sz ev yr sb) (2 ^ n - 1) s)
    obtain ⟨μ1, x1, x2, x3, -⟩ := xlook (lo := s) hv hx (by omega)
    rw [fX6_without_14, hx.1, shl1 (by omega), if_neg (nI_ge (by omega) (by omega)), fJbc _ (by omega), fJbc _ (by omega), bi_s, bi_s, x1, bv_s, x3, bi_s, nI_1]
    show ∃ μ', (if nI (pc8 (wth (kzz n sz ev yr sb) (2 ^ n - 1) s)) ≤ nI (pc8 s) then _ else _) = _ ∧ _
    simp only [nI_leI (show pc8 (wth (kzz n sz ev yr sb) (2 ^ n - 1) s) < 2 ^ 31 by omega) (show pc8 s < 2 ^ 31 by omega), kn_zero]
    by_cases q1 : pc8 (wth (kzz n sz ev yr sb) (2 ^ n - 1) s) ≤ pc8 s
    · have e : wth (kzz n sz ev yr sb) (2 ^ n - 1) (s + 1) = wth (kzz n sz ev yr sb) (2 ^ n - 1) s := by rw [wth, if_neg]; simp [show ¬ pc8 s < pc8 (wth (kzz n sz ev yr sb) (2 ^ n - 1) s) by omega]
      rw [if_pos q1, ← e]
      exact ih (s + 1) fu μ (by omega) (by omega) hx
    · rw [if_neg q1]
      have hx1 := XChr_sm x2 (by omega) hx
      by_cases q2 : knm (acR n sz sb (-9) s) ev yr n = 0
      · have e : wth (kzz n sz ev yr sb) (2 ^ n - 1) (s + 1) = s := by rw [wth, if_pos]; simp [show pc8 s < pc8 (wth (kzz n sz ev yr sb) (2 ^ n - 1) s) by omega, kzz, q2]
        rw [if_pos q2]
        obtain ⟨μ2, e2, s2⟩ := ih (s + 1) fu μ1 (by omega) (by omega) hx1
        rw [e] at e2
        exact ⟨μ2, e2, Xsm.tr x2 s2⟩
      · have e : wth (kzz n sz ev yr sb) (2 ^ n - 1) (s + 1) = wth (kzz n sz ev yr sb) (2 ^ n - 1) s := by rw [wth, if_neg]; simp [kzz, q2]
        rw [if_neg q2]
        obtain ⟨μ2, e2, s2⟩ := ih (s + 1) fu μ1 (by omega) (by omega) hx1
        rw [e] at e2
        exact ⟨μ2, e2, Xsm.tr x2 s2⟩
theorem RC_ho {μ : Mem} {lo : Int32} {ho s : Nat} (hc : RC μ n sz ev yr sb lo ho) : RC (mup μ 0 20 (nI s)) n sz ev yr sb lo s := by
  obtain ⟨h1, h2, h3, h4, h5⟩ := hc
  refine ⟨by rw [mup_n (Or.inr (by omega))]; exact h1, fun h hh => by rw [mup_n (Or.inl (by omega))]; exact h2 h hh, fun h k hh hk => ?_, by rw [mup_n (Or.inr (by omega))]; exact h4, mup_s _ _ _ _⟩
  rw [mup_n (Or.inl (by omega)), mup_n (Or.inl (by omega)), mup_n (Or.inl (by omega))]
  exact h3 h k hh hk
theorem Rsm_ho {μ μ2 : Mem} {s : Nat} (h0 : μ 0 20 = 0) (h : Rsm (mup μ 0 20 (nI s)) μ2) : Rsm μ (mup μ2 0 20 0) := fun a b h1 h2 h3 h4 => by
  rw [mup_at]
  split
  · next q => rw [q.1, q.2]; exact h0.symm
  · next q =>
    rw [h a b h1 h2 h3 h4, mup_at, if_neg q]
theorem rwith (hv : KV n sz ev yr sb sl) : ∀ (c s fu : Nat) (μ : Mem), s + c = 2 ^ n → c < fu → RC μ n sz ev yr sb (-9) 0 → ∃ μ', fX7_without_5 fu (nI (wth (kzz n sz ev yr sb) 15 s)) (nI s) μ = some (nI (wth (kzz n sz ev yr sb) 15 (2 ^ n)), μ') ∧ Rsm μ μ' := by
  have hn := hv.1
  obtain ⟨hp1, hp2⟩ := p2_le n (by omega)
  intro c
  induction c with
  | zero =>
    intro s fu μ h1 hf hc
    obtain ⟨fu, rfl⟩ : ∃ q, fu = q + 1 := ⟨fu - 1, by omega⟩
    have : s = 2 ^ n := by omega
    subst this
    refine ⟨μ, ?_, Rsm.rf⟩
    rw [fX7_without_5, hc.1, shl1 (by omega), if_pos (nI_le (Nat.le_refl _) (by omega))]
  | succ c ih =>
    intro s fu μ h1 hf hc
    obtain ⟨fu, rfl⟩ : ∃ q, fu = q + 1 := ⟨fu - 1, by omega⟩
    have hw := wth_lt (kz := kzz n sz ev yr sb) (b0 := 15) (by omega) s (by omega)
    have p1 := pcl s
    have p2 := pcl (wth (kzz n sz ev yr sb) 15 s)
    obtain ⟨μ1, x1, x2, -⟩ := R_kn hv (RC_ho (s := s) hc) (by omega)
    have sm : Rsm μ (mup μ1 0 20 0) := Rsm_ho hc.2.2.2.2 x2
    rw [fX7_without_5, hc.1, shl1 (by omega), if_neg (nI_ge (by omega) (by omega)), fX7on _ (by omega), fX7on _ (by omega), bi_s, bi_s, x1, bm_s]
    show ∃ μ', (if nI (pc8 (wth (kzz n sz ev yr sb) 15 s)) ≤ nI (pc8 s) then _ else _) = _ ∧ _
    simp only [fX7_without_43, nI_1, nI_leI (show pc8 (wth (kzz n sz ev yr sb) 15 s) < 2 ^ 31 by omega) (show pc8 s < 2 ^ 31 by omega), kn_zero]
    by_cases q1 : pc8 (wth (kzz n sz ev yr sb) 15 s) ≤ pc8 s
    · have e : wth (kzz n sz ev yr sb) 15 (s + 1) = wth (kzz n sz ev yr sb) 15 s := by rw [wth, if_neg]; simp [show ¬ pc8 s < pc8 (wth (kzz n sz ev yr sb) 15 s) by omega]
      rw [if_pos q1, ← e]
      exact ih (s + 1) fu μ (by omega) (by omega) hc
    · rw [if_neg q1]
      have hx1 := RC_sm sm hc
      obtain ⟨μ2, e2, s2⟩ := ih (s + 1) fu _ (by omega) (by omega) hx1
      by_cases q2 : knm (acR n sz sb (-9) s) ev yr n = 0
      · have e : wth (kzz n sz ev yr sb) 15 (s + 1) = s := by rw [wth, if_pos]; simp [show pc8 s < pc8 (wth (kzz n sz ev yr sb) 15 s) by omega, kzz, q2]
        rw [if_pos q2]
        rw [e] at e2
        exact ⟨μ2, e2, Rsm.tr sm s2⟩
      · have e : wth (kzz n sz ev yr sb) 15 (s + 1) = wth (kzz n sz ev yr sb) 15 s := by rw [wth, if_neg]; simp [kzz, q2]
        rw [if_neg q2]
        rw [e] at e2
        exact ⟨μ2, e2, Rsm.tr sm s2⟩
theorem q_without (h : Bo σ ρ n sz ev yr sb sl) : Qa σ ρ (fX6_without σ) (fX7_without ρ) := by
  obtain ⟨hv, hx, hc, h10⟩ := h
  have hn := hv.1
  obtain ⟨hp1, hp2⟩ := p2_le n (by omega)
  have hz : kzz n sz ev yr sb (2 ^ n - 1) = true := by
    unfold kzz
    rw [knm_full (fun i hi => full_bits n (by omega) i (by omega) hi)]
    rfl
  obtain ⟨σ', e1, s1⟩ := xwith hv (2 ^ n) 0 FU σ (by omega) (by rw [FU_big]; omega) hx
  obtain ⟨ρ', e2, s2⟩ := rwith hv (2 ^ n) 0 FU ρ (by omega) (by rw [FU_big]; omega) hc
  rw [wth_eq hn hz] at e1
  refine ⟨_, _, _, ?_, e2, s1, s2⟩
  unfold fX6_without
  rw [hx.1, shl1 (by omega), show nI (2 ^ n) - 1 = nI (2 ^ n - 1) from pk_sub (b := 1) (by omega)]
  exact e1
end QW
