/-! houses -/
def emp (σ : Mem) (j : Nat) : Mem := fun a b => if 33 ≤ a ∧ a < 33 + 3 * j ∧ a % 3 = 0 ∧ (b = 2 ∨ b = 3) then 0 else σ a b
theorem empty_ok {σ : Mem} : fX0_empty 31 σ = some (mup (mup (emp σ 4) 31 1 0) 31 2 0) := by
  unfold fX0_empty
  refine loop1s (fun fu j s => fX0_empty_2 31 fu (nI j) s) 4 (fun j => emp σ j) (s0 := σ) (fu := FU) ?_ (fun fu => ?_) (fun fu j hj => ?_) (by rw [FU_big]; omega)
  · funext a b
    exact (if_neg (by omega)).symm
  · show fX0_empty_2 _ _ _ _ = _
    rw [fX0_empty_2, if_pos (by decide)]
  · show fX0_empty_2 _ _ _ _ = fX0_empty_2 _ _ _ _
    rw [fX0_empty_2, if_neg (nle4 hj), grd_in (by omega) (by omega), nI_clamp (by omega), nI_1]
    unfold fX2_empty
    rw [bv_s]
    congr 1
    funext a b
    by_cases q : a = 31 + 2 + 3 * j ∧ (b = 2 ∨ b = 3)
    · have e : emp σ (j + 1) a b = 0 := if_pos (by omega)
      rw [e]
      obtain ⟨rfl, q2 | q2⟩ := q
      · subst q2
        rw [mup_n (by omega), mup_s]
      · subst q2
        rw [mup_s]
    · rw [mup_n (by omega), mup_n (by omega)]
      unfold emp
      by_cases w : 33 ≤ a ∧ a < 33 + 3 * j ∧ a % 3 = 0 ∧ (b = 2 ∨ b = 3)
      · rw [if_pos w, if_pos (by omega)]
      · rw [if_neg w, if_neg (by omega)]
def szm (ρ : Mem) (k : Nat) : Mem := fun a b => if a = 5 ∧ b < k then ρ 7 b else ρ a b
def nwm (ρ : Mem) (k : Nat) : Mem := fun a b => if a = 6 ∧ b < k then ρ 8 b else if a = 1 ∧ 1 ≤ b ∧ b < 1 + k then ρ 9 (b - 1) else if a = 1 ∧ 25 ≤ b ∧ b < 25 + k then 0 else ρ a b
theorem nwm_step {ρ : Mem} {k : Nat} (hk : k < 24) : mup (mup (mup (nwm ρ k) 6 k (ρ 8 k)) 1 (1 + k) (ρ 9 k)) 1 (25 + k) 0 = nwm ρ (k + 1) := by
  funext a b
  by_cases q : a = 1
  · subst q
    by_cases q1 : b = 25 + k
    · subst q1
      rw [mup_s]
      unfold nwm
      rw [if_neg (by omega), if_neg (by omega), if_pos (by omega)]
    · rw [mup_n (by omega)]
      by_cases q2 : b = 1 + k
      · subst q2
        rw [mup_s]
        unfold nwm
        rw [if_neg (by omega), if_pos (by omega), show 1 + k - 1 = k by omega]
      · rw [mup_n (by omega), mup_n (by omega)]
        unfold nwm
        rw [if_neg (show ¬ (1 = 6 ∧ b < k) by omega), if_neg (show ¬ (1 = 6 ∧ b < k + 1) by omega)]
        by_cases w : 1 ≤ b ∧ b < 1 + k
        · rw [if_pos (show 1 = 1 ∧ 1 ≤ b ∧ b < 1 + k by omega), if_pos (show 1 = 1 ∧ 1 ≤ b ∧ b < 1 + (k + 1) by omega)]
        · rw [if_neg (show ¬ (1 = 1 ∧ 1 ≤ b ∧ b < 1 + k) by omega), if_neg (show ¬ (1 = 1 ∧ 1 ≤ b ∧ b < 1 + (k + 1)) by omega)]
          by_cases z : 25 ≤ b ∧ b < 25 + k
          · rw [if_pos (show 1 = 1 ∧ 25 ≤ b ∧ b < 25 + k by omega), if_pos (show 1 = 1 ∧ 25 ≤ b ∧ b < 25 + (k + 1) by omega)]
          · rw [if_neg (show ¬ (1 = 1 ∧ 25 ≤ b ∧ b < 25 + k) by omega), if_neg (show ¬ (1 = 1 ∧ 25 ≤ b ∧ b < 25 + (k + 1)) by omega)]
  · rw [mup_n (by omega), mup_n (by omega)]
    by_cases q6 : a = 6 ∧ b = k
    · obtain ⟨rfl, rfl⟩ := q6
      rw [mup_s]
      unfold nwm
      rw [if_pos (by omega)]
    · rw [mup_n (by omega)]
      unfold nwm
      by_cases w : a = 6 ∧ b < k
      · rw [if_pos w, if_pos (by omega)]
      · rw [if_neg w, if_neg (by omega), if_neg (by omega), if_neg (by omega), if_neg (by omega), if_neg (by omega)]
/-- what the reference does with what it has read -/
def fnl (ρ : Mem) (N : Nat) (v : Int32) : Mem := mup (mup (mup (mup (mup (mup (nwm (szm (mup ρ 0 7 (nI N)) N) 24) 1 0 v) 0 6 0) 0 2 0) 0 4 0) 2 0 0) 2 1 0
theorem fnl_ok {ρ : Mem} {N it : Nat} {sz : Nat → Nat} (hN : N ≤ 4) (h15 : ρ 0 15 = nI N) (h13 : ρ 0 13 = nI it) (hs : ∀ h, h < N → ρ 7 h = nI (sz h)) : fX7_houses_25 FU 0 (mup ρ 0 7 (ρ 0 15)) = some (nI it, fnl ρ N (if ρ 0 14 = -9 then 0 else ρ 0 14)) := by
  rw [h15]
  have g7 : mup ρ 0 7 (nI N) 0 7 = nI N := mup_s _ _ _ _
  refine loop1s (fun fu k s => fX7_houses_25 fu (nI k) s) N (fun k => szm (mup ρ 0 7 (nI N)) k) (s0 := mup ρ 0 7 (nI N)) (fu := FU) ?_ (fun fu => ?_) (fun fu k hk => ?_) (by rw [FU_big]; omega)
  · funext a b
    exact (if_neg (by omega)).symm
  · show fX7_houses_25 _ _ _ = _
    have e7 : szm (mup ρ 0 7 (nI N)) N 0 7 = nI N := by
      unfold szm
      rw [if_neg (by omega), g7]
    rw [fX7_houses_25, e7, if_pos (nI_le (Nat.le_refl N) (by omega))]
    have e14 : szm (mup ρ 0 7 (nI N)) N 0 14 = ρ 0 14 := by
      unfold szm
      rw [if_neg (by omega), mup_n (by omega)]
    have e13 : szm (mup ρ 0 7 (nI N)) N 0 13 = nI it := by
      unfold szm
      rw [if_neg (by omega), mup_n (by omega)]; exact h13
    unfold fnl
    generalize szm (mup ρ 0 7 (nI N)) N = τ at e14 e13 ⊢
    refine loop1s (fun fu k s => fX7_houses_53 fu (nI k) s) 24 (fun k => nwm τ k) (s0 := τ) (fu := FU) ?_ (fun fu => ?_) (fun fu k hk => ?_) (by rw [FU_big]; omega)
    · funext a b
      unfold nwm
      rw [if_neg (by omega), if_neg (by omega), if_neg (by omega)]
    · show fX7_houses_53 _ _ _ = _
      have i14 : nwm τ 24 0 14 = ρ 0 14 := by
        unfold nwm
        rw [if_neg (by omega), if_neg (by omega), if_neg (by omega), e14]
      have i13 : nwm τ 24 0 13 = nI it := by
        unfold nwm
        rw [if_neg (by omega), if_neg (by omega), if_neg (by omega), e13]
      have h123 : ∀ v, fX7_houses_123 v 0 (nwm τ 24) = some (nI it, mup (mup (mup (mup (mup (mup (nwm τ 24) 1 0 v) 0 6 0) 0 2 0) 0 4 0) 2 0 0) 2 1 0) := by
        intro v
        unfold fX7_houses_123
        rw [grd_t (by decide), grd_t (by decide), grd_t (by decide), show (0 : Int32).toNatClampNeg = 0 from rfl, show (1 : Int32).toNatClampNeg = 1 from rfl, mup_n (a := 0) (b := 13) (by omega), mup_n (a := 0) (b := 13) (by omega), mup_n (a := 0) (b := 13) (by omega), mup_n (a := 0) (b := 13) (by omega), mup_n (a := 0) (b := 13) (by omega), mup_n (a := 0) (b := 13) (by omega), i13]
      rw [fX7_houses_53, if_pos (by decide), i14, h123, h123]
      by_cases q : ρ 0 14 = -9
      · rw [if_pos q, if_pos q]
      · rw [if_neg q, if_neg q]
    · show fX7_houses_53 _ _ _ = fX7_houses_53 _ _ _
      have j8 : nwm τ k 8 k = τ 8 k := by
        unfold nwm
        rw [if_neg (by omega), if_neg (by omega), if_neg (by omega)]
      have j9 : nwm τ k 9 k = τ 9 k := by
        unfold nwm
        rw [if_neg (by omega), if_neg (by omega), if_neg (by omega)]
      rw [fX7_houses_53, if_neg (show ¬ (24 : Int32) ≤ nI k from nI_ge (b := 24) hk (by omega)), show (1 : Int32) + nI k = nI (1 + k) from nI_add 1 k, show (25 : Int32) + nI k = nI (25 + k) from nI_add 25 k, nI_1]
      simp only [grd_in (show k < 24 from hk) (show 24 < 2 ^ 31 by omega), grd_in (show 1 + k < 637 by omega) (show 637 < 2 ^ 31 by omega), grd_in (show 25 + k < 637 by omega) (show 637 < 2 ^ 31 by omega)]
      rw [nI_clamp (show k < 2 ^ 31 by omega), nI_clamp (show 1 + k < 2 ^ 31 by omega), nI_clamp (show 25 + k < 2 ^ 31 by omega), j8, mup_n (a := 9) (by omega), j9, nwm_step hk]
  · show fX7_houses_25 _ _ _ = fX7_houses_25 _ _ _
    have e7 : szm (mup ρ 0 7 (nI N)) k 0 7 = nI N := by
      unfold szm
      rw [if_neg (by omega), g7]
    have e77 : szm (mup ρ 0 7 (nI N)) k 7 k = mup ρ 0 7 (nI N) 7 k := by
      unfold szm
      rw [if_neg (by omega)]
    rw [fX7_houses_25, e7, if_neg (nI_ge hk (by omega)), grd_in (by omega) (by omega), grd_in (by omega) (by omega), nI_clamp (by omega), nI_1, e77]
    congr 1
    funext a b
    by_cases q : a = 5 ∧ b = k
    · obtain ⟨rfl, rfl⟩ := q
      rw [mup_s]
      unfold szm
      rw [if_pos (by omega)]
    · rw [mup_n (by omega)]
      unfold szm
      by_cases w : a = 5 ∧ b < k
      · rw [if_pos w, if_pos (by omega)]
      · rw [if_neg w, if_neg (by omega)]
theorem fnl_1 {ρ : Mem} {N : Nat} {v : Int32} {b : Nat} (h : 1 ≤ b) (h2 : b < 25) : fnl ρ N v 1 b = ρ 9 (b - 1) := by
  unfold fnl
  rw [mup_n (by omega), mup_n (by omega), mup_n (by omega), mup_n (by omega), mup_n (by omega), mup_n (by omega)]
  unfold nwm
  rw [if_neg (by omega), if_pos (by omega)]
  unfold szm
  rw [if_neg (by omega), mup_n (by omega)]
theorem fnl_25 {ρ : Mem} {N : Nat} {v : Int32} {b : Nat} (h : 25 ≤ b) (h2 : b < 49) : fnl ρ N v 1 b = 0 := by
  unfold fnl
  rw [mup_n (by omega), mup_n (by omega), mup_n (by omega), mup_n (by omega), mup_n (by omega), mup_n (by omega)]
  unfold nwm
  rw [if_neg (by omega), if_neg (by omega), if_pos (by omega)]
theorem fnl_6 {ρ : Mem} {N : Nat} {v : Int32} {b : Nat} (h : b < 24) : fnl ρ N v 6 b = ρ 8 b := by
  unfold fnl
  rw [mup_n (by omega), mup_n (by omega), mup_n (by omega), mup_n (by omega), mup_n (by omega), mup_n (by omega)]
  unfold nwm
  rw [if_pos (by omega)]
  unfold szm
  rw [if_neg (by omega), mup_n (by omega)]
theorem fnl_5 {ρ : Mem} {N : Nat} {v : Int32} {b : Nat} (h : b < N) : fnl ρ N v 5 b = ρ 7 b := by
  unfold fnl
  rw [mup_n (by omega), mup_n (by omega), mup_n (by omega), mup_n (by omega), mup_n (by omega), mup_n (by omega)]
  unfold nwm
  rw [if_neg (by omega), if_neg (by omega), if_neg (by omega)]
  unfold szm
  rw [if_pos (by omega), mup_n (by omega)]
theorem fnl_0 {ρ : Mem} {N : Nat} {v : Int32} {b : Nat} (h : b ≠ 2) (h4 : b ≠ 4) (h6 : b ≠ 6) : fnl ρ N v 0 b = mup ρ 0 7 (nI N) 0 b := by
  unfold fnl
  rw [mup_n (by omega), mup_n (by omega), mup_n (by omega), mup_n (by omega), mup_n (by omega), mup_n (by omega)]
  unfold nwm
  rw [if_neg (by omega), if_neg (by omega), if_neg (by omega)]
  unfold szm
  rw [if_neg (by omega)]
theorem II_fr {σ ρ σ' ρ' : Mem} (h : II σ ρ) (hx : FX σ σ') (hr : FRr ρ ρ') : II σ' ρ' := by
  obtain ⟨n, sz, ev, D, u, kb, t, s, h1, h2, h3, h4, h5⟩ := h
  refine ⟨n, sz, ev, D, u, kb, t, s, Nw_fr h1 ?_ ?_ ?_ ?_ ?_, Hs_fr h2 ?_ ?_ ?_, Im_fr h3 ?_ ?_ ?_ ?_, Tx_fr h4 ?_ ?_ ?_ ?_, Sn_fr h5 ?_ ?_ ?_ ?_⟩
  all_goals intros
  all_goals first
    | exact hx _ _ (by omega) (by omega)
    | exact hr _ _ (by omega) (by omega)
theorem Tx_TT {σ ρ : Mem} {t : Nat} (h : Tx σ ρ t) : ∃ tx, TT σ ρ t tx := by
  refine ⟨fun j => (σ 2 j).toNatClampNeg, h.1, h.2.1, h.2.2.1, fun j hj => ?_⟩
  obtain ⟨c, hc, e1, e2⟩ := h.2.2.2 j hj
  show (σ 2 j).toNatClampNeg < 256 ∧ σ 2 j = nI (σ 2 j).toNatClampNeg ∧ ρ 4 j = nI (σ 2 j).toNatClampNeg
  rw [e1, nI_clamp (by omega)]
  exact ⟨by omega, rfl, e2⟩
theorem st_houses : St_houses II := fun σ ρ h => by
  obtain ⟨n, sz0, ev0, D, u, kb, t, s, h1, h2, h3, h4, h5⟩ := id h
  obtain ⟨tx, hT⟩ := Tx_TT h4
  unfold fX6_houses fX7_houses fX5_read fX7_reads
  rw [empty_ok, bv_s]
  have x1 : ∀ a b, ¬ (a = 1 ∧ (b = 2 ∨ b = 6 ∨ b = 7 ∨ b = 9)) → mup (mup (mup (mup (mup (mup (emp σ 4) 31 1 0) 31 2 0) 1 2 0) 1 6 0) 1 7 0) 1 9 0 a b = mup (mup (emp σ 4) 31 1 0) 31 2 0 a b := fun a b z => by rw [mup_n (by omega), mup_n (by omega), mup_n (by omega), mup_n (by omega)]
  have x12 : mup (mup (mup (mup (mup (mup (emp σ 4) 31 1 0) 31 2 0) 1 2 0) 1 6 0) 1 7 0) 1 9 0 1 2 = nI 0 := by rw [mup_n (by omega), mup_n (by omega), mup_n (by omega), mup_s]; rfl
  have x16 : mup (mup (mup (mup (mup (mup (emp σ 4) 31 1 0) 31 2 0) 1 2 0) 1 6 0) 1 7 0) 1 9 0 1 6 = 0 := by rw [mup_n (by omega), mup_n (by omega), mup_s]
  have x17 : mup (mup (mup (mup (mup (mup (emp σ 4) 31 1 0) 31 2 0) 1 2 0) 1 6 0) 1 7 0) 1 9 0 1 7 = nI 0 := by rw [mup_n (by omega), mup_s]; rfl
  have x19 : mup (mup (mup (mup (mup (mup (emp σ 4) 31 1 0) 31 2 0) 1 2 0) 1 6 0) 1 7 0) 1 9 0 1 9 = 0 := mup_s _ _ _ _
  generalize mup (mup (mup (mup (mup (mup (emp σ 4) 31 1 0) 31 2 0) 1 2 0) 1 6 0) 1 7 0) 1 9 0 = σ1 at x1 x12 x16 x17 x19 ⊢
  have fx1 : FX σ σ1 := fun a b z1 z2 => by
    rw [x1 a b (by omega), mup_n (by omega), mup_n (by omega)]
    exact if_neg (by omega)
  have r1 : ∀ a b, ¬ (a = 0 ∧ (b = 10 ∨ b = 13 ∨ b = 14 ∨ b = 15)) → mup (mup (mup (mup ρ 0 10 0) 0 13 0) 0 14 (-9)) 0 15 0 a b = ρ a b := fun a b z => by rw [mup_n (by omega), mup_n (by omega), mup_n (by omega), mup_n (by omega)]
  have r10 : mup (mup (mup (mup ρ 0 10 0) 0 13 0) 0 14 (-9)) 0 15 0 0 10 = nI 0 := by rw [mup_n (by omega), mup_n (by omega), mup_n (by omega), mup_s]; rfl
  have r13 : mup (mup (mup (mup ρ 0 10 0) 0 13 0) 0 14 (-9)) 0 15 0 0 13 = nI 0 := by rw [mup_n (by omega), mup_n (by omega), mup_s]; rfl
  have r14 : mup (mup (mup (mup ρ 0 10 0) 0 13 0) 0 14 (-9)) 0 15 0 0 14 = -9 := by rw [mup_n (by omega), mup_s]
  have r15 : mup (mup (mup (mup ρ 0 10 0) 0 13 0) 0 14 (-9)) 0 15 0 0 15 = nI 0 := mup_s _ _ _ _
  generalize mup (mup (mup (mup ρ 0 10 0) 0 13 0) 0 14 (-9)) 0 15 0 = ρ1 at r1 r10 r13 r14 r15 ⊢
  have fr1 : FRr ρ ρ1 := fun a b z1 z2 => r1 a b (by omega)
  have hT1 : TT σ1 ρ1 t tx := ⟨hT.1, (fx1 1 0 (by omega) (by omega)).trans hT.2.1, (fr1 0 6 (by omega) (by omega)).trans hT.2.2.1, fun j hj => ⟨(hT.2.2.2 j hj).1, (fx1 2 j (by omega) (by omega)).trans (hT.2.2.2 j hj).2.1, (fr1 4 j (by omega) (by omega)).trans (hT.2.2.2 j hj).2.2⟩⟩
  have h110 := hT.1
  obtain ⟨σ2, ρ2, tok, b, x, a1, a2, a3, a4, a5, a6, a7⟩ := CO_adv hT1 fx1 fr1 x12 r10 (by omega)
  have mle : mea t tok x ≤ 111 := by
    unfold mea
    split <;> omega
  have hout := (reads_all (σa := σ) (ρa := ρ) (t := t) (tx := tx) (mea t tok x + 1)).1 σ2 ρ2 tok b x 0 0 0 (fun _ => 0) (fun _ _ => 0) (fun _ _ => 0) FU FU a3 a4 (by omega) (by omega) (by rw [a6 _ _ (by omega)]; exact x16) ⟨by rw [a6 _ _ (by omega)]; exact x17, by rw [a7 _ _ (by omega)]; exact r13, Or.inl ⟨by rw [a6 _ _ (by omega)]; exact x19, by rw [a7 _ _ (by omega)]; exact r14, by rw [a6 _ _ (by omega), x1 _ _ (by omega), mup_s]⟩, by rw [a7 _ _ (by omega)]; exact r15, fun h hh => absurd hh (by omega)⟩ ⟨⟨by omega, fun h hh => absurd hh (by omega), fun h k hh => absurd hh (by omega), fun h i j hh => absurd hh (by omega), fun h i j hh => absurd hh (by omega), by omega⟩, by rw [a6 _ _ (by omega), x1 _ _ (by omega), mup_n (by omega), mup_s]; rfl, fun h hh => by
      rw [a6 _ _ (by omega), x1 _ _ (by omega), mup_n (by omega), mup_n (by omega), a6 _ _ (by omega), x1 _ _ (by omega), mup_n (by omega), mup_n (by omega)]
      exact ⟨if_pos (by omega), fun _ => if_pos (by omega)⟩, fun h hh => absurd hh (by omega)⟩ (by omega) (by rw [FU_big]; omega) (by rw [FU_big]; omega)
  rw [a1, bv_s, a2, bv_s]
  obtain ⟨r, σ3, ok, ρ3, e1, e2, f1, f2, hres⟩ := hout
  have e1' : fX5_read_30 31 FU 0 σ2 = some (r, σ3) := e1
  rw [e1', bm_s, e2, bm_s]
  rcases hres with ⟨rfl, b', hb', rfl, e11⟩ | ⟨rfl, it, N, sz, ev, yr, hit, rfl, hm, hd⟩
  · have neg : ¬ (0 : Int32) ≤ -10 - nI b' := by
      have e : (-10 - nI b').toInt = -10 - (b' : Int) := by
        rw [fb_subI, nI_toInt (by omega), show (-10 : Int32).toInt = -10 from rfl]
        all_goals (rw [nI_toInt (by omega), show (-10 : Int32).toInt = -10 from rfl]; omega)
      rw [fa_le, e, show (0 : Int32).toInt = 0 from rfl]
      omega
    rw [if_neg neg, if_pos rfl, e11]
    exact ⟨_, _, _, rfl, rfl, II_fr h f1 f2⟩
  · rw [if_pos (nI_pos' (by omega)), if_neg (show ¬ (1 : Int32) = 0 by decide), ccopy_ok (by omega), bv_s]
    obtain ⟨m1, m2, m3, m4, m5⟩ := hm
    have hv := hd.1
    have hn := hv.1
    rw [fnl_ok hn m4 m2 m5]
    have hsl : ∃ sl, sl ≤ 9 ∧ σ3 31 2 = nI sl ∧ (if ρ3 0 14 = -9 then 0 else ρ3 0 14) = nI sl := by
      rcases m3 with ⟨s1, s2, s3⟩ | ⟨sl, s0, s1, s2, s3⟩
      · exact ⟨0, by omega, s3, by rw [if_pos s2]; rfl⟩
      · refine ⟨sl, s0, s3, ?_⟩
        rw [s2, if_neg]
        intro z
        have := congrArg Int32.toInt z
        rw [nI_toInt (by omega), show (-9 : Int32).toInt = -9 from rfl] at this
        omega
    obtain ⟨sl, sl9, sx, sr⟩ := hsl
    rw [sr]
    have hv' : KVd N sz ev (yr, fun _ => 0, sl) := ⟨hv.1, hv.2.1, hv.2.2.1, hv.2.2.2.1, hv.2.2.2.2.1, sl9⟩
    have hx31 : XCd σ3 31 N sz ev (yr, fun _ => 0, sl) := ⟨hd.2.1, sx, fun h hh => PD_XH hd hh⟩
    refine ⟨nI it, _, _, rfl, rfl, N, sz, ev, fun _ => (yr, fun _ => 0, sl), 0, 0, 0, 0, ⟨hv', ?_, ⟨?_, fun h hh => ?_, fun h k hh hk => ?_, ?_, ?_⟩, ?_, fun h k hh hk => ⟨?_, ?_⟩⟩, ⟨by omega, ?_, ?_, fun j hj => absurd hj (by omega)⟩, ⟨by omega, ?_, fun i hi => Or.inl ⟨Nat.zero_testBit i, ?_⟩⟩, ⟨by omega, ?_, ?_, fun j hj => absurd hj (by omega)⟩, ⟨by omega, ?_, ?_, fun j hj => absurd hj (by omega)⟩⟩
    · refine XCd_mv hv' hx31 (fun a b z => ?_)
      rw [mup_n (by omega), mup_n (by omega), mup_n (by omega), mup_n (by omega)]
      exact ccp_rel z
    · rw [fnl_0 (by omega) (by omega) (by omega), mup_s]
    · rw [fnl_5 hh]; exact m5 h hh
    · have h6 := (hv.2.1 h hh).1
      rw [fnl_6 (by omega)]; exact ((hd.2.2.2 h hh).2 k hk).2.2.1
    · rw [fnl_0 (by omega) (by omega) (by omega), mup_n (by omega), f2 _ _ (by omega) (by omega)]; exact h1.2.2.1.2.2.2.1
    · rw [fnl_0 (by omega) (by omega) (by omega), mup_n (by omega), f2 _ _ (by omega) (by omega)]; exact h1.2.2.1.2.2.2.2
    · unfold fnl
      rw [mup_n (by omega), mup_n (by omega), mup_n (by omega), mup_n (by omega), mup_n (by omega), mup_s]
    · have h6 := (hv.2.1 h hh).1
      rw [fnl_1 (by omega) (by omega), show 0 + (1 + 6 * h + k) - 1 = 6 * h + k by omega]; exact ((hd.2.2.2 h hh).2 k hk).2.2.2
    · have h6 := (hv.2.1 h hh).1
      rw [fnl_25 (by omega) (by omega)]
      show (0 : Int32) = if Nat.testBit 0 k then 1 else 0
      simp
    · rw [mup_n (by omega), mup_s]; rfl
    · unfold fnl
      rw [mup_n (by omega), mup_n (by omega), mup_n (by omega), mup_s]; rfl
    · rw [mup_n (by omega), mup_n (by omega), mup_s]; rfl
    · unfold fnl
      have hi' : i = 0 ∨ i = 1 := by omega
      rcases hi' with rfl | rfl
      · rw [mup_n (by omega), mup_s]
      · rw [mup_s]
    · rw [mup_n (by omega), mup_n (by omega), mup_n (by omega), mup_s]; rfl
    · unfold fnl
      rw [mup_n (by omega), mup_n (by omega), mup_n (by omega), mup_n (by omega), mup_s]; rfl
    · rw [mup_s]; rfl
    · unfold fnl
      rw [mup_n (by omega), mup_n (by omega), mup_s]; rfl
/-- two new objects -/
theorem II_0 : II (fun _ _ => 0) ρ0 := by
  have r : ∀ a b, ¬ (a = 0 ∧ b = 19) → ρ0 a b = 0 := fun a b z => mup_n (by omega)
  refine ⟨0, fun _ => 0, fun _ _ => 0, fun _ => (fun _ _ => 0, fun _ => 0, 0), 0, 0, 0, 0, ⟨⟨by omega, fun h hh => absurd hh (by omega), fun h k hh => absurd hh (by omega), fun h i j hh => absurd hh (by omega), fun h i j hh => absurd hh (by omega), by show 0 ≤ 9; omega⟩, ⟨rfl, rfl, fun h hh => absurd hh (by omega)⟩, ⟨r _ _ (by omega), fun h hh => absurd hh (by omega), fun h k hh => absurd hh (by omega), mup_s _ _ _ _, r _ _ (by omega)⟩, r _ _ (by omega), fun h k hh => absurd hh (by omega)⟩, ⟨by omega, rfl, r _ _ (by omega), fun j hj => absurd hj (by omega)⟩, ⟨by omega, rfl, fun i hi => Or.inl ⟨Nat.zero_testBit i, r _ _ (by omega)⟩⟩, ⟨by omega, rfl, r _ _ (by omega), fun j hj => absurd hj (by omega)⟩, ⟨by omega, rfl, r _ _ (by omega), fun j hj => absurd hj (by omega)⟩⟩
