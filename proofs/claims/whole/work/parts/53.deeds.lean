/-! what is done, and undone -/
def lom (σ : Mem) (k : Nat) : Mem := fun a b => if 5 ≤ a ∧ a ≤ 8 ∧ b + 1 < k then σ a (b + 1) else σ a b
theorem add13 {σ : Mem} {u : Nat} (h : σ 4 0 = nI u) (hu : u < 10) (x1 x2 x3 x4 : Int32) : fX1_add_13 x1 x2 x3 x4 σ = some (mup (mup (mup (mup (mup σ 5 u x1) 6 u x2) 7 u x3) 8 u x4) 4 0 (nI (u + 1))) := by
  have m5 : ∀ (μ : Mem) (j : Nat) (v : Int32), mup μ 5 j v 4 0 = μ 4 0 := fun μ j v => mup_n (Or.inl (by decide))
  have m6 : ∀ (μ : Mem) (j : Nat) (v : Int32), mup μ 6 j v 4 0 = μ 4 0 := fun μ j v => mup_n (Or.inl (by decide))
  have m7 : ∀ (μ : Mem) (j : Nat) (v : Int32), mup μ 7 j v 4 0 = μ 4 0 := fun μ j v => mup_n (Or.inl (by decide))
  have m8 : ∀ (μ : Mem) (j : Nat) (v : Int32), mup μ 8 j v 4 0 = μ 4 0 := fun μ j v => mup_n (Or.inl (by decide))
  unfold fX1_add_13
  simp only [m5, m6, m7, m8, h]
  simp only [grd_in hu (show 10 < 2 ^ 31 by omega)]
  rw [nI_clamp (by omega), nI_1]
theorem lom_step {σ : Mem} {k : Nat} (hk : 1 ≤ k) : mup (mup (mup (mup (lom σ k) 5 (k - 1) (σ 5 k)) 6 (k - 1) (σ 6 k)) 7 (k - 1) (σ 7 k)) 8 (k - 1) (σ 8 k) = lom σ (k + 1) := by
  funext a b
  by_cases q : 5 ≤ a ∧ a ≤ 8 ∧ b = k - 1
  · obtain ⟨q1, q2, rfl⟩ := q
    have e : lom σ (k + 1) a (k - 1) = σ a k := by
      unfold lom
      rw [if_pos (by omega), show k - 1 + 1 = k by omega]
    rw [e]
    have ha : a = 5 ∨ a = 6 ∨ a = 7 ∨ a = 8 := by omega
    rcases ha with rfl | rfl | rfl | rfl
    · rw [mup_n (by omega), mup_n (by omega), mup_n (by omega), mup_s]
    · rw [mup_n (by omega), mup_n (by omega), mup_s]
    · rw [mup_n (by omega), mup_s]
    · rw [mup_s]
  · rw [mup_n (by omega), mup_n (by omega), mup_n (by omega), mup_n (by omega)]
    unfold lom
    by_cases w : 5 ≤ a ∧ a ≤ 8 ∧ b + 1 < k
    · rw [if_pos w, if_pos (by omega)]
    · rw [if_neg w, if_neg (by omega)]
theorem lose_ok {σ : Mem} : fX1_loseOldest σ = some (mup (lom σ 10) 4 0 (nI 9)) := by
  unfold fX1_loseOldest
  have h1 : lom σ 1 = σ := by
    funext a b
    exact if_neg (by omega)
  have key := loopA (fun fu k s => fX1_loseOldest_2 fu (nI k) s) 1 10 (fun k => lom σ k) (res := some (mup (lom σ 10) 4 0 (nI 9))) (by omega) (fun fu => ?_) (fun fu k hk1 hk => ?_) (fu := FU) (by rw [FU_big]; omega)
  · rw [h1] at key
    exact key
  · show fX1_loseOldest_2 _ _ _ = _
    rw [fX1_loseOldest_2, if_pos (by decide)]
    rfl
  · show fX1_loseOldest_2 _ _ _ = fX1_loseOldest_2 _ _ _
    have ep : nI k - 1 = nI (k - 1) := by
      rw [show k = (k - 1) + 1 by omega]; exact nI_pred _
    have v : ∀ a, lom σ k a k = σ a k := fun a => if_neg (by omega)
    rw [fX1_loseOldest_2, if_neg (show ¬ (10 : Int32) ≤ nI k from nI_ge (b := 10) hk (by omega)), ep]
    simp only [grd_in hk (show 10 < 2 ^ 31 by omega), grd_in (show k - 1 < 10 by omega) (show 10 < 2 ^ 31 by omega)]
    rw [nI_clamp (by omega), nI_clamp (by omega), nI_1, mup_n (a := 6) (Or.inl (by omega)), mup_n (a := 7) (Or.inl (by omega)), mup_n (a := 7) (Or.inl (by omega)), mup_n (a := 8) (Or.inl (by omega)), mup_n (a := 8) (Or.inl (by omega)), mup_n (a := 8) (Or.inl (by omega)), v, v, v, v, lom_step hk1]
def shm (ρ : Mem) (k : Nat) : Mem := fun a b => if a = 1 ∧ 147 ≤ b ∧ b < 147 + k then ρ 1 (b + 49) else ρ a b
theorem minds54 {ρ : Mem} {u : Nat} (h : ρ 0 2 = nI u) (hu : u < 10) : fX7_minds_54 ρ = some (mup (rcm 0 (147 + 49 * u) ρ 49) 0 2 (nI (u + 1))) := by
  have ix : (147 : Int32) + (49 : Int32) * nI u = nI (147 + 49 * u) := by
    rw [show (147 : Int32) = nI 147 from rfl, show (49 : Int32) = nI 49 from rfl, pk_mul, nI_add]
  unfold fX7_minds_54
  rw [h, ix, show (0 : Int32) = nI 0 from rfl, rcopy_ok (by omega) (by omega) (by omega), bv_s, rcm_out (by omega), h, nI_1]
theorem minds_full {ρ : Mem} (h : ρ 0 2 = nI 10) : fX7_minds ρ = some (mup (rcm 0 (147 + 49 * 9) (mup (shm ρ 441) 0 2 (nI 9)) 49) 0 2 (nI 10)) := by
  unfold fX7_minds
  rw [h, if_pos (show nI 10 = (10 : Int32) from rfl)]
  refine loop1s (fun fu k s => fX7_minds_11 fu (nI k) s) 441 (fun k => shm ρ k) (s0 := ρ) ?_ (fun fu => ?_) (fun fu k hk => ?_) (by rw [FU_big]; omega)
  · funext a b
    exact (if_neg (by omega)).symm
  · show fX7_minds_11 _ _ _ = _
    have e : shm ρ 441 0 2 = nI 10 := by
      unfold shm
      rw [if_neg (by omega)]
      exact h
    rw [fX7_minds_11, if_pos (by decide), e, show nI 10 - (1 : Int32) = nI 9 from rfl, minds54 (u := 9) (mup_s _ _ _ _) (by omega)]
  · show fX7_minds_11 _ _ _ = fX7_minds_11 _ _ _
    have i1 : (196 : Int32) + nI k = nI (196 + k) := by rw [show (196 : Int32) = nI 196 from rfl, nI_add]
    have i2 : (147 : Int32) + nI k = nI (147 + k) := by rw [show (147 : Int32) = nI 147 from rfl, nI_add]
    have e : shm ρ k 1 (196 + k) = ρ 1 (196 + k) := if_neg (by omega)
    rw [fX7_minds_11, if_neg (show ¬ (441 : Int32) ≤ nI k from nI_ge (b := 441) hk (by omega)), i1, i2, grd_in (by omega) (by omega), grd_in (by omega) (by omega), nI_clamp (by omega), nI_clamp (by omega), nI_1, e]
    congr 1
    funext a b
    by_cases q : a = 1 ∧ b = 147 + k
    · obtain ⟨rfl, rfl⟩ := q
      rw [mup_s]
      unfold shm
      rw [if_pos (by omega), show 147 + k + 49 = 196 + k by omega]
    · rw [mup_n (by omega)]
      unfold shm
      by_cases w : a = 1 ∧ 147 ≤ b ∧ b < 147 + k
      · rw [if_pos w, if_pos (by omega)]
      · rw [if_neg w, if_neg (by omega)]
section DE
variable {σ ρ : Mem} {n : Nat} {sz : Nat → Nat} {ev : Nat → Nat → Nat} {d : Dy} {D : Nat → Dy} {u : Nat}
theorem minded (h : Hs σ ρ n sz ev D u) (hw : KVd n sz ev (D u)) (hb : BK ρ 0 n sz (D u)) {kd p k old : Nat} (hk : kd ≤ 2) (hp : kd ≠ 2 → p < n ∧ k < sz p) {d1 : Dy} (hd : D u = undoD kd p k old d1) :
    ∃ σ' ρ' D' u', fX1_add (nI kd) (nI p) (nI k) (nI old) σ = some σ' ∧ fX7_minds ρ = some ρ' ∧ D' u' = d1 ∧ Hs σ' ρ' n sz ev D' u' ∧ (∀ a b, a < 4 ∨ 8 < a → σ' a b = σ a b) ∧ (∀ a b, (a ≠ 1 ∧ ¬ (a = 0 ∧ b = 2)) ∨ (a = 1 ∧ b < 147) → ρ' a b = ρ a b) := by
  obtain ⟨h1, h2, h3, h4⟩ := h
  by_cases q : u = 10
  · subst q
    have ea : fX1_add (nI kd) (nI p) (nI k) (nI old) σ = some (mup (mup (mup (mup (mup (mup (lom σ 10) 4 0 (nI 9)) 5 9 (nI kd)) 6 9 (nI p)) 7 9 (nI k)) 8 9 (nI old)) 4 0 (nI (9 + 1))) := by
      unfold fX1_add
      rw [h2, if_neg (show ¬ nI 10 < (10 : Int32) by decide), lose_ok, bv_s, add13 (u := 9) (mup_s _ _ _ _) (by omega)]
    refine ⟨mup (mup (mup (mup (mup (mup (lom σ 10) 4 0 (nI 9)) 5 9 (nI kd)) 6 9 (nI p)) 7 9 (nI k)) 8 9 (nI old)) 4 0 (nI (9 + 1)), mup (rcm 0 (147 + 49 * 9) (mup (shm ρ 441) 0 2 (nI 9)) 49) 0 2 (nI 10), fun j => if j ≤ 9 then D (j + 1) else d1, 10, ea, minds_full h3, if_neg (by omega), ⟨by omega, mup_s _ _ _ _, mup_s _ _ _ _, fun j hj => ?_⟩, fun a b hab => ?_, fun a b hab => ?_⟩
    · by_cases w : j = 9
      · subst w
        refine ⟨⟨kd, p, k, old, ?_, ?_, ?_, ?_, hk, hp, ?_⟩, ?_, ?_⟩
        · rw [mup_n (by omega), mup_n (by omega), mup_n (by omega), mup_n (by omega), mup_s]
        · rw [mup_n (by omega), mup_n (by omega), mup_n (by omega), mup_s]
        · rw [mup_n (by omega), mup_n (by omega), mup_s]
        · rw [mup_n (by omega), mup_s]
        · show (if 9 ≤ 9 then D (9 + 1) else d1) = undoD kd p k old (if 9 + 1 ≤ 9 then D (9 + 1 + 1) else d1)
          rw [if_pos (by omega), if_neg (by omega)]
          exact hd
        · show KVd n sz ev (if 9 ≤ 9 then D (9 + 1) else d1)
          rw [if_pos (by omega)]
          exact hw
        · show BK _ _ n sz (if 9 ≤ 9 then D (9 + 1) else d1)
          rw [if_pos (by omega)]
          refine BK_mv hw hb (fun b hb => ?_)
          rw [mup_n (by omega), rcm_in hb, mup_n (by omega)]
          exact if_neg (by omega)
      · obtain ⟨a1, a2, a3⟩ := h4 (j + 1) (by omega)
        refine ⟨?_, ?_, ?_⟩
        · show Deed _ n sz j (if j ≤ 9 then D (j + 1) else d1) (if j + 1 ≤ 9 then D (j + 1 + 1) else d1)
          rw [if_pos (by omega), if_pos (by omega)]
          obtain ⟨kd', p', k', old', b1, b2, b3, b4, b5⟩ := a1
          have v : ∀ a, 5 ≤ a → a ≤ 8 → lom σ 10 a j = σ a (j + 1) := fun a c1 c2 => if_pos (by omega)
          refine ⟨kd', p', k', old', ?_, ?_, ?_, ?_, b5⟩
          · rw [mup_n (by omega), mup_n (by omega), mup_n (by omega), mup_n (by omega), mup_n (by omega), mup_n (by omega), v 5 (by omega) (by omega)]; exact b1
          · rw [mup_n (by omega), mup_n (by omega), mup_n (by omega), mup_n (by omega), mup_n (by omega), mup_n (by omega), v 6 (by omega) (by omega)]; exact b2
          · rw [mup_n (by omega), mup_n (by omega), mup_n (by omega), mup_n (by omega), mup_n (by omega), mup_n (by omega), v 7 (by omega) (by omega)]; exact b3
          · rw [mup_n (by omega), mup_n (by omega), mup_n (by omega), mup_n (by omega), mup_n (by omega), mup_n (by omega), v 8 (by omega) (by omega)]; exact b4
        · show KVd n sz ev (if j ≤ 9 then D (j + 1) else d1)
          rw [if_pos (by omega)]
          exact a2
        · show BK _ _ n sz (if j ≤ 9 then D (j + 1) else d1)
          rw [if_pos (by omega)]
          refine BK_mv a2 a3 (fun b hb => ?_)
          rw [mup_n (by omega), rcm_out (by omega), mup_n (by omega)]
          unfold shm
          rw [if_pos (by omega), show 147 + 49 * j + b + 49 = 147 + 49 * (j + 1) + b by omega]
    · rw [mup_n (by omega), mup_n (by omega), mup_n (by omega), mup_n (by omega), mup_n (by omega), mup_n (by omega)]
      exact if_neg (by omega)
    · rw [mup_n (by omega), rcm_out (by omega), mup_n (by omega)]
      exact if_neg (by omega)
  · have hu : u < 10 := by omega
    have ea : fX1_add (nI kd) (nI p) (nI k) (nI old) σ = some (mup (mup (mup (mup (mup σ 5 u (nI kd)) 6 u (nI p)) 7 u (nI k)) 8 u (nI old)) 4 0 (nI (u + 1))) := by
      unfold fX1_add
      rw [h2, if_pos (show nI u < (10 : Int32) from nI_lt (b := 10) hu (by omega)), add13 h2 hu]
    have em : fX7_minds ρ = some (mup (rcm 0 (147 + 49 * u) ρ 49) 0 2 (nI (u + 1))) := by
      unfold fX7_minds
      rw [h3, if_neg (show ¬ nI u = (10 : Int32) from fun z => q ((nI_eq (b := 10) (by omega) (by omega)).mp z)), minds54 h3 hu]
    refine ⟨mup (mup (mup (mup (mup σ 5 u (nI kd)) 6 u (nI p)) 7 u (nI k)) 8 u (nI old)) 4 0 (nI (u + 1)), mup (rcm 0 (147 + 49 * u) ρ 49) 0 2 (nI (u + 1)), fun j => if j ≤ u then D j else d1, u + 1, ea, em, if_neg (by omega), ⟨by omega, mup_s _ _ _ _, mup_s _ _ _ _, fun j hj => ?_⟩, fun a b hab => ?_, fun a b hab => ?_⟩
    · by_cases w : j = u
      · subst w
        refine ⟨⟨kd, p, k, old, ?_, ?_, ?_, ?_, hk, hp, ?_⟩, ?_, ?_⟩
        · rw [mup_n (by omega), mup_n (by omega), mup_n (by omega), mup_n (by omega), mup_s]
        · rw [mup_n (by omega), mup_n (by omega), mup_n (by omega), mup_s]
        · rw [mup_n (by omega), mup_n (by omega), mup_s]
        · rw [mup_n (by omega), mup_s]
        · show (if j ≤ j then D j else d1) = undoD kd p k old (if j + 1 ≤ j then D (j + 1) else d1)
          rw [if_pos (by omega), if_neg (by omega)]
          exact hd
        · show KVd n sz ev (if j ≤ j then D j else d1)
          rw [if_pos (by omega)]
          exact hw
        · show BK _ _ n sz (if j ≤ j then D j else d1)
          rw [if_pos (by omega)]
          refine BK_mv hw hb (fun b hb => ?_)
          rw [mup_n (by omega), rcm_in hb]
      · obtain ⟨a1, a2, a3⟩ := h4 j (by omega)
        refine ⟨?_, ?_, ?_⟩
        · show Deed _ n sz j (if j ≤ u then D j else d1) (if j + 1 ≤ u then D (j + 1) else d1)
          rw [if_pos (by omega), if_pos (by omega)]
          refine Deed_fr a1 (fun a c1 c2 => ?_)
          rw [mup_n (by omega), mup_n (by omega), mup_n (by omega), mup_n (by omega), mup_n (by omega)]
        · show KVd n sz ev (if j ≤ u then D j else d1)
          rw [if_pos (by omega)]
          exact a2
        · show BK _ _ n sz (if j ≤ u then D j else d1)
          rw [if_pos (by omega)]
          refine BK_fr a2 a3 (fun b c1 c2 => ?_)
          rw [mup_n (by omega), rcm_out (by omega)]
    · rw [mup_n (by omega), mup_n (by omega), mup_n (by omega), mup_n (by omega), mup_n (by omega)]
    · rw [mup_n (by omega), rcm_out (by omega)]
end DE
