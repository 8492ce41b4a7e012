/-! common events of two houses -/
def oI (z : Int) : Int32 := Int32.ofInt z
theorem oI_t {z : Int} (h : -1000 ≤ z ∧ z ≤ 1000) : (oI z).toInt = z := fb_ofI (by omega) (by omega)
theorem oI_sub {a b : Nat} (ha : a < 1000) (hb : b < 1000) : nI a - nI b = oI ((a : Int) - b) := by
  apply Int32.toInt_inj.mp
  rw [pk_sub_toInt (by omega) (by omega), oI_t (by omega)]
def cml (ac : Nat → Nat → Bool) (ev yr : Nat → Nat → Nat) (p q : Nat) : Nat → List (Nat × Int)
  | 0 => []
  | k + 1 => if (ac p k && decide (plc ac ev q (ev p k) < 6)) = true then cml ac ev yr p q k ++ [(ev p k, (yr q (plc ac ev q (ev p k)) : Int) - yr p k)] else cml ac ev yr p q k
theorem cml_len (ac : Nat → Nat → Bool) (ev yr : Nat → Nat → Nat) (p q : Nat) : ∀ k, (cml ac ev yr p q k).length ≤ k
  | 0 => Nat.le_refl 0
  | k + 1 => by
    have := cml_len ac ev yr p q k
    unfold cml
    split
    · rw [List.length_append]; simp; omega
    · omega
def bthm (i1 i2 : Nat) (ρ : Mem) (L : List (Nat × Int)) : Mem := fun a b => if b < L.length ∧ a = i1 then nI (L.getD b (0, 0)).1 else if b < L.length ∧ a = i2 then oI (L.getD b (0, 0)).2 else ρ a b
theorem bthm_nil {i1 i2 : Nat} {ρ : Mem} : bthm i1 i2 ρ [] = ρ := by
  funext a b
  simp [bthm]
theorem getD_app {L : List (Nat × Int)} {x : Nat × Int} {b : Nat} : (L ++ [x]).getD b (0, 0) = if b < L.length then L.getD b (0, 0) else if b = L.length then x else (0, 0) := by
  simp only [List.getD_eq_getElem?_getD]
  by_cases h : b < L.length
  · rw [if_pos h, List.getElem?_append_left h]
  · rw [if_neg h, List.getElem?_append_right (by omega)]
    by_cases q : b = L.length
    · subst q; simp
    · rw [if_neg q]
      have : ([x] : List (Nat × Int))[b - L.length]? = none := List.getElem?_eq_none (by simp; omega)
      rw [this]; rfl
theorem bthm_next {i1 i2 : Nat} {ρ : Mem} {L : List (Nat × Int)} {e : Nat} {z : Int} (h12 : i1 ≠ i2) : mup (mup (bthm i1 i2 ρ L) i1 L.length (nI e)) i2 L.length (oI z) = bthm i1 i2 ρ (L ++ [(e, z)]) := by
  funext a b
  simp only [mup_at, bthm, List.length_append, List.length_cons, List.length_nil, getD_app]
  by_cases h1 : a = i1
  · subst h1
    by_cases h2 : b < L.length
    · simp [h2, h12, show ¬ b = L.length by omega, show b < L.length + 1 by omega]
    · by_cases h3 : b = L.length
      · simp [h3, h12]
      · simp [h2, h3, show ¬ b < L.length + 1 by omega]
  · by_cases h1' : a = i2
    · subst h1'
      by_cases h2 : b < L.length
      · simp [h2, h1, show ¬ b = L.length by omega, show b < L.length + 1 by omega]
      · by_cases h3 : b = L.length
        · simp [h3, h1]
        · simp [h2, h3, h1, show ¬ b < L.length + 1 by omega]
    · simp [h1, h1']
theorem bthm_e {i1 i2 : Nat} {ρ : Mem} {L : List (Nat × Int)} {b : Nat} (h : b < L.length) : bthm i1 i2 ρ L i1 b = nI (L.getD b (0, 0)).1 := if_pos ⟨h, rfl⟩
theorem bthm_o {i1 i2 : Nat} {ρ : Mem} {L : List (Nat × Int)} {b : Nat} (h12 : i1 ≠ i2) (h : b < L.length) : bthm i1 i2 ρ L i2 b = oI (L.getD b (0, 0)).2 := by
  unfold bthm
  rw [if_neg (fun q => h12 q.2.symm), if_pos ⟨h, rfl⟩]
theorem bthm_x {i1 i2 : Nat} {ρ : Mem} {L : List (Nat × Int)} {a b : Nat} (h1 : a ≠ i1) (h2 : a ≠ i2) : bthm i1 i2 ρ L a b = ρ a b := by
  unfold bthm
  rw [if_neg (fun q => h1 q.2), if_neg (fun q => h2 q.2)]
/-- the reference's own scratch may differ -/
def Rsm (ρ ρ' : Mem) : Prop := ∀ a b, a ≠ 10 → a ≠ 11 → a ≠ 12 → ¬ (a = 0 ∧ b = 24) → ρ' a b = ρ a b
theorem Rsm.rf {ρ : Mem} : Rsm ρ ρ := fun _ _ _ _ _ _ => rfl
theorem Rsm.tr {ρ ρ' ρ'' : Mem} (h : Rsm ρ ρ') (h' : Rsm ρ' ρ'') : Rsm ρ ρ'' := fun a b h1 h2 h3 h4 => (h' a b h1 h2 h3 h4).trans (h a b h1 h2 h3 h4)
theorem Rsm_chm {ρ : Mem} {c : Nat → Nat} {k : Nat} : Rsm ρ (chm 10 ρ c k) := fun a b h1 _ _ _ => chm_out h1
theorem Rsm_bth {ρ : Mem} {L : List (Nat × Int)} : Rsm ρ (bthm 11 12 ρ L) := fun a b _ h2 h3 _ => bthm_x h2 h3
theorem Rsm_low {ρ : Mem} {v : Int32} : Rsm ρ (mup ρ 0 24 v) := fun a b _ _ _ h4 => mup_n (by omega)
theorem Rsm_11 {ρ : Mem} {j : Nat} {v : Int32} : Rsm ρ (mup ρ 11 j v) := fun a b _ h2 _ _ => mup_n (Or.inl h2)
theorem RC_sm {ρ ρ' : Mem} {n : Nat} {sz : Nat → Nat} {ev yr : Nat → Nat → Nat} {sb : Nat → Nat} {lo : Int32} {ho : Nat} (hs : Rsm ρ ρ') (hc : RC ρ n sz ev yr sb lo ho) : RC ρ' n sz ev yr sb lo ho := by
  obtain ⟨h1, h2, h3, h4, h5⟩ := hc
  refine ⟨by rw [hs 0 7 (by omega) (by omega) (by omega) (by omega)]; exact h1, fun h hh => by rw [hs 5 h (by omega) (by omega) (by omega) (by omega)]; exact h2 h hh, fun h k hh hk => ?_, by rw [hs 0 19 (by omega) (by omega) (by omega) (by omega)]; exact h4, by rw [hs 0 20 (by omega) (by omega) (by omega) (by omega)]; exact h5⟩
  rw [hs 6 _ (by omega) (by omega) (by omega) (by omega), hs 1 _ (by omega) (by omega) (by omega) (by omega), hs 1 _ (by omega) (by omega) (by omega) (by omega)]
  exact h3 h k hh hk
theorem both_ok {ρ : Mem} {n : Nat} {sz : Nat → Nat} {ev yr : Nat → Nat → Nat} {sb : Nat → Nat} {sl : Nat} {lo : Int32} {ho : Nat} (hv : KV n sz ev yr sb sl) (hc : RC ρ n sz ev yr sb lo ho) (hho : ho < 16) {p q : Nat} (hp : p < 4) (hq : q < 4) :
    fX7_both (nI p) (nI q) ρ = some (nI (cml (acR n sz sb lo ho) ev yr p q 6).length, bthm 11 12 ρ (cml (acR n sz sb lo ho) ev yr p q 6)) := by
  unfold fX7_both
  have st0 : fX7_both_5 FU (nI p) (nI q) (0 : Int32) (0 : Int32) ρ = fX7_both_5 FU (nI p) (nI q) (nI ([] : List (Nat × Int)).length) (nI 0) (bthm 11 12 ρ []) := by rw [bthm_nil]; rfl
  rw [st0]
  refine loop1 (fun fu k (L : List (Nat × Int)) => fX7_both_5 fu (nI p) (nI q) (nI L.length) (nI k) (bthm 11 12 ρ L)) 6 (fun k => cml (acR n sz sb lo ho) ev yr p q k) (fun fu => ?_) (fun fu k hk => ?_) (by rw [FU_big]; omega)
  · show fX7_both_5 _ _ _ _ _ _ = _
    rw [fX7_both_5, if_pos (by decide)]
  · show fX7_both_5 _ _ _ _ _ _ = fX7_both_5 _ _ _ _ _ _
    have hlen := cml_len (acR n sz sb lo ho) ev yr p q k
    have hc1 : RC (bthm 11 12 ρ (cml (acR n sz sb lo ho) ev yr p q k)) n sz ev yr sb lo ho := RC_sm Rsm_bth hc
    rw [fX7_both_5, if_neg (nle6 hk), counts_ok hv hc1 hho hp hk, bi_s]
    by_cases w : acR n sz sb lo ho p k = true
    · obtain ⟨w1, w2⟩ := acR_in w
      obtain ⟨e1, e2, e3⟩ := hc1.2.2.1 p k w1 w2
      obtain ⟨b1, b2⟩ := hv.2.2.1 p k w1 w2
      have hs := (hv.2.1 p w1).1
      have ix2 : (6 : Int32) * nI p + nI k = nI (6 * p + k) := by
        rw [show (6 : Int32) = nI 6 from rfl, pk_mul, nI_add]
      have ix : (1 : Int32) + ((6 : Int32) * nI p + nI k) = nI (1 + (6 * p + k)) := by
        rw [ix2, show (1 : Int32) = nI 1 from rfl, nI_add]
      rw [if_pos w, if_neg (by decide), ix, ix2]
      simp only [grd_in (show 6 * p + k < 24 by omega) (show 24 < 2 ^ 31 by omega), grd_in (show 1 + (6 * p + k) < 637 by omega) (show 637 < 2 ^ 31 by omega), grd_in (show (cml (acR n sz sb lo ho) ev yr p q k).length < 6 by omega) (show 6 < 2 ^ 31 by omega)]
      simp only [nI_clamp (show 6 * p + k < 2 ^ 31 by omega), nI_clamp (show 1 + (6 * p + k) < 2 ^ 31 by omega), nI_clamp (show (cml (acR n sz sb lo ho) ev yr p q k).length < 2 ^ 31 by omega)]
      rw [e1, yearIn_ok hv hc1 hho hq b1, bi_s, mup_n (Or.inl (by omega)), e1, yearIn_ok hv (RC_sm Rsm_11 hc1) hho hq b1, bi_s, mup_n (Or.inl (by omega)), show 1 + (6 * p + k) = 1 + 6 * p + k by omega, e2, nI_1, nI_1]
      by_cases w3 : plc (acR n sz sb lo ho) ev q (ev p k) < 6
      · have y := yr_small hv w3
        rw [if_pos w3, if_neg (nI_pos (by omega)), oI_sub (by omega) (by omega), bthm_next (by omega)]
        simp only [cml, w, w3, decide_true, Bool.and_self, if_true, List.length_append, List.length_cons, List.length_nil]
      · rw [if_neg w3, if_pos neg9]
        simp only [cml, w, w3, decide_false, Bool.and_false, Bool.false_eq_true, if_false]
    · rw [if_neg w, if_pos rfl, nI_1]
      simp only [Bool.not_eq_true] at w
      simp only [cml, w, Bool.false_and, Bool.false_eq_true, if_false]
