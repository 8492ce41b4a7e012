/-! unseen, counts -/
def alb (P : Nat → Bool) : Nat → Bool
  | 0 => true
  | j + 1 => alb P j && P j
theorem alb_no {P : Nat → Bool} {j : Nat} (h : P j = false) : ∀ {s}, j < s → alb P s = false
  | s + 1, hs => by
    rw [alb]
    by_cases q : j = s
    · subst q; simp [h]
    · rw [alb_no h (by omega)]; rfl
section QU
variable {σ ρ : Mem} {n : Nat} {sz : Nat → Nat} {ev yr : Nat → Nat → Nat} {sb : Nat → Nat} {sl : Nat}
/-- how many knots there were without an entry -/
def knc (n : Nat) (sz : Nat → Nat) (ev yr : Nat → Nat → Nat) (sb : Nat → Nat) (h k : Nat) : Nat := pc8 (knm (acR n sz sb (nI (6 * h + k)) 0) ev yr n)
def usn (n : Nat) (sz : Nat → Nat) (ev yr : Nat → Nat → Nat) (sb : Nat → Nat) (sv : Nat → Int32) (s h k : Nat) : Bool := acN n sz sb h k && alb (fun j => decide (sv j = nI (knc n sz ev yr sb h k))) s
theorem xseem {μ : Mem} {sv : Nat → Int32} {s : Nat} (hv : KV n sz ev yr sb sl) (hx : XChr μ 17 n sz ev yr sb sl) (hs : s ≤ 6) (h1 : μ 0 10 = nI s) (h16 : ∀ j, j < s → μ 16 j = sv j) {h k : Nat} (hh : h < n) (hk : k < sz h) : ∃ μ', fX6_maySeem (nI h) (nI k) μ = some (if usn n sz ev yr sb sv s h k then 1 else 0, μ') ∧ Xsm μ μ' := by
  have hn := hv.1
  have H := KV_H hv hh
  have h64 := HV_sb H
  have h6 := H.1
  unfold fX6_maySeem
  rw [grd_in (by omega) (by omega), nI_clamp (by omega), isStruck_ok (hx.2.2 h hh).2.1 (by omega) (by omega), bi_s, h1]
  by_cases q : (sb h).testBit k = true
  · refine ⟨μ, ?_, Xsm.rf⟩
    rw [if_pos q]
    simp only [one0, if_false]
    have : usn n sz ev yr sb sv s h k = false := by
      unfold usn acN
      simp [acR, q]
    rw [this]; rfl
  · have ha : acN n sz sb h k = true := by
      unfold acN
      rw [acX hv hh k (by omega)]
      simp [a1, q, hk]
    rw [if_neg q]
    simp only [if_true]
    obtain ⟨μ1, x1, x2, x3⟩ := xlookS hv hx hh hk
    have e10 : μ1 0 10 = nI s := by rw [x2 0 10 (by omega) (by omega) (by omega) (by omega) (by omega) (by omega)]; exact h1
    have e16 : ∀ j, j < s → μ1 16 j = sv j := fun j hj => by rw [x2 16 j (by omega) (by omega) (by omega) (by omega) (by omega) (by omega)]; exact h16 j hj
    have kl := knm_lt (ac := acR n sz sb (nI (6 * h + k)) 0) (ev := ev) (yr := yr) (n := n)
    rw [x1, bv_s, x3, bi_s, fJbc _ kl, bi_s]
    have key : fX6_maySeem_54 FU (nI (knc n sz ev yr sb h k)) 0 μ1 = some (if usn n sz ev yr sb sv s h k then 1 else 0, μ1) := by
      have lp : ∀ c j fu, j + c = s → c < fu → alb (fun j => decide (sv j = nI (knc n sz ev yr sb h k))) j = true → fX6_maySeem_54 fu (nI (knc n sz ev yr sb h k)) (nI j) μ1 = some (if usn n sz ev yr sb sv s h k then 1 else 0, μ1) := by
        intro c
        induction c with
        | zero =>
          intro j fu h2 hf hp
          obtain ⟨fu, rfl⟩ : ∃ q, fu = q + 1 := ⟨fu - 1, by omega⟩
          have : j = s := by omega
          subst this
          rw [fX6_maySeem_54, e10, if_pos (nI_le (Nat.le_refl _) (by omega))]
          unfold usn
          rw [ha, hp]; rfl
        | succ c ih =>
          intro j fu h2 hf hp
          obtain ⟨fu, rfl⟩ : ∃ q, fu = q + 1 := ⟨fu - 1, by omega⟩
          rw [fX6_maySeem_54, e10, if_neg (nI_ge (by omega) (by omega)), grd_in (by omega) (by omega), nI_clamp (by omega), e16 j (by omega), nI_1]
          by_cases w : sv j = nI (knc n sz ev yr sb h k)
          · rw [if_pos w]
            exact ih (j + 1) fu (by omega) (by omega) (by rw [alb, hp]; simp [w])
          · rw [if_neg w]
            unfold usn
            rw [alb_no (j := j) (by simp [w]) (by omega)]
            simp
      exact lp s 0 FU (by omega) (by rw [FU_big]; omega) rfl
    have key' : fX6_maySeem_54 FU (nI (fa_cnt (knm (acR n sz sb (nI (6 * h + k)) 0) ev yr n).testBit 8)) 0 μ1 = some (if usn n sz ev yr sb sv s h k then 1 else 0, μ1) := key
    rw [key']
    simp only [nI_z (show s < 2 ^ 31 by omega)]
    by_cases w : s = 0
    · refine ⟨μ, ?_, Xsm.rf⟩
      rw [if_pos w]
      subst w
      unfold usn
      rw [ha]; rfl
    · rw [if_neg w]
      exact ⟨μ1, rfl, x2⟩
theorem RC_lo {μ : Mem} {lo v : Int32} {ho : Nat} (hc : RC μ n sz ev yr sb lo ho) : RC (mup μ 0 19 v) n sz ev yr sb v ho := by
  obtain ⟨h1, h2, h3, h4, h5⟩ := hc
  refine ⟨by rw [mup_n (Or.inr (by omega))]; exact h1, fun h hh => by rw [mup_n (Or.inl (by omega))]; exact h2 h hh, fun h k hh hk => ?_, mup_s _ _ _ _, by rw [mup_n (Or.inr (by omega))]; exact h5⟩
  rw [mup_n (Or.inl (by omega)), mup_n (Or.inl (by omega)), mup_n (Or.inl (by omega))]
  exact h3 h k hh hk
theorem Rsm_lo {μ μ2 : Mem} {v : Int32} (h0 : μ 0 19 = -9) (h : Rsm (mup μ 0 19 v) μ2) : Rsm μ (mup μ2 0 19 (-9)) := fun a b h1 h2 h3 h4 => by
  rw [mup_at]
  split
  · next q => rw [q.1, q.2]; exact h0.symm
  · next q =>
    rw [h a b h1 h2 h3 h4, mup_at, if_neg q]
theorem rseem {μ : Mem} {sv : Nat → Int32} {s : Nat} (hv : KV n sz ev yr sb sl) (hc : RC μ n sz ev yr sb (-9) 0) (hs : s ≤ 6) (h1 : μ 0 4 = nI s) (h3 : ∀ j, j < s → μ 3 j = sv j) {h k : Nat} (hh : h < 4) (hk : k < 6) : ∃ μ', fX7_isUnseen (nI h) (nI k) μ = some (if usn n sz ev yr sb sv s h k then 1 else 0, μ') ∧ Rsm μ μ' := by
  have hn := hv.1
  unfold fX7_isUnseen
  rw [counts_ok hv hc (by omega) hh hk, bi_s]
  by_cases q : acR n sz sb (-9) 0 h k = true
  · rw [if_pos q]
    simp only [one0, if_false]
    have ix2 : (6 : Int32) * nI h + nI k = nI (6 * h + k) := by
      rw [show (6 : Int32) = nI 6 from rfl, pk_mul, nI_add]
    obtain ⟨μ1, x1, x2, -⟩ := R_kn hv (RC_lo (v := nI (6 * h + k)) hc) (by omega)
    have sm : Rsm μ (mup μ1 0 19 (-9)) := Rsm_lo hc.2.2.2.1 x2
    have e4 : mup μ1 0 19 (-9) 0 4 = nI s := by rw [sm 0 4 (by omega) (by omega) (by omega) (by omega)]; exact h1
    have e3 : ∀ j, j < s → mup μ1 0 19 (-9) 3 j = sv j := fun j hj => by rw [sm 3 j (by omega) (by omega) (by omega) (by omega)]; exact h3 j hj
    have kl := knm_lt (ac := acR n sz sb (nI (6 * h + k)) 0) (ev := ev) (yr := yr) (n := n)
    rw [ix2, x1, bm_s, fX7on _ kl, bi_s]
    refine ⟨mup μ1 0 19 (-9), ?_, sm⟩
    have lp : ∀ c j fu, j + c = s → c < fu → fX7_isUnseen_39 fu (if alb (fun j => decide (sv j = nI (knc n sz ev yr sb h k))) j then 1 else 0) (nI (knc n sz ev yr sb h k)) (nI j) (mup μ1 0 19 (-9)) = some (if usn n sz ev yr sb sv s h k then 1 else 0, mup μ1 0 19 (-9)) := by
      intro c
      induction c with
      | zero =>
        intro j fu h2 hf
        obtain ⟨fu, rfl⟩ : ∃ q, fu = q + 1 := ⟨fu - 1, by omega⟩
        have : j = s := by omega
        subst this
        rw [fX7_isUnseen_39, e4, if_pos (nI_le (Nat.le_refl _) (by omega)), g01]
        unfold usn acN
        rw [q]; simp
      | succ c ih =>
        intro j fu h2 hf
        obtain ⟨fu, rfl⟩ : ∃ q, fu = q + 1 := ⟨fu - 1, by omega⟩
        have i2 := ih (j + 1) fu (by omega) (by omega)
        rw [alb] at i2
        rw [← i2, fX7_isUnseen_39, e4, if_neg (nI_ge (by omega) (by omega)), grd_in (by omega) (by omega), nI_clamp (by omega), e3 j (by omega), nI_1]
        by_cases w0 : alb (fun j => decide (sv j = nI (knc n sz ev yr sb h k))) j = true
        · by_cases w : sv j = nI (knc n sz ev yr sb h k)
          · simp [w0, w]
          · simp [w0, w]
        · simp [w0]
    exact lp s 0 FU (by omega) (by rw [FU_big]; omega)
  · refine ⟨μ, ?_, Rsm.rf⟩
    rw [if_neg q]
    simp only [if_true]
    have : usn n sz ev yr sb sv s h k = false := by unfold usn acN; simp [q]
    rw [this]
    simp only [true_or, grd_t]
    rfl
/-- entries by number, as one row of 24 -/
def u24 (n : Nat) (sz : Nat → Nat) (ev yr : Nat → Nat → Nat) (sb : Nat → Nat) (sv : Nat → Int32) (s t : Nat) : Bool := usn n sz ev yr sb sv s (t / 6) (t % 6)
def vl (t : Nat) : Int32 := nI (10 * (t / 6) + t % 6)
def fv (u : Nat → Bool) (x : Nat) : Int32 := if fa_first u x < x then vl (fa_first u x) else -9
def sfx (u : Nat → Bool) : Nat → Nat × Int32
  | 0 => (0, -9)
  | d + 1 => if u (23 - d) then ((sfx u d).1 + 1, vl (23 - d)) else sfx u d
theorem sfx_ok (u : Nat → Bool) : ∀ d, d ≤ 24 → (sfx u d).1 + fa_cnt u (24 - d) = fa_cnt u 24 ∧ (if fa_first u (24 - d) < 24 - d then vl (fa_first u (24 - d)) else (sfx u d).2) = fv u 24
  | 0, _ => ⟨by simp [sfx], rfl⟩
  | d + 1, h => by
    obtain ⟨i1, i2⟩ := sfx_ok u d (by omega)
    have e : 24 - d = (24 - (d + 1)) + 1 := by omega
    have e3 : 23 - d = 24 - (d + 1) := by omega
    rw [e] at i1 i2
    rw [sfx, e3]
    by_cases q : u (24 - (d + 1)) = true
    · rw [fa_cnt_yes q] at i1
      refine ⟨by simp only [q, if_true]; omega, ?_⟩
      rw [← i2, fa_first]
      by_cases w : fa_first u (24 - (d + 1)) < 24 - (d + 1)
      · simp only [w, if_true]
        rw [if_pos (by omega)]
      · simp only [w, if_false, q, if_true]
        rw [if_pos (by omega)]
    · rw [fa_cnt_no (by simpa using q)] at i1
      refine ⟨by simp only [q, Bool.false_eq_true, if_false]; exact i1, ?_⟩
      rw [← i2, fa_first]
      by_cases w : fa_first u (24 - (d + 1)) < 24 - (d + 1)
      · simp only [w, if_true]
        rw [if_pos (by omega)]
      · simp only [w, if_false, q, Bool.false_eq_true]
        rw [if_neg (by omega)]
theorem sfx_end (u : Nat → Bool) : sfx u 24 = (fa_cnt u 24, fv u 24) := by
  obtain ⟨h1, h2⟩ := sfx_ok u 24 (by omega)
  have e : fa_cnt u 0 = 0 := rfl
  generalize sfx u 24 = p at h1 h2 ⊢
  generalize fa_cnt u 24 = q at h1 ⊢
  generalize fv u 24 = r at h2 ⊢
  simp only [Nat.sub_self, e, Nat.not_lt_zero, if_false] at h1 h2
  exact Prod.ext (by simpa using h1) h2
theorem runseen {μ : Mem} {sv : Nat → Int32} {s : Nat} (hv : KV n sz ev yr sb sl) (hc : RC μ n sz ev yr sb (-9) 0) (hs : s ≤ 6) (h1 : μ 0 4 = nI s) (h3 : ∀ j, j < s → μ 3 j = sv j) (w : Int32) : ∃ μ', fX7_unseen_21 FU w 0 (-9) 23 μ = some (if w = 0 then nI (fa_cnt (u24 n sz ev yr sb sv s) 24) else fv (u24 n sz ev yr sb sv s) 24, μ') ∧ Rsm μ μ' := by
  have key : ∀ c d fu (ν : Mem), d + c = 24 → c < fu → Rsm μ ν → ∃ ν', fX7_unseen_21 fu w (nI (sfx (u24 n sz ev yr sb sv s) d).1) (sfx (u24 n sz ev yr sb sv s) d).2 (nI (24 - d) - 1) ν = some (if w = 0 then nI (fa_cnt (u24 n sz ev yr sb sv s) 24) else fv (u24 n sz ev yr sb sv s) 24, ν') ∧ Rsm μ ν' := by
    intro c
    induction c with
    | zero =>
      intro d fu ν h2 hf sm
      obtain ⟨fu, rfl⟩ : ∃ q, fu = q + 1 := ⟨fu - 1, by omega⟩
      have : d = 24 := by omega
      subst this
      refine ⟨ν, ?_, sm⟩
      rw [fX7_unseen_21, if_pos (by decide), sfx_end]
      by_cases q : w = 0
      · simp only [q, if_true]
      · simp only [q, if_false]
    | succ c ih =>
      intro d fu ν h2 hf sm
      obtain ⟨fu, rfl⟩ : ∃ q, fu = q + 1 := ⟨fu - 1, by omega⟩
      have e1 : nI (24 - d) - 1 = nI (23 - d) := by rw [show 24 - d = (23 - d) + 1 by omega]; exact nI_pred _
      have d1 : nI (23 - d) / (6 : Int32) = nI ((23 - d) / 6) := pk_div (d := 6) (by omega) (by omega) (by omega)
      have d2 : nI (23 - d) - nI (23 - d) / (6 : Int32) * (6 : Int32) = nI ((23 - d) % 6) := pk_rem (d := 6) (by omega) (by omega) (by omega)
      obtain ⟨ν1, x1, x2⟩ := rseem (sv := sv) hv (RC_sm sm hc) hs (by rw [sm 0 4 (by omega) (by omega) (by omega) (by omega)]; exact h1) (fun j hj => by rw [sm 3 j (by omega) (by omega) (by omega) (by omega)]; exact h3 j hj) (h := (23 - d) / 6) (k := (23 - d) % 6) (by omega) (by omega)
      obtain ⟨ν2, y1, y2⟩ := ih (d + 1) fu ν1 (by omega) (by omega) (Rsm.tr sm x2)
      have e4 : nI (23 - d) + (-1) = nI (24 - (d + 1)) - 1 := by
        rw [show 24 - (d + 1) = 23 - d by omega]
        apply Int32.toInt_inj.mp
        rw [fb_addI, fb_subI, nI_toInt (by omega), show (-1 : Int32).toInt = -1 from rfl, show (1 : Int32).toInt = 1 from rfl]
        · omega
        all_goals (rw [nI_toInt (by omega)]; first | rw [show (-1 : Int32).toInt = -1 from rfl] | rw [show (1 : Int32).toInt = 1 from rfl]); omega
      refine ⟨ν2, ?_, y2⟩
      rw [← y1, e1, fX7_unseen_21, if_neg (nI_pos (by omega)), d2, d1, x1, bm_s, e4, nI_1]
      have hu : usn n sz ev yr sb sv s ((23 - d) / 6) ((23 - d) % 6) = u24 n sz ev yr sb sv s (23 - d) := rfl
      rw [hu, sfx]
      have ev' : nI ((23 - d) / 6) * (10 : Int32) + nI ((23 - d) % 6) = vl (23 - d) := by
        rw [show (10 : Int32) = nI 10 from rfl, pk_mul, nI_add]
        unfold vl
        congr 1
        omega
      rw [ev']
      by_cases q : u24 n sz ev yr sb sv s (23 - d) = true
      · simp only [q, if_true, one0, if_false]
      · simp only [q, Bool.false_eq_true, if_false, if_true]
  obtain ⟨ν', e, sm⟩ := key 24 0 FU μ (by omega) (by rw [FU_big]; omega) Rsm.rf
  exact ⟨ν', e, sm⟩
end QU
