/-! the class's pair; spans -/
def xpm (σ : Mem) (L : List (Nat × Int)) : Mem := mup (bthm 10 11 σ L) 9 2 (nI L.length)
theorem xpm_n {σ : Mem} {L : List (Nat × Int)} : xpm σ L 9 2 = nI L.length := mup_s _ _ _ _
theorem xpm_e {σ : Mem} {L : List (Nat × Int)} {b : Nat} (h : b < L.length) : xpm σ L 10 b = nI (L.getD b (0, 0)).1 := by
  unfold xpm; rw [mup_n (Or.inl (by omega)), bthm_e h]
theorem xpm_o {σ : Mem} {L : List (Nat × Int)} {b : Nat} (h : b < L.length) : xpm σ L 11 b = oI (L.getD b (0, 0)).2 := by
  unfold xpm; rw [mup_n (Or.inl (by omega)), bthm_o (by omega) h]
theorem xpm_x {σ : Mem} {L : List (Nat × Int)} {a b : Nat} (h0 : a ≠ 9) (h1 : a ≠ 10) (h2 : a ≠ 11) : xpm σ L a b = σ a b := by
  unfold xpm; rw [mup_n (Or.inl h0), bthm_x h1 h2]
theorem xpm_next {σ : Mem} {L : List (Nat × Int)} {e : Nat} {z : Int} : mup (mup (mup (xpm σ L) 10 L.length (nI e)) 11 L.length (oI z)) 9 2 (nI (L.length + 1)) = xpm σ (L ++ [(e, z)]) := by
  unfold xpm
  rw [← bthm_next (by omega), List.length_append]
  funext a b
  simp only [mup_at, List.length_cons, List.length_nil]
  by_cases h : a = 9 ∧ b = 2
  · simp [h]
  · simp [h]
theorem cml_stop {ac : Nat → Nat → Bool} {ev yr : Nat → Nat → Nat} {p q s : Nat} (h : ∀ k, s ≤ k → ac p k = false) : ∀ d, cml ac ev yr p q (s + d) = cml ac ev yr p q s
  | 0 => rfl
  | d + 1 => by
    rw [show s + (d + 1) = (s + d) + 1 by omega, cml, h (s + d) (by omega)]
    simp only [Bool.false_and, Bool.false_eq_true, if_false]
    exact cml_stop h d
theorem acX {n : Nat} {sz : Nat → Nat} {ev yr : Nat → Nat → Nat} {sb : Nat → Nat} {sl : Nat} (hv : KV n sz ev yr sb sl) {h : Nat} (hh : h < n) : ∀ k, k < 6 → acR n sz sb (-9) 0 h k = a1 (sz h) (sb h) k := by
  intro k hk
  have hn := hv.1
  have := m9_ne (k := 6 * h + k) (by omega)
  simp [acR, a1, hh, this]
theorem xh_xpm {σ : Mem} {L : List (Nat × Int)} {h sz sb : Nat} {ev yr : Nat → Nat} (h17 : 17 ≤ h) (hx : XH σ h sz ev yr sb) : XH (xpm σ L) h sz ev yr sb := by
  obtain ⟨a, b, c, d⟩ := hx
  exact ⟨by rw [xpm_x (by omega) (by omega) (by omega)]; exact a, by rw [xpm_x (by omega) (by omega) (by omega)]; exact b, fun k hk => by rw [xpm_x (by omega) (by omega) (by omega)]; exact c k hk, fun k hk => by rw [xpm_x (by omega) (by omega) (by omega)]; exact d k hk⟩
theorem join_ok {σ : Mem} {c n : Nat} {sz : Nat → Nat} {ev yr : Nat → Nat → Nat} {sb : Nat → Nat} {sl : Nat} (hv : KV n sz ev yr sb sl) (hc : 17 ≤ c) (hx : XChr σ c n sz ev yr sb sl) {p q : Nat} (hp : p < n) (hq : q < n) :
    fX4_join (c + 2 + 3 * p) (c + 2 + 3 * q) σ = some (xpm σ (cml (acR n sz sb (-9) 0) ev yr p q 6)) := by
  have hn := hv.1
  have Hp := KV_H hv hp
  have Hq := KV_H hv hq
  have hs := Hp.1
  have hsq := Hq.1
  have h64 := HV_sb Hp
  have hst : cml (acR n sz sb (-9) 0) ev yr p q 6 = cml (acR n sz sb (-9) 0) ev yr p q (sz p) := by
    rw [show (6 : Nat) = sz p + (6 - sz p) by omega]
    exact cml_stop (fun k hk => by simp [acR, show ¬ k < sz p by omega]) _
  rw [hst]
  unfold fX4_join
  have st0 : mup σ 9 2 0 = xpm σ [] := by unfold xpm; rw [bthm_nil]; rfl
  rw [st0]
  refine loop1 (fun fu k (L : List (Nat × Int)) => fX4_join_7 (c + 2 + 3 * p) (c + 2 + 3 * q) fu (nI k) (xpm σ L)) (sz p) (fun k => cml (acR n sz sb (-9) 0) ev yr p q k) (fun fu => ?_) (fun fu k hk => ?_) (by rw [FU_big]; omega)
  · show fX4_join_7 _ _ _ _ _ = _
    rw [fX4_join_7, (xh_xpm (by omega) (hx.2.2 p hp)).1, if_pos (nI_le (Nat.le_refl _) (by omega))]
  · show fX4_join_7 _ _ _ _ _ = fX4_join_7 _ _ _ _ _
    have hlen := cml_len (acR n sz sb (-9) 0) ev yr p q k
    have X1 := xh_xpm (L := cml (acR n sz sb (-9) 0) ev yr p q k) (by omega) (hx.2.2 p hp)
    have X2 := xh_xpm (L := cml (acR n sz sb (-9) 0) ev yr p q k) (by omega) (hx.2.2 q hq)
    obtain ⟨b1, b2⟩ := Hp.2.2.1 k hk
    rw [fX4_join_7, X1.1, if_neg (nI_ge hk (by omega)), isStruck_ok X1.2.1 (by omega) (by omega), bi_s, grd_in (by omega) (by omega), nI_clamp (by omega), X1.2.2.1 k hk, placeOf_ok Hq X2 (by omega), bi_s]
    have ep : plc (acR n sz sb (-9) 0) ev q (ev p k) = pl1 (a1 (sz q) (sb q)) (ev q) (ev p k) := plc_pl1 (acX hv hq) _
    by_cases w : (sb p).testBit k = true
    · have wf : acR n sz sb (-9) 0 p k = false := by simp [acR, w]
      rw [if_pos w, if_neg (by decide), fX4_join_37, if_pos (by decide), nI_1]
      simp only [cml, wf, Bool.false_and, Bool.false_eq_true, if_false]
    · have wt : acR n sz sb (-9) 0 p k = true := by
        rw [acX hv hp k (by omega)]
        simp [a1, w, hk]
      rw [if_neg w, if_pos rfl, fX4_join_37, nI_1]
      by_cases w3 : plc (acR n sz sb (-9) 0) ev q (ev p k) < 6
      · have w4 := w3
        rw [ep] at w4
        obtain ⟨v1, v2⟩ := pl1_in w4
        simp only [a1, Bool.and_eq_true, decide_eq_true_eq] at v1
        have b3 := (Hq.2.2.1 _ v1.1).2
        rw [if_pos w4, if_neg (nI_pos (by omega))]
        simp only [grd_in (show k < 6 by omega) (show 6 < 2 ^ 31 by omega), grd_in w4 (show 6 < 2 ^ 31 by omega), xpm_n]
        simp only [grd_in (show (cml (acR n sz sb (-9) 0) ev yr p q k).length < 6 by omega) (show 6 < 2 ^ 31 by omega)]
        simp only [nI_clamp (show k < 2 ^ 31 by omega), nI_clamp (show (cml (acR n sz sb (-9) 0) ev yr p q k).length < 2 ^ 31 by omega), nI_clamp (show pl1 (a1 (sz q) (sb q)) (ev q) (ev p k) < 2 ^ 31 by omega)]
        rw [X1.2.2.1 k hk, mup_n (a := 9) (Or.inl (by omega)), xpm_n]
        simp only [grd_in (show (cml (acR n sz sb (-9) 0) ev yr p q k).length < 6 by omega) (show 6 < 2 ^ 31 by omega)]
        rw [nI_clamp (show (cml (acR n sz sb (-9) 0) ev yr p q k).length < 2 ^ 31 by omega), mup_n (a := c + 2 + 3 * q + 2) (Or.inl (by omega)), mup_n (a := c + 2 + 3 * p + 2) (Or.inl (by omega)), X2.2.2.2 _ v1.1, X1.2.2.2 k hk, oI_sub (by omega) (by omega), mup_n (a := 9) (Or.inl (by omega)), mup_n (a := 9) (Or.inl (by omega)), xpm_n, nI_1, xpm_next]
        simp only [cml, wt, ep, w4, decide_true, Bool.and_self, if_true]
      · have w4 := w3
        rw [ep] at w4
        rw [if_neg w4, if_pos (by decide)]
        simp only [cml, wt, w3, decide_false, Bool.and_false, Bool.false_eq_true, if_false]
/-! spans of a row of offsets -/
def mnI (a b : Int) : Int := if b < a then b else a
def mxI (a b : Int) : Int := if a < b then b else a
def sgo (off : Nat → Int) (N : Nat) (sl : Int) : Nat → Nat → Int → Int → Nat × Int
  | 0, k, lo, _ => (k, lo)
  | c + 1, k, lo, hi => if k < N ∧ off k - lo ≤ sl ∧ hi - off k ≤ sl then sgo off N sl c (k + 1) (mnI lo (off k)) (mxI hi (off k)) else (k, lo)
def spe (off : Nat → Int) (N : Nat) (sl : Int) (f : Nat) : Nat × Int := sgo off N sl N (f + 1) (off f) (off f)
def bd (z : Int) : Prop := -99 ≤ z ∧ z ≤ 99
theorem oI_le {a b : Int} (ha : bd a) (hb : bd b) : oI a ≤ oI b ↔ a ≤ b := by
  unfold bd at *
  rw [fa_le, oI_t (by omega), oI_t (by omega)]
theorem oI_lt {a b : Int} (ha : bd a) (hb : bd b) : oI a < oI b ↔ a < b := by
  unfold bd at *
  rw [fa_lt, oI_t (by omega), oI_t (by omega)]
theorem oI_eq {a b : Int} (ha : bd a) (hb : bd b) : oI a = oI b ↔ a = b := by
  unfold bd at *
  rw [fa_eq, oI_t (by omega), oI_t (by omega)]
theorem oI_d {a b : Int} (ha : bd a) (hb : bd b) : (oI a - oI b).toInt = a - b := by
  unfold bd at *
  rw [fb_subI, oI_t (by omega), oI_t (by omega)] <;> rw [oI_t (by omega), oI_t (by omega)] <;> omega
theorem lt_d {s : Nat} {a b : Int} (hs : s < 1000) (ha : bd a) (hb : bd b) : nI s < oI a - oI b ↔ (s : Int) < a - b := by
  rw [fa_lt, oI_d ha hb, nI_toInt (by omega)]
theorem d_le {s : Nat} {a b : Int} (hs : s < 1000) (ha : bd a) (hb : bd b) : oI a - oI b ≤ nI s ↔ a - b ≤ (s : Int) := by
  rw [fa_le, oI_d ha hb, nI_toInt (by omega)]
theorem bd_mn {a b : Int} (ha : bd a) (hb : bd b) : bd (mnI a b) := by unfold mnI; split <;> assumption
theorem bd_mx {a b : Int} (ha : bd a) (hb : bd b) : bd (mxI a b) := by unfold mxI; split <;> assumption
theorem oI_mn {a b : Int} (ha : bd a) (hb : bd b) : (if oI b < oI a then oI b else oI a) = oI (mnI a b) := by
  unfold mnI
  by_cases h : b < a
  · rw [if_pos ((oI_lt hb ha).mpr h), if_pos h]
  · rw [if_neg (fun q => h ((oI_lt hb ha).mp q)), if_neg h]
theorem oI_mx {a b : Int} (ha : bd a) (hb : bd b) : (if oI a < oI b then oI b else oI a) = oI (mxI a b) := by
  unfold mxI
  by_cases h : a < b
  · rw [if_pos ((oI_lt ha hb).mpr h), if_pos h]
  · rw [if_neg (fun q => h ((oI_lt ha hb).mp q)), if_neg h]
theorem mup_mup (σ : Mem) (k j : Nat) (v w : Int32) : mup (mup σ k j v) k j w = mup σ k j w := by
  funext a b
  simp only [mup_at]
  by_cases h : a = k ∧ b = j
  · simp [h]
  · simp [h]
section SP
variable {off : Nat → Int} {N sl : Nat}
theorem rspan_go {τ : Mem} (hN : N ≤ 6) (hsl : sl ≤ 9) (hb : ∀ i, i < N → bd (off i)) (h12 : ∀ i, i < N → τ 12 i = oI (off i)) (h1 : τ 1 0 = nI sl) :
    ∀ (c k fu : Nat) (lo hi : Int), c < fu → k ≤ N → N ≤ k + c → bd lo → bd hi → fX7_spanEnd_17 fu (nI N) (oI hi) (nI k) (mup τ 0 24 (oI lo)) = some (nI (sgo off N sl c k lo hi).1, mup τ 0 24 (oI (sgo off N sl c k lo hi).2)) := by
  intro c
  induction c with
  | zero =>
    intro k fu lo hi hf h2 h3 hlo hhi
    obtain ⟨fu, rfl⟩ : ∃ q, fu = q + 1 := ⟨fu - 1, by omega⟩
    rw [fX7_spanEnd_17, if_pos (nI_le (by omega) (by omega))]
    rfl
  | succ c ih =>
    intro k fu lo hi hf h2 h3 hlo hhi
    obtain ⟨fu, rfl⟩ : ∃ q, fu = q + 1 := ⟨fu - 1, by omega⟩
    rw [fX7_spanEnd_17, sgo]
    by_cases q : k < N
    · have b := hb k q
      have z0 : (0 : Int32).toNatClampNeg = 0 := rfl
      rw [if_neg (nI_ge q (by omega))]
      simp only [fX7_spanEnd_91, grd_in (show k < 6 by omega) (show 6 < 2 ^ 31 by omega), grd_t (show ¬ ((0 : Int32) < 0 ∨ 637 ≤ (0 : Int32).toNatClampNeg) by decide)]
      simp only [z0, nI_clamp (show k < 2 ^ 31 by omega), mup_mup, mup_s, mup_n (σ := τ) (k := 0) (j := 24) (a := 1) (b := 0) (Or.inl (by omega)), mup_n (σ := τ) (k := 0) (j := 24) (a := 12) (b := k) (Or.inl (by omega)), h12 k q, h1, nI_1]
      simp only [lt_d (show sl < 1000 by omega) b hlo, lt_d (show sl < 1000 by omega) hhi b, oI_le hlo b, oI_le b hhi]
      by_cases q1 : (sl : Int) < off k - lo
      · rw [if_pos q1, if_neg (by omega)]
      · rw [if_neg q1]
        by_cases q2 : (sl : Int) < hi - off k
        · rw [if_pos q2, if_neg (by omega)]
        · rw [if_neg q2, if_pos (show k < N ∧ off k - lo ≤ (sl : Int) ∧ hi - off k ≤ (sl : Int) from ⟨q, by omega, by omega⟩)]
          have r := ih (k + 1) fu (mnI lo (off k)) (mxI hi (off k)) (by omega) (by omega) (by omega) (bd_mn hlo b) (bd_mx hhi b)
          rw [← r]
          unfold mnI mxI
          by_cases q3 : lo ≤ off k
          · rw [if_pos q3, if_neg (show ¬ off k < lo by omega)]
            by_cases q4 : off k ≤ hi
            · rw [if_pos q4, if_neg (show ¬ hi < off k by omega)]
            · rw [if_neg q4, if_pos (show hi < off k by omega)]
          · rw [if_neg q3, if_pos (show off k < lo by omega)]
            by_cases q4 : off k ≤ hi
            · rw [if_pos q4, if_neg (show ¬ hi < off k by omega)]
            · rw [if_neg q4, if_pos (show hi < off k by omega)]
    · rw [if_pos (nI_le (by omega) (by omega)), if_neg (fun z => q z.1)]
theorem rspan_ok {τ : Mem} (hN : N ≤ 6) (hsl : sl ≤ 9) (hb : ∀ i, i < N → bd (off i)) (h12 : ∀ i, i < N → τ 12 i = oI (off i)) (h1 : τ 1 0 = nI sl) {f : Nat} (hf : f < N) :
    fX7_spanEnd (nI f) (nI N) τ = some (nI (spe off N sl f).1, mup τ 0 24 (oI (spe off N sl f).2)) := by
  unfold fX7_spanEnd spe
  rw [grd_in (by omega) (by omega), nI_clamp (by omega), h12 f hf, nI_1]
  exact rspan_go hN hsl hb h12 h1 N (f + 1) FU (off f) (off f) (by rw [FU_big]; omega) (by omega) (by omega) (hb f hf) (hb f hf)
theorem xspan_go {σ : Mem} (hN : N ≤ 6) (hsl : sl ≤ 9) (hb : ∀ i, i < N → bd (off i)) (h11 : ∀ i, i < N → σ 11 i = oI (off i)) (h9 : σ 9 2 = nI N) :
    ∀ (c k fu : Nat) (lo hi : Int), c < fu → k ≤ N → N ≤ k + c → bd lo → bd hi → hi - lo ≤ sl → fX4_spanEnd_20 σ fu (nI sl) (oI lo) (oI hi) (nI k) = some (nI (sgo off N sl c k lo hi).1) := by
  intro c
  induction c with
  | zero =>
    intro k fu lo hi hf h2 h3 hlo hhi hd
    obtain ⟨fu, rfl⟩ : ∃ q, fu = q + 1 := ⟨fu - 1, by omega⟩
    have : k = N := by omega
    subst this
    rw [fX4_spanEnd_20, h9, if_pos (nI_le (by omega) (by omega))]
    rfl
  | succ c ih =>
    intro k fu lo hi hf h2 h3 hlo hhi hd
    obtain ⟨fu, rfl⟩ : ∃ q, fu = q + 1 := ⟨fu - 1, by omega⟩
    rw [fX4_spanEnd_20, sgo, h9]
    by_cases q : k < N
    · have b := hb k q
      rw [if_neg (nI_ge q (by omega))]
      simp only [grd_in (show k < 6 by omega) (show 6 < 2 ^ 31 by omega)]
      simp only [nI_clamp (show k < 2 ^ 31 by omega), h11 k q, oI_mn hlo b, oI_mx hhi b, d_le (show sl < 1000 by omega) (bd_mx hhi b) (bd_mn hlo b), nI_1]
      by_cases q1 : off k - lo ≤ (sl : Int) ∧ hi - off k ≤ (sl : Int)
      · have hd2 : mxI hi (off k) - mnI lo (off k) ≤ (sl : Int) := by
          unfold mxI mnI
          split <;> split <;> omega
        rw [if_pos hd2, if_pos ⟨q, q1⟩]
        exact ih (k + 1) fu _ _ (by omega) (by omega) (by omega) (bd_mn hlo b) (bd_mx hhi b) hd2
      · rw [if_neg, if_neg (fun z => q1 z.2)]
        unfold mxI mnI
        split <;> split <;> omega
    · have : k = N := by omega
      subst this
      rw [if_pos (nI_le (by omega) (by omega)), if_neg (fun z => q z.1)]
theorem xspan_ok {σ : Mem} (hN : N ≤ 6) (hsl : sl ≤ 9) (hb : ∀ i, i < N → bd (off i)) (h11 : ∀ i, i < N → σ 11 i = oI (off i)) (h9 : σ 9 2 = nI N) {f : Nat} (hf : f < N) :
    fX4_spanEnd (nI f) (nI sl) σ = some (nI (spe off N sl f).1) := by
  unfold fX4_spanEnd spe
  simp only [grd_in (show f < 6 by omega) (show 6 < 2 ^ 31 by omega)]
  rw [nI_clamp (by omega), h11 f hf, nI_1]
  exact xspan_go hN hsl hb h11 h9 N (f + 1) FU (off f) (off f) (by rw [FU_big]; omega) (by omega) (by omega) (hb f hf) (hb f hf) (by omega)
theorem sgo_in (sl : Int) : ∀ (c k : Nat) (lo hi : Int), k ≤ N → k ≤ (sgo off N sl c k lo hi).1 ∧ (sgo off N sl c k lo hi).1 ≤ N := by
  intro c
  induction c with
  | zero => intro k lo hi h; exact ⟨Nat.le_refl k, h⟩
  | succ c ih =>
    intro k lo hi h
    rw [sgo]
    split
    · next q =>
      obtain ⟨a, b⟩ := ih (k + 1) (mnI lo (off k)) (mxI hi (off k)) (by omega)
      exact ⟨by omega, b⟩
    · exact ⟨Nat.le_refl k, h⟩
theorem spe_in {sl : Int} {f : Nat} (hf : f < N) : f < (spe off N sl f).1 ∧ (spe off N sl f).1 ≤ N := by
  obtain ⟨a, b⟩ := sgo_in (off := off) (N := N) sl N (f + 1) (off f) (off f) (by omega)
  exact ⟨by unfold spe; omega, b⟩
end SP
