/-! rows of common events: starts of spans, the commonest offset -/
def ofs (L : List (Nat × Int)) (i : Nat) : Int := (L.getD i (0, 0)).2
def evs (L : List (Nat × Int)) (i : Nat) : Nat := (L.getD i (0, 0)).1
theorem getD_mem {L : List (Nat × Int)} {i : Nat} (h : i < L.length) : L.getD i (0, 0) ∈ L := by
  rw [List.getD_eq_getElem?_getD, List.getElem?_eq_getElem h]
  exact List.getElem_mem h
theorem mem_getD {L : List (Nat × Int)} {x : Nat × Int} (h : x ∈ L) : ∃ i, i < L.length ∧ L.getD i (0, 0) = x := by
  obtain ⟨i, hi, e⟩ := List.mem_iff_getElem.mp h
  exact ⟨i, hi, by rw [List.getD_eq_getElem?_getD, List.getElem?_eq_getElem hi]; exact e⟩
theorem mem_cml {ac : Nat → Nat → Bool} {ev yr : Nat → Nat → Nat} {p q : Nat} {x : Nat × Int} : ∀ k, x ∈ cml ac ev yr p q k ↔ ∃ j, j < k ∧ ac p j = true ∧ plc ac ev q (ev p j) < 6 ∧ x = (ev p j, (yr q (plc ac ev q (ev p j)) : Int) - yr p j)
  | 0 => by simp [cml]
  | k + 1 => by
    have ih := mem_cml (ac := ac) (ev := ev) (yr := yr) (p := p) (q := q) (x := x) k
    rw [cml]
    by_cases h : (ac p k && decide (plc ac ev q (ev p k) < 6)) = true
    · rw [if_pos h, List.mem_append, ih, List.mem_singleton]
      simp only [Bool.and_eq_true, decide_eq_true_eq] at h
      constructor
      · rintro (⟨j, a, b⟩ | w)
        · exact ⟨j, by omega, b⟩
        · exact ⟨k, by omega, h.1, h.2, w⟩
      · rintro ⟨j, a, b, c, d⟩
        by_cases w : j = k
        · subst w; exact Or.inr d
        · exact Or.inl ⟨j, by omega, b, c, d⟩
    · rw [if_neg h, ih]
      constructor
      · rintro ⟨j, a, b⟩; exact ⟨j, by omega, b⟩
      · rintro ⟨j, a, b, c, d⟩
        by_cases w : j = k
        · subst w; exact absurd (by simp [b, c]) h
        · exact ⟨j, by omega, b, c, d⟩
section CM
variable {n : Nat} {sz : Nat → Nat} {ev yr : Nat → Nat → Nat} {sb : Nat → Nat} {sl : Nat} {lo : Int32} {ho : Nat} {p q : Nat}
theorem cml_bd (hv : KV n sz ev yr sb sl) {x : Nat × Int} (h : x ∈ cml (acR n sz sb lo ho) ev yr p q 6) : x.1 < 8 ∧ bd x.2 := by
  obtain ⟨j, -, a, b, rfl⟩ := (mem_cml 6).mp h
  obtain ⟨a1, a2⟩ := acR_in a
  have y := yr_small hv b
  have w := hv.2.2.1 p j a1 a2
  exact ⟨w.1, by unfold bd; dsimp only; omega⟩
theorem plc_of (hv : KV n sz ev yr sb sl) {j : Nat} (a : acR n sz sb lo ho p j = true) : plc (acR n sz sb lo ho) ev p (ev p j) = j := by
  obtain ⟨a1, a2⟩ := acR_in a
  have hs := (hv.2.1 p a1).1
  refine first_is (fun i hi => ?_) (by simp [a]) (by omega)
  by_cases w : i < sz p
  · have := hv.2.2.2.1 p i j a1 hi a2
    simp [this]
  · simp [acR, w]
theorem cml_mem (hv : KV n sz ev yr sb sl) {e : Nat} {z : Int} : (e, z) ∈ cml (acR n sz sb lo ho) ev yr p q 6 ↔ plc (acR n sz sb lo ho) ev p e < 6 ∧ plc (acR n sz sb lo ho) ev q e < 6 ∧ z = (yr q (plc (acR n sz sb lo ho) ev q e) : Int) - yr p (plc (acR n sz sb lo ho) ev p e) := by
  rw [mem_cml]
  constructor
  · rintro ⟨j, a, b, c, d⟩
    injection d with d1 d2
    subst d1
    rw [plc_of hv b]
    exact ⟨a, c, d2⟩
  · rintro ⟨a, b, c⟩
    obtain ⟨w1, w2⟩ := plc_in (acR n sz sb lo ho) a
    refine ⟨_, a, w1, ?_, ?_⟩
    · rw [w2]; exact b
    · rw [w2, c]
theorem cml_nd (hv : KV n sz ev yr sb sl) : ∀ k, ((cml (acR n sz sb lo ho) ev yr p q k).map Prod.fst).Nodup
  | 0 => List.nodup_nil
  | k + 1 => by
    have ih := cml_nd hv k
    rw [cml]
    split
    · next h =>
      simp only [Bool.and_eq_true, decide_eq_true_eq] at h
      obtain ⟨a1, a2⟩ := acR_in h.1
      rw [List.map_append, List.nodup_append]
      refine ⟨ih, by simp, fun x hx y hy => ?_⟩
      simp only [List.map_cons, List.map_nil, List.mem_singleton] at hy
      subst hy
      obtain ⟨u, hu, rfl⟩ := List.mem_map.mp hx
      obtain ⟨j, b1, b2, -, rfl⟩ := (mem_cml k).mp hu
      exact hv.2.2.2.1 p j k a1 b1 a2
    · exact ih
theorem evs_ne (hv : KV n sz ev yr sb sl) {i j : Nat} (hij : i < j) (hj : j < (cml (acR n sz sb lo ho) ev yr p q 6).length) : evs (cml (acR n sz sb lo ho) ev yr p q 6) i ≠ evs (cml (acR n sz sb lo ho) ev yr p q 6) j := by
  have h := cml_nd (lo := lo) (ho := ho) (p := p) (q := q) hv 6
  intro e
  have h2 := (List.pairwise_iff_getElem.mp h) i j (by simp; omega) (by simpa using hj) hij
  apply h2
  unfold evs at e
  rw [List.getD_eq_getElem?_getD, List.getD_eq_getElem?_getD, List.getElem?_eq_getElem (by omega), List.getElem?_eq_getElem hj] at e
  simpa using e
end CM
section ST
variable {off : Nat → Int} {N sl : Nat}
def stt (off : Nat → Int) (N : Nat) (sl : Nat) : Nat → Nat
  | 0 => 0
  | i + 1 => if stt off N sl i < N then (spe off N sl (stt off N sl i)).1 else stt off N sl i
def mny (off : Nat → Int) (N : Nat) (sl : Nat) : Nat := fa_first (fun i => decide (N ≤ stt off N sl i)) 7
theorem stt_in : ∀ i, stt off N sl i ≤ N ∧ (stt off N sl i < N → i ≤ stt off N sl i)
  | 0 => ⟨Nat.zero_le _, fun _ => Nat.zero_le _⟩
  | i + 1 => by
    have ih := stt_in i
    rw [stt]
    split
    · next h =>
      obtain ⟨a, b⟩ := spe_in (off := off) (sl := (sl : Int)) h
      exact ⟨b, fun _ => by have := ih.2 h; omega⟩
    · next h => exact ⟨ih.1, fun z => absurd z h⟩
theorem mny_le (hN : N ≤ 6) : mny off N sl ≤ 6 := by
  have h6 : decide (N ≤ stt off N sl 6) = true := by
    have := stt_in (off := off) (N := N) (sl := sl) 6
    apply decide_eq_true
    rcases Nat.lt_or_ge (stt off N sl 6) N with q | q
    · have := this.2 q; omega
    · exact q
  rcases Nat.lt_or_ge 6 (mny off N sl) with q | q
  · have := fa_first_no _ 7 6 q
    rw [h6] at this; cases this
  · exact q
theorem mny_lt {i : Nat} (h : i < mny off N sl) : stt off N sl i < N := by
  have := fa_first_no _ 7 i h
  simpa using this
theorem mny_ge (hN : N ≤ 6) {i : Nat} (h : mny off N sl ≤ i) : stt off N sl i = N := by
  have h7 := mny_le (off := off) (sl := sl) hN
  have h0 : N ≤ stt off N sl (mny off N sl) := by
    have := fa_first_yes (fun i => decide (N ≤ stt off N sl i)) 7 (by unfold mny at h7; omega)
    exact of_decide_eq_true this
  have key : ∀ d, stt off N sl (mny off N sl + d) = N := by
    intro d
    induction d with
    | zero => exact Nat.le_antisymm (stt_in _).1 h0
    | succ d ih =>
      rw [show mny off N sl + (d + 1) = (mny off N sl + d) + 1 by omega, stt, ih, if_neg (Nat.lt_irrefl N)]
  have := key (i - mny off N sl)
  rwa [show mny off N sl + (i - mny off N sl) = i by omega] at this
theorem stt_next {i : Nat} (h : stt off N sl i < N) : stt off N sl (i + 1) = (spe off N sl (stt off N sl i)).1 := by
  rw [stt, if_pos h]
theorem xspans_ok {σ : Mem} (hN : N ≤ 6) (hsl : sl ≤ 9) (hb : ∀ i, i < N → bd (off i)) (h11 : ∀ i, i < N → σ 11 i = oI (off i)) (h9 : σ 9 2 = nI N) : fX4_spans (nI sl) σ = some (nI (mny off N sl)) := by
  have hm := mny_le (off := off) (sl := sl) hN
  unfold fX4_spans
  refine loop1 (fun fu i (s : Nat) => fX4_spans_4 σ fu (nI sl) (nI i) (nI s)) (mny off N sl) (fun i => stt off N sl i) (fun fu => ?_) (fun fu i hi => ?_) (by rw [FU_big]; omega)
  · show fX4_spans_4 _ _ _ _ _ = _
    rw [fX4_spans_4, h9, if_pos]
    rw [mny_ge hN (Nat.le_refl _)]
    exact nI_le (Nat.le_refl _) (by omega)
  · show fX4_spans_4 _ _ _ _ _ = fX4_spans_4 _ _ _ _ _
    have hl := mny_lt hi
    rw [fX4_spans_4, h9, if_neg (nI_ge hl (by omega)), if_neg (nle6 (by omega)), xspan_ok hN hsl hb h11 h9 hl, bi_s, nI_1, stt_next hl]
theorem xstart_ok {σ : Mem} (hN : N ≤ 6) (hsl : sl ≤ 9) (hb : ∀ i, i < N → bd (off i)) (h11 : ∀ i, i < N → σ 11 i = oI (off i)) (h9 : σ 9 2 = nI N) {k : Nat} (hk : k < 2 ^ 31) : fX4_spanStart (nI k) (nI sl) σ = some (nI (stt off N sl k)) := by
  have hm := mny_le (off := off) (sl := sl) hN
  unfold fX4_spanStart
  rcases Nat.lt_or_ge k (mny off N sl) with q | q
  · refine loop1 (fun fu i (s : Nat) => fX4_spanStart_5 σ fu (nI k) (nI sl) (nI s) (nI i)) k (fun i => stt off N sl i) (fun fu => ?_) (fun fu i hi => ?_) (by rw [FU_big]; omega)
    · show fX4_spanStart_5 _ _ _ _ _ _ = _
      rw [fX4_spanStart_5, if_pos (nI_le (Nat.le_refl _) (by omega))]
    · show fX4_spanStart_5 _ _ _ _ _ _ = fX4_spanStart_5 _ _ _ _ _ _
      have hl := mny_lt (off := off) (N := N) (sl := sl) (i := i) (by omega)
      rw [fX4_spanStart_5, if_neg (nI_ge hi (by omega)), h9, if_neg (nI_ge hl (by omega)), xspan_ok hN hsl hb h11 h9 hl, bi_s, nI_1, stt_next hl]
  · rw [mny_ge hN q]
    refine loop1 (fun fu i (s : Nat) => fX4_spanStart_5 σ fu (nI k) (nI sl) (nI s) (nI i)) (mny off N sl) (fun i => stt off N sl i) (fun fu => ?_) (fun fu i hi => ?_) (by rw [FU_big]; omega)
    · show fX4_spanStart_5 _ _ _ _ _ _ = _
      have e := mny_ge (off := off) (sl := sl) hN (Nat.le_refl (mny off N sl))
      rw [fX4_spanStart_5, e]
      by_cases w : nI k ≤ nI (mny off N sl)
      · rw [if_pos w]
      · rw [if_neg w, h9, if_pos (nI_le (Nat.le_refl _) (by omega))]
    · show fX4_spanStart_5 _ _ _ _ _ _ = fX4_spanStart_5 _ _ _ _ _ _
      have hl := mny_lt hi
      rw [fX4_spanStart_5, if_neg (nI_ge (show i < k by omega) (by omega)), h9, if_neg (nI_ge hl (by omega)), xspan_ok hN hsl hb h11 h9 hl, bi_s, nI_1, stt_next hl]
/-- the least offset of a span -/
def lmn (off : Nat → Int) (f : Nat) : Nat → Int
  | 0 => off f
  | d + 1 => mnI (lmn off f d) (off (f + 1 + d))
theorem sgo_low (sl : Int) (f : Nat) : ∀ (c d : Nat) (hi : Int), ∃ d', d ≤ d' ∧ sgo off N sl c (f + 1 + d) (lmn off f d) hi = (f + 1 + d', lmn off f d') := by
  intro c
  induction c with
  | zero => intro d hi; exact ⟨d, Nat.le_refl d, rfl⟩
  | succ c ih =>
    intro d hi
    rw [sgo]
    split
    · obtain ⟨d', h1, h2⟩ := ih (d + 1) (mxI hi (off (f + 1 + d)))
      exact ⟨d', by omega, h2⟩
    · exact ⟨d, Nat.le_refl d, rfl⟩
theorem bd_lmn {f d : Nat} (hb : ∀ i, i < N → bd (off i)) (h : f + d < N) : bd (lmn off f d) := by
  induction d with
  | zero => exact hb f (by omega)
  | succ d ih => exact bd_mn (ih (by omega)) (hb _ (by omega))
theorem xleast_ok {σ : Mem} (hN : N ≤ 6) (hb : ∀ i, i < N → bd (off i)) (h11 : ∀ i, i < N → σ 11 i = oI (off i)) {f : Nat} (hf : f < N) (sl : Int) : fX4_leastOffset (nI f) (nI (spe off N sl f).1) σ = some (oI (spe off N sl f).2) := by
  obtain ⟨d, -, e⟩ := sgo_low (off := off) (N := N) sl f N 0 (off f)
  have e' : spe off N sl f = (f + 1 + d, lmn off f d) := e
  have hin := (spe_in (off := off) (sl := sl) hf).2
  rw [e'] at hin ⊢
  dsimp only at hin ⊢
  unfold fX4_leastOffset
  rw [grd_in (by omega) (by omega), nI_clamp (by omega), h11 f hf, nI_1]
  have st0 : oI (off f) = oI (lmn off f (f + 1 - (f + 1))) := by rw [Nat.sub_self]; rfl
  rw [st0]
  refine loopA (fun fu i (s : Int) => fX4_leastOffset_12 σ fu (nI (f + 1 + d)) (oI s) (nI i)) (f + 1) (f + 1 + d) (fun i => lmn off f (i - (f + 1))) (by omega) (fun fu => ?_) (fun fu i h1 h2 => ?_) (by rw [FU_big]; omega)
  · show fX4_leastOffset_12 _ _ _ _ _ = _
    rw [fX4_leastOffset_12, if_pos (nI_le (Nat.le_refl _) (by omega)), show f + 1 + d - (f + 1) = d by omega]
  · show fX4_leastOffset_12 _ _ _ _ _ = fX4_leastOffset_12 _ _ _ _ _
    rw [fX4_leastOffset_12, if_neg (nI_ge h2 (by omega)), grd_in (by omega) (by omega), nI_clamp (by omega), h11 i (by omega), oI_mn (bd_lmn hb (by omega)) (hb i (by omega)), nI_1, show i + 1 - (f + 1) = (i - (f + 1)) + 1 by omega, lmn, show f + 1 + (i - (f + 1)) = i by omega]
/-- what the reference's span rows need of a memory -/
def SpM (off : Nat → Int) (N sl : Nat) (μ : Mem) : Prop := (∀ i, i < N → μ 12 i = oI (off i)) ∧ μ 1 0 = nI sl
theorem SpM_up {μ : Mem} {v : Int32} (h : SpM off N sl μ) : SpM off N sl (mup μ 0 24 v) := ⟨fun i hi => by rw [mup_n (Or.inl (by omega))]; exact h.1 i hi, by rw [mup_n (Or.inl (by omega))]; exact h.2⟩
theorem rspans_ok (hN : N ≤ 6) (hsl : sl ≤ 9) (hb : ∀ i, i < N → bd (off i)) {μ : Mem} (hμ : SpM off N sl μ) : ∃ v, fX7_spans_13 FU (nI N) 0 0 μ = some (nI (mny off N sl), mup μ 0 24 v) := by
  have hm := mny_le (off := off) (sl := sl) hN
  have key : ∀ c i fu v, i + c = mny off N sl → c < fu → ∃ v', fX7_spans_13 fu (nI N) (nI i) (nI (stt off N sl i)) (mup μ 0 24 v) = some (nI (mny off N sl), mup μ 0 24 v') := by
    intro c
    induction c with
    | zero =>
      intro i fu v h1 h2
      obtain ⟨fu, rfl⟩ : ∃ q, fu = q + 1 := ⟨fu - 1, by omega⟩
      have : i = mny off N sl := by omega
      subst this
      refine ⟨v, ?_⟩
      rw [fX7_spans_13, mny_ge hN (Nat.le_refl _), if_pos (nI_le (Nat.le_refl _) (by omega))]
    | succ c ih =>
      intro i fu v h1 h2
      obtain ⟨fu, rfl⟩ : ∃ q, fu = q + 1 := ⟨fu - 1, by omega⟩
      have hl := mny_lt (off := off) (N := N) (sl := sl) (i := i) (by omega)
      rw [fX7_spans_13, if_neg (nI_ge hl (by omega)), rspan_ok hN hsl hb (SpM_up hμ).1 (SpM_up hμ).2 hl, bm_s, nI_1, ← stt_next hl, mup_mup]
      exact ih (i + 1) fu _ (by omega) (by omega)
  obtain ⟨v', h⟩ := key (mny off N sl) 0 FU (μ 0 24) (by omega) (by rw [FU_big]; omega)
  refine ⟨v', ?_⟩
  have e : mup μ 0 24 (μ 0 24) = μ := by
    funext a b
    rw [mup_at]
    split
    · next h => rw [h.1, h.2]
    · rfl
  rw [e] at h
  exact h
end ST
