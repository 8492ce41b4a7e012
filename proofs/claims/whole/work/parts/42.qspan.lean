/-! both sides together -/
def Xsm (σ σ' : Mem) : Prop := ∀ a b, ¬ (a = 9 ∧ b = 2) → a ≠ 10 → a ≠ 11 → a ≠ 13 → a ≠ 14 → a ≠ 15 → σ' a b = σ a b
theorem Xsm.rf {σ : Mem} : Xsm σ σ := fun _ _ _ _ _ _ _ _ => rfl
theorem Xsm.tr {σ σ' σ'' : Mem} (h : Xsm σ σ') (h' : Xsm σ' σ'') : Xsm σ σ'' := fun a b h1 h2 h3 h4 h5 h6 => (h' a b h1 h2 h3 h4 h5 h6).trans (h a b h1 h2 h3 h4 h5 h6)
theorem Xsm_xpm {σ : Mem} {L : List (Nat × Int)} : Xsm σ (xpm σ L) := fun a b h1 h2 h3 _ _ _ => by
  unfold xpm
  rw [mup_n (by omega), bthm_x h2 h3]
theorem Xsm_look {σ : Mem} {A c : Nat → Nat} {k j : Nat} : Xsm σ (chm 14 (chm 13 σ A k) c j) := fun a b _ _ _ h4 h5 _ => by
  rw [chm_out h5, chm_out h4]
theorem Xsm_15 {σ : Mem} {j : Nat} {v : Int32} : Xsm σ (mup σ 15 j v) := fun a b _ _ _ _ _ h6 => mup_n (Or.inl h6)
theorem XChr_sm {σ σ' : Mem} {c n : Nat} {sz : Nat → Nat} {ev yr : Nat → Nat → Nat} {sb : Nat → Nat} {sl : Nat} (hs : Xsm σ σ') (hc : 17 ≤ c) (hx : XChr σ c n sz ev yr sb sl) : XChr σ' c n sz ev yr sb sl := by
  have e : ∀ a b, 17 ≤ a → σ' a b = σ a b := fun a b h => hs a b (by omega) (by omega) (by omega) (by omega) (by omega) (by omega)
  obtain ⟨h1, h2, h3⟩ := hx
  refine ⟨by rw [e _ _ hc]; exact h1, by rw [e _ _ hc]; exact h2, fun h hh => ?_⟩
  obtain ⟨a, b, c', d⟩ := h3 h hh
  exact ⟨by rw [e _ _ (by omega)]; exact a, by rw [e _ _ (by omega)]; exact b, fun k hk => by rw [e _ _ (by omega)]; exact c' k hk, fun k hk => by rw [e _ _ (by omega)]; exact d k hk⟩
def Bo (σ ρ : Mem) (n : Nat) (sz : Nat → Nat) (ev yr : Nat → Nat → Nat) (sb : Nat → Nat) (sl : Nat) : Prop := KV n sz ev yr sb sl ∧ XChr σ 17 n sz ev yr sb sl ∧ RC ρ n sz ev yr sb (-9) 0 ∧ ρ 1 0 = nI sl
theorem Bo_sm {σ σ' ρ ρ' : Mem} {n : Nat} {sz : Nat → Nat} {ev yr : Nat → Nat → Nat} {sb : Nat → Nat} {sl : Nat} (h : Bo σ ρ n sz ev yr sb sl) (hx : Xsm σ σ') (hr : Rsm ρ ρ') : Bo σ' ρ' n sz ev yr sb sl :=
  ⟨h.1, XChr_sm hx (by omega) h.2.1, RC_sm hr h.2.2.1, by rw [hr 1 0 (by omega) (by omega) (by omega) (by omega)]; exact h.2.2.2⟩
/-- the same answer on both sides, nothing but scratch changed -/
def Qa (σ ρ : Mem) (x y : Option (Int32 × Mem)) : Prop := ∃ r σ' ρ', x = some (r, σ') ∧ y = some (r, ρ') ∧ Xsm σ σ' ∧ Rsm ρ ρ'
theorem Qa.same {σ ρ : Mem} {r : Int32} : Qa σ ρ (some (r, σ)) (some (r, ρ)) := ⟨r, σ, ρ, rfl, rfl, Xsm.rf, Rsm.rf⟩
section QS
variable {σ ρ : Mem} {n : Nat} {sz : Nat → Nat} {ev yr : Nat → Nat → Nat} {sb : Nat → Nat} {sl : Nat}
theorem hasHouse_ok {c : Nat} (h1 : σ c 1 = nI n) (x : Int32) : fX0_hasHouse c x σ = some (if 0 ≤ x ∧ x < nI n then 1 else 0) := by
  unfold fX0_hasHouse
  rw [h1]
  by_cases q1 : x < 0
  · rw [if_pos q1, if_neg (fun z => by have := z.1; rw [fa_le] at this; rw [fa_lt] at q1; omega)]
  · have q1' : 0 ≤ x := by rw [fa_le]; rw [fa_lt] at q1; omega
    rw [if_neg q1]
    by_cases q2 : nI n ≤ x
    · rw [if_pos q2, if_neg (fun z => by have := z.2; rw [fa_lt] at this; rw [fa_le] at q2; omega)]
    · rw [if_neg q2, if_pos ⟨q1', by rw [fa_lt]; rw [fa_le] at q2; omega⟩]
/-- what is needed of a row of common events -/
def LOK (L : List (Nat × Int)) : Prop := L.length ≤ 6 ∧ (∀ i, i < L.length → evs L i < 8) ∧ (∀ i, i < L.length → bd (ofs L i)) ∧ ∀ i j, i < j → j < L.length → evs L i ≠ evs L j
theorem cml_LOK (hv : KV n sz ev yr sb sl) {p q : Nat} : LOK (cml (acR n sz sb (-9) 0) ev yr p q 6) :=
  ⟨cml_len _ _ _ _ _ 6, fun i hi => (cml_bd hv (getD_mem hi)).1, fun i hi => (cml_bd hv (getD_mem hi)).2, fun i j hi hj => evs_ne hv hi hj⟩
theorem SpM_bth {L : List (Nat × Int)} {μ : Mem} (h : μ 1 0 = nI sl) : SpM (ofs L) L.length sl (bthm 11 12 μ L) := ⟨fun i hi => bthm_o (by omega) hi, by rw [bthm_x (by omega) (by omega)]; exact h⟩
theorem rspans_full (hv : KV n sz ev yr sb sl) {μ : Mem} (hc : RC μ n sz ev yr sb (-9) 0) (h10 : μ 1 0 = nI sl) {p q : Nat} (hp : p < 4) (hq : q < 4) : ∃ μ', fX7_spans (nI p) (nI q) μ = some (nI (mny (ofs (cml (acR n sz sb (-9) 0) ev yr p q 6)) (cml (acR n sz sb (-9) 0) ev yr p q 6).length sl), μ') ∧ Rsm μ μ' := by
  have hL := cml_LOK hv (p := p) (q := q)
  have hsl := hv.2.2.2.2.2
  obtain ⟨v, e⟩ := rspans_ok hL.1 hsl hL.2.2.1 (SpM_bth (L := cml (acR n sz sb (-9) 0) ev yr p q 6) h10)
  refine ⟨mup (bthm 11 12 μ (cml (acR n sz sb (-9) 0) ev yr p q 6)) 0 24 v, ?_, Rsm.tr Rsm_bth Rsm_low⟩
  unfold fX7_spans
  rw [both_ok hv hc (by omega) hp hq, bm_s]
  exact e
/-- the k-th span, asked of the reference -/
theorem rspan90 {L : List (Nat × Int)} (hL : LOK L) (hsl : sl ≤ 9) {μ : Mem} (h10 : μ 1 0 = nI sl) {k : Nat} (hk : k < mny (ofs L) L.length sl) (w : Int32) : ∃ v, fX7_span_90 FU (nI k) w (nI L.length) 0 0 (bthm 11 12 μ L) =
    some (if w = 0 then nI (evs L (stt (ofs L) L.length sl k)) else if w = 1 then nI (evs L ((spe (ofs L) L.length sl (stt (ofs L) L.length sl k)).1 - 1)) else if w = 2 then nI ((spe (ofs L) L.length sl (stt (ofs L) L.length sl k)).1 - stt (ofs L) L.length sl k) else oI (spe (ofs L) L.length sl (stt (ofs L) L.length sl k)).2, mup (bthm 11 12 μ L) 0 24 v) := by
  obtain ⟨hN, h8, hb, hd⟩ := hL
  have hm := mny_le (off := ofs L) (sl := sl) hN
  have hS := SpM_bth (L := L) h10
  have key : ∀ c i fu v, i + c = k → c < fu → ∃ v', fX7_span_90 fu (nI k) w (nI L.length) (nI (stt (ofs L) L.length sl i)) (nI i) (mup (bthm 11 12 μ L) 0 24 v) = some (if w = 0 then nI (evs L (stt (ofs L) L.length sl k)) else if w = 1 then nI (evs L ((spe (ofs L) L.length sl (stt (ofs L) L.length sl k)).1 - 1)) else if w = 2 then nI ((spe (ofs L) L.length sl (stt (ofs L) L.length sl k)).1 - stt (ofs L) L.length sl k) else oI (spe (ofs L) L.length sl (stt (ofs L) L.length sl k)).2, mup (bthm 11 12 μ L) 0 24 v') := by
    intro c
    induction c with
    | zero =>
      intro i fu v h1 h2
      obtain ⟨fu, rfl⟩ : ∃ q, fu = q + 1 := ⟨fu - 1, by omega⟩
      have : i = k := by omega
      subst this
      have hl := mny_lt hk
      obtain ⟨s1, s2⟩ := spe_in (off := ofs L) (sl := (sl : Int)) hl
      rw [fX7_span_90, if_pos (nI_le (Nat.le_refl _) (by omega)), rspan_ok hN hsl hb (SpM_up hS).1 (SpM_up hS).2 hl, bm_s, mup_mup]
      refine ⟨oI (spe (ofs L) L.length sl (stt (ofs L) L.length sl i)).2, ?_⟩
      have es : nI (spe (ofs L) L.length sl (stt (ofs L) L.length sl i)).1 - 1 = nI ((spe (ofs L) L.length sl (stt (ofs L) L.length sl i)).1 - 1) := pk_sub (b := 1) (by omega)
      rw [es]
      simp only [grd_in (show stt (ofs L) L.length sl i < 6 by omega) (show 6 < 2 ^ 31 by omega), grd_in (show (spe (ofs L) L.length sl (stt (ofs L) L.length sl i)).1 - 1 < 6 by omega) (show 6 < 2 ^ 31 by omega)]
      rw [nI_clamp (by omega), nI_clamp (by omega), mup_n (Or.inl (by omega)), mup_n (Or.inl (by omega)), bthm_e hl, bthm_e (by omega), mup_s, pk_sub (by omega)]
      by_cases q0 : w = 0
      · simp only [q0, if_true]; rfl
      · by_cases q1 : w = 1
        · simp only [q1]; rfl
        · by_cases q2 : w = 2
          · simp only [q2]; rfl
          · simp only [q0, q1, q2, if_false]
    | succ c ih =>
      intro i fu v h1 h2
      obtain ⟨fu, rfl⟩ : ∃ q, fu = q + 1 := ⟨fu - 1, by omega⟩
      have hl := mny_lt (off := ofs L) (N := L.length) (sl := sl) (i := i) (by omega)
      rw [fX7_span_90, if_neg (nI_ge (by omega) (by omega)), rspan_ok hN hsl hb (SpM_up hS).1 (SpM_up hS).2 hl, bm_s, nI_1, ← stt_next hl, mup_mup]
      exact ih (i + 1) fu _ (by omega) (by omega)
  obtain ⟨v', h⟩ := key k 0 FU (bthm 11 12 μ L 0 24) (by omega) (by rw [FU_big]; omega)
  refine ⟨v', ?_⟩
  have e : mup (bthm 11 12 μ L) 0 24 (bthm 11 12 μ L 0 24) = bthm 11 12 μ L := by
    funext a b
    rw [mup_at]
    split
    · next h => rw [h.1, h.2]
    · rfl
  rw [e] at h
  exact h
theorem one0 : ((1 : Int32) = 0) = False := eq_false (by decide)
theorem neg1_cs (k : Int32) : k < -1 ∨ k = -1 ∨ ∃ j : Nat, j < 2 ^ 31 ∧ k = nI j := by
  rcases fa_three k (-1) with h | h | h
  · exact Or.inl h
  · exact Or.inr (Or.inl h)
  · refine Or.inr (Or.inr (nI_of ?_))
    rw [fa_lt] at h ⊢
    have e1 : (-1 : Int32).toInt = -1 := rfl
    have e0 : (0 : Int32).toInt = 0 := rfl
    omega
theorem in_small {w : Int32} {m : Nat} (hm : m < 1000) : (0 ≤ w ∧ w ≤ nI m) ↔ ∃ j, j ≤ m ∧ w = nI j := by
  constructor
  · rintro ⟨h1, h2⟩
    obtain ⟨j, hj, e⟩ := nI_of (x := w) (by rw [fa_lt]; rw [fa_le] at h1; omega)
    subst e
    exact ⟨j, (nI_leI hj (by omega)).mp h2, rfl⟩
  · rintro ⟨j, h, rfl⟩
    exact ⟨nI_pos' (by omega), nI_le h (by omega)⟩
theorem q_span (h : Bo σ ρ n sz ev yr sb sl) (a b k w : Int32) : Qa σ ρ (fX6_span a b k w σ) (fX7_span a b k w ρ) := by
  obtain ⟨hv, hx, hc, h10⟩ := h
  have hn := hv.1
  have hsl := hv.2.2.2.2.2
  unfold fX6_span fX7_span
  rw [hasHouse_ok hx.1 a, hasHouse_ok hx.1 b, isHouse_ok hv hc a, isHouse_ok hv hc b]
  rcases (house_cs a n (by omega)).symm with ha | ⟨p, hp, rfl⟩
  · rw [if_neg ha]; exact Qa.same
  rcases (house_cs b n (by omega)).symm with hb | ⟨q, hq, rfl⟩
  · rw [if_pos (nI_pos2 hp (by omega)), if_neg hb]; exact Qa.same
  rw [if_pos (nI_pos2 hp (by omega)), if_pos (nI_pos2 hq (by omega))]
  simp only [bi_s, one0, if_false]
  by_cases hpq : nI p = nI q
  · rw [if_pos hpq, if_pos hpq]; exact Qa.same
  rw [if_neg hpq, if_neg hpq]
  have hL := cml_LOK hv (p := p) (q := q)
  obtain ⟨hN, h8, hb, hd⟩ := hL
  have hm := mny_le (off := ofs (cml (acR n sz sb (-9) 0) ev yr p q 6)) (sl := sl) hN
  have ej : ∀ {α : Type} (kk : Mem → Option α), grd (¬ (nI p < 0 ∨ 4 ≤ (nI p).toNatClampNeg)) (grd (¬ (nI q < 0 ∨ 4 ≤ (nI q).toNatClampNeg)) (bv (fX4_join (17 + 2 + 3 * (nI p).toNatClampNeg) (17 + 2 + 3 * (nI q).toNatClampNeg) σ) kk)) = kk (xpm σ (cml (acR n sz sb (-9) 0) ev yr p q 6)) := by
    intro α kk
    rw [grd_in (by omega) (by omega), grd_in (by omega) (by omega), nI_clamp (by omega), nI_clamp (by omega), join_ok hv (by omega) hx hp hq, bv_s]
  rw [ej]
  have e17 : xpm σ (cml (acR n sz sb (-9) 0) ev yr p q 6) 17 2 = nI sl := by rw [xpm_x (by omega) (by omega) (by omega)]; exact hx.2.1
  have h11 : ∀ i, i < (cml (acR n sz sb (-9) 0) ev yr p q 6).length → xpm σ (cml (acR n sz sb (-9) 0) ev yr p q 6) 11 i = oI (ofs (cml (acR n sz sb (-9) 0) ev yr p q 6) i) := fun i hi => xpm_o hi
  rw [e17]
  obtain ⟨μ', es, sm⟩ := rspans_full hv hc h10 (p := p) (q := q) (by omega) (by omega)
  rcases neg1_cs k with hk | hk | ⟨j, hj, rfl⟩
  · rw [if_neg (by rw [fa_le]; rw [fa_lt] at hk; omega), if_pos hk]; exact Qa.same
  · subst hk
    rw [if_pos (by decide), if_pos rfl, if_neg (by decide), if_pos (by decide), xspans_ok hN hsl hb h11 xpm_n, bi_s]
    unfold fX7_span_46 fX7_span_64
    rw [es, bm_s, if_pos (by decide), if_neg (by decide)]
    exact ⟨_, _, _, rfl, rfl, Xsm_xpm, sm⟩
  · have hj0 : ¬ nI j < 0 := nI_pos hj
    have hjm : ¬ nI j < -1 := by
      rw [fa_lt] at hj0 ⊢
      have e1 : (-1 : Int32).toInt = -1 := rfl
      have e0 : (0 : Int32).toInt = 0 := rfl
      omega
    have hjn : ¬ nI j = -1 := by
      intro z
      rw [z] at hj0
      exact hj0 (by decide)
    have hjl : (-1 : Int32) ≤ nI j := by rw [fa_le]; rw [fa_lt] at hjm; omega
    rw [if_pos hjl, if_neg hjn, if_neg hjm, if_neg hj0, show (0 : Int64) = (0 : Int32).toInt64 from rfl, show (3 : Int64) = (nI 3).toInt64 from rfl, in32r, xstart_ok hN hsl hb h11 xpm_n hj, bi_s, xpm_n]
    by_cases hw : 0 ≤ w ∧ w ≤ nI 3
    · rw [if_pos hw]
      simp only [one0, if_false]
      unfold fX7_span_46 fX7_span_64
      rw [es, bm_s, if_neg hj0, if_pos (nI_pos' hj)]
      rcases Nat.lt_or_ge j (mny (ofs (cml (acR n sz sb (-9) 0) ev yr p q 6)) (cml (acR n sz sb (-9) 0) ev yr p q 6).length sl) with hjm2 | hjm2
      · have hl := mny_lt hjm2
        obtain ⟨s1, s2⟩ := spe_in (off := ofs (cml (acR n sz sb (-9) 0) ev yr p q 6)) (sl := (sl : Int)) hl
        obtain ⟨v, e9⟩ := rspan90 (L := cml (acR n sz sb (-9) 0) ev yr p q 6) ⟨hN, h8, hb, hd⟩ hsl (μ := μ') (by rw [sm 1 0 (by omega) (by omega) (by omega) (by omega)]; exact h10) hjm2 w
        have es2 : nI (spe (ofs (cml (acR n sz sb (-9) 0) ev yr p q 6)) (cml (acR n sz sb (-9) 0) ev yr p q 6).length sl (stt (ofs (cml (acR n sz sb (-9) 0) ev yr p q 6)) (cml (acR n sz sb (-9) 0) ev yr p q 6).length sl j)).1 - 1 = nI ((spe (ofs (cml (acR n sz sb (-9) 0) ev yr p q 6)) (cml (acR n sz sb (-9) 0) ev yr p q 6).length sl (stt (ofs (cml (acR n sz sb (-9) 0) ev yr p q 6)) (cml (acR n sz sb (-9) 0) ev yr p q 6).length sl j)).1 - 1) := pk_sub (b := 1) (by omega)
        rw [if_pos (nI_lt hl (by omega)), xspan_ok hN hsl hb h11 xpm_n hl, bi_s, if_pos (nI_lt hjm2 (by omega)), both_ok hv (RC_sm sm hc) (by omega) (by omega) (by omega), bm_s, e9, es2]
        simp only [grd_in (show stt (ofs (cml (acR n sz sb (-9) 0) ev yr p q 6)) (cml (acR n sz sb (-9) 0) ev yr p q 6).length sl j < 6 by omega) (show 6 < 2 ^ 31 by omega), grd_in (show (spe (ofs (cml (acR n sz sb (-9) 0) ev yr p q 6)) (cml (acR n sz sb (-9) 0) ev yr p q 6).length sl (stt (ofs (cml (acR n sz sb (-9) 0) ev yr p q 6)) (cml (acR n sz sb (-9) 0) ev yr p q 6).length sl j)).1 - 1 < 6 by omega) (show 6 < 2 ^ 31 by omega)]
        rw [nI_clamp (by omega), nI_clamp (by omega), xpm_e hl, xpm_e (by omega), pk_sub (by omega), xleast_ok hN hb h11 hl, bi_s]
        obtain ⟨t, ht, rfl⟩ := (in_small (by omega)).mp hw
        refine ⟨_, xpm σ (cml (acR n sz sb (-9) 0) ev yr p q 6), _, ?_, rfl, Xsm_xpm, Rsm.tr sm (Rsm.tr Rsm_bth Rsm_low)⟩
        have ht : t = 0 ∨ t = 1 ∨ t = 2 ∨ t = 3 := by omega
        rcases ht with rfl | rfl | rfl | rfl <;> rfl
      · rw [mny_ge hN hjm2, if_neg (nI_nlt (Nat.le_refl _) (by omega)), if_neg (nI_nlt hjm2 hj)]
        exact ⟨_, _, _, rfl, rfl, Xsm_xpm, sm⟩
    · rw [if_neg hw]
      simp only [if_true]
      have hw' : ∀ t : Nat, t ≤ 3 → ¬ w = nI t := fun t ht z => hw ((in_small (by omega)).mpr ⟨t, ht, z⟩)
      have w0 : ¬ w = 0 := hw' 0 (by omega)
      have w1 : ¬ w = 1 := hw' 1 (by omega)
      have w2 : ¬ w = 2 := hw' 2 (by omega)
      have w3 : ¬ w = 3 := hw' 3 (by omega)
      rcases Nat.lt_or_ge j (mny (ofs (cml (acR n sz sb (-9) 0) ev yr p q 6)) (cml (acR n sz sb (-9) 0) ev yr p q 6).length sl) with hjm2 | hjm2
      · have hl := mny_lt hjm2
        rw [if_pos (nI_lt hl (by omega)), xspan_ok hN hsl hb h11 xpm_n hl, bi_s, if_neg w0, if_neg w1, if_neg w2, if_neg w3]
        exact ⟨_, _, _, rfl, rfl, Xsm_xpm, Rsm.rf⟩
      · rw [mny_ge hN hjm2, if_neg (nI_nlt (Nat.le_refl _) (by omega))]
        exact ⟨_, _, _, rfl, rfl, Xsm_xpm, Rsm.rf⟩
end QS
