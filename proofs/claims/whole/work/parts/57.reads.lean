/-! reading the text: the two readings agree -/
def K0 (fu1 : Nat) : Int32 → Mem → Option (Int32 × Mem) := fun r8 σ9 => if r8 = 0 then fX7_reads_69 (fun a0 => fX7_reads_25 fu1 a0) σ9 else fX7_reads_70 (fun a0 => fX7_reads_25 fu1 a0) (1 : Int32) σ9
theorem K0_0 {fu1 : Nat} {ρ : Mem} : K0 fu1 0 ρ = some (0, ρ) := by
  unfold K0 fX7_reads_69 fX7_reads_70
  rw [if_pos rfl, if_pos rfl]
theorem K0_1 {fu1 : Nat} {ρ : Mem} : K0 fu1 1 ρ = fX7_reads_25 fu1 (mup ρ 0 13 (ρ 0 13 + 1)) := by
  unfold K0 fX7_reads_70
  simp only [one0, if_false]
def mea (t tok x : Nat) : Nat := t - x + (if tok = 3000 then 0 else 1)
def PA (σa ρa : Mem) (t : Nat) (tx : Nat → Nat) (m : Nat) : Prop := ∀ (σ ρ : Mem) (tok b x i it N : Nat) (sz : Nat → Nat) (ev yr : Nat → Nat → Nat) (fu fu1 : Nat), CO σa ρa t tx σ ρ tok b x → (tok ≠ 3000 → i < x) → i ≤ 110 → it ≤ i → σ 1 6 = 0 → CM σ ρ it N sz → PD σ ρ N sz ev yr → mea t tok x < m → mea t tok x < fu → mea t tok x < fu1 → OUT σa ρa (fX5_read_30 31 fu (nI i) σ) (fX7_reads_25 fu1 ρ)
def PB (σa ρa : Mem) (t : Nat) (tx : Nat → Nat) (m : Nat) : Prop := ∀ (σ ρ : Mem) (tok b x i it N k : Nat) (sz : Nat → Nat) (ev yr : Nat → Nat → Nat) (fu fu1 fu2 : Nat), CO σa ρa t tx σ ρ tok b x → (tok ≠ 3000 → i < x) → i ≤ 110 → it ≤ i → σ 1 6 = 2 → CM σ ρ it N sz → PD σ ρ (N + 1) sz ev yr → sz N = k → mea t tok x < m → mea t tok x < fu → mea t tok x ≤ fu1 → mea t tok x < fu2 → OUT σa ρa (fX5_read_30 31 fu (nI i) σ) (bm (fX7_readsHouse_24 fu2 (nI (6 * N)) (nI k) ρ) (K0 fu1))
section RE
variable {σa ρa : Mem} {t : Nat} {tx : Nat → Nat}
theorem TK_m {σ ρ : Mem} {tok b x p q : Nat} {v : Int32} (h : TK σ ρ tok b x) (z : ¬ (p = 0 ∧ 10 ≤ q ∧ q ≤ 12)) : TK σ (mup ρ p q v) tok b x := by
  obtain ⟨a1, a2, a3, a4, a5, a6, a7⟩ := h
  exact ⟨a1, by rw [mup_n (by omega)]; exact a2, a3, by rw [mup_n (by omega)]; exact a4, a5, by rw [mup_n (by omega)]; exact a6, a7⟩
theorem mea_nx {tok tok' x x' : Nat} (h : tok ≠ 3000) (h1 : tok' ≠ 3000 → x < x') (h2 : x ≤ x') (h3 : x' ≤ t) : mea t tok' x' + 1 ≤ mea t tok x := by
  unfold mea
  rw [if_neg h]
  by_cases q : tok' = 3000
  · rw [if_pos q]; omega
  · have := h1 q
    rw [if_neg q]; omega
theorem rEnd_y {ρ : Mem} {tok : Nat} (h : ρ 0 12 = tkI tok) (ht : tok = 59) : fX7_readsEnd ρ = bv (fX7_take ρ) fun σ5 => some (1, σ5) := by
  unfold fX7_readsEnd fX7_readsEnd_14
  rw [h, if_pos (show tkI tok = 59 from (tk_is (c := 59) (by omega) (by omega)).mpr ht)]
  simp only [one0, if_false]
  congr 1
theorem rEnd_n {ρ : Mem} {tok : Nat} (h : ρ 0 12 = tkI tok) (hl : tok ≤ 3000) (ht : tok ≠ 59) : fX7_readsEnd ρ = some (0, ρ) := by
  unfold fX7_readsEnd fX7_readsEnd_14
  rw [h, if_neg (show ¬ tkI tok = 59 from fun z => ht ((tk_is (c := 59) hl (by omega)).mp z)), if_pos rfl, grd_t (Or.inl rfl)]
theorem stopA {m : Nat} (hA : PA σa ρa t tx m) {σ ρ : Mem} {tok b x i it N : Nat} {sz : Nat → Nat} {ev yr : Nat → Nat → Nat} {fu fu1 : Nat} (hc : CO σa ρa t tx σ ρ tok b x) (ht : tok = 59) (hi : i < x) (hit : it ≤ i) (htake : fX5_take 31 σ = some (1, mup (mup σ 1 7 (nI (it + 1))) 1 6 0)) (hm : CM σ ρ it N sz) (hd : PD σ ρ N sz ev yr) (hme : mea t tok x < m + 1) (h1 : mea t tok x < fu + 1) (h2 : mea t tok x ≤ fu1) :
    ∃ ρ2, fX7_take ρ = some ρ2 ∧ OUT σa ρa (fX5_read_30 31 (fu + 1) (nI i) σ) (fX7_reads_25 fu1 (mup ρ2 0 13 (ρ2 0 13 + 1))) := by
  obtain ⟨c1, c2, c3, c4, c5, c6⟩ := hc
  have h110 := c1.1
  obtain ⟨m1, m2, m3, m4, m5⟩ := hm
  obtain ⟨σ', ρ2, tok', b', x', a1, a2, a3, a4, a5, a6, a7⟩ := CO_adv (σ := mup (mup σ 1 7 (nI (it + 1))) 1 6 0) (ρ := ρ) (x := x) (TT_mX (TT_mX c1 (by omega)) (by omega)) (FX_m (FX_m c2 (by omega)) (by omega)) c3 (by rw [mup_n (by omega), mup_n (by omega)]; exact c4.1) c4.2.1 c6
  have k0 : ¬ σ 1 3 = 0 := by
    rw [c4.2.2.2.2.1]
    intro z
    have := kdt_0.mp ((kdI (c := 0) (by omega)).mp z)
    omega
  obtain ⟨d1, d2, d3, d4, d5, d6⟩ := a3
  have hn := mea_nx (t := t) (tok := tok) (x := x) (by omega) a4 a5 d6
  refine ⟨ρ2, a2, ?_⟩
  rw [read_go k0 (by omega) htake a1, a7 0 13 (by omega), m2, nI_1]
  refine hA σ' (mup ρ2 0 13 (nI (it + 1))) tok' b' x' (i + 1) (it + 1) N sz ev yr fu fu1 ⟨TT_mR d1 (by omega), d2, FR_m d3 (by omega), TK_m d4 (by omega), d5, d6⟩ (fun z => by have := a4 z; omega) (by omega) (by omega) ?_ ⟨?_, mup_s _ _ _ _, SL_fr m3 ?_ ?_ ?_, ?_, fun h hh => ?_⟩ (PD_fr hd (fun p q _ _ _ => ?_) (fun p q _ => ?_)) (by omega) (by omega) (by omega)
  · rw [a6 _ _ (by omega), mup_s]
  · rw [a6 _ _ (by omega), mup_n (by omega), mup_s]
  · rw [a6 _ _ (by omega), mup_n (by omega), mup_n (by omega)]
  · rw [a6 _ _ (by omega), mup_n (by omega), mup_n (by omega)]
  · rw [mup_n (by omega), a7 _ _ (by omega)]
  · rw [mup_n (by omega), a7 _ _ (by omega)]; exact m4
  · rw [mup_n (by omega), a7 _ _ (by omega)]; exact m5 h hh
  · rw [a6 _ _ (by omega), mup_n (by omega), mup_n (by omega)]
  · rw [mup_n (by omega), a7 _ _ (by omega)]
theorem k_ne {σ ρ : Mem} {tok b x : Nat} (h : TK σ ρ tok b x) (ht : tok ≠ 3000) : ¬ σ 1 3 = 0 := by
  rw [h.2.2.2.2.1]
  intro z
  exact ht (kdt_0.mp ((kdI (c := 0) (by omega)).mp z))
theorem k_eq {σ ρ : Mem} {tok b x : Nat} (h : TK σ ρ tok b x) (ht : tok = 3000) : σ 1 3 = 0 := by
  rw [h.2.2.2.2.1, ht]
  rfl
/-- the text ends where it may not -/
theorem end_fail {σ ρ : Mem} {tok b x i fu : Nat} {s : Int32} (hc : CO σa ρa t tx σ ρ tok b x) (ht : tok = 3000) (hs : σ 1 6 = s) (hs0 : ¬ s = 0) : OUT σa ρa (fX5_read_30 31 (fu + 1) (nI i) σ) (some (0, ρ)) := by
  obtain ⟨c1, c2, c3, c4, c5, c6⟩ := hc
  have h110 := c1.1
  rw [read_end (k_eq c4 ht)]
  unfold fX5_read_69
  rw [hs, if_neg hs0]
  exact OUT_fail c2 c3 (by omega) (by rw [c4.2.2.1]) c4.2.2.2.1
/-- a token that can't stand there -/
theorem tok_fail {σ ρ σ' : Mem} {tok b x i fu : Nat} (hc : CO σa ρa t tx σ ρ tok b x) (ht : tok ≠ 3000) (hi : i < x) (htake : fX5_take 31 σ = some (0, σ')) (h1 : FX σa σ') (h2 : σ' 1 4 = σ 1 4) : OUT σa ρa (fX5_read_30 31 (fu + 1) (nI i) σ) (some (0, ρ)) := by
  obtain ⟨c1, c2, c3, c4, c5, c6⟩ := hc
  have h110 := c1.1
  rw [read_fail (k_ne c4 ht) (by omega) htake]
  exact OUT_fail h1 c3 (by omega) (by rw [h2, c4.2.2.1]) c4.2.2.2.1
theorem PD_open {σ ρ : Mem} {N : Nat} {sz : Nat → Nat} {ev yr : Nat → Nat → Nat} (hd : PD σ ρ N sz ev yr) (hN : N < 4) : PD (mup (mup σ 31 1 (nI (N + 1))) 1 6 2) ρ (N + 1) (fun h => if h = N then 0 else sz h) ev yr := by
  obtain ⟨⟨v1, v2, v3, v4, v5, v6⟩, h1, h2, h3⟩ := hd
  refine ⟨⟨by omega, fun h hh => ?_, fun h k hh hk => ?_, fun h i j hh hi hj => ?_, fun h i j hh hi hj => ?_, by omega⟩, by rw [mup_n (by omega), mup_s], fun h hh => ?_, fun h hh => ?_⟩
  · by_cases q : h = N
    · simp only [q, if_true]; exact ⟨by omega, by omega⟩
    · simp only [q, if_false]; exact v2 h (by omega)
  · by_cases q : h = N
    · simp only [q, if_true] at hk; omega
    · simp only [q, if_false] at hk; exact v3 h k (by omega) hk
  · by_cases q : h = N
    · simp only [q, if_true] at hj; omega
    · simp only [q, if_false] at hj; exact v4 h i j (by omega) hi hj
  · by_cases q : h = N
    · simp only [q, if_true] at hj; omega
    · simp only [q, if_false] at hj; exact v5 h i j (by omega) hi hj
  · rw [mup_n (by omega), mup_n (by omega), mup_n (by omega), mup_n (by omega)]
    exact ⟨(h2 h hh).1, fun z => (h2 h hh).2 (by omega)⟩
  · by_cases q : h = N
    · subst q
      refine ⟨?_, fun k hk => ?_⟩
      · rw [mup_n (by omega), mup_n (by omega), (h2 h (by omega)).2 (by omega)]
        simp only [if_true]
        rfl
      · simp only [if_true] at hk; omega
    · obtain ⟨a, b⟩ := h3 h (by omega)
      refine ⟨?_, fun k hk => ?_⟩
      · rw [mup_n (by omega), mup_n (by omega), a]
        simp only [q, if_false]
      · simp only [q, if_false] at hk
        rw [mup_n (by omega), mup_n (by omega), mup_n (by omega), mup_n (by omega)]
        exact b k hk
theorem PD_ev {σ ρ : Mem} {N k : Nat} {sz : Nat → Nat} {ev yr : Nat → Nat → Nat} {v : Int32} (hd : PD σ ρ (N + 1) sz ev yr) (hk : sz N = k) : PD σ (mup ρ 8 (6 * N + k) v) (N + 1) sz ev yr := by
  obtain ⟨hv, h1, h2, h3⟩ := hd
  refine ⟨hv, h1, h2, fun h hh => ⟨(h3 h hh).1, fun j hj => ?_⟩⟩
  have h6 := (hv.2.1 h hh).1
  have ne : 6 * h + j ≠ 6 * N + k := by
    by_cases q : h = N
    · subst q; omega
    · omega
  rw [mup_n (Or.inr ne), mup_n (Or.inl (by omega))]
  exact (h3 h hh).2 j hj
theorem PD_add {σ ρ : Mem} {N k e v : Nat} {sz : Nat → Nat} {ev yr : Nat → Nat → Nat} (hd : PD σ ρ (N + 1) sz ev yr) (hk : sz N = k) (hk6 : k < 6) (he : e < 8) (hv9 : v ≤ 99) (hno : ¬ ∃ j, j < k ∧ ev N j = e) (hb : k = 0 ∨ yr N (k - 1) ≤ v) (h8 : ρ 8 (6 * N + k) = nI e) :
    PD (mup (mup (mup (mup σ 1 6 2) (31 + 2 + 3 * N + 1) k (nI e)) (31 + 2 + 3 * N + 2) k (nI v)) (31 + 2 + 3 * N) 2 (nI (k + 1))) (mup ρ 9 (6 * N + k) (nI v)) (N + 1) (fun h => if h = N then k + 1 else sz h) (fun h j => if h = N ∧ j = k then e else ev h j) (fun h j => if h = N ∧ j = k then v else yr h j) := by
  obtain ⟨⟨v1, v2, v3, v4, v5, v6⟩, h1, h2, h3⟩ := hd
  have mono : ∀ i j, i ≤ j → j < k → yr N i ≤ yr N j := fun i j a b => by
    rcases Nat.lt_or_ge i j with w | w
    · exact v5 N i j (by omega) w (by omega)
    · rw [show i = j by omega]; exact Nat.le_refl _
  refine ⟨⟨by omega, fun h hh => ?_, fun h j hh hj => ?_, fun h i j hh hi hj => ?_, fun h i j hh hi hj => ?_, by omega⟩, by rw [mup_n (by omega), mup_n (by omega), mup_n (by omega), mup_n (by omega)]; exact h1, fun h hh => ?_, fun h hh => ?_⟩
  · by_cases q : h = N
    · simp only [q, if_true]; exact ⟨by omega, Nat.two_pow_pos _⟩
    · simp only [q, if_false]; exact v2 h (by omega)
  · by_cases q : h = N
    · subst q
      simp only [if_true] at hj
      by_cases w : j = k
      · subst w
        simp only [and_self, if_true]
        exact ⟨he, hv9⟩
      · simp only [w, and_false, if_false]
        exact v3 h j hh (by omega)
    · simp only [q, if_false] at hj
      simp only [q, false_and, if_false]
      exact v3 h j hh hj
  · by_cases q : h = N
    · subst q
      simp only [if_true] at hj
      have w1 : ¬ i = k := by omega
      simp only [w1, and_false, if_false]
      by_cases w : j = k
      · subst w
        simp only [and_self, if_true]
        exact fun z => hno ⟨i, hi, z⟩
      · simp only [w, and_false, if_false]
        exact v4 h i j hh hi (by omega)
    · simp only [q, if_false] at hj
      simp only [q, false_and, if_false]
      exact v4 h i j hh hi hj
  · by_cases q : h = N
    · subst q
      simp only [if_true] at hj
      have w1 : ¬ i = k := by omega
      simp only [w1, and_false, if_false]
      by_cases w : j = k
      · subst w
        simp only [and_self, if_true]
        rcases hb with hb | hb
        · omega
        · exact Nat.le_trans (mono i (j - 1) (by omega) (by omega)) hb
      · simp only [w, and_false, if_false]
        exact v5 h i j hh hi (by omega)
    · simp only [q, if_false] at hj
      simp only [q, false_and, if_false]
      exact v5 h i j hh hi hj
  · constructor
    · rw [mup_n (by omega), mup_n (by omega), mup_n (by omega), mup_n (by omega)]
      exact (h2 h hh).1
    · intro z
      rw [mup_n (by omega), mup_n (by omega), mup_n (by omega), mup_n (by omega)]
      exact (h2 h hh).2 z
  · obtain ⟨a, b⟩ := h3 h hh
    have h6 := (v2 h hh).1
    by_cases q : h = N
    · subst q
      refine ⟨by rw [mup_s]; simp only [if_true], fun j hj => ?_⟩
      simp only [if_true] at hj
      by_cases w : j = k
      · subst w
        simp only [and_self, if_true]
        refine ⟨by rw [mup_n (by omega), mup_n (by omega), mup_s], by rw [mup_n (by omega), mup_s], by rw [mup_n (by omega)]; exact h8, mup_s _ _ _ _⟩
      · simp only [w, and_false, if_false]
        obtain ⟨b1, b2, b3, b4⟩ := b j (by omega)
        exact ⟨by rw [mup_n (by omega), mup_n (by omega), mup_n (by omega), mup_n (by omega)]; exact b1, by rw [mup_n (by omega), mup_n (by omega), mup_n (by omega), mup_n (by omega)]; exact b2, by rw [mup_n (by omega)]; exact b3, by rw [mup_n (by omega)]; exact b4⟩
    · refine ⟨by rw [mup_n (by omega), mup_n (by omega), mup_n (by omega), mup_n (by omega), a]; simp only [q, if_false], fun j hj => ?_⟩
      simp only [q, if_false] at hj
      simp only [q, false_and, if_false]
      obtain ⟨b1, b2, b3, b4⟩ := b j hj
      exact ⟨by rw [mup_n (by omega), mup_n (by omega), mup_n (by omega), mup_n (by omega)]; exact b1, by rw [mup_n (by omega), mup_n (by omega), mup_n (by omega), mup_n (by omega)]; exact b2, by rw [mup_n (by omega)]; exact b3, by rw [mup_n (by omega)]; exact b4⟩
end RE
