/-! the class's order of events -/
theorem both_bits : ∀ m, m < 64 → ∀ i, i < 6 → ∀ j, j < 6 → ((((nI m >>> (nI i &&& 31)) ||| (nI m >>> (nI j &&& 31))) &&& (1 : Int32)) = 0 ↔ m.testBit i = false ∧ m.testBit j = false) := by decide +kernel
/-- the rows behind entry i has been held against those before j -/
def ajr (m : Nat) (ev yr : Nat → Nat) (i : Nat) (A : Nat → Nat) : Nat → Nat → Nat
  | 0 => A
  | j + 1 => if (decide (i < j) && !m.testBit i && !m.testBit j && decide (yr i < yr j)) = true then (fun z => if z = ev i then ajr m ev yr i A j (ev i) ||| 2 ^ ev j else ajr m ev yr i A j z) else ajr m ev yr i A j
def air (m : Nat) (ev yr : Nat → Nat) (sz : Nat) (A : Nat → Nat) : Nat → Nat → Nat
  | 0 => A
  | i + 1 => ajr m ev yr i (air m ev yr sz A i) sz
theorem ajr_le {m : Nat} {ev yr : Nat → Nat} {i : Nat} {A : Nat → Nat} : ∀ j, j ≤ i + 1 → ajr m ev yr i A j = A
  | 0, _ => rfl
  | j + 1, h => by
    rw [ajr, if_neg, ajr_le j (by omega)]
    simp [show ¬ i < j by omega]
theorem ajr_bit {m : Nat} {ev yr : Nat → Nat} {i : Nat} {A : Nat → Nat} {e f : Nat} : ∀ j, (ajr m ev yr i A j e).testBit f = true ↔ (A e).testBit f = true ∨ ∃ q, q < j ∧ i < q ∧ m.testBit i = false ∧ m.testBit q = false ∧ yr i < yr q ∧ ev i = e ∧ ev q = f
  | 0 => by
    simp [ajr]
  | j + 1 => by
    have ih := ajr_bit (m := m) (ev := ev) (yr := yr) (i := i) (A := A) (e := e) (f := f) j
    rw [ajr]
    by_cases h : (decide (i < j) && !m.testBit i && !m.testBit j && decide (yr i < yr j)) = true
    · rw [if_pos h]
      simp only [Bool.and_eq_true, decide_eq_true_eq, Bool.not_eq_true'] at h
      obtain ⟨⟨⟨h1, h2⟩, h3⟩, h4⟩ := h
      by_cases q : e = ev i
      · subst q
        rw [if_pos rfl, Nat.testBit_or, Bool.or_eq_true, ih, Nat.testBit_two_pow]
        constructor
        · rintro ((w | ⟨z, a, b⟩) | w)
          · exact Or.inl w
          · exact Or.inr ⟨z, by omega, b⟩
          · exact Or.inr ⟨j, by omega, h1, h2, h3, h4, rfl, by simpa using w⟩
        · rintro (w | ⟨z, a, b⟩)
          · exact Or.inl (Or.inl w)
          · by_cases y : z = j
            · subst y; exact Or.inr (by simpa using b.2.2.2.2.2)
            · exact Or.inl (Or.inr ⟨z, by omega, b⟩)
      · rw [if_neg q, ih]
        constructor
        · rintro (w | ⟨z, a, b⟩)
          · exact Or.inl w
          · exact Or.inr ⟨z, by omega, b⟩
        · rintro (w | ⟨z, a, b⟩)
          · exact Or.inl w
          · exact absurd b.2.2.2.2.1.symm q
    · rw [if_neg h, ih]
      constructor
      · rintro (w | ⟨z, a, b⟩)
        · exact Or.inl w
        · exact Or.inr ⟨z, by omega, b⟩
      · rintro (w | ⟨z, a, b⟩)
        · exact Or.inl w
        · by_cases y : z = j
          · subst y
            exact absurd (by simp [b.1, b.2.1, b.2.2.1, b.2.2.2.1]) h
          · exact Or.inr ⟨z, by omega, b⟩
theorem air_bit {m : Nat} {ev yr : Nat → Nat} {sz : Nat} {A : Nat → Nat} {e f : Nat} : ∀ i, (air m ev yr sz A i e).testBit f = true ↔ (A e).testBit f = true ∨ ∃ p q, p < i ∧ q < sz ∧ p < q ∧ m.testBit p = false ∧ m.testBit q = false ∧ yr p < yr q ∧ ev p = e ∧ ev q = f
  | 0 => by
    simp [air]
  | i + 1 => by
    rw [air, ajr_bit, air_bit i]
    constructor
    · rintro ((w | ⟨p, q, a, b⟩) | ⟨q, a, b⟩)
      · exact Or.inl w
      · exact Or.inr ⟨p, q, by omega, b⟩
      · exact Or.inr ⟨i, q, by omega, a, b⟩
    · rintro (w | ⟨p, q, a, b, c⟩)
      · exact Or.inl (Or.inl w)
      · by_cases y : p = i
        · subst y; exact Or.inr ⟨q, b, c⟩
        · exact Or.inl (Or.inr ⟨p, q, by omega, b, c⟩)
theorem pl1_in {a : Nat → Bool} {ev : Nat → Nat} {e : Nat} (q : pl1 a ev e < 6) : a (pl1 a ev e) = true ∧ ev (pl1 a ev e) = e := by
  have w := fa_first_yes (fun k => a k && (ev k == e)) 6 q
  simp only [Bool.and_eq_true, beq_iff_eq] at w
  exact w
theorem pl1_at {sz m : Nat} {ev : Nat → Nat} (hs : sz ≤ 6) (hd : ∀ i j, i < j → j < sz → ev i ≠ ev j) {k : Nat} (hk : k < sz) (hm : m.testBit k = false) : pl1 (a1 sz m) ev (ev k) = k := by
  refine first_is (fun i hi => ?_) (by simp [a1, hk, hm]) (by omega)
  have := hd i k hi hk
  simp [this]
theorem air_ok {sz m : Nat} {ev yr : Nat → Nat} {B : Nat → Nat} (hs : sz ≤ 6) (hb : ∀ k, k < sz → ev k < 8 ∧ yr k ≤ 99) (hd : ∀ i j, i < j → j < sz → ev i ≠ ev j) (ho : ∀ i j, i < j → j < sz → yr i ≤ yr j) {e : Nat} (hB : B e < 256) :
    air m ev yr sz B sz e = if pl1 (a1 sz m) ev e < 6 then B e ||| msk (fun f => decide (pl1 (a1 sz m) ev f < 6) && decide (yr (pl1 (a1 sz m) ev e) < yr (pl1 (a1 sz m) ev f))) 8 else B e := by
  apply bit_ext
  intro f
  rw [Bool.eq_iff_iff, air_bit]
  by_cases q : pl1 (a1 sz m) ev e < 6
  · obtain ⟨w1, w2⟩ := pl1_in q
    simp only [a1, Bool.and_eq_true, decide_eq_true_eq, Bool.not_eq_true'] at w1
    rw [if_pos q, Nat.testBit_or, Bool.or_eq_true, msk_bit]
    simp only [Bool.and_eq_true, decide_eq_true_eq]
    constructor
    · rintro (w | ⟨x, y, h1, h2, h3, h4, h5, h6, h7, h8⟩)
      · exact Or.inl w
      · subst h7; subst h8
        rw [pl1_at hs hd h1 h4, pl1_at hs hd h2 h5]
        exact Or.inr ⟨(hb y h2).1, by omega, h6⟩
    · rintro (w | ⟨g1, g2, g3⟩)
      · exact Or.inl w
      · obtain ⟨v1, v2⟩ := pl1_in g2
        simp only [a1, Bool.and_eq_true, decide_eq_true_eq, Bool.not_eq_true'] at v1
        refine Or.inr ⟨_, _, w1.1, v1.1, ?_, w1.2, v1.2, g3, w2, v2⟩
        rcases Nat.lt_trichotomy (pl1 (a1 sz m) ev e) (pl1 (a1 sz m) ev f) with z | z | z
        · exact z
        · rw [z] at g3; omega
        · have := ho _ _ z w1.1; omega
  · rw [if_neg q]
    constructor
    · rintro (w | ⟨x, y, h1, h2, h3, h4, h5, h6, h7, h8⟩)
      · exact w
      · subst h7
        rw [pl1_at hs hd h1 h4] at q; omega
    · exact Or.inl
theorem ask_ok {τ : Mem} {h sz sb m : Nat} {ev yr : Nat → Nat} {B : Nat → Nat} (h17 : 17 ≤ h) (hx : XH τ h sz ev yr sb) (hs : sz ≤ 6) (hb : ∀ k, k < sz → ev k < 8 ∧ yr k ≤ 99) (hm : m < 64) :
    fX3_ask h (nI m) (chm 13 τ B 8) = some (chm 13 τ (air m ev yr sz B sz) 8) := by
  have e2 : ∀ C, chm 13 τ C 8 h 2 = nI sz := fun C => by rw [chm_out (by omega)]; exact hx.1
  have e3 : ∀ C k, k < sz → chm 13 τ C 8 (h + 1) k = nI (ev k) := fun C k hk => by rw [chm_out (by omega)]; exact hx.2.2.1 k hk
  have e4 : ∀ C k, k < sz → chm 13 τ C 8 (h + 2) k = nI (yr k) := fun C k hk => by rw [chm_out (by omega)]; exact hx.2.2.2 k hk
  unfold fX3_ask
  refine loop1 (fun fu i s => fX3_ask_2 h fu (nI m) (nI i) (chm 13 τ s 8)) sz (fun i => air m ev yr sz B i) (fun fu => ?_) (fun fu i hi => ?_) (by rw [FU_big]; omega)
  · show fX3_ask_2 _ _ _ _ _ = _
    rw [fX3_ask_2, e2, if_pos (nI_le (Nat.le_refl _) (by omega))]
  · show fX3_ask_2 _ _ _ _ _ = fX3_ask_2 _ _ _ _ _
    rw [fX3_ask_2, e2, if_neg (nI_ge hi (by omega)), nI_1]
    have st : air m ev yr sz B i = ajr m ev yr i (air m ev yr sz B i) (i + 1) := (ajr_le (i + 1) (Nat.le_refl _)).symm
    rw [st]
    refine loopA (fun fu2 j s => fX3_ask_15 (fun a0 a1 a2 => fX3_ask_2 h fu a0 a1 a2) h fu2 (nI m) (nI i) (nI j) (chm 13 τ s 8)) (i + 1) sz (fun j => ajr m ev yr i (air m ev yr sz B i) j) (by omega) (fun fu2 => ?_) (fun fu2 j hj1 hj2 => ?_) (by rw [FU_big]; omega)
    · show fX3_ask_15 _ _ _ _ _ _ _ = _
      rw [fX3_ask_15, e2, if_pos (nI_le (Nat.le_refl _) (by omega)), nI_1]
      rfl
    · show fX3_ask_15 _ _ _ _ _ _ _ = fX3_ask_15 _ _ _ _ _ _ _
      have bi := hb i hi
      have bj := hb j hj2
      rw [fX3_ask_15, e2, if_neg (nI_ge hj2 (by omega))]
      simp only [both_bits m hm i (by omega) j (by omega), fX3_ask_42]
      simp only [grd_in (show i < 6 by omega) (show 6 < 2 ^ 31 by omega), grd_in (show j < 6 by omega) (show 6 < 2 ^ 31 by omega)]
      simp only [nI_clamp (show i < 2 ^ 31 by omega), nI_clamp (show j < 2 ^ 31 by omega), e3 _ i hi, e3 _ j hj2, e4 _ i hi, e4 _ j hj2]
      simp only [grd_in bi.1 (show 8 < 2 ^ 31 by omega)]
      simp only [nI_clamp (show ev i < 2 ^ 31 by omega), chm_in bi.1, shl1 (show ev j < 31 by omega), fa_or, chm_up bi.1, nI_1, nI_leI (show yr j < 2 ^ 31 by omega) (show yr i < 2 ^ 31 by omega)]
      by_cases q1 : m.testBit i = false ∧ m.testBit j = false
      · rw [if_pos q1, if_neg (by decide)]
        by_cases q2 : yr j ≤ yr i
        · rw [if_pos q2, ajr, if_neg]
          simp [show ¬ yr i < yr j by omega]
        · rw [if_neg q2, ajr, if_pos]
          simp [show yr i < yr j by omega, q1.1, q1.2, show i < j by omega]
      · rw [if_neg q1, if_pos trivial, ajr, if_neg]
        intro w
        simp only [Bool.and_eq_true, decide_eq_true_eq, Bool.not_eq_true'] at w
        exact q1 ⟨w.1.1.2, w.1.2⟩
theorem oempty_ok (σ : Mem) : fX3_empty σ = some (chm 13 σ (fun _ => 0) 8) := by
  unfold fX3_empty
  refine loop1s (fun fu k s => fX3_empty_2 fu (nI k) s) 8 (fun k => chm 13 σ (fun _ => 0) k) (s0 := σ) chm_0.symm (fun fu => ?_) (fun fu k hk => ?_) (by rw [FU_big]; omega)
  · show fX3_empty_2 _ _ _ = _
    rw [fX3_empty_2, if_pos (by decide)]
  · show fX3_empty_2 _ _ _ = fX3_empty_2 _ _ _
    rw [fX3_empty_2, if_neg (nle8 hk), grd_in hk (by omega), nI_clamp (by omega), nI_1]
    congr 1
    exact chm_next (c := fun _ => 0)
/-! Warshall -/
def wsh (v : Nat) (c : Nat → Nat) : Nat → Nat := fun z => if (c z).testBit v then c z ||| c v else c z
def wrs (A : Nat → Nat) : Nat → Nat → Nat
  | 0 => A
  | v + 1 => wsh v (wrs A v)
theorem wsh_bit {v : Nat} {c : Nat → Nat} {e f : Nat} : (wsh v c e).testBit f = true ↔ (c e).testBit f = true ∨ ((c e).testBit v = true ∧ (c v).testBit f = true) := by
  unfold wsh
  by_cases q : (c e).testBit v = true
  · simp [q, Nat.testBit_or]
  · simp [q]
theorem wrs_inv {A : Nat → Nat} (hA : ∀ e, e < 8 → A e < 256) : ∀ v, v ≤ 8 → Pre A (wrs A v) ∧ ∀ e u f, u < v → (wrs A v e).testBit u = true → (wrs A v u).testBit f = true → (wrs A v e).testBit f = true := by
  intro v
  induction v with
  | zero => intro _; exact ⟨Pre_rf hA, fun e u f h => absurd h (by omega)⟩
  | succ v ih =>
    intro hv
    obtain ⟨⟨p1, p2, p3⟩, c1⟩ := ih (by omega)
    refine ⟨⟨fun e he => ?_, fun e f he q => ?_, fun S s1 s2 e f he q => ?_⟩, fun e u f hu q1 q2 => ?_⟩
    · rw [wrs, wsh]
      split
      · exact Nat.or_lt_two_pow (n := 8) (p1 e he) (p1 v (by omega))
      · exact p1 e he
    · rw [wrs, wsh_bit]; exact Or.inl (p2 e f he q)
    · rw [wrs, wsh_bit] at q
      rcases q with q | ⟨qa, qb⟩
      · exact p3 S s1 s2 e f he q
      · exact s2 e v f he (by omega) (p3 S s1 s2 e v he qa) (p3 S s1 s2 v f (by omega) qb)
    · rw [wrs, wsh_bit] at *
      by_cases w : u = v
      · subst w
        have b1 : (wrs A u e).testBit u = true := by rcases q1 with q | q <;> first | exact q | exact q.1
        have b2 : (wrs A u u).testBit f = true := by rcases q2 with q | q <;> first | exact q | exact q.2
        exact Or.inr ⟨b1, b2⟩
      · have hu' : u < v := by omega
        rcases q1 with q1 | ⟨q1a, q1b⟩ <;> rcases q2 with q2 | ⟨q2a, q2b⟩
        · exact Or.inl (c1 e u f hu' q1 q2)
        · exact Or.inr ⟨c1 e u v hu' q1 q2a, q2b⟩
        · exact Or.inr ⟨q1a, c1 v u f hu' q1b q2⟩
        · exact Or.inr ⟨q1a, q2b⟩
theorem wrs_cl {A : Nat → Nat} (hA : ∀ e, e < 8 → A e < 256) : Cl A (wrs A 8) := by
  obtain ⟨h1, h2⟩ := wrs_inv hA 8 (by omega)
  exact ⟨h1, fun e f g he hf q1 q2 => h2 e f g hf q1 q2⟩
theorem chain_ok {τ : Mem} {A : Nat → Nat} (hA : ∀ e, e < 8 → A e < 256) : fX3_chain (chm 13 τ A 8) = some (chm 14 (chm 13 τ A 8) (wrs A 8) 8) := by
  unfold fX3_chain
  refine loop1s (fun fu k s => fX3_chain_2 fu (nI k) s) 8 (fun k => chm 14 (chm 13 τ A 8) A k) (s0 := chm 13 τ A 8) chm_0.symm (fun fu => ?_) (fun fu k hk => ?_) (by rw [FU_big]; omega)
  · show fX3_chain_2 _ _ _ = _
    rw [fX3_chain_2, if_pos (by decide)]
    refine loop1 (fun fu v s => fX3_chain_28 fu (nI v) (chm 14 (chm 13 τ A 8) s 8)) 8 (fun v => wrs A v) (fun fu => ?_) (fun fu v hv => ?_) (by rw [FU_big]; omega)
    · show fX3_chain_28 _ _ _ = _
      rw [fX3_chain_28, if_pos (by decide)]
    · show fX3_chain_28 _ _ _ = fX3_chain_28 _ _ _
      have p1 := (wrs_inv hA v (by omega)).1.1
      rw [fX3_chain_28, if_neg (nle8 hv)]
      refine loop1s (fun fu2 e s => fX3_chain_36 (fun a0 a1 => fX3_chain_28 fu a0 a1) fu2 (nI v) (nI e) (chm 14 (chm 13 τ A 8) s 8)) 8 (fun e => fun z => if z < e then wsh v (wrs A v) z else wrs A v z) (s0 := wrs A v) (by funext z; simp) (fun fu2 => ?_) (fun fu2 e he => ?_) (by rw [FU_big]; omega)
      · show fX3_chain_36 _ _ _ _ _ = _
        rw [fX3_chain_36, if_pos (by decide), nI_1]
        congr 1
        apply chm_cong
        intro z hz
        simp [hz, wrs]
      · show fX3_chain_36 _ _ _ _ _ = fX3_chain_36 _ _ _ _ _
        have b1 := p1 e he
        rw [fX3_chain_36, if_neg (nle8 he)]
        simp only [grd_in he (show 8 < 2 ^ 31 by omega), grd_in hv (show 8 < 2 ^ 31 by omega)]
        simp only [nI_clamp (show e < 2 ^ 31 by omega), nI_clamp (show v < 2 ^ 31 by omega), chm_in he, chm_in hv, Nat.lt_irrefl, if_false]
        rw [shrbit (by omega) (by omega), nI_1]
        by_cases q : (wrs A v e).testBit v = true
        · rw [if_pos q, if_neg (by decide), fa_or, chm_up he]
          congr 1
          apply chm_cong
          intro z hz
          have wv : (if v < e then wsh v (wrs A v) v else wrs A v v) = wrs A v v := by
            split
            · unfold wsh; split <;> simp
            · rfl
          rw [wv]
          by_cases w : z = e
          · subst w
            simp [wsh, q]
          · by_cases y : z < e
            · simp [w, y, show z < e + 1 by omega]
            · simp [w, y, show ¬ z < e + 1 by omega]
        · rw [if_neg q, if_pos rfl]
          congr 1
          apply chm_cong
          intro z hz
          by_cases w : z = e
          · subst w
            simp [wsh, q]
          · by_cases y : z < e
            · simp [y, show z < e + 1 by omega]
            · simp [y, show ¬ z < e + 1 by omega]
  · show fX3_chain_2 _ _ _ = fX3_chain_2 _ _ _
    rw [fX3_chain_2, if_neg (nle8 hk)]
    simp only [grd_in hk (show 8 < 2 ^ 31 by omega)]
    rw [nI_clamp (by omega), nI_1, chm_out (a := 13) (by omega), chm_in hk]
    congr 1
    exact chm_next
theorem oknots_ok {τ : Mem} {c : Nat → Nat} : fX3_knots (chm 14 τ c 8) = some (nI (msk (fun e => (c e).testBit e) 8)) := by
  unfold fX3_knots
  refine loop1 (fun fu k s => fX3_knots_4 (chm 14 τ c 8) fu (nI s) (nI k)) 8 (fun k => msk (fun e => (c e).testBit e) k) (fun fu => ?_) (fun fu k hk => ?_) (by rw [FU_big]; omega)
  · show fX3_knots_4 _ _ _ _ = _
    rw [fX3_knots_4, if_pos (by decide)]
  · show fX3_knots_4 _ _ _ _ = fX3_knots_4 _ _ _ _
    rw [fX3_knots_4, if_neg (nle8 hk), grd_in hk (by omega), nI_clamp (by omega), chm_in hk, shl1 (by omega), fa_and, fa_or, nI_1, and_pow]
    by_cases q : (c k).testBit k = true
    · simp [msk, q]
    · simp [msk, q]
