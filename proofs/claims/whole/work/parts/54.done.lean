/-! strikes, tells, slacks, undo -/
section AC
variable {σ ρ : Mem} {n : Nat} {sz : Nat → Nat} {ev : Nat → Nat → Nat} {d : Dy}
theorem xor_back (a b : Nat) : a ^^^ b ^^^ b = a := by
  rw [Nat.xor_assoc, Nat.xor_self, Nat.xor_zero]
theorem undo0 {p k : Nat} {o o' : Nat} : d = undoD 0 p k o (undoD 0 p k o' d) := by
  obtain ⟨y, b, s⟩ := d
  show (y, b, s) = (y, (fun h => if h = p then (if h = p then b h ^^^ 2 ^ k else b h) ^^^ 2 ^ k else (if h = p then b h ^^^ 2 ^ k else b h)), s)
  congr 2
  funext h
  by_cases q : h = p
  · simp only [q, if_true]
    rw [xor_back]
  · simp only [q, if_false]
theorem undo1 {p k y : Nat} : d = undoD 1 p k (d.1 p k) (undoD 1 p k y d) := by
  obtain ⟨z, b, s⟩ := d
  show (z, b, s) = ((fun h i => if h = p ∧ i = k then z p k else (if h = p ∧ i = k then y else z h i)), b, s)
  congr 1
  funext h i
  by_cases q : h = p ∧ i = k
  · rw [if_pos q, q.1, q.2]
  · rw [if_neg q, if_neg q]
theorem undo2 {p k v : Nat} : d = undoD 2 p k d.2.2 (undoD 2 p k v d) := rfl
theorem XC0 {c p k o : Nat} (h : XCd σ c n sz ev d) (hp : p < n) : XCd (mup σ (c + 2 + 3 * p) 3 (nI (d.2.1 p ^^^ 2 ^ k))) c n sz ev (undoD 0 p k o d) := by
  obtain ⟨h1, h2, h3⟩ := h
  refine ⟨by rw [mup_n (by omega)]; exact h1, by rw [mup_n (by omega)]; exact h2, fun h hh => ?_⟩
  obtain ⟨a, b, c1, d1⟩ := h3 h hh
  refine ⟨by rw [mup_n (by omega)]; exact a, ?_, fun k hk => by rw [mup_n (by omega)]; exact c1 k hk, fun k hk => by rw [mup_n (by omega)]; exact d1 k hk⟩
  show _ = nI (if h = p then d.2.1 h ^^^ 2 ^ k else d.2.1 h)
  by_cases q : h = p
  · subst q
    rw [mup_s, if_pos rfl]
  · rw [mup_n (by omega), if_neg q]
    exact b
theorem XC1 {c p k y : Nat} (h : XCd σ c n sz ev d) : XCd (mup σ (c + 2 + 3 * p + 2) k (nI y)) c n sz ev (undoD 1 p k y d) := by
  obtain ⟨h1, h2, h3⟩ := h
  refine ⟨by rw [mup_n (by omega)]; exact h1, by rw [mup_n (by omega)]; exact h2, fun h hh => ?_⟩
  obtain ⟨a, b, c1, d1⟩ := h3 h hh
  refine ⟨by rw [mup_n (by omega)]; exact a, by rw [mup_n (by omega)]; exact b, fun k hk => by rw [mup_n (by omega)]; exact c1 k hk, fun i hi => ?_⟩
  show _ = nI (if h = p ∧ i = k then y else d.1 h i)
  by_cases q : h = p ∧ i = k
  · obtain ⟨rfl, rfl⟩ := q
    rw [mup_s, if_pos ⟨rfl, rfl⟩]
  · rw [mup_n (by omega), if_neg q]
    exact d1 i hi
theorem XC2 {c p k v : Nat} (h : XCd σ c n sz ev d) : XCd (mup σ c 2 (nI v)) c n sz ev (undoD 2 p k v d) := by
  obtain ⟨h1, h2, h3⟩ := h
  refine ⟨by rw [mup_n (by omega)]; exact h1, mup_s _ _ _ _, fun h hh => ?_⟩
  obtain ⟨a, b, c1, d1⟩ := h3 h hh
  exact ⟨by rw [mup_n (by omega)]; exact a, by rw [mup_n (by omega)]; exact b, fun k hk => by rw [mup_n (by omega)]; exact c1 k hk, fun i hi => by rw [mup_n (by omega)]; exact d1 i hi⟩
theorem BK0 {p k o : Nat} (hv : KVd n sz ev d) (h : BK ρ 0 n sz d) (hp : p < n) (hk : k < sz p) : BK (mup ρ 1 (25 + 6 * p + k) (if (d.2.1 p).testBit k then 0 else 1)) 0 n sz (undoD 0 p k o d) := by
  have hn := hv.1
  have hp6 := (hv.2.1 p hp).1
  refine ⟨by rw [mup_n (by omega)]; exact h.1, fun h' k' hh' hk' => ?_⟩
  have h6 := (hv.2.1 h' hh').1
  refine ⟨by rw [mup_n (by omega)]; exact (h.2 h' k' hh' hk').1, ?_⟩
  show _ = if (if h' = p then d.2.1 h' ^^^ 2 ^ k else d.2.1 h').testBit k' then 1 else 0
  by_cases q : h' = p
  · subst q
    rw [if_pos rfl, fb_bit_flip]
    by_cases w : k' = k
    · subst w
      rw [Nat.zero_add, mup_s]
      by_cases z : (d.2.1 h').testBit k' = true
      · simp [z]
      · simp [z]
    · rw [mup_n (by omega), (h.2 h' k' hh' hk').2]
      simp [w]
  · rw [mup_n (by omega), if_neg q]
    exact (h.2 h' k' hh' hk').2
theorem BK1 {p k y : Nat} (hv : KVd n sz ev d) (h : BK ρ 0 n sz d) (hp : p < n) (hk : k < sz p) : BK (mup ρ 1 (1 + 6 * p + k) (nI y)) 0 n sz (undoD 1 p k y d) := by
  have hn := hv.1
  have hp6 := (hv.2.1 p hp).1
  refine ⟨by rw [mup_n (by omega)]; exact h.1, fun h' k' hh' hk' => ?_⟩
  have h6 := (hv.2.1 h' hh').1
  refine ⟨?_, by rw [mup_n (by omega)]; exact (h.2 h' k' hh' hk').2⟩
  show _ = nI (if h' = p ∧ k' = k then y else d.1 h' k')
  by_cases q : h' = p ∧ k' = k
  · obtain ⟨rfl, rfl⟩ := q
    rw [Nat.zero_add, mup_s, if_pos ⟨rfl, rfl⟩]
  · rw [mup_n (by omega), if_neg q]
    exact (h.2 h' k' hh' hk').1
theorem BK2 {p k v : Nat} (h : BK ρ 0 n sz d) : BK (mup ρ 1 0 (nI v)) 0 n sz (undoD 2 p k v d) := by
  refine ⟨mup_s _ _ _ _, fun h' k' hh' hk' => ?_⟩
  exact ⟨by rw [mup_n (by omega)]; exact (h.2 h' k' hh' hk').1, by rw [mup_n (by omega)]; exact (h.2 h' k' hh' hk').2⟩
theorem KV0 {p k o : Nat} (hv : KVd n sz ev d) (hk : k < sz p) : KVd n sz ev (undoD 0 p k o d) := by
  obtain ⟨h1, h2, h3, h4, h5, h6⟩ := hv
  refine ⟨h1, fun h hh => ⟨(h2 h hh).1, ?_⟩, h3, h4, h5, h6⟩
  show (if h = p then d.2.1 h ^^^ 2 ^ k else d.2.1 h) < _
  by_cases q : h = p
  · subst q
    rw [if_pos rfl]
    exact Nat.xor_lt_two_pow (h2 h hh).2 (Nat.pow_lt_pow_right (by omega) hk)
  · rw [if_neg q]
    exact (h2 h hh).2
theorem KV1 {p k y : Nat} (hv : KVd n sz ev d) (hy : y ≤ 99) (hb : k = 0 ∨ d.1 p (k - 1) ≤ y) (ha : sz p ≤ k + 1 ∨ y ≤ d.1 p (k + 1)) : KVd n sz ev (undoD 1 p k y d) := by
  obtain ⟨h1, h2, h3, h4, h5, h6⟩ := hv
  refine ⟨h1, h2, fun h i hh hi => ⟨(h3 h i hh hi).1, ?_⟩, h4, fun h i j hh hij hj => ?_, h6⟩
  · show (if h = p ∧ i = k then y else d.1 h i) ≤ 99
    by_cases q : h = p ∧ i = k
    · rw [if_pos q]; exact hy
    · rw [if_neg q]; exact (h3 h i hh hi).2
  · show (if h = p ∧ i = k then y else d.1 h i) ≤ (if h = p ∧ j = k then y else d.1 h j)
    have m : ∀ i j, i ≤ j → j < sz h → d.1 h i ≤ d.1 h j := fun i j a b => by
      rcases Nat.lt_or_ge i j with w | w
      · exact h5 h i j hh w b
      · rw [show i = j by omega]; exact Nat.le_refl _
    by_cases q : h = p ∧ i = k
    · obtain ⟨rfl, rfl⟩ := q
      rw [if_pos ⟨rfl, rfl⟩, if_neg (by omega)]
      rcases ha with ha | ha
      · omega
      · exact Nat.le_trans ha (m (i + 1) j (by omega) hj)
    · rw [if_neg q]
      by_cases w : h = p ∧ j = k
      · obtain ⟨rfl, rfl⟩ := w
        rw [if_pos ⟨rfl, rfl⟩]
        rcases hb with hb | hb
        · omega
        · exact Nat.le_trans (m i (j - 1) (by omega) (by omega)) hb
      · rw [if_neg w]
        exact h5 h i j hh hij hj
theorem KV2 {p k v : Nat} (hv : KVd n sz ev d) (h : v ≤ 9) : KVd n sz ev (undoD 2 p k v d) := ⟨hv.1, hv.2.1, hv.2.2.1, hv.2.2.2.1, hv.2.2.2.2.1, h⟩
theorem hasE {c p k : Nat} (hv : KVd n sz ev d) (hx : XCd σ c n sz ev d) (hp : p < n) (hk : k < sz p) : fX0_hasEntry c (nI p) (nI k) σ = some 1 := by
  have hn := hv.1
  have h6 := (hv.2.1 p hp).1
  unfold fX0_hasEntry
  rw [hasHouse_ok hx.1, bi_s, if_pos (nI_pos2 hp (by omega))]
  simp only [one0, if_false]
  rw [grd_in (by omega) (by omega), nI_clamp (by omega), (hx.2.2 p hp).1, if_neg (nI_pos (by omega)), if_neg (nI_ge hk (by omega))]
end AC
theorem mayTell_ok {σ : Mem} {h sz sb k y : Nat} {ev yr : Nat → Nat} (hx : XH σ h sz ev yr sb) (h6 : sz ≤ 6) (hy : ∀ k, k < sz → yr k ≤ 99) (hk : k ≤ sz) (hyy : y ≤ 99) : fX2_mayTell h (nI k) (nI y) σ = some (if (k = 0 ∨ yr (k - 1) ≤ y) ∧ (sz ≤ k + 1 ∨ y ≤ yr (k + 1)) then 1 else 0) := by
  have m21 : ∀ c : Prop, ∀ [Decidable c], fX2_mayTell_21 h σ (nI k) (nI y) (if c then 1 else 0) = some (if c ∧ (sz ≤ k + 1 ∨ y ≤ yr (k + 1)) then 1 else 0) := by
    intro c hc
    unfold fX2_mayTell_21 fX2_mayTell_44 fX2_mayTell_49
    rw [hx.1, nI_1]
    by_cases q : sz ≤ k + 1
    · rw [if_pos (nI_le q (by omega))]
      by_cases w : c
      · simp only [w, q, if_true, one0, if_false, true_and, true_or]
      · simp only [w, if_true, if_false, false_and]
    · rw [if_neg (nI_ge (by omega) (by omega)), grd_in (by omega) (by omega), nI_clamp (by omega), hx.2.2.2 (k + 1) (by omega)]
      have b := hy (k + 1) (by omega)
      by_cases z : yr (k + 1) < y
      · rw [if_pos (nI_lt z (by omega))]
        have z2 : ¬ y ≤ yr (k + 1) := by omega
        by_cases w : c
        · simp only [w, q, z2, if_true, one0, if_false, true_and, or_self]
        · simp only [w, if_true, if_false, false_and]
      · rw [if_neg (fun e => z ((nI_ltI (by omega) (by omega)).mp e))]
        have z2 : y ≤ yr (k + 1) := by omega
        by_cases w : c
        · simp only [w, q, z2, if_true, one0, if_false, true_and, or_true]
        · simp only [w, if_true, if_false, false_and]
  unfold fX2_mayTell fX2_mayTell_16
  by_cases q : k = 0
  · subst q
    rw [if_pos (show nI 0 ≤ 0 by decide)]
    have := m21 True
    simp only [if_true, true_and] at this
    rw [this]
    simp only [true_or, true_and]
  · have ep : nI k - 1 = nI (k - 1) := by
      rw [show k = (k - 1) + 1 by omega]; exact nI_pred _
    have b := hy (k - 1) (by omega)
    rw [if_neg (show ¬ nI k ≤ 0 from nI_ge (b := k) (a := 0) (by omega) (by omega)), ep, grd_in (by omega) (by omega), nI_clamp (by omega), hx.2.2.2 (k - 1) (by omega)]
    by_cases z : y < yr (k - 1)
    · rw [if_pos (nI_lt z (by omega))]
      have := m21 False
      simp only [if_false, false_and] at this
      rw [this]
      have z2 : ¬ yr (k - 1) ≤ y := by omega
      simp only [q, z2, or_self, false_and, if_false]
    · rw [if_neg (fun e => z ((nI_ltI (by omega) (by omega)).mp e))]
      have := m21 True
      simp only [if_true, true_and] at this
      rw [this]
      have z2 : yr (k - 1) ≤ y := by omega
      simp only [z2, or_true, true_and]
theorem st_strikes : St_strikes II := fun σ ρ x y h => by
  obtain ⟨n, sz, ev, D, u, kb, t, s, h1, h2, h3, h4, h5⟩ := id h
  have hB := Nw_Bo h1
  have hv := h1.1
  have hn := hv.1
  unfold fX6_strikes fX7_strikes
  rcases entry_cs hB x y with ⟨e1, e2⟩ | ⟨p, k, hp, hk, rfl, rfl, e1, e2⟩
  · rw [e1, e2, bi_s, bi_s]
    exact st_same h
  · have h6 := (hv.2.1 p hp).1
    have h64 := HV_sb (KV_H hv hp)
    obtain ⟨σ', ρ', D', u', a1, a2, a3, a4, a5, a6⟩ := minded (kd := 0) (p := p) (k := k) (old := 0) (d1 := undoD 0 p k 0 (D u)) h2 hv h1.2.2.2 (by omega) (fun _ => ⟨hp, hk⟩) undo0
    have ix : (25 : Int32) + (6 : Int32) * nI p + nI k = nI (25 + 6 * p + k) := by
      rw [show (25 : Int32) = nI 25 from rfl, show (6 : Int32) = nI 6 from rfl, pk_mul, nI_add, nI_add]
    rw [e1, e2, bi_s, bi_s]
    simp only [one0, if_false]
    have ea : fX1_add 0 (nI p) (nI k) 0 σ = some σ' := a1
    have X := (h1.2.1.2.2 p hp).2.1
    have C := (h1.2.2.2.2 p k hp hk).2
    rw [Nat.zero_add] at C
    have x3 : σ' (17 + 2 + 3 * p) 3 = nI ((D u).2.1 p) := by rw [a5 _ _ (by omega)]; exact X
    have c3 : ρ' 1 (25 + 6 * p + k) = if ((D u).2.1 p).testBit k then 1 else 0 := by rw [a6 _ _ (by omega)]; exact C
    have tb : (nI ((D u).2.1 p) ^^^ (1 : Int32) <<< (nI k &&& 31)) = nI ((D u).2.1 p ^^^ 2 ^ k) := by rw [shl1 (by omega), fb_xorI]
    have lt : (D u).2.1 p ^^^ 2 ^ k < 64 := Nat.xor_lt_two_pow (n := 6) h64 (Nat.pow_lt_pow_right (by omega) (by omega))
    have one : (1 : Int32) - (if ((D u).2.1 p).testBit k then 1 else 0) = if ((D u).2.1 p).testBit k then 0 else 1 := by
      by_cases z : ((D u).2.1 p).testBit k = true
      · simp [z]
      · simp [z]
    rw [grd_in (by omega) (by omega), nI_clamp (by omega), ea, bv_s]
    unfold fX2_turn
    rw [bv_s, x3, tb, isStruck_ok (mup_s _ _ _ _) (by omega) (by omega), bi_s, fb_bit_flip, a2, bv_s, ix]
    simp only [grd_in (show 25 + 6 * p + k < 637 by omega) (show 637 < 2 ^ 31 by omega)]
    rw [nI_clamp (by omega), c3, one, mup_s]
    have hb' : BK ρ' 0 n sz (D u) := BK_fr hv h1.2.2.2 (fun b _ _ => a6 1 b (by omega))
    have hx' : XCd σ' 17 n sz ev (D u) := XCd_fr hv h1.2.1 (fun a b _ _ => a5 a b (by omega))
    have fin : II (mup σ' (17 + 2 + 3 * p) 3 (nI ((D u).2.1 p ^^^ 2 ^ k))) (mup ρ' 1 (25 + 6 * p + k) (if ((D u).2.1 p).testBit k then 0 else 1)) := by
      refine ⟨n, sz, ev, D', u', kb, t, s, ⟨?_, ?_, SR_fr h1.2.2.1 ?_ ?_ ?_, ?_⟩, Hs_fr a4 ?_ ?_ ?_, Im_fr h3 ?_ ?_ ?_ ?_, Tx_fr h4 ?_ ?_ ?_ ?_, Sn_fr h5 ?_ ?_ ?_ ?_⟩
      case refine_1 => rw [a3]; exact KV0 hv hk
      case refine_2 => rw [a3]; exact XC0 hx' hp
      case refine_6 => rw [a3]; exact BK0 hv hb' hp hk
      all_goals intros
      all_goals first
        | exact mup_n (by omega)
        | (rw [mup_n (by omega)]; first | exact a5 _ _ (by omega) | exact a6 _ _ (by omega))
    refine ⟨if ((D u).2.1 p).testBit k then 0 else 1, _, _, ?_, rfl, fin⟩
    by_cases z : ((D u).2.1 p).testBit k = true
    · simp [z]
    · simp [z]
theorem st_slacks : St_slacks II := fun σ ρ x h => by
  obtain ⟨n, sz, ev, D, u, kb, t, s, h1, h2, h3, h4, h5⟩ := id h
  have hv := h1.1
  have hn := hv.1
  have hs := hv.2.2.2.2.2
  unfold fX6_slacks fX7_slacks
  rw [show (0 : Int64) = (0 : Int32).toInt64 from rfl, show (9 : Int64) = (nI 9).toInt64 from rfl, in32r, show (9 : Int32) = nI 9 from rfl]
  rcases arg_cs x (m := 9) (by omega) with ⟨q, q2⟩ | ⟨c, hc, rfl, q1, q2, q3⟩
  · rw [if_neg q]
    simp only [if_true]
    rcases q2 with q2 | ⟨q2, q4⟩
    · rw [if_pos q2]; exact st_same h
    · rw [if_neg q2, if_neg q4]; exact st_same h
  · rw [if_neg q1, if_pos q2, if_pos q3]
    simp only [one0, if_false]
    rw [grd_t (by decide), show (0 : Int32).toNatClampNeg = 0 from rfl, h1.2.1.2.1, h1.2.2.2.1]
    by_cases w : c = (D u).2.2
    · subst w
      rw [if_pos rfl, if_pos rfl]
      exact st_same h
    · have w1 : ¬ nI c = nI (D u).2.2 := fun z => w ((nI_eq (by omega) (by omega)).mp z)
      rw [if_neg w1, if_neg (fun z => w1 z.symm)]
      obtain ⟨σ', ρ', D', u', a1, a2, a3, a4, a5, a6⟩ := minded (kd := 2) (p := 0) (k := 0) (old := (D u).2.2) (d1 := undoD 2 0 0 c (D u)) h2 hv h1.2.2.2 (by omega) (fun z => absurd rfl z) undo2
      have ea : fX1_add 2 0 0 (nI (D u).2.2) σ = some σ' := a1
      rw [ea, bv_s, a2, bv_s, grd_t (by decide)]
      have hb' : BK ρ' 0 n sz (D u) := BK_fr hv h1.2.2.2 (fun b _ _ => a6 1 b (by omega))
      have hx' : XCd σ' 17 n sz ev (D u) := XCd_fr hv h1.2.1 (fun a b _ _ => a5 a b (by omega))
      refine ⟨nI (D u).2.2, mup σ' 17 2 (nI c), mup ρ' 1 0 (nI c), rfl, rfl, n, sz, ev, D', u', kb, t, s, ⟨?_, ?_, SR_fr h1.2.2.1 ?_ ?_ ?_, ?_⟩, Hs_fr a4 ?_ ?_ ?_, Im_fr h3 ?_ ?_ ?_ ?_, Tx_fr h4 ?_ ?_ ?_ ?_, Sn_fr h5 ?_ ?_ ?_ ?_⟩
      case refine_1 => rw [a3]; exact KV2 hv hc
      case refine_2 => rw [a3]; exact XC2 hx'
      case refine_6 => rw [a3]; exact BK2 hb'
      all_goals intros
      all_goals first
        | exact mup_n (by omega)
        | (rw [mup_n (by omega)]; first | exact a5 _ _ (by omega) | exact a6 _ _ (by omega))
theorem st_tells : St_tells II := fun σ ρ x y w h => by
  obtain ⟨n, sz, ev, D, u, kb, t, s, h1, h2, h3, h4, h5⟩ := id h
  have hB := Nw_Bo h1
  have hv := h1.1
  have hn := hv.1
  unfold fX6_tells fX7_tells
  rw [show (0 : Int64) = (0 : Int32).toInt64 from rfl, show (99 : Int64) = (nI 99).toInt64 from rfl, show (99 : Int32) = nI 99 from rfl]
  simp only [in32r]
  rcases entry_cs hB x y with ⟨e1, e2⟩ | ⟨p, k, hp, hk, rfl, rfl, e1, e2⟩
  · rw [e1, e2, bi_s, bi_s]
    exact st_same h
  rw [e1, e2, bi_s, bi_s]
  simp only [one0, if_false]
  rcases arg_cs w (m := 99) (by omega) with ⟨q, q2⟩ | ⟨c, hc, rfl, q1, q2, q3⟩
  · rw [if_neg q]
    simp only [if_true]
    rcases q2 with q2 | ⟨q2, q4⟩
    · rw [if_pos q2]; exact st_same h
    · rw [if_neg q2, if_neg q4]; exact st_same h
  have h6 := (hv.2.1 p hp).1
  have X := h1.2.1.2.2 p hp
  have C : ∀ i, i < sz p → ρ 1 (1 + 6 * p + i) = nI ((D u).1 p i) := fun i hi => by
    have := (h1.2.2.2.2 p i hp hi).1
    rwa [Nat.zero_add] at this
  have Y : ∀ i, i < sz p → (D u).1 p i ≤ 99 := fun i hi => (hv.2.2.1 p i hp hi).2
  have yk := Y k hk
  have ix : (1 : Int32) + (6 : Int32) * nI p + nI k = nI (1 + 6 * p + k) := by
    rw [show (1 : Int32) = nI 1 from rfl, show (6 : Int32) = nI 6 from rfl, pk_mul, nI_add, nI_add]
  rw [if_neg q1, if_pos q2, if_pos q3]
  simp only [one0, if_false]
  rw [ix]
  simp only [grd_in (show p < 4 by omega) (show 4 < 2 ^ 31 by omega), grd_in (show k < 6 by omega) (show 6 < 2 ^ 31 by omega), grd_in (show 1 + 6 * p + k < 637 by omega) (show 637 < 2 ^ 31 by omega)]
  simp only [nI_clamp (show 1 + 6 * p + k < 2 ^ 31 by omega), nI_clamp (show p < 2 ^ 31 by omega), nI_clamp (show k < 2 ^ 31 by omega)]
  rw [X.2.2.2 k hk, C k hk, mayTell_ok X h6 Y (by omega) hc, bi_s]
  have m93 : fX7_tells_93 (nI c) (nI (1 + 6 * p + k)) (nI ((D u).1 p k)) ρ = bv (fX7_minds ρ) fun μ' => some (nI ((D u).1 p k), mup μ' 1 (1 + 6 * p + k) (nI c)) := by
    unfold fX7_tells_93
    simp only [grd_in (show 1 + 6 * p + k < 637 by omega) (show 637 < 2 ^ 31 by omega)]
    simp only [nI_clamp (show 1 + 6 * p + k < 2 ^ 31 by omega)]
  have m65 : fX7_tells_65 (nI p) (nI k) (nI c) (nI (1 + 6 * p + k)) (nI ((D u).1 p k)) ρ = if sz p ≤ k + 1 ∨ c ≤ (D u).1 p (k + 1) then bv (fX7_minds ρ) fun μ' => some (nI ((D u).1 p k), mup μ' 1 (1 + 6 * p + k) (nI c)) else some (-2, ρ) := by
    unfold fX7_tells_65
    have ep : nI (sz p) - 1 = nI (sz p - 1) := by
      rw [show sz p = (sz p - 1) + 1 by omega]; exact nI_pred _
    rw [m93, grd_in (by omega) (by omega), nI_clamp (show p < 2 ^ 31 by omega), h1.2.2.1.2.1 p hp, ep, nI_1, grd_in (by omega) (by omega), nI_clamp (show 1 + 6 * p + k + 1 < 2 ^ 31 by omega)]
    by_cases z : sz p ≤ k + 1
    · rw [if_pos (nI_le (by omega) (by omega)), if_pos (Or.inl z)]
    · have yk1 := Y (k + 1) (by omega)
      rw [if_neg (nI_ge (by omega) (by omega)), show 1 + 6 * p + k + 1 = 1 + 6 * p + (k + 1) by omega, C (k + 1) (by omega)]
      by_cases z2 : c ≤ (D u).1 p (k + 1)
      · rw [if_pos (nI_le z2 (by omega)), if_pos (Or.inr z2)]
      · rw [if_neg (nI_ge (by omega) (by omega)), if_neg (by omega)]
  rw [m65]
  by_cases z : c = (D u).1 p k
  · rw [if_pos (by rw [z]), if_pos (by rw [z])]
    exact st_same h
  have z1 : ¬ nI c = nI ((D u).1 p k) := fun e => z ((nI_eq (by omega) (by omega)).mp e)
  rw [if_neg z1, if_neg z1]
  have body : ∀ P : Prop, ∀ [Decidable P], (P → (k = 0 ∨ (D u).1 p (k - 1) ≤ c) ∧ (sz p ≤ k + 1 ∨ c ≤ (D u).1 p (k + 1))) → ∃ r σ' ρ', (if (if P then (1 : Int32) else 0) = 0 then some (-2, σ) else bv (fX1_add 1 (nI p) (nI k) (nI ((D u).1 p k)) σ) fun σ13 => some (nI ((D u).1 p k), mup σ13 (17 + 2 + 3 * p + 2) k (nI c))) = some (r, σ') ∧ (if P then bv (fX7_minds ρ) fun μ' => some (nI ((D u).1 p k), mup μ' 1 (1 + 6 * p + k) (nI c)) else some (-2, ρ)) = some (r, ρ') ∧ II σ' ρ' := by
    intro P hP hPP
    by_cases w : P
    · obtain ⟨wb, wa⟩ := hPP w
      simp only [w, if_true, one0, if_false]
      obtain ⟨σ', ρ', D', u', a1, a2, a3, a4, a5, a6⟩ := minded (kd := 1) (p := p) (k := k) (old := (D u).1 p k) (d1 := undoD 1 p k c (D u)) h2 hv h1.2.2.2 (by omega) (fun _ => ⟨hp, hk⟩) undo1
      have ea : fX1_add 1 (nI p) (nI k) (nI ((D u).1 p k)) σ = some σ' := a1
      rw [ea, bv_s, a2, bv_s]
      have hb' : BK ρ' 0 n sz (D u) := BK_fr hv h1.2.2.2 (fun b _ _ => a6 1 b (by omega))
      have hx' : XCd σ' 17 n sz ev (D u) := XCd_fr hv h1.2.1 (fun a b _ _ => a5 a b (by omega))
      refine ⟨nI ((D u).1 p k), mup σ' (17 + 2 + 3 * p + 2) k (nI c), mup ρ' 1 (1 + 6 * p + k) (nI c), rfl, rfl, n, sz, ev, D', u', kb, t, s, ⟨?_, ?_, SR_fr h1.2.2.1 ?_ ?_ ?_, ?_⟩, Hs_fr a4 ?_ ?_ ?_, Im_fr h3 ?_ ?_ ?_ ?_, Tx_fr h4 ?_ ?_ ?_ ?_, Sn_fr h5 ?_ ?_ ?_ ?_⟩
      case refine_1 => rw [a3]; exact KV1 hv hc wb wa
      case refine_2 => rw [a3]; exact XC1 hx'
      case refine_6 => rw [a3]; exact BK1 hv hb' hp hk
      all_goals intros
      all_goals first
        | exact mup_n (by omega)
        | (rw [mup_n (by omega)]; first | exact a5 _ _ (by omega) | exact a6 _ _ (by omega))
    · simp only [w, if_true, if_false]
      exact st_same h
  by_cases k0 : k = 0
  · subst k0
    rw [if_pos (show nI 0 ≤ 0 by decide)]
    simp only [true_or, true_and]
    exact body (sz p ≤ 0 + 1 ∨ c ≤ (D u).1 p (0 + 1)) (fun w => ⟨Or.inl rfl, w⟩)
  · have ep : nI (1 + 6 * p + k) - 1 = nI (1 + 6 * p + (k - 1)) := by
      rw [show 1 + 6 * p + k = (1 + 6 * p + (k - 1)) + 1 by omega]; exact nI_pred _
    have yk1 := Y (k - 1) (by omega)
    rw [if_neg (show ¬ nI k ≤ 0 from nI_ge (b := k) (a := 0) (by omega) (by omega)), ep, grd_in (by omega) (by omega), nI_clamp (show 1 + 6 * p + (k - 1) < 2 ^ 31 by omega), C (k - 1) (by omega)]
    by_cases z2 : c < (D u).1 p (k - 1)
    · rw [if_pos (nI_lt z2 (by omega)), if_neg (show ¬ ((k = 0 ∨ (D u).1 p (k - 1) ≤ c) ∧ (sz p ≤ k + 1 ∨ c ≤ (D u).1 p (k + 1))) by omega)]
      simp only [if_true]
      exact st_same h
    · rw [if_neg (fun e => z2 ((nI_ltI (by omega) (by omega)).mp e))]
      have z3 : (D u).1 p (k - 1) ≤ c := by omega
      simp only [z3, or_true, true_and]
      exact body (sz p ≤ k + 1 ∨ c ≤ (D u).1 p (k + 1)) (fun w => ⟨Or.inr z3, w⟩)
theorem st_undo : St_undo II := fun σ ρ h => by
  obtain ⟨n, sz, ev, D, u, kb, t, s, h1, h2, h3, h4, h5⟩ := id h
  have hv := h1.1
  have hn := hv.1
  obtain ⟨b1, b2, b3, b4⟩ := id h2
  unfold fX6_undo fX7_undo
  rw [b2, b3, mup_s]
  by_cases q : u = 0
  · subst q
    rw [if_pos (show nI 0 = 0 from rfl), if_pos (show nI 0 = 0 from rfl)]
    exact st_same h
  · have hne : ¬ nI u = 0 := fun z => q ((nI_eq (b := 0) (by omega) (by omega)).mp z)
    have ep : nI u - 1 = nI (u - 1) := by
      rw [show u = (u - 1) + 1 by omega]; exact nI_pred _
    obtain ⟨j, rfl⟩ : ∃ j, u = j + 1 := ⟨u - 1, by omega⟩
    rw [if_neg hne, if_neg hne, ep, show j + 1 - 1 = j by omega]
    rw [show j + 1 - 1 = j by omega] at ep
    obtain ⟨⟨kd, p, k, old, c1, c2, c3, c4, c5, c6, c7⟩, d1, d2⟩ := b4 j (by omega)
    have ix : (147 : Int32) + (49 : Int32) * nI j = nI (147 + 49 * j) := by
      rw [show (147 : Int32) = nI 147 from rfl, show (49 : Int32) = nI 49 from rfl, pk_mul, nI_add]
    rw [ix, show (0 : Int32) = nI 0 from rfl, rcopy_ok (by omega) (by omega) (by omega), bv_s, rcm_out (a := 0) (by omega), mup_s]
    have fin : ∀ τ : Mem, τ 4 0 = nI j → (∀ a b, (a < 17 ∨ 31 ≤ a) → ¬ (a = 4 ∧ b = 0) → τ a b = σ a b) → XCd τ 17 n sz ev (D j) → II τ (rcm (147 + 49 * j) 0 (mup ρ 0 2 (nI j)) 49) := by
      intro τ e1 e2 e3
      refine ⟨n, sz, ev, D, j, kb, t, s, ⟨d1, e3, SR_fr h1.2.2.1 ?_ ?_ ?_, ?_⟩, ⟨by omega, e1, ?_, fun i hi => ?_⟩, Im_fr h3 ?_ ?_ ?_ ?_, Tx_fr h4 ?_ ?_ ?_ ?_, Sn_fr h5 ?_ ?_ ?_ ?_⟩
      case refine_4 =>
        refine BK_mv d1 d2 (fun b hb => ?_)
        rw [rcm_in hb, mup_n (Or.inl (by omega))]
      case refine_5 => rw [rcm_out (by omega), mup_s]
      case refine_6 =>
        obtain ⟨f1, f2, f3⟩ := b4 i (by omega)
        refine ⟨Deed_fr f1 (fun a _ _ => e2 a i (by omega) (by omega)), f2, BK_fr f2 f3 (fun b _ _ => ?_)⟩
        rw [rcm_out (by omega), mup_n (by omega)]
      all_goals intros
      all_goals first
        | exact e2 _ _ (by omega) (by omega)
        | rw [rcm_out (by omega), mup_n (by omega)]
    unfold fX1_takeBack
    rw [b2, if_pos (show 0 < nI (j + 1) from nI_lt (a := 0) (by omega) (by omega)), ep]
    have g1 : mup σ 4 0 (nI j) 4 0 = nI j := mup_s _ _ _ _
    have g2 : ∀ a b, ¬ (a = 4 ∧ b = 0) → mup σ 4 0 (nI j) a b = σ a b := fun a b z => mup_n (by omega)
    generalize mup σ 4 0 (nI j) = σ1 at g1 g2 ⊢
    rw [g1]
    simp only [grd_in (show j < 10 by omega) (show 10 < 2 ^ 31 by omega)]
    rw [nI_clamp (show j < 2 ^ 31 by omega), g2 5 j (by omega), g2 6 j (by omega), g2 7 j (by omega), g2 8 j (by omega), c1, c2, c3, c4]
    have hx1 : XCd σ1 17 n sz ev (D (j + 1)) := XCd_fr hv h1.2.1 (fun a b _ _ => g2 a b (by omega))
    have hkd : kd = 0 ∨ kd = 1 ∨ kd = 2 := by omega
    rcases hkd with rfl | rfl | rfl
    · obtain ⟨hp, hk⟩ := c6 (by omega)
      have h6 := (hv.2.1 p hp).1
      have x3 := (hx1.2.2 p hp).2.1
      rw [if_neg (show ¬ nI 0 = 2 by decide), hasE hv hx1 hp hk, bi_s]
      simp only [one0, if_false]
      unfold fX1_takeBackEntry fX2_turn
      rw [grd_in (by omega) (by omega), nI_clamp (show p < 2 ^ 31 by omega), g1, grd_in (by omega) (by omega), nI_clamp (show j < 2 ^ 31 by omega), g2 5 j (by omega), c1, if_pos (show nI 0 = 0 from rfl), bv_s, bv_s, bv_s, x3, shl1 (by omega), fb_xorI, mup_n (a := 4) (Or.inl (by omega)), g1]
      refine ⟨nI j, _, _, rfl, rfl, fin _ ?_ (fun a b e1 e2 => ?_) ?_⟩
      · rw [mup_n (Or.inl (by omega))]; exact g1
      · rw [mup_n (Or.inl (by omega))]; exact g2 a b e2
      · rw [c7]; exact XC0 hx1 hp
    · obtain ⟨hp, hk⟩ := c6 (by omega)
      have h6 := (hv.2.1 p hp).1
      rw [if_neg (show ¬ nI 1 = 2 by decide), hasE hv hx1 hp hk, bi_s]
      simp only [one0, if_false]
      unfold fX1_takeBackEntry
      rw [grd_in (by omega) (by omega), nI_clamp (show p < 2 ^ 31 by omega), g1, grd_in (by omega) (by omega), grd_in (by omega) (by omega), grd_in (by omega) (by omega), nI_clamp (show j < 2 ^ 31 by omega), g2 5 j (by omega), c1, if_neg (show ¬ nI 1 = 0 by decide), bv_s, bv_s, nI_clamp (show k < 2 ^ 31 by omega), g2 8 j (by omega), c4, mup_n (a := 4) (Or.inl (by omega)), g1]
      refine ⟨nI j, _, _, rfl, rfl, fin _ ?_ (fun a b e1 e2 => ?_) ?_⟩
      · rw [mup_n (Or.inl (by omega))]; exact g1
      · rw [mup_n (Or.inl (by omega))]; exact g2 a b e2
      · rw [c7]; exact XC1 hx1
    · rw [if_pos (show nI 2 = 2 from rfl), bv_s, mup_n (a := 4) (Or.inl (by omega)), g1]
      refine ⟨nI j, _, _, rfl, rfl, fin _ ?_ (fun a b e1 e2 => ?_) ?_⟩
      · rw [mup_n (Or.inl (by omega))]; exact g1
      · rw [mup_n (Or.inl (by omega))]; exact g2 a b e2
      · rw [c7]; exact XC2 hx1
