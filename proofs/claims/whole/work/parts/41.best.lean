/-! the shift that most events speak for -/
def near (a b : Int) : Bool := decide (a.natAbs < b.natAbs) || (decide (a.natAbs = b.natAbs) && decide (a < b))
def cmn (off : Nat → Int) (N : Nat) (o : Int) : Nat := fa_cnt (fun i => decide (off i = o)) N
def bst (off : Nat → Int) (N : Nat) : Nat → Int × Nat
  | 0 => (0, 0)
  | k + 1 => if (decide ((bst off N k).2 < cmn off N (off k)) || (decide (cmn off N (off k) = (bst off N k).2) && near (off k) (bst off N k).1)) = true then (off k, cmn off N (off k)) else bst off N k
theorem bst_bd {off : Nat → Int} {N : Nat} (hb : ∀ i, i < N → bd (off i)) : ∀ k, k ≤ N → bd (bst off N k).1 ∧ (bst off N k).2 ≤ N
  | 0, _ => ⟨⟨show (-99 : Int) ≤ 0 by decide, show (0 : Int) ≤ 99 by decide⟩, Nat.zero_le _⟩
  | k + 1, h => by
    have ih := bst_bd hb k (by omega)
    rw [bst]
    split
    · exact ⟨hb k (by omega), fa_cnt_le _ N⟩
    · exact ih
theorem oI_abs {a : Int} (ha : bd a) : (if 0 ≤ oI a then oI a else 0 - oI a) = oI a.natAbs := by
  unfold bd at ha
  have e : (0 : Int32).toInt = 0 := rfl
  have ea := oI_t (z := a) (by omega)
  by_cases h : 0 ≤ a
  · rw [if_pos (by rw [fa_le, ea, e]; exact h), Int.natAbs_of_nonneg h]
  · rw [if_neg (by rw [fa_le, ea, e]; exact h)]
    apply Int32.toInt_inj.mp
    rw [fb_subI (by rw [ea, e]; omega) (by rw [ea, e]; omega), ea, e, oI_t (by omega)]
    omega
theorem plain_ok {a : Int} (ha : bd a) : fX7_plain (oI a) = some (oI a.natAbs) := by
  unfold fX7_plain
  unfold bd at ha
  have e : (0 : Int32).toInt = 0 := rfl
  have ea := oI_t (z := a) (by omega)
  by_cases h : 0 ≤ a
  · rw [if_pos (by rw [fa_le, ea, e]; exact h), Int.natAbs_of_nonneg h]
  · rw [if_neg (by rw [fa_le, ea, e]; exact h)]
    congr 1
    apply Int32.toInt_inj.mp
    rw [fb_negI (by rw [ea]; omega), ea, oI_t (by omega)]
    omega
theorem bd_abs {a : Int} (ha : bd a) : bd (a.natAbs : Int) := by unfold bd at *; omega
theorem isNearer_ok {a b : Int} (ha : bd a) (hb : bd b) : fX4_isNearer (oI a) (oI b) = some (if near a b then 1 else 0) := by
  unfold fX4_isNearer fX4_isNearer_23
  rw [oI_abs ha, oI_abs hb]
  have d := oI_d (bd_abs ha) (bd_abs hb)
  have e : (0 : Int32).toInt = 0 := rfl
  have l1 : oI (a.natAbs : Int) - oI (b.natAbs : Int) < 0 ↔ a.natAbs < b.natAbs := by rw [fa_lt, d, e]; omega
  have l2 : oI (a.natAbs : Int) - oI (b.natAbs : Int) = 0 ↔ a.natAbs = b.natAbs := by rw [fa_eq, d, e]; omega
  simp only [l1, l2, oI_le hb ha, near]
  by_cases h1 : a.natAbs < b.natAbs
  · simp [h1]
  · by_cases h2 : a.natAbs = b.natAbs
    · by_cases h3 : b ≤ a
      · simp [h1, h2, h3, show ¬ a < b by omega]
      · simp [h1, h2, h3, show a < b by omega]
    · simp [h1, h2]
section BB
variable {off : Nat → Int} {N : Nat}
theorem rshift_go (hN : N ≤ 6) (hb : ∀ i, i < N → bd (off i)) {μ : Mem} (h12 : ∀ i, i < N → μ 12 i = oI (off i)) : fX7_shiftOf_23 FU (nI N) 0 0 0 μ = some (oI (bst off N N).1, μ) := by
  refine loop1 (fun fu k (s : Int × Nat) => fX7_shiftOf_23 fu (nI N) (oI s.1) (nI s.2) (nI k) μ) N (fun k => bst off N k) (fun fu => ?_) (fun fu k hk => ?_) (by rw [FU_big]; omega)
  · show fX7_shiftOf_23 _ _ _ _ _ _ = _
    rw [fX7_shiftOf_23, if_pos (nI_le (Nat.le_refl _) (by omega))]
  · show fX7_shiftOf_23 _ _ _ _ _ _ = fX7_shiftOf_23 _ _ _ _ _ _
    have b := hb k hk
    obtain ⟨b1, b2⟩ := bst_bd hb k (by omega)
    rw [fX7_shiftOf_23, if_neg (nI_ge hk (by omega)), grd_in (by omega) (by omega), nI_clamp (by omega), h12 k hk]
    refine loop1 (fun fu2 j (c : Nat) => fX7_shiftOf_44 (fun a0 a1 a2 a3 a4 => fX7_shiftOf_23 fu a0 a1 a2 a3 a4) fu2 (nI N) (oI (bst off N k).1) (nI (bst off N k).2) (nI k) (oI (off k)) (nI c) (nI j) μ) N (fun j => fa_cnt (fun i => decide (off i = off k)) j) (fun fu2 => ?_) (fun fu2 j hj => ?_) (by rw [FU_big]; omega)
    · show fX7_shiftOf_44 _ _ _ _ _ _ _ _ _ _ = _
      have hc : fa_cnt (fun i => decide (off i = off k)) N ≤ N := fa_cnt_le _ N
      have ec : fa_cnt (fun i => decide (off i = off k)) N = cmn off N (off k) := rfl
      rw [fX7_shiftOf_44, if_pos (nI_le (Nat.le_refl _) (by omega)), plain_ok b, plain_ok b1]
      rw [ec] at hc ⊢
      simp only [bi_s, fX7_shiftOf_122, fX7_shiftOf_126, fX7_shiftOf_127, fX7_shiftOf_140, nI_1, nI_ltI (show (bst off N k).2 < 2 ^ 31 by omega) (show cmn off N (off k) < 2 ^ 31 by omega), nI_eq (show cmn off N (off k) < 2 ^ 31 by omega) (show (bst off N k).2 < 2 ^ 31 by omega), oI_lt (bd_abs b) (bd_abs b1), oI_eq (bd_abs b) (bd_abs b1), oI_le b1 b]
      rw [bst, near]
      by_cases q1 : (bst off N k).2 < cmn off N (off k)
      · simp [q1]
      · by_cases q2 : cmn off N (off k) = (bst off N k).2
        · by_cases q3 : (off k).natAbs < (bst off N k).1.natAbs
          · simp [q2, q3]
          · by_cases q4 : (off k).natAbs = (bst off N k).1.natAbs
            · by_cases q5 : (bst off N k).1 ≤ off k
              · simp [q2, q4, q5, show ¬ off k < (bst off N k).1 by omega]
              · simp [q2, q4, q5, show off k < (bst off N k).1 by omega]
            · have q3' : ¬ ((off k).natAbs : Int) < ((bst off N k).1.natAbs : Int) := by omega
              have q4' : ¬ ((off k).natAbs : Int) = ((bst off N k).1.natAbs : Int) := by omega
              simp only [q2, Nat.lt_irrefl, if_false, if_true, q3', q4', q3, q4, decide_true, decide_false, Bool.false_or, Bool.false_and, Bool.and_false, Bool.false_eq_true]
        · simp [q1, q2]
    · show fX7_shiftOf_44 _ _ _ _ _ _ _ _ _ _ = fX7_shiftOf_44 _ _ _ _ _ _ _ _ _ _
      rw [fX7_shiftOf_44, if_neg (nI_ge hj (by omega)), grd_in (by omega) (by omega), nI_clamp (by omega), h12 j hj, nI_1, nI_1]
      simp only [oI_eq (hb j hj) b]
      by_cases q : off j = off k
      · rw [if_pos q, fa_cnt_yes (by simp [q])]
      · rw [if_neg q, fa_cnt_no (by simp [q])]
        simp
end BB
/-- events with an offset, as bits -/
def ewm (L : List (Nat × Int)) (o : Int) : Nat → Nat
  | 0 => 0
  | i + 1 => if ofs L i = o then ewm L o i ||| 2 ^ evs L i else ewm L o i
theorem ewm_bit {L : List (Nat × Int)} {o : Int} {e : Nat} : ∀ i, (ewm L o i).testBit e = true ↔ ∃ j, j < i ∧ ofs L j = o ∧ evs L j = e
  | 0 => by simp [ewm]
  | i + 1 => by
    have ih := ewm_bit (L := L) (o := o) (e := e) i
    rw [ewm]
    by_cases h : ofs L i = o
    · rw [if_pos h, Nat.testBit_or, Bool.or_eq_true, ih, Nat.testBit_two_pow]
      constructor
      · rintro (⟨j, a, b⟩ | w)
        · exact ⟨j, by omega, b⟩
        · exact ⟨i, by omega, h, by simpa using w⟩
      · rintro ⟨j, a, b, c⟩
        by_cases w : j = i
        · subst w; exact Or.inr (by simpa using c)
        · exact Or.inl ⟨j, by omega, b, c⟩
    · rw [if_neg h, ih]
      constructor
      · rintro ⟨j, a, b⟩; exact ⟨j, by omega, b⟩
      · rintro ⟨j, a, b, c⟩
        by_cases w : j = i
        · subst w; exact absurd b h
        · exact ⟨j, by omega, b, c⟩
theorem ewm_lt {L : List (Nat × Int)} {o : Int} (h8 : ∀ i, i < L.length → evs L i < 8) : ∀ i, i ≤ L.length → ewm L o i < 256
  | 0, _ => by simp [ewm]
  | i + 1, h => by
    have ih := ewm_lt (o := o) h8 i (by omega)
    rw [ewm]
    split
    · exact Nat.or_lt_two_pow (n := 8) ih (Nat.pow_lt_pow_right (by omega) (h8 i (by omega)))
    · exact ih
theorem pc_add : ∀ m, m < 256 → ∀ e, e < 8 → m.testBit e = false → fa_cnt (m ||| 2 ^ e).testBit 8 = fa_cnt m.testBit 8 + 1 := by decide +kernel
theorem ewm_cnt {L : List (Nat × Int)} {o : Int} (h8 : ∀ i, i < L.length → evs L i < 8) (hd : ∀ i j, i < j → j < L.length → evs L i ≠ evs L j) : ∀ i, i ≤ L.length → fa_cnt (ewm L o i).testBit 8 = fa_cnt (fun j => decide (ofs L j = o)) i
  | 0, _ => by simp [ewm, fa_cnt]
  | i + 1, h => by
    have ih := ewm_cnt (o := o) h8 hd i (by omega)
    rw [ewm]
    by_cases q : ofs L i = o
    · rw [if_pos q, pc_add _ (ewm_lt h8 i (by omega)) _ (h8 i (by omega)), ih, fa_cnt_yes (by simp [q])]
      cases w : (ewm L o i).testBit (evs L i) with
      | false => rfl
      | true =>
        obtain ⟨j, a, -, c⟩ := (ewm_bit i).mp w
        exact absurd c (hd j i a (by omega))
    · rw [if_neg q, ih, fa_cnt_no (by simp [q])]
section XB
variable {σ : Mem} {L : List (Nat × Int)}
theorem eventsWith_ok (hN : L.length ≤ 6) (h8 : ∀ i, i < L.length → evs L i < 8) (hb : ∀ i, i < L.length → bd (ofs L i)) {o : Int} (ho : bd o) : fX4_eventsWith (oI o) (xpm σ L) = some (nI (ewm L o L.length)) := by
  unfold fX4_eventsWith
  refine loop1 (fun fu i (s : Nat) => fX4_eventsWith_4 (xpm σ L) fu (oI o) (nI s) (nI i)) L.length (fun i => ewm L o i) (fun fu => ?_) (fun fu i hi => ?_) (by rw [FU_big]; omega)
  · show fX4_eventsWith_4 _ _ _ _ _ = _
    rw [fX4_eventsWith_4, xpm_n, if_pos (nI_le (Nat.le_refl _) (by omega))]
  · show fX4_eventsWith_4 _ _ _ _ _ = fX4_eventsWith_4 _ _ _ _ _
    have e8 := h8 i hi
    rw [fX4_eventsWith_4, xpm_n, if_neg (nI_ge hi (by omega))]
    simp only [grd_in (show i < 6 by omega) (show 6 < 2 ^ 31 by omega)]
    rw [nI_clamp (by omega), xpm_o hi, xpm_e hi, nI_1]
    show (if oI (ofs L i) = oI o then fX4_eventsWith_4 (xpm σ L) fu (oI o) (nI (ewm L o i) ||| 1 <<< (nI (evs L i) &&& 31)) (nI (i + 1)) else _) = _
    rw [shl1 (by omega), fa_or]
    simp only [oI_eq (hb i hi) ho, ewm]
    by_cases q : ofs L i = o
    · rw [if_pos q, if_pos q]
    · rw [if_neg q, if_neg q]
theorem xbest_ok (hN : L.length ≤ 6) (h8 : ∀ i, i < L.length → evs L i < 8) (hb : ∀ i, i < L.length → bd (ofs L i)) (hd : ∀ i j, i < j → j < L.length → evs L i ≠ evs L j) : fX4_commonestOffset (xpm σ L) = some (oI (bst (ofs L) L.length L.length).1) := by
  unfold fX4_commonestOffset
  refine loop1 (fun fu i (s : Int × Nat) => fX4_commonestOffset_6 (xpm σ L) fu (oI s.1) (nI s.2) (nI i)) L.length (fun i => bst (ofs L) L.length i) (fun fu => ?_) (fun fu i hi => ?_) (by rw [FU_big]; omega)
  · show fX4_commonestOffset_6 _ _ _ _ _ = _
    rw [fX4_commonestOffset_6, xpm_n, if_pos (nI_le (Nat.le_refl _) (by omega))]
  · show fX4_commonestOffset_6 _ _ _ _ _ = fX4_commonestOffset_6 _ _ _ _ _
    have b := hb i hi
    obtain ⟨b1, b2⟩ := bst_bd hb i (by omega)
    have ew := ewm_lt (o := ofs L i) h8 L.length (Nat.le_refl _)
    have ec : fa_cnt (ewm L (ofs L i) L.length).testBit 8 = cmn (ofs L) L.length (ofs L i) := ewm_cnt h8 hd L.length (Nat.le_refl _)
    have hc : cmn (ofs L) L.length (ofs L i) ≤ L.length := fa_cnt_le _ _
    rw [fX4_commonestOffset_6, xpm_n, if_neg (nI_ge hi (by omega))]
    simp only [fX4_commonestOffset_54, grd_in (show i < 6 by omega) (show 6 < 2 ^ 31 by omega)]
    rw [nI_clamp (by omega), xpm_o hi]
    show bi (fX4_eventsWith (oI (ofs L i)) (xpm σ L)) _ = _
    rw [eventsWith_ok hN h8 hb b, bi_s, fJbc _ ew, bi_s, ec]
    show (if _ then fX4_commonestOffset_6 (xpm σ L) fu (oI (ofs L i)) _ _ else (if _ then bi (fX4_isNearer (oI (ofs L i)) _) (fun r12 => if r12 = 0 then _ else fX4_commonestOffset_6 (xpm σ L) fu (oI (ofs L i)) _ _) else _)) = _
    rw [isNearer_ok b b1, bi_s, nI_1]
    simp only [nI_ltI (show (bst (ofs L) L.length i).2 < 2 ^ 31 by omega) (show cmn (ofs L) L.length (ofs L i) < 2 ^ 31 by omega), nI_eq (show cmn (ofs L) L.length (ofs L i) < 2 ^ 31 by omega) (show (bst (ofs L) L.length i).2 < 2 ^ 31 by omega)]
    rw [bst]
    by_cases q1 : (bst (ofs L) L.length i).2 < cmn (ofs L) L.length (ofs L i)
    · simp [q1]
    · by_cases q2 : cmn (ofs L) L.length (ofs L i) = (bst (ofs L) L.length i).2
      · by_cases q3 : near (ofs L i) (bst (ofs L) L.length i).1 = true
        · simp [q2, q3]
        · simp [q2, q3]
      · simp [q1, q2]
theorem pairBits_ok (hN : L.length ≤ 6) (h8 : ∀ i, i < L.length → evs L i < 8) : ∃ m, m < 256 ∧ (∀ e, m.testBit e = true ↔ ∃ j, j < L.length ∧ evs L j = e) ∧ fX4_eventBits (xpm σ L) = some (nI m) := by
  have key : ∀ k, k ≤ L.length → ∃ m, m < 256 ∧ (∀ e, m.testBit e = true ↔ ∃ j, j < k ∧ evs L j = e) ∧ ∀ fu, fX4_eventBits_4 (xpm σ L) (fu + k) 0 0 = fX4_eventBits_4 (xpm σ L) fu (nI m) (nI k) := by
    intro k
    induction k with
    | zero => intro _; exact ⟨0, by omega, fun e => by simp, fun fu => rfl⟩
    | succ k ih =>
      intro hk
      obtain ⟨m, h1, h2, h3⟩ := ih (by omega)
      have e8 := h8 k (by omega)
      refine ⟨m ||| 2 ^ evs L k, Nat.or_lt_two_pow (n := 8) h1 (Nat.pow_lt_pow_right (by omega) e8), fun e => ?_, fun fu => ?_⟩
      · rw [Nat.testBit_or, Bool.or_eq_true, h2, Nat.testBit_two_pow]
        constructor
        · rintro (⟨j, a, b⟩ | w)
          · exact ⟨j, by omega, b⟩
          · exact ⟨k, by omega, by simpa using w⟩
        · rintro ⟨j, a, b⟩
          by_cases w : j = k
          · subst w; exact Or.inr (by simpa using b)
          · exact Or.inl ⟨j, by omega, b⟩
      · rw [show fu + (k + 1) = (fu + 1) + k by omega, h3, fX4_eventBits_4, xpm_n, if_neg (nI_ge (by omega) (by omega)), grd_in (by omega) (by omega), nI_clamp (by omega), xpm_e (by omega), nI_1]
        show fX4_eventBits_4 (xpm σ L) fu (nI m ||| 1 <<< (nI (evs L k) &&& 31)) (nI (k + 1)) = _
        rw [shl1 (by omega), fa_or]
  obtain ⟨m, h1, h2, h3⟩ := key L.length (Nat.le_refl _)
  refine ⟨m, h1, h2, ?_⟩
  unfold fX4_eventBits
  have := h3 (FU - L.length)
  rw [show FU - L.length + L.length = FU by rw [FU_big]; omega] at this
  rw [this]
  obtain ⟨fu, e⟩ : ∃ q, FU - L.length = q + 1 := ⟨FU - L.length - 1, by rw [FU_big]; omega⟩
  rw [e, fX4_eventBits_4, xpm_n, if_pos (nI_le (Nat.le_refl _) (by omega))]
end XB
