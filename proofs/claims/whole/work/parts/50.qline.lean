/-! the one line -/
def hld (A : Nat → Nat) (L : Nat) : Nat → Nat
  | 0 => 0
  | k + 1 => if L.testBit k then hld A L k ||| A k else hld A L k
theorem hld_bit {A : Nat → Nat} {L f : Nat} : ∀ k, (hld A L k).testBit f = true ↔ ∃ e, e < k ∧ L.testBit e = true ∧ (A e).testBit f = true
  | 0 => by simp [hld]
  | k + 1 => by
    have ih := hld_bit (A := A) (L := L) (f := f) k
    rw [hld]
    by_cases q : L.testBit k = true
    · rw [if_pos q, Nat.testBit_or, Bool.or_eq_true, ih]
      constructor
      · rintro (⟨e, h1, h2, h3⟩ | h)
        · exact ⟨e, by omega, h2, h3⟩
        · exact ⟨k, by omega, q, h⟩
      · rintro ⟨e, h1, h2, h3⟩
        by_cases w : e = k
        · subst w; exact Or.inr h3
        · exact Or.inl ⟨e, by omega, h2, h3⟩
    · rw [if_neg q, ih]
      constructor
      · rintro ⟨e, h1, h2, h3⟩
        exact ⟨e, by omega, h2, h3⟩
      · rintro ⟨e, h1, h2, h3⟩
        by_cases w : e = k
        · subst w; exact absurd h2 q
        · exact ⟨e, by omega, h2, h3⟩
def fre (A : Nat → Nat) (L : Nat) : Nat := andn L (hld A L 8)
theorem fre_lt {A : Nat → Nat} {L : Nat} (h : L < 256) : fre A L < 256 := Nat.lt_of_le_of_lt (andn_le _ _) h
theorem lin_free {A : Nat → Nat} (hA : ∀ e, e < 8 → A e < 256) (hk : ∀ e, e < 8 → (wrs A 8 e).testBit e = false) {L : Nat} (hL : L < 256) (h0 : L ≠ 0) : fa_first (fre A L).testBit 8 < 8 := by
  obtain ⟨⟨c1, c2, -⟩, c4⟩ := wrs_cl hA
  apply Classical.byContradiction
  intro hno
  have none : ∀ e, e < 8 → L.testBit e = true → ∃ f, f < 8 ∧ L.testBit f = true ∧ (wrs A 8 f).testBit e = true := by
    intro e he hb
    have q : (fre A L).testBit e = false := fa_first_no (fre A L).testBit 8 e (by omega)
    unfold fre at q
    rw [andn_bit (by omega), hb, Bool.true_and, Bool.not_eq_false', hld_bit] at q
    obtain ⟨f, hf, hb2, hb3⟩ := q
    exact ⟨f, hf, hb2, c2 f e hf hb3⟩
  have key : ∀ m e, e < 8 → L.testBit e = true → fb_ct (fun f => (wrs A 8 f).testBit e) 8 = m → False := by
    intro m
    induction m using Nat.strongRecOn with
    | _ m ih =>
      intro e he hb hm
      obtain ⟨f, hf, hb2, hb3⟩ := none e he hb
      refine ih (fb_ct (fun g => (wrs A 8 g).testBit f) 8) ?_ f hf hb2 rfl
      rw [← hm]
      exact ct_strict (fun g hg h => c4 g f e hg hf h hb3) ⟨f, hf, hk f hf, hb3⟩
  have : ∃ e, L.testBit e = true := by
    apply Classical.byContradiction
    intro hx
    apply h0
    apply bit_ext
    intro i
    rw [Nat.zero_testBit]
    have : ¬ L.testBit i = true := fun z => hx ⟨i, z⟩
    simpa using this
  obtain ⟨e, he⟩ := this
  exact key _ e (bit_lt8 hL he) he rfl
theorem bit0' {m k : Nat} (hm : m < 2 ^ 31) (hk : k < 31) : (((nI m >>> (nI k &&& 31)) &&& 1) = 0) = (m.testBit k = false) := by
  rw [shrbit hm hk]
  by_cases q : m.testBit k = true
  · simp [q]
  · simp [q]
theorem lowest_ok {μ : Mem} {A : Nat → Nat} (hA : ∀ e, e < 8 → A e < 256) (h13 : ∀ e, e < 8 → μ 13 e = nI (A e)) {L : Nat} (hL : L < 256) : fX3_lowestFree (nI L) μ = some (if fa_first (fre A L).testBit 8 < 8 then nI (fa_first (fre A L).testBit 8) else -1) := by
  have hf := fre_lt (A := A) hL
  unfold fX3_lowestFree
  refine loop1s (fun fu k s => fX3_lowestFree_4 μ fu (nI L) (nI s) (nI k)) 8 (fun k => hld A L k) (s0 := 0) rfl (fun fu => ?_) (fun fu k hk => ?_) (by rw [FU_big]; omega)
  · show fX3_lowestFree_4 _ _ _ _ _ = _
    rw [fX3_lowestFree_4, if_pos (by decide), andn_ok]
    have key : ∀ c k fu, k + c = 8 → c < fu → (∀ i, i < k → (fre A L).testBit i = false) → fX3_lowestFree_42 μ fu (nI (fre A L)) (nI k) = some (if fa_first (fre A L).testBit 8 < 8 then nI (fa_first (fre A L).testBit 8) else -1) := by
      intro c
      induction c with
      | zero =>
        intro k fu h2 hf hp
        obtain ⟨fu, rfl⟩ : ∃ q, fu = q + 1 := ⟨fu - 1, by omega⟩
        have : k = 8 := by omega
        subst this
        rw [fX3_lowestFree_42, if_pos (by decide), first_none hp]
        rfl
      | succ c ih =>
        intro k fu h2 hf' hp
        obtain ⟨fu, rfl⟩ : ∃ q, fu = q + 1 := ⟨fu - 1, by omega⟩
        rw [fX3_lowestFree_42, if_neg (nle8 (by omega))]
        simp only [bit0' (show fre A L < 2 ^ 31 by omega) (show k < 31 by omega)]
        by_cases q : (fre A L).testBit k = false
        · rw [if_pos q, nI_1]
          refine ih (k + 1) fu (by omega) (by omega) (fun i hi => ?_)
          by_cases w : i = k
          · subst w; exact q
          · exact hp i (by omega)
        · rw [if_neg q, first_is hp (by simpa using q) (by omega), if_pos (by omega)]
    exact key 8 0 FU (by omega) (by rw [FU_big]; omega) (fun i hi => absurd hi (by omega))
  · show fX3_lowestFree_4 _ _ _ _ _ = fX3_lowestFree_4 _ _ _ _ _
    rw [fX3_lowestFree_4, if_neg (nle8 hk)]
    simp only [bit0' (show L < 2 ^ 31 by omega) (show k < 31 by omega)]
    rw [hld, nI_1]
    by_cases q : L.testBit k = true
    · rw [if_neg (by simp [q]), if_pos q, grd_in (by omega) (by omega), nI_clamp (by omega), h13 k hk, fa_or]
    · rw [if_pos (by simpa using q), if_neg q]
section QL
variable {σ ρ : Mem} {n : Nat} {sz : Nat → Nat} {ev yr : Nat → Nat → Nat} {sb : Nat → Nat} {sl : Nat}
theorem rline_in (hv : KV n sz ev yr sb sl) (hc : RC ρ n sz ev yr sb (-9) 0) {L : Nat} (hL : L < 256) (x i : Int32) (K : Int32 → Int32 → Int32 → Mem → Option (Int32 × Mem)) (hx : fa_first (fre (knA (acN n sz sb) ev yr n) L).testBit 8 < 8) :
    fX7_line_62 K FU x (nI L) i 0 0 ρ = (if i = x then some (nI (fa_first (fre (knA (acN n sz sb) ev yr n) L).testBit 8), ρ) else K x (nI (andn L (2 ^ fa_first (fre (knA (acN n sz sb) ev yr n) L).testBit 8))) (i + 1) ρ) := by
  have hf := fre_lt (A := knA (acN n sz sb) ev yr n) hL
  refine loop1s (fun fu k s => fX7_line_62 K fu x (nI L) i (nI s) (nI k) ρ) 8 (fun k => hld (knA (acN n sz sb) ev yr n) L k) (s0 := 0) rfl (fun fu => ?_) (fun fu k hk => ?_) (by rw [FU_big]; omega)
  · show fX7_line_62 _ _ _ _ _ _ _ _ = _
    rw [fX7_line_62, if_pos (by decide)]
    have key : ∀ c k fu, k + c = fa_first (fre (knA (acN n sz sb) ev yr n) L).testBit 8 → c < fu → fX7_line_102 K fu x (nI L) i (nI (hld (knA (acN n sz sb) ev yr n) L 8)) (nI k) ρ = (if i = x then some (nI (fa_first (fre (knA (acN n sz sb) ev yr n) L).testBit 8), ρ) else K x (nI (andn L (2 ^ fa_first (fre (knA (acN n sz sb) ev yr n) L).testBit 8))) (i + 1) ρ) := by
      intro c
      induction c with
      | zero =>
        intro k fu h2 hf'
        obtain ⟨fu, rfl⟩ : ∃ q, fu = q + 1 := ⟨fu - 1, by omega⟩
        have hk : k = fa_first (fre (knA (acN n sz sb) ev yr n) L).testBit 8 := by omega
        have yes := fa_first_yes (fre (knA (acN n sz sb) ev yr n) L).testBit 8 hx
        rw [fX7_line_102, andn_ok, show andn L (hld (knA (acN n sz sb) ev yr n) L 8) = fre (knA (acN n sz sb) ev yr n) L from rfl, has_ok (by omega) (by omega), bi_s, hk, if_pos yes]
        simp only [one0, if_false]
        rw [shl1 (by omega), andn_ok]
      | succ c ih =>
        intro k fu h2 hf'
        obtain ⟨fu, rfl⟩ : ∃ q, fu = q + 1 := ⟨fu - 1, by omega⟩
        have no := fa_first_no (fre (knA (acN n sz sb) ev yr n) L).testBit 8 k (by omega)
        rw [fX7_line_102, andn_ok, show andn L (hld (knA (acN n sz sb) ev yr n) L 8) = fre (knA (acN n sz sb) ev yr n) L from rfl, has_ok (by omega) (by omega), bi_s, no]
        simp only [Bool.false_eq_true, if_false, if_true]
        rw [nI_1]
        exact ih (k + 1) fu (by omega) (by omega)
    exact key _ 0 FU (Nat.zero_add _) (by rw [FU_big]; omega)
  · show fX7_line_62 _ _ _ _ _ _ _ _ = fX7_line_62 _ _ _ _ _ _ _ _
    rw [fX7_line_62, if_neg (nle8 hk), has_ok (by omega) (by omega), bi_s, hld, nI_1]
    by_cases q : L.testBit k = true
    · rw [if_pos q, if_pos q]
      simp only [one0, if_false]
      rw [aheadOf_ok hv hc (by omega) hk, bi_s, fa_or]
      rfl
    · rw [if_neg q, if_neg q]
      simp only [if_true]
      rw [or0]
theorem ct_bits0 {L : Nat} (hL : L < 256) (h : fb_ct L.testBit 8 = 0) : L = 0 := by
  apply bit_ext
  intro i
  rw [Nat.zero_testBit]
  by_cases q : i < 8
  · exact fb_ct_zero.mp h i q
  · by_cases w : L.testBit i = true
    · exact absurd (bit_lt8 hL w) q
    · simpa using w
theorem line_both {μ : Mem} (hv : KV n sz ev yr sb sl) (hc : RC ρ n sz ev yr sb (-9) 0) (hk : knm (acN n sz sb) ev yr n = 0) (h13 : ∀ e, e < 8 → μ 13 e = nI (knA (acN n sz sb) ev yr n e)) (x : Int32) :
    ∀ (c L i fu fv : Nat), L < 256 → fb_ct L.testBit 8 ≤ c → i + c ≤ 8 → c < fu → c < fv → ∃ r, fX3_inLine_5 μ fu x (nI L) (nI i) = some r ∧ fX7_line_52 fv x (nI L) (nI i) ρ = some (r, ρ) := by
  have hA : ∀ e, e < 8 → knA (acN n sz sb) ev yr n e < 256 := fun e _ => ahm_lt _ _ _ _ _
  have hkn : ∀ e, e < 8 → (wrs (knA (acN n sz sb) ev yr n) 8 e).testBit e = false := fun e he => by
    have := msk_bit (fun e => (wrs (knA (acN n sz sb) ev yr n) 8 e).testBit e) 8 e
    rw [show msk (fun e => (wrs (knA (acN n sz sb) ev yr n) 8 e).testBit e) 8 = 0 from hk, Nat.zero_testBit] at this
    simpa [he] using this.symm
  have zero : ∀ (i fu fv : Nat), fX3_inLine_5 μ (fu + 1) x (nI 0) (nI i) = some (-9) ∧ fX7_line_52 (fv + 1) x (nI 0) (nI i) ρ = some (-9, ρ) := by
    intro i fu fv
    constructor
    · rw [fX3_inLine_5]
      by_cases q : (8 : Int32) ≤ nI i
      · rw [if_pos q]
      · rw [if_neg q, if_pos (show nI 0 = 0 from rfl)]
    · rw [fX7_line_52, if_pos (show nI 0 = 0 from rfl)]
  intro c
  induction c with
  | zero =>
    intro L i fu fv hL h1 h2 h3 h4
    obtain ⟨fu, rfl⟩ : ∃ q, fu = q + 1 := ⟨fu - 1, by omega⟩
    obtain ⟨fv, rfl⟩ : ∃ q, fv = q + 1 := ⟨fv - 1, by omega⟩
    have := ct_bits0 hL (by omega)
    subst this
    exact ⟨-9, zero i fu fv⟩
  | succ c ih =>
    intro L i fu fv hL h1 h2 h3 h4
    obtain ⟨fu, rfl⟩ : ∃ q, fu = q + 1 := ⟨fu - 1, by omega⟩
    obtain ⟨fv, rfl⟩ : ∃ q, fv = q + 1 := ⟨fv - 1, by omega⟩
    by_cases h0 : L = 0
    · subst h0
      exact ⟨-9, zero i fu fv⟩
    have hfr := lin_free hA hkn hL h0
    have hne : ¬ nI L = 0 := fun z => h0 ((nI_eq (b := 0) (by omega) (by omega)).mp z)
    rw [fX3_inLine_5, if_neg (nle8 (by omega)), if_neg hne, lowest_ok hA h13 hL, bi_s, if_pos hfr, if_pos (nI_pos' (by omega)), fX7_line_52, if_neg hne, rline_in hv hc hL x (nI i) _ hfr]
    by_cases q : nI i = x
    · rw [if_pos q, if_pos q]
      exact ⟨_, rfl, rfl⟩
    · rw [if_neg q, if_neg q, shl1 (by omega), andn_ok, nI_1]
      have yes := fa_first_yes (fre (knA (acN n sz sb) ev yr n) L).testBit 8 hfr
      have inL : L.testBit (fa_first (fre (knA (acN n sz sb) ev yr n) L).testBit 8) = true := by
        unfold fre at yes ⊢
        rw [andn_bit (by omega), Bool.and_eq_true] at yes
        exact yes.1
      generalize fa_first (fre (knA (acN n sz sb) ev yr n) L).testBit 8 = e at hfr inL ⊢
      refine ih _ (i + 1) fu fv (Nat.lt_of_le_of_lt (andn_le _ _) hL) ?_ (by omega) (by omega) (by omega)
      have : fb_ct (andn L (2 ^ e)).testBit 8 < fb_ct L.testBit 8 := ct_strict (fun k hk h => by
        rw [andn_bit (by omega), Bool.and_eq_true] at h
        exact h.1) ⟨e, hfr, by rw [andn_bit (by omega)]; simp, inL⟩
      omega
theorem q_line (h : Bo σ ρ n sz ev yr sb sl) (x : Int32) : Qa σ ρ (fX6_line x σ) (fX7_line x ρ) := by
  obtain ⟨hv, hx, hc, h10⟩ := h
  have hn := hv.1
  unfold fX6_line fX7_line
  by_cases q : 0 ≤ x
  · obtain ⟨σ', x1, x2, x3, x4, -, -⟩ := xlook (lo := 0) hv hx (by omega)
    obtain ⟨ρ', r1, r2, -⟩ := R_kn hv hc (by omega)
    have hc' := RC_sm r2 hc
    have hx' := XChr_sm x2 (by omega) hx
    rw [if_pos q, if_pos q, show fX3_look 17 (0 : Int32) σ = some σ' from x1, bv_s, x3, bi_s, r1, bm_s]
    by_cases w : nI (knm (acR n sz sb (-9) 0) ev yr n) = 0
    · rw [if_pos w, if_pos w, xev hv hx', bi_s]
      have el : evm n sz ev sb n < 256 := msk_lt _ 8
      have hkn : knm (acN n sz sb) ev yr n = 0 := kn_zero.mp w
      obtain ⟨r, e1, e2⟩ := line_both hv hc' hkn x4 x 8 (evm n sz ev sb n) 0 FU FU el (fb_ct_le _ 8) (by omega) (by rw [FU_big]; omega) (by rw [FU_big]; omega)
      have e3 : fX7_line_20 FU x 0 0 ρ' = some (r, ρ') := by
        refine loop1 (fun fu k s => fX7_line_20 fu x (nI s) (nI k) ρ') 8 (fun k => msk (evm n sz ev sb n).testBit k) (fun fu => ?_) (fun fu k hk => ?_) (by rw [FU_big]; omega)
        · show fX7_line_20 _ _ _ _ _ = _
          rw [fX7_line_20, if_pos (by decide), ← msk_of (a := evm n sz ev sb n) (N := 8) el (fun i _ => rfl)]
          exact e2
        · show fX7_line_20 _ _ _ _ _ = fX7_line_20 _ _ _ _ _
          have hz : (nI (msk (fun h => decide (plc (acR n sz sb (-9) 0) ev h k < 6)) n) = 0) = ((evm n sz ev sb n).testBit k = false) := hz_iff hv hk
          rw [fX7_line_20, if_neg (nle8 hk), housesOf_ok hv hc' (by omega) hk, bi_s]
          simp only [hz]
          by_cases q : (evm n sz ev sb n).testBit k = false
          · rw [if_pos q, or0, nI_1]
            simp [msk, q]
          · have q' : (evm n sz ev sb n).testBit k = true := by simpa using q
            rw [if_neg q, shl1 (by omega), fa_or, nI_1]
            simp [msk, q']
      unfold fX3_inLine
      rw [show fX3_inLine_5 σ' FU x (nI (evm n sz ev sb n)) 0 = some r from e1, bi_s, e3]
      exact ⟨_, _, _, rfl, rfl, x2, r2⟩
    · rw [if_neg w, if_neg w]
      exact ⟨_, _, _, rfl, rfl, x2, r2⟩
  · rw [if_neg q, if_neg q]
    exact Qa.same
end QL
