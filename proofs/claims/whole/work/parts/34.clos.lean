/-! chains: the least relation that is closed under steps -/
def andn (a b : Nat) : Nat := a &&& (b ^^^ 4294967295)
theorem andn_ok (a b : Nat) : nI a &&& (nI b ^^^ (-1)) = nI (andn a b) := by
  rw [show (-1 : Int32) = nI 4294967295 from by decide, fb_xorI, fa_and]
  rfl
theorem andn_bit {a b : Nat} (ha : a < 2 ^ 32) (i : Nat) : (andn a b).testBit i = (a.testBit i && !b.testBit i) := by
  unfold andn
  rw [Nat.testBit_and, Nat.testBit_xor, show (4294967295 : Nat) = 2 ^ 32 - 1 from rfl, Nat.testBit_two_pow_sub_one]
  by_cases h : i < 32
  · simp [h]
  · rw [Nat.testBit_lt_two_pow (Nat.lt_of_lt_of_le ha (Nat.pow_le_pow_right (by omega) (by omega)))]
    simp
theorem andn_le (a b : Nat) : andn a b ≤ a := Nat.and_le_left
theorem andn_zero {a b : Nat} (ha : a < 2 ^ 31) : nI (andn a b) = 0 ↔ ∀ i, a.testBit i = true → b.testBit i = true := by
  have hl := andn_le a b
  rw [show (0 : Int32) = nI 0 from rfl, nI_eq (by omega) (by omega)]
  constructor
  · intro h i hi
    have e := andn_bit (a := a) (b := b) (by omega) i
    rw [h, hi] at e
    simp at e
    exact e
  · intro h
    apply bit_ext
    intro i
    rw [andn_bit (by omega)]
    by_cases hi : a.testBit i = true
    · simp [h i hi]
    · simp [hi]
theorem and_pow (a k : Nat) : a &&& 2 ^ k = if a.testBit k then 2 ^ k else 0 := by
  apply bit_ext
  intro i
  rw [Nat.testBit_and]
  by_cases q : i = k
  · subst q
    by_cases h : a.testBit i = true <;> simp [h, Nat.testBit_two_pow_self]
  · rw [Nat.testBit_two_pow_of_ne (Ne.symm q)]
    split
    · rw [Nat.testBit_two_pow_of_ne (Ne.symm q)]; simp
    · simp
theorem bit_lt8 {a i : Nat} (ha : a < 256) (h : a.testBit i = true) : i < 8 := by
  rcases Nat.lt_or_ge i 8 with q | q
  · exact q
  · rw [Nat.testBit_lt_two_pow (Nat.lt_of_lt_of_le (show a < 2 ^ 8 from ha) (Nat.pow_le_pow_right (by omega) q))] at h
    cases h
def Tr (S : Nat → Nat → Bool) : Prop := ∀ e f g, e < 8 → f < 8 → S e f = true → S f g = true → S e g = true
def Pre (A c : Nat → Nat) : Prop := (∀ e, e < 8 → c e < 256) ∧ (∀ e f, e < 8 → (A e).testBit f = true → (c e).testBit f = true) ∧ ∀ S : Nat → Nat → Bool, (∀ e f, e < 8 → (A e).testBit f = true → S e f = true) → Tr S → ∀ e f, e < 8 → (c e).testBit f = true → S e f = true
def Cl (A c : Nat → Nat) : Prop := Pre A c ∧ Tr (fun e f => (c e).testBit f)
theorem Cl_one {A c c' : Nat → Nat} (h : Cl A c) (h' : Cl A c') : ∀ e, e < 8 → c e = c' e := by
  intro e he
  apply bit_ext
  intro i
  have a1 := h.1.2.2 (fun e f => (c' e).testBit f) h'.1.2.1 h'.2 e i he
  have a2 := h'.1.2.2 (fun e f => (c e).testBit f) h.1.2.1 h.2 e i he
  by_cases q : (c e).testBit i = true
  · rw [q]; exact (a1 q).symm
  · by_cases q2 : (c' e).testBit i = true
    · exact absurd (a2 q2) q
    · simp only [Bool.not_eq_true] at q q2; rw [q, q2]
theorem Pre_step {A c : Nat → Nat} (h : Pre A c) {e f : Nat} (he : e < 8) (hf : f < 8) (hb : (c e).testBit f = true) : Pre A (fun z => if z = e then c e ||| c f else c z) := by
  refine ⟨fun z hz => ?_, fun z g hz hg => ?_, fun S h1 h2 z g hz hg => ?_⟩
  · dsimp only
    split
    · exact Nat.or_lt_two_pow (n := 8) (h.1 e he) (h.1 f hf)
    · exact h.1 z hz
  · have := h.2.1 z g hz hg
    dsimp only
    split
    · next q => subst q; rw [Nat.testBit_or, this]; rfl
    · exact this
  · dsimp only at hg
    split at hg
    · next q =>
      subst q
      rw [Nat.testBit_or, Bool.or_eq_true] at hg
      rcases hg with hg | hg
      · exact h.2.2 S h1 h2 z g hz hg
      · exact h2 z f g hz hf (h.2.2 S h1 h2 z f hz hb) (h.2.2 S h1 h2 f g hf hg)
    · exact h.2.2 S h1 h2 z g hz hg
/-- rows of a memory set -/
def chm (ix : Nat) (ρ : Mem) (c : Nat → Nat) (k : Nat) : Mem := fun a b => if a = ix ∧ b < k then nI (c b) else ρ a b
theorem chm_in {ix : Nat} {ρ : Mem} {c : Nat → Nat} {k b : Nat} (h : b < k) : chm ix ρ c k ix b = nI (c b) := if_pos ⟨rfl, h⟩
theorem chm_out {ix : Nat} {ρ : Mem} {c : Nat → Nat} {k a b : Nat} (h : a ≠ ix) : chm ix ρ c k a b = ρ a b := if_neg (fun q => h q.1)
theorem chm_0 {ix : Nat} {ρ : Mem} {c : Nat → Nat} : chm ix ρ c 0 = ρ := by
  funext a b
  exact if_neg (fun q => absurd q.2 (by omega))
theorem chm_next {ix : Nat} {ρ : Mem} {c : Nat → Nat} {k : Nat} : mup (chm ix ρ c k) ix k (nI (c k)) = chm ix ρ c (k + 1) := by
  funext a b
  rw [mup_at]
  unfold chm
  by_cases h1 : a = ix
  · subst h1
    by_cases h2 : b = k
    · subst h2; simp
    · by_cases h3 : b < k
      · simp [h2, h3, show b < k + 1 by omega]
      · simp [h2, h3, show ¬ b < k + 1 by omega]
  · simp [h1]
theorem chm_up {ix : Nat} {ρ : Mem} {c : Nat → Nat} {k e v : Nat} (he : e < k) : mup (chm ix ρ c k) ix e (nI v) = chm ix ρ (fun z => if z = e then v else c z) k := by
  funext a b
  rw [mup_at]
  unfold chm
  by_cases h1 : a = ix
  · subst h1
    by_cases h2 : b = e
    · subst h2; simp [he]
    · simp [h2]
  · simp [h1]
theorem chm_cong {ix : Nat} {ρ : Mem} {c c' : Nat → Nat} {k : Nat} (h : ∀ z, z < k → c z = c' z) : chm ix ρ c k = chm ix ρ c' k := by
  funext a b
  unfold chm
  by_cases q : a = ix ∧ b < k
  · rw [if_pos q, if_pos q, h b q.2]
  · rw [if_neg q, if_neg q]
/-! one round of the reference's closure -/
noncomputable def rnd (c : Nat → Nat) : Nat → Nat × (Nat → Nat)
  | 0 => (0, c)
  | k + 1 => @ite _ (((rnd c k).2 (k / 8)).testBit (k % 8) = true ∧ ¬ (∀ i, ((rnd c k).2 (k % 8)).testBit i = true → ((rnd c k).2 (k / 8)).testBit i = true)) (Classical.propDecidable _) (1, fun z => if z = k / 8 then (rnd c k).2 (k / 8) ||| (rnd c k).2 (k % 8) else (rnd c k).2 z) (rnd c k)
theorem rnd_yes {c : Nat → Nat} {k : Nat} (h1 : ((rnd c k).2 (k / 8)).testBit (k % 8) = true) (h2 : ¬ ∀ i, ((rnd c k).2 (k % 8)).testBit i = true → ((rnd c k).2 (k / 8)).testBit i = true) : rnd c (k + 1) = (1, fun z => if z = k / 8 then (rnd c k).2 (k / 8) ||| (rnd c k).2 (k % 8) else (rnd c k).2 z) := by
  rw [rnd, if_pos ⟨h1, h2⟩]
theorem rnd_no {c : Nat → Nat} {k : Nat} (h : ¬ (((rnd c k).2 (k / 8)).testBit (k % 8) = true ∧ ¬ ∀ i, ((rnd c k).2 (k % 8)).testBit i = true → ((rnd c k).2 (k / 8)).testBit i = true)) : rnd c (k + 1) = rnd c k := by
  rw [rnd, if_neg h]
theorem rnd_inv {A c : Nat → Nat} (h : Pre A c) : ∀ k, k ≤ 64 → Pre A (rnd c k).2 ∧ (∀ e f, e < 8 → (c e).testBit f = true → ((rnd c k).2 e).testBit f = true) ∧
    (((rnd c k).1 = 0 ∧ (rnd c k).2 = c ∧ ∀ j, j < k → (c (j / 8)).testBit (j % 8) = true → ∀ i, (c (j % 8)).testBit i = true → (c (j / 8)).testBit i = true) ∨ ((rnd c k).1 = 1 ∧ ∃ e f, e < 8 ∧ f < 8 ∧ ((rnd c k).2 e).testBit f = true ∧ (c e).testBit f = false)) := by
  intro k
  induction k with
  | zero => intro _; exact ⟨h, fun _ _ _ q => q, Or.inl ⟨rfl, rfl, fun j hj => absurd hj (by omega)⟩⟩
  | succ k ih =>
    intro hk
    obtain ⟨i1, i2, i3⟩ := ih (by omega)
    have he : k / 8 < 8 := by omega
    have hf : k % 8 < 8 := by omega
    by_cases q : ((rnd c k).2 (k / 8)).testBit (k % 8) = true ∧ ¬ ∀ i, ((rnd c k).2 (k % 8)).testBit i = true → ((rnd c k).2 (k / 8)).testBit i = true
    · rw [rnd_yes q.1 q.2]
      refine ⟨Pre_step i1 he hf q.1, fun e f he' hb => ?_, Or.inr ⟨rfl, ?_⟩⟩
      · have := i2 e f he' hb
        dsimp only
        split
        · next z => subst z; rw [Nat.testBit_or, this]; rfl
        · exact this
      · obtain ⟨i, hi⟩ := Classical.not_forall.mp q.2
        have hi1 : ((rnd c k).2 (k % 8)).testBit i = true := Classical.byContradiction fun z => hi (fun w => absurd w z)
        have hi2 : ¬ ((rnd c k).2 (k / 8)).testBit i = true := fun z => hi (fun _ => z)
        refine ⟨k / 8, i, he, bit_lt8 (i1.1 _ hf) hi1, ?_, ?_⟩
        · dsimp only
          rw [if_pos rfl, Nat.testBit_or, hi1]; simp
        · cases z : (c (k / 8)).testBit i with
          | false => rfl
          | true => exact absurd (i2 _ _ he z) hi2
    · rw [rnd_no q]
      refine ⟨i1, i2, ?_⟩
      rcases i3 with ⟨a1, a2, a3⟩ | a
      · refine Or.inl ⟨a1, a2, fun j hj hb i hi => ?_⟩
        by_cases w : j = k
        · subst w
          rw [a2] at q
          exact Classical.byContradiction fun z => q ⟨hb, fun y => z (y i hi)⟩
        · exact a3 j (by omega) hb i hi
      · exact Or.inr a
def wt (c : Nat → Nat) : Nat := fb_ct (fun j => (c (j / 8)).testBit (j % 8)) 64
theorem ct_strict {p q : Nat → Bool} : ∀ {n : Nat}, (∀ k, k < n → p k = true → q k = true) → (∃ k, k < n ∧ p k = false ∧ q k = true) → fb_ct p n < fb_ct q n
  | 0, _, h => by obtain ⟨k, hk, _⟩ := h; omega
  | n + 1, hs, ⟨k, hk, h1, h2⟩ => by
    rw [fb_ct_succ, fb_ct_succ]
    by_cases w : k = n
    · subst w
      have := fb_ct_sub (p := p) (q := q) (n := k) (fun j hj => hs j (by omega))
      simp [h1, h2]; omega
    · have := ct_strict (p := p) (q := q) (n := n) (fun j hj => hs j (by omega)) ⟨k, by omega, h1, h2⟩
      by_cases z : p n = true
      · simp [z, hs n (by omega) z]; omega
      · simp [z]; omega
theorem wt_le (c : Nat → Nat) : wt c ≤ 64 := fb_ct_le _ 64
theorem wt_up {c c' : Nat → Nat} (h : ∀ e f, e < 8 → (c e).testBit f = true → (c' e).testBit f = true) {e f : Nat} (he : e < 8) (hf : f < 8) (h1 : (c' e).testBit f = true) (h2 : (c e).testBit f = false) : wt c < wt c' := by
  refine ct_strict (fun k hk q => h _ _ (by omega) q) ⟨8 * e + f, by omega, ?_, ?_⟩
  · rw [show (8 * e + f) / 8 = e by omega, show (8 * e + f) % 8 = f by omega]; exact h2
  · rw [show (8 * e + f) / 8 = e by omega, show (8 * e + f) % 8 = f by omega]; exact h1
theorem lay_round {A c : Nat → Nat} {ρ : Mem} (h : Pre A c) (k27 : Int32 → Mem → Option Mem) : fX7_laysChains_35 k27 FU 0 0 (chm 10 ρ c 8) = k27 (nI (rnd c 64).1) (chm 10 ρ (rnd c 64).2 8) := by
  refine loop1 (fun fu k (s : Nat × (Nat → Nat)) => fX7_laysChains_35 k27 fu (nI s.1) (nI k) (chm 10 ρ s.2 8)) 64 (fun k => rnd c k) (fun fu => ?_) (fun fu k hk => ?_) (by rw [FU_big]; omega)
  · show fX7_laysChains_35 _ _ _ _ _ = _
    rw [fX7_laysChains_35, if_pos (by decide)]
  · show fX7_laysChains_35 _ _ _ _ _ = fX7_laysChains_35 _ _ _ _ _
    obtain ⟨i1, -, -⟩ := rnd_inv h k (by omega)
    have he : k / 8 < 8 := by omega
    have hf : k % 8 < 8 := by omega
    have b1 := i1.1 _ he
    have b2 := i1.1 _ hf
    have d1 : nI k / (8 : Int32) = nI (k / 8) := pk_div (d := 8) (by omega) (by omega) (by omega)
    have d2 : nI k - nI k / (8 : Int32) * (8 : Int32) = nI (k % 8) := pk_rem (d := 8) (by omega) (by omega) (by omega)
    rw [fX7_laysChains_35, if_neg (show ¬ (64 : Int32) ≤ nI k from nI_ge (b := 64) hk (by omega)), d2, d1]
    simp only [grd_in he (show 8 < 2 ^ 31 by omega), grd_in hf (show 8 < 2 ^ 31 by omega)]
    simp only [nI_clamp (show k / 8 < 2 ^ 31 by omega), nI_clamp (show k % 8 < 2 ^ 31 by omega)]
    rw [chm_in he, chm_in hf, has_ok (by omega) (by omega), bi_s, andn_ok, nI_1, fa_or, chm_up he]
    by_cases q1 : ((rnd c k).2 (k / 8)).testBit (k % 8) = true
    · rw [if_pos q1, if_neg (by decide)]
      by_cases q2 : ∀ i, ((rnd c k).2 (k % 8)).testBit i = true → ((rnd c k).2 (k / 8)).testBit i = true
      · rw [if_pos ((andn_zero (by omega)).mpr q2), rnd_no (fun z => z.2 q2)]
      · rw [if_neg (fun z => q2 ((andn_zero (by omega)).mp z)), rnd_yes q1 q2]
        rfl
    · rw [if_neg q1, if_pos rfl, rnd_no (fun z => q1 z.1)]
theorem lay_all {A : Nat → Nat} {ρ : Mem} : ∀ (m fu : Nat) (c : Nat → Nat), 64 - wt c < m → m < fu → Pre A c → ∃ c', Cl A c' ∧ fX7_laysChains_27 fu 1 (chm 10 ρ c 8) = some (chm 10 ρ c' 8) := by
  intro m
  induction m with
  | zero => intro fu c h1 h2 hc; omega
  | succ m ih =>
    intro fu c h1 h2 hc
    obtain ⟨fu, rfl⟩ : ∃ q, fu = q + 1 := ⟨fu - 1, by omega⟩
    rw [fX7_laysChains_27, if_neg (by decide), lay_round hc]
    obtain ⟨i1, i2, i3⟩ := rnd_inv hc 64 (by omega)
    rcases i3 with ⟨a1, a2, a3⟩ | ⟨a1, e, f, he, hf, b1, b2⟩
    · refine ⟨c, ⟨hc, fun e f g he hf q1 q2 => ?_⟩, ?_⟩
      · have := a3 (8 * e + f) (by omega)
        rw [show (8 * e + f) / 8 = e by omega, show (8 * e + f) % 8 = f by omega] at this
        exact this q1 g q2
      · obtain ⟨fu, rfl⟩ : ∃ q, fu = q + 1 := ⟨fu - 1, by omega⟩
        rw [a1, a2]
        rfl
    · rw [a1]
      have w := wt_up i2 he hf b1 b2
      have := wt_le (rnd c 64).2
      exact ih fu _ (by omega) (by omega) i1
