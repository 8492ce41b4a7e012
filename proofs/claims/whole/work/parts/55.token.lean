/-! reading the text: one token, on both sides -/
def kdt (tok : Nat) : Nat := if tok = 3000 then 0 else if 1000 ≤ tok then (if tok ≤ 1099 then 4 else 6) else if 97 ≤ tok ∧ tok ≤ 104 then 3 else if tok = 59 then 5 else if tok = 113 then 2 else if tok = 115 then 1 else 6
def tkI (tok : Nat) : Int32 := if tok = 3000 then -1 else nI tok
def dgt (c : Nat) : Bool := decide (48 ≤ c) && decide (c ≤ 57)
theorem sign_ok : ∀ c, c < 256 → fX5_signOf (nI c) = some (nI (kdt c)) := by decide +kernel
theorem fig_ok : ∀ c, c < 256 → fX5_isFigure (nI c) = some (if dgt c then 1 else 0) := by decide +kernel
theorem dig_ok : ∀ c, c < 256 → fX7_isDigit (nI c) = some (if dgt c then 1 else 0) := by decide +kernel
theorem dig_end : fX7_isDigit (-1) = some 0 := by decide +kernel
theorem dgt_in {c : Nat} (h : dgt c = true) : 48 ≤ c ∧ c ≤ 57 := by
  simpa [dgt] using h
theorem mup_same {σ : Mem} {k j : Nat} {v : Int32} (h : σ k j = v) : mup σ k j v = σ := by
  funext a b
  rw [mup_at]
  split
  · next q => rw [q.1, q.2, h]
  · rfl
theorem mup_tw {σ : Mem} {k j : Nat} {v w : Int32} : mup (mup σ k j v) k j w = mup σ k j w := by
  funext a b
  rw [mup_at, mup_at, mup_at]
  split <;> rfl
theorem mup_sw {σ : Mem} {k j k' j' : Nat} {v w : Int32} (h : k ≠ k' ∨ j ≠ j') : mup (mup σ k j v) k' j' w = mup (mup σ k' j' w) k j v := by
  funext a b
  rw [mup_at, mup_at, mup_at, mup_at]
  by_cases q : a = k' ∧ b = j'
  · rw [if_pos q, if_pos q, if_neg (by omega)]
  · rw [if_neg q, if_neg q]
def TT (σ ρ : Mem) (t : Nat) (tx : Nat → Nat) : Prop := t ≤ 110 ∧ σ 1 0 = nI t ∧ ρ 0 6 = nI t ∧ ∀ j, j < t → tx j < 256 ∧ σ 2 j = nI (tx j) ∧ ρ 4 j = nI (tx j)
section TO
variable {σ ρ : Mem} {t : Nat} {tx : Nat → Nat}
theorem TT_mx {b : Nat} {v : Int32} (h : TT σ ρ t tx) (hb : b ≠ 0) : TT (mup σ 1 b v) ρ t tx :=
  ⟨h.1, by rw [mup_n (by omega)]; exact h.2.1, h.2.2.1, fun j hj => ⟨(h.2.2.2 j hj).1, by rw [mup_n (by omega)]; exact (h.2.2.2 j hj).2.1, (h.2.2.2 j hj).2.2⟩⟩
theorem TT_mr {b : Nat} {v : Int32} (h : TT σ ρ t tx) (hb : b ≠ 6) : TT σ (mup ρ 0 b v) t tx :=
  ⟨h.1, h.2.1, by rw [mup_n (by omega)]; exact h.2.2.1, fun j hj => ⟨(h.2.2.2 j hj).1, (h.2.2.2 j hj).2.1, by rw [mup_n (by omega)]; exact (h.2.2.2 j hj).2.2⟩⟩
theorem skip_both : ∀ (c x fu : Nat) (σ ρ : Mem), TT σ ρ t tx → x + c = t → c < fu → σ 1 2 = nI x → ρ 0 10 = nI x → ∃ b, x ≤ b ∧ b ≤ t ∧ (b = t ∨ tx b ≠ 32) ∧ fX5_advance_0 fu σ = fX5_advance_38 (mup σ 1 2 (nI b)) ∧ fX7_take_0 fu ρ = fX7_take_38 (mup ρ 0 10 (nI b)) := by
  intro c
  induction c with
  | zero =>
    intro x fu σ ρ h h1 hf e1 e2
    obtain ⟨fu, rfl⟩ : ∃ q, fu = q + 1 := ⟨fu - 1, by omega⟩
    have ht := h.1
    refine ⟨x, by omega, by omega, Or.inl (by omega), ?_, ?_⟩
    · rw [fX5_advance_0, h.2.1, e1, if_pos (nI_le (by omega) (by omega)), mup_same e1]
    · rw [fX7_take_0, h.2.2.1, e2, if_pos (nI_le (by omega) (by omega)), mup_same e2]
  | succ c ih =>
    intro x fu σ ρ h h1 hf e1 e2
    obtain ⟨fu, rfl⟩ : ∃ q, fu = q + 1 := ⟨fu - 1, by omega⟩
    have ht := h.1
    obtain ⟨l1, l2, l3⟩ := h.2.2.2 x (by omega)
    by_cases q : tx x = 32
    · obtain ⟨b, b1, b2, b3, b4, b5⟩ := ih (x + 1) fu (mup σ 1 2 (nI (x + 1))) (mup ρ 0 10 (nI (x + 1))) (TT_mx (TT_mr h (by omega)) (by omega)) (by omega) (by omega) (mup_s _ _ _ _) (mup_s _ _ _ _)
      refine ⟨b, by omega, b2, b3, ?_, ?_⟩
      · rw [fX5_advance_0, h.2.1, e1, if_neg (nI_ge (by omega) (by omega)), grd_in (by omega) (by omega), nI_clamp (by omega), l2, if_pos (show nI (tx x) = (32 : Int32) by rw [q]; rfl), nI_1, b4, mup_tw]
      · rw [fX7_take_0, h.2.2.1, e2, if_neg (nI_ge (by omega) (by omega)), grd_in (by omega) (by omega), nI_clamp (by omega), l3, if_pos (show nI (tx x) = (32 : Int32) by rw [q]; rfl), nI_1, b5, mup_tw]
    · have q' : ¬ nI (tx x) = (32 : Int32) := fun z => q ((nI_eq (b := 32) (by omega) (by omega)).mp z)
      refine ⟨x, by omega, by omega, Or.inr q, ?_, ?_⟩
      · rw [fX5_advance_0, h.2.1, e1, if_neg (nI_ge (by omega) (by omega)), grd_in (by omega) (by omega), nI_clamp (by omega), l2, if_neg q', mup_same e1]
      · rw [fX7_take_0, h.2.2.1, e2, if_neg (nI_ge (by omega) (by omega)), grd_in (by omega) (by omega), nI_clamp (by omega), l3, if_neg q', mup_same e2]
/-- where the figures end -/
theorem fig_end (tx : Nat → Nat) : ∀ (c b t : Nat), b + c = t → ∃ e, b ≤ e ∧ e ≤ t ∧ (∀ j, b ≤ j → j < e → dgt (tx j) = true) ∧ (e = t ∨ dgt (tx e) = false) := by
  intro c
  induction c with
  | zero => exact fun b t h => ⟨b, by omega, by omega, fun j h1 h2 => absurd h1 (by omega), Or.inl (by omega)⟩
  | succ c ih =>
    intro b t h
    by_cases q : dgt (tx b) = true
    · obtain ⟨e, h1, h2, h3, h4⟩ := ih (b + 1) t (by omega)
      refine ⟨e, by omega, h2, fun j h5 h6 => ?_, h4⟩
      by_cases w : j = b
      · subst w; exact q
      · exact h3 j (by omega) h6
    · exact ⟨b, by omega, by omega, fun j h1 h2 => absurd h1 (by omega), Or.inr (by simpa using q)⟩
def vx (tx : Nat → Nat) (b f : Nat) : Nat := if f = 0 then 0 else if f = 1 then tx b - 48 else 10 * (tx b - 48) + (tx (b + 1) - 48)
def vr (tx : Nat → Nat) (b f : Nat) : Nat := if f ≤ 1 then tx b - 48 else if f = 2 ∧ 48 < tx b then 10 * (tx b - 48) + (tx (b + 1) - 48) else 1000
def kn4 (tx : Nat → Nat) (b f : Nat) : Nat := if 2 < f ∨ (f = 2 ∧ tx b = 48) then 6 else 4
theorem sub48 {c : Nat} (h : 48 ≤ c) (h2 : c < 1000) {m : Nat} : nI m + nI c - 48 = nI (m + (c - 48)) := by
  rw [nI_add, show m + c = (m + (c - 48)) + 48 by omega, ← nI_add, show (48 : Int32) = nI 48 from rfl, Int32.add_sub_cancel]
theorem sub48' {c : Nat} (h : 48 ≤ c) : nI c - 48 = nI (c - 48) := by
  conv => lhs; rw [show c = (c - 48) + 48 by omega, ← nI_add]
  rw [show (48 : Int32) = nI 48 from rfl, Int32.add_sub_cancel]
theorem xnum (h : TT σ ρ t tx) {b e : Nat} (hbe : b < e) (het : e ≤ t) (hd : ∀ j, b ≤ j → j < e → dgt (tx j) = true) (he : e = t ∨ dgt (tx e) = false) :
    ∀ (c f fu : Nat) (μ : Mem), b + f + c = e → c < fu → TT μ ρ t tx → μ 1 2 = nI (b + f) → μ 1 5 = nI (vx tx b f) → fX5_takeNumber_17 fu (nI (tx b)) (nI f) μ = some (mup (mup (mup μ 1 5 (nI (vx tx b (e - b)))) 1 2 (nI e)) 1 3 (nI (kn4 tx b (e - b)))) := by
  have ht := h.1
  intro c
  induction c with
  | zero =>
    intro f fu μ h1 hf hμ e1 e2
    obtain ⟨fu, rfl⟩ : ∃ q, fu = q + 1 := ⟨fu - 1, by omega⟩
    have hf' : e - b = f := by omega
    have hbf : b + f = e := by omega
    rw [hf', ← hbf, mup_same e2, mup_same e1]
    have h88 : fX5_takeNumber_88 (nI (tx b)) (nI f) μ = some (mup μ 1 3 (nI (kn4 tx b f))) := by
      have lb := (h.2.2.2 b (by omega)).1
      unfold fX5_takeNumber_88 fX5_takeNumber_104 fX5_takeNumber_108 fX5_takeNumber_109 fX5_takeNumber_121 kn4
      by_cases q : 2 < f
      · rw [if_pos (show (2 : Int32) < nI f from nI_lt (a := 2) q (by omega)), if_pos (Or.inl q), if_neg (by decide)]
        rfl
      · rw [if_neg (show ¬ (2 : Int32) < nI f from fun z => q ((nI_ltI (a := 2) (by omega) (by omega)).mp z))]
        by_cases w : f = 2
        · rw [if_pos (show nI f = (2 : Int32) by rw [w]; rfl)]
          by_cases z : tx b = 48
          · rw [if_pos (show nI (tx b) = (48 : Int32) by rw [z]; rfl), if_pos (Or.inr ⟨w, z⟩), if_neg (by decide)]
            rfl
          · rw [if_neg (show ¬ nI (tx b) = (48 : Int32) from fun y => z ((nI_eq (b := 48) (by omega) (by omega)).mp y)), if_pos (show (0 : Int32) = 0 from rfl), if_neg (show ¬ (2 < f ∨ (f = 2 ∧ tx b = 48)) by omega)]
            rfl
        · rw [if_neg (show ¬ nI f = (2 : Int32) from fun y => w ((nI_eq (b := 2) (by omega) (by omega)).mp y)), if_pos (show (0 : Int32) = 0 from rfl), if_neg (show ¬ (2 < f ∨ (f = 2 ∧ tx b = 48)) by omega)]
          rfl
    rw [fX5_takeNumber_17, hμ.2.1, e1, h88]
    by_cases q : t ≤ b + f
    · rw [if_pos (nI_le q (by omega))]
    · obtain ⟨l1, l2, l3⟩ := hμ.2.2.2 (b + f) (by omega)
      have nd : dgt (tx (b + f)) = false := by
        rcases he with he | he
        · omega
        · rw [hbf]; exact he
      rw [if_neg (nI_ge (by omega) (by omega)), grd_in (by omega) (by omega), nI_clamp (by omega), l2, fig_ok _ l1, bi_s, nd]
      simp only [Bool.false_eq_true, if_false, if_true]
  | succ c ih =>
    intro f fu μ h1 hf hμ e1 e2
    obtain ⟨fu, rfl⟩ : ∃ q, fu = q + 1 := ⟨fu - 1, by omega⟩
    obtain ⟨l1, l2, l3⟩ := hμ.2.2.2 (b + f) (by omega)
    have d1 := hd (b + f) (by omega) (by omega)
    have d2 := dgt_in d1
    rw [fX5_takeNumber_17, hμ.2.1, e1, if_neg (nI_ge (by omega) (by omega)), grd_in (by omega) (by omega), grd_in (by omega) (by omega), nI_clamp (by omega), l2, fig_ok _ l1, bi_s, if_pos d1]
    simp only [one0, if_false]
    unfold fX5_takeNumber_72
    by_cases q : 2 ≤ f
    · rw [if_pos (show (2 : Int32) ≤ nI f from nI_le (a := 2) q (by omega)), e1, nI_1, nI_1]
      refine Eq.trans (ih (f + 1) fu (mup μ 1 2 (nI (b + f + 1))) (by omega) (by omega) (TT_mx hμ (by omega)) (by rw [mup_s, Nat.add_assoc]) (by
        rw [mup_n (by omega), e2]
        unfold vx
        rw [if_neg (by omega), if_neg (by omega), if_neg (by omega), if_neg (by omega)])) ?_
      rw [mup_sw (j := 2) (j' := 5) (by omega), mup_tw]
    · have ev : (10 : Int32) * nI (vx tx b f) + nI (tx (b + f)) - 48 = nI (vx tx b (f + 1)) := by
        rw [show (10 : Int32) = nI 10 from rfl, pk_mul, sub48 d2.1 (by omega)]
        congr 1
        have hf2 : f = 0 ∨ f = 1 := by omega
        rcases hf2 with rfl | rfl
        · simp [vx]
        · simp [vx]
      rw [if_neg (show ¬ (2 : Int32) ≤ nI f from nI_ge (b := 2) (by omega) (by omega)), e2, ev, mup_n (a := 1) (b := 2) (by omega), e1, nI_1, nI_1]
      refine Eq.trans (ih (f + 1) fu (mup (mup μ 1 5 (nI (vx tx b (f + 1)))) 1 2 (nI (b + f + 1))) (by omega) (by omega) (TT_mx (TT_mx hμ (by omega)) (by omega)) (by rw [mup_s, Nat.add_assoc]) (by rw [mup_n (by omega), mup_s])) ?_
      rw [mup_sw (j := 2) (j' := 5) (by omega), mup_tw, mup_tw]
theorem rnum (h : TT σ ρ t tx) {b e : Nat} (hbe : b < e) (het : e ≤ t) (hd : ∀ j, b ≤ j → j < e → dgt (tx j) = true) (he : e = t ∨ dgt (tx e) = false) :
    ∀ (c f fu : Nat) (μ : Mem), b + f + c = e → c < fu → 1 ≤ f → TT σ μ t tx → μ 0 10 = nI (b + f) → μ 0 11 = nI b → fX7_take_117 fu (nI (vr tx b f)) μ = some (mup (mup μ 0 10 (nI e)) 0 12 (nI (1000 + vr tx b (e - b)))) := by
  have ht := h.1
  intro c
  induction c with
  | zero =>
    intro f fu μ h1 hf hf1 hμ e1 e2
    obtain ⟨fu, rfl⟩ : ∃ q, fu = q + 1 := ⟨fu - 1, by omega⟩
    have hf' : e - b = f := by omega
    have hbf : b + f = e := by omega
    have h197 : fX7_take_197 (nI (vr tx b f)) μ = some (mup μ 0 12 (nI (1000 + vr tx b f))) := by
      unfold fX7_take_197
      rw [show (1000 : Int32) = nI 1000 from rfl, nI_add]
    rw [hf', ← hbf, mup_same e1, fX7_take_117, hμ.2.2.1, e1, h197]
    by_cases q : t ≤ b + f
    · rw [if_pos (nI_le q (by omega))]
    · obtain ⟨l1, l2, l3⟩ := hμ.2.2.2 (b + f) (by omega)
      have nd : dgt (tx (b + f)) = false := by
        rcases he with he | he
        · omega
        · rw [hbf]; exact he
      rw [if_neg (nI_ge (by omega) (by omega)), grd_in (by omega) (by omega), nI_clamp (by omega), l3, dig_ok _ l1, bi_s, nd]
      simp only [Bool.false_eq_true, if_false, if_true]
  | succ c ih =>
    intro f fu μ h1 hf hf1 hμ e1 e2
    obtain ⟨fu, rfl⟩ : ∃ q, fu = q + 1 := ⟨fu - 1, by omega⟩
    obtain ⟨l1, l2, l3⟩ := hμ.2.2.2 (b + f) (by omega)
    have d1 := hd (b + f) (by omega) (by omega)
    have d2 := dgt_in d1
    have d0 := dgt_in (hd b (by omega) (by omega))
    have i2 := ih (f + 1) fu (mup μ 0 10 (nI (b + f + 1))) (by omega) (by omega) (by omega) (TT_mr hμ (by omega)) (by rw [mup_s, Nat.add_assoc]) (by rw [mup_n (by omega)]; exact e2)
    rw [mup_tw] at i2
    rw [fX7_take_117, hμ.2.2.1, e1, if_neg (nI_ge (by omega) (by omega)), grd_in (by omega) (by omega), grd_in (by omega) (by omega), nI_clamp (by omega), l3, dig_ok _ l1, bi_s, if_pos d1, e2, nI_1]
    simp only [one0, if_false]
    unfold fX7_take_180 fX7_take_183
    rw [e1, nI_1]
    by_cases q : f = 1
    · subst q
      rw [if_pos rfl]
      have v1 : vr tx b 1 = tx b - 48 := by simp [vr]
      rw [v1]
      by_cases w : 48 < tx b
      · rw [if_neg (show ¬ nI (tx b - 48) ≤ 0 from nI_ge (a := 0) (by omega) (by omega)), show (10 : Int32) = nI 10 from rfl, pk_mul, sub48 d2.1 (by omega)]
        have v2 : vr tx b 2 = 10 * (tx b - 48) + (tx (b + 1) - 48) := by simp [vr, w]
        rw [v2] at i2
        exact i2
      · rw [if_pos (show nI (tx b - 48) ≤ 0 from nI_le (b := 0) (by omega) (by omega))]
        have v2 : vr tx b 2 = 1000 := by simp [vr, w]
        rw [v2] at i2
        exact i2
    · rw [if_neg (fun z => q (by have := (nI_eq (by omega) (by omega)).mp z; omega))]
      have v2 : vr tx b (f + 1) = 1000 := by
        unfold vr
        rw [if_neg (by omega), if_neg (by omega)]
      rw [v2] at i2
      exact i2
def TK (σ ρ : Mem) (tok b x : Nat) : Prop := σ 1 2 = nI x ∧ ρ 0 10 = nI x ∧ σ 1 4 = nI b ∧ ρ 0 11 = nI b ∧ σ 1 3 = nI (kdt tok) ∧ ρ 0 12 = tkI tok ∧ (1000 ≤ tok → tok ≤ 1099 → σ 1 5 = nI (tok - 1000)) ∧ (97 ≤ tok → tok ≤ 104 → σ 1 5 = nI (tok - 97)) ∧ (tok < 256 ∨ (1000 ≤ tok ∧ tok ≤ 1099) ∨ tok = 2000 ∨ tok = 3000)
theorem adv_both (h : TT σ ρ t tx) {x : Nat} (hx : x ≤ t) (e1 : σ 1 2 = nI x) (e2 : ρ 0 10 = nI x) :
    ∃ σ' ρ' tok b x', fX5_advance σ = some σ' ∧ fX7_take ρ = some ρ' ∧ TK σ' ρ' tok b x' ∧ x ≤ x' ∧ x' ≤ t ∧ b ≤ t ∧ (tok ≠ 3000 → x < x') ∧ (∀ p q, ¬ (p = 1 ∧ 2 ≤ q ∧ q ≤ 5) → σ' p q = σ p q) ∧ (∀ p q, ¬ (p = 0 ∧ 10 ≤ q ∧ q ≤ 12) → ρ' p q = ρ p q) := by
  have ht := h.1
  obtain ⟨b, b1, b2, b3, b4, b5⟩ := skip_both (t - x) x FU σ ρ h (by omega) (by rw [FU_big]; omega) e1 e2
  unfold fX5_advance fX7_take
  rw [b4, b5]
  have h' : TT (mup σ 1 2 (nI b)) (mup ρ 0 10 (nI b)) t tx := TT_mx (TT_mr h (by omega)) (by omega)
  unfold fX5_advance_38 fX7_take_38 fX7_take_71 fX7_take_95
  have s2 : mup (mup σ 1 2 (nI b)) 1 4 (mup σ 1 2 (nI b) 1 2) = mup (mup σ 1 2 (nI b)) 1 4 (nI b) := by rw [mup_s]
  have r2 : mup (mup ρ 0 10 (nI b)) 0 11 (mup ρ 0 10 (nI b) 0 10) = mup (mup ρ 0 10 (nI b)) 0 11 (nI b) := by rw [mup_s]
  rw [s2, r2]
  have h2 : TT (mup (mup σ 1 2 (nI b)) 1 4 (nI b)) (mup (mup ρ 0 10 (nI b)) 0 11 (nI b)) t tx := TT_mx (TT_mr h' (by omega)) (by omega)
  have sa : mup (mup σ 1 2 (nI b)) 1 4 (nI b) 1 2 = nI b := by rw [mup_n (by omega), mup_s]
  have sb : mup (mup σ 1 2 (nI b)) 1 4 (nI b) 1 4 = nI b := mup_s _ _ _ _
  have ra : mup (mup ρ 0 10 (nI b)) 0 11 (nI b) 0 10 = nI b := by rw [mup_n (by omega), mup_s]
  have rb : mup (mup ρ 0 10 (nI b)) 0 11 (nI b) 0 11 = nI b := mup_s _ _ _ _
  have sf : ∀ p q, ¬ (p = 1 ∧ 2 ≤ q ∧ q ≤ 5) → mup (mup σ 1 2 (nI b)) 1 4 (nI b) p q = σ p q := fun p q z => by rw [mup_n (by omega), mup_n (by omega)]
  have rf : ∀ p q, ¬ (p = 0 ∧ 10 ≤ q ∧ q ≤ 12) → mup (mup ρ 0 10 (nI b)) 0 11 (nI b) p q = ρ p q := fun p q z => by rw [mup_n (by omega), mup_n (by omega)]
  generalize mup (mup σ 1 2 (nI b)) 1 4 (nI b) = σ2 at h2 sa sb sf ⊢
  generalize mup (mup ρ 0 10 (nI b)) 0 11 (nI b) = ρ2 at h2 ra rb rf ⊢
  rw [sa, h2.2.1, h2.2.2.1, ra]
  by_cases q : b = t
  · rw [if_neg (show ¬ nI b < nI t from fun z => by have := (nI_ltI (by omega) (by omega)).mp z; omega), if_pos (nI_le (by omega) (by omega))]
    rw [mup_n (a := 0) (b := 6) (by omega), mup_n (a := 0) (b := 10) (by omega), h2.2.2.1, ra, if_pos (nI_le (by omega) (by omega))]
    rw [mup_n (a := 0) (b := 12) (by omega), mup_s, dig_end, bi_s]
    simp only [if_true]
    refine ⟨_, _, 3000, b, b, rfl, rfl, ⟨?_, ?_, ?_, ?_, ?_, ?_, fun _ z => absurd z (by omega), fun _ z => absurd z (by omega), by omega⟩, by omega, by omega, by omega, fun z => absurd rfl z, fun p q z => ?_, fun p q z => ?_⟩
    · rw [mup_n (by omega)]; exact sa
    · rw [mup_s]; simp
    · rw [mup_n (by omega)]; exact sb
    · rw [mup_n (by omega), mup_n (by omega)]; exact rb
    · rw [mup_s]; rfl
    · rw [mup_n (by omega), mup_s]; rfl
    · rw [mup_n (by omega)]; exact sf p q z
    · rw [mup_n (by omega), mup_n (by omega)]; exact rf p q z
  · obtain ⟨l1, l2, l3⟩ := h2.2.2.2 b (by omega)
    rw [if_pos (nI_lt (by omega) (by omega)), if_neg (nI_ge (by omega) (by omega)), grd_in (by omega) (by omega), grd_in (by omega) (by omega), nI_clamp (by omega), l2, l3, fig_ok _ l1, bi_s]
    rw [mup_n (a := 0) (b := 6) (by omega), mup_n (a := 0) (b := 10) (by omega), h2.2.2.1, ra, if_neg (nI_ge (by omega) (by omega))]
    rw [mup_n (a := 0) (b := 12) (by omega), mup_s, dig_ok _ l1, bi_s, nI_1]
    by_cases w : dgt (tx b) = true
    · have d0 := dgt_in w
      rw [if_pos w]
      simp only [one0, if_false]
      obtain ⟨e, f1, f2, f3, f4⟩ := fig_end tx (t - b) b t (by omega)
      have hbe : b < e := by
        rcases Nat.lt_or_ge b e with z | z
        · exact z
        · have : e = b := by omega
          subst this
          rcases f4 with f4 | f4
          · exact absurd f4 q
          · rw [w] at f4; cases f4
      have x1 : fX5_takeNumber σ2 = some (mup (mup (mup (mup σ2 1 5 0) 1 5 (nI (vx tx b (e - b)))) 1 2 (nI e)) 1 3 (nI (kn4 tx b (e - b)))) := by
        unfold fX5_takeNumber
        rw [sa, grd_in (by omega) (by omega), nI_clamp (by omega), l2]
        exact xnum h2 hbe f2 f3 f4 (e - b) 0 FU (mup σ2 1 5 0) (by omega) (by rw [FU_big]; omega) (TT_mx h2 (by omega)) (by rw [mup_n (by omega)]; exact sa) (by rw [mup_s]; rfl)
      have x2 : fX7_take_117 FU (nI (tx b) - 48) (mup (mup ρ2 0 12 (nI (tx b))) 0 10 (nI (b + 1))) = some (mup (mup (mup (mup ρ2 0 12 (nI (tx b))) 0 10 (nI (b + 1))) 0 10 (nI e)) 0 12 (nI (1000 + vr tx b (e - b)))) := by
        rw [sub48' d0.1]
        exact rnum h2 hbe f2 f3 f4 (e - b - 1) 1 FU _ (by omega) (by rw [FU_big]; omega) (by omega) (TT_mr (TT_mr h2 (by omega)) (by omega)) (mup_s _ _ _ _) (by rw [mup_n (by omega), mup_n (by omega)]; exact rb)
      rw [x1, bv_s, x2]
      have tokc : (1000 ≤ 1000 + vr tx b (e - b) ∧ 1000 + vr tx b (e - b) ≤ 1099 ∧ kn4 tx b (e - b) = 4 ∧ vx tx b (e - b) = vr tx b (e - b)) ∨ (vr tx b (e - b) = 1000 ∧ kn4 tx b (e - b) = 6) := by
        have hf : e - b = 1 ∨ e - b = 2 ∨ 2 < e - b := by omega
        rcases hf with hf | hf | hf
        · left
          rw [hf]
          simp only [vr, vx, kn4]
          refine ⟨by simp, ?_, by simp, by simp⟩
          simp only [Nat.le_refl, if_true]
          omega
        · have d1 := dgt_in (f3 (b + 1) (by omega) (by omega))
          rw [hf]
          by_cases z : 48 < tx b
          · left
            have z2 : ¬ tx b = 48 := by omega
            simp [vr, vx, kn4, z, z2]
            omega
          · right
            have z2 : tx b = 48 := by omega
            simp [vr, kn4, z2]
        · right
          constructor
          · unfold vr
            rw [if_neg (by omega), if_neg (by omega)]
          · unfold kn4
            rw [if_pos (Or.inl hf)]
      have kk : kn4 tx b (e - b) = kdt (1000 + vr tx b (e - b)) ∧ (1000 + vr tx b (e - b) ≤ 1099 ∨ 1000 + vr tx b (e - b) = 2000) ∧ tkI (1000 + vr tx b (e - b)) = nI (1000 + vr tx b (e - b)) := by
        rcases tokc with ⟨z1, z2, z3, z4⟩ | ⟨z1, z2⟩
        · refine ⟨?_, Or.inl z2, ?_⟩
          · rw [z3]
            unfold kdt
            rw [if_neg (by omega), if_pos z1, if_pos z2]
          · unfold tkI
            rw [if_neg (by omega)]
        · rw [z1, z2]
          exact ⟨rfl, Or.inr rfl, rfl⟩
      refine ⟨_, _, 1000 + vr tx b (e - b), b, e, rfl, rfl, ⟨?_, ?_, ?_, ?_, ?_, ?_, fun z1 z2 => ?_, fun z1 z2 => absurd z2 (by omega), by omega⟩, by omega, f2, b2, fun _ => by omega, fun p q z => ?_, fun p q z => ?_⟩
      · rw [mup_n (by omega), mup_s]
      · rw [mup_n (by omega), mup_s]
      · rw [mup_n (by omega), mup_n (by omega), mup_n (by omega), mup_n (by omega)]; exact sb
      · rw [mup_n (by omega), mup_n (by omega), mup_n (by omega), mup_n (by omega)]; exact rb
      · rw [mup_s, kk.1]
      · rw [mup_s, kk.2.2]
      · rw [mup_n (by omega), mup_n (by omega), mup_s]
        rcases tokc with ⟨y1, y2, y3, y4⟩ | ⟨y1, y2⟩
        · rw [y4, show 1000 + vr tx b (e - b) - 1000 = vr tx b (e - b) by omega]
        · omega
      · rw [mup_n (by omega), mup_n (by omega), mup_n (by omega), mup_n (by omega)]; exact sf p q z
      · rw [mup_n (by omega), mup_n (by omega), mup_n (by omega), mup_n (by omega)]; exact rf p q z
    · rw [if_neg w]
      simp only [if_true]
      rw [sign_ok _ l1, bi_s]
      refine ⟨_, _, tx b, b, b + 1, rfl, rfl, ⟨?_, ?_, ?_, ?_, ?_, ?_, fun z1 z2 => absurd z1 (by omega), fun z1 z2 => ?_, by omega⟩, by omega, by omega, b2, fun _ => by omega, fun p q z => ?_, fun p q z => ?_⟩
      · rw [mup_n (by omega), mup_n (by omega), mup_s]
      · rw [mup_s]
      · rw [mup_n (by omega), mup_n (by omega), mup_n (by omega)]; exact sb
      · rw [mup_n (by omega), mup_n (by omega)]; exact rb
      · rw [mup_n (by omega), mup_s]
      · rw [mup_n (by omega), mup_s]
        unfold tkI
        rw [if_neg (by omega)]
      · rw [mup_s]
        conv => lhs; rw [show tx b = (tx b - 97) + 97 by omega, ← nI_add]
        rw [show (97 : Int32) = nI 97 from rfl, Int32.add_sub_cancel]
      · rw [mup_n (by omega), mup_n (by omega), mup_n (by omega)]; exact sf p q z
      · rw [mup_n (by omega), mup_n (by omega)]; exact rf p q z
end TO
