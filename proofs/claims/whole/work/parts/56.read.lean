/-! reading the text: what both hold between tokens -/
def FX (σa σ : Mem) : Prop := ∀ a b, ¬ (a = 1 ∧ 2 ≤ b ∧ b ≤ 9) → ¬ (31 ≤ a ∧ a < 45) → σ a b = σa a b
def FRr (ρa ρ : Mem) : Prop := ∀ a b, ¬ (a = 0 ∧ 10 ≤ b ∧ b ≤ 15) → ¬ (7 ≤ a ∧ a ≤ 9) → ρ a b = ρa a b
def PD (σ ρ : Mem) (N : Nat) (sz : Nat → Nat) (ev yr : Nat → Nat → Nat) : Prop := KV N sz ev yr (fun _ => 0) 0 ∧ σ 31 1 = nI N ∧ (∀ h, h < 4 → σ (31 + 2 + 3 * h) 3 = 0 ∧ (N ≤ h → σ (31 + 2 + 3 * h) 2 = 0)) ∧ ∀ h, h < N → σ (31 + 2 + 3 * h) 2 = nI (sz h) ∧ ∀ k, k < sz h → σ (31 + 2 + 3 * h + 1) k = nI (ev h k) ∧ σ (31 + 2 + 3 * h + 2) k = nI (yr h k) ∧ ρ 8 (6 * h + k) = nI (ev h k) ∧ ρ 9 (6 * h + k) = nI (yr h k)
def SL (σ ρ : Mem) : Prop := (σ 1 9 = 0 ∧ ρ 0 14 = -9 ∧ σ 31 2 = 0) ∨ ∃ sl, sl ≤ 9 ∧ σ 1 9 = 1 ∧ ρ 0 14 = nI sl ∧ σ 31 2 = nI sl
def CM (σ ρ : Mem) (it C : Nat) (sz : Nat → Nat) : Prop := σ 1 7 = nI it ∧ ρ 0 13 = nI it ∧ SL σ ρ ∧ ρ 0 15 = nI C ∧ ∀ h, h < C → ρ 7 h = nI (sz h)
def CO (σa ρa : Mem) (t : Nat) (tx : Nat → Nat) (σ ρ : Mem) (tok b x : Nat) : Prop := TT σ ρ t tx ∧ FX σa σ ∧ FRr ρa ρ ∧ TK σ ρ tok b x ∧ b ≤ t ∧ x ≤ t
def OUT (σa ρa : Mem) (x y : Option (Int32 × Mem)) : Prop := ∃ r σ' ok ρ', x = some (r, σ') ∧ y = some (ok, ρ') ∧ FX σa σ' ∧ FRr ρa ρ' ∧ ((ok = 0 ∧ ∃ b, b ≤ 110 ∧ r = -10 - nI b ∧ ρ' 0 11 = nI b) ∨ (ok = 1 ∧ ∃ it N sz ev yr, it ≤ 110 ∧ r = nI it ∧ CM σ' ρ' it N sz ∧ PD σ' ρ' N sz ev yr))
theorem PD_fr {σ ρ σ' ρ' : Mem} {N : Nat} {sz : Nat → Nat} {ev yr : Nat → Nat → Nat} (h : PD σ ρ N sz ev yr) (x : ∀ a b, 31 ≤ a → a < 45 → ¬ (a = 31 ∧ b = 2) → σ' a b = σ a b) (q : ∀ a b, a = 8 ∨ a = 9 → ρ' a b = ρ a b) : PD σ' ρ' N sz ev yr := by
  obtain ⟨hv, h1, h2, h3⟩ := h
  have hn := hv.1
  refine ⟨hv, by rw [x _ _ (by omega) (by omega) (by omega)]; exact h1, fun h hh => ?_, fun h hh => ?_⟩
  · rw [x _ _ (by omega) (by omega) (by omega), x _ _ (by omega) (by omega) (by omega)]; exact h2 h hh
  · obtain ⟨a, b⟩ := h3 h hh
    refine ⟨by rw [x _ _ (by omega) (by omega) (by omega)]; exact a, fun k hk => ?_⟩
    rw [x _ _ (by omega) (by omega) (by omega), x _ _ (by omega) (by omega) (by omega), q _ _ (by omega), q _ _ (by omega)]
    exact b k hk
theorem SL_fr {σ ρ σ' ρ' : Mem} (h : SL σ ρ) (x1 : σ' 1 9 = σ 1 9) (x2 : σ' 31 2 = σ 31 2) (q : ρ' 0 14 = ρ 0 14) : SL σ' ρ' := by
  rcases h with ⟨a, b, c⟩ | ⟨sl, s, a, b, c⟩
  · exact Or.inl ⟨x1.trans a, q.trans b, x2.trans c⟩
  · exact Or.inr ⟨sl, s, x1.trans a, q.trans b, x2.trans c⟩
theorem CM_fr {σ ρ σ' ρ' : Mem} {it C : Nat} {sz : Nat → Nat} (h : CM σ ρ it C sz) (x0 : σ' 1 7 = σ 1 7) (x1 : σ' 1 9 = σ 1 9) (x2 : σ' 31 2 = σ 31 2) (q1 : ∀ b, 13 ≤ b → b ≤ 15 → ρ' 0 b = ρ 0 b) (q2 : ∀ b, ρ' 7 b = ρ 7 b) : CM σ' ρ' it C sz :=
  ⟨x0.trans h.1, (q1 13 (by omega) (by omega)).trans h.2.1, SL_fr h.2.2.1 x1 x2 (q1 14 (by omega) (by omega)), (q1 15 (by omega) (by omega)).trans h.2.2.2.1, fun a ha => (q2 a).trans (h.2.2.2.2 a ha)⟩
theorem FX_m {σa σ : Mem} {a b : Nat} {v : Int32} (h : FX σa σ) (q : (a = 1 ∧ 2 ≤ b ∧ b ≤ 9) ∨ (31 ≤ a ∧ a < 45)) : FX σa (mup σ a b v) := fun a' b' h1 h2 => by
  rw [mup_n (by omega)]
  exact h a' b' h1 h2
theorem FR_m {ρa ρ : Mem} {a b : Nat} {v : Int32} (h : FRr ρa ρ) (q : (a = 0 ∧ 10 ≤ b ∧ b ≤ 15) ∨ (7 ≤ a ∧ a ≤ 9)) : FRr ρa (mup ρ a b v) := fun a' b' h1 h2 => by
  rw [mup_n (by omega)]
  exact h a' b' h1 h2
theorem TT_mX {σ ρ : Mem} {t : Nat} {tx : Nat → Nat} {a b : Nat} {v : Int32} (h : TT σ ρ t tx) (q : (a = 1 ∧ b ≠ 0) ∨ 2 < a) : TT (mup σ a b v) ρ t tx :=
  ⟨h.1, by rw [mup_n (by omega)]; exact h.2.1, h.2.2.1, fun j hj => ⟨(h.2.2.2 j hj).1, by rw [mup_n (by omega)]; exact (h.2.2.2 j hj).2.1, (h.2.2.2 j hj).2.2⟩⟩
theorem TT_mR {σ ρ : Mem} {t : Nat} {tx : Nat → Nat} {a b : Nat} {v : Int32} (h : TT σ ρ t tx) (q : (a = 0 ∧ b ≠ 6) ∨ 4 < a) : TT σ (mup ρ a b v) t tx :=
  ⟨h.1, h.2.1, by rw [mup_n (by omega)]; exact h.2.2.1, fun j hj => ⟨(h.2.2.2 j hj).1, (h.2.2.2 j hj).2.1, by rw [mup_n (by omega)]; exact (h.2.2.2 j hj).2.2⟩⟩
theorem OUT_fail {σa ρa σ ρ : Mem} {b : Nat} {r : Int32} (h1 : FX σa σ) (h2 : FRr ρa ρ) (hb : b ≤ 110) (e : r = -10 - nI b) (e2 : ρ 0 11 = nI b) : OUT σa ρa (some (r, σ)) (some (0, ρ)) :=
  ⟨r, σ, 0, ρ, rfl, rfl, h1, h2, Or.inl ⟨rfl, b, hb, e, e2⟩⟩
section RD
variable {σa ρa : Mem} {t : Nat} {tx : Nat → Nat}
theorem CO_adv {σ ρ : Mem} {x : Nat} (h1 : TT σ ρ t tx) (h2 : FX σa σ) (h3 : FRr ρa ρ) (e1 : σ 1 2 = nI x) (e2 : ρ 0 10 = nI x) (hx : x ≤ t) : ∃ σ' ρ' tok b x', fX5_advance σ = some σ' ∧ fX7_take ρ = some ρ' ∧ CO σa ρa t tx σ' ρ' tok b x' ∧ (tok ≠ 3000 → x < x') ∧ x ≤ x' ∧ (∀ p q, ¬ (p = 1 ∧ 2 ≤ q ∧ q ≤ 5) → σ' p q = σ p q) ∧ (∀ p q, ¬ (p = 0 ∧ 10 ≤ q ∧ q ≤ 12) → ρ' p q = ρ p q) := by
  obtain ⟨σ', ρ', tok, b, x', a1, a2, a3, a4, a5, a6, a7, a8, a9⟩ := adv_both h1 hx e1 e2
  refine ⟨σ', ρ', tok, b, x', a1, a2, ⟨⟨h1.1, (a8 1 0 (by omega)).trans h1.2.1, (a9 0 6 (by omega)).trans h1.2.2.1, fun j hj => ⟨(h1.2.2.2 j hj).1, (a8 2 j (by omega)).trans (h1.2.2.2 j hj).2.1, (a9 4 j (by omega)).trans (h1.2.2.2 j hj).2.2⟩⟩, fun p q z1 z2 => ?_, fun p q z1 z2 => ?_, a3, a6, a5⟩, a7, a4, a8, a9⟩
  · rw [a8 p q (by omega)]; exact h2 p q z1 z2
  · rw [a9 p q (by omega)]; exact h3 p q z1 z2
theorem kdt_0 {tok : Nat} : kdt tok = 0 ↔ tok = 3000 := by
  unfold kdt
  repeat' split
  all_goals omega
theorem kdt_1 {tok : Nat} : kdt tok = 1 ↔ tok = 115 := by
  unfold kdt
  repeat' split
  all_goals omega
theorem kdt_2 {tok : Nat} : kdt tok = 2 ↔ tok = 113 := by
  unfold kdt
  repeat' split
  all_goals omega
theorem kdt_3 {tok : Nat} : kdt tok = 3 ↔ (97 ≤ tok ∧ tok ≤ 104) := by
  unfold kdt
  repeat' split
  all_goals omega
theorem kdt_4 {tok : Nat} : kdt tok = 4 ↔ (1000 ≤ tok ∧ tok ≤ 1099) := by
  unfold kdt
  repeat' split
  all_goals omega
theorem kdt_5 {tok : Nat} : kdt tok = 5 ↔ tok = 59 := by
  unfold kdt
  repeat' split
  all_goals omega
theorem kdt_le (tok : Nat) : kdt tok ≤ 6 := by
  unfold kdt
  repeat' split
  all_goals omega
theorem kdI {tok c : Nat} (hc : c < 100) : nI (kdt tok) = nI c ↔ kdt tok = c := nI_eq (by have := kdt_le tok; omega) (by omega)
theorem tk_end {tok : Nat} (h : tok ≤ 3000) : tkI tok = -1 ↔ tok = 3000 := by
  unfold tkI
  by_cases q : tok = 3000
  · rw [if_pos q]; exact ⟨fun _ => q, fun _ => rfl⟩
  · rw [if_neg q]
    refine ⟨fun z => ?_, fun z => absurd z q⟩
    have := congrArg Int32.toInt z
    rw [nI_toInt (by omega), show (-1 : Int32).toInt = -1 from rfl] at this
    omega
theorem tk_is {tok c : Nat} (h : tok ≤ 3000) (hc : c < 3000) : tkI tok = nI c ↔ tok = c := by
  unfold tkI
  by_cases q : tok = 3000
  · rw [if_pos q]
    refine ⟨fun z => ?_, fun z => by omega⟩
    have := congrArg Int32.toInt z
    rw [nI_toInt (by omega), show (-1 : Int32).toInt = -1 from rfl] at this
    omega
  · rw [if_neg q]
    exact nI_eq (by omega) (by omega)
theorem tk_in {tok l m : Nat} (h : tok ≤ 3000) (hm : m < 3000) (hl : l < 3000) : (nI l ≤ tkI tok ∧ tkI tok ≤ nI m) ↔ (l ≤ tok ∧ tok ≤ m) := by
  unfold tkI
  by_cases q : tok = 3000
  · rw [if_pos q]
    refine ⟨fun z => ?_, fun z => by omega⟩
    have := z.1
    rw [fa_le, nI_toInt (by omega), show (-1 : Int32).toInt = -1 from rfl] at this
    omega
  · rw [if_neg q, fa_le, fa_le, nI_toInt (by omega), nI_toInt (by omega), nI_toInt (by omega)]
    omega
theorem isNum_ok {ρ : Mem} {tok l m : Nat} (h : ρ 0 12 = tkI tok) (ht : tok ≤ 3000) (hl : l ≤ 99) (hm : m ≤ 99) : fX7_isNumber (nI l) (nI m) ρ = some (if 1000 + l ≤ tok ∧ tok ≤ 1000 + m then 1 else 0) := by
  unfold fX7_isNumber
  rw [h, show (1000 : Int32) = nI 1000 from rfl, nI_add, nI_add, in32r]
  simp only [tk_in ht (show 1000 + m < 3000 by omega) (show 1000 + l < 3000 by omega), g01]
theorem isEv_ok {ρ : Mem} {tok : Nat} (h : ρ 0 12 = tkI tok) (ht : tok ≤ 3000) : fX7_isEvent ρ = some (if 97 ≤ tok ∧ tok ≤ 104 then 1 else 0) := by
  unfold fX7_isEvent
  rw [h, show (97 : Int64) = (nI 97).toInt64 from rfl, show (104 : Int64) = (nI 104).toInt64 from rfl, in32r]
  simp only [tk_in ht (show 104 < 3000 by omega) (show 97 < 3000 by omega), g01]
theorem tok_le {σ ρ : Mem} {tok b x : Nat} (h : TK σ ρ tok b x) : tok ≤ 3000 := by
  have := h.2.2.2.2.2.2.2.2
  omega
theorem read_end {σ : Mem} {fu i : Nat} (h : σ 1 3 = 0) : fX5_read_30 31 (fu + 1) (nI i) σ = fX5_read_69 31 σ := by
  rw [fX5_read_30, h]
  by_cases q : (110 : Int32) ≤ nI i
  · rw [if_pos q]
  · rw [if_neg q, if_pos rfl]
theorem read_fail {σ σ' : Mem} {fu i : Nat} (h : ¬ σ 1 3 = 0) (hi : i < 110) (e : fX5_take 31 σ = some (0, σ')) : fX5_read_30 31 (fu + 1) (nI i) σ = some (-10 - σ' 1 4, σ') := by
  rw [fX5_read_30, if_neg (show ¬ (110 : Int32) ≤ nI i from nI_ge (b := 110) hi (by omega)), if_neg h, e, bm_s, if_pos rfl]
theorem read_go {σ σ' σ'' : Mem} {fu i : Nat} (h : ¬ σ 1 3 = 0) (hi : i < 110) (e : fX5_take 31 σ = some (1, σ')) (e2 : fX5_advance σ' = some σ'') : fX5_read_30 31 (fu + 1) (nI i) σ = fX5_read_30 31 fu (nI (i + 1)) σ'' := by
  rw [fX5_read_30, if_neg (show ¬ (110 : Int32) ≤ nI i from nI_ge (b := 110) hi (by omega)), if_neg h, e, bm_s]
  simp only [one0, if_false]
  rw [e2, bv_s, nI_1]
theorem take_0 {σ : Mem} {tok N : Nat} (h : σ 1 6 = 0) (hk : σ 1 3 = nI (kdt tok)) (hN : σ 31 1 = nI N) (hN4 : N ≤ 4) : fX5_take 31 σ = if tok = 115 then some (if σ 1 9 = 0 then 1 else 0, mup (mup σ 1 9 1) 1 6 1) else if tok = 113 ∧ N < 4 then some (1, mup (mup σ 31 1 (nI (N + 1))) 1 6 2) else some (0, σ) := by
  unfold fX5_take fX5_takeSlackSign fX5_takeSlackSign_12 fX5_takeHouseSign
  rw [if_pos h, hk, hN]
  by_cases q : tok = 115
  · rw [if_pos (show nI (kdt tok) = 1 from (kdI (c := 1) (by omega)).mpr (kdt_1.mpr q)), if_pos q]
    by_cases w : σ 1 9 = 0
    · rw [if_pos w, if_pos w, grd_t (Or.inr rfl), bm_s, grd_t (Or.inr rfl)]
    · rw [if_neg w, if_neg w, grd_t (Or.inl rfl), bm_s, grd_t (Or.inl rfl)]
  · rw [if_neg (show ¬ nI (kdt tok) = 1 from fun z => q (kdt_1.mp ((kdI (c := 1) (by omega)).mp z))), if_neg q]
    by_cases w : tok = 113
    · rw [if_pos (show nI (kdt tok) = 2 from (kdI (c := 2) (by omega)).mpr (kdt_2.mpr w))]
      by_cases z : N < 4
      · rw [if_pos (show nI N < 4 from nI_lt (b := 4) z (by omega)), bm_s, grd_t (Or.inr rfl), if_pos ⟨w, z⟩, nI_1]
      · rw [if_neg (show ¬ nI N < 4 from fun y => z ((nI_ltI (b := 4) (by omega) (by omega)).mp y)), bm_s, grd_t (Or.inl rfl), if_neg (fun y => z y.2)]
    · rw [if_neg (show ¬ nI (kdt tok) = 2 from fun z => w (kdt_2.mp ((kdI (c := 2) (by omega)).mp z))), bm_s, grd_t (Or.inl rfl), if_neg (fun y => w y.1)]
theorem take_1 {σ : Mem} {tok : Nat} (h : σ 1 6 = 1) (hk : σ 1 3 = nI (kdt tok)) (hval : 1000 ≤ tok → tok ≤ 1099 → σ 1 5 = nI (tok - 1000)) : fX5_take 31 σ = some (if 1000 ≤ tok ∧ tok ≤ 1009 then 1 else 0, mup (mup σ 31 2 (σ 1 5)) 1 6 4) := by
  unfold fX5_take fX5_takeSlack
  rw [h, if_neg (show ¬ (1 : Int32) = 0 by decide), if_pos rfl, mup_n (a := 1) (b := 3) (by omega), mup_n (a := 1) (b := 3) (by omega), hk, mup_n (a := 1) (b := 5) (by omega), mup_n (a := 1) (b := 5) (by omega)]
  by_cases q : 1000 ≤ tok ∧ tok ≤ 1099
  · rw [if_pos (show nI (kdt tok) = 4 from (kdI (c := 4) (by omega)).mpr (kdt_4.mpr q)), hval q.1 q.2]
    by_cases w : tok ≤ 1009
    · rw [if_neg (show ¬ (9 : Int32) < nI (tok - 1000) from fun y => by have := (nI_ltI (a := 9) (by omega) (by omega)).mp y; omega), bm_s, grd_t (Or.inr rfl), if_pos ⟨q.1, w⟩]
    · rw [if_pos (show (9 : Int32) < nI (tok - 1000) from nI_lt (a := 9) (by omega) (by omega)), bm_s, grd_t (Or.inl rfl), if_neg (fun y => w y.2)]
  · rw [if_neg (show ¬ nI (kdt tok) = 4 from fun z => q (kdt_4.mp ((kdI (c := 4) (by omega)).mp z))), bm_s, grd_t (Or.inl rfl), if_neg (by omega)]
theorem stop_x {σ : Mem} {tok it : Nat} (hk : σ 1 3 = nI (kdt tok)) (h7 : σ 1 7 = nI it) : fX5_takeStop σ = some (if tok = 59 then 1 else 0, mup (mup σ 1 7 (nI (it + 1))) 1 6 0) := by
  unfold fX5_takeStop
  rw [h7, nI_1, mup_n (a := 1) (b := 3) (by omega), mup_n (a := 1) (b := 3) (by omega), hk]
  by_cases q : tok = 59
  · rw [if_pos (show nI (kdt tok) = 5 from (kdI (c := 5) (by omega)).mpr (kdt_5.mpr q)), if_pos q]
  · rw [if_neg (show ¬ nI (kdt tok) = 5 from fun z => q (kdt_5.mp ((kdI (c := 5) (by omega)).mp z))), if_neg q]
theorem take_4 {σ : Mem} {tok it : Nat} (h : σ 1 6 = 4) (hk : σ 1 3 = nI (kdt tok)) (h7 : σ 1 7 = nI it) : fX5_take 31 σ = some (if tok = 59 then 1 else 0, mup (mup σ 1 7 (nI (it + 1))) 1 6 0) := by
  unfold fX5_take
  rw [h, if_neg (show ¬ (4 : Int32) = 0 by decide), if_neg (show ¬ (4 : Int32) = 1 by decide), if_neg (show ¬ (4 : Int32) = 2 by decide), if_neg (show ¬ (4 : Int32) = 3 by decide), stop_x hk h7, bm_s, g01]
theorem latest_ok {σ : Mem} {N : Nat} (h : σ 31 1 = nI (N + 1)) (hN : N < 4) : fX0_latest 31 σ = some (31 + 2 + 3 * N) := by
  unfold fX0_latest
  rw [h, if_neg (show ¬ nI (N + 1) ≤ 0 from nI_ge (a := 0) (by omega) (by omega)), nI_pred, grd_in (by omega) (by omega), nI_clamp (by omega)]
theorem PD_XH {σ ρ : Mem} {N h : Nat} {sz : Nat → Nat} {ev yr : Nat → Nat → Nat} (hd : PD σ ρ N sz ev yr) (hh : h < N) : XH σ (31 + 2 + 3 * h) (sz h) (ev h) (yr h) 0 := by
  obtain ⟨hv, h1, h2, h3⟩ := hd
  have hn := hv.1
  exact ⟨(h3 h hh).1, (h2 h (by omega)).1, fun k hk => ((h3 h hh).2 k hk).1, fun k hk => ((h3 h hh).2 k hk).2.1⟩
theorem pl1_ex {sz : Nat} {ev : Nat → Nat} {e : Nat} (hs : sz ≤ 6) : pl1 (a1 sz 0) ev e < 6 ↔ ∃ k, k < sz ∧ ev k = e := by
  unfold pl1
  rw [first_lt]
  constructor
  · rintro ⟨k, hk, h⟩
    simp [a1] at h
    exact ⟨k, h.1, h.2⟩
  · rintro ⟨k, hk, h⟩
    exact ⟨k, by omega, by simp [a1, hk, h]⟩
theorem take_2 {σ ρ : Mem} {tok it N : Nat} {sz : Nat → Nat} {ev yr : Nat → Nat → Nat} (h : σ 1 6 = 2) (hk : σ 1 3 = nI (kdt tok)) (h7 : σ 1 7 = nI it) (hval : 97 ≤ tok → tok ≤ 104 → σ 1 5 = nI (tok - 97)) (hd : PD σ ρ (N + 1) sz ev yr) : fX5_take 31 σ = if tok = 59 then some (1, mup (mup σ 1 7 (nI (it + 1))) 1 6 0) else some (if (97 ≤ tok ∧ tok ≤ 104) ∧ sz N < 6 ∧ ¬ ∃ k, k < sz N ∧ ev N k = tok - 97 then 1 else 0, mup (mup σ 1 8 (σ 1 5)) 1 6 3) := by
  have hv := hd.1
  have hn := hv.1
  have h6 := (hv.2.1 N (by omega)).1
  have H := KV_H hv (show N < N + 1 by omega)
  have X := PD_XH hd (show N < N + 1 by omega)
  unfold fX5_take fX5_takeEvent
  rw [h, if_neg (show ¬ (2 : Int32) = 0 by decide), if_neg (show ¬ (2 : Int32) = 1 by decide), if_pos rfl, hk]
  by_cases q : tok = 59
  · rw [if_pos (show nI (kdt tok) = 5 from (kdI (c := 5) (by omega)).mpr (kdt_5.mpr q)), if_pos q, stop_x hk h7, bm_s, g01, if_pos q]
  · rw [if_neg (show ¬ nI (kdt tok) = 5 from fun z => q (kdt_5.mp ((kdI (c := 5) (by omega)).mp z))), if_neg q, latest_ok hd.2.1 (by omega), bk_s, mup_n (a := 1) (b := 3) (by omega), mup_n (a := 1) (b := 3) (by omega), hk]
    by_cases w : 97 ≤ tok ∧ tok ≤ 104
    · have X1 : XH (mup (mup σ 1 8 (σ 1 5)) 1 6 3) (31 + 2 + 3 * N) (sz N) (ev N) (yr N) 0 := by
        obtain ⟨x1, x2, x3, x4⟩ := X
        exact ⟨by rw [mup_n (by omega), mup_n (by omega)]; exact x1, by rw [mup_n (by omega), mup_n (by omega)]; exact x2, fun k hk => by rw [mup_n (by omega), mup_n (by omega)]; exact x3 k hk, fun k hk => by rw [mup_n (by omega), mup_n (by omega)]; exact x4 k hk⟩
      have pO : ∀ v, v = nI (tok - 97) → fX2_placeOf (31 + 2 + 3 * N) v (mup (mup σ 1 8 (σ 1 5)) 1 6 3) = some (if pl1 (a1 (sz N) 0) (ev N) (tok - 97) < 6 then nI (pl1 (a1 (sz N) 0) (ev N) (tok - 97)) else -1) := fun v hv => by
        rw [hv]
        exact placeOf_ok H X1 (by omega)
      rw [if_pos (show nI (kdt tok) = 3 from (kdI (c := 3) (by omega)).mpr (kdt_3.mpr w)), X1.1, mup_n (a := 1) (b := 5) (by omega), mup_n (a := 1) (b := 5) (by omega), pO _ (hval w.1 w.2), bi_s]
      by_cases z : sz N < 6
      · rw [if_neg (nle6 z)]
        by_cases y : ∃ k, k < sz N ∧ ev N k = tok - 97
        · rw [if_pos ((pl1_ex h6).mpr y), if_pos (nI_pos' (by have := (pl1_ex h6).mpr y; omega)), bm_s, grd_t (Or.inl rfl), if_neg (fun u => u.2.2 y)]
        · rw [if_neg (fun u => y ((pl1_ex h6).mp u)), if_neg (by decide), bm_s, grd_t (Or.inr rfl), if_pos ⟨w, z, y⟩]
      · rw [if_pos (show (6 : Int32) ≤ nI (sz N) from nI_le (a := 6) (by omega) (by omega)), bm_s, grd_t (Or.inl rfl), if_neg (fun u => z u.2.1)]
    · rw [if_neg (show ¬ nI (kdt tok) = 3 from fun z => w (kdt_3.mp ((kdI (c := 3) (by omega)).mp z))), bm_s, grd_t (Or.inl rfl), if_neg (fun u => w u.1)]
theorem take_3 {σ ρ : Mem} {tok N e : Nat} {sz : Nat → Nat} {ev yr : Nat → Nat → Nat} (h : σ 1 6 = 3) (hk : σ 1 3 = nI (kdt tok)) (h8 : σ 1 8 = nI e) (hval : 1000 ≤ tok → tok ≤ 1099 → σ 1 5 = nI (tok - 1000)) (hd : PD σ ρ (N + 1) sz ev yr) (hz : sz N < 6) : fX5_take 31 σ = if (1000 ≤ tok ∧ tok ≤ 1099) ∧ (sz N = 0 ∨ yr N (sz N - 1) ≤ tok - 1000) then some (1, mup (mup (mup (mup σ 1 6 2) (31 + 2 + 3 * N + 1) (sz N) (nI e)) (31 + 2 + 3 * N + 2) (sz N) (nI (tok - 1000))) (31 + 2 + 3 * N) 2 (nI (sz N + 1))) else some (0, mup σ 1 6 2) := by
  have hv := hd.1
  have hn := hv.1
  have X := PD_XH hd (show N < N + 1 by omega)
  have X1 : XH (mup σ 1 6 2) (31 + 2 + 3 * N) (sz N) (ev N) (yr N) 0 := by
    obtain ⟨x1, x2, x3, x4⟩ := X
    exact ⟨by rw [mup_n (by omega)]; exact x1, by rw [mup_n (by omega)]; exact x2, fun k hk => by rw [mup_n (by omega)]; exact x3 k hk, fun k hk => by rw [mup_n (by omega)]; exact x4 k hk⟩
  unfold fX5_take fX5_takeYear
  rw [h, if_neg (show ¬ (3 : Int32) = 0 by decide), if_neg (show ¬ (3 : Int32) = 1 by decide), if_neg (show ¬ (3 : Int32) = 2 by decide), if_pos rfl, latest_ok hd.2.1 (by omega), bk_s, mup_n (a := 1) (b := 3) (by omega), hk]
  by_cases q : 1000 ≤ tok ∧ tok ≤ 1099
  · rw [if_pos (show nI (kdt tok) = 4 from (kdI (c := 4) (by omega)).mpr (kdt_4.mpr q)), X1.1, mup_n (a := 1) (b := 5) (by omega), hval q.1 q.2, mayTell_ok X1 (by omega) (fun k hk => (hv.2.2.1 N k (by omega) hk).2) (Nat.le_refl _) (by omega), bi_s]
    by_cases w : sz N = 0 ∨ yr N (sz N - 1) ≤ tok - 1000
    · have w2 : (sz N = 0 ∨ yr N (sz N - 1) ≤ tok - 1000) ∧ (sz N ≤ sz N + 1 ∨ tok - 1000 ≤ yr N (sz N + 1)) := ⟨w, Or.inl (by omega)⟩
      rw [if_pos w2, if_pos (show (1000 ≤ tok ∧ tok ≤ 1099) ∧ (sz N = 0 ∨ yr N (sz N - 1) ≤ tok - 1000) from ⟨q, w⟩)]
      simp only [one0, if_false]
      unfold fX2_add
      rw [X1.1, if_pos (show nI (sz N) < 6 from nI_lt (b := 6) hz (by omega)), mup_n (a := 31 + 2 + 3 * N) (b := 2) (by omega), X1.1, grd_in (by omega) (by omega), grd_in (by omega) (by omega), nI_clamp (by omega), mup_n (a := 31 + 2 + 3 * N) (b := 2) (by omega), mup_n (a := 31 + 2 + 3 * N) (b := 2) (by omega), X1.1, bm_s]
      simp only [one0, if_false]
      rw [bm_s, grd_t (Or.inr rfl), mup_n (a := 1) (b := 8) (by omega), h8, nI_1]
    · have w2 : ¬ ((sz N = 0 ∨ yr N (sz N - 1) ≤ tok - 1000) ∧ (sz N ≤ sz N + 1 ∨ tok - 1000 ≤ yr N (sz N + 1))) := fun u => w u.1
      rw [if_neg w2, if_neg (show ¬ ((1000 ≤ tok ∧ tok ≤ 1099) ∧ (sz N = 0 ∨ yr N (sz N - 1) ≤ tok - 1000)) from fun u => w u.2)]
      simp only [if_true]
      rw [bm_s, grd_t (Or.inl rfl)]
  · rw [if_neg (show ¬ nI (kdt tok) = 4 from fun z => q (kdt_4.mp ((kdI (c := 4) (by omega)).mp z))), bm_s, grd_t (Or.inl rfl), if_neg (fun u => q u.1)]
end RD
