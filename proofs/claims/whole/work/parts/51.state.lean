/-! what both sides hold, side by side -/
abbrev Dy := (Nat → Nat → Nat) × (Nat → Nat) × Nat
def KVd (n : Nat) (sz : Nat → Nat) (ev : Nat → Nat → Nat) (d : Dy) : Prop := KV n sz ev d.1 d.2.1 d.2.2
def XCd (σ : Mem) (c n : Nat) (sz : Nat → Nat) (ev : Nat → Nat → Nat) (d : Dy) : Prop := XChr σ c n sz ev d.1 d.2.1 d.2.2
def BK (ρ : Mem) (o n : Nat) (sz : Nat → Nat) (d : Dy) : Prop := ρ 1 o = nI d.2.2 ∧ ∀ h k, h < n → k < sz h → ρ 1 (o + (1 + 6 * h + k)) = nI (d.1 h k) ∧ ρ 1 (o + (25 + 6 * h + k)) = if (d.2.1 h).testBit k then 1 else 0
def SR (ρ : Mem) (n : Nat) (sz : Nat → Nat) (ev : Nat → Nat → Nat) : Prop := ρ 0 7 = nI n ∧ (∀ h, h < n → ρ 5 h = nI (sz h)) ∧ (∀ h k, h < n → k < sz h → ρ 6 (6 * h + k) = nI (ev h k)) ∧ ρ 0 19 = -9 ∧ ρ 0 20 = 0
def Nw (σ ρ : Mem) (n : Nat) (sz : Nat → Nat) (ev : Nat → Nat → Nat) (d : Dy) : Prop := KVd n sz ev d ∧ XCd σ 17 n sz ev d ∧ SR ρ n sz ev ∧ BK ρ 0 n sz d
def undoD (kd p k old : Nat) (d : Dy) : Dy := if kd = 0 then (d.1, fun h => if h = p then d.2.1 h ^^^ 2 ^ k else d.2.1 h, d.2.2) else if kd = 1 then (fun h i => if h = p ∧ i = k then old else d.1 h i, d.2.1, d.2.2) else (d.1, d.2.1, old)
def Deed (σ : Mem) (n : Nat) (sz : Nat → Nat) (j : Nat) (d0 d1 : Dy) : Prop := ∃ kd p k old : Nat, σ 5 j = nI kd ∧ σ 6 j = nI p ∧ σ 7 j = nI k ∧ σ 8 j = nI old ∧ kd ≤ 2 ∧ (kd ≠ 2 → p < n ∧ k < sz p) ∧ d0 = undoD kd p k old d1
def Hs (σ ρ : Mem) (n : Nat) (sz : Nat → Nat) (ev : Nat → Nat → Nat) (D : Nat → Dy) (u : Nat) : Prop := u ≤ 10 ∧ σ 4 0 = nI u ∧ ρ 0 2 = nI u ∧ ∀ j, j < u → Deed σ n sz j (D j) (D (j + 1)) ∧ KVd n sz ev (D j) ∧ BK ρ (147 + 49 * j) n sz (D j)
def Im (σ ρ : Mem) (n : Nat) (sz : Nat → Nat) (ev : Nat → Nat → Nat) (kb : Nat) : Prop := kb < 4 ∧ σ 0 4 = nI kb ∧ ∀ i, i < 2 → (kb.testBit i = false ∧ ρ 2 i = 0) ∨ (kb.testBit i = true ∧ ρ 2 i = 1 ∧ ∃ d : Dy, KVd n sz ev d ∧ XCd σ (45 + 14 * i) n sz ev d ∧ BK ρ (49 + 49 * i) n sz d)
def Tx (σ ρ : Mem) (t : Nat) : Prop := t ≤ 110 ∧ σ 1 0 = nI t ∧ ρ 0 6 = nI t ∧ ∀ j, j < t → ∃ c, c ≤ 255 ∧ σ 2 j = nI c ∧ ρ 4 j = nI c
def Sn (σ ρ : Mem) (s : Nat) : Prop := s ≤ 6 ∧ σ 0 10 = nI s ∧ ρ 0 4 = nI s ∧ ∀ j, j < s → ρ 3 j = σ 16 j
def II (σ ρ : Mem) : Prop := ∃ n sz ev D u kb t s, Nw σ ρ n sz ev (D u) ∧ Hs σ ρ n sz ev D u ∧ Im σ ρ n sz ev kb ∧ Tx σ ρ t ∧ Sn σ ρ s
section FR
variable {σ ρ σ' ρ' : Mem} {n : Nat} {sz : Nat → Nat} {ev : Nat → Nat → Nat} {d : Dy} {D : Nat → Dy} {u kb t s : Nat}
theorem Nw_Bo (h : Nw σ ρ n sz ev d) : Bo σ ρ n sz ev d.1 d.2.1 d.2.2 := by
  obtain ⟨h1, h2, ⟨a1, a2, a3, a4, a5⟩, b1, b2⟩ := h
  refine ⟨h1, h2, ⟨a1, a2, fun h k hh hk => ⟨a3 h k hh hk, ?_, ?_⟩, a4, a5⟩, b1⟩
  · have := (b2 h k hh hk).1
    rwa [Nat.zero_add] at this
  · have := (b2 h k hh hk).2
    rwa [Nat.zero_add] at this
def rel (a b : Nat) : Prop := (a = 0 ∧ (b = 1 ∨ b = 2)) ∨ (2 ≤ a ∧ a < 14 ∧ ((a % 3 = 2 ∧ (b = 2 ∨ b = 3)) ∨ (a % 3 ≠ 2 ∧ b < 6)))
theorem XCd_mv {c c' : Nat} (hv : KVd n sz ev d) (h : XCd σ c n sz ev d) (q : ∀ a b, rel a b → σ' (c' + a) b = σ (c + a) b) : XCd σ' c' n sz ev d := by
  obtain ⟨h1, h2, h3⟩ := h
  have hn := hv.1
  refine ⟨(q 0 1 (Or.inl ⟨rfl, Or.inl rfl⟩)).trans h1, (q 0 2 (Or.inl ⟨rfl, Or.inr rfl⟩)).trans h2, fun h hh => ?_⟩
  have h6 := (hv.2.1 h hh).1
  obtain ⟨a, b, c1, d1⟩ := h3 h hh
  refine ⟨?_, ?_, fun k hk => ?_, fun k hk => ?_⟩
  · rw [← a, Nat.add_assoc, Nat.add_assoc]; exact q (2 + 3 * h) 2 (Or.inr (by omega))
  · rw [← b, Nat.add_assoc, Nat.add_assoc]; exact q (2 + 3 * h) 3 (Or.inr (by omega))
  · rw [← c1 k hk, show c' + 2 + 3 * h + 1 = c' + (2 + 3 * h + 1) by omega, show c + 2 + 3 * h + 1 = c + (2 + 3 * h + 1) by omega]; exact q _ k (Or.inr (by omega))
  · rw [← d1 k hk, show c' + 2 + 3 * h + 2 = c' + (2 + 3 * h + 2) by omega, show c + 2 + 3 * h + 2 = c + (2 + 3 * h + 2) by omega]; exact q _ k (Or.inr (by omega))
theorem XCd_fr {c : Nat} (hv : KVd n sz ev d) (h : XCd σ c n sz ev d) (q : ∀ a b, c ≤ a → a < c + 14 → σ' a b = σ a b) : XCd σ' c n sz ev d :=
  XCd_mv hv h (fun a b r => q _ _ (by omega) (by unfold rel at r; omega))
theorem BK_mv {o o' : Nat} (hv : KVd n sz ev d) (h : BK ρ o n sz d) (q : ∀ b, b < 49 → ρ' 1 (o' + b) = ρ 1 (o + b)) : BK ρ' o' n sz d := by
  obtain ⟨h1, h2⟩ := h
  have hn := hv.1
  refine ⟨(q 0 (by omega)).trans h1, fun h k hh hk => ?_⟩
  have h6 := (hv.2.1 h hh).1
  exact ⟨(q _ (by omega)).trans (h2 h k hh hk).1, (q _ (by omega)).trans (h2 h k hh hk).2⟩
theorem BK_fr {o : Nat} (hv : KVd n sz ev d) (h : BK ρ o n sz d) (q : ∀ b, o ≤ b → b < o + 49 → ρ' 1 b = ρ 1 b) : BK ρ' o n sz d := BK_mv hv h (fun b hb => q _ (by omega) (by omega))
theorem SR_fr (h : SR ρ n sz ev) (q1 : ∀ b, b = 7 ∨ b = 19 ∨ b = 20 → ρ' 0 b = ρ 0 b) (q2 : ∀ b, ρ' 5 b = ρ 5 b) (q3 : ∀ b, ρ' 6 b = ρ 6 b) : SR ρ' n sz ev := by
  obtain ⟨a1, a2, a3, a4, a5⟩ := h
  exact ⟨(q1 7 (by omega)).trans a1, fun h hh => (q2 h).trans (a2 h hh), fun h k hh hk => (q3 _).trans (a3 h k hh hk), (q1 19 (by omega)).trans a4, (q1 20 (by omega)).trans a5⟩
theorem Nw_fr (h : Nw σ ρ n sz ev d) (x : ∀ a b, 17 ≤ a → a < 31 → σ' a b = σ a b) (q0 : ∀ b, b < 49 → ρ' 1 b = ρ 1 b) (q1 : ∀ b, b = 7 ∨ b = 19 ∨ b = 20 → ρ' 0 b = ρ 0 b) (q2 : ∀ b, ρ' 5 b = ρ 5 b) (q3 : ∀ b, ρ' 6 b = ρ 6 b) : Nw σ' ρ' n sz ev d :=
  ⟨h.1, XCd_fr h.1 h.2.1 (fun a b h1 h2 => x a b h1 (by omega)), SR_fr h.2.2.1 q1 q2 q3, BK_fr h.1 h.2.2.2 (fun b _ h2 => q0 b (by omega))⟩
theorem Deed_fr {j : Nat} {d0 d1 : Dy} (h : Deed σ n sz j d0 d1) (q : ∀ a, 5 ≤ a → a ≤ 8 → σ' a j = σ a j) : Deed σ' n sz j d0 d1 := by
  obtain ⟨kd, p, k, old, a, b, c, e, f⟩ := h
  exact ⟨kd, p, k, old, (q 5 (by omega) (by omega)).trans a, (q 6 (by omega) (by omega)).trans b, (q 7 (by omega) (by omega)).trans c, (q 8 (by omega) (by omega)).trans e, f⟩
theorem Hs_fr (h : Hs σ ρ n sz ev D u) (x : ∀ a b, 4 ≤ a → a ≤ 8 → σ' a b = σ a b) (q0 : ∀ b, 147 ≤ b → ρ' 1 b = ρ 1 b) (q1 : ρ' 0 2 = ρ 0 2) : Hs σ' ρ' n sz ev D u :=
  ⟨h.1, (x 4 0 (by omega) (by omega)).trans h.2.1, q1.trans h.2.2.1, fun j hj => ⟨Deed_fr (h.2.2.2 j hj).1 (fun a h1 h2 => x a j (by omega) h2), (h.2.2.2 j hj).2.1, BK_fr (h.2.2.2 j hj).2.1 (h.2.2.2 j hj).2.2 (fun b h1 _ => q0 b (by omega))⟩⟩
theorem Im_fr (h : Im σ ρ n sz ev kb) (x0 : σ' 0 4 = σ 0 4) (x : ∀ a b, 45 ≤ a → σ' a b = σ a b) (q0 : ∀ b, 49 ≤ b → b < 147 → ρ' 1 b = ρ 1 b) (q1 : ∀ b, ρ' 2 b = ρ 2 b) : Im σ' ρ' n sz ev kb := by
  refine ⟨h.1, x0.trans h.2.1, fun i hi => ?_⟩
  rcases h.2.2 i hi with ⟨a, b⟩ | ⟨a, b, d, h1, h2, h3⟩
  · exact Or.inl ⟨a, (q1 i).trans b⟩
  · exact Or.inr ⟨a, (q1 i).trans b, d, h1, XCd_fr h1 h2 (fun a b h1 h2 => x a b (by omega)), BK_fr h1 h3 (fun b h1 h2 => q0 b (by omega) (by omega))⟩
theorem Tx_fr (h : Tx σ ρ t) (x0 : σ' 1 0 = σ 1 0) (x : ∀ b, σ' 2 b = σ 2 b) (q0 : ρ' 0 6 = ρ 0 6) (q : ∀ b, ρ' 4 b = ρ 4 b) : Tx σ' ρ' t :=
  ⟨h.1, x0.trans h.2.1, q0.trans h.2.2.1, fun j hj => by
    obtain ⟨c, h1, h2, h3⟩ := h.2.2.2 j hj
    exact ⟨c, h1, (x j).trans h2, (q j).trans h3⟩⟩
theorem Sn_fr (h : Sn σ ρ s) (x0 : σ' 0 10 = σ 0 10) (x : ∀ b, σ' 16 b = σ 16 b) (q0 : ρ' 0 4 = ρ 0 4) (q : ∀ b, ρ' 3 b = ρ 3 b) : Sn σ' ρ' s :=
  ⟨h.1, x0.trans h.2.1, q0.trans h.2.2.1, fun j hj => ((q j).trans (h.2.2.2 j hj)).trans (x j).symm⟩
theorem Rsm_get {μ ν : Mem} (h : Rsm μ ν) {a b : Nat} (q : (a < 10 ∧ ¬ a = 0) ∨ (a = 0 ∧ b < 24)) : ν a b = μ a b := h a b (by omega) (by omega) (by omega) (by omega)
theorem II_sm (h : II σ ρ) (hx : Xsm σ σ') (hr : Rsm ρ ρ') : II σ' ρ' := by
  obtain ⟨n, sz, ev, D, u, kb, t, s, h1, h2, h3, h4, h5⟩ := h
  refine ⟨n, sz, ev, D, u, kb, t, s, Nw_fr h1 ?_ ?_ ?_ ?_ ?_, Hs_fr h2 ?_ ?_ ?_, Im_fr h3 ?_ ?_ ?_ ?_, Tx_fr h4 ?_ ?_ ?_ ?_, Sn_fr h5 ?_ ?_ ?_ ?_⟩
  all_goals intros
  all_goals first
    | exact Xsm_get hx (by omega)
    | exact Rsm_get hr (by omega)
end FR
theorem st_q {σ ρ : Mem} {x y : Option (Int32 × Mem)} (h : II σ ρ) (q : Qa σ ρ x y) : ∃ r σ' ρ', x = some (r, σ') ∧ y = some (r, ρ') ∧ II σ' ρ' := by
  obtain ⟨r, σ', ρ', e1, e2, h1, h2⟩ := q
  exact ⟨r, σ', ρ', e1, e2, II_sm h h1 h2⟩
theorem st_span : St_span II := fun σ ρ a b k w h => by
  obtain ⟨n, sz, ev, D, u, kb, t, s, h1, -⟩ := id h
  exact st_q h (q_span (Nw_Bo h1) a b k w)
theorem st_shift : St_shift II := fun σ ρ a w h => by
  obtain ⟨n, sz, ev, D, u, kb, t, s, h1, -⟩ := id h
  exact st_q h (q_shift (Nw_Bo h1) a w)
theorem st_measure : St_measure II := fun σ ρ a w h => by
  obtain ⟨n, sz, ev, D, u, kb, t, s, h1, -⟩ := id h
  exact st_q h (q_measure (Nw_Bo h1) a w)
theorem st_rank : St_rank II := fun σ ρ a w h => by
  obtain ⟨n, sz, ev, D, u, kb, t, s, h1, -⟩ := id h
  exact st_q h (q_rank (Nw_Bo h1) a w)
theorem st_event : St_event II := fun σ ρ a w h => by
  obtain ⟨n, sz, ev, D, u, kb, t, s, h1, -⟩ := id h
  exact st_q h (q_event (Nw_Bo h1) a w)
theorem st_date : St_date II := fun σ ρ a h => by
  obtain ⟨n, sz, ev, D, u, kb, t, s, h1, -⟩ := id h
  exact st_q h (q_date (Nw_Bo h1) a)
theorem st_late : St_late II := fun σ ρ a b h => by
  obtain ⟨n, sz, ev, D, u, kb, t, s, h1, -⟩ := id h
  exact st_q h (q_late (Nw_Bo h1) a b)
theorem st_line : St_line II := fun σ ρ a h => by
  obtain ⟨n, sz, ev, D, u, kb, t, s, h1, -⟩ := id h
  exact st_q h (q_line (Nw_Bo h1) a)
theorem st_without : St_without II := fun σ ρ h => by
  obtain ⟨n, sz, ev, D, u, kb, t, s, h1, -⟩ := id h
  exact st_q h (q_without (Nw_Bo h1))
theorem st_unseen : St_unseen II := fun σ ρ a h => by
  obtain ⟨n, sz, ev, D, u, kb, t, s, h1, h2, h3, h4, h5⟩ := id h
  exact st_q h (q_unseen (Nw_Bo h1) h5.1 h5.2.1 h5.2.2.1 h5.2.2.2 a)
theorem st_count : St_count II := fun σ ρ a h => by
  obtain ⟨n, sz, ev, D, u, kb, t, s, h1, h2, h3, h4, h5⟩ := id h
  exact st_q h (q_count (Nw_Bo h1) (h5.2.1.trans h5.2.2.1.symm) (h4.2.1.trans h4.2.2.1.symm) (h2.2.1.trans h2.2.2.1.symm) a)
theorem st_clear : St_clear II := fun σ ρ h => by
  obtain ⟨n, sz, ev, D, u, kb, t, s, h1, h2, h3, h4, h5⟩ := h
  refine ⟨nI t, mup σ 1 0 0, mup ρ 0 6 0, by unfold fX6_clear; rw [h4.2.1], by unfold fX7_clear; rw [h4.2.2.1], n, sz, ev, D, u, kb, 0, s, Nw_fr h1 ?_ ?_ ?_ ?_ ?_, Hs_fr h2 ?_ ?_ ?_, Im_fr h3 ?_ ?_ ?_ ?_, ⟨by omega, mup_s _ _ _ _, mup_s _ _ _ _, fun j hj => absurd hj (by omega)⟩, Sn_fr h5 ?_ ?_ ?_ ?_⟩
  all_goals intros
  all_goals exact mup_n (by omega)
theorem st_forget : St_forget II := fun σ ρ h => by
  obtain ⟨n, sz, ev, D, u, kb, t, s, h1, h2, h3, h4, h5⟩ := h
  refine ⟨nI s, mup σ 0 10 0, mup ρ 0 4 0, by unfold fX6_forget; rw [h5.2.1], by unfold fX7_forget; rw [h5.2.2.1], n, sz, ev, D, u, kb, t, 0, Nw_fr h1 ?_ ?_ ?_ ?_ ?_, Hs_fr h2 ?_ ?_ ?_, Im_fr h3 ?_ ?_ ?_ ?_, Tx_fr h4 ?_ ?_ ?_ ?_, ⟨by omega, mup_s _ _ _ _, mup_s _ _ _ _, fun j hj => absurd hj (by omega)⟩⟩
  all_goals intros
  all_goals exact mup_n (by omega)
theorem st_same {σ ρ : Mem} {r : Int32} (h : II σ ρ) : ∃ (r' : Int32) (σ' ρ' : Mem), some (r, σ) = some (r', σ') ∧ some (r, ρ) = some (r', ρ') ∧ II σ' ρ' := ⟨r, σ, ρ, rfl, rfl, h⟩
/-- a small argument: refused alike, or a number -/
theorem arg_cs (x : Int32) {m : Nat} (hm : m < 1000) : (¬ (0 ≤ x ∧ x ≤ nI m) ∧ (x < 0 ∨ (¬ x < 0 ∧ ¬ x ≤ nI m))) ∨ ∃ c, c ≤ m ∧ x = nI c ∧ ¬ x < 0 ∧ x ≤ nI m ∧ (0 ≤ x ∧ x ≤ nI m) := by
  rcases by_cs x hm with h | ⟨c, hc, rfl⟩
  · refine Or.inl ⟨h, ?_⟩
    by_cases q : x < 0
    · exact Or.inl q
    · exact Or.inr ⟨q, fun z => h ⟨Classical.byContradiction fun y => q ((lt0_iff x).mpr y), z⟩⟩
  · exact Or.inr ⟨c, hc, rfl, nI_pos (by omega), nI_le hc (by omega), nI_pos' (by omega), nI_le hc (by omega)⟩
theorem st_type : St_type II := fun σ ρ x h => by
  obtain ⟨n, sz, ev, D, u, kb, t, s, h1, h2, h3, h4, h5⟩ := id h
  unfold fX6_type fX7_type
  rw [show (0 : Int64) = (0 : Int32).toInt64 from rfl, show (255 : Int64) = (nI 255).toInt64 from rfl, in32r, show (255 : Int32) = nI 255 from rfl]
  rcases arg_cs x (m := 255) (by omega) with ⟨q, q2⟩ | ⟨c, hc, e, q1, q2, q3⟩
  · rw [if_neg q]
    simp only [if_true]
    rcases q2 with q2 | ⟨q2, q4⟩
    · rw [if_pos q2]; exact st_same h
    · rw [if_neg q2, if_neg q4]; exact st_same h
  · rw [if_neg q1, if_pos q2, if_pos q3]
    simp only [one0, if_false]
    obtain ⟨t1, t2, t3, t4⟩ := id h4
    unfold fX5_put
    rw [t2, t3]
    by_cases w : t = 110
    · subst w
      rw [if_neg (show ¬ nI 110 < (110 : Int32) by decide), if_pos (show nI 110 = (110 : Int32) from rfl), bm_s]
      simp only [if_true]
      exact st_same h
    · rw [if_pos (show nI t < (110 : Int32) from nI_lt (b := 110) (by omega) (by omega)), if_neg (show ¬ nI t = (110 : Int32) from fun z => w ((nI_eq (b := 110) (by omega) (by omega)).mp z)), grd_in (by omega) (by omega), bm_s, grd_in (by omega) (by omega)]
      simp only [one0, if_false]
      rw [nI_clamp (by omega), mup_s, mup_s, mup_n (Or.inl (by omega)), mup_n (Or.inl (by omega)), t2, t3, nI_1]
      refine ⟨nI (t + 1), _, _, rfl, rfl, n, sz, ev, D, u, kb, t + 1, s, Nw_fr h1 ?_ ?_ ?_ ?_ ?_, Hs_fr h2 ?_ ?_ ?_, Im_fr h3 ?_ ?_ ?_ ?_, ⟨by omega, mup_s _ _ _ _, mup_s _ _ _ _, fun j hj => ?_⟩, Sn_fr h5 ?_ ?_ ?_ ?_⟩
      case refine_13 =>
        by_cases z : j = t
        · subst z
          refine ⟨c, hc, ?_, ?_⟩
          · rw [mup_n (Or.inl (by omega)), mup_s]; exact e
          · rw [mup_n (Or.inl (by omega)), mup_s]; exact e
        · obtain ⟨c', a1, a2, a3⟩ := t4 j (by omega)
          refine ⟨c', a1, ?_, ?_⟩
          · rw [mup_n (Or.inl (by omega)), mup_n (Or.inr z)]; exact a2
          · rw [mup_n (Or.inl (by omega)), mup_n (Or.inr z)]; exact a3
      all_goals intros
      all_goals rw [mup_n (by omega), mup_n (by omega)]
theorem st_sees : St_sees II := fun σ ρ x h => by
  obtain ⟨n, sz, ev, D, u, kb, t, s, h1, h2, h3, h4, h5⟩ := id h
  unfold fX6_sees fX7_sees
  rw [show (0 : Int64) = (0 : Int32).toInt64 from rfl, show (8 : Int64) = (nI 8).toInt64 from rfl, in32r, show (8 : Int32) = nI 8 from rfl]
  rcases arg_cs x (m := 8) (by omega) with ⟨q, q2⟩ | ⟨c, hc, e, q1, q2, q3⟩
  · rw [if_neg q]
    simp only [if_true]
    rcases q2 with q2 | ⟨q2, q4⟩
    · rw [if_pos q2]; exact st_same h
    · rw [if_neg q2, if_neg q4]; exact st_same h
  · rw [if_neg q1, if_pos q2, if_pos q3]
    simp only [one0, if_false]
    obtain ⟨t1, t2, t3, t4⟩ := id h5
    rw [t2, t3]
    by_cases w : s = 6
    · subst w
      rw [if_neg (show ¬ nI 6 < (6 : Int32) by decide), if_pos (show nI 6 = (6 : Int32) from rfl)]
      exact st_same h
    · rw [if_pos (show nI s < (6 : Int32) from nI_lt (b := 6) (by omega) (by omega)), if_neg (show ¬ nI s = (6 : Int32) from fun z => w ((nI_eq (b := 6) (by omega) (by omega)).mp z)), grd_in (by omega) (by omega), grd_in (by omega) (by omega)]
      rw [nI_clamp (by omega), mup_s, mup_s, mup_n (Or.inl (by omega)), mup_n (Or.inl (by omega)), t2, t3, nI_1]
      refine ⟨nI (s + 1), _, _, rfl, rfl, n, sz, ev, D, u, kb, t, s + 1, Nw_fr h1 ?_ ?_ ?_ ?_ ?_, Hs_fr h2 ?_ ?_ ?_, Im_fr h3 ?_ ?_ ?_ ?_, Tx_fr h4 ?_ ?_ ?_ ?_, ⟨by omega, mup_s _ _ _ _, mup_s _ _ _ _, fun j hj => ?_⟩⟩
      case refine_17 =>
        by_cases z : j = s
        · subst z
          rw [mup_n (Or.inl (by omega)), mup_s, mup_n (Or.inl (by omega)), mup_s]
        · rw [mup_n (Or.inl (by omega)), mup_n (Or.inr z), mup_n (Or.inl (by omega)), mup_n (Or.inr z)]
          exact t4 j (by omega)
      all_goals intros
      all_goals rw [mup_n (by omega), mup_n (by omega)]
/-- an entry, for both sides -/
theorem entry_cs {σ ρ : Mem} {n : Nat} {sz : Nat → Nat} {ev yr : Nat → Nat → Nat} {sb : Nat → Nat} {sl : Nat} (h : Bo σ ρ n sz ev yr sb sl) (x y : Int32) : (fX0_hasEntry 17 x y σ = some 0 ∧ fX7_isEntry x y ρ = some 0) ∨ ∃ p k, p < n ∧ k < sz p ∧ x = nI p ∧ y = nI k ∧ fX0_hasEntry 17 x y σ = some 1 ∧ fX7_isEntry x y ρ = some 1 := by
  obtain ⟨hv, hx, hc, -⟩ := h
  have hn := hv.1
  unfold fX0_hasEntry
  rw [hasHouse_ok hx.1, bi_s]
  rcases house_cs x n (by omega) with ⟨p, hp, rfl⟩ | hx'
  · have h6 := (hv.2.1 p hp).1
    rw [if_pos (nI_pos2 hp (by omega)), isEntry_ok hv hc hp]
    simp only [one0, if_false]
    rw [grd_in (by omega) (by omega), nI_clamp (by omega), (hx.2.2 p hp).1]
    rcases house_cs y (sz p) (by omega) with ⟨k, hk, rfl⟩ | hy
    · rw [if_neg (nI_pos (by omega)), if_neg (nI_ge hk (by omega)), if_pos (nI_pos2 hk (by omega))]
      exact Or.inr ⟨p, k, hp, hk, rfl, rfl, rfl, rfl⟩
    · rw [if_neg hy]
      refine Or.inl ⟨?_, rfl⟩
      by_cases q : y < 0
      · rw [if_pos q]
      · rw [if_neg q, if_pos]
        apply Classical.byContradiction
        intro z
        exact hy ⟨Classical.byContradiction fun w => q ((lt0_iff y).mpr w), fa_of_nle z⟩
  · rw [if_neg hx', isEntry_no hv hc hx']
    simp only [if_true]
    refine Or.inl ⟨?_, ?_⟩ <;> trivial
theorem st_entry : St_entry II := fun σ ρ x y w h => by
  obtain ⟨n, sz, ev, D, u, kb, t, s, h1, h2, h3, h4, h5⟩ := id h
  have hB := Nw_Bo h1
  obtain ⟨hv, hx, hc, -⟩ := id hB
  have hn := hv.1
  unfold fX6_entry fX7_entry
  rcases entry_cs hB x y with ⟨e1, e2⟩ | ⟨p, k, hp, hk, rfl, rfl, e1, e2⟩
  · rw [e1, e2, bi_s, bi_s]
    exact ⟨-1, rfl, rfl⟩
  · have h6 := (hv.2.1 p hp).1
    have H := KV_H hv hp
    have h64 := HV_sb H
    have X := hx.2.2 p hp
    have C := hc.2.2.1 p k hp hk
    rw [e1, e2, bi_s, bi_s, show (0 : Int64) = (0 : Int32).toInt64 from rfl, show (2 : Int64) = (nI 2).toInt64 from rfl, in32r]
    simp only [one0, if_false]
    have ix2 : (6 : Int32) * nI p + nI k = nI (6 * p + k) := by
      rw [show (6 : Int32) = nI 6 from rfl, pk_mul, nI_add]
    have ix : (1 : Int32) + nI (6 * p + k) = nI (1 + 6 * p + k) := by
      rw [show (1 : Int32) = nI 1 from rfl, nI_add, Nat.add_assoc]
    have ix3 : (25 : Int32) + nI (6 * p + k) = nI (25 + 6 * p + k) := by
      rw [show (25 : Int32) = nI 25 from rfl, nI_add, Nat.add_assoc]
    rw [ix2, ix, ix3, grd_in (by omega) (by omega), grd_in (by omega) (by omega), grd_in (by omega) (by omega), grd_in (by omega) (by omega), grd_in (by omega) (by omega), grd_in (by omega) (by omega), nI_clamp (by omega), nI_clamp (by omega), nI_clamp (by omega), nI_clamp (by omega), nI_clamp (by omega), C.1, C.2.1, C.2.2, X.2.2.1 k hk, X.2.2.2 k hk, isStruck_ok X.2.1 (by omega) (by omega), bi_s]
    rcases arg_cs w (m := 2) (by omega) with ⟨q, q2⟩ | ⟨c, hc, rfl, q1, q2, q3⟩
    · have hw' : ∀ t : Nat, t ≤ 2 → ¬ w = nI t := fun t ht z => q ((in_small (by omega)).mpr ⟨t, ht, z⟩)
      rw [if_neg q, if_neg (show ¬ w = 0 from hw' 0 (by omega)), if_neg (show ¬ w = 1 from hw' 1 (by omega)), if_neg (show ¬ w = 2 from hw' 2 (by omega))]
      exact ⟨-1, rfl, rfl⟩
    · rw [if_pos q3]
      simp only [one0, if_false]
      have hc' : c = 0 ∨ c = 1 ∨ c = 2 := by omega
      rcases hc' with rfl | rfl | rfl
      · rw [if_pos (show nI 0 = 0 from rfl), if_pos (show nI 0 = 0 from rfl)]
        exact ⟨_, rfl, rfl⟩
      · rw [if_neg (show ¬ nI 1 = 0 by decide), if_pos (show nI 1 = 1 from rfl), if_neg (show ¬ nI 1 = 0 by decide), if_pos (show nI 1 = 1 from rfl)]
        exact ⟨_, rfl, rfl⟩
      · rw [if_neg (show ¬ nI 2 = 0 by decide), if_neg (show ¬ nI 2 = 1 by decide), if_pos (show nI 2 = 2 from rfl), if_neg (show ¬ nI 2 = 0 by decide), if_neg (show ¬ nI 2 = 1 by decide)]
        by_cases q : ((D u).2.1 p).testBit k = true
        · rw [if_pos q]; exact ⟨_, rfl, rfl⟩
        · rw [if_neg q]; exact ⟨_, rfl, rfl⟩
