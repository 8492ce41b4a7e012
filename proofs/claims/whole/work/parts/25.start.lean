theorem wj_X6 : Cond.instantiable RX6 11 ∈ tbl := tb (i := 66) (by decide +kernel) (by decide +kernel)
theorem wj_X7 : Cond.instantiable RX7 25 ∈ tbl := tb (i := 629) (by decide +kernel) (by decide +kernel)
theorem wci_X6 : Cond.code yX6_init cX6_init 2 none ∈ tbl := tb (i := 69) (by decide +kernel) (by decide +kernel)
theorem wki_X6 : Cond.instanceMethod yX6_init ∈ tbl := tb (i := 68) (by decide +kernel) (by decide +kernel)
theorem wci_X7 : Cond.code yX7_init cX7_init 1 none ∈ tbl := tb (i := 632) (by decide +kernel) (by decide +kernel)
theorem wki_X7 : Cond.instanceMethod yX7_init ∈ tbl := tb (i := 631) (by decide +kernel) (by decide +kernel)
theorem wmi_L_9 : Cond.methodLink RL 9 yX6_init ∈ tbl := tb (i := 67) (by decide +kernel) (by decide +kernel)
theorem wmi_L_12 : Cond.methodLink RL 12 yX7_init ∈ tbl := tb (i := 630) (by decide +kernel) (by decide +kernel)
theorem wq_L_7 : Cond.classLink RL 7 RX6 ∈ tbl := tb (i := 65) (by decide +kernel) (by decide +kernel)
theorem wq_L_10 : Cond.classLink RL 10 RX7 ∈ tbl := tb (i := 628) (by decide +kernel) (by decide +kernel)
theorem wao_X2 : Cond.arrayOver (.object "YearLines$House") ∈ lw_tbl := List.mem_of_getElem? (i := 119) (by decide +kernel)
theorem wao_X0 : Cond.arrayOver (.object "YearLines$Chronicle") ∈ lw_tbl := List.mem_of_getElem? (i := 170) (by decide +kernel)
theorem FI_of {A : Nat → Prop} {G : Gl} {w : Wd} {σ : Mem} (h : va_D A (fw G w σ)) : FI G w ∧ ∀ k, k < w.1 → A (gA G k) :=
  ⟨fun i j hi hj e => h.1 i j _ _ (fw_get hi) (fw_get hj) e, fun k hk => h.2 k _ (fw_get hk)⟩
theorem FK_ad {G : Gl} {ad : Nat → Nat} {U : State} (h : FK G U) : FK (G.1, G.2.1, G.2.2.1, ad) U := h
set_option maxHeartbeats 4000000 in
set_option maxRecDepth 100000 in
theorem law_known {s : State} {args : Array Value} (hts0 : ∀ w ∈ lw_tbl, w.before args s = true) : ∃ G : Gl, FK0 G s := by
  have hts : ∀ w ∈ tbl, w.before args s = true := fun w h => hts0 w (tbl_sub w h)
  obtain ⟨c0, iS0, hKn0⟩ := u_known (C := RX0) (T := TX0) (N := 3) (n := 3) hts inT0 (hts _ wj_X0)
  obtain ⟨c1, iS1, hKn1⟩ := u_known (C := RX1) (T := TX1) (N := 5) (n := 5) hts inT1 (hts _ wj_X1)
  obtain ⟨c2, iS2, hKn2⟩ := u_known (C := RX2) (T := TX2) (N := 4) (n := 4) hts inT2 (hts _ wj_X2)
  obtain ⟨c3, iS3, hKn3⟩ := u_known (C := RX3) (T := TX3) (N := 2) (n := 2) hts inT3 (hts _ wj_X3)
  obtain ⟨c4, iS4, hKn4⟩ := u_known (C := RX4) (T := TX4) (N := 3) (n := 3) hts inT4 (hts _ wj_X4)
  obtain ⟨c5, iS5, hKn5⟩ := u_known (C := RX5) (T := TX5) (N := 10) (n := 10) hts inT5 (hts _ wj_X5)
  obtain ⟨c6, iS6, hKn6⟩ := u_known (C := RX6) (T := TX6) (N := 11) (n := 11) hts inT6 (hts _ wj_X6)
  obtain ⟨c7, iS7, hKn7⟩ := u_known (C := RX7) (T := TX7) (N := 25) (n := 25) hts inT7 (hts _ wj_X7)
  obtain ⟨aI, kI, mI, i1, i2, i3⟩ := Cond.arrayClass_spec (hts _ wa_I)
  obtain ⟨aZ, kZ, mZ, z1, z2, z3⟩ := Cond.arrayClass_spec (hts _ wa_Z)
  have vH := hts0 _ wao_X2
  have vC := hts0 _ wao_X0
  obtain ⟨mH, aH, kH, g1, _, g2, g3, g4⟩ := Cond.arrayOver_spec vH
  obtain ⟨mC, aC, kC, j1, _, j2, j3, j4⟩ := Cond.arrayOver_spec vC
  refine ⟨(fun k => if k = 0 then c0 else if k = 1 then c1 else if k = 2 then c2 else if k = 3 then c3 else if k = 4 then c4 else if k = 5 then c5 else if k = 6 then c6 else c7, fun k => if k = 0 then iS0 else if k = 1 then iS1 else if k = 2 then iS2 else if k = 3 then iS3 else if k = 4 then iS4 else if k = 5 then iS5 else if k = 6 then iS6 else iS7, fun k => if k = 0 then aI else if k = 1 then aZ else if k = 2 then aH else aC, fun _ => 0), ⟨fun k q hq => ?_, fun k q hq => ?_⟩, va_AO.of vH, va_AO.of vC⟩
  · match k, hq with
    | 0, hq => cases hq; exact hKn0
    | 1, hq => cases hq; exact hKn1
    | 2, hq => cases hq; exact hKn2
    | 3, hq => cases hq; exact hKn3
    | 4, hq => cases hq; exact hKn4
    | 5, hq => cases hq; exact hKn5
    | 6, hq => cases hq; exact hKn6
    | 7, hq => cases hq; exact hKn7
    | k + 8, hq => simp [vwCl] at hq
  · match k, hq with
    | 0, hq => cases hq; exact ⟨fun n z => ⟨fun k h => (by cases h), kI, i2, mI, i3⟩, i1⟩
    | 1, hq => cases hq; exact ⟨fun n z => ⟨fun k h => (by cases h), kZ, z2, mZ, z3⟩, z1⟩
    | 2, hq => cases hq; exact ⟨fun n z => ⟨fun k h => (by cases h), kH, g2, mH, g3⟩, kH, mH, g2, g3, g1, g4⟩
    | 3, hq => cases hq; exact ⟨fun n z => ⟨fun k h => (by cases h), kC, j2, mC, j3⟩, kC, mC, j2, j3, j1, j4⟩
    | k + 4, hq => simp [ftys] at hq
set_option maxHeartbeats 4000000 in
set_option maxRecDepth 100000 in
theorem law_start {I : Mem → Mem → Prop} (hI : Sts I) (hI0 : I (fun _ _ => 0) ρ0) {p : Program} {e : Env} {s : State} {m : MethodId} {below : List Frame} {meth : Method} {c : Code} (l : Launch) {b L : Nat} {xs : Nat → Int32} (hL : L ≤ 2560) (C0 : lw_At p s m meth c b L xs) : W p l e room_1 s m #[Value.ref b] below meth c s.heap [] 0 0 (lw_Z below #[Value.ref b] s) (entryFrame m ([Value.ref b] : List Value).toArray 4) := by
  obtain ⟨hx, hb, hr, hml, hown, hts0, hX, hbl, hlocks, hgv⟩ := id C0
  have hts : ∀ w ∈ tbl, w.before #[Value.ref b] s = true := fun w h => hts0 w (tbl_sub w h)
  obtain ⟨G, hK⟩ := law_known hts0
  have hN : CN p s m #[Value.ref b] RL G := ⟨hx, hown, hts, hK⟩
  have hA : ∀ q : Nat, s.heap.size ≤ q → (fun q : Nat => s.heap.size ≤ q) q := fun _ h => h
  have hS : va_S (fun q : Nat => s.heap.size ≤ q) s.heap s.heap [] := va_S.rf
  have hP : va_P (gD G) vwCl [] s.heap := fun k q h => by simp at h
  have hD : va_D (fun q : Nat => s.heap.size ≤ q) [] := ⟨fun i j p q h => by simp at h, fun k q h => by simp at h⟩
  have hl := lv_entry ([.ref b]) (n := 4) (Nat.le_of_ble_eq_true rfl)
  rw [lg_entry_eq]
  generalize (lg_sl ([.ref b]) ++ List.replicate (4 - (lg_sl ([.ref b])).length) Slot.unset).toArray = ls at hl ⊢
  have hl : lv_has ls 4 [(0, .ref b)] := hl
  refine va_new (ci := 6) (fs := [.null, .null, .null, .null, .int 0, .null, .null, .null, .null, .null, .int 0]) (C := RX6) (T := TX6) (N := 11) hx hb hts inT6 tyX6 tyX6_ok hown (hts _ wq_L_7) (hts _ wj_X6) (hts _ wi_X6) hK.1 hP hD hS hA rfl (fun j hj => by rcases (show j = 0 ∨ j = 1 ∨ j = 2 ∨ j = 3 ∨ j = 4 ∨ j = 5 ∨ j = 6 ∨ j = 7 ∨ j = 8 ∨ j = 9 ∨ j = 10 by omega) with rfl | rfl | rfl | rfl | rfl | rfl | rfl | rfl | rfl | rfl | rfl <;> rfl) (Nat.le_of_ble_eq_true rfl) (Nat.le_of_ble_eq_true rfl) dL_law_0 (fun q0 H hP hD hS => ?_)
  refine W.cs (cells' := 1) (slots' := 11) rfl rfl ?_
  refine lv_dup hx hb dL_law_3 rfl ?_
  refine fn_callI (wr := []) (rest := [.ref q0]) hN hb hml (fun sz => nX6_ok (sz := sz)) wmi_L_9 wki_X6 wi_X6 wci_X6 rfl (by decide +kernel) rfl rfl ⟨Nat.le_of_ble_eq_true rfl, Nat.le_of_ble_eq_true rfl⟩ ⟨Nat.le_of_ble_eq_true rfl, Nat.le_of_ble_eq_true rfl⟩ hP hD hS hA hl.1 (Nat.le_of_ble_eq_true rfl) dL_law_4 (fun u0 H locs hP hD hS => ?_)
  refine W.cs (cells' := 73) (slots' := 505) rfl rfl ?_
  refine lv_astore_n (lv' := [(1, .ref q0), (0, .ref b)]) hx hb dL_law_7 rfl hl (by decide) rfl (fun ls hl => ?_)
  refine va_new (ci := 7) (fs := [.null, .null, .int 0, .null, .int 0, .null, .int 0, .int 0, .null, .null, .int 0, .int 0, .int 0, .int 0, .int 0, .int 0, .null, .null, .null, .int 0, .int 0, .null, .null, .null, .int 0]) (C := RX7) (T := TX7) (N := 25) hx hb hts inT7 tyX7 tyX7_ok hown (hts _ wq_L_10) (hts _ wj_X7) (hts _ wi_X7) hK.1 hP hD hS hA rfl (fun j hj => by rcases (show j = 0 ∨ j = 1 ∨ j = 2 ∨ j = 3 ∨ j = 4 ∨ j = 5 ∨ j = 6 ∨ j = 7 ∨ j = 8 ∨ j = 9 ∨ j = 10 ∨ j = 11 ∨ j = 12 ∨ j = 13 ∨ j = 14 ∨ j = 15 ∨ j = 16 ∨ j = 17 ∨ j = 18 ∨ j = 19 ∨ j = 20 ∨ j = 21 ∨ j = 22 ∨ j = 23 ∨ j = 24 by omega) with rfl | rfl | rfl | rfl | rfl | rfl | rfl | rfl | rfl | rfl | rfl | rfl | rfl | rfl | rfl | rfl | rfl | rfl | rfl | rfl | rfl | rfl | rfl | rfl | rfl <;> rfl) (Nat.le_of_ble_eq_true rfl) (Nat.le_of_ble_eq_true rfl) dL_law_8 (fun q1 H hP hD hS => ?_)
  refine W.cs (cells' := 74) (slots' := 530) rfl rfl ?_
  refine lv_dup hx hb dL_law_11 rfl ?_
  refine fn_callI (wr := _) (rest := [.ref q1]) hN hb hml (fun sz => nX7_ok (sz := sz)) wmi_L_12 wki_X7 wi_X7 wci_X7 rfl (by decide +kernel) rfl rfl ⟨Nat.le_of_ble_eq_true rfl, Nat.le_of_ble_eq_true rfl⟩ ⟨Nat.le_of_ble_eq_true rfl, Nat.le_of_ble_eq_true rfl⟩ hP hD hS hA hl.1 (Nat.le_of_ble_eq_true rfl) dL_law_12 (fun u1 H locs hP hD hS => ?_)
  refine W.cs (cells' := 86) (slots' := 1385) rfl rfl ?_
  refine lv_astore_n (lv' := [(2, .ref q1), (1, .ref q0), (0, .ref b)]) hx hb dL_law_15 rfl hl (by decide) rfl (fun ls hl => ?_)
  refine lv_iconst (v := nI 0) hx hb dL_law_16 (by decide) ?_
  refine lv_istore_n (lv' := [(3, .int (nI 0)), (2, .ref q1), (1, .ref q0), (0, .ref b)]) hx hb dL_law_17 rfl hl (by decide) rfl (fun ls hl => ?_)
  obtain ⟨hP1, hP2⟩ := pj_split hP
  obtain ⟨hD1, hD2, hd⟩ := dj_split hD
  obtain ⟨f1, f2⟩ := FI_of hD1
  obtain ⟨f3, f4⟩ := FI_of hD2
  exact law_loop (G := (G.1, G.2.1, G.2.2.1, adh q0 u0)) (G2 := (G.1, G.2.1, G.2.2.1, adh q1 u1)) hI hL C0 ⟨FK_ad hK.1, FK_ad hK.1, f1, f3, fun i j hi hj => hd i j _ _ (fw_get hi) (fw_get hj), f2, f4⟩ (L + 1) 0 _ _ H locs ls (Nat.zero_le L) (by omega) hI0 hP1 hP2 hS (lv_sub hl [3, 2, 1, 0] rfl)
