section GEN
variable {p : Program} {l : Launch} {e : Env} {s : State} {m : MethodId} {args : Array Value} {below : List Frame} {meth : Method} {c : Code} {G : Gl}
set_option maxHeartbeats 4000000 in
set_option maxRecDepth 100000 in
theorem bX0_empty_2 {σ' : Mem} {c0 : Nat} (M : MX p s m args meth c RX0 G wX cX0_empty 2 none) (qc0 : isC c0) : ∀ (fu : Nat) (x1 : Int32) (σ : Mem) (H : Heap) (locs : List Loc) (ls : Array Slot), fX0_empty_2 c0 fu x1 σ = some σ' → FH G wX s.heap H locs σ → lv_has ls 2 [(0, .ref (gA G c0)), (1, .int x1)] → WG p l e ({ frames := 1, cells := 0, slots := 0, locals := 20 }) s m args below meth c G wX none σ' H locs 2 ls [] := by
  obtain ⟨X, hb, hml, hr, hlk⟩ := id M
  have hx := X.1
  intro fu
  induction fu with
  | zero =>
    intro x1 σ H locs ls hf hF hl
    rw [fX0_empty_2] at hf
    cases hf
  | succ fu ih =>
    intro x1 σ H locs ls hf hF hl
    rw [fX0_empty_2] at hf
    refine lv_iload_n hx hb dX0_empty_2 rfl (lv_at hl 1 rfl) ?_
    refine lv_iconst (v := (4 : Int32)) hx hb dX0_empty_3 (by decide) ?_
    refine lv_icmp_ge (tgt := 22) hx hb dX0_empty_4 (by decide) (fun cd1 => ?_) (fun cd1 => ?_)
    · replace hf := ifp cd1 hf
      refine lv_aload_n hx hb dX0_empty_22 rfl (lv_at hl 0 rfl) ?_
      refine lv_iconst (v := (0 : Int32)) hx hb dX0_empty_23 (by decide) ?_
      refine pf_X0_18 X hb hF (sh_C qc0) dX0_empty_24 (fun H locs hF => ?_)
      refine lv_aload_n hx hb dX0_empty_27 rfl (lv_at hl 0 rfl) ?_
      refine lv_iconst (v := (0 : Int32)) hx hb dX0_empty_28 (by decide) ?_
      refine pf_X0_22 X hb hF (sh_C qc0) dX0_empty_29 (fun H locs hF => ?_)
      obtain rfl := Option.some.inj hf
      exact fl_vret X hb hr hlk hF dX0_empty_32
    · replace hf := ifn cd1 hf
      refine lv_aload_n hx hb dX0_empty_7 rfl (lv_at hl 0 rfl) ?_
      refine gf_X0_11 X hb hF (sh_C qc0) dX0_empty_8 ?_
      refine lv_iload_n hx hb dX0_empty_11 rfl (lv_at hl 1 rfl) ?_
      obtain ⟨g2, hf⟩ := grd_some hf
      refine fl_aaldH X hb hF (sh_Ca qc0) g2 dX0_empty_12 ?_
      obtain ⟨σ4, hq3, hf⟩ := bv_some hf
      refine cm_X0_25 (As := []) (rest := []) X hb hml hF (cX2_empty_ok (l := l) (G := G) X.2.2.2.2 (isH_mk qc0 g2) hq3) (sh_H (isH_mk qc0 g2)) ⟨Nat.le_of_ble_eq_true rfl, Nat.le_of_ble_eq_true rfl⟩ rfl rfl ⟨Nat.zero_le _, Nat.zero_le _⟩ rfl hl.1 rfl (Nat.le_of_ble_eq_true rfl) dX0_empty_13 (fun H locs hF => ?_)
      refine lv_iinc (v := x1 + (1 : Int32)) (lv' := [(1, .int (x1 + (1 : Int32))), (0, .ref (gA G c0))]) hx hb dX0_empty_16 hl (k := 1) rfl rfl (by decide) rfl (fun ls hl => ?_)
      refine lv_goto (tgt := 2) hx hb dX0_empty_19 (by decide) ?_
      exact ih (x1 + (1 : Int32)) σ4 _ _ _ hf hF (lv_sub hl [1, 0] rfl)
set_option maxHeartbeats 4000000 in
set_option maxRecDepth 100000 in
theorem cX0_empty_ok {l : Launch} {G : Gl} (hI : FI G wX) {c0 : Nat} {σ : Mem} (qc0 : isC c0) {σ' : Mem} (hf : fX0_empty c0 σ = some σ') : Ct l G wX yX0_empty cX0_empty 2 none ({ frames := 1, cells := 0, slots := 0, locals := 20 }) [.ref (gA G c0)] σ none σ' := by
  refine fl_start hI (by decide) (Nat.le_of_ble_eq_true rfl) ?_
  intro p e s m below meth c M hF ls hl
  obtain ⟨X, hb, hml, hr, hlk⟩ := id M
  have hx := X.1
  have hl : lv_has ls 2 [(0, .ref (gA G c0))] := hl
  unfold fX0_empty at hf
  refine lv_iconst (v := (0 : Int32)) hx hb dX0_empty_0 (by decide) ?_
  refine lv_istore_n (lv' := [(1, .int (0 : Int32)), (0, .ref (gA G c0))]) hx hb dX0_empty_1 rfl hl (by decide) rfl (fun ls hl => ?_)
  exact bX0_empty_2 M qc0 FU (0 : Int32) σ _ _ _ hf hF (lv_sub hl [1, 0] rfl)
set_option maxHeartbeats 4000000 in
set_option maxRecDepth 100000 in
theorem bX0_copy_2 {σ' : Mem} {c0 : Nat} {c1 : Nat} (M : MX p s m args meth c RX0 G wX cX0_copy 3 none) (qc0 : isC c0) (qc1 : isC c1) : ∀ (fu : Nat) (x2 : Int32) (σ : Mem) (H : Heap) (locs : List Loc) (ls : Array Slot), fX0_copy_2 c0 c1 fu x2 σ = some σ' → FH G wX s.heap H locs σ → lv_has ls 3 [(0, .ref (gA G c0)), (1, .ref (gA G c1)), (2, .int x2)] → WG p l e ({ frames := 1, cells := 0, slots := 0, locals := 22 }) s m args below meth c G wX none σ' H locs 2 ls [] := by
  obtain ⟨X, hb, hml, hr, hlk⟩ := id M
  have hx := X.1
  intro fu
  induction fu with
  | zero =>
    intro x2 σ H locs ls hf hF hl
    rw [fX0_copy_2] at hf
    cases hf
  | succ fu ih =>
    intro x2 σ H locs ls hf hF hl
    rw [fX0_copy_2] at hf
    refine lv_iload_n hx hb dX0_copy_2 rfl (lv_at hl 2 rfl) ?_
    refine lv_iconst (v := (4 : Int32)) hx hb dX0_copy_3 (by decide) ?_
    refine lv_icmp_ge (tgt := 28) hx hb dX0_copy_4 (by decide) (fun cd1 => ?_) (fun cd1 => ?_)
    · replace hf := ifp cd1 hf
      refine lv_aload_n hx hb dX0_copy_28 rfl (lv_at hl 0 rfl) ?_
      refine lv_aload_n hx hb dX0_copy_29 rfl (lv_at hl 1 rfl) ?_
      refine gf_X0_18 X hb hF (sh_C qc1) dX0_copy_30 ?_
      refine pf_X0_18 X hb hF (sh_C qc0) dX0_copy_33 (fun H locs hF => ?_)
      refine lv_aload_n hx hb dX0_copy_36 rfl (lv_at hl 0 rfl) ?_
      refine lv_aload_n hx hb dX0_copy_37 rfl (lv_at hl 1 rfl) ?_
      refine gf_X0_22 X hb hF (sh_C qc1) dX0_copy_38 ?_
      refine pf_X0_22 X hb hF (sh_C qc0) dX0_copy_41 (fun H locs hF => ?_)
      obtain rfl := Option.some.inj hf
      exact fl_vret X hb hr hlk hF dX0_copy_44
    · replace hf := ifn cd1 hf
      refine lv_aload_n hx hb dX0_copy_7 rfl (lv_at hl 0 rfl) ?_
      refine gf_X0_11 X hb hF (sh_C qc0) dX0_copy_8 ?_
      refine lv_iload_n hx hb dX0_copy_11 rfl (lv_at hl 2 rfl) ?_
      obtain ⟨g2, hf⟩ := grd_some hf
      refine fl_aaldH X hb hF (sh_Ca qc0) g2 dX0_copy_12 ?_
      refine lv_aload_n hx hb dX0_copy_13 rfl (lv_at hl 1 rfl) ?_
      refine gf_X0_11 X hb hF (sh_C qc1) dX0_copy_14 ?_
      refine lv_iload_n hx hb dX0_copy_17 rfl (lv_at hl 2 rfl) ?_
      obtain ⟨g3, hf⟩ := grd_some hf
      refine fl_aaldH X hb hF (sh_Ca qc1) g3 dX0_copy_18 ?_
      obtain ⟨σ5, hq4, hf⟩ := bv_some hf
      refine cm_X0_28 (As := [.ref (gA G (c1 + 2 + 3 * x2.toNatClampNeg))]) (rest := []) X hb hml hF (cX2_copy_ok (l := l) (G := G) X.2.2.2.2 (isH_mk qc0 g2) (isH_mk qc1 g3) hq4) (sh_H (isH_mk qc0 g2)) ⟨Nat.le_of_ble_eq_true rfl, Nat.le_of_ble_eq_true rfl⟩ rfl rfl ⟨Nat.zero_le _, Nat.zero_le _⟩ rfl hl.1 rfl (Nat.le_of_ble_eq_true rfl) dX0_copy_19 (fun H locs hF => ?_)
      refine lv_iinc (v := x2 + (1 : Int32)) (lv' := [(2, .int (x2 + (1 : Int32))), (0, .ref (gA G c0)), (1, .ref (gA G c1))]) hx hb dX0_copy_22 hl (k := 2) rfl rfl (by decide) rfl (fun ls hl => ?_)
      refine lv_goto (tgt := 2) hx hb dX0_copy_25 (by decide) ?_
      exact ih (x2 + (1 : Int32)) σ5 _ _ _ hf hF (lv_sub hl [1, 2, 0] rfl)
set_option maxHeartbeats 4000000 in
set_option maxRecDepth 100000 in
theorem cX0_copy_ok {l : Launch} {G : Gl} (hI : FI G wX) {c0 : Nat} {c1 : Nat} {σ : Mem} (qc0 : isC c0) (qc1 : isC c1) {σ' : Mem} (hf : fX0_copy c0 c1 σ = some σ') : Ct l G wX yX0_copy cX0_copy 3 none ({ frames := 1, cells := 0, slots := 0, locals := 22 }) [.ref (gA G c0), .ref (gA G c1)] σ none σ' := by
  refine fl_start hI (by decide) (Nat.le_of_ble_eq_true rfl) ?_
  intro p e s m below meth c M hF ls hl
  obtain ⟨X, hb, hml, hr, hlk⟩ := id M
  have hx := X.1
  have hl : lv_has ls 3 [(0, .ref (gA G c0)), (1, .ref (gA G c1))] := hl
  unfold fX0_copy at hf
  refine lv_iconst (v := (0 : Int32)) hx hb dX0_copy_0 (by decide) ?_
  refine lv_istore_n (lv' := [(2, .int (0 : Int32)), (0, .ref (gA G c0)), (1, .ref (gA G c1))]) hx hb dX0_copy_1 rfl hl (by decide) rfl (fun ls hl => ?_)
  exact bX0_copy_2 M qc0 qc1 FU (0 : Int32) σ _ _ _ hf hF (lv_sub hl [1, 2, 0] rfl)
set_option maxHeartbeats 4000000 in
set_option maxRecDepth 100000 in
theorem cX0_hasHouse_ok {l : Launch} {G : Gl} (hI : FI G wX) {c0 : Nat} {x1 : Int32} {σ : Mem} (qc0 : isC c0) {r : Int32} (hf : fX0_hasHouse c0 x1 σ = some r) : Ct l G wX yX0_hasHouse cX0_hasHouse 2 (some .boolean) ({ frames := 0, cells := 0, slots := 0, locals := 0 }) [.ref (gA G c0), .int x1] σ (some (.int r)) σ := by
  refine fl_start hI (by decide) (Nat.le_of_ble_eq_true rfl) ?_
  intro p e s m below meth c M hF ls hl
  obtain ⟨X, hb, hml, hr, hlk⟩ := id M
  have hx := X.1
  have hl : lv_has ls 2 [(0, .ref (gA G c0)), (1, .int x1)] := hl
  unfold fX0_hasHouse at hf
  refine lv_iload_n hx hb dX0_hasHouse_0 rfl (lv_at hl 1 rfl) ?_
  refine lv_if_lt (tgt := 16) hx hb dX0_hasHouse_1 (by decide) (fun cd1 => ?_) (fun cd1 => ?_)
  · replace hf := ifp cd1 hf
    refine lv_iconst (v := (0 : Int32)) hx hb dX0_hasHouse_16 (by decide) ?_
    obtain rfl := Option.some.inj hf
    exact fl_zret X hb hr hlk hF (Or.inl rfl) dX0_hasHouse_17
  · replace hf := ifn cd1 hf
    refine lv_iload_n hx hb dX0_hasHouse_4 rfl (lv_at hl 1 rfl) ?_
    refine lv_aload_n hx hb dX0_hasHouse_5 rfl (lv_at hl 0 rfl) ?_
    refine gf_X0_18 X hb hF (sh_C qc0) dX0_hasHouse_6 ?_
    refine lv_icmp_ge (tgt := 16) hx hb dX0_hasHouse_9 (by decide) (fun cd2 => ?_) (fun cd2 => ?_)
    · replace hf := ifp cd2 hf
      refine lv_iconst (v := (0 : Int32)) hx hb dX0_hasHouse_16 (by decide) ?_
      obtain rfl := Option.some.inj hf
      exact fl_zret X hb hr hlk hF (Or.inl rfl) dX0_hasHouse_17
    · replace hf := ifn cd2 hf
      refine lv_iconst (v := (1 : Int32)) hx hb dX0_hasHouse_12 (by decide) ?_
      refine lv_goto (tgt := 17) hx hb dX0_hasHouse_13 (by decide) ?_
      obtain rfl := Option.some.inj hf
      exact fl_zret X hb hr hlk hF (Or.inr rfl) dX0_hasHouse_17
set_option maxHeartbeats 4000000 in
set_option maxRecDepth 100000 in
theorem cX0_hasEntry_ok {l : Launch} {G : Gl} (hI : FI G wX) {c0 : Nat} {x1 : Int32} {x2 : Int32} {σ : Mem} (qc0 : isC c0) {r : Int32} (hf : fX0_hasEntry c0 x1 x2 σ = some r) : Ct l G wX yX0_hasEntry cX0_hasEntry 3 (some .boolean) ({ frames := 1, cells := 0, slots := 0, locals := 21 }) [.ref (gA G c0), .int x1, .int x2] σ (some (.int r)) σ := by
  refine fl_start hI (by decide) (Nat.le_of_ble_eq_true rfl) ?_
  intro p e s m below meth c M hF ls hl
  obtain ⟨X, hb, hml, hr, hlk⟩ := id M
  have hx := X.1
  have hl : lv_has ls 3 [(0, .ref (gA G c0)), (1, .int x1), (2, .int x2)] := hl
  unfold fX0_hasEntry at hf
  refine lv_aload_n hx hb dX0_hasEntry_0 rfl (lv_at hl 0 rfl) ?_
  refine lv_iload_n hx hb dX0_hasEntry_1 rfl (lv_at hl 1 rfl) ?_
  obtain ⟨r2, hq1, hf⟩ := bi_some hf
  refine cm_X0_32 (As := [.int x1]) (rest := []) X hb hml hF (cX0_hasHouse_ok (l := l) (G := G) X.2.2.2.2 qc0 hq1) (sh_C qc0) ⟨Nat.le_of_ble_eq_true rfl, Nat.le_of_ble_eq_true rfl⟩ rfl rfl ⟨Nat.zero_le _, Nat.zero_le _⟩ rfl hl.1 rfl (Nat.le_of_ble_eq_true rfl) dX0_hasEntry_2 (fun H locs hF => ?_)
  refine lv_if_eq (tgt := 29) hx hb dX0_hasEntry_5 (by decide) (fun cd3 => ?_) (fun cd3 => ?_)
  · replace hf := ifp cd3 hf
    refine lv_iconst (v := (0 : Int32)) hx hb dX0_hasEntry_29 (by decide) ?_
    obtain rfl := Option.some.inj hf
    exact fl_zret X hb hr hlk hF (Or.inl rfl) dX0_hasEntry_30
  · replace hf := ifn cd3 hf
    refine lv_iload_n hx hb dX0_hasEntry_8 rfl (lv_at hl 2 rfl) ?_
    refine lv_if_lt (tgt := 29) hx hb dX0_hasEntry_9 (by decide) (fun cd4 => ?_) (fun cd4 => ?_)
    · replace hf := ifp cd4 hf
      refine lv_iconst (v := (0 : Int32)) hx hb dX0_hasEntry_29 (by decide) ?_
      obtain rfl := Option.some.inj hf
      exact fl_zret X hb hr hlk hF (Or.inl rfl) dX0_hasEntry_30
    · replace hf := ifn cd4 hf
      refine lv_iload_n hx hb dX0_hasEntry_12 rfl (lv_at hl 2 rfl) ?_
      refine lv_aload_n hx hb dX0_hasEntry_13 rfl (lv_at hl 0 rfl) ?_
      refine gf_X0_11 X hb hF (sh_C qc0) dX0_hasEntry_14 ?_
      refine lv_iload_n hx hb dX0_hasEntry_17 rfl (lv_at hl 1 rfl) ?_
      obtain ⟨g5, hf⟩ := grd_some hf
      refine fl_aaldH X hb hF (sh_Ca qc0) g5 dX0_hasEntry_18 ?_
      refine gf_X0_36 X hb hF (sh_H (isH_mk qc0 g5)) dX0_hasEntry_19 ?_
      refine lv_icmp_ge (tgt := 29) hx hb dX0_hasEntry_22 (by decide) (fun cd6 => ?_) (fun cd6 => ?_)
      · replace hf := ifp cd6 hf
        refine lv_iconst (v := (0 : Int32)) hx hb dX0_hasEntry_29 (by decide) ?_
        obtain rfl := Option.some.inj hf
        exact fl_zret X hb hr hlk hF (Or.inl rfl) dX0_hasEntry_30
      · replace hf := ifn cd6 hf
        refine lv_iconst (v := (1 : Int32)) hx hb dX0_hasEntry_25 (by decide) ?_
        refine lv_goto (tgt := 30) hx hb dX0_hasEntry_26 (by decide) ?_
        obtain rfl := Option.some.inj hf
        exact fl_zret X hb hr hlk hF (Or.inr rfl) dX0_hasEntry_30
set_option maxHeartbeats 4000000 in
set_option maxRecDepth 100000 in
theorem cX0_latest_ok {l : Launch} {G : Gl} (hI : FI G wX) {c0 : Nat} {σ : Mem} (qc0 : isC c0) {r : Nat} (hf : fX0_latest c0 σ = some r) : Ct l G wX yX0_latest cX0_latest 1 (some (.object "YearLines$House")) ({ frames := 0, cells := 0, slots := 0, locals := 0 }) [.ref (gA G c0)] σ (some (.ref (gA G r))) σ := by
  refine fl_start hI (by decide) (Nat.le_of_ble_eq_true rfl) ?_
  intro p e s m below meth c M hF ls hl
  obtain ⟨X, hb, hml, hr, hlk⟩ := id M
  have hx := X.1
  have hl : lv_has ls 1 [(0, .ref (gA G c0))] := hl
  unfold fX0_latest at hf
  refine lv_aload_n hx hb dX0_latest_0 rfl (lv_at hl 0 rfl) ?_
  refine gf_X0_11 X hb hF (sh_C qc0) dX0_latest_1 ?_
  refine lv_aload_n hx hb dX0_latest_4 rfl (lv_at hl 0 rfl) ?_
  refine gf_X0_18 X hb hF (sh_C qc0) dX0_latest_5 ?_
  refine lv_if_le (tgt := 20) hx hb dX0_latest_8 (by decide) (fun cd1 => ?_) (fun cd1 => ?_)
  · replace hf := ifp cd1 hf
    refine lv_iconst (v := (0 : Int32)) hx hb dX0_latest_20 (by decide) ?_
    obtain ⟨g2, hf⟩ := grd_some hf
    refine fl_aaldH X hb hF (sh_Ca qc0) g2 dX0_latest_21 ?_
    obtain rfl := Option.some.inj hf
    exact fl_aret X hb hr hlk hF dX0_latest_22
  · replace hf := ifn cd1 hf
    refine lv_aload_n hx hb dX0_latest_11 rfl (lv_at hl 0 rfl) ?_
    refine gf_X0_18 X hb hF (sh_C qc0) dX0_latest_12 ?_
    refine lv_iconst (v := (1 : Int32)) hx hb dX0_latest_15 (by decide) ?_
    refine lv_isub hx hb dX0_latest_16 ?_
    refine lv_goto (tgt := 21) hx hb dX0_latest_17 (by decide) ?_
    obtain ⟨g3, hf⟩ := grd_some hf
    refine fl_aaldH X hb hF (sh_Ca qc0) g3 dX0_latest_21 ?_
    obtain rfl := Option.some.inj hf
    exact fl_aret X hb hr hlk hF dX0_latest_22
set_option maxHeartbeats 4000000 in
set_option maxRecDepth 100000 in
theorem bX0_entriesLeft_4 {σ : Mem} {r : Int32} {c0 : Nat} (M : MX p s m args meth c RX0 G wX cX0_entriesLeft 3 (some .int)) (qc0 : isC c0) : ∀ (fu : Nat) (x1 : Int32) (x2 : Int32) (H : Heap) (locs : List Loc) (ls : Array Slot), fX0_entriesLeft_4 c0 σ fu x1 x2 = some r → FH G wX s.heap H locs σ → lv_has ls 3 [(0, .ref (gA G c0)), (1, .int x1), (2, .int x2)] → WG p l e ({ frames := 2, cells := 0, slots := 0, locals := 40 }) s m args below meth c G wX (some (.int r)) σ H locs 4 ls [] := by
  obtain ⟨X, hb, hml, hr, hlk⟩ := id M
  have hx := X.1
  intro fu
  induction fu with
  | zero =>
    intro x1 x2 H locs ls hf hF hl
    rw [fX0_entriesLeft_4] at hf
    cases hf
  | succ fu ih =>
    intro x1 x2 H locs ls hf hF hl
    rw [fX0_entriesLeft_4] at hf
    refine lv_iload_n hx hb dX0_entriesLeft_4 rfl (lv_at hl 2 rfl) ?_
    refine lv_aload_n hx hb dX0_entriesLeft_5 rfl (lv_at hl 0 rfl) ?_
    refine gf_X0_18 X hb hF (sh_C qc0) dX0_entriesLeft_6 ?_
    refine lv_icmp_ge (tgt := 30) hx hb dX0_entriesLeft_9 (by decide) (fun cd1 => ?_) (fun cd1 => ?_)
    · replace hf := ifp cd1 hf
      refine lv_iload_n hx hb dX0_entriesLeft_30 rfl (lv_at hl 1 rfl) ?_
      obtain rfl := Option.some.inj hf
      exact fl_iret X hb hr hlk hF dX0_entriesLeft_31
    · replace hf := ifn cd1 hf
      refine lv_iload_n hx hb dX0_entriesLeft_12 rfl (lv_at hl 1 rfl) ?_
      refine lv_aload_n hx hb dX0_entriesLeft_13 rfl (lv_at hl 0 rfl) ?_
      refine gf_X0_11 X hb hF (sh_C qc0) dX0_entriesLeft_14 ?_
      refine lv_iload_n hx hb dX0_entriesLeft_17 rfl (lv_at hl 2 rfl) ?_
      obtain ⟨g2, hf⟩ := grd_some hf
      refine fl_aaldH X hb hF (sh_Ca qc0) g2 dX0_entriesLeft_18 ?_
      obtain ⟨r4, hq3, hf⟩ := bi_some hf
      refine cm_X0_37 (As := []) (rest := [.int x1]) X hb hml hF (cX2_entriesLeft_ok (l := l) (G := G) X.2.2.2.2 (isH_mk qc0 g2) hq3) (sh_H (isH_mk qc0 g2)) ⟨Nat.le_of_ble_eq_true rfl, Nat.le_of_ble_eq_true rfl⟩ rfl rfl ⟨Nat.zero_le _, Nat.zero_le _⟩ rfl hl.1 rfl (Nat.le_of_ble_eq_true rfl) dX0_entriesLeft_19 (fun H locs hF => ?_)
      refine lv_iadd hx hb dX0_entriesLeft_22 ?_
      refine lv_istore_n (lv' := [(1, .int (x1 + r4)), (0, .ref (gA G c0)), (2, .int x2)]) hx hb dX0_entriesLeft_23 rfl hl (by decide) rfl (fun ls hl => ?_)
      refine lv_iinc (v := x2 + (1 : Int32)) (lv' := [(2, .int (x2 + (1 : Int32))), (1, .int (x1 + r4)), (0, .ref (gA G c0))]) hx hb dX0_entriesLeft_24 hl (k := 2) rfl rfl (by decide) rfl (fun ls hl => ?_)
      refine lv_goto (tgt := 4) hx hb dX0_entriesLeft_27 (by decide) ?_
      exact ih (x1 + r4) (x2 + (1 : Int32)) _ _ _ hf hF (lv_sub hl [2, 1, 0] rfl)
set_option maxHeartbeats 4000000 in
set_option maxRecDepth 100000 in
theorem cX0_entriesLeft_ok {l : Launch} {G : Gl} (hI : FI G wX) {c0 : Nat} {σ : Mem} (qc0 : isC c0) {r : Int32} (hf : fX0_entriesLeft c0 σ = some r) : Ct l G wX yX0_entriesLeft cX0_entriesLeft 3 (some .int) ({ frames := 2, cells := 0, slots := 0, locals := 40 }) [.ref (gA G c0)] σ (some (.int r)) σ := by
  refine fl_start hI (by decide) (Nat.le_of_ble_eq_true rfl) ?_
  intro p e s m below meth c M hF ls hl
  obtain ⟨X, hb, hml, hr, hlk⟩ := id M
  have hx := X.1
  have hl : lv_has ls 3 [(0, .ref (gA G c0))] := hl
  unfold fX0_entriesLeft at hf
  refine lv_iconst (v := (0 : Int32)) hx hb dX0_entriesLeft_0 (by decide) ?_
  refine lv_istore_n (lv' := [(1, .int (0 : Int32)), (0, .ref (gA G c0))]) hx hb dX0_entriesLeft_1 rfl hl (by decide) rfl (fun ls hl => ?_)
  refine lv_iconst (v := (0 : Int32)) hx hb dX0_entriesLeft_2 (by decide) ?_
  refine lv_istore_n (lv' := [(2, .int (0 : Int32)), (1, .int (0 : Int32)), (0, .ref (gA G c0))]) hx hb dX0_entriesLeft_3 rfl hl (by decide) rfl (fun ls hl => ?_)
  exact bX0_entriesLeft_4 M qc0 FU (0 : Int32) (0 : Int32) _ _ _ hf hF (lv_sub hl [2, 1, 0] rfl)
set_option maxHeartbeats 4000000 in
set_option maxRecDepth 100000 in
theorem bX0_eventBits_4 {σ : Mem} {r : Int32} {c0 : Nat} (M : MX p s m args meth c RX0 G wX cX0_eventBits 3 (some .int)) (qc0 : isC c0) : ∀ (fu : Nat) (x1 : Int32) (x2 : Int32) (H : Heap) (locs : List Loc) (ls : Array Slot), fX0_eventBits_4 c0 σ fu x1 x2 = some r → FH G wX s.heap H locs σ → lv_has ls 3 [(0, .ref (gA G c0)), (1, .int x1), (2, .int x2)] → WG p l e ({ frames := 2, cells := 0, slots := 0, locals := 43 }) s m args below meth c G wX (some (.int r)) σ H locs 4 ls [] := by
  obtain ⟨X, hb, hml, hr, hlk⟩ := id M
  have hx := X.1
  intro fu
  induction fu with
  | zero =>
    intro x1 x2 H locs ls hf hF hl
    rw [fX0_eventBits_4] at hf
    cases hf
  | succ fu ih =>
    intro x1 x2 H locs ls hf hF hl
    rw [fX0_eventBits_4] at hf
    refine lv_iload_n hx hb dX0_eventBits_4 rfl (lv_at hl 2 rfl) ?_
    refine lv_aload_n hx hb dX0_eventBits_5 rfl (lv_at hl 0 rfl) ?_
    refine gf_X0_18 X hb hF (sh_C qc0) dX0_eventBits_6 ?_
    refine lv_icmp_ge (tgt := 30) hx hb dX0_eventBits_9 (by decide) (fun cd1 => ?_) (fun cd1 => ?_)
    · replace hf := ifp cd1 hf
      refine lv_iload_n hx hb dX0_eventBits_30 rfl (lv_at hl 1 rfl) ?_
      obtain rfl := Option.some.inj hf
      exact fl_iret X hb hr hlk hF dX0_eventBits_31
    · replace hf := ifn cd1 hf
      refine lv_iload_n hx hb dX0_eventBits_12 rfl (lv_at hl 1 rfl) ?_
      refine lv_aload_n hx hb dX0_eventBits_13 rfl (lv_at hl 0 rfl) ?_
      refine gf_X0_11 X hb hF (sh_C qc0) dX0_eventBits_14 ?_
      refine lv_iload_n hx hb dX0_eventBits_17 rfl (lv_at hl 2 rfl) ?_
      obtain ⟨g2, hf⟩ := grd_some hf
      refine fl_aaldH X hb hF (sh_Ca qc0) g2 dX0_eventBits_18 ?_
      obtain ⟨r4, hq3, hf⟩ := bi_some hf
      refine cm_X0_41 (As := []) (rest := [.int x1]) X hb hml hF (cX2_eventBits_ok (l := l) (G := G) X.2.2.2.2 (isH_mk qc0 g2) hq3) (sh_H (isH_mk qc0 g2)) ⟨Nat.le_of_ble_eq_true rfl, Nat.le_of_ble_eq_true rfl⟩ rfl rfl ⟨Nat.zero_le _, Nat.zero_le _⟩ rfl hl.1 rfl (Nat.le_of_ble_eq_true rfl) dX0_eventBits_19 (fun H locs hF => ?_)
      refine lv_ior hx hb dX0_eventBits_22 ?_
      refine lv_istore_n (lv' := [(1, .int (x1 ||| r4)), (0, .ref (gA G c0)), (2, .int x2)]) hx hb dX0_eventBits_23 rfl hl (by decide) rfl (fun ls hl => ?_)
      refine lv_iinc (v := x2 + (1 : Int32)) (lv' := [(2, .int (x2 + (1 : Int32))), (1, .int (x1 ||| r4)), (0, .ref (gA G c0))]) hx hb dX0_eventBits_24 hl (k := 2) rfl rfl (by decide) rfl (fun ls hl => ?_)
      refine lv_goto (tgt := 4) hx hb dX0_eventBits_27 (by decide) ?_
      exact ih (x1 ||| r4) (x2 + (1 : Int32)) _ _ _ hf hF (lv_sub hl [2, 1, 0] rfl)
set_option maxHeartbeats 4000000 in
set_option maxRecDepth 100000 in
theorem cX0_eventBits_ok {l : Launch} {G : Gl} (hI : FI G wX) {c0 : Nat} {σ : Mem} (qc0 : isC c0) {r : Int32} (hf : fX0_eventBits c0 σ = some r) : Ct l G wX yX0_eventBits cX0_eventBits 3 (some .int) ({ frames := 2, cells := 0, slots := 0, locals := 43 }) [.ref (gA G c0)] σ (some (.int r)) σ := by
  refine fl_start hI (by decide) (Nat.le_of_ble_eq_true rfl) ?_
  intro p e s m below meth c M hF ls hl
  obtain ⟨X, hb, hml, hr, hlk⟩ := id M
  have hx := X.1
  have hl : lv_has ls 3 [(0, .ref (gA G c0))] := hl
  unfold fX0_eventBits at hf
  refine lv_iconst (v := (0 : Int32)) hx hb dX0_eventBits_0 (by decide) ?_
  refine lv_istore_n (lv' := [(1, .int (0 : Int32)), (0, .ref (gA G c0))]) hx hb dX0_eventBits_1 rfl hl (by decide) rfl (fun ls hl => ?_)
  refine lv_iconst (v := (0 : Int32)) hx hb dX0_eventBits_2 (by decide) ?_
  refine lv_istore_n (lv' := [(2, .int (0 : Int32)), (1, .int (0 : Int32)), (0, .ref (gA G c0))]) hx hb dX0_eventBits_3 rfl hl (by decide) rfl (fun ls hl => ?_)
  exact bX0_eventBits_4 M qc0 FU (0 : Int32) (0 : Int32) _ _ _ hf hF (lv_sub hl [2, 1, 0] rfl)
set_option maxHeartbeats 4000000 in
set_option maxRecDepth 100000 in
theorem bX0_housesThatHave_4 {σ : Mem} {r : Int32} {c0 : Nat} (M : MX p s m args meth c RX0 G wX cX0_housesThatHave 4 (some .int)) (qc0 : isC c0) : ∀ (fu : Nat) (x1 : Int32) (x2 : Int32) (x3 : Int32) (H : Heap) (locs : List Loc) (ls : Array Slot), fX0_housesThatHave_4 c0 σ fu x1 x2 x3 = some r → FH G wX s.heap H locs σ → lv_has ls 4 [(0, .ref (gA G c0)), (1, .int x1), (2, .int x2), (3, .int x3)] → WG p l e ({ frames := 2, cells := 0, slots := 0, locals := 43 }) s m args below meth c G wX (some (.int r)) σ H locs 4 ls [] := by
  obtain ⟨X, hb, hml, hr, hlk⟩ := id M
  have hx := X.1
  intro fu
  induction fu with
  | zero =>
    intro x1 x2 x3 H locs ls hf hF hl
    rw [fX0_housesThatHave_4] at hf
    cases hf
  | succ fu ih =>
    intro x1 x2 x3 H locs ls hf hF hl
    rw [fX0_housesThatHave_4] at hf
    refine lv_iload_n hx hb dX0_housesThatHave_4 rfl (lv_at hl 3 rfl) ?_
    refine lv_aload_n hx hb dX0_housesThatHave_5 rfl (lv_at hl 0 rfl) ?_
    refine gf_X0_18 X hb hF (sh_C qc0) dX0_housesThatHave_6 ?_
    refine lv_icmp_ge (tgt := 37) hx hb dX0_housesThatHave_9 (by decide) (fun cd1 => ?_) (fun cd1 => ?_)
    · replace hf := ifp cd1 hf
      refine lv_iload_n hx hb dX0_housesThatHave_37 rfl (lv_at hl 2 rfl) ?_
      obtain rfl := Option.some.inj hf
      exact fl_iret X hb hr hlk hF dX0_housesThatHave_38
    · replace hf := ifn cd1 hf
      refine lv_aload_n hx hb dX0_housesThatHave_12 rfl (lv_at hl 0 rfl) ?_
      refine gf_X0_11 X hb hF (sh_C qc0) dX0_housesThatHave_13 ?_
      refine lv_iload_n hx hb dX0_housesThatHave_16 rfl (lv_at hl 3 rfl) ?_
      obtain ⟨g2, hf⟩ := grd_some hf
      refine fl_aaldH X hb hF (sh_Ca qc0) g2 dX0_housesThatHave_17 ?_
      refine lv_iload_n hx hb dX0_housesThatHave_18 rfl (lv_at hl 1 rfl) ?_
      obtain ⟨r4, hq3, hf⟩ := bi_some hf
      refine cm_X0_44 (As := [.int x1]) (rest := []) X hb hml hF (cX2_placeOf_ok (l := l) (G := G) X.2.2.2.2 (isH_mk qc0 g2) hq3) (sh_H (isH_mk qc0 g2)) ⟨Nat.le_of_ble_eq_true rfl, Nat.le_of_ble_eq_true rfl⟩ rfl rfl ⟨Nat.zero_le _, Nat.zero_le _⟩ rfl hl.1 rfl (Nat.le_of_ble_eq_true rfl) dX0_housesThatHave_19 (fun H locs hF => ?_)
      refine lv_if_lt (tgt := 31) hx hb dX0_housesThatHave_22 (by decide) (fun cd5 => ?_) (fun cd5 => ?_)
      · replace hf := ifp cd5 hf
        refine lv_iinc (v := x3 + (1 : Int32)) (lv' := [(3, .int (x3 + (1 : Int32))), (0, .ref (gA G c0)), (1, .int x1), (2, .int x2)]) hx hb dX0_housesThatHave_31 hl (k := 3) rfl rfl (by decide) rfl (fun ls hl => ?_)
        refine lv_goto (tgt := 4) hx hb dX0_housesThatHave_34 (by decide) ?_
        exact ih x1 x2 (x3 + (1 : Int32)) _ _ _ hf hF (lv_sub hl [1, 2, 3, 0] rfl)
      · replace hf := ifn cd5 hf
        refine lv_iload_n hx hb dX0_housesThatHave_25 rfl (lv_at hl 2 rfl) ?_
        refine lv_iconst (v := (1 : Int32)) hx hb dX0_housesThatHave_26 (by decide) ?_
        refine lv_iload_n hx hb dX0_housesThatHave_27 rfl (lv_at hl 3 rfl) ?_
        refine lv_ishl hx hb dX0_housesThatHave_28 ?_
        refine lv_ior hx hb dX0_housesThatHave_29 ?_
        refine lv_istore_n (lv' := [(2, .int (x2 ||| ((1 : Int32) <<< (x3 &&& 31)))), (0, .ref (gA G c0)), (1, .int x1), (3, .int x3)]) hx hb dX0_housesThatHave_30 rfl hl (by decide) rfl (fun ls hl => ?_)
        refine lv_iinc (v := x3 + (1 : Int32)) (lv' := [(3, .int (x3 + (1 : Int32))), (2, .int (x2 ||| ((1 : Int32) <<< (x3 &&& 31)))), (0, .ref (gA G c0)), (1, .int x1)]) hx hb dX0_housesThatHave_31 hl (k := 3) rfl rfl (by decide) rfl (fun ls hl => ?_)
        refine lv_goto (tgt := 4) hx hb dX0_housesThatHave_34 (by decide) ?_
        exact ih x1 (x2 ||| ((1 : Int32) <<< (x3 &&& 31))) (x3 + (1 : Int32)) _ _ _ hf hF (lv_sub hl [2, 3, 1, 0] rfl)
set_option maxHeartbeats 4000000 in
set_option maxRecDepth 100000 in
theorem cX0_housesThatHave_ok {l : Launch} {G : Gl} (hI : FI G wX) {c0 : Nat} {x1 : Int32} {σ : Mem} (qc0 : isC c0) {r : Int32} (hf : fX0_housesThatHave c0 x1 σ = some r) : Ct l G wX yX0_housesThatHave cX0_housesThatHave 4 (some .int) ({ frames := 2, cells := 0, slots := 0, locals := 43 }) [.ref (gA G c0), .int x1] σ (some (.int r)) σ := by
  refine fl_start hI (by decide) (Nat.le_of_ble_eq_true rfl) ?_
  intro p e s m below meth c M hF ls hl
  obtain ⟨X, hb, hml, hr, hlk⟩ := id M
  have hx := X.1
  have hl : lv_has ls 4 [(0, .ref (gA G c0)), (1, .int x1)] := hl
  unfold fX0_housesThatHave at hf
  refine lv_iconst (v := (0 : Int32)) hx hb dX0_housesThatHave_0 (by decide) ?_
  refine lv_istore_n (lv' := [(2, .int (0 : Int32)), (0, .ref (gA G c0)), (1, .int x1)]) hx hb dX0_housesThatHave_1 rfl hl (by decide) rfl (fun ls hl => ?_)
  refine lv_iconst (v := (0 : Int32)) hx hb dX0_housesThatHave_2 (by decide) ?_
  refine lv_istore_n (lv' := [(3, .int (0 : Int32)), (2, .int (0 : Int32)), (0, .ref (gA G c0)), (1, .int x1)]) hx hb dX0_housesThatHave_3 rfl hl (by decide) rfl (fun ls hl => ?_)
  exact bX0_housesThatHave_4 M qc0 FU x1 (0 : Int32) (0 : Int32) _ _ _ hf hF (lv_sub hl [2, 3, 1, 0] rfl)
end GEN
