section GEN
variable {p : Program} {l : Launch} {e : Env} {s : State} {m : MethodId} {args : Array Value} {below : List Frame} {meth : Method} {c : Code} {G : Gl}
set_option maxHeartbeats 4000000 in
set_option maxRecDepth 100000 in
theorem bX1_loseOldest_2 {σ' : Mem} (M : MX p s m args meth c RX1 G wX cX1_loseOldest 2 none) : ∀ (fu : Nat) (x1 : Int32) (σ : Mem) (H : Heap) (locs : List Loc) (ls : Array Slot), fX1_loseOldest_2 fu x1 σ = some σ' → FH G wX s.heap H locs σ → lv_has ls 2 [(0, .ref (gA G 4)), (1, .int x1)] → WG p l e ({ frames := 0, cells := 0, slots := 0, locals := 0 }) s m args below meth c G wX none σ' H locs 2 ls [] := by
  obtain ⟨X, hb, hml, hr, hlk⟩ := id M
  have hx := X.1
  intro fu
  induction fu with
  | zero =>
    intro x1 σ H locs ls hf hF hl
    rw [fX1_loseOldest_2] at hf
    cases hf
  | succ fu ih =>
    intro x1 σ H locs ls hf hF hl
    rw [fX1_loseOldest_2] at hf
    refine lv_iload_n hx hb dX1_loseOldest_2 rfl (lv_at hl 1 rfl) ?_
    refine lv_bipush (v := (10 : Int32)) hx hb dX1_loseOldest_3 (by decide) ?_
    refine lv_icmp_ge (tgt := 70) hx hb dX1_loseOldest_5 (by decide) (fun cd1 => ?_) (fun cd1 => ?_)
    · replace hf := ifp cd1 hf
      refine lv_aload_n hx hb dX1_loseOldest_70 rfl (lv_at hl 0 rfl) ?_
      refine lv_bipush (v := (9 : Int32)) hx hb dX1_loseOldest_71 (by decide) ?_
      refine pf_X1_9 X hb hF sh_X1 dX1_loseOldest_73 (fun H locs hF => ?_)
      obtain rfl := Option.some.inj hf
      exact fl_vret X hb hr hlk hF dX1_loseOldest_76
    · replace hf := ifn cd1 hf
      refine lv_aload_n hx hb dX1_loseOldest_8 rfl (lv_at hl 0 rfl) ?_
      refine gf_X1_15 X hb hF sh_X1 dX1_loseOldest_9 ?_
      refine lv_iload_n hx hb dX1_loseOldest_12 rfl (lv_at hl 1 rfl) ?_
      refine lv_iconst (v := (1 : Int32)) hx hb dX1_loseOldest_13 (by decide) ?_
      refine lv_isub hx hb dX1_loseOldest_14 ?_
      refine lv_aload_n hx hb dX1_loseOldest_15 rfl (lv_at hl 0 rfl) ?_
      refine gf_X1_15 X hb hF sh_X1 dX1_loseOldest_16 ?_
      refine lv_iload_n hx hb dX1_loseOldest_19 rfl (lv_at hl 1 rfl) ?_
      obtain ⟨g2, hf⟩ := grd_some hf
      refine fl_iald X hb hF sh_a5 g2 dX1_loseOldest_20 ?_
      obtain ⟨g3, hf⟩ := grd_some hf
      refine fl_iast X hb hF sh_a5 g3 dX1_loseOldest_21 (fun H locs hF => ?_)
      refine lv_aload_n hx hb dX1_loseOldest_22 rfl (lv_at hl 0 rfl) ?_
      refine gf_X1_19 X hb hF sh_X1 dX1_loseOldest_23 ?_
      refine lv_iload_n hx hb dX1_loseOldest_26 rfl (lv_at hl 1 rfl) ?_
      refine lv_iconst (v := (1 : Int32)) hx hb dX1_loseOldest_27 (by decide) ?_
      refine lv_isub hx hb dX1_loseOldest_28 ?_
      refine lv_aload_n hx hb dX1_loseOldest_29 rfl (lv_at hl 0 rfl) ?_
      refine gf_X1_19 X hb hF sh_X1 dX1_loseOldest_30 ?_
      refine lv_iload_n hx hb dX1_loseOldest_33 rfl (lv_at hl 1 rfl) ?_
      obtain ⟨g4, hf⟩ := grd_some hf
      refine fl_iald X hb hF sh_a6 g4 dX1_loseOldest_34 ?_
      obtain ⟨g5, hf⟩ := grd_some hf
      refine fl_iast X hb hF sh_a6 g5 dX1_loseOldest_35 (fun H locs hF => ?_)
      refine lv_aload_n hx hb dX1_loseOldest_36 rfl (lv_at hl 0 rfl) ?_
      refine gf_X1_22 X hb hF sh_X1 dX1_loseOldest_37 ?_
      refine lv_iload_n hx hb dX1_loseOldest_40 rfl (lv_at hl 1 rfl) ?_
      refine lv_iconst (v := (1 : Int32)) hx hb dX1_loseOldest_41 (by decide) ?_
      refine lv_isub hx hb dX1_loseOldest_42 ?_
      refine lv_aload_n hx hb dX1_loseOldest_43 rfl (lv_at hl 0 rfl) ?_
      refine gf_X1_22 X hb hF sh_X1 dX1_loseOldest_44 ?_
      refine lv_iload_n hx hb dX1_loseOldest_47 rfl (lv_at hl 1 rfl) ?_
      obtain ⟨g6, hf⟩ := grd_some hf
      refine fl_iald X hb hF sh_a7 g6 dX1_loseOldest_48 ?_
      obtain ⟨g7, hf⟩ := grd_some hf
      refine fl_iast X hb hF sh_a7 g7 dX1_loseOldest_49 (fun H locs hF => ?_)
      refine lv_aload_n hx hb dX1_loseOldest_50 rfl (lv_at hl 0 rfl) ?_
      refine gf_X1_25 X hb hF sh_X1 dX1_loseOldest_51 ?_
      refine lv_iload_n hx hb dX1_loseOldest_54 rfl (lv_at hl 1 rfl) ?_
      refine lv_iconst (v := (1 : Int32)) hx hb dX1_loseOldest_55 (by decide) ?_
      refine lv_isub hx hb dX1_loseOldest_56 ?_
      refine lv_aload_n hx hb dX1_loseOldest_57 rfl (lv_at hl 0 rfl) ?_
      refine gf_X1_25 X hb hF sh_X1 dX1_loseOldest_58 ?_
      refine lv_iload_n hx hb dX1_loseOldest_61 rfl (lv_at hl 1 rfl) ?_
      obtain ⟨g8, hf⟩ := grd_some hf
      refine fl_iald X hb hF sh_a8 g8 dX1_loseOldest_62 ?_
      obtain ⟨g9, hf⟩ := grd_some hf
      refine fl_iast X hb hF sh_a8 g9 dX1_loseOldest_63 (fun H locs hF => ?_)
      refine lv_iinc (v := x1 + (1 : Int32)) (lv' := [(1, .int (x1 + (1 : Int32))), (0, .ref (gA G 4))]) hx hb dX1_loseOldest_64 hl (k := 1) rfl rfl (by decide) rfl (fun ls hl => ?_)
      refine lv_goto (tgt := 2) hx hb dX1_loseOldest_67 (by decide) ?_
      exact ih (x1 + (1 : Int32)) (mup (mup (mup (mup σ 5 (x1 - (1 : Int32)).toNatClampNeg (σ 5 x1.toNatClampNeg)) 6 (x1 - (1 : Int32)).toNatClampNeg ((mup σ 5 (x1 - (1 : Int32)).toNatClampNeg (σ 5 x1.toNatClampNeg)) 6 x1.toNatClampNeg)) 7 (x1 - (1 : Int32)).toNatClampNeg ((mup (mup σ 5 (x1 - (1 : Int32)).toNatClampNeg (σ 5 x1.toNatClampNeg)) 6 (x1 - (1 : Int32)).toNatClampNeg ((mup σ 5 (x1 - (1 : Int32)).toNatClampNeg (σ 5 x1.toNatClampNeg)) 6 x1.toNatClampNeg)) 7 x1.toNatClampNeg)) 8 (x1 - (1 : Int32)).toNatClampNeg ((mup (mup (mup σ 5 (x1 - (1 : Int32)).toNatClampNeg (σ 5 x1.toNatClampNeg)) 6 (x1 - (1 : Int32)).toNatClampNeg ((mup σ 5 (x1 - (1 : Int32)).toNatClampNeg (σ 5 x1.toNatClampNeg)) 6 x1.toNatClampNeg)) 7 (x1 - (1 : Int32)).toNatClampNeg ((mup (mup σ 5 (x1 - (1 : Int32)).toNatClampNeg (σ 5 x1.toNatClampNeg)) 6 (x1 - (1 : Int32)).toNatClampNeg ((mup σ 5 (x1 - (1 : Int32)).toNatClampNeg (σ 5 x1.toNatClampNeg)) 6 x1.toNatClampNeg)) 7 x1.toNatClampNeg)) 8 x1.toNatClampNeg)) _ _ _ hf hF (lv_sub hl [1, 0] rfl)
set_option maxHeartbeats 4000000 in
set_option maxRecDepth 100000 in
theorem cX1_loseOldest_ok {l : Launch} {G : Gl} (hI : FI G wX) {σ : Mem} {σ' : Mem} (hf : fX1_loseOldest σ = some σ') : Ct l G wX yX1_loseOldest cX1_loseOldest 2 none ({ frames := 0, cells := 0, slots := 0, locals := 0 }) [.ref (gA G 4)] σ none σ' := by
  refine fl_start hI (by decide) (Nat.le_of_ble_eq_true rfl) ?_
  intro p e s m below meth c M hF ls hl
  obtain ⟨X, hb, hml, hr, hlk⟩ := id M
  have hx := X.1
  have hl : lv_has ls 2 [(0, .ref (gA G 4))] := hl
  unfold fX1_loseOldest at hf
  refine lv_iconst (v := (1 : Int32)) hx hb dX1_loseOldest_0 (by decide) ?_
  refine lv_istore_n (lv' := [(1, .int (1 : Int32)), (0, .ref (gA G 4))]) hx hb dX1_loseOldest_1 rfl hl (by decide) rfl (fun ls hl => ?_)
  exact bX1_loseOldest_2 M FU (1 : Int32) σ _ _ _ hf hF (lv_sub hl [1, 0] rfl)
set_option maxHeartbeats 4000000 in
set_option maxRecDepth 100000 in
theorem bX1_add_13 {σ' : Mem} (M : MX p s m args meth c RX1 G wX cX1_add 5 none) : ∀ (x1 : Int32) (x2 : Int32) (x3 : Int32) (x4 : Int32) (σ : Mem) (H : Heap) (locs : List Loc) (ls : Array Slot), fX1_add_13 x1 x2 x3 x4 σ = some σ' → FH G wX s.heap H locs σ → lv_has ls 5 [(0, .ref (gA G 4)), (1, .int x1), (2, .int x2), (3, .int x3), (4, .int x4)] → WG p l e ({ frames := 1, cells := 0, slots := 0, locals := 21 }) s m args below meth c G wX none σ' H locs 13 ls [] := by
  obtain ⟨X, hb, hml, hr, hlk⟩ := id M
  have hx := X.1
  intro x1 x2 x3 x4 σ H locs ls hf hF hl
  unfold fX1_add_13 at hf
  refine lv_aload_n hx hb dX1_add_13 rfl (lv_at hl 0 rfl) ?_
  refine gf_X1_15 X hb hF sh_X1 dX1_add_14 ?_
  refine lv_aload_n hx hb dX1_add_17 rfl (lv_at hl 0 rfl) ?_
  refine gf_X1_9 X hb hF sh_X1 dX1_add_18 ?_
  refine lv_iload_n hx hb dX1_add_21 rfl (lv_at hl 1 rfl) ?_
  obtain ⟨g2, hf⟩ := grd_some hf
  refine fl_iast X hb hF sh_a5 g2 dX1_add_22 (fun H locs hF => ?_)
  refine lv_aload_n hx hb dX1_add_23 rfl (lv_at hl 0 rfl) ?_
  refine gf_X1_19 X hb hF sh_X1 dX1_add_24 ?_
  refine lv_aload_n hx hb dX1_add_27 rfl (lv_at hl 0 rfl) ?_
  refine gf_X1_9 X hb hF sh_X1 dX1_add_28 ?_
  refine lv_iload_n hx hb dX1_add_31 rfl (lv_at hl 2 rfl) ?_
  obtain ⟨g3, hf⟩ := grd_some hf
  refine fl_iast X hb hF sh_a6 g3 dX1_add_32 (fun H locs hF => ?_)
  refine lv_aload_n hx hb dX1_add_33 rfl (lv_at hl 0 rfl) ?_
  refine gf_X1_22 X hb hF sh_X1 dX1_add_34 ?_
  refine lv_aload_n hx hb dX1_add_37 rfl (lv_at hl 0 rfl) ?_
  refine gf_X1_9 X hb hF sh_X1 dX1_add_38 ?_
  refine lv_iload_n hx hb dX1_add_41 rfl (lv_at hl 3 rfl) ?_
  obtain ⟨g4, hf⟩ := grd_some hf
  refine fl_iast X hb hF sh_a7 g4 dX1_add_42 (fun H locs hF => ?_)
  refine lv_aload_n hx hb dX1_add_43 rfl (lv_at hl 0 rfl) ?_
  refine gf_X1_25 X hb hF sh_X1 dX1_add_44 ?_
  refine lv_aload_n hx hb dX1_add_47 rfl (lv_at hl 0 rfl) ?_
  refine gf_X1_9 X hb hF sh_X1 dX1_add_48 ?_
  refine lv_iload hx hb dX1_add_51 (lv_at hl 4 rfl) ?_
  obtain ⟨g5, hf⟩ := grd_some hf
  refine fl_iast X hb hF sh_a8 g5 dX1_add_53 (fun H locs hF => ?_)
  refine lv_aload_n hx hb dX1_add_54 rfl (lv_at hl 0 rfl) ?_
  refine lv_dup hx hb dX1_add_55 rfl ?_
  refine gf_X1_9 X hb hF sh_X1 dX1_add_56 ?_
  refine lv_iconst (v := (1 : Int32)) hx hb dX1_add_59 (by decide) ?_
  refine lv_iadd hx hb dX1_add_60 ?_
  refine pf_X1_9 X hb hF sh_X1 dX1_add_61 (fun H locs hF => ?_)
  obtain rfl := Option.some.inj hf
  exact fl_vret X hb hr hlk hF dX1_add_64
set_option maxHeartbeats 4000000 in
set_option maxRecDepth 100000 in
theorem cX1_add_ok {l : Launch} {G : Gl} (hI : FI G wX) {x1 : Int32} {x2 : Int32} {x3 : Int32} {x4 : Int32} {σ : Mem} {σ' : Mem} (hf : fX1_add x1 x2 x3 x4 σ = some σ') : Ct l G wX yX1_add cX1_add 5 none ({ frames := 1, cells := 0, slots := 0, locals := 21 }) [.ref (gA G 4), .int x1, .int x2, .int x3, .int x4] σ none σ' := by
  refine fl_start hI (by decide) (Nat.le_of_ble_eq_true rfl) ?_
  intro p e s m below meth c M hF ls hl
  obtain ⟨X, hb, hml, hr, hlk⟩ := id M
  have hx := X.1
  have hl : lv_has ls 5 [(0, .ref (gA G 4)), (1, .int x1), (2, .int x2), (3, .int x3), (4, .int x4)] := hl
  unfold fX1_add at hf
  refine lv_aload_n hx hb dX1_add_0 rfl (lv_at hl 0 rfl) ?_
  refine gf_X1_9 X hb hF sh_X1 dX1_add_1 ?_
  refine lv_bipush (v := (10 : Int32)) hx hb dX1_add_4 (by decide) ?_
  refine lv_icmp_lt (tgt := 13) hx hb dX1_add_6 (by decide) (fun cd1 => ?_) (fun cd1 => ?_)
  · replace hf := ifp cd1 hf
    exact bX1_add_13 M x1 x2 x3 x4 σ _ _ _ hf hF (lv_sub hl [0, 1, 2, 3, 4] rfl)
  · replace hf := ifn cd1 hf
    refine lv_aload_n hx hb dX1_add_9 rfl (lv_at hl 0 rfl) ?_
    obtain ⟨σ7, hq6, hf⟩ := bv_some hf
    refine cm_X1_28 (As := []) (rest := []) X hb hml hF (cX1_loseOldest_ok (l := l) (G := G) X.2.2.2.2 hq6) sh_X1 ⟨Nat.le_of_ble_eq_true rfl, Nat.le_of_ble_eq_true rfl⟩ rfl rfl ⟨Nat.zero_le _, Nat.zero_le _⟩ rfl hl.1 rfl (Nat.le_of_ble_eq_true rfl) dX1_add_10 (fun H locs hF => ?_)
    exact bX1_add_13 M x1 x2 x3 x4 σ7 _ _ _ hf hF (lv_sub hl [0, 1, 2, 3, 4] rfl)
set_option maxHeartbeats 4000000 in
set_option maxRecDepth 100000 in
theorem cX1_takeBackEntry_ok {l : Launch} {G : Gl} (hI : FI G wX) {h1 : Nat} {x2 : Int32} {σ : Mem} (qh1 : isH h1) {σ' : Mem} (hf : fX1_takeBackEntry h1 x2 σ = some σ') : Ct l G wX yX1_takeBackEntry cX1_takeBackEntry 3 none ({ frames := 1, cells := 0, slots := 0, locals := 21 }) [.ref (gA G 4), .ref (gA G h1), .int x2] σ none σ' := by
  refine fl_start hI (by decide) (Nat.le_of_ble_eq_true rfl) ?_
  intro p e s m below meth c M hF ls hl
  obtain ⟨X, hb, hml, hr, hlk⟩ := id M
  have hx := X.1
  have hl : lv_has ls 3 [(0, .ref (gA G 4)), (1, .ref (gA G h1)), (2, .int x2)] := hl
  unfold fX1_takeBackEntry at hf
  refine lv_aload_n hx hb dX1_takeBackEntry_0 rfl (lv_at hl 0 rfl) ?_
  refine gf_X1_15 X hb hF sh_X1 dX1_takeBackEntry_1 ?_
  refine lv_aload_n hx hb dX1_takeBackEntry_4 rfl (lv_at hl 0 rfl) ?_
  refine gf_X1_9 X hb hF sh_X1 dX1_takeBackEntry_5 ?_
  obtain ⟨g1, hf⟩ := grd_some hf
  refine fl_iald X hb hF sh_a5 g1 dX1_takeBackEntry_8 ?_
  refine lv_if_ne (tgt := 20) hx hb dX1_takeBackEntry_9 (by decide) (fun cd2 => ?_) (fun cd2 => ?_)
  · replace hf := ifn cd2 hf
    refine lv_aload_n hx hb dX1_takeBackEntry_20 rfl (lv_at hl 1 rfl) ?_
    refine gf_X1_54 X hb hF (sh_H qh1) dX1_takeBackEntry_21 ?_
    refine lv_iload_n hx hb dX1_takeBackEntry_24 rfl (lv_at hl 2 rfl) ?_
    refine lv_aload_n hx hb dX1_takeBackEntry_25 rfl (lv_at hl 0 rfl) ?_
    refine gf_X1_25 X hb hF sh_X1 dX1_takeBackEntry_26 ?_
    refine lv_aload_n hx hb dX1_takeBackEntry_29 rfl (lv_at hl 0 rfl) ?_
    refine gf_X1_9 X hb hF sh_X1 dX1_takeBackEntry_30 ?_
    obtain ⟨g3, hf⟩ := grd_some hf
    refine fl_iald X hb hF sh_a8 g3 dX1_takeBackEntry_33 ?_
    obtain ⟨g4, hf⟩ := grd_some hf
    refine fl_iast X hb hF (sh_Hy qh1) g4 dX1_takeBackEntry_34 (fun H locs hF => ?_)
    obtain rfl := Option.some.inj hf
    exact fl_vret X hb hr hlk hF dX1_takeBackEntry_35
  · replace hf := ifp cd2 hf
    refine lv_aload_n hx hb dX1_takeBackEntry_12 rfl (lv_at hl 1 rfl) ?_
    refine lv_iload_n hx hb dX1_takeBackEntry_13 rfl (lv_at hl 2 rfl) ?_
    obtain ⟨σ6, hq5, hf⟩ := bv_some hf
    refine cm_X1_48 (As := [.int x2]) (rest := []) X hb hml hF (cX2_turn_ok (l := l) (G := G) X.2.2.2.2 qh1 hq5) (sh_H qh1) ⟨Nat.le_of_ble_eq_true rfl, Nat.le_of_ble_eq_true rfl⟩ rfl rfl ⟨Nat.zero_le _, Nat.zero_le _⟩ rfl hl.1 rfl (Nat.le_of_ble_eq_true rfl) dX1_takeBackEntry_14 (fun H locs hF => ?_)
    refine lv_goto (tgt := 35) hx hb dX1_takeBackEntry_17 (by decide) ?_
    obtain rfl := Option.some.inj hf
    exact fl_vret X hb hr hlk hF dX1_takeBackEntry_35
set_option maxHeartbeats 4000000 in
set_option maxRecDepth 100000 in
theorem cX1_takeBack_ok {l : Launch} {G : Gl} (hI : FI G wX) {c1 : Nat} {σ : Mem} (qc1 : isC c1) {σ' : Mem} (hf : fX1_takeBack c1 σ = some σ') : Ct l G wX yX1_takeBack cX1_takeBack 4 none ({ frames := 2, cells := 0, slots := 0, locals := 43 }) [.ref (gA G 4), .ref (gA G c1)] σ none σ' := by
  refine fl_start hI (by decide) (Nat.le_of_ble_eq_true rfl) ?_
  intro p e s m below meth c M hF ls hl
  obtain ⟨X, hb, hml, hr, hlk⟩ := id M
  have hx := X.1
  have hl : lv_has ls 4 [(0, .ref (gA G 4)), (1, .ref (gA G c1))] := hl
  unfold fX1_takeBack at hf
  refine lv_aload_n hx hb dX1_takeBack_0 rfl (lv_at hl 0 rfl) ?_
  refine gf_X1_9 X hb hF sh_X1 dX1_takeBack_1 ?_
  refine lv_if_gt (tgt := 8) hx hb dX1_takeBack_4 (by decide) (fun cd1 => ?_) (fun cd1 => ?_)
  · replace hf := ifp cd1 hf
    refine lv_aload_n hx hb dX1_takeBack_8 rfl (lv_at hl 0 rfl) ?_
    refine lv_dup hx hb dX1_takeBack_9 rfl ?_
    refine gf_X1_9 X hb hF sh_X1 dX1_takeBack_10 ?_
    refine lv_iconst (v := (1 : Int32)) hx hb dX1_takeBack_13 (by decide) ?_
    refine lv_isub hx hb dX1_takeBack_14 ?_
    refine pf_X1_9 X hb hF sh_X1 dX1_takeBack_15 (fun H locs hF => ?_)
    refine lv_aload_n hx hb dX1_takeBack_18 rfl (lv_at hl 0 rfl) ?_
    refine gf_X1_19 X hb hF sh_X1 dX1_takeBack_19 ?_
    refine lv_aload_n hx hb dX1_takeBack_22 rfl (lv_at hl 0 rfl) ?_
    refine gf_X1_9 X hb hF sh_X1 dX1_takeBack_23 ?_
    obtain ⟨g2, hf⟩ := grd_some hf
    refine fl_iald X hb hF sh_a6 g2 dX1_takeBack_26 ?_
    refine lv_istore_n (lv' := [(2, .int ((mup σ 4 0 ((σ 4 0) - (1 : Int32))) 6 ((mup σ 4 0 ((σ 4 0) - (1 : Int32))) 4 0).toNatClampNeg)), (0, .ref (gA G 4)), (1, .ref (gA G c1))]) hx hb dX1_takeBack_27 rfl hl (by decide) rfl (fun ls hl => ?_)
    refine lv_aload_n hx hb dX1_takeBack_28 rfl (lv_at hl 1 rfl) ?_
    refine gf_X1_22 X hb hF sh_X1 dX1_takeBack_29 ?_
    refine lv_aload_n hx hb dX1_takeBack_32 rfl (lv_at hl 1 rfl) ?_
    refine gf_X1_9 X hb hF sh_X1 dX1_takeBack_33 ?_
    obtain ⟨g3, hf⟩ := grd_some hf
    refine fl_iald X hb hF sh_a7 g3 dX1_takeBack_36 ?_
    refine lv_istore_n (lv' := [(3, .int ((mup σ 4 0 ((σ 4 0) - (1 : Int32))) 7 ((mup σ 4 0 ((σ 4 0) - (1 : Int32))) 4 0).toNatClampNeg)), (2, .int ((mup σ 4 0 ((σ 4 0) - (1 : Int32))) 6 ((mup σ 4 0 ((σ 4 0) - (1 : Int32))) 4 0).toNatClampNeg)), (0, .ref (gA G 4)), (1, .ref (gA G c1))]) hx hb dX1_takeBack_37 rfl hl (by decide) rfl (fun ls hl => ?_)
    refine lv_aload_n hx hb dX1_takeBack_38 rfl (lv_at hl 2 rfl) ?_
    refine gf_X1_15 X hb hF sh_X1 dX1_takeBack_39 ?_
    refine lv_aload_n hx hb dX1_takeBack_42 rfl (lv_at hl 2 rfl) ?_
    refine gf_X1_9 X hb hF sh_X1 dX1_takeBack_43 ?_
    obtain ⟨g4, hf⟩ := grd_some hf
    refine fl_iald X hb hF sh_a5 g4 dX1_takeBack_46 ?_
    refine lv_iconst (v := (2 : Int32)) hx hb dX1_takeBack_47 (by decide) ?_
    refine lv_icmp_ne (tgt := 67) hx hb dX1_takeBack_48 (by decide) (fun cd5 => ?_) (fun cd5 => ?_)
    · replace hf := ifn cd5 hf
      refine lv_aload_n hx hb dX1_takeBack_67 rfl (lv_at hl 3 rfl) ?_
      refine lv_iload_n hx hb dX1_takeBack_68 rfl (lv_at hl 1 rfl) ?_
      refine lv_iload_n hx hb dX1_takeBack_69 rfl (lv_at hl 0 rfl) ?_
      obtain ⟨r7, hq6, hf⟩ := bi_some hf
      refine cm_X1_36 (As := [.int ((mup σ 4 0 ((σ 4 0) - (1 : Int32))) 6 ((mup σ 4 0 ((σ 4 0) - (1 : Int32))) 4 0).toNatClampNeg), .int ((mup σ 4 0 ((σ 4 0) - (1 : Int32))) 7 ((mup σ 4 0 ((σ 4 0) - (1 : Int32))) 4 0).toNatClampNeg)]) (rest := []) X hb hml hF (cX0_hasEntry_ok (l := l) (G := G) X.2.2.2.2 qc1 hq6) (sh_C qc1) ⟨Nat.le_of_ble_eq_true rfl, Nat.le_of_ble_eq_true rfl⟩ rfl rfl ⟨Nat.zero_le _, Nat.zero_le _⟩ rfl hl.1 rfl (Nat.le_of_ble_eq_true rfl) dX1_takeBack_70 (fun H locs hF => ?_)
      refine lv_if_eq (tgt := 87) hx hb dX1_takeBack_73 (by decide) (fun cd8 => ?_) (fun cd8 => ?_)
      · replace hf := ifp cd8 hf
        obtain rfl := Option.some.inj hf
        exact fl_vret X hb hr hlk hF dX1_takeBack_87
      · replace hf := ifn cd8 hf
        refine lv_aload_n hx hb dX1_takeBack_76 rfl (lv_at hl 2 rfl) ?_
        refine lv_aload_n hx hb dX1_takeBack_77 rfl (lv_at hl 3 rfl) ?_
        refine gf_X1_40 X hb hF (sh_C qc1) dX1_takeBack_78 ?_
        refine lv_iload_n hx hb dX1_takeBack_81 rfl (lv_at hl 1 rfl) ?_
        obtain ⟨g9, hf⟩ := grd_some hf
        refine fl_aaldH X hb hF (sh_Ca qc1) g9 dX1_takeBack_82 ?_
        refine lv_iload_n hx hb dX1_takeBack_83 rfl (lv_at hl 0 rfl) ?_
        obtain ⟨σ11, hq10, hf⟩ := bv_some hf
        refine cm_X1_44 (As := [.ref (gA G (c1 + 2 + 3 * ((mup σ 4 0 ((σ 4 0) - (1 : Int32))) 6 ((mup σ 4 0 ((σ 4 0) - (1 : Int32))) 4 0).toNatClampNeg).toNatClampNeg)), .int ((mup σ 4 0 ((σ 4 0) - (1 : Int32))) 7 ((mup σ 4 0 ((σ 4 0) - (1 : Int32))) 4 0).toNatClampNeg)]) (rest := []) X hb hml hF (cX1_takeBackEntry_ok (l := l) (G := G) X.2.2.2.2 (isH_mk qc1 g9) hq10) sh_X1 ⟨Nat.le_of_ble_eq_true rfl, Nat.le_of_ble_eq_true rfl⟩ rfl rfl ⟨Nat.zero_le _, Nat.zero_le _⟩ rfl hl.1 rfl (Nat.le_of_ble_eq_true rfl) dX1_takeBack_84 (fun H locs hF => ?_)
        obtain rfl := Option.some.inj hf
        exact fl_vret X hb hr hlk hF dX1_takeBack_87
    · replace hf := ifp cd5 hf
      refine lv_aload_n hx hb dX1_takeBack_51 rfl (lv_at hl 3 rfl) ?_
      refine lv_aload_n hx hb dX1_takeBack_52 rfl (lv_at hl 2 rfl) ?_
      refine gf_X1_25 X hb hF sh_X1 dX1_takeBack_53 ?_
      refine lv_aload_n hx hb dX1_takeBack_56 rfl (lv_at hl 2 rfl) ?_
      refine gf_X1_9 X hb hF sh_X1 dX1_takeBack_57 ?_
      obtain ⟨g12, hf⟩ := grd_some hf
      refine fl_iald X hb hF sh_a8 g12 dX1_takeBack_60 ?_
      refine pf_X1_31 X hb hF (sh_C qc1) dX1_takeBack_61 (fun H locs hF => ?_)
      refine lv_goto (tgt := 87) hx hb dX1_takeBack_64 (by decide) ?_
      obtain rfl := Option.some.inj hf
      exact fl_vret X hb hr hlk hF dX1_takeBack_87
  · replace hf := ifn cd1 hf
    obtain rfl := Option.some.inj hf
    exact fl_vret X hb hr hlk hF dX1_takeBack_7
end GEN
