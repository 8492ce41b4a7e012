section GEN
variable {p : Program} {l : Launch} {e : Env} {s : State} {m : MethodId} {args : Array Value} {below : List Frame} {meth : Method} {c : Code} {G : Gl}
set_option maxHeartbeats 4000000 in
set_option maxRecDepth 100000 in
theorem cX6_type_ok {l : Launch} {G : Gl} (hI : FI G wX) {x1 : Int32} {σ : Mem} {r : Int32} {σ' : Mem} (hf : fX6_type x1 σ = some (r, σ')) : Ct l G wX yX6_type cX6_type 2 (some .int) ({ frames := 1, cells := 0, slots := 0, locals := 21 }) [.ref (gA G 0), .int x1] σ (some (.int r)) σ' := by
  refine fl_start hI (by decide) (Nat.le_of_ble_eq_true rfl) ?_
  intro p e s m below meth c M hF ls hl
  obtain ⟨X, hb, hml, hr, hlk⟩ := id M
  have hx := X.1
  have hl : lv_has ls 2 [(0, .ref (gA G 0)), (1, .int x1)] := hl
  unfold fX6_type at hf
  refine lv_iload_n hx hb dX6_type_0 rfl (lv_at hl 1 rfl) ?_
  refine lv_if_lt (tgt := 11) hx hb dX6_type_1 (by decide) (fun cd1 => ?_) (fun cd1 => ?_)
  · replace hf := ifp cd1 hf
    refine lv_iconst (v := (-1 : Int32)) hx hb dX6_type_11 (by decide) ?_
    obtain ⟨rfl, rfl⟩ := Prod.mk.inj (Option.some.inj hf)
    exact fl_iret X hb hr hlk hF dX6_type_12
  · replace hf := ifn cd1 hf
    refine lv_iload_n hx hb dX6_type_4 rfl (lv_at hl 1 rfl) ?_
    refine lv_sipush (v := (255 : Int32)) hx hb dX6_type_5 (by decide) ?_
    refine lv_icmp_le (tgt := 13) hx hb dX6_type_8 (by decide) (fun cd2 => ?_) (fun cd2 => ?_)
    · replace hf := ifp cd2 hf
      refine lv_aload_n hx hb dX6_type_13 rfl (lv_at hl 0 rfl) ?_
      refine gf_X6_10 X hb hF sh_X6 dX6_type_14 ?_
      refine lv_iload_n hx hb dX6_type_17 rfl (lv_at hl 1 rfl) ?_
      obtain ⟨r4, σ5, hq3, hf⟩ := bm_some hf
      refine cm_X6_65 (As := [.int x1]) (rest := []) X hb hml hF (cX5_put_ok (l := l) (G := G) X.2.2.2.2 hq3) sh_X5 ⟨Nat.le_of_ble_eq_true rfl, Nat.le_of_ble_eq_true rfl⟩ rfl rfl ⟨Nat.zero_le _, Nat.zero_le _⟩ rfl hl.1 rfl (Nat.le_of_ble_eq_true rfl) dX6_type_18 (fun H locs hF => ?_)
      refine lv_if_eq (tgt := 34) hx hb dX6_type_21 (by decide) (fun cd6 => ?_) (fun cd6 => ?_)
      · replace hf := ifp cd6 hf
        refine lv_bipush (v := (-3 : Int32)) hx hb dX6_type_34 (by decide) ?_
        obtain ⟨rfl, rfl⟩ := Prod.mk.inj (Option.some.inj hf)
        exact fl_iret X hb hr hlk hF dX6_type_36
      · replace hf := ifn cd6 hf
        refine lv_aload_n hx hb dX6_type_24 rfl (lv_at hl 0 rfl) ?_
        refine gf_X6_10 X hb hF sh_X6 dX6_type_25 ?_
        refine gf_X6_69 X hb hF sh_X5 dX6_type_28 ?_
        refine lv_goto (tgt := 36) hx hb dX6_type_31 (by decide) ?_
        obtain ⟨rfl, rfl⟩ := Prod.mk.inj (Option.some.inj hf)
        exact fl_iret X hb hr hlk hF dX6_type_36
    · replace hf := ifn cd2 hf
      refine lv_iconst (v := (-1 : Int32)) hx hb dX6_type_11 (by decide) ?_
      obtain ⟨rfl, rfl⟩ := Prod.mk.inj (Option.some.inj hf)
      exact fl_iret X hb hr hlk hF dX6_type_12
set_option maxHeartbeats 4000000 in
set_option maxRecDepth 100000 in
theorem cX6_clear_ok {l : Launch} {G : Gl} (hI : FI G wX) {σ : Mem} {r : Int32} {σ' : Mem} (hf : fX6_clear σ = some (r, σ')) : Ct l G wX yX6_clear cX6_clear 2 (some .int) ({ frames := 0, cells := 0, slots := 0, locals := 0 }) [.ref (gA G 0)] σ (some (.int r)) σ' := by
  refine fl_start hI (by decide) (Nat.le_of_ble_eq_true rfl) ?_
  intro p e s m below meth c M hF ls hl
  obtain ⟨X, hb, hml, hr, hlk⟩ := id M
  have hx := X.1
  have hl : lv_has ls 2 [(0, .ref (gA G 0))] := hl
  unfold fX6_clear at hf
  refine lv_aload_n hx hb dX6_clear_0 rfl (lv_at hl 0 rfl) ?_
  refine gf_X6_10 X hb hF sh_X6 dX6_clear_1 ?_
  refine gf_X6_69 X hb hF sh_X5 dX6_clear_4 ?_
  refine lv_istore_n (lv' := [(1, .int (σ 1 0)), (0, .ref (gA G 0))]) hx hb dX6_clear_7 rfl hl (by decide) rfl (fun ls hl => ?_)
  refine lv_aload_n hx hb dX6_clear_8 rfl (lv_at hl 1 rfl) ?_
  refine gf_X6_10 X hb hF sh_X6 dX6_clear_9 ?_
  refine lv_iconst (v := (0 : Int32)) hx hb dX6_clear_12 (by decide) ?_
  refine pf_X6_69 X hb hF sh_X5 dX6_clear_13 (fun H locs hF => ?_)
  refine lv_iload_n hx hb dX6_clear_16 rfl (lv_at hl 0 rfl) ?_
  obtain ⟨rfl, rfl⟩ := Prod.mk.inj (Option.some.inj hf)
  exact fl_iret X hb hr hlk hF dX6_clear_17
set_option maxHeartbeats 4000000 in
set_option maxRecDepth 100000 in
theorem cX6_houses_ok {l : Launch} {G : Gl} (hI : FI G wX) {σ : Mem} {r : Int32} {σ' : Mem} (hf : fX6_houses σ = some (r, σ')) : Ct l G wX yX6_houses cX6_houses 2 (some .int) ({ frames := 5, cells := 0, slots := 0, locals := 108 }) [.ref (gA G 0)] σ (some (.int r)) σ' := by
  refine fl_start hI (by decide) (Nat.le_of_ble_eq_true rfl) ?_
  intro p e s m below meth c M hF ls hl
  obtain ⟨X, hb, hml, hr, hlk⟩ := id M
  have hx := X.1
  have hl : lv_has ls 2 [(0, .ref (gA G 0))] := hl
  unfold fX6_houses at hf
  refine lv_aload_n hx hb dX6_houses_0 rfl (lv_at hl 0 rfl) ?_
  refine gf_X6_10 X hb hF sh_X6 dX6_houses_1 ?_
  refine lv_aload_n hx hb dX6_houses_4 rfl (lv_at hl 0 rfl) ?_
  refine gf_X6_23 X hb hF sh_X6 dX6_houses_5 ?_
  obtain ⟨r2, σ3, hq1, hf⟩ := bm_some hf
  refine cm_X6_72 (As := [.ref (gA G 31)]) (rest := []) X hb hml hF (cX5_read_ok (l := l) (G := G) X.2.2.2.2 isC_31 hq1) sh_X5 ⟨Nat.le_of_ble_eq_true rfl, Nat.le_of_ble_eq_true rfl⟩ rfl rfl ⟨Nat.zero_le _, Nat.zero_le _⟩ rfl hl.1 rfl (Nat.le_of_ble_eq_true rfl) dX6_houses_8 (fun H locs hF => ?_)
  refine lv_istore_n (lv' := [(1, .int r2), (0, .ref (gA G 0))]) hx hb dX6_houses_11 rfl hl (by decide) rfl (fun ls hl => ?_)
  refine lv_iload_n hx hb dX6_houses_12 rfl (lv_at hl 0 rfl) ?_
  refine lv_if_ge (tgt := 18) hx hb dX6_houses_13 (by decide) (fun cd4 => ?_) (fun cd4 => ?_)
  · replace hf := ifp cd4 hf
    refine lv_aload_n hx hb dX6_houses_18 rfl (lv_at hl 1 rfl) ?_
    refine gf_X6_19 X hb hF sh_X6 dX6_houses_19 ?_
    refine lv_aload_n hx hb dX6_houses_22 rfl (lv_at hl 1 rfl) ?_
    refine gf_X6_23 X hb hF sh_X6 dX6_houses_23 ?_
    obtain ⟨σ6, hq5, hf⟩ := bv_some hf
    refine cm_X6_76 (As := [.ref (gA G 31)]) (rest := []) X hb hml hF (cX0_copy_ok (l := l) (G := G) X.2.2.2.2 isC_17 isC_31 hq5) (sh_C isC_17) ⟨Nat.le_of_ble_eq_true rfl, Nat.le_of_ble_eq_true rfl⟩ rfl rfl ⟨Nat.zero_le _, Nat.zero_le _⟩ rfl hl.1 rfl (Nat.le_of_ble_eq_true rfl) dX6_houses_26 (fun H locs hF => ?_)
    refine lv_aload_n hx hb dX6_houses_29 rfl (lv_at hl 1 rfl) ?_
    refine gf_X6_10 X hb hF sh_X6 dX6_houses_30 ?_
    refine lv_iconst (v := (0 : Int32)) hx hb dX6_houses_33 (by decide) ?_
    refine pf_X6_69 X hb hF sh_X5 dX6_houses_34 (fun H locs hF => ?_)
    refine lv_aload_n hx hb dX6_houses_37 rfl (lv_at hl 1 rfl) ?_
    refine lv_iconst (v := (0 : Int32)) hx hb dX6_houses_38 (by decide) ?_
    refine pf_X6_30 X hb hF sh_X6 dX6_houses_39 (fun H locs hF => ?_)
    refine lv_aload_n hx hb dX6_houses_42 rfl (lv_at hl 1 rfl) ?_
    refine gf_X6_37 X hb hF sh_X6 dX6_houses_43 ?_
    refine lv_iconst (v := (0 : Int32)) hx hb dX6_houses_46 (by decide) ?_
    refine pf_X6_80 X hb hF sh_X1 dX6_houses_47 (fun H locs hF => ?_)
    refine lv_aload_n hx hb dX6_houses_50 rfl (lv_at hl 1 rfl) ?_
    refine lv_iconst (v := (0 : Int32)) hx hb dX6_houses_51 (by decide) ?_
    refine pf_X6_62 X hb hF sh_X6 dX6_houses_52 (fun H locs hF => ?_)
    refine lv_iload_n hx hb dX6_houses_55 rfl (lv_at hl 0 rfl) ?_
    obtain ⟨rfl, rfl⟩ := Prod.mk.inj (Option.some.inj hf)
    exact fl_iret X hb hr hlk hF dX6_houses_56
  · replace hf := ifn cd4 hf
    refine lv_iload_n hx hb dX6_houses_16 rfl (lv_at hl 0 rfl) ?_
    obtain ⟨rfl, rfl⟩ := Prod.mk.inj (Option.some.inj hf)
    exact fl_iret X hb hr hlk hF dX6_houses_17
set_option maxHeartbeats 4000000 in
set_option maxRecDepth 100000 in
theorem cX6_entry_ok {l : Launch} {G : Gl} (hI : FI G wX) {x1 : Int32} {x2 : Int32} {x3 : Int32} {σ : Mem} {r : Int32} (hf : fX6_entry x1 x2 x3 σ = some r) : Ct l G wX yX6_entry cX6_entry 5 (some .int) ({ frames := 2, cells := 0, slots := 0, locals := 43 }) [.ref (gA G 0), .int x1, .int x2, .int x3] σ (some (.int r)) σ := by
  refine fl_start hI (by decide) (Nat.le_of_ble_eq_true rfl) ?_
  intro p e s m below meth c M hF ls hl
  obtain ⟨X, hb, hml, hr, hlk⟩ := id M
  have hx := X.1
  have hl : lv_has ls 5 [(0, .ref (gA G 0)), (1, .int x1), (2, .int x2), (3, .int x3)] := hl
  unfold fX6_entry at hf
  refine lv_aload_n hx hb dX6_entry_0 rfl (lv_at hl 0 rfl) ?_
  refine gf_X6_19 X hb hF sh_X6 dX6_entry_1 ?_
  refine lv_iload_n hx hb dX6_entry_4 rfl (lv_at hl 1 rfl) ?_
  refine lv_iload_n hx hb dX6_entry_5 rfl (lv_at hl 2 rfl) ?_
  obtain ⟨r2, hq1, hf⟩ := bi_some hf
  refine cm_X6_81 (As := [.int x1, .int x2]) (rest := []) X hb hml hF (cX0_hasEntry_ok (l := l) (G := G) X.2.2.2.2 isC_17 hq1) (sh_C isC_17) ⟨Nat.le_of_ble_eq_true rfl, Nat.le_of_ble_eq_true rfl⟩ rfl rfl ⟨Nat.zero_le _, Nat.zero_le _⟩ rfl hl.1 rfl (Nat.le_of_ble_eq_true rfl) dX6_entry_6 (fun H locs hF => ?_)
  refine lv_if_ne (tgt := 14) hx hb dX6_entry_9 (by decide) (fun cd3 => ?_) (fun cd3 => ?_)
  · replace hf := ifn cd3 hf
    refine lv_aload_n hx hb dX6_entry_14 rfl (lv_at hl 0 rfl) ?_
    refine gf_X6_19 X hb hF sh_X6 dX6_entry_15 ?_
    refine gf_X6_85 X hb hF (sh_C isC_17) dX6_entry_18 ?_
    refine lv_iload_n hx hb dX6_entry_21 rfl (lv_at hl 1 rfl) ?_
    obtain ⟨g4, hf⟩ := grd_some hf
    refine fl_aaldH X hb hF (sh_Ca isC_17) g4 dX6_entry_22 ?_
    refine lv_astore (lv' := [(4, .ref (gA G (17 + 2 + 3 * x1.toNatClampNeg))), (0, .ref (gA G 0)), (1, .int x1), (2, .int x2), (3, .int x3)]) hx hb dX6_entry_23 hl (by decide) rfl (fun ls hl => ?_)
    refine lv_iload_n hx hb dX6_entry_25 rfl (lv_at hl 4 rfl) ?_
    by_cases cd5 : x3 = (0 : Int32)
    · replace hf := ifp cd5 hf
      refine lv_tableIn (tgt := 52) (off := 26) hx hb dX6_entry_26 (by rw [cd5]; decide) (by rw [cd5]; decide) (by rw [cd5]; rfl) (by decide) ?_
      refine lv_aload hx hb dX6_entry_52 (lv_at hl 0 rfl) ?_
      refine gf_X6_89 X hb hF (sh_H (isH_mk isC_17 g4)) dX6_entry_54 ?_
      refine lv_iload_n hx hb dX6_entry_57 rfl (lv_at hl 3 rfl) ?_
      obtain ⟨g6, hf⟩ := grd_some hf
      refine fl_iald X hb hF (sh_He (isH_mk isC_17 g4)) g6 dX6_entry_58 ?_
      obtain rfl := Option.some.inj hf
      exact fl_iret X hb hr hlk hF dX6_entry_59
    · replace hf := ifn cd5 hf
      by_cases cd7 : x3 = (1 : Int32)
      · replace hf := ifp cd7 hf
        refine lv_tableIn (tgt := 60) (off := 34) hx hb dX6_entry_26 (by rw [cd7]; decide) (by rw [cd7]; decide) (by rw [cd7]; rfl) (by decide) ?_
        refine lv_aload hx hb dX6_entry_60 (lv_at hl 0 rfl) ?_
        refine gf_X6_94 X hb hF (sh_H (isH_mk isC_17 g4)) dX6_entry_62 ?_
        refine lv_iload_n hx hb dX6_entry_65 rfl (lv_at hl 3 rfl) ?_
        obtain ⟨g8, hf⟩ := grd_some hf
        refine fl_iald X hb hF (sh_Hy (isH_mk isC_17 g4)) g8 dX6_entry_66 ?_
        obtain rfl := Option.some.inj hf
        exact fl_iret X hb hr hlk hF dX6_entry_67
      · replace hf := ifn cd7 hf
        by_cases cd9 : x3 = (2 : Int32)
        · replace hf := ifp cd9 hf
          refine lv_tableIn (tgt := 68) (off := 42) hx hb dX6_entry_26 (by rw [cd9]; decide) (by rw [cd9]; decide) (by rw [cd9]; rfl) (by decide) ?_
          refine lv_aload hx hb dX6_entry_68 (lv_at hl 0 rfl) ?_
          refine lv_iload_n hx hb dX6_entry_70 rfl (lv_at hl 3 rfl) ?_
          obtain ⟨r11, hq10, hf⟩ := bi_some hf
          refine cm_X6_97 (As := [.int x2]) (rest := []) X hb hml hF (cX2_isStruck_ok (l := l) (G := G) X.2.2.2.2 (isH_mk isC_17 g4) hq10) (sh_H (isH_mk isC_17 g4)) ⟨Nat.le_of_ble_eq_true rfl, Nat.le_of_ble_eq_true rfl⟩ rfl rfl ⟨Nat.zero_le _, Nat.zero_le _⟩ rfl hl.1 rfl (Nat.le_of_ble_eq_true rfl) dX6_entry_71 (fun H locs hF => ?_)
          refine lv_if_eq (tgt := 81) hx hb dX6_entry_74 (by decide) (fun cd12 => ?_) (fun cd12 => ?_)
          · replace hf := ifp cd12 hf
            refine lv_iconst (v := (0 : Int32)) hx hb dX6_entry_81 (by decide) ?_
            obtain rfl := Option.some.inj hf
            exact fl_iret X hb hr hlk hF dX6_entry_82
          · replace hf := ifn cd12 hf
            refine lv_iconst (v := (1 : Int32)) hx hb dX6_entry_77 (by decide) ?_
            refine lv_goto (tgt := 82) hx hb dX6_entry_78 (by decide) ?_
            obtain rfl := Option.some.inj hf
            exact fl_iret X hb hr hlk hF dX6_entry_82
        · replace hf := ifn cd9 hf
          refine lv_tableOut (tgt := 83) hx hb dX6_entry_26 (by have z0 := lv_neT (a := 0) cd5 (by decide); have z1 := lv_neT (a := 1) cd7 (by decide); have z2 := lv_neT (a := 2) cd9 (by decide); omega) (by decide) ?_
          refine lv_iconst (v := (-1 : Int32)) hx hb dX6_entry_83 (by decide) ?_
          obtain rfl := Option.some.inj hf
          exact fl_iret X hb hr hlk hF dX6_entry_84
  · replace hf := ifp cd3 hf
    refine lv_iconst (v := (-1 : Int32)) hx hb dX6_entry_12 (by decide) ?_
    obtain rfl := Option.some.inj hf
    exact fl_iret X hb hr hlk hF dX6_entry_13
set_option maxHeartbeats 4000000 in
set_option maxRecDepth 100000 in
theorem cX6_strikes_ok {l : Launch} {G : Gl} (hI : FI G wX) {x1 : Int32} {x2 : Int32} {σ : Mem} {r : Int32} {σ' : Mem} (hf : fX6_strikes x1 x2 σ = some (r, σ')) : Ct l G wX yX6_strikes cX6_strikes 4 (some .int) ({ frames := 2, cells := 0, slots := 0, locals := 45 }) [.ref (gA G 0), .int x1, .int x2] σ (some (.int r)) σ' := by
  refine fl_start hI (by decide) (Nat.le_of_ble_eq_true rfl) ?_
  intro p e s m below meth c M hF ls hl
  obtain ⟨X, hb, hml, hr, hlk⟩ := id M
  have hx := X.1
  have hl : lv_has ls 4 [(0, .ref (gA G 0)), (1, .int x1), (2, .int x2)] := hl
  unfold fX6_strikes at hf
  refine lv_aload_n hx hb dX6_strikes_0 rfl (lv_at hl 0 rfl) ?_
  refine gf_X6_19 X hb hF sh_X6 dX6_strikes_1 ?_
  refine lv_iload_n hx hb dX6_strikes_4 rfl (lv_at hl 1 rfl) ?_
  refine lv_iload_n hx hb dX6_strikes_5 rfl (lv_at hl 2 rfl) ?_
  obtain ⟨r2, hq1, hf⟩ := bi_some hf
  refine cm_X6_81 (As := [.int x1, .int x2]) (rest := []) X hb hml hF (cX0_hasEntry_ok (l := l) (G := G) X.2.2.2.2 isC_17 hq1) (sh_C isC_17) ⟨Nat.le_of_ble_eq_true rfl, Nat.le_of_ble_eq_true rfl⟩ rfl rfl ⟨Nat.zero_le _, Nat.zero_le _⟩ rfl hl.1 rfl (Nat.le_of_ble_eq_true rfl) dX6_strikes_6 (fun H locs hF => ?_)
  refine lv_if_ne (tgt := 14) hx hb dX6_strikes_9 (by decide) (fun cd3 => ?_) (fun cd3 => ?_)
  · replace hf := ifn cd3 hf
    refine lv_aload_n hx hb dX6_strikes_14 rfl (lv_at hl 0 rfl) ?_
    refine gf_X6_19 X hb hF sh_X6 dX6_strikes_15 ?_
    refine gf_X6_85 X hb hF (sh_C isC_17) dX6_strikes_18 ?_
    refine lv_iload_n hx hb dX6_strikes_21 rfl (lv_at hl 1 rfl) ?_
    obtain ⟨g4, hf⟩ := grd_some hf
    refine fl_aaldH X hb hF (sh_Ca isC_17) g4 dX6_strikes_22 ?_
    refine lv_astore_n (lv' := [(3, .ref (gA G (17 + 2 + 3 * x1.toNatClampNeg))), (0, .ref (gA G 0)), (1, .int x1), (2, .int x2)]) hx hb dX6_strikes_23 rfl hl (by decide) rfl (fun ls hl => ?_)
    refine lv_aload_n hx hb dX6_strikes_24 rfl (lv_at hl 1 rfl) ?_
    refine gf_X6_37 X hb hF sh_X6 dX6_strikes_25 ?_
    refine lv_iconst (v := (0 : Int32)) hx hb dX6_strikes_28 (by decide) ?_
    refine lv_iload_n hx hb dX6_strikes_29 rfl (lv_at hl 2 rfl) ?_
    refine lv_iload_n hx hb dX6_strikes_30 rfl (lv_at hl 3 rfl) ?_
    refine lv_iconst (v := (0 : Int32)) hx hb dX6_strikes_31 (by decide) ?_
    obtain ⟨σ6, hq5, hf⟩ := bv_some hf
    refine cm_X6_100 (As := [.int (0 : Int32), .int x1, .int x2, .int (0 : Int32)]) (rest := []) X hb hml hF (cX1_add_ok (l := l) (G := G) X.2.2.2.2 hq5) sh_X1 ⟨Nat.le_of_ble_eq_true rfl, Nat.le_of_ble_eq_true rfl⟩ rfl rfl ⟨Nat.zero_le _, Nat.zero_le _⟩ rfl hl.1 rfl (Nat.le_of_ble_eq_true rfl) dX6_strikes_32 (fun H locs hF => ?_)
    refine lv_aload_n hx hb dX6_strikes_35 rfl (lv_at hl 0 rfl) ?_
    refine lv_iload_n hx hb dX6_strikes_36 rfl (lv_at hl 3 rfl) ?_
    obtain ⟨σ8, hq7, hf⟩ := bv_some hf
    refine cm_X6_104 (As := [.int x2]) (rest := []) X hb hml hF (cX2_turn_ok (l := l) (G := G) X.2.2.2.2 (isH_mk isC_17 g4) hq7) (sh_H (isH_mk isC_17 g4)) ⟨Nat.le_of_ble_eq_true rfl, Nat.le_of_ble_eq_true rfl⟩ rfl rfl ⟨Nat.zero_le _, Nat.zero_le _⟩ rfl hl.1 rfl (Nat.le_of_ble_eq_true rfl) dX6_strikes_37 (fun H locs hF => ?_)
    refine lv_aload_n hx hb dX6_strikes_40 rfl (lv_at hl 0 rfl) ?_
    refine lv_iload_n hx hb dX6_strikes_41 rfl (lv_at hl 3 rfl) ?_
    obtain ⟨r10, hq9, hf⟩ := bi_some hf
    refine cm_X6_97 (As := [.int x2]) (rest := []) X hb hml hF (cX2_isStruck_ok (l := l) (G := G) X.2.2.2.2 (isH_mk isC_17 g4) hq9) (sh_H (isH_mk isC_17 g4)) ⟨Nat.le_of_ble_eq_true rfl, Nat.le_of_ble_eq_true rfl⟩ rfl rfl ⟨Nat.zero_le _, Nat.zero_le _⟩ rfl hl.1 rfl (Nat.le_of_ble_eq_true rfl) dX6_strikes_42 (fun H locs hF => ?_)
    refine lv_if_eq (tgt := 52) hx hb dX6_strikes_45 (by decide) (fun cd11 => ?_) (fun cd11 => ?_)
    · replace hf := ifp cd11 hf
      refine lv_iconst (v := (0 : Int32)) hx hb dX6_strikes_52 (by decide) ?_
      obtain ⟨rfl, rfl⟩ := Prod.mk.inj (Option.some.inj hf)
      exact fl_iret X hb hr hlk hF dX6_strikes_53
    · replace hf := ifn cd11 hf
      refine lv_iconst (v := (1 : Int32)) hx hb dX6_strikes_48 (by decide) ?_
      refine lv_goto (tgt := 53) hx hb dX6_strikes_49 (by decide) ?_
      obtain ⟨rfl, rfl⟩ := Prod.mk.inj (Option.some.inj hf)
      exact fl_iret X hb hr hlk hF dX6_strikes_53
  · replace hf := ifp cd3 hf
    refine lv_iconst (v := (-1 : Int32)) hx hb dX6_strikes_12 (by decide) ?_
    obtain ⟨rfl, rfl⟩ := Prod.mk.inj (Option.some.inj hf)
    exact fl_iret X hb hr hlk hF dX6_strikes_13
set_option maxHeartbeats 4000000 in
set_option maxRecDepth 100000 in
theorem cX6_tells_ok {l : Launch} {G : Gl} (hI : FI G wX) {x1 : Int32} {x2 : Int32} {x3 : Int32} {σ : Mem} {r : Int32} {σ' : Mem} (hf : fX6_tells x1 x2 x3 σ = some (r, σ')) : Ct l G wX yX6_tells cX6_tells 6 (some .int) ({ frames := 2, cells := 0, slots := 0, locals := 45 }) [.ref (gA G 0), .int x1, .int x2, .int x3] σ (some (.int r)) σ' := by
  refine fl_start hI (by decide) (Nat.le_of_ble_eq_true rfl) ?_
  intro p e s m below meth c M hF ls hl
  obtain ⟨X, hb, hml, hr, hlk⟩ := id M
  have hx := X.1
  have hl : lv_has ls 6 [(0, .ref (gA G 0)), (1, .int x1), (2, .int x2), (3, .int x3)] := hl
  unfold fX6_tells at hf
  refine lv_aload_n hx hb dX6_tells_0 rfl (lv_at hl 0 rfl) ?_
  refine gf_X6_19 X hb hF sh_X6 dX6_tells_1 ?_
  refine lv_iload_n hx hb dX6_tells_4 rfl (lv_at hl 1 rfl) ?_
  refine lv_iload_n hx hb dX6_tells_5 rfl (lv_at hl 2 rfl) ?_
  obtain ⟨r2, hq1, hf⟩ := bi_some hf
  refine cm_X6_81 (As := [.int x1, .int x2]) (rest := []) X hb hml hF (cX0_hasEntry_ok (l := l) (G := G) X.2.2.2.2 isC_17 hq1) (sh_C isC_17) ⟨Nat.le_of_ble_eq_true rfl, Nat.le_of_ble_eq_true rfl⟩ rfl rfl ⟨Nat.zero_le _, Nat.zero_le _⟩ rfl hl.1 rfl (Nat.le_of_ble_eq_true rfl) dX6_tells_6 (fun H locs hF => ?_)
  refine lv_if_eq (tgt := 22) hx hb dX6_tells_9 (by decide) (fun cd3 => ?_) (fun cd3 => ?_)
  · replace hf := ifp cd3 hf
    refine lv_iconst (v := (-1 : Int32)) hx hb dX6_tells_22 (by decide) ?_
    obtain ⟨rfl, rfl⟩ := Prod.mk.inj (Option.some.inj hf)
    exact fl_iret X hb hr hlk hF dX6_tells_23
  · replace hf := ifn cd3 hf
    refine lv_iload_n hx hb dX6_tells_12 rfl (lv_at hl 3 rfl) ?_
    refine lv_if_lt (tgt := 22) hx hb dX6_tells_13 (by decide) (fun cd4 => ?_) (fun cd4 => ?_)
    · replace hf := ifp cd4 hf
      refine lv_iconst (v := (-1 : Int32)) hx hb dX6_tells_22 (by decide) ?_
      obtain ⟨rfl, rfl⟩ := Prod.mk.inj (Option.some.inj hf)
      exact fl_iret X hb hr hlk hF dX6_tells_23
    · replace hf := ifn cd4 hf
      refine lv_iload_n hx hb dX6_tells_16 rfl (lv_at hl 3 rfl) ?_
      refine lv_bipush (v := (99 : Int32)) hx hb dX6_tells_17 (by decide) ?_
      refine lv_icmp_le (tgt := 24) hx hb dX6_tells_19 (by decide) (fun cd5 => ?_) (fun cd5 => ?_)
      · replace hf := ifp cd5 hf
        refine lv_aload_n hx hb dX6_tells_24 rfl (lv_at hl 0 rfl) ?_
        refine gf_X6_19 X hb hF sh_X6 dX6_tells_25 ?_
        refine gf_X6_85 X hb hF (sh_C isC_17) dX6_tells_28 ?_
        refine lv_iload_n hx hb dX6_tells_31 rfl (lv_at hl 1 rfl) ?_
        obtain ⟨g6, hf⟩ := grd_some hf
        refine fl_aaldH X hb hF (sh_Ca isC_17) g6 dX6_tells_32 ?_
        refine lv_astore (lv' := [(4, .ref (gA G (17 + 2 + 3 * x1.toNatClampNeg))), (0, .ref (gA G 0)), (1, .int x1), (2, .int x2), (3, .int x3)]) hx hb dX6_tells_33 hl (by decide) rfl (fun ls hl => ?_)
        refine lv_aload hx hb dX6_tells_35 (lv_at hl 0 rfl) ?_
        refine gf_X6_94 X hb hF (sh_H (isH_mk isC_17 g6)) dX6_tells_37 ?_
        refine lv_iload_n hx hb dX6_tells_40 rfl (lv_at hl 3 rfl) ?_
        obtain ⟨g7, hf⟩ := grd_some hf
        refine fl_iald X hb hF (sh_Hy (isH_mk isC_17 g6)) g7 dX6_tells_41 ?_
        refine lv_istore (lv' := [(5, .int (σ ((17 + 2 + 3 * x1.toNatClampNeg) + 2) x2.toNatClampNeg)), (4, .ref (gA G (17 + 2 + 3 * x1.toNatClampNeg))), (0, .ref (gA G 0)), (1, .int x1), (2, .int x2), (3, .int x3)]) hx hb dX6_tells_42 hl (by decide) rfl (fun ls hl => ?_)
        refine lv_iload_n hx hb dX6_tells_44 rfl (lv_at hl 5 rfl) ?_
        refine lv_iload hx hb dX6_tells_45 (lv_at hl 0 rfl) ?_
        refine lv_icmp_eq (tgt := 60) hx hb dX6_tells_47 (by decide) (fun cd8 => ?_) (fun cd8 => ?_)
        · replace hf := ifp cd8 hf
          refine lv_bipush (v := (-2 : Int32)) hx hb dX6_tells_60 (by decide) ?_
          obtain ⟨rfl, rfl⟩ := Prod.mk.inj (Option.some.inj hf)
          exact fl_iret X hb hr hlk hF dX6_tells_62
        · replace hf := ifn cd8 hf
          refine lv_aload hx hb dX6_tells_50 (lv_at hl 1 rfl) ?_
          refine lv_iload_n hx hb dX6_tells_52 rfl (lv_at hl 4 rfl) ?_
          refine lv_iload_n hx hb dX6_tells_53 rfl (lv_at hl 5 rfl) ?_
          obtain ⟨r10, hq9, hf⟩ := bi_some hf
          refine cm_X6_108 (As := [.int x2, .int x3]) (rest := []) X hb hml hF (cX2_mayTell_ok (l := l) (G := G) X.2.2.2.2 (isH_mk isC_17 g6) hq9) (sh_H (isH_mk isC_17 g6)) ⟨Nat.le_of_ble_eq_true rfl, Nat.le_of_ble_eq_true rfl⟩ rfl rfl ⟨Nat.zero_le _, Nat.zero_le _⟩ rfl hl.1 rfl (Nat.le_of_ble_eq_true rfl) dX6_tells_54 (fun H locs hF => ?_)
          refine lv_if_ne (tgt := 63) hx hb dX6_tells_57 (by decide) (fun cd11 => ?_) (fun cd11 => ?_)
          · replace hf := ifn cd11 hf
            refine lv_aload_n hx hb dX6_tells_63 rfl (lv_at hl 2 rfl) ?_
            refine gf_X6_37 X hb hF sh_X6 dX6_tells_64 ?_
            refine lv_iconst (v := (1 : Int32)) hx hb dX6_tells_67 (by decide) ?_
            refine lv_iload_n hx hb dX6_tells_68 rfl (lv_at hl 3 rfl) ?_
            refine lv_iload_n hx hb dX6_tells_69 rfl (lv_at hl 4 rfl) ?_
            refine lv_iload hx hb dX6_tells_70 (lv_at hl 0 rfl) ?_
            obtain ⟨σ13, hq12, hf⟩ := bv_some hf
            refine cm_X6_100 (As := [.int (1 : Int32), .int x1, .int x2, .int (σ ((17 + 2 + 3 * x1.toNatClampNeg) + 2) x2.toNatClampNeg)]) (rest := []) X hb hml hF (cX1_add_ok (l := l) (G := G) X.2.2.2.2 hq12) sh_X1 ⟨Nat.le_of_ble_eq_true rfl, Nat.le_of_ble_eq_true rfl⟩ rfl rfl ⟨Nat.zero_le _, Nat.zero_le _⟩ rfl hl.1 rfl (Nat.le_of_ble_eq_true rfl) dX6_tells_72 (fun H locs hF => ?_)
            refine lv_aload hx hb dX6_tells_75 (lv_at hl 1 rfl) ?_
            refine gf_X6_94 X hb hF (sh_H (isH_mk isC_17 g6)) dX6_tells_77 ?_
            refine lv_iload_n hx hb dX6_tells_80 rfl (lv_at hl 4 rfl) ?_
            refine lv_iload_n hx hb dX6_tells_81 rfl (lv_at hl 5 rfl) ?_
            obtain ⟨g14, hf⟩ := grd_some hf
            refine fl_iast X hb hF (sh_Hy (isH_mk isC_17 g6)) g14 dX6_tells_82 (fun H locs hF => ?_)
            refine lv_iload hx hb dX6_tells_83 (lv_at hl 0 rfl) ?_
            obtain ⟨rfl, rfl⟩ := Prod.mk.inj (Option.some.inj hf)
            exact fl_iret X hb hr hlk hF dX6_tells_85
          · replace hf := ifp cd11 hf
            refine lv_bipush (v := (-2 : Int32)) hx hb dX6_tells_60 (by decide) ?_
            obtain ⟨rfl, rfl⟩ := Prod.mk.inj (Option.some.inj hf)
            exact fl_iret X hb hr hlk hF dX6_tells_62
      · replace hf := ifn cd5 hf
        refine lv_iconst (v := (-1 : Int32)) hx hb dX6_tells_22 (by decide) ?_
        obtain ⟨rfl, rfl⟩ := Prod.mk.inj (Option.some.inj hf)
        exact fl_iret X hb hr hlk hF dX6_tells_23
set_option maxHeartbeats 4000000 in
set_option maxRecDepth 100000 in
theorem cX6_slacks_ok {l : Launch} {G : Gl} (hI : FI G wX) {x1 : Int32} {σ : Mem} {r : Int32} {σ' : Mem} (hf : fX6_slacks x1 σ = some (r, σ')) : Ct l G wX yX6_slacks cX6_slacks 3 (some .int) ({ frames := 2, cells := 0, slots := 0, locals := 45 }) [.ref (gA G 0), .int x1] σ (some (.int r)) σ' := by
  refine fl_start hI (by decide) (Nat.le_of_ble_eq_true rfl) ?_
  intro p e s m below meth c M hF ls hl
  obtain ⟨X, hb, hml, hr, hlk⟩ := id M
  have hx := X.1
  have hl : lv_has ls 3 [(0, .ref (gA G 0)), (1, .int x1)] := hl
  unfold fX6_slacks at hf
  refine lv_iload_n hx hb dX6_slacks_0 rfl (lv_at hl 1 rfl) ?_
  refine lv_if_lt (tgt := 10) hx hb dX6_slacks_1 (by decide) (fun cd1 => ?_) (fun cd1 => ?_)
  · replace hf := ifp cd1 hf
    refine lv_iconst (v := (-1 : Int32)) hx hb dX6_slacks_10 (by decide) ?_
    obtain ⟨rfl, rfl⟩ := Prod.mk.inj (Option.some.inj hf)
    exact fl_iret X hb hr hlk hF dX6_slacks_11
  · replace hf := ifn cd1 hf
    refine lv_iload_n hx hb dX6_slacks_4 rfl (lv_at hl 1 rfl) ?_
    refine lv_bipush (v := (9 : Int32)) hx hb dX6_slacks_5 (by decide) ?_
    refine lv_icmp_le (tgt := 12) hx hb dX6_slacks_7 (by decide) (fun cd2 => ?_) (fun cd2 => ?_)
    · replace hf := ifp cd2 hf
      refine lv_aload_n hx hb dX6_slacks_12 rfl (lv_at hl 0 rfl) ?_
      refine gf_X6_19 X hb hF sh_X6 dX6_slacks_13 ?_
      refine gf_X6_111 X hb hF (sh_C isC_17) dX6_slacks_16 ?_
      refine lv_istore_n (lv' := [(2, .int (σ 17 2)), (0, .ref (gA G 0)), (1, .int x1)]) hx hb dX6_slacks_19 rfl hl (by decide) rfl (fun ls hl => ?_)
      refine lv_iload_n hx hb dX6_slacks_20 rfl (lv_at hl 2 rfl) ?_
      refine lv_iload_n hx hb dX6_slacks_21 rfl (lv_at hl 0 rfl) ?_
      refine lv_icmp_ne (tgt := 28) hx hb dX6_slacks_22 (by decide) (fun cd3 => ?_) (fun cd3 => ?_)
      · replace hf := ifn cd3 hf
        refine lv_aload_n hx hb dX6_slacks_28 rfl (lv_at hl 1 rfl) ?_
        refine gf_X6_37 X hb hF sh_X6 dX6_slacks_29 ?_
        refine lv_iconst (v := (2 : Int32)) hx hb dX6_slacks_32 (by decide) ?_
        refine lv_iconst (v := (0 : Int32)) hx hb dX6_slacks_33 (by decide) ?_
        refine lv_iconst (v := (0 : Int32)) hx hb dX6_slacks_34 (by decide) ?_
        refine lv_iload_n hx hb dX6_slacks_35 rfl (lv_at hl 0 rfl) ?_
        obtain ⟨σ5, hq4, hf⟩ := bv_some hf
        refine cm_X6_100 (As := [.int (2 : Int32), .int (0 : Int32), .int (0 : Int32), .int (σ 17 2)]) (rest := []) X hb hml hF (cX1_add_ok (l := l) (G := G) X.2.2.2.2 hq4) sh_X1 ⟨Nat.le_of_ble_eq_true rfl, Nat.le_of_ble_eq_true rfl⟩ rfl rfl ⟨Nat.zero_le _, Nat.zero_le _⟩ rfl hl.1 rfl (Nat.le_of_ble_eq_true rfl) dX6_slacks_36 (fun H locs hF => ?_)
        refine lv_aload_n hx hb dX6_slacks_39 rfl (lv_at hl 1 rfl) ?_
        refine gf_X6_19 X hb hF sh_X6 dX6_slacks_40 ?_
        refine lv_iload_n hx hb dX6_slacks_43 rfl (lv_at hl 2 rfl) ?_
        refine pf_X6_111 X hb hF (sh_C isC_17) dX6_slacks_44 (fun H locs hF => ?_)
        refine lv_iload_n hx hb dX6_slacks_47 rfl (lv_at hl 0 rfl) ?_
        obtain ⟨rfl, rfl⟩ := Prod.mk.inj (Option.some.inj hf)
        exact fl_iret X hb hr hlk hF dX6_slacks_48
      · replace hf := ifp cd3 hf
        refine lv_bipush (v := (-2 : Int32)) hx hb dX6_slacks_25 (by decide) ?_
        obtain ⟨rfl, rfl⟩ := Prod.mk.inj (Option.some.inj hf)
        exact fl_iret X hb hr hlk hF dX6_slacks_27
    · replace hf := ifn cd2 hf
      refine lv_iconst (v := (-1 : Int32)) hx hb dX6_slacks_10 (by decide) ?_
      obtain ⟨rfl, rfl⟩ := Prod.mk.inj (Option.some.inj hf)
      exact fl_iret X hb hr hlk hF dX6_slacks_11
set_option maxHeartbeats 4000000 in
set_option maxRecDepth 100000 in
theorem cX6_undo_ok {l : Launch} {G : Gl} (hI : FI G wX) {σ : Mem} {r : Int32} {σ' : Mem} (hf : fX6_undo σ = some (r, σ')) : Ct l G wX yX6_undo cX6_undo 1 (some .int) ({ frames := 3, cells := 0, slots := 0, locals := 66 }) [.ref (gA G 0)] σ (some (.int r)) σ' := by
  refine fl_start hI (by decide) (Nat.le_of_ble_eq_true rfl) ?_
  intro p e s m below meth c M hF ls hl
  obtain ⟨X, hb, hml, hr, hlk⟩ := id M
  have hx := X.1
  have hl : lv_has ls 1 [(0, .ref (gA G 0))] := hl
  unfold fX6_undo at hf
  refine lv_aload_n hx hb dX6_undo_0 rfl (lv_at hl 0 rfl) ?_
  refine gf_X6_37 X hb hF sh_X6 dX6_undo_1 ?_
  refine gf_X6_80 X hb hF sh_X1 dX6_undo_4 ?_
  refine lv_if_ne (tgt := 13) hx hb dX6_undo_7 (by decide) (fun cd1 => ?_) (fun cd1 => ?_)
  · replace hf := ifn cd1 hf
    refine lv_aload_n hx hb dX6_undo_13 rfl (lv_at hl 0 rfl) ?_
    refine gf_X6_37 X hb hF sh_X6 dX6_undo_14 ?_
    refine lv_aload_n hx hb dX6_undo_17 rfl (lv_at hl 0 rfl) ?_
    refine gf_X6_19 X hb hF sh_X6 dX6_undo_18 ?_
    obtain ⟨σ3, hq2, hf⟩ := bv_some hf
    refine cm_X6_114 (As := [.ref (gA G 17)]) (rest := []) X hb hml hF (cX1_takeBack_ok (l := l) (G := G) X.2.2.2.2 isC_17 hq2) sh_X1 ⟨Nat.le_of_ble_eq_true rfl, Nat.le_of_ble_eq_true rfl⟩ rfl rfl ⟨Nat.zero_le _, Nat.zero_le _⟩ rfl hl.1 rfl (Nat.le_of_ble_eq_true rfl) dX6_undo_21 (fun H locs hF => ?_)
    refine lv_aload_n hx hb dX6_undo_24 rfl (lv_at hl 0 rfl) ?_
    refine gf_X6_37 X hb hF sh_X6 dX6_undo_25 ?_
    refine gf_X6_80 X hb hF sh_X1 dX6_undo_28 ?_
    obtain ⟨rfl, rfl⟩ := Prod.mk.inj (Option.some.inj hf)
    exact fl_iret X hb hr hlk hF dX6_undo_31
  · replace hf := ifp cd1 hf
    refine lv_bipush (v := (-2 : Int32)) hx hb dX6_undo_10 (by decide) ?_
    obtain ⟨rfl, rfl⟩ := Prod.mk.inj (Option.some.inj hf)
    exact fl_iret X hb hr hlk hF dX6_undo_12
set_option maxHeartbeats 4000000 in
set_option maxRecDepth 100000 in
theorem cX6_span_ok {l : Launch} {G : Gl} (hI : FI G wX) {x1 : Int32} {x2 : Int32} {x3 : Int32} {x4 : Int32} {σ : Mem} {r : Int32} {σ' : Mem} (hf : fX6_span x1 x2 x3 x4 σ = some (r, σ')) : Ct l G wX yX6_span cX6_span 7 (some .int) ({ frames := 3, cells := 0, slots := 0, locals := 73 }) [.ref (gA G 0), .int x1, .int x2, .int x3, .int x4] σ (some (.int r)) σ' := by
  refine fl_start hI (by decide) (Nat.le_of_ble_eq_true rfl) ?_
  intro p e s m below meth c M hF ls hl
  obtain ⟨X, hb, hml, hr, hlk⟩ := id M
  have hx := X.1
  have hl : lv_has ls 7 [(0, .ref (gA G 0)), (1, .int x1), (2, .int x2), (3, .int x3), (4, .int x4)] := hl
  unfold fX6_span at hf
  refine lv_aload_n hx hb dX6_span_0 rfl (lv_at hl 0 rfl) ?_
  refine gf_X6_19 X hb hF sh_X6 dX6_span_1 ?_
  refine lv_iload_n hx hb dX6_span_4 rfl (lv_at hl 1 rfl) ?_
  obtain ⟨r2, hq1, hf⟩ := bi_some hf
  refine cm_X6_117 (As := [.int x1]) (rest := []) X hb hml hF (cX0_hasHouse_ok (l := l) (G := G) X.2.2.2.2 isC_17 hq1) (sh_C isC_17) ⟨Nat.le_of_ble_eq_true rfl, Nat.le_of_ble_eq_true rfl⟩ rfl rfl ⟨Nat.zero_le _, Nat.zero_le _⟩ rfl hl.1 rfl (Nat.le_of_ble_eq_true rfl) dX6_span_5 (fun H locs hF => ?_)
  refine lv_if_eq (tgt := 32) hx hb dX6_span_8 (by decide) (fun cd3 => ?_) (fun cd3 => ?_)
  · replace hf := ifp cd3 hf
    refine lv_ldc (v := (-1000000 : Int32)) hx hb X.2.1 (X.2.2.1 _ wn_X6_120) dX6_span_32 ?_
    obtain ⟨rfl, rfl⟩ := Prod.mk.inj (Option.some.inj hf)
    exact fl_iret X hb hr hlk hF dX6_span_34
  · replace hf := ifn cd3 hf
    refine lv_aload_n hx hb dX6_span_11 rfl (lv_at hl 0 rfl) ?_
    refine gf_X6_19 X hb hF sh_X6 dX6_span_12 ?_
    refine lv_iload_n hx hb dX6_span_15 rfl (lv_at hl 2 rfl) ?_
    obtain ⟨r5, hq4, hf⟩ := bi_some hf
    refine cm_X6_117 (As := [.int x2]) (rest := []) X hb hml hF (cX0_hasHouse_ok (l := l) (G := G) X.2.2.2.2 isC_17 hq4) (sh_C isC_17) ⟨Nat.le_of_ble_eq_true rfl, Nat.le_of_ble_eq_true rfl⟩ rfl rfl ⟨Nat.zero_le _, Nat.zero_le _⟩ rfl hl.1 rfl (Nat.le_of_ble_eq_true rfl) dX6_span_16 (fun H locs hF => ?_)
    refine lv_if_eq (tgt := 32) hx hb dX6_span_19 (by decide) (fun cd6 => ?_) (fun cd6 => ?_)
    · replace hf := ifp cd6 hf
      refine lv_ldc (v := (-1000000 : Int32)) hx hb X.2.1 (X.2.2.1 _ wn_X6_120) dX6_span_32 ?_
      obtain ⟨rfl, rfl⟩ := Prod.mk.inj (Option.some.inj hf)
      exact fl_iret X hb hr hlk hF dX6_span_34
    · replace hf := ifn cd6 hf
      refine lv_iload_n hx hb dX6_span_22 rfl (lv_at hl 1 rfl) ?_
      refine lv_iload_n hx hb dX6_span_23 rfl (lv_at hl 2 rfl) ?_
      refine lv_icmp_eq (tgt := 32) hx hb dX6_span_24 (by decide) (fun cd7 => ?_) (fun cd7 => ?_)
      · replace hf := ifp cd7 hf
        refine lv_ldc (v := (-1000000 : Int32)) hx hb X.2.1 (X.2.2.1 _ wn_X6_120) dX6_span_32 ?_
        obtain ⟨rfl, rfl⟩ := Prod.mk.inj (Option.some.inj hf)
        exact fl_iret X hb hr hlk hF dX6_span_34
      · replace hf := ifn cd7 hf
        refine lv_iload_n hx hb dX6_span_27 rfl (lv_at hl 3 rfl) ?_
        refine lv_iconst (v := (-1 : Int32)) hx hb dX6_span_28 (by decide) ?_
        refine lv_icmp_ge (tgt := 35) hx hb dX6_span_29 (by decide) (fun cd8 => ?_) (fun cd8 => ?_)
        · replace hf := ifp cd8 hf
          refine lv_aload_n hx hb dX6_span_35 rfl (lv_at hl 0 rfl) ?_
          refine gf_X6_44 X hb hF sh_X6 dX6_span_36 ?_
          refine lv_aload_n hx hb dX6_span_39 rfl (lv_at hl 0 rfl) ?_
          refine gf_X6_19 X hb hF sh_X6 dX6_span_40 ?_
          refine gf_X6_85 X hb hF (sh_C isC_17) dX6_span_43 ?_
          refine lv_iload_n hx hb dX6_span_46 rfl (lv_at hl 1 rfl) ?_
          obtain ⟨g9, hf⟩ := grd_some hf
          refine fl_aaldH X hb hF (sh_Ca isC_17) g9 dX6_span_47 ?_
          refine lv_aload_n hx hb dX6_span_48 rfl (lv_at hl 0 rfl) ?_
          refine gf_X6_19 X hb hF sh_X6 dX6_span_49 ?_
          refine gf_X6_85 X hb hF (sh_C isC_17) dX6_span_52 ?_
          refine lv_iload_n hx hb dX6_span_55 rfl (lv_at hl 2 rfl) ?_
          obtain ⟨g10, hf⟩ := grd_some hf
          refine fl_aaldH X hb hF (sh_Ca isC_17) g10 dX6_span_56 ?_
          obtain ⟨σ12, hq11, hf⟩ := bv_some hf
          refine cm_X6_121 (As := [.ref (gA G (17 + 2 + 3 * x1.toNatClampNeg)), .ref (gA G (17 + 2 + 3 * x2.toNatClampNeg))]) (rest := []) X hb hml hF (cX4_join_ok (l := l) (G := G) X.2.2.2.2 (isH_mk isC_17 g9) (isH_mk isC_17 g10) hq11) sh_X4 ⟨Nat.le_of_ble_eq_true rfl, Nat.le_of_ble_eq_true rfl⟩ rfl rfl ⟨Nat.zero_le _, Nat.zero_le _⟩ rfl hl.1 rfl (Nat.le_of_ble_eq_true rfl) dX6_span_57 (fun H locs hF => ?_)
          refine lv_iload_n hx hb dX6_span_60 rfl (lv_at hl 3 rfl) ?_
          refine lv_iconst (v := (-1 : Int32)) hx hb dX6_span_61 (by decide) ?_
          refine lv_icmp_ne (tgt := 80) hx hb dX6_span_62 (by decide) (fun cd13 => ?_) (fun cd13 => ?_)
          · replace hf := ifn cd13 hf
            refine lv_aload_n hx hb dX6_span_80 rfl (lv_at hl 0 rfl) ?_
            refine gf_X6_44 X hb hF sh_X6 dX6_span_81 ?_
            refine lv_iload_n hx hb dX6_span_84 rfl (lv_at hl 3 rfl) ?_
            refine lv_aload_n hx hb dX6_span_85 rfl (lv_at hl 0 rfl) ?_
            refine gf_X6_19 X hb hF sh_X6 dX6_span_86 ?_
            refine gf_X6_111 X hb hF (sh_C isC_17) dX6_span_89 ?_
            obtain ⟨r15, hq14, hf⟩ := bi_some hf
            refine cm_X6_129 (As := [.int x3, .int (σ12 17 2)]) (rest := []) X hb hml hF (cX4_spanStart_ok (l := l) (G := G) X.2.2.2.2 hq14) sh_X4 ⟨Nat.le_of_ble_eq_true rfl, Nat.le_of_ble_eq_true rfl⟩ rfl rfl ⟨Nat.zero_le _, Nat.zero_le _⟩ rfl hl.1 rfl (Nat.le_of_ble_eq_true rfl) dX6_span_92 (fun H locs hF => ?_)
            refine lv_istore (lv' := [(5, .int r15), (0, .ref (gA G 0)), (1, .int x1), (2, .int x2), (3, .int x3), (4, .int x4)]) hx hb dX6_span_95 hl (by decide) rfl (fun ls hl => ?_)
            refine lv_iload hx hb dX6_span_97 (lv_at hl 0 rfl) ?_
            refine lv_aload_n hx hb dX6_span_99 rfl (lv_at hl 1 rfl) ?_
            refine gf_X6_44 X hb hF sh_X6 dX6_span_100 ?_
            refine gf_X6_133 X hb hF sh_X4 dX6_span_103 ?_
            refine lv_icmp_lt (tgt := 112) hx hb dX6_span_106 (by decide) (fun cd16 => ?_) (fun cd16 => ?_)
            · replace hf := ifp cd16 hf
              refine lv_aload_n hx hb dX6_span_112 rfl (lv_at hl 1 rfl) ?_
              refine gf_X6_44 X hb hF sh_X6 dX6_span_113 ?_
              refine lv_iload hx hb dX6_span_116 (lv_at hl 0 rfl) ?_
              refine lv_aload_n hx hb dX6_span_118 rfl (lv_at hl 1 rfl) ?_
              refine gf_X6_19 X hb hF sh_X6 dX6_span_119 ?_
              refine gf_X6_111 X hb hF (sh_C isC_17) dX6_span_122 ?_
              obtain ⟨r18, hq17, hf⟩ := bi_some hf
              refine cm_X6_134 (As := [.int r15, .int (σ12 17 2)]) (rest := []) X hb hml hF (cX4_spanEnd_ok (l := l) (G := G) X.2.2.2.2 hq17) sh_X4 ⟨Nat.le_of_ble_eq_true rfl, Nat.le_of_ble_eq_true rfl⟩ rfl rfl ⟨Nat.zero_le _, Nat.zero_le _⟩ rfl hl.1 rfl (Nat.le_of_ble_eq_true rfl) dX6_span_125 (fun H locs hF => ?_)
              refine lv_istore (lv' := [(6, .int r18), (5, .int r15), (0, .ref (gA G 0)), (1, .int x1), (2, .int x2), (3, .int x3), (4, .int x4)]) hx hb dX6_span_128 hl (by decide) rfl (fun ls hl => ?_)
              refine lv_iload hx hb dX6_span_130 (lv_at hl 6 rfl) ?_
              by_cases cd19 : x4 = (0 : Int32)
              · replace hf := ifp cd19 hf
                refine lv_tableIn (tgt := 164) (off := 32) hx hb dX6_span_132 (by rw [cd19]; decide) (by rw [cd19]; decide) (by rw [cd19]; rfl) (by decide) ?_
                refine lv_aload_n hx hb dX6_span_164 rfl (lv_at hl 2 rfl) ?_
                refine gf_X6_44 X hb hF sh_X6 dX6_span_165 ?_
                refine gf_X6_137 X hb hF sh_X4 dX6_span_168 ?_
                refine lv_iload hx hb dX6_span_171 (lv_at hl 1 rfl) ?_
                obtain ⟨g20, hf⟩ := grd_some hf
                refine fl_iald X hb hF sh_a10 g20 dX6_span_173 ?_
                obtain ⟨rfl, rfl⟩ := Prod.mk.inj (Option.some.inj hf)
                exact fl_iret X hb hr hlk hF dX6_span_174
              · replace hf := ifn cd19 hf
                by_cases cd21 : x4 = (1 : Int32)
                · replace hf := ifp cd21 hf
                  refine lv_tableIn (tgt := 175) (off := 43) hx hb dX6_span_132 (by rw [cd21]; decide) (by rw [cd21]; decide) (by rw [cd21]; rfl) (by decide) ?_
                  refine lv_aload_n hx hb dX6_span_175 rfl (lv_at hl 2 rfl) ?_
                  refine gf_X6_44 X hb hF sh_X6 dX6_span_176 ?_
                  refine gf_X6_137 X hb hF sh_X4 dX6_span_179 ?_
                  refine lv_iload hx hb dX6_span_182 (lv_at hl 0 rfl) ?_
                  refine lv_iconst (v := (1 : Int32)) hx hb dX6_span_184 (by decide) ?_
                  refine lv_isub hx hb dX6_span_185 ?_
                  obtain ⟨g22, hf⟩ := grd_some hf
                  refine fl_iald X hb hF sh_a10 g22 dX6_span_186 ?_
                  obtain ⟨rfl, rfl⟩ := Prod.mk.inj (Option.some.inj hf)
                  exact fl_iret X hb hr hlk hF dX6_span_187
                · replace hf := ifn cd21 hf
                  by_cases cd23 : x4 = (2 : Int32)
                  · replace hf := ifp cd23 hf
                    refine lv_tableIn (tgt := 188) (off := 56) hx hb dX6_span_132 (by rw [cd23]; decide) (by rw [cd23]; decide) (by rw [cd23]; rfl) (by decide) ?_
                    refine lv_iload hx hb dX6_span_188 (lv_at hl 0 rfl) ?_
                    refine lv_iload hx hb dX6_span_190 (lv_at hl 1 rfl) ?_
                    refine lv_isub hx hb dX6_span_192 ?_
                    obtain ⟨rfl, rfl⟩ := Prod.mk.inj (Option.some.inj hf)
                    exact fl_iret X hb hr hlk hF dX6_span_193
                  · replace hf := ifn cd23 hf
                    by_cases cd24 : x4 = (3 : Int32)
                    · replace hf := ifp cd24 hf
                      refine lv_tableIn (tgt := 194) (off := 62) hx hb dX6_span_132 (by rw [cd24]; decide) (by rw [cd24]; decide) (by rw [cd24]; rfl) (by decide) ?_
                      refine lv_aload_n hx hb dX6_span_194 rfl (lv_at hl 2 rfl) ?_
                      refine gf_X6_44 X hb hF sh_X6 dX6_span_195 ?_
                      refine lv_iload hx hb dX6_span_198 (lv_at hl 1 rfl) ?_
                      refine lv_iload hx hb dX6_span_200 (lv_at hl 0 rfl) ?_
                      obtain ⟨r26, hq25, hf⟩ := bi_some hf
                      refine cm_X6_138 (As := [.int r15, .int r18]) (rest := []) X hb hml hF (cX4_leastOffset_ok (l := l) (G := G) X.2.2.2.2 hq25) sh_X4 ⟨Nat.le_of_ble_eq_true rfl, Nat.le_of_ble_eq_true rfl⟩ rfl rfl ⟨Nat.zero_le _, Nat.zero_le _⟩ rfl hl.1 rfl (Nat.le_of_ble_eq_true rfl) dX6_span_202 (fun H locs hF => ?_)
                      obtain ⟨rfl, rfl⟩ := Prod.mk.inj (Option.some.inj hf)
                      exact fl_iret X hb hr hlk hF dX6_span_205
                    · replace hf := ifn cd24 hf
                      refine lv_tableOut (tgt := 206) hx hb dX6_span_132 (by have z0 := lv_neT (a := 0) cd19 (by decide); have z1 := lv_neT (a := 1) cd21 (by decide); have z2 := lv_neT (a := 2) cd23 (by decide); have z3 := lv_neT (a := 3) cd24 (by decide); omega) (by decide) ?_
                      refine lv_ldc (v := (-1000000 : Int32)) hx hb X.2.1 (X.2.2.1 _ wn_X6_120) dX6_span_206 ?_
                      obtain ⟨rfl, rfl⟩ := Prod.mk.inj (Option.some.inj hf)
                      exact fl_iret X hb hr hlk hF dX6_span_208
            · replace hf := ifn cd16 hf
              refine lv_ldc (v := (-1000000 : Int32)) hx hb X.2.1 (X.2.2.1 _ wn_X6_120) dX6_span_109 ?_
              obtain ⟨rfl, rfl⟩ := Prod.mk.inj (Option.some.inj hf)
              exact fl_iret X hb hr hlk hF dX6_span_111
          · replace hf := ifp cd13 hf
            refine lv_aload_n hx hb dX6_span_65 rfl (lv_at hl 0 rfl) ?_
            refine gf_X6_44 X hb hF sh_X6 dX6_span_66 ?_
            refine lv_aload_n hx hb dX6_span_69 rfl (lv_at hl 0 rfl) ?_
            refine gf_X6_19 X hb hF sh_X6 dX6_span_70 ?_
            refine gf_X6_111 X hb hF (sh_C isC_17) dX6_span_73 ?_
            obtain ⟨r28, hq27, hf⟩ := bi_some hf
            refine cm_X6_125 (As := [.int (σ12 17 2)]) (rest := []) X hb hml hF (cX4_spans_ok (l := l) (G := G) X.2.2.2.2 hq27) sh_X4 ⟨Nat.le_of_ble_eq_true rfl, Nat.le_of_ble_eq_true rfl⟩ rfl rfl ⟨Nat.zero_le _, Nat.zero_le _⟩ rfl hl.1 rfl (Nat.le_of_ble_eq_true rfl) dX6_span_76 (fun H locs hF => ?_)
            obtain ⟨rfl, rfl⟩ := Prod.mk.inj (Option.some.inj hf)
            exact fl_iret X hb hr hlk hF dX6_span_79
        · replace hf := ifn cd8 hf
          refine lv_ldc (v := (-1000000 : Int32)) hx hb X.2.1 (X.2.2.1 _ wn_X6_120) dX6_span_32 ?_
          obtain ⟨rfl, rfl⟩ := Prod.mk.inj (Option.some.inj hf)
          exact fl_iret X hb hr hlk hF dX6_span_34
set_option maxHeartbeats 4000000 in
set_option maxRecDepth 100000 in
theorem cX6_shiftOf_ok {l : Launch} {G : Gl} (hI : FI G wX) {x1 : Int32} {σ : Mem} {r : Int32} {σ' : Mem} (hf : fX6_shiftOf x1 σ = some (r, σ')) : Ct l G wX yX6_shiftOf cX6_shiftOf 2 (some .int) ({ frames := 3, cells := 0, slots := 0, locals := 70 }) [.ref (gA G 0), .int x1] σ (some (.int r)) σ' := by
  refine fl_start hI (by decide) (Nat.le_of_ble_eq_true rfl) ?_
  intro p e s m below meth c M hF ls hl
  obtain ⟨X, hb, hml, hr, hlk⟩ := id M
  have hx := X.1
  have hl : lv_has ls 2 [(0, .ref (gA G 0)), (1, .int x1)] := hl
  unfold fX6_shiftOf at hf
  refine lv_iload_n hx hb dX6_shiftOf_0 rfl (lv_at hl 1 rfl) ?_
  refine lv_if_ne (tgt := 6) hx hb dX6_shiftOf_1 (by decide) (fun cd1 => ?_) (fun cd1 => ?_)
  · replace hf := ifn cd1 hf
    refine lv_aload_n hx hb dX6_shiftOf_6 rfl (lv_at hl 0 rfl) ?_
    refine gf_X6_44 X hb hF sh_X6 dX6_shiftOf_7 ?_
    refine lv_aload_n hx hb dX6_shiftOf_10 rfl (lv_at hl 0 rfl) ?_
    refine gf_X6_19 X hb hF sh_X6 dX6_shiftOf_11 ?_
    refine gf_X6_85 X hb hF (sh_C isC_17) dX6_shiftOf_14 ?_
    refine lv_iconst (v := (0 : Int32)) hx hb dX6_shiftOf_17 (by decide) ?_
    obtain ⟨g2, hf⟩ := grd_some hf
    refine fl_aaldH X hb hF (sh_Ca isC_17) g2 dX6_shiftOf_18 ?_
    refine lv_aload_n hx hb dX6_shiftOf_19 rfl (lv_at hl 0 rfl) ?_
    refine gf_X6_19 X hb hF sh_X6 dX6_shiftOf_20 ?_
    refine gf_X6_85 X hb hF (sh_C isC_17) dX6_shiftOf_23 ?_
    refine lv_iload_n hx hb dX6_shiftOf_26 rfl (lv_at hl 1 rfl) ?_
    obtain ⟨g3, hf⟩ := grd_some hf
    refine fl_aaldH X hb hF (sh_Ca isC_17) g3 dX6_shiftOf_27 ?_
    obtain ⟨σ5, hq4, hf⟩ := bv_some hf
    refine cm_X6_121 (As := [.ref (gA G (17 + 2 + 3 * (0 : Int32).toNatClampNeg)), .ref (gA G (17 + 2 + 3 * x1.toNatClampNeg))]) (rest := []) X hb hml hF (cX4_join_ok (l := l) (G := G) X.2.2.2.2 (isH_mk isC_17 g2) (isH_mk isC_17 g3) hq4) sh_X4 ⟨Nat.le_of_ble_eq_true rfl, Nat.le_of_ble_eq_true rfl⟩ rfl rfl ⟨Nat.zero_le _, Nat.zero_le _⟩ rfl hl.1 rfl (Nat.le_of_ble_eq_true rfl) dX6_shiftOf_28 (fun H locs hF => ?_)
    refine lv_aload_n hx hb dX6_shiftOf_31 rfl (lv_at hl 0 rfl) ?_
    refine gf_X6_44 X hb hF sh_X6 dX6_shiftOf_32 ?_
    obtain ⟨r7, hq6, hf⟩ := bi_some hf
    refine cm_X6_201 (As := []) (rest := []) X hb hml hF (cX4_commonestOffset_ok (l := l) (G := G) X.2.2.2.2 hq6) sh_X4 ⟨Nat.le_of_ble_eq_true rfl, Nat.le_of_ble_eq_true rfl⟩ rfl rfl ⟨Nat.zero_le _, Nat.zero_le _⟩ rfl hl.1 rfl (Nat.le_of_ble_eq_true rfl) dX6_shiftOf_35 (fun H locs hF => ?_)
    obtain ⟨rfl, rfl⟩ := Prod.mk.inj (Option.some.inj hf)
    exact fl_iret X hb hr hlk hF dX6_shiftOf_38
  · replace hf := ifp cd1 hf
    refine lv_iconst (v := (0 : Int32)) hx hb dX6_shiftOf_4 (by decide) ?_
    obtain ⟨rfl, rfl⟩ := Prod.mk.inj (Option.some.inj hf)
    exact fl_iret X hb hr hlk hF dX6_shiftOf_5
set_option maxHeartbeats 4000000 in
set_option maxRecDepth 100000 in
theorem cX6_agreedOf_ok {l : Launch} {G : Gl} (hI : FI G wX) {x1 : Int32} {σ : Mem} {r : Int32} {σ' : Mem} (hf : fX6_agreedOf x1 σ = some (r, σ')) : Ct l G wX yX6_agreedOf cX6_agreedOf 3 (some .int) ({ frames := 4, cells := 0, slots := 0, locals := 91 }) [.ref (gA G 0), .int x1] σ (some (.int r)) σ' := by
  refine fl_start hI (by decide) (Nat.le_of_ble_eq_true rfl) ?_
  intro p e s m below meth c M hF ls hl
  obtain ⟨X, hb, hml, hr, hlk⟩ := id M
  have hx := X.1
  have hl : lv_has ls 3 [(0, .ref (gA G 0)), (1, .int x1)] := hl
  unfold fX6_agreedOf at hf
  refine lv_iload_n hx hb dX6_agreedOf_0 rfl (lv_at hl 1 rfl) ?_
  refine lv_if_ne (tgt := 17) hx hb dX6_agreedOf_1 (by decide) (fun cd1 => ?_) (fun cd1 => ?_)
  · replace hf := ifn cd1 hf
    refine lv_aload_n hx hb dX6_agreedOf_17 rfl (lv_at hl 0 rfl) ?_
    refine lv_iload_n hx hb dX6_agreedOf_18 rfl (lv_at hl 1 rfl) ?_
    obtain ⟨r3, σ4, hq2, hf⟩ := bm_some hf
    refine cm_X6_141 (As := [.int x1]) (rest := []) X hb hml hF (cX6_shiftOf_ok (l := l) (G := G) X.2.2.2.2 hq2) sh_X6 ⟨Nat.le_of_ble_eq_true rfl, Nat.le_of_ble_eq_true rfl⟩ rfl rfl ⟨Nat.zero_le _, Nat.zero_le _⟩ rfl hl.1 rfl (Nat.le_of_ble_eq_true rfl) dX6_agreedOf_19 (fun H locs hF => ?_)
    refine lv_istore_n (lv' := [(2, .int r3), (0, .ref (gA G 0)), (1, .int x1)]) hx hb dX6_agreedOf_22 rfl hl (by decide) rfl (fun ls hl => ?_)
    refine lv_aload_n hx hb dX6_agreedOf_23 rfl (lv_at hl 1 rfl) ?_
    refine gf_X6_44 X hb hF sh_X6 dX6_agreedOf_24 ?_
    refine lv_iload_n hx hb dX6_agreedOf_27 rfl (lv_at hl 0 rfl) ?_
    obtain ⟨r6, hq5, hf⟩ := bi_some hf
    refine cm_X6_205 (As := [.int r3]) (rest := []) X hb hml hF (cX4_eventsWith_ok (l := l) (G := G) X.2.2.2.2 hq5) sh_X4 ⟨Nat.le_of_ble_eq_true rfl, Nat.le_of_ble_eq_true rfl⟩ rfl rfl ⟨Nat.zero_le _, Nat.zero_le _⟩ rfl hl.1 rfl (Nat.le_of_ble_eq_true rfl) dX6_agreedOf_28 (fun H locs hF => ?_)
    obtain ⟨rfl, rfl⟩ := Prod.mk.inj (Option.some.inj hf)
    exact fl_iret X hb hr hlk hF dX6_agreedOf_31
  · replace hf := ifp cd1 hf
    refine lv_aload_n hx hb dX6_agreedOf_4 rfl (lv_at hl 0 rfl) ?_
    refine gf_X6_19 X hb hF sh_X6 dX6_agreedOf_5 ?_
    refine gf_X6_85 X hb hF (sh_C isC_17) dX6_agreedOf_8 ?_
    refine lv_iconst (v := (0 : Int32)) hx hb dX6_agreedOf_11 (by decide) ?_
    obtain ⟨g7, hf⟩ := grd_some hf
    refine fl_aaldH X hb hF (sh_Ca isC_17) g7 dX6_agreedOf_12 ?_
    obtain ⟨r9, hq8, hf⟩ := bi_some hf
    refine cm_X6_204 (As := []) (rest := []) X hb hml hF (cX2_eventBits_ok (l := l) (G := G) X.2.2.2.2 (isH_mk isC_17 g7) hq8) (sh_H (isH_mk isC_17 g7)) ⟨Nat.le_of_ble_eq_true rfl, Nat.le_of_ble_eq_true rfl⟩ rfl rfl ⟨Nat.zero_le _, Nat.zero_le _⟩ rfl hl.1 rfl (Nat.le_of_ble_eq_true rfl) dX6_agreedOf_13 (fun H locs hF => ?_)
    obtain ⟨rfl, rfl⟩ := Prod.mk.inj (Option.some.inj hf)
    exact fl_iret X hb hr hlk hF dX6_agreedOf_16
set_option maxHeartbeats 4000000 in
set_option maxRecDepth 100000 in
theorem cX6_againstOf_ok {l : Launch} {G : Gl} (hI : FI G wX) {x1 : Int32} {σ : Mem} {r : Int32} {σ' : Mem} (hf : fX6_againstOf x1 σ = some (r, σ')) : Ct l G wX yX6_againstOf cX6_againstOf 3 (some .int) ({ frames := 5, cells := 0, slots := 0, locals := 113 }) [.ref (gA G 0), .int x1] σ (some (.int r)) σ' := by
  refine fl_start hI (by decide) (Nat.le_of_ble_eq_true rfl) ?_
  intro p e s m below meth c M hF ls hl
  obtain ⟨X, hb, hml, hr, hlk⟩ := id M
  have hx := X.1
  have hl : lv_has ls 3 [(0, .ref (gA G 0)), (1, .int x1)] := hl
  unfold fX6_againstOf at hf
  refine lv_iload_n hx hb dX6_againstOf_0 rfl (lv_at hl 1 rfl) ?_
  refine lv_if_ne (tgt := 6) hx hb dX6_againstOf_1 (by decide) (fun cd1 => ?_) (fun cd1 => ?_)
  · replace hf := ifn cd1 hf
    refine lv_aload_n hx hb dX6_againstOf_6 rfl (lv_at hl 0 rfl) ?_
    refine lv_iload_n hx hb dX6_againstOf_7 rfl (lv_at hl 1 rfl) ?_
    obtain ⟨r3, σ4, hq2, hf⟩ := bm_some hf
    refine cm_X6_144 (As := [.int x1]) (rest := []) X hb hml hF (cX6_agreedOf_ok (l := l) (G := G) X.2.2.2.2 hq2) sh_X6 ⟨Nat.le_of_ble_eq_true rfl, Nat.le_of_ble_eq_true rfl⟩ rfl rfl ⟨Nat.zero_le _, Nat.zero_le _⟩ rfl hl.1 rfl (Nat.le_of_ble_eq_true rfl) dX6_againstOf_8 (fun H locs hF => ?_)
    refine lv_istore_n (lv' := [(2, .int r3), (0, .ref (gA G 0)), (1, .int x1)]) hx hb dX6_againstOf_11 rfl hl (by decide) rfl (fun ls hl => ?_)
    refine lv_aload_n hx hb dX6_againstOf_12 rfl (lv_at hl 1 rfl) ?_
    refine gf_X6_44 X hb hF sh_X6 dX6_againstOf_13 ?_
    obtain ⟨r6, hq5, hf⟩ := bi_some hf
    refine cm_X6_208 (As := []) (rest := []) X hb hml hF (cX4_eventBits_ok (l := l) (G := G) X.2.2.2.2 hq5) sh_X4 ⟨Nat.le_of_ble_eq_true rfl, Nat.le_of_ble_eq_true rfl⟩ rfl rfl ⟨Nat.zero_le _, Nat.zero_le _⟩ rfl hl.1 rfl (Nat.le_of_ble_eq_true rfl) dX6_againstOf_16 (fun H locs hF => ?_)
    refine lv_iload_n hx hb dX6_againstOf_19 rfl (lv_at hl 0 rfl) ?_
    refine lv_iconst (v := (-1 : Int32)) hx hb dX6_againstOf_20 (by decide) ?_
    refine lv_ixor hx hb dX6_againstOf_21 ?_
    refine lv_iand hx hb dX6_againstOf_22 ?_
    obtain ⟨rfl, rfl⟩ := Prod.mk.inj (Option.some.inj hf)
    exact fl_iret X hb hr hlk hF dX6_againstOf_23
  · replace hf := ifp cd1 hf
    refine lv_iconst (v := (0 : Int32)) hx hb dX6_againstOf_4 (by decide) ?_
    obtain ⟨rfl, rfl⟩ := Prod.mk.inj (Option.some.inj hf)
    exact fl_iret X hb hr hlk hF dX6_againstOf_5
set_option maxHeartbeats 4000000 in
set_option maxRecDepth 100000 in
theorem cX6_shift_ok {l : Launch} {G : Gl} (hI : FI G wX) {x1 : Int32} {x2 : Int32} {σ : Mem} {r : Int32} {σ' : Mem} (hf : fX6_shift x1 x2 σ = some (r, σ')) : Ct l G wX yX6_shift cX6_shift 3 (some .int) ({ frames := 6, cells := 0, slots := 0, locals := 135 }) [.ref (gA G 0), .int x1, .int x2] σ (some (.int r)) σ' := by
  refine fl_start hI (by decide) (Nat.le_of_ble_eq_true rfl) ?_
  intro p e s m below meth c M hF ls hl
  obtain ⟨X, hb, hml, hr, hlk⟩ := id M
  have hx := X.1
  have hl : lv_has ls 3 [(0, .ref (gA G 0)), (1, .int x1), (2, .int x2)] := hl
  unfold fX6_shift at hf
  refine lv_aload_n hx hb dX6_shift_0 rfl (lv_at hl 0 rfl) ?_
  refine gf_X6_19 X hb hF sh_X6 dX6_shift_1 ?_
  refine lv_iload_n hx hb dX6_shift_4 rfl (lv_at hl 1 rfl) ?_
  obtain ⟨r2, hq1, hf⟩ := bi_some hf
  refine cm_X6_117 (As := [.int x1]) (rest := []) X hb hml hF (cX0_hasHouse_ok (l := l) (G := G) X.2.2.2.2 isC_17 hq1) (sh_C isC_17) ⟨Nat.le_of_ble_eq_true rfl, Nat.le_of_ble_eq_true rfl⟩ rfl rfl ⟨Nat.zero_le _, Nat.zero_le _⟩ rfl hl.1 rfl (Nat.le_of_ble_eq_true rfl) dX6_shift_5 (fun H locs hF => ?_)
  refine lv_if_ne (tgt := 14) hx hb dX6_shift_8 (by decide) (fun cd3 => ?_) (fun cd3 => ?_)
  · replace hf := ifn cd3 hf
    refine lv_iload_n hx hb dX6_shift_14 rfl (lv_at hl 2 rfl) ?_
    by_cases cd4 : x2 = (0 : Int32)
    · replace hf := ifp cd4 hf
      refine lv_tableIn (tgt := 40) (off := 25) hx hb dX6_shift_15 (by rw [cd4]; decide) (by rw [cd4]; decide) (by rw [cd4]; rfl) (by decide) ?_
      refine lv_aload_n hx hb dX6_shift_40 rfl (lv_at hl 0 rfl) ?_
      refine lv_iload_n hx hb dX6_shift_41 rfl (lv_at hl 1 rfl) ?_
      obtain ⟨r6, σ7, hq5, hf⟩ := bm_some hf
      refine cm_X6_141 (As := [.int x1]) (rest := []) X hb hml hF (cX6_shiftOf_ok (l := l) (G := G) X.2.2.2.2 hq5) sh_X6 ⟨Nat.le_of_ble_eq_true rfl, Nat.le_of_ble_eq_true rfl⟩ rfl rfl ⟨Nat.zero_le _, Nat.zero_le _⟩ rfl hl.1 rfl (Nat.le_of_ble_eq_true rfl) dX6_shift_42 (fun H locs hF => ?_)
      obtain ⟨rfl, rfl⟩ := Prod.mk.inj (Option.some.inj hf)
      exact fl_iret X hb hr hlk hF dX6_shift_45
    · replace hf := ifn cd4 hf
      by_cases cd8 : x2 = (1 : Int32)
      · replace hf := ifp cd8 hf
        refine lv_tableIn (tgt := 46) (off := 31) hx hb dX6_shift_15 (by rw [cd8]; decide) (by rw [cd8]; decide) (by rw [cd8]; rfl) (by decide) ?_
        refine lv_aload_n hx hb dX6_shift_46 rfl (lv_at hl 0 rfl) ?_
        refine lv_iload_n hx hb dX6_shift_47 rfl (lv_at hl 1 rfl) ?_
        obtain ⟨r10, σ11, hq9, hf⟩ := bm_some hf
        refine cm_X6_144 (As := [.int x1]) (rest := []) X hb hml hF (cX6_agreedOf_ok (l := l) (G := G) X.2.2.2.2 hq9) sh_X6 ⟨Nat.le_of_ble_eq_true rfl, Nat.le_of_ble_eq_true rfl⟩ rfl rfl ⟨Nat.zero_le _, Nat.zero_le _⟩ rfl hl.1 rfl (Nat.le_of_ble_eq_true rfl) dX6_shift_48 (fun H locs hF => ?_)
        obtain ⟨rfl, rfl⟩ := Prod.mk.inj (Option.some.inj hf)
        exact fl_iret X hb hr hlk hF dX6_shift_51
      · replace hf := ifn cd8 hf
        by_cases cd12 : x2 = (2 : Int32)
        · replace hf := ifp cd12 hf
          refine lv_tableIn (tgt := 52) (off := 37) hx hb dX6_shift_15 (by rw [cd12]; decide) (by rw [cd12]; decide) (by rw [cd12]; rfl) (by decide) ?_
          refine lv_aload_n hx hb dX6_shift_52 rfl (lv_at hl 0 rfl) ?_
          refine lv_iload_n hx hb dX6_shift_53 rfl (lv_at hl 1 rfl) ?_
          obtain ⟨r14, σ15, hq13, hf⟩ := bm_some hf
          refine cm_X6_147 (As := [.int x1]) (rest := []) X hb hml hF (cX6_againstOf_ok (l := l) (G := G) X.2.2.2.2 hq13) sh_X6 ⟨Nat.le_of_ble_eq_true rfl, Nat.le_of_ble_eq_true rfl⟩ rfl rfl ⟨Nat.zero_le _, Nat.zero_le _⟩ rfl hl.1 rfl (Nat.le_of_ble_eq_true rfl) dX6_shift_54 (fun H locs hF => ?_)
          obtain ⟨rfl, rfl⟩ := Prod.mk.inj (Option.some.inj hf)
          exact fl_iret X hb hr hlk hF dX6_shift_57
        · replace hf := ifn cd12 hf
          refine lv_tableOut (tgt := 58) hx hb dX6_shift_15 (by have z0 := lv_neT (a := 0) cd4 (by decide); have z1 := lv_neT (a := 1) cd8 (by decide); have z2 := lv_neT (a := 2) cd12 (by decide); omega) (by decide) ?_
          refine lv_ldc (v := (-1000000 : Int32)) hx hb X.2.1 (X.2.2.1 _ wn_X6_120) dX6_shift_58 ?_
          obtain ⟨rfl, rfl⟩ := Prod.mk.inj (Option.some.inj hf)
          exact fl_iret X hb hr hlk hF dX6_shift_60
  · replace hf := ifp cd3 hf
    refine lv_ldc (v := (-1000000 : Int32)) hx hb X.2.1 (X.2.2.1 _ wn_X6_120) dX6_shift_11 ?_
    obtain ⟨rfl, rfl⟩ := Prod.mk.inj (Option.some.inj hf)
    exact fl_iret X hb hr hlk hF dX6_shift_13
set_option maxHeartbeats 4000000 in
set_option maxRecDepth 100000 in
theorem cX6_spansByFirst_ok {l : Launch} {G : Gl} (hI : FI G wX) {x1 : Int32} {σ : Mem} {r : Int32} {σ' : Mem} (hf : fX6_spansByFirst x1 σ = some (r, σ')) : Ct l G wX yX6_spansByFirst cX6_spansByFirst 2 (some .int) ({ frames := 3, cells := 0, slots := 0, locals := 72 }) [.ref (gA G 0), .int x1] σ (some (.int r)) σ' := by
  refine fl_start hI (by decide) (Nat.le_of_ble_eq_true rfl) ?_
  intro p e s m below meth c M hF ls hl
  obtain ⟨X, hb, hml, hr, hlk⟩ := id M
  have hx := X.1
  have hl : lv_has ls 2 [(0, .ref (gA G 0)), (1, .int x1)] := hl
  unfold fX6_spansByFirst at hf
  refine lv_iload_n hx hb dX6_spansByFirst_0 rfl (lv_at hl 1 rfl) ?_
  refine lv_if_ne (tgt := 25) hx hb dX6_spansByFirst_1 (by decide) (fun cd1 => ?_) (fun cd1 => ?_)
  · replace hf := ifn cd1 hf
    refine lv_aload_n hx hb dX6_spansByFirst_25 rfl (lv_at hl 0 rfl) ?_
    refine gf_X6_44 X hb hF sh_X6 dX6_spansByFirst_26 ?_
    refine lv_aload_n hx hb dX6_spansByFirst_29 rfl (lv_at hl 0 rfl) ?_
    refine gf_X6_19 X hb hF sh_X6 dX6_spansByFirst_30 ?_
    refine gf_X6_85 X hb hF (sh_C isC_17) dX6_spansByFirst_33 ?_
    refine lv_iconst (v := (0 : Int32)) hx hb dX6_spansByFirst_36 (by decide) ?_
    obtain ⟨g2, hf⟩ := grd_some hf
    refine fl_aaldH X hb hF (sh_Ca isC_17) g2 dX6_spansByFirst_37 ?_
    refine lv_aload_n hx hb dX6_spansByFirst_38 rfl (lv_at hl 0 rfl) ?_
    refine gf_X6_19 X hb hF sh_X6 dX6_spansByFirst_39 ?_
    refine gf_X6_85 X hb hF (sh_C isC_17) dX6_spansByFirst_42 ?_
    refine lv_iload_n hx hb dX6_spansByFirst_45 rfl (lv_at hl 1 rfl) ?_
    obtain ⟨g3, hf⟩ := grd_some hf
    refine fl_aaldH X hb hF (sh_Ca isC_17) g3 dX6_spansByFirst_46 ?_
    obtain ⟨σ5, hq4, hf⟩ := bv_some hf
    refine cm_X6_121 (As := [.ref (gA G (17 + 2 + 3 * (0 : Int32).toNatClampNeg)), .ref (gA G (17 + 2 + 3 * x1.toNatClampNeg))]) (rest := []) X hb hml hF (cX4_join_ok (l := l) (G := G) X.2.2.2.2 (isH_mk isC_17 g2) (isH_mk isC_17 g3) hq4) sh_X4 ⟨Nat.le_of_ble_eq_true rfl, Nat.le_of_ble_eq_true rfl⟩ rfl rfl ⟨Nat.zero_le _, Nat.zero_le _⟩ rfl hl.1 rfl (Nat.le_of_ble_eq_true rfl) dX6_spansByFirst_47 (fun H locs hF => ?_)
    refine lv_aload_n hx hb dX6_spansByFirst_50 rfl (lv_at hl 0 rfl) ?_
    refine gf_X6_44 X hb hF sh_X6 dX6_spansByFirst_51 ?_
    refine lv_aload_n hx hb dX6_spansByFirst_54 rfl (lv_at hl 0 rfl) ?_
    refine gf_X6_19 X hb hF sh_X6 dX6_spansByFirst_55 ?_
    refine gf_X6_111 X hb hF (sh_C isC_17) dX6_spansByFirst_58 ?_
    obtain ⟨r7, hq6, hf⟩ := bi_some hf
    refine cm_X6_125 (As := [.int (σ5 17 2)]) (rest := []) X hb hml hF (cX4_spans_ok (l := l) (G := G) X.2.2.2.2 hq6) sh_X4 ⟨Nat.le_of_ble_eq_true rfl, Nat.le_of_ble_eq_true rfl⟩ rfl rfl ⟨Nat.zero_le _, Nat.zero_le _⟩ rfl hl.1 rfl (Nat.le_of_ble_eq_true rfl) dX6_spansByFirst_61 (fun H locs hF => ?_)
    obtain ⟨rfl, rfl⟩ := Prod.mk.inj (Option.some.inj hf)
    exact fl_iret X hb hr hlk hF dX6_spansByFirst_64
  · replace hf := ifp cd1 hf
    refine lv_aload_n hx hb dX6_spansByFirst_4 rfl (lv_at hl 0 rfl) ?_
    refine gf_X6_19 X hb hF sh_X6 dX6_spansByFirst_5 ?_
    refine gf_X6_85 X hb hF (sh_C isC_17) dX6_spansByFirst_8 ?_
    refine lv_iconst (v := (0 : Int32)) hx hb dX6_spansByFirst_11 (by decide) ?_
    obtain ⟨g8, hf⟩ := grd_some hf
    refine fl_aaldH X hb hF (sh_Ca isC_17) g8 dX6_spansByFirst_12 ?_
    obtain ⟨r10, hq9, hf⟩ := bi_some hf
    refine cm_X6_209 (As := []) (rest := []) X hb hml hF (cX2_entriesLeft_ok (l := l) (G := G) X.2.2.2.2 (isH_mk isC_17 g8) hq9) (sh_H (isH_mk isC_17 g8)) ⟨Nat.le_of_ble_eq_true rfl, Nat.le_of_ble_eq_true rfl⟩ rfl rfl ⟨Nat.zero_le _, Nat.zero_le _⟩ rfl hl.1 rfl (Nat.le_of_ble_eq_true rfl) dX6_spansByFirst_13 (fun H locs hF => ?_)
    refine lv_if_ne (tgt := 23) hx hb dX6_spansByFirst_16 (by decide) (fun cd11 => ?_) (fun cd11 => ?_)
    · replace hf := ifn cd11 hf
      refine lv_iconst (v := (1 : Int32)) hx hb dX6_spansByFirst_23 (by decide) ?_
      obtain ⟨rfl, rfl⟩ := Prod.mk.inj (Option.some.inj hf)
      exact fl_iret X hb hr hlk hF dX6_spansByFirst_24
    · replace hf := ifp cd11 hf
      refine lv_iconst (v := (0 : Int32)) hx hb dX6_spansByFirst_19 (by decide) ?_
      refine lv_goto (tgt := 24) hx hb dX6_spansByFirst_20 (by decide) ?_
      obtain ⟨rfl, rfl⟩ := Prod.mk.inj (Option.some.inj hf)
      exact fl_iret X hb hr hlk hF dX6_spansByFirst_24
set_option maxHeartbeats 4000000 in
set_option maxRecDepth 100000 in
theorem bX6_eventsOfNoOther_15 {σ : Mem} {r : Int32} (M : MX p s m args meth c RX6 G wX cX6_eventsOfNoOther 4 (some .int)) : ∀ (fu : Nat) (x1 : Int32) (x2 : Int32) (x3 : Int32) (H : Heap) (locs : List Loc) (ls : Array Slot), fX6_eventsOfNoOther_15 σ fu x1 x2 x3 = some r → FH G wX s.heap H locs σ → lv_has ls 4 [(0, .ref (gA G 0)), (1, .int x1), (2, .int x2), (3, .int x3)] → WG p l e ({ frames := 2, cells := 0, slots := 0, locals := 43 }) s m args below meth c G wX (some (.int r)) σ H locs 15 ls [] := by
  obtain ⟨X, hb, hml, hr, hlk⟩ := id M
  have hx := X.1
  intro fu
  induction fu with
  | zero =>
    intro x1 x2 x3 H locs ls hf hF hl
    rw [fX6_eventsOfNoOther_15] at hf
    cases hf
  | succ fu ih =>
    intro x1 x2 x3 H locs ls hf hF hl
    rw [fX6_eventsOfNoOther_15] at hf
    refine lv_iload_n hx hb dX6_eventsOfNoOther_15 rfl (lv_at hl 3 rfl) ?_
    refine lv_aload_n hx hb dX6_eventsOfNoOther_16 rfl (lv_at hl 0 rfl) ?_
    refine gf_X6_19 X hb hF sh_X6 dX6_eventsOfNoOther_17 ?_
    refine gf_X6_153 X hb hF (sh_C isC_17) dX6_eventsOfNoOther_20 ?_
    refine lv_icmp_ge (tgt := 54) hx hb dX6_eventsOfNoOther_23 (by decide) (fun cd4 => ?_) (fun cd4 => ?_)
    · replace hf := ifp cd4 hf
      refine lv_iload_n hx hb dX6_eventsOfNoOther_54 rfl (lv_at hl 2 rfl) ?_
      obtain rfl := Option.some.inj hf
      exact fl_iret X hb hr hlk hF dX6_eventsOfNoOther_55
    · replace hf := ifn cd4 hf
      refine lv_iload_n hx hb dX6_eventsOfNoOther_26 rfl (lv_at hl 3 rfl) ?_
      refine lv_iload_n hx hb dX6_eventsOfNoOther_27 rfl (lv_at hl 1 rfl) ?_
      refine lv_icmp_eq (tgt := 48) hx hb dX6_eventsOfNoOther_28 (by decide) (fun cd5 => ?_) (fun cd5 => ?_)
      · replace hf := ifp cd5 hf
        refine lv_iinc (v := x3 + (1 : Int32)) (lv' := [(3, .int (x3 + (1 : Int32))), (0, .ref (gA G 0)), (1, .int x1), (2, .int x2)]) hx hb dX6_eventsOfNoOther_48 hl (k := 3) rfl rfl (by decide) rfl (fun ls hl => ?_)
        refine lv_goto (tgt := 15) hx hb dX6_eventsOfNoOther_51 (by decide) ?_
        exact ih x1 x2 (x3 + (1 : Int32)) _ _ _ hf hF (lv_sub hl [1, 2, 3, 0] rfl)
      · replace hf := ifn cd5 hf
        refine lv_iload_n hx hb dX6_eventsOfNoOther_31 rfl (lv_at hl 2 rfl) ?_
        refine lv_aload_n hx hb dX6_eventsOfNoOther_32 rfl (lv_at hl 0 rfl) ?_
        refine gf_X6_19 X hb hF sh_X6 dX6_eventsOfNoOther_33 ?_
        refine gf_X6_85 X hb hF (sh_C isC_17) dX6_eventsOfNoOther_36 ?_
        refine lv_iload_n hx hb dX6_eventsOfNoOther_39 rfl (lv_at hl 3 rfl) ?_
        obtain ⟨g6, hf⟩ := grd_some hf
        refine fl_aaldH X hb hF (sh_Ca isC_17) g6 dX6_eventsOfNoOther_40 ?_
        obtain ⟨r8, hq7, hf⟩ := bi_some hf
        refine cm_X6_204 (As := []) (rest := [.int x2]) X hb hml hF (cX2_eventBits_ok (l := l) (G := G) X.2.2.2.2 (isH_mk isC_17 g6) hq7) (sh_H (isH_mk isC_17 g6)) ⟨Nat.le_of_ble_eq_true rfl, Nat.le_of_ble_eq_true rfl⟩ rfl rfl ⟨Nat.zero_le _, Nat.zero_le _⟩ rfl hl.1 rfl (Nat.le_of_ble_eq_true rfl) dX6_eventsOfNoOther_41 (fun H locs hF => ?_)
        refine lv_iconst (v := (-1 : Int32)) hx hb dX6_eventsOfNoOther_44 (by decide) ?_
        refine lv_ixor hx hb dX6_eventsOfNoOther_45 ?_
        refine lv_iand hx hb dX6_eventsOfNoOther_46 ?_
        refine lv_istore_n (lv' := [(2, .int (x2 &&& (r8 ^^^ (-1 : Int32)))), (0, .ref (gA G 0)), (1, .int x1), (3, .int x3)]) hx hb dX6_eventsOfNoOther_47 rfl hl (by decide) rfl (fun ls hl => ?_)
        refine lv_iinc (v := x3 + (1 : Int32)) (lv' := [(3, .int (x3 + (1 : Int32))), (2, .int (x2 &&& (r8 ^^^ (-1 : Int32)))), (0, .ref (gA G 0)), (1, .int x1)]) hx hb dX6_eventsOfNoOther_48 hl (k := 3) rfl rfl (by decide) rfl (fun ls hl => ?_)
        refine lv_goto (tgt := 15) hx hb dX6_eventsOfNoOther_51 (by decide) ?_
        exact ih x1 (x2 &&& (r8 ^^^ (-1 : Int32))) (x3 + (1 : Int32)) _ _ _ hf hF (lv_sub hl [2, 3, 1, 0] rfl)
set_option maxHeartbeats 4000000 in
set_option maxRecDepth 100000 in
theorem cX6_eventsOfNoOther_ok {l : Launch} {G : Gl} (hI : FI G wX) {x1 : Int32} {σ : Mem} {r : Int32} (hf : fX6_eventsOfNoOther x1 σ = some r) : Ct l G wX yX6_eventsOfNoOther cX6_eventsOfNoOther 4 (some .int) ({ frames := 2, cells := 0, slots := 0, locals := 43 }) [.ref (gA G 0), .int x1] σ (some (.int r)) σ := by
  refine fl_start hI (by decide) (Nat.le_of_ble_eq_true rfl) ?_
  intro p e s m below meth c M hF ls hl
  obtain ⟨X, hb, hml, hr, hlk⟩ := id M
  have hx := X.1
  have hl : lv_has ls 4 [(0, .ref (gA G 0)), (1, .int x1)] := hl
  unfold fX6_eventsOfNoOther at hf
  refine lv_aload_n hx hb dX6_eventsOfNoOther_0 rfl (lv_at hl 0 rfl) ?_
  refine gf_X6_19 X hb hF sh_X6 dX6_eventsOfNoOther_1 ?_
  refine gf_X6_85 X hb hF (sh_C isC_17) dX6_eventsOfNoOther_4 ?_
  refine lv_iload_n hx hb dX6_eventsOfNoOther_7 rfl (lv_at hl 1 rfl) ?_
  obtain ⟨g1, hf⟩ := grd_some hf
  refine fl_aaldH X hb hF (sh_Ca isC_17) g1 dX6_eventsOfNoOther_8 ?_
  obtain ⟨r3, hq2, hf⟩ := bi_some hf
  refine cm_X6_204 (As := []) (rest := []) X hb hml hF (cX2_eventBits_ok (l := l) (G := G) X.2.2.2.2 (isH_mk isC_17 g1) hq2) (sh_H (isH_mk isC_17 g1)) ⟨Nat.le_of_ble_eq_true rfl, Nat.le_of_ble_eq_true rfl⟩ rfl rfl ⟨Nat.zero_le _, Nat.zero_le _⟩ rfl hl.1 rfl (Nat.le_of_ble_eq_true rfl) dX6_eventsOfNoOther_9 (fun H locs hF => ?_)
  refine lv_istore_n (lv' := [(2, .int r3), (0, .ref (gA G 0)), (1, .int x1)]) hx hb dX6_eventsOfNoOther_12 rfl hl (by decide) rfl (fun ls hl => ?_)
  refine lv_iconst (v := (0 : Int32)) hx hb dX6_eventsOfNoOther_13 (by decide) ?_
  refine lv_istore_n (lv' := [(3, .int (0 : Int32)), (2, .int r3), (0, .ref (gA G 0)), (1, .int x1)]) hx hb dX6_eventsOfNoOther_14 rfl hl (by decide) rfl (fun ls hl => ?_)
  exact bX6_eventsOfNoOther_15 M FU x1 r3 (0 : Int32) _ _ _ hf hF (lv_sub hl [2, 3, 1, 0] rfl)
set_option maxHeartbeats 4000000 in
set_option maxRecDepth 100000 in
theorem cX6_knotsNow_ok {l : Launch} {G : Gl} (hI : FI G wX) {σ : Mem} {r : Int32} {σ' : Mem} (hf : fX6_knotsNow σ = some (r, σ')) : Ct l G wX yX6_knotsNow cX6_knotsNow 1 (some .int) ({ frames := 2, cells := 0, slots := 0, locals := 48 }) [.ref (gA G 0)] σ (some (.int r)) σ' := by
  refine fl_start hI (by decide) (Nat.le_of_ble_eq_true rfl) ?_
  intro p e s m below meth c M hF ls hl
  obtain ⟨X, hb, hml, hr, hlk⟩ := id M
  have hx := X.1
  have hl : lv_has ls 1 [(0, .ref (gA G 0))] := hl
  unfold fX6_knotsNow at hf
  refine lv_aload_n hx hb dX6_knotsNow_0 rfl (lv_at hl 0 rfl) ?_
  refine gf_X6_51 X hb hF sh_X6 dX6_knotsNow_1 ?_
  refine lv_aload_n hx hb dX6_knotsNow_4 rfl (lv_at hl 0 rfl) ?_
  refine gf_X6_19 X hb hF sh_X6 dX6_knotsNow_5 ?_
  refine lv_iconst (v := (0 : Int32)) hx hb dX6_knotsNow_8 (by decide) ?_
  obtain ⟨σ2, hq1, hf⟩ := bv_some hf
  refine cm_X6_160 (As := [.ref (gA G 17), .int (0 : Int32)]) (rest := []) X hb hml hF (cX3_look_ok (l := l) (G := G) X.2.2.2.2 isC_17 hq1) sh_X3 ⟨Nat.le_of_ble_eq_true rfl, Nat.le_of_ble_eq_true rfl⟩ rfl rfl ⟨Nat.zero_le _, Nat.zero_le _⟩ rfl hl.1 rfl (Nat.le_of_ble_eq_true rfl) dX6_knotsNow_9 (fun H locs hF => ?_)
  refine lv_aload_n hx hb dX6_knotsNow_12 rfl (lv_at hl 0 rfl) ?_
  refine gf_X6_51 X hb hF sh_X6 dX6_knotsNow_13 ?_
  obtain ⟨r4, hq3, hf⟩ := bi_some hf
  refine cm_X6_173 (As := []) (rest := []) X hb hml hF (cX3_knots_ok (l := l) (G := G) X.2.2.2.2 hq3) sh_X3 ⟨Nat.le_of_ble_eq_true rfl, Nat.le_of_ble_eq_true rfl⟩ rfl rfl ⟨Nat.zero_le _, Nat.zero_le _⟩ rfl hl.1 rfl (Nat.le_of_ble_eq_true rfl) dX6_knotsNow_16 (fun H locs hF => ?_)
  obtain ⟨rfl, rfl⟩ := Prod.mk.inj (Option.some.inj hf)
  exact fl_iret X hb hr hlk hF dX6_knotsNow_19
set_option maxHeartbeats 4000000 in
set_option maxRecDepth 100000 in
theorem cX6_measureOf_ok {l : Launch} {G : Gl} (hI : FI G wX) {x1 : Int32} {x2 : Int32} {σ : Mem} {r : Int32} {σ' : Mem} (hf : fX6_measureOf x1 x2 σ = some (r, σ')) : Ct l G wX yX6_measureOf cX6_measureOf 3 (some .int) ({ frames := 5, cells := 0, slots := 0, locals := 113 }) [.ref (gA G 0), .int x1, .int x2] σ (some (.int r)) σ' := by
  refine fl_start hI (by decide) (Nat.le_of_ble_eq_true rfl) ?_
  intro p e s m below meth c M hF ls hl
  obtain ⟨X, hb, hml, hr, hlk⟩ := id M
  have hx := X.1
  have hl : lv_has ls 3 [(0, .ref (gA G 0)), (1, .int x1), (2, .int x2)] := hl
  unfold fX6_measureOf at hf
  refine lv_iload_n hx hb dX6_measureOf_0 rfl (lv_at hl 2 rfl) ?_
  by_cases cd1 : x2 = (0 : Int32)
  · replace hf := ifp cd1 hf
    refine lv_tableIn (tgt := 32) (off := 31) hx hb dX6_measureOf_1 (by rw [cd1]; decide) (by rw [cd1]; decide) (by rw [cd1]; rfl) (by decide) ?_
    refine lv_aload_n hx hb dX6_measureOf_32 rfl (lv_at hl 0 rfl) ?_
    refine gf_X6_19 X hb hF sh_X6 dX6_measureOf_33 ?_
    refine gf_X6_85 X hb hF (sh_C isC_17) dX6_measureOf_36 ?_
    refine lv_iload_n hx hb dX6_measureOf_39 rfl (lv_at hl 1 rfl) ?_
    obtain ⟨g2, hf⟩ := grd_some hf
    refine fl_aaldH X hb hF (sh_Ca isC_17) g2 dX6_measureOf_40 ?_
    obtain ⟨r4, hq3, hf⟩ := bi_some hf
    refine cm_X6_209 (As := []) (rest := []) X hb hml hF (cX2_entriesLeft_ok (l := l) (G := G) X.2.2.2.2 (isH_mk isC_17 g2) hq3) (sh_H (isH_mk isC_17 g2)) ⟨Nat.le_of_ble_eq_true rfl, Nat.le_of_ble_eq_true rfl⟩ rfl rfl ⟨Nat.zero_le _, Nat.zero_le _⟩ rfl hl.1 rfl (Nat.le_of_ble_eq_true rfl) dX6_measureOf_41 (fun H locs hF => ?_)
    obtain ⟨rfl, rfl⟩ := Prod.mk.inj (Option.some.inj hf)
    exact fl_iret X hb hr hlk hF dX6_measureOf_44
  · replace hf := ifn cd1 hf
    by_cases cd5 : x2 = (1 : Int32)
    · replace hf := ifp cd5 hf
      refine lv_tableIn (tgt := 45) (off := 44) hx hb dX6_measureOf_1 (by rw [cd5]; decide) (by rw [cd5]; decide) (by rw [cd5]; rfl) (by decide) ?_
      refine lv_aload_n hx hb dX6_measureOf_45 rfl (lv_at hl 0 rfl) ?_
      refine lv_iload_n hx hb dX6_measureOf_46 rfl (lv_at hl 1 rfl) ?_
      obtain ⟨r7, σ8, hq6, hf⟩ := bm_some hf
      refine cm_X6_144 (As := [.int x1]) (rest := []) X hb hml hF (cX6_agreedOf_ok (l := l) (G := G) X.2.2.2.2 hq6) sh_X6 ⟨Nat.le_of_ble_eq_true rfl, Nat.le_of_ble_eq_true rfl⟩ rfl rfl ⟨Nat.zero_le _, Nat.zero_le _⟩ rfl hl.1 rfl (Nat.le_of_ble_eq_true rfl) dX6_measureOf_47 (fun H locs hF => ?_)
      obtain ⟨r10, hq9, hf⟩ := bi_some hf
      refine cm_X6_186 (As := [.int r7]) (rest := []) X hb hml hF (cJ6_bitCount_0f7a4_ok (l := l) (G := G) (σ := σ8) X.2.2.2.2 hq9) ⟨Nat.le_of_ble_eq_true rfl, Nat.le_of_ble_eq_true rfl⟩ rfl rfl ⟨Nat.zero_le _, Nat.zero_le _⟩ rfl hl.1 rfl (Nat.le_of_ble_eq_true rfl) dX6_measureOf_50 (fun H locs hF => ?_)
      obtain ⟨rfl, rfl⟩ := Prod.mk.inj (Option.some.inj hf)
      exact fl_iret X hb hr hlk hF dX6_measureOf_53
    · replace hf := ifn cd5 hf
      by_cases cd11 : x2 = (2 : Int32)
      · replace hf := ifp cd11 hf
        refine lv_tableIn (tgt := 54) (off := 53) hx hb dX6_measureOf_1 (by rw [cd11]; decide) (by rw [cd11]; decide) (by rw [cd11]; rfl) (by decide) ?_
        refine lv_aload_n hx hb dX6_measureOf_54 rfl (lv_at hl 0 rfl) ?_
        refine lv_iload_n hx hb dX6_measureOf_55 rfl (lv_at hl 1 rfl) ?_
        obtain ⟨r13, σ14, hq12, hf⟩ := bm_some hf
        refine cm_X6_210 (As := [.int x1]) (rest := []) X hb hml hF (cX6_spansByFirst_ok (l := l) (G := G) X.2.2.2.2 hq12) sh_X6 ⟨Nat.le_of_ble_eq_true rfl, Nat.le_of_ble_eq_true rfl⟩ rfl rfl ⟨Nat.zero_le _, Nat.zero_le _⟩ rfl hl.1 rfl (Nat.le_of_ble_eq_true rfl) dX6_measureOf_56 (fun H locs hF => ?_)
        obtain ⟨rfl, rfl⟩ := Prod.mk.inj (Option.some.inj hf)
        exact fl_iret X hb hr hlk hF dX6_measureOf_59
      · replace hf := ifn cd11 hf
        by_cases cd15 : x2 = (3 : Int32)
        · replace hf := ifp cd15 hf
          refine lv_tableIn (tgt := 60) (off := 59) hx hb dX6_measureOf_1 (by rw [cd15]; decide) (by rw [cd15]; decide) (by rw [cd15]; rfl) (by decide) ?_
          refine lv_aload_n hx hb dX6_measureOf_60 rfl (lv_at hl 0 rfl) ?_
          refine lv_iload_n hx hb dX6_measureOf_61 rfl (lv_at hl 1 rfl) ?_
          obtain ⟨r17, hq16, hf⟩ := bi_some hf
          refine cm_X6_213 (As := [.int x1]) (rest := []) X hb hml hF (cX6_eventsOfNoOther_ok (l := l) (G := G) X.2.2.2.2 hq16) sh_X6 ⟨Nat.le_of_ble_eq_true rfl, Nat.le_of_ble_eq_true rfl⟩ rfl rfl ⟨Nat.zero_le _, Nat.zero_le _⟩ rfl hl.1 rfl (Nat.le_of_ble_eq_true rfl) dX6_measureOf_62 (fun H locs hF => ?_)
          obtain ⟨r19, hq18, hf⟩ := bi_some hf
          refine cm_X6_186 (As := [.int r17]) (rest := []) X hb hml hF (cJ6_bitCount_0f7a4_ok (l := l) (G := G) (σ := σ) X.2.2.2.2 hq18) ⟨Nat.le_of_ble_eq_true rfl, Nat.le_of_ble_eq_true rfl⟩ rfl rfl ⟨Nat.zero_le _, Nat.zero_le _⟩ rfl hl.1 rfl (Nat.le_of_ble_eq_true rfl) dX6_measureOf_65 (fun H locs hF => ?_)
          obtain ⟨rfl, rfl⟩ := Prod.mk.inj (Option.some.inj hf)
          exact fl_iret X hb hr hlk hF dX6_measureOf_68
        · replace hf := ifn cd15 hf
          refine lv_tableOut (tgt := 69) hx hb dX6_measureOf_1 (by have z0 := lv_neT (a := 0) cd1 (by decide); have z1 := lv_neT (a := 1) cd5 (by decide); have z2 := lv_neT (a := 2) cd11 (by decide); have z3 := lv_neT (a := 3) cd15 (by decide); omega) (by decide) ?_
          refine lv_aload_n hx hb dX6_measureOf_69 rfl (lv_at hl 0 rfl) ?_
          refine gf_X6_19 X hb hF sh_X6 dX6_measureOf_70 ?_
          refine gf_X6_85 X hb hF (sh_C isC_17) dX6_measureOf_73 ?_
          refine lv_iload_n hx hb dX6_measureOf_76 rfl (lv_at hl 1 rfl) ?_
          obtain ⟨g20, hf⟩ := grd_some hf
          refine fl_aaldH X hb hF (sh_Ca isC_17) g20 dX6_measureOf_77 ?_
          obtain ⟨r22, hq21, hf⟩ := bi_some hf
          refine cm_X6_204 (As := []) (rest := []) X hb hml hF (cX2_eventBits_ok (l := l) (G := G) X.2.2.2.2 (isH_mk isC_17 g20) hq21) (sh_H (isH_mk isC_17 g20)) ⟨Nat.le_of_ble_eq_true rfl, Nat.le_of_ble_eq_true rfl⟩ rfl rfl ⟨Nat.zero_le _, Nat.zero_le _⟩ rfl hl.1 rfl (Nat.le_of_ble_eq_true rfl) dX6_measureOf_78 (fun H locs hF => ?_)
          refine lv_aload_n hx hb dX6_measureOf_81 rfl (lv_at hl 0 rfl) ?_
          obtain ⟨r24, σ25, hq23, hf⟩ := bm_some hf
          refine cm_X6_198 (As := []) (rest := [.int r22]) X hb hml hF (cX6_knotsNow_ok (l := l) (G := G) X.2.2.2.2 hq23) sh_X6 ⟨Nat.le_of_ble_eq_true rfl, Nat.le_of_ble_eq_true rfl⟩ rfl rfl ⟨Nat.zero_le _, Nat.zero_le _⟩ rfl hl.1 rfl (Nat.le_of_ble_eq_true rfl) dX6_measureOf_82 (fun H locs hF => ?_)
          refine lv_iand hx hb dX6_measureOf_85 ?_
          obtain ⟨r27, hq26, hf⟩ := bi_some hf
          refine cm_X6_186 (As := [.int (r22 &&& r24)]) (rest := []) X hb hml hF (cJ6_bitCount_0f7a4_ok (l := l) (G := G) (σ := σ25) X.2.2.2.2 hq26) ⟨Nat.le_of_ble_eq_true rfl, Nat.le_of_ble_eq_true rfl⟩ rfl rfl ⟨Nat.zero_le _, Nat.zero_le _⟩ rfl hl.1 rfl (Nat.le_of_ble_eq_true rfl) dX6_measureOf_86 (fun H locs hF => ?_)
          obtain ⟨rfl, rfl⟩ := Prod.mk.inj (Option.some.inj hf)
          exact fl_iret X hb hr hlk hF dX6_measureOf_89
set_option maxHeartbeats 4000000 in
set_option maxRecDepth 100000 in
theorem cX6_measure_ok {l : Launch} {G : Gl} (hI : FI G wX) {x1 : Int32} {x2 : Int32} {σ : Mem} {r : Int32} {σ' : Mem} (hf : fX6_measure x1 x2 σ = some (r, σ')) : Ct l G wX yX6_measure cX6_measure 3 (some .int) ({ frames := 6, cells := 0, slots := 0, locals := 135 }) [.ref (gA G 0), .int x1, .int x2] σ (some (.int r)) σ' := by
  refine fl_start hI (by decide) (Nat.le_of_ble_eq_true rfl) ?_
  intro p e s m below meth c M hF ls hl
  obtain ⟨X, hb, hml, hr, hlk⟩ := id M
  have hx := X.1
  have hl : lv_has ls 3 [(0, .ref (gA G 0)), (1, .int x1), (2, .int x2)] := hl
  unfold fX6_measure at hf
  refine lv_aload_n hx hb dX6_measure_0 rfl (lv_at hl 0 rfl) ?_
  refine gf_X6_19 X hb hF sh_X6 dX6_measure_1 ?_
  refine lv_iload_n hx hb dX6_measure_4 rfl (lv_at hl 1 rfl) ?_
  obtain ⟨r2, hq1, hf⟩ := bi_some hf
  refine cm_X6_117 (As := [.int x1]) (rest := []) X hb hml hF (cX0_hasHouse_ok (l := l) (G := G) X.2.2.2.2 isC_17 hq1) (sh_C isC_17) ⟨Nat.le_of_ble_eq_true rfl, Nat.le_of_ble_eq_true rfl⟩ rfl rfl ⟨Nat.zero_le _, Nat.zero_le _⟩ rfl hl.1 rfl (Nat.le_of_ble_eq_true rfl) dX6_measure_5 (fun H locs hF => ?_)
  refine lv_if_eq (tgt := 20) hx hb dX6_measure_8 (by decide) (fun cd3 => ?_) (fun cd3 => ?_)
  · replace hf := ifp cd3 hf
    refine lv_iconst (v := (-1 : Int32)) hx hb dX6_measure_20 (by decide) ?_
    obtain ⟨rfl, rfl⟩ := Prod.mk.inj (Option.some.inj hf)
    exact fl_iret X hb hr hlk hF dX6_measure_21
  · replace hf := ifn cd3 hf
    refine lv_iload_n hx hb dX6_measure_11 rfl (lv_at hl 2 rfl) ?_
    refine lv_if_lt (tgt := 20) hx hb dX6_measure_12 (by decide) (fun cd4 => ?_) (fun cd4 => ?_)
    · replace hf := ifp cd4 hf
      refine lv_iconst (v := (-1 : Int32)) hx hb dX6_measure_20 (by decide) ?_
      obtain ⟨rfl, rfl⟩ := Prod.mk.inj (Option.some.inj hf)
      exact fl_iret X hb hr hlk hF dX6_measure_21
    · replace hf := ifn cd4 hf
      refine lv_iload_n hx hb dX6_measure_15 rfl (lv_at hl 2 rfl) ?_
      refine lv_iconst (v := (5 : Int32)) hx hb dX6_measure_16 (by decide) ?_
      refine lv_icmp_lt (tgt := 22) hx hb dX6_measure_17 (by decide) (fun cd5 => ?_) (fun cd5 => ?_)
      · replace hf := ifp cd5 hf
        refine lv_aload_n hx hb dX6_measure_22 rfl (lv_at hl 0 rfl) ?_
        refine lv_iload_n hx hb dX6_measure_23 rfl (lv_at hl 1 rfl) ?_
        refine lv_iload_n hx hb dX6_measure_24 rfl (lv_at hl 2 rfl) ?_
        obtain ⟨r7, σ8, hq6, hf⟩ := bm_some hf
        refine cm_X6_150 (As := [.int x1, .int x2]) (rest := []) X hb hml hF (cX6_measureOf_ok (l := l) (G := G) X.2.2.2.2 hq6) sh_X6 ⟨Nat.le_of_ble_eq_true rfl, Nat.le_of_ble_eq_true rfl⟩ rfl rfl ⟨Nat.zero_le _, Nat.zero_le _⟩ rfl hl.1 rfl (Nat.le_of_ble_eq_true rfl) dX6_measure_25 (fun H locs hF => ?_)
        obtain ⟨rfl, rfl⟩ := Prod.mk.inj (Option.some.inj hf)
        exact fl_iret X hb hr hlk hF dX6_measure_28
      · replace hf := ifn cd5 hf
        refine lv_iconst (v := (-1 : Int32)) hx hb dX6_measure_20 (by decide) ?_
        obtain ⟨rfl, rfl⟩ := Prod.mk.inj (Option.some.inj hf)
        exact fl_iret X hb hr hlk hF dX6_measure_21
set_option maxHeartbeats 4000000 in
set_option maxRecDepth 100000 in
theorem bX6_housesAbove_4 {σ : Mem} {r : Int32} (M : MX p s m args meth c RX6 G wX cX6_housesAbove 4 (some .int)) : ∀ (fu : Nat) (x1 : Int32) (x2 : Int32) (x3 : Int32) (H : Heap) (locs : List Loc) (ls : Array Slot), fX6_housesAbove_4 σ fu x1 x2 x3 = some r → FH G wX s.heap H locs σ → lv_has ls 4 [(0, .ref (gA G 0)), (1, .int x1), (2, .int x2), (3, .int x3)] → WG p l e ({ frames := 0, cells := 0, slots := 0, locals := 0 }) s m args below meth c G wX (some (.int r)) σ H locs 4 ls [] := by
  obtain ⟨X, hb, hml, hr, hlk⟩ := id M
  have hx := X.1
  intro fu
  induction fu with
  | zero =>
    intro x1 x2 x3 H locs ls hf hF hl
    rw [fX6_housesAbove_4] at hf
    cases hf
  | succ fu ih =>
    intro x1 x2 x3 H locs ls hf hF hl
    rw [fX6_housesAbove_4] at hf
    refine lv_iload_n hx hb dX6_housesAbove_4 rfl (lv_at hl 3 rfl) ?_
    refine lv_aload_n hx hb dX6_housesAbove_5 rfl (lv_at hl 0 rfl) ?_
    refine gf_X6_19 X hb hF sh_X6 dX6_housesAbove_6 ?_
    refine gf_X6_153 X hb hF (sh_C isC_17) dX6_housesAbove_9 ?_
    refine lv_icmp_ge (tgt := 59) hx hb dX6_housesAbove_12 (by decide) (fun cd1 => ?_) (fun cd1 => ?_)
    · replace hf := ifp cd1 hf
      refine lv_iload_n hx hb dX6_housesAbove_59 rfl (lv_at hl 2 rfl) ?_
      obtain rfl := Option.some.inj hf
      exact fl_iret X hb hr hlk hF dX6_housesAbove_60
    · replace hf := ifn cd1 hf
      refine lv_aload_n hx hb dX6_housesAbove_15 rfl (lv_at hl 0 rfl) ?_
      refine gf_X6_55 X hb hF sh_X6 dX6_housesAbove_16 ?_
      refine lv_iload_n hx hb dX6_housesAbove_19 rfl (lv_at hl 3 rfl) ?_
      obtain ⟨g2, hf⟩ := grd_some hf
      refine fl_iald X hb hF sh_a15 g2 dX6_housesAbove_20 ?_
      refine lv_aload_n hx hb dX6_housesAbove_21 rfl (lv_at hl 0 rfl) ?_
      refine gf_X6_55 X hb hF sh_X6 dX6_housesAbove_22 ?_
      refine lv_iload_n hx hb dX6_housesAbove_25 rfl (lv_at hl 1 rfl) ?_
      obtain ⟨g3, hf⟩ := grd_some hf
      refine fl_iald X hb hF sh_a15 g3 dX6_housesAbove_26 ?_
      refine lv_icmp_gt (tgt := 50) hx hb dX6_housesAbove_27 (by decide) (fun cd4 => ?_) (fun cd4 => ?_)
      · replace hf := ifp cd4 hf
        refine lv_iinc (v := x2 + (1 : Int32)) (lv' := [(2, .int (x2 + (1 : Int32))), (0, .ref (gA G 0)), (1, .int x1), (3, .int x3)]) hx hb dX6_housesAbove_50 hl (k := 2) rfl rfl (by decide) rfl (fun ls hl => ?_)
        refine lv_iinc (v := x3 + (1 : Int32)) (lv' := [(3, .int (x3 + (1 : Int32))), (2, .int (x2 + (1 : Int32))), (0, .ref (gA G 0)), (1, .int x1)]) hx hb dX6_housesAbove_53 hl (k := 3) rfl rfl (by decide) rfl (fun ls hl => ?_)
        refine lv_goto (tgt := 4) hx hb dX6_housesAbove_56 (by decide) ?_
        exact ih x1 (x2 + (1 : Int32)) (x3 + (1 : Int32)) _ _ _ hf hF (lv_sub hl [2, 3, 1, 0] rfl)
      · replace hf := ifn cd4 hf
        refine lv_iload_n hx hb dX6_housesAbove_30 rfl (lv_at hl 3 rfl) ?_
        refine lv_iload_n hx hb dX6_housesAbove_31 rfl (lv_at hl 1 rfl) ?_
        refine lv_icmp_ge (tgt := 53) hx hb dX6_housesAbove_32 (by decide) (fun cd5 => ?_) (fun cd5 => ?_)
        · replace hf := ifp cd5 hf
          refine lv_iinc (v := x3 + (1 : Int32)) (lv' := [(3, .int (x3 + (1 : Int32))), (0, .ref (gA G 0)), (1, .int x1), (2, .int x2)]) hx hb dX6_housesAbove_53 hl (k := 3) rfl rfl (by decide) rfl (fun ls hl => ?_)
          refine lv_goto (tgt := 4) hx hb dX6_housesAbove_56 (by decide) ?_
          exact ih x1 x2 (x3 + (1 : Int32)) _ _ _ hf hF (lv_sub hl [1, 2, 3, 0] rfl)
        · replace hf := ifn cd5 hf
          refine lv_aload_n hx hb dX6_housesAbove_35 rfl (lv_at hl 0 rfl) ?_
          refine gf_X6_55 X hb hF sh_X6 dX6_housesAbove_36 ?_
          refine lv_iload_n hx hb dX6_housesAbove_39 rfl (lv_at hl 3 rfl) ?_
          obtain ⟨g6, hf⟩ := grd_some hf
          refine fl_iald X hb hF sh_a15 g6 dX6_housesAbove_40 ?_
          refine lv_aload_n hx hb dX6_housesAbove_41 rfl (lv_at hl 0 rfl) ?_
          refine gf_X6_55 X hb hF sh_X6 dX6_housesAbove_42 ?_
          refine lv_iload_n hx hb dX6_housesAbove_45 rfl (lv_at hl 1 rfl) ?_
          obtain ⟨g7, hf⟩ := grd_some hf
          refine fl_iald X hb hF sh_a15 g7 dX6_housesAbove_46 ?_
          refine lv_icmp_ne (tgt := 53) hx hb dX6_housesAbove_47 (by decide) (fun cd8 => ?_) (fun cd8 => ?_)
          · replace hf := ifn cd8 hf
            refine lv_iinc (v := x3 + (1 : Int32)) (lv' := [(3, .int (x3 + (1 : Int32))), (0, .ref (gA G 0)), (1, .int x1), (2, .int x2)]) hx hb dX6_housesAbove_53 hl (k := 3) rfl rfl (by decide) rfl (fun ls hl => ?_)
            refine lv_goto (tgt := 4) hx hb dX6_housesAbove_56 (by decide) ?_
            exact ih x1 x2 (x3 + (1 : Int32)) _ _ _ hf hF (lv_sub hl [1, 2, 3, 0] rfl)
          · replace hf := ifp cd8 hf
            refine lv_iinc (v := x2 + (1 : Int32)) (lv' := [(2, .int (x2 + (1 : Int32))), (0, .ref (gA G 0)), (1, .int x1), (3, .int x3)]) hx hb dX6_housesAbove_50 hl (k := 2) rfl rfl (by decide) rfl (fun ls hl => ?_)
            refine lv_iinc (v := x3 + (1 : Int32)) (lv' := [(3, .int (x3 + (1 : Int32))), (2, .int (x2 + (1 : Int32))), (0, .ref (gA G 0)), (1, .int x1)]) hx hb dX6_housesAbove_53 hl (k := 3) rfl rfl (by decide) rfl (fun ls hl => ?_)
            refine lv_goto (tgt := 4) hx hb dX6_housesAbove_56 (by decide) ?_
            exact ih x1 (x2 + (1 : Int32)) (x3 + (1 : Int32)) _ _ _ hf hF (lv_sub hl [2, 3, 1, 0] rfl)
set_option maxHeartbeats 4000000 in
set_option maxRecDepth 100000 in
theorem cX6_housesAbove_ok {l : Launch} {G : Gl} (hI : FI G wX) {x1 : Int32} {σ : Mem} {r : Int32} (hf : fX6_housesAbove x1 σ = some r) : Ct l G wX yX6_housesAbove cX6_housesAbove 4 (some .int) ({ frames := 0, cells := 0, slots := 0, locals := 0 }) [.ref (gA G 0), .int x1] σ (some (.int r)) σ := by
  refine fl_start hI (by decide) (Nat.le_of_ble_eq_true rfl) ?_
  intro p e s m below meth c M hF ls hl
  obtain ⟨X, hb, hml, hr, hlk⟩ := id M
  have hx := X.1
  have hl : lv_has ls 4 [(0, .ref (gA G 0)), (1, .int x1)] := hl
  unfold fX6_housesAbove at hf
  refine lv_iconst (v := (0 : Int32)) hx hb dX6_housesAbove_0 (by decide) ?_
  refine lv_istore_n (lv' := [(2, .int (0 : Int32)), (0, .ref (gA G 0)), (1, .int x1)]) hx hb dX6_housesAbove_1 rfl hl (by decide) rfl (fun ls hl => ?_)
  refine lv_iconst (v := (0 : Int32)) hx hb dX6_housesAbove_2 (by decide) ?_
  refine lv_istore_n (lv' := [(3, .int (0 : Int32)), (2, .int (0 : Int32)), (0, .ref (gA G 0)), (1, .int x1)]) hx hb dX6_housesAbove_3 rfl hl (by decide) rfl (fun ls hl => ?_)
  exact bX6_housesAbove_4 M FU x1 (0 : Int32) (0 : Int32) _ _ _ hf hF (lv_sub hl [2, 3, 1, 0] rfl)
set_option maxHeartbeats 4000000 in
set_option maxRecDepth 100000 in
theorem bX6_rank_48 {r : Int32} {σ' : Mem} (M : MX p s m args meth c RX6 G wX cX6_rank 4 (some .int)) : ∀ (fu : Nat) (x2 : Int32) (x3 : Int32) (σ : Mem) (H : Heap) (locs : List Loc) (ls : Array Slot), fX6_rank_48 fu x2 x3 σ = some (r, σ') → FH G wX s.heap H locs σ → lv_has ls 4 [(0, .ref (gA G 0)), (2, .int x2), (3, .int x3)] → WG p l e ({ frames := 6, cells := 0, slots := 0, locals := 135 }) s m args below meth c G wX (some (.int r)) σ' H locs 48 ls [] := by
  obtain ⟨X, hb, hml, hr, hlk⟩ := id M
  have hx := X.1
  intro fu
  induction fu with
  | zero =>
    intro x2 x3 σ H locs ls hf hF hl
    rw [fX6_rank_48] at hf
    cases hf
  | succ fu ih =>
    intro x2 x3 σ H locs ls hf hF hl
    rw [fX6_rank_48] at hf
    refine lv_iload_n hx hb dX6_rank_48 rfl (lv_at hl 2 rfl) ?_
    refine lv_aload_n hx hb dX6_rank_49 rfl (lv_at hl 0 rfl) ?_
    refine gf_X6_19 X hb hF sh_X6 dX6_rank_50 ?_
    refine gf_X6_153 X hb hF (sh_C isC_17) dX6_rank_53 ?_
    refine lv_icmp_ge (tgt := 76) hx hb dX6_rank_56 (by decide) (fun cd5 => ?_) (fun cd5 => ?_)
    · replace hf := ifp cd5 hf
      refine lv_bipush (v := (-9 : Int32)) hx hb dX6_rank_76 (by decide) ?_
      obtain ⟨rfl, rfl⟩ := Prod.mk.inj (Option.some.inj hf)
      exact fl_iret X hb hr hlk hF dX6_rank_78
    · replace hf := ifn cd5 hf
      refine lv_aload_n hx hb dX6_rank_59 rfl (lv_at hl 0 rfl) ?_
      refine lv_iload_n hx hb dX6_rank_60 rfl (lv_at hl 2 rfl) ?_
      obtain ⟨r7, hq6, hf⟩ := bi_some hf
      refine cm_X6_154 (As := [.int x3]) (rest := []) X hb hml hF (cX6_housesAbove_ok (l := l) (G := G) X.2.2.2.2 hq6) sh_X6 ⟨Nat.le_of_ble_eq_true rfl, Nat.le_of_ble_eq_true rfl⟩ rfl rfl ⟨Nat.zero_le _, Nat.zero_le _⟩ rfl hl.1 rfl (Nat.le_of_ble_eq_true rfl) dX6_rank_61 (fun H locs hF => ?_)
      refine lv_iload_n hx hb dX6_rank_64 rfl (lv_at hl 1 rfl) ?_
      refine lv_icmp_ne (tgt := 70) hx hb dX6_rank_65 (by decide) (fun cd8 => ?_) (fun cd8 => ?_)
      · replace hf := ifn cd8 hf
        refine lv_iinc (v := x3 + (1 : Int32)) (lv' := [(3, .int (x3 + (1 : Int32))), (0, .ref (gA G 0)), (2, .int x2)]) hx hb dX6_rank_70 hl (k := 2) rfl rfl (by decide) rfl (fun ls hl => ?_)
        refine lv_goto (tgt := 48) hx hb dX6_rank_73 (by decide) ?_
        exact ih x2 (x3 + (1 : Int32)) σ _ _ _ hf hF (lv_sub hl [1, 2, 0] rfl)
      · replace hf := ifp cd8 hf
        refine lv_iload_n hx hb dX6_rank_68 rfl (lv_at hl 2 rfl) ?_
        obtain ⟨rfl, rfl⟩ := Prod.mk.inj (Option.some.inj hf)
        exact fl_iret X hb hr hlk hF dX6_rank_69
set_option maxHeartbeats 4000000 in
set_option maxRecDepth 100000 in
theorem bX6_rank_17 {r : Int32} {σ' : Mem} (M : MX p s m args meth c RX6 G wX cX6_rank 4 (some .int)) : ∀ (fu : Nat) (x1 : Int32) (x2 : Int32) (x3 : Int32) (σ : Mem) (H : Heap) (locs : List Loc) (ls : Array Slot), fX6_rank_17 fu x1 x2 x3 σ = some (r, σ') → FH G wX s.heap H locs σ → lv_has ls 4 [(0, .ref (gA G 0)), (1, .int x1), (2, .int x2), (3, .int x3)] → WG p l e ({ frames := 6, cells := 0, slots := 0, locals := 135 }) s m args below meth c G wX (some (.int r)) σ' H locs 17 ls [] := by
  obtain ⟨X, hb, hml, hr, hlk⟩ := id M
  have hx := X.1
  intro fu
  induction fu with
  | zero =>
    intro x1 x2 x3 σ H locs ls hf hF hl
    rw [fX6_rank_17] at hf
    cases hf
  | succ fu ih =>
    intro x1 x2 x3 σ H locs ls hf hF hl
    rw [fX6_rank_17] at hf
    refine lv_iload_n hx hb dX6_rank_17 rfl (lv_at hl 3 rfl) ?_
    refine lv_aload_n hx hb dX6_rank_18 rfl (lv_at hl 0 rfl) ?_
    refine gf_X6_19 X hb hF sh_X6 dX6_rank_19 ?_
    refine gf_X6_153 X hb hF (sh_C isC_17) dX6_rank_22 ?_
    refine lv_icmp_ge (tgt := 46) hx hb dX6_rank_25 (by decide) (fun cd4 => ?_) (fun cd4 => ?_)
    · replace hf := ifp cd4 hf
      refine lv_iconst (v := (0 : Int32)) hx hb dX6_rank_46 (by decide) ?_
      refine lv_istore_n (lv' := [(3, .int (0 : Int32)), (0, .ref (gA G 0)), (1, .int x1), (2, .int x2)]) hx hb dX6_rank_47 rfl hl (by decide) rfl (fun ls hl => ?_)
      exact bX6_rank_48 M FU x2 (0 : Int32) σ _ _ _ hf hF (lv_sub hl [1, 3, 0] rfl)
    · replace hf := ifn cd4 hf
      refine lv_aload_n hx hb dX6_rank_28 rfl (lv_at hl 0 rfl) ?_
      refine gf_X6_55 X hb hF sh_X6 dX6_rank_29 ?_
      refine lv_iload_n hx hb dX6_rank_32 rfl (lv_at hl 3 rfl) ?_
      refine lv_aload_n hx hb dX6_rank_33 rfl (lv_at hl 0 rfl) ?_
      refine lv_iload_n hx hb dX6_rank_34 rfl (lv_at hl 3 rfl) ?_
      refine lv_iload_n hx hb dX6_rank_35 rfl (lv_at hl 1 rfl) ?_
      obtain ⟨r10, σ11, hq9, hf⟩ := bm_some hf
      refine cm_X6_150 (As := [.int x3, .int x1]) (rest := [.int x3, .ref (gA G 15)]) X hb hml hF (cX6_measureOf_ok (l := l) (G := G) X.2.2.2.2 hq9) sh_X6 ⟨Nat.le_of_ble_eq_true rfl, Nat.le_of_ble_eq_true rfl⟩ rfl rfl ⟨Nat.zero_le _, Nat.zero_le _⟩ rfl hl.1 rfl (Nat.le_of_ble_eq_true rfl) dX6_rank_36 (fun H locs hF => ?_)
      obtain ⟨g12, hf⟩ := grd_some hf
      refine fl_iast X hb hF sh_a15 g12 dX6_rank_39 (fun H locs hF => ?_)
      refine lv_iinc (v := x3 + (1 : Int32)) (lv' := [(3, .int (x3 + (1 : Int32))), (0, .ref (gA G 0)), (1, .int x1), (2, .int x2)]) hx hb dX6_rank_40 hl (k := 3) rfl rfl (by decide) rfl (fun ls hl => ?_)
      refine lv_goto (tgt := 17) hx hb dX6_rank_43 (by decide) ?_
      exact ih x1 x2 (x3 + (1 : Int32)) (mup σ11 15 x3.toNatClampNeg r10) _ _ _ hf hF (lv_sub hl [1, 2, 3, 0] rfl)
set_option maxHeartbeats 4000000 in
set_option maxRecDepth 100000 in
theorem cX6_rank_ok {l : Launch} {G : Gl} (hI : FI G wX) {x1 : Int32} {x2 : Int32} {σ : Mem} {r : Int32} {σ' : Mem} (hf : fX6_rank x1 x2 σ = some (r, σ')) : Ct l G wX yX6_rank cX6_rank 4 (some .int) ({ frames := 6, cells := 0, slots := 0, locals := 135 }) [.ref (gA G 0), .int x1, .int x2] σ (some (.int r)) σ' := by
  refine fl_start hI (by decide) (Nat.le_of_ble_eq_true rfl) ?_
  intro p e s m below meth c M hF ls hl
  obtain ⟨X, hb, hml, hr, hlk⟩ := id M
  have hx := X.1
  have hl : lv_has ls 4 [(0, .ref (gA G 0)), (1, .int x1), (2, .int x2)] := hl
  unfold fX6_rank at hf
  refine lv_iload_n hx hb dX6_rank_0 rfl (lv_at hl 1 rfl) ?_
  refine lv_if_lt (tgt := 13) hx hb dX6_rank_1 (by decide) (fun cd1 => ?_) (fun cd1 => ?_)
  · replace hf := ifp cd1 hf
    refine lv_iconst (v := (-1 : Int32)) hx hb dX6_rank_13 (by decide) ?_
    obtain ⟨rfl, rfl⟩ := Prod.mk.inj (Option.some.inj hf)
    exact fl_iret X hb hr hlk hF dX6_rank_14
  · replace hf := ifn cd1 hf
    refine lv_iload_n hx hb dX6_rank_4 rfl (lv_at hl 1 rfl) ?_
    refine lv_iconst (v := (5 : Int32)) hx hb dX6_rank_5 (by decide) ?_
    refine lv_icmp_ge (tgt := 13) hx hb dX6_rank_6 (by decide) (fun cd2 => ?_) (fun cd2 => ?_)
    · replace hf := ifp cd2 hf
      refine lv_iconst (v := (-1 : Int32)) hx hb dX6_rank_13 (by decide) ?_
      obtain ⟨rfl, rfl⟩ := Prod.mk.inj (Option.some.inj hf)
      exact fl_iret X hb hr hlk hF dX6_rank_14
    · replace hf := ifn cd2 hf
      refine lv_iload_n hx hb dX6_rank_9 rfl (lv_at hl 2 rfl) ?_
      refine lv_if_ge (tgt := 15) hx hb dX6_rank_10 (by decide) (fun cd3 => ?_) (fun cd3 => ?_)
      · replace hf := ifp cd3 hf
        refine lv_iconst (v := (0 : Int32)) hx hb dX6_rank_15 (by decide) ?_
        refine lv_istore_n (lv' := [(3, .int (0 : Int32)), (0, .ref (gA G 0)), (1, .int x1), (2, .int x2)]) hx hb dX6_rank_16 rfl hl (by decide) rfl (fun ls hl => ?_)
        exact bX6_rank_17 M FU x1 x2 (0 : Int32) σ _ _ _ hf hF (lv_sub hl [1, 2, 3, 0] rfl)
      · replace hf := ifn cd3 hf
        refine lv_iconst (v := (-1 : Int32)) hx hb dX6_rank_13 (by decide) ?_
        obtain ⟨rfl, rfl⟩ := Prod.mk.inj (Option.some.inj hf)
        exact fl_iret X hb hr hlk hF dX6_rank_14
set_option maxHeartbeats 4000000 in
set_option maxRecDepth 100000 in
theorem cX6_isEvent_ok {l : Launch} {G : Gl} (hI : FI G wX) {x0 : Int32} {σ : Mem} {r : Int32} (hf : fX6_isEvent x0 = some r) : Ct l G wX yX6_isEvent cX6_isEvent 1 (some .boolean) ({ frames := 0, cells := 0, slots := 0, locals := 0 }) [.int x0] σ (some (.int r)) σ := by
  refine fl_start hI (by decide) (Nat.le_of_ble_eq_true rfl) ?_
  intro p e s m below meth c M hF ls hl
  obtain ⟨X, hb, hml, hr, hlk⟩ := id M
  have hx := X.1
  have hl : lv_has ls 1 [(0, .int x0)] := hl
  unfold fX6_isEvent at hf
  refine lv_iload_n hx hb dX6_isEvent_0 rfl (lv_at hl 0 rfl) ?_
  refine lv_if_lt (tgt := 14) hx hb dX6_isEvent_1 (by decide) (fun cd1 => ?_) (fun cd1 => ?_)
  · replace hf := ifp cd1 hf
    refine lv_iconst (v := (0 : Int32)) hx hb dX6_isEvent_14 (by decide) ?_
    obtain rfl := Option.some.inj hf
    exact fl_zret X hb hr hlk hF (Or.inl rfl) dX6_isEvent_15
  · replace hf := ifn cd1 hf
    refine lv_iload_n hx hb dX6_isEvent_4 rfl (lv_at hl 0 rfl) ?_
    refine lv_bipush (v := (8 : Int32)) hx hb dX6_isEvent_5 (by decide) ?_
    refine lv_icmp_ge (tgt := 14) hx hb dX6_isEvent_7 (by decide) (fun cd2 => ?_) (fun cd2 => ?_)
    · replace hf := ifp cd2 hf
      refine lv_iconst (v := (0 : Int32)) hx hb dX6_isEvent_14 (by decide) ?_
      obtain rfl := Option.some.inj hf
      exact fl_zret X hb hr hlk hF (Or.inl rfl) dX6_isEvent_15
    · replace hf := ifn cd2 hf
      refine lv_iconst (v := (1 : Int32)) hx hb dX6_isEvent_10 (by decide) ?_
      refine lv_goto (tgt := 15) hx hb dX6_isEvent_11 (by decide) ?_
      obtain rfl := Option.some.inj hf
      exact fl_zret X hb hr hlk hF (Or.inr rfl) dX6_isEvent_15
set_option maxHeartbeats 4000000 in
set_option maxRecDepth 100000 in
theorem cX6_event_ok {l : Launch} {G : Gl} (hI : FI G wX) {x1 : Int32} {x2 : Int32} {σ : Mem} {r : Int32} {σ' : Mem} (hf : fX6_event x1 x2 σ = some (r, σ')) : Ct l G wX yX6_event cX6_event 3 (some .int) ({ frames := 3, cells := 0, slots := 0, locals := 66 }) [.ref (gA G 0), .int x1, .int x2] σ (some (.int r)) σ' := by
  refine fl_start hI (by decide) (Nat.le_of_ble_eq_true rfl) ?_
  intro p e s m below meth c M hF ls hl
  obtain ⟨X, hb, hml, hr, hlk⟩ := id M
  have hx := X.1
  have hl : lv_has ls 3 [(0, .ref (gA G 0)), (1, .int x1), (2, .int x2)] := hl
  unfold fX6_event at hf
  refine lv_iload_n hx hb dX6_event_0 rfl (lv_at hl 1 rfl) ?_
  obtain ⟨r2, hq1, hf⟩ := bi_some hf
  refine cm_X6_157 (As := [.int x1]) (rest := []) X hb hml hF (cX6_isEvent_ok (l := l) (G := G) (σ := σ) X.2.2.2.2 hq1) ⟨Nat.le_of_ble_eq_true rfl, Nat.le_of_ble_eq_true rfl⟩ rfl rfl ⟨Nat.zero_le _, Nat.zero_le _⟩ rfl hl.1 rfl (Nat.le_of_ble_eq_true rfl) dX6_event_1 (fun H locs hF => ?_)
  refine lv_if_ne (tgt := 9) hx hb dX6_event_4 (by decide) (fun cd3 => ?_) (fun cd3 => ?_)
  · replace hf := ifn cd3 hf
    refine lv_aload_n hx hb dX6_event_9 rfl (lv_at hl 0 rfl) ?_
    refine gf_X6_51 X hb hF sh_X6 dX6_event_10 ?_
    refine lv_aload_n hx hb dX6_event_13 rfl (lv_at hl 0 rfl) ?_
    refine gf_X6_19 X hb hF sh_X6 dX6_event_14 ?_
    refine lv_iconst (v := (0 : Int32)) hx hb dX6_event_17 (by decide) ?_
    obtain ⟨σ5, hq4, hf⟩ := bv_some hf
    refine cm_X6_160 (As := [.ref (gA G 17), .int (0 : Int32)]) (rest := []) X hb hml hF (cX3_look_ok (l := l) (G := G) X.2.2.2.2 isC_17 hq4) sh_X3 ⟨Nat.le_of_ble_eq_true rfl, Nat.le_of_ble_eq_true rfl⟩ rfl rfl ⟨Nat.zero_le _, Nat.zero_le _⟩ rfl hl.1 rfl (Nat.le_of_ble_eq_true rfl) dX6_event_18 (fun H locs hF => ?_)
    refine lv_iload_n hx hb dX6_event_21 rfl (lv_at hl 2 rfl) ?_
    by_cases cd6 : x2 = (0 : Int32)
    · replace hf := ifp cd6 hf
      refine lv_tableIn (tgt := 52) (off := 30) hx hb dX6_event_22 (by rw [cd6]; decide) (by rw [cd6]; decide) (by rw [cd6]; rfl) (by decide) ?_
      refine lv_aload_n hx hb dX6_event_52 rfl (lv_at hl 0 rfl) ?_
      refine gf_X6_19 X hb hF sh_X6 dX6_event_53 ?_
      refine lv_iload_n hx hb dX6_event_56 rfl (lv_at hl 1 rfl) ?_
      obtain ⟨r8, hq7, hf⟩ := bi_some hf
      refine cm_X6_164 (As := [.int x1]) (rest := []) X hb hml hF (cX0_housesThatHave_ok (l := l) (G := G) X.2.2.2.2 isC_17 hq7) (sh_C isC_17) ⟨Nat.le_of_ble_eq_true rfl, Nat.le_of_ble_eq_true rfl⟩ rfl rfl ⟨Nat.zero_le _, Nat.zero_le _⟩ rfl hl.1 rfl (Nat.le_of_ble_eq_true rfl) dX6_event_57 (fun H locs hF => ?_)
      obtain ⟨rfl, rfl⟩ := Prod.mk.inj (Option.some.inj hf)
      exact fl_iret X hb hr hlk hF dX6_event_60
    · replace hf := ifn cd6 hf
      by_cases cd9 : x2 = (1 : Int32)
      · replace hf := ifp cd9 hf
        refine lv_tableIn (tgt := 61) (off := 39) hx hb dX6_event_22 (by rw [cd9]; decide) (by rw [cd9]; decide) (by rw [cd9]; rfl) (by decide) ?_
        refine lv_aload_n hx hb dX6_event_61 rfl (lv_at hl 0 rfl) ?_
        refine gf_X6_51 X hb hF sh_X6 dX6_event_62 ?_
        refine gf_X6_167 X hb hF sh_X3 dX6_event_65 ?_
        refine lv_iload_n hx hb dX6_event_68 rfl (lv_at hl 1 rfl) ?_
        obtain ⟨g10, hf⟩ := grd_some hf
        refine fl_iald X hb hF sh_a13 g10 dX6_event_69 ?_
        obtain ⟨rfl, rfl⟩ := Prod.mk.inj (Option.some.inj hf)
        exact fl_iret X hb hr hlk hF dX6_event_70
      · replace hf := ifn cd9 hf
        by_cases cd11 : x2 = (2 : Int32)
        · replace hf := ifp cd11 hf
          refine lv_tableIn (tgt := 71) (off := 49) hx hb dX6_event_22 (by rw [cd11]; decide) (by rw [cd11]; decide) (by rw [cd11]; rfl) (by decide) ?_
          refine lv_aload_n hx hb dX6_event_71 rfl (lv_at hl 0 rfl) ?_
          refine gf_X6_51 X hb hF sh_X6 dX6_event_72 ?_
          refine gf_X6_170 X hb hF sh_X3 dX6_event_75 ?_
          refine lv_iload_n hx hb dX6_event_78 rfl (lv_at hl 1 rfl) ?_
          obtain ⟨g12, hf⟩ := grd_some hf
          refine fl_iald X hb hF sh_a14 g12 dX6_event_79 ?_
          obtain ⟨rfl, rfl⟩ := Prod.mk.inj (Option.some.inj hf)
          exact fl_iret X hb hr hlk hF dX6_event_80
        · replace hf := ifn cd11 hf
          by_cases cd13 : x2 = (3 : Int32)
          · replace hf := ifp cd13 hf
            refine lv_tableIn (tgt := 81) (off := 59) hx hb dX6_event_22 (by rw [cd13]; decide) (by rw [cd13]; decide) (by rw [cd13]; rfl) (by decide) ?_
            refine lv_aload_n hx hb dX6_event_81 rfl (lv_at hl 0 rfl) ?_
            refine gf_X6_51 X hb hF sh_X6 dX6_event_82 ?_
            obtain ⟨r15, hq14, hf⟩ := bi_some hf
            refine cm_X6_173 (As := []) (rest := []) X hb hml hF (cX3_knots_ok (l := l) (G := G) X.2.2.2.2 hq14) sh_X3 ⟨Nat.le_of_ble_eq_true rfl, Nat.le_of_ble_eq_true rfl⟩ rfl rfl ⟨Nat.zero_le _, Nat.zero_le _⟩ rfl hl.1 rfl (Nat.le_of_ble_eq_true rfl) dX6_event_85 (fun H locs hF => ?_)
            refine lv_iload_n hx hb dX6_event_88 rfl (lv_at hl 1 rfl) ?_
            refine lv_ishr hx hb dX6_event_89 ?_
            refine lv_iconst (v := (1 : Int32)) hx hb dX6_event_90 (by decide) ?_
            refine lv_iand hx hb dX6_event_91 ?_
            obtain ⟨rfl, rfl⟩ := Prod.mk.inj (Option.some.inj hf)
            exact fl_iret X hb hr hlk hF dX6_event_92
          · replace hf := ifn cd13 hf
            refine lv_tableOut (tgt := 93) hx hb dX6_event_22 (by have z0 := lv_neT (a := 0) cd6 (by decide); have z1 := lv_neT (a := 1) cd9 (by decide); have z2 := lv_neT (a := 2) cd11 (by decide); have z3 := lv_neT (a := 3) cd13 (by decide); omega) (by decide) ?_
            refine lv_iconst (v := (-1 : Int32)) hx hb dX6_event_93 (by decide) ?_
            obtain ⟨rfl, rfl⟩ := Prod.mk.inj (Option.some.inj hf)
            exact fl_iret X hb hr hlk hF dX6_event_94
  · replace hf := ifp cd3 hf
    refine lv_iconst (v := (-1 : Int32)) hx hb dX6_event_7 (by decide) ?_
    obtain ⟨rfl, rfl⟩ := Prod.mk.inj (Option.some.inj hf)
    exact fl_iret X hb hr hlk hF dX6_event_8
set_option maxHeartbeats 4000000 in
set_option maxRecDepth 100000 in
theorem bX6_dateOf_2 {r : Int32} {σ' : Mem} (M : MX p s m args meth c RX6 G wX cX6_dateOf 4 (some .int)) : ∀ (fu : Nat) (x1 : Int32) (x2 : Int32) (σ : Mem) (H : Heap) (locs : List Loc) (ls : Array Slot), fX6_dateOf_2 fu x1 x2 σ = some (r, σ') → FH G wX s.heap H locs σ → lv_has ls 4 [(0, .ref (gA G 0)), (1, .int x1), (2, .int x2)] → WG p l e ({ frames := 4, cells := 0, slots := 0, locals := 91 }) s m args below meth c G wX (some (.int r)) σ' H locs 2 ls [] := by
  obtain ⟨X, hb, hml, hr, hlk⟩ := id M
  have hx := X.1
  intro fu
  induction fu with
  | zero =>
    intro x1 x2 σ H locs ls hf hF hl
    rw [fX6_dateOf_2] at hf
    cases hf
  | succ fu ih =>
    intro x1 x2 σ H locs ls hf hF hl
    rw [fX6_dateOf_2] at hf
    refine lv_iload_n hx hb dX6_dateOf_2 rfl (lv_at hl 2 rfl) ?_
    refine lv_aload_n hx hb dX6_dateOf_3 rfl (lv_at hl 0 rfl) ?_
    refine gf_X6_19 X hb hF sh_X6 dX6_dateOf_4 ?_
    refine gf_X6_153 X hb hF (sh_C isC_17) dX6_dateOf_7 ?_
    refine lv_icmp_ge (tgt := 58) hx hb dX6_dateOf_10 (by decide) (fun cd1 => ?_) (fun cd1 => ?_)
    · replace hf := ifp cd1 hf
      refine lv_ldc (v := (-1000000 : Int32)) hx hb X.2.1 (X.2.2.1 _ wn_X6_120) dX6_dateOf_58 ?_
      obtain ⟨rfl, rfl⟩ := Prod.mk.inj (Option.some.inj hf)
      exact fl_iret X hb hr hlk hF dX6_dateOf_60
    · replace hf := ifn cd1 hf
      refine lv_aload_n hx hb dX6_dateOf_13 rfl (lv_at hl 0 rfl) ?_
      refine gf_X6_19 X hb hF sh_X6 dX6_dateOf_14 ?_
      refine gf_X6_85 X hb hF (sh_C isC_17) dX6_dateOf_17 ?_
      refine lv_iload_n hx hb dX6_dateOf_20 rfl (lv_at hl 2 rfl) ?_
      obtain ⟨g2, hf⟩ := grd_some hf
      refine fl_aaldH X hb hF (sh_Ca isC_17) g2 dX6_dateOf_21 ?_
      refine lv_iload_n hx hb dX6_dateOf_22 rfl (lv_at hl 1 rfl) ?_
      obtain ⟨r4, hq3, hf⟩ := bi_some hf
      refine cm_X6_216 (As := [.int x1]) (rest := []) X hb hml hF (cX2_placeOf_ok (l := l) (G := G) X.2.2.2.2 (isH_mk isC_17 g2) hq3) (sh_H (isH_mk isC_17 g2)) ⟨Nat.le_of_ble_eq_true rfl, Nat.le_of_ble_eq_true rfl⟩ rfl rfl ⟨Nat.zero_le _, Nat.zero_le _⟩ rfl hl.1 rfl (Nat.le_of_ble_eq_true rfl) dX6_dateOf_23 (fun H locs hF => ?_)
      refine lv_istore_n (lv' := [(3, .int r4), (0, .ref (gA G 0)), (1, .int x1), (2, .int x2)]) hx hb dX6_dateOf_26 rfl hl (by decide) rfl (fun ls hl => ?_)
      refine lv_iload_n hx hb dX6_dateOf_27 rfl (lv_at hl 0 rfl) ?_
      refine lv_if_lt (tgt := 52) hx hb dX6_dateOf_28 (by decide) (fun cd5 => ?_) (fun cd5 => ?_)
      · replace hf := ifp cd5 hf
        refine lv_iinc (v := x2 + (1 : Int32)) (lv' := [(2, .int (x2 + (1 : Int32))), (3, .int r4), (0, .ref (gA G 0)), (1, .int x1)]) hx hb dX6_dateOf_52 hl (k := 3) rfl rfl (by decide) rfl (fun ls hl => ?_)
        refine lv_goto (tgt := 2) hx hb dX6_dateOf_55 (by decide) ?_
        exact ih x1 (x2 + (1 : Int32)) σ _ _ _ hf hF (lv_sub hl [2, 3, 0] rfl)
      · replace hf := ifn cd5 hf
        refine lv_aload_n hx hb dX6_dateOf_31 rfl (lv_at hl 1 rfl) ?_
        refine gf_X6_19 X hb hF sh_X6 dX6_dateOf_32 ?_
        refine gf_X6_85 X hb hF (sh_C isC_17) dX6_dateOf_35 ?_
        refine lv_iload_n hx hb dX6_dateOf_38 rfl (lv_at hl 3 rfl) ?_
        obtain ⟨g6, hf⟩ := grd_some hf
        refine fl_aaldH X hb hF (sh_Ca isC_17) g6 dX6_dateOf_39 ?_
        refine gf_X6_94 X hb hF (sh_H (isH_mk isC_17 g6)) dX6_dateOf_40 ?_
        refine lv_iload_n hx hb dX6_dateOf_43 rfl (lv_at hl 0 rfl) ?_
        obtain ⟨g7, hf⟩ := grd_some hf
        refine fl_iald X hb hF (sh_Hy (isH_mk isC_17 g6)) g7 dX6_dateOf_44 ?_
        refine lv_aload_n hx hb dX6_dateOf_45 rfl (lv_at hl 1 rfl) ?_
        refine lv_iload_n hx hb dX6_dateOf_46 rfl (lv_at hl 3 rfl) ?_
        obtain ⟨r9, σ10, hq8, hf⟩ := bm_some hf
        refine cm_X6_141 (As := [.int x2]) (rest := [.int (σ ((17 + 2 + 3 * x2.toNatClampNeg) + 2) r4.toNatClampNeg)]) X hb hml hF (cX6_shiftOf_ok (l := l) (G := G) X.2.2.2.2 hq8) sh_X6 ⟨Nat.le_of_ble_eq_true rfl, Nat.le_of_ble_eq_true rfl⟩ rfl rfl ⟨Nat.zero_le _, Nat.zero_le _⟩ rfl hl.1 rfl (Nat.le_of_ble_eq_true rfl) dX6_dateOf_47 (fun H locs hF => ?_)
        refine lv_isub hx hb dX6_dateOf_50 ?_
        obtain ⟨rfl, rfl⟩ := Prod.mk.inj (Option.some.inj hf)
        exact fl_iret X hb hr hlk hF dX6_dateOf_51
set_option maxHeartbeats 4000000 in
set_option maxRecDepth 100000 in
theorem cX6_dateOf_ok {l : Launch} {G : Gl} (hI : FI G wX) {x1 : Int32} {σ : Mem} {r : Int32} {σ' : Mem} (hf : fX6_dateOf x1 σ = some (r, σ')) : Ct l G wX yX6_dateOf cX6_dateOf 4 (some .int) ({ frames := 4, cells := 0, slots := 0, locals := 91 }) [.ref (gA G 0), .int x1] σ (some (.int r)) σ' := by
  refine fl_start hI (by decide) (Nat.le_of_ble_eq_true rfl) ?_
  intro p e s m below meth c M hF ls hl
  obtain ⟨X, hb, hml, hr, hlk⟩ := id M
  have hx := X.1
  have hl : lv_has ls 4 [(0, .ref (gA G 0)), (1, .int x1)] := hl
  unfold fX6_dateOf at hf
  refine lv_iconst (v := (0 : Int32)) hx hb dX6_dateOf_0 (by decide) ?_
  refine lv_istore_n (lv' := [(2, .int (0 : Int32)), (0, .ref (gA G 0)), (1, .int x1)]) hx hb dX6_dateOf_1 rfl hl (by decide) rfl (fun ls hl => ?_)
  exact bX6_dateOf_2 M FU x1 (0 : Int32) σ _ _ _ hf hF (lv_sub hl [1, 2, 0] rfl)
set_option maxHeartbeats 4000000 in
set_option maxRecDepth 100000 in
theorem cX6_date_ok {l : Launch} {G : Gl} (hI : FI G wX) {x1 : Int32} {σ : Mem} {r : Int32} {σ' : Mem} (hf : fX6_date x1 σ = some (r, σ')) : Ct l G wX yX6_date cX6_date 2 (some .int) ({ frames := 5, cells := 0, slots := 0, locals := 114 }) [.ref (gA G 0), .int x1] σ (some (.int r)) σ' := by
  refine fl_start hI (by decide) (Nat.le_of_ble_eq_true rfl) ?_
  intro p e s m below meth c M hF ls hl
  obtain ⟨X, hb, hml, hr, hlk⟩ := id M
  have hx := X.1
  have hl : lv_has ls 2 [(0, .ref (gA G 0)), (1, .int x1)] := hl
  unfold fX6_date at hf
  refine lv_iload_n hx hb dX6_date_0 rfl (lv_at hl 1 rfl) ?_
  obtain ⟨r2, hq1, hf⟩ := bi_some hf
  refine cm_X6_157 (As := [.int x1]) (rest := []) X hb hml hF (cX6_isEvent_ok (l := l) (G := G) (σ := σ) X.2.2.2.2 hq1) ⟨Nat.le_of_ble_eq_true rfl, Nat.le_of_ble_eq_true rfl⟩ rfl rfl ⟨Nat.zero_le _, Nat.zero_le _⟩ rfl hl.1 rfl (Nat.le_of_ble_eq_true rfl) dX6_date_1 (fun H locs hF => ?_)
  refine lv_if_eq (tgt := 15) hx hb dX6_date_4 (by decide) (fun cd3 => ?_) (fun cd3 => ?_)
  · replace hf := ifp cd3 hf
    refine lv_ldc (v := (-1000000 : Int32)) hx hb X.2.1 (X.2.2.1 _ wn_X6_120) dX6_date_15 ?_
    obtain ⟨rfl, rfl⟩ := Prod.mk.inj (Option.some.inj hf)
    exact fl_iret X hb hr hlk hF dX6_date_17
  · replace hf := ifn cd3 hf
    refine lv_aload_n hx hb dX6_date_7 rfl (lv_at hl 0 rfl) ?_
    refine lv_iload_n hx hb dX6_date_8 rfl (lv_at hl 1 rfl) ?_
    obtain ⟨r5, σ6, hq4, hf⟩ := bm_some hf
    refine cm_X6_177 (As := [.int x1]) (rest := []) X hb hml hF (cX6_dateOf_ok (l := l) (G := G) X.2.2.2.2 hq4) sh_X6 ⟨Nat.le_of_ble_eq_true rfl, Nat.le_of_ble_eq_true rfl⟩ rfl rfl ⟨Nat.zero_le _, Nat.zero_le _⟩ rfl hl.1 rfl (Nat.le_of_ble_eq_true rfl) dX6_date_9 (fun H locs hF => ?_)
    refine lv_goto (tgt := 17) hx hb dX6_date_12 (by decide) ?_
    obtain ⟨rfl, rfl⟩ := Prod.mk.inj (Option.some.inj hf)
    exact fl_iret X hb hr hlk hF dX6_date_17
set_option maxHeartbeats 4000000 in
set_option maxRecDepth 100000 in
theorem bX6_late_43 {r : Int32} {σ' : Mem} (M : MX p s m args meth c RX6 G wX cX6_late 5 (some .int)) : ∀ (σ : Mem) (H : Heap) (locs : List Loc) (ls : Array Slot), fX6_late_43 σ = some (r, σ') → FH G wX s.heap H locs σ → lv_has ls 5 [] → WG p l e ({ frames := 5, cells := 0, slots := 0, locals := 114 }) s m args below meth c G wX (some (.int r)) σ' H locs 43 ls [] := by
  obtain ⟨X, hb, hml, hr, hlk⟩ := id M
  have hx := X.1
  intro σ H locs ls hf hF hl
  unfold fX6_late_43 at hf
  refine lv_ldc (v := (-1000000 : Int32)) hx hb X.2.1 (X.2.2.1 _ wn_X6_120) dX6_late_43 ?_
  refine lv_goto (tgt := 52) hx hb dX6_late_45 (by decide) ?_
  obtain ⟨rfl, rfl⟩ := Prod.mk.inj (Option.some.inj hf)
  exact fl_iret X hb hr hlk hF dX6_late_52
set_option maxHeartbeats 4000000 in
set_option maxRecDepth 100000 in
theorem cX6_late_ok {l : Launch} {G : Gl} (hI : FI G wX) {x1 : Int32} {x2 : Int32} {σ : Mem} {r : Int32} {σ' : Mem} (hf : fX6_late x1 x2 σ = some (r, σ')) : Ct l G wX yX6_late cX6_late 5 (some .int) ({ frames := 5, cells := 0, slots := 0, locals := 114 }) [.ref (gA G 0), .int x1, .int x2] σ (some (.int r)) σ' := by
  refine fl_start hI (by decide) (Nat.le_of_ble_eq_true rfl) ?_
  intro p e s m below meth c M hF ls hl
  obtain ⟨X, hb, hml, hr, hlk⟩ := id M
  have hx := X.1
  have hl : lv_has ls 5 [(0, .ref (gA G 0)), (1, .int x1), (2, .int x2)] := hl
  unfold fX6_late at hf
  refine lv_iload_n hx hb dX6_late_0 rfl (lv_at hl 1 rfl) ?_
  obtain ⟨r2, hq1, hf⟩ := bi_some hf
  refine cm_X6_157 (As := [.int x1]) (rest := []) X hb hml hF (cX6_isEvent_ok (l := l) (G := G) (σ := σ) X.2.2.2.2 hq1) ⟨Nat.le_of_ble_eq_true rfl, Nat.le_of_ble_eq_true rfl⟩ rfl rfl ⟨Nat.zero_le _, Nat.zero_le _⟩ rfl hl.1 rfl (Nat.le_of_ble_eq_true rfl) dX6_late_1 (fun H locs hF => ?_)
  refine lv_if_eq (tgt := 14) hx hb dX6_late_4 (by decide) (fun cd3 => ?_) (fun cd3 => ?_)
  · replace hf := ifp cd3 hf
    refine lv_ldc (v := (-1000000 : Int32)) hx hb X.2.1 (X.2.2.1 _ wn_X6_120) dX6_late_14 ?_
    obtain ⟨rfl, rfl⟩ := Prod.mk.inj (Option.some.inj hf)
    exact fl_iret X hb hr hlk hF dX6_late_16
  · replace hf := ifn cd3 hf
    refine lv_iload_n hx hb dX6_late_7 rfl (lv_at hl 2 rfl) ?_
    obtain ⟨r5, hq4, hf⟩ := bi_some hf
    refine cm_X6_157 (As := [.int x2]) (rest := []) X hb hml hF (cX6_isEvent_ok (l := l) (G := G) (σ := σ) X.2.2.2.2 hq4) ⟨Nat.le_of_ble_eq_true rfl, Nat.le_of_ble_eq_true rfl⟩ rfl rfl ⟨Nat.zero_le _, Nat.zero_le _⟩ rfl hl.1 rfl (Nat.le_of_ble_eq_true rfl) dX6_late_8 (fun H locs hF => ?_)
    refine lv_if_ne (tgt := 17) hx hb dX6_late_11 (by decide) (fun cd6 => ?_) (fun cd6 => ?_)
    · replace hf := ifn cd6 hf
      refine lv_aload_n hx hb dX6_late_17 rfl (lv_at hl 0 rfl) ?_
      refine lv_iload_n hx hb dX6_late_18 rfl (lv_at hl 1 rfl) ?_
      obtain ⟨r8, σ9, hq7, hf⟩ := bm_some hf
      refine cm_X6_177 (As := [.int x1]) (rest := []) X hb hml hF (cX6_dateOf_ok (l := l) (G := G) X.2.2.2.2 hq7) sh_X6 ⟨Nat.le_of_ble_eq_true rfl, Nat.le_of_ble_eq_true rfl⟩ rfl rfl ⟨Nat.zero_le _, Nat.zero_le _⟩ rfl hl.1 rfl (Nat.le_of_ble_eq_true rfl) dX6_late_19 (fun H locs hF => ?_)
      refine lv_istore_n (lv' := [(3, .int r8), (0, .ref (gA G 0)), (1, .int x1), (2, .int x2)]) hx hb dX6_late_22 rfl hl (by decide) rfl (fun ls hl => ?_)
      refine lv_aload_n hx hb dX6_late_23 rfl (lv_at hl 1 rfl) ?_
      refine lv_iload_n hx hb dX6_late_24 rfl (lv_at hl 3 rfl) ?_
      obtain ⟨r11, σ12, hq10, hf⟩ := bm_some hf
      refine cm_X6_177 (As := [.int x2]) (rest := []) X hb hml hF (cX6_dateOf_ok (l := l) (G := G) X.2.2.2.2 hq10) sh_X6 ⟨Nat.le_of_ble_eq_true rfl, Nat.le_of_ble_eq_true rfl⟩ rfl rfl ⟨Nat.zero_le _, Nat.zero_le _⟩ rfl hl.1 rfl (Nat.le_of_ble_eq_true rfl) dX6_late_25 (fun H locs hF => ?_)
      refine lv_istore (lv' := [(4, .int r11), (3, .int r8), (0, .ref (gA G 0)), (1, .int x1), (2, .int x2)]) hx hb dX6_late_28 hl (by decide) rfl (fun ls hl => ?_)
      refine lv_iload_n hx hb dX6_late_30 rfl (lv_at hl 1 rfl) ?_
      refine lv_ldc (v := (-1000000 : Int32)) hx hb X.2.1 (X.2.2.1 _ wn_X6_120) dX6_late_31 ?_
      refine lv_icmp_eq (tgt := 43) hx hb dX6_late_33 (by decide) (fun cd13 => ?_) (fun cd13 => ?_)
      · replace hf := ifp cd13 hf
        exact bX6_late_43 M σ12 _ _ _ hf hF (lv_sub hl [] rfl)
      · replace hf := ifn cd13 hf
        refine lv_iload hx hb dX6_late_36 (lv_at hl 0 rfl) ?_
        refine lv_ldc (v := (-1000000 : Int32)) hx hb X.2.1 (X.2.2.1 _ wn_X6_120) dX6_late_38 ?_
        refine lv_icmp_ne (tgt := 48) hx hb dX6_late_40 (by decide) (fun cd14 => ?_) (fun cd14 => ?_)
        · replace hf := ifn cd14 hf
          refine lv_iload_n hx hb dX6_late_48 rfl (lv_at hl 1 rfl) ?_
          refine lv_iload hx hb dX6_late_49 (lv_at hl 0 rfl) ?_
          refine lv_isub hx hb dX6_late_51 ?_
          obtain ⟨rfl, rfl⟩ := Prod.mk.inj (Option.some.inj hf)
          exact fl_iret X hb hr hlk hF dX6_late_52
        · replace hf := ifp cd14 hf
          exact bX6_late_43 M σ12 _ _ _ hf hF (lv_sub hl [] rfl)
    · replace hf := ifp cd6 hf
      refine lv_ldc (v := (-1000000 : Int32)) hx hb X.2.1 (X.2.2.1 _ wn_X6_120) dX6_late_14 ?_
      obtain ⟨rfl, rfl⟩ := Prod.mk.inj (Option.some.inj hf)
      exact fl_iret X hb hr hlk hF dX6_late_16
set_option maxHeartbeats 4000000 in
set_option maxRecDepth 100000 in
theorem cX6_line_ok {l : Launch} {G : Gl} (hI : FI G wX) {x1 : Int32} {σ : Mem} {r : Int32} {σ' : Mem} (hf : fX6_line x1 σ = some (r, σ')) : Ct l G wX yX6_line cX6_line 2 (some .int) ({ frames := 3, cells := 0, slots := 0, locals := 65 }) [.ref (gA G 0), .int x1] σ (some (.int r)) σ' := by
  refine fl_start hI (by decide) (Nat.le_of_ble_eq_true rfl) ?_
  intro p e s m below meth c M hF ls hl
  obtain ⟨X, hb, hml, hr, hlk⟩ := id M
  have hx := X.1
  have hl : lv_has ls 2 [(0, .ref (gA G 0)), (1, .int x1)] := hl
  unfold fX6_line at hf
  refine lv_iload_n hx hb dX6_line_0 rfl (lv_at hl 1 rfl) ?_
  refine lv_if_ge (tgt := 6) hx hb dX6_line_1 (by decide) (fun cd1 => ?_) (fun cd1 => ?_)
  · replace hf := ifp cd1 hf
    refine lv_aload_n hx hb dX6_line_6 rfl (lv_at hl 0 rfl) ?_
    refine gf_X6_51 X hb hF sh_X6 dX6_line_7 ?_
    refine lv_aload_n hx hb dX6_line_10 rfl (lv_at hl 0 rfl) ?_
    refine gf_X6_19 X hb hF sh_X6 dX6_line_11 ?_
    refine lv_iconst (v := (0 : Int32)) hx hb dX6_line_14 (by decide) ?_
    obtain ⟨σ3, hq2, hf⟩ := bv_some hf
    refine cm_X6_160 (As := [.ref (gA G 17), .int (0 : Int32)]) (rest := []) X hb hml hF (cX3_look_ok (l := l) (G := G) X.2.2.2.2 isC_17 hq2) sh_X3 ⟨Nat.le_of_ble_eq_true rfl, Nat.le_of_ble_eq_true rfl⟩ rfl rfl ⟨Nat.zero_le _, Nat.zero_le _⟩ rfl hl.1 rfl (Nat.le_of_ble_eq_true rfl) dX6_line_15 (fun H locs hF => ?_)
    refine lv_aload_n hx hb dX6_line_18 rfl (lv_at hl 0 rfl) ?_
    refine gf_X6_51 X hb hF sh_X6 dX6_line_19 ?_
    obtain ⟨r5, hq4, hf⟩ := bi_some hf
    refine cm_X6_173 (As := []) (rest := []) X hb hml hF (cX3_knots_ok (l := l) (G := G) X.2.2.2.2 hq4) sh_X3 ⟨Nat.le_of_ble_eq_true rfl, Nat.le_of_ble_eq_true rfl⟩ rfl rfl ⟨Nat.zero_le _, Nat.zero_le _⟩ rfl hl.1 rfl (Nat.le_of_ble_eq_true rfl) dX6_line_22 (fun H locs hF => ?_)
    refine lv_if_ne (tgt := 46) hx hb dX6_line_25 (by decide) (fun cd6 => ?_) (fun cd6 => ?_)
    · replace hf := ifn cd6 hf
      refine lv_bipush (v := (-9 : Int32)) hx hb dX6_line_46 (by decide) ?_
      obtain ⟨rfl, rfl⟩ := Prod.mk.inj (Option.some.inj hf)
      exact fl_iret X hb hr hlk hF dX6_line_48
    · replace hf := ifp cd6 hf
      refine lv_aload_n hx hb dX6_line_28 rfl (lv_at hl 0 rfl) ?_
      refine gf_X6_51 X hb hF sh_X6 dX6_line_29 ?_
      refine lv_aload_n hx hb dX6_line_32 rfl (lv_at hl 0 rfl) ?_
      refine gf_X6_19 X hb hF sh_X6 dX6_line_33 ?_
      obtain ⟨r8, hq7, hf⟩ := bi_some hf
      refine cm_X6_180 (As := []) (rest := [.ref (gA G 12)]) X hb hml hF (cX0_eventBits_ok (l := l) (G := G) X.2.2.2.2 isC_17 hq7) (sh_C isC_17) ⟨Nat.le_of_ble_eq_true rfl, Nat.le_of_ble_eq_true rfl⟩ rfl rfl ⟨Nat.zero_le _, Nat.zero_le _⟩ rfl hl.1 rfl (Nat.le_of_ble_eq_true rfl) dX6_line_36 (fun H locs hF => ?_)
      refine lv_iload_n hx hb dX6_line_39 rfl (lv_at hl 1 rfl) ?_
      obtain ⟨r10, hq9, hf⟩ := bi_some hf
      refine cm_X6_183 (As := [.int r8, .int x1]) (rest := []) X hb hml hF (cX3_inLine_ok (l := l) (G := G) X.2.2.2.2 hq9) sh_X3 ⟨Nat.le_of_ble_eq_true rfl, Nat.le_of_ble_eq_true rfl⟩ rfl rfl ⟨Nat.zero_le _, Nat.zero_le _⟩ rfl hl.1 rfl (Nat.le_of_ble_eq_true rfl) dX6_line_40 (fun H locs hF => ?_)
      refine lv_goto (tgt := 48) hx hb dX6_line_43 (by decide) ?_
      obtain ⟨rfl, rfl⟩ := Prod.mk.inj (Option.some.inj hf)
      exact fl_iret X hb hr hlk hF dX6_line_48
  · replace hf := ifn cd1 hf
    refine lv_iconst (v := (-1 : Int32)) hx hb dX6_line_4 (by decide) ?_
    obtain ⟨rfl, rfl⟩ := Prod.mk.inj (Option.some.inj hf)
    exact fl_iret X hb hr hlk hF dX6_line_5
set_option maxHeartbeats 4000000 in
set_option maxRecDepth 100000 in
theorem bX6_without_14 {r : Int32} {σ' : Mem} (M : MX p s m args meth c RX6 G wX cX6_without 3 (some .int)) : ∀ (fu : Nat) (x1 : Int32) (x2 : Int32) (σ : Mem) (H : Heap) (locs : List Loc) (ls : Array Slot), fX6_without_14 fu x1 x2 σ = some (r, σ') → FH G wX s.heap H locs σ → lv_has ls 3 [(0, .ref (gA G 0)), (1, .int x1), (2, .int x2)] → WG p l e ({ frames := 2, cells := 0, slots := 0, locals := 48 }) s m args below meth c G wX (some (.int r)) σ' H locs 14 ls [] := by
  obtain ⟨X, hb, hml, hr, hlk⟩ := id M
  have hx := X.1
  intro fu
  induction fu with
  | zero =>
    intro x1 x2 σ H locs ls hf hF hl
    rw [fX6_without_14] at hf
    cases hf
  | succ fu ih =>
    intro x1 x2 σ H locs ls hf hF hl
    rw [fX6_without_14] at hf
    refine lv_iload_n hx hb dX6_without_14 rfl (lv_at hl 2 rfl) ?_
    refine lv_iconst (v := (1 : Int32)) hx hb dX6_without_15 (by decide) ?_
    refine lv_aload_n hx hb dX6_without_16 rfl (lv_at hl 0 rfl) ?_
    refine gf_X6_19 X hb hF sh_X6 dX6_without_17 ?_
    refine gf_X6_153 X hb hF (sh_C isC_17) dX6_without_20 ?_
    refine lv_ishl hx hb dX6_without_23 ?_
    refine lv_icmp_ge (tgt := 72) hx hb dX6_without_24 (by decide) (fun cd1 => ?_) (fun cd1 => ?_)
    · replace hf := ifp cd1 hf
      refine lv_iload_n hx hb dX6_without_72 rfl (lv_at hl 1 rfl) ?_
      obtain ⟨rfl, rfl⟩ := Prod.mk.inj (Option.some.inj hf)
      exact fl_iret X hb hr hlk hF dX6_without_73
    · replace hf := ifn cd1 hf
      refine lv_iload_n hx hb dX6_without_27 rfl (lv_at hl 2 rfl) ?_
      obtain ⟨r3, hq2, hf⟩ := bi_some hf
      refine cm_X6_186 (As := [.int x2]) (rest := []) X hb hml hF (cJ6_bitCount_0f7a4_ok (l := l) (G := G) (σ := σ) X.2.2.2.2 hq2) ⟨Nat.le_of_ble_eq_true rfl, Nat.le_of_ble_eq_true rfl⟩ rfl rfl ⟨Nat.zero_le _, Nat.zero_le _⟩ rfl hl.1 rfl (Nat.le_of_ble_eq_true rfl) dX6_without_28 (fun H locs hF => ?_)
      refine lv_iload_n hx hb dX6_without_31 rfl (lv_at hl 1 rfl) ?_
      obtain ⟨r5, hq4, hf⟩ := bi_some hf
      refine cm_X6_186 (As := [.int x1]) (rest := [.int r3]) X hb hml hF (cJ6_bitCount_0f7a4_ok (l := l) (G := G) (σ := σ) X.2.2.2.2 hq4) ⟨Nat.le_of_ble_eq_true rfl, Nat.le_of_ble_eq_true rfl⟩ rfl rfl ⟨Nat.zero_le _, Nat.zero_le _⟩ rfl hl.1 rfl (Nat.le_of_ble_eq_true rfl) dX6_without_32 (fun H locs hF => ?_)
      refine lv_icmp_ge (tgt := 66) hx hb dX6_without_35 (by decide) (fun cd6 => ?_) (fun cd6 => ?_)
      · replace hf := ifp cd6 hf
        refine lv_iinc (v := x2 + (1 : Int32)) (lv' := [(2, .int (x2 + (1 : Int32))), (0, .ref (gA G 0)), (1, .int x1)]) hx hb dX6_without_66 hl (k := 2) rfl rfl (by decide) rfl (fun ls hl => ?_)
        refine lv_goto (tgt := 14) hx hb dX6_without_69 (by decide) ?_
        exact ih x1 (x2 + (1 : Int32)) σ _ _ _ hf hF (lv_sub hl [1, 2, 0] rfl)
      · replace hf := ifn cd6 hf
        refine lv_aload_n hx hb dX6_without_38 rfl (lv_at hl 0 rfl) ?_
        refine gf_X6_51 X hb hF sh_X6 dX6_without_39 ?_
        refine lv_aload_n hx hb dX6_without_42 rfl (lv_at hl 0 rfl) ?_
        refine gf_X6_19 X hb hF sh_X6 dX6_without_43 ?_
        refine lv_iload_n hx hb dX6_without_46 rfl (lv_at hl 2 rfl) ?_
        obtain ⟨σ8, hq7, hf⟩ := bv_some hf
        refine cm_X6_160 (As := [.ref (gA G 17), .int x2]) (rest := []) X hb hml hF (cX3_look_ok (l := l) (G := G) X.2.2.2.2 isC_17 hq7) sh_X3 ⟨Nat.le_of_ble_eq_true rfl, Nat.le_of_ble_eq_true rfl⟩ rfl rfl ⟨Nat.zero_le _, Nat.zero_le _⟩ rfl hl.1 rfl (Nat.le_of_ble_eq_true rfl) dX6_without_47 (fun H locs hF => ?_)
        refine lv_aload_n hx hb dX6_without_50 rfl (lv_at hl 0 rfl) ?_
        refine gf_X6_51 X hb hF sh_X6 dX6_without_51 ?_
        obtain ⟨r10, hq9, hf⟩ := bi_some hf
        refine cm_X6_173 (As := []) (rest := []) X hb hml hF (cX3_knots_ok (l := l) (G := G) X.2.2.2.2 hq9) sh_X3 ⟨Nat.le_of_ble_eq_true rfl, Nat.le_of_ble_eq_true rfl⟩ rfl rfl ⟨Nat.zero_le _, Nat.zero_le _⟩ rfl hl.1 rfl (Nat.le_of_ble_eq_true rfl) dX6_without_54 (fun H locs hF => ?_)
        refine lv_if_ne (tgt := 64) hx hb dX6_without_57 (by decide) (fun cd11 => ?_) (fun cd11 => ?_)
        · replace hf := ifn cd11 hf
          refine lv_iload_n hx hb dX6_without_64 rfl (lv_at hl 1 rfl) ?_
          refine lv_istore_n (lv' := [(1, .int x1), (0, .ref (gA G 0)), (2, .int x2)]) hx hb dX6_without_65 rfl hl (by decide) rfl (fun ls hl => ?_)
          refine lv_iinc (v := x2 + (1 : Int32)) (lv' := [(2, .int (x2 + (1 : Int32))), (1, .int x1), (0, .ref (gA G 0))]) hx hb dX6_without_66 hl (k := 2) rfl rfl (by decide) rfl (fun ls hl => ?_)
          refine lv_goto (tgt := 14) hx hb dX6_without_69 (by decide) ?_
          exact ih x1 (x2 + (1 : Int32)) σ8 _ _ _ hf hF (lv_sub hl [2, 1, 0] rfl)
        · replace hf := ifp cd11 hf
          refine lv_iload_n hx hb dX6_without_60 rfl (lv_at hl 2 rfl) ?_
          refine lv_goto (tgt := 65) hx hb dX6_without_61 (by decide) ?_
          refine lv_istore_n (lv' := [(1, .int x2), (0, .ref (gA G 0)), (2, .int x2)]) hx hb dX6_without_65 rfl hl (by decide) rfl (fun ls hl => ?_)
          refine lv_iinc (v := x2 + (1 : Int32)) (lv' := [(2, .int (x2 + (1 : Int32))), (1, .int x2), (0, .ref (gA G 0))]) hx hb dX6_without_66 hl (k := 2) rfl rfl (by decide) rfl (fun ls hl => ?_)
          refine lv_goto (tgt := 14) hx hb dX6_without_69 (by decide) ?_
          exact ih x2 (x2 + (1 : Int32)) σ8 _ _ _ hf hF (lv_sub hl [2, 1, 0] rfl)
set_option maxHeartbeats 4000000 in
set_option maxRecDepth 100000 in
theorem cX6_without_ok {l : Launch} {G : Gl} (hI : FI G wX) {σ : Mem} {r : Int32} {σ' : Mem} (hf : fX6_without σ = some (r, σ')) : Ct l G wX yX6_without cX6_without 3 (some .int) ({ frames := 2, cells := 0, slots := 0, locals := 48 }) [.ref (gA G 0)] σ (some (.int r)) σ' := by
  refine fl_start hI (by decide) (Nat.le_of_ble_eq_true rfl) ?_
  intro p e s m below meth c M hF ls hl
  obtain ⟨X, hb, hml, hr, hlk⟩ := id M
  have hx := X.1
  have hl : lv_has ls 3 [(0, .ref (gA G 0))] := hl
  unfold fX6_without at hf
  refine lv_iconst (v := (1 : Int32)) hx hb dX6_without_0 (by decide) ?_
  refine lv_aload_n hx hb dX6_without_1 rfl (lv_at hl 0 rfl) ?_
  refine gf_X6_19 X hb hF sh_X6 dX6_without_2 ?_
  refine gf_X6_153 X hb hF (sh_C isC_17) dX6_without_5 ?_
  refine lv_ishl hx hb dX6_without_8 ?_
  refine lv_iconst (v := (1 : Int32)) hx hb dX6_without_9 (by decide) ?_
  refine lv_isub hx hb dX6_without_10 ?_
  refine lv_istore_n (lv' := [(1, .int (((1 : Int32) <<< ((σ 17 1) &&& 31)) - (1 : Int32))), (0, .ref (gA G 0))]) hx hb dX6_without_11 rfl hl (by decide) rfl (fun ls hl => ?_)
  refine lv_iconst (v := (0 : Int32)) hx hb dX6_without_12 (by decide) ?_
  refine lv_istore_n (lv' := [(2, .int (0 : Int32)), (1, .int (((1 : Int32) <<< ((σ 17 1) &&& 31)) - (1 : Int32))), (0, .ref (gA G 0))]) hx hb dX6_without_13 rfl hl (by decide) rfl (fun ls hl => ?_)
  exact bX6_without_14 M FU (((1 : Int32) <<< ((σ 17 1) &&& 31)) - (1 : Int32)) (0 : Int32) σ _ _ _ hf hF (lv_sub hl [2, 1, 0] rfl)
set_option maxHeartbeats 4000000 in
set_option maxRecDepth 100000 in
theorem cX6_sees_ok {l : Launch} {G : Gl} (hI : FI G wX) {x1 : Int32} {σ : Mem} {r : Int32} {σ' : Mem} (hf : fX6_sees x1 σ = some (r, σ')) : Ct l G wX yX6_sees cX6_sees 2 (some .int) ({ frames := 0, cells := 0, slots := 0, locals := 0 }) [.ref (gA G 0), .int x1] σ (some (.int r)) σ' := by
  refine fl_start hI (by decide) (Nat.le_of_ble_eq_true rfl) ?_
  intro p e s m below meth c M hF ls hl
  obtain ⟨X, hb, hml, hr, hlk⟩ := id M
  have hx := X.1
  have hl : lv_has ls 2 [(0, .ref (gA G 0)), (1, .int x1)] := hl
  unfold fX6_sees at hf
  refine lv_iload_n hx hb dX6_sees_0 rfl (lv_at hl 1 rfl) ?_
  refine lv_if_lt (tgt := 10) hx hb dX6_sees_1 (by decide) (fun cd1 => ?_) (fun cd1 => ?_)
  · replace hf := ifp cd1 hf
    refine lv_iconst (v := (-1 : Int32)) hx hb dX6_sees_10 (by decide) ?_
    obtain ⟨rfl, rfl⟩ := Prod.mk.inj (Option.some.inj hf)
    exact fl_iret X hb hr hlk hF dX6_sees_11
  · replace hf := ifn cd1 hf
    refine lv_iload_n hx hb dX6_sees_4 rfl (lv_at hl 1 rfl) ?_
    refine lv_bipush (v := (8 : Int32)) hx hb dX6_sees_5 (by decide) ?_
    refine lv_icmp_le (tgt := 12) hx hb dX6_sees_7 (by decide) (fun cd2 => ?_) (fun cd2 => ?_)
    · replace hf := ifp cd2 hf
      refine lv_aload_n hx hb dX6_sees_12 rfl (lv_at hl 0 rfl) ?_
      refine gf_X6_62 X hb hF sh_X6 dX6_sees_13 ?_
      refine lv_bipush (v := (6 : Int32)) hx hb dX6_sees_16 (by decide) ?_
      refine lv_icmp_lt (tgt := 24) hx hb dX6_sees_18 (by decide) (fun cd3 => ?_) (fun cd3 => ?_)
      · replace hf := ifp cd3 hf
        refine lv_aload_n hx hb dX6_sees_24 rfl (lv_at hl 0 rfl) ?_
        refine gf_X6_59 X hb hF sh_X6 dX6_sees_25 ?_
        refine lv_aload_n hx hb dX6_sees_28 rfl (lv_at hl 0 rfl) ?_
        refine gf_X6_62 X hb hF sh_X6 dX6_sees_29 ?_
        refine lv_iload_n hx hb dX6_sees_32 rfl (lv_at hl 1 rfl) ?_
        obtain ⟨g4, hf⟩ := grd_some hf
        refine fl_iast X hb hF sh_a16 g4 dX6_sees_33 (fun H locs hF => ?_)
        refine lv_aload_n hx hb dX6_sees_34 rfl (lv_at hl 0 rfl) ?_
        refine lv_dup hx hb dX6_sees_35 rfl ?_
        refine gf_X6_62 X hb hF sh_X6 dX6_sees_36 ?_
        refine lv_iconst (v := (1 : Int32)) hx hb dX6_sees_39 (by decide) ?_
        refine lv_iadd hx hb dX6_sees_40 ?_
        refine pf_X6_62 X hb hF sh_X6 dX6_sees_41 (fun H locs hF => ?_)
        refine lv_aload_n hx hb dX6_sees_44 rfl (lv_at hl 0 rfl) ?_
        refine gf_X6_62 X hb hF sh_X6 dX6_sees_45 ?_
        obtain ⟨rfl, rfl⟩ := Prod.mk.inj (Option.some.inj hf)
        exact fl_iret X hb hr hlk hF dX6_sees_48
      · replace hf := ifn cd3 hf
        refine lv_bipush (v := (-3 : Int32)) hx hb dX6_sees_21 (by decide) ?_
        obtain ⟨rfl, rfl⟩ := Prod.mk.inj (Option.some.inj hf)
        exact fl_iret X hb hr hlk hF dX6_sees_23
    · replace hf := ifn cd2 hf
      refine lv_iconst (v := (-1 : Int32)) hx hb dX6_sees_10 (by decide) ?_
      obtain ⟨rfl, rfl⟩ := Prod.mk.inj (Option.some.inj hf)
      exact fl_iret X hb hr hlk hF dX6_sees_11
set_option maxHeartbeats 4000000 in
set_option maxRecDepth 100000 in
theorem cX6_forget_ok {l : Launch} {G : Gl} (hI : FI G wX) {σ : Mem} {r : Int32} {σ' : Mem} (hf : fX6_forget σ = some (r, σ')) : Ct l G wX yX6_forget cX6_forget 2 (some .int) ({ frames := 0, cells := 0, slots := 0, locals := 0 }) [.ref (gA G 0)] σ (some (.int r)) σ' := by
  refine fl_start hI (by decide) (Nat.le_of_ble_eq_true rfl) ?_
  intro p e s m below meth c M hF ls hl
  obtain ⟨X, hb, hml, hr, hlk⟩ := id M
  have hx := X.1
  have hl : lv_has ls 2 [(0, .ref (gA G 0))] := hl
  unfold fX6_forget at hf
  refine lv_aload_n hx hb dX6_forget_0 rfl (lv_at hl 0 rfl) ?_
  refine gf_X6_62 X hb hF sh_X6 dX6_forget_1 ?_
  refine lv_istore_n (lv' := [(1, .int (σ 0 10)), (0, .ref (gA G 0))]) hx hb dX6_forget_4 rfl hl (by decide) rfl (fun ls hl => ?_)
  refine lv_aload_n hx hb dX6_forget_5 rfl (lv_at hl 1 rfl) ?_
  refine lv_iconst (v := (0 : Int32)) hx hb dX6_forget_6 (by decide) ?_
  refine pf_X6_62 X hb hF sh_X6 dX6_forget_7 (fun H locs hF => ?_)
  refine lv_iload_n hx hb dX6_forget_10 rfl (lv_at hl 0 rfl) ?_
  obtain ⟨rfl, rfl⟩ := Prod.mk.inj (Option.some.inj hf)
  exact fl_iret X hb hr hlk hF dX6_forget_11
set_option maxHeartbeats 4000000 in
set_option maxRecDepth 100000 in
theorem bX6_maySeem_54 {r : Int32} {σ' : Mem} (M : MX p s m args meth c RX6 G wX cX6_maySeem 5 (some .boolean)) : ∀ (fu : Nat) (x3 : Int32) (x4 : Int32) (σ : Mem) (H : Heap) (locs : List Loc) (ls : Array Slot), fX6_maySeem_54 fu x3 x4 σ = some (r, σ') → FH G wX s.heap H locs σ → lv_has ls 5 [(0, .ref (gA G 0)), (3, .int x3), (4, .int x4)] → WG p l e ({ frames := 2, cells := 0, slots := 0, locals := 50 }) s m args below meth c G wX (some (.int r)) σ' H locs 54 ls [] := by
  obtain ⟨X, hb, hml, hr, hlk⟩ := id M
  have hx := X.1
  intro fu
  induction fu with
  | zero =>
    intro x3 x4 σ H locs ls hf hF hl
    rw [fX6_maySeem_54] at hf
    cases hf
  | succ fu ih =>
    intro x3 x4 σ H locs ls hf hF hl
    rw [fX6_maySeem_54] at hf
    refine lv_iload hx hb dX6_maySeem_54 (lv_at hl 2 rfl) ?_
    refine lv_aload_n hx hb dX6_maySeem_56 rfl (lv_at hl 0 rfl) ?_
    refine gf_X6_62 X hb hF sh_X6 dX6_maySeem_57 ?_
    refine lv_icmp_ge (tgt := 82) hx hb dX6_maySeem_60 (by decide) (fun cd12 => ?_) (fun cd12 => ?_)
    · replace hf := ifp cd12 hf
      refine lv_iconst (v := (1 : Int32)) hx hb dX6_maySeem_82 (by decide) ?_
      obtain ⟨rfl, rfl⟩ := Prod.mk.inj (Option.some.inj hf)
      exact fl_zret X hb hr hlk hF (Or.inr rfl) dX6_maySeem_83
    · replace hf := ifn cd12 hf
      refine lv_aload_n hx hb dX6_maySeem_63 rfl (lv_at hl 0 rfl) ?_
      refine gf_X6_59 X hb hF sh_X6 dX6_maySeem_64 ?_
      refine lv_iload hx hb dX6_maySeem_67 (lv_at hl 2 rfl) ?_
      obtain ⟨g13, hf⟩ := grd_some hf
      refine fl_iald X hb hF sh_a16 g13 dX6_maySeem_69 ?_
      refine lv_iload_n hx hb dX6_maySeem_70 rfl (lv_at hl 1 rfl) ?_
      refine lv_icmp_eq (tgt := 76) hx hb dX6_maySeem_71 (by decide) (fun cd14 => ?_) (fun cd14 => ?_)
      · replace hf := ifp cd14 hf
        refine lv_iinc (v := x4 + (1 : Int32)) (lv' := [(4, .int (x4 + (1 : Int32))), (0, .ref (gA G 0)), (3, .int x3)]) hx hb dX6_maySeem_76 hl (k := 2) rfl rfl (by decide) rfl (fun ls hl => ?_)
        refine lv_goto (tgt := 54) hx hb dX6_maySeem_79 (by decide) ?_
        exact ih x3 (x4 + (1 : Int32)) σ _ _ _ hf hF (lv_sub hl [1, 2, 0] rfl)
      · replace hf := ifn cd14 hf
        refine lv_iconst (v := (0 : Int32)) hx hb dX6_maySeem_74 (by decide) ?_
        obtain ⟨rfl, rfl⟩ := Prod.mk.inj (Option.some.inj hf)
        exact fl_zret X hb hr hlk hF (Or.inl rfl) dX6_maySeem_75
set_option maxHeartbeats 4000000 in
set_option maxRecDepth 100000 in
theorem cX6_maySeem_ok {l : Launch} {G : Gl} (hI : FI G wX) {x1 : Int32} {x2 : Int32} {σ : Mem} {r : Int32} {σ' : Mem} (hf : fX6_maySeem x1 x2 σ = some (r, σ')) : Ct l G wX yX6_maySeem cX6_maySeem 5 (some .boolean) ({ frames := 2, cells := 0, slots := 0, locals := 50 }) [.ref (gA G 0), .int x1, .int x2] σ (some (.int r)) σ' := by
  refine fl_start hI (by decide) (Nat.le_of_ble_eq_true rfl) ?_
  intro p e s m below meth c M hF ls hl
  obtain ⟨X, hb, hml, hr, hlk⟩ := id M
  have hx := X.1
  have hl : lv_has ls 5 [(0, .ref (gA G 0)), (1, .int x1), (2, .int x2)] := hl
  unfold fX6_maySeem at hf
  refine lv_aload_n hx hb dX6_maySeem_0 rfl (lv_at hl 0 rfl) ?_
  refine gf_X6_19 X hb hF sh_X6 dX6_maySeem_1 ?_
  refine gf_X6_85 X hb hF (sh_C isC_17) dX6_maySeem_4 ?_
  refine lv_iload_n hx hb dX6_maySeem_7 rfl (lv_at hl 1 rfl) ?_
  obtain ⟨g1, hf⟩ := grd_some hf
  refine fl_aaldH X hb hF (sh_Ca isC_17) g1 dX6_maySeem_8 ?_
  refine lv_iload_n hx hb dX6_maySeem_9 rfl (lv_at hl 2 rfl) ?_
  obtain ⟨r3, hq2, hf⟩ := bi_some hf
  refine cm_X6_97 (As := [.int x2]) (rest := []) X hb hml hF (cX2_isStruck_ok (l := l) (G := G) X.2.2.2.2 (isH_mk isC_17 g1) hq2) (sh_H (isH_mk isC_17 g1)) ⟨Nat.le_of_ble_eq_true rfl, Nat.le_of_ble_eq_true rfl⟩ rfl rfl ⟨Nat.zero_le _, Nat.zero_le _⟩ rfl hl.1 rfl (Nat.le_of_ble_eq_true rfl) dX6_maySeem_10 (fun H locs hF => ?_)
  refine lv_if_eq (tgt := 18) hx hb dX6_maySeem_13 (by decide) (fun cd4 => ?_) (fun cd4 => ?_)
  · replace hf := ifp cd4 hf
    refine lv_aload_n hx hb dX6_maySeem_18 rfl (lv_at hl 0 rfl) ?_
    refine gf_X6_62 X hb hF sh_X6 dX6_maySeem_19 ?_
    refine lv_if_ne (tgt := 27) hx hb dX6_maySeem_22 (by decide) (fun cd5 => ?_) (fun cd5 => ?_)
    · replace hf := ifn cd5 hf
      refine lv_aload_n hx hb dX6_maySeem_27 rfl (lv_at hl 0 rfl) ?_
      refine gf_X6_51 X hb hF sh_X6 dX6_maySeem_28 ?_
      refine lv_aload_n hx hb dX6_maySeem_31 rfl (lv_at hl 0 rfl) ?_
      refine gf_X6_19 X hb hF sh_X6 dX6_maySeem_32 ?_
      refine lv_iload_n hx hb dX6_maySeem_35 rfl (lv_at hl 1 rfl) ?_
      refine lv_iload_n hx hb dX6_maySeem_36 rfl (lv_at hl 2 rfl) ?_
      obtain ⟨σ7, hq6, hf⟩ := bv_some hf
      refine cm_X6_219 (As := [.ref (gA G 17), .int x1, .int x2]) (rest := []) X hb hml hF (cX3_lookStruck_ok (l := l) (G := G) X.2.2.2.2 isC_17 hq6) sh_X3 ⟨Nat.le_of_ble_eq_true rfl, Nat.le_of_ble_eq_true rfl⟩ rfl rfl ⟨Nat.zero_le _, Nat.zero_le _⟩ rfl hl.1 rfl (Nat.le_of_ble_eq_true rfl) dX6_maySeem_37 (fun H locs hF => ?_)
      refine lv_aload_n hx hb dX6_maySeem_40 rfl (lv_at hl 0 rfl) ?_
      refine gf_X6_51 X hb hF sh_X6 dX6_maySeem_41 ?_
      obtain ⟨r9, hq8, hf⟩ := bi_some hf
      refine cm_X6_173 (As := []) (rest := []) X hb hml hF (cX3_knots_ok (l := l) (G := G) X.2.2.2.2 hq8) sh_X3 ⟨Nat.le_of_ble_eq_true rfl, Nat.le_of_ble_eq_true rfl⟩ rfl rfl ⟨Nat.zero_le _, Nat.zero_le _⟩ rfl hl.1 rfl (Nat.le_of_ble_eq_true rfl) dX6_maySeem_44 (fun H locs hF => ?_)
      obtain ⟨r11, hq10, hf⟩ := bi_some hf
      refine cm_X6_186 (As := [.int r9]) (rest := []) X hb hml hF (cJ6_bitCount_0f7a4_ok (l := l) (G := G) (σ := σ7) X.2.2.2.2 hq10) ⟨Nat.le_of_ble_eq_true rfl, Nat.le_of_ble_eq_true rfl⟩ rfl rfl ⟨Nat.zero_le _, Nat.zero_le _⟩ rfl hl.1 rfl (Nat.le_of_ble_eq_true rfl) dX6_maySeem_47 (fun H locs hF => ?_)
      refine lv_istore_n (lv' := [(3, .int r11), (0, .ref (gA G 0)), (1, .int x1), (2, .int x2)]) hx hb dX6_maySeem_50 rfl hl (by decide) rfl (fun ls hl => ?_)
      refine lv_iconst (v := (0 : Int32)) hx hb dX6_maySeem_51 (by decide) ?_
      refine lv_istore (lv' := [(4, .int (0 : Int32)), (3, .int r11), (0, .ref (gA G 0)), (1, .int x1), (2, .int x2)]) hx hb dX6_maySeem_52 hl (by decide) rfl (fun ls hl => ?_)
      exact bX6_maySeem_54 M FU r11 (0 : Int32) σ7 _ _ _ hf hF (lv_sub hl [2, 1, 0] rfl)
    · replace hf := ifp cd5 hf
      refine lv_iconst (v := (1 : Int32)) hx hb dX6_maySeem_25 (by decide) ?_
      obtain ⟨rfl, rfl⟩ := Prod.mk.inj (Option.some.inj hf)
      exact fl_zret X hb hr hlk hF (Or.inr rfl) dX6_maySeem_26
  · replace hf := ifn cd4 hf
    refine lv_iconst (v := (0 : Int32)) hx hb dX6_maySeem_16 (by decide) ?_
    obtain ⟨rfl, rfl⟩ := Prod.mk.inj (Option.some.inj hf)
    exact fl_zret X hb hr hlk hF (Or.inl rfl) dX6_maySeem_17
set_option maxHeartbeats 4000000 in
set_option maxRecDepth 100000 in
theorem bX6_unseen_34 {r : Int32} {σ' : Mem} {k19 : Int32 → Int32 → Int32 → Int32 → Mem → Option (Int32 × Mem)} (M : MX p s m args meth c RX6 G wX cX6_unseen 6 (some .int)) (hk19 : ∀ (x1 : Int32) (x2 : Int32) (x3 : Int32) (x4 : Int32) (σ : Mem) (H : Heap) (locs : List Loc) (ls : Array Slot), k19 x1 x2 x3 x4 σ = some (r, σ') → FH G wX s.heap H locs σ → lv_has ls 6 [(0, .ref (gA G 0)), (1, .int x1), (2, .int x2), (3, .int x3), (4, .int x4)] → WG p l e ({ frames := 3, cells := 0, slots := 0, locals := 74 }) s m args below meth c G wX (some (.int r)) σ' H locs 19 ls []) : ∀ (fu : Nat) (x1 : Int32) (x2 : Int32) (x3 : Int32) (x4 : Int32) (x5 : Int32) (σ : Mem) (H : Heap) (locs : List Loc) (ls : Array Slot), fX6_unseen_34 k19 fu x1 x2 x3 x4 x5 σ = some (r, σ') → FH G wX s.heap H locs σ → lv_has ls 6 [(0, .ref (gA G 0)), (1, .int x1), (2, .int x2), (3, .int x3), (4, .int x4), (5, .int x5)] → WG p l e ({ frames := 3, cells := 0, slots := 0, locals := 74 }) s m args below meth c G wX (some (.int r)) σ' H locs 34 ls [] := by
  obtain ⟨X, hb, hml, hr, hlk⟩ := id M
  have hx := X.1
  intro fu
  induction fu with
  | zero =>
    intro x1 x2 x3 x4 x5 σ H locs ls hf hF hl
    rw [fX6_unseen_34] at hf
    cases hf
  | succ fu ih =>
    intro x1 x2 x3 x4 x5 σ H locs ls hf hF hl
    rw [fX6_unseen_34] at hf
    refine lv_iload hx hb dX6_unseen_34 (lv_at hl 5 rfl) ?_
    refine lv_aload_n hx hb dX6_unseen_36 rfl (lv_at hl 0 rfl) ?_
    refine gf_X6_19 X hb hF sh_X6 dX6_unseen_37 ?_
    refine gf_X6_85 X hb hF (sh_C isC_17) dX6_unseen_40 ?_
    refine lv_iload hx hb dX6_unseen_43 (lv_at hl 4 rfl) ?_
    obtain ⟨g4, hf⟩ := grd_some hf
    refine fl_aaldH X hb hF (sh_Ca isC_17) g4 dX6_unseen_45 ?_
    refine gf_X6_191 X hb hF (sh_H (isH_mk isC_17 g4)) dX6_unseen_46 ?_
    refine lv_icmp_ge (tgt := 89) hx hb dX6_unseen_49 (by decide) (fun cd5 => ?_) (fun cd5 => ?_)
    · replace hf := ifp cd5 hf
      refine lv_iinc (v := x4 + (1 : Int32)) (lv' := [(4, .int (x4 + (1 : Int32))), (0, .ref (gA G 0)), (1, .int x1), (2, .int x2), (3, .int x3), (5, .int x5)]) hx hb dX6_unseen_89 hl (k := 4) rfl rfl (by decide) rfl (fun ls hl => ?_)
      refine lv_goto (tgt := 19) hx hb dX6_unseen_92 (by decide) ?_
      exact hk19 x1 x2 x3 (x4 + (1 : Int32)) σ _ _ _ hf hF (lv_sub hl [1, 2, 3, 4, 0] rfl)
    · replace hf := ifn cd5 hf
      refine lv_aload_n hx hb dX6_unseen_52 rfl (lv_at hl 0 rfl) ?_
      refine lv_iload hx hb dX6_unseen_53 (lv_at hl 4 rfl) ?_
      refine lv_iload hx hb dX6_unseen_55 (lv_at hl 5 rfl) ?_
      obtain ⟨r7, σ8, hq6, hf⟩ := bm_some hf
      refine cm_X6_192 (As := [.int x4, .int x5]) (rest := []) X hb hml hF (cX6_maySeem_ok (l := l) (G := G) X.2.2.2.2 hq6) sh_X6 ⟨Nat.le_of_ble_eq_true rfl, Nat.le_of_ble_eq_true rfl⟩ rfl rfl ⟨Nat.zero_le _, Nat.zero_le _⟩ rfl hl.1 rfl (Nat.le_of_ble_eq_true rfl) dX6_unseen_57 (fun H locs hF => ?_)
      refine lv_if_eq (tgt := 83) hx hb dX6_unseen_60 (by decide) (fun cd9 => ?_) (fun cd9 => ?_)
      · replace hf := ifp cd9 hf
        refine lv_iinc (v := x5 + (1 : Int32)) (lv' := [(5, .int (x5 + (1 : Int32))), (0, .ref (gA G 0)), (1, .int x1), (2, .int x2), (3, .int x3), (4, .int x4)]) hx hb dX6_unseen_83 hl (k := 5) rfl rfl (by decide) rfl (fun ls hl => ?_)
        refine lv_goto (tgt := 34) hx hb dX6_unseen_86 (by decide) ?_
        exact ih x1 x2 x3 x4 (x5 + (1 : Int32)) σ8 _ _ _ hf hF (lv_sub hl [1, 2, 3, 4, 5, 0] rfl)
      · replace hf := ifn cd9 hf
        refine lv_iload_n hx hb dX6_unseen_63 rfl (lv_at hl 2 rfl) ?_
        refine lv_if_ne (tgt := 78) hx hb dX6_unseen_64 (by decide) (fun cd10 => ?_) (fun cd10 => ?_)
        · replace hf := ifn cd10 hf
          refine lv_iload_n hx hb dX6_unseen_78 rfl (lv_at hl 3 rfl) ?_
          refine lv_istore_n (lv' := [(3, .int x3), (0, .ref (gA G 0)), (1, .int x1), (2, .int x2), (4, .int x4), (5, .int x5)]) hx hb dX6_unseen_79 rfl hl (by decide) rfl (fun ls hl => ?_)
          refine lv_iinc (v := x2 + (1 : Int32)) (lv' := [(2, .int (x2 + (1 : Int32))), (3, .int x3), (0, .ref (gA G 0)), (1, .int x1), (4, .int x4), (5, .int x5)]) hx hb dX6_unseen_80 hl (k := 3) rfl rfl (by decide) rfl (fun ls hl => ?_)
          refine lv_iinc (v := x5 + (1 : Int32)) (lv' := [(5, .int (x5 + (1 : Int32))), (2, .int (x2 + (1 : Int32))), (3, .int x3), (0, .ref (gA G 0)), (1, .int x1), (4, .int x4)]) hx hb dX6_unseen_83 hl (k := 5) rfl rfl (by decide) rfl (fun ls hl => ?_)
          refine lv_goto (tgt := 34) hx hb dX6_unseen_86 (by decide) ?_
          exact ih x1 (x2 + (1 : Int32)) x3 x4 (x5 + (1 : Int32)) σ8 _ _ _ hf hF (lv_sub hl [3, 4, 1, 2, 5, 0] rfl)
        · replace hf := ifp cd10 hf
          refine lv_bipush (v := (10 : Int32)) hx hb dX6_unseen_67 (by decide) ?_
          refine lv_iload hx hb dX6_unseen_69 (lv_at hl 4 rfl) ?_
          refine lv_imul hx hb dX6_unseen_71 ?_
          refine lv_iload hx hb dX6_unseen_72 (lv_at hl 5 rfl) ?_
          refine lv_iadd hx hb dX6_unseen_74 ?_
          refine lv_goto (tgt := 79) hx hb dX6_unseen_75 (by decide) ?_
          refine lv_istore_n (lv' := [(3, .int (((10 : Int32) * x4) + x5)), (0, .ref (gA G 0)), (1, .int x1), (2, .int x2), (4, .int x4), (5, .int x5)]) hx hb dX6_unseen_79 rfl hl (by decide) rfl (fun ls hl => ?_)
          refine lv_iinc (v := x2 + (1 : Int32)) (lv' := [(2, .int (x2 + (1 : Int32))), (3, .int (((10 : Int32) * x4) + x5)), (0, .ref (gA G 0)), (1, .int x1), (4, .int x4), (5, .int x5)]) hx hb dX6_unseen_80 hl (k := 3) rfl rfl (by decide) rfl (fun ls hl => ?_)
          refine lv_iinc (v := x5 + (1 : Int32)) (lv' := [(5, .int (x5 + (1 : Int32))), (2, .int (x2 + (1 : Int32))), (3, .int (((10 : Int32) * x4) + x5)), (0, .ref (gA G 0)), (1, .int x1), (4, .int x4)]) hx hb dX6_unseen_83 hl (k := 5) rfl rfl (by decide) rfl (fun ls hl => ?_)
          refine lv_goto (tgt := 34) hx hb dX6_unseen_86 (by decide) ?_
          exact ih x1 (x2 + (1 : Int32)) (((10 : Int32) * x4) + x5) x4 (x5 + (1 : Int32)) σ8 _ _ _ hf hF (lv_sub hl [3, 4, 1, 2, 5, 0] rfl)
set_option maxHeartbeats 4000000 in
set_option maxRecDepth 100000 in
theorem bX6_unseen_19 {r : Int32} {σ' : Mem} (M : MX p s m args meth c RX6 G wX cX6_unseen 6 (some .int)) : ∀ (fu : Nat) (x1 : Int32) (x2 : Int32) (x3 : Int32) (x4 : Int32) (σ : Mem) (H : Heap) (locs : List Loc) (ls : Array Slot), fX6_unseen_19 fu x1 x2 x3 x4 σ = some (r, σ') → FH G wX s.heap H locs σ → lv_has ls 6 [(0, .ref (gA G 0)), (1, .int x1), (2, .int x2), (3, .int x3), (4, .int x4)] → WG p l e ({ frames := 3, cells := 0, slots := 0, locals := 74 }) s m args below meth c G wX (some (.int r)) σ' H locs 19 ls [] := by
  obtain ⟨X, hb, hml, hr, hlk⟩ := id M
  have hx := X.1
  intro fu
  induction fu with
  | zero =>
    intro x1 x2 x3 x4 σ H locs ls hf hF hl
    rw [fX6_unseen_19] at hf
    cases hf
  | succ fu ih =>
    intro x1 x2 x3 x4 σ H locs ls hf hF hl
    rw [fX6_unseen_19] at hf
    refine lv_iload hx hb dX6_unseen_19 (lv_at hl 4 rfl) ?_
    refine lv_aload_n hx hb dX6_unseen_21 rfl (lv_at hl 0 rfl) ?_
    refine gf_X6_19 X hb hF sh_X6 dX6_unseen_22 ?_
    refine gf_X6_153 X hb hF (sh_C isC_17) dX6_unseen_25 ?_
    refine lv_icmp_ge (tgt := 95) hx hb dX6_unseen_28 (by decide) (fun cd2 => ?_) (fun cd2 => ?_)
    · replace hf := ifp cd2 hf
      refine lv_iload_n hx hb dX6_unseen_95 rfl (lv_at hl 1 rfl) ?_
      refine lv_if_ne (tgt := 103) hx hb dX6_unseen_96 (by decide) (fun cd3 => ?_) (fun cd3 => ?_)
      · replace hf := ifn cd3 hf
        refine lv_iload_n hx hb dX6_unseen_103 rfl (lv_at hl 3 rfl) ?_
        obtain ⟨rfl, rfl⟩ := Prod.mk.inj (Option.some.inj hf)
        exact fl_iret X hb hr hlk hF dX6_unseen_104
      · replace hf := ifp cd3 hf
        refine lv_iload_n hx hb dX6_unseen_99 rfl (lv_at hl 2 rfl) ?_
        refine lv_goto (tgt := 104) hx hb dX6_unseen_100 (by decide) ?_
        obtain ⟨rfl, rfl⟩ := Prod.mk.inj (Option.some.inj hf)
        exact fl_iret X hb hr hlk hF dX6_unseen_104
    · replace hf := ifn cd2 hf
      refine lv_iconst (v := (0 : Int32)) hx hb dX6_unseen_31 (by decide) ?_
      refine lv_istore (lv' := [(5, .int (0 : Int32)), (0, .ref (gA G 0)), (1, .int x1), (2, .int x2), (3, .int x3), (4, .int x4)]) hx hb dX6_unseen_32 hl (by decide) rfl (fun ls hl => ?_)
      exact bX6_unseen_34 M ih FU x1 x2 x3 x4 (0 : Int32) σ _ _ _ hf hF (lv_sub hl [1, 2, 3, 4, 5, 0] rfl)
set_option maxHeartbeats 4000000 in
set_option maxRecDepth 100000 in
theorem bX6_unseen_11 {r : Int32} {σ' : Mem} (M : MX p s m args meth c RX6 G wX cX6_unseen 6 (some .int)) : ∀ (x1 : Int32) (σ : Mem) (H : Heap) (locs : List Loc) (ls : Array Slot), fX6_unseen_11 x1 σ = some (r, σ') → FH G wX s.heap H locs σ → lv_has ls 6 [(0, .ref (gA G 0)), (1, .int x1)] → WG p l e ({ frames := 3, cells := 0, slots := 0, locals := 74 }) s m args below meth c G wX (some (.int r)) σ' H locs 11 ls [] := by
  obtain ⟨X, hb, hml, hr, hlk⟩ := id M
  have hx := X.1
  intro x1 σ H locs ls hf hF hl
  unfold fX6_unseen_11 at hf
  refine lv_iconst (v := (0 : Int32)) hx hb dX6_unseen_11 (by decide) ?_
  refine lv_istore_n (lv' := [(2, .int (0 : Int32)), (0, .ref (gA G 0)), (1, .int x1)]) hx hb dX6_unseen_12 rfl hl (by decide) rfl (fun ls hl => ?_)
  refine lv_bipush (v := (-9 : Int32)) hx hb dX6_unseen_13 (by decide) ?_
  refine lv_istore_n (lv' := [(3, .int (-9 : Int32)), (2, .int (0 : Int32)), (0, .ref (gA G 0)), (1, .int x1)]) hx hb dX6_unseen_15 rfl hl (by decide) rfl (fun ls hl => ?_)
  refine lv_iconst (v := (0 : Int32)) hx hb dX6_unseen_16 (by decide) ?_
  refine lv_istore (lv' := [(4, .int (0 : Int32)), (3, .int (-9 : Int32)), (2, .int (0 : Int32)), (0, .ref (gA G 0)), (1, .int x1)]) hx hb dX6_unseen_17 hl (by decide) rfl (fun ls hl => ?_)
  exact bX6_unseen_19 M FU x1 (0 : Int32) (-9 : Int32) (0 : Int32) σ _ _ _ hf hF (lv_sub hl [3, 4, 2, 1, 0] rfl)
set_option maxHeartbeats 4000000 in
set_option maxRecDepth 100000 in
theorem cX6_unseen_ok {l : Launch} {G : Gl} (hI : FI G wX) {x1 : Int32} {σ : Mem} {r : Int32} {σ' : Mem} (hf : fX6_unseen x1 σ = some (r, σ')) : Ct l G wX yX6_unseen cX6_unseen 6 (some .int) ({ frames := 3, cells := 0, slots := 0, locals := 74 }) [.ref (gA G 0), .int x1] σ (some (.int r)) σ' := by
  refine fl_start hI (by decide) (Nat.le_of_ble_eq_true rfl) ?_
  intro p e s m below meth c M hF ls hl
  obtain ⟨X, hb, hml, hr, hlk⟩ := id M
  have hx := X.1
  have hl : lv_has ls 6 [(0, .ref (gA G 0)), (1, .int x1)] := hl
  unfold fX6_unseen at hf
  refine lv_iload_n hx hb dX6_unseen_0 rfl (lv_at hl 1 rfl) ?_
  refine lv_if_eq (tgt := 11) hx hb dX6_unseen_1 (by decide) (fun cd1 => ?_) (fun cd1 => ?_)
  · replace hf := ifp cd1 hf
    exact bX6_unseen_11 M x1 σ _ _ _ hf hF (lv_sub hl [0, 1] rfl)
  · replace hf := ifn cd1 hf
    refine lv_iload_n hx hb dX6_unseen_4 rfl (lv_at hl 1 rfl) ?_
    refine lv_iconst (v := (1 : Int32)) hx hb dX6_unseen_5 (by decide) ?_
    refine lv_icmp_eq (tgt := 11) hx hb dX6_unseen_6 (by decide) (fun cd11 => ?_) (fun cd11 => ?_)
    · replace hf := ifp cd11 hf
      exact bX6_unseen_11 M x1 σ _ _ _ hf hF (lv_sub hl [0, 1] rfl)
    · replace hf := ifn cd11 hf
      refine lv_iconst (v := (-1 : Int32)) hx hb dX6_unseen_9 (by decide) ?_
      obtain ⟨rfl, rfl⟩ := Prod.mk.inj (Option.some.inj hf)
      exact fl_iret X hb hr hlk hF dX6_unseen_10
set_option maxHeartbeats 4000000 in
set_option maxRecDepth 100000 in
theorem cX6_keep_ok {l : Launch} {G : Gl} (hI : FI G wX) {x1 : Int32} {σ : Mem} {r : Int32} {σ' : Mem} (hf : fX6_keep x1 σ = some (r, σ')) : Ct l G wX yX6_keep cX6_keep 2 (some .int) ({ frames := 2, cells := 0, slots := 0, locals := 44 }) [.ref (gA G 0), .int x1] σ (some (.int r)) σ' := by
  refine fl_start hI (by decide) (Nat.le_of_ble_eq_true rfl) ?_
  intro p e s m below meth c M hF ls hl
  obtain ⟨X, hb, hml, hr, hlk⟩ := id M
  have hx := X.1
  have hl : lv_has ls 2 [(0, .ref (gA G 0)), (1, .int x1)] := hl
  unfold fX6_keep at hf
  refine lv_iload_n hx hb dX6_keep_0 rfl (lv_at hl 1 rfl) ?_
  refine lv_if_lt (tgt := 9) hx hb dX6_keep_1 (by decide) (fun cd1 => ?_) (fun cd1 => ?_)
  · replace hf := ifp cd1 hf
    refine lv_iconst (v := (-1 : Int32)) hx hb dX6_keep_9 (by decide) ?_
    obtain ⟨rfl, rfl⟩ := Prod.mk.inj (Option.some.inj hf)
    exact fl_iret X hb hr hlk hF dX6_keep_10
  · replace hf := ifn cd1 hf
    refine lv_iload_n hx hb dX6_keep_4 rfl (lv_at hl 1 rfl) ?_
    refine lv_iconst (v := (2 : Int32)) hx hb dX6_keep_5 (by decide) ?_
    refine lv_icmp_lt (tgt := 11) hx hb dX6_keep_6 (by decide) (fun cd2 => ?_) (fun cd2 => ?_)
    · replace hf := ifp cd2 hf
      refine lv_aload_n hx hb dX6_keep_11 rfl (lv_at hl 0 rfl) ?_
      refine gf_X6_26 X hb hF sh_X6 dX6_keep_12 ?_
      refine lv_iload_n hx hb dX6_keep_15 rfl (lv_at hl 1 rfl) ?_
      obtain ⟨g3, hf⟩ := grd_some hf
      refine fl_aaldC X hb hF sh_a3 g3 dX6_keep_16 ?_
      refine lv_aload_n hx hb dX6_keep_17 rfl (lv_at hl 0 rfl) ?_
      refine gf_X6_19 X hb hF sh_X6 dX6_keep_18 ?_
      obtain ⟨σ5, hq4, hf⟩ := bv_some hf
      refine cm_X6_76 (As := [.ref (gA G 17)]) (rest := []) X hb hml hF (cX0_copy_ok (l := l) (G := G) X.2.2.2.2 (isC_im g3) isC_17 hq4) (sh_C (isC_im g3)) ⟨Nat.le_of_ble_eq_true rfl, Nat.le_of_ble_eq_true rfl⟩ rfl rfl ⟨Nat.zero_le _, Nat.zero_le _⟩ rfl hl.1 rfl (Nat.le_of_ble_eq_true rfl) dX6_keep_21 (fun H locs hF => ?_)
      refine lv_aload_n hx hb dX6_keep_24 rfl (lv_at hl 0 rfl) ?_
      refine lv_dup hx hb dX6_keep_25 rfl ?_
      refine gf_X6_30 X hb hF sh_X6 dX6_keep_26 ?_
      refine lv_iconst (v := (1 : Int32)) hx hb dX6_keep_29 (by decide) ?_
      refine lv_iload_n hx hb dX6_keep_30 rfl (lv_at hl 1 rfl) ?_
      refine lv_ishl hx hb dX6_keep_31 ?_
      refine lv_ior hx hb dX6_keep_32 ?_
      refine pf_X6_30 X hb hF sh_X6 dX6_keep_33 (fun H locs hF => ?_)
      refine lv_aload_n hx hb dX6_keep_36 rfl (lv_at hl 0 rfl) ?_
      refine gf_X6_19 X hb hF sh_X6 dX6_keep_37 ?_
      refine gf_X6_153 X hb hF (sh_C isC_17) dX6_keep_40 ?_
      obtain ⟨rfl, rfl⟩ := Prod.mk.inj (Option.some.inj hf)
      exact fl_iret X hb hr hlk hF dX6_keep_43
    · replace hf := ifn cd2 hf
      refine lv_iconst (v := (-1 : Int32)) hx hb dX6_keep_9 (by decide) ?_
      obtain ⟨rfl, rfl⟩ := Prod.mk.inj (Option.some.inj hf)
      exact fl_iret X hb hr hlk hF dX6_keep_10
set_option maxHeartbeats 4000000 in
set_option maxRecDepth 100000 in
theorem cX6_back_ok {l : Launch} {G : Gl} (hI : FI G wX) {x1 : Int32} {σ : Mem} {r : Int32} {σ' : Mem} (hf : fX6_back x1 σ = some (r, σ')) : Ct l G wX yX6_back cX6_back 2 (some .int) ({ frames := 2, cells := 0, slots := 0, locals := 44 }) [.ref (gA G 0), .int x1] σ (some (.int r)) σ' := by
  refine fl_start hI (by decide) (Nat.le_of_ble_eq_true rfl) ?_
  intro p e s m below meth c M hF ls hl
  obtain ⟨X, hb, hml, hr, hlk⟩ := id M
  have hx := X.1
  have hl : lv_has ls 2 [(0, .ref (gA G 0)), (1, .int x1)] := hl
  unfold fX6_back at hf
  refine lv_iload_n hx hb dX6_back_0 rfl (lv_at hl 1 rfl) ?_
  refine lv_if_lt (tgt := 9) hx hb dX6_back_1 (by decide) (fun cd1 => ?_) (fun cd1 => ?_)
  · replace hf := ifp cd1 hf
    refine lv_iconst (v := (-1 : Int32)) hx hb dX6_back_9 (by decide) ?_
    obtain ⟨rfl, rfl⟩ := Prod.mk.inj (Option.some.inj hf)
    exact fl_iret X hb hr hlk hF dX6_back_10
  · replace hf := ifn cd1 hf
    refine lv_iload_n hx hb dX6_back_4 rfl (lv_at hl 1 rfl) ?_
    refine lv_iconst (v := (2 : Int32)) hx hb dX6_back_5 (by decide) ?_
    refine lv_icmp_lt (tgt := 11) hx hb dX6_back_6 (by decide) (fun cd2 => ?_) (fun cd2 => ?_)
    · replace hf := ifp cd2 hf
      refine lv_aload_n hx hb dX6_back_11 rfl (lv_at hl 0 rfl) ?_
      refine gf_X6_30 X hb hF sh_X6 dX6_back_12 ?_
      refine lv_iload_n hx hb dX6_back_15 rfl (lv_at hl 1 rfl) ?_
      refine lv_ishr hx hb dX6_back_16 ?_
      refine lv_iconst (v := (1 : Int32)) hx hb dX6_back_17 (by decide) ?_
      refine lv_iand hx hb dX6_back_18 ?_
      refine lv_if_ne (tgt := 25) hx hb dX6_back_19 (by decide) (fun cd3 => ?_) (fun cd3 => ?_)
      · replace hf := ifn cd3 hf
        refine lv_aload_n hx hb dX6_back_25 rfl (lv_at hl 0 rfl) ?_
        refine gf_X6_19 X hb hF sh_X6 dX6_back_26 ?_
        refine lv_aload_n hx hb dX6_back_29 rfl (lv_at hl 0 rfl) ?_
        refine gf_X6_26 X hb hF sh_X6 dX6_back_30 ?_
        refine lv_iload_n hx hb dX6_back_33 rfl (lv_at hl 1 rfl) ?_
        obtain ⟨g4, hf⟩ := grd_some hf
        refine fl_aaldC X hb hF sh_a3 g4 dX6_back_34 ?_
        obtain ⟨σ6, hq5, hf⟩ := bv_some hf
        refine cm_X6_76 (As := [.ref (gA G (45 + 14 * x1.toNatClampNeg))]) (rest := []) X hb hml hF (cX0_copy_ok (l := l) (G := G) X.2.2.2.2 isC_17 (isC_im g4) hq5) (sh_C isC_17) ⟨Nat.le_of_ble_eq_true rfl, Nat.le_of_ble_eq_true rfl⟩ rfl rfl ⟨Nat.zero_le _, Nat.zero_le _⟩ rfl hl.1 rfl (Nat.le_of_ble_eq_true rfl) dX6_back_35 (fun H locs hF => ?_)
        refine lv_aload_n hx hb dX6_back_38 rfl (lv_at hl 0 rfl) ?_
        refine gf_X6_37 X hb hF sh_X6 dX6_back_39 ?_
        refine lv_iconst (v := (0 : Int32)) hx hb dX6_back_42 (by decide) ?_
        refine pf_X6_80 X hb hF sh_X1 dX6_back_43 (fun H locs hF => ?_)
        refine lv_aload_n hx hb dX6_back_46 rfl (lv_at hl 0 rfl) ?_
        refine gf_X6_19 X hb hF sh_X6 dX6_back_47 ?_
        refine gf_X6_153 X hb hF (sh_C isC_17) dX6_back_50 ?_
        obtain ⟨rfl, rfl⟩ := Prod.mk.inj (Option.some.inj hf)
        exact fl_iret X hb hr hlk hF dX6_back_53
      · replace hf := ifp cd3 hf
        refine lv_bipush (v := (-2 : Int32)) hx hb dX6_back_22 (by decide) ?_
        obtain ⟨rfl, rfl⟩ := Prod.mk.inj (Option.some.inj hf)
        exact fl_iret X hb hr hlk hF dX6_back_24
    · replace hf := ifn cd2 hf
      refine lv_iconst (v := (-1 : Int32)) hx hb dX6_back_9 (by decide) ?_
      obtain ⟨rfl, rfl⟩ := Prod.mk.inj (Option.some.inj hf)
      exact fl_iret X hb hr hlk hF dX6_back_10
set_option maxHeartbeats 4000000 in
set_option maxRecDepth 100000 in
theorem cX6_count_ok {l : Launch} {G : Gl} (hI : FI G wX) {x1 : Int32} {σ : Mem} {r : Int32} {σ' : Mem} (hf : fX6_count x1 σ = some (r, σ')) : Ct l G wX yX6_count cX6_count 2 (some .int) ({ frames := 3, cells := 0, slots := 0, locals := 68 }) [.ref (gA G 0), .int x1] σ (some (.int r)) σ' := by
  refine fl_start hI (by decide) (Nat.le_of_ble_eq_true rfl) ?_
  intro p e s m below meth c M hF ls hl
  obtain ⟨X, hb, hml, hr, hlk⟩ := id M
  have hx := X.1
  have hl : lv_has ls 2 [(0, .ref (gA G 0)), (1, .int x1)] := hl
  unfold fX6_count at hf
  refine lv_iload_n hx hb dX6_count_0 rfl (lv_at hl 1 rfl) ?_
  by_cases cd1 : x1 = (0 : Int32)
  · replace hf := ifp cd1 hf
    refine lv_tableIn (tgt := 48) (off := 47) hx hb dX6_count_1 (by rw [cd1]; decide) (by rw [cd1]; decide) (by rw [cd1]; rfl) (by decide) ?_
    refine lv_aload_n hx hb dX6_count_48 rfl (lv_at hl 0 rfl) ?_
    refine gf_X6_19 X hb hF sh_X6 dX6_count_49 ?_
    refine gf_X6_153 X hb hF (sh_C isC_17) dX6_count_52 ?_
    obtain ⟨rfl, rfl⟩ := Prod.mk.inj (Option.some.inj hf)
    exact fl_iret X hb hr hlk hF dX6_count_55
  · replace hf := ifn cd1 hf
    by_cases cd2 : x1 = (1 : Int32)
    · replace hf := ifp cd2 hf
      refine lv_tableIn (tgt := 56) (off := 55) hx hb dX6_count_1 (by rw [cd2]; decide) (by rw [cd2]; decide) (by rw [cd2]; rfl) (by decide) ?_
      refine lv_aload_n hx hb dX6_count_56 rfl (lv_at hl 0 rfl) ?_
      refine gf_X6_19 X hb hF sh_X6 dX6_count_57 ?_
      obtain ⟨r4, hq3, hf⟩ := bi_some hf
      refine cm_X6_195 (As := []) (rest := []) X hb hml hF (cX0_entriesLeft_ok (l := l) (G := G) X.2.2.2.2 isC_17 hq3) (sh_C isC_17) ⟨Nat.le_of_ble_eq_true rfl, Nat.le_of_ble_eq_true rfl⟩ rfl rfl ⟨Nat.zero_le _, Nat.zero_le _⟩ rfl hl.1 rfl (Nat.le_of_ble_eq_true rfl) dX6_count_60 (fun H locs hF => ?_)
      obtain ⟨rfl, rfl⟩ := Prod.mk.inj (Option.some.inj hf)
      exact fl_iret X hb hr hlk hF dX6_count_63
    · replace hf := ifn cd2 hf
      by_cases cd5 : x1 = (2 : Int32)
      · replace hf := ifp cd5 hf
        refine lv_tableIn (tgt := 64) (off := 63) hx hb dX6_count_1 (by rw [cd5]; decide) (by rw [cd5]; decide) (by rw [cd5]; rfl) (by decide) ?_
        refine lv_aload_n hx hb dX6_count_64 rfl (lv_at hl 0 rfl) ?_
        refine gf_X6_19 X hb hF sh_X6 dX6_count_65 ?_
        obtain ⟨r7, hq6, hf⟩ := bi_some hf
        refine cm_X6_180 (As := []) (rest := []) X hb hml hF (cX0_eventBits_ok (l := l) (G := G) X.2.2.2.2 isC_17 hq6) (sh_C isC_17) ⟨Nat.le_of_ble_eq_true rfl, Nat.le_of_ble_eq_true rfl⟩ rfl rfl ⟨Nat.zero_le _, Nat.zero_le _⟩ rfl hl.1 rfl (Nat.le_of_ble_eq_true rfl) dX6_count_68 (fun H locs hF => ?_)
        obtain ⟨r9, hq8, hf⟩ := bi_some hf
        refine cm_X6_186 (As := [.int r7]) (rest := []) X hb hml hF (cJ6_bitCount_0f7a4_ok (l := l) (G := G) (σ := σ) X.2.2.2.2 hq8) ⟨Nat.le_of_ble_eq_true rfl, Nat.le_of_ble_eq_true rfl⟩ rfl rfl ⟨Nat.zero_le _, Nat.zero_le _⟩ rfl hl.1 rfl (Nat.le_of_ble_eq_true rfl) dX6_count_71 (fun H locs hF => ?_)
        obtain ⟨rfl, rfl⟩ := Prod.mk.inj (Option.some.inj hf)
        exact fl_iret X hb hr hlk hF dX6_count_74
      · replace hf := ifn cd5 hf
        by_cases cd10 : x1 = (3 : Int32)
        · replace hf := ifp cd10 hf
          refine lv_tableIn (tgt := 75) (off := 74) hx hb dX6_count_1 (by rw [cd10]; decide) (by rw [cd10]; decide) (by rw [cd10]; rfl) (by decide) ?_
          refine lv_aload_n hx hb dX6_count_75 rfl (lv_at hl 0 rfl) ?_
          obtain ⟨r12, σ13, hq11, hf⟩ := bm_some hf
          refine cm_X6_198 (As := []) (rest := []) X hb hml hF (cX6_knotsNow_ok (l := l) (G := G) X.2.2.2.2 hq11) sh_X6 ⟨Nat.le_of_ble_eq_true rfl, Nat.le_of_ble_eq_true rfl⟩ rfl rfl ⟨Nat.zero_le _, Nat.zero_le _⟩ rfl hl.1 rfl (Nat.le_of_ble_eq_true rfl) dX6_count_76 (fun H locs hF => ?_)
          obtain ⟨r15, hq14, hf⟩ := bi_some hf
          refine cm_X6_186 (As := [.int r12]) (rest := []) X hb hml hF (cJ6_bitCount_0f7a4_ok (l := l) (G := G) (σ := σ13) X.2.2.2.2 hq14) ⟨Nat.le_of_ble_eq_true rfl, Nat.le_of_ble_eq_true rfl⟩ rfl rfl ⟨Nat.zero_le _, Nat.zero_le _⟩ rfl hl.1 rfl (Nat.le_of_ble_eq_true rfl) dX6_count_79 (fun H locs hF => ?_)
          obtain ⟨rfl, rfl⟩ := Prod.mk.inj (Option.some.inj hf)
          exact fl_iret X hb hr hlk hF dX6_count_82
        · replace hf := ifn cd10 hf
          by_cases cd16 : x1 = (4 : Int32)
          · replace hf := ifp cd16 hf
            refine lv_tableIn (tgt := 83) (off := 82) hx hb dX6_count_1 (by rw [cd16]; decide) (by rw [cd16]; decide) (by rw [cd16]; rfl) (by decide) ?_
            refine lv_aload_n hx hb dX6_count_83 rfl (lv_at hl 0 rfl) ?_
            refine gf_X6_19 X hb hF sh_X6 dX6_count_84 ?_
            refine gf_X6_111 X hb hF (sh_C isC_17) dX6_count_87 ?_
            obtain ⟨rfl, rfl⟩ := Prod.mk.inj (Option.some.inj hf)
            exact fl_iret X hb hr hlk hF dX6_count_90
          · replace hf := ifn cd16 hf
            by_cases cd17 : x1 = (5 : Int32)
            · replace hf := ifp cd17 hf
              refine lv_tableIn (tgt := 91) (off := 90) hx hb dX6_count_1 (by rw [cd17]; decide) (by rw [cd17]; decide) (by rw [cd17]; rfl) (by decide) ?_
              refine lv_aload_n hx hb dX6_count_91 rfl (lv_at hl 0 rfl) ?_
              refine gf_X6_62 X hb hF sh_X6 dX6_count_92 ?_
              obtain ⟨rfl, rfl⟩ := Prod.mk.inj (Option.some.inj hf)
              exact fl_iret X hb hr hlk hF dX6_count_95
            · replace hf := ifn cd17 hf
              by_cases cd18 : x1 = (6 : Int32)
              · replace hf := ifp cd18 hf
                refine lv_tableIn (tgt := 96) (off := 95) hx hb dX6_count_1 (by rw [cd18]; decide) (by rw [cd18]; decide) (by rw [cd18]; rfl) (by decide) ?_
                refine lv_aload_n hx hb dX6_count_96 rfl (lv_at hl 0 rfl) ?_
                refine gf_X6_10 X hb hF sh_X6 dX6_count_97 ?_
                refine gf_X6_69 X hb hF sh_X5 dX6_count_100 ?_
                obtain ⟨rfl, rfl⟩ := Prod.mk.inj (Option.some.inj hf)
                exact fl_iret X hb hr hlk hF dX6_count_103
              · replace hf := ifn cd18 hf
                by_cases cd19 : x1 = (7 : Int32)
                · replace hf := ifp cd19 hf
                  refine lv_tableIn (tgt := 104) (off := 103) hx hb dX6_count_1 (by rw [cd19]; decide) (by rw [cd19]; decide) (by rw [cd19]; rfl) (by decide) ?_
                  refine lv_aload_n hx hb dX6_count_104 rfl (lv_at hl 0 rfl) ?_
                  refine gf_X6_37 X hb hF sh_X6 dX6_count_105 ?_
                  refine gf_X6_80 X hb hF sh_X1 dX6_count_108 ?_
                  obtain ⟨rfl, rfl⟩ := Prod.mk.inj (Option.some.inj hf)
                  exact fl_iret X hb hr hlk hF dX6_count_111
                · replace hf := ifn cd19 hf
                  refine lv_tableOut (tgt := 112) hx hb dX6_count_1 (by have z0 := lv_neT (a := 0) cd1 (by decide); have z1 := lv_neT (a := 1) cd2 (by decide); have z2 := lv_neT (a := 2) cd5 (by decide); have z3 := lv_neT (a := 3) cd10 (by decide); have z4 := lv_neT (a := 4) cd16 (by decide); have z5 := lv_neT (a := 5) cd17 (by decide); have z6 := lv_neT (a := 6) cd18 (by decide); have z7 := lv_neT (a := 7) cd19 (by decide); omega) (by decide) ?_
                  refine lv_iconst (v := (-1 : Int32)) hx hb dX6_count_112 (by decide) ?_
                  obtain ⟨rfl, rfl⟩ := Prod.mk.inj (Option.some.inj hf)
                  exact fl_iret X hb hr hlk hF dX6_count_113
end GEN
