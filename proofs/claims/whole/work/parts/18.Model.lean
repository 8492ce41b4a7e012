section GEN
variable {p : Program} {l : Launch} {e : Env} {s : State} {m : MethodId} {args : Array Value} {below : List Frame} {meth : Method} {c : Code} {G : Gl}
set_option maxHeartbeats 4000000 in
set_option maxRecDepth 100000 in
theorem cX7_in_ok {l : Launch} {G : Gl} (hI : FI G wR) {y0 : Int64} {y2 : Int64} {y4 : Int64} {σ : Mem} {r : Int32} (hf : fX7_in y0 y2 y4 = some r) : Ct l G wR yX7_in cX7_in 6 (some .boolean) ({ frames := 0, cells := 0, slots := 0, locals := 0 }) [.long y0, .long y2, .long y4] σ (some (.int r)) σ := by
  refine fl_start hI (by decide) (Nat.le_of_ble_eq_true rfl) ?_
  intro p e s m below meth c M hF ls hl
  obtain ⟨X, hb, hml, hr, hlk⟩ := id M
  have hx := X.1
  have hl : lv_has ls 6 [(0, .long y0), (2, .long y2), (4, .long y4)] := hl
  unfold fX7_in at hf
  refine lv_lload_n hx hb dX7_in_0 rfl (lv_at hl 0 rfl) ?_
  refine lv_lload_n hx hb dX7_in_1 rfl (lv_at hl 1 rfl) ?_
  refine W.lcmp hx hb dX7_in_2 ?_
  refine lv_if_lt (tgt := 17) hx hb dX7_in_3 (by decide) (fun cd1 => ?_) (fun cd1 => ?_)
  · replace hf := ifp cd1 hf
    refine lv_iconst (v := (0 : Int32)) hx hb dX7_in_17 (by decide) ?_
    obtain rfl := Option.some.inj hf
    exact fl_zret X hb hr hlk hF (Or.inl rfl) dX7_in_18
  · replace hf := ifn cd1 hf
    refine lv_lload_n hx hb dX7_in_6 rfl (lv_at hl 0 rfl) ?_
    refine lv_lload hx hb dX7_in_7 (lv_at hl 2 rfl) ?_
    refine W.lcmp hx hb dX7_in_9 ?_
    refine lv_if_gt (tgt := 17) hx hb dX7_in_10 (by decide) (fun cd2 => ?_) (fun cd2 => ?_)
    · replace hf := ifp cd2 hf
      refine lv_iconst (v := (0 : Int32)) hx hb dX7_in_17 (by decide) ?_
      obtain rfl := Option.some.inj hf
      exact fl_zret X hb hr hlk hF (Or.inl rfl) dX7_in_18
    · replace hf := ifn cd2 hf
      refine lv_iconst (v := (1 : Int32)) hx hb dX7_in_13 (by decide) ?_
      refine lv_goto (tgt := 18) hx hb dX7_in_14 (by decide) ?_
      obtain rfl := Option.some.inj hf
      exact fl_zret X hb hr hlk hF (Or.inr rfl) dX7_in_18
set_option maxHeartbeats 4000000 in
set_option maxRecDepth 100000 in
theorem cX7_has_ok {l : Launch} {G : Gl} (hI : FI G wR) {x0 : Int32} {x1 : Int32} {σ : Mem} {r : Int32} (hf : fX7_has x0 x1 = some r) : Ct l G wR yX7_has cX7_has 2 (some .boolean) ({ frames := 0, cells := 0, slots := 0, locals := 0 }) [.int x0, .int x1] σ (some (.int r)) σ := by
  refine fl_start hI (by decide) (Nat.le_of_ble_eq_true rfl) ?_
  intro p e s m below meth c M hF ls hl
  obtain ⟨X, hb, hml, hr, hlk⟩ := id M
  have hx := X.1
  have hl : lv_has ls 2 [(0, .int x0), (1, .int x1)] := hl
  unfold fX7_has at hf
  refine lv_iload_n hx hb dX7_has_0 rfl (lv_at hl 0 rfl) ?_
  refine lv_iload_n hx hb dX7_has_1 rfl (lv_at hl 1 rfl) ?_
  refine lv_ishr hx hb dX7_has_2 ?_
  refine lv_iconst (v := (1 : Int32)) hx hb dX7_has_3 (by decide) ?_
  refine lv_iand hx hb dX7_has_4 ?_
  refine lv_iconst (v := (1 : Int32)) hx hb dX7_has_5 (by decide) ?_
  refine lv_icmp_ne (tgt := 13) hx hb dX7_has_6 (by decide) (fun cd1 => ?_) (fun cd1 => ?_)
  · replace hf := ifn cd1 hf
    refine lv_iconst (v := (0 : Int32)) hx hb dX7_has_13 (by decide) ?_
    obtain rfl := Option.some.inj hf
    exact fl_zret X hb hr hlk hF (Or.inl rfl) dX7_has_14
  · replace hf := ifp cd1 hf
    refine lv_iconst (v := (1 : Int32)) hx hb dX7_has_9 (by decide) ?_
    refine lv_goto (tgt := 14) hx hb dX7_has_10 (by decide) ?_
    obtain rfl := Option.some.inj hf
    exact fl_zret X hb hr hlk hF (Or.inr rfl) dX7_has_14
set_option maxHeartbeats 4000000 in
set_option maxRecDepth 100000 in
theorem bX7_ones_4 {σ : Mem} {r : Int32} (M : MX p s m args meth c RX7 G wR cX7_ones 3 (some .int)) : ∀ (fu : Nat) (x0 : Int32) (x1 : Int32) (x2 : Int32) (H : Heap) (locs : List Loc) (ls : Array Slot), fX7_ones_4 fu x0 x1 x2 = some r → FH G wR s.heap H locs σ → lv_has ls 3 [(0, .int x0), (1, .int x1), (2, .int x2)] → WG p l e ({ frames := 0, cells := 0, slots := 0, locals := 0 }) s m args below meth c G wR (some (.int r)) σ H locs 4 ls [] := by
  obtain ⟨X, hb, hml, hr, hlk⟩ := id M
  have hx := X.1
  intro fu
  induction fu with
  | zero =>
    intro x0 x1 x2 H locs ls hf hF hl
    rw [fX7_ones_4] at hf
    cases hf
  | succ fu ih =>
    intro x0 x1 x2 H locs ls hf hF hl
    rw [fX7_ones_4] at hf
    refine lv_iload_n hx hb dX7_ones_4 rfl (lv_at hl 2 rfl) ?_
    refine lv_bipush (v := (16 : Int32)) hx hb dX7_ones_5 (by decide) ?_
    refine lv_icmp_ge (tgt := 24) hx hb dX7_ones_7 (by decide) (fun cd1 => ?_) (fun cd1 => ?_)
    · replace hf := ifp cd1 hf
      refine lv_iload_n hx hb dX7_ones_24 rfl (lv_at hl 1 rfl) ?_
      obtain rfl := Option.some.inj hf
      exact fl_iret X hb hr hlk hF dX7_ones_25
    · replace hf := ifn cd1 hf
      refine lv_iload_n hx hb dX7_ones_10 rfl (lv_at hl 1 rfl) ?_
      refine lv_iload_n hx hb dX7_ones_11 rfl (lv_at hl 0 rfl) ?_
      refine lv_iload_n hx hb dX7_ones_12 rfl (lv_at hl 2 rfl) ?_
      refine lv_ishr hx hb dX7_ones_13 ?_
      refine lv_iconst (v := (1 : Int32)) hx hb dX7_ones_14 (by decide) ?_
      refine lv_iand hx hb dX7_ones_15 ?_
      refine lv_iadd hx hb dX7_ones_16 ?_
      refine lv_istore_n (lv' := [(1, .int (x1 + ((x0 >>> (x2 &&& 31)) &&& (1 : Int32)))), (0, .int x0), (2, .int x2)]) hx hb dX7_ones_17 rfl hl (by decide) rfl (fun ls hl => ?_)
      refine lv_iinc (v := x2 + (1 : Int32)) (lv' := [(2, .int (x2 + (1 : Int32))), (1, .int (x1 + ((x0 >>> (x2 &&& 31)) &&& (1 : Int32)))), (0, .int x0)]) hx hb dX7_ones_18 hl (k := 2) rfl rfl (by decide) rfl (fun ls hl => ?_)
      refine lv_goto (tgt := 4) hx hb dX7_ones_21 (by decide) ?_
      exact ih x0 (x1 + ((x0 >>> (x2 &&& 31)) &&& (1 : Int32))) (x2 + (1 : Int32)) _ _ _ hf hF (lv_sub hl [2, 1, 0] rfl)
set_option maxHeartbeats 4000000 in
set_option maxRecDepth 100000 in
theorem cX7_ones_ok {l : Launch} {G : Gl} (hI : FI G wR) {x0 : Int32} {σ : Mem} {r : Int32} (hf : fX7_ones x0 = some r) : Ct l G wR yX7_ones cX7_ones 3 (some .int) ({ frames := 0, cells := 0, slots := 0, locals := 0 }) [.int x0] σ (some (.int r)) σ := by
  refine fl_start hI (by decide) (Nat.le_of_ble_eq_true rfl) ?_
  intro p e s m below meth c M hF ls hl
  obtain ⟨X, hb, hml, hr, hlk⟩ := id M
  have hx := X.1
  have hl : lv_has ls 3 [(0, .int x0)] := hl
  unfold fX7_ones at hf
  refine lv_iconst (v := (0 : Int32)) hx hb dX7_ones_0 (by decide) ?_
  refine lv_istore_n (lv' := [(1, .int (0 : Int32)), (0, .int x0)]) hx hb dX7_ones_1 rfl hl (by decide) rfl (fun ls hl => ?_)
  refine lv_iconst (v := (0 : Int32)) hx hb dX7_ones_2 (by decide) ?_
  refine lv_istore_n (lv' := [(2, .int (0 : Int32)), (1, .int (0 : Int32)), (0, .int x0)]) hx hb dX7_ones_3 rfl hl (by decide) rfl (fun ls hl => ?_)
  exact bX7_ones_4 M FU x0 (0 : Int32) (0 : Int32) _ _ _ hf hF (lv_sub hl [2, 1, 0] rfl)
set_option maxHeartbeats 4000000 in
set_option maxRecDepth 100000 in
theorem bX7_copy_2 {σ' : Mem} (M : MX p s m args meth c RX7 G wR cX7_copy 4 none) : ∀ (fu : Nat) (x1 : Int32) (x2 : Int32) (x3 : Int32) (σ : Mem) (H : Heap) (locs : List Loc) (ls : Array Slot), fX7_copy_2 fu x1 x2 x3 σ = some σ' → FH G wR s.heap H locs σ → lv_has ls 4 [(0, .ref (gA G 0)), (1, .int x1), (2, .int x2), (3, .int x3)] → WG p l e ({ frames := 0, cells := 0, slots := 0, locals := 0 }) s m args below meth c G wR none σ' H locs 2 ls [] := by
  obtain ⟨X, hb, hml, hr, hlk⟩ := id M
  have hx := X.1
  intro fu
  induction fu with
  | zero =>
    intro x1 x2 x3 σ H locs ls hf hF hl
    rw [fX7_copy_2] at hf
    cases hf
  | succ fu ih =>
    intro x1 x2 x3 σ H locs ls hf hF hl
    rw [fX7_copy_2] at hf
    refine lv_iload_n hx hb dX7_copy_2 rfl (lv_at hl 3 rfl) ?_
    refine lv_bipush (v := (49 : Int32)) hx hb dX7_copy_3 (by decide) ?_
    refine lv_icmp_ge (tgt := 30) hx hb dX7_copy_5 (by decide) (fun cd1 => ?_) (fun cd1 => ?_)
    · replace hf := ifp cd1 hf
      obtain rfl := Option.some.inj hf
      exact fl_vret X hb hr hlk hF dX7_copy_30
    · replace hf := ifn cd1 hf
      refine lv_aload_n hx hb dX7_copy_8 rfl (lv_at hl 0 rfl) ?_
      refine gf_X7_7 X hb hF sh_X7 dX7_copy_9 ?_
      refine lv_iload_n hx hb dX7_copy_12 rfl (lv_at hl 2 rfl) ?_
      refine lv_iload_n hx hb dX7_copy_13 rfl (lv_at hl 3 rfl) ?_
      refine lv_iadd hx hb dX7_copy_14 ?_
      refine lv_aload_n hx hb dX7_copy_15 rfl (lv_at hl 0 rfl) ?_
      refine gf_X7_7 X hb hF sh_X7 dX7_copy_16 ?_
      refine lv_iload_n hx hb dX7_copy_19 rfl (lv_at hl 1 rfl) ?_
      refine lv_iload_n hx hb dX7_copy_20 rfl (lv_at hl 3 rfl) ?_
      refine lv_iadd hx hb dX7_copy_21 ?_
      obtain ⟨g2, hf⟩ := grd_some hf
      refine fl_iald X hb hF sh_r1 g2 dX7_copy_22 ?_
      obtain ⟨g3, hf⟩ := grd_some hf
      refine fl_iast X hb hF sh_r1 g3 dX7_copy_23 (fun H locs hF => ?_)
      refine lv_iinc (v := x3 + (1 : Int32)) (lv' := [(3, .int (x3 + (1 : Int32))), (0, .ref (gA G 0)), (1, .int x1), (2, .int x2)]) hx hb dX7_copy_24 hl (k := 3) rfl rfl (by decide) rfl (fun ls hl => ?_)
      refine lv_goto (tgt := 2) hx hb dX7_copy_27 (by decide) ?_
      exact ih x1 x2 (x3 + (1 : Int32)) (mup σ 1 (x2 + x3).toNatClampNeg (σ 1 (x1 + x3).toNatClampNeg)) _ _ _ hf hF (lv_sub hl [1, 2, 3, 0] rfl)
set_option maxHeartbeats 4000000 in
set_option maxRecDepth 100000 in
theorem cX7_copy_ok {l : Launch} {G : Gl} (hI : FI G wR) {x1 : Int32} {x2 : Int32} {σ : Mem} {σ' : Mem} (hf : fX7_copy x1 x2 σ = some σ') : Ct l G wR yX7_copy cX7_copy 4 none ({ frames := 0, cells := 0, slots := 0, locals := 0 }) [.ref (gA G 0), .int x1, .int x2] σ none σ' := by
  refine fl_start hI (by decide) (Nat.le_of_ble_eq_true rfl) ?_
  intro p e s m below meth c M hF ls hl
  obtain ⟨X, hb, hml, hr, hlk⟩ := id M
  have hx := X.1
  have hl : lv_has ls 4 [(0, .ref (gA G 0)), (1, .int x1), (2, .int x2)] := hl
  unfold fX7_copy at hf
  refine lv_iconst (v := (0 : Int32)) hx hb dX7_copy_0 (by decide) ?_
  refine lv_istore_n (lv' := [(3, .int (0 : Int32)), (0, .ref (gA G 0)), (1, .int x1), (2, .int x2)]) hx hb dX7_copy_1 rfl hl (by decide) rfl (fun ls hl => ?_)
  exact bX7_copy_2 M FU x1 x2 (0 : Int32) σ _ _ _ hf hF (lv_sub hl [1, 2, 3, 0] rfl)
set_option maxHeartbeats 4000000 in
set_option maxRecDepth 100000 in
theorem bX7_minds_54 {σ' : Mem} (M : MX p s m args meth c RX7 G wR cX7_minds 2 none) : ∀ (σ : Mem) (H : Heap) (locs : List Loc) (ls : Array Slot), fX7_minds_54 σ = some σ' → FH G wR s.heap H locs σ → lv_has ls 2 [(0, .ref (gA G 0))] → WG p l e ({ frames := 1, cells := 0, slots := 0, locals := 23 }) s m args below meth c G wR none σ' H locs 54 ls [] := by
  obtain ⟨X, hb, hml, hr, hlk⟩ := id M
  have hx := X.1
  intro σ H locs ls hf hF hl
  unfold fX7_minds_54 at hf
  refine lv_aload_n hx hb dX7_minds_54 rfl (lv_at hl 0 rfl) ?_
  refine lv_iconst (v := (0 : Int32)) hx hb dX7_minds_55 (by decide) ?_
  refine lv_sipush (v := (147 : Int32)) hx hb dX7_minds_56 (by decide) ?_
  refine lv_bipush (v := (49 : Int32)) hx hb dX7_minds_59 (by decide) ?_
  refine lv_aload_n hx hb dX7_minds_61 rfl (lv_at hl 0 rfl) ?_
  refine gf_X7_51 X hb hF sh_X7 dX7_minds_62 ?_
  refine lv_imul hx hb dX7_minds_65 ?_
  refine lv_iadd hx hb dX7_minds_66 ?_
  obtain ⟨σ3, hq2, hf⟩ := bv_some hf
  refine cm_X7_54 (As := [.int (0 : Int32), .int ((147 : Int32) + ((49 : Int32) * (σ 0 2)))]) (rest := []) X hb hml hF (cX7_copy_ok (l := l) (G := G) X.2.2.2.2 hq2) sh_X7 ⟨Nat.le_of_ble_eq_true rfl, Nat.le_of_ble_eq_true rfl⟩ rfl rfl ⟨Nat.zero_le _, Nat.zero_le _⟩ rfl hl.1 rfl (Nat.le_of_ble_eq_true rfl) dX7_minds_67 (fun H locs hF => ?_)
  refine lv_aload_n hx hb dX7_minds_70 rfl (lv_at hl 0 rfl) ?_
  refine lv_dup hx hb dX7_minds_71 rfl ?_
  refine gf_X7_51 X hb hF sh_X7 dX7_minds_72 ?_
  refine lv_iconst (v := (1 : Int32)) hx hb dX7_minds_75 (by decide) ?_
  refine lv_iadd hx hb dX7_minds_76 ?_
  refine pf_X7_51 X hb hF sh_X7 dX7_minds_77 (fun H locs hF => ?_)
  obtain rfl := Option.some.inj hf
  exact fl_vret X hb hr hlk hF dX7_minds_80
set_option maxHeartbeats 4000000 in
set_option maxRecDepth 100000 in
theorem bX7_minds_11 {σ' : Mem} (M : MX p s m args meth c RX7 G wR cX7_minds 2 none) : ∀ (fu : Nat) (x1 : Int32) (σ : Mem) (H : Heap) (locs : List Loc) (ls : Array Slot), fX7_minds_11 fu x1 σ = some σ' → FH G wR s.heap H locs σ → lv_has ls 2 [(0, .ref (gA G 0)), (1, .int x1)] → WG p l e ({ frames := 1, cells := 0, slots := 0, locals := 23 }) s m args below meth c G wR none σ' H locs 11 ls [] := by
  obtain ⟨X, hb, hml, hr, hlk⟩ := id M
  have hx := X.1
  intro fu
  induction fu with
  | zero =>
    intro x1 σ H locs ls hf hF hl
    rw [fX7_minds_11] at hf
    cases hf
  | succ fu ih =>
    intro x1 σ H locs ls hf hF hl
    rw [fX7_minds_11] at hf
    refine lv_iload_n hx hb dX7_minds_11 rfl (lv_at hl 1 rfl) ?_
    refine lv_sipush (v := (441 : Int32)) hx hb dX7_minds_12 (by decide) ?_
    refine lv_icmp_ge (tgt := 44) hx hb dX7_minds_15 (by decide) (fun cd4 => ?_) (fun cd4 => ?_)
    · replace hf := ifp cd4 hf
      refine lv_aload_n hx hb dX7_minds_44 rfl (lv_at hl 0 rfl) ?_
      refine lv_dup hx hb dX7_minds_45 rfl ?_
      refine gf_X7_51 X hb hF sh_X7 dX7_minds_46 ?_
      refine lv_iconst (v := (1 : Int32)) hx hb dX7_minds_49 (by decide) ?_
      refine lv_isub hx hb dX7_minds_50 ?_
      refine pf_X7_51 X hb hF sh_X7 dX7_minds_51 (fun H locs hF => ?_)
      exact bX7_minds_54 M (mup σ 0 2 ((σ 0 2) - (1 : Int32))) _ _ _ hf hF (lv_sub hl [0] rfl)
    · replace hf := ifn cd4 hf
      refine lv_aload_n hx hb dX7_minds_18 rfl (lv_at hl 0 rfl) ?_
      refine gf_X7_7 X hb hF sh_X7 dX7_minds_19 ?_
      refine lv_sipush (v := (147 : Int32)) hx hb dX7_minds_22 (by decide) ?_
      refine lv_iload_n hx hb dX7_minds_25 rfl (lv_at hl 1 rfl) ?_
      refine lv_iadd hx hb dX7_minds_26 ?_
      refine lv_aload_n hx hb dX7_minds_27 rfl (lv_at hl 0 rfl) ?_
      refine gf_X7_7 X hb hF sh_X7 dX7_minds_28 ?_
      refine lv_sipush (v := (196 : Int32)) hx hb dX7_minds_31 (by decide) ?_
      refine lv_iload_n hx hb dX7_minds_34 rfl (lv_at hl 1 rfl) ?_
      refine lv_iadd hx hb dX7_minds_35 ?_
      obtain ⟨g5, hf⟩ := grd_some hf
      refine fl_iald X hb hF sh_r1 g5 dX7_minds_36 ?_
      obtain ⟨g6, hf⟩ := grd_some hf
      refine fl_iast X hb hF sh_r1 g6 dX7_minds_37 (fun H locs hF => ?_)
      refine lv_iinc (v := x1 + (1 : Int32)) (lv' := [(1, .int (x1 + (1 : Int32))), (0, .ref (gA G 0))]) hx hb dX7_minds_38 hl (k := 1) rfl rfl (by decide) rfl (fun ls hl => ?_)
      refine lv_goto (tgt := 11) hx hb dX7_minds_41 (by decide) ?_
      exact ih (x1 + (1 : Int32)) (mup σ 1 ((147 : Int32) + x1).toNatClampNeg (σ 1 ((196 : Int32) + x1).toNatClampNeg)) _ _ _ hf hF (lv_sub hl [1, 0] rfl)
set_option maxHeartbeats 4000000 in
set_option maxRecDepth 100000 in
theorem cX7_minds_ok {l : Launch} {G : Gl} (hI : FI G wR) {σ : Mem} {σ' : Mem} (hf : fX7_minds σ = some σ') : Ct l G wR yX7_minds cX7_minds 2 none ({ frames := 1, cells := 0, slots := 0, locals := 23 }) [.ref (gA G 0)] σ none σ' := by
  refine fl_start hI (by decide) (Nat.le_of_ble_eq_true rfl) ?_
  intro p e s m below meth c M hF ls hl
  obtain ⟨X, hb, hml, hr, hlk⟩ := id M
  have hx := X.1
  have hl : lv_has ls 2 [(0, .ref (gA G 0))] := hl
  unfold fX7_minds at hf
  refine lv_aload_n hx hb dX7_minds_0 rfl (lv_at hl 0 rfl) ?_
  refine gf_X7_51 X hb hF sh_X7 dX7_minds_1 ?_
  refine lv_bipush (v := (10 : Int32)) hx hb dX7_minds_4 (by decide) ?_
  refine lv_icmp_ne (tgt := 54) hx hb dX7_minds_6 (by decide) (fun cd1 => ?_) (fun cd1 => ?_)
  · replace hf := ifn cd1 hf
    exact bX7_minds_54 M σ _ _ _ hf hF (lv_sub hl [0] rfl)
  · replace hf := ifp cd1 hf
    refine lv_iconst (v := (0 : Int32)) hx hb dX7_minds_9 (by decide) ?_
    refine lv_istore_n (lv' := [(1, .int (0 : Int32)), (0, .ref (gA G 0))]) hx hb dX7_minds_10 rfl hl (by decide) rfl (fun ls hl => ?_)
    exact bX7_minds_11 M FU (0 : Int32) σ _ _ _ hf hF (lv_sub hl [1, 0] rfl)
set_option maxHeartbeats 4000000 in
set_option maxRecDepth 100000 in
theorem cX7_isDigit_ok {l : Launch} {G : Gl} (hI : FI G wR) {x0 : Int32} {σ : Mem} {r : Int32} (hf : fX7_isDigit x0 = some r) : Ct l G wR yX7_isDigit cX7_isDigit 1 (some .boolean) ({ frames := 1, cells := 0, slots := 0, locals := 25 }) [.int x0] σ (some (.int r)) σ := by
  refine fl_start hI (by decide) (Nat.le_of_ble_eq_true rfl) ?_
  intro p e s m below meth c M hF ls hl
  obtain ⟨X, hb, hml, hr, hlk⟩ := id M
  have hx := X.1
  have hl : lv_has ls 1 [(0, .int x0)] := hl
  unfold fX7_isDigit at hf
  refine lv_iload_n hx hb dX7_isDigit_0 rfl (lv_at hl 0 rfl) ?_
  refine lv_i2l (v := x0.toInt64) hx hb dX7_isDigit_1 rfl ?_
  refine lv_ldc2 (v := (48 : Int64)) hx hb X.2.1 (X.2.2.1 _ wn_X7_58) dX7_isDigit_2 ?_
  refine lv_ldc2 (v := (57 : Int64)) hx hb X.2.1 (X.2.2.1 _ wn_X7_60) dX7_isDigit_5 ?_
  obtain ⟨r2, hq1, hf⟩ := bi_some hf
  refine cm_X7_62 (As := [.long x0.toInt64, .long (48 : Int64), .long (57 : Int64)]) (rest := []) X hb hml hF (cX7_in_ok (l := l) (G := G) (σ := σ) X.2.2.2.2 hq1) ⟨Nat.le_of_ble_eq_true rfl, Nat.le_of_ble_eq_true rfl⟩ rfl rfl ⟨Nat.zero_le _, Nat.zero_le _⟩ rfl hl.1 rfl (Nat.le_of_ble_eq_true rfl) dX7_isDigit_8 (fun H locs hF => ?_)
  obtain ⟨g3, hf⟩ := grd_some hf
  obtain rfl := Option.some.inj hf
  exact fl_zret X hb hr hlk hF g3 dX7_isDigit_11
set_option maxHeartbeats 4000000 in
set_option maxRecDepth 100000 in
theorem bX7_take_197 {σ' : Mem} (M : MX p s m args meth c RX7 G wR cX7_take 2 none) : ∀ (x1 : Int32) (σ : Mem) (H : Heap) (locs : List Loc) (ls : Array Slot), fX7_take_197 x1 σ = some σ' → FH G wR s.heap H locs σ → lv_has ls 2 [(0, .ref (gA G 0)), (1, .int x1)] → WG p l e ({ frames := 2, cells := 0, slots := 0, locals := 45 }) s m args below meth c G wR none σ' H locs 197 ls [] := by
  obtain ⟨X, hb, hml, hr, hlk⟩ := id M
  have hx := X.1
  intro x1 σ H locs ls hf hF hl
  unfold fX7_take_197 at hf
  refine lv_aload_n hx hb dX7_take_197 rfl (lv_at hl 0 rfl) ?_
  refine lv_sipush (v := (1000 : Int32)) hx hb dX7_take_198 (by decide) ?_
  refine lv_iload_n hx hb dX7_take_201 rfl (lv_at hl 1 rfl) ?_
  refine lv_iadd hx hb dX7_take_202 ?_
  refine pf_X7_75 X hb hF sh_X7 dX7_take_203 (fun H locs hF => ?_)
  obtain rfl := Option.some.inj hf
  exact fl_vret X hb hr hlk hF dX7_take_206
set_option maxHeartbeats 4000000 in
set_option maxRecDepth 100000 in
theorem bX7_take_183 {σ' : Mem} {k117 : Int32 → Mem → Option Mem} (M : MX p s m args meth c RX7 G wR cX7_take 2 none) (hk117 : ∀ (x1 : Int32) (σ : Mem) (H : Heap) (locs : List Loc) (ls : Array Slot), k117 x1 σ = some σ' → FH G wR s.heap H locs σ → lv_has ls 2 [(0, .ref (gA G 0)), (1, .int x1)] → WG p l e ({ frames := 2, cells := 0, slots := 0, locals := 45 }) s m args below meth c G wR none σ' H locs 117 ls []) : ∀ (s0 : Int32) (σ : Mem) (H : Heap) (locs : List Loc) (ls : Array Slot), fX7_take_183 k117 s0 σ = some σ' → FH G wR s.heap H locs σ → lv_has ls 2 [(0, .ref (gA G 0))] → WG p l e ({ frames := 2, cells := 0, slots := 0, locals := 45 }) s m args below meth c G wR none σ' H locs 183 ls [.int s0] := by
  obtain ⟨X, hb, hml, hr, hlk⟩ := id M
  have hx := X.1
  intro s0 σ H locs ls hf hF hl
  unfold fX7_take_183 at hf
  refine lv_istore_n (lv' := [(1, .int s0), (0, .ref (gA G 0))]) hx hb dX7_take_183 rfl hl (by decide) rfl (fun ls hl => ?_)
  refine lv_aload_n hx hb dX7_take_184 rfl (lv_at hl 1 rfl) ?_
  refine lv_dup hx hb dX7_take_185 rfl ?_
  refine gf_X7_66 X hb hF sh_X7 dX7_take_186 ?_
  refine lv_iconst (v := (1 : Int32)) hx hb dX7_take_189 (by decide) ?_
  refine lv_iadd hx hb dX7_take_190 ?_
  refine pf_X7_66 X hb hF sh_X7 dX7_take_191 (fun H locs hF => ?_)
  refine lv_goto (tgt := 117) hx hb dX7_take_194 (by decide) ?_
  exact hk117 s0 (mup σ 0 10 ((σ 0 10) + (1 : Int32))) _ _ _ hf hF (lv_sub hl [1, 0] rfl)
set_option maxHeartbeats 4000000 in
set_option maxRecDepth 100000 in
theorem bX7_take_180 {σ' : Mem} {k117 : Int32 → Mem → Option Mem} (M : MX p s m args meth c RX7 G wR cX7_take 2 none) (hk117 : ∀ (x1 : Int32) (σ : Mem) (H : Heap) (locs : List Loc) (ls : Array Slot), k117 x1 σ = some σ' → FH G wR s.heap H locs σ → lv_has ls 2 [(0, .ref (gA G 0)), (1, .int x1)] → WG p l e ({ frames := 2, cells := 0, slots := 0, locals := 45 }) s m args below meth c G wR none σ' H locs 117 ls []) : ∀ (σ : Mem) (H : Heap) (locs : List Loc) (ls : Array Slot), fX7_take_180 k117 σ = some σ' → FH G wR s.heap H locs σ → lv_has ls 2 [(0, .ref (gA G 0))] → WG p l e ({ frames := 2, cells := 0, slots := 0, locals := 45 }) s m args below meth c G wR none σ' H locs 180 ls [] := by
  obtain ⟨X, hb, hml, hr, hlk⟩ := id M
  have hx := X.1
  intro σ H locs ls hf hF hl
  unfold fX7_take_180 at hf
  refine lv_sipush (v := (1000 : Int32)) hx hb dX7_take_180 (by decide) ?_
  exact bX7_take_183 M hk117 (1000 : Int32) σ _ _ _ hf hF (lv_sub hl [0] rfl)
set_option maxHeartbeats 4000000 in
set_option maxRecDepth 100000 in
theorem bX7_take_117 {σ' : Mem} (M : MX p s m args meth c RX7 G wR cX7_take 2 none) : ∀ (fu : Nat) (x1 : Int32) (σ : Mem) (H : Heap) (locs : List Loc) (ls : Array Slot), fX7_take_117 fu x1 σ = some σ' → FH G wR s.heap H locs σ → lv_has ls 2 [(0, .ref (gA G 0)), (1, .int x1)] → WG p l e ({ frames := 2, cells := 0, slots := 0, locals := 45 }) s m args below meth c G wR none σ' H locs 117 ls [] := by
  obtain ⟨X, hb, hml, hr, hlk⟩ := id M
  have hx := X.1
  intro fu
  induction fu with
  | zero =>
    intro x1 σ H locs ls hf hF hl
    rw [fX7_take_117] at hf
    cases hf
  | succ fu ih =>
    intro x1 σ H locs ls hf hF hl
    rw [fX7_take_117] at hf
    refine lv_aload_n hx hb dX7_take_117 rfl (lv_at hl 0 rfl) ?_
    refine gf_X7_66 X hb hF sh_X7 dX7_take_118 ?_
    refine lv_aload_n hx hb dX7_take_121 rfl (lv_at hl 0 rfl) ?_
    refine gf_X7_69 X hb hF sh_X7 dX7_take_122 ?_
    refine lv_icmp_ge (tgt := 197) hx hb dX7_take_125 (by decide) (fun cd7 => ?_) (fun cd7 => ?_)
    · replace hf := ifp cd7 hf
      exact bX7_take_197 M x1 σ _ _ _ hf hF (lv_sub hl [0, 1] rfl)
    · replace hf := ifn cd7 hf
      refine lv_aload_n hx hb dX7_take_128 rfl (lv_at hl 0 rfl) ?_
      refine gf_X7_20 X hb hF sh_X7 dX7_take_129 ?_
      refine lv_aload_n hx hb dX7_take_132 rfl (lv_at hl 0 rfl) ?_
      refine gf_X7_66 X hb hF sh_X7 dX7_take_133 ?_
      obtain ⟨g8, hf⟩ := grd_some hf
      refine fl_iald X hb hF sh_r4 g8 dX7_take_136 ?_
      obtain ⟨r10, hq9, hf⟩ := bi_some hf
      refine cm_X7_78 (As := [.int (σ 4 (σ 0 10).toNatClampNeg)]) (rest := []) X hb hml hF (cX7_isDigit_ok (l := l) (G := G) (σ := σ) X.2.2.2.2 hq9) ⟨Nat.le_of_ble_eq_true rfl, Nat.le_of_ble_eq_true rfl⟩ rfl rfl ⟨Nat.zero_le _, Nat.zero_le _⟩ rfl hl.1 rfl (Nat.le_of_ble_eq_true rfl) dX7_take_137 (fun H locs hF => ?_)
      refine lv_if_eq (tgt := 197) hx hb dX7_take_140 (by decide) (fun cd11 => ?_) (fun cd11 => ?_)
      · replace hf := ifp cd11 hf
        exact bX7_take_197 M x1 σ _ _ _ hf hF (lv_sub hl [0, 1] rfl)
      · replace hf := ifn cd11 hf
        refine lv_aload_n hx hb dX7_take_143 rfl (lv_at hl 0 rfl) ?_
        refine gf_X7_66 X hb hF sh_X7 dX7_take_144 ?_
        refine lv_aload_n hx hb dX7_take_147 rfl (lv_at hl 0 rfl) ?_
        refine gf_X7_72 X hb hF sh_X7 dX7_take_148 ?_
        refine lv_iconst (v := (1 : Int32)) hx hb dX7_take_151 (by decide) ?_
        refine lv_iadd hx hb dX7_take_152 ?_
        refine lv_icmp_ne (tgt := 180) hx hb dX7_take_153 (by decide) (fun cd12 => ?_) (fun cd12 => ?_)
        · replace hf := ifn cd12 hf
          exact bX7_take_180 M ih σ _ _ _ hf hF (lv_sub hl [0] rfl)
        · replace hf := ifp cd12 hf
          refine lv_iload_n hx hb dX7_take_156 rfl (lv_at hl 1 rfl) ?_
          refine lv_if_le (tgt := 180) hx hb dX7_take_157 (by decide) (fun cd13 => ?_) (fun cd13 => ?_)
          · replace hf := ifp cd13 hf
            exact bX7_take_180 M ih σ _ _ _ hf hF (lv_sub hl [0] rfl)
          · replace hf := ifn cd13 hf
            refine lv_bipush (v := (10 : Int32)) hx hb dX7_take_160 (by decide) ?_
            refine lv_iload_n hx hb dX7_take_162 rfl (lv_at hl 1 rfl) ?_
            refine lv_imul hx hb dX7_take_163 ?_
            refine lv_aload_n hx hb dX7_take_164 rfl (lv_at hl 0 rfl) ?_
            refine gf_X7_20 X hb hF sh_X7 dX7_take_165 ?_
            refine lv_aload_n hx hb dX7_take_168 rfl (lv_at hl 0 rfl) ?_
            refine gf_X7_66 X hb hF sh_X7 dX7_take_169 ?_
            obtain ⟨g14, hf⟩ := grd_some hf
            refine fl_iald X hb hF sh_r4 g14 dX7_take_172 ?_
            refine lv_iadd hx hb dX7_take_173 ?_
            refine lv_bipush (v := (48 : Int32)) hx hb dX7_take_174 (by decide) ?_
            refine lv_isub hx hb dX7_take_176 ?_
            refine lv_goto (tgt := 183) hx hb dX7_take_177 (by decide) ?_
            exact bX7_take_183 M ih ((((10 : Int32) * x1) + (σ 4 (σ 0 10).toNatClampNeg)) - (48 : Int32)) σ _ _ _ hf hF (lv_sub hl [0] rfl)
set_option maxHeartbeats 4000000 in
set_option maxRecDepth 100000 in
theorem bX7_take_95 {σ' : Mem} (M : MX p s m args meth c RX7 G wR cX7_take 2 none) : ∀ (s0 : Int32) (s1 : Int32) (σ : Mem) (H : Heap) (locs : List Loc) (ls : Array Slot), fX7_take_95 s0 s1 σ = some σ' → FH G wR s.heap H locs σ → lv_has ls 2 [(0, .ref (gA G 0))] → WG p l e ({ frames := 2, cells := 0, slots := 0, locals := 45 }) s m args below meth c G wR none σ' H locs 95 ls [.int s0, .int s1, .ref (gA G 0)] := by
  obtain ⟨X, hb, hml, hr, hlk⟩ := id M
  have hx := X.1
  intro s0 s1 σ H locs ls hf hF hl
  unfold fX7_take_95 at hf
  refine lv_iadd hx hb dX7_take_95 ?_
  refine pf_X7_66 X hb hF sh_X7 dX7_take_96 (fun H locs hF => ?_)
  refine lv_aload_n hx hb dX7_take_99 rfl (lv_at hl 0 rfl) ?_
  refine gf_X7_75 X hb hF sh_X7 dX7_take_100 ?_
  obtain ⟨r5, hq4, hf⟩ := bi_some hf
  refine cm_X7_78 (As := [.int ((mup σ 0 10 (s1 + s0)) 0 12)]) (rest := []) X hb hml hF (cX7_isDigit_ok (l := l) (G := G) (σ := mup σ 0 10 (s1 + s0)) X.2.2.2.2 hq4) ⟨Nat.le_of_ble_eq_true rfl, Nat.le_of_ble_eq_true rfl⟩ rfl rfl ⟨Nat.zero_le _, Nat.zero_le _⟩ rfl hl.1 rfl (Nat.le_of_ble_eq_true rfl) dX7_take_103 (fun H locs hF => ?_)
  refine lv_if_eq (tgt := 206) hx hb dX7_take_106 (by decide) (fun cd6 => ?_) (fun cd6 => ?_)
  · replace hf := ifp cd6 hf
    obtain rfl := Option.some.inj hf
    exact fl_vret X hb hr hlk hF dX7_take_206
  · replace hf := ifn cd6 hf
    refine lv_aload_n hx hb dX7_take_109 rfl (lv_at hl 0 rfl) ?_
    refine gf_X7_75 X hb hF sh_X7 dX7_take_110 ?_
    refine lv_bipush (v := (48 : Int32)) hx hb dX7_take_113 (by decide) ?_
    refine lv_isub hx hb dX7_take_115 ?_
    refine lv_istore_n (lv' := [(1, .int (((mup σ 0 10 (s1 + s0)) 0 12) - (48 : Int32))), (0, .ref (gA G 0))]) hx hb dX7_take_116 rfl hl (by decide) rfl (fun ls hl => ?_)
    exact bX7_take_117 M FU (((mup σ 0 10 (s1 + s0)) 0 12) - (48 : Int32)) (mup σ 0 10 (s1 + s0)) _ _ _ hf hF (lv_sub hl [1, 0] rfl)
set_option maxHeartbeats 4000000 in
set_option maxRecDepth 100000 in
theorem bX7_take_71 {σ' : Mem} (M : MX p s m args meth c RX7 G wR cX7_take 2 none) : ∀ (s0 : Int32) (σ : Mem) (H : Heap) (locs : List Loc) (ls : Array Slot), fX7_take_71 s0 σ = some σ' → FH G wR s.heap H locs σ → lv_has ls 2 [(0, .ref (gA G 0))] → WG p l e ({ frames := 2, cells := 0, slots := 0, locals := 45 }) s m args below meth c G wR none σ' H locs 71 ls [.int s0, .ref (gA G 0)] := by
  obtain ⟨X, hb, hml, hr, hlk⟩ := id M
  have hx := X.1
  intro s0 σ H locs ls hf hF hl
  unfold fX7_take_71 at hf
  refine pf_X7_75 X hb hF sh_X7 dX7_take_71 (fun H locs hF => ?_)
  refine lv_aload_n hx hb dX7_take_74 rfl (lv_at hl 0 rfl) ?_
  refine lv_dup hx hb dX7_take_75 rfl ?_
  refine gf_X7_66 X hb hF sh_X7 dX7_take_76 ?_
  refine lv_aload_n hx hb dX7_take_79 rfl (lv_at hl 0 rfl) ?_
  refine gf_X7_66 X hb hF sh_X7 dX7_take_80 ?_
  refine lv_aload_n hx hb dX7_take_83 rfl (lv_at hl 0 rfl) ?_
  refine gf_X7_69 X hb hF sh_X7 dX7_take_84 ?_
  refine lv_icmp_ge (tgt := 94) hx hb dX7_take_87 (by decide) (fun cd3 => ?_) (fun cd3 => ?_)
  · replace hf := ifp cd3 hf
    refine lv_iconst (v := (0 : Int32)) hx hb dX7_take_94 (by decide) ?_
    exact bX7_take_95 M (0 : Int32) ((mup σ 0 12 s0) 0 10) (mup σ 0 12 s0) _ _ _ hf hF (lv_sub hl [0] rfl)
  · replace hf := ifn cd3 hf
    refine lv_iconst (v := (1 : Int32)) hx hb dX7_take_90 (by decide) ?_
    refine lv_goto (tgt := 95) hx hb dX7_take_91 (by decide) ?_
    exact bX7_take_95 M (1 : Int32) ((mup σ 0 12 s0) 0 10) (mup σ 0 12 s0) _ _ _ hf hF (lv_sub hl [0] rfl)
set_option maxHeartbeats 4000000 in
set_option maxRecDepth 100000 in
theorem bX7_take_38 {σ' : Mem} (M : MX p s m args meth c RX7 G wR cX7_take 2 none) : ∀ (σ : Mem) (H : Heap) (locs : List Loc) (ls : Array Slot), fX7_take_38 σ = some σ' → FH G wR s.heap H locs σ → lv_has ls 2 [(0, .ref (gA G 0))] → WG p l e ({ frames := 2, cells := 0, slots := 0, locals := 45 }) s m args below meth c G wR none σ' H locs 38 ls [] := by
  obtain ⟨X, hb, hml, hr, hlk⟩ := id M
  have hx := X.1
  intro σ H locs ls hf hF hl
  unfold fX7_take_38 at hf
  refine lv_aload_n hx hb dX7_take_38 rfl (lv_at hl 0 rfl) ?_
  refine lv_aload_n hx hb dX7_take_39 rfl (lv_at hl 0 rfl) ?_
  refine gf_X7_66 X hb hF sh_X7 dX7_take_40 ?_
  refine pf_X7_72 X hb hF sh_X7 dX7_take_43 (fun H locs hF => ?_)
  refine lv_aload_n hx hb dX7_take_46 rfl (lv_at hl 0 rfl) ?_
  refine lv_aload_n hx hb dX7_take_47 rfl (lv_at hl 0 rfl) ?_
  refine gf_X7_66 X hb hF sh_X7 dX7_take_48 ?_
  refine lv_aload_n hx hb dX7_take_51 rfl (lv_at hl 0 rfl) ?_
  refine gf_X7_69 X hb hF sh_X7 dX7_take_52 ?_
  refine lv_icmp_ge (tgt := 70) hx hb dX7_take_55 (by decide) (fun cd2 => ?_) (fun cd2 => ?_)
  · replace hf := ifp cd2 hf
    refine lv_iconst (v := (-1 : Int32)) hx hb dX7_take_70 (by decide) ?_
    exact bX7_take_71 M (-1 : Int32) (mup σ 0 11 (σ 0 10)) _ _ _ hf hF (lv_sub hl [0] rfl)
  · replace hf := ifn cd2 hf
    refine lv_aload_n hx hb dX7_take_58 rfl (lv_at hl 0 rfl) ?_
    refine gf_X7_20 X hb hF sh_X7 dX7_take_59 ?_
    refine lv_aload_n hx hb dX7_take_62 rfl (lv_at hl 0 rfl) ?_
    refine gf_X7_66 X hb hF sh_X7 dX7_take_63 ?_
    obtain ⟨g15, hf⟩ := grd_some hf
    refine fl_iald X hb hF sh_r4 g15 dX7_take_66 ?_
    refine lv_goto (tgt := 71) hx hb dX7_take_67 (by decide) ?_
    exact bX7_take_71 M ((mup σ 0 11 (σ 0 10)) 4 ((mup σ 0 11 (σ 0 10)) 0 10).toNatClampNeg) (mup σ 0 11 (σ 0 10)) _ _ _ hf hF (lv_sub hl [0] rfl)
set_option maxHeartbeats 4000000 in
set_option maxRecDepth 100000 in
theorem bX7_take_0 {σ' : Mem} (M : MX p s m args meth c RX7 G wR cX7_take 2 none) : ∀ (fu : Nat) (σ : Mem) (H : Heap) (locs : List Loc) (ls : Array Slot), fX7_take_0 fu σ = some σ' → FH G wR s.heap H locs σ → lv_has ls 2 [(0, .ref (gA G 0))] → WG p l e ({ frames := 2, cells := 0, slots := 0, locals := 45 }) s m args below meth c G wR none σ' H locs 0 ls [] := by
  obtain ⟨X, hb, hml, hr, hlk⟩ := id M
  have hx := X.1
  intro fu
  induction fu with
  | zero =>
    intro σ H locs ls hf hF hl
    rw [fX7_take_0] at hf
    cases hf
  | succ fu ih =>
    intro σ H locs ls hf hF hl
    rw [fX7_take_0] at hf
    refine lv_aload_n hx hb dX7_take_0 rfl (lv_at hl 0 rfl) ?_
    refine gf_X7_66 X hb hF sh_X7 dX7_take_1 ?_
    refine lv_aload_n hx hb dX7_take_4 rfl (lv_at hl 0 rfl) ?_
    refine gf_X7_69 X hb hF sh_X7 dX7_take_5 ?_
    refine lv_icmp_ge (tgt := 38) hx hb dX7_take_8 (by decide) (fun cd1 => ?_) (fun cd1 => ?_)
    · replace hf := ifp cd1 hf
      exact bX7_take_38 M σ _ _ _ hf hF (lv_sub hl [0] rfl)
    · replace hf := ifn cd1 hf
      refine lv_aload_n hx hb dX7_take_11 rfl (lv_at hl 0 rfl) ?_
      refine gf_X7_20 X hb hF sh_X7 dX7_take_12 ?_
      refine lv_aload_n hx hb dX7_take_15 rfl (lv_at hl 0 rfl) ?_
      refine gf_X7_66 X hb hF sh_X7 dX7_take_16 ?_
      obtain ⟨g16, hf⟩ := grd_some hf
      refine fl_iald X hb hF sh_r4 g16 dX7_take_19 ?_
      refine lv_bipush (v := (32 : Int32)) hx hb dX7_take_20 (by decide) ?_
      refine lv_icmp_ne (tgt := 38) hx hb dX7_take_22 (by decide) (fun cd17 => ?_) (fun cd17 => ?_)
      · replace hf := ifn cd17 hf
        exact bX7_take_38 M σ _ _ _ hf hF (lv_sub hl [0] rfl)
      · replace hf := ifp cd17 hf
        refine lv_aload_n hx hb dX7_take_25 rfl (lv_at hl 0 rfl) ?_
        refine lv_dup hx hb dX7_take_26 rfl ?_
        refine gf_X7_66 X hb hF sh_X7 dX7_take_27 ?_
        refine lv_iconst (v := (1 : Int32)) hx hb dX7_take_30 (by decide) ?_
        refine lv_iadd hx hb dX7_take_31 ?_
        refine pf_X7_66 X hb hF sh_X7 dX7_take_32 (fun H locs hF => ?_)
        refine lv_goto (tgt := 0) hx hb dX7_take_35 (by decide) ?_
        exact ih (mup σ 0 10 ((σ 0 10) + (1 : Int32))) _ _ _ hf hF (lv_sub hl [0] rfl)
set_option maxHeartbeats 4000000 in
set_option maxRecDepth 100000 in
theorem cX7_take_ok {l : Launch} {G : Gl} (hI : FI G wR) {σ : Mem} {σ' : Mem} (hf : fX7_take σ = some σ') : Ct l G wR yX7_take cX7_take 2 none ({ frames := 2, cells := 0, slots := 0, locals := 45 }) [.ref (gA G 0)] σ none σ' := by
  refine fl_start hI (by decide) (Nat.le_of_ble_eq_true rfl) ?_
  intro p e s m below meth c M hF ls hl
  obtain ⟨X, hb, hml, hr, hlk⟩ := id M
  have hx := X.1
  have hl : lv_has ls 2 [(0, .ref (gA G 0))] := hl
  unfold fX7_take at hf
  exact bX7_take_0 M FU σ _ _ _ hf hF (lv_sub hl [0] rfl)
set_option maxHeartbeats 4000000 in
set_option maxRecDepth 100000 in
theorem cX7_isNumber_ok {l : Launch} {G : Gl} (hI : FI G wR) {x1 : Int32} {x2 : Int32} {σ : Mem} {r : Int32} (hf : fX7_isNumber x1 x2 σ = some r) : Ct l G wR yX7_isNumber cX7_isNumber 3 (some .boolean) ({ frames := 1, cells := 0, slots := 0, locals := 25 }) [.ref (gA G 0), .int x1, .int x2] σ (some (.int r)) σ := by
  refine fl_start hI (by decide) (Nat.le_of_ble_eq_true rfl) ?_
  intro p e s m below meth c M hF ls hl
  obtain ⟨X, hb, hml, hr, hlk⟩ := id M
  have hx := X.1
  have hl : lv_has ls 3 [(0, .ref (gA G 0)), (1, .int x1), (2, .int x2)] := hl
  unfold fX7_isNumber at hf
  refine lv_aload_n hx hb dX7_isNumber_0 rfl (lv_at hl 0 rfl) ?_
  refine gf_X7_75 X hb hF sh_X7 dX7_isNumber_1 ?_
  refine lv_i2l (v := (σ 0 12).toInt64) hx hb dX7_isNumber_4 rfl ?_
  refine lv_sipush (v := (1000 : Int32)) hx hb dX7_isNumber_5 (by decide) ?_
  refine lv_iload_n hx hb dX7_isNumber_8 rfl (lv_at hl 1 rfl) ?_
  refine lv_iadd hx hb dX7_isNumber_9 ?_
  refine lv_i2l (v := ((1000 : Int32) + x1).toInt64) hx hb dX7_isNumber_10 rfl ?_
  refine lv_sipush (v := (1000 : Int32)) hx hb dX7_isNumber_11 (by decide) ?_
  refine lv_iload_n hx hb dX7_isNumber_14 rfl (lv_at hl 2 rfl) ?_
  refine lv_iadd hx hb dX7_isNumber_15 ?_
  refine lv_i2l (v := ((1000 : Int32) + x2).toInt64) hx hb dX7_isNumber_16 rfl ?_
  obtain ⟨r2, hq1, hf⟩ := bi_some hf
  refine cm_X7_62 (As := [.long ((σ 0 12).toInt64), .long (((1000 : Int32) + x1).toInt64), .long (((1000 : Int32) + x2).toInt64)]) (rest := []) X hb hml hF (cX7_in_ok (l := l) (G := G) (σ := σ) X.2.2.2.2 hq1) ⟨Nat.le_of_ble_eq_true rfl, Nat.le_of_ble_eq_true rfl⟩ rfl rfl ⟨Nat.zero_le _, Nat.zero_le _⟩ rfl hl.1 rfl (Nat.le_of_ble_eq_true rfl) dX7_isNumber_17 (fun H locs hF => ?_)
  obtain ⟨g3, hf⟩ := grd_some hf
  obtain rfl := Option.some.inj hf
  exact fl_zret X hb hr hlk hF g3 dX7_isNumber_20
set_option maxHeartbeats 4000000 in
set_option maxRecDepth 100000 in
theorem cX7_isEvent_ok {l : Launch} {G : Gl} (hI : FI G wR) {σ : Mem} {r : Int32} (hf : fX7_isEvent σ = some r) : Ct l G wR yX7_isEvent cX7_isEvent 1 (some .boolean) ({ frames := 1, cells := 0, slots := 0, locals := 25 }) [.ref (gA G 0)] σ (some (.int r)) σ := by
  refine fl_start hI (by decide) (Nat.le_of_ble_eq_true rfl) ?_
  intro p e s m below meth c M hF ls hl
  obtain ⟨X, hb, hml, hr, hlk⟩ := id M
  have hx := X.1
  have hl : lv_has ls 1 [(0, .ref (gA G 0))] := hl
  unfold fX7_isEvent at hf
  refine lv_aload_n hx hb dX7_isEvent_0 rfl (lv_at hl 0 rfl) ?_
  refine gf_X7_75 X hb hF sh_X7 dX7_isEvent_1 ?_
  refine lv_i2l (v := (σ 0 12).toInt64) hx hb dX7_isEvent_4 rfl ?_
  refine lv_ldc2 (v := (97 : Int64)) hx hb X.2.1 (X.2.2.1 _ wn_X7_82) dX7_isEvent_5 ?_
  refine lv_ldc2 (v := (104 : Int64)) hx hb X.2.1 (X.2.2.1 _ wn_X7_84) dX7_isEvent_8 ?_
  obtain ⟨r2, hq1, hf⟩ := bi_some hf
  refine cm_X7_62 (As := [.long ((σ 0 12).toInt64), .long (97 : Int64), .long (104 : Int64)]) (rest := []) X hb hml hF (cX7_in_ok (l := l) (G := G) (σ := σ) X.2.2.2.2 hq1) ⟨Nat.le_of_ble_eq_true rfl, Nat.le_of_ble_eq_true rfl⟩ rfl rfl ⟨Nat.zero_le _, Nat.zero_le _⟩ rfl hl.1 rfl (Nat.le_of_ble_eq_true rfl) dX7_isEvent_11 (fun H locs hF => ?_)
  obtain ⟨g3, hf⟩ := grd_some hf
  obtain rfl := Option.some.inj hf
  exact fl_zret X hb hr hlk hF g3 dX7_isEvent_14
set_option maxHeartbeats 4000000 in
set_option maxRecDepth 100000 in
theorem bX7_readsEnd_14 {r : Int32} {σ' : Mem} (M : MX p s m args meth c RX7 G wR cX7_readsEnd 2 (some .boolean)) : ∀ (s0 : Int32) (σ : Mem) (H : Heap) (locs : List Loc) (ls : Array Slot), fX7_readsEnd_14 s0 σ = some (r, σ') → FH G wR s.heap H locs σ → lv_has ls 2 [(0, .ref (gA G 0))] → WG p l e ({ frames := 3, cells := 0, slots := 0, locals := 66 }) s m args below meth c G wR (some (.int r)) σ' H locs 14 ls [.int s0] := by
  obtain ⟨X, hb, hml, hr, hlk⟩ := id M
  have hx := X.1
  intro s0 σ H locs ls hf hF hl
  unfold fX7_readsEnd_14 at hf
  refine lv_istore_n (lv' := [(1, .int s0), (0, .ref (gA G 0))]) hx hb dX7_readsEnd_14 rfl hl (by decide) rfl (fun ls hl => ?_)
  refine lv_iload_n hx hb dX7_readsEnd_15 rfl (lv_at hl 0 rfl) ?_
  refine lv_if_eq (tgt := 23) hx hb dX7_readsEnd_16 (by decide) (fun cd2 => ?_) (fun cd2 => ?_)
  · replace hf := ifp cd2 hf
    refine lv_iload_n hx hb dX7_readsEnd_23 rfl (lv_at hl 0 rfl) ?_
    obtain ⟨g3, hf⟩ := grd_some hf
    obtain ⟨rfl, rfl⟩ := Prod.mk.inj (Option.some.inj hf)
    exact fl_zret X hb hr hlk hF g3 dX7_readsEnd_24
  · replace hf := ifn cd2 hf
    refine lv_aload_n hx hb dX7_readsEnd_19 rfl (lv_at hl 1 rfl) ?_
    obtain ⟨σ5, hq4, hf⟩ := bv_some hf
    refine cm_X7_86 (As := []) (rest := []) X hb hml hF (cX7_take_ok (l := l) (G := G) X.2.2.2.2 hq4) sh_X7 ⟨Nat.le_of_ble_eq_true rfl, Nat.le_of_ble_eq_true rfl⟩ rfl rfl ⟨Nat.zero_le _, Nat.zero_le _⟩ rfl hl.1 rfl (Nat.le_of_ble_eq_true rfl) dX7_readsEnd_20 (fun H locs hF => ?_)
    refine lv_iload_n hx hb dX7_readsEnd_23 rfl (lv_at hl 0 rfl) ?_
    obtain ⟨g6, hf⟩ := grd_some hf
    obtain ⟨rfl, rfl⟩ := Prod.mk.inj (Option.some.inj hf)
    exact fl_zret X hb hr hlk hF g6 dX7_readsEnd_24
set_option maxHeartbeats 4000000 in
set_option maxRecDepth 100000 in
theorem cX7_readsEnd_ok {l : Launch} {G : Gl} (hI : FI G wR) {σ : Mem} {r : Int32} {σ' : Mem} (hf : fX7_readsEnd σ = some (r, σ')) : Ct l G wR yX7_readsEnd cX7_readsEnd 2 (some .boolean) ({ frames := 3, cells := 0, slots := 0, locals := 66 }) [.ref (gA G 0)] σ (some (.int r)) σ' := by
  refine fl_start hI (by decide) (Nat.le_of_ble_eq_true rfl) ?_
  intro p e s m below meth c M hF ls hl
  obtain ⟨X, hb, hml, hr, hlk⟩ := id M
  have hx := X.1
  have hl : lv_has ls 2 [(0, .ref (gA G 0))] := hl
  unfold fX7_readsEnd at hf
  refine lv_aload_n hx hb dX7_readsEnd_0 rfl (lv_at hl 0 rfl) ?_
  refine gf_X7_75 X hb hF sh_X7 dX7_readsEnd_1 ?_
  refine lv_bipush (v := (59 : Int32)) hx hb dX7_readsEnd_4 (by decide) ?_
  refine lv_icmp_ne (tgt := 13) hx hb dX7_readsEnd_6 (by decide) (fun cd1 => ?_) (fun cd1 => ?_)
  · replace hf := ifn cd1 hf
    refine lv_iconst (v := (0 : Int32)) hx hb dX7_readsEnd_13 (by decide) ?_
    exact bX7_readsEnd_14 M (0 : Int32) σ _ _ _ hf hF (lv_sub hl [0] rfl)
  · replace hf := ifp cd1 hf
    refine lv_iconst (v := (1 : Int32)) hx hb dX7_readsEnd_9 (by decide) ?_
    refine lv_goto (tgt := 14) hx hb dX7_readsEnd_10 (by decide) ?_
    exact bX7_readsEnd_14 M (1 : Int32) σ _ _ _ hf hF (lv_sub hl [0] rfl)
set_option maxHeartbeats 4000000 in
set_option maxRecDepth 100000 in
theorem cX7_readsSlack_ok {l : Launch} {G : Gl} (hI : FI G wR) {σ : Mem} {r : Int32} {σ' : Mem} (hf : fX7_readsSlack σ = some (r, σ')) : Ct l G wR yX7_readsSlack cX7_readsSlack 1 (some .boolean) ({ frames := 4, cells := 0, slots := 0, locals := 87 }) [.ref (gA G 0)] σ (some (.int r)) σ' := by
  refine fl_start hI (by decide) (Nat.le_of_ble_eq_true rfl) ?_
  intro p e s m below meth c M hF ls hl
  obtain ⟨X, hb, hml, hr, hlk⟩ := id M
  have hx := X.1
  have hl : lv_has ls 1 [(0, .ref (gA G 0))] := hl
  unfold fX7_readsSlack at hf
  refine lv_aload_n hx hb dX7_readsSlack_0 rfl (lv_at hl 0 rfl) ?_
  refine gf_X7_89 X hb hF sh_X7 dX7_readsSlack_1 ?_
  refine lv_bipush (v := (-9 : Int32)) hx hb dX7_readsSlack_4 (by decide) ?_
  refine lv_icmp_eq (tgt := 11) hx hb dX7_readsSlack_6 (by decide) (fun cd1 => ?_) (fun cd1 => ?_)
  · replace hf := ifp cd1 hf
    refine lv_aload_n hx hb dX7_readsSlack_11 rfl (lv_at hl 0 rfl) ?_
    obtain ⟨σ3, hq2, hf⟩ := bv_some hf
    refine cm_X7_86 (As := []) (rest := []) X hb hml hF (cX7_take_ok (l := l) (G := G) X.2.2.2.2 hq2) sh_X7 ⟨Nat.le_of_ble_eq_true rfl, Nat.le_of_ble_eq_true rfl⟩ rfl rfl ⟨Nat.zero_le _, Nat.zero_le _⟩ rfl hl.1 rfl (Nat.le_of_ble_eq_true rfl) dX7_readsSlack_12 (fun H locs hF => ?_)
    refine lv_aload_n hx hb dX7_readsSlack_15 rfl (lv_at hl 0 rfl) ?_
    refine lv_iconst (v := (0 : Int32)) hx hb dX7_readsSlack_16 (by decide) ?_
    refine lv_bipush (v := (9 : Int32)) hx hb dX7_readsSlack_17 (by decide) ?_
    obtain ⟨r5, hq4, hf⟩ := bi_some hf
    refine cm_X7_92 (As := [.int (0 : Int32), .int (9 : Int32)]) (rest := []) X hb hml hF (cX7_isNumber_ok (l := l) (G := G) X.2.2.2.2 hq4) sh_X7 ⟨Nat.le_of_ble_eq_true rfl, Nat.le_of_ble_eq_true rfl⟩ rfl rfl ⟨Nat.zero_le _, Nat.zero_le _⟩ rfl hl.1 rfl (Nat.le_of_ble_eq_true rfl) dX7_readsSlack_19 (fun H locs hF => ?_)
    refine lv_if_ne (tgt := 27) hx hb dX7_readsSlack_22 (by decide) (fun cd6 => ?_) (fun cd6 => ?_)
    · replace hf := ifn cd6 hf
      refine lv_aload_n hx hb dX7_readsSlack_27 rfl (lv_at hl 0 rfl) ?_
      refine lv_aload_n hx hb dX7_readsSlack_28 rfl (lv_at hl 0 rfl) ?_
      refine gf_X7_75 X hb hF sh_X7 dX7_readsSlack_29 ?_
      refine lv_sipush (v := (1000 : Int32)) hx hb dX7_readsSlack_32 (by decide) ?_
      refine lv_isub hx hb dX7_readsSlack_35 ?_
      refine pf_X7_89 X hb hF sh_X7 dX7_readsSlack_36 (fun H locs hF => ?_)
      refine lv_aload_n hx hb dX7_readsSlack_39 rfl (lv_at hl 0 rfl) ?_
      obtain ⟨σ8, hq7, hf⟩ := bv_some hf
      refine cm_X7_86 (As := []) (rest := []) X hb hml hF (cX7_take_ok (l := l) (G := G) X.2.2.2.2 hq7) sh_X7 ⟨Nat.le_of_ble_eq_true rfl, Nat.le_of_ble_eq_true rfl⟩ rfl rfl ⟨Nat.zero_le _, Nat.zero_le _⟩ rfl hl.1 rfl (Nat.le_of_ble_eq_true rfl) dX7_readsSlack_40 (fun H locs hF => ?_)
      refine lv_aload_n hx hb dX7_readsSlack_43 rfl (lv_at hl 0 rfl) ?_
      obtain ⟨r10, σ11, hq9, hf⟩ := bm_some hf
      refine cm_X7_96 (As := []) (rest := []) X hb hml hF (cX7_readsEnd_ok (l := l) (G := G) X.2.2.2.2 hq9) sh_X7 ⟨Nat.le_of_ble_eq_true rfl, Nat.le_of_ble_eq_true rfl⟩ rfl rfl ⟨Nat.zero_le _, Nat.zero_le _⟩ rfl hl.1 rfl (Nat.le_of_ble_eq_true rfl) dX7_readsSlack_44 (fun H locs hF => ?_)
      obtain ⟨g12, hf⟩ := grd_some hf
      obtain ⟨rfl, rfl⟩ := Prod.mk.inj (Option.some.inj hf)
      exact fl_zret X hb hr hlk hF g12 dX7_readsSlack_47
    · replace hf := ifp cd6 hf
      refine lv_iconst (v := (0 : Int32)) hx hb dX7_readsSlack_25 (by decide) ?_
      obtain ⟨rfl, rfl⟩ := Prod.mk.inj (Option.some.inj hf)
      exact fl_zret X hb hr hlk hF (Or.inl rfl) dX7_readsSlack_26
  · replace hf := ifn cd1 hf
    refine lv_iconst (v := (0 : Int32)) hx hb dX7_readsSlack_9 (by decide) ?_
    obtain ⟨rfl, rfl⟩ := Prod.mk.inj (Option.some.inj hf)
    exact fl_zret X hb hr hlk hF (Or.inl rfl) dX7_readsSlack_10
set_option maxHeartbeats 4000000 in
set_option maxRecDepth 100000 in
theorem bX7_readsHouse_131 {r : Int32} {σ' : Mem} {k24 : Int32 → Int32 → Mem → Option (Int32 × Mem)} (M : MX p s m args meth c RX7 G wR cX7_readsHouse 5 (some .boolean)) (hk24 : ∀ (x1 : Int32) (x2 : Int32) (σ : Mem) (H : Heap) (locs : List Loc) (ls : Array Slot), k24 x1 x2 σ = some (r, σ') → FH G wR s.heap H locs σ → lv_has ls 5 [(0, .ref (gA G 0)), (1, .int x1), (2, .int x2)] → WG p l e ({ frames := 4, cells := 0, slots := 0, locals := 87 }) s m args below meth c G wR (some (.int r)) σ' H locs 24 ls []) : ∀ (x1 : Int32) (x2 : Int32) (s0 : Int32) (σ : Mem) (H : Heap) (locs : List Loc) (ls : Array Slot), fX7_readsHouse_131 k24 x1 x2 s0 σ = some (r, σ') → FH G wR s.heap H locs σ → lv_has ls 5 [(0, .ref (gA G 0)), (1, .int x1), (2, .int x2)] → WG p l e ({ frames := 4, cells := 0, slots := 0, locals := 87 }) s m args below meth c G wR (some (.int r)) σ' H locs 131 ls [.int s0, .ref (gA G 0)] := by
  obtain ⟨X, hb, hml, hr, hlk⟩ := id M
  have hx := X.1
  intro x1 x2 s0 σ H locs ls hf hF hl
  unfold fX7_readsHouse_131 at hf
  refine lv_bipush (v := (99 : Int32)) hx hb dX7_readsHouse_131 (by decide) ?_
  obtain ⟨r21, hq20, hf⟩ := bi_some hf
  refine cm_X7_92 (As := [.int s0, .int (99 : Int32)]) (rest := []) X hb hml hF (cX7_isNumber_ok (l := l) (G := G) X.2.2.2.2 hq20) sh_X7 ⟨Nat.le_of_ble_eq_true rfl, Nat.le_of_ble_eq_true rfl⟩ rfl rfl ⟨Nat.zero_le _, Nat.zero_le _⟩ rfl hl.1 rfl (Nat.le_of_ble_eq_true rfl) dX7_readsHouse_133 (fun H locs hF => ?_)
  refine lv_if_ne (tgt := 141) hx hb dX7_readsHouse_136 (by decide) (fun cd22 => ?_) (fun cd22 => ?_)
  · replace hf := ifn cd22 hf
    refine lv_aload_n hx hb dX7_readsHouse_141 rfl (lv_at hl 0 rfl) ?_
    refine gf_X7_35 X hb hF sh_X7 dX7_readsHouse_142 ?_
    refine lv_iload_n hx hb dX7_readsHouse_145 rfl (lv_at hl 1 rfl) ?_
    refine lv_iload_n hx hb dX7_readsHouse_146 rfl (lv_at hl 2 rfl) ?_
    refine lv_iadd hx hb dX7_readsHouse_147 ?_
    refine lv_aload_n hx hb dX7_readsHouse_148 rfl (lv_at hl 0 rfl) ?_
    refine gf_X7_75 X hb hF sh_X7 dX7_readsHouse_149 ?_
    refine lv_sipush (v := (1000 : Int32)) hx hb dX7_readsHouse_152 (by decide) ?_
    refine lv_isub hx hb dX7_readsHouse_155 ?_
    obtain ⟨g23, hf⟩ := grd_some hf
    refine fl_iast X hb hF sh_r9 g23 dX7_readsHouse_156 (fun H locs hF => ?_)
    refine lv_iinc (v := x2 + (1 : Int32)) (lv' := [(2, .int (x2 + (1 : Int32))), (0, .ref (gA G 0)), (1, .int x1)]) hx hb dX7_readsHouse_157 hl (k := 2) rfl rfl (by decide) rfl (fun ls hl => ?_)
    refine lv_aload_n hx hb dX7_readsHouse_160 rfl (lv_at hl 1 rfl) ?_
    obtain ⟨σ25, hq24, hf⟩ := bv_some hf
    refine cm_X7_86 (As := []) (rest := []) X hb hml hF (cX7_take_ok (l := l) (G := G) X.2.2.2.2 hq24) sh_X7 ⟨Nat.le_of_ble_eq_true rfl, Nat.le_of_ble_eq_true rfl⟩ rfl rfl ⟨Nat.zero_le _, Nat.zero_le _⟩ rfl hl.1 rfl (Nat.le_of_ble_eq_true rfl) dX7_readsHouse_161 (fun H locs hF => ?_)
    refine lv_goto (tgt := 24) hx hb dX7_readsHouse_164 (by decide) ?_
    exact hk24 x1 (x2 + (1 : Int32)) σ25 _ _ _ hf hF (lv_sub hl [1, 2, 0] rfl)
  · replace hf := ifp cd22 hf
    refine lv_iconst (v := (0 : Int32)) hx hb dX7_readsHouse_139 (by decide) ?_
    obtain ⟨rfl, rfl⟩ := Prod.mk.inj (Option.some.inj hf)
    exact fl_zret X hb hr hlk hF (Or.inl rfl) dX7_readsHouse_140
set_option maxHeartbeats 4000000 in
set_option maxRecDepth 100000 in
theorem bX7_readsHouse_46 {r : Int32} {σ' : Mem} {k24 : Int32 → Int32 → Mem → Option (Int32 × Mem)} (M : MX p s m args meth c RX7 G wR cX7_readsHouse 5 (some .boolean)) (hk24 : ∀ (x1 : Int32) (x2 : Int32) (σ : Mem) (H : Heap) (locs : List Loc) (ls : Array Slot), k24 x1 x2 σ = some (r, σ') → FH G wR s.heap H locs σ → lv_has ls 5 [(0, .ref (gA G 0)), (1, .int x1), (2, .int x2)] → WG p l e ({ frames := 4, cells := 0, slots := 0, locals := 87 }) s m args below meth c G wR (some (.int r)) σ' H locs 24 ls []) : ∀ (fu : Nat) (x1 : Int32) (x2 : Int32) (x3 : Int32) (x4 : Int32) (σ : Mem) (H : Heap) (locs : List Loc) (ls : Array Slot), fX7_readsHouse_46 k24 fu x1 x2 x3 x4 σ = some (r, σ') → FH G wR s.heap H locs σ → lv_has ls 5 [(0, .ref (gA G 0)), (1, .int x1), (2, .int x2), (3, .int x3), (4, .int x4)] → WG p l e ({ frames := 4, cells := 0, slots := 0, locals := 87 }) s m args below meth c G wR (some (.int r)) σ' H locs 46 ls [] := by
  obtain ⟨X, hb, hml, hr, hlk⟩ := id M
  have hx := X.1
  intro fu
  induction fu with
  | zero =>
    intro x1 x2 x3 x4 σ H locs ls hf hF hl
    rw [fX7_readsHouse_46] at hf
    cases hf
  | succ fu ih =>
    intro x1 x2 x3 x4 σ H locs ls hf hF hl
    rw [fX7_readsHouse_46] at hf
    refine lv_iload hx hb dX7_readsHouse_46 (lv_at hl 4 rfl) ?_
    refine lv_iload_n hx hb dX7_readsHouse_48 rfl (lv_at hl 2 rfl) ?_
    refine lv_icmp_ge (tgt := 87) hx hb dX7_readsHouse_49 (by decide) (fun cd13 => ?_) (fun cd13 => ?_)
    · replace hf := ifp cd13 hf
      refine lv_iload_n hx hb dX7_readsHouse_87 rfl (lv_at hl 3 rfl) ?_
      refine lv_if_ne (tgt := 93) hx hb dX7_readsHouse_88 (by decide) (fun cd14 => ?_) (fun cd14 => ?_)
      · replace hf := ifn cd14 hf
        refine lv_aload_n hx hb dX7_readsHouse_93 rfl (lv_at hl 0 rfl) ?_
        refine gf_X7_32 X hb hF sh_X7 dX7_readsHouse_94 ?_
        refine lv_iload_n hx hb dX7_readsHouse_97 rfl (lv_at hl 1 rfl) ?_
        refine lv_iload_n hx hb dX7_readsHouse_98 rfl (lv_at hl 2 rfl) ?_
        refine lv_iadd hx hb dX7_readsHouse_99 ?_
        refine lv_aload_n hx hb dX7_readsHouse_100 rfl (lv_at hl 0 rfl) ?_
        refine gf_X7_75 X hb hF sh_X7 dX7_readsHouse_101 ?_
        refine lv_bipush (v := (97 : Int32)) hx hb dX7_readsHouse_104 (by decide) ?_
        refine lv_isub hx hb dX7_readsHouse_106 ?_
        obtain ⟨g15, hf⟩ := grd_some hf
        refine fl_iast X hb hF sh_r8 g15 dX7_readsHouse_107 (fun H locs hF => ?_)
        refine lv_aload_n hx hb dX7_readsHouse_108 rfl (lv_at hl 0 rfl) ?_
        obtain ⟨σ17, hq16, hf⟩ := bv_some hf
        refine cm_X7_86 (As := []) (rest := []) X hb hml hF (cX7_take_ok (l := l) (G := G) X.2.2.2.2 hq16) sh_X7 ⟨Nat.le_of_ble_eq_true rfl, Nat.le_of_ble_eq_true rfl⟩ rfl rfl ⟨Nat.zero_le _, Nat.zero_le _⟩ rfl hl.1 rfl (Nat.le_of_ble_eq_true rfl) dX7_readsHouse_109 (fun H locs hF => ?_)
        refine lv_aload_n hx hb dX7_readsHouse_112 rfl (lv_at hl 0 rfl) ?_
        refine lv_iload_n hx hb dX7_readsHouse_113 rfl (lv_at hl 2 rfl) ?_
        refine lv_if_ne (tgt := 121) hx hb dX7_readsHouse_114 (by decide) (fun cd18 => ?_) (fun cd18 => ?_)
        · replace hf := ifn cd18 hf
          refine lv_aload_n hx hb dX7_readsHouse_121 rfl (lv_at hl 0 rfl) ?_
          refine gf_X7_35 X hb hF sh_X7 dX7_readsHouse_122 ?_
          refine lv_iload_n hx hb dX7_readsHouse_125 rfl (lv_at hl 1 rfl) ?_
          refine lv_iload_n hx hb dX7_readsHouse_126 rfl (lv_at hl 2 rfl) ?_
          refine lv_iadd hx hb dX7_readsHouse_127 ?_
          refine lv_iconst (v := (1 : Int32)) hx hb dX7_readsHouse_128 (by decide) ?_
          refine lv_isub hx hb dX7_readsHouse_129 ?_
          obtain ⟨g19, hf⟩ := grd_some hf
          refine fl_iald X hb hF sh_r9 g19 dX7_readsHouse_130 ?_
          exact bX7_readsHouse_131 M hk24 x1 x2 (σ17 9 ((x1 + x2) - (1 : Int32)).toNatClampNeg) σ17 _ _ _ hf hF (lv_sub hl [0, 1, 2] rfl)
        · replace hf := ifp cd18 hf
          refine lv_iconst (v := (0 : Int32)) hx hb dX7_readsHouse_117 (by decide) ?_
          refine lv_goto (tgt := 131) hx hb dX7_readsHouse_118 (by decide) ?_
          exact bX7_readsHouse_131 M hk24 x1 x2 (0 : Int32) σ17 _ _ _ hf hF (lv_sub hl [0, 1, 2] rfl)
      · replace hf := ifp cd14 hf
        refine lv_iconst (v := (0 : Int32)) hx hb dX7_readsHouse_91 (by decide) ?_
        obtain ⟨rfl, rfl⟩ := Prod.mk.inj (Option.some.inj hf)
        exact fl_zret X hb hr hlk hF (Or.inl rfl) dX7_readsHouse_92
    · replace hf := ifn cd13 hf
      refine lv_iload_n hx hb dX7_readsHouse_52 rfl (lv_at hl 3 rfl) ?_
      refine lv_if_eq (tgt := 79) hx hb dX7_readsHouse_53 (by decide) (fun cd26 => ?_) (fun cd26 => ?_)
      · replace hf := ifp cd26 hf
        refine lv_iconst (v := (0 : Int32)) hx hb dX7_readsHouse_79 (by decide) ?_
        refine lv_istore_n (lv' := [(3, .int (0 : Int32)), (0, .ref (gA G 0)), (1, .int x1), (2, .int x2), (4, .int x4)]) hx hb dX7_readsHouse_80 rfl hl (by decide) rfl (fun ls hl => ?_)
        refine lv_iinc (v := x4 + (1 : Int32)) (lv' := [(4, .int (x4 + (1 : Int32))), (3, .int (0 : Int32)), (0, .ref (gA G 0)), (1, .int x1), (2, .int x2)]) hx hb dX7_readsHouse_81 hl (k := 4) rfl rfl (by decide) rfl (fun ls hl => ?_)
        refine lv_goto (tgt := 46) hx hb dX7_readsHouse_84 (by decide) ?_
        exact ih x1 x2 (0 : Int32) (x4 + (1 : Int32)) σ _ _ _ hf hF (lv_sub hl [2, 3, 4, 1, 0] rfl)
      · replace hf := ifn cd26 hf
        refine lv_aload_n hx hb dX7_readsHouse_56 rfl (lv_at hl 0 rfl) ?_
        refine gf_X7_32 X hb hF sh_X7 dX7_readsHouse_57 ?_
        refine lv_iload_n hx hb dX7_readsHouse_60 rfl (lv_at hl 1 rfl) ?_
        refine lv_iload hx hb dX7_readsHouse_61 (lv_at hl 4 rfl) ?_
        refine lv_iadd hx hb dX7_readsHouse_63 ?_
        obtain ⟨g27, hf⟩ := grd_some hf
        refine fl_iald X hb hF sh_r8 g27 dX7_readsHouse_64 ?_
        refine lv_aload_n hx hb dX7_readsHouse_65 rfl (lv_at hl 0 rfl) ?_
        refine gf_X7_75 X hb hF sh_X7 dX7_readsHouse_66 ?_
        refine lv_bipush (v := (97 : Int32)) hx hb dX7_readsHouse_69 (by decide) ?_
        refine lv_isub hx hb dX7_readsHouse_71 ?_
        refine lv_icmp_eq (tgt := 79) hx hb dX7_readsHouse_72 (by decide) (fun cd28 => ?_) (fun cd28 => ?_)
        · replace hf := ifp cd28 hf
          refine lv_iconst (v := (0 : Int32)) hx hb dX7_readsHouse_79 (by decide) ?_
          refine lv_istore_n (lv' := [(3, .int (0 : Int32)), (0, .ref (gA G 0)), (1, .int x1), (2, .int x2), (4, .int x4)]) hx hb dX7_readsHouse_80 rfl hl (by decide) rfl (fun ls hl => ?_)
          refine lv_iinc (v := x4 + (1 : Int32)) (lv' := [(4, .int (x4 + (1 : Int32))), (3, .int (0 : Int32)), (0, .ref (gA G 0)), (1, .int x1), (2, .int x2)]) hx hb dX7_readsHouse_81 hl (k := 4) rfl rfl (by decide) rfl (fun ls hl => ?_)
          refine lv_goto (tgt := 46) hx hb dX7_readsHouse_84 (by decide) ?_
          exact ih x1 x2 (0 : Int32) (x4 + (1 : Int32)) σ _ _ _ hf hF (lv_sub hl [2, 3, 4, 1, 0] rfl)
        · replace hf := ifn cd28 hf
          refine lv_iconst (v := (1 : Int32)) hx hb dX7_readsHouse_75 (by decide) ?_
          refine lv_goto (tgt := 80) hx hb dX7_readsHouse_76 (by decide) ?_
          refine lv_istore_n (lv' := [(3, .int (1 : Int32)), (0, .ref (gA G 0)), (1, .int x1), (2, .int x2), (4, .int x4)]) hx hb dX7_readsHouse_80 rfl hl (by decide) rfl (fun ls hl => ?_)
          refine lv_iinc (v := x4 + (1 : Int32)) (lv' := [(4, .int (x4 + (1 : Int32))), (3, .int (1 : Int32)), (0, .ref (gA G 0)), (1, .int x1), (2, .int x2)]) hx hb dX7_readsHouse_81 hl (k := 4) rfl rfl (by decide) rfl (fun ls hl => ?_)
          refine lv_goto (tgt := 46) hx hb dX7_readsHouse_84 (by decide) ?_
          exact ih x1 x2 (1 : Int32) (x4 + (1 : Int32)) σ _ _ _ hf hF (lv_sub hl [2, 3, 4, 1, 0] rfl)
set_option maxHeartbeats 4000000 in
set_option maxRecDepth 100000 in
theorem bX7_readsHouse_24 {r : Int32} {σ' : Mem} (M : MX p s m args meth c RX7 G wR cX7_readsHouse 5 (some .boolean)) : ∀ (fu : Nat) (x1 : Int32) (x2 : Int32) (σ : Mem) (H : Heap) (locs : List Loc) (ls : Array Slot), fX7_readsHouse_24 fu x1 x2 σ = some (r, σ') → FH G wR s.heap H locs σ → lv_has ls 5 [(0, .ref (gA G 0)), (1, .int x1), (2, .int x2)] → WG p l e ({ frames := 4, cells := 0, slots := 0, locals := 87 }) s m args below meth c G wR (some (.int r)) σ' H locs 24 ls [] := by
  obtain ⟨X, hb, hml, hr, hlk⟩ := id M
  have hx := X.1
  intro fu
  induction fu with
  | zero =>
    intro x1 x2 σ H locs ls hf hF hl
    rw [fX7_readsHouse_24] at hf
    cases hf
  | succ fu ih =>
    intro x1 x2 σ H locs ls hf hF hl
    rw [fX7_readsHouse_24] at hf
    refine lv_aload_n hx hb dX7_readsHouse_24 rfl (lv_at hl 0 rfl) ?_
    obtain ⟨r5, hq4, hf⟩ := bi_some hf
    refine cm_X7_103 (As := []) (rest := []) X hb hml hF (cX7_isEvent_ok (l := l) (G := G) X.2.2.2.2 hq4) sh_X7 ⟨Nat.le_of_ble_eq_true rfl, Nat.le_of_ble_eq_true rfl⟩ rfl rfl ⟨Nat.zero_le _, Nat.zero_le _⟩ rfl hl.1 rfl (Nat.le_of_ble_eq_true rfl) dX7_readsHouse_25 (fun H locs hF => ?_)
    refine lv_if_eq (tgt := 167) hx hb dX7_readsHouse_28 (by decide) (fun cd6 => ?_) (fun cd6 => ?_)
    · replace hf := ifp cd6 hf
      refine lv_aload_n hx hb dX7_readsHouse_167 rfl (lv_at hl 0 rfl) ?_
      refine gf_X7_29 X hb hF sh_X7 dX7_readsHouse_168 ?_
      refine lv_aload_n hx hb dX7_readsHouse_171 rfl (lv_at hl 0 rfl) ?_
      refine gf_X7_100 X hb hF sh_X7 dX7_readsHouse_172 ?_
      refine lv_iload_n hx hb dX7_readsHouse_175 rfl (lv_at hl 2 rfl) ?_
      obtain ⟨g7, hf⟩ := grd_some hf
      refine fl_iast X hb hF sh_r7 g7 dX7_readsHouse_176 (fun H locs hF => ?_)
      refine lv_aload_n hx hb dX7_readsHouse_177 rfl (lv_at hl 0 rfl) ?_
      refine lv_dup hx hb dX7_readsHouse_178 rfl ?_
      refine gf_X7_100 X hb hF sh_X7 dX7_readsHouse_179 ?_
      refine lv_iconst (v := (1 : Int32)) hx hb dX7_readsHouse_182 (by decide) ?_
      refine lv_iadd hx hb dX7_readsHouse_183 ?_
      refine pf_X7_100 X hb hF sh_X7 dX7_readsHouse_184 (fun H locs hF => ?_)
      refine lv_aload_n hx hb dX7_readsHouse_187 rfl (lv_at hl 0 rfl) ?_
      obtain ⟨r9, σ10, hq8, hf⟩ := bm_some hf
      refine cm_X7_96 (As := []) (rest := []) X hb hml hF (cX7_readsEnd_ok (l := l) (G := G) X.2.2.2.2 hq8) sh_X7 ⟨Nat.le_of_ble_eq_true rfl, Nat.le_of_ble_eq_true rfl⟩ rfl rfl ⟨Nat.zero_le _, Nat.zero_le _⟩ rfl hl.1 rfl (Nat.le_of_ble_eq_true rfl) dX7_readsHouse_188 (fun H locs hF => ?_)
      obtain ⟨g11, hf⟩ := grd_some hf
      obtain ⟨rfl, rfl⟩ := Prod.mk.inj (Option.some.inj hf)
      exact fl_zret X hb hr hlk hF g11 dX7_readsHouse_191
    · replace hf := ifn cd6 hf
      refine lv_iload_n hx hb dX7_readsHouse_31 rfl (lv_at hl 2 rfl) ?_
      refine lv_bipush (v := (6 : Int32)) hx hb dX7_readsHouse_32 (by decide) ?_
      refine lv_icmp_ge (tgt := 41) hx hb dX7_readsHouse_34 (by decide) (fun cd12 => ?_) (fun cd12 => ?_)
      · replace hf := ifp cd12 hf
        refine lv_iconst (v := (0 : Int32)) hx hb dX7_readsHouse_41 (by decide) ?_
        refine lv_istore_n (lv' := [(3, .int (0 : Int32)), (0, .ref (gA G 0)), (1, .int x1), (2, .int x2)]) hx hb dX7_readsHouse_42 rfl hl (by decide) rfl (fun ls hl => ?_)
        refine lv_iconst (v := (0 : Int32)) hx hb dX7_readsHouse_43 (by decide) ?_
        refine lv_istore (lv' := [(4, .int (0 : Int32)), (3, .int (0 : Int32)), (0, .ref (gA G 0)), (1, .int x1), (2, .int x2)]) hx hb dX7_readsHouse_44 hl (by decide) rfl (fun ls hl => ?_)
        exact bX7_readsHouse_46 M ih FU x1 x2 (0 : Int32) (0 : Int32) σ _ _ _ hf hF (lv_sub hl [2, 3, 4, 1, 0] rfl)
      · replace hf := ifn cd12 hf
        refine lv_iconst (v := (1 : Int32)) hx hb dX7_readsHouse_37 (by decide) ?_
        refine lv_goto (tgt := 42) hx hb dX7_readsHouse_38 (by decide) ?_
        refine lv_istore_n (lv' := [(3, .int (1 : Int32)), (0, .ref (gA G 0)), (1, .int x1), (2, .int x2)]) hx hb dX7_readsHouse_42 rfl hl (by decide) rfl (fun ls hl => ?_)
        refine lv_iconst (v := (0 : Int32)) hx hb dX7_readsHouse_43 (by decide) ?_
        refine lv_istore (lv' := [(4, .int (0 : Int32)), (3, .int (1 : Int32)), (0, .ref (gA G 0)), (1, .int x1), (2, .int x2)]) hx hb dX7_readsHouse_44 hl (by decide) rfl (fun ls hl => ?_)
        exact bX7_readsHouse_46 M ih FU x1 x2 (1 : Int32) (0 : Int32) σ _ _ _ hf hF (lv_sub hl [2, 3, 4, 1, 0] rfl)
set_option maxHeartbeats 4000000 in
set_option maxRecDepth 100000 in
theorem cX7_readsHouse_ok {l : Launch} {G : Gl} (hI : FI G wR) {σ : Mem} {r : Int32} {σ' : Mem} (hf : fX7_readsHouse σ = some (r, σ')) : Ct l G wR yX7_readsHouse cX7_readsHouse 5 (some .boolean) ({ frames := 4, cells := 0, slots := 0, locals := 87 }) [.ref (gA G 0)] σ (some (.int r)) σ' := by
  refine fl_start hI (by decide) (Nat.le_of_ble_eq_true rfl) ?_
  intro p e s m below meth c M hF ls hl
  obtain ⟨X, hb, hml, hr, hlk⟩ := id M
  have hx := X.1
  have hl : lv_has ls 5 [(0, .ref (gA G 0))] := hl
  unfold fX7_readsHouse at hf
  refine lv_aload_n hx hb dX7_readsHouse_0 rfl (lv_at hl 0 rfl) ?_
  refine gf_X7_100 X hb hF sh_X7 dX7_readsHouse_1 ?_
  refine lv_iconst (v := (4 : Int32)) hx hb dX7_readsHouse_4 (by decide) ?_
  refine lv_icmp_ne (tgt := 10) hx hb dX7_readsHouse_5 (by decide) (fun cd1 => ?_) (fun cd1 => ?_)
  · replace hf := ifn cd1 hf
    refine lv_aload_n hx hb dX7_readsHouse_10 rfl (lv_at hl 0 rfl) ?_
    obtain ⟨σ3, hq2, hf⟩ := bv_some hf
    refine cm_X7_86 (As := []) (rest := []) X hb hml hF (cX7_take_ok (l := l) (G := G) X.2.2.2.2 hq2) sh_X7 ⟨Nat.le_of_ble_eq_true rfl, Nat.le_of_ble_eq_true rfl⟩ rfl rfl ⟨Nat.zero_le _, Nat.zero_le _⟩ rfl hl.1 rfl (Nat.le_of_ble_eq_true rfl) dX7_readsHouse_11 (fun H locs hF => ?_)
    refine lv_bipush (v := (6 : Int32)) hx hb dX7_readsHouse_14 (by decide) ?_
    refine lv_aload_n hx hb dX7_readsHouse_16 rfl (lv_at hl 0 rfl) ?_
    refine gf_X7_100 X hb hF sh_X7 dX7_readsHouse_17 ?_
    refine lv_imul hx hb dX7_readsHouse_20 ?_
    refine lv_istore_n (lv' := [(1, .int ((6 : Int32) * (σ3 0 15))), (0, .ref (gA G 0))]) hx hb dX7_readsHouse_21 rfl hl (by decide) rfl (fun ls hl => ?_)
    refine lv_iconst (v := (0 : Int32)) hx hb dX7_readsHouse_22 (by decide) ?_
    refine lv_istore_n (lv' := [(2, .int (0 : Int32)), (1, .int ((6 : Int32) * (σ3 0 15))), (0, .ref (gA G 0))]) hx hb dX7_readsHouse_23 rfl hl (by decide) rfl (fun ls hl => ?_)
    exact bX7_readsHouse_24 M FU ((6 : Int32) * (σ3 0 15)) (0 : Int32) σ3 _ _ _ hf hF (lv_sub hl [2, 1, 0] rfl)
  · replace hf := ifp cd1 hf
    refine lv_iconst (v := (0 : Int32)) hx hb dX7_readsHouse_8 (by decide) ?_
    obtain ⟨rfl, rfl⟩ := Prod.mk.inj (Option.some.inj hf)
    exact fl_zret X hb hr hlk hF (Or.inl rfl) dX7_readsHouse_9
set_option maxHeartbeats 4000000 in
set_option maxRecDepth 100000 in
theorem bX7_reads_70 {r : Int32} {σ' : Mem} {k25 : Mem → Option (Int32 × Mem)} (M : MX p s m args meth c RX7 G wR cX7_reads 2 (some .boolean)) (hk25 : ∀ (σ : Mem) (H : Heap) (locs : List Loc) (ls : Array Slot), k25 σ = some (r, σ') → FH G wR s.heap H locs σ → lv_has ls 2 [(0, .ref (gA G 0))] → WG p l e ({ frames := 5, cells := 0, slots := 0, locals := 111 }) s m args below meth c G wR (some (.int r)) σ' H locs 25 ls []) : ∀ (s0 : Int32) (σ : Mem) (H : Heap) (locs : List Loc) (ls : Array Slot), fX7_reads_70 k25 s0 σ = some (r, σ') → FH G wR s.heap H locs σ → lv_has ls 2 [(0, .ref (gA G 0))] → WG p l e ({ frames := 5, cells := 0, slots := 0, locals := 111 }) s m args below meth c G wR (some (.int r)) σ' H locs 70 ls [.int s0] := by
  obtain ⟨X, hb, hml, hr, hlk⟩ := id M
  have hx := X.1
  intro s0 σ H locs ls hf hF hl
  unfold fX7_reads_70 at hf
  refine lv_istore_n (lv' := [(1, .int s0), (0, .ref (gA G 0))]) hx hb dX7_reads_70 rfl hl (by decide) rfl (fun ls hl => ?_)
  refine lv_iload_n hx hb dX7_reads_71 rfl (lv_at hl 0 rfl) ?_
  refine lv_if_ne (tgt := 77) hx hb dX7_reads_72 (by decide) (fun cd6 => ?_) (fun cd6 => ?_)
  · replace hf := ifn cd6 hf
    refine lv_aload_n hx hb dX7_reads_77 rfl (lv_at hl 1 rfl) ?_
    refine lv_dup hx hb dX7_reads_78 rfl ?_
    refine gf_X7_106 X hb hF sh_X7 dX7_reads_79 ?_
    refine lv_iconst (v := (1 : Int32)) hx hb dX7_reads_82 (by decide) ?_
    refine lv_iadd hx hb dX7_reads_83 ?_
    refine pf_X7_106 X hb hF sh_X7 dX7_reads_84 (fun H locs hF => ?_)
    refine lv_goto (tgt := 25) hx hb dX7_reads_87 (by decide) ?_
    exact hk25 (mup σ 0 13 ((σ 0 13) + (1 : Int32))) _ _ _ hf hF (lv_sub hl [1] rfl)
  · replace hf := ifp cd6 hf
    refine lv_iconst (v := (0 : Int32)) hx hb dX7_reads_75 (by decide) ?_
    obtain ⟨rfl, rfl⟩ := Prod.mk.inj (Option.some.inj hf)
    exact fl_zret X hb hr hlk hF (Or.inl rfl) dX7_reads_76
set_option maxHeartbeats 4000000 in
set_option maxRecDepth 100000 in
theorem bX7_reads_69 {r : Int32} {σ' : Mem} {k25 : Mem → Option (Int32 × Mem)} (M : MX p s m args meth c RX7 G wR cX7_reads 2 (some .boolean)) (hk25 : ∀ (σ : Mem) (H : Heap) (locs : List Loc) (ls : Array Slot), k25 σ = some (r, σ') → FH G wR s.heap H locs σ → lv_has ls 2 [(0, .ref (gA G 0))] → WG p l e ({ frames := 5, cells := 0, slots := 0, locals := 111 }) s m args below meth c G wR (some (.int r)) σ' H locs 25 ls []) : ∀ (σ : Mem) (H : Heap) (locs : List Loc) (ls : Array Slot), fX7_reads_69 k25 σ = some (r, σ') → FH G wR s.heap H locs σ → lv_has ls 2 [(0, .ref (gA G 0))] → WG p l e ({ frames := 5, cells := 0, slots := 0, locals := 111 }) s m args below meth c G wR (some (.int r)) σ' H locs 69 ls [] := by
  obtain ⟨X, hb, hml, hr, hlk⟩ := id M
  have hx := X.1
  intro σ H locs ls hf hF hl
  unfold fX7_reads_69 at hf
  refine lv_iconst (v := (0 : Int32)) hx hb dX7_reads_69 (by decide) ?_
  exact bX7_reads_70 M hk25 (0 : Int32) σ _ _ _ hf hF (lv_sub hl [0] rfl)
set_option maxHeartbeats 4000000 in
set_option maxRecDepth 100000 in
theorem bX7_reads_25 {r : Int32} {σ' : Mem} (M : MX p s m args meth c RX7 G wR cX7_reads 2 (some .boolean)) : ∀ (fu : Nat) (σ : Mem) (H : Heap) (locs : List Loc) (ls : Array Slot), fX7_reads_25 fu σ = some (r, σ') → FH G wR s.heap H locs σ → lv_has ls 2 [(0, .ref (gA G 0))] → WG p l e ({ frames := 5, cells := 0, slots := 0, locals := 111 }) s m args below meth c G wR (some (.int r)) σ' H locs 25 ls [] := by
  obtain ⟨X, hb, hml, hr, hlk⟩ := id M
  have hx := X.1
  intro fu
  induction fu with
  | zero =>
    intro σ H locs ls hf hF hl
    rw [fX7_reads_25] at hf
    cases hf
  | succ fu ih =>
    intro σ H locs ls hf hF hl
    rw [fX7_reads_25] at hf
    refine lv_aload_n hx hb dX7_reads_25 rfl (lv_at hl 0 rfl) ?_
    refine gf_X7_75 X hb hF sh_X7 dX7_reads_26 ?_
    refine lv_iconst (v := (-1 : Int32)) hx hb dX7_reads_29 (by decide) ?_
    refine lv_icmp_eq (tgt := 90) hx hb dX7_reads_30 (by decide) (fun cd3 => ?_) (fun cd3 => ?_)
    · replace hf := ifp cd3 hf
      refine lv_iconst (v := (1 : Int32)) hx hb dX7_reads_90 (by decide) ?_
      obtain ⟨rfl, rfl⟩ := Prod.mk.inj (Option.some.inj hf)
      exact fl_zret X hb hr hlk hF (Or.inr rfl) dX7_reads_91
    · replace hf := ifn cd3 hf
      refine lv_aload_n hx hb dX7_reads_33 rfl (lv_at hl 0 rfl) ?_
      refine gf_X7_75 X hb hF sh_X7 dX7_reads_34 ?_
      refine lv_bipush (v := (115 : Int32)) hx hb dX7_reads_37 (by decide) ?_
      refine lv_icmp_ne (tgt := 49) hx hb dX7_reads_39 (by decide) (fun cd4 => ?_) (fun cd4 => ?_)
      · replace hf := ifn cd4 hf
        refine lv_aload_n hx hb dX7_reads_49 rfl (lv_at hl 0 rfl) ?_
        refine gf_X7_75 X hb hF sh_X7 dX7_reads_50 ?_
        refine lv_bipush (v := (113 : Int32)) hx hb dX7_reads_53 (by decide) ?_
        refine lv_icmp_ne (tgt := 69) hx hb dX7_reads_55 (by decide) (fun cd5 => ?_) (fun cd5 => ?_)
        · replace hf := ifn cd5 hf
          exact bX7_reads_69 M ih σ _ _ _ hf hF (lv_sub hl [0] rfl)
        · replace hf := ifp cd5 hf
          refine lv_aload_n hx hb dX7_reads_58 rfl (lv_at hl 0 rfl) ?_
          obtain ⟨r8, σ9, hq7, hf⟩ := bm_some hf
          refine cm_X7_112 (As := []) (rest := []) X hb hml hF (cX7_readsHouse_ok (l := l) (G := G) X.2.2.2.2 hq7) sh_X7 ⟨Nat.le_of_ble_eq_true rfl, Nat.le_of_ble_eq_true rfl⟩ rfl rfl ⟨Nat.zero_le _, Nat.zero_le _⟩ rfl hl.1 rfl (Nat.le_of_ble_eq_true rfl) dX7_reads_59 (fun H locs hF => ?_)
          refine lv_if_eq (tgt := 69) hx hb dX7_reads_62 (by decide) (fun cd10 => ?_) (fun cd10 => ?_)
          · replace hf := ifp cd10 hf
            exact bX7_reads_69 M ih σ9 _ _ _ hf hF (lv_sub hl [0] rfl)
          · replace hf := ifn cd10 hf
            refine lv_iconst (v := (1 : Int32)) hx hb dX7_reads_65 (by decide) ?_
            refine lv_goto (tgt := 70) hx hb dX7_reads_66 (by decide) ?_
            exact bX7_reads_70 M ih (1 : Int32) σ9 _ _ _ hf hF (lv_sub hl [0] rfl)
      · replace hf := ifp cd4 hf
        refine lv_aload_n hx hb dX7_reads_42 rfl (lv_at hl 0 rfl) ?_
        obtain ⟨r12, σ13, hq11, hf⟩ := bm_some hf
        refine cm_X7_109 (As := []) (rest := []) X hb hml hF (cX7_readsSlack_ok (l := l) (G := G) X.2.2.2.2 hq11) sh_X7 ⟨Nat.le_of_ble_eq_true rfl, Nat.le_of_ble_eq_true rfl⟩ rfl rfl ⟨Nat.zero_le _, Nat.zero_le _⟩ rfl hl.1 rfl (Nat.le_of_ble_eq_true rfl) dX7_reads_43 (fun H locs hF => ?_)
        refine lv_goto (tgt := 70) hx hb dX7_reads_46 (by decide) ?_
        exact bX7_reads_70 M ih r12 σ13 _ _ _ hf hF (lv_sub hl [0] rfl)
set_option maxHeartbeats 4000000 in
set_option maxRecDepth 100000 in
theorem cX7_reads_ok {l : Launch} {G : Gl} (hI : FI G wR) {σ : Mem} {r : Int32} {σ' : Mem} (hf : fX7_reads σ = some (r, σ')) : Ct l G wR yX7_reads cX7_reads 2 (some .boolean) ({ frames := 5, cells := 0, slots := 0, locals := 111 }) [.ref (gA G 0)] σ (some (.int r)) σ' := by
  refine fl_start hI (by decide) (Nat.le_of_ble_eq_true rfl) ?_
  intro p e s m below meth c M hF ls hl
  obtain ⟨X, hb, hml, hr, hlk⟩ := id M
  have hx := X.1
  have hl : lv_has ls 2 [(0, .ref (gA G 0))] := hl
  unfold fX7_reads at hf
  refine lv_aload_n hx hb dX7_reads_0 rfl (lv_at hl 0 rfl) ?_
  refine lv_iconst (v := (0 : Int32)) hx hb dX7_reads_1 (by decide) ?_
  refine pf_X7_66 X hb hF sh_X7 dX7_reads_2 (fun H locs hF => ?_)
  refine lv_aload_n hx hb dX7_reads_5 rfl (lv_at hl 0 rfl) ?_
  refine lv_iconst (v := (0 : Int32)) hx hb dX7_reads_6 (by decide) ?_
  refine pf_X7_106 X hb hF sh_X7 dX7_reads_7 (fun H locs hF => ?_)
  refine lv_aload_n hx hb dX7_reads_10 rfl (lv_at hl 0 rfl) ?_
  refine lv_bipush (v := (-9 : Int32)) hx hb dX7_reads_11 (by decide) ?_
  refine pf_X7_89 X hb hF sh_X7 dX7_reads_13 (fun H locs hF => ?_)
  refine lv_aload_n hx hb dX7_reads_16 rfl (lv_at hl 0 rfl) ?_
  refine lv_iconst (v := (0 : Int32)) hx hb dX7_reads_17 (by decide) ?_
  refine pf_X7_100 X hb hF sh_X7 dX7_reads_18 (fun H locs hF => ?_)
  refine lv_aload_n hx hb dX7_reads_21 rfl (lv_at hl 0 rfl) ?_
  obtain ⟨σ2, hq1, hf⟩ := bv_some hf
  refine cm_X7_86 (As := []) (rest := []) X hb hml hF (cX7_take_ok (l := l) (G := G) X.2.2.2.2 hq1) sh_X7 ⟨Nat.le_of_ble_eq_true rfl, Nat.le_of_ble_eq_true rfl⟩ rfl rfl ⟨Nat.zero_le _, Nat.zero_le _⟩ rfl hl.1 rfl (Nat.le_of_ble_eq_true rfl) dX7_reads_22 (fun H locs hF => ?_)
  exact bX7_reads_25 M FU σ2 _ _ _ hf hF (lv_sub hl [0] rfl)
set_option maxHeartbeats 4000000 in
set_option maxRecDepth 100000 in
theorem cX7_type_ok {l : Launch} {G : Gl} (hI : FI G wR) {x1 : Int32} {σ : Mem} {r : Int32} {σ' : Mem} (hf : fX7_type x1 σ = some (r, σ')) : Ct l G wR yX7_type cX7_type 2 (some .int) ({ frames := 1, cells := 0, slots := 0, locals := 25 }) [.ref (gA G 0), .int x1] σ (some (.int r)) σ' := by
  refine fl_start hI (by decide) (Nat.le_of_ble_eq_true rfl) ?_
  intro p e s m below meth c M hF ls hl
  obtain ⟨X, hb, hml, hr, hlk⟩ := id M
  have hx := X.1
  have hl : lv_has ls 2 [(0, .ref (gA G 0)), (1, .int x1)] := hl
  unfold fX7_type at hf
  refine lv_iload_n hx hb dX7_type_0 rfl (lv_at hl 1 rfl) ?_
  refine lv_i2l (v := x1.toInt64) hx hb dX7_type_1 rfl ?_
  refine lv_lconst (v := (0 : Int64)) hx hb dX7_type_2 (by decide) ?_
  refine lv_ldc2 (v := (255 : Int64)) hx hb X.2.1 (X.2.2.1 _ wn_X7_115) dX7_type_3 ?_
  obtain ⟨r2, hq1, hf⟩ := bi_some hf
  refine cm_X7_62 (As := [.long x1.toInt64, .long (0 : Int64), .long (255 : Int64)]) (rest := []) X hb hml hF (cX7_in_ok (l := l) (G := G) (σ := σ) X.2.2.2.2 hq1) ⟨Nat.le_of_ble_eq_true rfl, Nat.le_of_ble_eq_true rfl⟩ rfl rfl ⟨Nat.zero_le _, Nat.zero_le _⟩ rfl hl.1 rfl (Nat.le_of_ble_eq_true rfl) dX7_type_6 (fun H locs hF => ?_)
  refine lv_if_ne (tgt := 14) hx hb dX7_type_9 (by decide) (fun cd3 => ?_) (fun cd3 => ?_)
  · replace hf := ifn cd3 hf
    refine lv_aload_n hx hb dX7_type_14 rfl (lv_at hl 0 rfl) ?_
    refine gf_X7_69 X hb hF sh_X7 dX7_type_15 ?_
    refine lv_bipush (v := (110 : Int32)) hx hb dX7_type_18 (by decide) ?_
    refine lv_icmp_ne (tgt := 26) hx hb dX7_type_20 (by decide) (fun cd4 => ?_) (fun cd4 => ?_)
    · replace hf := ifn cd4 hf
      refine lv_aload_n hx hb dX7_type_26 rfl (lv_at hl 0 rfl) ?_
      refine gf_X7_20 X hb hF sh_X7 dX7_type_27 ?_
      refine lv_aload_n hx hb dX7_type_30 rfl (lv_at hl 0 rfl) ?_
      refine gf_X7_69 X hb hF sh_X7 dX7_type_31 ?_
      refine lv_iload_n hx hb dX7_type_34 rfl (lv_at hl 1 rfl) ?_
      obtain ⟨g5, hf⟩ := grd_some hf
      refine fl_iast X hb hF sh_r4 g5 dX7_type_35 (fun H locs hF => ?_)
      refine lv_aload_n hx hb dX7_type_36 rfl (lv_at hl 0 rfl) ?_
      refine lv_dup hx hb dX7_type_37 rfl ?_
      refine gf_X7_69 X hb hF sh_X7 dX7_type_38 ?_
      refine lv_iconst (v := (1 : Int32)) hx hb dX7_type_41 (by decide) ?_
      refine lv_iadd hx hb dX7_type_42 ?_
      refine pf_X7_69 X hb hF sh_X7 dX7_type_43 (fun H locs hF => ?_)
      refine lv_aload_n hx hb dX7_type_46 rfl (lv_at hl 0 rfl) ?_
      refine gf_X7_69 X hb hF sh_X7 dX7_type_47 ?_
      obtain ⟨rfl, rfl⟩ := Prod.mk.inj (Option.some.inj hf)
      exact fl_iret X hb hr hlk hF dX7_type_50
    · replace hf := ifp cd4 hf
      refine lv_bipush (v := (-3 : Int32)) hx hb dX7_type_23 (by decide) ?_
      obtain ⟨rfl, rfl⟩ := Prod.mk.inj (Option.some.inj hf)
      exact fl_iret X hb hr hlk hF dX7_type_25
  · replace hf := ifp cd3 hf
    refine lv_iconst (v := (-1 : Int32)) hx hb dX7_type_12 (by decide) ?_
    obtain ⟨rfl, rfl⟩ := Prod.mk.inj (Option.some.inj hf)
    exact fl_iret X hb hr hlk hF dX7_type_13
set_option maxHeartbeats 4000000 in
set_option maxRecDepth 100000 in
theorem cX7_clear_ok {l : Launch} {G : Gl} (hI : FI G wR) {σ : Mem} {r : Int32} {σ' : Mem} (hf : fX7_clear σ = some (r, σ')) : Ct l G wR yX7_clear cX7_clear 2 (some .int) ({ frames := 0, cells := 0, slots := 0, locals := 0 }) [.ref (gA G 0)] σ (some (.int r)) σ' := by
  refine fl_start hI (by decide) (Nat.le_of_ble_eq_true rfl) ?_
  intro p e s m below meth c M hF ls hl
  obtain ⟨X, hb, hml, hr, hlk⟩ := id M
  have hx := X.1
  have hl : lv_has ls 2 [(0, .ref (gA G 0))] := hl
  unfold fX7_clear at hf
  refine lv_aload_n hx hb dX7_clear_0 rfl (lv_at hl 0 rfl) ?_
  refine gf_X7_69 X hb hF sh_X7 dX7_clear_1 ?_
  refine lv_istore_n (lv' := [(1, .int (σ 0 6)), (0, .ref (gA G 0))]) hx hb dX7_clear_4 rfl hl (by decide) rfl (fun ls hl => ?_)
  refine lv_aload_n hx hb dX7_clear_5 rfl (lv_at hl 1 rfl) ?_
  refine lv_iconst (v := (0 : Int32)) hx hb dX7_clear_6 (by decide) ?_
  refine pf_X7_69 X hb hF sh_X7 dX7_clear_7 (fun H locs hF => ?_)
  refine lv_iload_n hx hb dX7_clear_10 rfl (lv_at hl 0 rfl) ?_
  obtain ⟨rfl, rfl⟩ := Prod.mk.inj (Option.some.inj hf)
  exact fl_iret X hb hr hlk hF dX7_clear_11
set_option maxHeartbeats 4000000 in
set_option maxRecDepth 100000 in
theorem bX7_houses_123 {r : Int32} {σ' : Mem} (M : MX p s m args meth c RX7 G wR cX7_houses 2 (some .int)) : ∀ (s0 : Int32) (s1 : Int32) (σ : Mem) (H : Heap) (locs : List Loc) (ls : Array Slot), fX7_houses_123 s0 s1 σ = some (r, σ') → FH G wR s.heap H locs σ → lv_has ls 2 [(0, .ref (gA G 0))] → WG p l e ({ frames := 6, cells := 0, slots := 0, locals := 132 }) s m args below meth c G wR (some (.int r)) σ' H locs 123 ls [.int s0, .int s1, .ref (gA G 1)] := by
  obtain ⟨X, hb, hml, hr, hlk⟩ := id M
  have hx := X.1
  intro s0 s1 σ H locs ls hf hF hl
  unfold fX7_houses_123 at hf
  obtain ⟨g8, hf⟩ := grd_some hf
  refine fl_iast X hb hF sh_r1 g8 dX7_houses_123 (fun H locs hF => ?_)
  refine lv_aload_n hx hb dX7_houses_124 rfl (lv_at hl 0 rfl) ?_
  refine lv_iconst (v := (0 : Int32)) hx hb dX7_houses_125 (by decide) ?_
  refine pf_X7_69 X hb hF sh_X7 dX7_houses_126 (fun H locs hF => ?_)
  refine lv_aload_n hx hb dX7_houses_129 rfl (lv_at hl 0 rfl) ?_
  refine lv_iconst (v := (0 : Int32)) hx hb dX7_houses_130 (by decide) ?_
  refine pf_X7_51 X hb hF sh_X7 dX7_houses_131 (fun H locs hF => ?_)
  refine lv_aload_n hx hb dX7_houses_134 rfl (lv_at hl 0 rfl) ?_
  refine lv_iconst (v := (0 : Int32)) hx hb dX7_houses_135 (by decide) ?_
  refine pf_X7_123 X hb hF sh_X7 dX7_houses_136 (fun H locs hF => ?_)
  refine lv_aload_n hx hb dX7_houses_139 rfl (lv_at hl 0 rfl) ?_
  refine gf_X7_13 X hb hF sh_X7 dX7_houses_140 ?_
  refine lv_iconst (v := (0 : Int32)) hx hb dX7_houses_143 (by decide) ?_
  refine lv_iconst (v := (0 : Int32)) hx hb dX7_houses_144 (by decide) ?_
  obtain ⟨g9, hf⟩ := grd_some hf
  refine fl_zast X hb hF sh_r2 g9 rfl dX7_houses_145 (fun H locs hF => ?_)
  refine lv_aload_n hx hb dX7_houses_146 rfl (lv_at hl 0 rfl) ?_
  refine gf_X7_13 X hb hF sh_X7 dX7_houses_147 ?_
  refine lv_iconst (v := (1 : Int32)) hx hb dX7_houses_150 (by decide) ?_
  refine lv_iconst (v := (0 : Int32)) hx hb dX7_houses_151 (by decide) ?_
  obtain ⟨g10, hf⟩ := grd_some hf
  refine fl_zast X hb hF sh_r2 g10 rfl dX7_houses_152 (fun H locs hF => ?_)
  refine lv_aload_n hx hb dX7_houses_153 rfl (lv_at hl 0 rfl) ?_
  refine gf_X7_106 X hb hF sh_X7 dX7_houses_154 ?_
  obtain ⟨rfl, rfl⟩ := Prod.mk.inj (Option.some.inj hf)
  exact fl_iret X hb hr hlk hF dX7_houses_157
set_option maxHeartbeats 4000000 in
set_option maxRecDepth 100000 in
theorem bX7_houses_53 {r : Int32} {σ' : Mem} (M : MX p s m args meth c RX7 G wR cX7_houses 2 (some .int)) : ∀ (fu : Nat) (x1 : Int32) (σ : Mem) (H : Heap) (locs : List Loc) (ls : Array Slot), fX7_houses_53 fu x1 σ = some (r, σ') → FH G wR s.heap H locs σ → lv_has ls 2 [(0, .ref (gA G 0)), (1, .int x1)] → WG p l e ({ frames := 6, cells := 0, slots := 0, locals := 132 }) s m args below meth c G wR (some (.int r)) σ' H locs 53 ls [] := by
  obtain ⟨X, hb, hml, hr, hlk⟩ := id M
  have hx := X.1
  intro fu
  induction fu with
  | zero =>
    intro x1 σ H locs ls hf hF hl
    rw [fX7_houses_53] at hf
    cases hf
  | succ fu ih =>
    intro x1 σ H locs ls hf hF hl
    rw [fX7_houses_53] at hf
    refine lv_iload_n hx hb dX7_houses_53 rfl (lv_at hl 1 rfl) ?_
    refine lv_bipush (v := (24 : Int32)) hx hb dX7_houses_54 (by decide) ?_
    refine lv_icmp_ge (tgt := 101) hx hb dX7_houses_56 (by decide) (fun cd6 => ?_) (fun cd6 => ?_)
    · replace hf := ifp cd6 hf
      refine lv_aload_n hx hb dX7_houses_101 rfl (lv_at hl 0 rfl) ?_
      refine gf_X7_7 X hb hF sh_X7 dX7_houses_102 ?_
      refine lv_iconst (v := (0 : Int32)) hx hb dX7_houses_105 (by decide) ?_
      refine lv_aload_n hx hb dX7_houses_106 rfl (lv_at hl 0 rfl) ?_
      refine gf_X7_89 X hb hF sh_X7 dX7_houses_107 ?_
      refine lv_bipush (v := (-9 : Int32)) hx hb dX7_houses_110 (by decide) ?_
      refine lv_icmp_ne (tgt := 119) hx hb dX7_houses_112 (by decide) (fun cd7 => ?_) (fun cd7 => ?_)
      · replace hf := ifn cd7 hf
        refine lv_aload_n hx hb dX7_houses_119 rfl (lv_at hl 0 rfl) ?_
        refine gf_X7_89 X hb hF sh_X7 dX7_houses_120 ?_
        exact bX7_houses_123 M (σ 0 14) (0 : Int32) σ _ _ _ hf hF (lv_sub hl [0] rfl)
      · replace hf := ifp cd7 hf
        refine lv_iconst (v := (0 : Int32)) hx hb dX7_houses_115 (by decide) ?_
        refine lv_goto (tgt := 123) hx hb dX7_houses_116 (by decide) ?_
        exact bX7_houses_123 M (0 : Int32) (0 : Int32) σ _ _ _ hf hF (lv_sub hl [0] rfl)
    · replace hf := ifn cd6 hf
      refine lv_aload_n hx hb dX7_houses_59 rfl (lv_at hl 0 rfl) ?_
      refine gf_X7_26 X hb hF sh_X7 dX7_houses_60 ?_
      refine lv_iload_n hx hb dX7_houses_63 rfl (lv_at hl 1 rfl) ?_
      refine lv_aload_n hx hb dX7_houses_64 rfl (lv_at hl 0 rfl) ?_
      refine gf_X7_32 X hb hF sh_X7 dX7_houses_65 ?_
      refine lv_iload_n hx hb dX7_houses_68 rfl (lv_at hl 1 rfl) ?_
      obtain ⟨g11, hf⟩ := grd_some hf
      refine fl_iald X hb hF sh_r8 g11 dX7_houses_69 ?_
      obtain ⟨g12, hf⟩ := grd_some hf
      refine fl_iast X hb hF sh_r6 g12 dX7_houses_70 (fun H locs hF => ?_)
      refine lv_aload_n hx hb dX7_houses_71 rfl (lv_at hl 0 rfl) ?_
      refine gf_X7_7 X hb hF sh_X7 dX7_houses_72 ?_
      refine lv_iconst (v := (1 : Int32)) hx hb dX7_houses_75 (by decide) ?_
      refine lv_iload_n hx hb dX7_houses_76 rfl (lv_at hl 1 rfl) ?_
      refine lv_iadd hx hb dX7_houses_77 ?_
      refine lv_aload_n hx hb dX7_houses_78 rfl (lv_at hl 0 rfl) ?_
      refine gf_X7_35 X hb hF sh_X7 dX7_houses_79 ?_
      refine lv_iload_n hx hb dX7_houses_82 rfl (lv_at hl 1 rfl) ?_
      obtain ⟨g13, hf⟩ := grd_some hf
      refine fl_iald X hb hF sh_r9 g13 dX7_houses_83 ?_
      obtain ⟨g14, hf⟩ := grd_some hf
      refine fl_iast X hb hF sh_r1 g14 dX7_houses_84 (fun H locs hF => ?_)
      refine lv_aload_n hx hb dX7_houses_85 rfl (lv_at hl 0 rfl) ?_
      refine gf_X7_7 X hb hF sh_X7 dX7_houses_86 ?_
      refine lv_bipush (v := (25 : Int32)) hx hb dX7_houses_89 (by decide) ?_
      refine lv_iload_n hx hb dX7_houses_91 rfl (lv_at hl 1 rfl) ?_
      refine lv_iadd hx hb dX7_houses_92 ?_
      refine lv_iconst (v := (0 : Int32)) hx hb dX7_houses_93 (by decide) ?_
      obtain ⟨g15, hf⟩ := grd_some hf
      refine fl_iast X hb hF sh_r1 g15 dX7_houses_94 (fun H locs hF => ?_)
      refine lv_iinc (v := x1 + (1 : Int32)) (lv' := [(1, .int (x1 + (1 : Int32))), (0, .ref (gA G 0))]) hx hb dX7_houses_95 hl (k := 1) rfl rfl (by decide) rfl (fun ls hl => ?_)
      refine lv_goto (tgt := 53) hx hb dX7_houses_98 (by decide) ?_
      exact ih (x1 + (1 : Int32)) (mup (mup (mup σ 6 x1.toNatClampNeg (σ 8 x1.toNatClampNeg)) 1 ((1 : Int32) + x1).toNatClampNeg ((mup σ 6 x1.toNatClampNeg (σ 8 x1.toNatClampNeg)) 9 x1.toNatClampNeg)) 1 ((25 : Int32) + x1).toNatClampNeg (0 : Int32)) _ _ _ hf hF (lv_sub hl [1, 0] rfl)
set_option maxHeartbeats 4000000 in
set_option maxRecDepth 100000 in
theorem bX7_houses_25 {r : Int32} {σ' : Mem} (M : MX p s m args meth c RX7 G wR cX7_houses 2 (some .int)) : ∀ (fu : Nat) (x1 : Int32) (σ : Mem) (H : Heap) (locs : List Loc) (ls : Array Slot), fX7_houses_25 fu x1 σ = some (r, σ') → FH G wR s.heap H locs σ → lv_has ls 2 [(0, .ref (gA G 0)), (1, .int x1)] → WG p l e ({ frames := 6, cells := 0, slots := 0, locals := 132 }) s m args below meth c G wR (some (.int r)) σ' H locs 25 ls [] := by
  obtain ⟨X, hb, hml, hr, hlk⟩ := id M
  have hx := X.1
  intro fu
  induction fu with
  | zero =>
    intro x1 σ H locs ls hf hF hl
    rw [fX7_houses_25] at hf
    cases hf
  | succ fu ih =>
    intro x1 σ H locs ls hf hF hl
    rw [fX7_houses_25] at hf
    refine lv_iload_n hx hb dX7_houses_25 rfl (lv_at hl 1 rfl) ?_
    refine lv_aload_n hx hb dX7_houses_26 rfl (lv_at hl 0 rfl) ?_
    refine gf_X7_120 X hb hF sh_X7 dX7_houses_27 ?_
    refine lv_icmp_ge (tgt := 51) hx hb dX7_houses_30 (by decide) (fun cd5 => ?_) (fun cd5 => ?_)
    · replace hf := ifp cd5 hf
      refine lv_iconst (v := (0 : Int32)) hx hb dX7_houses_51 (by decide) ?_
      refine lv_istore_n (lv' := [(1, .int (0 : Int32)), (0, .ref (gA G 0))]) hx hb dX7_houses_52 rfl hl (by decide) rfl (fun ls hl => ?_)
      exact bX7_houses_53 M FU (0 : Int32) σ _ _ _ hf hF (lv_sub hl [1, 0] rfl)
    · replace hf := ifn cd5 hf
      refine lv_aload_n hx hb dX7_houses_33 rfl (lv_at hl 0 rfl) ?_
      refine gf_X7_23 X hb hF sh_X7 dX7_houses_34 ?_
      refine lv_iload_n hx hb dX7_houses_37 rfl (lv_at hl 1 rfl) ?_
      refine lv_aload_n hx hb dX7_houses_38 rfl (lv_at hl 0 rfl) ?_
      refine gf_X7_29 X hb hF sh_X7 dX7_houses_39 ?_
      refine lv_iload_n hx hb dX7_houses_42 rfl (lv_at hl 1 rfl) ?_
      obtain ⟨g16, hf⟩ := grd_some hf
      refine fl_iald X hb hF sh_r7 g16 dX7_houses_43 ?_
      obtain ⟨g17, hf⟩ := grd_some hf
      refine fl_iast X hb hF sh_r5 g17 dX7_houses_44 (fun H locs hF => ?_)
      refine lv_iinc (v := x1 + (1 : Int32)) (lv' := [(1, .int (x1 + (1 : Int32))), (0, .ref (gA G 0))]) hx hb dX7_houses_45 hl (k := 1) rfl rfl (by decide) rfl (fun ls hl => ?_)
      refine lv_goto (tgt := 25) hx hb dX7_houses_48 (by decide) ?_
      exact ih (x1 + (1 : Int32)) (mup σ 5 x1.toNatClampNeg (σ 7 x1.toNatClampNeg)) _ _ _ hf hF (lv_sub hl [1, 0] rfl)
set_option maxHeartbeats 4000000 in
set_option maxRecDepth 100000 in
theorem cX7_houses_ok {l : Launch} {G : Gl} (hI : FI G wR) {σ : Mem} {r : Int32} {σ' : Mem} (hf : fX7_houses σ = some (r, σ')) : Ct l G wR yX7_houses cX7_houses 2 (some .int) ({ frames := 6, cells := 0, slots := 0, locals := 132 }) [.ref (gA G 0)] σ (some (.int r)) σ' := by
  refine fl_start hI (by decide) (Nat.le_of_ble_eq_true rfl) ?_
  intro p e s m below meth c M hF ls hl
  obtain ⟨X, hb, hml, hr, hlk⟩ := id M
  have hx := X.1
  have hl : lv_has ls 2 [(0, .ref (gA G 0))] := hl
  unfold fX7_houses at hf
  refine lv_aload_n hx hb dX7_houses_0 rfl (lv_at hl 0 rfl) ?_
  obtain ⟨r2, σ3, hq1, hf⟩ := bm_some hf
  refine cm_X7_117 (As := []) (rest := []) X hb hml hF (cX7_reads_ok (l := l) (G := G) X.2.2.2.2 hq1) sh_X7 ⟨Nat.le_of_ble_eq_true rfl, Nat.le_of_ble_eq_true rfl⟩ rfl rfl ⟨Nat.zero_le _, Nat.zero_le _⟩ rfl hl.1 rfl (Nat.le_of_ble_eq_true rfl) dX7_houses_1 (fun H locs hF => ?_)
  refine lv_if_ne (tgt := 15) hx hb dX7_houses_4 (by decide) (fun cd4 => ?_) (fun cd4 => ?_)
  · replace hf := ifn cd4 hf
    refine lv_aload_n hx hb dX7_houses_15 rfl (lv_at hl 0 rfl) ?_
    refine lv_aload_n hx hb dX7_houses_16 rfl (lv_at hl 0 rfl) ?_
    refine gf_X7_100 X hb hF sh_X7 dX7_houses_17 ?_
    refine pf_X7_120 X hb hF sh_X7 dX7_houses_20 (fun H locs hF => ?_)
    refine lv_iconst (v := (0 : Int32)) hx hb dX7_houses_23 (by decide) ?_
    refine lv_istore_n (lv' := [(1, .int (0 : Int32)), (0, .ref (gA G 0))]) hx hb dX7_houses_24 rfl hl (by decide) rfl (fun ls hl => ?_)
    exact bX7_houses_25 M FU (0 : Int32) (mup σ3 0 7 (σ3 0 15)) _ _ _ hf hF (lv_sub hl [1, 0] rfl)
  · replace hf := ifp cd4 hf
    refine lv_bipush (v := (-10 : Int32)) hx hb dX7_houses_7 (by decide) ?_
    refine lv_aload_n hx hb dX7_houses_9 rfl (lv_at hl 0 rfl) ?_
    refine gf_X7_72 X hb hF sh_X7 dX7_houses_10 ?_
    refine lv_isub hx hb dX7_houses_13 ?_
    obtain ⟨rfl, rfl⟩ := Prod.mk.inj (Option.some.inj hf)
    exact fl_iret X hb hr hlk hF dX7_houses_14
set_option maxHeartbeats 4000000 in
set_option maxRecDepth 100000 in
theorem cX7_isHouse_ok {l : Launch} {G : Gl} (hI : FI G wR) {x1 : Int32} {σ : Mem} {r : Int32} (hf : fX7_isHouse x1 σ = some r) : Ct l G wR yX7_isHouse cX7_isHouse 2 (some .boolean) ({ frames := 1, cells := 0, slots := 0, locals := 25 }) [.ref (gA G 0), .int x1] σ (some (.int r)) σ := by
  refine fl_start hI (by decide) (Nat.le_of_ble_eq_true rfl) ?_
  intro p e s m below meth c M hF ls hl
  obtain ⟨X, hb, hml, hr, hlk⟩ := id M
  have hx := X.1
  have hl : lv_has ls 2 [(0, .ref (gA G 0)), (1, .int x1)] := hl
  unfold fX7_isHouse at hf
  refine lv_iload_n hx hb dX7_isHouse_0 rfl (lv_at hl 1 rfl) ?_
  refine lv_i2l (v := x1.toInt64) hx hb dX7_isHouse_1 rfl ?_
  refine lv_lconst (v := (0 : Int64)) hx hb dX7_isHouse_2 (by decide) ?_
  refine lv_aload_n hx hb dX7_isHouse_3 rfl (lv_at hl 0 rfl) ?_
  refine gf_X7_120 X hb hF sh_X7 dX7_isHouse_4 ?_
  refine lv_iconst (v := (1 : Int32)) hx hb dX7_isHouse_7 (by decide) ?_
  refine lv_isub hx hb dX7_isHouse_8 ?_
  refine lv_i2l (v := ((σ 0 7) - (1 : Int32)).toInt64) hx hb dX7_isHouse_9 rfl ?_
  obtain ⟨r2, hq1, hf⟩ := bi_some hf
  refine cm_X7_62 (As := [.long x1.toInt64, .long (0 : Int64), .long (((σ 0 7) - (1 : Int32)).toInt64)]) (rest := []) X hb hml hF (cX7_in_ok (l := l) (G := G) (σ := σ) X.2.2.2.2 hq1) ⟨Nat.le_of_ble_eq_true rfl, Nat.le_of_ble_eq_true rfl⟩ rfl rfl ⟨Nat.zero_le _, Nat.zero_le _⟩ rfl hl.1 rfl (Nat.le_of_ble_eq_true rfl) dX7_isHouse_10 (fun H locs hF => ?_)
  obtain ⟨g3, hf⟩ := grd_some hf
  obtain rfl := Option.some.inj hf
  exact fl_zret X hb hr hlk hF g3 dX7_isHouse_13
set_option maxHeartbeats 4000000 in
set_option maxRecDepth 100000 in
theorem cX7_isEntry_ok {l : Launch} {G : Gl} (hI : FI G wR) {x1 : Int32} {x2 : Int32} {σ : Mem} {r : Int32} (hf : fX7_isEntry x1 x2 σ = some r) : Ct l G wR yX7_isEntry cX7_isEntry 3 (some .boolean) ({ frames := 2, cells := 0, slots := 0, locals := 46 }) [.ref (gA G 0), .int x1, .int x2] σ (some (.int r)) σ := by
  refine fl_start hI (by decide) (Nat.le_of_ble_eq_true rfl) ?_
  intro p e s m below meth c M hF ls hl
  obtain ⟨X, hb, hml, hr, hlk⟩ := id M
  have hx := X.1
  have hl : lv_has ls 3 [(0, .ref (gA G 0)), (1, .int x1), (2, .int x2)] := hl
  unfold fX7_isEntry at hf
  refine lv_aload_n hx hb dX7_isEntry_0 rfl (lv_at hl 0 rfl) ?_
  refine lv_iload_n hx hb dX7_isEntry_1 rfl (lv_at hl 1 rfl) ?_
  obtain ⟨r2, hq1, hf⟩ := bi_some hf
  refine cm_X7_126 (As := [.int x1]) (rest := []) X hb hml hF (cX7_isHouse_ok (l := l) (G := G) X.2.2.2.2 hq1) sh_X7 ⟨Nat.le_of_ble_eq_true rfl, Nat.le_of_ble_eq_true rfl⟩ rfl rfl ⟨Nat.zero_le _, Nat.zero_le _⟩ rfl hl.1 rfl (Nat.le_of_ble_eq_true rfl) dX7_isEntry_2 (fun H locs hF => ?_)
  refine lv_if_eq (tgt := 30) hx hb dX7_isEntry_5 (by decide) (fun cd3 => ?_) (fun cd3 => ?_)
  · replace hf := ifp cd3 hf
    refine lv_iconst (v := (0 : Int32)) hx hb dX7_isEntry_30 (by decide) ?_
    obtain rfl := Option.some.inj hf
    exact fl_zret X hb hr hlk hF (Or.inl rfl) dX7_isEntry_31
  · replace hf := ifn cd3 hf
    refine lv_iload_n hx hb dX7_isEntry_8 rfl (lv_at hl 2 rfl) ?_
    refine lv_i2l (v := x2.toInt64) hx hb dX7_isEntry_9 rfl ?_
    refine lv_lconst (v := (0 : Int64)) hx hb dX7_isEntry_10 (by decide) ?_
    refine lv_aload_n hx hb dX7_isEntry_11 rfl (lv_at hl 0 rfl) ?_
    refine gf_X7_23 X hb hF sh_X7 dX7_isEntry_12 ?_
    refine lv_iload_n hx hb dX7_isEntry_15 rfl (lv_at hl 1 rfl) ?_
    obtain ⟨g4, hf⟩ := grd_some hf
    refine fl_iald X hb hF sh_r5 g4 dX7_isEntry_16 ?_
    refine lv_iconst (v := (1 : Int32)) hx hb dX7_isEntry_17 (by decide) ?_
    refine lv_isub hx hb dX7_isEntry_18 ?_
    refine lv_i2l (v := ((σ 5 x1.toNatClampNeg) - (1 : Int32)).toInt64) hx hb dX7_isEntry_19 rfl ?_
    obtain ⟨r6, hq5, hf⟩ := bi_some hf
    refine cm_X7_62 (As := [.long x2.toInt64, .long (0 : Int64), .long (((σ 5 x1.toNatClampNeg) - (1 : Int32)).toInt64)]) (rest := []) X hb hml hF (cX7_in_ok (l := l) (G := G) (σ := σ) X.2.2.2.2 hq5) ⟨Nat.le_of_ble_eq_true rfl, Nat.le_of_ble_eq_true rfl⟩ rfl rfl ⟨Nat.zero_le _, Nat.zero_le _⟩ rfl hl.1 rfl (Nat.le_of_ble_eq_true rfl) dX7_isEntry_20 (fun H locs hF => ?_)
    refine lv_if_eq (tgt := 30) hx hb dX7_isEntry_23 (by decide) (fun cd7 => ?_) (fun cd7 => ?_)
    · replace hf := ifp cd7 hf
      refine lv_iconst (v := (0 : Int32)) hx hb dX7_isEntry_30 (by decide) ?_
      obtain rfl := Option.some.inj hf
      exact fl_zret X hb hr hlk hF (Or.inl rfl) dX7_isEntry_31
    · replace hf := ifn cd7 hf
      refine lv_iconst (v := (1 : Int32)) hx hb dX7_isEntry_26 (by decide) ?_
      refine lv_goto (tgt := 31) hx hb dX7_isEntry_27 (by decide) ?_
      obtain rfl := Option.some.inj hf
      exact fl_zret X hb hr hlk hF (Or.inr rfl) dX7_isEntry_31
set_option maxHeartbeats 4000000 in
set_option maxRecDepth 100000 in
theorem cX7_counts_ok {l : Launch} {G : Gl} (hI : FI G wR) {x1 : Int32} {x2 : Int32} {σ : Mem} {r : Int32} (hf : fX7_counts x1 x2 σ = some r) : Ct l G wR yX7_counts cX7_counts 3 (some .boolean) ({ frames := 3, cells := 0, slots := 0, locals := 68 }) [.ref (gA G 0), .int x1, .int x2] σ (some (.int r)) σ := by
  refine fl_start hI (by decide) (Nat.le_of_ble_eq_true rfl) ?_
  intro p e s m below meth c M hF ls hl
  obtain ⟨X, hb, hml, hr, hlk⟩ := id M
  have hx := X.1
  have hl : lv_has ls 3 [(0, .ref (gA G 0)), (1, .int x1), (2, .int x2)] := hl
  unfold fX7_counts at hf
  refine lv_aload_n hx hb dX7_counts_0 rfl (lv_at hl 0 rfl) ?_
  refine lv_iload_n hx hb dX7_counts_1 rfl (lv_at hl 1 rfl) ?_
  refine lv_iload_n hx hb dX7_counts_2 rfl (lv_at hl 2 rfl) ?_
  obtain ⟨r2, hq1, hf⟩ := bi_some hf
  refine cm_X7_129 (As := [.int x1, .int x2]) (rest := []) X hb hml hF (cX7_isEntry_ok (l := l) (G := G) X.2.2.2.2 hq1) sh_X7 ⟨Nat.le_of_ble_eq_true rfl, Nat.le_of_ble_eq_true rfl⟩ rfl rfl ⟨Nat.zero_le _, Nat.zero_le _⟩ rfl hl.1 rfl (Nat.le_of_ble_eq_true rfl) dX7_counts_3 (fun H locs hF => ?_)
  refine lv_if_eq (tgt := 54) hx hb dX7_counts_6 (by decide) (fun cd3 => ?_) (fun cd3 => ?_)
  · replace hf := ifp cd3 hf
    refine lv_iconst (v := (0 : Int32)) hx hb dX7_counts_54 (by decide) ?_
    obtain rfl := Option.some.inj hf
    exact fl_zret X hb hr hlk hF (Or.inl rfl) dX7_counts_55
  · replace hf := ifn cd3 hf
    refine lv_aload_n hx hb dX7_counts_9 rfl (lv_at hl 0 rfl) ?_
    refine gf_X7_7 X hb hF sh_X7 dX7_counts_10 ?_
    refine lv_bipush (v := (25 : Int32)) hx hb dX7_counts_13 (by decide) ?_
    refine lv_bipush (v := (6 : Int32)) hx hb dX7_counts_15 (by decide) ?_
    refine lv_iload_n hx hb dX7_counts_17 rfl (lv_at hl 1 rfl) ?_
    refine lv_imul hx hb dX7_counts_18 ?_
    refine lv_iadd hx hb dX7_counts_19 ?_
    refine lv_iload_n hx hb dX7_counts_20 rfl (lv_at hl 2 rfl) ?_
    refine lv_iadd hx hb dX7_counts_21 ?_
    obtain ⟨g4, hf⟩ := grd_some hf
    refine fl_iald X hb hF sh_r1 g4 dX7_counts_22 ?_
    refine lv_if_ne (tgt := 54) hx hb dX7_counts_23 (by decide) (fun cd5 => ?_) (fun cd5 => ?_)
    · replace hf := ifn cd5 hf
      refine lv_iconst (v := (0 : Int32)) hx hb dX7_counts_54 (by decide) ?_
      obtain rfl := Option.some.inj hf
      exact fl_zret X hb hr hlk hF (Or.inl rfl) dX7_counts_55
    · replace hf := ifp cd5 hf
      refine lv_aload_n hx hb dX7_counts_26 rfl (lv_at hl 0 rfl) ?_
      refine gf_X7_38 X hb hF sh_X7 dX7_counts_27 ?_
      refine lv_bipush (v := (6 : Int32)) hx hb dX7_counts_30 (by decide) ?_
      refine lv_iload_n hx hb dX7_counts_32 rfl (lv_at hl 1 rfl) ?_
      refine lv_imul hx hb dX7_counts_33 ?_
      refine lv_iload_n hx hb dX7_counts_34 rfl (lv_at hl 2 rfl) ?_
      refine lv_iadd hx hb dX7_counts_35 ?_
      refine lv_icmp_eq (tgt := 54) hx hb dX7_counts_36 (by decide) (fun cd6 => ?_) (fun cd6 => ?_)
      · replace hf := ifp cd6 hf
        refine lv_iconst (v := (0 : Int32)) hx hb dX7_counts_54 (by decide) ?_
        obtain rfl := Option.some.inj hf
        exact fl_zret X hb hr hlk hF (Or.inl rfl) dX7_counts_55
      · replace hf := ifn cd6 hf
        refine lv_aload_n hx hb dX7_counts_39 rfl (lv_at hl 0 rfl) ?_
        refine gf_X7_132 X hb hF sh_X7 dX7_counts_40 ?_
        refine lv_iload_n hx hb dX7_counts_43 rfl (lv_at hl 1 rfl) ?_
        obtain ⟨r8, hq7, hf⟩ := bi_some hf
        refine cm_X7_135 (As := [.int (σ 0 20), .int x1]) (rest := []) X hb hml hF (cX7_has_ok (l := l) (G := G) (σ := σ) X.2.2.2.2 hq7) ⟨Nat.le_of_ble_eq_true rfl, Nat.le_of_ble_eq_true rfl⟩ rfl rfl ⟨Nat.zero_le _, Nat.zero_le _⟩ rfl hl.1 rfl (Nat.le_of_ble_eq_true rfl) dX7_counts_44 (fun H locs hF => ?_)
        refine lv_if_ne (tgt := 54) hx hb dX7_counts_47 (by decide) (fun cd9 => ?_) (fun cd9 => ?_)
        · replace hf := ifn cd9 hf
          refine lv_iconst (v := (0 : Int32)) hx hb dX7_counts_54 (by decide) ?_
          obtain rfl := Option.some.inj hf
          exact fl_zret X hb hr hlk hF (Or.inl rfl) dX7_counts_55
        · replace hf := ifp cd9 hf
          refine lv_iconst (v := (1 : Int32)) hx hb dX7_counts_50 (by decide) ?_
          refine lv_goto (tgt := 55) hx hb dX7_counts_51 (by decide) ?_
          obtain rfl := Option.some.inj hf
          exact fl_zret X hb hr hlk hF (Or.inr rfl) dX7_counts_55
set_option maxHeartbeats 4000000 in
set_option maxRecDepth 100000 in
theorem bX7_yearIn_2 {σ : Mem} {r : Int32} (M : MX p s m args meth c RX7 G wR cX7_yearIn 4 (some .int)) : ∀ (fu : Nat) (x1 : Int32) (x2 : Int32) (x3 : Int32) (H : Heap) (locs : List Loc) (ls : Array Slot), fX7_yearIn_2 σ fu x1 x2 x3 = some r → FH G wR s.heap H locs σ → lv_has ls 4 [(0, .ref (gA G 0)), (1, .int x1), (2, .int x2), (3, .int x3)] → WG p l e ({ frames := 4, cells := 0, slots := 0, locals := 90 }) s m args below meth c G wR (some (.int r)) σ H locs 2 ls [] := by
  obtain ⟨X, hb, hml, hr, hlk⟩ := id M
  have hx := X.1
  intro fu
  induction fu with
  | zero =>
    intro x1 x2 x3 H locs ls hf hF hl
    rw [fX7_yearIn_2] at hf
    cases hf
  | succ fu ih =>
    intro x1 x2 x3 H locs ls hf hF hl
    rw [fX7_yearIn_2] at hf
    refine lv_iload_n hx hb dX7_yearIn_2 rfl (lv_at hl 3 rfl) ?_
    refine lv_bipush (v := (6 : Int32)) hx hb dX7_yearIn_3 (by decide) ?_
    refine lv_icmp_ge (tgt := 52) hx hb dX7_yearIn_5 (by decide) (fun cd1 => ?_) (fun cd1 => ?_)
    · replace hf := ifp cd1 hf
      refine lv_bipush (v := (-9 : Int32)) hx hb dX7_yearIn_52 (by decide) ?_
      obtain rfl := Option.some.inj hf
      exact fl_iret X hb hr hlk hF dX7_yearIn_54
    · replace hf := ifn cd1 hf
      refine lv_aload_n hx hb dX7_yearIn_8 rfl (lv_at hl 0 rfl) ?_
      refine lv_iload_n hx hb dX7_yearIn_9 rfl (lv_at hl 1 rfl) ?_
      refine lv_iload_n hx hb dX7_yearIn_10 rfl (lv_at hl 3 rfl) ?_
      obtain ⟨r3, hq2, hf⟩ := bi_some hf
      refine cm_X7_138 (As := [.int x1, .int x3]) (rest := []) X hb hml hF (cX7_counts_ok (l := l) (G := G) X.2.2.2.2 hq2) sh_X7 ⟨Nat.le_of_ble_eq_true rfl, Nat.le_of_ble_eq_true rfl⟩ rfl rfl ⟨Nat.zero_le _, Nat.zero_le _⟩ rfl hl.1 rfl (Nat.le_of_ble_eq_true rfl) dX7_yearIn_11 (fun H locs hF => ?_)
      refine lv_if_eq (tgt := 46) hx hb dX7_yearIn_14 (by decide) (fun cd4 => ?_) (fun cd4 => ?_)
      · replace hf := ifp cd4 hf
        refine lv_iinc (v := x3 + (1 : Int32)) (lv' := [(3, .int (x3 + (1 : Int32))), (0, .ref (gA G 0)), (1, .int x1), (2, .int x2)]) hx hb dX7_yearIn_46 hl (k := 3) rfl rfl (by decide) rfl (fun ls hl => ?_)
        refine lv_goto (tgt := 2) hx hb dX7_yearIn_49 (by decide) ?_
        exact ih x1 x2 (x3 + (1 : Int32)) _ _ _ hf hF (lv_sub hl [1, 2, 3, 0] rfl)
      · replace hf := ifn cd4 hf
        refine lv_aload_n hx hb dX7_yearIn_17 rfl (lv_at hl 0 rfl) ?_
        refine gf_X7_26 X hb hF sh_X7 dX7_yearIn_18 ?_
        refine lv_bipush (v := (6 : Int32)) hx hb dX7_yearIn_21 (by decide) ?_
        refine lv_iload_n hx hb dX7_yearIn_23 rfl (lv_at hl 1 rfl) ?_
        refine lv_imul hx hb dX7_yearIn_24 ?_
        refine lv_iload_n hx hb dX7_yearIn_25 rfl (lv_at hl 3 rfl) ?_
        refine lv_iadd hx hb dX7_yearIn_26 ?_
        obtain ⟨g5, hf⟩ := grd_some hf
        refine fl_iald X hb hF sh_r6 g5 dX7_yearIn_27 ?_
        refine lv_iload_n hx hb dX7_yearIn_28 rfl (lv_at hl 2 rfl) ?_
        refine lv_icmp_ne (tgt := 46) hx hb dX7_yearIn_29 (by decide) (fun cd6 => ?_) (fun cd6 => ?_)
        · replace hf := ifn cd6 hf
          refine lv_iinc (v := x3 + (1 : Int32)) (lv' := [(3, .int (x3 + (1 : Int32))), (0, .ref (gA G 0)), (1, .int x1), (2, .int x2)]) hx hb dX7_yearIn_46 hl (k := 3) rfl rfl (by decide) rfl (fun ls hl => ?_)
          refine lv_goto (tgt := 2) hx hb dX7_yearIn_49 (by decide) ?_
          exact ih x1 x2 (x3 + (1 : Int32)) _ _ _ hf hF (lv_sub hl [1, 2, 3, 0] rfl)
        · replace hf := ifp cd6 hf
          refine lv_aload_n hx hb dX7_yearIn_32 rfl (lv_at hl 0 rfl) ?_
          refine gf_X7_7 X hb hF sh_X7 dX7_yearIn_33 ?_
          refine lv_iconst (v := (1 : Int32)) hx hb dX7_yearIn_36 (by decide) ?_
          refine lv_bipush (v := (6 : Int32)) hx hb dX7_yearIn_37 (by decide) ?_
          refine lv_iload_n hx hb dX7_yearIn_39 rfl (lv_at hl 1 rfl) ?_
          refine lv_imul hx hb dX7_yearIn_40 ?_
          refine lv_iadd hx hb dX7_yearIn_41 ?_
          refine lv_iload_n hx hb dX7_yearIn_42 rfl (lv_at hl 3 rfl) ?_
          refine lv_iadd hx hb dX7_yearIn_43 ?_
          obtain ⟨g7, hf⟩ := grd_some hf
          refine fl_iald X hb hF sh_r1 g7 dX7_yearIn_44 ?_
          obtain rfl := Option.some.inj hf
          exact fl_iret X hb hr hlk hF dX7_yearIn_45
set_option maxHeartbeats 4000000 in
set_option maxRecDepth 100000 in
theorem cX7_yearIn_ok {l : Launch} {G : Gl} (hI : FI G wR) {x1 : Int32} {x2 : Int32} {σ : Mem} {r : Int32} (hf : fX7_yearIn x1 x2 σ = some r) : Ct l G wR yX7_yearIn cX7_yearIn 4 (some .int) ({ frames := 4, cells := 0, slots := 0, locals := 90 }) [.ref (gA G 0), .int x1, .int x2] σ (some (.int r)) σ := by
  refine fl_start hI (by decide) (Nat.le_of_ble_eq_true rfl) ?_
  intro p e s m below meth c M hF ls hl
  obtain ⟨X, hb, hml, hr, hlk⟩ := id M
  have hx := X.1
  have hl : lv_has ls 4 [(0, .ref (gA G 0)), (1, .int x1), (2, .int x2)] := hl
  unfold fX7_yearIn at hf
  refine lv_iconst (v := (0 : Int32)) hx hb dX7_yearIn_0 (by decide) ?_
  refine lv_istore_n (lv' := [(3, .int (0 : Int32)), (0, .ref (gA G 0)), (1, .int x1), (2, .int x2)]) hx hb dX7_yearIn_1 rfl hl (by decide) rfl (fun ls hl => ?_)
  exact bX7_yearIn_2 M FU x1 x2 (0 : Int32) _ _ _ hf hF (lv_sub hl [1, 2, 3, 0] rfl)
set_option maxHeartbeats 4000000 in
set_option maxRecDepth 100000 in
theorem bX7_housesOf_4 {σ : Mem} {r : Int32} (M : MX p s m args meth c RX7 G wR cX7_housesOf 4 (some .int)) : ∀ (fu : Nat) (x1 : Int32) (x2 : Int32) (x3 : Int32) (H : Heap) (locs : List Loc) (ls : Array Slot), fX7_housesOf_4 σ fu x1 x2 x3 = some r → FH G wR s.heap H locs σ → lv_has ls 4 [(0, .ref (gA G 0)), (1, .int x1), (2, .int x2), (3, .int x3)] → WG p l e ({ frames := 5, cells := 0, slots := 0, locals := 113 }) s m args below meth c G wR (some (.int r)) σ H locs 4 ls [] := by
  obtain ⟨X, hb, hml, hr, hlk⟩ := id M
  have hx := X.1
  intro fu
  induction fu with
  | zero =>
    intro x1 x2 x3 H locs ls hf hF hl
    rw [fX7_housesOf_4] at hf
    cases hf
  | succ fu ih =>
    intro x1 x2 x3 H locs ls hf hF hl
    rw [fX7_housesOf_4] at hf
    refine lv_iload_n hx hb dX7_housesOf_4 rfl (lv_at hl 3 rfl) ?_
    refine lv_aload_n hx hb dX7_housesOf_5 rfl (lv_at hl 0 rfl) ?_
    refine gf_X7_120 X hb hF sh_X7 dX7_housesOf_6 ?_
    refine lv_icmp_ge (tgt := 37) hx hb dX7_housesOf_9 (by decide) (fun cd1 => ?_) (fun cd1 => ?_)
    · replace hf := ifp cd1 hf
      refine lv_iload_n hx hb dX7_housesOf_37 rfl (lv_at hl 2 rfl) ?_
      obtain rfl := Option.some.inj hf
      exact fl_iret X hb hr hlk hF dX7_housesOf_38
    · replace hf := ifn cd1 hf
      refine lv_iload_n hx hb dX7_housesOf_12 rfl (lv_at hl 2 rfl) ?_
      refine lv_aload_n hx hb dX7_housesOf_13 rfl (lv_at hl 0 rfl) ?_
      refine lv_iload_n hx hb dX7_housesOf_14 rfl (lv_at hl 3 rfl) ?_
      refine lv_iload_n hx hb dX7_housesOf_15 rfl (lv_at hl 1 rfl) ?_
      obtain ⟨r3, hq2, hf⟩ := bi_some hf
      refine cm_X7_141 (As := [.int x3, .int x1]) (rest := [.int x2]) X hb hml hF (cX7_yearIn_ok (l := l) (G := G) X.2.2.2.2 hq2) sh_X7 ⟨Nat.le_of_ble_eq_true rfl, Nat.le_of_ble_eq_true rfl⟩ rfl rfl ⟨Nat.zero_le _, Nat.zero_le _⟩ rfl hl.1 rfl (Nat.le_of_ble_eq_true rfl) dX7_housesOf_16 (fun H locs hF => ?_)
      refine lv_if_lt (tgt := 28) hx hb dX7_housesOf_19 (by decide) (fun cd4 => ?_) (fun cd4 => ?_)
      · replace hf := ifp cd4 hf
        refine lv_iconst (v := (0 : Int32)) hx hb dX7_housesOf_28 (by decide) ?_
        refine lv_ior hx hb dX7_housesOf_29 ?_
        refine lv_istore_n (lv' := [(2, .int (x2 ||| (0 : Int32))), (0, .ref (gA G 0)), (1, .int x1), (3, .int x3)]) hx hb dX7_housesOf_30 rfl hl (by decide) rfl (fun ls hl => ?_)
        refine lv_iinc (v := x3 + (1 : Int32)) (lv' := [(3, .int (x3 + (1 : Int32))), (2, .int (x2 ||| (0 : Int32))), (0, .ref (gA G 0)), (1, .int x1)]) hx hb dX7_housesOf_31 hl (k := 3) rfl rfl (by decide) rfl (fun ls hl => ?_)
        refine lv_goto (tgt := 4) hx hb dX7_housesOf_34 (by decide) ?_
        exact ih x1 (x2 ||| (0 : Int32)) (x3 + (1 : Int32)) _ _ _ hf hF (lv_sub hl [2, 3, 1, 0] rfl)
      · replace hf := ifn cd4 hf
        refine lv_iconst (v := (1 : Int32)) hx hb dX7_housesOf_22 (by decide) ?_
        refine lv_iload_n hx hb dX7_housesOf_23 rfl (lv_at hl 3 rfl) ?_
        refine lv_ishl hx hb dX7_housesOf_24 ?_
        refine lv_goto (tgt := 29) hx hb dX7_housesOf_25 (by decide) ?_
        refine lv_ior hx hb dX7_housesOf_29 ?_
        refine lv_istore_n (lv' := [(2, .int (x2 ||| ((1 : Int32) <<< (x3 &&& 31)))), (0, .ref (gA G 0)), (1, .int x1), (3, .int x3)]) hx hb dX7_housesOf_30 rfl hl (by decide) rfl (fun ls hl => ?_)
        refine lv_iinc (v := x3 + (1 : Int32)) (lv' := [(3, .int (x3 + (1 : Int32))), (2, .int (x2 ||| ((1 : Int32) <<< (x3 &&& 31)))), (0, .ref (gA G 0)), (1, .int x1)]) hx hb dX7_housesOf_31 hl (k := 3) rfl rfl (by decide) rfl (fun ls hl => ?_)
        refine lv_goto (tgt := 4) hx hb dX7_housesOf_34 (by decide) ?_
        exact ih x1 (x2 ||| ((1 : Int32) <<< (x3 &&& 31))) (x3 + (1 : Int32)) _ _ _ hf hF (lv_sub hl [2, 3, 1, 0] rfl)
set_option maxHeartbeats 4000000 in
set_option maxRecDepth 100000 in
theorem cX7_housesOf_ok {l : Launch} {G : Gl} (hI : FI G wR) {x1 : Int32} {σ : Mem} {r : Int32} (hf : fX7_housesOf x1 σ = some r) : Ct l G wR yX7_housesOf cX7_housesOf 4 (some .int) ({ frames := 5, cells := 0, slots := 0, locals := 113 }) [.ref (gA G 0), .int x1] σ (some (.int r)) σ := by
  refine fl_start hI (by decide) (Nat.le_of_ble_eq_true rfl) ?_
  intro p e s m below meth c M hF ls hl
  obtain ⟨X, hb, hml, hr, hlk⟩ := id M
  have hx := X.1
  have hl : lv_has ls 4 [(0, .ref (gA G 0)), (1, .int x1)] := hl
  unfold fX7_housesOf at hf
  refine lv_iconst (v := (0 : Int32)) hx hb dX7_housesOf_0 (by decide) ?_
  refine lv_istore_n (lv' := [(2, .int (0 : Int32)), (0, .ref (gA G 0)), (1, .int x1)]) hx hb dX7_housesOf_1 rfl hl (by decide) rfl (fun ls hl => ?_)
  refine lv_iconst (v := (0 : Int32)) hx hb dX7_housesOf_2 (by decide) ?_
  refine lv_istore_n (lv' := [(3, .int (0 : Int32)), (2, .int (0 : Int32)), (0, .ref (gA G 0)), (1, .int x1)]) hx hb dX7_housesOf_3 rfl hl (by decide) rfl (fun ls hl => ?_)
  exact bX7_housesOf_4 M FU x1 (0 : Int32) (0 : Int32) _ _ _ hf hF (lv_sub hl [2, 3, 1, 0] rfl)
set_option maxHeartbeats 4000000 in
set_option maxRecDepth 100000 in
theorem bX7_sizeOf_4 {σ : Mem} {r : Int32} (M : MX p s m args meth c RX7 G wR cX7_sizeOf 4 (some .int)) : ∀ (fu : Nat) (x1 : Int32) (x2 : Int32) (x3 : Int32) (H : Heap) (locs : List Loc) (ls : Array Slot), fX7_sizeOf_4 σ fu x1 x2 x3 = some r → FH G wR s.heap H locs σ → lv_has ls 4 [(0, .ref (gA G 0)), (1, .int x1), (2, .int x2), (3, .int x3)] → WG p l e ({ frames := 4, cells := 0, slots := 0, locals := 90 }) s m args below meth c G wR (some (.int r)) σ H locs 4 ls [] := by
  obtain ⟨X, hb, hml, hr, hlk⟩ := id M
  have hx := X.1
  intro fu
  induction fu with
  | zero =>
    intro x1 x2 x3 H locs ls hf hF hl
    rw [fX7_sizeOf_4] at hf
    cases hf
  | succ fu ih =>
    intro x1 x2 x3 H locs ls hf hF hl
    rw [fX7_sizeOf_4] at hf
    refine lv_iload_n hx hb dX7_sizeOf_4 rfl (lv_at hl 3 rfl) ?_
    refine lv_bipush (v := (6 : Int32)) hx hb dX7_sizeOf_5 (by decide) ?_
    refine lv_icmp_ge (tgt := 33) hx hb dX7_sizeOf_7 (by decide) (fun cd1 => ?_) (fun cd1 => ?_)
    · replace hf := ifp cd1 hf
      refine lv_iload_n hx hb dX7_sizeOf_33 rfl (lv_at hl 2 rfl) ?_
      obtain rfl := Option.some.inj hf
      exact fl_iret X hb hr hlk hF dX7_sizeOf_34
    · replace hf := ifn cd1 hf
      refine lv_iload_n hx hb dX7_sizeOf_10 rfl (lv_at hl 2 rfl) ?_
      refine lv_aload_n hx hb dX7_sizeOf_11 rfl (lv_at hl 0 rfl) ?_
      refine lv_iload_n hx hb dX7_sizeOf_12 rfl (lv_at hl 1 rfl) ?_
      refine lv_iload_n hx hb dX7_sizeOf_13 rfl (lv_at hl 3 rfl) ?_
      obtain ⟨r3, hq2, hf⟩ := bi_some hf
      refine cm_X7_138 (As := [.int x1, .int x3]) (rest := [.int x2]) X hb hml hF (cX7_counts_ok (l := l) (G := G) X.2.2.2.2 hq2) sh_X7 ⟨Nat.le_of_ble_eq_true rfl, Nat.le_of_ble_eq_true rfl⟩ rfl rfl ⟨Nat.zero_le _, Nat.zero_le _⟩ rfl hl.1 rfl (Nat.le_of_ble_eq_true rfl) dX7_sizeOf_14 (fun H locs hF => ?_)
      refine lv_if_eq (tgt := 24) hx hb dX7_sizeOf_17 (by decide) (fun cd4 => ?_) (fun cd4 => ?_)
      · replace hf := ifp cd4 hf
        refine lv_iconst (v := (0 : Int32)) hx hb dX7_sizeOf_24 (by decide) ?_
        refine lv_iadd hx hb dX7_sizeOf_25 ?_
        refine lv_istore_n (lv' := [(2, .int (x2 + (0 : Int32))), (0, .ref (gA G 0)), (1, .int x1), (3, .int x3)]) hx hb dX7_sizeOf_26 rfl hl (by decide) rfl (fun ls hl => ?_)
        refine lv_iinc (v := x3 + (1 : Int32)) (lv' := [(3, .int (x3 + (1 : Int32))), (2, .int (x2 + (0 : Int32))), (0, .ref (gA G 0)), (1, .int x1)]) hx hb dX7_sizeOf_27 hl (k := 3) rfl rfl (by decide) rfl (fun ls hl => ?_)
        refine lv_goto (tgt := 4) hx hb dX7_sizeOf_30 (by decide) ?_
        exact ih x1 (x2 + (0 : Int32)) (x3 + (1 : Int32)) _ _ _ hf hF (lv_sub hl [2, 3, 1, 0] rfl)
      · replace hf := ifn cd4 hf
        refine lv_iconst (v := (1 : Int32)) hx hb dX7_sizeOf_20 (by decide) ?_
        refine lv_goto (tgt := 25) hx hb dX7_sizeOf_21 (by decide) ?_
        refine lv_iadd hx hb dX7_sizeOf_25 ?_
        refine lv_istore_n (lv' := [(2, .int (x2 + (1 : Int32))), (0, .ref (gA G 0)), (1, .int x1), (3, .int x3)]) hx hb dX7_sizeOf_26 rfl hl (by decide) rfl (fun ls hl => ?_)
        refine lv_iinc (v := x3 + (1 : Int32)) (lv' := [(3, .int (x3 + (1 : Int32))), (2, .int (x2 + (1 : Int32))), (0, .ref (gA G 0)), (1, .int x1)]) hx hb dX7_sizeOf_27 hl (k := 3) rfl rfl (by decide) rfl (fun ls hl => ?_)
        refine lv_goto (tgt := 4) hx hb dX7_sizeOf_30 (by decide) ?_
        exact ih x1 (x2 + (1 : Int32)) (x3 + (1 : Int32)) _ _ _ hf hF (lv_sub hl [2, 3, 1, 0] rfl)
set_option maxHeartbeats 4000000 in
set_option maxRecDepth 100000 in
theorem cX7_sizeOf_ok {l : Launch} {G : Gl} (hI : FI G wR) {x1 : Int32} {σ : Mem} {r : Int32} (hf : fX7_sizeOf x1 σ = some r) : Ct l G wR yX7_sizeOf cX7_sizeOf 4 (some .int) ({ frames := 4, cells := 0, slots := 0, locals := 90 }) [.ref (gA G 0), .int x1] σ (some (.int r)) σ := by
  refine fl_start hI (by decide) (Nat.le_of_ble_eq_true rfl) ?_
  intro p e s m below meth c M hF ls hl
  obtain ⟨X, hb, hml, hr, hlk⟩ := id M
  have hx := X.1
  have hl : lv_has ls 4 [(0, .ref (gA G 0)), (1, .int x1)] := hl
  unfold fX7_sizeOf at hf
  refine lv_iconst (v := (0 : Int32)) hx hb dX7_sizeOf_0 (by decide) ?_
  refine lv_istore_n (lv' := [(2, .int (0 : Int32)), (0, .ref (gA G 0)), (1, .int x1)]) hx hb dX7_sizeOf_1 rfl hl (by decide) rfl (fun ls hl => ?_)
  refine lv_iconst (v := (0 : Int32)) hx hb dX7_sizeOf_2 (by decide) ?_
  refine lv_istore_n (lv' := [(3, .int (0 : Int32)), (2, .int (0 : Int32)), (0, .ref (gA G 0)), (1, .int x1)]) hx hb dX7_sizeOf_3 rfl hl (by decide) rfl (fun ls hl => ?_)
  exact bX7_sizeOf_4 M FU x1 (0 : Int32) (0 : Int32) _ _ _ hf hF (lv_sub hl [2, 3, 1, 0] rfl)
set_option maxHeartbeats 4000000 in
set_option maxRecDepth 100000 in
theorem bX7_aheadOf_23 {σ : Mem} {r : Int32} {k4 : Int32 → Int32 → Int32 → Option Int32} (M : MX p s m args meth c RX7 G wR cX7_aheadOf 6 (some .int)) (hk4 : ∀ (x1 : Int32) (x2 : Int32) (x3 : Int32) (H : Heap) (locs : List Loc) (ls : Array Slot), k4 x1 x2 x3 = some r → FH G wR s.heap H locs σ → lv_has ls 6 [(0, .ref (gA G 0)), (1, .int x1), (2, .int x2), (3, .int x3)] → WG p l e ({ frames := 5, cells := 0, slots := 0, locals := 113 }) s m args below meth c G wR (some (.int r)) σ H locs 4 ls []) : ∀ (fu : Nat) (x1 : Int32) (x2 : Int32) (x3 : Int32) (x4 : Int32) (x5 : Int32) (H : Heap) (locs : List Loc) (ls : Array Slot), fX7_aheadOf_23 k4 σ fu x1 x2 x3 x4 x5 = some r → FH G wR s.heap H locs σ → lv_has ls 6 [(0, .ref (gA G 0)), (1, .int x1), (2, .int x2), (3, .int x3), (4, .int x4), (5, .int x5)] → WG p l e ({ frames := 5, cells := 0, slots := 0, locals := 113 }) s m args below meth c G wR (some (.int r)) σ H locs 23 ls [] := by
  obtain ⟨X, hb, hml, hr, hlk⟩ := id M
  have hx := X.1
  intro fu
  induction fu with
  | zero =>
    intro x1 x2 x3 x4 x5 H locs ls hf hF hl
    rw [fX7_aheadOf_23] at hf
    cases hf
  | succ fu ih =>
    intro x1 x2 x3 x4 x5 H locs ls hf hF hl
    rw [fX7_aheadOf_23] at hf
    refine lv_iload hx hb dX7_aheadOf_23 (lv_at hl 5 rfl) ?_
    refine lv_bipush (v := (8 : Int32)) hx hb dX7_aheadOf_25 (by decide) ?_
    refine lv_icmp_ge (tgt := 64) hx hb dX7_aheadOf_27 (by decide) (fun cd4 => ?_) (fun cd4 => ?_)
    · replace hf := ifp cd4 hf
      refine lv_iinc (v := x3 + (1 : Int32)) (lv' := [(3, .int (x3 + (1 : Int32))), (0, .ref (gA G 0)), (1, .int x1), (2, .int x2), (4, .int x4), (5, .int x5)]) hx hb dX7_aheadOf_64 hl (k := 3) rfl rfl (by decide) rfl (fun ls hl => ?_)
      refine lv_goto (tgt := 4) hx hb dX7_aheadOf_67 (by decide) ?_
      exact hk4 x1 x2 (x3 + (1 : Int32)) _ _ _ hf hF (lv_sub hl [1, 2, 3, 0] rfl)
    · replace hf := ifn cd4 hf
      refine lv_iload hx hb dX7_aheadOf_30 (lv_at hl 4 rfl) ?_
      refine lv_if_lt (tgt := 64) hx hb dX7_aheadOf_32 (by decide) (fun cd5 => ?_) (fun cd5 => ?_)
      · replace hf := ifp cd5 hf
        refine lv_iinc (v := x3 + (1 : Int32)) (lv' := [(3, .int (x3 + (1 : Int32))), (0, .ref (gA G 0)), (1, .int x1), (2, .int x2), (4, .int x4), (5, .int x5)]) hx hb dX7_aheadOf_64 hl (k := 3) rfl rfl (by decide) rfl (fun ls hl => ?_)
        refine lv_goto (tgt := 4) hx hb dX7_aheadOf_67 (by decide) ?_
        exact hk4 x1 x2 (x3 + (1 : Int32)) _ _ _ hf hF (lv_sub hl [1, 2, 3, 0] rfl)
      · replace hf := ifn cd5 hf
        refine lv_iload_n hx hb dX7_aheadOf_35 rfl (lv_at hl 2 rfl) ?_
        refine lv_aload_n hx hb dX7_aheadOf_36 rfl (lv_at hl 0 rfl) ?_
        refine lv_iload_n hx hb dX7_aheadOf_37 rfl (lv_at hl 3 rfl) ?_
        refine lv_iload hx hb dX7_aheadOf_38 (lv_at hl 5 rfl) ?_
        obtain ⟨r7, hq6, hf⟩ := bi_some hf
        refine cm_X7_141 (As := [.int x3, .int x5]) (rest := [.int x2]) X hb hml hF (cX7_yearIn_ok (l := l) (G := G) X.2.2.2.2 hq6) sh_X7 ⟨Nat.le_of_ble_eq_true rfl, Nat.le_of_ble_eq_true rfl⟩ rfl rfl ⟨Nat.zero_le _, Nat.zero_le _⟩ rfl hl.1 rfl (Nat.le_of_ble_eq_true rfl) dX7_aheadOf_40 (fun H locs hF => ?_)
        refine lv_iload hx hb dX7_aheadOf_43 (lv_at hl 4 rfl) ?_
        refine lv_icmp_le (tgt := 55) hx hb dX7_aheadOf_45 (by decide) (fun cd8 => ?_) (fun cd8 => ?_)
        · replace hf := ifp cd8 hf
          refine lv_iconst (v := (0 : Int32)) hx hb dX7_aheadOf_55 (by decide) ?_
          refine lv_ior hx hb dX7_aheadOf_56 ?_
          refine lv_istore_n (lv' := [(2, .int (x2 ||| (0 : Int32))), (0, .ref (gA G 0)), (1, .int x1), (3, .int x3), (4, .int x4), (5, .int x5)]) hx hb dX7_aheadOf_57 rfl hl (by decide) rfl (fun ls hl => ?_)
          refine lv_iinc (v := x5 + (1 : Int32)) (lv' := [(5, .int (x5 + (1 : Int32))), (2, .int (x2 ||| (0 : Int32))), (0, .ref (gA G 0)), (1, .int x1), (3, .int x3), (4, .int x4)]) hx hb dX7_aheadOf_58 hl (k := 5) rfl rfl (by decide) rfl (fun ls hl => ?_)
          refine lv_goto (tgt := 23) hx hb dX7_aheadOf_61 (by decide) ?_
          exact ih x1 (x2 ||| (0 : Int32)) x3 x4 (x5 + (1 : Int32)) _ _ _ hf hF (lv_sub hl [2, 3, 1, 4, 5, 0] rfl)
        · replace hf := ifn cd8 hf
          refine lv_iconst (v := (1 : Int32)) hx hb dX7_aheadOf_48 (by decide) ?_
          refine lv_iload hx hb dX7_aheadOf_49 (lv_at hl 5 rfl) ?_
          refine lv_ishl hx hb dX7_aheadOf_51 ?_
          refine lv_goto (tgt := 56) hx hb dX7_aheadOf_52 (by decide) ?_
          refine lv_ior hx hb dX7_aheadOf_56 ?_
          refine lv_istore_n (lv' := [(2, .int (x2 ||| ((1 : Int32) <<< (x5 &&& 31)))), (0, .ref (gA G 0)), (1, .int x1), (3, .int x3), (4, .int x4), (5, .int x5)]) hx hb dX7_aheadOf_57 rfl hl (by decide) rfl (fun ls hl => ?_)
          refine lv_iinc (v := x5 + (1 : Int32)) (lv' := [(5, .int (x5 + (1 : Int32))), (2, .int (x2 ||| ((1 : Int32) <<< (x5 &&& 31)))), (0, .ref (gA G 0)), (1, .int x1), (3, .int x3), (4, .int x4)]) hx hb dX7_aheadOf_58 hl (k := 5) rfl rfl (by decide) rfl (fun ls hl => ?_)
          refine lv_goto (tgt := 23) hx hb dX7_aheadOf_61 (by decide) ?_
          exact ih x1 (x2 ||| ((1 : Int32) <<< (x5 &&& 31))) x3 x4 (x5 + (1 : Int32)) _ _ _ hf hF (lv_sub hl [2, 3, 1, 4, 5, 0] rfl)
set_option maxHeartbeats 4000000 in
set_option maxRecDepth 100000 in
theorem bX7_aheadOf_4 {σ : Mem} {r : Int32} (M : MX p s m args meth c RX7 G wR cX7_aheadOf 6 (some .int)) : ∀ (fu : Nat) (x1 : Int32) (x2 : Int32) (x3 : Int32) (H : Heap) (locs : List Loc) (ls : Array Slot), fX7_aheadOf_4 σ fu x1 x2 x3 = some r → FH G wR s.heap H locs σ → lv_has ls 6 [(0, .ref (gA G 0)), (1, .int x1), (2, .int x2), (3, .int x3)] → WG p l e ({ frames := 5, cells := 0, slots := 0, locals := 113 }) s m args below meth c G wR (some (.int r)) σ H locs 4 ls [] := by
  obtain ⟨X, hb, hml, hr, hlk⟩ := id M
  have hx := X.1
  intro fu
  induction fu with
  | zero =>
    intro x1 x2 x3 H locs ls hf hF hl
    rw [fX7_aheadOf_4] at hf
    cases hf
  | succ fu ih =>
    intro x1 x2 x3 H locs ls hf hF hl
    rw [fX7_aheadOf_4] at hf
    refine lv_iload_n hx hb dX7_aheadOf_4 rfl (lv_at hl 3 rfl) ?_
    refine lv_aload_n hx hb dX7_aheadOf_5 rfl (lv_at hl 0 rfl) ?_
    refine gf_X7_120 X hb hF sh_X7 dX7_aheadOf_6 ?_
    refine lv_icmp_ge (tgt := 70) hx hb dX7_aheadOf_9 (by decide) (fun cd1 => ?_) (fun cd1 => ?_)
    · replace hf := ifp cd1 hf
      refine lv_iload_n hx hb dX7_aheadOf_70 rfl (lv_at hl 2 rfl) ?_
      obtain rfl := Option.some.inj hf
      exact fl_iret X hb hr hlk hF dX7_aheadOf_71
    · replace hf := ifn cd1 hf
      refine lv_aload_n hx hb dX7_aheadOf_12 rfl (lv_at hl 0 rfl) ?_
      refine lv_iload_n hx hb dX7_aheadOf_13 rfl (lv_at hl 3 rfl) ?_
      refine lv_iload_n hx hb dX7_aheadOf_14 rfl (lv_at hl 1 rfl) ?_
      obtain ⟨r3, hq2, hf⟩ := bi_some hf
      refine cm_X7_141 (As := [.int x3, .int x1]) (rest := []) X hb hml hF (cX7_yearIn_ok (l := l) (G := G) X.2.2.2.2 hq2) sh_X7 ⟨Nat.le_of_ble_eq_true rfl, Nat.le_of_ble_eq_true rfl⟩ rfl rfl ⟨Nat.zero_le _, Nat.zero_le _⟩ rfl hl.1 rfl (Nat.le_of_ble_eq_true rfl) dX7_aheadOf_15 (fun H locs hF => ?_)
      refine lv_istore (lv' := [(4, .int r3), (0, .ref (gA G 0)), (1, .int x1), (2, .int x2), (3, .int x3)]) hx hb dX7_aheadOf_18 hl (by decide) rfl (fun ls hl => ?_)
      refine lv_iconst (v := (0 : Int32)) hx hb dX7_aheadOf_20 (by decide) ?_
      refine lv_istore (lv' := [(5, .int (0 : Int32)), (4, .int r3), (0, .ref (gA G 0)), (1, .int x1), (2, .int x2), (3, .int x3)]) hx hb dX7_aheadOf_21 hl (by decide) rfl (fun ls hl => ?_)
      exact bX7_aheadOf_23 M ih FU x1 x2 x3 r3 (0 : Int32) _ _ _ hf hF (lv_sub hl [2, 3, 4, 5, 1, 0] rfl)
set_option maxHeartbeats 4000000 in
set_option maxRecDepth 100000 in
theorem cX7_aheadOf_ok {l : Launch} {G : Gl} (hI : FI G wR) {x1 : Int32} {σ : Mem} {r : Int32} (hf : fX7_aheadOf x1 σ = some r) : Ct l G wR yX7_aheadOf cX7_aheadOf 6 (some .int) ({ frames := 5, cells := 0, slots := 0, locals := 113 }) [.ref (gA G 0), .int x1] σ (some (.int r)) σ := by
  refine fl_start hI (by decide) (Nat.le_of_ble_eq_true rfl) ?_
  intro p e s m below meth c M hF ls hl
  obtain ⟨X, hb, hml, hr, hlk⟩ := id M
  have hx := X.1
  have hl : lv_has ls 6 [(0, .ref (gA G 0)), (1, .int x1)] := hl
  unfold fX7_aheadOf at hf
  refine lv_iconst (v := (0 : Int32)) hx hb dX7_aheadOf_0 (by decide) ?_
  refine lv_istore_n (lv' := [(2, .int (0 : Int32)), (0, .ref (gA G 0)), (1, .int x1)]) hx hb dX7_aheadOf_1 rfl hl (by decide) rfl (fun ls hl => ?_)
  refine lv_iconst (v := (0 : Int32)) hx hb dX7_aheadOf_2 (by decide) ?_
  refine lv_istore_n (lv' := [(3, .int (0 : Int32)), (2, .int (0 : Int32)), (0, .ref (gA G 0)), (1, .int x1)]) hx hb dX7_aheadOf_3 rfl hl (by decide) rfl (fun ls hl => ?_)
  exact bX7_aheadOf_4 M FU x1 (0 : Int32) (0 : Int32) _ _ _ hf hF (lv_sub hl [2, 3, 1, 0] rfl)
set_option maxHeartbeats 4000000 in
set_option maxRecDepth 100000 in
theorem bX7_laysChains_35 {σ' : Mem} {k27 : Int32 → Mem → Option Mem} (M : MX p s m args meth c RX7 G wR cX7_laysChains 5 none) (hk27 : ∀ (x1 : Int32) (σ : Mem) (H : Heap) (locs : List Loc) (ls : Array Slot), k27 x1 σ = some σ' → FH G wR s.heap H locs σ → lv_has ls 5 [(0, .ref (gA G 0)), (1, .int x1)] → WG p l e ({ frames := 6, cells := 0, slots := 0, locals := 138 }) s m args below meth c G wR none σ' H locs 27 ls []) : ∀ (fu : Nat) (x1 : Int32) (x2 : Int32) (σ : Mem) (H : Heap) (locs : List Loc) (ls : Array Slot), fX7_laysChains_35 k27 fu x1 x2 σ = some σ' → FH G wR s.heap H locs σ → lv_has ls 5 [(0, .ref (gA G 0)), (1, .int x1), (2, .int x2)] → WG p l e ({ frames := 6, cells := 0, slots := 0, locals := 138 }) s m args below meth c G wR none σ' H locs 35 ls [] := by
  obtain ⟨X, hb, hml, hr, hlk⟩ := id M
  have hx := X.1
  intro fu
  induction fu with
  | zero =>
    intro x1 x2 σ H locs ls hf hF hl
    rw [fX7_laysChains_35] at hf
    cases hf
  | succ fu ih =>
    intro x1 x2 σ H locs ls hf hF hl
    rw [fX7_laysChains_35] at hf
    refine lv_iload_n hx hb dX7_laysChains_35 rfl (lv_at hl 2 rfl) ?_
    refine lv_bipush (v := (64 : Int32)) hx hb dX7_laysChains_36 (by decide) ?_
    refine lv_icmp_ge (tgt := 109) hx hb dX7_laysChains_38 (by decide) (fun cd3 => ?_) (fun cd3 => ?_)
    · replace hf := ifp cd3 hf
      refine lv_goto (tgt := 27) hx hb dX7_laysChains_109 (by decide) ?_
      exact hk27 x1 σ _ _ _ hf hF (lv_sub hl [0, 1] rfl)
    · replace hf := ifn cd3 hf
      refine lv_iload_n hx hb dX7_laysChains_41 rfl (lv_at hl 2 rfl) ?_
      refine lv_bipush (v := (8 : Int32)) hx hb dX7_laysChains_42 (by decide) ?_
      refine lv_idiv hx hb dX7_laysChains_44 (by decide) ?_
      refine lv_istore_n (lv' := [(3, .int (x2 / (8 : Int32))), (0, .ref (gA G 0)), (1, .int x1), (2, .int x2)]) hx hb dX7_laysChains_45 rfl hl (by decide) rfl (fun ls hl => ?_)
      refine lv_iload_n hx hb dX7_laysChains_46 rfl (lv_at hl 3 rfl) ?_
      refine lv_bipush (v := (8 : Int32)) hx hb dX7_laysChains_47 (by decide) ?_
      refine lv_irem hx hb dX7_laysChains_49 (by decide) ?_
      refine lv_istore (lv' := [(4, .int (x2 - x2 / (8 : Int32) * (8 : Int32))), (3, .int (x2 / (8 : Int32))), (0, .ref (gA G 0)), (1, .int x1), (2, .int x2)]) hx hb dX7_laysChains_50 hl (by decide) rfl (fun ls hl => ?_)
      refine lv_aload_n hx hb dX7_laysChains_52 rfl (lv_at hl 2 rfl) ?_
      refine gf_X7_42 X hb hF sh_X7 dX7_laysChains_53 ?_
      refine lv_iload_n hx hb dX7_laysChains_56 rfl (lv_at hl 1 rfl) ?_
      obtain ⟨g4, hf⟩ := grd_some hf
      refine fl_iald X hb hF sh_r10 g4 dX7_laysChains_57 ?_
      refine lv_iload hx hb dX7_laysChains_58 (lv_at hl 0 rfl) ?_
      obtain ⟨r6, hq5, hf⟩ := bi_some hf
      refine cm_X7_135 (As := [.int (σ 10 (x2 / (8 : Int32)).toNatClampNeg), .int (x2 - x2 / (8 : Int32) * (8 : Int32))]) (rest := []) X hb hml hF (cX7_has_ok (l := l) (G := G) (σ := σ) X.2.2.2.2 hq5) ⟨Nat.le_of_ble_eq_true rfl, Nat.le_of_ble_eq_true rfl⟩ rfl rfl ⟨Nat.zero_le _, Nat.zero_le _⟩ rfl hl.1 rfl (Nat.le_of_ble_eq_true rfl) dX7_laysChains_60 (fun H locs hF => ?_)
      refine lv_if_eq (tgt := 103) hx hb dX7_laysChains_63 (by decide) (fun cd7 => ?_) (fun cd7 => ?_)
      · replace hf := ifp cd7 hf
        refine lv_iinc (v := x2 + (1 : Int32)) (lv' := [(2, .int (x2 + (1 : Int32))), (4, .int (x2 - x2 / (8 : Int32) * (8 : Int32))), (3, .int (x2 / (8 : Int32))), (0, .ref (gA G 0)), (1, .int x1)]) hx hb dX7_laysChains_103 hl (k := 4) rfl rfl (by decide) rfl (fun ls hl => ?_)
        refine lv_goto (tgt := 35) hx hb dX7_laysChains_106 (by decide) ?_
        exact ih x1 (x2 + (1 : Int32)) σ _ _ _ hf hF (lv_sub hl [3, 4, 0] rfl)
      · replace hf := ifn cd7 hf
        refine lv_aload_n hx hb dX7_laysChains_66 rfl (lv_at hl 2 rfl) ?_
        refine gf_X7_42 X hb hF sh_X7 dX7_laysChains_67 ?_
        refine lv_iload hx hb dX7_laysChains_70 (lv_at hl 0 rfl) ?_
        obtain ⟨g8, hf⟩ := grd_some hf
        refine fl_iald X hb hF sh_r10 g8 dX7_laysChains_72 ?_
        refine lv_aload_n hx hb dX7_laysChains_73 rfl (lv_at hl 2 rfl) ?_
        refine gf_X7_42 X hb hF sh_X7 dX7_laysChains_74 ?_
        refine lv_iload_n hx hb dX7_laysChains_77 rfl (lv_at hl 1 rfl) ?_
        obtain ⟨g9, hf⟩ := grd_some hf
        refine fl_iald X hb hF sh_r10 g9 dX7_laysChains_78 ?_
        refine lv_iconst (v := (-1 : Int32)) hx hb dX7_laysChains_79 (by decide) ?_
        refine lv_ixor hx hb dX7_laysChains_80 ?_
        refine lv_iand hx hb dX7_laysChains_81 ?_
        refine lv_if_eq (tgt := 103) hx hb dX7_laysChains_82 (by decide) (fun cd10 => ?_) (fun cd10 => ?_)
        · replace hf := ifp cd10 hf
          refine lv_iinc (v := x2 + (1 : Int32)) (lv' := [(2, .int (x2 + (1 : Int32))), (4, .int (x2 - x2 / (8 : Int32) * (8 : Int32))), (3, .int (x2 / (8 : Int32))), (0, .ref (gA G 0)), (1, .int x1)]) hx hb dX7_laysChains_103 hl (k := 4) rfl rfl (by decide) rfl (fun ls hl => ?_)
          refine lv_goto (tgt := 35) hx hb dX7_laysChains_106 (by decide) ?_
          exact ih x1 (x2 + (1 : Int32)) σ _ _ _ hf hF (lv_sub hl [3, 4, 0] rfl)
        · replace hf := ifn cd10 hf
          refine lv_aload_n hx hb dX7_laysChains_85 rfl (lv_at hl 2 rfl) ?_
          refine gf_X7_42 X hb hF sh_X7 dX7_laysChains_86 ?_
          refine lv_iload_n hx hb dX7_laysChains_89 rfl (lv_at hl 1 rfl) ?_
          refine lv_dup2_11 hx hb dX7_laysChains_90 rfl rfl ?_
          obtain ⟨g11, hf⟩ := grd_some hf
          refine fl_iald X hb hF sh_r10 g11 dX7_laysChains_91 ?_
          refine lv_aload_n hx hb dX7_laysChains_92 rfl (lv_at hl 2 rfl) ?_
          refine gf_X7_42 X hb hF sh_X7 dX7_laysChains_93 ?_
          refine lv_iload hx hb dX7_laysChains_96 (lv_at hl 0 rfl) ?_
          obtain ⟨g12, hf⟩ := grd_some hf
          refine fl_iald X hb hF sh_r10 g12 dX7_laysChains_98 ?_
          refine lv_ior hx hb dX7_laysChains_99 ?_
          obtain ⟨g13, hf⟩ := grd_some hf
          refine fl_iast X hb hF sh_r10 g13 dX7_laysChains_100 (fun H locs hF => ?_)
          refine lv_iconst (v := (1 : Int32)) hx hb dX7_laysChains_101 (by decide) ?_
          refine lv_istore_n (lv' := [(1, .int (1 : Int32)), (4, .int (x2 - x2 / (8 : Int32) * (8 : Int32))), (3, .int (x2 / (8 : Int32))), (0, .ref (gA G 0)), (2, .int x2)]) hx hb dX7_laysChains_102 rfl hl (by decide) rfl (fun ls hl => ?_)
          refine lv_iinc (v := x2 + (1 : Int32)) (lv' := [(2, .int (x2 + (1 : Int32))), (1, .int (1 : Int32)), (4, .int (x2 - x2 / (8 : Int32) * (8 : Int32))), (3, .int (x2 / (8 : Int32))), (0, .ref (gA G 0))]) hx hb dX7_laysChains_103 hl (k := 4) rfl rfl (by decide) rfl (fun ls hl => ?_)
          refine lv_goto (tgt := 35) hx hb dX7_laysChains_106 (by decide) ?_
          exact ih (1 : Int32) (x2 + (1 : Int32)) (mup σ 10 (x2 / (8 : Int32)).toNatClampNeg ((σ 10 (x2 / (8 : Int32)).toNatClampNeg) ||| (σ 10 (x2 - x2 / (8 : Int32) * (8 : Int32)).toNatClampNeg))) _ _ _ hf hF (lv_sub hl [4, 1, 0] rfl)
set_option maxHeartbeats 4000000 in
set_option maxRecDepth 100000 in
theorem bX7_laysChains_27 {σ' : Mem} (M : MX p s m args meth c RX7 G wR cX7_laysChains 5 none) : ∀ (fu : Nat) (x1 : Int32) (σ : Mem) (H : Heap) (locs : List Loc) (ls : Array Slot), fX7_laysChains_27 fu x1 σ = some σ' → FH G wR s.heap H locs σ → lv_has ls 5 [(0, .ref (gA G 0)), (1, .int x1)] → WG p l e ({ frames := 6, cells := 0, slots := 0, locals := 138 }) s m args below meth c G wR none σ' H locs 27 ls [] := by
  obtain ⟨X, hb, hml, hr, hlk⟩ := id M
  have hx := X.1
  intro fu
  induction fu with
  | zero =>
    intro x1 σ H locs ls hf hF hl
    rw [fX7_laysChains_27] at hf
    cases hf
  | succ fu ih =>
    intro x1 σ H locs ls hf hF hl
    rw [fX7_laysChains_27] at hf
    refine lv_iload_n hx hb dX7_laysChains_27 rfl (lv_at hl 1 rfl) ?_
    refine lv_if_eq (tgt := 112) hx hb dX7_laysChains_28 (by decide) (fun cd2 => ?_) (fun cd2 => ?_)
    · replace hf := ifp cd2 hf
      obtain rfl := Option.some.inj hf
      exact fl_vret X hb hr hlk hF dX7_laysChains_112
    · replace hf := ifn cd2 hf
      refine lv_iconst (v := (0 : Int32)) hx hb dX7_laysChains_31 (by decide) ?_
      refine lv_istore_n (lv' := [(1, .int (0 : Int32)), (0, .ref (gA G 0))]) hx hb dX7_laysChains_32 rfl hl (by decide) rfl (fun ls hl => ?_)
      refine lv_iconst (v := (0 : Int32)) hx hb dX7_laysChains_33 (by decide) ?_
      refine lv_istore_n (lv' := [(2, .int (0 : Int32)), (1, .int (0 : Int32)), (0, .ref (gA G 0))]) hx hb dX7_laysChains_34 rfl hl (by decide) rfl (fun ls hl => ?_)
      exact bX7_laysChains_35 M ih FU (0 : Int32) (0 : Int32) σ _ _ _ hf hF (lv_sub hl [2, 1, 0] rfl)
set_option maxHeartbeats 4000000 in
set_option maxRecDepth 100000 in
theorem bX7_laysChains_2 {σ' : Mem} (M : MX p s m args meth c RX7 G wR cX7_laysChains 5 none) : ∀ (fu : Nat) (x1 : Int32) (σ : Mem) (H : Heap) (locs : List Loc) (ls : Array Slot), fX7_laysChains_2 fu x1 σ = some σ' → FH G wR s.heap H locs σ → lv_has ls 5 [(0, .ref (gA G 0)), (1, .int x1)] → WG p l e ({ frames := 6, cells := 0, slots := 0, locals := 138 }) s m args below meth c G wR none σ' H locs 2 ls [] := by
  obtain ⟨X, hb, hml, hr, hlk⟩ := id M
  have hx := X.1
  intro fu
  induction fu with
  | zero =>
    intro x1 σ H locs ls hf hF hl
    rw [fX7_laysChains_2] at hf
    cases hf
  | succ fu ih =>
    intro x1 σ H locs ls hf hF hl
    rw [fX7_laysChains_2] at hf
    refine lv_iload_n hx hb dX7_laysChains_2 rfl (lv_at hl 1 rfl) ?_
    refine lv_bipush (v := (8 : Int32)) hx hb dX7_laysChains_3 (by decide) ?_
    refine lv_icmp_ge (tgt := 25) hx hb dX7_laysChains_5 (by decide) (fun cd1 => ?_) (fun cd1 => ?_)
    · replace hf := ifp cd1 hf
      refine lv_iconst (v := (1 : Int32)) hx hb dX7_laysChains_25 (by decide) ?_
      refine lv_istore_n (lv' := [(1, .int (1 : Int32)), (0, .ref (gA G 0))]) hx hb dX7_laysChains_26 rfl hl (by decide) rfl (fun ls hl => ?_)
      exact bX7_laysChains_27 M FU (1 : Int32) σ _ _ _ hf hF (lv_sub hl [1, 0] rfl)
    · replace hf := ifn cd1 hf
      refine lv_aload_n hx hb dX7_laysChains_8 rfl (lv_at hl 0 rfl) ?_
      refine gf_X7_42 X hb hF sh_X7 dX7_laysChains_9 ?_
      refine lv_iload_n hx hb dX7_laysChains_12 rfl (lv_at hl 1 rfl) ?_
      refine lv_aload_n hx hb dX7_laysChains_13 rfl (lv_at hl 0 rfl) ?_
      refine lv_iload_n hx hb dX7_laysChains_14 rfl (lv_at hl 1 rfl) ?_
      obtain ⟨r15, hq14, hf⟩ := bi_some hf
      refine cm_X7_145 (As := [.int x1]) (rest := [.int x1, .ref (gA G 10)]) X hb hml hF (cX7_aheadOf_ok (l := l) (G := G) X.2.2.2.2 hq14) sh_X7 ⟨Nat.le_of_ble_eq_true rfl, Nat.le_of_ble_eq_true rfl⟩ rfl rfl ⟨Nat.zero_le _, Nat.zero_le _⟩ rfl hl.1 rfl (Nat.le_of_ble_eq_true rfl) dX7_laysChains_15 (fun H locs hF => ?_)
      obtain ⟨g16, hf⟩ := grd_some hf
      refine fl_iast X hb hF sh_r10 g16 dX7_laysChains_18 (fun H locs hF => ?_)
      refine lv_iinc (v := x1 + (1 : Int32)) (lv' := [(1, .int (x1 + (1 : Int32))), (0, .ref (gA G 0))]) hx hb dX7_laysChains_19 hl (k := 1) rfl rfl (by decide) rfl (fun ls hl => ?_)
      refine lv_goto (tgt := 2) hx hb dX7_laysChains_22 (by decide) ?_
      exact ih (x1 + (1 : Int32)) (mup σ 10 x1.toNatClampNeg r15) _ _ _ hf hF (lv_sub hl [1, 0] rfl)
set_option maxHeartbeats 4000000 in
set_option maxRecDepth 100000 in
theorem cX7_laysChains_ok {l : Launch} {G : Gl} (hI : FI G wR) {σ : Mem} {σ' : Mem} (hf : fX7_laysChains σ = some σ') : Ct l G wR yX7_laysChains cX7_laysChains 5 none ({ frames := 6, cells := 0, slots := 0, locals := 138 }) [.ref (gA G 0)] σ none σ' := by
  refine fl_start hI (by decide) (Nat.le_of_ble_eq_true rfl) ?_
  intro p e s m below meth c M hF ls hl
  obtain ⟨X, hb, hml, hr, hlk⟩ := id M
  have hx := X.1
  have hl : lv_has ls 5 [(0, .ref (gA G 0))] := hl
  unfold fX7_laysChains at hf
  refine lv_iconst (v := (0 : Int32)) hx hb dX7_laysChains_0 (by decide) ?_
  refine lv_istore_n (lv' := [(1, .int (0 : Int32)), (0, .ref (gA G 0))]) hx hb dX7_laysChains_1 rfl hl (by decide) rfl (fun ls hl => ?_)
  exact bX7_laysChains_2 M FU (0 : Int32) σ _ _ _ hf hF (lv_sub hl [1, 0] rfl)
set_option maxHeartbeats 4000000 in
set_option maxRecDepth 100000 in
theorem bX7_knots_8 {r : Int32} {σ' : Mem} (M : MX p s m args meth c RX7 G wR cX7_knots 3 (some .int)) : ∀ (fu : Nat) (x1 : Int32) (x2 : Int32) (σ : Mem) (H : Heap) (locs : List Loc) (ls : Array Slot), fX7_knots_8 fu x1 x2 σ = some (r, σ') → FH G wR s.heap H locs σ → lv_has ls 3 [(0, .ref (gA G 0)), (1, .int x1), (2, .int x2)] → WG p l e ({ frames := 7, cells := 0, slots := 0, locals := 162 }) s m args below meth c G wR (some (.int r)) σ' H locs 8 ls [] := by
  obtain ⟨X, hb, hml, hr, hlk⟩ := id M
  have hx := X.1
  intro fu
  induction fu with
  | zero =>
    intro x1 x2 σ H locs ls hf hF hl
    rw [fX7_knots_8] at hf
    cases hf
  | succ fu ih =>
    intro x1 x2 σ H locs ls hf hF hl
    rw [fX7_knots_8] at hf
    refine lv_iload_n hx hb dX7_knots_8 rfl (lv_at hl 2 rfl) ?_
    refine lv_bipush (v := (8 : Int32)) hx hb dX7_knots_9 (by decide) ?_
    refine lv_icmp_ge (tgt := 33) hx hb dX7_knots_11 (by decide) (fun cd3 => ?_) (fun cd3 => ?_)
    · replace hf := ifp cd3 hf
      refine lv_iload_n hx hb dX7_knots_33 rfl (lv_at hl 1 rfl) ?_
      obtain ⟨rfl, rfl⟩ := Prod.mk.inj (Option.some.inj hf)
      exact fl_iret X hb hr hlk hF dX7_knots_34
    · replace hf := ifn cd3 hf
      refine lv_iload_n hx hb dX7_knots_14 rfl (lv_at hl 1 rfl) ?_
      refine lv_aload_n hx hb dX7_knots_15 rfl (lv_at hl 0 rfl) ?_
      refine gf_X7_42 X hb hF sh_X7 dX7_knots_16 ?_
      refine lv_iload_n hx hb dX7_knots_19 rfl (lv_at hl 2 rfl) ?_
      obtain ⟨g4, hf⟩ := grd_some hf
      refine fl_iald X hb hF sh_r10 g4 dX7_knots_20 ?_
      refine lv_iconst (v := (1 : Int32)) hx hb dX7_knots_21 (by decide) ?_
      refine lv_iload_n hx hb dX7_knots_22 rfl (lv_at hl 2 rfl) ?_
      refine lv_ishl hx hb dX7_knots_23 ?_
      refine lv_iand hx hb dX7_knots_24 ?_
      refine lv_ior hx hb dX7_knots_25 ?_
      refine lv_istore_n (lv' := [(1, .int (x1 ||| ((σ 10 x2.toNatClampNeg) &&& ((1 : Int32) <<< (x2 &&& 31))))), (0, .ref (gA G 0)), (2, .int x2)]) hx hb dX7_knots_26 rfl hl (by decide) rfl (fun ls hl => ?_)
      refine lv_iinc (v := x2 + (1 : Int32)) (lv' := [(2, .int (x2 + (1 : Int32))), (1, .int (x1 ||| ((σ 10 x2.toNatClampNeg) &&& ((1 : Int32) <<< (x2 &&& 31))))), (0, .ref (gA G 0))]) hx hb dX7_knots_27 hl (k := 2) rfl rfl (by decide) rfl (fun ls hl => ?_)
      refine lv_goto (tgt := 8) hx hb dX7_knots_30 (by decide) ?_
      exact ih (x1 ||| ((σ 10 x2.toNatClampNeg) &&& ((1 : Int32) <<< (x2 &&& 31)))) (x2 + (1 : Int32)) σ _ _ _ hf hF (lv_sub hl [2, 1, 0] rfl)
set_option maxHeartbeats 4000000 in
set_option maxRecDepth 100000 in
theorem cX7_knots_ok {l : Launch} {G : Gl} (hI : FI G wR) {σ : Mem} {r : Int32} {σ' : Mem} (hf : fX7_knots σ = some (r, σ')) : Ct l G wR yX7_knots cX7_knots 3 (some .int) ({ frames := 7, cells := 0, slots := 0, locals := 162 }) [.ref (gA G 0)] σ (some (.int r)) σ' := by
  refine fl_start hI (by decide) (Nat.le_of_ble_eq_true rfl) ?_
  intro p e s m below meth c M hF ls hl
  obtain ⟨X, hb, hml, hr, hlk⟩ := id M
  have hx := X.1
  have hl : lv_has ls 3 [(0, .ref (gA G 0))] := hl
  unfold fX7_knots at hf
  refine lv_aload_n hx hb dX7_knots_0 rfl (lv_at hl 0 rfl) ?_
  obtain ⟨σ2, hq1, hf⟩ := bv_some hf
  refine cm_X7_149 (As := []) (rest := []) X hb hml hF (cX7_laysChains_ok (l := l) (G := G) X.2.2.2.2 hq1) sh_X7 ⟨Nat.le_of_ble_eq_true rfl, Nat.le_of_ble_eq_true rfl⟩ rfl rfl ⟨Nat.zero_le _, Nat.zero_le _⟩ rfl hl.1 rfl (Nat.le_of_ble_eq_true rfl) dX7_knots_1 (fun H locs hF => ?_)
  refine lv_iconst (v := (0 : Int32)) hx hb dX7_knots_4 (by decide) ?_
  refine lv_istore_n (lv' := [(1, .int (0 : Int32)), (0, .ref (gA G 0))]) hx hb dX7_knots_5 rfl hl (by decide) rfl (fun ls hl => ?_)
  refine lv_iconst (v := (0 : Int32)) hx hb dX7_knots_6 (by decide) ?_
  refine lv_istore_n (lv' := [(2, .int (0 : Int32)), (1, .int (0 : Int32)), (0, .ref (gA G 0))]) hx hb dX7_knots_7 rfl hl (by decide) rfl (fun ls hl => ?_)
  exact bX7_knots_8 M FU (0 : Int32) (0 : Int32) σ2 _ _ _ hf hF (lv_sub hl [2, 1, 0] rfl)
set_option maxHeartbeats 4000000 in
set_option maxRecDepth 100000 in
theorem bX7_both_5 {r : Int32} {σ' : Mem} (M : MX p s m args meth c RX7 G wR cX7_both 6 (some .int)) : ∀ (fu : Nat) (x1 : Int32) (x2 : Int32) (x3 : Int32) (x4 : Int32) (σ : Mem) (H : Heap) (locs : List Loc) (ls : Array Slot), fX7_both_5 fu x1 x2 x3 x4 σ = some (r, σ') → FH G wR s.heap H locs σ → lv_has ls 6 [(0, .ref (gA G 0)), (1, .int x1), (2, .int x2), (3, .int x3), (4, .int x4)] → WG p l e ({ frames := 5, cells := 0, slots := 0, locals := 113 }) s m args below meth c G wR (some (.int r)) σ' H locs 5 ls [] := by
  obtain ⟨X, hb, hml, hr, hlk⟩ := id M
  have hx := X.1
  intro fu
  induction fu with
  | zero =>
    intro x1 x2 x3 x4 σ H locs ls hf hF hl
    rw [fX7_both_5] at hf
    cases hf
  | succ fu ih =>
    intro x1 x2 x3 x4 σ H locs ls hf hF hl
    rw [fX7_both_5] at hf
    refine lv_iload hx hb dX7_both_5 (lv_at hl 4 rfl) ?_
    refine lv_bipush (v := (6 : Int32)) hx hb dX7_both_7 (by decide) ?_
    refine lv_icmp_ge (tgt := 96) hx hb dX7_both_9 (by decide) (fun cd1 => ?_) (fun cd1 => ?_)
    · replace hf := ifp cd1 hf
      refine lv_iload_n hx hb dX7_both_96 rfl (lv_at hl 3 rfl) ?_
      obtain ⟨rfl, rfl⟩ := Prod.mk.inj (Option.some.inj hf)
      exact fl_iret X hb hr hlk hF dX7_both_97
    · replace hf := ifn cd1 hf
      refine lv_bipush (v := (6 : Int32)) hx hb dX7_both_12 (by decide) ?_
      refine lv_iload_n hx hb dX7_both_14 rfl (lv_at hl 1 rfl) ?_
      refine lv_imul hx hb dX7_both_15 ?_
      refine lv_iload hx hb dX7_both_16 (lv_at hl 4 rfl) ?_
      refine lv_iadd hx hb dX7_both_18 ?_
      refine lv_istore (lv' := [(5, .int (((6 : Int32) * x1) + x4)), (0, .ref (gA G 0)), (1, .int x1), (2, .int x2), (3, .int x3), (4, .int x4)]) hx hb dX7_both_19 hl (by decide) rfl (fun ls hl => ?_)
      refine lv_aload_n hx hb dX7_both_21 rfl (lv_at hl 1 rfl) ?_
      refine lv_iload_n hx hb dX7_both_22 rfl (lv_at hl 2 rfl) ?_
      refine lv_iload hx hb dX7_both_23 (lv_at hl 5 rfl) ?_
      obtain ⟨r3, hq2, hf⟩ := bi_some hf
      refine cm_X7_138 (As := [.int x1, .int x4]) (rest := []) X hb hml hF (cX7_counts_ok (l := l) (G := G) X.2.2.2.2 hq2) sh_X7 ⟨Nat.le_of_ble_eq_true rfl, Nat.le_of_ble_eq_true rfl⟩ rfl rfl ⟨Nat.zero_le _, Nat.zero_le _⟩ rfl hl.1 rfl (Nat.le_of_ble_eq_true rfl) dX7_both_25 (fun H locs hF => ?_)
      refine lv_if_eq (tgt := 90) hx hb dX7_both_28 (by decide) (fun cd4 => ?_) (fun cd4 => ?_)
      · replace hf := ifp cd4 hf
        refine lv_iinc (v := x4 + (1 : Int32)) (lv' := [(4, .int (x4 + (1 : Int32))), (5, .int (((6 : Int32) * x1) + x4)), (0, .ref (gA G 0)), (1, .int x1), (2, .int x2), (3, .int x3)]) hx hb dX7_both_90 hl (k := 5) rfl rfl (by decide) rfl (fun ls hl => ?_)
        refine lv_goto (tgt := 5) hx hb dX7_both_93 (by decide) ?_
        exact ih x1 x2 x3 (x4 + (1 : Int32)) σ _ _ _ hf hF (lv_sub hl [2, 3, 4, 5, 0] rfl)
      · replace hf := ifn cd4 hf
        refine lv_aload_n hx hb dX7_both_31 rfl (lv_at hl 1 rfl) ?_
        refine lv_iload_n hx hb dX7_both_32 rfl (lv_at hl 3 rfl) ?_
        refine lv_aload_n hx hb dX7_both_33 rfl (lv_at hl 1 rfl) ?_
        refine gf_X7_26 X hb hF sh_X7 dX7_both_34 ?_
        refine lv_iload hx hb dX7_both_37 (lv_at hl 0 rfl) ?_
        obtain ⟨g5, hf⟩ := grd_some hf
        refine fl_iald X hb hF sh_r6 g5 dX7_both_39 ?_
        obtain ⟨r7, hq6, hf⟩ := bi_some hf
        refine cm_X7_141 (As := [.int x2, .int (σ 6 (((6 : Int32) * x1) + x4).toNatClampNeg)]) (rest := []) X hb hml hF (cX7_yearIn_ok (l := l) (G := G) X.2.2.2.2 hq6) sh_X7 ⟨Nat.le_of_ble_eq_true rfl, Nat.le_of_ble_eq_true rfl⟩ rfl rfl ⟨Nat.zero_le _, Nat.zero_le _⟩ rfl hl.1 rfl (Nat.le_of_ble_eq_true rfl) dX7_both_40 (fun H locs hF => ?_)
        refine lv_if_lt (tgt := 90) hx hb dX7_both_43 (by decide) (fun cd8 => ?_) (fun cd8 => ?_)
        · replace hf := ifp cd8 hf
          refine lv_iinc (v := x4 + (1 : Int32)) (lv' := [(4, .int (x4 + (1 : Int32))), (5, .int (((6 : Int32) * x1) + x4)), (0, .ref (gA G 0)), (1, .int x1), (2, .int x2), (3, .int x3)]) hx hb dX7_both_90 hl (k := 5) rfl rfl (by decide) rfl (fun ls hl => ?_)
          refine lv_goto (tgt := 5) hx hb dX7_both_93 (by decide) ?_
          exact ih x1 x2 x3 (x4 + (1 : Int32)) σ _ _ _ hf hF (lv_sub hl [2, 3, 4, 5, 0] rfl)
        · replace hf := ifn cd8 hf
          refine lv_aload_n hx hb dX7_both_46 rfl (lv_at hl 1 rfl) ?_
          refine gf_X7_45 X hb hF sh_X7 dX7_both_47 ?_
          refine lv_iload_n hx hb dX7_both_50 rfl (lv_at hl 4 rfl) ?_
          refine lv_aload_n hx hb dX7_both_51 rfl (lv_at hl 1 rfl) ?_
          refine gf_X7_26 X hb hF sh_X7 dX7_both_52 ?_
          refine lv_iload hx hb dX7_both_55 (lv_at hl 0 rfl) ?_
          obtain ⟨g9, hf⟩ := grd_some hf
          refine fl_iald X hb hF sh_r6 g9 dX7_both_57 ?_
          obtain ⟨g10, hf⟩ := grd_some hf
          refine fl_iast X hb hF sh_r11 g10 dX7_both_58 (fun H locs hF => ?_)
          refine lv_aload_n hx hb dX7_both_59 rfl (lv_at hl 1 rfl) ?_
          refine gf_X7_48 X hb hF sh_X7 dX7_both_60 ?_
          refine lv_iload_n hx hb dX7_both_63 rfl (lv_at hl 4 rfl) ?_
          refine lv_aload_n hx hb dX7_both_64 rfl (lv_at hl 1 rfl) ?_
          refine lv_iload_n hx hb dX7_both_65 rfl (lv_at hl 3 rfl) ?_
          refine lv_aload_n hx hb dX7_both_66 rfl (lv_at hl 1 rfl) ?_
          refine gf_X7_26 X hb hF sh_X7 dX7_both_67 ?_
          refine lv_iload hx hb dX7_both_70 (lv_at hl 0 rfl) ?_
          obtain ⟨g11, hf⟩ := grd_some hf
          refine fl_iald X hb hF sh_r6 g11 dX7_both_72 ?_
          obtain ⟨r13, hq12, hf⟩ := bi_some hf
          refine cm_X7_141 (As := [.int x2, .int ((mup σ 11 x3.toNatClampNeg (σ 6 (((6 : Int32) * x1) + x4).toNatClampNeg)) 6 (((6 : Int32) * x1) + x4).toNatClampNeg)]) (rest := [.int x3, .ref (gA G 12)]) X hb hml hF (cX7_yearIn_ok (l := l) (G := G) X.2.2.2.2 hq12) sh_X7 ⟨Nat.le_of_ble_eq_true rfl, Nat.le_of_ble_eq_true rfl⟩ rfl rfl ⟨Nat.zero_le _, Nat.zero_le _⟩ rfl hl.1 rfl (Nat.le_of_ble_eq_true rfl) dX7_both_73 (fun H locs hF => ?_)
          refine lv_aload_n hx hb dX7_both_76 rfl (lv_at hl 1 rfl) ?_
          refine gf_X7_7 X hb hF sh_X7 dX7_both_77 ?_
          refine lv_iconst (v := (1 : Int32)) hx hb dX7_both_80 (by decide) ?_
          refine lv_iload hx hb dX7_both_81 (lv_at hl 0 rfl) ?_
          refine lv_iadd hx hb dX7_both_83 ?_
          obtain ⟨g14, hf⟩ := grd_some hf
          refine fl_iald X hb hF sh_r1 g14 dX7_both_84 ?_
          refine lv_isub hx hb dX7_both_85 ?_
          obtain ⟨g15, hf⟩ := grd_some hf
          refine fl_iast X hb hF sh_r12 g15 dX7_both_86 (fun H locs hF => ?_)
          refine lv_iinc (v := x3 + (1 : Int32)) (lv' := [(3, .int (x3 + (1 : Int32))), (5, .int (((6 : Int32) * x1) + x4)), (0, .ref (gA G 0)), (1, .int x1), (2, .int x2), (4, .int x4)]) hx hb dX7_both_87 hl (k := 4) rfl rfl (by decide) rfl (fun ls hl => ?_)
          refine lv_iinc (v := x4 + (1 : Int32)) (lv' := [(4, .int (x4 + (1 : Int32))), (3, .int (x3 + (1 : Int32))), (5, .int (((6 : Int32) * x1) + x4)), (0, .ref (gA G 0)), (1, .int x1), (2, .int x2)]) hx hb dX7_both_90 hl (k := 5) rfl rfl (by decide) rfl (fun ls hl => ?_)
          refine lv_goto (tgt := 5) hx hb dX7_both_93 (by decide) ?_
          exact ih x1 x2 (x3 + (1 : Int32)) (x4 + (1 : Int32)) (mup (mup σ 11 x3.toNatClampNeg (σ 6 (((6 : Int32) * x1) + x4).toNatClampNeg)) 12 x3.toNatClampNeg (r13 - ((mup σ 11 x3.toNatClampNeg (σ 6 (((6 : Int32) * x1) + x4).toNatClampNeg)) 1 ((1 : Int32) + (((6 : Int32) * x1) + x4)).toNatClampNeg))) _ _ _ hf hF (lv_sub hl [3, 4, 5, 1, 0] rfl)
set_option maxHeartbeats 4000000 in
set_option maxRecDepth 100000 in
theorem cX7_both_ok {l : Launch} {G : Gl} (hI : FI G wR) {x1 : Int32} {x2 : Int32} {σ : Mem} {r : Int32} {σ' : Mem} (hf : fX7_both x1 x2 σ = some (r, σ')) : Ct l G wR yX7_both cX7_both 6 (some .int) ({ frames := 5, cells := 0, slots := 0, locals := 113 }) [.ref (gA G 0), .int x1, .int x2] σ (some (.int r)) σ' := by
  refine fl_start hI (by decide) (Nat.le_of_ble_eq_true rfl) ?_
  intro p e s m below meth c M hF ls hl
  obtain ⟨X, hb, hml, hr, hlk⟩ := id M
  have hx := X.1
  have hl : lv_has ls 6 [(0, .ref (gA G 0)), (1, .int x1), (2, .int x2)] := hl
  unfold fX7_both at hf
  refine lv_iconst (v := (0 : Int32)) hx hb dX7_both_0 (by decide) ?_
  refine lv_istore_n (lv' := [(3, .int (0 : Int32)), (0, .ref (gA G 0)), (1, .int x1), (2, .int x2)]) hx hb dX7_both_1 rfl hl (by decide) rfl (fun ls hl => ?_)
  refine lv_iconst (v := (0 : Int32)) hx hb dX7_both_2 (by decide) ?_
  refine lv_istore (lv' := [(4, .int (0 : Int32)), (3, .int (0 : Int32)), (0, .ref (gA G 0)), (1, .int x1), (2, .int x2)]) hx hb dX7_both_3 hl (by decide) rfl (fun ls hl => ?_)
  exact bX7_both_5 M FU x1 x2 (0 : Int32) (0 : Int32) σ _ _ _ hf hF (lv_sub hl [2, 3, 4, 1, 0] rfl)
set_option maxHeartbeats 4000000 in
set_option maxRecDepth 100000 in
theorem bX7_spanEnd_91 {r : Int32} {σ' : Mem} {k17 : Int32 → Int32 → Int32 → Mem → Option (Int32 × Mem)} (M : MX p s m args meth c RX7 G wR cX7_spanEnd 5 (some .int)) (hk17 : ∀ (x2 : Int32) (x3 : Int32) (x4 : Int32) (σ : Mem) (H : Heap) (locs : List Loc) (ls : Array Slot), k17 x2 x3 x4 σ = some (r, σ') → FH G wR s.heap H locs σ → lv_has ls 5 [(0, .ref (gA G 0)), (2, .int x2), (3, .int x3), (4, .int x4)] → WG p l e ({ frames := 0, cells := 0, slots := 0, locals := 0 }) s m args below meth c G wR (some (.int r)) σ' H locs 17 ls []) : ∀ (x2 : Int32) (x3 : Int32) (x4 : Int32) (s0 : Int32) (σ : Mem) (H : Heap) (locs : List Loc) (ls : Array Slot), fX7_spanEnd_91 k17 x2 x3 x4 s0 σ = some (r, σ') → FH G wR s.heap H locs σ → lv_has ls 5 [(0, .ref (gA G 0)), (2, .int x2), (3, .int x3), (4, .int x4)] → WG p l e ({ frames := 0, cells := 0, slots := 0, locals := 0 }) s m args below meth c G wR (some (.int r)) σ' H locs 91 ls [.int s0, .ref (gA G 0)] := by
  obtain ⟨X, hb, hml, hr, hlk⟩ := id M
  have hx := X.1
  intro x2 x3 x4 s0 σ H locs ls hf hF hl
  unfold fX7_spanEnd_91 at hf
  refine pf_X7_152 X hb hF sh_X7 dX7_spanEnd_91 (fun H locs hF => ?_)
  refine lv_aload_n hx hb dX7_spanEnd_94 rfl (lv_at hl 0 rfl) ?_
  refine gf_X7_48 X hb hF sh_X7 dX7_spanEnd_95 ?_
  refine lv_iload hx hb dX7_spanEnd_98 (lv_at hl 3 rfl) ?_
  obtain ⟨g11, hf⟩ := grd_some hf
  refine fl_iald X hb hF sh_r12 g11 dX7_spanEnd_100 ?_
  refine lv_iload_n hx hb dX7_spanEnd_101 rfl (lv_at hl 2 rfl) ?_
  refine lv_icmp_le (tgt := 115) hx hb dX7_spanEnd_102 (by decide) (fun cd12 => ?_) (fun cd12 => ?_)
  · replace hf := ifp cd12 hf
    refine lv_iload_n hx hb dX7_spanEnd_115 rfl (lv_at hl 2 rfl) ?_
    refine lv_istore_n (lv' := [(3, .int x3), (0, .ref (gA G 0)), (2, .int x2), (4, .int x4)]) hx hb dX7_spanEnd_116 rfl hl (by decide) rfl (fun ls hl => ?_)
    refine lv_iinc (v := x4 + (1 : Int32)) (lv' := [(4, .int (x4 + (1 : Int32))), (3, .int x3), (0, .ref (gA G 0)), (2, .int x2)]) hx hb dX7_spanEnd_117 hl (k := 3) rfl rfl (by decide) rfl (fun ls hl => ?_)
    refine lv_goto (tgt := 17) hx hb dX7_spanEnd_120 (by decide) ?_
    exact hk17 x2 x3 (x4 + (1 : Int32)) (mup σ 0 24 s0) _ _ _ hf hF (lv_sub hl [2, 3, 1, 0] rfl)
  · replace hf := ifn cd12 hf
    refine lv_aload_n hx hb dX7_spanEnd_105 rfl (lv_at hl 0 rfl) ?_
    refine gf_X7_48 X hb hF sh_X7 dX7_spanEnd_106 ?_
    refine lv_iload hx hb dX7_spanEnd_109 (lv_at hl 3 rfl) ?_
    obtain ⟨g13, hf⟩ := grd_some hf
    refine fl_iald X hb hF sh_r12 g13 dX7_spanEnd_111 ?_
    refine lv_goto (tgt := 116) hx hb dX7_spanEnd_112 (by decide) ?_
    refine lv_istore_n (lv' := [(3, .int ((mup σ 0 24 s0) 12 x4.toNatClampNeg)), (0, .ref (gA G 0)), (2, .int x2), (4, .int x4)]) hx hb dX7_spanEnd_116 rfl hl (by decide) rfl (fun ls hl => ?_)
    refine lv_iinc (v := x4 + (1 : Int32)) (lv' := [(4, .int (x4 + (1 : Int32))), (3, .int ((mup σ 0 24 s0) 12 x4.toNatClampNeg)), (0, .ref (gA G 0)), (2, .int x2)]) hx hb dX7_spanEnd_117 hl (k := 3) rfl rfl (by decide) rfl (fun ls hl => ?_)
    refine lv_goto (tgt := 17) hx hb dX7_spanEnd_120 (by decide) ?_
    exact hk17 x2 ((mup σ 0 24 s0) 12 x4.toNatClampNeg) (x4 + (1 : Int32)) (mup σ 0 24 s0) _ _ _ hf hF (lv_sub hl [2, 3, 1, 0] rfl)
set_option maxHeartbeats 4000000 in
set_option maxRecDepth 100000 in
theorem bX7_spanEnd_17 {r : Int32} {σ' : Mem} (M : MX p s m args meth c RX7 G wR cX7_spanEnd 5 (some .int)) : ∀ (fu : Nat) (x2 : Int32) (x3 : Int32) (x4 : Int32) (σ : Mem) (H : Heap) (locs : List Loc) (ls : Array Slot), fX7_spanEnd_17 fu x2 x3 x4 σ = some (r, σ') → FH G wR s.heap H locs σ → lv_has ls 5 [(0, .ref (gA G 0)), (2, .int x2), (3, .int x3), (4, .int x4)] → WG p l e ({ frames := 0, cells := 0, slots := 0, locals := 0 }) s m args below meth c G wR (some (.int r)) σ' H locs 17 ls [] := by
  obtain ⟨X, hb, hml, hr, hlk⟩ := id M
  have hx := X.1
  intro fu
  induction fu with
  | zero =>
    intro x2 x3 x4 σ H locs ls hf hF hl
    rw [fX7_spanEnd_17] at hf
    cases hf
  | succ fu ih =>
    intro x2 x3 x4 σ H locs ls hf hF hl
    rw [fX7_spanEnd_17] at hf
    refine lv_iload hx hb dX7_spanEnd_17 (lv_at hl 3 rfl) ?_
    refine lv_iload_n hx hb dX7_spanEnd_19 rfl (lv_at hl 1 rfl) ?_
    refine lv_icmp_ge (tgt := 123) hx hb dX7_spanEnd_20 (by decide) (fun cd2 => ?_) (fun cd2 => ?_)
    · replace hf := ifp cd2 hf
      refine lv_iload hx hb dX7_spanEnd_123 (lv_at hl 3 rfl) ?_
      obtain ⟨rfl, rfl⟩ := Prod.mk.inj (Option.some.inj hf)
      exact fl_iret X hb hr hlk hF dX7_spanEnd_125
    · replace hf := ifn cd2 hf
      refine lv_aload_n hx hb dX7_spanEnd_23 rfl (lv_at hl 0 rfl) ?_
      refine gf_X7_48 X hb hF sh_X7 dX7_spanEnd_24 ?_
      refine lv_iload hx hb dX7_spanEnd_27 (lv_at hl 3 rfl) ?_
      obtain ⟨g3, hf⟩ := grd_some hf
      refine fl_iald X hb hF sh_r12 g3 dX7_spanEnd_29 ?_
      refine lv_aload_n hx hb dX7_spanEnd_30 rfl (lv_at hl 0 rfl) ?_
      refine gf_X7_152 X hb hF sh_X7 dX7_spanEnd_31 ?_
      refine lv_isub hx hb dX7_spanEnd_34 ?_
      refine lv_aload_n hx hb dX7_spanEnd_35 rfl (lv_at hl 0 rfl) ?_
      refine gf_X7_7 X hb hF sh_X7 dX7_spanEnd_36 ?_
      refine lv_iconst (v := (0 : Int32)) hx hb dX7_spanEnd_39 (by decide) ?_
      obtain ⟨g4, hf⟩ := grd_some hf
      refine fl_iald X hb hF sh_r1 g4 dX7_spanEnd_40 ?_
      refine lv_icmp_gt (tgt := 123) hx hb dX7_spanEnd_41 (by decide) (fun cd5 => ?_) (fun cd5 => ?_)
      · replace hf := ifp cd5 hf
        refine lv_iload hx hb dX7_spanEnd_123 (lv_at hl 3 rfl) ?_
        obtain ⟨rfl, rfl⟩ := Prod.mk.inj (Option.some.inj hf)
        exact fl_iret X hb hr hlk hF dX7_spanEnd_125
      · replace hf := ifn cd5 hf
        refine lv_iload_n hx hb dX7_spanEnd_44 rfl (lv_at hl 2 rfl) ?_
        refine lv_aload_n hx hb dX7_spanEnd_45 rfl (lv_at hl 0 rfl) ?_
        refine gf_X7_48 X hb hF sh_X7 dX7_spanEnd_46 ?_
        refine lv_iload hx hb dX7_spanEnd_49 (lv_at hl 3 rfl) ?_
        obtain ⟨g6, hf⟩ := grd_some hf
        refine fl_iald X hb hF sh_r12 g6 dX7_spanEnd_51 ?_
        refine lv_isub hx hb dX7_spanEnd_52 ?_
        refine lv_aload_n hx hb dX7_spanEnd_53 rfl (lv_at hl 0 rfl) ?_
        refine gf_X7_7 X hb hF sh_X7 dX7_spanEnd_54 ?_
        refine lv_iconst (v := (0 : Int32)) hx hb dX7_spanEnd_57 (by decide) ?_
        obtain ⟨g7, hf⟩ := grd_some hf
        refine fl_iald X hb hF sh_r1 g7 dX7_spanEnd_58 ?_
        refine lv_icmp_gt (tgt := 123) hx hb dX7_spanEnd_59 (by decide) (fun cd8 => ?_) (fun cd8 => ?_)
        · replace hf := ifp cd8 hf
          refine lv_iload hx hb dX7_spanEnd_123 (lv_at hl 3 rfl) ?_
          obtain ⟨rfl, rfl⟩ := Prod.mk.inj (Option.some.inj hf)
          exact fl_iret X hb hr hlk hF dX7_spanEnd_125
        · replace hf := ifn cd8 hf
          refine lv_aload_n hx hb dX7_spanEnd_62 rfl (lv_at hl 0 rfl) ?_
          refine lv_aload_n hx hb dX7_spanEnd_63 rfl (lv_at hl 0 rfl) ?_
          refine gf_X7_48 X hb hF sh_X7 dX7_spanEnd_64 ?_
          refine lv_iload hx hb dX7_spanEnd_67 (lv_at hl 3 rfl) ?_
          obtain ⟨g9, hf⟩ := grd_some hf
          refine fl_iald X hb hF sh_r12 g9 dX7_spanEnd_69 ?_
          refine lv_aload_n hx hb dX7_spanEnd_70 rfl (lv_at hl 0 rfl) ?_
          refine gf_X7_152 X hb hF sh_X7 dX7_spanEnd_71 ?_
          refine lv_icmp_ge (tgt := 87) hx hb dX7_spanEnd_74 (by decide) (fun cd10 => ?_) (fun cd10 => ?_)
          · replace hf := ifp cd10 hf
            refine lv_aload_n hx hb dX7_spanEnd_87 rfl (lv_at hl 0 rfl) ?_
            refine gf_X7_152 X hb hF sh_X7 dX7_spanEnd_88 ?_
            exact bX7_spanEnd_91 M ih x2 x3 x4 (σ 0 24) σ _ _ _ hf hF (lv_sub hl [0, 1, 2, 3] rfl)
          · replace hf := ifn cd10 hf
            refine lv_aload_n hx hb dX7_spanEnd_77 rfl (lv_at hl 0 rfl) ?_
            refine gf_X7_48 X hb hF sh_X7 dX7_spanEnd_78 ?_
            refine lv_iload hx hb dX7_spanEnd_81 (lv_at hl 3 rfl) ?_
            obtain ⟨g14, hf⟩ := grd_some hf
            refine fl_iald X hb hF sh_r12 g14 dX7_spanEnd_83 ?_
            refine lv_goto (tgt := 91) hx hb dX7_spanEnd_84 (by decide) ?_
            exact bX7_spanEnd_91 M ih x2 x3 x4 (σ 12 x4.toNatClampNeg) σ _ _ _ hf hF (lv_sub hl [0, 1, 2, 3] rfl)
set_option maxHeartbeats 4000000 in
set_option maxRecDepth 100000 in
theorem cX7_spanEnd_ok {l : Launch} {G : Gl} (hI : FI G wR) {x1 : Int32} {x2 : Int32} {σ : Mem} {r : Int32} {σ' : Mem} (hf : fX7_spanEnd x1 x2 σ = some (r, σ')) : Ct l G wR yX7_spanEnd cX7_spanEnd 5 (some .int) ({ frames := 0, cells := 0, slots := 0, locals := 0 }) [.ref (gA G 0), .int x1, .int x2] σ (some (.int r)) σ' := by
  refine fl_start hI (by decide) (Nat.le_of_ble_eq_true rfl) ?_
  intro p e s m below meth c M hF ls hl
  obtain ⟨X, hb, hml, hr, hlk⟩ := id M
  have hx := X.1
  have hl : lv_has ls 5 [(0, .ref (gA G 0)), (1, .int x1), (2, .int x2)] := hl
  unfold fX7_spanEnd at hf
  refine lv_aload_n hx hb dX7_spanEnd_0 rfl (lv_at hl 0 rfl) ?_
  refine gf_X7_48 X hb hF sh_X7 dX7_spanEnd_1 ?_
  refine lv_iload_n hx hb dX7_spanEnd_4 rfl (lv_at hl 1 rfl) ?_
  obtain ⟨g1, hf⟩ := grd_some hf
  refine fl_iald X hb hF sh_r12 g1 dX7_spanEnd_5 ?_
  refine lv_istore_n (lv' := [(3, .int (σ 12 x1.toNatClampNeg)), (0, .ref (gA G 0)), (1, .int x1), (2, .int x2)]) hx hb dX7_spanEnd_6 rfl hl (by decide) rfl (fun ls hl => ?_)
  refine lv_aload_n hx hb dX7_spanEnd_7 rfl (lv_at hl 1 rfl) ?_
  refine lv_iload_n hx hb dX7_spanEnd_8 rfl (lv_at hl 0 rfl) ?_
  refine pf_X7_152 X hb hF sh_X7 dX7_spanEnd_9 (fun H locs hF => ?_)
  refine lv_iload_n hx hb dX7_spanEnd_12 rfl (lv_at hl 2 rfl) ?_
  refine lv_iconst (v := (1 : Int32)) hx hb dX7_spanEnd_13 (by decide) ?_
  refine lv_iadd hx hb dX7_spanEnd_14 ?_
  refine lv_istore (lv' := [(4, .int (x1 + (1 : Int32))), (3, .int (σ 12 x1.toNatClampNeg)), (0, .ref (gA G 0)), (1, .int x1), (2, .int x2)]) hx hb dX7_spanEnd_15 hl (by decide) rfl (fun ls hl => ?_)
  exact bX7_spanEnd_17 M FU x2 (σ 12 x1.toNatClampNeg) (x1 + (1 : Int32)) (mup σ 0 24 (σ 12 x1.toNatClampNeg)) _ _ _ hf hF (lv_sub hl [2, 4, 1, 0] rfl)
set_option maxHeartbeats 4000000 in
set_option maxRecDepth 100000 in
theorem bX7_spans_13 {r : Int32} {σ' : Mem} (M : MX p s m args meth c RX7 G wR cX7_spans 6 (some .int)) : ∀ (fu : Nat) (x3 : Int32) (x4 : Int32) (x5 : Int32) (σ : Mem) (H : Heap) (locs : List Loc) (ls : Array Slot), fX7_spans_13 fu x3 x4 x5 σ = some (r, σ') → FH G wR s.heap H locs σ → lv_has ls 6 [(0, .ref (gA G 0)), (3, .int x3), (4, .int x4), (5, .int x5)] → WG p l e ({ frames := 6, cells := 0, slots := 0, locals := 138 }) s m args below meth c G wR (some (.int r)) σ' H locs 13 ls [] := by
  obtain ⟨X, hb, hml, hr, hlk⟩ := id M
  have hx := X.1
  intro fu
  induction fu with
  | zero =>
    intro x3 x4 x5 σ H locs ls hf hF hl
    rw [fX7_spans_13] at hf
    cases hf
  | succ fu ih =>
    intro x3 x4 x5 σ H locs ls hf hF hl
    rw [fX7_spans_13] at hf
    refine lv_iload hx hb dX7_spans_13 (lv_at hl 3 rfl) ?_
    refine lv_iload_n hx hb dX7_spans_15 rfl (lv_at hl 1 rfl) ?_
    refine lv_icmp_ge (tgt := 34) hx hb dX7_spans_16 (by decide) (fun cd4 => ?_) (fun cd4 => ?_)
    · replace hf := ifp cd4 hf
      refine lv_iload hx hb dX7_spans_34 (lv_at hl 2 rfl) ?_
      obtain ⟨rfl, rfl⟩ := Prod.mk.inj (Option.some.inj hf)
      exact fl_iret X hb hr hlk hF dX7_spans_36
    · replace hf := ifn cd4 hf
      refine lv_iinc (v := x4 + (1 : Int32)) (lv' := [(4, .int (x4 + (1 : Int32))), (0, .ref (gA G 0)), (3, .int x3), (5, .int x5)]) hx hb dX7_spans_19 hl (k := 2) rfl rfl (by decide) rfl (fun ls hl => ?_)
      refine lv_aload_n hx hb dX7_spans_22 rfl (lv_at hl 1 rfl) ?_
      refine lv_iload hx hb dX7_spans_23 (lv_at hl 3 rfl) ?_
      refine lv_iload_n hx hb dX7_spans_25 rfl (lv_at hl 2 rfl) ?_
      obtain ⟨r6, σ7, hq5, hf⟩ := bm_some hf
      refine cm_X7_158 (As := [.int x5, .int x3]) (rest := []) X hb hml hF (cX7_spanEnd_ok (l := l) (G := G) X.2.2.2.2 hq5) sh_X7 ⟨Nat.le_of_ble_eq_true rfl, Nat.le_of_ble_eq_true rfl⟩ rfl rfl ⟨Nat.zero_le _, Nat.zero_le _⟩ rfl hl.1 rfl (Nat.le_of_ble_eq_true rfl) dX7_spans_26 (fun H locs hF => ?_)
      refine lv_istore (lv' := [(5, .int r6), (4, .int (x4 + (1 : Int32))), (0, .ref (gA G 0)), (3, .int x3)]) hx hb dX7_spans_29 hl (by decide) rfl (fun ls hl => ?_)
      refine lv_goto (tgt := 13) hx hb dX7_spans_31 (by decide) ?_
      exact ih x3 (x4 + (1 : Int32)) r6 σ7 _ _ _ hf hF (lv_sub hl [2, 3, 1, 0] rfl)
set_option maxHeartbeats 4000000 in
set_option maxRecDepth 100000 in
theorem cX7_spans_ok {l : Launch} {G : Gl} (hI : FI G wR) {x1 : Int32} {x2 : Int32} {σ : Mem} {r : Int32} {σ' : Mem} (hf : fX7_spans x1 x2 σ = some (r, σ')) : Ct l G wR yX7_spans cX7_spans 6 (some .int) ({ frames := 6, cells := 0, slots := 0, locals := 138 }) [.ref (gA G 0), .int x1, .int x2] σ (some (.int r)) σ' := by
  refine fl_start hI (by decide) (Nat.le_of_ble_eq_true rfl) ?_
  intro p e s m below meth c M hF ls hl
  obtain ⟨X, hb, hml, hr, hlk⟩ := id M
  have hx := X.1
  have hl : lv_has ls 6 [(0, .ref (gA G 0)), (1, .int x1), (2, .int x2)] := hl
  unfold fX7_spans at hf
  refine lv_aload_n hx hb dX7_spans_0 rfl (lv_at hl 0 rfl) ?_
  refine lv_iload_n hx hb dX7_spans_1 rfl (lv_at hl 1 rfl) ?_
  refine lv_iload_n hx hb dX7_spans_2 rfl (lv_at hl 2 rfl) ?_
  obtain ⟨r2, σ3, hq1, hf⟩ := bm_some hf
  refine cm_X7_155 (As := [.int x1, .int x2]) (rest := []) X hb hml hF (cX7_both_ok (l := l) (G := G) X.2.2.2.2 hq1) sh_X7 ⟨Nat.le_of_ble_eq_true rfl, Nat.le_of_ble_eq_true rfl⟩ rfl rfl ⟨Nat.zero_le _, Nat.zero_le _⟩ rfl hl.1 rfl (Nat.le_of_ble_eq_true rfl) dX7_spans_3 (fun H locs hF => ?_)
  refine lv_istore_n (lv' := [(3, .int r2), (0, .ref (gA G 0)), (1, .int x1), (2, .int x2)]) hx hb dX7_spans_6 rfl hl (by decide) rfl (fun ls hl => ?_)
  refine lv_iconst (v := (0 : Int32)) hx hb dX7_spans_7 (by decide) ?_
  refine lv_istore (lv' := [(4, .int (0 : Int32)), (3, .int r2), (0, .ref (gA G 0)), (1, .int x1), (2, .int x2)]) hx hb dX7_spans_8 hl (by decide) rfl (fun ls hl => ?_)
  refine lv_iconst (v := (0 : Int32)) hx hb dX7_spans_10 (by decide) ?_
  refine lv_istore (lv' := [(5, .int (0 : Int32)), (4, .int (0 : Int32)), (3, .int r2), (0, .ref (gA G 0)), (1, .int x1), (2, .int x2)]) hx hb dX7_spans_11 hl (by decide) rfl (fun ls hl => ?_)
  exact bX7_spans_13 M FU r2 (0 : Int32) (0 : Int32) σ3 _ _ _ hf hF (lv_sub hl [3, 2, 1, 0] rfl)
set_option maxHeartbeats 4000000 in
set_option maxRecDepth 100000 in
theorem bX7_span_64 {r : Int32} {σ' : Mem} (M : MX p s m args meth c RX7 G wR cX7_span 9 (some .int)) : ∀ (x3 : Int32) (x5 : Int32) (σ : Mem) (H : Heap) (locs : List Loc) (ls : Array Slot), fX7_span_64 x3 x5 σ = some (r, σ') → FH G wR s.heap H locs σ → lv_has ls 9 [(3, .int x3), (5, .int x5)] → WG p l e ({ frames := 7, cells := 0, slots := 0, locals := 163 }) s m args below meth c G wR (some (.int r)) σ' H locs 64 ls [] := by
  obtain ⟨X, hb, hml, hr, hlk⟩ := id M
  have hx := X.1
  intro x3 x5 σ H locs ls hf hF hl
  unfold fX7_span_64 at hf
  refine lv_iload_n hx hb dX7_span_64 rfl (lv_at hl 0 rfl) ?_
  refine lv_if_ge (tgt := 73) hx hb dX7_span_65 (by decide) (fun cd14 => ?_) (fun cd14 => ?_)
  · replace hf := ifp cd14 hf
    refine lv_ldc (v := (-1000000 : Int32)) hx hb X.2.1 (X.2.2.1 _ wn_X7_163) dX7_span_73 ?_
    obtain ⟨rfl, rfl⟩ := Prod.mk.inj (Option.some.inj hf)
    exact fl_iret X hb hr hlk hF dX7_span_75
  · replace hf := ifn cd14 hf
    refine lv_iload hx hb dX7_span_68 (lv_at hl 1 rfl) ?_
    refine lv_goto (tgt := 75) hx hb dX7_span_70 (by decide) ?_
    obtain ⟨rfl, rfl⟩ := Prod.mk.inj (Option.some.inj hf)
    exact fl_iret X hb hr hlk hF dX7_span_75
set_option maxHeartbeats 4000000 in
set_option maxRecDepth 100000 in
theorem bX7_span_90 {r : Int32} {σ' : Mem} (M : MX p s m args meth c RX7 G wR cX7_span 9 (some .int)) : ∀ (fu : Nat) (x3 : Int32) (x4 : Int32) (x6 : Int32) (x7 : Int32) (x8 : Int32) (σ : Mem) (H : Heap) (locs : List Loc) (ls : Array Slot), fX7_span_90 fu x3 x4 x6 x7 x8 σ = some (r, σ') → FH G wR s.heap H locs σ → lv_has ls 9 [(0, .ref (gA G 0)), (3, .int x3), (4, .int x4), (6, .int x6), (7, .int x7), (8, .int x8)] → WG p l e ({ frames := 7, cells := 0, slots := 0, locals := 163 }) s m args below meth c G wR (some (.int r)) σ' H locs 90 ls [] := by
  obtain ⟨X, hb, hml, hr, hlk⟩ := id M
  have hx := X.1
  intro fu
  induction fu with
  | zero =>
    intro x3 x4 x6 x7 x8 σ H locs ls hf hF hl
    rw [fX7_span_90] at hf
    cases hf
  | succ fu ih =>
    intro x3 x4 x6 x7 x8 σ H locs ls hf hF hl
    rw [fX7_span_90] at hf
    refine lv_iload hx hb dX7_span_90 (lv_at hl 5 rfl) ?_
    refine lv_iload_n hx hb dX7_span_92 rfl (lv_at hl 1 rfl) ?_
    refine lv_icmp_ge (tgt := 112) hx hb dX7_span_93 (by decide) (fun cd19 => ?_) (fun cd19 => ?_)
    · replace hf := ifp cd19 hf
      refine lv_aload_n hx hb dX7_span_112 rfl (lv_at hl 0 rfl) ?_
      refine lv_iload hx hb dX7_span_113 (lv_at hl 4 rfl) ?_
      refine lv_iload hx hb dX7_span_115 (lv_at hl 3 rfl) ?_
      obtain ⟨r21, σ22, hq20, hf⟩ := bm_some hf
      refine cm_X7_158 (As := [.int x7, .int x6]) (rest := []) X hb hml hF (cX7_spanEnd_ok (l := l) (G := G) X.2.2.2.2 hq20) sh_X7 ⟨Nat.le_of_ble_eq_true rfl, Nat.le_of_ble_eq_true rfl⟩ rfl rfl ⟨Nat.zero_le _, Nat.zero_le _⟩ rfl hl.1 rfl (Nat.le_of_ble_eq_true rfl) dX7_span_117 (fun H locs hF => ?_)
      refine lv_istore (lv' := [(8, .int r21), (0, .ref (gA G 0)), (3, .int x3), (4, .int x4), (6, .int x6), (7, .int x7)]) hx hb dX7_span_120 hl (by decide) rfl (fun ls hl => ?_)
      refine lv_iload hx hb dX7_span_122 (lv_at hl 3 rfl) ?_
      refine lv_if_ne (tgt := 137) hx hb dX7_span_124 (by decide) (fun cd23 => ?_) (fun cd23 => ?_)
      · replace hf := ifn cd23 hf
        refine lv_iload hx hb dX7_span_137 (lv_at hl 3 rfl) ?_
        refine lv_iconst (v := (1 : Int32)) hx hb dX7_span_139 (by decide) ?_
        refine lv_icmp_ne (tgt := 155) hx hb dX7_span_140 (by decide) (fun cd24 => ?_) (fun cd24 => ?_)
        · replace hf := ifn cd24 hf
          refine lv_iload hx hb dX7_span_155 (lv_at hl 3 rfl) ?_
          refine lv_iconst (v := (2 : Int32)) hx hb dX7_span_157 (by decide) ?_
          refine lv_icmp_ne (tgt := 169) hx hb dX7_span_158 (by decide) (fun cd25 => ?_) (fun cd25 => ?_)
          · replace hf := ifn cd25 hf
            refine lv_aload_n hx hb dX7_span_169 rfl (lv_at hl 1 rfl) ?_
            refine gf_X7_152 X hb hF sh_X7 dX7_span_170 ?_
            obtain ⟨rfl, rfl⟩ := Prod.mk.inj (Option.some.inj hf)
            exact fl_iret X hb hr hlk hF dX7_span_173
          · replace hf := ifp cd25 hf
            refine lv_iload hx hb dX7_span_161 (lv_at hl 0 rfl) ?_
            refine lv_iload hx hb dX7_span_163 (lv_at hl 5 rfl) ?_
            refine lv_isub hx hb dX7_span_165 ?_
            refine lv_goto (tgt := 173) hx hb dX7_span_166 (by decide) ?_
            obtain ⟨rfl, rfl⟩ := Prod.mk.inj (Option.some.inj hf)
            exact fl_iret X hb hr hlk hF dX7_span_173
        · replace hf := ifp cd24 hf
          refine lv_aload_n hx hb dX7_span_143 rfl (lv_at hl 1 rfl) ?_
          refine gf_X7_45 X hb hF sh_X7 dX7_span_144 ?_
          refine lv_iload hx hb dX7_span_147 (lv_at hl 0 rfl) ?_
          refine lv_iconst (v := (1 : Int32)) hx hb dX7_span_149 (by decide) ?_
          refine lv_isub hx hb dX7_span_150 ?_
          obtain ⟨g26, hf⟩ := grd_some hf
          refine fl_iald X hb hF sh_r11 g26 dX7_span_151 ?_
          refine lv_goto (tgt := 173) hx hb dX7_span_152 (by decide) ?_
          obtain ⟨rfl, rfl⟩ := Prod.mk.inj (Option.some.inj hf)
          exact fl_iret X hb hr hlk hF dX7_span_173
      · replace hf := ifp cd23 hf
        refine lv_aload_n hx hb dX7_span_127 rfl (lv_at hl 1 rfl) ?_
        refine gf_X7_45 X hb hF sh_X7 dX7_span_128 ?_
        refine lv_iload hx hb dX7_span_131 (lv_at hl 5 rfl) ?_
        obtain ⟨g27, hf⟩ := grd_some hf
        refine fl_iald X hb hF sh_r11 g27 dX7_span_133 ?_
        refine lv_goto (tgt := 173) hx hb dX7_span_134 (by decide) ?_
        obtain ⟨rfl, rfl⟩ := Prod.mk.inj (Option.some.inj hf)
        exact fl_iret X hb hr hlk hF dX7_span_173
    · replace hf := ifn cd19 hf
      refine lv_aload_n hx hb dX7_span_96 rfl (lv_at hl 0 rfl) ?_
      refine lv_iload hx hb dX7_span_97 (lv_at hl 4 rfl) ?_
      refine lv_iload hx hb dX7_span_99 (lv_at hl 3 rfl) ?_
      obtain ⟨r29, σ30, hq28, hf⟩ := bm_some hf
      refine cm_X7_158 (As := [.int x7, .int x6]) (rest := []) X hb hml hF (cX7_spanEnd_ok (l := l) (G := G) X.2.2.2.2 hq28) sh_X7 ⟨Nat.le_of_ble_eq_true rfl, Nat.le_of_ble_eq_true rfl⟩ rfl rfl ⟨Nat.zero_le _, Nat.zero_le _⟩ rfl hl.1 rfl (Nat.le_of_ble_eq_true rfl) dX7_span_101 (fun H locs hF => ?_)
      refine lv_istore (lv' := [(7, .int r29), (0, .ref (gA G 0)), (3, .int x3), (4, .int x4), (6, .int x6), (8, .int x8)]) hx hb dX7_span_104 hl (by decide) rfl (fun ls hl => ?_)
      refine lv_iinc (v := x8 + (1 : Int32)) (lv' := [(8, .int (x8 + (1 : Int32))), (7, .int r29), (0, .ref (gA G 0)), (3, .int x3), (4, .int x4), (6, .int x6)]) hx hb dX7_span_106 hl (k := 5) rfl rfl (by decide) rfl (fun ls hl => ?_)
      refine lv_goto (tgt := 90) hx hb dX7_span_109 (by decide) ?_
      exact ih x3 x4 x6 r29 (x8 + (1 : Int32)) σ30 _ _ _ hf hF (lv_sub hl [2, 3, 4, 5, 1, 0] rfl)
set_option maxHeartbeats 4000000 in
set_option maxRecDepth 100000 in
theorem bX7_span_46 {r : Int32} {σ' : Mem} (M : MX p s m args meth c RX7 G wR cX7_span 9 (some .int)) : ∀ (x1 : Int32) (x2 : Int32) (x3 : Int32) (x4 : Int32) (σ : Mem) (H : Heap) (locs : List Loc) (ls : Array Slot), fX7_span_46 x1 x2 x3 x4 σ = some (r, σ') → FH G wR s.heap H locs σ → lv_has ls 9 [(0, .ref (gA G 0)), (1, .int x1), (2, .int x2), (3, .int x3), (4, .int x4)] → WG p l e ({ frames := 7, cells := 0, slots := 0, locals := 163 }) s m args below meth c G wR (some (.int r)) σ' H locs 46 ls [] := by
  obtain ⟨X, hb, hml, hr, hlk⟩ := id M
  have hx := X.1
  intro x1 x2 x3 x4 σ H locs ls hf hF hl
  unfold fX7_span_46 at hf
  refine lv_aload_n hx hb dX7_span_46 rfl (lv_at hl 0 rfl) ?_
  refine lv_iload_n hx hb dX7_span_47 rfl (lv_at hl 1 rfl) ?_
  refine lv_iload_n hx hb dX7_span_48 rfl (lv_at hl 2 rfl) ?_
  obtain ⟨r11, σ12, hq10, hf⟩ := bm_some hf
  refine cm_X7_164 (As := [.int x1, .int x2]) (rest := []) X hb hml hF (cX7_spans_ok (l := l) (G := G) X.2.2.2.2 hq10) sh_X7 ⟨Nat.le_of_ble_eq_true rfl, Nat.le_of_ble_eq_true rfl⟩ rfl rfl ⟨Nat.zero_le _, Nat.zero_le _⟩ rfl hl.1 rfl (Nat.le_of_ble_eq_true rfl) dX7_span_49 (fun H locs hF => ?_)
  refine lv_istore (lv' := [(5, .int r11), (0, .ref (gA G 0)), (1, .int x1), (2, .int x2), (3, .int x3), (4, .int x4)]) hx hb dX7_span_52 hl (by decide) rfl (fun ls hl => ?_)
  refine lv_iload_n hx hb dX7_span_54 rfl (lv_at hl 4 rfl) ?_
  refine lv_if_lt (tgt := 64) hx hb dX7_span_55 (by decide) (fun cd13 => ?_) (fun cd13 => ?_)
  · replace hf := ifp cd13 hf
    exact bX7_span_64 M x3 r11 σ12 _ _ _ hf hF (lv_sub hl [4, 0] rfl)
  · replace hf := ifn cd13 hf
    refine lv_iload_n hx hb dX7_span_58 rfl (lv_at hl 4 rfl) ?_
    refine lv_iload hx hb dX7_span_59 (lv_at hl 0 rfl) ?_
    refine lv_icmp_lt (tgt := 76) hx hb dX7_span_61 (by decide) (fun cd15 => ?_) (fun cd15 => ?_)
    · replace hf := ifp cd15 hf
      refine lv_aload_n hx hb dX7_span_76 rfl (lv_at hl 1 rfl) ?_
      refine lv_iload_n hx hb dX7_span_77 rfl (lv_at hl 2 rfl) ?_
      refine lv_iload_n hx hb dX7_span_78 rfl (lv_at hl 3 rfl) ?_
      obtain ⟨r17, σ18, hq16, hf⟩ := bm_some hf
      refine cm_X7_155 (As := [.int x1, .int x2]) (rest := []) X hb hml hF (cX7_both_ok (l := l) (G := G) X.2.2.2.2 hq16) sh_X7 ⟨Nat.le_of_ble_eq_true rfl, Nat.le_of_ble_eq_true rfl⟩ rfl rfl ⟨Nat.zero_le _, Nat.zero_le _⟩ rfl hl.1 rfl (Nat.le_of_ble_eq_true rfl) dX7_span_79 (fun H locs hF => ?_)
      refine lv_istore (lv' := [(6, .int r17), (5, .int r11), (0, .ref (gA G 0)), (1, .int x1), (2, .int x2), (3, .int x3), (4, .int x4)]) hx hb dX7_span_82 hl (by decide) rfl (fun ls hl => ?_)
      refine lv_iconst (v := (0 : Int32)) hx hb dX7_span_84 (by decide) ?_
      refine lv_istore (lv' := [(7, .int (0 : Int32)), (6, .int r17), (5, .int r11), (0, .ref (gA G 0)), (1, .int x1), (2, .int x2), (3, .int x3), (4, .int x4)]) hx hb dX7_span_85 hl (by decide) rfl (fun ls hl => ?_)
      refine lv_iconst (v := (0 : Int32)) hx hb dX7_span_87 (by decide) ?_
      refine lv_istore (lv' := [(8, .int (0 : Int32)), (7, .int (0 : Int32)), (6, .int r17), (5, .int r11), (0, .ref (gA G 0)), (1, .int x1), (2, .int x2), (3, .int x3), (4, .int x4)]) hx hb dX7_span_88 hl (by decide) rfl (fun ls hl => ?_)
      exact bX7_span_90 M FU x3 x4 r17 (0 : Int32) (0 : Int32) σ18 _ _ _ hf hF (lv_sub hl [4, 7, 8, 2, 1, 0] rfl)
    · replace hf := ifn cd15 hf
      exact bX7_span_64 M x3 r11 σ12 _ _ _ hf hF (lv_sub hl [4, 0] rfl)
set_option maxHeartbeats 4000000 in
set_option maxRecDepth 100000 in
theorem cX7_span_ok {l : Launch} {G : Gl} (hI : FI G wR) {x1 : Int32} {x2 : Int32} {x3 : Int32} {x4 : Int32} {σ : Mem} {r : Int32} {σ' : Mem} (hf : fX7_span x1 x2 x3 x4 σ = some (r, σ')) : Ct l G wR yX7_span cX7_span 9 (some .int) ({ frames := 7, cells := 0, slots := 0, locals := 163 }) [.ref (gA G 0), .int x1, .int x2, .int x3, .int x4] σ (some (.int r)) σ' := by
  refine fl_start hI (by decide) (Nat.le_of_ble_eq_true rfl) ?_
  intro p e s m below meth c M hF ls hl
  obtain ⟨X, hb, hml, hr, hlk⟩ := id M
  have hx := X.1
  have hl : lv_has ls 9 [(0, .ref (gA G 0)), (1, .int x1), (2, .int x2), (3, .int x3), (4, .int x4)] := hl
  unfold fX7_span at hf
  refine lv_aload_n hx hb dX7_span_0 rfl (lv_at hl 0 rfl) ?_
  refine lv_iload_n hx hb dX7_span_1 rfl (lv_at hl 1 rfl) ?_
  obtain ⟨r2, hq1, hf⟩ := bi_some hf
  refine cm_X7_126 (As := [.int x1]) (rest := []) X hb hml hF (cX7_isHouse_ok (l := l) (G := G) X.2.2.2.2 hq1) sh_X7 ⟨Nat.le_of_ble_eq_true rfl, Nat.le_of_ble_eq_true rfl⟩ rfl rfl ⟨Nat.zero_le _, Nat.zero_le _⟩ rfl hl.1 rfl (Nat.le_of_ble_eq_true rfl) dX7_span_2 (fun H locs hF => ?_)
  refine lv_if_eq (tgt := 43) hx hb dX7_span_5 (by decide) (fun cd3 => ?_) (fun cd3 => ?_)
  · replace hf := ifp cd3 hf
    refine lv_ldc (v := (-1000000 : Int32)) hx hb X.2.1 (X.2.2.1 _ wn_X7_163) dX7_span_43 ?_
    obtain ⟨rfl, rfl⟩ := Prod.mk.inj (Option.some.inj hf)
    exact fl_iret X hb hr hlk hF dX7_span_45
  · replace hf := ifn cd3 hf
    refine lv_aload_n hx hb dX7_span_8 rfl (lv_at hl 0 rfl) ?_
    refine lv_iload_n hx hb dX7_span_9 rfl (lv_at hl 2 rfl) ?_
    obtain ⟨r5, hq4, hf⟩ := bi_some hf
    refine cm_X7_126 (As := [.int x2]) (rest := []) X hb hml hF (cX7_isHouse_ok (l := l) (G := G) X.2.2.2.2 hq4) sh_X7 ⟨Nat.le_of_ble_eq_true rfl, Nat.le_of_ble_eq_true rfl⟩ rfl rfl ⟨Nat.zero_le _, Nat.zero_le _⟩ rfl hl.1 rfl (Nat.le_of_ble_eq_true rfl) dX7_span_10 (fun H locs hF => ?_)
    refine lv_if_eq (tgt := 43) hx hb dX7_span_13 (by decide) (fun cd6 => ?_) (fun cd6 => ?_)
    · replace hf := ifp cd6 hf
      refine lv_ldc (v := (-1000000 : Int32)) hx hb X.2.1 (X.2.2.1 _ wn_X7_163) dX7_span_43 ?_
      obtain ⟨rfl, rfl⟩ := Prod.mk.inj (Option.some.inj hf)
      exact fl_iret X hb hr hlk hF dX7_span_45
    · replace hf := ifn cd6 hf
      refine lv_iload_n hx hb dX7_span_16 rfl (lv_at hl 1 rfl) ?_
      refine lv_iload_n hx hb dX7_span_17 rfl (lv_at hl 2 rfl) ?_
      refine lv_icmp_eq (tgt := 43) hx hb dX7_span_18 (by decide) (fun cd7 => ?_) (fun cd7 => ?_)
      · replace hf := ifp cd7 hf
        refine lv_ldc (v := (-1000000 : Int32)) hx hb X.2.1 (X.2.2.1 _ wn_X7_163) dX7_span_43 ?_
        obtain ⟨rfl, rfl⟩ := Prod.mk.inj (Option.some.inj hf)
        exact fl_iret X hb hr hlk hF dX7_span_45
      · replace hf := ifn cd7 hf
        refine lv_iload_n hx hb dX7_span_21 rfl (lv_at hl 3 rfl) ?_
        refine lv_iconst (v := (-1 : Int32)) hx hb dX7_span_22 (by decide) ?_
        refine lv_icmp_lt (tgt := 43) hx hb dX7_span_23 (by decide) (fun cd8 => ?_) (fun cd8 => ?_)
        · replace hf := ifp cd8 hf
          refine lv_ldc (v := (-1000000 : Int32)) hx hb X.2.1 (X.2.2.1 _ wn_X7_163) dX7_span_43 ?_
          obtain ⟨rfl, rfl⟩ := Prod.mk.inj (Option.some.inj hf)
          exact fl_iret X hb hr hlk hF dX7_span_45
        · replace hf := ifn cd8 hf
          refine lv_iload_n hx hb dX7_span_26 rfl (lv_at hl 3 rfl) ?_
          refine lv_if_lt (tgt := 46) hx hb dX7_span_27 (by decide) (fun cd9 => ?_) (fun cd9 => ?_)
          · replace hf := ifp cd9 hf
            exact bX7_span_46 M x1 x2 x3 x4 σ _ _ _ hf hF (lv_sub hl [0, 1, 2, 3, 4] rfl)
          · replace hf := ifn cd9 hf
            refine lv_iload hx hb dX7_span_30 (lv_at hl 4 rfl) ?_
            refine lv_i2l (v := x4.toInt64) hx hb dX7_span_32 rfl ?_
            refine lv_lconst (v := (0 : Int64)) hx hb dX7_span_33 (by decide) ?_
            refine lv_ldc2 (v := (3 : Int64)) hx hb X.2.1 (X.2.2.1 _ wn_X7_161) dX7_span_34 ?_
            obtain ⟨r32, hq31, hf⟩ := bi_some hf
            refine cm_X7_62 (As := [.long x4.toInt64, .long (0 : Int64), .long (3 : Int64)]) (rest := []) X hb hml hF (cX7_in_ok (l := l) (G := G) (σ := σ) X.2.2.2.2 hq31) ⟨Nat.le_of_ble_eq_true rfl, Nat.le_of_ble_eq_true rfl⟩ rfl rfl ⟨Nat.zero_le _, Nat.zero_le _⟩ rfl hl.1 rfl (Nat.le_of_ble_eq_true rfl) dX7_span_37 (fun H locs hF => ?_)
            refine lv_if_ne (tgt := 46) hx hb dX7_span_40 (by decide) (fun cd33 => ?_) (fun cd33 => ?_)
            · replace hf := ifn cd33 hf
              exact bX7_span_46 M x1 x2 x3 x4 σ _ _ _ hf hF (lv_sub hl [0, 1, 2, 3, 4] rfl)
            · replace hf := ifp cd33 hf
              refine lv_ldc (v := (-1000000 : Int32)) hx hb X.2.1 (X.2.2.1 _ wn_X7_163) dX7_span_43 ?_
              obtain ⟨rfl, rfl⟩ := Prod.mk.inj (Option.some.inj hf)
              exact fl_iret X hb hr hlk hF dX7_span_45
set_option maxHeartbeats 4000000 in
set_option maxRecDepth 100000 in
theorem cX7_plain_ok {l : Launch} {G : Gl} (hI : FI G wR) {x0 : Int32} {σ : Mem} {r : Int32} (hf : fX7_plain x0 = some r) : Ct l G wR yX7_plain cX7_plain 1 (some .int) ({ frames := 0, cells := 0, slots := 0, locals := 0 }) [.int x0] σ (some (.int r)) σ := by
  refine fl_start hI (by decide) (Nat.le_of_ble_eq_true rfl) ?_
  intro p e s m below meth c M hF ls hl
  obtain ⟨X, hb, hml, hr, hlk⟩ := id M
  have hx := X.1
  have hl : lv_has ls 1 [(0, .int x0)] := hl
  unfold fX7_plain at hf
  refine lv_iload_n hx hb dX7_plain_0 rfl (lv_at hl 0 rfl) ?_
  refine lv_if_ge (tgt := 9) hx hb dX7_plain_1 (by decide) (fun cd1 => ?_) (fun cd1 => ?_)
  · replace hf := ifp cd1 hf
    refine lv_iload_n hx hb dX7_plain_9 rfl (lv_at hl 0 rfl) ?_
    obtain rfl := Option.some.inj hf
    exact fl_iret X hb hr hlk hF dX7_plain_10
  · replace hf := ifn cd1 hf
    refine lv_iload_n hx hb dX7_plain_4 rfl (lv_at hl 0 rfl) ?_
    refine lv_ineg hx hb dX7_plain_5 ?_
    refine lv_goto (tgt := 10) hx hb dX7_plain_6 (by decide) ?_
    obtain rfl := Option.some.inj hf
    exact fl_iret X hb hr hlk hF dX7_plain_10
set_option maxHeartbeats 4000000 in
set_option maxRecDepth 100000 in
theorem bX7_shiftOf_140 {r : Int32} {σ' : Mem} {k23 : Int32 → Int32 → Int32 → Int32 → Mem → Option (Int32 × Mem)} (M : MX p s m args meth c RX7 G wR cX7_shiftOf 9 (some .int)) (hk23 : ∀ (x2 : Int32) (x3 : Int32) (x4 : Int32) (x5 : Int32) (σ : Mem) (H : Heap) (locs : List Loc) (ls : Array Slot), k23 x2 x3 x4 x5 σ = some (r, σ') → FH G wR s.heap H locs σ → lv_has ls 9 [(0, .ref (gA G 0)), (2, .int x2), (3, .int x3), (4, .int x4), (5, .int x5)] → WG p l e ({ frames := 6, cells := 0, slots := 0, locals := 138 }) s m args below meth c G wR (some (.int r)) σ' H locs 23 ls []) : ∀ (x2 : Int32) (x4 : Int32) (x5 : Int32) (x7 : Int32) (x8 : Int32) (s0 : Int32) (σ : Mem) (H : Heap) (locs : List Loc) (ls : Array Slot), fX7_shiftOf_140 k23 x2 x4 x5 x7 x8 s0 σ = some (r, σ') → FH G wR s.heap H locs σ → lv_has ls 9 [(0, .ref (gA G 0)), (2, .int x2), (4, .int x4), (5, .int x5), (7, .int x7), (8, .int x8)] → WG p l e ({ frames := 6, cells := 0, slots := 0, locals := 138 }) s m args below meth c G wR (some (.int r)) σ' H locs 140 ls [.int s0] := by
  obtain ⟨X, hb, hml, hr, hlk⟩ := id M
  have hx := X.1
  intro x2 x4 x5 x7 x8 s0 σ H locs ls hf hF hl
  unfold fX7_shiftOf_140 at hf
  refine lv_istore_n (lv' := [(3, .int s0), (0, .ref (gA G 0)), (2, .int x2), (4, .int x4), (5, .int x5), (7, .int x7), (8, .int x8)]) hx hb dX7_shiftOf_140 rfl hl (by decide) rfl (fun ls hl => ?_)
  refine lv_iload hx hb dX7_shiftOf_141 (lv_at hl 6 rfl) ?_
  refine lv_if_eq (tgt := 151) hx hb dX7_shiftOf_143 (by decide) (fun cd10 => ?_) (fun cd10 => ?_)
  · replace hf := ifp cd10 hf
    refine lv_iload hx hb dX7_shiftOf_151 (lv_at hl 3 rfl) ?_
    refine lv_istore (lv' := [(4, .int x4), (3, .int s0), (0, .ref (gA G 0)), (2, .int x2), (5, .int x5), (7, .int x7), (8, .int x8)]) hx hb dX7_shiftOf_153 hl (by decide) rfl (fun ls hl => ?_)
    refine lv_iinc (v := x5 + (1 : Int32)) (lv' := [(5, .int (x5 + (1 : Int32))), (4, .int x4), (3, .int s0), (0, .ref (gA G 0)), (2, .int x2), (7, .int x7), (8, .int x8)]) hx hb dX7_shiftOf_155 hl (k := 4) rfl rfl (by decide) rfl (fun ls hl => ?_)
    refine lv_goto (tgt := 23) hx hb dX7_shiftOf_158 (by decide) ?_
    exact hk23 x2 s0 x4 (x5 + (1 : Int32)) σ _ _ _ hf hF (lv_sub hl [3, 4, 2, 1, 0] rfl)
  · replace hf := ifn cd10 hf
    refine lv_iload hx hb dX7_shiftOf_146 (lv_at hl 5 rfl) ?_
    refine lv_goto (tgt := 153) hx hb dX7_shiftOf_148 (by decide) ?_
    refine lv_istore (lv' := [(4, .int x7), (3, .int s0), (0, .ref (gA G 0)), (2, .int x2), (5, .int x5), (7, .int x7), (8, .int x8)]) hx hb dX7_shiftOf_153 hl (by decide) rfl (fun ls hl => ?_)
    refine lv_iinc (v := x5 + (1 : Int32)) (lv' := [(5, .int (x5 + (1 : Int32))), (4, .int x7), (3, .int s0), (0, .ref (gA G 0)), (2, .int x2), (7, .int x7), (8, .int x8)]) hx hb dX7_shiftOf_155 hl (k := 4) rfl rfl (by decide) rfl (fun ls hl => ?_)
    refine lv_goto (tgt := 23) hx hb dX7_shiftOf_158 (by decide) ?_
    exact hk23 x2 s0 x7 (x5 + (1 : Int32)) σ _ _ _ hf hF (lv_sub hl [3, 4, 2, 1, 0] rfl)
set_option maxHeartbeats 4000000 in
set_option maxRecDepth 100000 in
theorem bX7_shiftOf_127 {r : Int32} {σ' : Mem} {k23 : Int32 → Int32 → Int32 → Int32 → Mem → Option (Int32 × Mem)} (M : MX p s m args meth c RX7 G wR cX7_shiftOf 9 (some .int)) (hk23 : ∀ (x2 : Int32) (x3 : Int32) (x4 : Int32) (x5 : Int32) (σ : Mem) (H : Heap) (locs : List Loc) (ls : Array Slot), k23 x2 x3 x4 x5 σ = some (r, σ') → FH G wR s.heap H locs σ → lv_has ls 9 [(0, .ref (gA G 0)), (2, .int x2), (3, .int x3), (4, .int x4), (5, .int x5)] → WG p l e ({ frames := 6, cells := 0, slots := 0, locals := 138 }) s m args below meth c G wR (some (.int r)) σ' H locs 23 ls []) : ∀ (x2 : Int32) (x3 : Int32) (x4 : Int32) (x5 : Int32) (x6 : Int32) (x7 : Int32) (s0 : Int32) (σ : Mem) (H : Heap) (locs : List Loc) (ls : Array Slot), fX7_shiftOf_127 k23 x2 x3 x4 x5 x6 x7 s0 σ = some (r, σ') → FH G wR s.heap H locs σ → lv_has ls 9 [(0, .ref (gA G 0)), (2, .int x2), (3, .int x3), (4, .int x4), (5, .int x5), (6, .int x6), (7, .int x7)] → WG p l e ({ frames := 6, cells := 0, slots := 0, locals := 138 }) s m args below meth c G wR (some (.int r)) σ' H locs 127 ls [.int s0] := by
  obtain ⟨X, hb, hml, hr, hlk⟩ := id M
  have hx := X.1
  intro x2 x3 x4 x5 x6 x7 s0 σ H locs ls hf hF hl
  unfold fX7_shiftOf_127 at hf
  refine lv_istore (lv' := [(8, .int s0), (0, .ref (gA G 0)), (2, .int x2), (3, .int x3), (4, .int x4), (5, .int x5), (6, .int x6), (7, .int x7)]) hx hb dX7_shiftOf_127 hl (by decide) rfl (fun ls hl => ?_)
  refine lv_iload hx hb dX7_shiftOf_129 (lv_at hl 0 rfl) ?_
  refine lv_if_eq (tgt := 139) hx hb dX7_shiftOf_131 (by decide) (fun cd9 => ?_) (fun cd9 => ?_)
  · replace hf := ifp cd9 hf
    refine lv_iload_n hx hb dX7_shiftOf_139 rfl (lv_at hl 3 rfl) ?_
    exact bX7_shiftOf_140 M hk23 x2 x4 x5 x7 s0 x3 σ _ _ _ hf hF (lv_sub hl [1, 2, 4, 5, 7, 0] rfl)
  · replace hf := ifn cd9 hf
    refine lv_iload hx hb dX7_shiftOf_134 (lv_at hl 6 rfl) ?_
    refine lv_goto (tgt := 140) hx hb dX7_shiftOf_136 (by decide) ?_
    exact bX7_shiftOf_140 M hk23 x2 x4 x5 x7 s0 x6 σ _ _ _ hf hF (lv_sub hl [1, 2, 4, 5, 7, 0] rfl)
set_option maxHeartbeats 4000000 in
set_option maxRecDepth 100000 in
theorem bX7_shiftOf_122 {r : Int32} {σ' : Mem} {k23 : Int32 → Int32 → Int32 → Int32 → Mem → Option (Int32 × Mem)} (M : MX p s m args meth c RX7 G wR cX7_shiftOf 9 (some .int)) (hk23 : ∀ (x2 : Int32) (x3 : Int32) (x4 : Int32) (x5 : Int32) (σ : Mem) (H : Heap) (locs : List Loc) (ls : Array Slot), k23 x2 x3 x4 x5 σ = some (r, σ') → FH G wR s.heap H locs σ → lv_has ls 9 [(0, .ref (gA G 0)), (2, .int x2), (3, .int x3), (4, .int x4), (5, .int x5)] → WG p l e ({ frames := 6, cells := 0, slots := 0, locals := 138 }) s m args below meth c G wR (some (.int r)) σ' H locs 23 ls []) : ∀ (x2 : Int32) (x3 : Int32) (x4 : Int32) (x5 : Int32) (x6 : Int32) (x7 : Int32) (σ : Mem) (H : Heap) (locs : List Loc) (ls : Array Slot), fX7_shiftOf_122 k23 x2 x3 x4 x5 x6 x7 σ = some (r, σ') → FH G wR s.heap H locs σ → lv_has ls 9 [(0, .ref (gA G 0)), (2, .int x2), (3, .int x3), (4, .int x4), (5, .int x5), (6, .int x6), (7, .int x7)] → WG p l e ({ frames := 6, cells := 0, slots := 0, locals := 138 }) s m args below meth c G wR (some (.int r)) σ' H locs 122 ls [] := by
  obtain ⟨X, hb, hml, hr, hlk⟩ := id M
  have hx := X.1
  intro x2 x3 x4 x5 x6 x7 σ H locs ls hf hF hl
  unfold fX7_shiftOf_122 at hf
  refine lv_iconst (v := (1 : Int32)) hx hb dX7_shiftOf_122 (by decide) ?_
  refine lv_goto (tgt := 127) hx hb dX7_shiftOf_123 (by decide) ?_
  exact bX7_shiftOf_127 M hk23 x2 x3 x4 x5 x6 x7 (1 : Int32) σ _ _ _ hf hF (lv_sub hl [0, 1, 2, 3, 4, 5, 6] rfl)
set_option maxHeartbeats 4000000 in
set_option maxRecDepth 100000 in
theorem bX7_shiftOf_126 {r : Int32} {σ' : Mem} {k23 : Int32 → Int32 → Int32 → Int32 → Mem → Option (Int32 × Mem)} (M : MX p s m args meth c RX7 G wR cX7_shiftOf 9 (some .int)) (hk23 : ∀ (x2 : Int32) (x3 : Int32) (x4 : Int32) (x5 : Int32) (σ : Mem) (H : Heap) (locs : List Loc) (ls : Array Slot), k23 x2 x3 x4 x5 σ = some (r, σ') → FH G wR s.heap H locs σ → lv_has ls 9 [(0, .ref (gA G 0)), (2, .int x2), (3, .int x3), (4, .int x4), (5, .int x5)] → WG p l e ({ frames := 6, cells := 0, slots := 0, locals := 138 }) s m args below meth c G wR (some (.int r)) σ' H locs 23 ls []) : ∀ (x2 : Int32) (x3 : Int32) (x4 : Int32) (x5 : Int32) (x6 : Int32) (x7 : Int32) (σ : Mem) (H : Heap) (locs : List Loc) (ls : Array Slot), fX7_shiftOf_126 k23 x2 x3 x4 x5 x6 x7 σ = some (r, σ') → FH G wR s.heap H locs σ → lv_has ls 9 [(0, .ref (gA G 0)), (2, .int x2), (3, .int x3), (4, .int x4), (5, .int x5), (6, .int x6), (7, .int x7)] → WG p l e ({ frames := 6, cells := 0, slots := 0, locals := 138 }) s m args below meth c G wR (some (.int r)) σ' H locs 126 ls [] := by
  obtain ⟨X, hb, hml, hr, hlk⟩ := id M
  have hx := X.1
  intro x2 x3 x4 x5 x6 x7 σ H locs ls hf hF hl
  unfold fX7_shiftOf_126 at hf
  refine lv_iconst (v := (0 : Int32)) hx hb dX7_shiftOf_126 (by decide) ?_
  exact bX7_shiftOf_127 M hk23 x2 x3 x4 x5 x6 x7 (0 : Int32) σ _ _ _ hf hF (lv_sub hl [0, 1, 2, 3, 4, 5, 6] rfl)
set_option maxHeartbeats 4000000 in
set_option maxRecDepth 100000 in
theorem bX7_shiftOf_44 {r : Int32} {σ' : Mem} {k23 : Int32 → Int32 → Int32 → Int32 → Mem → Option (Int32 × Mem)} (M : MX p s m args meth c RX7 G wR cX7_shiftOf 9 (some .int)) (hk23 : ∀ (x2 : Int32) (x3 : Int32) (x4 : Int32) (x5 : Int32) (σ : Mem) (H : Heap) (locs : List Loc) (ls : Array Slot), k23 x2 x3 x4 x5 σ = some (r, σ') → FH G wR s.heap H locs σ → lv_has ls 9 [(0, .ref (gA G 0)), (2, .int x2), (3, .int x3), (4, .int x4), (5, .int x5)] → WG p l e ({ frames := 6, cells := 0, slots := 0, locals := 138 }) s m args below meth c G wR (some (.int r)) σ' H locs 23 ls []) : ∀ (fu : Nat) (x2 : Int32) (x3 : Int32) (x4 : Int32) (x5 : Int32) (x6 : Int32) (x7 : Int32) (x8 : Int32) (σ : Mem) (H : Heap) (locs : List Loc) (ls : Array Slot), fX7_shiftOf_44 k23 fu x2 x3 x4 x5 x6 x7 x8 σ = some (r, σ') → FH G wR s.heap H locs σ → lv_has ls 9 [(0, .ref (gA G 0)), (2, .int x2), (3, .int x3), (4, .int x4), (5, .int x5), (6, .int x6), (7, .int x7), (8, .int x8)] → WG p l e ({ frames := 6, cells := 0, slots := 0, locals := 138 }) s m args below meth c G wR (some (.int r)) σ' H locs 44 ls [] := by
  obtain ⟨X, hb, hml, hr, hlk⟩ := id M
  have hx := X.1
  intro fu
  induction fu with
  | zero =>
    intro x2 x3 x4 x5 x6 x7 x8 σ H locs ls hf hF hl
    rw [fX7_shiftOf_44] at hf
    cases hf
  | succ fu ih =>
    intro x2 x3 x4 x5 x6 x7 x8 σ H locs ls hf hF hl
    rw [fX7_shiftOf_44] at hf
    refine lv_iload hx hb dX7_shiftOf_44 (lv_at hl 7 rfl) ?_
    refine lv_iload_n hx hb dX7_shiftOf_46 rfl (lv_at hl 1 rfl) ?_
    refine lv_icmp_ge (tgt := 78) hx hb dX7_shiftOf_47 (by decide) (fun cd7 => ?_) (fun cd7 => ?_)
    · replace hf := ifp cd7 hf
      refine lv_iload hx hb dX7_shiftOf_78 (lv_at hl 6 rfl) ?_
      refine lv_iload hx hb dX7_shiftOf_80 (lv_at hl 3 rfl) ?_
      refine lv_icmp_gt (tgt := 122) hx hb dX7_shiftOf_82 (by decide) (fun cd8 => ?_) (fun cd8 => ?_)
      · replace hf := ifp cd8 hf
        exact bX7_shiftOf_122 M hk23 x2 x3 x4 x5 x6 x7 σ _ _ _ hf hF (lv_sub hl [0, 1, 2, 3, 4, 5, 6] rfl)
      · replace hf := ifn cd8 hf
        refine lv_iload hx hb dX7_shiftOf_85 (lv_at hl 6 rfl) ?_
        refine lv_iload hx hb dX7_shiftOf_87 (lv_at hl 3 rfl) ?_
        refine lv_icmp_ne (tgt := 126) hx hb dX7_shiftOf_89 (by decide) (fun cd11 => ?_) (fun cd11 => ?_)
        · replace hf := ifn cd11 hf
          exact bX7_shiftOf_126 M hk23 x2 x3 x4 x5 x6 x7 σ _ _ _ hf hF (lv_sub hl [0, 1, 2, 3, 4, 5, 6] rfl)
        · replace hf := ifp cd11 hf
          refine lv_iload hx hb dX7_shiftOf_92 (lv_at hl 5 rfl) ?_
          obtain ⟨r13, hq12, hf⟩ := bi_some hf
          refine cm_X7_167 (As := [.int x6]) (rest := []) X hb hml hF (cX7_plain_ok (l := l) (G := G) (σ := σ) X.2.2.2.2 hq12) ⟨Nat.le_of_ble_eq_true rfl, Nat.le_of_ble_eq_true rfl⟩ rfl rfl ⟨Nat.zero_le _, Nat.zero_le _⟩ rfl hl.1 rfl (Nat.le_of_ble_eq_true rfl) dX7_shiftOf_94 (fun H locs hF => ?_)
          refine lv_iload_n hx hb dX7_shiftOf_97 rfl (lv_at hl 2 rfl) ?_
          obtain ⟨r15, hq14, hf⟩ := bi_some hf
          refine cm_X7_167 (As := [.int x3]) (rest := [.int r13]) X hb hml hF (cX7_plain_ok (l := l) (G := G) (σ := σ) X.2.2.2.2 hq14) ⟨Nat.le_of_ble_eq_true rfl, Nat.le_of_ble_eq_true rfl⟩ rfl rfl ⟨Nat.zero_le _, Nat.zero_le _⟩ rfl hl.1 rfl (Nat.le_of_ble_eq_true rfl) dX7_shiftOf_98 (fun H locs hF => ?_)
          refine lv_icmp_lt (tgt := 122) hx hb dX7_shiftOf_101 (by decide) (fun cd16 => ?_) (fun cd16 => ?_)
          · replace hf := ifp cd16 hf
            exact bX7_shiftOf_122 M hk23 x2 x3 x4 x5 x6 x7 σ _ _ _ hf hF (lv_sub hl [0, 1, 2, 3, 4, 5, 6] rfl)
          · replace hf := ifn cd16 hf
            refine lv_iload hx hb dX7_shiftOf_104 (lv_at hl 5 rfl) ?_
            obtain ⟨r18, hq17, hf⟩ := bi_some hf
            refine cm_X7_167 (As := [.int x6]) (rest := []) X hb hml hF (cX7_plain_ok (l := l) (G := G) (σ := σ) X.2.2.2.2 hq17) ⟨Nat.le_of_ble_eq_true rfl, Nat.le_of_ble_eq_true rfl⟩ rfl rfl ⟨Nat.zero_le _, Nat.zero_le _⟩ rfl hl.1 rfl (Nat.le_of_ble_eq_true rfl) dX7_shiftOf_106 (fun H locs hF => ?_)
            refine lv_iload_n hx hb dX7_shiftOf_109 rfl (lv_at hl 2 rfl) ?_
            obtain ⟨r20, hq19, hf⟩ := bi_some hf
            refine cm_X7_167 (As := [.int x3]) (rest := [.int r18]) X hb hml hF (cX7_plain_ok (l := l) (G := G) (σ := σ) X.2.2.2.2 hq19) ⟨Nat.le_of_ble_eq_true rfl, Nat.le_of_ble_eq_true rfl⟩ rfl rfl ⟨Nat.zero_le _, Nat.zero_le _⟩ rfl hl.1 rfl (Nat.le_of_ble_eq_true rfl) dX7_shiftOf_110 (fun H locs hF => ?_)
            refine lv_icmp_ne (tgt := 126) hx hb dX7_shiftOf_113 (by decide) (fun cd21 => ?_) (fun cd21 => ?_)
            · replace hf := ifn cd21 hf
              exact bX7_shiftOf_126 M hk23 x2 x3 x4 x5 x6 x7 σ _ _ _ hf hF (lv_sub hl [0, 1, 2, 3, 4, 5, 6] rfl)
            · replace hf := ifp cd21 hf
              refine lv_iload hx hb dX7_shiftOf_116 (lv_at hl 5 rfl) ?_
              refine lv_iload_n hx hb dX7_shiftOf_118 rfl (lv_at hl 2 rfl) ?_
              refine lv_icmp_ge (tgt := 126) hx hb dX7_shiftOf_119 (by decide) (fun cd22 => ?_) (fun cd22 => ?_)
              · replace hf := ifp cd22 hf
                exact bX7_shiftOf_126 M hk23 x2 x3 x4 x5 x6 x7 σ _ _ _ hf hF (lv_sub hl [0, 1, 2, 3, 4, 5, 6] rfl)
              · replace hf := ifn cd22 hf
                exact bX7_shiftOf_122 M hk23 x2 x3 x4 x5 x6 x7 σ _ _ _ hf hF (lv_sub hl [0, 1, 2, 3, 4, 5, 6] rfl)
    · replace hf := ifn cd7 hf
      refine lv_iload hx hb dX7_shiftOf_50 (lv_at hl 6 rfl) ?_
      refine lv_aload_n hx hb dX7_shiftOf_52 rfl (lv_at hl 0 rfl) ?_
      refine gf_X7_48 X hb hF sh_X7 dX7_shiftOf_53 ?_
      refine lv_iload hx hb dX7_shiftOf_56 (lv_at hl 7 rfl) ?_
      obtain ⟨g23, hf⟩ := grd_some hf
      refine fl_iald X hb hF sh_r12 g23 dX7_shiftOf_58 ?_
      refine lv_iload hx hb dX7_shiftOf_59 (lv_at hl 5 rfl) ?_
      refine lv_icmp_ne (tgt := 68) hx hb dX7_shiftOf_61 (by decide) (fun cd24 => ?_) (fun cd24 => ?_)
      · replace hf := ifn cd24 hf
        refine lv_iconst (v := (0 : Int32)) hx hb dX7_shiftOf_68 (by decide) ?_
        refine lv_iadd hx hb dX7_shiftOf_69 ?_
        refine lv_istore (lv' := [(7, .int (x7 + (0 : Int32))), (0, .ref (gA G 0)), (2, .int x2), (3, .int x3), (4, .int x4), (5, .int x5), (6, .int x6), (8, .int x8)]) hx hb dX7_shiftOf_70 hl (by decide) rfl (fun ls hl => ?_)
        refine lv_iinc (v := x8 + (1 : Int32)) (lv' := [(8, .int (x8 + (1 : Int32))), (7, .int (x7 + (0 : Int32))), (0, .ref (gA G 0)), (2, .int x2), (3, .int x3), (4, .int x4), (5, .int x5), (6, .int x6)]) hx hb dX7_shiftOf_72 hl (k := 7) rfl rfl (by decide) rfl (fun ls hl => ?_)
        refine lv_goto (tgt := 44) hx hb dX7_shiftOf_75 (by decide) ?_
        exact ih x2 x3 x4 x5 x6 (x7 + (0 : Int32)) (x8 + (1 : Int32)) σ _ _ _ hf hF (lv_sub hl [2, 3, 4, 5, 6, 7, 1, 0] rfl)
      · replace hf := ifp cd24 hf
        refine lv_iconst (v := (1 : Int32)) hx hb dX7_shiftOf_64 (by decide) ?_
        refine lv_goto (tgt := 69) hx hb dX7_shiftOf_65 (by decide) ?_
        refine lv_iadd hx hb dX7_shiftOf_69 ?_
        refine lv_istore (lv' := [(7, .int (x7 + (1 : Int32))), (0, .ref (gA G 0)), (2, .int x2), (3, .int x3), (4, .int x4), (5, .int x5), (6, .int x6), (8, .int x8)]) hx hb dX7_shiftOf_70 hl (by decide) rfl (fun ls hl => ?_)
        refine lv_iinc (v := x8 + (1 : Int32)) (lv' := [(8, .int (x8 + (1 : Int32))), (7, .int (x7 + (1 : Int32))), (0, .ref (gA G 0)), (2, .int x2), (3, .int x3), (4, .int x4), (5, .int x5), (6, .int x6)]) hx hb dX7_shiftOf_72 hl (k := 7) rfl rfl (by decide) rfl (fun ls hl => ?_)
        refine lv_goto (tgt := 44) hx hb dX7_shiftOf_75 (by decide) ?_
        exact ih x2 x3 x4 x5 x6 (x7 + (1 : Int32)) (x8 + (1 : Int32)) σ _ _ _ hf hF (lv_sub hl [2, 3, 4, 5, 6, 7, 1, 0] rfl)
set_option maxHeartbeats 4000000 in
set_option maxRecDepth 100000 in
theorem bX7_shiftOf_23 {r : Int32} {σ' : Mem} (M : MX p s m args meth c RX7 G wR cX7_shiftOf 9 (some .int)) : ∀ (fu : Nat) (x2 : Int32) (x3 : Int32) (x4 : Int32) (x5 : Int32) (σ : Mem) (H : Heap) (locs : List Loc) (ls : Array Slot), fX7_shiftOf_23 fu x2 x3 x4 x5 σ = some (r, σ') → FH G wR s.heap H locs σ → lv_has ls 9 [(0, .ref (gA G 0)), (2, .int x2), (3, .int x3), (4, .int x4), (5, .int x5)] → WG p l e ({ frames := 6, cells := 0, slots := 0, locals := 138 }) s m args below meth c G wR (some (.int r)) σ' H locs 23 ls [] := by
  obtain ⟨X, hb, hml, hr, hlk⟩ := id M
  have hx := X.1
  intro fu
  induction fu with
  | zero =>
    intro x2 x3 x4 x5 σ H locs ls hf hF hl
    rw [fX7_shiftOf_23] at hf
    cases hf
  | succ fu ih =>
    intro x2 x3 x4 x5 σ H locs ls hf hF hl
    rw [fX7_shiftOf_23] at hf
    refine lv_iload hx hb dX7_shiftOf_23 (lv_at hl 4 rfl) ?_
    refine lv_iload_n hx hb dX7_shiftOf_25 rfl (lv_at hl 1 rfl) ?_
    refine lv_icmp_ge (tgt := 161) hx hb dX7_shiftOf_26 (by decide) (fun cd5 => ?_) (fun cd5 => ?_)
    · replace hf := ifp cd5 hf
      refine lv_iload_n hx hb dX7_shiftOf_161 rfl (lv_at hl 2 rfl) ?_
      obtain ⟨rfl, rfl⟩ := Prod.mk.inj (Option.some.inj hf)
      exact fl_iret X hb hr hlk hF dX7_shiftOf_162
    · replace hf := ifn cd5 hf
      refine lv_aload_n hx hb dX7_shiftOf_29 rfl (lv_at hl 0 rfl) ?_
      refine gf_X7_48 X hb hF sh_X7 dX7_shiftOf_30 ?_
      refine lv_iload hx hb dX7_shiftOf_33 (lv_at hl 4 rfl) ?_
      obtain ⟨g6, hf⟩ := grd_some hf
      refine fl_iald X hb hF sh_r12 g6 dX7_shiftOf_35 ?_
      refine lv_istore (lv' := [(6, .int (σ 12 x5.toNatClampNeg)), (0, .ref (gA G 0)), (2, .int x2), (3, .int x3), (4, .int x4), (5, .int x5)]) hx hb dX7_shiftOf_36 hl (by decide) rfl (fun ls hl => ?_)
      refine lv_iconst (v := (0 : Int32)) hx hb dX7_shiftOf_38 (by decide) ?_
      refine lv_istore (lv' := [(7, .int (0 : Int32)), (6, .int (σ 12 x5.toNatClampNeg)), (0, .ref (gA G 0)), (2, .int x2), (3, .int x3), (4, .int x4), (5, .int x5)]) hx hb dX7_shiftOf_39 hl (by decide) rfl (fun ls hl => ?_)
      refine lv_iconst (v := (0 : Int32)) hx hb dX7_shiftOf_41 (by decide) ?_
      refine lv_istore (lv' := [(8, .int (0 : Int32)), (7, .int (0 : Int32)), (6, .int (σ 12 x5.toNatClampNeg)), (0, .ref (gA G 0)), (2, .int x2), (3, .int x3), (4, .int x4), (5, .int x5)]) hx hb dX7_shiftOf_42 hl (by decide) rfl (fun ls hl => ?_)
      exact bX7_shiftOf_44 M ih FU x2 x3 x4 x5 (σ 12 x5.toNatClampNeg) (0 : Int32) (0 : Int32) σ _ _ _ hf hF (lv_sub hl [3, 4, 5, 6, 7, 2, 1, 0] rfl)
set_option maxHeartbeats 4000000 in
set_option maxRecDepth 100000 in
theorem bX7_shiftOf_14 {r : Int32} {σ' : Mem} (M : MX p s m args meth c RX7 G wR cX7_shiftOf 9 (some .int)) : ∀ (s0 : Int32) (σ : Mem) (H : Heap) (locs : List Loc) (ls : Array Slot), fX7_shiftOf_14 s0 σ = some (r, σ') → FH G wR s.heap H locs σ → lv_has ls 9 [(0, .ref (gA G 0))] → WG p l e ({ frames := 6, cells := 0, slots := 0, locals := 138 }) s m args below meth c G wR (some (.int r)) σ' H locs 14 ls [.int s0] := by
  obtain ⟨X, hb, hml, hr, hlk⟩ := id M
  have hx := X.1
  intro s0 σ H locs ls hf hF hl
  unfold fX7_shiftOf_14 at hf
  refine lv_istore_n (lv' := [(2, .int s0), (0, .ref (gA G 0))]) hx hb dX7_shiftOf_14 rfl hl (by decide) rfl (fun ls hl => ?_)
  refine lv_iconst (v := (0 : Int32)) hx hb dX7_shiftOf_15 (by decide) ?_
  refine lv_istore_n (lv' := [(3, .int (0 : Int32)), (2, .int s0), (0, .ref (gA G 0))]) hx hb dX7_shiftOf_16 rfl hl (by decide) rfl (fun ls hl => ?_)
  refine lv_iconst (v := (0 : Int32)) hx hb dX7_shiftOf_17 (by decide) ?_
  refine lv_istore (lv' := [(4, .int (0 : Int32)), (3, .int (0 : Int32)), (2, .int s0), (0, .ref (gA G 0))]) hx hb dX7_shiftOf_18 hl (by decide) rfl (fun ls hl => ?_)
  refine lv_iconst (v := (0 : Int32)) hx hb dX7_shiftOf_20 (by decide) ?_
  refine lv_istore (lv' := [(5, .int (0 : Int32)), (4, .int (0 : Int32)), (3, .int (0 : Int32)), (2, .int s0), (0, .ref (gA G 0))]) hx hb dX7_shiftOf_21 hl (by decide) rfl (fun ls hl => ?_)
  exact bX7_shiftOf_23 M FU s0 (0 : Int32) (0 : Int32) (0 : Int32) σ _ _ _ hf hF (lv_sub hl [4, 3, 2, 1, 0] rfl)
set_option maxHeartbeats 4000000 in
set_option maxRecDepth 100000 in
theorem cX7_shiftOf_ok {l : Launch} {G : Gl} (hI : FI G wR) {x1 : Int32} {σ : Mem} {r : Int32} {σ' : Mem} (hf : fX7_shiftOf x1 σ = some (r, σ')) : Ct l G wR yX7_shiftOf cX7_shiftOf 9 (some .int) ({ frames := 6, cells := 0, slots := 0, locals := 138 }) [.ref (gA G 0), .int x1] σ (some (.int r)) σ' := by
  refine fl_start hI (by decide) (Nat.le_of_ble_eq_true rfl) ?_
  intro p e s m below meth c M hF ls hl
  obtain ⟨X, hb, hml, hr, hlk⟩ := id M
  have hx := X.1
  have hl : lv_has ls 9 [(0, .ref (gA G 0)), (1, .int x1)] := hl
  unfold fX7_shiftOf at hf
  refine lv_iload_n hx hb dX7_shiftOf_0 rfl (lv_at hl 1 rfl) ?_
  refine lv_if_ne (tgt := 8) hx hb dX7_shiftOf_1 (by decide) (fun cd1 => ?_) (fun cd1 => ?_)
  · replace hf := ifn cd1 hf
    refine lv_aload_n hx hb dX7_shiftOf_8 rfl (lv_at hl 0 rfl) ?_
    refine lv_iconst (v := (0 : Int32)) hx hb dX7_shiftOf_9 (by decide) ?_
    refine lv_iload_n hx hb dX7_shiftOf_10 rfl (lv_at hl 1 rfl) ?_
    obtain ⟨r3, σ4, hq2, hf⟩ := bm_some hf
    refine cm_X7_155 (As := [.int (0 : Int32), .int x1]) (rest := []) X hb hml hF (cX7_both_ok (l := l) (G := G) X.2.2.2.2 hq2) sh_X7 ⟨Nat.le_of_ble_eq_true rfl, Nat.le_of_ble_eq_true rfl⟩ rfl rfl ⟨Nat.zero_le _, Nat.zero_le _⟩ rfl hl.1 rfl (Nat.le_of_ble_eq_true rfl) dX7_shiftOf_11 (fun H locs hF => ?_)
    exact bX7_shiftOf_14 M r3 σ4 _ _ _ hf hF (lv_sub hl [0] rfl)
  · replace hf := ifp cd1 hf
    refine lv_iconst (v := (0 : Int32)) hx hb dX7_shiftOf_4 (by decide) ?_
    refine lv_goto (tgt := 14) hx hb dX7_shiftOf_5 (by decide) ?_
    exact bX7_shiftOf_14 M (0 : Int32) σ _ _ _ hf hF (lv_sub hl [0] rfl)
set_option maxHeartbeats 4000000 in
set_option maxRecDepth 100000 in
theorem bX7_agreed_63 {r : Int32} {σ' : Mem} {k12 : Int32 → Int32 → Int32 → Int32 → Int32 → Mem → Option (Int32 × Mem)} (M : MX p s m args meth c RX7 G wR cX7_agreed 8 (some .int)) (hk12 : ∀ (x1 : Int32) (x2 : Int32) (x3 : Int32) (x4 : Int32) (x5 : Int32) (σ : Mem) (H : Heap) (locs : List Loc) (ls : Array Slot), k12 x1 x2 x3 x4 x5 σ = some (r, σ') → FH G wR s.heap H locs σ → lv_has ls 8 [(0, .ref (gA G 0)), (1, .int x1), (2, .int x2), (3, .int x3), (4, .int x4), (5, .int x5)] → WG p l e ({ frames := 7, cells := 0, slots := 0, locals := 166 }) s m args below meth c G wR (some (.int r)) σ' H locs 12 ls []) : ∀ (x1 : Int32) (x2 : Int32) (x4 : Int32) (x5 : Int32) (s0 : Int32) (s1 : Int32) (σ : Mem) (H : Heap) (locs : List Loc) (ls : Array Slot), fX7_agreed_63 k12 x1 x2 x4 x5 s0 s1 σ = some (r, σ') → FH G wR s.heap H locs σ → lv_has ls 8 [(0, .ref (gA G 0)), (1, .int x1), (2, .int x2), (4, .int x4), (5, .int x5)] → WG p l e ({ frames := 7, cells := 0, slots := 0, locals := 166 }) s m args below meth c G wR (some (.int r)) σ' H locs 63 ls [.int s0, .int s1] := by
  obtain ⟨X, hb, hml, hr, hlk⟩ := id M
  have hx := X.1
  intro x1 x2 x4 x5 s0 s1 σ H locs ls hf hF hl
  unfold fX7_agreed_63 at hf
  refine lv_iload_n hx hb dX7_agreed_63 rfl (lv_at hl 2 rfl) ?_
  refine lv_icmp_ne (tgt := 74) hx hb dX7_agreed_64 (by decide) (fun cd12 => ?_) (fun cd12 => ?_)
  · replace hf := ifn cd12 hf
    refine lv_iconst (v := (0 : Int32)) hx hb dX7_agreed_74 (by decide) ?_
    refine lv_ior hx hb dX7_agreed_75 ?_
    refine lv_istore_n (lv' := [(3, .int (s1 ||| (0 : Int32))), (0, .ref (gA G 0)), (1, .int x1), (2, .int x2), (4, .int x4), (5, .int x5)]) hx hb dX7_agreed_76 rfl hl (by decide) rfl (fun ls hl => ?_)
    refine lv_iinc (v := x5 + (1 : Int32)) (lv' := [(5, .int (x5 + (1 : Int32))), (3, .int (s1 ||| (0 : Int32))), (0, .ref (gA G 0)), (1, .int x1), (2, .int x2), (4, .int x4)]) hx hb dX7_agreed_77 hl (k := 5) rfl rfl (by decide) rfl (fun ls hl => ?_)
    refine lv_goto (tgt := 12) hx hb dX7_agreed_80 (by decide) ?_
    exact hk12 x1 x2 (s1 ||| (0 : Int32)) x4 (x5 + (1 : Int32)) σ _ _ _ hf hF (lv_sub hl [2, 3, 4, 1, 5, 0] rfl)
  · replace hf := ifp cd12 hf
    refine lv_iconst (v := (1 : Int32)) hx hb dX7_agreed_67 (by decide) ?_
    refine lv_iload hx hb dX7_agreed_68 (lv_at hl 4 rfl) ?_
    refine lv_ishl hx hb dX7_agreed_70 ?_
    refine lv_goto (tgt := 75) hx hb dX7_agreed_71 (by decide) ?_
    refine lv_ior hx hb dX7_agreed_75 ?_
    refine lv_istore_n (lv' := [(3, .int (s1 ||| ((1 : Int32) <<< (x5 &&& 31)))), (0, .ref (gA G 0)), (1, .int x1), (2, .int x2), (4, .int x4), (5, .int x5)]) hx hb dX7_agreed_76 rfl hl (by decide) rfl (fun ls hl => ?_)
    refine lv_iinc (v := x5 + (1 : Int32)) (lv' := [(5, .int (x5 + (1 : Int32))), (3, .int (s1 ||| ((1 : Int32) <<< (x5 &&& 31)))), (0, .ref (gA G 0)), (1, .int x1), (2, .int x2), (4, .int x4)]) hx hb dX7_agreed_77 hl (k := 5) rfl rfl (by decide) rfl (fun ls hl => ?_)
    refine lv_goto (tgt := 12) hx hb dX7_agreed_80 (by decide) ?_
    exact hk12 x1 x2 (s1 ||| ((1 : Int32) <<< (x5 &&& 31))) x4 (x5 + (1 : Int32)) σ _ _ _ hf hF (lv_sub hl [2, 3, 4, 1, 5, 0] rfl)
set_option maxHeartbeats 4000000 in
set_option maxRecDepth 100000 in
theorem bX7_agreed_12 {r : Int32} {σ' : Mem} (M : MX p s m args meth c RX7 G wR cX7_agreed 8 (some .int)) : ∀ (fu : Nat) (x1 : Int32) (x2 : Int32) (x3 : Int32) (x4 : Int32) (x5 : Int32) (σ : Mem) (H : Heap) (locs : List Loc) (ls : Array Slot), fX7_agreed_12 fu x1 x2 x3 x4 x5 σ = some (r, σ') → FH G wR s.heap H locs σ → lv_has ls 8 [(0, .ref (gA G 0)), (1, .int x1), (2, .int x2), (3, .int x3), (4, .int x4), (5, .int x5)] → WG p l e ({ frames := 7, cells := 0, slots := 0, locals := 166 }) s m args below meth c G wR (some (.int r)) σ' H locs 12 ls [] := by
  obtain ⟨X, hb, hml, hr, hlk⟩ := id M
  have hx := X.1
  intro fu
  induction fu with
  | zero =>
    intro x1 x2 x3 x4 x5 σ H locs ls hf hF hl
    rw [fX7_agreed_12] at hf
    cases hf
  | succ fu ih =>
    intro x1 x2 x3 x4 x5 σ H locs ls hf hF hl
    rw [fX7_agreed_12] at hf
    refine lv_iload hx hb dX7_agreed_12 (lv_at hl 5 rfl) ?_
    refine lv_bipush (v := (8 : Int32)) hx hb dX7_agreed_14 (by decide) ?_
    refine lv_icmp_ge (tgt := 83) hx hb dX7_agreed_16 (by decide) (fun cd4 => ?_) (fun cd4 => ?_)
    · replace hf := ifp cd4 hf
      refine lv_iload_n hx hb dX7_agreed_83 rfl (lv_at hl 3 rfl) ?_
      obtain ⟨rfl, rfl⟩ := Prod.mk.inj (Option.some.inj hf)
      exact fl_iret X hb hr hlk hF dX7_agreed_84
    · replace hf := ifn cd4 hf
      refine lv_aload_n hx hb dX7_agreed_19 rfl (lv_at hl 0 rfl) ?_
      refine lv_iconst (v := (0 : Int32)) hx hb dX7_agreed_20 (by decide) ?_
      refine lv_iload hx hb dX7_agreed_21 (lv_at hl 5 rfl) ?_
      obtain ⟨r6, hq5, hf⟩ := bi_some hf
      refine cm_X7_141 (As := [.int (0 : Int32), .int x5]) (rest := []) X hb hml hF (cX7_yearIn_ok (l := l) (G := G) X.2.2.2.2 hq5) sh_X7 ⟨Nat.le_of_ble_eq_true rfl, Nat.le_of_ble_eq_true rfl⟩ rfl rfl ⟨Nat.zero_le _, Nat.zero_le _⟩ rfl hl.1 rfl (Nat.le_of_ble_eq_true rfl) dX7_agreed_23 (fun H locs hF => ?_)
      refine lv_istore (lv' := [(6, .int r6), (0, .ref (gA G 0)), (1, .int x1), (2, .int x2), (3, .int x3), (4, .int x4), (5, .int x5)]) hx hb dX7_agreed_26 hl (by decide) rfl (fun ls hl => ?_)
      refine lv_aload_n hx hb dX7_agreed_28 rfl (lv_at hl 1 rfl) ?_
      refine lv_iload_n hx hb dX7_agreed_29 rfl (lv_at hl 2 rfl) ?_
      refine lv_iload hx hb dX7_agreed_30 (lv_at hl 6 rfl) ?_
      obtain ⟨r8, hq7, hf⟩ := bi_some hf
      refine cm_X7_141 (As := [.int x1, .int x5]) (rest := []) X hb hml hF (cX7_yearIn_ok (l := l) (G := G) X.2.2.2.2 hq7) sh_X7 ⟨Nat.le_of_ble_eq_true rfl, Nat.le_of_ble_eq_true rfl⟩ rfl rfl ⟨Nat.zero_le _, Nat.zero_le _⟩ rfl hl.1 rfl (Nat.le_of_ble_eq_true rfl) dX7_agreed_32 (fun H locs hF => ?_)
      refine lv_istore (lv' := [(7, .int r8), (6, .int r6), (0, .ref (gA G 0)), (1, .int x1), (2, .int x2), (3, .int x3), (4, .int x4), (5, .int x5)]) hx hb dX7_agreed_35 hl (by decide) rfl (fun ls hl => ?_)
      refine lv_iload_n hx hb dX7_agreed_37 rfl (lv_at hl 5 rfl) ?_
      refine lv_iload hx hb dX7_agreed_38 (lv_at hl 1 rfl) ?_
      refine lv_if_lt (tgt := 74) hx hb dX7_agreed_40 (by decide) (fun cd9 => ?_) (fun cd9 => ?_)
      · replace hf := ifp cd9 hf
        refine lv_iconst (v := (0 : Int32)) hx hb dX7_agreed_74 (by decide) ?_
        refine lv_ior hx hb dX7_agreed_75 ?_
        refine lv_istore_n (lv' := [(3, .int (x3 ||| (0 : Int32))), (7, .int r8), (6, .int r6), (0, .ref (gA G 0)), (1, .int x1), (2, .int x2), (4, .int x4), (5, .int x5)]) hx hb dX7_agreed_76 rfl hl (by decide) rfl (fun ls hl => ?_)
        refine lv_iinc (v := x5 + (1 : Int32)) (lv' := [(5, .int (x5 + (1 : Int32))), (3, .int (x3 ||| (0 : Int32))), (7, .int r8), (6, .int r6), (0, .ref (gA G 0)), (1, .int x1), (2, .int x2), (4, .int x4)]) hx hb dX7_agreed_77 hl (k := 7) rfl rfl (by decide) rfl (fun ls hl => ?_)
        refine lv_goto (tgt := 12) hx hb dX7_agreed_80 (by decide) ?_
        exact ih x1 x2 (x3 ||| (0 : Int32)) x4 (x5 + (1 : Int32)) σ _ _ _ hf hF (lv_sub hl [4, 5, 6, 1, 7, 0] rfl)
      · replace hf := ifn cd9 hf
        refine lv_iload hx hb dX7_agreed_43 (lv_at hl 0 rfl) ?_
        refine lv_if_lt (tgt := 74) hx hb dX7_agreed_45 (by decide) (fun cd10 => ?_) (fun cd10 => ?_)
        · replace hf := ifp cd10 hf
          refine lv_iconst (v := (0 : Int32)) hx hb dX7_agreed_74 (by decide) ?_
          refine lv_ior hx hb dX7_agreed_75 ?_
          refine lv_istore_n (lv' := [(3, .int (x3 ||| (0 : Int32))), (7, .int r8), (6, .int r6), (0, .ref (gA G 0)), (1, .int x1), (2, .int x2), (4, .int x4), (5, .int x5)]) hx hb dX7_agreed_76 rfl hl (by decide) rfl (fun ls hl => ?_)
          refine lv_iinc (v := x5 + (1 : Int32)) (lv' := [(5, .int (x5 + (1 : Int32))), (3, .int (x3 ||| (0 : Int32))), (7, .int r8), (6, .int r6), (0, .ref (gA G 0)), (1, .int x1), (2, .int x2), (4, .int x4)]) hx hb dX7_agreed_77 hl (k := 7) rfl rfl (by decide) rfl (fun ls hl => ?_)
          refine lv_goto (tgt := 12) hx hb dX7_agreed_80 (by decide) ?_
          exact ih x1 x2 (x3 ||| (0 : Int32)) x4 (x5 + (1 : Int32)) σ _ _ _ hf hF (lv_sub hl [4, 5, 6, 1, 7, 0] rfl)
        · replace hf := ifn cd10 hf
          refine lv_iload hx hb dX7_agreed_48 (lv_at hl 0 rfl) ?_
          refine lv_iload hx hb dX7_agreed_50 (lv_at hl 1 rfl) ?_
          refine lv_isub hx hb dX7_agreed_52 ?_
          refine lv_iload hx hb dX7_agreed_53 (lv_at hl 6 rfl) ?_
          refine lv_icmp_ne (tgt := 62) hx hb dX7_agreed_55 (by decide) (fun cd11 => ?_) (fun cd11 => ?_)
          · replace hf := ifn cd11 hf
            refine lv_iconst (v := (0 : Int32)) hx hb dX7_agreed_62 (by decide) ?_
            exact bX7_agreed_63 M ih x1 x2 x4 x5 (0 : Int32) x3 σ _ _ _ hf hF (lv_sub hl [2, 3, 4, 6, 7] rfl)
          · replace hf := ifp cd11 hf
            refine lv_iconst (v := (1 : Int32)) hx hb dX7_agreed_58 (by decide) ?_
            refine lv_goto (tgt := 63) hx hb dX7_agreed_59 (by decide) ?_
            exact bX7_agreed_63 M ih x1 x2 x4 x5 (1 : Int32) x3 σ _ _ _ hf hF (lv_sub hl [2, 3, 4, 6, 7] rfl)
set_option maxHeartbeats 4000000 in
set_option maxRecDepth 100000 in
theorem cX7_agreed_ok {l : Launch} {G : Gl} (hI : FI G wR) {x1 : Int32} {x2 : Int32} {σ : Mem} {r : Int32} {σ' : Mem} (hf : fX7_agreed x1 x2 σ = some (r, σ')) : Ct l G wR yX7_agreed cX7_agreed 8 (some .int) ({ frames := 7, cells := 0, slots := 0, locals := 166 }) [.ref (gA G 0), .int x1, .int x2] σ (some (.int r)) σ' := by
  refine fl_start hI (by decide) (Nat.le_of_ble_eq_true rfl) ?_
  intro p e s m below meth c M hF ls hl
  obtain ⟨X, hb, hml, hr, hlk⟩ := id M
  have hx := X.1
  have hl : lv_has ls 8 [(0, .ref (gA G 0)), (1, .int x1), (2, .int x2)] := hl
  unfold fX7_agreed at hf
  refine lv_iconst (v := (0 : Int32)) hx hb dX7_agreed_0 (by decide) ?_
  refine lv_istore_n (lv' := [(3, .int (0 : Int32)), (0, .ref (gA G 0)), (1, .int x1), (2, .int x2)]) hx hb dX7_agreed_1 rfl hl (by decide) rfl (fun ls hl => ?_)
  refine lv_aload_n hx hb dX7_agreed_2 rfl (lv_at hl 1 rfl) ?_
  refine lv_iload_n hx hb dX7_agreed_3 rfl (lv_at hl 2 rfl) ?_
  obtain ⟨r2, σ3, hq1, hf⟩ := bm_some hf
  refine cm_X7_170 (As := [.int x1]) (rest := []) X hb hml hF (cX7_shiftOf_ok (l := l) (G := G) X.2.2.2.2 hq1) sh_X7 ⟨Nat.le_of_ble_eq_true rfl, Nat.le_of_ble_eq_true rfl⟩ rfl rfl ⟨Nat.zero_le _, Nat.zero_le _⟩ rfl hl.1 rfl (Nat.le_of_ble_eq_true rfl) dX7_agreed_4 (fun H locs hF => ?_)
  refine lv_istore (lv' := [(4, .int r2), (3, .int (0 : Int32)), (0, .ref (gA G 0)), (1, .int x1), (2, .int x2)]) hx hb dX7_agreed_7 hl (by decide) rfl (fun ls hl => ?_)
  refine lv_iconst (v := (0 : Int32)) hx hb dX7_agreed_9 (by decide) ?_
  refine lv_istore (lv' := [(5, .int (0 : Int32)), (4, .int r2), (3, .int (0 : Int32)), (0, .ref (gA G 0)), (1, .int x1), (2, .int x2)]) hx hb dX7_agreed_10 hl (by decide) rfl (fun ls hl => ?_)
  exact bX7_agreed_12 M FU x1 x2 (0 : Int32) r2 (0 : Int32) σ3 _ _ _ hf hF (lv_sub hl [3, 4, 5, 2, 1, 0] rfl)
set_option maxHeartbeats 4000000 in
set_option maxRecDepth 100000 in
theorem bX7_shift_47 {r : Int32} {σ' : Mem} (M : MX p s m args meth c RX7 G wR cX7_shift 3 (some .int)) : ∀ (s0 : Int32) (s1 : Int32) (σ : Mem) (H : Heap) (locs : List Loc) (ls : Array Slot), fX7_shift_47 s0 s1 σ = some (r, σ') → FH G wR s.heap H locs σ → lv_has ls 3 [] → WG p l e ({ frames := 8, cells := 0, slots := 0, locals := 193 }) s m args below meth c G wR (some (.int r)) σ' H locs 47 ls [.int s0, .int s1, .ref (gA G 0)] := by
  obtain ⟨X, hb, hml, hr, hlk⟩ := id M
  have hx := X.1
  intro s0 s1 σ H locs ls hf hF hl
  unfold fX7_shift_47 at hf
  obtain ⟨r10, σ11, hq9, hf⟩ := bm_some hf
  refine cm_X7_175 (As := [.int s1, .int s0]) (rest := []) X hb hml hF (cX7_agreed_ok (l := l) (G := G) X.2.2.2.2 hq9) sh_X7 ⟨Nat.le_of_ble_eq_true rfl, Nat.le_of_ble_eq_true rfl⟩ rfl rfl ⟨Nat.zero_le _, Nat.zero_le _⟩ rfl hl.1 rfl (Nat.le_of_ble_eq_true rfl) dX7_shift_47 (fun H locs hF => ?_)
  obtain ⟨rfl, rfl⟩ := Prod.mk.inj (Option.some.inj hf)
  exact fl_iret X hb hr hlk hF dX7_shift_50
set_option maxHeartbeats 4000000 in
set_option maxRecDepth 100000 in
theorem cX7_shift_ok {l : Launch} {G : Gl} (hI : FI G wR) {x1 : Int32} {x2 : Int32} {σ : Mem} {r : Int32} {σ' : Mem} (hf : fX7_shift x1 x2 σ = some (r, σ')) : Ct l G wR yX7_shift cX7_shift 3 (some .int) ({ frames := 8, cells := 0, slots := 0, locals := 193 }) [.ref (gA G 0), .int x1, .int x2] σ (some (.int r)) σ' := by
  refine fl_start hI (by decide) (Nat.le_of_ble_eq_true rfl) ?_
  intro p e s m below meth c M hF ls hl
  obtain ⟨X, hb, hml, hr, hlk⟩ := id M
  have hx := X.1
  have hl : lv_has ls 3 [(0, .ref (gA G 0)), (1, .int x1), (2, .int x2)] := hl
  unfold fX7_shift at hf
  refine lv_aload_n hx hb dX7_shift_0 rfl (lv_at hl 0 rfl) ?_
  refine lv_iload_n hx hb dX7_shift_1 rfl (lv_at hl 1 rfl) ?_
  obtain ⟨r2, hq1, hf⟩ := bi_some hf
  refine cm_X7_126 (As := [.int x1]) (rest := []) X hb hml hF (cX7_isHouse_ok (l := l) (G := G) X.2.2.2.2 hq1) sh_X7 ⟨Nat.le_of_ble_eq_true rfl, Nat.le_of_ble_eq_true rfl⟩ rfl rfl ⟨Nat.zero_le _, Nat.zero_le _⟩ rfl hl.1 rfl (Nat.le_of_ble_eq_true rfl) dX7_shift_2 (fun H locs hF => ?_)
  refine lv_if_eq (tgt := 20) hx hb dX7_shift_5 (by decide) (fun cd3 => ?_) (fun cd3 => ?_)
  · replace hf := ifp cd3 hf
    refine lv_ldc (v := (-1000000 : Int32)) hx hb X.2.1 (X.2.2.1 _ wn_X7_163) dX7_shift_20 ?_
    obtain ⟨rfl, rfl⟩ := Prod.mk.inj (Option.some.inj hf)
    exact fl_iret X hb hr hlk hF dX7_shift_22
  · replace hf := ifn cd3 hf
    refine lv_iload_n hx hb dX7_shift_8 rfl (lv_at hl 2 rfl) ?_
    refine lv_i2l (v := x2.toInt64) hx hb dX7_shift_9 rfl ?_
    refine lv_lconst (v := (0 : Int64)) hx hb dX7_shift_10 (by decide) ?_
    refine lv_ldc2 (v := (2 : Int64)) hx hb X.2.1 (X.2.2.1 _ wn_X7_173) dX7_shift_11 ?_
    obtain ⟨r5, hq4, hf⟩ := bi_some hf
    refine cm_X7_62 (As := [.long x2.toInt64, .long (0 : Int64), .long (2 : Int64)]) (rest := []) X hb hml hF (cX7_in_ok (l := l) (G := G) (σ := σ) X.2.2.2.2 hq4) ⟨Nat.le_of_ble_eq_true rfl, Nat.le_of_ble_eq_true rfl⟩ rfl rfl ⟨Nat.zero_le _, Nat.zero_le _⟩ rfl hl.1 rfl (Nat.le_of_ble_eq_true rfl) dX7_shift_14 (fun H locs hF => ?_)
    refine lv_if_ne (tgt := 23) hx hb dX7_shift_17 (by decide) (fun cd6 => ?_) (fun cd6 => ?_)
    · replace hf := ifn cd6 hf
      refine lv_iload_n hx hb dX7_shift_23 rfl (lv_at hl 2 rfl) ?_
      refine lv_if_ne (tgt := 35) hx hb dX7_shift_24 (by decide) (fun cd7 => ?_) (fun cd7 => ?_)
      · replace hf := ifn cd7 hf
        refine lv_aload_n hx hb dX7_shift_35 rfl (lv_at hl 0 rfl) ?_
        refine lv_iload_n hx hb dX7_shift_36 rfl (lv_at hl 1 rfl) ?_
        refine lv_iload_n hx hb dX7_shift_37 rfl (lv_at hl 2 rfl) ?_
        refine lv_iconst (v := (1 : Int32)) hx hb dX7_shift_38 (by decide) ?_
        refine lv_icmp_ne (tgt := 46) hx hb dX7_shift_39 (by decide) (fun cd8 => ?_) (fun cd8 => ?_)
        · replace hf := ifn cd8 hf
          refine lv_iconst (v := (0 : Int32)) hx hb dX7_shift_46 (by decide) ?_
          exact bX7_shift_47 M (0 : Int32) x1 σ _ _ _ hf hF (lv_sub hl [] rfl)
        · replace hf := ifp cd8 hf
          refine lv_iconst (v := (1 : Int32)) hx hb dX7_shift_42 (by decide) ?_
          refine lv_goto (tgt := 47) hx hb dX7_shift_43 (by decide) ?_
          exact bX7_shift_47 M (1 : Int32) x1 σ _ _ _ hf hF (lv_sub hl [] rfl)
      · replace hf := ifp cd7 hf
        refine lv_aload_n hx hb dX7_shift_27 rfl (lv_at hl 0 rfl) ?_
        refine lv_iload_n hx hb dX7_shift_28 rfl (lv_at hl 1 rfl) ?_
        obtain ⟨r13, σ14, hq12, hf⟩ := bm_some hf
        refine cm_X7_170 (As := [.int x1]) (rest := []) X hb hml hF (cX7_shiftOf_ok (l := l) (G := G) X.2.2.2.2 hq12) sh_X7 ⟨Nat.le_of_ble_eq_true rfl, Nat.le_of_ble_eq_true rfl⟩ rfl rfl ⟨Nat.zero_le _, Nat.zero_le _⟩ rfl hl.1 rfl (Nat.le_of_ble_eq_true rfl) dX7_shift_29 (fun H locs hF => ?_)
        refine lv_goto (tgt := 50) hx hb dX7_shift_32 (by decide) ?_
        obtain ⟨rfl, rfl⟩ := Prod.mk.inj (Option.some.inj hf)
        exact fl_iret X hb hr hlk hF dX7_shift_50
    · replace hf := ifp cd6 hf
      refine lv_ldc (v := (-1000000 : Int32)) hx hb X.2.1 (X.2.2.1 _ wn_X7_163) dX7_shift_20 ?_
      obtain ⟨rfl, rfl⟩ := Prod.mk.inj (Option.some.inj hf)
      exact fl_iret X hb hr hlk hF dX7_shift_22
set_option maxHeartbeats 4000000 in
set_option maxRecDepth 100000 in
theorem bX7_aloneIn_4 {σ : Mem} {r : Int32} (M : MX p s m args meth c RX7 G wR cX7_aloneIn 4 (some .int)) : ∀ (fu : Nat) (x1 : Int32) (x2 : Int32) (x3 : Int32) (H : Heap) (locs : List Loc) (ls : Array Slot), fX7_aloneIn_4 σ fu x1 x2 x3 = some r → FH G wR s.heap H locs σ → lv_has ls 4 [(0, .ref (gA G 0)), (1, .int x1), (2, .int x2), (3, .int x3)] → WG p l e ({ frames := 6, cells := 0, slots := 0, locals := 136 }) s m args below meth c G wR (some (.int r)) σ H locs 4 ls [] := by
  obtain ⟨X, hb, hml, hr, hlk⟩ := id M
  have hx := X.1
  intro fu
  induction fu with
  | zero =>
    intro x1 x2 x3 H locs ls hf hF hl
    rw [fX7_aloneIn_4] at hf
    cases hf
  | succ fu ih =>
    intro x1 x2 x3 H locs ls hf hF hl
    rw [fX7_aloneIn_4] at hf
    refine lv_iload_n hx hb dX7_aloneIn_4 rfl (lv_at hl 3 rfl) ?_
    refine lv_bipush (v := (8 : Int32)) hx hb dX7_aloneIn_5 (by decide) ?_
    refine lv_icmp_ge (tgt := 35) hx hb dX7_aloneIn_7 (by decide) (fun cd1 => ?_) (fun cd1 => ?_)
    · replace hf := ifp cd1 hf
      refine lv_iload_n hx hb dX7_aloneIn_35 rfl (lv_at hl 2 rfl) ?_
      obtain rfl := Option.some.inj hf
      exact fl_iret X hb hr hlk hF dX7_aloneIn_36
    · replace hf := ifn cd1 hf
      refine lv_iload_n hx hb dX7_aloneIn_10 rfl (lv_at hl 2 rfl) ?_
      refine lv_aload_n hx hb dX7_aloneIn_11 rfl (lv_at hl 0 rfl) ?_
      refine lv_iload_n hx hb dX7_aloneIn_12 rfl (lv_at hl 3 rfl) ?_
      obtain ⟨r3, hq2, hf⟩ := bi_some hf
      refine cm_X7_179 (As := [.int x3]) (rest := [.int x2]) X hb hml hF (cX7_housesOf_ok (l := l) (G := G) X.2.2.2.2 hq2) sh_X7 ⟨Nat.le_of_ble_eq_true rfl, Nat.le_of_ble_eq_true rfl⟩ rfl rfl ⟨Nat.zero_le _, Nat.zero_le _⟩ rfl hl.1 rfl (Nat.le_of_ble_eq_true rfl) dX7_aloneIn_13 (fun H locs hF => ?_)
      refine lv_iconst (v := (1 : Int32)) hx hb dX7_aloneIn_16 (by decide) ?_
      refine lv_iload_n hx hb dX7_aloneIn_17 rfl (lv_at hl 1 rfl) ?_
      refine lv_ishl hx hb dX7_aloneIn_18 ?_
      refine lv_icmp_ne (tgt := 26) hx hb dX7_aloneIn_19 (by decide) (fun cd4 => ?_) (fun cd4 => ?_)
      · replace hf := ifn cd4 hf
        refine lv_iconst (v := (0 : Int32)) hx hb dX7_aloneIn_26 (by decide) ?_
        refine lv_iadd hx hb dX7_aloneIn_27 ?_
        refine lv_istore_n (lv' := [(2, .int (x2 + (0 : Int32))), (0, .ref (gA G 0)), (1, .int x1), (3, .int x3)]) hx hb dX7_aloneIn_28 rfl hl (by decide) rfl (fun ls hl => ?_)
        refine lv_iinc (v := x3 + (1 : Int32)) (lv' := [(3, .int (x3 + (1 : Int32))), (2, .int (x2 + (0 : Int32))), (0, .ref (gA G 0)), (1, .int x1)]) hx hb dX7_aloneIn_29 hl (k := 3) rfl rfl (by decide) rfl (fun ls hl => ?_)
        refine lv_goto (tgt := 4) hx hb dX7_aloneIn_32 (by decide) ?_
        exact ih x1 (x2 + (0 : Int32)) (x3 + (1 : Int32)) _ _ _ hf hF (lv_sub hl [2, 3, 1, 0] rfl)
      · replace hf := ifp cd4 hf
        refine lv_iconst (v := (1 : Int32)) hx hb dX7_aloneIn_22 (by decide) ?_
        refine lv_goto (tgt := 27) hx hb dX7_aloneIn_23 (by decide) ?_
        refine lv_iadd hx hb dX7_aloneIn_27 ?_
        refine lv_istore_n (lv' := [(2, .int (x2 + (1 : Int32))), (0, .ref (gA G 0)), (1, .int x1), (3, .int x3)]) hx hb dX7_aloneIn_28 rfl hl (by decide) rfl (fun ls hl => ?_)
        refine lv_iinc (v := x3 + (1 : Int32)) (lv' := [(3, .int (x3 + (1 : Int32))), (2, .int (x2 + (1 : Int32))), (0, .ref (gA G 0)), (1, .int x1)]) hx hb dX7_aloneIn_29 hl (k := 3) rfl rfl (by decide) rfl (fun ls hl => ?_)
        refine lv_goto (tgt := 4) hx hb dX7_aloneIn_32 (by decide) ?_
        exact ih x1 (x2 + (1 : Int32)) (x3 + (1 : Int32)) _ _ _ hf hF (lv_sub hl [2, 3, 1, 0] rfl)
set_option maxHeartbeats 4000000 in
set_option maxRecDepth 100000 in
theorem cX7_aloneIn_ok {l : Launch} {G : Gl} (hI : FI G wR) {x1 : Int32} {σ : Mem} {r : Int32} (hf : fX7_aloneIn x1 σ = some r) : Ct l G wR yX7_aloneIn cX7_aloneIn 4 (some .int) ({ frames := 6, cells := 0, slots := 0, locals := 136 }) [.ref (gA G 0), .int x1] σ (some (.int r)) σ := by
  refine fl_start hI (by decide) (Nat.le_of_ble_eq_true rfl) ?_
  intro p e s m below meth c M hF ls hl
  obtain ⟨X, hb, hml, hr, hlk⟩ := id M
  have hx := X.1
  have hl : lv_has ls 4 [(0, .ref (gA G 0)), (1, .int x1)] := hl
  unfold fX7_aloneIn at hf
  refine lv_iconst (v := (0 : Int32)) hx hb dX7_aloneIn_0 (by decide) ?_
  refine lv_istore_n (lv' := [(2, .int (0 : Int32)), (0, .ref (gA G 0)), (1, .int x1)]) hx hb dX7_aloneIn_1 rfl hl (by decide) rfl (fun ls hl => ?_)
  refine lv_iconst (v := (0 : Int32)) hx hb dX7_aloneIn_2 (by decide) ?_
  refine lv_istore_n (lv' := [(3, .int (0 : Int32)), (2, .int (0 : Int32)), (0, .ref (gA G 0)), (1, .int x1)]) hx hb dX7_aloneIn_3 rfl hl (by decide) rfl (fun ls hl => ?_)
  exact bX7_aloneIn_4 M FU x1 (0 : Int32) (0 : Int32) _ _ _ hf hF (lv_sub hl [2, 3, 1, 0] rfl)
set_option maxHeartbeats 4000000 in
set_option maxRecDepth 100000 in
theorem bX7_knotsIn_10 {r : Int32} {σ' : Mem} (M : MX p s m args meth c RX7 G wR cX7_knotsIn 5 (some .int)) : ∀ (fu : Nat) (x1 : Int32) (x2 : Int32) (x3 : Int32) (x4 : Int32) (σ : Mem) (H : Heap) (locs : List Loc) (ls : Array Slot), fX7_knotsIn_10 fu x1 x2 x3 x4 σ = some (r, σ') → FH G wR s.heap H locs σ → lv_has ls 5 [(0, .ref (gA G 0)), (1, .int x1), (2, .int x2), (3, .int x3), (4, .int x4)] → WG p l e ({ frames := 8, cells := 0, slots := 0, locals := 184 }) s m args below meth c G wR (some (.int r)) σ' H locs 10 ls [] := by
  obtain ⟨X, hb, hml, hr, hlk⟩ := id M
  have hx := X.1
  intro fu
  induction fu with
  | zero =>
    intro x1 x2 x3 x4 σ H locs ls hf hF hl
    rw [fX7_knotsIn_10] at hf
    cases hf
  | succ fu ih =>
    intro x1 x2 x3 x4 σ H locs ls hf hF hl
    rw [fX7_knotsIn_10] at hf
    refine lv_iload hx hb dX7_knotsIn_10 (lv_at hl 4 rfl) ?_
    refine lv_bipush (v := (8 : Int32)) hx hb dX7_knotsIn_12 (by decide) ?_
    refine lv_icmp_ge (tgt := 50) hx hb dX7_knotsIn_14 (by decide) (fun cd4 => ?_) (fun cd4 => ?_)
    · replace hf := ifp cd4 hf
      refine lv_iload_n hx hb dX7_knotsIn_50 rfl (lv_at hl 3 rfl) ?_
      obtain ⟨rfl, rfl⟩ := Prod.mk.inj (Option.some.inj hf)
      exact fl_iret X hb hr hlk hF dX7_knotsIn_51
    · replace hf := ifn cd4 hf
      refine lv_iload_n hx hb dX7_knotsIn_17 rfl (lv_at hl 3 rfl) ?_
      refine lv_iload_n hx hb dX7_knotsIn_18 rfl (lv_at hl 2 rfl) ?_
      refine lv_iload hx hb dX7_knotsIn_19 (lv_at hl 4 rfl) ?_
      obtain ⟨r6, hq5, hf⟩ := bi_some hf
      refine cm_X7_135 (As := [.int x2, .int x4]) (rest := [.int x3]) X hb hml hF (cX7_has_ok (l := l) (G := G) (σ := σ) X.2.2.2.2 hq5) ⟨Nat.le_of_ble_eq_true rfl, Nat.le_of_ble_eq_true rfl⟩ rfl rfl ⟨Nat.zero_le _, Nat.zero_le _⟩ rfl hl.1 rfl (Nat.le_of_ble_eq_true rfl) dX7_knotsIn_21 (fun H locs hF => ?_)
      refine lv_if_eq (tgt := 41) hx hb dX7_knotsIn_24 (by decide) (fun cd7 => ?_) (fun cd7 => ?_)
      · replace hf := ifp cd7 hf
        refine lv_iconst (v := (0 : Int32)) hx hb dX7_knotsIn_41 (by decide) ?_
        refine lv_iadd hx hb dX7_knotsIn_42 ?_
        refine lv_istore_n (lv' := [(3, .int (x3 + (0 : Int32))), (0, .ref (gA G 0)), (1, .int x1), (2, .int x2), (4, .int x4)]) hx hb dX7_knotsIn_43 rfl hl (by decide) rfl (fun ls hl => ?_)
        refine lv_iinc (v := x4 + (1 : Int32)) (lv' := [(4, .int (x4 + (1 : Int32))), (3, .int (x3 + (0 : Int32))), (0, .ref (gA G 0)), (1, .int x1), (2, .int x2)]) hx hb dX7_knotsIn_44 hl (k := 4) rfl rfl (by decide) rfl (fun ls hl => ?_)
        refine lv_goto (tgt := 10) hx hb dX7_knotsIn_47 (by decide) ?_
        exact ih x1 x2 (x3 + (0 : Int32)) (x4 + (1 : Int32)) σ _ _ _ hf hF (lv_sub hl [2, 3, 4, 1, 0] rfl)
      · replace hf := ifn cd7 hf
        refine lv_aload_n hx hb dX7_knotsIn_27 rfl (lv_at hl 0 rfl) ?_
        refine lv_iload_n hx hb dX7_knotsIn_28 rfl (lv_at hl 1 rfl) ?_
        refine lv_iload hx hb dX7_knotsIn_29 (lv_at hl 4 rfl) ?_
        obtain ⟨r9, hq8, hf⟩ := bi_some hf
        refine cm_X7_141 (As := [.int x1, .int x4]) (rest := [.int x3]) X hb hml hF (cX7_yearIn_ok (l := l) (G := G) X.2.2.2.2 hq8) sh_X7 ⟨Nat.le_of_ble_eq_true rfl, Nat.le_of_ble_eq_true rfl⟩ rfl rfl ⟨Nat.zero_le _, Nat.zero_le _⟩ rfl hl.1 rfl (Nat.le_of_ble_eq_true rfl) dX7_knotsIn_31 (fun H locs hF => ?_)
        refine lv_if_lt (tgt := 41) hx hb dX7_knotsIn_34 (by decide) (fun cd10 => ?_) (fun cd10 => ?_)
        · replace hf := ifp cd10 hf
          refine lv_iconst (v := (0 : Int32)) hx hb dX7_knotsIn_41 (by decide) ?_
          refine lv_iadd hx hb dX7_knotsIn_42 ?_
          refine lv_istore_n (lv' := [(3, .int (x3 + (0 : Int32))), (0, .ref (gA G 0)), (1, .int x1), (2, .int x2), (4, .int x4)]) hx hb dX7_knotsIn_43 rfl hl (by decide) rfl (fun ls hl => ?_)
          refine lv_iinc (v := x4 + (1 : Int32)) (lv' := [(4, .int (x4 + (1 : Int32))), (3, .int (x3 + (0 : Int32))), (0, .ref (gA G 0)), (1, .int x1), (2, .int x2)]) hx hb dX7_knotsIn_44 hl (k := 4) rfl rfl (by decide) rfl (fun ls hl => ?_)
          refine lv_goto (tgt := 10) hx hb dX7_knotsIn_47 (by decide) ?_
          exact ih x1 x2 (x3 + (0 : Int32)) (x4 + (1 : Int32)) σ _ _ _ hf hF (lv_sub hl [2, 3, 4, 1, 0] rfl)
        · replace hf := ifn cd10 hf
          refine lv_iconst (v := (1 : Int32)) hx hb dX7_knotsIn_37 (by decide) ?_
          refine lv_goto (tgt := 42) hx hb dX7_knotsIn_38 (by decide) ?_
          refine lv_iadd hx hb dX7_knotsIn_42 ?_
          refine lv_istore_n (lv' := [(3, .int (x3 + (1 : Int32))), (0, .ref (gA G 0)), (1, .int x1), (2, .int x2), (4, .int x4)]) hx hb dX7_knotsIn_43 rfl hl (by decide) rfl (fun ls hl => ?_)
          refine lv_iinc (v := x4 + (1 : Int32)) (lv' := [(4, .int (x4 + (1 : Int32))), (3, .int (x3 + (1 : Int32))), (0, .ref (gA G 0)), (1, .int x1), (2, .int x2)]) hx hb dX7_knotsIn_44 hl (k := 4) rfl rfl (by decide) rfl (fun ls hl => ?_)
          refine lv_goto (tgt := 10) hx hb dX7_knotsIn_47 (by decide) ?_
          exact ih x1 x2 (x3 + (1 : Int32)) (x4 + (1 : Int32)) σ _ _ _ hf hF (lv_sub hl [2, 3, 4, 1, 0] rfl)
set_option maxHeartbeats 4000000 in
set_option maxRecDepth 100000 in
theorem cX7_knotsIn_ok {l : Launch} {G : Gl} (hI : FI G wR) {x1 : Int32} {σ : Mem} {r : Int32} {σ' : Mem} (hf : fX7_knotsIn x1 σ = some (r, σ')) : Ct l G wR yX7_knotsIn cX7_knotsIn 5 (some .int) ({ frames := 8, cells := 0, slots := 0, locals := 184 }) [.ref (gA G 0), .int x1] σ (some (.int r)) σ' := by
  refine fl_start hI (by decide) (Nat.le_of_ble_eq_true rfl) ?_
  intro p e s m below meth c M hF ls hl
  obtain ⟨X, hb, hml, hr, hlk⟩ := id M
  have hx := X.1
  have hl : lv_has ls 5 [(0, .ref (gA G 0)), (1, .int x1)] := hl
  unfold fX7_knotsIn at hf
  refine lv_aload_n hx hb dX7_knotsIn_0 rfl (lv_at hl 0 rfl) ?_
  obtain ⟨r2, σ3, hq1, hf⟩ := bm_some hf
  refine cm_X7_182 (As := []) (rest := []) X hb hml hF (cX7_knots_ok (l := l) (G := G) X.2.2.2.2 hq1) sh_X7 ⟨Nat.le_of_ble_eq_true rfl, Nat.le_of_ble_eq_true rfl⟩ rfl rfl ⟨Nat.zero_le _, Nat.zero_le _⟩ rfl hl.1 rfl (Nat.le_of_ble_eq_true rfl) dX7_knotsIn_1 (fun H locs hF => ?_)
  refine lv_istore_n (lv' := [(2, .int r2), (0, .ref (gA G 0)), (1, .int x1)]) hx hb dX7_knotsIn_4 rfl hl (by decide) rfl (fun ls hl => ?_)
  refine lv_iconst (v := (0 : Int32)) hx hb dX7_knotsIn_5 (by decide) ?_
  refine lv_istore_n (lv' := [(3, .int (0 : Int32)), (2, .int r2), (0, .ref (gA G 0)), (1, .int x1)]) hx hb dX7_knotsIn_6 rfl hl (by decide) rfl (fun ls hl => ?_)
  refine lv_iconst (v := (0 : Int32)) hx hb dX7_knotsIn_7 (by decide) ?_
  refine lv_istore (lv' := [(4, .int (0 : Int32)), (3, .int (0 : Int32)), (2, .int r2), (0, .ref (gA G 0)), (1, .int x1)]) hx hb dX7_knotsIn_8 hl (by decide) rfl (fun ls hl => ?_)
  exact bX7_knotsIn_10 M FU x1 r2 (0 : Int32) (0 : Int32) σ3 _ _ _ hf hF (lv_sub hl [3, 4, 2, 1, 0] rfl)
set_option maxHeartbeats 4000000 in
set_option maxRecDepth 100000 in
theorem cX7_measured_ok {l : Launch} {G : Gl} (hI : FI G wR) {x1 : Int32} {x2 : Int32} {σ : Mem} {r : Int32} {σ' : Mem} (hf : fX7_measured x1 x2 σ = some (r, σ')) : Ct l G wR yX7_measured cX7_measured 3 (some .int) ({ frames := 9, cells := 0, slots := 0, locals := 208 }) [.ref (gA G 0), .int x1, .int x2] σ (some (.int r)) σ' := by
  refine fl_start hI (by decide) (Nat.le_of_ble_eq_true rfl) ?_
  intro p e s m below meth c M hF ls hl
  obtain ⟨X, hb, hml, hr, hlk⟩ := id M
  have hx := X.1
  have hl : lv_has ls 3 [(0, .ref (gA G 0)), (1, .int x1), (2, .int x2)] := hl
  unfold fX7_measured at hf
  refine lv_iload_n hx hb dX7_measured_0 rfl (lv_at hl 2 rfl) ?_
  by_cases cd1 : x2 = (0 : Int32)
  · replace hf := ifp cd1 hf
    refine lv_tableIn (tgt := 32) (off := 31) hx hb dX7_measured_1 (by rw [cd1]; decide) (by rw [cd1]; decide) (by rw [cd1]; rfl) (by decide) ?_
    refine lv_aload_n hx hb dX7_measured_32 rfl (lv_at hl 0 rfl) ?_
    refine lv_iload_n hx hb dX7_measured_33 rfl (lv_at hl 1 rfl) ?_
    obtain ⟨r3, hq2, hf⟩ := bi_some hf
    refine cm_X7_186 (As := [.int x1]) (rest := []) X hb hml hF (cX7_sizeOf_ok (l := l) (G := G) X.2.2.2.2 hq2) sh_X7 ⟨Nat.le_of_ble_eq_true rfl, Nat.le_of_ble_eq_true rfl⟩ rfl rfl ⟨Nat.zero_le _, Nat.zero_le _⟩ rfl hl.1 rfl (Nat.le_of_ble_eq_true rfl) dX7_measured_34 (fun H locs hF => ?_)
    obtain ⟨rfl, rfl⟩ := Prod.mk.inj (Option.some.inj hf)
    exact fl_iret X hb hr hlk hF dX7_measured_37
  · replace hf := ifn cd1 hf
    by_cases cd4 : x2 = (1 : Int32)
    · replace hf := ifp cd4 hf
      refine lv_tableIn (tgt := 38) (off := 37) hx hb dX7_measured_1 (by rw [cd4]; decide) (by rw [cd4]; decide) (by rw [cd4]; rfl) (by decide) ?_
      refine lv_aload_n hx hb dX7_measured_38 rfl (lv_at hl 0 rfl) ?_
      refine lv_iload_n hx hb dX7_measured_39 rfl (lv_at hl 1 rfl) ?_
      refine lv_iconst (v := (1 : Int32)) hx hb dX7_measured_40 (by decide) ?_
      obtain ⟨r6, σ7, hq5, hf⟩ := bm_some hf
      refine cm_X7_175 (As := [.int x1, .int (1 : Int32)]) (rest := []) X hb hml hF (cX7_agreed_ok (l := l) (G := G) X.2.2.2.2 hq5) sh_X7 ⟨Nat.le_of_ble_eq_true rfl, Nat.le_of_ble_eq_true rfl⟩ rfl rfl ⟨Nat.zero_le _, Nat.zero_le _⟩ rfl hl.1 rfl (Nat.le_of_ble_eq_true rfl) dX7_measured_41 (fun H locs hF => ?_)
      obtain ⟨r9, hq8, hf⟩ := bi_some hf
      refine cm_X7_189 (As := [.int r6]) (rest := []) X hb hml hF (cX7_ones_ok (l := l) (G := G) (σ := σ7) X.2.2.2.2 hq8) ⟨Nat.le_of_ble_eq_true rfl, Nat.le_of_ble_eq_true rfl⟩ rfl rfl ⟨Nat.zero_le _, Nat.zero_le _⟩ rfl hl.1 rfl (Nat.le_of_ble_eq_true rfl) dX7_measured_44 (fun H locs hF => ?_)
      obtain ⟨rfl, rfl⟩ := Prod.mk.inj (Option.some.inj hf)
      exact fl_iret X hb hr hlk hF dX7_measured_47
    · replace hf := ifn cd4 hf
      by_cases cd10 : x2 = (2 : Int32)
      · replace hf := ifp cd10 hf
        refine lv_tableIn (tgt := 48) (off := 47) hx hb dX7_measured_1 (by rw [cd10]; decide) (by rw [cd10]; decide) (by rw [cd10]; rfl) (by decide) ?_
        refine lv_iload_n hx hb dX7_measured_48 rfl (lv_at hl 1 rfl) ?_
        refine lv_if_le (tgt := 61) hx hb dX7_measured_49 (by decide) (fun cd11 => ?_) (fun cd11 => ?_)
        · replace hf := ifp cd11 hf
          refine lv_aload_n hx hb dX7_measured_61 rfl (lv_at hl 0 rfl) ?_
          refine lv_iconst (v := (0 : Int32)) hx hb dX7_measured_62 (by decide) ?_
          obtain ⟨r13, hq12, hf⟩ := bi_some hf
          refine cm_X7_186 (As := [.int (0 : Int32)]) (rest := []) X hb hml hF (cX7_sizeOf_ok (l := l) (G := G) X.2.2.2.2 hq12) sh_X7 ⟨Nat.le_of_ble_eq_true rfl, Nat.le_of_ble_eq_true rfl⟩ rfl rfl ⟨Nat.zero_le _, Nat.zero_le _⟩ rfl hl.1 rfl (Nat.le_of_ble_eq_true rfl) dX7_measured_63 (fun H locs hF => ?_)
          refine lv_if_le (tgt := 73) hx hb dX7_measured_66 (by decide) (fun cd14 => ?_) (fun cd14 => ?_)
          · replace hf := ifp cd14 hf
            refine lv_iconst (v := (0 : Int32)) hx hb dX7_measured_73 (by decide) ?_
            obtain ⟨rfl, rfl⟩ := Prod.mk.inj (Option.some.inj hf)
            exact fl_iret X hb hr hlk hF dX7_measured_74
          · replace hf := ifn cd14 hf
            refine lv_iconst (v := (1 : Int32)) hx hb dX7_measured_69 (by decide) ?_
            refine lv_goto (tgt := 74) hx hb dX7_measured_70 (by decide) ?_
            obtain ⟨rfl, rfl⟩ := Prod.mk.inj (Option.some.inj hf)
            exact fl_iret X hb hr hlk hF dX7_measured_74
        · replace hf := ifn cd11 hf
          refine lv_aload_n hx hb dX7_measured_52 rfl (lv_at hl 0 rfl) ?_
          refine lv_iconst (v := (0 : Int32)) hx hb dX7_measured_53 (by decide) ?_
          refine lv_iload_n hx hb dX7_measured_54 rfl (lv_at hl 1 rfl) ?_
          obtain ⟨r16, σ17, hq15, hf⟩ := bm_some hf
          refine cm_X7_164 (As := [.int (0 : Int32), .int x1]) (rest := []) X hb hml hF (cX7_spans_ok (l := l) (G := G) X.2.2.2.2 hq15) sh_X7 ⟨Nat.le_of_ble_eq_true rfl, Nat.le_of_ble_eq_true rfl⟩ rfl rfl ⟨Nat.zero_le _, Nat.zero_le _⟩ rfl hl.1 rfl (Nat.le_of_ble_eq_true rfl) dX7_measured_55 (fun H locs hF => ?_)
          refine lv_goto (tgt := 74) hx hb dX7_measured_58 (by decide) ?_
          obtain ⟨rfl, rfl⟩ := Prod.mk.inj (Option.some.inj hf)
          exact fl_iret X hb hr hlk hF dX7_measured_74
      · replace hf := ifn cd10 hf
        by_cases cd18 : x2 = (3 : Int32)
        · replace hf := ifp cd18 hf
          refine lv_tableIn (tgt := 75) (off := 74) hx hb dX7_measured_1 (by rw [cd18]; decide) (by rw [cd18]; decide) (by rw [cd18]; rfl) (by decide) ?_
          refine lv_aload_n hx hb dX7_measured_75 rfl (lv_at hl 0 rfl) ?_
          refine lv_iload_n hx hb dX7_measured_76 rfl (lv_at hl 1 rfl) ?_
          obtain ⟨r20, hq19, hf⟩ := bi_some hf
          refine cm_X7_192 (As := [.int x1]) (rest := []) X hb hml hF (cX7_aloneIn_ok (l := l) (G := G) X.2.2.2.2 hq19) sh_X7 ⟨Nat.le_of_ble_eq_true rfl, Nat.le_of_ble_eq_true rfl⟩ rfl rfl ⟨Nat.zero_le _, Nat.zero_le _⟩ rfl hl.1 rfl (Nat.le_of_ble_eq_true rfl) dX7_measured_77 (fun H locs hF => ?_)
          obtain ⟨rfl, rfl⟩ := Prod.mk.inj (Option.some.inj hf)
          exact fl_iret X hb hr hlk hF dX7_measured_80
        · replace hf := ifn cd18 hf
          refine lv_tableOut (tgt := 81) hx hb dX7_measured_1 (by have z0 := lv_neT (a := 0) cd1 (by decide); have z1 := lv_neT (a := 1) cd4 (by decide); have z2 := lv_neT (a := 2) cd10 (by decide); have z3 := lv_neT (a := 3) cd18 (by decide); omega) (by decide) ?_
          refine lv_aload_n hx hb dX7_measured_81 rfl (lv_at hl 0 rfl) ?_
          refine lv_iload_n hx hb dX7_measured_82 rfl (lv_at hl 1 rfl) ?_
          obtain ⟨r22, σ23, hq21, hf⟩ := bm_some hf
          refine cm_X7_195 (As := [.int x1]) (rest := []) X hb hml hF (cX7_knotsIn_ok (l := l) (G := G) X.2.2.2.2 hq21) sh_X7 ⟨Nat.le_of_ble_eq_true rfl, Nat.le_of_ble_eq_true rfl⟩ rfl rfl ⟨Nat.zero_le _, Nat.zero_le _⟩ rfl hl.1 rfl (Nat.le_of_ble_eq_true rfl) dX7_measured_83 (fun H locs hF => ?_)
          obtain ⟨rfl, rfl⟩ := Prod.mk.inj (Option.some.inj hf)
          exact fl_iret X hb hr hlk hF dX7_measured_86
set_option maxHeartbeats 4000000 in
set_option maxRecDepth 100000 in
theorem bX7_measure_20 {r : Int32} {σ' : Mem} (M : MX p s m args meth c RX7 G wR cX7_measure 3 (some .int)) : ∀ (σ : Mem) (H : Heap) (locs : List Loc) (ls : Array Slot), fX7_measure_20 σ = some (r, σ') → FH G wR s.heap H locs σ → lv_has ls 3 [] → WG p l e ({ frames := 10, cells := 0, slots := 0, locals := 230 }) s m args below meth c G wR (some (.int r)) σ' H locs 20 ls [] := by
  obtain ⟨X, hb, hml, hr, hlk⟩ := id M
  have hx := X.1
  intro σ H locs ls hf hF hl
  unfold fX7_measure_20 at hf
  refine lv_iconst (v := (-1 : Int32)) hx hb dX7_measure_20 (by decide) ?_
  refine lv_goto (tgt := 30) hx hb dX7_measure_21 (by decide) ?_
  obtain ⟨rfl, rfl⟩ := Prod.mk.inj (Option.some.inj hf)
  exact fl_iret X hb hr hlk hF dX7_measure_30
set_option maxHeartbeats 4000000 in
set_option maxRecDepth 100000 in
theorem cX7_measure_ok {l : Launch} {G : Gl} (hI : FI G wR) {x1 : Int32} {x2 : Int32} {σ : Mem} {r : Int32} {σ' : Mem} (hf : fX7_measure x1 x2 σ = some (r, σ')) : Ct l G wR yX7_measure cX7_measure 3 (some .int) ({ frames := 10, cells := 0, slots := 0, locals := 230 }) [.ref (gA G 0), .int x1, .int x2] σ (some (.int r)) σ' := by
  refine fl_start hI (by decide) (Nat.le_of_ble_eq_true rfl) ?_
  intro p e s m below meth c M hF ls hl
  obtain ⟨X, hb, hml, hr, hlk⟩ := id M
  have hx := X.1
  have hl : lv_has ls 3 [(0, .ref (gA G 0)), (1, .int x1), (2, .int x2)] := hl
  unfold fX7_measure at hf
  refine lv_aload_n hx hb dX7_measure_0 rfl (lv_at hl 0 rfl) ?_
  refine lv_iload_n hx hb dX7_measure_1 rfl (lv_at hl 1 rfl) ?_
  obtain ⟨r2, hq1, hf⟩ := bi_some hf
  refine cm_X7_126 (As := [.int x1]) (rest := []) X hb hml hF (cX7_isHouse_ok (l := l) (G := G) X.2.2.2.2 hq1) sh_X7 ⟨Nat.le_of_ble_eq_true rfl, Nat.le_of_ble_eq_true rfl⟩ rfl rfl ⟨Nat.zero_le _, Nat.zero_le _⟩ rfl hl.1 rfl (Nat.le_of_ble_eq_true rfl) dX7_measure_2 (fun H locs hF => ?_)
  refine lv_if_eq (tgt := 20) hx hb dX7_measure_5 (by decide) (fun cd3 => ?_) (fun cd3 => ?_)
  · replace hf := ifp cd3 hf
    exact bX7_measure_20 M σ _ _ _ hf hF (lv_sub hl [] rfl)
  · replace hf := ifn cd3 hf
    refine lv_iload_n hx hb dX7_measure_8 rfl (lv_at hl 2 rfl) ?_
    refine lv_i2l (v := x2.toInt64) hx hb dX7_measure_9 rfl ?_
    refine lv_lconst (v := (0 : Int64)) hx hb dX7_measure_10 (by decide) ?_
    refine lv_ldc2 (v := (4 : Int64)) hx hb X.2.1 (X.2.2.1 _ wn_X7_198) dX7_measure_11 ?_
    obtain ⟨r5, hq4, hf⟩ := bi_some hf
    refine cm_X7_62 (As := [.long x2.toInt64, .long (0 : Int64), .long (4 : Int64)]) (rest := []) X hb hml hF (cX7_in_ok (l := l) (G := G) (σ := σ) X.2.2.2.2 hq4) ⟨Nat.le_of_ble_eq_true rfl, Nat.le_of_ble_eq_true rfl⟩ rfl rfl ⟨Nat.zero_le _, Nat.zero_le _⟩ rfl hl.1 rfl (Nat.le_of_ble_eq_true rfl) dX7_measure_14 (fun H locs hF => ?_)
    refine lv_if_ne (tgt := 24) hx hb dX7_measure_17 (by decide) (fun cd6 => ?_) (fun cd6 => ?_)
    · replace hf := ifn cd6 hf
      refine lv_aload_n hx hb dX7_measure_24 rfl (lv_at hl 0 rfl) ?_
      refine lv_iload_n hx hb dX7_measure_25 rfl (lv_at hl 1 rfl) ?_
      refine lv_iload_n hx hb dX7_measure_26 rfl (lv_at hl 2 rfl) ?_
      obtain ⟨r8, σ9, hq7, hf⟩ := bm_some hf
      refine cm_X7_200 (As := [.int x1, .int x2]) (rest := []) X hb hml hF (cX7_measured_ok (l := l) (G := G) X.2.2.2.2 hq7) sh_X7 ⟨Nat.le_of_ble_eq_true rfl, Nat.le_of_ble_eq_true rfl⟩ rfl rfl ⟨Nat.zero_le _, Nat.zero_le _⟩ rfl hl.1 rfl (Nat.le_of_ble_eq_true rfl) dX7_measure_27 (fun H locs hF => ?_)
      obtain ⟨rfl, rfl⟩ := Prod.mk.inj (Option.some.inj hf)
      exact fl_iret X hb hr hlk hF dX7_measure_30
    · replace hf := ifp cd6 hf
      exact bX7_measure_20 M σ _ _ _ hf hF (lv_sub hl [] rfl)
set_option maxHeartbeats 4000000 in
set_option maxRecDepth 100000 in
theorem bX7_rank_82 {r : Int32} {σ' : Mem} {k20 : Int32 → Int32 → Int32 → Mem → Option (Int32 × Mem)} {k42 : Int32 → Int32 → Int32 → Int32 → Int32 → Int32 → Mem → Option (Int32 × Mem)} (M : MX p s m args meth c RX7 G wR cX7_rank 8 (some .int)) (hk20 : ∀ (x1 : Int32) (x2 : Int32) (x3 : Int32) (σ : Mem) (H : Heap) (locs : List Loc) (ls : Array Slot), k20 x1 x2 x3 σ = some (r, σ') → FH G wR s.heap H locs σ → lv_has ls 8 [(0, .ref (gA G 0)), (1, .int x1), (2, .int x2), (3, .int x3)] → WG p l e ({ frames := 10, cells := 0, slots := 0, locals := 230 }) s m args below meth c G wR (some (.int r)) σ' H locs 20 ls []) (hk42 : ∀ (x1 : Int32) (x2 : Int32) (x3 : Int32) (x4 : Int32) (x5 : Int32) (x6 : Int32) (σ : Mem) (H : Heap) (locs : List Loc) (ls : Array Slot), k42 x1 x2 x3 x4 x5 x6 σ = some (r, σ') → FH G wR s.heap H locs σ → lv_has ls 8 [(0, .ref (gA G 0)), (1, .int x1), (2, .int x2), (3, .int x3), (4, .int x4), (5, .int x5), (6, .int x6)] → WG p l e ({ frames := 10, cells := 0, slots := 0, locals := 230 }) s m args below meth c G wR (some (.int r)) σ' H locs 42 ls []) : ∀ (x1 : Int32) (x2 : Int32) (x3 : Int32) (x4 : Int32) (x6 : Int32) (s0 : Int32) (σ : Mem) (H : Heap) (locs : List Loc) (ls : Array Slot), fX7_rank_82 k20 k42 x1 x2 x3 x4 x6 s0 σ = some (r, σ') → FH G wR s.heap H locs σ → lv_has ls 8 [(0, .ref (gA G 0)), (1, .int x1), (2, .int x2), (3, .int x3), (4, .int x4), (6, .int x6)] → WG p l e ({ frames := 10, cells := 0, slots := 0, locals := 230 }) s m args below meth c G wR (some (.int r)) σ' H locs 82 ls [.int s0] := by
  obtain ⟨X, hb, hml, hr, hlk⟩ := id M
  have hx := X.1
  intro x1 x2 x3 x4 x6 s0 σ H locs ls hf hF hl
  unfold fX7_rank_82 at hf
  refine lv_iconst (v := (1 : Int32)) hx hb dX7_rank_82 (by decide) ?_
  refine lv_goto (tgt := 87) hx hb dX7_rank_83 (by decide) ?_
  refine lv_iadd hx hb dX7_rank_87 ?_
  refine lv_istore (lv' := [(5, .int (s0 + (1 : Int32))), (0, .ref (gA G 0)), (1, .int x1), (2, .int x2), (3, .int x3), (4, .int x4), (6, .int x6)]) hx hb dX7_rank_88 hl (by decide) rfl (fun ls hl => ?_)
  refine lv_iinc (v := x6 + (1 : Int32)) (lv' := [(6, .int (x6 + (1 : Int32))), (5, .int (s0 + (1 : Int32))), (0, .ref (gA G 0)), (1, .int x1), (2, .int x2), (3, .int x3), (4, .int x4)]) hx hb dX7_rank_90 hl (k := 6) rfl rfl (by decide) rfl (fun ls hl => ?_)
  refine lv_goto (tgt := 42) hx hb dX7_rank_93 (by decide) ?_
  exact hk42 x1 x2 x3 x4 (s0 + (1 : Int32)) (x6 + (1 : Int32)) σ _ _ _ hf hF (lv_sub hl [2, 3, 4, 5, 6, 1, 0] rfl)
set_option maxHeartbeats 4000000 in
set_option maxRecDepth 100000 in
theorem bX7_rank_42 {r : Int32} {σ' : Mem} {k20 : Int32 → Int32 → Int32 → Mem → Option (Int32 × Mem)} (M : MX p s m args meth c RX7 G wR cX7_rank 8 (some .int)) (hk20 : ∀ (x1 : Int32) (x2 : Int32) (x3 : Int32) (σ : Mem) (H : Heap) (locs : List Loc) (ls : Array Slot), k20 x1 x2 x3 σ = some (r, σ') → FH G wR s.heap H locs σ → lv_has ls 8 [(0, .ref (gA G 0)), (1, .int x1), (2, .int x2), (3, .int x3)] → WG p l e ({ frames := 10, cells := 0, slots := 0, locals := 230 }) s m args below meth c G wR (some (.int r)) σ' H locs 20 ls []) : ∀ (fu : Nat) (x1 : Int32) (x2 : Int32) (x3 : Int32) (x4 : Int32) (x5 : Int32) (x6 : Int32) (σ : Mem) (H : Heap) (locs : List Loc) (ls : Array Slot), fX7_rank_42 k20 fu x1 x2 x3 x4 x5 x6 σ = some (r, σ') → FH G wR s.heap H locs σ → lv_has ls 8 [(0, .ref (gA G 0)), (1, .int x1), (2, .int x2), (3, .int x3), (4, .int x4), (5, .int x5), (6, .int x6)] → WG p l e ({ frames := 10, cells := 0, slots := 0, locals := 230 }) s m args below meth c G wR (some (.int r)) σ' H locs 42 ls [] := by
  obtain ⟨X, hb, hml, hr, hlk⟩ := id M
  have hx := X.1
  intro fu
  induction fu with
  | zero =>
    intro x1 x2 x3 x4 x5 x6 σ H locs ls hf hF hl
    rw [fX7_rank_42] at hf
    cases hf
  | succ fu ih =>
    intro x1 x2 x3 x4 x5 x6 σ H locs ls hf hF hl
    rw [fX7_rank_42] at hf
    refine lv_iload hx hb dX7_rank_42 (lv_at hl 6 rfl) ?_
    refine lv_aload_n hx hb dX7_rank_44 rfl (lv_at hl 0 rfl) ?_
    refine gf_X7_120 X hb hF sh_X7 dX7_rank_45 ?_
    refine lv_icmp_ge (tgt := 96) hx hb dX7_rank_48 (by decide) (fun cd9 => ?_) (fun cd9 => ?_)
    · replace hf := ifp cd9 hf
      refine lv_iload hx hb dX7_rank_96 (lv_at hl 5 rfl) ?_
      refine lv_iload_n hx hb dX7_rank_98 rfl (lv_at hl 2 rfl) ?_
      refine lv_icmp_ne (tgt := 104) hx hb dX7_rank_99 (by decide) (fun cd10 => ?_) (fun cd10 => ?_)
      · replace hf := ifn cd10 hf
        refine lv_iinc (v := x3 + (1 : Int32)) (lv' := [(3, .int (x3 + (1 : Int32))), (0, .ref (gA G 0)), (1, .int x1), (2, .int x2), (4, .int x4), (5, .int x5), (6, .int x6)]) hx hb dX7_rank_104 hl (k := 3) rfl rfl (by decide) rfl (fun ls hl => ?_)
        refine lv_goto (tgt := 20) hx hb dX7_rank_107 (by decide) ?_
        exact hk20 x1 x2 (x3 + (1 : Int32)) σ _ _ _ hf hF (lv_sub hl [1, 2, 3, 0] rfl)
      · replace hf := ifp cd10 hf
        refine lv_iload_n hx hb dX7_rank_102 rfl (lv_at hl 3 rfl) ?_
        obtain ⟨rfl, rfl⟩ := Prod.mk.inj (Option.some.inj hf)
        exact fl_iret X hb hr hlk hF dX7_rank_103
    · replace hf := ifn cd9 hf
      refine lv_aload_n hx hb dX7_rank_51 rfl (lv_at hl 0 rfl) ?_
      refine lv_iload hx hb dX7_rank_52 (lv_at hl 6 rfl) ?_
      refine lv_iload_n hx hb dX7_rank_54 rfl (lv_at hl 1 rfl) ?_
      obtain ⟨r12, σ13, hq11, hf⟩ := bm_some hf
      refine cm_X7_200 (As := [.int x6, .int x1]) (rest := []) X hb hml hF (cX7_measured_ok (l := l) (G := G) X.2.2.2.2 hq11) sh_X7 ⟨Nat.le_of_ble_eq_true rfl, Nat.le_of_ble_eq_true rfl⟩ rfl rfl ⟨Nat.zero_le _, Nat.zero_le _⟩ rfl hl.1 rfl (Nat.le_of_ble_eq_true rfl) dX7_rank_55 (fun H locs hF => ?_)
      refine lv_istore (lv' := [(7, .int r12), (0, .ref (gA G 0)), (1, .int x1), (2, .int x2), (3, .int x3), (4, .int x4), (5, .int x5), (6, .int x6)]) hx hb dX7_rank_58 hl (by decide) rfl (fun ls hl => ?_)
      refine lv_iload hx hb dX7_rank_60 (lv_at hl 6 rfl) ?_
      refine lv_iload hx hb dX7_rank_62 (lv_at hl 0 rfl) ?_
      refine lv_iload hx hb dX7_rank_64 (lv_at hl 5 rfl) ?_
      refine lv_icmp_gt (tgt := 82) hx hb dX7_rank_66 (by decide) (fun cd14 => ?_) (fun cd14 => ?_)
      · replace hf := ifp cd14 hf
        exact bX7_rank_82 M hk20 ih x1 x2 x3 x4 x6 x5 σ13 _ _ _ hf hF (lv_sub hl [1, 2, 3, 4, 5, 7] rfl)
      · replace hf := ifn cd14 hf
        refine lv_iload hx hb dX7_rank_69 (lv_at hl 0 rfl) ?_
        refine lv_iload hx hb dX7_rank_71 (lv_at hl 5 rfl) ?_
        refine lv_icmp_ne (tgt := 86) hx hb dX7_rank_73 (by decide) (fun cd15 => ?_) (fun cd15 => ?_)
        · replace hf := ifn cd15 hf
          refine lv_iconst (v := (0 : Int32)) hx hb dX7_rank_86 (by decide) ?_
          refine lv_iadd hx hb dX7_rank_87 ?_
          refine lv_istore (lv' := [(5, .int (x5 + (0 : Int32))), (7, .int r12), (0, .ref (gA G 0)), (1, .int x1), (2, .int x2), (3, .int x3), (4, .int x4), (6, .int x6)]) hx hb dX7_rank_88 hl (by decide) rfl (fun ls hl => ?_)
          refine lv_iinc (v := x6 + (1 : Int32)) (lv' := [(6, .int (x6 + (1 : Int32))), (5, .int (x5 + (0 : Int32))), (7, .int r12), (0, .ref (gA G 0)), (1, .int x1), (2, .int x2), (3, .int x3), (4, .int x4)]) hx hb dX7_rank_90 hl (k := 7) rfl rfl (by decide) rfl (fun ls hl => ?_)
          refine lv_goto (tgt := 42) hx hb dX7_rank_93 (by decide) ?_
          exact ih x1 x2 x3 x4 (x5 + (0 : Int32)) (x6 + (1 : Int32)) σ13 _ _ _ hf hF (lv_sub hl [3, 4, 5, 6, 7, 1, 0] rfl)
        · replace hf := ifp cd15 hf
          refine lv_iload hx hb dX7_rank_76 (lv_at hl 7 rfl) ?_
          refine lv_iload_n hx hb dX7_rank_78 rfl (lv_at hl 4 rfl) ?_
          refine lv_icmp_ge (tgt := 86) hx hb dX7_rank_79 (by decide) (fun cd16 => ?_) (fun cd16 => ?_)
          · replace hf := ifp cd16 hf
            refine lv_iconst (v := (0 : Int32)) hx hb dX7_rank_86 (by decide) ?_
            refine lv_iadd hx hb dX7_rank_87 ?_
            refine lv_istore (lv' := [(5, .int (x5 + (0 : Int32))), (7, .int r12), (0, .ref (gA G 0)), (1, .int x1), (2, .int x2), (3, .int x3), (4, .int x4), (6, .int x6)]) hx hb dX7_rank_88 hl (by decide) rfl (fun ls hl => ?_)
            refine lv_iinc (v := x6 + (1 : Int32)) (lv' := [(6, .int (x6 + (1 : Int32))), (5, .int (x5 + (0 : Int32))), (7, .int r12), (0, .ref (gA G 0)), (1, .int x1), (2, .int x2), (3, .int x3), (4, .int x4)]) hx hb dX7_rank_90 hl (k := 7) rfl rfl (by decide) rfl (fun ls hl => ?_)
            refine lv_goto (tgt := 42) hx hb dX7_rank_93 (by decide) ?_
            exact ih x1 x2 x3 x4 (x5 + (0 : Int32)) (x6 + (1 : Int32)) σ13 _ _ _ hf hF (lv_sub hl [3, 4, 5, 6, 7, 1, 0] rfl)
          · replace hf := ifn cd16 hf
            exact bX7_rank_82 M hk20 ih x1 x2 x3 x4 x6 x5 σ13 _ _ _ hf hF (lv_sub hl [1, 2, 3, 4, 5, 7] rfl)
set_option maxHeartbeats 4000000 in
set_option maxRecDepth 100000 in
theorem bX7_rank_20 {r : Int32} {σ' : Mem} (M : MX p s m args meth c RX7 G wR cX7_rank 8 (some .int)) : ∀ (fu : Nat) (x1 : Int32) (x2 : Int32) (x3 : Int32) (σ : Mem) (H : Heap) (locs : List Loc) (ls : Array Slot), fX7_rank_20 fu x1 x2 x3 σ = some (r, σ') → FH G wR s.heap H locs σ → lv_has ls 8 [(0, .ref (gA G 0)), (1, .int x1), (2, .int x2), (3, .int x3)] → WG p l e ({ frames := 10, cells := 0, slots := 0, locals := 230 }) s m args below meth c G wR (some (.int r)) σ' H locs 20 ls [] := by
  obtain ⟨X, hb, hml, hr, hlk⟩ := id M
  have hx := X.1
  intro fu
  induction fu with
  | zero =>
    intro x1 x2 x3 σ H locs ls hf hF hl
    rw [fX7_rank_20] at hf
    cases hf
  | succ fu ih =>
    intro x1 x2 x3 σ H locs ls hf hF hl
    rw [fX7_rank_20] at hf
    refine lv_iload_n hx hb dX7_rank_20 rfl (lv_at hl 3 rfl) ?_
    refine lv_aload_n hx hb dX7_rank_21 rfl (lv_at hl 0 rfl) ?_
    refine gf_X7_120 X hb hF sh_X7 dX7_rank_22 ?_
    refine lv_icmp_ge (tgt := 110) hx hb dX7_rank_25 (by decide) (fun cd5 => ?_) (fun cd5 => ?_)
    · replace hf := ifp cd5 hf
      refine lv_bipush (v := (-9 : Int32)) hx hb dX7_rank_110 (by decide) ?_
      obtain ⟨rfl, rfl⟩ := Prod.mk.inj (Option.some.inj hf)
      exact fl_iret X hb hr hlk hF dX7_rank_112
    · replace hf := ifn cd5 hf
      refine lv_aload_n hx hb dX7_rank_28 rfl (lv_at hl 0 rfl) ?_
      refine lv_iload_n hx hb dX7_rank_29 rfl (lv_at hl 3 rfl) ?_
      refine lv_iload_n hx hb dX7_rank_30 rfl (lv_at hl 1 rfl) ?_
      obtain ⟨r7, σ8, hq6, hf⟩ := bm_some hf
      refine cm_X7_200 (As := [.int x3, .int x1]) (rest := []) X hb hml hF (cX7_measured_ok (l := l) (G := G) X.2.2.2.2 hq6) sh_X7 ⟨Nat.le_of_ble_eq_true rfl, Nat.le_of_ble_eq_true rfl⟩ rfl rfl ⟨Nat.zero_le _, Nat.zero_le _⟩ rfl hl.1 rfl (Nat.le_of_ble_eq_true rfl) dX7_rank_31 (fun H locs hF => ?_)
      refine lv_istore (lv' := [(4, .int r7), (0, .ref (gA G 0)), (1, .int x1), (2, .int x2), (3, .int x3)]) hx hb dX7_rank_34 hl (by decide) rfl (fun ls hl => ?_)
      refine lv_iconst (v := (0 : Int32)) hx hb dX7_rank_36 (by decide) ?_
      refine lv_istore (lv' := [(5, .int (0 : Int32)), (4, .int r7), (0, .ref (gA G 0)), (1, .int x1), (2, .int x2), (3, .int x3)]) hx hb dX7_rank_37 hl (by decide) rfl (fun ls hl => ?_)
      refine lv_iconst (v := (0 : Int32)) hx hb dX7_rank_39 (by decide) ?_
      refine lv_istore (lv' := [(6, .int (0 : Int32)), (5, .int (0 : Int32)), (4, .int r7), (0, .ref (gA G 0)), (1, .int x1), (2, .int x2), (3, .int x3)]) hx hb dX7_rank_40 hl (by decide) rfl (fun ls hl => ?_)
      exact bX7_rank_42 M ih FU x1 x2 x3 r7 (0 : Int32) (0 : Int32) σ8 _ _ _ hf hF (lv_sub hl [3, 4, 5, 6, 2, 1, 0] rfl)
set_option maxHeartbeats 4000000 in
set_option maxRecDepth 100000 in
theorem cX7_rank_ok {l : Launch} {G : Gl} (hI : FI G wR) {x1 : Int32} {x2 : Int32} {σ : Mem} {r : Int32} {σ' : Mem} (hf : fX7_rank x1 x2 σ = some (r, σ')) : Ct l G wR yX7_rank cX7_rank 8 (some .int) ({ frames := 10, cells := 0, slots := 0, locals := 230 }) [.ref (gA G 0), .int x1, .int x2] σ (some (.int r)) σ' := by
  refine fl_start hI (by decide) (Nat.le_of_ble_eq_true rfl) ?_
  intro p e s m below meth c M hF ls hl
  obtain ⟨X, hb, hml, hr, hlk⟩ := id M
  have hx := X.1
  have hl : lv_has ls 8 [(0, .ref (gA G 0)), (1, .int x1), (2, .int x2)] := hl
  unfold fX7_rank at hf
  refine lv_iload_n hx hb dX7_rank_0 rfl (lv_at hl 1 rfl) ?_
  refine lv_i2l (v := x1.toInt64) hx hb dX7_rank_1 rfl ?_
  refine lv_lconst (v := (0 : Int64)) hx hb dX7_rank_2 (by decide) ?_
  refine lv_ldc2 (v := (4 : Int64)) hx hb X.2.1 (X.2.2.1 _ wn_X7_198) dX7_rank_3 ?_
  obtain ⟨r2, hq1, hf⟩ := bi_some hf
  refine cm_X7_62 (As := [.long x1.toInt64, .long (0 : Int64), .long (4 : Int64)]) (rest := []) X hb hml hF (cX7_in_ok (l := l) (G := G) (σ := σ) X.2.2.2.2 hq1) ⟨Nat.le_of_ble_eq_true rfl, Nat.le_of_ble_eq_true rfl⟩ rfl rfl ⟨Nat.zero_le _, Nat.zero_le _⟩ rfl hl.1 rfl (Nat.le_of_ble_eq_true rfl) dX7_rank_6 (fun H locs hF => ?_)
  refine lv_if_eq (tgt := 16) hx hb dX7_rank_9 (by decide) (fun cd3 => ?_) (fun cd3 => ?_)
  · replace hf := ifp cd3 hf
    refine lv_iconst (v := (-1 : Int32)) hx hb dX7_rank_16 (by decide) ?_
    obtain ⟨rfl, rfl⟩ := Prod.mk.inj (Option.some.inj hf)
    exact fl_iret X hb hr hlk hF dX7_rank_17
  · replace hf := ifn cd3 hf
    refine lv_iload_n hx hb dX7_rank_12 rfl (lv_at hl 2 rfl) ?_
    refine lv_if_ge (tgt := 18) hx hb dX7_rank_13 (by decide) (fun cd4 => ?_) (fun cd4 => ?_)
    · replace hf := ifp cd4 hf
      refine lv_iconst (v := (0 : Int32)) hx hb dX7_rank_18 (by decide) ?_
      refine lv_istore_n (lv' := [(3, .int (0 : Int32)), (0, .ref (gA G 0)), (1, .int x1), (2, .int x2)]) hx hb dX7_rank_19 rfl hl (by decide) rfl (fun ls hl => ?_)
      exact bX7_rank_20 M FU x1 x2 (0 : Int32) σ _ _ _ hf hF (lv_sub hl [1, 2, 3, 0] rfl)
    · replace hf := ifn cd4 hf
      refine lv_iconst (v := (-1 : Int32)) hx hb dX7_rank_16 (by decide) ?_
      obtain ⟨rfl, rfl⟩ := Prod.mk.inj (Option.some.inj hf)
      exact fl_iret X hb hr hlk hF dX7_rank_17
set_option maxHeartbeats 4000000 in
set_option maxRecDepth 100000 in
theorem cX7_event_ok {l : Launch} {G : Gl} (hI : FI G wR) {x1 : Int32} {x2 : Int32} {σ : Mem} {r : Int32} {σ' : Mem} (hf : fX7_event x1 x2 σ = some (r, σ')) : Ct l G wR yX7_event cX7_event 4 (some .int) ({ frames := 8, cells := 0, slots := 0, locals := 184 }) [.ref (gA G 0), .int x1, .int x2] σ (some (.int r)) σ' := by
  refine fl_start hI (by decide) (Nat.le_of_ble_eq_true rfl) ?_
  intro p e s m below meth c M hF ls hl
  obtain ⟨X, hb, hml, hr, hlk⟩ := id M
  have hx := X.1
  have hl : lv_has ls 4 [(0, .ref (gA G 0)), (1, .int x1), (2, .int x2)] := hl
  unfold fX7_event at hf
  refine lv_iload_n hx hb dX7_event_0 rfl (lv_at hl 1 rfl) ?_
  refine lv_i2l (v := x1.toInt64) hx hb dX7_event_1 rfl ?_
  refine lv_lconst (v := (0 : Int64)) hx hb dX7_event_2 (by decide) ?_
  refine lv_ldc2 (v := (7 : Int64)) hx hb X.2.1 (X.2.2.1 _ wn_X7_203) dX7_event_3 ?_
  obtain ⟨r2, hq1, hf⟩ := bi_some hf
  refine cm_X7_62 (As := [.long x1.toInt64, .long (0 : Int64), .long (7 : Int64)]) (rest := []) X hb hml hF (cX7_in_ok (l := l) (G := G) (σ := σ) X.2.2.2.2 hq1) ⟨Nat.le_of_ble_eq_true rfl, Nat.le_of_ble_eq_true rfl⟩ rfl rfl ⟨Nat.zero_le _, Nat.zero_le _⟩ rfl hl.1 rfl (Nat.le_of_ble_eq_true rfl) dX7_event_6 (fun H locs hF => ?_)
  refine lv_if_eq (tgt := 24) hx hb dX7_event_9 (by decide) (fun cd3 => ?_) (fun cd3 => ?_)
  · replace hf := ifp cd3 hf
    refine lv_iconst (v := (-1 : Int32)) hx hb dX7_event_24 (by decide) ?_
    obtain ⟨rfl, rfl⟩ := Prod.mk.inj (Option.some.inj hf)
    exact fl_iret X hb hr hlk hF dX7_event_25
  · replace hf := ifn cd3 hf
    refine lv_iload_n hx hb dX7_event_12 rfl (lv_at hl 2 rfl) ?_
    refine lv_i2l (v := x2.toInt64) hx hb dX7_event_13 rfl ?_
    refine lv_lconst (v := (0 : Int64)) hx hb dX7_event_14 (by decide) ?_
    refine lv_ldc2 (v := (3 : Int64)) hx hb X.2.1 (X.2.2.1 _ wn_X7_161) dX7_event_15 ?_
    obtain ⟨r5, hq4, hf⟩ := bi_some hf
    refine cm_X7_62 (As := [.long x2.toInt64, .long (0 : Int64), .long (3 : Int64)]) (rest := []) X hb hml hF (cX7_in_ok (l := l) (G := G) (σ := σ) X.2.2.2.2 hq4) ⟨Nat.le_of_ble_eq_true rfl, Nat.le_of_ble_eq_true rfl⟩ rfl rfl ⟨Nat.zero_le _, Nat.zero_le _⟩ rfl hl.1 rfl (Nat.le_of_ble_eq_true rfl) dX7_event_18 (fun H locs hF => ?_)
    refine lv_if_ne (tgt := 26) hx hb dX7_event_21 (by decide) (fun cd6 => ?_) (fun cd6 => ?_)
    · replace hf := ifn cd6 hf
      refine lv_aload_n hx hb dX7_event_26 rfl (lv_at hl 0 rfl) ?_
      obtain ⟨r8, σ9, hq7, hf⟩ := bm_some hf
      refine cm_X7_182 (As := []) (rest := []) X hb hml hF (cX7_knots_ok (l := l) (G := G) X.2.2.2.2 hq7) sh_X7 ⟨Nat.le_of_ble_eq_true rfl, Nat.le_of_ble_eq_true rfl⟩ rfl rfl ⟨Nat.zero_le _, Nat.zero_le _⟩ rfl hl.1 rfl (Nat.le_of_ble_eq_true rfl) dX7_event_27 (fun H locs hF => ?_)
      refine lv_istore_n (lv' := [(3, .int r8), (0, .ref (gA G 0)), (1, .int x1), (2, .int x2)]) hx hb dX7_event_30 rfl hl (by decide) rfl (fun ls hl => ?_)
      refine lv_iload_n hx hb dX7_event_31 rfl (lv_at hl 3 rfl) ?_
      refine lv_if_ne (tgt := 43) hx hb dX7_event_32 (by decide) (fun cd10 => ?_) (fun cd10 => ?_)
      · replace hf := ifn cd10 hf
        refine lv_iload_n hx hb dX7_event_43 rfl (lv_at hl 3 rfl) ?_
        refine lv_iconst (v := (1 : Int32)) hx hb dX7_event_44 (by decide) ?_
        refine lv_icmp_ne (tgt := 56) hx hb dX7_event_45 (by decide) (fun cd11 => ?_) (fun cd11 => ?_)
        · replace hf := ifn cd11 hf
          refine lv_iload_n hx hb dX7_event_56 rfl (lv_at hl 3 rfl) ?_
          refine lv_iconst (v := (2 : Int32)) hx hb dX7_event_57 (by decide) ?_
          refine lv_icmp_ne (tgt := 70) hx hb dX7_event_58 (by decide) (fun cd12 => ?_) (fun cd12 => ?_)
          · replace hf := ifn cd12 hf
            refine lv_iload_n hx hb dX7_event_70 rfl (lv_at hl 0 rfl) ?_
            refine lv_iload_n hx hb dX7_event_71 rfl (lv_at hl 2 rfl) ?_
            refine lv_ishr hx hb dX7_event_72 ?_
            refine lv_iconst (v := (1 : Int32)) hx hb dX7_event_73 (by decide) ?_
            refine lv_iand hx hb dX7_event_74 ?_
            obtain ⟨rfl, rfl⟩ := Prod.mk.inj (Option.some.inj hf)
            exact fl_iret X hb hr hlk hF dX7_event_75
          · replace hf := ifp cd12 hf
            refine lv_aload_n hx hb dX7_event_61 rfl (lv_at hl 1 rfl) ?_
            refine gf_X7_42 X hb hF sh_X7 dX7_event_62 ?_
            refine lv_iload_n hx hb dX7_event_65 rfl (lv_at hl 2 rfl) ?_
            obtain ⟨g13, hf⟩ := grd_some hf
            refine fl_iald X hb hF sh_r10 g13 dX7_event_66 ?_
            refine lv_goto (tgt := 75) hx hb dX7_event_67 (by decide) ?_
            obtain ⟨rfl, rfl⟩ := Prod.mk.inj (Option.some.inj hf)
            exact fl_iret X hb hr hlk hF dX7_event_75
        · replace hf := ifp cd11 hf
          refine lv_aload_n hx hb dX7_event_48 rfl (lv_at hl 1 rfl) ?_
          refine lv_iload_n hx hb dX7_event_49 rfl (lv_at hl 2 rfl) ?_
          obtain ⟨r15, hq14, hf⟩ := bi_some hf
          refine cm_X7_145 (As := [.int x1]) (rest := []) X hb hml hF (cX7_aheadOf_ok (l := l) (G := G) X.2.2.2.2 hq14) sh_X7 ⟨Nat.le_of_ble_eq_true rfl, Nat.le_of_ble_eq_true rfl⟩ rfl rfl ⟨Nat.zero_le _, Nat.zero_le _⟩ rfl hl.1 rfl (Nat.le_of_ble_eq_true rfl) dX7_event_50 (fun H locs hF => ?_)
          refine lv_goto (tgt := 75) hx hb dX7_event_53 (by decide) ?_
          obtain ⟨rfl, rfl⟩ := Prod.mk.inj (Option.some.inj hf)
          exact fl_iret X hb hr hlk hF dX7_event_75
      · replace hf := ifp cd10 hf
        refine lv_aload_n hx hb dX7_event_35 rfl (lv_at hl 1 rfl) ?_
        refine lv_iload_n hx hb dX7_event_36 rfl (lv_at hl 2 rfl) ?_
        obtain ⟨r17, hq16, hf⟩ := bi_some hf
        refine cm_X7_179 (As := [.int x1]) (rest := []) X hb hml hF (cX7_housesOf_ok (l := l) (G := G) X.2.2.2.2 hq16) sh_X7 ⟨Nat.le_of_ble_eq_true rfl, Nat.le_of_ble_eq_true rfl⟩ rfl rfl ⟨Nat.zero_le _, Nat.zero_le _⟩ rfl hl.1 rfl (Nat.le_of_ble_eq_true rfl) dX7_event_37 (fun H locs hF => ?_)
        refine lv_goto (tgt := 75) hx hb dX7_event_40 (by decide) ?_
        obtain ⟨rfl, rfl⟩ := Prod.mk.inj (Option.some.inj hf)
        exact fl_iret X hb hr hlk hF dX7_event_75
    · replace hf := ifp cd6 hf
      refine lv_iconst (v := (-1 : Int32)) hx hb dX7_event_24 (by decide) ?_
      obtain ⟨rfl, rfl⟩ := Prod.mk.inj (Option.some.inj hf)
      exact fl_iret X hb hr hlk hF dX7_event_25
set_option maxHeartbeats 4000000 in
set_option maxRecDepth 100000 in
theorem bX7_date_2 {r : Int32} {σ' : Mem} (M : MX p s m args meth c RX7 G wR cX7_date 3 (some .int)) : ∀ (fu : Nat) (x1 : Int32) (x2 : Int32) (σ : Mem) (H : Heap) (locs : List Loc) (ls : Array Slot), fX7_date_2 fu x1 x2 σ = some (r, σ') → FH G wR s.heap H locs σ → lv_has ls 3 [(0, .ref (gA G 0)), (1, .int x1), (2, .int x2)] → WG p l e ({ frames := 7, cells := 0, slots := 0, locals := 166 }) s m args below meth c G wR (some (.int r)) σ' H locs 2 ls [] := by
  obtain ⟨X, hb, hml, hr, hlk⟩ := id M
  have hx := X.1
  intro fu
  induction fu with
  | zero =>
    intro x1 x2 σ H locs ls hf hF hl
    rw [fX7_date_2] at hf
    cases hf
  | succ fu ih =>
    intro x1 x2 σ H locs ls hf hF hl
    rw [fX7_date_2] at hf
    refine lv_iload_n hx hb dX7_date_2 rfl (lv_at hl 2 rfl) ?_
    refine lv_aload_n hx hb dX7_date_3 rfl (lv_at hl 0 rfl) ?_
    refine gf_X7_120 X hb hF sh_X7 dX7_date_4 ?_
    refine lv_icmp_ge (tgt := 50) hx hb dX7_date_7 (by decide) (fun cd1 => ?_) (fun cd1 => ?_)
    · replace hf := ifp cd1 hf
      refine lv_ldc (v := (-1000000 : Int32)) hx hb X.2.1 (X.2.2.1 _ wn_X7_163) dX7_date_50 ?_
      obtain ⟨rfl, rfl⟩ := Prod.mk.inj (Option.some.inj hf)
      exact fl_iret X hb hr hlk hF dX7_date_52
    · replace hf := ifn cd1 hf
      refine lv_iload_n hx hb dX7_date_10 rfl (lv_at hl 1 rfl) ?_
      refine lv_i2l (v := x1.toInt64) hx hb dX7_date_11 rfl ?_
      refine lv_lconst (v := (0 : Int64)) hx hb dX7_date_12 (by decide) ?_
      refine lv_ldc2 (v := (7 : Int64)) hx hb X.2.1 (X.2.2.1 _ wn_X7_203) dX7_date_13 ?_
      obtain ⟨r3, hq2, hf⟩ := bi_some hf
      refine cm_X7_62 (As := [.long x1.toInt64, .long (0 : Int64), .long (7 : Int64)]) (rest := []) X hb hml hF (cX7_in_ok (l := l) (G := G) (σ := σ) X.2.2.2.2 hq2) ⟨Nat.le_of_ble_eq_true rfl, Nat.le_of_ble_eq_true rfl⟩ rfl rfl ⟨Nat.zero_le _, Nat.zero_le _⟩ rfl hl.1 rfl (Nat.le_of_ble_eq_true rfl) dX7_date_16 (fun H locs hF => ?_)
      refine lv_if_eq (tgt := 50) hx hb dX7_date_19 (by decide) (fun cd4 => ?_) (fun cd4 => ?_)
      · replace hf := ifp cd4 hf
        refine lv_ldc (v := (-1000000 : Int32)) hx hb X.2.1 (X.2.2.1 _ wn_X7_163) dX7_date_50 ?_
        obtain ⟨rfl, rfl⟩ := Prod.mk.inj (Option.some.inj hf)
        exact fl_iret X hb hr hlk hF dX7_date_52
      · replace hf := ifn cd4 hf
        refine lv_aload_n hx hb dX7_date_22 rfl (lv_at hl 0 rfl) ?_
        refine lv_iload_n hx hb dX7_date_23 rfl (lv_at hl 2 rfl) ?_
        refine lv_iload_n hx hb dX7_date_24 rfl (lv_at hl 1 rfl) ?_
        obtain ⟨r6, hq5, hf⟩ := bi_some hf
        refine cm_X7_141 (As := [.int x2, .int x1]) (rest := []) X hb hml hF (cX7_yearIn_ok (l := l) (G := G) X.2.2.2.2 hq5) sh_X7 ⟨Nat.le_of_ble_eq_true rfl, Nat.le_of_ble_eq_true rfl⟩ rfl rfl ⟨Nat.zero_le _, Nat.zero_le _⟩ rfl hl.1 rfl (Nat.le_of_ble_eq_true rfl) dX7_date_25 (fun H locs hF => ?_)
        refine lv_if_lt (tgt := 44) hx hb dX7_date_28 (by decide) (fun cd7 => ?_) (fun cd7 => ?_)
        · replace hf := ifp cd7 hf
          refine lv_iinc (v := x2 + (1 : Int32)) (lv' := [(2, .int (x2 + (1 : Int32))), (0, .ref (gA G 0)), (1, .int x1)]) hx hb dX7_date_44 hl (k := 2) rfl rfl (by decide) rfl (fun ls hl => ?_)
          refine lv_goto (tgt := 2) hx hb dX7_date_47 (by decide) ?_
          exact ih x1 (x2 + (1 : Int32)) σ _ _ _ hf hF (lv_sub hl [1, 2, 0] rfl)
        · replace hf := ifn cd7 hf
          refine lv_aload_n hx hb dX7_date_31 rfl (lv_at hl 0 rfl) ?_
          refine lv_iload_n hx hb dX7_date_32 rfl (lv_at hl 2 rfl) ?_
          refine lv_iload_n hx hb dX7_date_33 rfl (lv_at hl 1 rfl) ?_
          obtain ⟨r9, hq8, hf⟩ := bi_some hf
          refine cm_X7_141 (As := [.int x2, .int x1]) (rest := []) X hb hml hF (cX7_yearIn_ok (l := l) (G := G) X.2.2.2.2 hq8) sh_X7 ⟨Nat.le_of_ble_eq_true rfl, Nat.le_of_ble_eq_true rfl⟩ rfl rfl ⟨Nat.zero_le _, Nat.zero_le _⟩ rfl hl.1 rfl (Nat.le_of_ble_eq_true rfl) dX7_date_34 (fun H locs hF => ?_)
          refine lv_aload_n hx hb dX7_date_37 rfl (lv_at hl 0 rfl) ?_
          refine lv_iload_n hx hb dX7_date_38 rfl (lv_at hl 2 rfl) ?_
          obtain ⟨r11, σ12, hq10, hf⟩ := bm_some hf
          refine cm_X7_170 (As := [.int x2]) (rest := [.int r9]) X hb hml hF (cX7_shiftOf_ok (l := l) (G := G) X.2.2.2.2 hq10) sh_X7 ⟨Nat.le_of_ble_eq_true rfl, Nat.le_of_ble_eq_true rfl⟩ rfl rfl ⟨Nat.zero_le _, Nat.zero_le _⟩ rfl hl.1 rfl (Nat.le_of_ble_eq_true rfl) dX7_date_39 (fun H locs hF => ?_)
          refine lv_isub hx hb dX7_date_42 ?_
          obtain ⟨rfl, rfl⟩ := Prod.mk.inj (Option.some.inj hf)
          exact fl_iret X hb hr hlk hF dX7_date_43
set_option maxHeartbeats 4000000 in
set_option maxRecDepth 100000 in
theorem cX7_date_ok {l : Launch} {G : Gl} (hI : FI G wR) {x1 : Int32} {σ : Mem} {r : Int32} {σ' : Mem} (hf : fX7_date x1 σ = some (r, σ')) : Ct l G wR yX7_date cX7_date 3 (some .int) ({ frames := 7, cells := 0, slots := 0, locals := 166 }) [.ref (gA G 0), .int x1] σ (some (.int r)) σ' := by
  refine fl_start hI (by decide) (Nat.le_of_ble_eq_true rfl) ?_
  intro p e s m below meth c M hF ls hl
  obtain ⟨X, hb, hml, hr, hlk⟩ := id M
  have hx := X.1
  have hl : lv_has ls 3 [(0, .ref (gA G 0)), (1, .int x1)] := hl
  unfold fX7_date at hf
  refine lv_iconst (v := (0 : Int32)) hx hb dX7_date_0 (by decide) ?_
  refine lv_istore_n (lv' := [(2, .int (0 : Int32)), (0, .ref (gA G 0)), (1, .int x1)]) hx hb dX7_date_1 rfl hl (by decide) rfl (fun ls hl => ?_)
  exact bX7_date_2 M FU x1 (0 : Int32) σ _ _ _ hf hF (lv_sub hl [1, 2, 0] rfl)
set_option maxHeartbeats 4000000 in
set_option maxRecDepth 100000 in
theorem bX7_late_26 {r : Int32} {σ' : Mem} (M : MX p s m args meth c RX7 G wR cX7_late 5 (some .int)) : ∀ (σ : Mem) (H : Heap) (locs : List Loc) (ls : Array Slot), fX7_late_26 σ = some (r, σ') → FH G wR s.heap H locs σ → lv_has ls 5 [] → WG p l e ({ frames := 8, cells := 0, slots := 0, locals := 188 }) s m args below meth c G wR (some (.int r)) σ' H locs 26 ls [] := by
  obtain ⟨X, hb, hml, hr, hlk⟩ := id M
  have hx := X.1
  intro σ H locs ls hf hF hl
  unfold fX7_late_26 at hf
  refine lv_ldc (v := (-1000000 : Int32)) hx hb X.2.1 (X.2.2.1 _ wn_X7_163) dX7_late_26 ?_
  refine lv_goto (tgt := 35) hx hb dX7_late_28 (by decide) ?_
  obtain ⟨rfl, rfl⟩ := Prod.mk.inj (Option.some.inj hf)
  exact fl_iret X hb hr hlk hF dX7_late_35
set_option maxHeartbeats 4000000 in
set_option maxRecDepth 100000 in
theorem cX7_late_ok {l : Launch} {G : Gl} (hI : FI G wR) {x1 : Int32} {x2 : Int32} {σ : Mem} {r : Int32} {σ' : Mem} (hf : fX7_late x1 x2 σ = some (r, σ')) : Ct l G wR yX7_late cX7_late 5 (some .int) ({ frames := 8, cells := 0, slots := 0, locals := 188 }) [.ref (gA G 0), .int x1, .int x2] σ (some (.int r)) σ' := by
  refine fl_start hI (by decide) (Nat.le_of_ble_eq_true rfl) ?_
  intro p e s m below meth c M hF ls hl
  obtain ⟨X, hb, hml, hr, hlk⟩ := id M
  have hx := X.1
  have hl : lv_has ls 5 [(0, .ref (gA G 0)), (1, .int x1), (2, .int x2)] := hl
  unfold fX7_late at hf
  refine lv_aload_n hx hb dX7_late_0 rfl (lv_at hl 0 rfl) ?_
  refine lv_iload_n hx hb dX7_late_1 rfl (lv_at hl 1 rfl) ?_
  obtain ⟨r2, σ3, hq1, hf⟩ := bm_some hf
  refine cm_X7_205 (As := [.int x1]) (rest := []) X hb hml hF (cX7_date_ok (l := l) (G := G) X.2.2.2.2 hq1) sh_X7 ⟨Nat.le_of_ble_eq_true rfl, Nat.le_of_ble_eq_true rfl⟩ rfl rfl ⟨Nat.zero_le _, Nat.zero_le _⟩ rfl hl.1 rfl (Nat.le_of_ble_eq_true rfl) dX7_late_2 (fun H locs hF => ?_)
  refine lv_istore_n (lv' := [(3, .int r2), (0, .ref (gA G 0)), (1, .int x1), (2, .int x2)]) hx hb dX7_late_5 rfl hl (by decide) rfl (fun ls hl => ?_)
  refine lv_aload_n hx hb dX7_late_6 rfl (lv_at hl 1 rfl) ?_
  refine lv_iload_n hx hb dX7_late_7 rfl (lv_at hl 3 rfl) ?_
  obtain ⟨r5, σ6, hq4, hf⟩ := bm_some hf
  refine cm_X7_205 (As := [.int x2]) (rest := []) X hb hml hF (cX7_date_ok (l := l) (G := G) X.2.2.2.2 hq4) sh_X7 ⟨Nat.le_of_ble_eq_true rfl, Nat.le_of_ble_eq_true rfl⟩ rfl rfl ⟨Nat.zero_le _, Nat.zero_le _⟩ rfl hl.1 rfl (Nat.le_of_ble_eq_true rfl) dX7_late_8 (fun H locs hF => ?_)
  refine lv_istore (lv' := [(4, .int r5), (3, .int r2), (0, .ref (gA G 0)), (1, .int x1), (2, .int x2)]) hx hb dX7_late_11 hl (by decide) rfl (fun ls hl => ?_)
  refine lv_iload_n hx hb dX7_late_13 rfl (lv_at hl 1 rfl) ?_
  refine lv_ldc (v := (-1000000 : Int32)) hx hb X.2.1 (X.2.2.1 _ wn_X7_163) dX7_late_14 ?_
  refine lv_icmp_eq (tgt := 26) hx hb dX7_late_16 (by decide) (fun cd7 => ?_) (fun cd7 => ?_)
  · replace hf := ifp cd7 hf
    exact bX7_late_26 M σ6 _ _ _ hf hF (lv_sub hl [] rfl)
  · replace hf := ifn cd7 hf
    refine lv_iload hx hb dX7_late_19 (lv_at hl 0 rfl) ?_
    refine lv_ldc (v := (-1000000 : Int32)) hx hb X.2.1 (X.2.2.1 _ wn_X7_163) dX7_late_21 ?_
    refine lv_icmp_ne (tgt := 31) hx hb dX7_late_23 (by decide) (fun cd8 => ?_) (fun cd8 => ?_)
    · replace hf := ifn cd8 hf
      refine lv_iload_n hx hb dX7_late_31 rfl (lv_at hl 1 rfl) ?_
      refine lv_iload hx hb dX7_late_32 (lv_at hl 0 rfl) ?_
      refine lv_isub hx hb dX7_late_34 ?_
      obtain ⟨rfl, rfl⟩ := Prod.mk.inj (Option.some.inj hf)
      exact fl_iret X hb hr hlk hF dX7_late_35
    · replace hf := ifp cd8 hf
      exact bX7_late_26 M σ6 _ _ _ hf hF (lv_sub hl [] rfl)
set_option maxHeartbeats 4000000 in
set_option maxRecDepth 100000 in
theorem bX7_line_102 {r : Int32} {σ' : Mem} {k52 : Int32 → Int32 → Int32 → Mem → Option (Int32 × Mem)} (M : MX p s m args meth c RX7 G wR cX7_line 6 (some .int)) (hk52 : ∀ (x1 : Int32) (x2 : Int32) (x3 : Int32) (σ : Mem) (H : Heap) (locs : List Loc) (ls : Array Slot), k52 x1 x2 x3 σ = some (r, σ') → FH G wR s.heap H locs σ → lv_has ls 6 [(0, .ref (gA G 0)), (1, .int x1), (2, .int x2), (3, .int x3)] → WG p l e ({ frames := 8, cells := 0, slots := 0, locals := 184 }) s m args below meth c G wR (some (.int r)) σ' H locs 52 ls []) : ∀ (fu : Nat) (x1 : Int32) (x2 : Int32) (x3 : Int32) (x4 : Int32) (x5 : Int32) (σ : Mem) (H : Heap) (locs : List Loc) (ls : Array Slot), fX7_line_102 k52 fu x1 x2 x3 x4 x5 σ = some (r, σ') → FH G wR s.heap H locs σ → lv_has ls 6 [(0, .ref (gA G 0)), (1, .int x1), (2, .int x2), (3, .int x3), (4, .int x4), (5, .int x5)] → WG p l e ({ frames := 8, cells := 0, slots := 0, locals := 184 }) s m args below meth c G wR (some (.int r)) σ' H locs 102 ls [] := by
  obtain ⟨X, hb, hml, hr, hlk⟩ := id M
  have hx := X.1
  intro fu
  induction fu with
  | zero =>
    intro x1 x2 x3 x4 x5 σ H locs ls hf hF hl
    rw [fX7_line_102] at hf
    cases hf
  | succ fu ih =>
    intro x1 x2 x3 x4 x5 σ H locs ls hf hF hl
    rw [fX7_line_102] at hf
    refine lv_iload_n hx hb dX7_line_102 rfl (lv_at hl 2 rfl) ?_
    refine lv_iload hx hb dX7_line_103 (lv_at hl 4 rfl) ?_
    refine lv_iconst (v := (-1 : Int32)) hx hb dX7_line_105 (by decide) ?_
    refine lv_ixor hx hb dX7_line_106 ?_
    refine lv_iand hx hb dX7_line_107 ?_
    refine lv_iload hx hb dX7_line_108 (lv_at hl 5 rfl) ?_
    obtain ⟨r10, hq9, hf⟩ := bi_some hf
    refine cm_X7_135 (As := [.int (x2 &&& (x4 ^^^ (-1 : Int32))), .int x5]) (rest := []) X hb hml hF (cX7_has_ok (l := l) (G := G) (σ := σ) X.2.2.2.2 hq9) ⟨Nat.le_of_ble_eq_true rfl, Nat.le_of_ble_eq_true rfl⟩ rfl rfl ⟨Nat.zero_le _, Nat.zero_le _⟩ rfl hl.1 rfl (Nat.le_of_ble_eq_true rfl) dX7_line_110 (fun H locs hF => ?_)
    refine lv_if_ne (tgt := 122) hx hb dX7_line_113 (by decide) (fun cd11 => ?_) (fun cd11 => ?_)
    · replace hf := ifn cd11 hf
      refine lv_iload_n hx hb dX7_line_122 rfl (lv_at hl 3 rfl) ?_
      refine lv_iload_n hx hb dX7_line_123 rfl (lv_at hl 1 rfl) ?_
      refine lv_icmp_ne (tgt := 130) hx hb dX7_line_124 (by decide) (fun cd12 => ?_) (fun cd12 => ?_)
      · replace hf := ifn cd12 hf
        refine lv_iload_n hx hb dX7_line_130 rfl (lv_at hl 2 rfl) ?_
        refine lv_iconst (v := (1 : Int32)) hx hb dX7_line_131 (by decide) ?_
        refine lv_iload hx hb dX7_line_132 (lv_at hl 5 rfl) ?_
        refine lv_ishl hx hb dX7_line_134 ?_
        refine lv_iconst (v := (-1 : Int32)) hx hb dX7_line_135 (by decide) ?_
        refine lv_ixor hx hb dX7_line_136 ?_
        refine lv_iand hx hb dX7_line_137 ?_
        refine lv_istore_n (lv' := [(2, .int (x2 &&& (((1 : Int32) <<< (x5 &&& 31)) ^^^ (-1 : Int32)))), (0, .ref (gA G 0)), (1, .int x1), (3, .int x3), (4, .int x4), (5, .int x5)]) hx hb dX7_line_138 rfl hl (by decide) rfl (fun ls hl => ?_)
        refine lv_iinc (v := x3 + (1 : Int32)) (lv' := [(3, .int (x3 + (1 : Int32))), (2, .int (x2 &&& (((1 : Int32) <<< (x5 &&& 31)) ^^^ (-1 : Int32)))), (0, .ref (gA G 0)), (1, .int x1), (4, .int x4), (5, .int x5)]) hx hb dX7_line_139 hl (k := 3) rfl rfl (by decide) rfl (fun ls hl => ?_)
        refine lv_goto (tgt := 52) hx hb dX7_line_142 (by decide) ?_
        exact hk52 x1 (x2 &&& (((1 : Int32) <<< (x5 &&& 31)) ^^^ (-1 : Int32))) (x3 + (1 : Int32)) σ _ _ _ hf hF (lv_sub hl [2, 3, 1, 0] rfl)
      · replace hf := ifp cd12 hf
        refine lv_iload hx hb dX7_line_127 (lv_at hl 5 rfl) ?_
        obtain ⟨rfl, rfl⟩ := Prod.mk.inj (Option.some.inj hf)
        exact fl_iret X hb hr hlk hF dX7_line_129
    · replace hf := ifp cd11 hf
      refine lv_iinc (v := x5 + (1 : Int32)) (lv' := [(5, .int (x5 + (1 : Int32))), (0, .ref (gA G 0)), (1, .int x1), (2, .int x2), (3, .int x3), (4, .int x4)]) hx hb dX7_line_116 hl (k := 5) rfl rfl (by decide) rfl (fun ls hl => ?_)
      refine lv_goto (tgt := 102) hx hb dX7_line_119 (by decide) ?_
      exact ih x1 x2 x3 x4 (x5 + (1 : Int32)) σ _ _ _ hf hF (lv_sub hl [1, 2, 3, 4, 5, 0] rfl)
set_option maxHeartbeats 4000000 in
set_option maxRecDepth 100000 in
theorem bX7_line_62 {r : Int32} {σ' : Mem} {k52 : Int32 → Int32 → Int32 → Mem → Option (Int32 × Mem)} (M : MX p s m args meth c RX7 G wR cX7_line 6 (some .int)) (hk52 : ∀ (x1 : Int32) (x2 : Int32) (x3 : Int32) (σ : Mem) (H : Heap) (locs : List Loc) (ls : Array Slot), k52 x1 x2 x3 σ = some (r, σ') → FH G wR s.heap H locs σ → lv_has ls 6 [(0, .ref (gA G 0)), (1, .int x1), (2, .int x2), (3, .int x3)] → WG p l e ({ frames := 8, cells := 0, slots := 0, locals := 184 }) s m args below meth c G wR (some (.int r)) σ' H locs 52 ls []) : ∀ (fu : Nat) (x1 : Int32) (x2 : Int32) (x3 : Int32) (x4 : Int32) (x5 : Int32) (σ : Mem) (H : Heap) (locs : List Loc) (ls : Array Slot), fX7_line_62 k52 fu x1 x2 x3 x4 x5 σ = some (r, σ') → FH G wR s.heap H locs σ → lv_has ls 6 [(0, .ref (gA G 0)), (1, .int x1), (2, .int x2), (3, .int x3), (4, .int x4), (5, .int x5)] → WG p l e ({ frames := 8, cells := 0, slots := 0, locals := 184 }) s m args below meth c G wR (some (.int r)) σ' H locs 62 ls [] := by
  obtain ⟨X, hb, hml, hr, hlk⟩ := id M
  have hx := X.1
  intro fu
  induction fu with
  | zero =>
    intro x1 x2 x3 x4 x5 σ H locs ls hf hF hl
    rw [fX7_line_62] at hf
    cases hf
  | succ fu ih =>
    intro x1 x2 x3 x4 x5 σ H locs ls hf hF hl
    rw [fX7_line_62] at hf
    refine lv_iload hx hb dX7_line_62 (lv_at hl 5 rfl) ?_
    refine lv_bipush (v := (8 : Int32)) hx hb dX7_line_64 (by decide) ?_
    refine lv_icmp_ge (tgt := 99) hx hb dX7_line_66 (by decide) (fun cd8 => ?_) (fun cd8 => ?_)
    · replace hf := ifp cd8 hf
      refine lv_iconst (v := (0 : Int32)) hx hb dX7_line_99 (by decide) ?_
      refine lv_istore (lv' := [(5, .int (0 : Int32)), (0, .ref (gA G 0)), (1, .int x1), (2, .int x2), (3, .int x3), (4, .int x4)]) hx hb dX7_line_100 hl (by decide) rfl (fun ls hl => ?_)
      exact bX7_line_102 M hk52 FU x1 x2 x3 x4 (0 : Int32) σ _ _ _ hf hF (lv_sub hl [1, 2, 3, 4, 5, 0] rfl)
    · replace hf := ifn cd8 hf
      refine lv_iload hx hb dX7_line_69 (lv_at hl 4 rfl) ?_
      refine lv_iload_n hx hb dX7_line_71 rfl (lv_at hl 2 rfl) ?_
      refine lv_iload hx hb dX7_line_72 (lv_at hl 5 rfl) ?_
      obtain ⟨r14, hq13, hf⟩ := bi_some hf
      refine cm_X7_135 (As := [.int x2, .int x5]) (rest := [.int x4]) X hb hml hF (cX7_has_ok (l := l) (G := G) (σ := σ) X.2.2.2.2 hq13) ⟨Nat.le_of_ble_eq_true rfl, Nat.le_of_ble_eq_true rfl⟩ rfl rfl ⟨Nat.zero_le _, Nat.zero_le _⟩ rfl hl.1 rfl (Nat.le_of_ble_eq_true rfl) dX7_line_74 (fun H locs hF => ?_)
      refine lv_if_eq (tgt := 89) hx hb dX7_line_77 (by decide) (fun cd15 => ?_) (fun cd15 => ?_)
      · replace hf := ifp cd15 hf
        refine lv_iconst (v := (0 : Int32)) hx hb dX7_line_89 (by decide) ?_
        refine lv_ior hx hb dX7_line_90 ?_
        refine lv_istore (lv' := [(4, .int (x4 ||| (0 : Int32))), (0, .ref (gA G 0)), (1, .int x1), (2, .int x2), (3, .int x3), (5, .int x5)]) hx hb dX7_line_91 hl (by decide) rfl (fun ls hl => ?_)
        refine lv_iinc (v := x5 + (1 : Int32)) (lv' := [(5, .int (x5 + (1 : Int32))), (4, .int (x4 ||| (0 : Int32))), (0, .ref (gA G 0)), (1, .int x1), (2, .int x2), (3, .int x3)]) hx hb dX7_line_93 hl (k := 5) rfl rfl (by decide) rfl (fun ls hl => ?_)
        refine lv_goto (tgt := 62) hx hb dX7_line_96 (by decide) ?_
        exact ih x1 x2 x3 (x4 ||| (0 : Int32)) (x5 + (1 : Int32)) σ _ _ _ hf hF (lv_sub hl [2, 3, 4, 5, 1, 0] rfl)
      · replace hf := ifn cd15 hf
        refine lv_aload_n hx hb dX7_line_80 rfl (lv_at hl 0 rfl) ?_
        refine lv_iload hx hb dX7_line_81 (lv_at hl 5 rfl) ?_
        obtain ⟨r17, hq16, hf⟩ := bi_some hf
        refine cm_X7_145 (As := [.int x5]) (rest := [.int x4]) X hb hml hF (cX7_aheadOf_ok (l := l) (G := G) X.2.2.2.2 hq16) sh_X7 ⟨Nat.le_of_ble_eq_true rfl, Nat.le_of_ble_eq_true rfl⟩ rfl rfl ⟨Nat.zero_le _, Nat.zero_le _⟩ rfl hl.1 rfl (Nat.le_of_ble_eq_true rfl) dX7_line_83 (fun H locs hF => ?_)
        refine lv_goto (tgt := 90) hx hb dX7_line_86 (by decide) ?_
        refine lv_ior hx hb dX7_line_90 ?_
        refine lv_istore (lv' := [(4, .int (x4 ||| r17)), (0, .ref (gA G 0)), (1, .int x1), (2, .int x2), (3, .int x3), (5, .int x5)]) hx hb dX7_line_91 hl (by decide) rfl (fun ls hl => ?_)
        refine lv_iinc (v := x5 + (1 : Int32)) (lv' := [(5, .int (x5 + (1 : Int32))), (4, .int (x4 ||| r17)), (0, .ref (gA G 0)), (1, .int x1), (2, .int x2), (3, .int x3)]) hx hb dX7_line_93 hl (k := 5) rfl rfl (by decide) rfl (fun ls hl => ?_)
        refine lv_goto (tgt := 62) hx hb dX7_line_96 (by decide) ?_
        exact ih x1 x2 x3 (x4 ||| r17) (x5 + (1 : Int32)) σ _ _ _ hf hF (lv_sub hl [2, 3, 4, 5, 1, 0] rfl)
set_option maxHeartbeats 4000000 in
set_option maxRecDepth 100000 in
theorem bX7_line_52 {r : Int32} {σ' : Mem} (M : MX p s m args meth c RX7 G wR cX7_line 6 (some .int)) : ∀ (fu : Nat) (x1 : Int32) (x2 : Int32) (x3 : Int32) (σ : Mem) (H : Heap) (locs : List Loc) (ls : Array Slot), fX7_line_52 fu x1 x2 x3 σ = some (r, σ') → FH G wR s.heap H locs σ → lv_has ls 6 [(0, .ref (gA G 0)), (1, .int x1), (2, .int x2), (3, .int x3)] → WG p l e ({ frames := 8, cells := 0, slots := 0, locals := 184 }) s m args below meth c G wR (some (.int r)) σ' H locs 52 ls [] := by
  obtain ⟨X, hb, hml, hr, hlk⟩ := id M
  have hx := X.1
  intro fu
  induction fu with
  | zero =>
    intro x1 x2 x3 σ H locs ls hf hF hl
    rw [fX7_line_52] at hf
    cases hf
  | succ fu ih =>
    intro x1 x2 x3 σ H locs ls hf hF hl
    rw [fX7_line_52] at hf
    refine lv_iload_n hx hb dX7_line_52 rfl (lv_at hl 2 rfl) ?_
    refine lv_if_eq (tgt := 145) hx hb dX7_line_53 (by decide) (fun cd7 => ?_) (fun cd7 => ?_)
    · replace hf := ifp cd7 hf
      refine lv_bipush (v := (-9 : Int32)) hx hb dX7_line_145 (by decide) ?_
      obtain ⟨rfl, rfl⟩ := Prod.mk.inj (Option.some.inj hf)
      exact fl_iret X hb hr hlk hF dX7_line_147
    · replace hf := ifn cd7 hf
      refine lv_iconst (v := (0 : Int32)) hx hb dX7_line_56 (by decide) ?_
      refine lv_istore (lv' := [(4, .int (0 : Int32)), (0, .ref (gA G 0)), (1, .int x1), (2, .int x2), (3, .int x3)]) hx hb dX7_line_57 hl (by decide) rfl (fun ls hl => ?_)
      refine lv_iconst (v := (0 : Int32)) hx hb dX7_line_59 (by decide) ?_
      refine lv_istore (lv' := [(5, .int (0 : Int32)), (4, .int (0 : Int32)), (0, .ref (gA G 0)), (1, .int x1), (2, .int x2), (3, .int x3)]) hx hb dX7_line_60 hl (by decide) rfl (fun ls hl => ?_)
      exact bX7_line_62 M ih FU x1 x2 x3 (0 : Int32) (0 : Int32) σ _ _ _ hf hF (lv_sub hl [2, 3, 4, 5, 1, 0] rfl)
set_option maxHeartbeats 4000000 in
set_option maxRecDepth 100000 in
theorem bX7_line_20 {r : Int32} {σ' : Mem} (M : MX p s m args meth c RX7 G wR cX7_line 6 (some .int)) : ∀ (fu : Nat) (x1 : Int32) (x2 : Int32) (x3 : Int32) (σ : Mem) (H : Heap) (locs : List Loc) (ls : Array Slot), fX7_line_20 fu x1 x2 x3 σ = some (r, σ') → FH G wR s.heap H locs σ → lv_has ls 6 [(0, .ref (gA G 0)), (1, .int x1), (2, .int x2), (3, .int x3)] → WG p l e ({ frames := 8, cells := 0, slots := 0, locals := 184 }) s m args below meth c G wR (some (.int r)) σ' H locs 20 ls [] := by
  obtain ⟨X, hb, hml, hr, hlk⟩ := id M
  have hx := X.1
  intro fu
  induction fu with
  | zero =>
    intro x1 x2 x3 σ H locs ls hf hF hl
    rw [fX7_line_20] at hf
    cases hf
  | succ fu ih =>
    intro x1 x2 x3 σ H locs ls hf hF hl
    rw [fX7_line_20] at hf
    refine lv_iload_n hx hb dX7_line_20 rfl (lv_at hl 3 rfl) ?_
    refine lv_bipush (v := (8 : Int32)) hx hb dX7_line_21 (by decide) ?_
    refine lv_icmp_ge (tgt := 50) hx hb dX7_line_23 (by decide) (fun cd6 => ?_) (fun cd6 => ?_)
    · replace hf := ifp cd6 hf
      refine lv_iconst (v := (0 : Int32)) hx hb dX7_line_50 (by decide) ?_
      refine lv_istore_n (lv' := [(3, .int (0 : Int32)), (0, .ref (gA G 0)), (1, .int x1), (2, .int x2)]) hx hb dX7_line_51 rfl hl (by decide) rfl (fun ls hl => ?_)
      exact bX7_line_52 M FU x1 x2 (0 : Int32) σ _ _ _ hf hF (lv_sub hl [1, 2, 3, 0] rfl)
    · replace hf := ifn cd6 hf
      refine lv_iload_n hx hb dX7_line_26 rfl (lv_at hl 2 rfl) ?_
      refine lv_aload_n hx hb dX7_line_27 rfl (lv_at hl 0 rfl) ?_
      refine lv_iload_n hx hb dX7_line_28 rfl (lv_at hl 3 rfl) ?_
      obtain ⟨r19, hq18, hf⟩ := bi_some hf
      refine cm_X7_179 (As := [.int x3]) (rest := [.int x2]) X hb hml hF (cX7_housesOf_ok (l := l) (G := G) X.2.2.2.2 hq18) sh_X7 ⟨Nat.le_of_ble_eq_true rfl, Nat.le_of_ble_eq_true rfl⟩ rfl rfl ⟨Nat.zero_le _, Nat.zero_le _⟩ rfl hl.1 rfl (Nat.le_of_ble_eq_true rfl) dX7_line_29 (fun H locs hF => ?_)
      refine lv_if_eq (tgt := 41) hx hb dX7_line_32 (by decide) (fun cd20 => ?_) (fun cd20 => ?_)
      · replace hf := ifp cd20 hf
        refine lv_iconst (v := (0 : Int32)) hx hb dX7_line_41 (by decide) ?_
        refine lv_ior hx hb dX7_line_42 ?_
        refine lv_istore_n (lv' := [(2, .int (x2 ||| (0 : Int32))), (0, .ref (gA G 0)), (1, .int x1), (3, .int x3)]) hx hb dX7_line_43 rfl hl (by decide) rfl (fun ls hl => ?_)
        refine lv_iinc (v := x3 + (1 : Int32)) (lv' := [(3, .int (x3 + (1 : Int32))), (2, .int (x2 ||| (0 : Int32))), (0, .ref (gA G 0)), (1, .int x1)]) hx hb dX7_line_44 hl (k := 3) rfl rfl (by decide) rfl (fun ls hl => ?_)
        refine lv_goto (tgt := 20) hx hb dX7_line_47 (by decide) ?_
        exact ih x1 (x2 ||| (0 : Int32)) (x3 + (1 : Int32)) σ _ _ _ hf hF (lv_sub hl [2, 3, 1, 0] rfl)
      · replace hf := ifn cd20 hf
        refine lv_iconst (v := (1 : Int32)) hx hb dX7_line_35 (by decide) ?_
        refine lv_iload_n hx hb dX7_line_36 rfl (lv_at hl 3 rfl) ?_
        refine lv_ishl hx hb dX7_line_37 ?_
        refine lv_goto (tgt := 42) hx hb dX7_line_38 (by decide) ?_
        refine lv_ior hx hb dX7_line_42 ?_
        refine lv_istore_n (lv' := [(2, .int (x2 ||| ((1 : Int32) <<< (x3 &&& 31)))), (0, .ref (gA G 0)), (1, .int x1), (3, .int x3)]) hx hb dX7_line_43 rfl hl (by decide) rfl (fun ls hl => ?_)
        refine lv_iinc (v := x3 + (1 : Int32)) (lv' := [(3, .int (x3 + (1 : Int32))), (2, .int (x2 ||| ((1 : Int32) <<< (x3 &&& 31)))), (0, .ref (gA G 0)), (1, .int x1)]) hx hb dX7_line_44 hl (k := 3) rfl rfl (by decide) rfl (fun ls hl => ?_)
        refine lv_goto (tgt := 20) hx hb dX7_line_47 (by decide) ?_
        exact ih x1 (x2 ||| ((1 : Int32) <<< (x3 &&& 31))) (x3 + (1 : Int32)) σ _ _ _ hf hF (lv_sub hl [2, 3, 1, 0] rfl)
set_option maxHeartbeats 4000000 in
set_option maxRecDepth 100000 in
theorem cX7_line_ok {l : Launch} {G : Gl} (hI : FI G wR) {x1 : Int32} {σ : Mem} {r : Int32} {σ' : Mem} (hf : fX7_line x1 σ = some (r, σ')) : Ct l G wR yX7_line cX7_line 6 (some .int) ({ frames := 8, cells := 0, slots := 0, locals := 184 }) [.ref (gA G 0), .int x1] σ (some (.int r)) σ' := by
  refine fl_start hI (by decide) (Nat.le_of_ble_eq_true rfl) ?_
  intro p e s m below meth c M hF ls hl
  obtain ⟨X, hb, hml, hr, hlk⟩ := id M
  have hx := X.1
  have hl : lv_has ls 6 [(0, .ref (gA G 0)), (1, .int x1)] := hl
  unfold fX7_line at hf
  refine lv_iload_n hx hb dX7_line_0 rfl (lv_at hl 1 rfl) ?_
  refine lv_if_ge (tgt := 6) hx hb dX7_line_1 (by decide) (fun cd1 => ?_) (fun cd1 => ?_)
  · replace hf := ifp cd1 hf
    refine lv_aload_n hx hb dX7_line_6 rfl (lv_at hl 0 rfl) ?_
    obtain ⟨r3, σ4, hq2, hf⟩ := bm_some hf
    refine cm_X7_182 (As := []) (rest := []) X hb hml hF (cX7_knots_ok (l := l) (G := G) X.2.2.2.2 hq2) sh_X7 ⟨Nat.le_of_ble_eq_true rfl, Nat.le_of_ble_eq_true rfl⟩ rfl rfl ⟨Nat.zero_le _, Nat.zero_le _⟩ rfl hl.1 rfl (Nat.le_of_ble_eq_true rfl) dX7_line_7 (fun H locs hF => ?_)
    refine lv_if_eq (tgt := 16) hx hb dX7_line_10 (by decide) (fun cd5 => ?_) (fun cd5 => ?_)
    · replace hf := ifp cd5 hf
      refine lv_iconst (v := (0 : Int32)) hx hb dX7_line_16 (by decide) ?_
      refine lv_istore_n (lv' := [(2, .int (0 : Int32)), (0, .ref (gA G 0)), (1, .int x1)]) hx hb dX7_line_17 rfl hl (by decide) rfl (fun ls hl => ?_)
      refine lv_iconst (v := (0 : Int32)) hx hb dX7_line_18 (by decide) ?_
      refine lv_istore_n (lv' := [(3, .int (0 : Int32)), (2, .int (0 : Int32)), (0, .ref (gA G 0)), (1, .int x1)]) hx hb dX7_line_19 rfl hl (by decide) rfl (fun ls hl => ?_)
      exact bX7_line_20 M FU x1 (0 : Int32) (0 : Int32) σ4 _ _ _ hf hF (lv_sub hl [2, 3, 1, 0] rfl)
    · replace hf := ifn cd5 hf
      refine lv_bipush (v := (-9 : Int32)) hx hb dX7_line_13 (by decide) ?_
      obtain ⟨rfl, rfl⟩ := Prod.mk.inj (Option.some.inj hf)
      exact fl_iret X hb hr hlk hF dX7_line_15
  · replace hf := ifn cd1 hf
    refine lv_iconst (v := (-1 : Int32)) hx hb dX7_line_4 (by decide) ?_
    obtain ⟨rfl, rfl⟩ := Prod.mk.inj (Option.some.inj hf)
    exact fl_iret X hb hr hlk hF dX7_line_5
set_option maxHeartbeats 4000000 in
set_option maxRecDepth 100000 in
theorem bX7_without_43 {r : Int32} {σ' : Mem} {k5 : Int32 → Int32 → Mem → Option (Int32 × Mem)} (M : MX p s m args meth c RX7 G wR cX7_without 3 (some .int)) (hk5 : ∀ (x1 : Int32) (x2 : Int32) (σ : Mem) (H : Heap) (locs : List Loc) (ls : Array Slot), k5 x1 x2 σ = some (r, σ') → FH G wR s.heap H locs σ → lv_has ls 3 [(0, .ref (gA G 0)), (1, .int x1), (2, .int x2)] → WG p l e ({ frames := 8, cells := 0, slots := 0, locals := 184 }) s m args below meth c G wR (some (.int r)) σ' H locs 5 ls []) : ∀ (x2 : Int32) (s0 : Int32) (σ : Mem) (H : Heap) (locs : List Loc) (ls : Array Slot), fX7_without_43 k5 x2 s0 σ = some (r, σ') → FH G wR s.heap H locs σ → lv_has ls 3 [(0, .ref (gA G 0)), (2, .int x2)] → WG p l e ({ frames := 8, cells := 0, slots := 0, locals := 184 }) s m args below meth c G wR (some (.int r)) σ' H locs 43 ls [.int s0] := by
  obtain ⟨X, hb, hml, hr, hlk⟩ := id M
  have hx := X.1
  intro x2 s0 σ H locs ls hf hF hl
  unfold fX7_without_43 at hf
  refine lv_istore_n (lv' := [(1, .int s0), (0, .ref (gA G 0)), (2, .int x2)]) hx hb dX7_without_43 rfl hl (by decide) rfl (fun ls hl => ?_)
  refine lv_aload_n hx hb dX7_without_44 rfl (lv_at hl 1 rfl) ?_
  refine lv_iconst (v := (0 : Int32)) hx hb dX7_without_45 (by decide) ?_
  refine pf_X7_132 X hb hF sh_X7 dX7_without_46 (fun H locs hF => ?_)
  refine lv_iinc (v := x2 + (1 : Int32)) (lv' := [(2, .int (x2 + (1 : Int32))), (1, .int s0), (0, .ref (gA G 0))]) hx hb dX7_without_49 hl (k := 2) rfl rfl (by decide) rfl (fun ls hl => ?_)
  refine lv_goto (tgt := 5) hx hb dX7_without_52 (by decide) ?_
  exact hk5 s0 (x2 + (1 : Int32)) (mup σ 0 20 (0 : Int32)) _ _ _ hf hF (lv_sub hl [2, 1, 0] rfl)
set_option maxHeartbeats 4000000 in
set_option maxRecDepth 100000 in
theorem bX7_without_5 {r : Int32} {σ' : Mem} (M : MX p s m args meth c RX7 G wR cX7_without 3 (some .int)) : ∀ (fu : Nat) (x1 : Int32) (x2 : Int32) (σ : Mem) (H : Heap) (locs : List Loc) (ls : Array Slot), fX7_without_5 fu x1 x2 σ = some (r, σ') → FH G wR s.heap H locs σ → lv_has ls 3 [(0, .ref (gA G 0)), (1, .int x1), (2, .int x2)] → WG p l e ({ frames := 8, cells := 0, slots := 0, locals := 184 }) s m args below meth c G wR (some (.int r)) σ' H locs 5 ls [] := by
  obtain ⟨X, hb, hml, hr, hlk⟩ := id M
  have hx := X.1
  intro fu
  induction fu with
  | zero =>
    intro x1 x2 σ H locs ls hf hF hl
    rw [fX7_without_5] at hf
    cases hf
  | succ fu ih =>
    intro x1 x2 σ H locs ls hf hF hl
    rw [fX7_without_5] at hf
    refine lv_iload_n hx hb dX7_without_5 rfl (lv_at hl 2 rfl) ?_
    refine lv_iconst (v := (1 : Int32)) hx hb dX7_without_6 (by decide) ?_
    refine lv_aload_n hx hb dX7_without_7 rfl (lv_at hl 0 rfl) ?_
    refine gf_X7_120 X hb hF sh_X7 dX7_without_8 ?_
    refine lv_ishl hx hb dX7_without_11 ?_
    refine lv_icmp_ge (tgt := 55) hx hb dX7_without_12 (by decide) (fun cd1 => ?_) (fun cd1 => ?_)
    · replace hf := ifp cd1 hf
      refine lv_iload_n hx hb dX7_without_55 rfl (lv_at hl 1 rfl) ?_
      obtain ⟨rfl, rfl⟩ := Prod.mk.inj (Option.some.inj hf)
      exact fl_iret X hb hr hlk hF dX7_without_56
    · replace hf := ifn cd1 hf
      refine lv_iload_n hx hb dX7_without_15 rfl (lv_at hl 2 rfl) ?_
      obtain ⟨r3, hq2, hf⟩ := bi_some hf
      refine cm_X7_189 (As := [.int x2]) (rest := []) X hb hml hF (cX7_ones_ok (l := l) (G := G) (σ := σ) X.2.2.2.2 hq2) ⟨Nat.le_of_ble_eq_true rfl, Nat.le_of_ble_eq_true rfl⟩ rfl rfl ⟨Nat.zero_le _, Nat.zero_le _⟩ rfl hl.1 rfl (Nat.le_of_ble_eq_true rfl) dX7_without_16 (fun H locs hF => ?_)
      refine lv_iload_n hx hb dX7_without_19 rfl (lv_at hl 1 rfl) ?_
      obtain ⟨r5, hq4, hf⟩ := bi_some hf
      refine cm_X7_189 (As := [.int x1]) (rest := [.int r3]) X hb hml hF (cX7_ones_ok (l := l) (G := G) (σ := σ) X.2.2.2.2 hq4) ⟨Nat.le_of_ble_eq_true rfl, Nat.le_of_ble_eq_true rfl⟩ rfl rfl ⟨Nat.zero_le _, Nat.zero_le _⟩ rfl hl.1 rfl (Nat.le_of_ble_eq_true rfl) dX7_without_20 (fun H locs hF => ?_)
      refine lv_icmp_ge (tgt := 49) hx hb dX7_without_23 (by decide) (fun cd6 => ?_) (fun cd6 => ?_)
      · replace hf := ifp cd6 hf
        refine lv_iinc (v := x2 + (1 : Int32)) (lv' := [(2, .int (x2 + (1 : Int32))), (0, .ref (gA G 0)), (1, .int x1)]) hx hb dX7_without_49 hl (k := 2) rfl rfl (by decide) rfl (fun ls hl => ?_)
        refine lv_goto (tgt := 5) hx hb dX7_without_52 (by decide) ?_
        exact ih x1 (x2 + (1 : Int32)) σ _ _ _ hf hF (lv_sub hl [1, 2, 0] rfl)
      · replace hf := ifn cd6 hf
        refine lv_aload_n hx hb dX7_without_26 rfl (lv_at hl 0 rfl) ?_
        refine lv_iload_n hx hb dX7_without_27 rfl (lv_at hl 2 rfl) ?_
        refine pf_X7_132 X hb hF sh_X7 dX7_without_28 (fun H locs hF => ?_)
        refine lv_aload_n hx hb dX7_without_31 rfl (lv_at hl 0 rfl) ?_
        obtain ⟨r8, σ9, hq7, hf⟩ := bm_some hf
        refine cm_X7_182 (As := []) (rest := []) X hb hml hF (cX7_knots_ok (l := l) (G := G) X.2.2.2.2 hq7) sh_X7 ⟨Nat.le_of_ble_eq_true rfl, Nat.le_of_ble_eq_true rfl⟩ rfl rfl ⟨Nat.zero_le _, Nat.zero_le _⟩ rfl hl.1 rfl (Nat.le_of_ble_eq_true rfl) dX7_without_32 (fun H locs hF => ?_)
        refine lv_if_ne (tgt := 42) hx hb dX7_without_35 (by decide) (fun cd10 => ?_) (fun cd10 => ?_)
        · replace hf := ifn cd10 hf
          refine lv_iload_n hx hb dX7_without_42 rfl (lv_at hl 1 rfl) ?_
          exact bX7_without_43 M ih x2 x1 σ9 _ _ _ hf hF (lv_sub hl [0, 2] rfl)
        · replace hf := ifp cd10 hf
          refine lv_iload_n hx hb dX7_without_38 rfl (lv_at hl 2 rfl) ?_
          refine lv_goto (tgt := 43) hx hb dX7_without_39 (by decide) ?_
          exact bX7_without_43 M ih x2 x2 σ9 _ _ _ hf hF (lv_sub hl [0, 2] rfl)
set_option maxHeartbeats 4000000 in
set_option maxRecDepth 100000 in
theorem cX7_without_ok {l : Launch} {G : Gl} (hI : FI G wR) {σ : Mem} {r : Int32} {σ' : Mem} (hf : fX7_without σ = some (r, σ')) : Ct l G wR yX7_without cX7_without 3 (some .int) ({ frames := 8, cells := 0, slots := 0, locals := 184 }) [.ref (gA G 0)] σ (some (.int r)) σ' := by
  refine fl_start hI (by decide) (Nat.le_of_ble_eq_true rfl) ?_
  intro p e s m below meth c M hF ls hl
  obtain ⟨X, hb, hml, hr, hlk⟩ := id M
  have hx := X.1
  have hl : lv_has ls 3 [(0, .ref (gA G 0))] := hl
  unfold fX7_without at hf
  refine lv_bipush (v := (15 : Int32)) hx hb dX7_without_0 (by decide) ?_
  refine lv_istore_n (lv' := [(1, .int (15 : Int32)), (0, .ref (gA G 0))]) hx hb dX7_without_2 rfl hl (by decide) rfl (fun ls hl => ?_)
  refine lv_iconst (v := (0 : Int32)) hx hb dX7_without_3 (by decide) ?_
  refine lv_istore_n (lv' := [(2, .int (0 : Int32)), (1, .int (15 : Int32)), (0, .ref (gA G 0))]) hx hb dX7_without_4 rfl hl (by decide) rfl (fun ls hl => ?_)
  exact bX7_without_5 M FU (15 : Int32) (0 : Int32) σ _ _ _ hf hF (lv_sub hl [2, 1, 0] rfl)
set_option maxHeartbeats 4000000 in
set_option maxRecDepth 100000 in
theorem cX7_entry_ok {l : Launch} {G : Gl} (hI : FI G wR) {x1 : Int32} {x2 : Int32} {x3 : Int32} {σ : Mem} {r : Int32} (hf : fX7_entry x1 x2 x3 σ = some r) : Ct l G wR yX7_entry cX7_entry 5 (some .int) ({ frames := 3, cells := 0, slots := 0, locals := 68 }) [.ref (gA G 0), .int x1, .int x2, .int x3] σ (some (.int r)) σ := by
  refine fl_start hI (by decide) (Nat.le_of_ble_eq_true rfl) ?_
  intro p e s m below meth c M hF ls hl
  obtain ⟨X, hb, hml, hr, hlk⟩ := id M
  have hx := X.1
  have hl : lv_has ls 5 [(0, .ref (gA G 0)), (1, .int x1), (2, .int x2), (3, .int x3)] := hl
  unfold fX7_entry at hf
  refine lv_aload_n hx hb dX7_entry_0 rfl (lv_at hl 0 rfl) ?_
  refine lv_iload_n hx hb dX7_entry_1 rfl (lv_at hl 1 rfl) ?_
  refine lv_iload_n hx hb dX7_entry_2 rfl (lv_at hl 2 rfl) ?_
  obtain ⟨r2, hq1, hf⟩ := bi_some hf
  refine cm_X7_129 (As := [.int x1, .int x2]) (rest := []) X hb hml hF (cX7_isEntry_ok (l := l) (G := G) X.2.2.2.2 hq1) sh_X7 ⟨Nat.le_of_ble_eq_true rfl, Nat.le_of_ble_eq_true rfl⟩ rfl rfl ⟨Nat.zero_le _, Nat.zero_le _⟩ rfl hl.1 rfl (Nat.le_of_ble_eq_true rfl) dX7_entry_3 (fun H locs hF => ?_)
  refine lv_if_eq (tgt := 21) hx hb dX7_entry_6 (by decide) (fun cd3 => ?_) (fun cd3 => ?_)
  · replace hf := ifp cd3 hf
    refine lv_iconst (v := (-1 : Int32)) hx hb dX7_entry_21 (by decide) ?_
    obtain rfl := Option.some.inj hf
    exact fl_iret X hb hr hlk hF dX7_entry_22
  · replace hf := ifn cd3 hf
    refine lv_iload_n hx hb dX7_entry_9 rfl (lv_at hl 3 rfl) ?_
    refine lv_i2l (v := x3.toInt64) hx hb dX7_entry_10 rfl ?_
    refine lv_lconst (v := (0 : Int64)) hx hb dX7_entry_11 (by decide) ?_
    refine lv_ldc2 (v := (2 : Int64)) hx hb X.2.1 (X.2.2.1 _ wn_X7_173) dX7_entry_12 ?_
    obtain ⟨r5, hq4, hf⟩ := bi_some hf
    refine cm_X7_62 (As := [.long x3.toInt64, .long (0 : Int64), .long (2 : Int64)]) (rest := []) X hb hml hF (cX7_in_ok (l := l) (G := G) (σ := σ) X.2.2.2.2 hq4) ⟨Nat.le_of_ble_eq_true rfl, Nat.le_of_ble_eq_true rfl⟩ rfl rfl ⟨Nat.zero_le _, Nat.zero_le _⟩ rfl hl.1 rfl (Nat.le_of_ble_eq_true rfl) dX7_entry_15 (fun H locs hF => ?_)
    refine lv_if_ne (tgt := 23) hx hb dX7_entry_18 (by decide) (fun cd6 => ?_) (fun cd6 => ?_)
    · replace hf := ifn cd6 hf
      refine lv_bipush (v := (6 : Int32)) hx hb dX7_entry_23 (by decide) ?_
      refine lv_iload_n hx hb dX7_entry_25 rfl (lv_at hl 1 rfl) ?_
      refine lv_imul hx hb dX7_entry_26 ?_
      refine lv_iload_n hx hb dX7_entry_27 rfl (lv_at hl 2 rfl) ?_
      refine lv_iadd hx hb dX7_entry_28 ?_
      refine lv_istore (lv' := [(4, .int (((6 : Int32) * x1) + x2)), (0, .ref (gA G 0)), (1, .int x1), (2, .int x2), (3, .int x3)]) hx hb dX7_entry_29 hl (by decide) rfl (fun ls hl => ?_)
      refine lv_iload_n hx hb dX7_entry_31 rfl (lv_at hl 4 rfl) ?_
      refine lv_if_ne (tgt := 45) hx hb dX7_entry_32 (by decide) (fun cd7 => ?_) (fun cd7 => ?_)
      · replace hf := ifn cd7 hf
        refine lv_iload_n hx hb dX7_entry_45 rfl (lv_at hl 4 rfl) ?_
        refine lv_iconst (v := (1 : Int32)) hx hb dX7_entry_46 (by decide) ?_
        refine lv_icmp_ne (tgt := 62) hx hb dX7_entry_47 (by decide) (fun cd8 => ?_) (fun cd8 => ?_)
        · replace hf := ifn cd8 hf
          refine lv_aload_n hx hb dX7_entry_62 rfl (lv_at hl 1 rfl) ?_
          refine gf_X7_7 X hb hF sh_X7 dX7_entry_63 ?_
          refine lv_bipush (v := (25 : Int32)) hx hb dX7_entry_66 (by decide) ?_
          refine lv_iload hx hb dX7_entry_68 (lv_at hl 0 rfl) ?_
          refine lv_iadd hx hb dX7_entry_70 ?_
          obtain ⟨g9, hf⟩ := grd_some hf
          refine fl_iald X hb hF sh_r1 g9 dX7_entry_71 ?_
          obtain rfl := Option.some.inj hf
          exact fl_iret X hb hr hlk hF dX7_entry_72
        · replace hf := ifp cd8 hf
          refine lv_aload_n hx hb dX7_entry_50 rfl (lv_at hl 1 rfl) ?_
          refine gf_X7_7 X hb hF sh_X7 dX7_entry_51 ?_
          refine lv_iconst (v := (1 : Int32)) hx hb dX7_entry_54 (by decide) ?_
          refine lv_iload hx hb dX7_entry_55 (lv_at hl 0 rfl) ?_
          refine lv_iadd hx hb dX7_entry_57 ?_
          obtain ⟨g10, hf⟩ := grd_some hf
          refine fl_iald X hb hF sh_r1 g10 dX7_entry_58 ?_
          refine lv_goto (tgt := 72) hx hb dX7_entry_59 (by decide) ?_
          obtain rfl := Option.some.inj hf
          exact fl_iret X hb hr hlk hF dX7_entry_72
      · replace hf := ifp cd7 hf
        refine lv_aload_n hx hb dX7_entry_35 rfl (lv_at hl 1 rfl) ?_
        refine gf_X7_26 X hb hF sh_X7 dX7_entry_36 ?_
        refine lv_iload hx hb dX7_entry_39 (lv_at hl 0 rfl) ?_
        obtain ⟨g11, hf⟩ := grd_some hf
        refine fl_iald X hb hF sh_r6 g11 dX7_entry_41 ?_
        refine lv_goto (tgt := 72) hx hb dX7_entry_42 (by decide) ?_
        obtain rfl := Option.some.inj hf
        exact fl_iret X hb hr hlk hF dX7_entry_72
    · replace hf := ifp cd6 hf
      refine lv_iconst (v := (-1 : Int32)) hx hb dX7_entry_21 (by decide) ?_
      obtain rfl := Option.some.inj hf
      exact fl_iret X hb hr hlk hF dX7_entry_22
set_option maxHeartbeats 4000000 in
set_option maxRecDepth 100000 in
theorem cX7_strikes_ok {l : Launch} {G : Gl} (hI : FI G wR) {x1 : Int32} {x2 : Int32} {σ : Mem} {r : Int32} {σ' : Mem} (hf : fX7_strikes x1 x2 σ = some (r, σ')) : Ct l G wR yX7_strikes cX7_strikes 4 (some .int) ({ frames := 3, cells := 0, slots := 0, locals := 68 }) [.ref (gA G 0), .int x1, .int x2] σ (some (.int r)) σ' := by
  refine fl_start hI (by decide) (Nat.le_of_ble_eq_true rfl) ?_
  intro p e s m below meth c M hF ls hl
  obtain ⟨X, hb, hml, hr, hlk⟩ := id M
  have hx := X.1
  have hl : lv_has ls 4 [(0, .ref (gA G 0)), (1, .int x1), (2, .int x2)] := hl
  unfold fX7_strikes at hf
  refine lv_aload_n hx hb dX7_strikes_0 rfl (lv_at hl 0 rfl) ?_
  refine lv_iload_n hx hb dX7_strikes_1 rfl (lv_at hl 1 rfl) ?_
  refine lv_iload_n hx hb dX7_strikes_2 rfl (lv_at hl 2 rfl) ?_
  obtain ⟨r2, hq1, hf⟩ := bi_some hf
  refine cm_X7_129 (As := [.int x1, .int x2]) (rest := []) X hb hml hF (cX7_isEntry_ok (l := l) (G := G) X.2.2.2.2 hq1) sh_X7 ⟨Nat.le_of_ble_eq_true rfl, Nat.le_of_ble_eq_true rfl⟩ rfl rfl ⟨Nat.zero_le _, Nat.zero_le _⟩ rfl hl.1 rfl (Nat.le_of_ble_eq_true rfl) dX7_strikes_3 (fun H locs hF => ?_)
  refine lv_if_ne (tgt := 11) hx hb dX7_strikes_6 (by decide) (fun cd3 => ?_) (fun cd3 => ?_)
  · replace hf := ifn cd3 hf
    refine lv_aload_n hx hb dX7_strikes_11 rfl (lv_at hl 0 rfl) ?_
    obtain ⟨σ5, hq4, hf⟩ := bv_some hf
    refine cm_X7_208 (As := []) (rest := []) X hb hml hF (cX7_minds_ok (l := l) (G := G) X.2.2.2.2 hq4) sh_X7 ⟨Nat.le_of_ble_eq_true rfl, Nat.le_of_ble_eq_true rfl⟩ rfl rfl ⟨Nat.zero_le _, Nat.zero_le _⟩ rfl hl.1 rfl (Nat.le_of_ble_eq_true rfl) dX7_strikes_12 (fun H locs hF => ?_)
    refine lv_bipush (v := (25 : Int32)) hx hb dX7_strikes_15 (by decide) ?_
    refine lv_bipush (v := (6 : Int32)) hx hb dX7_strikes_17 (by decide) ?_
    refine lv_iload_n hx hb dX7_strikes_19 rfl (lv_at hl 1 rfl) ?_
    refine lv_imul hx hb dX7_strikes_20 ?_
    refine lv_iadd hx hb dX7_strikes_21 ?_
    refine lv_iload_n hx hb dX7_strikes_22 rfl (lv_at hl 2 rfl) ?_
    refine lv_iadd hx hb dX7_strikes_23 ?_
    refine lv_istore_n (lv' := [(3, .int (((25 : Int32) + ((6 : Int32) * x1)) + x2)), (0, .ref (gA G 0)), (1, .int x1), (2, .int x2)]) hx hb dX7_strikes_24 rfl hl (by decide) rfl (fun ls hl => ?_)
    refine lv_aload_n hx hb dX7_strikes_25 rfl (lv_at hl 1 rfl) ?_
    refine gf_X7_7 X hb hF sh_X7 dX7_strikes_26 ?_
    refine lv_iload_n hx hb dX7_strikes_29 rfl (lv_at hl 0 rfl) ?_
    refine lv_iconst (v := (1 : Int32)) hx hb dX7_strikes_30 (by decide) ?_
    refine lv_aload_n hx hb dX7_strikes_31 rfl (lv_at hl 1 rfl) ?_
    refine gf_X7_7 X hb hF sh_X7 dX7_strikes_32 ?_
    refine lv_iload_n hx hb dX7_strikes_35 rfl (lv_at hl 0 rfl) ?_
    obtain ⟨g6, hf⟩ := grd_some hf
    refine fl_iald X hb hF sh_r1 g6 dX7_strikes_36 ?_
    refine lv_isub hx hb dX7_strikes_37 ?_
    obtain ⟨g7, hf⟩ := grd_some hf
    refine fl_iast X hb hF sh_r1 g7 dX7_strikes_38 (fun H locs hF => ?_)
    refine lv_aload_n hx hb dX7_strikes_39 rfl (lv_at hl 1 rfl) ?_
    refine gf_X7_7 X hb hF sh_X7 dX7_strikes_40 ?_
    refine lv_iload_n hx hb dX7_strikes_43 rfl (lv_at hl 0 rfl) ?_
    obtain ⟨g8, hf⟩ := grd_some hf
    refine fl_iald X hb hF sh_r1 g8 dX7_strikes_44 ?_
    obtain ⟨rfl, rfl⟩ := Prod.mk.inj (Option.some.inj hf)
    exact fl_iret X hb hr hlk hF dX7_strikes_45
  · replace hf := ifp cd3 hf
    refine lv_iconst (v := (-1 : Int32)) hx hb dX7_strikes_9 (by decide) ?_
    obtain ⟨rfl, rfl⟩ := Prod.mk.inj (Option.some.inj hf)
    exact fl_iret X hb hr hlk hF dX7_strikes_10
set_option maxHeartbeats 4000000 in
set_option maxRecDepth 100000 in
theorem bX7_tells_93 {r : Int32} {σ' : Mem} (M : MX p s m args meth c RX7 G wR cX7_tells 6 (some .int)) : ∀ (x3 : Int32) (x4 : Int32) (x5 : Int32) (σ : Mem) (H : Heap) (locs : List Loc) (ls : Array Slot), fX7_tells_93 x3 x4 x5 σ = some (r, σ') → FH G wR s.heap H locs σ → lv_has ls 6 [(0, .ref (gA G 0)), (3, .int x3), (4, .int x4), (5, .int x5)] → WG p l e ({ frames := 3, cells := 0, slots := 0, locals := 68 }) s m args below meth c G wR (some (.int r)) σ' H locs 93 ls [] := by
  obtain ⟨X, hb, hml, hr, hlk⟩ := id M
  have hx := X.1
  intro x3 x4 x5 σ H locs ls hf hF hl
  unfold fX7_tells_93 at hf
  refine lv_aload_n hx hb dX7_tells_93 rfl (lv_at hl 0 rfl) ?_
  obtain ⟨σ13, hq12, hf⟩ := bv_some hf
  refine cm_X7_208 (As := []) (rest := []) X hb hml hF (cX7_minds_ok (l := l) (G := G) X.2.2.2.2 hq12) sh_X7 ⟨Nat.le_of_ble_eq_true rfl, Nat.le_of_ble_eq_true rfl⟩ rfl rfl ⟨Nat.zero_le _, Nat.zero_le _⟩ rfl hl.1 rfl (Nat.le_of_ble_eq_true rfl) dX7_tells_94 (fun H locs hF => ?_)
  refine lv_aload_n hx hb dX7_tells_97 rfl (lv_at hl 0 rfl) ?_
  refine gf_X7_7 X hb hF sh_X7 dX7_tells_98 ?_
  refine lv_iload hx hb dX7_tells_101 (lv_at hl 2 rfl) ?_
  refine lv_iload_n hx hb dX7_tells_103 rfl (lv_at hl 1 rfl) ?_
  obtain ⟨g14, hf⟩ := grd_some hf
  refine fl_iast X hb hF sh_r1 g14 dX7_tells_104 (fun H locs hF => ?_)
  refine lv_iload hx hb dX7_tells_105 (lv_at hl 3 rfl) ?_
  obtain ⟨rfl, rfl⟩ := Prod.mk.inj (Option.some.inj hf)
  exact fl_iret X hb hr hlk hF dX7_tells_107
set_option maxHeartbeats 4000000 in
set_option maxRecDepth 100000 in
theorem bX7_tells_65 {r : Int32} {σ' : Mem} (M : MX p s m args meth c RX7 G wR cX7_tells 6 (some .int)) : ∀ (x1 : Int32) (x2 : Int32) (x3 : Int32) (x4 : Int32) (x5 : Int32) (σ : Mem) (H : Heap) (locs : List Loc) (ls : Array Slot), fX7_tells_65 x1 x2 x3 x4 x5 σ = some (r, σ') → FH G wR s.heap H locs σ → lv_has ls 6 [(0, .ref (gA G 0)), (1, .int x1), (2, .int x2), (3, .int x3), (4, .int x4), (5, .int x5)] → WG p l e ({ frames := 3, cells := 0, slots := 0, locals := 68 }) s m args below meth c G wR (some (.int r)) σ' H locs 65 ls [] := by
  obtain ⟨X, hb, hml, hr, hlk⟩ := id M
  have hx := X.1
  intro x1 x2 x3 x4 x5 σ H locs ls hf hF hl
  unfold fX7_tells_65 at hf
  refine lv_iload_n hx hb dX7_tells_65 rfl (lv_at hl 2 rfl) ?_
  refine lv_aload_n hx hb dX7_tells_66 rfl (lv_at hl 0 rfl) ?_
  refine gf_X7_23 X hb hF sh_X7 dX7_tells_67 ?_
  refine lv_iload_n hx hb dX7_tells_70 rfl (lv_at hl 1 rfl) ?_
  obtain ⟨g10, hf⟩ := grd_some hf
  refine fl_iald X hb hF sh_r5 g10 dX7_tells_71 ?_
  refine lv_iconst (v := (1 : Int32)) hx hb dX7_tells_72 (by decide) ?_
  refine lv_isub hx hb dX7_tells_73 ?_
  refine lv_icmp_ge (tgt := 93) hx hb dX7_tells_74 (by decide) (fun cd11 => ?_) (fun cd11 => ?_)
  · replace hf := ifp cd11 hf
    exact bX7_tells_93 M x3 x4 x5 σ _ _ _ hf hF (lv_sub hl [0, 3, 4, 5] rfl)
  · replace hf := ifn cd11 hf
    refine lv_iload_n hx hb dX7_tells_77 rfl (lv_at hl 3 rfl) ?_
    refine lv_aload_n hx hb dX7_tells_78 rfl (lv_at hl 0 rfl) ?_
    refine gf_X7_7 X hb hF sh_X7 dX7_tells_79 ?_
    refine lv_iload hx hb dX7_tells_82 (lv_at hl 4 rfl) ?_
    refine lv_iconst (v := (1 : Int32)) hx hb dX7_tells_84 (by decide) ?_
    refine lv_iadd hx hb dX7_tells_85 ?_
    obtain ⟨g15, hf⟩ := grd_some hf
    refine fl_iald X hb hF sh_r1 g15 dX7_tells_86 ?_
    refine lv_icmp_le (tgt := 93) hx hb dX7_tells_87 (by decide) (fun cd16 => ?_) (fun cd16 => ?_)
    · replace hf := ifp cd16 hf
      exact bX7_tells_93 M x3 x4 x5 σ _ _ _ hf hF (lv_sub hl [0, 3, 4, 5] rfl)
    · replace hf := ifn cd16 hf
      refine lv_bipush (v := (-2 : Int32)) hx hb dX7_tells_90 (by decide) ?_
      obtain ⟨rfl, rfl⟩ := Prod.mk.inj (Option.some.inj hf)
      exact fl_iret X hb hr hlk hF dX7_tells_92
set_option maxHeartbeats 4000000 in
set_option maxRecDepth 100000 in
theorem cX7_tells_ok {l : Launch} {G : Gl} (hI : FI G wR) {x1 : Int32} {x2 : Int32} {x3 : Int32} {σ : Mem} {r : Int32} {σ' : Mem} (hf : fX7_tells x1 x2 x3 σ = some (r, σ')) : Ct l G wR yX7_tells cX7_tells 6 (some .int) ({ frames := 3, cells := 0, slots := 0, locals := 68 }) [.ref (gA G 0), .int x1, .int x2, .int x3] σ (some (.int r)) σ' := by
  refine fl_start hI (by decide) (Nat.le_of_ble_eq_true rfl) ?_
  intro p e s m below meth c M hF ls hl
  obtain ⟨X, hb, hml, hr, hlk⟩ := id M
  have hx := X.1
  have hl : lv_has ls 6 [(0, .ref (gA G 0)), (1, .int x1), (2, .int x2), (3, .int x3)] := hl
  unfold fX7_tells at hf
  refine lv_aload_n hx hb dX7_tells_0 rfl (lv_at hl 0 rfl) ?_
  refine lv_iload_n hx hb dX7_tells_1 rfl (lv_at hl 1 rfl) ?_
  refine lv_iload_n hx hb dX7_tells_2 rfl (lv_at hl 2 rfl) ?_
  obtain ⟨r2, hq1, hf⟩ := bi_some hf
  refine cm_X7_129 (As := [.int x1, .int x2]) (rest := []) X hb hml hF (cX7_isEntry_ok (l := l) (G := G) X.2.2.2.2 hq1) sh_X7 ⟨Nat.le_of_ble_eq_true rfl, Nat.le_of_ble_eq_true rfl⟩ rfl rfl ⟨Nat.zero_le _, Nat.zero_le _⟩ rfl hl.1 rfl (Nat.le_of_ble_eq_true rfl) dX7_tells_3 (fun H locs hF => ?_)
  refine lv_if_eq (tgt := 21) hx hb dX7_tells_6 (by decide) (fun cd3 => ?_) (fun cd3 => ?_)
  · replace hf := ifp cd3 hf
    refine lv_iconst (v := (-1 : Int32)) hx hb dX7_tells_21 (by decide) ?_
    obtain ⟨rfl, rfl⟩ := Prod.mk.inj (Option.some.inj hf)
    exact fl_iret X hb hr hlk hF dX7_tells_22
  · replace hf := ifn cd3 hf
    refine lv_iload_n hx hb dX7_tells_9 rfl (lv_at hl 3 rfl) ?_
    refine lv_i2l (v := x3.toInt64) hx hb dX7_tells_10 rfl ?_
    refine lv_lconst (v := (0 : Int64)) hx hb dX7_tells_11 (by decide) ?_
    refine lv_ldc2 (v := (99 : Int64)) hx hb X.2.1 (X.2.2.1 _ wn_X7_211) dX7_tells_12 ?_
    obtain ⟨r5, hq4, hf⟩ := bi_some hf
    refine cm_X7_62 (As := [.long x3.toInt64, .long (0 : Int64), .long (99 : Int64)]) (rest := []) X hb hml hF (cX7_in_ok (l := l) (G := G) (σ := σ) X.2.2.2.2 hq4) ⟨Nat.le_of_ble_eq_true rfl, Nat.le_of_ble_eq_true rfl⟩ rfl rfl ⟨Nat.zero_le _, Nat.zero_le _⟩ rfl hl.1 rfl (Nat.le_of_ble_eq_true rfl) dX7_tells_15 (fun H locs hF => ?_)
    refine lv_if_ne (tgt := 23) hx hb dX7_tells_18 (by decide) (fun cd6 => ?_) (fun cd6 => ?_)
    · replace hf := ifn cd6 hf
      refine lv_iconst (v := (1 : Int32)) hx hb dX7_tells_23 (by decide) ?_
      refine lv_bipush (v := (6 : Int32)) hx hb dX7_tells_24 (by decide) ?_
      refine lv_iload_n hx hb dX7_tells_26 rfl (lv_at hl 1 rfl) ?_
      refine lv_imul hx hb dX7_tells_27 ?_
      refine lv_iadd hx hb dX7_tells_28 ?_
      refine lv_iload_n hx hb dX7_tells_29 rfl (lv_at hl 2 rfl) ?_
      refine lv_iadd hx hb dX7_tells_30 ?_
      refine lv_istore (lv' := [(4, .int (((1 : Int32) + ((6 : Int32) * x1)) + x2)), (0, .ref (gA G 0)), (1, .int x1), (2, .int x2), (3, .int x3)]) hx hb dX7_tells_31 hl (by decide) rfl (fun ls hl => ?_)
      refine lv_aload_n hx hb dX7_tells_33 rfl (lv_at hl 1 rfl) ?_
      refine gf_X7_7 X hb hF sh_X7 dX7_tells_34 ?_
      refine lv_iload hx hb dX7_tells_37 (lv_at hl 0 rfl) ?_
      obtain ⟨g7, hf⟩ := grd_some hf
      refine fl_iald X hb hF sh_r1 g7 dX7_tells_39 ?_
      refine lv_istore (lv' := [(5, .int (σ 1 (((1 : Int32) + ((6 : Int32) * x1)) + x2).toNatClampNeg)), (4, .int (((1 : Int32) + ((6 : Int32) * x1)) + x2)), (0, .ref (gA G 0)), (1, .int x1), (2, .int x2), (3, .int x3)]) hx hb dX7_tells_40 hl (by decide) rfl (fun ls hl => ?_)
      refine lv_iload_n hx hb dX7_tells_42 rfl (lv_at hl 5 rfl) ?_
      refine lv_iload hx hb dX7_tells_43 (lv_at hl 0 rfl) ?_
      refine lv_icmp_eq (tgt := 90) hx hb dX7_tells_45 (by decide) (fun cd8 => ?_) (fun cd8 => ?_)
      · replace hf := ifp cd8 hf
        refine lv_bipush (v := (-2 : Int32)) hx hb dX7_tells_90 (by decide) ?_
        obtain ⟨rfl, rfl⟩ := Prod.mk.inj (Option.some.inj hf)
        exact fl_iret X hb hr hlk hF dX7_tells_92
      · replace hf := ifn cd8 hf
        refine lv_iload_n hx hb dX7_tells_48 rfl (lv_at hl 4 rfl) ?_
        refine lv_if_le (tgt := 65) hx hb dX7_tells_49 (by decide) (fun cd9 => ?_) (fun cd9 => ?_)
        · replace hf := ifp cd9 hf
          exact bX7_tells_65 M x1 x2 x3 (((1 : Int32) + ((6 : Int32) * x1)) + x2) (σ 1 (((1 : Int32) + ((6 : Int32) * x1)) + x2).toNatClampNeg) σ _ _ _ hf hF (lv_sub hl [2, 3, 4, 5, 1, 0] rfl)
        · replace hf := ifn cd9 hf
          refine lv_iload_n hx hb dX7_tells_52 rfl (lv_at hl 5 rfl) ?_
          refine lv_aload_n hx hb dX7_tells_53 rfl (lv_at hl 2 rfl) ?_
          refine gf_X7_7 X hb hF sh_X7 dX7_tells_54 ?_
          refine lv_iload hx hb dX7_tells_57 (lv_at hl 1 rfl) ?_
          refine lv_iconst (v := (1 : Int32)) hx hb dX7_tells_59 (by decide) ?_
          refine lv_isub hx hb dX7_tells_60 ?_
          obtain ⟨g17, hf⟩ := grd_some hf
          refine fl_iald X hb hF sh_r1 g17 dX7_tells_61 ?_
          refine lv_icmp_lt (tgt := 90) hx hb dX7_tells_62 (by decide) (fun cd18 => ?_) (fun cd18 => ?_)
          · replace hf := ifp cd18 hf
            refine lv_bipush (v := (-2 : Int32)) hx hb dX7_tells_90 (by decide) ?_
            obtain ⟨rfl, rfl⟩ := Prod.mk.inj (Option.some.inj hf)
            exact fl_iret X hb hr hlk hF dX7_tells_92
          · replace hf := ifn cd18 hf
            exact bX7_tells_65 M x1 x2 x3 (((1 : Int32) + ((6 : Int32) * x1)) + x2) (σ 1 (((1 : Int32) + ((6 : Int32) * x1)) + x2).toNatClampNeg) σ _ _ _ hf hF (lv_sub hl [2, 3, 4, 5, 1, 0] rfl)
    · replace hf := ifp cd6 hf
      refine lv_iconst (v := (-1 : Int32)) hx hb dX7_tells_21 (by decide) ?_
      obtain ⟨rfl, rfl⟩ := Prod.mk.inj (Option.some.inj hf)
      exact fl_iret X hb hr hlk hF dX7_tells_22
set_option maxHeartbeats 4000000 in
set_option maxRecDepth 100000 in
theorem cX7_slacks_ok {l : Launch} {G : Gl} (hI : FI G wR) {x1 : Int32} {σ : Mem} {r : Int32} {σ' : Mem} (hf : fX7_slacks x1 σ = some (r, σ')) : Ct l G wR yX7_slacks cX7_slacks 3 (some .int) ({ frames := 2, cells := 0, slots := 0, locals := 44 }) [.ref (gA G 0), .int x1] σ (some (.int r)) σ' := by
  refine fl_start hI (by decide) (Nat.le_of_ble_eq_true rfl) ?_
  intro p e s m below meth c M hF ls hl
  obtain ⟨X, hb, hml, hr, hlk⟩ := id M
  have hx := X.1
  have hl : lv_has ls 3 [(0, .ref (gA G 0)), (1, .int x1)] := hl
  unfold fX7_slacks at hf
  refine lv_iload_n hx hb dX7_slacks_0 rfl (lv_at hl 1 rfl) ?_
  refine lv_i2l (v := x1.toInt64) hx hb dX7_slacks_1 rfl ?_
  refine lv_lconst (v := (0 : Int64)) hx hb dX7_slacks_2 (by decide) ?_
  refine lv_ldc2 (v := (9 : Int64)) hx hb X.2.1 (X.2.2.1 _ wn_X7_213) dX7_slacks_3 ?_
  obtain ⟨r2, hq1, hf⟩ := bi_some hf
  refine cm_X7_62 (As := [.long x1.toInt64, .long (0 : Int64), .long (9 : Int64)]) (rest := []) X hb hml hF (cX7_in_ok (l := l) (G := G) (σ := σ) X.2.2.2.2 hq1) ⟨Nat.le_of_ble_eq_true rfl, Nat.le_of_ble_eq_true rfl⟩ rfl rfl ⟨Nat.zero_le _, Nat.zero_le _⟩ rfl hl.1 rfl (Nat.le_of_ble_eq_true rfl) dX7_slacks_6 (fun H locs hF => ?_)
  refine lv_if_ne (tgt := 14) hx hb dX7_slacks_9 (by decide) (fun cd3 => ?_) (fun cd3 => ?_)
  · replace hf := ifn cd3 hf
    refine lv_aload_n hx hb dX7_slacks_14 rfl (lv_at hl 0 rfl) ?_
    refine gf_X7_7 X hb hF sh_X7 dX7_slacks_15 ?_
    refine lv_iconst (v := (0 : Int32)) hx hb dX7_slacks_18 (by decide) ?_
    obtain ⟨g4, hf⟩ := grd_some hf
    refine fl_iald X hb hF sh_r1 g4 dX7_slacks_19 ?_
    refine lv_istore_n (lv' := [(2, .int (σ 1 (0 : Int32).toNatClampNeg)), (0, .ref (gA G 0)), (1, .int x1)]) hx hb dX7_slacks_20 rfl hl (by decide) rfl (fun ls hl => ?_)
    refine lv_iload_n hx hb dX7_slacks_21 rfl (lv_at hl 0 rfl) ?_
    refine lv_iload_n hx hb dX7_slacks_22 rfl (lv_at hl 2 rfl) ?_
    refine lv_icmp_ne (tgt := 29) hx hb dX7_slacks_23 (by decide) (fun cd5 => ?_) (fun cd5 => ?_)
    · replace hf := ifn cd5 hf
      refine lv_aload_n hx hb dX7_slacks_29 rfl (lv_at hl 1 rfl) ?_
      obtain ⟨σ7, hq6, hf⟩ := bv_some hf
      refine cm_X7_208 (As := []) (rest := []) X hb hml hF (cX7_minds_ok (l := l) (G := G) X.2.2.2.2 hq6) sh_X7 ⟨Nat.le_of_ble_eq_true rfl, Nat.le_of_ble_eq_true rfl⟩ rfl rfl ⟨Nat.zero_le _, Nat.zero_le _⟩ rfl hl.1 rfl (Nat.le_of_ble_eq_true rfl) dX7_slacks_30 (fun H locs hF => ?_)
      refine lv_aload_n hx hb dX7_slacks_33 rfl (lv_at hl 1 rfl) ?_
      refine gf_X7_7 X hb hF sh_X7 dX7_slacks_34 ?_
      refine lv_iconst (v := (0 : Int32)) hx hb dX7_slacks_37 (by decide) ?_
      refine lv_iload_n hx hb dX7_slacks_38 rfl (lv_at hl 2 rfl) ?_
      obtain ⟨g8, hf⟩ := grd_some hf
      refine fl_iast X hb hF sh_r1 g8 dX7_slacks_39 (fun H locs hF => ?_)
      refine lv_iload_n hx hb dX7_slacks_40 rfl (lv_at hl 0 rfl) ?_
      obtain ⟨rfl, rfl⟩ := Prod.mk.inj (Option.some.inj hf)
      exact fl_iret X hb hr hlk hF dX7_slacks_41
    · replace hf := ifp cd5 hf
      refine lv_bipush (v := (-2 : Int32)) hx hb dX7_slacks_26 (by decide) ?_
      obtain ⟨rfl, rfl⟩ := Prod.mk.inj (Option.some.inj hf)
      exact fl_iret X hb hr hlk hF dX7_slacks_28
  · replace hf := ifp cd3 hf
    refine lv_iconst (v := (-1 : Int32)) hx hb dX7_slacks_12 (by decide) ?_
    obtain ⟨rfl, rfl⟩ := Prod.mk.inj (Option.some.inj hf)
    exact fl_iret X hb hr hlk hF dX7_slacks_13
set_option maxHeartbeats 4000000 in
set_option maxRecDepth 100000 in
theorem cX7_undo_ok {l : Launch} {G : Gl} (hI : FI G wR) {σ : Mem} {r : Int32} {σ' : Mem} (hf : fX7_undo σ = some (r, σ')) : Ct l G wR yX7_undo cX7_undo 1 (some .int) ({ frames := 1, cells := 0, slots := 0, locals := 23 }) [.ref (gA G 0)] σ (some (.int r)) σ' := by
  refine fl_start hI (by decide) (Nat.le_of_ble_eq_true rfl) ?_
  intro p e s m below meth c M hF ls hl
  obtain ⟨X, hb, hml, hr, hlk⟩ := id M
  have hx := X.1
  have hl : lv_has ls 1 [(0, .ref (gA G 0))] := hl
  unfold fX7_undo at hf
  refine lv_aload_n hx hb dX7_undo_0 rfl (lv_at hl 0 rfl) ?_
  refine gf_X7_51 X hb hF sh_X7 dX7_undo_1 ?_
  refine lv_if_ne (tgt := 10) hx hb dX7_undo_4 (by decide) (fun cd1 => ?_) (fun cd1 => ?_)
  · replace hf := ifn cd1 hf
    refine lv_aload_n hx hb dX7_undo_10 rfl (lv_at hl 0 rfl) ?_
    refine lv_dup hx hb dX7_undo_11 rfl ?_
    refine gf_X7_51 X hb hF sh_X7 dX7_undo_12 ?_
    refine lv_iconst (v := (1 : Int32)) hx hb dX7_undo_15 (by decide) ?_
    refine lv_isub hx hb dX7_undo_16 ?_
    refine pf_X7_51 X hb hF sh_X7 dX7_undo_17 (fun H locs hF => ?_)
    refine lv_aload_n hx hb dX7_undo_20 rfl (lv_at hl 0 rfl) ?_
    refine lv_sipush (v := (147 : Int32)) hx hb dX7_undo_21 (by decide) ?_
    refine lv_bipush (v := (49 : Int32)) hx hb dX7_undo_24 (by decide) ?_
    refine lv_aload_n hx hb dX7_undo_26 rfl (lv_at hl 0 rfl) ?_
    refine gf_X7_51 X hb hF sh_X7 dX7_undo_27 ?_
    refine lv_imul hx hb dX7_undo_30 ?_
    refine lv_iadd hx hb dX7_undo_31 ?_
    refine lv_iconst (v := (0 : Int32)) hx hb dX7_undo_32 (by decide) ?_
    obtain ⟨σ3, hq2, hf⟩ := bv_some hf
    refine cm_X7_54 (As := [.int ((147 : Int32) + ((49 : Int32) * ((mup σ 0 2 ((σ 0 2) - (1 : Int32))) 0 2))), .int (0 : Int32)]) (rest := []) X hb hml hF (cX7_copy_ok (l := l) (G := G) X.2.2.2.2 hq2) sh_X7 ⟨Nat.le_of_ble_eq_true rfl, Nat.le_of_ble_eq_true rfl⟩ rfl rfl ⟨Nat.zero_le _, Nat.zero_le _⟩ rfl hl.1 rfl (Nat.le_of_ble_eq_true rfl) dX7_undo_33 (fun H locs hF => ?_)
    refine lv_aload_n hx hb dX7_undo_36 rfl (lv_at hl 0 rfl) ?_
    refine gf_X7_51 X hb hF sh_X7 dX7_undo_37 ?_
    obtain ⟨rfl, rfl⟩ := Prod.mk.inj (Option.some.inj hf)
    exact fl_iret X hb hr hlk hF dX7_undo_40
  · replace hf := ifp cd1 hf
    refine lv_bipush (v := (-2 : Int32)) hx hb dX7_undo_7 (by decide) ?_
    obtain ⟨rfl, rfl⟩ := Prod.mk.inj (Option.some.inj hf)
    exact fl_iret X hb hr hlk hF dX7_undo_9
set_option maxHeartbeats 4000000 in
set_option maxRecDepth 100000 in
theorem cX7_sees_ok {l : Launch} {G : Gl} (hI : FI G wR) {x1 : Int32} {σ : Mem} {r : Int32} {σ' : Mem} (hf : fX7_sees x1 σ = some (r, σ')) : Ct l G wR yX7_sees cX7_sees 2 (some .int) ({ frames := 1, cells := 0, slots := 0, locals := 25 }) [.ref (gA G 0), .int x1] σ (some (.int r)) σ' := by
  refine fl_start hI (by decide) (Nat.le_of_ble_eq_true rfl) ?_
  intro p e s m below meth c M hF ls hl
  obtain ⟨X, hb, hml, hr, hlk⟩ := id M
  have hx := X.1
  have hl : lv_has ls 2 [(0, .ref (gA G 0)), (1, .int x1)] := hl
  unfold fX7_sees at hf
  refine lv_iload_n hx hb dX7_sees_0 rfl (lv_at hl 1 rfl) ?_
  refine lv_i2l (v := x1.toInt64) hx hb dX7_sees_1 rfl ?_
  refine lv_lconst (v := (0 : Int64)) hx hb dX7_sees_2 (by decide) ?_
  refine lv_ldc2 (v := (8 : Int64)) hx hb X.2.1 (X.2.2.1 _ wn_X7_215) dX7_sees_3 ?_
  obtain ⟨r2, hq1, hf⟩ := bi_some hf
  refine cm_X7_62 (As := [.long x1.toInt64, .long (0 : Int64), .long (8 : Int64)]) (rest := []) X hb hml hF (cX7_in_ok (l := l) (G := G) (σ := σ) X.2.2.2.2 hq1) ⟨Nat.le_of_ble_eq_true rfl, Nat.le_of_ble_eq_true rfl⟩ rfl rfl ⟨Nat.zero_le _, Nat.zero_le _⟩ rfl hl.1 rfl (Nat.le_of_ble_eq_true rfl) dX7_sees_6 (fun H locs hF => ?_)
  refine lv_if_ne (tgt := 14) hx hb dX7_sees_9 (by decide) (fun cd3 => ?_) (fun cd3 => ?_)
  · replace hf := ifn cd3 hf
    refine lv_aload_n hx hb dX7_sees_14 rfl (lv_at hl 0 rfl) ?_
    refine gf_X7_123 X hb hF sh_X7 dX7_sees_15 ?_
    refine lv_bipush (v := (6 : Int32)) hx hb dX7_sees_18 (by decide) ?_
    refine lv_icmp_ne (tgt := 26) hx hb dX7_sees_20 (by decide) (fun cd4 => ?_) (fun cd4 => ?_)
    · replace hf := ifn cd4 hf
      refine lv_aload_n hx hb dX7_sees_26 rfl (lv_at hl 0 rfl) ?_
      refine gf_X7_17 X hb hF sh_X7 dX7_sees_27 ?_
      refine lv_aload_n hx hb dX7_sees_30 rfl (lv_at hl 0 rfl) ?_
      refine gf_X7_123 X hb hF sh_X7 dX7_sees_31 ?_
      refine lv_iload_n hx hb dX7_sees_34 rfl (lv_at hl 1 rfl) ?_
      obtain ⟨g5, hf⟩ := grd_some hf
      refine fl_iast X hb hF sh_r3 g5 dX7_sees_35 (fun H locs hF => ?_)
      refine lv_aload_n hx hb dX7_sees_36 rfl (lv_at hl 0 rfl) ?_
      refine lv_dup hx hb dX7_sees_37 rfl ?_
      refine gf_X7_123 X hb hF sh_X7 dX7_sees_38 ?_
      refine lv_iconst (v := (1 : Int32)) hx hb dX7_sees_41 (by decide) ?_
      refine lv_iadd hx hb dX7_sees_42 ?_
      refine pf_X7_123 X hb hF sh_X7 dX7_sees_43 (fun H locs hF => ?_)
      refine lv_aload_n hx hb dX7_sees_46 rfl (lv_at hl 0 rfl) ?_
      refine gf_X7_123 X hb hF sh_X7 dX7_sees_47 ?_
      obtain ⟨rfl, rfl⟩ := Prod.mk.inj (Option.some.inj hf)
      exact fl_iret X hb hr hlk hF dX7_sees_50
    · replace hf := ifp cd4 hf
      refine lv_bipush (v := (-3 : Int32)) hx hb dX7_sees_23 (by decide) ?_
      obtain ⟨rfl, rfl⟩ := Prod.mk.inj (Option.some.inj hf)
      exact fl_iret X hb hr hlk hF dX7_sees_25
  · replace hf := ifp cd3 hf
    refine lv_iconst (v := (-1 : Int32)) hx hb dX7_sees_12 (by decide) ?_
    obtain ⟨rfl, rfl⟩ := Prod.mk.inj (Option.some.inj hf)
    exact fl_iret X hb hr hlk hF dX7_sees_13
set_option maxHeartbeats 4000000 in
set_option maxRecDepth 100000 in
theorem cX7_forget_ok {l : Launch} {G : Gl} (hI : FI G wR) {σ : Mem} {r : Int32} {σ' : Mem} (hf : fX7_forget σ = some (r, σ')) : Ct l G wR yX7_forget cX7_forget 2 (some .int) ({ frames := 0, cells := 0, slots := 0, locals := 0 }) [.ref (gA G 0)] σ (some (.int r)) σ' := by
  refine fl_start hI (by decide) (Nat.le_of_ble_eq_true rfl) ?_
  intro p e s m below meth c M hF ls hl
  obtain ⟨X, hb, hml, hr, hlk⟩ := id M
  have hx := X.1
  have hl : lv_has ls 2 [(0, .ref (gA G 0))] := hl
  unfold fX7_forget at hf
  refine lv_aload_n hx hb dX7_forget_0 rfl (lv_at hl 0 rfl) ?_
  refine gf_X7_123 X hb hF sh_X7 dX7_forget_1 ?_
  refine lv_istore_n (lv' := [(1, .int (σ 0 4)), (0, .ref (gA G 0))]) hx hb dX7_forget_4 rfl hl (by decide) rfl (fun ls hl => ?_)
  refine lv_aload_n hx hb dX7_forget_5 rfl (lv_at hl 1 rfl) ?_
  refine lv_iconst (v := (0 : Int32)) hx hb dX7_forget_6 (by decide) ?_
  refine pf_X7_123 X hb hF sh_X7 dX7_forget_7 (fun H locs hF => ?_)
  refine lv_iload_n hx hb dX7_forget_10 rfl (lv_at hl 0 rfl) ?_
  obtain ⟨rfl, rfl⟩ := Prod.mk.inj (Option.some.inj hf)
  exact fl_iret X hb hr hlk hF dX7_forget_11
set_option maxHeartbeats 4000000 in
set_option maxRecDepth 100000 in
theorem bX7_isUnseen_39 {r : Int32} {σ' : Mem} (M : MX p s m args meth c RX7 G wR cX7_isUnseen 6 (some .boolean)) : ∀ (fu : Nat) (x3 : Int32) (x4 : Int32) (x5 : Int32) (σ : Mem) (H : Heap) (locs : List Loc) (ls : Array Slot), fX7_isUnseen_39 fu x3 x4 x5 σ = some (r, σ') → FH G wR s.heap H locs σ → lv_has ls 6 [(0, .ref (gA G 0)), (3, .int x3), (4, .int x4), (5, .int x5)] → WG p l e ({ frames := 8, cells := 0, slots := 0, locals := 184 }) s m args below meth c G wR (some (.int r)) σ' H locs 39 ls [] := by
  obtain ⟨X, hb, hml, hr, hlk⟩ := id M
  have hx := X.1
  intro fu
  induction fu with
  | zero =>
    intro x3 x4 x5 σ H locs ls hf hF hl
    rw [fX7_isUnseen_39] at hf
    cases hf
  | succ fu ih =>
    intro x3 x4 x5 σ H locs ls hf hF hl
    rw [fX7_isUnseen_39] at hf
    refine lv_iload hx hb dX7_isUnseen_39 (lv_at hl 3 rfl) ?_
    refine lv_aload_n hx hb dX7_isUnseen_41 rfl (lv_at hl 0 rfl) ?_
    refine gf_X7_123 X hb hF sh_X7 dX7_isUnseen_42 ?_
    refine lv_icmp_ge (tgt := 76) hx hb dX7_isUnseen_45 (by decide) (fun cd10 => ?_) (fun cd10 => ?_)
    · replace hf := ifp cd10 hf
      refine lv_iload_n hx hb dX7_isUnseen_76 rfl (lv_at hl 1 rfl) ?_
      obtain ⟨g11, hf⟩ := grd_some hf
      obtain ⟨rfl, rfl⟩ := Prod.mk.inj (Option.some.inj hf)
      exact fl_zret X hb hr hlk hF g11 dX7_isUnseen_77
    · replace hf := ifn cd10 hf
      refine lv_iload_n hx hb dX7_isUnseen_48 rfl (lv_at hl 1 rfl) ?_
      refine lv_if_eq (tgt := 68) hx hb dX7_isUnseen_49 (by decide) (fun cd12 => ?_) (fun cd12 => ?_)
      · replace hf := ifp cd12 hf
        refine lv_iconst (v := (0 : Int32)) hx hb dX7_isUnseen_68 (by decide) ?_
        refine lv_istore_n (lv' := [(3, .int (0 : Int32)), (0, .ref (gA G 0)), (4, .int x4), (5, .int x5)]) hx hb dX7_isUnseen_69 rfl hl (by decide) rfl (fun ls hl => ?_)
        refine lv_iinc (v := x5 + (1 : Int32)) (lv' := [(5, .int (x5 + (1 : Int32))), (3, .int (0 : Int32)), (0, .ref (gA G 0)), (4, .int x4)]) hx hb dX7_isUnseen_70 hl (k := 3) rfl rfl (by decide) rfl (fun ls hl => ?_)
        refine lv_goto (tgt := 39) hx hb dX7_isUnseen_73 (by decide) ?_
        exact ih (0 : Int32) x4 (x5 + (1 : Int32)) σ _ _ _ hf hF (lv_sub hl [2, 1, 3, 0] rfl)
      · replace hf := ifn cd12 hf
        refine lv_aload_n hx hb dX7_isUnseen_52 rfl (lv_at hl 0 rfl) ?_
        refine gf_X7_17 X hb hF sh_X7 dX7_isUnseen_53 ?_
        refine lv_iload hx hb dX7_isUnseen_56 (lv_at hl 3 rfl) ?_
        obtain ⟨g13, hf⟩ := grd_some hf
        refine fl_iald X hb hF sh_r3 g13 dX7_isUnseen_58 ?_
        refine lv_iload hx hb dX7_isUnseen_59 (lv_at hl 2 rfl) ?_
        refine lv_icmp_ne (tgt := 68) hx hb dX7_isUnseen_61 (by decide) (fun cd14 => ?_) (fun cd14 => ?_)
        · replace hf := ifn cd14 hf
          refine lv_iconst (v := (0 : Int32)) hx hb dX7_isUnseen_68 (by decide) ?_
          refine lv_istore_n (lv' := [(3, .int (0 : Int32)), (0, .ref (gA G 0)), (4, .int x4), (5, .int x5)]) hx hb dX7_isUnseen_69 rfl hl (by decide) rfl (fun ls hl => ?_)
          refine lv_iinc (v := x5 + (1 : Int32)) (lv' := [(5, .int (x5 + (1 : Int32))), (3, .int (0 : Int32)), (0, .ref (gA G 0)), (4, .int x4)]) hx hb dX7_isUnseen_70 hl (k := 3) rfl rfl (by decide) rfl (fun ls hl => ?_)
          refine lv_goto (tgt := 39) hx hb dX7_isUnseen_73 (by decide) ?_
          exact ih (0 : Int32) x4 (x5 + (1 : Int32)) σ _ _ _ hf hF (lv_sub hl [2, 1, 3, 0] rfl)
        · replace hf := ifp cd14 hf
          refine lv_iconst (v := (1 : Int32)) hx hb dX7_isUnseen_64 (by decide) ?_
          refine lv_goto (tgt := 69) hx hb dX7_isUnseen_65 (by decide) ?_
          refine lv_istore_n (lv' := [(3, .int (1 : Int32)), (0, .ref (gA G 0)), (4, .int x4), (5, .int x5)]) hx hb dX7_isUnseen_69 rfl hl (by decide) rfl (fun ls hl => ?_)
          refine lv_iinc (v := x5 + (1 : Int32)) (lv' := [(5, .int (x5 + (1 : Int32))), (3, .int (1 : Int32)), (0, .ref (gA G 0)), (4, .int x4)]) hx hb dX7_isUnseen_70 hl (k := 3) rfl rfl (by decide) rfl (fun ls hl => ?_)
          refine lv_goto (tgt := 39) hx hb dX7_isUnseen_73 (by decide) ?_
          exact ih (1 : Int32) x4 (x5 + (1 : Int32)) σ _ _ _ hf hF (lv_sub hl [2, 1, 3, 0] rfl)
set_option maxHeartbeats 4000000 in
set_option maxRecDepth 100000 in
theorem cX7_isUnseen_ok {l : Launch} {G : Gl} (hI : FI G wR) {x1 : Int32} {x2 : Int32} {σ : Mem} {r : Int32} {σ' : Mem} (hf : fX7_isUnseen x1 x2 σ = some (r, σ')) : Ct l G wR yX7_isUnseen cX7_isUnseen 6 (some .boolean) ({ frames := 8, cells := 0, slots := 0, locals := 184 }) [.ref (gA G 0), .int x1, .int x2] σ (some (.int r)) σ' := by
  refine fl_start hI (by decide) (Nat.le_of_ble_eq_true rfl) ?_
  intro p e s m below meth c M hF ls hl
  obtain ⟨X, hb, hml, hr, hlk⟩ := id M
  have hx := X.1
  have hl : lv_has ls 6 [(0, .ref (gA G 0)), (1, .int x1), (2, .int x2)] := hl
  unfold fX7_isUnseen at hf
  refine lv_aload_n hx hb dX7_isUnseen_0 rfl (lv_at hl 0 rfl) ?_
  refine lv_iload_n hx hb dX7_isUnseen_1 rfl (lv_at hl 1 rfl) ?_
  refine lv_iload_n hx hb dX7_isUnseen_2 rfl (lv_at hl 2 rfl) ?_
  obtain ⟨r2, hq1, hf⟩ := bi_some hf
  refine cm_X7_138 (As := [.int x1, .int x2]) (rest := []) X hb hml hF (cX7_counts_ok (l := l) (G := G) X.2.2.2.2 hq1) sh_X7 ⟨Nat.le_of_ble_eq_true rfl, Nat.le_of_ble_eq_true rfl⟩ rfl rfl ⟨Nat.zero_le _, Nat.zero_le _⟩ rfl hl.1 rfl (Nat.le_of_ble_eq_true rfl) dX7_isUnseen_3 (fun H locs hF => ?_)
  refine lv_istore_n (lv' := [(3, .int r2), (0, .ref (gA G 0)), (1, .int x1), (2, .int x2)]) hx hb dX7_isUnseen_6 rfl hl (by decide) rfl (fun ls hl => ?_)
  refine lv_iload_n hx hb dX7_isUnseen_7 rfl (lv_at hl 0 rfl) ?_
  refine lv_if_eq (tgt := 76) hx hb dX7_isUnseen_8 (by decide) (fun cd3 => ?_) (fun cd3 => ?_)
  · replace hf := ifp cd3 hf
    refine lv_iload_n hx hb dX7_isUnseen_76 rfl (lv_at hl 0 rfl) ?_
    obtain ⟨g4, hf⟩ := grd_some hf
    obtain ⟨rfl, rfl⟩ := Prod.mk.inj (Option.some.inj hf)
    exact fl_zret X hb hr hlk hF g4 dX7_isUnseen_77
  · replace hf := ifn cd3 hf
    refine lv_aload_n hx hb dX7_isUnseen_11 rfl (lv_at hl 1 rfl) ?_
    refine lv_bipush (v := (6 : Int32)) hx hb dX7_isUnseen_12 (by decide) ?_
    refine lv_iload_n hx hb dX7_isUnseen_14 rfl (lv_at hl 2 rfl) ?_
    refine lv_imul hx hb dX7_isUnseen_15 ?_
    refine lv_iload_n hx hb dX7_isUnseen_16 rfl (lv_at hl 3 rfl) ?_
    refine lv_iadd hx hb dX7_isUnseen_17 ?_
    refine pf_X7_38 X hb hF sh_X7 dX7_isUnseen_18 (fun H locs hF => ?_)
    refine lv_aload_n hx hb dX7_isUnseen_21 rfl (lv_at hl 1 rfl) ?_
    obtain ⟨r6, σ7, hq5, hf⟩ := bm_some hf
    refine cm_X7_182 (As := []) (rest := []) X hb hml hF (cX7_knots_ok (l := l) (G := G) X.2.2.2.2 hq5) sh_X7 ⟨Nat.le_of_ble_eq_true rfl, Nat.le_of_ble_eq_true rfl⟩ rfl rfl ⟨Nat.zero_le _, Nat.zero_le _⟩ rfl hl.1 rfl (Nat.le_of_ble_eq_true rfl) dX7_isUnseen_22 (fun H locs hF => ?_)
    obtain ⟨r9, hq8, hf⟩ := bi_some hf
    refine cm_X7_189 (As := [.int r6]) (rest := []) X hb hml hF (cX7_ones_ok (l := l) (G := G) (σ := σ7) X.2.2.2.2 hq8) ⟨Nat.le_of_ble_eq_true rfl, Nat.le_of_ble_eq_true rfl⟩ rfl rfl ⟨Nat.zero_le _, Nat.zero_le _⟩ rfl hl.1 rfl (Nat.le_of_ble_eq_true rfl) dX7_isUnseen_25 (fun H locs hF => ?_)
    refine lv_istore (lv' := [(4, .int r9), (3, .int r2), (0, .ref (gA G 0)), (1, .int x1), (2, .int x2)]) hx hb dX7_isUnseen_28 hl (by decide) rfl (fun ls hl => ?_)
    refine lv_aload_n hx hb dX7_isUnseen_30 rfl (lv_at hl 2 rfl) ?_
    refine lv_bipush (v := (-9 : Int32)) hx hb dX7_isUnseen_31 (by decide) ?_
    refine pf_X7_38 X hb hF sh_X7 dX7_isUnseen_33 (fun H locs hF => ?_)
    refine lv_iconst (v := (0 : Int32)) hx hb dX7_isUnseen_36 (by decide) ?_
    refine lv_istore (lv' := [(5, .int (0 : Int32)), (4, .int r9), (3, .int r2), (0, .ref (gA G 0)), (1, .int x1), (2, .int x2)]) hx hb dX7_isUnseen_37 hl (by decide) rfl (fun ls hl => ?_)
    exact bX7_isUnseen_39 M FU r2 r9 (0 : Int32) (mup σ7 0 19 (-9 : Int32)) _ _ _ hf hF (lv_sub hl [3, 2, 1, 0] rfl)
set_option maxHeartbeats 4000000 in
set_option maxRecDepth 100000 in
theorem bX7_unseen_21 {r : Int32} {σ' : Mem} (M : MX p s m args meth c RX7 G wR cX7_unseen 5 (some .int)) : ∀ (fu : Nat) (x1 : Int32) (x2 : Int32) (x3 : Int32) (x4 : Int32) (σ : Mem) (H : Heap) (locs : List Loc) (ls : Array Slot), fX7_unseen_21 fu x1 x2 x3 x4 σ = some (r, σ') → FH G wR s.heap H locs σ → lv_has ls 5 [(0, .ref (gA G 0)), (1, .int x1), (2, .int x2), (3, .int x3), (4, .int x4)] → WG p l e ({ frames := 9, cells := 0, slots := 0, locals := 209 }) s m args below meth c G wR (some (.int r)) σ' H locs 21 ls [] := by
  obtain ⟨X, hb, hml, hr, hlk⟩ := id M
  have hx := X.1
  intro fu
  induction fu with
  | zero =>
    intro x1 x2 x3 x4 σ H locs ls hf hF hl
    rw [fX7_unseen_21] at hf
    cases hf
  | succ fu ih =>
    intro x1 x2 x3 x4 σ H locs ls hf hF hl
    rw [fX7_unseen_21] at hf
    refine lv_iload hx hb dX7_unseen_21 (lv_at hl 4 rfl) ?_
    refine lv_if_lt (tgt := 67) hx hb dX7_unseen_23 (by decide) (fun cd4 => ?_) (fun cd4 => ?_)
    · replace hf := ifp cd4 hf
      refine lv_iload_n hx hb dX7_unseen_67 rfl (lv_at hl 1 rfl) ?_
      refine lv_if_ne (tgt := 75) hx hb dX7_unseen_68 (by decide) (fun cd5 => ?_) (fun cd5 => ?_)
      · replace hf := ifn cd5 hf
        refine lv_iload_n hx hb dX7_unseen_75 rfl (lv_at hl 3 rfl) ?_
        obtain ⟨rfl, rfl⟩ := Prod.mk.inj (Option.some.inj hf)
        exact fl_iret X hb hr hlk hF dX7_unseen_76
      · replace hf := ifp cd5 hf
        refine lv_iload_n hx hb dX7_unseen_71 rfl (lv_at hl 2 rfl) ?_
        refine lv_goto (tgt := 76) hx hb dX7_unseen_72 (by decide) ?_
        obtain ⟨rfl, rfl⟩ := Prod.mk.inj (Option.some.inj hf)
        exact fl_iret X hb hr hlk hF dX7_unseen_76
    · replace hf := ifn cd4 hf
      refine lv_aload_n hx hb dX7_unseen_26 rfl (lv_at hl 0 rfl) ?_
      refine lv_iload hx hb dX7_unseen_27 (lv_at hl 4 rfl) ?_
      refine lv_bipush (v := (6 : Int32)) hx hb dX7_unseen_29 (by decide) ?_
      refine lv_idiv hx hb dX7_unseen_31 (by decide) ?_
      refine lv_iload hx hb dX7_unseen_32 (lv_at hl 4 rfl) ?_
      refine lv_bipush (v := (6 : Int32)) hx hb dX7_unseen_34 (by decide) ?_
      refine lv_irem hx hb dX7_unseen_36 (by decide) ?_
      obtain ⟨r7, σ8, hq6, hf⟩ := bm_some hf
      refine cm_X7_217 (As := [.int (x4 / (6 : Int32)), .int (x4 - x4 / (6 : Int32) * (6 : Int32))]) (rest := []) X hb hml hF (cX7_isUnseen_ok (l := l) (G := G) X.2.2.2.2 hq6) sh_X7 ⟨Nat.le_of_ble_eq_true rfl, Nat.le_of_ble_eq_true rfl⟩ rfl rfl ⟨Nat.zero_le _, Nat.zero_le _⟩ rfl hl.1 rfl (Nat.le_of_ble_eq_true rfl) dX7_unseen_37 (fun H locs hF => ?_)
      refine lv_if_eq (tgt := 61) hx hb dX7_unseen_40 (by decide) (fun cd9 => ?_) (fun cd9 => ?_)
      · replace hf := ifp cd9 hf
        refine lv_iinc (v := x4 + (-1 : Int32)) (lv' := [(4, .int (x4 + (-1 : Int32))), (0, .ref (gA G 0)), (1, .int x1), (2, .int x2), (3, .int x3)]) hx hb dX7_unseen_61 hl (k := 4) rfl rfl (by decide) rfl (fun ls hl => ?_)
        refine lv_goto (tgt := 21) hx hb dX7_unseen_64 (by decide) ?_
        exact ih x1 x2 x3 (x4 + (-1 : Int32)) σ8 _ _ _ hf hF (lv_sub hl [1, 2, 3, 4, 0] rfl)
      · replace hf := ifn cd9 hf
        refine lv_iinc (v := x2 + (1 : Int32)) (lv' := [(2, .int (x2 + (1 : Int32))), (0, .ref (gA G 0)), (1, .int x1), (3, .int x3), (4, .int x4)]) hx hb dX7_unseen_43 hl (k := 2) rfl rfl (by decide) rfl (fun ls hl => ?_)
        refine lv_iload hx hb dX7_unseen_46 (lv_at hl 4 rfl) ?_
        refine lv_bipush (v := (6 : Int32)) hx hb dX7_unseen_48 (by decide) ?_
        refine lv_idiv hx hb dX7_unseen_50 (by decide) ?_
        refine lv_bipush (v := (10 : Int32)) hx hb dX7_unseen_51 (by decide) ?_
        refine lv_imul hx hb dX7_unseen_53 ?_
        refine lv_iload hx hb dX7_unseen_54 (lv_at hl 4 rfl) ?_
        refine lv_bipush (v := (6 : Int32)) hx hb dX7_unseen_56 (by decide) ?_
        refine lv_irem hx hb dX7_unseen_58 (by decide) ?_
        refine lv_iadd hx hb dX7_unseen_59 ?_
        refine lv_istore_n (lv' := [(3, .int (((x4 / (6 : Int32)) * (10 : Int32)) + (x4 - x4 / (6 : Int32) * (6 : Int32)))), (2, .int (x2 + (1 : Int32))), (0, .ref (gA G 0)), (1, .int x1), (4, .int x4)]) hx hb dX7_unseen_60 rfl hl (by decide) rfl (fun ls hl => ?_)
        refine lv_iinc (v := x4 + (-1 : Int32)) (lv' := [(4, .int (x4 + (-1 : Int32))), (3, .int (((x4 / (6 : Int32)) * (10 : Int32)) + (x4 - x4 / (6 : Int32) * (6 : Int32)))), (2, .int (x2 + (1 : Int32))), (0, .ref (gA G 0)), (1, .int x1)]) hx hb dX7_unseen_61 hl (k := 4) rfl rfl (by decide) rfl (fun ls hl => ?_)
        refine lv_goto (tgt := 21) hx hb dX7_unseen_64 (by decide) ?_
        exact ih x1 (x2 + (1 : Int32)) (((x4 / (6 : Int32)) * (10 : Int32)) + (x4 - x4 / (6 : Int32) * (6 : Int32))) (x4 + (-1 : Int32)) σ8 _ _ _ hf hF (lv_sub hl [3, 4, 2, 1, 0] rfl)
set_option maxHeartbeats 4000000 in
set_option maxRecDepth 100000 in
theorem cX7_unseen_ok {l : Launch} {G : Gl} (hI : FI G wR) {x1 : Int32} {σ : Mem} {r : Int32} {σ' : Mem} (hf : fX7_unseen x1 σ = some (r, σ')) : Ct l G wR yX7_unseen cX7_unseen 5 (some .int) ({ frames := 9, cells := 0, slots := 0, locals := 209 }) [.ref (gA G 0), .int x1] σ (some (.int r)) σ' := by
  refine fl_start hI (by decide) (Nat.le_of_ble_eq_true rfl) ?_
  intro p e s m below meth c M hF ls hl
  obtain ⟨X, hb, hml, hr, hlk⟩ := id M
  have hx := X.1
  have hl : lv_has ls 5 [(0, .ref (gA G 0)), (1, .int x1)] := hl
  unfold fX7_unseen at hf
  refine lv_iload_n hx hb dX7_unseen_0 rfl (lv_at hl 1 rfl) ?_
  refine lv_i2l (v := x1.toInt64) hx hb dX7_unseen_1 rfl ?_
  refine lv_lconst (v := (0 : Int64)) hx hb dX7_unseen_2 (by decide) ?_
  refine lv_lconst (v := (1 : Int64)) hx hb dX7_unseen_3 (by decide) ?_
  obtain ⟨r2, hq1, hf⟩ := bi_some hf
  refine cm_X7_62 (As := [.long x1.toInt64, .long (0 : Int64), .long (1 : Int64)]) (rest := []) X hb hml hF (cX7_in_ok (l := l) (G := G) (σ := σ) X.2.2.2.2 hq1) ⟨Nat.le_of_ble_eq_true rfl, Nat.le_of_ble_eq_true rfl⟩ rfl rfl ⟨Nat.zero_le _, Nat.zero_le _⟩ rfl hl.1 rfl (Nat.le_of_ble_eq_true rfl) dX7_unseen_4 (fun H locs hF => ?_)
  refine lv_if_ne (tgt := 12) hx hb dX7_unseen_7 (by decide) (fun cd3 => ?_) (fun cd3 => ?_)
  · replace hf := ifn cd3 hf
    refine lv_iconst (v := (0 : Int32)) hx hb dX7_unseen_12 (by decide) ?_
    refine lv_istore_n (lv' := [(2, .int (0 : Int32)), (0, .ref (gA G 0)), (1, .int x1)]) hx hb dX7_unseen_13 rfl hl (by decide) rfl (fun ls hl => ?_)
    refine lv_bipush (v := (-9 : Int32)) hx hb dX7_unseen_14 (by decide) ?_
    refine lv_istore_n (lv' := [(3, .int (-9 : Int32)), (2, .int (0 : Int32)), (0, .ref (gA G 0)), (1, .int x1)]) hx hb dX7_unseen_16 rfl hl (by decide) rfl (fun ls hl => ?_)
    refine lv_bipush (v := (23 : Int32)) hx hb dX7_unseen_17 (by decide) ?_
    refine lv_istore (lv' := [(4, .int (23 : Int32)), (3, .int (-9 : Int32)), (2, .int (0 : Int32)), (0, .ref (gA G 0)), (1, .int x1)]) hx hb dX7_unseen_19 hl (by decide) rfl (fun ls hl => ?_)
    exact bX7_unseen_21 M FU x1 (0 : Int32) (-9 : Int32) (23 : Int32) σ _ _ _ hf hF (lv_sub hl [3, 4, 2, 1, 0] rfl)
  · replace hf := ifp cd3 hf
    refine lv_iconst (v := (-1 : Int32)) hx hb dX7_unseen_10 (by decide) ?_
    obtain ⟨rfl, rfl⟩ := Prod.mk.inj (Option.some.inj hf)
    exact fl_iret X hb hr hlk hF dX7_unseen_11
set_option maxHeartbeats 4000000 in
set_option maxRecDepth 100000 in
theorem cX7_keep_ok {l : Launch} {G : Gl} (hI : FI G wR) {x1 : Int32} {σ : Mem} {r : Int32} {σ' : Mem} (hf : fX7_keep x1 σ = some (r, σ')) : Ct l G wR yX7_keep cX7_keep 2 (some .int) ({ frames := 1, cells := 0, slots := 0, locals := 25 }) [.ref (gA G 0), .int x1] σ (some (.int r)) σ' := by
  refine fl_start hI (by decide) (Nat.le_of_ble_eq_true rfl) ?_
  intro p e s m below meth c M hF ls hl
  obtain ⟨X, hb, hml, hr, hlk⟩ := id M
  have hx := X.1
  have hl : lv_has ls 2 [(0, .ref (gA G 0)), (1, .int x1)] := hl
  unfold fX7_keep at hf
  refine lv_iload_n hx hb dX7_keep_0 rfl (lv_at hl 1 rfl) ?_
  refine lv_i2l (v := x1.toInt64) hx hb dX7_keep_1 rfl ?_
  refine lv_lconst (v := (0 : Int64)) hx hb dX7_keep_2 (by decide) ?_
  refine lv_lconst (v := (1 : Int64)) hx hb dX7_keep_3 (by decide) ?_
  obtain ⟨r2, hq1, hf⟩ := bi_some hf
  refine cm_X7_62 (As := [.long x1.toInt64, .long (0 : Int64), .long (1 : Int64)]) (rest := []) X hb hml hF (cX7_in_ok (l := l) (G := G) (σ := σ) X.2.2.2.2 hq1) ⟨Nat.le_of_ble_eq_true rfl, Nat.le_of_ble_eq_true rfl⟩ rfl rfl ⟨Nat.zero_le _, Nat.zero_le _⟩ rfl hl.1 rfl (Nat.le_of_ble_eq_true rfl) dX7_keep_4 (fun H locs hF => ?_)
  refine lv_if_ne (tgt := 12) hx hb dX7_keep_7 (by decide) (fun cd3 => ?_) (fun cd3 => ?_)
  · replace hf := ifn cd3 hf
    refine lv_aload_n hx hb dX7_keep_12 rfl (lv_at hl 0 rfl) ?_
    refine lv_iconst (v := (0 : Int32)) hx hb dX7_keep_13 (by decide) ?_
    refine lv_bipush (v := (49 : Int32)) hx hb dX7_keep_14 (by decide) ?_
    refine lv_bipush (v := (49 : Int32)) hx hb dX7_keep_16 (by decide) ?_
    refine lv_iload_n hx hb dX7_keep_18 rfl (lv_at hl 1 rfl) ?_
    refine lv_imul hx hb dX7_keep_19 ?_
    refine lv_iadd hx hb dX7_keep_20 ?_
    obtain ⟨σ5, hq4, hf⟩ := bv_some hf
    refine cm_X7_54 (As := [.int (0 : Int32), .int ((49 : Int32) + ((49 : Int32) * x1))]) (rest := []) X hb hml hF (cX7_copy_ok (l := l) (G := G) X.2.2.2.2 hq4) sh_X7 ⟨Nat.le_of_ble_eq_true rfl, Nat.le_of_ble_eq_true rfl⟩ rfl rfl ⟨Nat.zero_le _, Nat.zero_le _⟩ rfl hl.1 rfl (Nat.le_of_ble_eq_true rfl) dX7_keep_21 (fun H locs hF => ?_)
    refine lv_aload_n hx hb dX7_keep_24 rfl (lv_at hl 0 rfl) ?_
    refine gf_X7_13 X hb hF sh_X7 dX7_keep_25 ?_
    refine lv_iload_n hx hb dX7_keep_28 rfl (lv_at hl 1 rfl) ?_
    refine lv_iconst (v := (1 : Int32)) hx hb dX7_keep_29 (by decide) ?_
    obtain ⟨g6, hf⟩ := grd_some hf
    refine fl_zast X hb hF sh_r2 g6 rfl dX7_keep_30 (fun H locs hF => ?_)
    refine lv_aload_n hx hb dX7_keep_31 rfl (lv_at hl 0 rfl) ?_
    refine gf_X7_120 X hb hF sh_X7 dX7_keep_32 ?_
    obtain ⟨rfl, rfl⟩ := Prod.mk.inj (Option.some.inj hf)
    exact fl_iret X hb hr hlk hF dX7_keep_35
  · replace hf := ifp cd3 hf
    refine lv_iconst (v := (-1 : Int32)) hx hb dX7_keep_10 (by decide) ?_
    obtain ⟨rfl, rfl⟩ := Prod.mk.inj (Option.some.inj hf)
    exact fl_iret X hb hr hlk hF dX7_keep_11
set_option maxHeartbeats 4000000 in
set_option maxRecDepth 100000 in
theorem cX7_back_ok {l : Launch} {G : Gl} (hI : FI G wR) {x1 : Int32} {σ : Mem} {r : Int32} {σ' : Mem} (hf : fX7_back x1 σ = some (r, σ')) : Ct l G wR yX7_back cX7_back 2 (some .int) ({ frames := 1, cells := 0, slots := 0, locals := 25 }) [.ref (gA G 0), .int x1] σ (some (.int r)) σ' := by
  refine fl_start hI (by decide) (Nat.le_of_ble_eq_true rfl) ?_
  intro p e s m below meth c M hF ls hl
  obtain ⟨X, hb, hml, hr, hlk⟩ := id M
  have hx := X.1
  have hl : lv_has ls 2 [(0, .ref (gA G 0)), (1, .int x1)] := hl
  unfold fX7_back at hf
  refine lv_iload_n hx hb dX7_back_0 rfl (lv_at hl 1 rfl) ?_
  refine lv_i2l (v := x1.toInt64) hx hb dX7_back_1 rfl ?_
  refine lv_lconst (v := (0 : Int64)) hx hb dX7_back_2 (by decide) ?_
  refine lv_lconst (v := (1 : Int64)) hx hb dX7_back_3 (by decide) ?_
  obtain ⟨r2, hq1, hf⟩ := bi_some hf
  refine cm_X7_62 (As := [.long x1.toInt64, .long (0 : Int64), .long (1 : Int64)]) (rest := []) X hb hml hF (cX7_in_ok (l := l) (G := G) (σ := σ) X.2.2.2.2 hq1) ⟨Nat.le_of_ble_eq_true rfl, Nat.le_of_ble_eq_true rfl⟩ rfl rfl ⟨Nat.zero_le _, Nat.zero_le _⟩ rfl hl.1 rfl (Nat.le_of_ble_eq_true rfl) dX7_back_4 (fun H locs hF => ?_)
  refine lv_if_ne (tgt := 12) hx hb dX7_back_7 (by decide) (fun cd3 => ?_) (fun cd3 => ?_)
  · replace hf := ifn cd3 hf
    refine lv_aload_n hx hb dX7_back_12 rfl (lv_at hl 0 rfl) ?_
    refine gf_X7_13 X hb hF sh_X7 dX7_back_13 ?_
    refine lv_iload_n hx hb dX7_back_16 rfl (lv_at hl 1 rfl) ?_
    obtain ⟨g4, hf⟩ := grd_some hf
    refine fl_zald X hb hF sh_r2 g4 dX7_back_17 ?_
    refine lv_if_ne (tgt := 24) hx hb dX7_back_18 (by decide) (fun cd5 => ?_) (fun cd5 => ?_)
    · replace hf := ifn cd5 hf
      refine lv_aload_n hx hb dX7_back_24 rfl (lv_at hl 0 rfl) ?_
      refine lv_bipush (v := (49 : Int32)) hx hb dX7_back_25 (by decide) ?_
      refine lv_bipush (v := (49 : Int32)) hx hb dX7_back_27 (by decide) ?_
      refine lv_iload_n hx hb dX7_back_29 rfl (lv_at hl 1 rfl) ?_
      refine lv_imul hx hb dX7_back_30 ?_
      refine lv_iadd hx hb dX7_back_31 ?_
      refine lv_iconst (v := (0 : Int32)) hx hb dX7_back_32 (by decide) ?_
      obtain ⟨σ7, hq6, hf⟩ := bv_some hf
      refine cm_X7_54 (As := [.int ((49 : Int32) + ((49 : Int32) * x1)), .int (0 : Int32)]) (rest := []) X hb hml hF (cX7_copy_ok (l := l) (G := G) X.2.2.2.2 hq6) sh_X7 ⟨Nat.le_of_ble_eq_true rfl, Nat.le_of_ble_eq_true rfl⟩ rfl rfl ⟨Nat.zero_le _, Nat.zero_le _⟩ rfl hl.1 rfl (Nat.le_of_ble_eq_true rfl) dX7_back_33 (fun H locs hF => ?_)
      refine lv_aload_n hx hb dX7_back_36 rfl (lv_at hl 0 rfl) ?_
      refine lv_iconst (v := (0 : Int32)) hx hb dX7_back_37 (by decide) ?_
      refine pf_X7_51 X hb hF sh_X7 dX7_back_38 (fun H locs hF => ?_)
      refine lv_aload_n hx hb dX7_back_41 rfl (lv_at hl 0 rfl) ?_
      refine gf_X7_120 X hb hF sh_X7 dX7_back_42 ?_
      obtain ⟨rfl, rfl⟩ := Prod.mk.inj (Option.some.inj hf)
      exact fl_iret X hb hr hlk hF dX7_back_45
    · replace hf := ifp cd5 hf
      refine lv_bipush (v := (-2 : Int32)) hx hb dX7_back_21 (by decide) ?_
      obtain ⟨rfl, rfl⟩ := Prod.mk.inj (Option.some.inj hf)
      exact fl_iret X hb hr hlk hF dX7_back_23
  · replace hf := ifp cd3 hf
    refine lv_iconst (v := (-1 : Int32)) hx hb dX7_back_10 (by decide) ?_
    obtain ⟨rfl, rfl⟩ := Prod.mk.inj (Option.some.inj hf)
    exact fl_iret X hb hr hlk hF dX7_back_11
set_option maxHeartbeats 4000000 in
set_option maxRecDepth 100000 in
theorem bX7_entries_4 {σ : Mem} {r : Int32} (M : MX p s m args meth c RX7 G wR cX7_entries 3 (some .int)) : ∀ (fu : Nat) (x1 : Int32) (x2 : Int32) (H : Heap) (locs : List Loc) (ls : Array Slot), fX7_entries_4 σ fu x1 x2 = some r → FH G wR s.heap H locs σ → lv_has ls 3 [(0, .ref (gA G 0)), (1, .int x1), (2, .int x2)] → WG p l e ({ frames := 5, cells := 0, slots := 0, locals := 113 }) s m args below meth c G wR (some (.int r)) σ H locs 4 ls [] := by
  obtain ⟨X, hb, hml, hr, hlk⟩ := id M
  have hx := X.1
  intro fu
  induction fu with
  | zero =>
    intro x1 x2 H locs ls hf hF hl
    rw [fX7_entries_4] at hf
    cases hf
  | succ fu ih =>
    intro x1 x2 H locs ls hf hF hl
    rw [fX7_entries_4] at hf
    refine lv_iload_n hx hb dX7_entries_4 rfl (lv_at hl 2 rfl) ?_
    refine lv_aload_n hx hb dX7_entries_5 rfl (lv_at hl 0 rfl) ?_
    refine gf_X7_120 X hb hF sh_X7 dX7_entries_6 ?_
    refine lv_icmp_ge (tgt := 26) hx hb dX7_entries_9 (by decide) (fun cd1 => ?_) (fun cd1 => ?_)
    · replace hf := ifp cd1 hf
      refine lv_iload_n hx hb dX7_entries_26 rfl (lv_at hl 1 rfl) ?_
      obtain rfl := Option.some.inj hf
      exact fl_iret X hb hr hlk hF dX7_entries_27
    · replace hf := ifn cd1 hf
      refine lv_iload_n hx hb dX7_entries_12 rfl (lv_at hl 1 rfl) ?_
      refine lv_aload_n hx hb dX7_entries_13 rfl (lv_at hl 0 rfl) ?_
      refine lv_iload_n hx hb dX7_entries_14 rfl (lv_at hl 2 rfl) ?_
      obtain ⟨r3, hq2, hf⟩ := bi_some hf
      refine cm_X7_186 (As := [.int x2]) (rest := [.int x1]) X hb hml hF (cX7_sizeOf_ok (l := l) (G := G) X.2.2.2.2 hq2) sh_X7 ⟨Nat.le_of_ble_eq_true rfl, Nat.le_of_ble_eq_true rfl⟩ rfl rfl ⟨Nat.zero_le _, Nat.zero_le _⟩ rfl hl.1 rfl (Nat.le_of_ble_eq_true rfl) dX7_entries_15 (fun H locs hF => ?_)
      refine lv_iadd hx hb dX7_entries_18 ?_
      refine lv_istore_n (lv' := [(1, .int (x1 + r3)), (0, .ref (gA G 0)), (2, .int x2)]) hx hb dX7_entries_19 rfl hl (by decide) rfl (fun ls hl => ?_)
      refine lv_iinc (v := x2 + (1 : Int32)) (lv' := [(2, .int (x2 + (1 : Int32))), (1, .int (x1 + r3)), (0, .ref (gA G 0))]) hx hb dX7_entries_20 hl (k := 2) rfl rfl (by decide) rfl (fun ls hl => ?_)
      refine lv_goto (tgt := 4) hx hb dX7_entries_23 (by decide) ?_
      exact ih (x1 + r3) (x2 + (1 : Int32)) _ _ _ hf hF (lv_sub hl [2, 1, 0] rfl)
set_option maxHeartbeats 4000000 in
set_option maxRecDepth 100000 in
theorem cX7_entries_ok {l : Launch} {G : Gl} (hI : FI G wR) {σ : Mem} {r : Int32} (hf : fX7_entries σ = some r) : Ct l G wR yX7_entries cX7_entries 3 (some .int) ({ frames := 5, cells := 0, slots := 0, locals := 113 }) [.ref (gA G 0)] σ (some (.int r)) σ := by
  refine fl_start hI (by decide) (Nat.le_of_ble_eq_true rfl) ?_
  intro p e s m below meth c M hF ls hl
  obtain ⟨X, hb, hml, hr, hlk⟩ := id M
  have hx := X.1
  have hl : lv_has ls 3 [(0, .ref (gA G 0))] := hl
  unfold fX7_entries at hf
  refine lv_iconst (v := (0 : Int32)) hx hb dX7_entries_0 (by decide) ?_
  refine lv_istore_n (lv' := [(1, .int (0 : Int32)), (0, .ref (gA G 0))]) hx hb dX7_entries_1 rfl hl (by decide) rfl (fun ls hl => ?_)
  refine lv_iconst (v := (0 : Int32)) hx hb dX7_entries_2 (by decide) ?_
  refine lv_istore_n (lv' := [(2, .int (0 : Int32)), (1, .int (0 : Int32)), (0, .ref (gA G 0))]) hx hb dX7_entries_3 rfl hl (by decide) rfl (fun ls hl => ?_)
  exact bX7_entries_4 M FU (0 : Int32) (0 : Int32) _ _ _ hf hF (lv_sub hl [2, 1, 0] rfl)
set_option maxHeartbeats 4000000 in
set_option maxRecDepth 100000 in
theorem bX7_events_4 {σ : Mem} {r : Int32} (M : MX p s m args meth c RX7 G wR cX7_events 3 (some .int)) : ∀ (fu : Nat) (x1 : Int32) (x2 : Int32) (H : Heap) (locs : List Loc) (ls : Array Slot), fX7_events_4 σ fu x1 x2 = some r → FH G wR s.heap H locs σ → lv_has ls 3 [(0, .ref (gA G 0)), (1, .int x1), (2, .int x2)] → WG p l e ({ frames := 6, cells := 0, slots := 0, locals := 136 }) s m args below meth c G wR (some (.int r)) σ H locs 4 ls [] := by
  obtain ⟨X, hb, hml, hr, hlk⟩ := id M
  have hx := X.1
  intro fu
  induction fu with
  | zero =>
    intro x1 x2 H locs ls hf hF hl
    rw [fX7_events_4] at hf
    cases hf
  | succ fu ih =>
    intro x1 x2 H locs ls hf hF hl
    rw [fX7_events_4] at hf
    refine lv_iload_n hx hb dX7_events_4 rfl (lv_at hl 2 rfl) ?_
    refine lv_bipush (v := (8 : Int32)) hx hb dX7_events_5 (by decide) ?_
    refine lv_icmp_ge (tgt := 32) hx hb dX7_events_7 (by decide) (fun cd1 => ?_) (fun cd1 => ?_)
    · replace hf := ifp cd1 hf
      refine lv_iload_n hx hb dX7_events_32 rfl (lv_at hl 1 rfl) ?_
      obtain rfl := Option.some.inj hf
      exact fl_iret X hb hr hlk hF dX7_events_33
    · replace hf := ifn cd1 hf
      refine lv_iload_n hx hb dX7_events_10 rfl (lv_at hl 1 rfl) ?_
      refine lv_aload_n hx hb dX7_events_11 rfl (lv_at hl 0 rfl) ?_
      refine lv_iload_n hx hb dX7_events_12 rfl (lv_at hl 2 rfl) ?_
      obtain ⟨r3, hq2, hf⟩ := bi_some hf
      refine cm_X7_179 (As := [.int x2]) (rest := [.int x1]) X hb hml hF (cX7_housesOf_ok (l := l) (G := G) X.2.2.2.2 hq2) sh_X7 ⟨Nat.le_of_ble_eq_true rfl, Nat.le_of_ble_eq_true rfl⟩ rfl rfl ⟨Nat.zero_le _, Nat.zero_le _⟩ rfl hl.1 rfl (Nat.le_of_ble_eq_true rfl) dX7_events_13 (fun H locs hF => ?_)
      refine lv_if_eq (tgt := 23) hx hb dX7_events_16 (by decide) (fun cd4 => ?_) (fun cd4 => ?_)
      · replace hf := ifp cd4 hf
        refine lv_iconst (v := (0 : Int32)) hx hb dX7_events_23 (by decide) ?_
        refine lv_iadd hx hb dX7_events_24 ?_
        refine lv_istore_n (lv' := [(1, .int (x1 + (0 : Int32))), (0, .ref (gA G 0)), (2, .int x2)]) hx hb dX7_events_25 rfl hl (by decide) rfl (fun ls hl => ?_)
        refine lv_iinc (v := x2 + (1 : Int32)) (lv' := [(2, .int (x2 + (1 : Int32))), (1, .int (x1 + (0 : Int32))), (0, .ref (gA G 0))]) hx hb dX7_events_26 hl (k := 2) rfl rfl (by decide) rfl (fun ls hl => ?_)
        refine lv_goto (tgt := 4) hx hb dX7_events_29 (by decide) ?_
        exact ih (x1 + (0 : Int32)) (x2 + (1 : Int32)) _ _ _ hf hF (lv_sub hl [2, 1, 0] rfl)
      · replace hf := ifn cd4 hf
        refine lv_iconst (v := (1 : Int32)) hx hb dX7_events_19 (by decide) ?_
        refine lv_goto (tgt := 24) hx hb dX7_events_20 (by decide) ?_
        refine lv_iadd hx hb dX7_events_24 ?_
        refine lv_istore_n (lv' := [(1, .int (x1 + (1 : Int32))), (0, .ref (gA G 0)), (2, .int x2)]) hx hb dX7_events_25 rfl hl (by decide) rfl (fun ls hl => ?_)
        refine lv_iinc (v := x2 + (1 : Int32)) (lv' := [(2, .int (x2 + (1 : Int32))), (1, .int (x1 + (1 : Int32))), (0, .ref (gA G 0))]) hx hb dX7_events_26 hl (k := 2) rfl rfl (by decide) rfl (fun ls hl => ?_)
        refine lv_goto (tgt := 4) hx hb dX7_events_29 (by decide) ?_
        exact ih (x1 + (1 : Int32)) (x2 + (1 : Int32)) _ _ _ hf hF (lv_sub hl [2, 1, 0] rfl)
set_option maxHeartbeats 4000000 in
set_option maxRecDepth 100000 in
theorem cX7_events_ok {l : Launch} {G : Gl} (hI : FI G wR) {σ : Mem} {r : Int32} (hf : fX7_events σ = some r) : Ct l G wR yX7_events cX7_events 3 (some .int) ({ frames := 6, cells := 0, slots := 0, locals := 136 }) [.ref (gA G 0)] σ (some (.int r)) σ := by
  refine fl_start hI (by decide) (Nat.le_of_ble_eq_true rfl) ?_
  intro p e s m below meth c M hF ls hl
  obtain ⟨X, hb, hml, hr, hlk⟩ := id M
  have hx := X.1
  have hl : lv_has ls 3 [(0, .ref (gA G 0))] := hl
  unfold fX7_events at hf
  refine lv_iconst (v := (0 : Int32)) hx hb dX7_events_0 (by decide) ?_
  refine lv_istore_n (lv' := [(1, .int (0 : Int32)), (0, .ref (gA G 0))]) hx hb dX7_events_1 rfl hl (by decide) rfl (fun ls hl => ?_)
  refine lv_iconst (v := (0 : Int32)) hx hb dX7_events_2 (by decide) ?_
  refine lv_istore_n (lv' := [(2, .int (0 : Int32)), (1, .int (0 : Int32)), (0, .ref (gA G 0))]) hx hb dX7_events_3 rfl hl (by decide) rfl (fun ls hl => ?_)
  exact bX7_events_4 M FU (0 : Int32) (0 : Int32) _ _ _ hf hF (lv_sub hl [2, 1, 0] rfl)
set_option maxHeartbeats 4000000 in
set_option maxRecDepth 100000 in
theorem cX7_count_ok {l : Launch} {G : Gl} (hI : FI G wR) {x1 : Int32} {σ : Mem} {r : Int32} {σ' : Mem} (hf : fX7_count x1 σ = some (r, σ')) : Ct l G wR yX7_count cX7_count 2 (some .int) ({ frames := 8, cells := 0, slots := 0, locals := 184 }) [.ref (gA G 0), .int x1] σ (some (.int r)) σ' := by
  refine fl_start hI (by decide) (Nat.le_of_ble_eq_true rfl) ?_
  intro p e s m below meth c M hF ls hl
  obtain ⟨X, hb, hml, hr, hlk⟩ := id M
  have hx := X.1
  have hl : lv_has ls 2 [(0, .ref (gA G 0)), (1, .int x1)] := hl
  unfold fX7_count at hf
  refine lv_iload_n hx hb dX7_count_0 rfl (lv_at hl 1 rfl) ?_
  by_cases cd1 : x1 = (0 : Int32)
  · replace hf := ifp cd1 hf
    refine lv_tableIn (tgt := 48) (off := 47) hx hb dX7_count_1 (by rw [cd1]; decide) (by rw [cd1]; decide) (by rw [cd1]; rfl) (by decide) ?_
    refine lv_aload_n hx hb dX7_count_48 rfl (lv_at hl 0 rfl) ?_
    refine gf_X7_120 X hb hF sh_X7 dX7_count_49 ?_
    obtain ⟨rfl, rfl⟩ := Prod.mk.inj (Option.some.inj hf)
    exact fl_iret X hb hr hlk hF dX7_count_52
  · replace hf := ifn cd1 hf
    by_cases cd2 : x1 = (1 : Int32)
    · replace hf := ifp cd2 hf
      refine lv_tableIn (tgt := 53) (off := 52) hx hb dX7_count_1 (by rw [cd2]; decide) (by rw [cd2]; decide) (by rw [cd2]; rfl) (by decide) ?_
      refine lv_aload_n hx hb dX7_count_53 rfl (lv_at hl 0 rfl) ?_
      obtain ⟨r4, hq3, hf⟩ := bi_some hf
      refine cm_X7_220 (As := []) (rest := []) X hb hml hF (cX7_entries_ok (l := l) (G := G) X.2.2.2.2 hq3) sh_X7 ⟨Nat.le_of_ble_eq_true rfl, Nat.le_of_ble_eq_true rfl⟩ rfl rfl ⟨Nat.zero_le _, Nat.zero_le _⟩ rfl hl.1 rfl (Nat.le_of_ble_eq_true rfl) dX7_count_54 (fun H locs hF => ?_)
      obtain ⟨rfl, rfl⟩ := Prod.mk.inj (Option.some.inj hf)
      exact fl_iret X hb hr hlk hF dX7_count_57
    · replace hf := ifn cd2 hf
      by_cases cd5 : x1 = (2 : Int32)
      · replace hf := ifp cd5 hf
        refine lv_tableIn (tgt := 58) (off := 57) hx hb dX7_count_1 (by rw [cd5]; decide) (by rw [cd5]; decide) (by rw [cd5]; rfl) (by decide) ?_
        refine lv_aload_n hx hb dX7_count_58 rfl (lv_at hl 0 rfl) ?_
        obtain ⟨r7, hq6, hf⟩ := bi_some hf
        refine cm_X7_223 (As := []) (rest := []) X hb hml hF (cX7_events_ok (l := l) (G := G) X.2.2.2.2 hq6) sh_X7 ⟨Nat.le_of_ble_eq_true rfl, Nat.le_of_ble_eq_true rfl⟩ rfl rfl ⟨Nat.zero_le _, Nat.zero_le _⟩ rfl hl.1 rfl (Nat.le_of_ble_eq_true rfl) dX7_count_59 (fun H locs hF => ?_)
        obtain ⟨rfl, rfl⟩ := Prod.mk.inj (Option.some.inj hf)
        exact fl_iret X hb hr hlk hF dX7_count_62
      · replace hf := ifn cd5 hf
        by_cases cd8 : x1 = (3 : Int32)
        · replace hf := ifp cd8 hf
          refine lv_tableIn (tgt := 63) (off := 62) hx hb dX7_count_1 (by rw [cd8]; decide) (by rw [cd8]; decide) (by rw [cd8]; rfl) (by decide) ?_
          refine lv_aload_n hx hb dX7_count_63 rfl (lv_at hl 0 rfl) ?_
          obtain ⟨r10, σ11, hq9, hf⟩ := bm_some hf
          refine cm_X7_182 (As := []) (rest := []) X hb hml hF (cX7_knots_ok (l := l) (G := G) X.2.2.2.2 hq9) sh_X7 ⟨Nat.le_of_ble_eq_true rfl, Nat.le_of_ble_eq_true rfl⟩ rfl rfl ⟨Nat.zero_le _, Nat.zero_le _⟩ rfl hl.1 rfl (Nat.le_of_ble_eq_true rfl) dX7_count_64 (fun H locs hF => ?_)
          obtain ⟨r13, hq12, hf⟩ := bi_some hf
          refine cm_X7_189 (As := [.int r10]) (rest := []) X hb hml hF (cX7_ones_ok (l := l) (G := G) (σ := σ11) X.2.2.2.2 hq12) ⟨Nat.le_of_ble_eq_true rfl, Nat.le_of_ble_eq_true rfl⟩ rfl rfl ⟨Nat.zero_le _, Nat.zero_le _⟩ rfl hl.1 rfl (Nat.le_of_ble_eq_true rfl) dX7_count_67 (fun H locs hF => ?_)
          obtain ⟨rfl, rfl⟩ := Prod.mk.inj (Option.some.inj hf)
          exact fl_iret X hb hr hlk hF dX7_count_70
        · replace hf := ifn cd8 hf
          by_cases cd14 : x1 = (4 : Int32)
          · replace hf := ifp cd14 hf
            refine lv_tableIn (tgt := 71) (off := 70) hx hb dX7_count_1 (by rw [cd14]; decide) (by rw [cd14]; decide) (by rw [cd14]; rfl) (by decide) ?_
            refine lv_aload_n hx hb dX7_count_71 rfl (lv_at hl 0 rfl) ?_
            refine gf_X7_7 X hb hF sh_X7 dX7_count_72 ?_
            refine lv_iconst (v := (0 : Int32)) hx hb dX7_count_75 (by decide) ?_
            obtain ⟨g15, hf⟩ := grd_some hf
            refine fl_iald X hb hF sh_r1 g15 dX7_count_76 ?_
            obtain ⟨rfl, rfl⟩ := Prod.mk.inj (Option.some.inj hf)
            exact fl_iret X hb hr hlk hF dX7_count_77
          · replace hf := ifn cd14 hf
            by_cases cd16 : x1 = (5 : Int32)
            · replace hf := ifp cd16 hf
              refine lv_tableIn (tgt := 78) (off := 77) hx hb dX7_count_1 (by rw [cd16]; decide) (by rw [cd16]; decide) (by rw [cd16]; rfl) (by decide) ?_
              refine lv_aload_n hx hb dX7_count_78 rfl (lv_at hl 0 rfl) ?_
              refine gf_X7_123 X hb hF sh_X7 dX7_count_79 ?_
              obtain ⟨rfl, rfl⟩ := Prod.mk.inj (Option.some.inj hf)
              exact fl_iret X hb hr hlk hF dX7_count_82
            · replace hf := ifn cd16 hf
              by_cases cd17 : x1 = (6 : Int32)
              · replace hf := ifp cd17 hf
                refine lv_tableIn (tgt := 83) (off := 82) hx hb dX7_count_1 (by rw [cd17]; decide) (by rw [cd17]; decide) (by rw [cd17]; rfl) (by decide) ?_
                refine lv_aload_n hx hb dX7_count_83 rfl (lv_at hl 0 rfl) ?_
                refine gf_X7_69 X hb hF sh_X7 dX7_count_84 ?_
                obtain ⟨rfl, rfl⟩ := Prod.mk.inj (Option.some.inj hf)
                exact fl_iret X hb hr hlk hF dX7_count_87
              · replace hf := ifn cd17 hf
                by_cases cd18 : x1 = (7 : Int32)
                · replace hf := ifp cd18 hf
                  refine lv_tableIn (tgt := 88) (off := 87) hx hb dX7_count_1 (by rw [cd18]; decide) (by rw [cd18]; decide) (by rw [cd18]; rfl) (by decide) ?_
                  refine lv_aload_n hx hb dX7_count_88 rfl (lv_at hl 0 rfl) ?_
                  refine gf_X7_51 X hb hF sh_X7 dX7_count_89 ?_
                  obtain ⟨rfl, rfl⟩ := Prod.mk.inj (Option.some.inj hf)
                  exact fl_iret X hb hr hlk hF dX7_count_92
                · replace hf := ifn cd18 hf
                  refine lv_tableOut (tgt := 93) hx hb dX7_count_1 (by have z0 := lv_neT (a := 0) cd1 (by decide); have z1 := lv_neT (a := 1) cd2 (by decide); have z2 := lv_neT (a := 2) cd5 (by decide); have z3 := lv_neT (a := 3) cd8 (by decide); have z4 := lv_neT (a := 4) cd14 (by decide); have z5 := lv_neT (a := 5) cd16 (by decide); have z6 := lv_neT (a := 6) cd17 (by decide); have z7 := lv_neT (a := 7) cd18 (by decide); omega) (by decide) ?_
                  refine lv_iconst (v := (-1 : Int32)) hx hb dX7_count_93 (by decide) ?_
                  obtain ⟨rfl, rfl⟩ := Prod.mk.inj (Option.some.inj hf)
                  exact fl_iret X hb hr hlk hF dX7_count_94
end GEN
