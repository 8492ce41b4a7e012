section GEN
variable {p : Program} {l : Launch} {e : Env} {s : State} {m : MethodId} {args : Array Value} {below : List Frame} {meth : Method} {c : Code} {G : Gl}
set_option maxHeartbeats 4000000 in
set_option maxRecDepth 100000 in
theorem cX5_put_ok {l : Launch} {G : Gl} (hI : FI G wX) {x1 : Int32} {σ : Mem} {r : Int32} {σ' : Mem} (hf : fX5_put x1 σ = some (r, σ')) : Ct l G wX yX5_put cX5_put 2 (some .boolean) ({ frames := 0, cells := 0, slots := 0, locals := 0 }) [.ref (gA G 1), .int x1] σ (some (.int r)) σ' := by
  refine fl_start hI (by decide) (Nat.le_of_ble_eq_true rfl) ?_
  intro p e s m below meth c M hF ls hl
  obtain ⟨X, hb, hml, hr, hlk⟩ := id M
  have hx := X.1
  have hl : lv_has ls 2 [(0, .ref (gA G 1)), (1, .int x1)] := hl
  unfold fX5_put at hf
  refine lv_aload_n hx hb dX5_put_0 rfl (lv_at hl 0 rfl) ?_
  refine gf_X5_15 X hb hF sh_X5 dX5_put_1 ?_
  refine lv_bipush (v := (110 : Int32)) hx hb dX5_put_4 (by decide) ?_
  refine lv_icmp_lt (tgt := 11) hx hb dX5_put_6 (by decide) (fun cd1 => ?_) (fun cd1 => ?_)
  · replace hf := ifp cd1 hf
    refine lv_aload_n hx hb dX5_put_11 rfl (lv_at hl 0 rfl) ?_
    refine gf_X5_9 X hb hF sh_X5 dX5_put_12 ?_
    refine lv_aload_n hx hb dX5_put_15 rfl (lv_at hl 0 rfl) ?_
    refine gf_X5_15 X hb hF sh_X5 dX5_put_16 ?_
    refine lv_iload_n hx hb dX5_put_19 rfl (lv_at hl 1 rfl) ?_
    obtain ⟨g2, hf⟩ := grd_some hf
    refine fl_iast X hb hF sh_a2 g2 dX5_put_20 (fun H locs hF => ?_)
    refine lv_aload_n hx hb dX5_put_21 rfl (lv_at hl 0 rfl) ?_
    refine lv_dup hx hb dX5_put_22 rfl ?_
    refine gf_X5_15 X hb hF sh_X5 dX5_put_23 ?_
    refine lv_iconst (v := (1 : Int32)) hx hb dX5_put_26 (by decide) ?_
    refine lv_iadd hx hb dX5_put_27 ?_
    refine pf_X5_15 X hb hF sh_X5 dX5_put_28 (fun H locs hF => ?_)
    refine lv_iconst (v := (1 : Int32)) hx hb dX5_put_31 (by decide) ?_
    obtain ⟨rfl, rfl⟩ := Prod.mk.inj (Option.some.inj hf)
    exact fl_zret X hb hr hlk hF (Or.inr rfl) dX5_put_32
  · replace hf := ifn cd1 hf
    refine lv_iconst (v := (0 : Int32)) hx hb dX5_put_9 (by decide) ?_
    obtain ⟨rfl, rfl⟩ := Prod.mk.inj (Option.some.inj hf)
    exact fl_zret X hb hr hlk hF (Or.inl rfl) dX5_put_10
set_option maxHeartbeats 4000000 in
set_option maxRecDepth 100000 in
theorem cX5_isFigure_ok {l : Launch} {G : Gl} (hI : FI G wX) {x0 : Int32} {σ : Mem} {r : Int32} (hf : fX5_isFigure x0 = some r) : Ct l G wX yX5_isFigure cX5_isFigure 1 (some .boolean) ({ frames := 0, cells := 0, slots := 0, locals := 0 }) [.int x0] σ (some (.int r)) σ := by
  refine fl_start hI (by decide) (Nat.le_of_ble_eq_true rfl) ?_
  intro p e s m below meth c M hF ls hl
  obtain ⟨X, hb, hml, hr, hlk⟩ := id M
  have hx := X.1
  have hl : lv_has ls 1 [(0, .int x0)] := hl
  unfold fX5_isFigure at hf
  refine lv_iload_n hx hb dX5_isFigure_0 rfl (lv_at hl 0 rfl) ?_
  refine lv_bipush (v := (48 : Int32)) hx hb dX5_isFigure_1 (by decide) ?_
  refine lv_icmp_lt (tgt := 16) hx hb dX5_isFigure_3 (by decide) (fun cd1 => ?_) (fun cd1 => ?_)
  · replace hf := ifp cd1 hf
    refine lv_iconst (v := (0 : Int32)) hx hb dX5_isFigure_16 (by decide) ?_
    obtain rfl := Option.some.inj hf
    exact fl_zret X hb hr hlk hF (Or.inl rfl) dX5_isFigure_17
  · replace hf := ifn cd1 hf
    refine lv_iload_n hx hb dX5_isFigure_6 rfl (lv_at hl 0 rfl) ?_
    refine lv_bipush (v := (57 : Int32)) hx hb dX5_isFigure_7 (by decide) ?_
    refine lv_icmp_gt (tgt := 16) hx hb dX5_isFigure_9 (by decide) (fun cd2 => ?_) (fun cd2 => ?_)
    · replace hf := ifp cd2 hf
      refine lv_iconst (v := (0 : Int32)) hx hb dX5_isFigure_16 (by decide) ?_
      obtain rfl := Option.some.inj hf
      exact fl_zret X hb hr hlk hF (Or.inl rfl) dX5_isFigure_17
    · replace hf := ifn cd2 hf
      refine lv_iconst (v := (1 : Int32)) hx hb dX5_isFigure_12 (by decide) ?_
      refine lv_goto (tgt := 17) hx hb dX5_isFigure_13 (by decide) ?_
      obtain rfl := Option.some.inj hf
      exact fl_zret X hb hr hlk hF (Or.inr rfl) dX5_isFigure_17
set_option maxHeartbeats 4000000 in
set_option maxRecDepth 100000 in
theorem bX5_takeNumber_121 {σ' : Mem} (M : MX p s m args meth c RX5 G wX cX5_takeNumber 4 none) : ∀ (s0 : Int32) (σ : Mem) (H : Heap) (locs : List Loc) (ls : Array Slot), fX5_takeNumber_121 s0 σ = some σ' → FH G wX s.heap H locs σ → lv_has ls 4 [] → WG p l e ({ frames := 1, cells := 0, slots := 0, locals := 20 }) s m args below meth c G wX none σ' H locs 121 ls [.int s0, .ref (gA G 1)] := by
  obtain ⟨X, hb, hml, hr, hlk⟩ := id M
  have hx := X.1
  intro s0 σ H locs ls hf hF hl
  unfold fX5_takeNumber_121 at hf
  refine pf_X5_40 X hb hF sh_X5 dX5_takeNumber_121 (fun H locs hF => ?_)
  obtain rfl := Option.some.inj hf
  exact fl_vret X hb hr hlk hF dX5_takeNumber_124
set_option maxHeartbeats 4000000 in
set_option maxRecDepth 100000 in
theorem bX5_takeNumber_109 {σ' : Mem} (M : MX p s m args meth c RX5 G wX cX5_takeNumber 4 none) : ∀ (s0 : Int32) (σ : Mem) (H : Heap) (locs : List Loc) (ls : Array Slot), fX5_takeNumber_109 s0 σ = some σ' → FH G wX s.heap H locs σ → lv_has ls 4 [(0, .ref (gA G 1))] → WG p l e ({ frames := 1, cells := 0, slots := 0, locals := 20 }) s m args below meth c G wX none σ' H locs 109 ls [.int s0] := by
  obtain ⟨X, hb, hml, hr, hlk⟩ := id M
  have hx := X.1
  intro s0 σ H locs ls hf hF hl
  unfold fX5_takeNumber_109 at hf
  refine lv_istore_n (lv' := [(3, .int s0), (0, .ref (gA G 1))]) hx hb dX5_takeNumber_109 rfl hl (by decide) rfl (fun ls hl => ?_)
  refine lv_aload_n hx hb dX5_takeNumber_110 rfl (lv_at hl 1 rfl) ?_
  refine lv_iload_n hx hb dX5_takeNumber_111 rfl (lv_at hl 0 rfl) ?_
  refine lv_if_eq (tgt := 120) hx hb dX5_takeNumber_112 (by decide) (fun cd4 => ?_) (fun cd4 => ?_)
  · replace hf := ifp cd4 hf
    refine lv_iconst (v := (4 : Int32)) hx hb dX5_takeNumber_120 (by decide) ?_
    exact bX5_takeNumber_121 M (4 : Int32) σ _ _ _ hf hF (lv_sub hl [] rfl)
  · replace hf := ifn cd4 hf
    refine lv_bipush (v := (6 : Int32)) hx hb dX5_takeNumber_115 (by decide) ?_
    refine lv_goto (tgt := 121) hx hb dX5_takeNumber_117 (by decide) ?_
    exact bX5_takeNumber_121 M (6 : Int32) σ _ _ _ hf hF (lv_sub hl [] rfl)
set_option maxHeartbeats 4000000 in
set_option maxRecDepth 100000 in
theorem bX5_takeNumber_104 {σ' : Mem} (M : MX p s m args meth c RX5 G wX cX5_takeNumber 4 none) : ∀ (σ : Mem) (H : Heap) (locs : List Loc) (ls : Array Slot), fX5_takeNumber_104 σ = some σ' → FH G wX s.heap H locs σ → lv_has ls 4 [(0, .ref (gA G 1))] → WG p l e ({ frames := 1, cells := 0, slots := 0, locals := 20 }) s m args below meth c G wX none σ' H locs 104 ls [] := by
  obtain ⟨X, hb, hml, hr, hlk⟩ := id M
  have hx := X.1
  intro σ H locs ls hf hF hl
  unfold fX5_takeNumber_104 at hf
  refine lv_iconst (v := (1 : Int32)) hx hb dX5_takeNumber_104 (by decide) ?_
  refine lv_goto (tgt := 109) hx hb dX5_takeNumber_105 (by decide) ?_
  exact bX5_takeNumber_109 M (1 : Int32) σ _ _ _ hf hF (lv_sub hl [0] rfl)
set_option maxHeartbeats 4000000 in
set_option maxRecDepth 100000 in
theorem bX5_takeNumber_108 {σ' : Mem} (M : MX p s m args meth c RX5 G wX cX5_takeNumber 4 none) : ∀ (σ : Mem) (H : Heap) (locs : List Loc) (ls : Array Slot), fX5_takeNumber_108 σ = some σ' → FH G wX s.heap H locs σ → lv_has ls 4 [(0, .ref (gA G 1))] → WG p l e ({ frames := 1, cells := 0, slots := 0, locals := 20 }) s m args below meth c G wX none σ' H locs 108 ls [] := by
  obtain ⟨X, hb, hml, hr, hlk⟩ := id M
  have hx := X.1
  intro σ H locs ls hf hF hl
  unfold fX5_takeNumber_108 at hf
  refine lv_iconst (v := (0 : Int32)) hx hb dX5_takeNumber_108 (by decide) ?_
  exact bX5_takeNumber_109 M (0 : Int32) σ _ _ _ hf hF (lv_sub hl [0] rfl)
set_option maxHeartbeats 4000000 in
set_option maxRecDepth 100000 in
theorem bX5_takeNumber_88 {σ' : Mem} (M : MX p s m args meth c RX5 G wX cX5_takeNumber 4 none) : ∀ (x1 : Int32) (x2 : Int32) (σ : Mem) (H : Heap) (locs : List Loc) (ls : Array Slot), fX5_takeNumber_88 x1 x2 σ = some σ' → FH G wX s.heap H locs σ → lv_has ls 4 [(0, .ref (gA G 1)), (1, .int x1), (2, .int x2)] → WG p l e ({ frames := 1, cells := 0, slots := 0, locals := 20 }) s m args below meth c G wX none σ' H locs 88 ls [] := by
  obtain ⟨X, hb, hml, hr, hlk⟩ := id M
  have hx := X.1
  intro x1 x2 σ H locs ls hf hF hl
  unfold fX5_takeNumber_88 at hf
  refine lv_iload_n hx hb dX5_takeNumber_88 rfl (lv_at hl 2 rfl) ?_
  refine lv_iconst (v := (2 : Int32)) hx hb dX5_takeNumber_89 (by decide) ?_
  refine lv_icmp_gt (tgt := 104) hx hb dX5_takeNumber_90 (by decide) (fun cd3 => ?_) (fun cd3 => ?_)
  · replace hf := ifp cd3 hf
    exact bX5_takeNumber_104 M σ _ _ _ hf hF (lv_sub hl [0] rfl)
  · replace hf := ifn cd3 hf
    refine lv_iload_n hx hb dX5_takeNumber_93 rfl (lv_at hl 2 rfl) ?_
    refine lv_iconst (v := (2 : Int32)) hx hb dX5_takeNumber_94 (by decide) ?_
    refine lv_icmp_ne (tgt := 108) hx hb dX5_takeNumber_95 (by decide) (fun cd5 => ?_) (fun cd5 => ?_)
    · replace hf := ifn cd5 hf
      exact bX5_takeNumber_108 M σ _ _ _ hf hF (lv_sub hl [0] rfl)
    · replace hf := ifp cd5 hf
      refine lv_iload_n hx hb dX5_takeNumber_98 rfl (lv_at hl 1 rfl) ?_
      refine lv_bipush (v := (48 : Int32)) hx hb dX5_takeNumber_99 (by decide) ?_
      refine lv_icmp_ne (tgt := 108) hx hb dX5_takeNumber_101 (by decide) (fun cd6 => ?_) (fun cd6 => ?_)
      · replace hf := ifn cd6 hf
        exact bX5_takeNumber_108 M σ _ _ _ hf hF (lv_sub hl [0] rfl)
      · replace hf := ifp cd6 hf
        exact bX5_takeNumber_104 M σ _ _ _ hf hF (lv_sub hl [0] rfl)
set_option maxHeartbeats 4000000 in
set_option maxRecDepth 100000 in
theorem bX5_takeNumber_72 {σ' : Mem} {k17 : Int32 → Int32 → Mem → Option Mem} (M : MX p s m args meth c RX5 G wX cX5_takeNumber 4 none) (hk17 : ∀ (x1 : Int32) (x2 : Int32) (σ : Mem) (H : Heap) (locs : List Loc) (ls : Array Slot), k17 x1 x2 σ = some σ' → FH G wX s.heap H locs σ → lv_has ls 4 [(0, .ref (gA G 1)), (1, .int x1), (2, .int x2)] → WG p l e ({ frames := 1, cells := 0, slots := 0, locals := 20 }) s m args below meth c G wX none σ' H locs 17 ls []) : ∀ (x1 : Int32) (x2 : Int32) (σ : Mem) (H : Heap) (locs : List Loc) (ls : Array Slot), fX5_takeNumber_72 k17 x1 x2 σ = some σ' → FH G wX s.heap H locs σ → lv_has ls 4 [(0, .ref (gA G 1)), (1, .int x1), (2, .int x2)] → WG p l e ({ frames := 1, cells := 0, slots := 0, locals := 20 }) s m args below meth c G wX none σ' H locs 72 ls [] := by
  obtain ⟨X, hb, hml, hr, hlk⟩ := id M
  have hx := X.1
  intro x1 x2 σ H locs ls hf hF hl
  unfold fX5_takeNumber_72 at hf
  refine lv_iinc (v := x2 + (1 : Int32)) (lv' := [(2, .int (x2 + (1 : Int32))), (0, .ref (gA G 1)), (1, .int x1)]) hx hb dX5_takeNumber_72 hl (k := 2) rfl rfl (by decide) rfl (fun ls hl => ?_)
  refine lv_aload_n hx hb dX5_takeNumber_75 rfl (lv_at hl 1 rfl) ?_
  refine lv_dup hx hb dX5_takeNumber_76 rfl ?_
  refine gf_X5_24 X hb hF sh_X5 dX5_takeNumber_77 ?_
  refine lv_iconst (v := (1 : Int32)) hx hb dX5_takeNumber_80 (by decide) ?_
  refine lv_iadd hx hb dX5_takeNumber_81 ?_
  refine pf_X5_24 X hb hF sh_X5 dX5_takeNumber_82 (fun H locs hF => ?_)
  refine lv_goto (tgt := 17) hx hb dX5_takeNumber_85 (by decide) ?_
  exact hk17 x1 (x2 + (1 : Int32)) (mup σ 1 2 ((σ 1 2) + (1 : Int32))) _ _ _ hf hF (lv_sub hl [1, 2, 0] rfl)
set_option maxHeartbeats 4000000 in
set_option maxRecDepth 100000 in
theorem bX5_takeNumber_17 {σ' : Mem} (M : MX p s m args meth c RX5 G wX cX5_takeNumber 4 none) : ∀ (fu : Nat) (x1 : Int32) (x2 : Int32) (σ : Mem) (H : Heap) (locs : List Loc) (ls : Array Slot), fX5_takeNumber_17 fu x1 x2 σ = some σ' → FH G wX s.heap H locs σ → lv_has ls 4 [(0, .ref (gA G 1)), (1, .int x1), (2, .int x2)] → WG p l e ({ frames := 1, cells := 0, slots := 0, locals := 20 }) s m args below meth c G wX none σ' H locs 17 ls [] := by
  obtain ⟨X, hb, hml, hr, hlk⟩ := id M
  have hx := X.1
  intro fu
  induction fu with
  | zero =>
    intro x1 x2 σ H locs ls hf hF hl
    rw [fX5_takeNumber_17] at hf
    cases hf
  | succ fu ih =>
    intro x1 x2 σ H locs ls hf hF hl
    rw [fX5_takeNumber_17] at hf
    refine lv_aload_n hx hb dX5_takeNumber_17 rfl (lv_at hl 0 rfl) ?_
    refine gf_X5_24 X hb hF sh_X5 dX5_takeNumber_18 ?_
    refine lv_aload_n hx hb dX5_takeNumber_21 rfl (lv_at hl 0 rfl) ?_
    refine gf_X5_15 X hb hF sh_X5 dX5_takeNumber_22 ?_
    refine lv_icmp_ge (tgt := 88) hx hb dX5_takeNumber_25 (by decide) (fun cd2 => ?_) (fun cd2 => ?_)
    · replace hf := ifp cd2 hf
      exact bX5_takeNumber_88 M x1 x2 σ _ _ _ hf hF (lv_sub hl [0, 1, 2] rfl)
    · replace hf := ifn cd2 hf
      refine lv_aload_n hx hb dX5_takeNumber_28 rfl (lv_at hl 0 rfl) ?_
      refine gf_X5_9 X hb hF sh_X5 dX5_takeNumber_29 ?_
      refine lv_aload_n hx hb dX5_takeNumber_32 rfl (lv_at hl 0 rfl) ?_
      refine gf_X5_24 X hb hF sh_X5 dX5_takeNumber_33 ?_
      obtain ⟨g7, hf⟩ := grd_some hf
      refine fl_iald X hb hF sh_a2 g7 dX5_takeNumber_36 ?_
      obtain ⟨r9, hq8, hf⟩ := bi_some hf
      refine cm_X5_97 (As := [.int (σ 2 (σ 1 2).toNatClampNeg)]) (rest := []) X hb hml hF (cX5_isFigure_ok (l := l) (G := G) (σ := σ) X.2.2.2.2 hq8) ⟨Nat.le_of_ble_eq_true rfl, Nat.le_of_ble_eq_true rfl⟩ rfl rfl ⟨Nat.zero_le _, Nat.zero_le _⟩ rfl hl.1 rfl (Nat.le_of_ble_eq_true rfl) dX5_takeNumber_37 (fun H locs hF => ?_)
      refine lv_if_eq (tgt := 88) hx hb dX5_takeNumber_40 (by decide) (fun cd10 => ?_) (fun cd10 => ?_)
      · replace hf := ifp cd10 hf
        exact bX5_takeNumber_88 M x1 x2 σ _ _ _ hf hF (lv_sub hl [0, 1, 2] rfl)
      · replace hf := ifn cd10 hf
        refine lv_iload_n hx hb dX5_takeNumber_43 rfl (lv_at hl 2 rfl) ?_
        refine lv_iconst (v := (2 : Int32)) hx hb dX5_takeNumber_44 (by decide) ?_
        refine lv_icmp_ge (tgt := 72) hx hb dX5_takeNumber_45 (by decide) (fun cd11 => ?_) (fun cd11 => ?_)
        · replace hf := ifp cd11 hf
          exact bX5_takeNumber_72 M ih x1 x2 σ _ _ _ hf hF (lv_sub hl [0, 1, 2] rfl)
        · replace hf := ifn cd11 hf
          refine lv_aload_n hx hb dX5_takeNumber_48 rfl (lv_at hl 0 rfl) ?_
          refine lv_bipush (v := (10 : Int32)) hx hb dX5_takeNumber_49 (by decide) ?_
          refine lv_aload_n hx hb dX5_takeNumber_51 rfl (lv_at hl 0 rfl) ?_
          refine gf_X5_69 X hb hF sh_X5 dX5_takeNumber_52 ?_
          refine lv_imul hx hb dX5_takeNumber_55 ?_
          refine lv_aload_n hx hb dX5_takeNumber_56 rfl (lv_at hl 0 rfl) ?_
          refine gf_X5_9 X hb hF sh_X5 dX5_takeNumber_57 ?_
          refine lv_aload_n hx hb dX5_takeNumber_60 rfl (lv_at hl 0 rfl) ?_
          refine gf_X5_24 X hb hF sh_X5 dX5_takeNumber_61 ?_
          obtain ⟨g12, hf⟩ := grd_some hf
          refine fl_iald X hb hF sh_a2 g12 dX5_takeNumber_64 ?_
          refine lv_iadd hx hb dX5_takeNumber_65 ?_
          refine lv_bipush (v := (48 : Int32)) hx hb dX5_takeNumber_66 (by decide) ?_
          refine lv_isub hx hb dX5_takeNumber_68 ?_
          refine pf_X5_69 X hb hF sh_X5 dX5_takeNumber_69 (fun H locs hF => ?_)
          exact bX5_takeNumber_72 M ih x1 x2 (mup σ 1 5 ((((10 : Int32) * (σ 1 5)) + (σ 2 (σ 1 2).toNatClampNeg)) - (48 : Int32))) _ _ _ hf hF (lv_sub hl [0, 1, 2] rfl)
set_option maxHeartbeats 4000000 in
set_option maxRecDepth 100000 in
theorem cX5_takeNumber_ok {l : Launch} {G : Gl} (hI : FI G wX) {σ : Mem} {σ' : Mem} (hf : fX5_takeNumber σ = some σ') : Ct l G wX yX5_takeNumber cX5_takeNumber 4 none ({ frames := 1, cells := 0, slots := 0, locals := 20 }) [.ref (gA G 1)] σ none σ' := by
  refine fl_start hI (by decide) (Nat.le_of_ble_eq_true rfl) ?_
  intro p e s m below meth c M hF ls hl
  obtain ⟨X, hb, hml, hr, hlk⟩ := id M
  have hx := X.1
  have hl : lv_has ls 4 [(0, .ref (gA G 1))] := hl
  unfold fX5_takeNumber at hf
  refine lv_aload_n hx hb dX5_takeNumber_0 rfl (lv_at hl 0 rfl) ?_
  refine gf_X5_9 X hb hF sh_X5 dX5_takeNumber_1 ?_
  refine lv_aload_n hx hb dX5_takeNumber_4 rfl (lv_at hl 0 rfl) ?_
  refine gf_X5_24 X hb hF sh_X5 dX5_takeNumber_5 ?_
  obtain ⟨g1, hf⟩ := grd_some hf
  refine fl_iald X hb hF sh_a2 g1 dX5_takeNumber_8 ?_
  refine lv_istore_n (lv' := [(1, .int (σ 2 (σ 1 2).toNatClampNeg)), (0, .ref (gA G 1))]) hx hb dX5_takeNumber_9 rfl hl (by decide) rfl (fun ls hl => ?_)
  refine lv_iconst (v := (0 : Int32)) hx hb dX5_takeNumber_10 (by decide) ?_
  refine lv_istore_n (lv' := [(2, .int (0 : Int32)), (1, .int (σ 2 (σ 1 2).toNatClampNeg)), (0, .ref (gA G 1))]) hx hb dX5_takeNumber_11 rfl hl (by decide) rfl (fun ls hl => ?_)
  refine lv_aload_n hx hb dX5_takeNumber_12 rfl (lv_at hl 2 rfl) ?_
  refine lv_iconst (v := (0 : Int32)) hx hb dX5_takeNumber_13 (by decide) ?_
  refine pf_X5_69 X hb hF sh_X5 dX5_takeNumber_14 (fun H locs hF => ?_)
  exact bX5_takeNumber_17 M FU (σ 2 (σ 1 2).toNatClampNeg) (0 : Int32) (mup σ 1 5 (0 : Int32)) _ _ _ hf hF (lv_sub hl [2, 1, 0] rfl)
set_option maxHeartbeats 4000000 in
set_option maxRecDepth 100000 in
theorem bX5_signOf_14 {σ : Mem} {r : Int32} (M : MX p s m args meth c RX5 G wX cX5_signOf 1 (some .int)) : ∀ (x0 : Int32) (H : Heap) (locs : List Loc) (ls : Array Slot), fX5_signOf_14 x0 = some r → FH G wX s.heap H locs σ → lv_has ls 1 [(0, .int x0)] → WG p l e ({ frames := 0, cells := 0, slots := 0, locals := 0 }) s m args below meth c G wX (some (.int r)) σ H locs 14 ls [] := by
  obtain ⟨X, hb, hml, hr, hlk⟩ := id M
  have hx := X.1
  intro x0 H locs ls hf hF hl
  unfold fX5_signOf_14 at hf
  refine lv_iload_n hx hb dX5_signOf_14 rfl (lv_at hl 0 rfl) ?_
  by_cases cd2 : x0 = (59 : Int32)
  · replace hf := ifp cd2 hf
    refine lv_lookup (tgt := 52) (off := 37) hx hb dX5_signOf_15 (by decide) (by rw [cd2]; decide) (by decide) ?_
    refine lv_iconst (v := (5 : Int32)) hx hb dX5_signOf_52 (by decide) ?_
    obtain rfl := Option.some.inj hf
    exact fl_iret X hb hr hlk hF dX5_signOf_53
  · replace hf := ifn cd2 hf
    by_cases cd3 : x0 = (113 : Int32)
    · replace hf := ifp cd3 hf
      refine lv_lookup (tgt := 50) (off := 35) hx hb dX5_signOf_15 (by decide) (by rw [cd3]; decide) (by decide) ?_
      refine lv_iconst (v := (2 : Int32)) hx hb dX5_signOf_50 (by decide) ?_
      obtain rfl := Option.some.inj hf
      exact fl_iret X hb hr hlk hF dX5_signOf_51
    · replace hf := ifn cd3 hf
      by_cases cd4 : x0 = (115 : Int32)
      · replace hf := ifp cd4 hf
        refine lv_lookup (tgt := 48) (off := 33) hx hb dX5_signOf_15 (by decide) (by rw [cd4]; decide) (by decide) ?_
        refine lv_iconst (v := (1 : Int32)) hx hb dX5_signOf_48 (by decide) ?_
        obtain rfl := Option.some.inj hf
        exact fl_iret X hb hr hlk hF dX5_signOf_49
      · replace hf := ifn cd4 hf
        refine lv_lookup (tgt := 54) (off := 39) hx hb dX5_signOf_15 (by decide) (by show Op.lookupswitch.offset [(59, 37), (113, 35), (115, 33)] 39 _ = _; rw [lv_osw cd2 (by decide), lv_osw cd3 (by decide), lv_osw cd4 (by decide)]; rfl) (by decide) ?_
        refine lv_bipush (v := (6 : Int32)) hx hb dX5_signOf_54 (by decide) ?_
        obtain rfl := Option.some.inj hf
        exact fl_iret X hb hr hlk hF dX5_signOf_56
set_option maxHeartbeats 4000000 in
set_option maxRecDepth 100000 in
theorem cX5_signOf_ok {l : Launch} {G : Gl} (hI : FI G wX) {x0 : Int32} {σ : Mem} {r : Int32} (hf : fX5_signOf x0 = some r) : Ct l G wX yX5_signOf cX5_signOf 1 (some .int) ({ frames := 0, cells := 0, slots := 0, locals := 0 }) [.int x0] σ (some (.int r)) σ := by
  refine fl_start hI (by decide) (Nat.le_of_ble_eq_true rfl) ?_
  intro p e s m below meth c M hF ls hl
  obtain ⟨X, hb, hml, hr, hlk⟩ := id M
  have hx := X.1
  have hl : lv_has ls 1 [(0, .int x0)] := hl
  unfold fX5_signOf at hf
  refine lv_iload_n hx hb dX5_signOf_0 rfl (lv_at hl 0 rfl) ?_
  refine lv_bipush (v := (97 : Int32)) hx hb dX5_signOf_1 (by decide) ?_
  refine lv_icmp_lt (tgt := 14) hx hb dX5_signOf_3 (by decide) (fun cd1 => ?_) (fun cd1 => ?_)
  · replace hf := ifp cd1 hf
    exact bX5_signOf_14 M x0 _ _ _ hf hF (lv_sub hl [0] rfl)
  · replace hf := ifn cd1 hf
    refine lv_iload_n hx hb dX5_signOf_6 rfl (lv_at hl 0 rfl) ?_
    refine lv_bipush (v := (105 : Int32)) hx hb dX5_signOf_7 (by decide) ?_
    refine lv_icmp_ge (tgt := 14) hx hb dX5_signOf_9 (by decide) (fun cd5 => ?_) (fun cd5 => ?_)
    · replace hf := ifp cd5 hf
      exact bX5_signOf_14 M x0 _ _ _ hf hF (lv_sub hl [0] rfl)
    · replace hf := ifn cd5 hf
      refine lv_iconst (v := (3 : Int32)) hx hb dX5_signOf_12 (by decide) ?_
      obtain rfl := Option.some.inj hf
      exact fl_iret X hb hr hlk hF dX5_signOf_13
set_option maxHeartbeats 4000000 in
set_option maxRecDepth 100000 in
theorem bX5_advance_38 {σ' : Mem} (M : MX p s m args meth c RX5 G wX cX5_advance 2 none) : ∀ (σ : Mem) (H : Heap) (locs : List Loc) (ls : Array Slot), fX5_advance_38 σ = some σ' → FH G wX s.heap H locs σ → lv_has ls 2 [(0, .ref (gA G 1))] → WG p l e ({ frames := 2, cells := 0, slots := 0, locals := 43 }) s m args below meth c G wX none σ' H locs 38 ls [] := by
  obtain ⟨X, hb, hml, hr, hlk⟩ := id M
  have hx := X.1
  intro σ H locs ls hf hF hl
  unfold fX5_advance_38 at hf
  refine lv_aload_n hx hb dX5_advance_38 rfl (lv_at hl 0 rfl) ?_
  refine lv_aload_n hx hb dX5_advance_39 rfl (lv_at hl 0 rfl) ?_
  refine gf_X5_24 X hb hF sh_X5 dX5_advance_40 ?_
  refine pf_X5_47 X hb hF sh_X5 dX5_advance_43 (fun H locs hF => ?_)
  refine lv_aload_n hx hb dX5_advance_46 rfl (lv_at hl 0 rfl) ?_
  refine gf_X5_24 X hb hF sh_X5 dX5_advance_47 ?_
  refine lv_aload_n hx hb dX5_advance_50 rfl (lv_at hl 0 rfl) ?_
  refine gf_X5_15 X hb hF sh_X5 dX5_advance_51 ?_
  refine lv_icmp_lt (tgt := 63) hx hb dX5_advance_54 (by decide) (fun cd2 => ?_) (fun cd2 => ?_)
  · replace hf := ifp cd2 hf
    refine lv_aload_n hx hb dX5_advance_63 rfl (lv_at hl 0 rfl) ?_
    refine gf_X5_9 X hb hF sh_X5 dX5_advance_64 ?_
    refine lv_aload_n hx hb dX5_advance_67 rfl (lv_at hl 0 rfl) ?_
    refine gf_X5_24 X hb hF sh_X5 dX5_advance_68 ?_
    obtain ⟨g3, hf⟩ := grd_some hf
    refine fl_iald X hb hF sh_a2 g3 dX5_advance_71 ?_
    refine lv_istore_n (lv' := [(1, .int ((mup σ 1 4 (σ 1 2)) 2 ((mup σ 1 4 (σ 1 2)) 1 2).toNatClampNeg)), (0, .ref (gA G 1))]) hx hb dX5_advance_72 rfl hl (by decide) rfl (fun ls hl => ?_)
    refine lv_iload_n hx hb dX5_advance_73 rfl (lv_at hl 0 rfl) ?_
    obtain ⟨r5, hq4, hf⟩ := bi_some hf
    refine cm_X5_97 (As := [.int ((mup σ 1 4 (σ 1 2)) 2 ((mup σ 1 4 (σ 1 2)) 1 2).toNatClampNeg)]) (rest := []) X hb hml hF (cX5_isFigure_ok (l := l) (G := G) (σ := mup σ 1 4 (σ 1 2)) X.2.2.2.2 hq4) ⟨Nat.le_of_ble_eq_true rfl, Nat.le_of_ble_eq_true rfl⟩ rfl rfl ⟨Nat.zero_le _, Nat.zero_le _⟩ rfl hl.1 rfl (Nat.le_of_ble_eq_true rfl) dX5_advance_74 (fun H locs hF => ?_)
    refine lv_if_eq (tgt := 85) hx hb dX5_advance_77 (by decide) (fun cd6 => ?_) (fun cd6 => ?_)
    · replace hf := ifp cd6 hf
      refine lv_aload_n hx hb dX5_advance_85 rfl (lv_at hl 1 rfl) ?_
      refine lv_dup hx hb dX5_advance_86 rfl ?_
      refine gf_X5_24 X hb hF sh_X5 dX5_advance_87 ?_
      refine lv_iconst (v := (1 : Int32)) hx hb dX5_advance_90 (by decide) ?_
      refine lv_iadd hx hb dX5_advance_91 ?_
      refine pf_X5_24 X hb hF sh_X5 dX5_advance_92 (fun H locs hF => ?_)
      refine lv_aload_n hx hb dX5_advance_95 rfl (lv_at hl 1 rfl) ?_
      refine lv_iload_n hx hb dX5_advance_96 rfl (lv_at hl 0 rfl) ?_
      obtain ⟨r8, hq7, hf⟩ := bi_some hf
      refine cm_X5_104 (As := [.int ((mup σ 1 4 (σ 1 2)) 2 ((mup σ 1 4 (σ 1 2)) 1 2).toNatClampNeg)]) (rest := [.ref (gA G 1)]) X hb hml hF (cX5_signOf_ok (l := l) (G := G) (σ := mup (mup σ 1 4 (σ 1 2)) 1 2 (((mup σ 1 4 (σ 1 2)) 1 2) + (1 : Int32))) X.2.2.2.2 hq7) ⟨Nat.le_of_ble_eq_true rfl, Nat.le_of_ble_eq_true rfl⟩ rfl rfl ⟨Nat.zero_le _, Nat.zero_le _⟩ rfl hl.1 rfl (Nat.le_of_ble_eq_true rfl) dX5_advance_97 (fun H locs hF => ?_)
      refine pf_X5_40 X hb hF sh_X5 dX5_advance_100 (fun H locs hF => ?_)
      refine lv_aload_n hx hb dX5_advance_103 rfl (lv_at hl 1 rfl) ?_
      refine lv_iload_n hx hb dX5_advance_104 rfl (lv_at hl 0 rfl) ?_
      refine lv_bipush (v := (97 : Int32)) hx hb dX5_advance_105 (by decide) ?_
      refine lv_isub hx hb dX5_advance_107 ?_
      refine pf_X5_69 X hb hF sh_X5 dX5_advance_108 (fun H locs hF => ?_)
      obtain rfl := Option.some.inj hf
      exact fl_vret X hb hr hlk hF dX5_advance_111
    · replace hf := ifn cd6 hf
      refine lv_aload_n hx hb dX5_advance_80 rfl (lv_at hl 1 rfl) ?_
      obtain ⟨σ10, hq9, hf⟩ := bv_some hf
      refine cm_X5_101 (As := []) (rest := []) X hb hml hF (cX5_takeNumber_ok (l := l) (G := G) X.2.2.2.2 hq9) sh_X5 ⟨Nat.le_of_ble_eq_true rfl, Nat.le_of_ble_eq_true rfl⟩ rfl rfl ⟨Nat.zero_le _, Nat.zero_le _⟩ rfl hl.1 rfl (Nat.le_of_ble_eq_true rfl) dX5_advance_81 (fun H locs hF => ?_)
      obtain rfl := Option.some.inj hf
      exact fl_vret X hb hr hlk hF dX5_advance_84
  · replace hf := ifn cd2 hf
    refine lv_aload_n hx hb dX5_advance_57 rfl (lv_at hl 0 rfl) ?_
    refine lv_iconst (v := (0 : Int32)) hx hb dX5_advance_58 (by decide) ?_
    refine pf_X5_40 X hb hF sh_X5 dX5_advance_59 (fun H locs hF => ?_)
    obtain rfl := Option.some.inj hf
    exact fl_vret X hb hr hlk hF dX5_advance_62
set_option maxHeartbeats 4000000 in
set_option maxRecDepth 100000 in
theorem bX5_advance_0 {σ' : Mem} (M : MX p s m args meth c RX5 G wX cX5_advance 2 none) : ∀ (fu : Nat) (σ : Mem) (H : Heap) (locs : List Loc) (ls : Array Slot), fX5_advance_0 fu σ = some σ' → FH G wX s.heap H locs σ → lv_has ls 2 [(0, .ref (gA G 1))] → WG p l e ({ frames := 2, cells := 0, slots := 0, locals := 43 }) s m args below meth c G wX none σ' H locs 0 ls [] := by
  obtain ⟨X, hb, hml, hr, hlk⟩ := id M
  have hx := X.1
  intro fu
  induction fu with
  | zero =>
    intro σ H locs ls hf hF hl
    rw [fX5_advance_0] at hf
    cases hf
  | succ fu ih =>
    intro σ H locs ls hf hF hl
    rw [fX5_advance_0] at hf
    refine lv_aload_n hx hb dX5_advance_0 rfl (lv_at hl 0 rfl) ?_
    refine gf_X5_24 X hb hF sh_X5 dX5_advance_1 ?_
    refine lv_aload_n hx hb dX5_advance_4 rfl (lv_at hl 0 rfl) ?_
    refine gf_X5_15 X hb hF sh_X5 dX5_advance_5 ?_
    refine lv_icmp_ge (tgt := 38) hx hb dX5_advance_8 (by decide) (fun cd1 => ?_) (fun cd1 => ?_)
    · replace hf := ifp cd1 hf
      exact bX5_advance_38 M σ _ _ _ hf hF (lv_sub hl [0] rfl)
    · replace hf := ifn cd1 hf
      refine lv_aload_n hx hb dX5_advance_11 rfl (lv_at hl 0 rfl) ?_
      refine gf_X5_9 X hb hF sh_X5 dX5_advance_12 ?_
      refine lv_aload_n hx hb dX5_advance_15 rfl (lv_at hl 0 rfl) ?_
      refine gf_X5_24 X hb hF sh_X5 dX5_advance_16 ?_
      obtain ⟨g11, hf⟩ := grd_some hf
      refine fl_iald X hb hF sh_a2 g11 dX5_advance_19 ?_
      refine lv_bipush (v := (32 : Int32)) hx hb dX5_advance_20 (by decide) ?_
      refine lv_icmp_ne (tgt := 38) hx hb dX5_advance_22 (by decide) (fun cd12 => ?_) (fun cd12 => ?_)
      · replace hf := ifn cd12 hf
        exact bX5_advance_38 M σ _ _ _ hf hF (lv_sub hl [0] rfl)
      · replace hf := ifp cd12 hf
        refine lv_aload_n hx hb dX5_advance_25 rfl (lv_at hl 0 rfl) ?_
        refine lv_dup hx hb dX5_advance_26 rfl ?_
        refine gf_X5_24 X hb hF sh_X5 dX5_advance_27 ?_
        refine lv_iconst (v := (1 : Int32)) hx hb dX5_advance_30 (by decide) ?_
        refine lv_iadd hx hb dX5_advance_31 ?_
        refine pf_X5_24 X hb hF sh_X5 dX5_advance_32 (fun H locs hF => ?_)
        refine lv_goto (tgt := 0) hx hb dX5_advance_35 (by decide) ?_
        exact ih (mup σ 1 2 ((σ 1 2) + (1 : Int32))) _ _ _ hf hF (lv_sub hl [0] rfl)
set_option maxHeartbeats 4000000 in
set_option maxRecDepth 100000 in
theorem cX5_advance_ok {l : Launch} {G : Gl} (hI : FI G wX) {σ : Mem} {σ' : Mem} (hf : fX5_advance σ = some σ') : Ct l G wX yX5_advance cX5_advance 2 none ({ frames := 2, cells := 0, slots := 0, locals := 43 }) [.ref (gA G 1)] σ none σ' := by
  refine fl_start hI (by decide) (Nat.le_of_ble_eq_true rfl) ?_
  intro p e s m below meth c M hF ls hl
  obtain ⟨X, hb, hml, hr, hlk⟩ := id M
  have hx := X.1
  have hl : lv_has ls 2 [(0, .ref (gA G 1))] := hl
  unfold fX5_advance at hf
  exact bX5_advance_0 M FU σ _ _ _ hf hF (lv_sub hl [0] rfl)
set_option maxHeartbeats 4000000 in
set_option maxRecDepth 100000 in
theorem bX5_takeSlackSign_12 {r : Int32} {σ' : Mem} (M : MX p s m args meth c RX5 G wX cX5_takeSlackSign 2 (some .boolean)) : ∀ (s0 : Int32) (σ : Mem) (H : Heap) (locs : List Loc) (ls : Array Slot), fX5_takeSlackSign_12 s0 σ = some (r, σ') → FH G wX s.heap H locs σ → lv_has ls 2 [(0, .ref (gA G 1))] → WG p l e ({ frames := 0, cells := 0, slots := 0, locals := 0 }) s m args below meth c G wX (some (.int r)) σ' H locs 12 ls [.int s0] := by
  obtain ⟨X, hb, hml, hr, hlk⟩ := id M
  have hx := X.1
  intro s0 σ H locs ls hf hF hl
  unfold fX5_takeSlackSign_12 at hf
  refine lv_istore_n (lv' := [(1, .int s0), (0, .ref (gA G 1))]) hx hb dX5_takeSlackSign_12 rfl hl (by decide) rfl (fun ls hl => ?_)
  refine lv_aload_n hx hb dX5_takeSlackSign_13 rfl (lv_at hl 1 rfl) ?_
  refine lv_iconst (v := (1 : Int32)) hx hb dX5_takeSlackSign_14 (by decide) ?_
  refine pf_X5_33 rfl rfl X hb hF sh_X5 dX5_takeSlackSign_15 (fun H locs hF => ?_)
  refine lv_aload_n hx hb dX5_takeSlackSign_18 rfl (lv_at hl 1 rfl) ?_
  refine lv_iconst (v := (1 : Int32)) hx hb dX5_takeSlackSign_19 (by decide) ?_
  refine pf_X5_27 X hb hF sh_X5 dX5_takeSlackSign_20 (fun H locs hF => ?_)
  refine lv_iload_n hx hb dX5_takeSlackSign_23 rfl (lv_at hl 0 rfl) ?_
  obtain ⟨g2, hf⟩ := grd_some hf
  obtain ⟨rfl, rfl⟩ := Prod.mk.inj (Option.some.inj hf)
  exact fl_zret X hb hr hlk hF g2 dX5_takeSlackSign_24
set_option maxHeartbeats 4000000 in
set_option maxRecDepth 100000 in
theorem cX5_takeSlackSign_ok {l : Launch} {G : Gl} (hI : FI G wX) {σ : Mem} {r : Int32} {σ' : Mem} (hf : fX5_takeSlackSign σ = some (r, σ')) : Ct l G wX yX5_takeSlackSign cX5_takeSlackSign 2 (some .boolean) ({ frames := 0, cells := 0, slots := 0, locals := 0 }) [.ref (gA G 1)] σ (some (.int r)) σ' := by
  refine fl_start hI (by decide) (Nat.le_of_ble_eq_true rfl) ?_
  intro p e s m below meth c M hF ls hl
  obtain ⟨X, hb, hml, hr, hlk⟩ := id M
  have hx := X.1
  have hl : lv_has ls 2 [(0, .ref (gA G 1))] := hl
  unfold fX5_takeSlackSign at hf
  refine lv_aload_n hx hb dX5_takeSlackSign_0 rfl (lv_at hl 0 rfl) ?_
  refine gf_X5_33 X hb hF sh_X5 dX5_takeSlackSign_1 ?_
  refine lv_if_ne (tgt := 11) hx hb dX5_takeSlackSign_4 (by decide) (fun cd1 => ?_) (fun cd1 => ?_)
  · replace hf := ifn cd1 hf
    refine lv_iconst (v := (0 : Int32)) hx hb dX5_takeSlackSign_11 (by decide) ?_
    exact bX5_takeSlackSign_12 M (0 : Int32) σ _ _ _ hf hF (lv_sub hl [0] rfl)
  · replace hf := ifp cd1 hf
    refine lv_iconst (v := (1 : Int32)) hx hb dX5_takeSlackSign_7 (by decide) ?_
    refine lv_goto (tgt := 12) hx hb dX5_takeSlackSign_8 (by decide) ?_
    exact bX5_takeSlackSign_12 M (1 : Int32) σ _ _ _ hf hF (lv_sub hl [0] rfl)
set_option maxHeartbeats 4000000 in
set_option maxRecDepth 100000 in
theorem cX5_takeHouseSign_ok {l : Launch} {G : Gl} (hI : FI G wX) {c1 : Nat} {σ : Mem} (qc1 : isC c1) {r : Int32} {σ' : Mem} (hf : fX5_takeHouseSign c1 σ = some (r, σ')) : Ct l G wX yX5_takeHouseSign cX5_takeHouseSign 2 (some .boolean) ({ frames := 0, cells := 0, slots := 0, locals := 0 }) [.ref (gA G 1), .ref (gA G c1)] σ (some (.int r)) σ' := by
  refine fl_start hI (by decide) (Nat.le_of_ble_eq_true rfl) ?_
  intro p e s m below meth c M hF ls hl
  obtain ⟨X, hb, hml, hr, hlk⟩ := id M
  have hx := X.1
  have hl : lv_has ls 2 [(0, .ref (gA G 1)), (1, .ref (gA G c1))] := hl
  unfold fX5_takeHouseSign at hf
  refine lv_aload_n hx hb dX5_takeHouseSign_0 rfl (lv_at hl 0 rfl) ?_
  refine gf_X5_40 X hb hF sh_X5 dX5_takeHouseSign_1 ?_
  refine lv_iconst (v := (2 : Int32)) hx hb dX5_takeHouseSign_4 (by decide) ?_
  refine lv_icmp_ne (tgt := 16) hx hb dX5_takeHouseSign_5 (by decide) (fun cd1 => ?_) (fun cd1 => ?_)
  · replace hf := ifn cd1 hf
    refine lv_iconst (v := (0 : Int32)) hx hb dX5_takeHouseSign_16 (by decide) ?_
    obtain ⟨rfl, rfl⟩ := Prod.mk.inj (Option.some.inj hf)
    exact fl_zret X hb hr hlk hF (Or.inl rfl) dX5_takeHouseSign_17
  · replace hf := ifp cd1 hf
    refine lv_aload_n hx hb dX5_takeHouseSign_8 rfl (lv_at hl 1 rfl) ?_
    refine gf_X5_75 X hb hF (sh_C qc1) dX5_takeHouseSign_9 ?_
    refine lv_iconst (v := (4 : Int32)) hx hb dX5_takeHouseSign_12 (by decide) ?_
    refine lv_icmp_lt (tgt := 18) hx hb dX5_takeHouseSign_13 (by decide) (fun cd2 => ?_) (fun cd2 => ?_)
    · replace hf := ifp cd2 hf
      refine lv_aload_n hx hb dX5_takeHouseSign_18 rfl (lv_at hl 1 rfl) ?_
      refine lv_dup hx hb dX5_takeHouseSign_19 rfl ?_
      refine gf_X5_75 X hb hF (sh_C qc1) dX5_takeHouseSign_20 ?_
      refine lv_iconst (v := (1 : Int32)) hx hb dX5_takeHouseSign_23 (by decide) ?_
      refine lv_iadd hx hb dX5_takeHouseSign_24 ?_
      refine pf_X5_75 X hb hF (sh_C qc1) dX5_takeHouseSign_25 (fun H locs hF => ?_)
      refine lv_aload_n hx hb dX5_takeHouseSign_28 rfl (lv_at hl 0 rfl) ?_
      refine lv_iconst (v := (2 : Int32)) hx hb dX5_takeHouseSign_29 (by decide) ?_
      refine pf_X5_27 X hb hF sh_X5 dX5_takeHouseSign_30 (fun H locs hF => ?_)
      refine lv_iconst (v := (1 : Int32)) hx hb dX5_takeHouseSign_33 (by decide) ?_
      obtain ⟨rfl, rfl⟩ := Prod.mk.inj (Option.some.inj hf)
      exact fl_zret X hb hr hlk hF (Or.inr rfl) dX5_takeHouseSign_34
    · replace hf := ifn cd2 hf
      refine lv_iconst (v := (0 : Int32)) hx hb dX5_takeHouseSign_16 (by decide) ?_
      obtain ⟨rfl, rfl⟩ := Prod.mk.inj (Option.some.inj hf)
      exact fl_zret X hb hr hlk hF (Or.inl rfl) dX5_takeHouseSign_17
set_option maxHeartbeats 4000000 in
set_option maxRecDepth 100000 in
theorem cX5_takeSlack_ok {l : Launch} {G : Gl} (hI : FI G wX) {c1 : Nat} {σ : Mem} (qc1 : isC c1) {r : Int32} {σ' : Mem} (hf : fX5_takeSlack c1 σ = some (r, σ')) : Ct l G wX yX5_takeSlack cX5_takeSlack 2 (some .boolean) ({ frames := 0, cells := 0, slots := 0, locals := 0 }) [.ref (gA G 1), .ref (gA G c1)] σ (some (.int r)) σ' := by
  refine fl_start hI (by decide) (Nat.le_of_ble_eq_true rfl) ?_
  intro p e s m below meth c M hF ls hl
  obtain ⟨X, hb, hml, hr, hlk⟩ := id M
  have hx := X.1
  have hl : lv_has ls 2 [(0, .ref (gA G 1)), (1, .ref (gA G c1))] := hl
  unfold fX5_takeSlack at hf
  refine lv_aload_n hx hb dX5_takeSlack_0 rfl (lv_at hl 1 rfl) ?_
  refine lv_aload_n hx hb dX5_takeSlack_1 rfl (lv_at hl 0 rfl) ?_
  refine gf_X5_69 X hb hF sh_X5 dX5_takeSlack_2 ?_
  refine pf_X5_72 X hb hF (sh_C qc1) dX5_takeSlack_5 (fun H locs hF => ?_)
  refine lv_aload_n hx hb dX5_takeSlack_8 rfl (lv_at hl 0 rfl) ?_
  refine lv_iconst (v := (4 : Int32)) hx hb dX5_takeSlack_9 (by decide) ?_
  refine pf_X5_27 X hb hF sh_X5 dX5_takeSlack_10 (fun H locs hF => ?_)
  refine lv_aload_n hx hb dX5_takeSlack_13 rfl (lv_at hl 0 rfl) ?_
  refine gf_X5_40 X hb hF sh_X5 dX5_takeSlack_14 ?_
  refine lv_iconst (v := (4 : Int32)) hx hb dX5_takeSlack_17 (by decide) ?_
  refine lv_icmp_ne (tgt := 34) hx hb dX5_takeSlack_18 (by decide) (fun cd1 => ?_) (fun cd1 => ?_)
  · replace hf := ifn cd1 hf
    refine lv_iconst (v := (0 : Int32)) hx hb dX5_takeSlack_34 (by decide) ?_
    obtain ⟨rfl, rfl⟩ := Prod.mk.inj (Option.some.inj hf)
    exact fl_zret X hb hr hlk hF (Or.inl rfl) dX5_takeSlack_35
  · replace hf := ifp cd1 hf
    refine lv_aload_n hx hb dX5_takeSlack_21 rfl (lv_at hl 0 rfl) ?_
    refine gf_X5_69 X hb hF sh_X5 dX5_takeSlack_22 ?_
    refine lv_bipush (v := (9 : Int32)) hx hb dX5_takeSlack_25 (by decide) ?_
    refine lv_icmp_gt (tgt := 34) hx hb dX5_takeSlack_27 (by decide) (fun cd2 => ?_) (fun cd2 => ?_)
    · replace hf := ifp cd2 hf
      refine lv_iconst (v := (0 : Int32)) hx hb dX5_takeSlack_34 (by decide) ?_
      obtain ⟨rfl, rfl⟩ := Prod.mk.inj (Option.some.inj hf)
      exact fl_zret X hb hr hlk hF (Or.inl rfl) dX5_takeSlack_35
    · replace hf := ifn cd2 hf
      refine lv_iconst (v := (1 : Int32)) hx hb dX5_takeSlack_30 (by decide) ?_
      refine lv_goto (tgt := 35) hx hb dX5_takeSlack_31 (by decide) ?_
      obtain ⟨rfl, rfl⟩ := Prod.mk.inj (Option.some.inj hf)
      exact fl_zret X hb hr hlk hF (Or.inr rfl) dX5_takeSlack_35
set_option maxHeartbeats 4000000 in
set_option maxRecDepth 100000 in
theorem cX5_takeStop_ok {l : Launch} {G : Gl} (hI : FI G wX) {σ : Mem} {r : Int32} {σ' : Mem} (hf : fX5_takeStop σ = some (r, σ')) : Ct l G wX yX5_takeStop cX5_takeStop 1 (some .boolean) ({ frames := 0, cells := 0, slots := 0, locals := 0 }) [.ref (gA G 1)] σ (some (.int r)) σ' := by
  refine fl_start hI (by decide) (Nat.le_of_ble_eq_true rfl) ?_
  intro p e s m below meth c M hF ls hl
  obtain ⟨X, hb, hml, hr, hlk⟩ := id M
  have hx := X.1
  have hl : lv_has ls 1 [(0, .ref (gA G 1))] := hl
  unfold fX5_takeStop at hf
  refine lv_aload_n hx hb dX5_takeStop_0 rfl (lv_at hl 0 rfl) ?_
  refine lv_dup hx hb dX5_takeStop_1 rfl ?_
  refine gf_X5_30 X hb hF sh_X5 dX5_takeStop_2 ?_
  refine lv_iconst (v := (1 : Int32)) hx hb dX5_takeStop_5 (by decide) ?_
  refine lv_iadd hx hb dX5_takeStop_6 ?_
  refine pf_X5_30 X hb hF sh_X5 dX5_takeStop_7 (fun H locs hF => ?_)
  refine lv_aload_n hx hb dX5_takeStop_10 rfl (lv_at hl 0 rfl) ?_
  refine lv_iconst (v := (0 : Int32)) hx hb dX5_takeStop_11 (by decide) ?_
  refine pf_X5_27 X hb hF sh_X5 dX5_takeStop_12 (fun H locs hF => ?_)
  refine lv_aload_n hx hb dX5_takeStop_15 rfl (lv_at hl 0 rfl) ?_
  refine gf_X5_40 X hb hF sh_X5 dX5_takeStop_16 ?_
  refine lv_iconst (v := (5 : Int32)) hx hb dX5_takeStop_19 (by decide) ?_
  refine lv_icmp_ne (tgt := 27) hx hb dX5_takeStop_20 (by decide) (fun cd1 => ?_) (fun cd1 => ?_)
  · replace hf := ifn cd1 hf
    refine lv_iconst (v := (0 : Int32)) hx hb dX5_takeStop_27 (by decide) ?_
    obtain ⟨rfl, rfl⟩ := Prod.mk.inj (Option.some.inj hf)
    exact fl_zret X hb hr hlk hF (Or.inl rfl) dX5_takeStop_28
  · replace hf := ifp cd1 hf
    refine lv_iconst (v := (1 : Int32)) hx hb dX5_takeStop_23 (by decide) ?_
    refine lv_goto (tgt := 28) hx hb dX5_takeStop_24 (by decide) ?_
    obtain ⟨rfl, rfl⟩ := Prod.mk.inj (Option.some.inj hf)
    exact fl_zret X hb hr hlk hF (Or.inr rfl) dX5_takeStop_28
set_option maxHeartbeats 4000000 in
set_option maxRecDepth 100000 in
theorem cX5_takeEvent_ok {l : Launch} {G : Gl} (hI : FI G wX) {c1 : Nat} {σ : Mem} (qc1 : isC c1) {r : Int32} {σ' : Mem} (hf : fX5_takeEvent c1 σ = some (r, σ')) : Ct l G wX yX5_takeEvent cX5_takeEvent 3 (some .boolean) ({ frames := 2, cells := 0, slots := 0, locals := 43 }) [.ref (gA G 1), .ref (gA G c1)] σ (some (.int r)) σ' := by
  refine fl_start hI (by decide) (Nat.le_of_ble_eq_true rfl) ?_
  intro p e s m below meth c M hF ls hl
  obtain ⟨X, hb, hml, hr, hlk⟩ := id M
  have hx := X.1
  have hl : lv_has ls 3 [(0, .ref (gA G 1)), (1, .ref (gA G c1))] := hl
  unfold fX5_takeEvent at hf
  refine lv_aload_n hx hb dX5_takeEvent_0 rfl (lv_at hl 1 rfl) ?_
  obtain ⟨n2, hq1, hf⟩ := bk_some hf
  refine cm_X5_76 (As := []) (rest := []) X hb hml hF (cX0_latest_ok (l := l) (G := G) X.2.2.2.2 qc1 hq1) (sh_C qc1) ⟨Nat.le_of_ble_eq_true rfl, Nat.le_of_ble_eq_true rfl⟩ rfl rfl ⟨Nat.zero_le _, Nat.zero_le _⟩ rfl hl.1 rfl (Nat.le_of_ble_eq_true rfl) dX5_takeEvent_1 (fun H locs hF => ?_)
  refine lv_astore_n (lv' := [(2, .ref (gA G n2)), (0, .ref (gA G 1)), (1, .ref (gA G c1))]) hx hb dX5_takeEvent_4 rfl hl (by decide) rfl (fun ls hl => ?_)
  refine lv_aload_n hx hb dX5_takeEvent_5 rfl (lv_at hl 1 rfl) ?_
  refine lv_aload_n hx hb dX5_takeEvent_6 rfl (lv_at hl 1 rfl) ?_
  refine gf_X5_69 X hb hF sh_X5 dX5_takeEvent_7 ?_
  refine pf_X5_80 X hb hF sh_X5 dX5_takeEvent_10 (fun H locs hF => ?_)
  refine lv_aload_n hx hb dX5_takeEvent_13 rfl (lv_at hl 1 rfl) ?_
  refine lv_iconst (v := (3 : Int32)) hx hb dX5_takeEvent_14 (by decide) ?_
  refine pf_X5_27 X hb hF sh_X5 dX5_takeEvent_15 (fun H locs hF => ?_)
  refine lv_aload_n hx hb dX5_takeEvent_18 rfl (lv_at hl 1 rfl) ?_
  refine gf_X5_40 X hb hF sh_X5 dX5_takeEvent_19 ?_
  refine lv_iconst (v := (3 : Int32)) hx hb dX5_takeEvent_22 (by decide) ?_
  refine lv_icmp_ne (tgt := 50) hx hb dX5_takeEvent_23 (by decide) (fun cd3 => ?_) (fun cd3 => ?_)
  · replace hf := ifn cd3 hf
    refine lv_iconst (v := (0 : Int32)) hx hb dX5_takeEvent_50 (by decide) ?_
    obtain ⟨rfl, rfl⟩ := Prod.mk.inj (Option.some.inj hf)
    exact fl_zret X hb hr hlk hF (Or.inl rfl) dX5_takeEvent_51
  · replace hf := ifp cd3 hf
    refine lv_aload_n hx hb dX5_takeEvent_26 rfl (lv_at hl 0 rfl) ?_
    refine gf_X5_83 X hb hF (sh_H (fX0_latest_H qc1 hq1)) dX5_takeEvent_27 ?_
    refine lv_bipush (v := (6 : Int32)) hx hb dX5_takeEvent_30 (by decide) ?_
    refine lv_icmp_ge (tgt := 50) hx hb dX5_takeEvent_32 (by decide) (fun cd4 => ?_) (fun cd4 => ?_)
    · replace hf := ifp cd4 hf
      refine lv_iconst (v := (0 : Int32)) hx hb dX5_takeEvent_50 (by decide) ?_
      obtain ⟨rfl, rfl⟩ := Prod.mk.inj (Option.some.inj hf)
      exact fl_zret X hb hr hlk hF (Or.inl rfl) dX5_takeEvent_51
    · replace hf := ifn cd4 hf
      refine lv_aload_n hx hb dX5_takeEvent_35 rfl (lv_at hl 0 rfl) ?_
      refine lv_aload_n hx hb dX5_takeEvent_36 rfl (lv_at hl 1 rfl) ?_
      refine gf_X5_69 X hb hF sh_X5 dX5_takeEvent_37 ?_
      obtain ⟨r6, hq5, hf⟩ := bi_some hf
      refine cm_X5_86 (As := [.int ((mup (mup σ 1 8 (σ 1 5)) 1 6 (3 : Int32)) 1 5)]) (rest := []) X hb hml hF (cX2_placeOf_ok (l := l) (G := G) X.2.2.2.2 (fX0_latest_H qc1 hq1) hq5) (sh_H (fX0_latest_H qc1 hq1)) ⟨Nat.le_of_ble_eq_true rfl, Nat.le_of_ble_eq_true rfl⟩ rfl rfl ⟨Nat.zero_le _, Nat.zero_le _⟩ rfl hl.1 rfl (Nat.le_of_ble_eq_true rfl) dX5_takeEvent_40 (fun H locs hF => ?_)
      refine lv_if_ge (tgt := 50) hx hb dX5_takeEvent_43 (by decide) (fun cd7 => ?_) (fun cd7 => ?_)
      · replace hf := ifp cd7 hf
        refine lv_iconst (v := (0 : Int32)) hx hb dX5_takeEvent_50 (by decide) ?_
        obtain ⟨rfl, rfl⟩ := Prod.mk.inj (Option.some.inj hf)
        exact fl_zret X hb hr hlk hF (Or.inl rfl) dX5_takeEvent_51
      · replace hf := ifn cd7 hf
        refine lv_iconst (v := (1 : Int32)) hx hb dX5_takeEvent_46 (by decide) ?_
        refine lv_goto (tgt := 51) hx hb dX5_takeEvent_47 (by decide) ?_
        obtain ⟨rfl, rfl⟩ := Prod.mk.inj (Option.some.inj hf)
        exact fl_zret X hb hr hlk hF (Or.inr rfl) dX5_takeEvent_51
set_option maxHeartbeats 4000000 in
set_option maxRecDepth 100000 in
theorem cX5_takeYear_ok {l : Launch} {G : Gl} (hI : FI G wX) {c1 : Nat} {σ : Mem} (qc1 : isC c1) {r : Int32} {σ' : Mem} (hf : fX5_takeYear c1 σ = some (r, σ')) : Ct l G wX yX5_takeYear cX5_takeYear 3 (some .boolean) ({ frames := 1, cells := 0, slots := 0, locals := 24 }) [.ref (gA G 1), .ref (gA G c1)] σ (some (.int r)) σ' := by
  refine fl_start hI (by decide) (Nat.le_of_ble_eq_true rfl) ?_
  intro p e s m below meth c M hF ls hl
  obtain ⟨X, hb, hml, hr, hlk⟩ := id M
  have hx := X.1
  have hl : lv_has ls 3 [(0, .ref (gA G 1)), (1, .ref (gA G c1))] := hl
  unfold fX5_takeYear at hf
  refine lv_aload_n hx hb dX5_takeYear_0 rfl (lv_at hl 1 rfl) ?_
  obtain ⟨n2, hq1, hf⟩ := bk_some hf
  refine cm_X5_76 (As := []) (rest := []) X hb hml hF (cX0_latest_ok (l := l) (G := G) X.2.2.2.2 qc1 hq1) (sh_C qc1) ⟨Nat.le_of_ble_eq_true rfl, Nat.le_of_ble_eq_true rfl⟩ rfl rfl ⟨Nat.zero_le _, Nat.zero_le _⟩ rfl hl.1 rfl (Nat.le_of_ble_eq_true rfl) dX5_takeYear_1 (fun H locs hF => ?_)
  refine lv_astore_n (lv' := [(2, .ref (gA G n2)), (0, .ref (gA G 1)), (1, .ref (gA G c1))]) hx hb dX5_takeYear_4 rfl hl (by decide) rfl (fun ls hl => ?_)
  refine lv_aload_n hx hb dX5_takeYear_5 rfl (lv_at hl 1 rfl) ?_
  refine lv_iconst (v := (2 : Int32)) hx hb dX5_takeYear_6 (by decide) ?_
  refine pf_X5_27 X hb hF sh_X5 dX5_takeYear_7 (fun H locs hF => ?_)
  refine lv_aload_n hx hb dX5_takeYear_10 rfl (lv_at hl 1 rfl) ?_
  refine gf_X5_40 X hb hF sh_X5 dX5_takeYear_11 ?_
  refine lv_iconst (v := (4 : Int32)) hx hb dX5_takeYear_14 (by decide) ?_
  refine lv_icmp_ne (tgt := 52) hx hb dX5_takeYear_15 (by decide) (fun cd3 => ?_) (fun cd3 => ?_)
  · replace hf := ifn cd3 hf
    refine lv_iconst (v := (0 : Int32)) hx hb dX5_takeYear_52 (by decide) ?_
    obtain ⟨rfl, rfl⟩ := Prod.mk.inj (Option.some.inj hf)
    exact fl_zret X hb hr hlk hF (Or.inl rfl) dX5_takeYear_53
  · replace hf := ifp cd3 hf
    refine lv_aload_n hx hb dX5_takeYear_18 rfl (lv_at hl 0 rfl) ?_
    refine lv_aload_n hx hb dX5_takeYear_19 rfl (lv_at hl 0 rfl) ?_
    refine gf_X5_83 X hb hF (sh_H (fX0_latest_H qc1 hq1)) dX5_takeYear_20 ?_
    refine lv_aload_n hx hb dX5_takeYear_23 rfl (lv_at hl 1 rfl) ?_
    refine gf_X5_69 X hb hF sh_X5 dX5_takeYear_24 ?_
    obtain ⟨r5, hq4, hf⟩ := bi_some hf
    refine cm_X5_90 (As := [.int ((mup σ 1 6 (2 : Int32)) n2 2), .int ((mup σ 1 6 (2 : Int32)) 1 5)]) (rest := []) X hb hml hF (cX2_mayTell_ok (l := l) (G := G) X.2.2.2.2 (fX0_latest_H qc1 hq1) hq4) (sh_H (fX0_latest_H qc1 hq1)) ⟨Nat.le_of_ble_eq_true rfl, Nat.le_of_ble_eq_true rfl⟩ rfl rfl ⟨Nat.zero_le _, Nat.zero_le _⟩ rfl hl.1 rfl (Nat.le_of_ble_eq_true rfl) dX5_takeYear_27 (fun H locs hF => ?_)
    refine lv_if_eq (tgt := 52) hx hb dX5_takeYear_30 (by decide) (fun cd6 => ?_) (fun cd6 => ?_)
    · replace hf := ifp cd6 hf
      refine lv_iconst (v := (0 : Int32)) hx hb dX5_takeYear_52 (by decide) ?_
      obtain ⟨rfl, rfl⟩ := Prod.mk.inj (Option.some.inj hf)
      exact fl_zret X hb hr hlk hF (Or.inl rfl) dX5_takeYear_53
    · replace hf := ifn cd6 hf
      refine lv_aload_n hx hb dX5_takeYear_33 rfl (lv_at hl 0 rfl) ?_
      refine lv_aload_n hx hb dX5_takeYear_34 rfl (lv_at hl 1 rfl) ?_
      refine gf_X5_80 X hb hF sh_X5 dX5_takeYear_35 ?_
      refine lv_aload_n hx hb dX5_takeYear_38 rfl (lv_at hl 1 rfl) ?_
      refine gf_X5_69 X hb hF sh_X5 dX5_takeYear_39 ?_
      obtain ⟨r8, σ9, hq7, hf⟩ := bm_some hf
      refine cm_X5_94 (As := [.int ((mup σ 1 6 (2 : Int32)) 1 8), .int ((mup σ 1 6 (2 : Int32)) 1 5)]) (rest := []) X hb hml hF (cX2_add_ok (l := l) (G := G) X.2.2.2.2 (fX0_latest_H qc1 hq1) hq7) (sh_H (fX0_latest_H qc1 hq1)) ⟨Nat.le_of_ble_eq_true rfl, Nat.le_of_ble_eq_true rfl⟩ rfl rfl ⟨Nat.zero_le _, Nat.zero_le _⟩ rfl hl.1 rfl (Nat.le_of_ble_eq_true rfl) dX5_takeYear_42 (fun H locs hF => ?_)
      refine lv_if_eq (tgt := 52) hx hb dX5_takeYear_45 (by decide) (fun cd10 => ?_) (fun cd10 => ?_)
      · replace hf := ifp cd10 hf
        refine lv_iconst (v := (0 : Int32)) hx hb dX5_takeYear_52 (by decide) ?_
        obtain ⟨rfl, rfl⟩ := Prod.mk.inj (Option.some.inj hf)
        exact fl_zret X hb hr hlk hF (Or.inl rfl) dX5_takeYear_53
      · replace hf := ifn cd10 hf
        refine lv_iconst (v := (1 : Int32)) hx hb dX5_takeYear_48 (by decide) ?_
        refine lv_goto (tgt := 53) hx hb dX5_takeYear_49 (by decide) ?_
        obtain ⟨rfl, rfl⟩ := Prod.mk.inj (Option.some.inj hf)
        exact fl_zret X hb hr hlk hF (Or.inr rfl) dX5_takeYear_53
set_option maxHeartbeats 4000000 in
set_option maxRecDepth 100000 in
theorem cX5_take_ok {l : Launch} {G : Gl} (hI : FI G wX) {c1 : Nat} {σ : Mem} (qc1 : isC c1) {r : Int32} {σ' : Mem} (hf : fX5_take c1 σ = some (r, σ')) : Ct l G wX yX5_take cX5_take 2 (some .boolean) ({ frames := 3, cells := 0, slots := 0, locals := 65 }) [.ref (gA G 1), .ref (gA G c1)] σ (some (.int r)) σ' := by
  refine fl_start hI (by decide) (Nat.le_of_ble_eq_true rfl) ?_
  intro p e s m below meth c M hF ls hl
  obtain ⟨X, hb, hml, hr, hlk⟩ := id M
  have hx := X.1
  have hl : lv_has ls 2 [(0, .ref (gA G 1)), (1, .ref (gA G c1))] := hl
  unfold fX5_take at hf
  refine lv_aload_n hx hb dX5_take_0 rfl (lv_at hl 0 rfl) ?_
  refine gf_X5_27 X hb hF sh_X5 dX5_take_1 ?_
  by_cases cd1 : (σ 1 6) = (0 : Int32)
  · replace hf := ifp cd1 hf
    refine lv_tableIn (tgt := 36) (off := 32) hx hb dX5_take_4 (by rw [cd1]; decide) (by rw [cd1]; decide) (by rw [cd1]; rfl) (by decide) ?_
    refine lv_aload_n hx hb dX5_take_36 rfl (lv_at hl 0 rfl) ?_
    refine gf_X5_40 X hb hF sh_X5 dX5_take_37 ?_
    refine lv_iconst (v := (1 : Int32)) hx hb dX5_take_40 (by decide) ?_
    refine lv_icmp_ne (tgt := 51) hx hb dX5_take_41 (by decide) (fun cd2 => ?_) (fun cd2 => ?_)
    · replace hf := ifn cd2 hf
      refine lv_aload_n hx hb dX5_take_51 rfl (lv_at hl 0 rfl) ?_
      refine lv_aload_n hx hb dX5_take_52 rfl (lv_at hl 1 rfl) ?_
      obtain ⟨r4, σ5, hq3, hf⟩ := bm_some hf
      refine cm_X5_54 (As := [.ref (gA G c1)]) (rest := []) X hb hml hF (cX5_takeHouseSign_ok (l := l) (G := G) X.2.2.2.2 qc1 hq3) sh_X5 ⟨Nat.le_of_ble_eq_true rfl, Nat.le_of_ble_eq_true rfl⟩ rfl rfl ⟨Nat.zero_le _, Nat.zero_le _⟩ rfl hl.1 rfl (Nat.le_of_ble_eq_true rfl) dX5_take_53 (fun H locs hF => ?_)
      obtain ⟨g6, hf⟩ := grd_some hf
      obtain ⟨rfl, rfl⟩ := Prod.mk.inj (Option.some.inj hf)
      exact fl_zret X hb hr hlk hF g6 dX5_take_56
    · replace hf := ifp cd2 hf
      refine lv_aload_n hx hb dX5_take_44 rfl (lv_at hl 0 rfl) ?_
      obtain ⟨r8, σ9, hq7, hf⟩ := bm_some hf
      refine cm_X5_50 (As := []) (rest := []) X hb hml hF (cX5_takeSlackSign_ok (l := l) (G := G) X.2.2.2.2 hq7) sh_X5 ⟨Nat.le_of_ble_eq_true rfl, Nat.le_of_ble_eq_true rfl⟩ rfl rfl ⟨Nat.zero_le _, Nat.zero_le _⟩ rfl hl.1 rfl (Nat.le_of_ble_eq_true rfl) dX5_take_45 (fun H locs hF => ?_)
      refine lv_goto (tgt := 56) hx hb dX5_take_48 (by decide) ?_
      obtain ⟨g10, hf⟩ := grd_some hf
      obtain ⟨rfl, rfl⟩ := Prod.mk.inj (Option.some.inj hf)
      exact fl_zret X hb hr hlk hF g10 dX5_take_56
  · replace hf := ifn cd1 hf
    by_cases cd11 : (σ 1 6) = (1 : Int32)
    · replace hf := ifp cd11 hf
      refine lv_tableIn (tgt := 57) (off := 53) hx hb dX5_take_4 (by rw [cd11]; decide) (by rw [cd11]; decide) (by rw [cd11]; rfl) (by decide) ?_
      refine lv_aload_n hx hb dX5_take_57 rfl (lv_at hl 0 rfl) ?_
      refine lv_aload_n hx hb dX5_take_58 rfl (lv_at hl 1 rfl) ?_
      obtain ⟨r13, σ14, hq12, hf⟩ := bm_some hf
      refine cm_X5_57 (As := [.ref (gA G c1)]) (rest := []) X hb hml hF (cX5_takeSlack_ok (l := l) (G := G) X.2.2.2.2 qc1 hq12) sh_X5 ⟨Nat.le_of_ble_eq_true rfl, Nat.le_of_ble_eq_true rfl⟩ rfl rfl ⟨Nat.zero_le _, Nat.zero_le _⟩ rfl hl.1 rfl (Nat.le_of_ble_eq_true rfl) dX5_take_59 (fun H locs hF => ?_)
      obtain ⟨g15, hf⟩ := grd_some hf
      obtain ⟨rfl, rfl⟩ := Prod.mk.inj (Option.some.inj hf)
      exact fl_zret X hb hr hlk hF g15 dX5_take_62
    · replace hf := ifn cd11 hf
      by_cases cd16 : (σ 1 6) = (2 : Int32)
      · replace hf := ifp cd16 hf
        refine lv_tableIn (tgt := 63) (off := 59) hx hb dX5_take_4 (by rw [cd16]; decide) (by rw [cd16]; decide) (by rw [cd16]; rfl) (by decide) ?_
        refine lv_aload_n hx hb dX5_take_63 rfl (lv_at hl 0 rfl) ?_
        refine gf_X5_40 X hb hF sh_X5 dX5_take_64 ?_
        refine lv_iconst (v := (5 : Int32)) hx hb dX5_take_67 (by decide) ?_
        refine lv_icmp_ne (tgt := 78) hx hb dX5_take_68 (by decide) (fun cd17 => ?_) (fun cd17 => ?_)
        · replace hf := ifn cd17 hf
          refine lv_aload_n hx hb dX5_take_78 rfl (lv_at hl 0 rfl) ?_
          refine lv_aload_n hx hb dX5_take_79 rfl (lv_at hl 1 rfl) ?_
          obtain ⟨r19, σ20, hq18, hf⟩ := bm_some hf
          refine cm_X5_63 (As := [.ref (gA G c1)]) (rest := []) X hb hml hF (cX5_takeEvent_ok (l := l) (G := G) X.2.2.2.2 qc1 hq18) sh_X5 ⟨Nat.le_of_ble_eq_true rfl, Nat.le_of_ble_eq_true rfl⟩ rfl rfl ⟨Nat.zero_le _, Nat.zero_le _⟩ rfl hl.1 rfl (Nat.le_of_ble_eq_true rfl) dX5_take_80 (fun H locs hF => ?_)
          obtain ⟨g21, hf⟩ := grd_some hf
          obtain ⟨rfl, rfl⟩ := Prod.mk.inj (Option.some.inj hf)
          exact fl_zret X hb hr hlk hF g21 dX5_take_83
        · replace hf := ifp cd17 hf
          refine lv_aload_n hx hb dX5_take_71 rfl (lv_at hl 0 rfl) ?_
          obtain ⟨r23, σ24, hq22, hf⟩ := bm_some hf
          refine cm_X5_60 (As := []) (rest := []) X hb hml hF (cX5_takeStop_ok (l := l) (G := G) X.2.2.2.2 hq22) sh_X5 ⟨Nat.le_of_ble_eq_true rfl, Nat.le_of_ble_eq_true rfl⟩ rfl rfl ⟨Nat.zero_le _, Nat.zero_le _⟩ rfl hl.1 rfl (Nat.le_of_ble_eq_true rfl) dX5_take_72 (fun H locs hF => ?_)
          refine lv_goto (tgt := 83) hx hb dX5_take_75 (by decide) ?_
          obtain ⟨g25, hf⟩ := grd_some hf
          obtain ⟨rfl, rfl⟩ := Prod.mk.inj (Option.some.inj hf)
          exact fl_zret X hb hr hlk hF g25 dX5_take_83
      · replace hf := ifn cd16 hf
        by_cases cd26 : (σ 1 6) = (3 : Int32)
        · replace hf := ifp cd26 hf
          refine lv_tableIn (tgt := 84) (off := 80) hx hb dX5_take_4 (by rw [cd26]; decide) (by rw [cd26]; decide) (by rw [cd26]; rfl) (by decide) ?_
          refine lv_aload_n hx hb dX5_take_84 rfl (lv_at hl 0 rfl) ?_
          refine lv_aload_n hx hb dX5_take_85 rfl (lv_at hl 1 rfl) ?_
          obtain ⟨r28, σ29, hq27, hf⟩ := bm_some hf
          refine cm_X5_66 (As := [.ref (gA G c1)]) (rest := []) X hb hml hF (cX5_takeYear_ok (l := l) (G := G) X.2.2.2.2 qc1 hq27) sh_X5 ⟨Nat.le_of_ble_eq_true rfl, Nat.le_of_ble_eq_true rfl⟩ rfl rfl ⟨Nat.zero_le _, Nat.zero_le _⟩ rfl hl.1 rfl (Nat.le_of_ble_eq_true rfl) dX5_take_86 (fun H locs hF => ?_)
          obtain ⟨g30, hf⟩ := grd_some hf
          obtain ⟨rfl, rfl⟩ := Prod.mk.inj (Option.some.inj hf)
          exact fl_zret X hb hr hlk hF g30 dX5_take_89
        · replace hf := ifn cd26 hf
          refine lv_tableOut (tgt := 90) hx hb dX5_take_4 (by have z0 := lv_neT (a := 0) cd1 (by decide); have z1 := lv_neT (a := 1) cd11 (by decide); have z2 := lv_neT (a := 2) cd16 (by decide); have z3 := lv_neT (a := 3) cd26 (by decide); omega) (by decide) ?_
          refine lv_aload_n hx hb dX5_take_90 rfl (lv_at hl 0 rfl) ?_
          obtain ⟨r32, σ33, hq31, hf⟩ := bm_some hf
          refine cm_X5_60 (As := []) (rest := []) X hb hml hF (cX5_takeStop_ok (l := l) (G := G) X.2.2.2.2 hq31) sh_X5 ⟨Nat.le_of_ble_eq_true rfl, Nat.le_of_ble_eq_true rfl⟩ rfl rfl ⟨Nat.zero_le _, Nat.zero_le _⟩ rfl hl.1 rfl (Nat.le_of_ble_eq_true rfl) dX5_take_91 (fun H locs hF => ?_)
          obtain ⟨g34, hf⟩ := grd_some hf
          obtain ⟨rfl, rfl⟩ := Prod.mk.inj (Option.some.inj hf)
          exact fl_zret X hb hr hlk hF g34 dX5_take_94
set_option maxHeartbeats 4000000 in
set_option maxRecDepth 100000 in
theorem bX5_read_69 {r : Int32} {σ' : Mem} {c1 : Nat} (M : MX p s m args meth c RX5 G wX cX5_read 3 (some .int)) (qc1 : isC c1) : ∀ (σ : Mem) (H : Heap) (locs : List Loc) (ls : Array Slot), fX5_read_69 c1 σ = some (r, σ') → FH G wX s.heap H locs σ → lv_has ls 3 [(0, .ref (gA G 1))] → WG p l e ({ frames := 4, cells := 0, slots := 0, locals := 86 }) s m args below meth c G wX (some (.int r)) σ' H locs 69 ls [] := by
  obtain ⟨X, hb, hml, hr, hlk⟩ := id M
  have hx := X.1
  intro σ H locs ls hf hF hl
  unfold fX5_read_69 at hf
  refine lv_aload_n hx hb dX5_read_69 rfl (lv_at hl 0 rfl) ?_
  refine gf_X5_27 X hb hF sh_X5 dX5_read_70 ?_
  refine lv_if_ne (tgt := 83) hx hb dX5_read_73 (by decide) (fun cd6 => ?_) (fun cd6 => ?_)
  · replace hf := ifn cd6 hf
    refine lv_bipush (v := (-10 : Int32)) hx hb dX5_read_83 (by decide) ?_
    refine lv_aload_n hx hb dX5_read_85 rfl (lv_at hl 0 rfl) ?_
    refine gf_X5_47 X hb hF sh_X5 dX5_read_86 ?_
    refine lv_isub hx hb dX5_read_89 ?_
    obtain ⟨rfl, rfl⟩ := Prod.mk.inj (Option.some.inj hf)
    exact fl_iret X hb hr hlk hF dX5_read_90
  · replace hf := ifp cd6 hf
    refine lv_aload_n hx hb dX5_read_76 rfl (lv_at hl 0 rfl) ?_
    refine gf_X5_30 X hb hF sh_X5 dX5_read_77 ?_
    refine lv_goto (tgt := 90) hx hb dX5_read_80 (by decide) ?_
    obtain ⟨rfl, rfl⟩ := Prod.mk.inj (Option.some.inj hf)
    exact fl_iret X hb hr hlk hF dX5_read_90
set_option maxHeartbeats 4000000 in
set_option maxRecDepth 100000 in
theorem bX5_read_30 {r : Int32} {σ' : Mem} {c1 : Nat} (M : MX p s m args meth c RX5 G wX cX5_read 3 (some .int)) (qc1 : isC c1) : ∀ (fu : Nat) (x2 : Int32) (σ : Mem) (H : Heap) (locs : List Loc) (ls : Array Slot), fX5_read_30 c1 fu x2 σ = some (r, σ') → FH G wX s.heap H locs σ → lv_has ls 3 [(0, .ref (gA G 1)), (1, .ref (gA G c1)), (2, .int x2)] → WG p l e ({ frames := 4, cells := 0, slots := 0, locals := 86 }) s m args below meth c G wX (some (.int r)) σ' H locs 30 ls [] := by
  obtain ⟨X, hb, hml, hr, hlk⟩ := id M
  have hx := X.1
  intro fu
  induction fu with
  | zero =>
    intro x2 σ H locs ls hf hF hl
    rw [fX5_read_30] at hf
    cases hf
  | succ fu ih =>
    intro x2 σ H locs ls hf hF hl
    rw [fX5_read_30] at hf
    refine lv_iload_n hx hb dX5_read_30 rfl (lv_at hl 2 rfl) ?_
    refine lv_bipush (v := (110 : Int32)) hx hb dX5_read_31 (by decide) ?_
    refine lv_icmp_ge (tgt := 69) hx hb dX5_read_33 (by decide) (fun cd5 => ?_) (fun cd5 => ?_)
    · replace hf := ifp cd5 hf
      exact bX5_read_69 M qc1 σ _ _ _ hf hF (lv_sub hl [0] rfl)
    · replace hf := ifn cd5 hf
      refine lv_aload_n hx hb dX5_read_36 rfl (lv_at hl 0 rfl) ?_
      refine gf_X5_40 X hb hF sh_X5 dX5_read_37 ?_
      refine lv_if_eq (tgt := 69) hx hb dX5_read_40 (by decide) (fun cd7 => ?_) (fun cd7 => ?_)
      · replace hf := ifp cd7 hf
        exact bX5_read_69 M qc1 σ _ _ _ hf hF (lv_sub hl [0] rfl)
      · replace hf := ifn cd7 hf
        refine lv_aload_n hx hb dX5_read_43 rfl (lv_at hl 0 rfl) ?_
        refine lv_aload_n hx hb dX5_read_44 rfl (lv_at hl 1 rfl) ?_
        obtain ⟨r9, σ10, hq8, hf⟩ := bm_some hf
        refine cm_X5_43 (As := [.ref (gA G c1)]) (rest := []) X hb hml hF (cX5_take_ok (l := l) (G := G) X.2.2.2.2 qc1 hq8) sh_X5 ⟨Nat.le_of_ble_eq_true rfl, Nat.le_of_ble_eq_true rfl⟩ rfl rfl ⟨Nat.zero_le _, Nat.zero_le _⟩ rfl hl.1 rfl (Nat.le_of_ble_eq_true rfl) dX5_read_45 (fun H locs hF => ?_)
        refine lv_if_ne (tgt := 59) hx hb dX5_read_48 (by decide) (fun cd11 => ?_) (fun cd11 => ?_)
        · replace hf := ifn cd11 hf
          refine lv_aload_n hx hb dX5_read_59 rfl (lv_at hl 0 rfl) ?_
          obtain ⟨σ13, hq12, hf⟩ := bv_some hf
          refine cm_X5_37 (As := []) (rest := []) X hb hml hF (cX5_advance_ok (l := l) (G := G) X.2.2.2.2 hq12) sh_X5 ⟨Nat.le_of_ble_eq_true rfl, Nat.le_of_ble_eq_true rfl⟩ rfl rfl ⟨Nat.zero_le _, Nat.zero_le _⟩ rfl hl.1 rfl (Nat.le_of_ble_eq_true rfl) dX5_read_60 (fun H locs hF => ?_)
          refine lv_iinc (v := x2 + (1 : Int32)) (lv' := [(2, .int (x2 + (1 : Int32))), (0, .ref (gA G 1)), (1, .ref (gA G c1))]) hx hb dX5_read_63 hl (k := 2) rfl rfl (by decide) rfl (fun ls hl => ?_)
          refine lv_goto (tgt := 30) hx hb dX5_read_66 (by decide) ?_
          exact ih (x2 + (1 : Int32)) σ13 _ _ _ hf hF (lv_sub hl [1, 2, 0] rfl)
        · replace hf := ifp cd11 hf
          refine lv_bipush (v := (-10 : Int32)) hx hb dX5_read_51 (by decide) ?_
          refine lv_aload_n hx hb dX5_read_53 rfl (lv_at hl 0 rfl) ?_
          refine gf_X5_47 X hb hF sh_X5 dX5_read_54 ?_
          refine lv_isub hx hb dX5_read_57 ?_
          obtain ⟨rfl, rfl⟩ := Prod.mk.inj (Option.some.inj hf)
          exact fl_iret X hb hr hlk hF dX5_read_58
set_option maxHeartbeats 4000000 in
set_option maxRecDepth 100000 in
theorem cX5_read_ok {l : Launch} {G : Gl} (hI : FI G wX) {c1 : Nat} {σ : Mem} (qc1 : isC c1) {r : Int32} {σ' : Mem} (hf : fX5_read c1 σ = some (r, σ')) : Ct l G wX yX5_read cX5_read 3 (some .int) ({ frames := 4, cells := 0, slots := 0, locals := 86 }) [.ref (gA G 1), .ref (gA G c1)] σ (some (.int r)) σ' := by
  refine fl_start hI (by decide) (Nat.le_of_ble_eq_true rfl) ?_
  intro p e s m below meth c M hF ls hl
  obtain ⟨X, hb, hml, hr, hlk⟩ := id M
  have hx := X.1
  have hl : lv_has ls 3 [(0, .ref (gA G 1)), (1, .ref (gA G c1))] := hl
  unfold fX5_read at hf
  refine lv_aload_n hx hb dX5_read_0 rfl (lv_at hl 1 rfl) ?_
  obtain ⟨σ2, hq1, hf⟩ := bv_some hf
  refine cm_X5_19 (As := []) (rest := []) X hb hml hF (cX0_empty_ok (l := l) (G := G) X.2.2.2.2 qc1 hq1) (sh_C qc1) ⟨Nat.le_of_ble_eq_true rfl, Nat.le_of_ble_eq_true rfl⟩ rfl rfl ⟨Nat.zero_le _, Nat.zero_le _⟩ rfl hl.1 rfl (Nat.le_of_ble_eq_true rfl) dX5_read_1 (fun H locs hF => ?_)
  refine lv_aload_n hx hb dX5_read_4 rfl (lv_at hl 0 rfl) ?_
  refine lv_iconst (v := (0 : Int32)) hx hb dX5_read_5 (by decide) ?_
  refine pf_X5_24 X hb hF sh_X5 dX5_read_6 (fun H locs hF => ?_)
  refine lv_aload_n hx hb dX5_read_9 rfl (lv_at hl 0 rfl) ?_
  refine lv_iconst (v := (0 : Int32)) hx hb dX5_read_10 (by decide) ?_
  refine pf_X5_27 X hb hF sh_X5 dX5_read_11 (fun H locs hF => ?_)
  refine lv_aload_n hx hb dX5_read_14 rfl (lv_at hl 0 rfl) ?_
  refine lv_iconst (v := (0 : Int32)) hx hb dX5_read_15 (by decide) ?_
  refine pf_X5_30 X hb hF sh_X5 dX5_read_16 (fun H locs hF => ?_)
  refine lv_aload_n hx hb dX5_read_19 rfl (lv_at hl 0 rfl) ?_
  refine lv_iconst (v := (0 : Int32)) hx hb dX5_read_20 (by decide) ?_
  refine pf_X5_33 rfl rfl X hb hF sh_X5 dX5_read_21 (fun H locs hF => ?_)
  refine lv_aload_n hx hb dX5_read_24 rfl (lv_at hl 0 rfl) ?_
  obtain ⟨σ4, hq3, hf⟩ := bv_some hf
  refine cm_X5_37 (As := []) (rest := []) X hb hml hF (cX5_advance_ok (l := l) (G := G) X.2.2.2.2 hq3) sh_X5 ⟨Nat.le_of_ble_eq_true rfl, Nat.le_of_ble_eq_true rfl⟩ rfl rfl ⟨Nat.zero_le _, Nat.zero_le _⟩ rfl hl.1 rfl (Nat.le_of_ble_eq_true rfl) dX5_read_25 (fun H locs hF => ?_)
  refine lv_iconst (v := (0 : Int32)) hx hb dX5_read_28 (by decide) ?_
  refine lv_istore_n (lv' := [(2, .int (0 : Int32)), (0, .ref (gA G 1)), (1, .ref (gA G c1))]) hx hb dX5_read_29 rfl hl (by decide) rfl (fun ls hl => ?_)
  exact bX5_read_30 M qc1 FU (0 : Int32) σ4 _ _ _ hf hF (lv_sub hl [1, 2, 0] rfl)
end GEN
