section GEN
variable {p : Program} {l : Launch} {e : Env} {s : State} {m : MethodId} {args : Array Value} {below : List Frame} {meth : Method} {c : Code} {G : Gl}
set_option maxHeartbeats 4000000 in
set_option maxRecDepth 100000 in
theorem cX2_empty_ok {l : Launch} {G : Gl} (hI : FI G wX) {h0 : Nat} {σ : Mem} (qh0 : isH h0) {σ' : Mem} (hf : fX2_empty h0 σ = some σ') : Ct l G wX yX2_empty cX2_empty 1 none ({ frames := 0, cells := 0, slots := 0, locals := 0 }) [.ref (gA G h0)] σ none σ' := by
  refine fl_start hI (by decide) (Nat.le_of_ble_eq_true rfl) ?_
  intro p e s m below meth c M hF ls hl
  obtain ⟨X, hb, hml, hr, hlk⟩ := id M
  have hx := X.1
  have hl : lv_has ls 1 [(0, .ref (gA G h0))] := hl
  unfold fX2_empty at hf
  refine lv_aload_n hx hb dX2_empty_0 rfl (lv_at hl 0 rfl) ?_
  refine lv_iconst (v := (0 : Int32)) hx hb dX2_empty_1 (by decide) ?_
  refine pf_X2_18 X hb hF (sh_H qh0) dX2_empty_2 (fun H locs hF => ?_)
  refine lv_aload_n hx hb dX2_empty_5 rfl (lv_at hl 0 rfl) ?_
  refine lv_iconst (v := (0 : Int32)) hx hb dX2_empty_6 (by decide) ?_
  refine pf_X2_22 X hb hF (sh_H qh0) dX2_empty_7 (fun H locs hF => ?_)
  obtain rfl := Option.some.inj hf
  exact fl_vret X hb hr hlk hF dX2_empty_10
set_option maxHeartbeats 4000000 in
set_option maxRecDepth 100000 in
theorem bX2_copy_2 {σ' : Mem} {h0 : Nat} {h1 : Nat} (M : MX p s m args meth c RX2 G wX cX2_copy 3 none) (qh0 : isH h0) (qh1 : isH h1) : ∀ (fu : Nat) (x2 : Int32) (σ : Mem) (H : Heap) (locs : List Loc) (ls : Array Slot), fX2_copy_2 h0 h1 fu x2 σ = some σ' → FH G wX s.heap H locs σ → lv_has ls 3 [(0, .ref (gA G h0)), (1, .ref (gA G h1)), (2, .int x2)] → WG p l e ({ frames := 0, cells := 0, slots := 0, locals := 0 }) s m args below meth c G wX none σ' H locs 2 ls [] := by
  obtain ⟨X, hb, hml, hr, hlk⟩ := id M
  have hx := X.1
  intro fu
  induction fu with
  | zero =>
    intro x2 σ H locs ls hf hF hl
    rw [fX2_copy_2] at hf
    cases hf
  | succ fu ih =>
    intro x2 σ H locs ls hf hF hl
    rw [fX2_copy_2] at hf
    refine lv_iload_n hx hb dX2_copy_2 rfl (lv_at hl 2 rfl) ?_
    refine lv_bipush (v := (6 : Int32)) hx hb dX2_copy_3 (by decide) ?_
    refine lv_icmp_ge (tgt := 38) hx hb dX2_copy_5 (by decide) (fun cd1 => ?_) (fun cd1 => ?_)
    · replace hf := ifp cd1 hf
      refine lv_aload_n hx hb dX2_copy_38 rfl (lv_at hl 0 rfl) ?_
      refine lv_aload_n hx hb dX2_copy_39 rfl (lv_at hl 1 rfl) ?_
      refine gf_X2_18 X hb hF (sh_H qh1) dX2_copy_40 ?_
      refine pf_X2_18 X hb hF (sh_H qh0) dX2_copy_43 (fun H locs hF => ?_)
      refine lv_aload_n hx hb dX2_copy_46 rfl (lv_at hl 0 rfl) ?_
      refine lv_aload_n hx hb dX2_copy_47 rfl (lv_at hl 1 rfl) ?_
      refine gf_X2_22 X hb hF (sh_H qh1) dX2_copy_48 ?_
      refine pf_X2_22 X hb hF (sh_H qh0) dX2_copy_51 (fun H locs hF => ?_)
      obtain rfl := Option.some.inj hf
      exact fl_vret X hb hr hlk hF dX2_copy_54
    · replace hf := ifn cd1 hf
      refine lv_aload_n hx hb dX2_copy_8 rfl (lv_at hl 0 rfl) ?_
      refine gf_X2_9 X hb hF (sh_H qh0) dX2_copy_9 ?_
      refine lv_iload_n hx hb dX2_copy_12 rfl (lv_at hl 2 rfl) ?_
      refine lv_aload_n hx hb dX2_copy_13 rfl (lv_at hl 1 rfl) ?_
      refine gf_X2_9 X hb hF (sh_H qh1) dX2_copy_14 ?_
      refine lv_iload_n hx hb dX2_copy_17 rfl (lv_at hl 2 rfl) ?_
      obtain ⟨g2, hf⟩ := grd_some hf
      refine fl_iald X hb hF (sh_He qh1) g2 dX2_copy_18 ?_
      obtain ⟨g3, hf⟩ := grd_some hf
      refine fl_iast X hb hF (sh_He qh0) g3 dX2_copy_19 (fun H locs hF => ?_)
      refine lv_aload_n hx hb dX2_copy_20 rfl (lv_at hl 0 rfl) ?_
      refine gf_X2_15 X hb hF (sh_H qh0) dX2_copy_21 ?_
      refine lv_iload_n hx hb dX2_copy_24 rfl (lv_at hl 2 rfl) ?_
      refine lv_aload_n hx hb dX2_copy_25 rfl (lv_at hl 1 rfl) ?_
      refine gf_X2_15 X hb hF (sh_H qh1) dX2_copy_26 ?_
      refine lv_iload_n hx hb dX2_copy_29 rfl (lv_at hl 2 rfl) ?_
      obtain ⟨g4, hf⟩ := grd_some hf
      refine fl_iald X hb hF (sh_Hy qh1) g4 dX2_copy_30 ?_
      obtain ⟨g5, hf⟩ := grd_some hf
      refine fl_iast X hb hF (sh_Hy qh0) g5 dX2_copy_31 (fun H locs hF => ?_)
      refine lv_iinc (v := x2 + (1 : Int32)) (lv' := [(2, .int (x2 + (1 : Int32))), (0, .ref (gA G h0)), (1, .ref (gA G h1))]) hx hb dX2_copy_32 hl (k := 2) rfl rfl (by decide) rfl (fun ls hl => ?_)
      refine lv_goto (tgt := 2) hx hb dX2_copy_35 (by decide) ?_
      exact ih (x2 + (1 : Int32)) (mup (mup σ (h0 + 1) x2.toNatClampNeg (σ (h1 + 1) x2.toNatClampNeg)) (h0 + 2) x2.toNatClampNeg ((mup σ (h0 + 1) x2.toNatClampNeg (σ (h1 + 1) x2.toNatClampNeg)) (h1 + 2) x2.toNatClampNeg)) _ _ _ hf hF (lv_sub hl [1, 2, 0] rfl)
set_option maxHeartbeats 4000000 in
set_option maxRecDepth 100000 in
theorem cX2_copy_ok {l : Launch} {G : Gl} (hI : FI G wX) {h0 : Nat} {h1 : Nat} {σ : Mem} (qh0 : isH h0) (qh1 : isH h1) {σ' : Mem} (hf : fX2_copy h0 h1 σ = some σ') : Ct l G wX yX2_copy cX2_copy 3 none ({ frames := 0, cells := 0, slots := 0, locals := 0 }) [.ref (gA G h0), .ref (gA G h1)] σ none σ' := by
  refine fl_start hI (by decide) (Nat.le_of_ble_eq_true rfl) ?_
  intro p e s m below meth c M hF ls hl
  obtain ⟨X, hb, hml, hr, hlk⟩ := id M
  have hx := X.1
  have hl : lv_has ls 3 [(0, .ref (gA G h0)), (1, .ref (gA G h1))] := hl
  unfold fX2_copy at hf
  refine lv_iconst (v := (0 : Int32)) hx hb dX2_copy_0 (by decide) ?_
  refine lv_istore_n (lv' := [(2, .int (0 : Int32)), (0, .ref (gA G h0)), (1, .ref (gA G h1))]) hx hb dX2_copy_1 rfl hl (by decide) rfl (fun ls hl => ?_)
  exact bX2_copy_2 M qh0 qh1 FU (0 : Int32) σ _ _ _ hf hF (lv_sub hl [1, 2, 0] rfl)
set_option maxHeartbeats 4000000 in
set_option maxRecDepth 100000 in
theorem cX2_entriesLeft_ok {l : Launch} {G : Gl} (hI : FI G wX) {h0 : Nat} {σ : Mem} (qh0 : isH h0) {r : Int32} (hf : fX2_entriesLeft h0 σ = some r) : Ct l G wX yX2_entriesLeft cX2_entriesLeft 1 (some .int) ({ frames := 1, cells := 0, slots := 0, locals := 20 }) [.ref (gA G h0)] σ (some (.int r)) σ := by
  refine fl_start hI (by decide) (Nat.le_of_ble_eq_true rfl) ?_
  intro p e s m below meth c M hF ls hl
  obtain ⟨X, hb, hml, hr, hlk⟩ := id M
  have hx := X.1
  have hl : lv_has ls 1 [(0, .ref (gA G h0))] := hl
  unfold fX2_entriesLeft at hf
  refine lv_aload_n hx hb dX2_entriesLeft_0 rfl (lv_at hl 0 rfl) ?_
  refine gf_X2_18 X hb hF (sh_H qh0) dX2_entriesLeft_1 ?_
  refine lv_aload_n hx hb dX2_entriesLeft_4 rfl (lv_at hl 0 rfl) ?_
  refine gf_X2_22 X hb hF (sh_H qh0) dX2_entriesLeft_5 ?_
  obtain ⟨r2, hq1, hf⟩ := bi_some hf
  refine cm_X2_25 (As := [.int (σ h0 3)]) (rest := [.int (σ h0 2)]) X hb hml hF (cJ6_bitCount_0f7a4_ok (l := l) (G := G) (σ := σ) X.2.2.2.2 hq1) ⟨Nat.le_of_ble_eq_true rfl, Nat.le_of_ble_eq_true rfl⟩ rfl rfl ⟨Nat.zero_le _, Nat.zero_le _⟩ rfl hl.1 rfl (Nat.le_of_ble_eq_true rfl) dX2_entriesLeft_8 (fun H locs hF => ?_)
  refine lv_isub hx hb dX2_entriesLeft_11 ?_
  obtain rfl := Option.some.inj hf
  exact fl_iret X hb hr hlk hF dX2_entriesLeft_12
set_option maxHeartbeats 4000000 in
set_option maxRecDepth 100000 in
theorem cX2_isStruck_ok {l : Launch} {G : Gl} (hI : FI G wX) {h0 : Nat} {x1 : Int32} {σ : Mem} (qh0 : isH h0) {r : Int32} (hf : fX2_isStruck h0 x1 σ = some r) : Ct l G wX yX2_isStruck cX2_isStruck 2 (some .boolean) ({ frames := 0, cells := 0, slots := 0, locals := 0 }) [.ref (gA G h0), .int x1] σ (some (.int r)) σ := by
  refine fl_start hI (by decide) (Nat.le_of_ble_eq_true rfl) ?_
  intro p e s m below meth c M hF ls hl
  obtain ⟨X, hb, hml, hr, hlk⟩ := id M
  have hx := X.1
  have hl : lv_has ls 2 [(0, .ref (gA G h0)), (1, .int x1)] := hl
  unfold fX2_isStruck at hf
  refine lv_aload_n hx hb dX2_isStruck_0 rfl (lv_at hl 0 rfl) ?_
  refine gf_X2_22 X hb hF (sh_H qh0) dX2_isStruck_1 ?_
  refine lv_iload_n hx hb dX2_isStruck_4 rfl (lv_at hl 1 rfl) ?_
  refine lv_ishr hx hb dX2_isStruck_5 ?_
  refine lv_iconst (v := (1 : Int32)) hx hb dX2_isStruck_6 (by decide) ?_
  refine lv_iand hx hb dX2_isStruck_7 ?_
  refine lv_if_eq (tgt := 15) hx hb dX2_isStruck_8 (by decide) (fun cd1 => ?_) (fun cd1 => ?_)
  · replace hf := ifp cd1 hf
    refine lv_iconst (v := (0 : Int32)) hx hb dX2_isStruck_15 (by decide) ?_
    obtain rfl := Option.some.inj hf
    exact fl_zret X hb hr hlk hF (Or.inl rfl) dX2_isStruck_16
  · replace hf := ifn cd1 hf
    refine lv_iconst (v := (1 : Int32)) hx hb dX2_isStruck_11 (by decide) ?_
    refine lv_goto (tgt := 16) hx hb dX2_isStruck_12 (by decide) ?_
    obtain rfl := Option.some.inj hf
    exact fl_zret X hb hr hlk hF (Or.inr rfl) dX2_isStruck_16
set_option maxHeartbeats 4000000 in
set_option maxRecDepth 100000 in
theorem bX2_eventBits_4 {σ : Mem} {r : Int32} {h0 : Nat} (M : MX p s m args meth c RX2 G wX cX2_eventBits 3 (some .int)) (qh0 : isH h0) : ∀ (fu : Nat) (x1 : Int32) (x2 : Int32) (H : Heap) (locs : List Loc) (ls : Array Slot), fX2_eventBits_4 h0 σ fu x1 x2 = some r → FH G wX s.heap H locs σ → lv_has ls 3 [(0, .ref (gA G h0)), (1, .int x1), (2, .int x2)] → WG p l e ({ frames := 1, cells := 0, slots := 0, locals := 21 }) s m args below meth c G wX (some (.int r)) σ H locs 4 ls [] := by
  obtain ⟨X, hb, hml, hr, hlk⟩ := id M
  have hx := X.1
  intro fu
  induction fu with
  | zero =>
    intro x1 x2 H locs ls hf hF hl
    rw [fX2_eventBits_4] at hf
    cases hf
  | succ fu ih =>
    intro x1 x2 H locs ls hf hF hl
    rw [fX2_eventBits_4] at hf
    refine lv_iload_n hx hb dX2_eventBits_4 rfl (lv_at hl 2 rfl) ?_
    refine lv_aload_n hx hb dX2_eventBits_5 rfl (lv_at hl 0 rfl) ?_
    refine gf_X2_18 X hb hF (sh_H qh0) dX2_eventBits_6 ?_
    refine lv_icmp_ge (tgt := 37) hx hb dX2_eventBits_9 (by decide) (fun cd1 => ?_) (fun cd1 => ?_)
    · replace hf := ifp cd1 hf
      refine lv_iload_n hx hb dX2_eventBits_37 rfl (lv_at hl 1 rfl) ?_
      obtain rfl := Option.some.inj hf
      exact fl_iret X hb hr hlk hF dX2_eventBits_38
    · replace hf := ifn cd1 hf
      refine lv_aload_n hx hb dX2_eventBits_12 rfl (lv_at hl 0 rfl) ?_
      refine lv_iload_n hx hb dX2_eventBits_13 rfl (lv_at hl 2 rfl) ?_
      obtain ⟨r3, hq2, hf⟩ := bi_some hf
      refine cm_X2_31 (As := [.int x2]) (rest := []) X hb hml hF (cX2_isStruck_ok (l := l) (G := G) X.2.2.2.2 qh0 hq2) (sh_H qh0) ⟨Nat.le_of_ble_eq_true rfl, Nat.le_of_ble_eq_true rfl⟩ rfl rfl ⟨Nat.zero_le _, Nat.zero_le _⟩ rfl hl.1 rfl (Nat.le_of_ble_eq_true rfl) dX2_eventBits_14 (fun H locs hF => ?_)
      refine lv_if_ne (tgt := 31) hx hb dX2_eventBits_17 (by decide) (fun cd4 => ?_) (fun cd4 => ?_)
      · replace hf := ifn cd4 hf
        refine lv_iinc (v := x2 + (1 : Int32)) (lv' := [(2, .int (x2 + (1 : Int32))), (0, .ref (gA G h0)), (1, .int x1)]) hx hb dX2_eventBits_31 hl (k := 2) rfl rfl (by decide) rfl (fun ls hl => ?_)
        refine lv_goto (tgt := 4) hx hb dX2_eventBits_34 (by decide) ?_
        exact ih x1 (x2 + (1 : Int32)) _ _ _ hf hF (lv_sub hl [1, 2, 0] rfl)
      · replace hf := ifp cd4 hf
        refine lv_iload_n hx hb dX2_eventBits_20 rfl (lv_at hl 1 rfl) ?_
        refine lv_iconst (v := (1 : Int32)) hx hb dX2_eventBits_21 (by decide) ?_
        refine lv_aload_n hx hb dX2_eventBits_22 rfl (lv_at hl 0 rfl) ?_
        refine gf_X2_9 X hb hF (sh_H qh0) dX2_eventBits_23 ?_
        refine lv_iload_n hx hb dX2_eventBits_26 rfl (lv_at hl 2 rfl) ?_
        obtain ⟨g5, hf⟩ := grd_some hf
        refine fl_iald X hb hF (sh_He qh0) g5 dX2_eventBits_27 ?_
        refine lv_ishl hx hb dX2_eventBits_28 ?_
        refine lv_ior hx hb dX2_eventBits_29 ?_
        refine lv_istore_n (lv' := [(1, .int (x1 ||| ((1 : Int32) <<< ((σ (h0 + 1) x2.toNatClampNeg) &&& 31)))), (0, .ref (gA G h0)), (2, .int x2)]) hx hb dX2_eventBits_30 rfl hl (by decide) rfl (fun ls hl => ?_)
        refine lv_iinc (v := x2 + (1 : Int32)) (lv' := [(2, .int (x2 + (1 : Int32))), (1, .int (x1 ||| ((1 : Int32) <<< ((σ (h0 + 1) x2.toNatClampNeg) &&& 31)))), (0, .ref (gA G h0))]) hx hb dX2_eventBits_31 hl (k := 2) rfl rfl (by decide) rfl (fun ls hl => ?_)
        refine lv_goto (tgt := 4) hx hb dX2_eventBits_34 (by decide) ?_
        exact ih (x1 ||| ((1 : Int32) <<< ((σ (h0 + 1) x2.toNatClampNeg) &&& 31))) (x2 + (1 : Int32)) _ _ _ hf hF (lv_sub hl [2, 1, 0] rfl)
set_option maxHeartbeats 4000000 in
set_option maxRecDepth 100000 in
theorem cX2_eventBits_ok {l : Launch} {G : Gl} (hI : FI G wX) {h0 : Nat} {σ : Mem} (qh0 : isH h0) {r : Int32} (hf : fX2_eventBits h0 σ = some r) : Ct l G wX yX2_eventBits cX2_eventBits 3 (some .int) ({ frames := 1, cells := 0, slots := 0, locals := 21 }) [.ref (gA G h0)] σ (some (.int r)) σ := by
  refine fl_start hI (by decide) (Nat.le_of_ble_eq_true rfl) ?_
  intro p e s m below meth c M hF ls hl
  obtain ⟨X, hb, hml, hr, hlk⟩ := id M
  have hx := X.1
  have hl : lv_has ls 3 [(0, .ref (gA G h0))] := hl
  unfold fX2_eventBits at hf
  refine lv_iconst (v := (0 : Int32)) hx hb dX2_eventBits_0 (by decide) ?_
  refine lv_istore_n (lv' := [(1, .int (0 : Int32)), (0, .ref (gA G h0))]) hx hb dX2_eventBits_1 rfl hl (by decide) rfl (fun ls hl => ?_)
  refine lv_iconst (v := (0 : Int32)) hx hb dX2_eventBits_2 (by decide) ?_
  refine lv_istore_n (lv' := [(2, .int (0 : Int32)), (1, .int (0 : Int32)), (0, .ref (gA G h0))]) hx hb dX2_eventBits_3 rfl hl (by decide) rfl (fun ls hl => ?_)
  exact bX2_eventBits_4 M qh0 FU (0 : Int32) (0 : Int32) _ _ _ hf hF (lv_sub hl [2, 1, 0] rfl)
set_option maxHeartbeats 4000000 in
set_option maxRecDepth 100000 in
theorem bX2_placeOf_2 {σ : Mem} {r : Int32} {h0 : Nat} (M : MX p s m args meth c RX2 G wX cX2_placeOf 3 (some .int)) (qh0 : isH h0) : ∀ (fu : Nat) (x1 : Int32) (x2 : Int32) (H : Heap) (locs : List Loc) (ls : Array Slot), fX2_placeOf_2 h0 σ fu x1 x2 = some r → FH G wX s.heap H locs σ → lv_has ls 3 [(0, .ref (gA G h0)), (1, .int x1), (2, .int x2)] → WG p l e ({ frames := 1, cells := 0, slots := 0, locals := 21 }) s m args below meth c G wX (some (.int r)) σ H locs 2 ls [] := by
  obtain ⟨X, hb, hml, hr, hlk⟩ := id M
  have hx := X.1
  intro fu
  induction fu with
  | zero =>
    intro x1 x2 H locs ls hf hF hl
    rw [fX2_placeOf_2] at hf
    cases hf
  | succ fu ih =>
    intro x1 x2 H locs ls hf hF hl
    rw [fX2_placeOf_2] at hf
    refine lv_iload_n hx hb dX2_placeOf_2 rfl (lv_at hl 2 rfl) ?_
    refine lv_aload_n hx hb dX2_placeOf_3 rfl (lv_at hl 0 rfl) ?_
    refine gf_X2_18 X hb hF (sh_H qh0) dX2_placeOf_4 ?_
    refine lv_icmp_ge (tgt := 36) hx hb dX2_placeOf_7 (by decide) (fun cd1 => ?_) (fun cd1 => ?_)
    · replace hf := ifp cd1 hf
      refine lv_iconst (v := (-1 : Int32)) hx hb dX2_placeOf_36 (by decide) ?_
      obtain rfl := Option.some.inj hf
      exact fl_iret X hb hr hlk hF dX2_placeOf_37
    · replace hf := ifn cd1 hf
      refine lv_aload_n hx hb dX2_placeOf_10 rfl (lv_at hl 0 rfl) ?_
      refine gf_X2_9 X hb hF (sh_H qh0) dX2_placeOf_11 ?_
      refine lv_iload_n hx hb dX2_placeOf_14 rfl (lv_at hl 2 rfl) ?_
      obtain ⟨g2, hf⟩ := grd_some hf
      refine fl_iald X hb hF (sh_He qh0) g2 dX2_placeOf_15 ?_
      refine lv_iload_n hx hb dX2_placeOf_16 rfl (lv_at hl 1 rfl) ?_
      refine lv_icmp_ne (tgt := 30) hx hb dX2_placeOf_17 (by decide) (fun cd3 => ?_) (fun cd3 => ?_)
      · replace hf := ifn cd3 hf
        refine lv_iinc (v := x2 + (1 : Int32)) (lv' := [(2, .int (x2 + (1 : Int32))), (0, .ref (gA G h0)), (1, .int x1)]) hx hb dX2_placeOf_30 hl (k := 2) rfl rfl (by decide) rfl (fun ls hl => ?_)
        refine lv_goto (tgt := 2) hx hb dX2_placeOf_33 (by decide) ?_
        exact ih x1 (x2 + (1 : Int32)) _ _ _ hf hF (lv_sub hl [1, 2, 0] rfl)
      · replace hf := ifp cd3 hf
        refine lv_aload_n hx hb dX2_placeOf_20 rfl (lv_at hl 0 rfl) ?_
        refine lv_iload_n hx hb dX2_placeOf_21 rfl (lv_at hl 2 rfl) ?_
        obtain ⟨r5, hq4, hf⟩ := bi_some hf
        refine cm_X2_31 (As := [.int x2]) (rest := []) X hb hml hF (cX2_isStruck_ok (l := l) (G := G) X.2.2.2.2 qh0 hq4) (sh_H qh0) ⟨Nat.le_of_ble_eq_true rfl, Nat.le_of_ble_eq_true rfl⟩ rfl rfl ⟨Nat.zero_le _, Nat.zero_le _⟩ rfl hl.1 rfl (Nat.le_of_ble_eq_true rfl) dX2_placeOf_22 (fun H locs hF => ?_)
        refine lv_if_ne (tgt := 30) hx hb dX2_placeOf_25 (by decide) (fun cd6 => ?_) (fun cd6 => ?_)
        · replace hf := ifn cd6 hf
          refine lv_iinc (v := x2 + (1 : Int32)) (lv' := [(2, .int (x2 + (1 : Int32))), (0, .ref (gA G h0)), (1, .int x1)]) hx hb dX2_placeOf_30 hl (k := 2) rfl rfl (by decide) rfl (fun ls hl => ?_)
          refine lv_goto (tgt := 2) hx hb dX2_placeOf_33 (by decide) ?_
          exact ih x1 (x2 + (1 : Int32)) _ _ _ hf hF (lv_sub hl [1, 2, 0] rfl)
        · replace hf := ifp cd6 hf
          refine lv_iload_n hx hb dX2_placeOf_28 rfl (lv_at hl 2 rfl) ?_
          obtain rfl := Option.some.inj hf
          exact fl_iret X hb hr hlk hF dX2_placeOf_29
set_option maxHeartbeats 4000000 in
set_option maxRecDepth 100000 in
theorem cX2_placeOf_ok {l : Launch} {G : Gl} (hI : FI G wX) {h0 : Nat} {x1 : Int32} {σ : Mem} (qh0 : isH h0) {r : Int32} (hf : fX2_placeOf h0 x1 σ = some r) : Ct l G wX yX2_placeOf cX2_placeOf 3 (some .int) ({ frames := 1, cells := 0, slots := 0, locals := 21 }) [.ref (gA G h0), .int x1] σ (some (.int r)) σ := by
  refine fl_start hI (by decide) (Nat.le_of_ble_eq_true rfl) ?_
  intro p e s m below meth c M hF ls hl
  obtain ⟨X, hb, hml, hr, hlk⟩ := id M
  have hx := X.1
  have hl : lv_has ls 3 [(0, .ref (gA G h0)), (1, .int x1)] := hl
  unfold fX2_placeOf at hf
  refine lv_iconst (v := (0 : Int32)) hx hb dX2_placeOf_0 (by decide) ?_
  refine lv_istore_n (lv' := [(2, .int (0 : Int32)), (0, .ref (gA G h0)), (1, .int x1)]) hx hb dX2_placeOf_1 rfl hl (by decide) rfl (fun ls hl => ?_)
  exact bX2_placeOf_2 M qh0 FU x1 (0 : Int32) _ _ _ hf hF (lv_sub hl [1, 2, 0] rfl)
set_option maxHeartbeats 4000000 in
set_option maxRecDepth 100000 in
theorem cX2_turn_ok {l : Launch} {G : Gl} (hI : FI G wX) {h0 : Nat} {x1 : Int32} {σ : Mem} (qh0 : isH h0) {σ' : Mem} (hf : fX2_turn h0 x1 σ = some σ') : Ct l G wX yX2_turn cX2_turn 2 none ({ frames := 0, cells := 0, slots := 0, locals := 0 }) [.ref (gA G h0), .int x1] σ none σ' := by
  refine fl_start hI (by decide) (Nat.le_of_ble_eq_true rfl) ?_
  intro p e s m below meth c M hF ls hl
  obtain ⟨X, hb, hml, hr, hlk⟩ := id M
  have hx := X.1
  have hl : lv_has ls 2 [(0, .ref (gA G h0)), (1, .int x1)] := hl
  unfold fX2_turn at hf
  refine lv_aload_n hx hb dX2_turn_0 rfl (lv_at hl 0 rfl) ?_
  refine lv_dup hx hb dX2_turn_1 rfl ?_
  refine gf_X2_22 X hb hF (sh_H qh0) dX2_turn_2 ?_
  refine lv_iconst (v := (1 : Int32)) hx hb dX2_turn_5 (by decide) ?_
  refine lv_iload_n hx hb dX2_turn_6 rfl (lv_at hl 1 rfl) ?_
  refine lv_ishl hx hb dX2_turn_7 ?_
  refine lv_ixor hx hb dX2_turn_8 ?_
  refine pf_X2_22 X hb hF (sh_H qh0) dX2_turn_9 (fun H locs hF => ?_)
  obtain rfl := Option.some.inj hf
  exact fl_vret X hb hr hlk hF dX2_turn_12
set_option maxHeartbeats 4000000 in
set_option maxRecDepth 100000 in
theorem cX2_add_ok {l : Launch} {G : Gl} (hI : FI G wX) {h0 : Nat} {x1 : Int32} {x2 : Int32} {σ : Mem} (qh0 : isH h0) {r : Int32} {σ' : Mem} (hf : fX2_add h0 x1 x2 σ = some (r, σ')) : Ct l G wX yX2_add cX2_add 3 (some .boolean) ({ frames := 0, cells := 0, slots := 0, locals := 0 }) [.ref (gA G h0), .int x1, .int x2] σ (some (.int r)) σ' := by
  refine fl_start hI (by decide) (Nat.le_of_ble_eq_true rfl) ?_
  intro p e s m below meth c M hF ls hl
  obtain ⟨X, hb, hml, hr, hlk⟩ := id M
  have hx := X.1
  have hl : lv_has ls 3 [(0, .ref (gA G h0)), (1, .int x1), (2, .int x2)] := hl
  unfold fX2_add at hf
  refine lv_aload_n hx hb dX2_add_0 rfl (lv_at hl 0 rfl) ?_
  refine gf_X2_18 X hb hF (sh_H qh0) dX2_add_1 ?_
  refine lv_bipush (v := (6 : Int32)) hx hb dX2_add_4 (by decide) ?_
  refine lv_icmp_lt (tgt := 11) hx hb dX2_add_6 (by decide) (fun cd1 => ?_) (fun cd1 => ?_)
  · replace hf := ifp cd1 hf
    refine lv_aload_n hx hb dX2_add_11 rfl (lv_at hl 0 rfl) ?_
    refine gf_X2_9 X hb hF (sh_H qh0) dX2_add_12 ?_
    refine lv_aload_n hx hb dX2_add_15 rfl (lv_at hl 0 rfl) ?_
    refine gf_X2_18 X hb hF (sh_H qh0) dX2_add_16 ?_
    refine lv_iload_n hx hb dX2_add_19 rfl (lv_at hl 1 rfl) ?_
    obtain ⟨g2, hf⟩ := grd_some hf
    refine fl_iast X hb hF (sh_He qh0) g2 dX2_add_20 (fun H locs hF => ?_)
    refine lv_aload_n hx hb dX2_add_21 rfl (lv_at hl 0 rfl) ?_
    refine gf_X2_15 X hb hF (sh_H qh0) dX2_add_22 ?_
    refine lv_aload_n hx hb dX2_add_25 rfl (lv_at hl 0 rfl) ?_
    refine gf_X2_18 X hb hF (sh_H qh0) dX2_add_26 ?_
    refine lv_iload_n hx hb dX2_add_29 rfl (lv_at hl 2 rfl) ?_
    obtain ⟨g3, hf⟩ := grd_some hf
    refine fl_iast X hb hF (sh_Hy qh0) g3 dX2_add_30 (fun H locs hF => ?_)
    refine lv_aload_n hx hb dX2_add_31 rfl (lv_at hl 0 rfl) ?_
    refine lv_dup hx hb dX2_add_32 rfl ?_
    refine gf_X2_18 X hb hF (sh_H qh0) dX2_add_33 ?_
    refine lv_iconst (v := (1 : Int32)) hx hb dX2_add_36 (by decide) ?_
    refine lv_iadd hx hb dX2_add_37 ?_
    refine pf_X2_18 X hb hF (sh_H qh0) dX2_add_38 (fun H locs hF => ?_)
    refine lv_iconst (v := (1 : Int32)) hx hb dX2_add_41 (by decide) ?_
    obtain ⟨rfl, rfl⟩ := Prod.mk.inj (Option.some.inj hf)
    exact fl_zret X hb hr hlk hF (Or.inr rfl) dX2_add_42
  · replace hf := ifn cd1 hf
    refine lv_iconst (v := (0 : Int32)) hx hb dX2_add_9 (by decide) ?_
    obtain ⟨rfl, rfl⟩ := Prod.mk.inj (Option.some.inj hf)
    exact fl_zret X hb hr hlk hF (Or.inl rfl) dX2_add_10
set_option maxHeartbeats 4000000 in
set_option maxRecDepth 100000 in
theorem bX2_mayTell_49 {σ : Mem} {r : Int32} {h0 : Nat} (M : MX p s m args meth c RX2 G wX cX2_mayTell 5 (some .boolean)) (qh0 : isH h0) : ∀ (x3 : Int32) (s0 : Int32) (H : Heap) (locs : List Loc) (ls : Array Slot), fX2_mayTell_49 h0 σ x3 s0 = some r → FH G wX s.heap H locs σ → lv_has ls 5 [(3, .int x3)] → WG p l e ({ frames := 0, cells := 0, slots := 0, locals := 0 }) s m args below meth c G wX (some (.int r)) σ H locs 49 ls [.int s0] := by
  obtain ⟨X, hb, hml, hr, hlk⟩ := id M
  have hx := X.1
  intro x3 s0 H locs ls hf hF hl
  unfold fX2_mayTell_49 at hf
  refine lv_istore (lv' := [(4, .int s0), (3, .int x3)]) hx hb dX2_mayTell_49 hl (by decide) rfl (fun ls hl => ?_)
  refine lv_iload_n hx hb dX2_mayTell_51 rfl (lv_at hl 1 rfl) ?_
  refine lv_if_eq (tgt := 64) hx hb dX2_mayTell_52 (by decide) (fun cd3 => ?_) (fun cd3 => ?_)
  · replace hf := ifp cd3 hf
    refine lv_iconst (v := (0 : Int32)) hx hb dX2_mayTell_64 (by decide) ?_
    obtain rfl := Option.some.inj hf
    exact fl_zret X hb hr hlk hF (Or.inl rfl) dX2_mayTell_65
  · replace hf := ifn cd3 hf
    refine lv_iload hx hb dX2_mayTell_55 (lv_at hl 0 rfl) ?_
    refine lv_if_eq (tgt := 64) hx hb dX2_mayTell_57 (by decide) (fun cd4 => ?_) (fun cd4 => ?_)
    · replace hf := ifp cd4 hf
      refine lv_iconst (v := (0 : Int32)) hx hb dX2_mayTell_64 (by decide) ?_
      obtain rfl := Option.some.inj hf
      exact fl_zret X hb hr hlk hF (Or.inl rfl) dX2_mayTell_65
    · replace hf := ifn cd4 hf
      refine lv_iconst (v := (1 : Int32)) hx hb dX2_mayTell_60 (by decide) ?_
      refine lv_goto (tgt := 65) hx hb dX2_mayTell_61 (by decide) ?_
      obtain rfl := Option.some.inj hf
      exact fl_zret X hb hr hlk hF (Or.inr rfl) dX2_mayTell_65
set_option maxHeartbeats 4000000 in
set_option maxRecDepth 100000 in
theorem bX2_mayTell_44 {σ : Mem} {r : Int32} {h0 : Nat} (M : MX p s m args meth c RX2 G wX cX2_mayTell 5 (some .boolean)) (qh0 : isH h0) : ∀ (x3 : Int32) (H : Heap) (locs : List Loc) (ls : Array Slot), fX2_mayTell_44 h0 σ x3 = some r → FH G wX s.heap H locs σ → lv_has ls 5 [(3, .int x3)] → WG p l e ({ frames := 0, cells := 0, slots := 0, locals := 0 }) s m args below meth c G wX (some (.int r)) σ H locs 44 ls [] := by
  obtain ⟨X, hb, hml, hr, hlk⟩ := id M
  have hx := X.1
  intro x3 H locs ls hf hF hl
  unfold fX2_mayTell_44 at hf
  refine lv_iconst (v := (1 : Int32)) hx hb dX2_mayTell_44 (by decide) ?_
  refine lv_goto (tgt := 49) hx hb dX2_mayTell_45 (by decide) ?_
  exact bX2_mayTell_49 M qh0 x3 (1 : Int32) _ _ _ hf hF (lv_sub hl [0] rfl)
set_option maxHeartbeats 4000000 in
set_option maxRecDepth 100000 in
theorem bX2_mayTell_21 {σ : Mem} {r : Int32} {h0 : Nat} (M : MX p s m args meth c RX2 G wX cX2_mayTell 5 (some .boolean)) (qh0 : isH h0) : ∀ (x1 : Int32) (x2 : Int32) (s0 : Int32) (H : Heap) (locs : List Loc) (ls : Array Slot), fX2_mayTell_21 h0 σ x1 x2 s0 = some r → FH G wX s.heap H locs σ → lv_has ls 5 [(0, .ref (gA G h0)), (1, .int x1), (2, .int x2)] → WG p l e ({ frames := 0, cells := 0, slots := 0, locals := 0 }) s m args below meth c G wX (some (.int r)) σ H locs 21 ls [.int s0] := by
  obtain ⟨X, hb, hml, hr, hlk⟩ := id M
  have hx := X.1
  intro x1 x2 s0 H locs ls hf hF hl
  unfold fX2_mayTell_21 at hf
  refine lv_istore_n (lv' := [(3, .int s0), (0, .ref (gA G h0)), (1, .int x1), (2, .int x2)]) hx hb dX2_mayTell_21 rfl hl (by decide) rfl (fun ls hl => ?_)
  refine lv_iload_n hx hb dX2_mayTell_22 rfl (lv_at hl 2 rfl) ?_
  refine lv_iconst (v := (1 : Int32)) hx hb dX2_mayTell_23 (by decide) ?_
  refine lv_iadd hx hb dX2_mayTell_24 ?_
  refine lv_aload_n hx hb dX2_mayTell_25 rfl (lv_at hl 1 rfl) ?_
  refine gf_X2_18 X hb hF (sh_H qh0) dX2_mayTell_26 ?_
  refine lv_icmp_ge (tgt := 44) hx hb dX2_mayTell_29 (by decide) (fun cd2 => ?_) (fun cd2 => ?_)
  · replace hf := ifp cd2 hf
    exact bX2_mayTell_44 M qh0 s0 _ _ _ hf hF (lv_sub hl [0] rfl)
  · replace hf := ifn cd2 hf
    refine lv_iload_n hx hb dX2_mayTell_32 rfl (lv_at hl 3 rfl) ?_
    refine lv_aload_n hx hb dX2_mayTell_33 rfl (lv_at hl 1 rfl) ?_
    refine gf_X2_15 X hb hF (sh_H qh0) dX2_mayTell_34 ?_
    refine lv_iload_n hx hb dX2_mayTell_37 rfl (lv_at hl 2 rfl) ?_
    refine lv_iconst (v := (1 : Int32)) hx hb dX2_mayTell_38 (by decide) ?_
    refine lv_iadd hx hb dX2_mayTell_39 ?_
    obtain ⟨g5, hf⟩ := grd_some hf
    refine fl_iald X hb hF (sh_Hy qh0) g5 dX2_mayTell_40 ?_
    refine lv_icmp_gt (tgt := 48) hx hb dX2_mayTell_41 (by decide) (fun cd6 => ?_) (fun cd6 => ?_)
    · replace hf := ifp cd6 hf
      refine lv_iconst (v := (0 : Int32)) hx hb dX2_mayTell_48 (by decide) ?_
      exact bX2_mayTell_49 M qh0 s0 (0 : Int32) _ _ _ hf hF (lv_sub hl [0] rfl)
    · replace hf := ifn cd6 hf
      exact bX2_mayTell_44 M qh0 s0 _ _ _ hf hF (lv_sub hl [0] rfl)
set_option maxHeartbeats 4000000 in
set_option maxRecDepth 100000 in
theorem bX2_mayTell_16 {σ : Mem} {r : Int32} {h0 : Nat} (M : MX p s m args meth c RX2 G wX cX2_mayTell 5 (some .boolean)) (qh0 : isH h0) : ∀ (x1 : Int32) (x2 : Int32) (H : Heap) (locs : List Loc) (ls : Array Slot), fX2_mayTell_16 h0 σ x1 x2 = some r → FH G wX s.heap H locs σ → lv_has ls 5 [(0, .ref (gA G h0)), (1, .int x1), (2, .int x2)] → WG p l e ({ frames := 0, cells := 0, slots := 0, locals := 0 }) s m args below meth c G wX (some (.int r)) σ H locs 16 ls [] := by
  obtain ⟨X, hb, hml, hr, hlk⟩ := id M
  have hx := X.1
  intro x1 x2 H locs ls hf hF hl
  unfold fX2_mayTell_16 at hf
  refine lv_iconst (v := (1 : Int32)) hx hb dX2_mayTell_16 (by decide) ?_
  refine lv_goto (tgt := 21) hx hb dX2_mayTell_17 (by decide) ?_
  exact bX2_mayTell_21 M qh0 x1 x2 (1 : Int32) _ _ _ hf hF (lv_sub hl [0, 1, 2] rfl)
set_option maxHeartbeats 4000000 in
set_option maxRecDepth 100000 in
theorem cX2_mayTell_ok {l : Launch} {G : Gl} (hI : FI G wX) {h0 : Nat} {x1 : Int32} {x2 : Int32} {σ : Mem} (qh0 : isH h0) {r : Int32} (hf : fX2_mayTell h0 x1 x2 σ = some r) : Ct l G wX yX2_mayTell cX2_mayTell 5 (some .boolean) ({ frames := 0, cells := 0, slots := 0, locals := 0 }) [.ref (gA G h0), .int x1, .int x2] σ (some (.int r)) σ := by
  refine fl_start hI (by decide) (Nat.le_of_ble_eq_true rfl) ?_
  intro p e s m below meth c M hF ls hl
  obtain ⟨X, hb, hml, hr, hlk⟩ := id M
  have hx := X.1
  have hl : lv_has ls 5 [(0, .ref (gA G h0)), (1, .int x1), (2, .int x2)] := hl
  unfold fX2_mayTell at hf
  refine lv_iload_n hx hb dX2_mayTell_0 rfl (lv_at hl 1 rfl) ?_
  refine lv_if_le (tgt := 16) hx hb dX2_mayTell_1 (by decide) (fun cd1 => ?_) (fun cd1 => ?_)
  · replace hf := ifp cd1 hf
    exact bX2_mayTell_16 M qh0 x1 x2 _ _ _ hf hF (lv_sub hl [0, 1, 2] rfl)
  · replace hf := ifn cd1 hf
    refine lv_iload_n hx hb dX2_mayTell_4 rfl (lv_at hl 2 rfl) ?_
    refine lv_aload_n hx hb dX2_mayTell_5 rfl (lv_at hl 0 rfl) ?_
    refine gf_X2_15 X hb hF (sh_H qh0) dX2_mayTell_6 ?_
    refine lv_iload_n hx hb dX2_mayTell_9 rfl (lv_at hl 1 rfl) ?_
    refine lv_iconst (v := (1 : Int32)) hx hb dX2_mayTell_10 (by decide) ?_
    refine lv_isub hx hb dX2_mayTell_11 ?_
    obtain ⟨g7, hf⟩ := grd_some hf
    refine fl_iald X hb hF (sh_Hy qh0) g7 dX2_mayTell_12 ?_
    refine lv_icmp_lt (tgt := 20) hx hb dX2_mayTell_13 (by decide) (fun cd8 => ?_) (fun cd8 => ?_)
    · replace hf := ifp cd8 hf
      refine lv_iconst (v := (0 : Int32)) hx hb dX2_mayTell_20 (by decide) ?_
      exact bX2_mayTell_21 M qh0 x1 x2 (0 : Int32) _ _ _ hf hF (lv_sub hl [0, 1, 2] rfl)
    · replace hf := ifn cd8 hf
      exact bX2_mayTell_16 M qh0 x1 x2 _ _ _ hf hF (lv_sub hl [0, 1, 2] rfl)
end GEN
