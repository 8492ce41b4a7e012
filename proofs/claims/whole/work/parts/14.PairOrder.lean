section GEN
variable {p : Program} {l : Launch} {e : Env} {s : State} {m : MethodId} {args : Array Value} {below : List Frame} {meth : Method} {c : Code} {G : Gl}
set_option maxHeartbeats 4000000 in
set_option maxRecDepth 100000 in
theorem bX3_empty_2 {σ' : Mem} (M : MX p s m args meth c RX3 G wX cX3_empty 2 none) : ∀ (fu : Nat) (x1 : Int32) (σ : Mem) (H : Heap) (locs : List Loc) (ls : Array Slot), fX3_empty_2 fu x1 σ = some σ' → FH G wX s.heap H locs σ → lv_has ls 2 [(0, .ref (gA G 12)), (1, .int x1)] → WG p l e ({ frames := 0, cells := 0, slots := 0, locals := 0 }) s m args below meth c G wX none σ' H locs 2 ls [] := by
  obtain ⟨X, hb, hml, hr, hlk⟩ := id M
  have hx := X.1
  intro fu
  induction fu with
  | zero =>
    intro x1 σ H locs ls hf hF hl
    rw [fX3_empty_2] at hf
    cases hf
  | succ fu ih =>
    intro x1 σ H locs ls hf hF hl
    rw [fX3_empty_2] at hf
    refine lv_iload_n hx hb dX3_empty_2 rfl (lv_at hl 1 rfl) ?_
    refine lv_bipush (v := (8 : Int32)) hx hb dX3_empty_3 (by decide) ?_
    refine lv_icmp_ge (tgt := 21) hx hb dX3_empty_5 (by decide) (fun cd1 => ?_) (fun cd1 => ?_)
    · replace hf := ifp cd1 hf
      obtain rfl := Option.some.inj hf
      exact fl_vret X hb hr hlk hF dX3_empty_21
    · replace hf := ifn cd1 hf
      refine lv_aload_n hx hb dX3_empty_8 rfl (lv_at hl 0 rfl) ?_
      refine gf_X3_9 X hb hF sh_X3 dX3_empty_9 ?_
      refine lv_iload_n hx hb dX3_empty_12 rfl (lv_at hl 1 rfl) ?_
      refine lv_iconst (v := (0 : Int32)) hx hb dX3_empty_13 (by decide) ?_
      obtain ⟨g2, hf⟩ := grd_some hf
      refine fl_iast X hb hF sh_a13 g2 dX3_empty_14 (fun H locs hF => ?_)
      refine lv_iinc (v := x1 + (1 : Int32)) (lv' := [(1, .int (x1 + (1 : Int32))), (0, .ref (gA G 12))]) hx hb dX3_empty_15 hl (k := 1) rfl rfl (by decide) rfl (fun ls hl => ?_)
      refine lv_goto (tgt := 2) hx hb dX3_empty_18 (by decide) ?_
      exact ih (x1 + (1 : Int32)) (mup σ 13 x1.toNatClampNeg (0 : Int32)) _ _ _ hf hF (lv_sub hl [1, 0] rfl)
set_option maxHeartbeats 4000000 in
set_option maxRecDepth 100000 in
theorem cX3_empty_ok {l : Launch} {G : Gl} (hI : FI G wX) {σ : Mem} {σ' : Mem} (hf : fX3_empty σ = some σ') : Ct l G wX yX3_empty cX3_empty 2 none ({ frames := 0, cells := 0, slots := 0, locals := 0 }) [.ref (gA G 12)] σ none σ' := by
  refine fl_start hI (by decide) (Nat.le_of_ble_eq_true rfl) ?_
  intro p e s m below meth c M hF ls hl
  obtain ⟨X, hb, hml, hr, hlk⟩ := id M
  have hx := X.1
  have hl : lv_has ls 2 [(0, .ref (gA G 12))] := hl
  unfold fX3_empty at hf
  refine lv_iconst (v := (0 : Int32)) hx hb dX3_empty_0 (by decide) ?_
  refine lv_istore_n (lv' := [(1, .int (0 : Int32)), (0, .ref (gA G 12))]) hx hb dX3_empty_1 rfl hl (by decide) rfl (fun ls hl => ?_)
  exact bX3_empty_2 M FU (0 : Int32) σ _ _ _ hf hF (lv_sub hl [1, 0] rfl)
set_option maxHeartbeats 4000000 in
set_option maxRecDepth 100000 in
theorem bX3_ask_42 {σ' : Mem} {h1 : Nat} {k2 : Int32 → Int32 → Mem → Option Mem} {k15 : Int32 → Int32 → Int32 → Mem → Option Mem} (M : MX p s m args meth c RX3 G wX cX3_ask 6 none) (qh1 : isH h1) (hk2 : ∀ (x2 : Int32) (x3 : Int32) (σ : Mem) (H : Heap) (locs : List Loc) (ls : Array Slot), k2 x2 x3 σ = some σ' → FH G wX s.heap H locs σ → lv_has ls 6 [(0, .ref (gA G 12)), (1, .ref (gA G h1)), (2, .int x2), (3, .int x3)] → WG p l e ({ frames := 0, cells := 0, slots := 0, locals := 0 }) s m args below meth c G wX none σ' H locs 2 ls []) (hk15 : ∀ (x2 : Int32) (x3 : Int32) (x4 : Int32) (σ : Mem) (H : Heap) (locs : List Loc) (ls : Array Slot), k15 x2 x3 x4 σ = some σ' → FH G wX s.heap H locs σ → lv_has ls 6 [(0, .ref (gA G 12)), (1, .ref (gA G h1)), (2, .int x2), (3, .int x3), (4, .int x4)] → WG p l e ({ frames := 0, cells := 0, slots := 0, locals := 0 }) s m args below meth c G wX none σ' H locs 15 ls []) : ∀ (x2 : Int32) (x3 : Int32) (x4 : Int32) (s0 : Int32) (σ : Mem) (H : Heap) (locs : List Loc) (ls : Array Slot), fX3_ask_42 k2 k15 h1 x2 x3 x4 s0 σ = some σ' → FH G wX s.heap H locs σ → lv_has ls 6 [(0, .ref (gA G 12)), (1, .ref (gA G h1)), (2, .int x2), (3, .int x3), (4, .int x4)] → WG p l e ({ frames := 0, cells := 0, slots := 0, locals := 0 }) s m args below meth c G wX none σ' H locs 42 ls [.int s0] := by
  obtain ⟨X, hb, hml, hr, hlk⟩ := id M
  have hx := X.1
  intro x2 x3 x4 s0 σ H locs ls hf hF hl
  unfold fX3_ask_42 at hf
  refine lv_istore (lv' := [(5, .int s0), (0, .ref (gA G 12)), (1, .ref (gA G h1)), (2, .int x2), (3, .int x3), (4, .int x4)]) hx hb dX3_ask_42 hl (by decide) rfl (fun ls hl => ?_)
  refine lv_iload hx hb dX3_ask_44 (lv_at hl 0 rfl) ?_
  refine lv_if_eq (tgt := 88) hx hb dX3_ask_46 (by decide) (fun cd4 => ?_) (fun cd4 => ?_)
  · replace hf := ifp cd4 hf
    refine lv_iinc (v := x4 + (1 : Int32)) (lv' := [(4, .int (x4 + (1 : Int32))), (5, .int s0), (0, .ref (gA G 12)), (1, .ref (gA G h1)), (2, .int x2), (3, .int x3)]) hx hb dX3_ask_88 hl (k := 5) rfl rfl (by decide) rfl (fun ls hl => ?_)
    refine lv_goto (tgt := 15) hx hb dX3_ask_91 (by decide) ?_
    exact hk15 x2 x3 (x4 + (1 : Int32)) σ _ _ _ hf hF (lv_sub hl [2, 3, 4, 5, 0] rfl)
  · replace hf := ifn cd4 hf
    refine lv_aload_n hx hb dX3_ask_49 rfl (lv_at hl 2 rfl) ?_
    refine gf_X3_44 X hb hF (sh_H qh1) dX3_ask_50 ?_
    refine lv_iload_n hx hb dX3_ask_53 rfl (lv_at hl 4 rfl) ?_
    obtain ⟨g5, hf⟩ := grd_some hf
    refine fl_iald X hb hF (sh_Hy qh1) g5 dX3_ask_54 ?_
    refine lv_aload_n hx hb dX3_ask_55 rfl (lv_at hl 2 rfl) ?_
    refine gf_X3_44 X hb hF (sh_H qh1) dX3_ask_56 ?_
    refine lv_iload hx hb dX3_ask_59 (lv_at hl 5 rfl) ?_
    obtain ⟨g6, hf⟩ := grd_some hf
    refine fl_iald X hb hF (sh_Hy qh1) g6 dX3_ask_61 ?_
    refine lv_icmp_ge (tgt := 88) hx hb dX3_ask_62 (by decide) (fun cd7 => ?_) (fun cd7 => ?_)
    · replace hf := ifp cd7 hf
      refine lv_iinc (v := x4 + (1 : Int32)) (lv' := [(4, .int (x4 + (1 : Int32))), (5, .int s0), (0, .ref (gA G 12)), (1, .ref (gA G h1)), (2, .int x2), (3, .int x3)]) hx hb dX3_ask_88 hl (k := 5) rfl rfl (by decide) rfl (fun ls hl => ?_)
      refine lv_goto (tgt := 15) hx hb dX3_ask_91 (by decide) ?_
      exact hk15 x2 x3 (x4 + (1 : Int32)) σ _ _ _ hf hF (lv_sub hl [2, 3, 4, 5, 0] rfl)
    · replace hf := ifn cd7 hf
      refine lv_aload_n hx hb dX3_ask_65 rfl (lv_at hl 1 rfl) ?_
      refine gf_X3_9 X hb hF sh_X3 dX3_ask_66 ?_
      refine lv_aload_n hx hb dX3_ask_69 rfl (lv_at hl 2 rfl) ?_
      refine gf_X3_47 X hb hF (sh_H qh1) dX3_ask_70 ?_
      refine lv_iload_n hx hb dX3_ask_73 rfl (lv_at hl 4 rfl) ?_
      obtain ⟨g8, hf⟩ := grd_some hf
      refine fl_iald X hb hF (sh_He qh1) g8 dX3_ask_74 ?_
      refine lv_dup2_11 hx hb dX3_ask_75 rfl rfl ?_
      obtain ⟨g9, hf⟩ := grd_some hf
      refine fl_iald X hb hF sh_a13 g9 dX3_ask_76 ?_
      refine lv_iconst (v := (1 : Int32)) hx hb dX3_ask_77 (by decide) ?_
      refine lv_aload_n hx hb dX3_ask_78 rfl (lv_at hl 2 rfl) ?_
      refine gf_X3_47 X hb hF (sh_H qh1) dX3_ask_79 ?_
      refine lv_iload hx hb dX3_ask_82 (lv_at hl 5 rfl) ?_
      obtain ⟨g10, hf⟩ := grd_some hf
      refine fl_iald X hb hF (sh_He qh1) g10 dX3_ask_84 ?_
      refine lv_ishl hx hb dX3_ask_85 ?_
      refine lv_ior hx hb dX3_ask_86 ?_
      obtain ⟨g11, hf⟩ := grd_some hf
      refine fl_iast X hb hF sh_a13 g11 dX3_ask_87 (fun H locs hF => ?_)
      refine lv_iinc (v := x4 + (1 : Int32)) (lv' := [(4, .int (x4 + (1 : Int32))), (5, .int s0), (0, .ref (gA G 12)), (1, .ref (gA G h1)), (2, .int x2), (3, .int x3)]) hx hb dX3_ask_88 hl (k := 5) rfl rfl (by decide) rfl (fun ls hl => ?_)
      refine lv_goto (tgt := 15) hx hb dX3_ask_91 (by decide) ?_
      exact hk15 x2 x3 (x4 + (1 : Int32)) (mup σ 13 (σ (h1 + 1) x3.toNatClampNeg).toNatClampNeg ((σ 13 (σ (h1 + 1) x3.toNatClampNeg).toNatClampNeg) ||| ((1 : Int32) <<< ((σ (h1 + 1) x4.toNatClampNeg) &&& 31)))) _ _ _ hf hF (lv_sub hl [2, 3, 4, 5, 0] rfl)
set_option maxHeartbeats 4000000 in
set_option maxRecDepth 100000 in
theorem bX3_ask_15 {σ' : Mem} {h1 : Nat} {k2 : Int32 → Int32 → Mem → Option Mem} (M : MX p s m args meth c RX3 G wX cX3_ask 6 none) (qh1 : isH h1) (hk2 : ∀ (x2 : Int32) (x3 : Int32) (σ : Mem) (H : Heap) (locs : List Loc) (ls : Array Slot), k2 x2 x3 σ = some σ' → FH G wX s.heap H locs σ → lv_has ls 6 [(0, .ref (gA G 12)), (1, .ref (gA G h1)), (2, .int x2), (3, .int x3)] → WG p l e ({ frames := 0, cells := 0, slots := 0, locals := 0 }) s m args below meth c G wX none σ' H locs 2 ls []) : ∀ (fu : Nat) (x2 : Int32) (x3 : Int32) (x4 : Int32) (σ : Mem) (H : Heap) (locs : List Loc) (ls : Array Slot), fX3_ask_15 k2 h1 fu x2 x3 x4 σ = some σ' → FH G wX s.heap H locs σ → lv_has ls 6 [(0, .ref (gA G 12)), (1, .ref (gA G h1)), (2, .int x2), (3, .int x3), (4, .int x4)] → WG p l e ({ frames := 0, cells := 0, slots := 0, locals := 0 }) s m args below meth c G wX none σ' H locs 15 ls [] := by
  obtain ⟨X, hb, hml, hr, hlk⟩ := id M
  have hx := X.1
  intro fu
  induction fu with
  | zero =>
    intro x2 x3 x4 σ H locs ls hf hF hl
    rw [fX3_ask_15] at hf
    cases hf
  | succ fu ih =>
    intro x2 x3 x4 σ H locs ls hf hF hl
    rw [fX3_ask_15] at hf
    refine lv_iload hx hb dX3_ask_15 (lv_at hl 4 rfl) ?_
    refine lv_aload_n hx hb dX3_ask_17 rfl (lv_at hl 1 rfl) ?_
    refine gf_X3_43 X hb hF (sh_H qh1) dX3_ask_18 ?_
    refine lv_icmp_ge (tgt := 94) hx hb dX3_ask_21 (by decide) (fun cd2 => ?_) (fun cd2 => ?_)
    · replace hf := ifp cd2 hf
      refine lv_iinc (v := x3 + (1 : Int32)) (lv' := [(3, .int (x3 + (1 : Int32))), (0, .ref (gA G 12)), (1, .ref (gA G h1)), (2, .int x2), (4, .int x4)]) hx hb dX3_ask_94 hl (k := 3) rfl rfl (by decide) rfl (fun ls hl => ?_)
      refine lv_goto (tgt := 2) hx hb dX3_ask_97 (by decide) ?_
      exact hk2 x2 (x3 + (1 : Int32)) σ _ _ _ hf hF (lv_sub hl [1, 2, 3, 0] rfl)
    · replace hf := ifn cd2 hf
      refine lv_iload_n hx hb dX3_ask_24 rfl (lv_at hl 2 rfl) ?_
      refine lv_iload_n hx hb dX3_ask_25 rfl (lv_at hl 3 rfl) ?_
      refine lv_ishr hx hb dX3_ask_26 ?_
      refine lv_iload_n hx hb dX3_ask_27 rfl (lv_at hl 2 rfl) ?_
      refine lv_iload hx hb dX3_ask_28 (lv_at hl 4 rfl) ?_
      refine lv_ishr hx hb dX3_ask_30 ?_
      refine lv_ior hx hb dX3_ask_31 ?_
      refine lv_iconst (v := (1 : Int32)) hx hb dX3_ask_32 (by decide) ?_
      refine lv_iand hx hb dX3_ask_33 ?_
      refine lv_if_ne (tgt := 41) hx hb dX3_ask_34 (by decide) (fun cd3 => ?_) (fun cd3 => ?_)
      · replace hf := ifn cd3 hf
        refine lv_iconst (v := (0 : Int32)) hx hb dX3_ask_41 (by decide) ?_
        exact bX3_ask_42 M qh1 hk2 ih x2 x3 x4 (0 : Int32) σ _ _ _ hf hF (lv_sub hl [0, 1, 2, 3, 4] rfl)
      · replace hf := ifp cd3 hf
        refine lv_iconst (v := (1 : Int32)) hx hb dX3_ask_37 (by decide) ?_
        refine lv_goto (tgt := 42) hx hb dX3_ask_38 (by decide) ?_
        exact bX3_ask_42 M qh1 hk2 ih x2 x3 x4 (1 : Int32) σ _ _ _ hf hF (lv_sub hl [0, 1, 2, 3, 4] rfl)
set_option maxHeartbeats 4000000 in
set_option maxRecDepth 100000 in
theorem bX3_ask_2 {σ' : Mem} {h1 : Nat} (M : MX p s m args meth c RX3 G wX cX3_ask 6 none) (qh1 : isH h1) : ∀ (fu : Nat) (x2 : Int32) (x3 : Int32) (σ : Mem) (H : Heap) (locs : List Loc) (ls : Array Slot), fX3_ask_2 h1 fu x2 x3 σ = some σ' → FH G wX s.heap H locs σ → lv_has ls 6 [(0, .ref (gA G 12)), (1, .ref (gA G h1)), (2, .int x2), (3, .int x3)] → WG p l e ({ frames := 0, cells := 0, slots := 0, locals := 0 }) s m args below meth c G wX none σ' H locs 2 ls [] := by
  obtain ⟨X, hb, hml, hr, hlk⟩ := id M
  have hx := X.1
  intro fu
  induction fu with
  | zero =>
    intro x2 x3 σ H locs ls hf hF hl
    rw [fX3_ask_2] at hf
    cases hf
  | succ fu ih =>
    intro x2 x3 σ H locs ls hf hF hl
    rw [fX3_ask_2] at hf
    refine lv_iload_n hx hb dX3_ask_2 rfl (lv_at hl 3 rfl) ?_
    refine lv_aload_n hx hb dX3_ask_3 rfl (lv_at hl 1 rfl) ?_
    refine gf_X3_43 X hb hF (sh_H qh1) dX3_ask_4 ?_
    refine lv_icmp_ge (tgt := 100) hx hb dX3_ask_7 (by decide) (fun cd1 => ?_) (fun cd1 => ?_)
    · replace hf := ifp cd1 hf
      obtain rfl := Option.some.inj hf
      exact fl_vret X hb hr hlk hF dX3_ask_100
    · replace hf := ifn cd1 hf
      refine lv_iload_n hx hb dX3_ask_10 rfl (lv_at hl 3 rfl) ?_
      refine lv_iconst (v := (1 : Int32)) hx hb dX3_ask_11 (by decide) ?_
      refine lv_iadd hx hb dX3_ask_12 ?_
      refine lv_istore (lv' := [(4, .int (x3 + (1 : Int32))), (0, .ref (gA G 12)), (1, .ref (gA G h1)), (2, .int x2), (3, .int x3)]) hx hb dX3_ask_13 hl (by decide) rfl (fun ls hl => ?_)
      exact bX3_ask_15 M qh1 ih FU x2 x3 (x3 + (1 : Int32)) σ _ _ _ hf hF (lv_sub hl [1, 2, 3, 4, 0] rfl)
set_option maxHeartbeats 4000000 in
set_option maxRecDepth 100000 in
theorem cX3_ask_ok {l : Launch} {G : Gl} (hI : FI G wX) {h1 : Nat} {x2 : Int32} {σ : Mem} (qh1 : isH h1) {σ' : Mem} (hf : fX3_ask h1 x2 σ = some σ') : Ct l G wX yX3_ask cX3_ask 6 none ({ frames := 0, cells := 0, slots := 0, locals := 0 }) [.ref (gA G 12), .ref (gA G h1), .int x2] σ none σ' := by
  refine fl_start hI (by decide) (Nat.le_of_ble_eq_true rfl) ?_
  intro p e s m below meth c M hF ls hl
  obtain ⟨X, hb, hml, hr, hlk⟩ := id M
  have hx := X.1
  have hl : lv_has ls 6 [(0, .ref (gA G 12)), (1, .ref (gA G h1)), (2, .int x2)] := hl
  unfold fX3_ask at hf
  refine lv_iconst (v := (0 : Int32)) hx hb dX3_ask_0 (by decide) ?_
  refine lv_istore_n (lv' := [(3, .int (0 : Int32)), (0, .ref (gA G 12)), (1, .ref (gA G h1)), (2, .int x2)]) hx hb dX3_ask_1 rfl hl (by decide) rfl (fun ls hl => ?_)
  exact bX3_ask_2 M qh1 FU x2 (0 : Int32) σ _ _ _ hf hF (lv_sub hl [1, 2, 3, 0] rfl)
set_option maxHeartbeats 4000000 in
set_option maxRecDepth 100000 in
theorem bX3_chain_36 {σ' : Mem} {k28 : Int32 → Mem → Option Mem} (M : MX p s m args meth c RX3 G wX cX3_chain 3 none) (hk28 : ∀ (x1 : Int32) (σ : Mem) (H : Heap) (locs : List Loc) (ls : Array Slot), k28 x1 σ = some σ' → FH G wX s.heap H locs σ → lv_has ls 3 [(0, .ref (gA G 12)), (1, .int x1)] → WG p l e ({ frames := 0, cells := 0, slots := 0, locals := 0 }) s m args below meth c G wX none σ' H locs 28 ls []) : ∀ (fu : Nat) (x1 : Int32) (x2 : Int32) (σ : Mem) (H : Heap) (locs : List Loc) (ls : Array Slot), fX3_chain_36 k28 fu x1 x2 σ = some σ' → FH G wX s.heap H locs σ → lv_has ls 3 [(0, .ref (gA G 12)), (1, .int x1), (2, .int x2)] → WG p l e ({ frames := 0, cells := 0, slots := 0, locals := 0 }) s m args below meth c G wX none σ' H locs 36 ls [] := by
  obtain ⟨X, hb, hml, hr, hlk⟩ := id M
  have hx := X.1
  intro fu
  induction fu with
  | zero =>
    intro x1 x2 σ H locs ls hf hF hl
    rw [fX3_chain_36] at hf
    cases hf
  | succ fu ih =>
    intro x1 x2 σ H locs ls hf hF hl
    rw [fX3_chain_36] at hf
    refine lv_iload_n hx hb dX3_chain_36 rfl (lv_at hl 2 rfl) ?_
    refine lv_bipush (v := (8 : Int32)) hx hb dX3_chain_37 (by decide) ?_
    refine lv_icmp_ge (tgt := 76) hx hb dX3_chain_39 (by decide) (fun cd3 => ?_) (fun cd3 => ?_)
    · replace hf := ifp cd3 hf
      refine lv_iinc (v := x1 + (1 : Int32)) (lv' := [(1, .int (x1 + (1 : Int32))), (0, .ref (gA G 12)), (2, .int x2)]) hx hb dX3_chain_76 hl (k := 1) rfl rfl (by decide) rfl (fun ls hl => ?_)
      refine lv_goto (tgt := 28) hx hb dX3_chain_79 (by decide) ?_
      exact hk28 (x1 + (1 : Int32)) σ _ _ _ hf hF (lv_sub hl [1, 0] rfl)
    · replace hf := ifn cd3 hf
      refine lv_aload_n hx hb dX3_chain_42 rfl (lv_at hl 0 rfl) ?_
      refine gf_X3_15 X hb hF sh_X3 dX3_chain_43 ?_
      refine lv_iload_n hx hb dX3_chain_46 rfl (lv_at hl 2 rfl) ?_
      obtain ⟨g4, hf⟩ := grd_some hf
      refine fl_iald X hb hF sh_a14 g4 dX3_chain_47 ?_
      refine lv_iload_n hx hb dX3_chain_48 rfl (lv_at hl 1 rfl) ?_
      refine lv_ishr hx hb dX3_chain_49 ?_
      refine lv_iconst (v := (1 : Int32)) hx hb dX3_chain_50 (by decide) ?_
      refine lv_iand hx hb dX3_chain_51 ?_
      refine lv_if_eq (tgt := 70) hx hb dX3_chain_52 (by decide) (fun cd5 => ?_) (fun cd5 => ?_)
      · replace hf := ifp cd5 hf
        refine lv_iinc (v := x2 + (1 : Int32)) (lv' := [(2, .int (x2 + (1 : Int32))), (0, .ref (gA G 12)), (1, .int x1)]) hx hb dX3_chain_70 hl (k := 2) rfl rfl (by decide) rfl (fun ls hl => ?_)
        refine lv_goto (tgt := 36) hx hb dX3_chain_73 (by decide) ?_
        exact ih x1 (x2 + (1 : Int32)) σ _ _ _ hf hF (lv_sub hl [1, 2, 0] rfl)
      · replace hf := ifn cd5 hf
        refine lv_aload_n hx hb dX3_chain_55 rfl (lv_at hl 0 rfl) ?_
        refine gf_X3_15 X hb hF sh_X3 dX3_chain_56 ?_
        refine lv_iload_n hx hb dX3_chain_59 rfl (lv_at hl 2 rfl) ?_
        refine lv_dup2_11 hx hb dX3_chain_60 rfl rfl ?_
        obtain ⟨g6, hf⟩ := grd_some hf
        refine fl_iald X hb hF sh_a14 g6 dX3_chain_61 ?_
        refine lv_aload_n hx hb dX3_chain_62 rfl (lv_at hl 0 rfl) ?_
        refine gf_X3_15 X hb hF sh_X3 dX3_chain_63 ?_
        refine lv_iload_n hx hb dX3_chain_66 rfl (lv_at hl 1 rfl) ?_
        obtain ⟨g7, hf⟩ := grd_some hf
        refine fl_iald X hb hF sh_a14 g7 dX3_chain_67 ?_
        refine lv_ior hx hb dX3_chain_68 ?_
        obtain ⟨g8, hf⟩ := grd_some hf
        refine fl_iast X hb hF sh_a14 g8 dX3_chain_69 (fun H locs hF => ?_)
        refine lv_iinc (v := x2 + (1 : Int32)) (lv' := [(2, .int (x2 + (1 : Int32))), (0, .ref (gA G 12)), (1, .int x1)]) hx hb dX3_chain_70 hl (k := 2) rfl rfl (by decide) rfl (fun ls hl => ?_)
        refine lv_goto (tgt := 36) hx hb dX3_chain_73 (by decide) ?_
        exact ih x1 (x2 + (1 : Int32)) (mup σ 14 x2.toNatClampNeg ((σ 14 x2.toNatClampNeg) ||| (σ 14 x1.toNatClampNeg))) _ _ _ hf hF (lv_sub hl [1, 2, 0] rfl)
set_option maxHeartbeats 4000000 in
set_option maxRecDepth 100000 in
theorem bX3_chain_28 {σ' : Mem} (M : MX p s m args meth c RX3 G wX cX3_chain 3 none) : ∀ (fu : Nat) (x1 : Int32) (σ : Mem) (H : Heap) (locs : List Loc) (ls : Array Slot), fX3_chain_28 fu x1 σ = some σ' → FH G wX s.heap H locs σ → lv_has ls 3 [(0, .ref (gA G 12)), (1, .int x1)] → WG p l e ({ frames := 0, cells := 0, slots := 0, locals := 0 }) s m args below meth c G wX none σ' H locs 28 ls [] := by
  obtain ⟨X, hb, hml, hr, hlk⟩ := id M
  have hx := X.1
  intro fu
  induction fu with
  | zero =>
    intro x1 σ H locs ls hf hF hl
    rw [fX3_chain_28] at hf
    cases hf
  | succ fu ih =>
    intro x1 σ H locs ls hf hF hl
    rw [fX3_chain_28] at hf
    refine lv_iload_n hx hb dX3_chain_28 rfl (lv_at hl 1 rfl) ?_
    refine lv_bipush (v := (8 : Int32)) hx hb dX3_chain_29 (by decide) ?_
    refine lv_icmp_ge (tgt := 82) hx hb dX3_chain_31 (by decide) (fun cd2 => ?_) (fun cd2 => ?_)
    · replace hf := ifp cd2 hf
      obtain rfl := Option.some.inj hf
      exact fl_vret X hb hr hlk hF dX3_chain_82
    · replace hf := ifn cd2 hf
      refine lv_iconst (v := (0 : Int32)) hx hb dX3_chain_34 (by decide) ?_
      refine lv_istore_n (lv' := [(2, .int (0 : Int32)), (0, .ref (gA G 12)), (1, .int x1)]) hx hb dX3_chain_35 rfl hl (by decide) rfl (fun ls hl => ?_)
      exact bX3_chain_36 M ih FU x1 (0 : Int32) σ _ _ _ hf hF (lv_sub hl [1, 2, 0] rfl)
set_option maxHeartbeats 4000000 in
set_option maxRecDepth 100000 in
theorem bX3_chain_2 {σ' : Mem} (M : MX p s m args meth c RX3 G wX cX3_chain 3 none) : ∀ (fu : Nat) (x1 : Int32) (σ : Mem) (H : Heap) (locs : List Loc) (ls : Array Slot), fX3_chain_2 fu x1 σ = some σ' → FH G wX s.heap H locs σ → lv_has ls 3 [(0, .ref (gA G 12)), (1, .int x1)] → WG p l e ({ frames := 0, cells := 0, slots := 0, locals := 0 }) s m args below meth c G wX none σ' H locs 2 ls [] := by
  obtain ⟨X, hb, hml, hr, hlk⟩ := id M
  have hx := X.1
  intro fu
  induction fu with
  | zero =>
    intro x1 σ H locs ls hf hF hl
    rw [fX3_chain_2] at hf
    cases hf
  | succ fu ih =>
    intro x1 σ H locs ls hf hF hl
    rw [fX3_chain_2] at hf
    refine lv_iload_n hx hb dX3_chain_2 rfl (lv_at hl 1 rfl) ?_
    refine lv_bipush (v := (8 : Int32)) hx hb dX3_chain_3 (by decide) ?_
    refine lv_icmp_ge (tgt := 26) hx hb dX3_chain_5 (by decide) (fun cd1 => ?_) (fun cd1 => ?_)
    · replace hf := ifp cd1 hf
      refine lv_iconst (v := (0 : Int32)) hx hb dX3_chain_26 (by decide) ?_
      refine lv_istore_n (lv' := [(1, .int (0 : Int32)), (0, .ref (gA G 12))]) hx hb dX3_chain_27 rfl hl (by decide) rfl (fun ls hl => ?_)
      exact bX3_chain_28 M FU (0 : Int32) σ _ _ _ hf hF (lv_sub hl [1, 0] rfl)
    · replace hf := ifn cd1 hf
      refine lv_aload_n hx hb dX3_chain_8 rfl (lv_at hl 0 rfl) ?_
      refine gf_X3_15 X hb hF sh_X3 dX3_chain_9 ?_
      refine lv_iload_n hx hb dX3_chain_12 rfl (lv_at hl 1 rfl) ?_
      refine lv_aload_n hx hb dX3_chain_13 rfl (lv_at hl 0 rfl) ?_
      refine gf_X3_9 X hb hF sh_X3 dX3_chain_14 ?_
      refine lv_iload_n hx hb dX3_chain_17 rfl (lv_at hl 1 rfl) ?_
      obtain ⟨g9, hf⟩ := grd_some hf
      refine fl_iald X hb hF sh_a13 g9 dX3_chain_18 ?_
      obtain ⟨g10, hf⟩ := grd_some hf
      refine fl_iast X hb hF sh_a14 g10 dX3_chain_19 (fun H locs hF => ?_)
      refine lv_iinc (v := x1 + (1 : Int32)) (lv' := [(1, .int (x1 + (1 : Int32))), (0, .ref (gA G 12))]) hx hb dX3_chain_20 hl (k := 1) rfl rfl (by decide) rfl (fun ls hl => ?_)
      refine lv_goto (tgt := 2) hx hb dX3_chain_23 (by decide) ?_
      exact ih (x1 + (1 : Int32)) (mup σ 14 x1.toNatClampNeg (σ 13 x1.toNatClampNeg)) _ _ _ hf hF (lv_sub hl [1, 0] rfl)
set_option maxHeartbeats 4000000 in
set_option maxRecDepth 100000 in
theorem cX3_chain_ok {l : Launch} {G : Gl} (hI : FI G wX) {σ : Mem} {σ' : Mem} (hf : fX3_chain σ = some σ') : Ct l G wX yX3_chain cX3_chain 3 none ({ frames := 0, cells := 0, slots := 0, locals := 0 }) [.ref (gA G 12)] σ none σ' := by
  refine fl_start hI (by decide) (Nat.le_of_ble_eq_true rfl) ?_
  intro p e s m below meth c M hF ls hl
  obtain ⟨X, hb, hml, hr, hlk⟩ := id M
  have hx := X.1
  have hl : lv_has ls 3 [(0, .ref (gA G 12))] := hl
  unfold fX3_chain at hf
  refine lv_iconst (v := (0 : Int32)) hx hb dX3_chain_0 (by decide) ?_
  refine lv_istore_n (lv' := [(1, .int (0 : Int32)), (0, .ref (gA G 12))]) hx hb dX3_chain_1 rfl hl (by decide) rfl (fun ls hl => ?_)
  exact bX3_chain_2 M FU (0 : Int32) σ _ _ _ hf hF (lv_sub hl [1, 0] rfl)
set_option maxHeartbeats 4000000 in
set_option maxRecDepth 100000 in
theorem bX3_look_6 {σ' : Mem} {c1 : Nat} (M : MX p s m args meth c RX3 G wX cX3_look 4 none) (qc1 : isC c1) : ∀ (fu : Nat) (x2 : Int32) (x3 : Int32) (σ : Mem) (H : Heap) (locs : List Loc) (ls : Array Slot), fX3_look_6 c1 fu x2 x3 σ = some σ' → FH G wX s.heap H locs σ → lv_has ls 4 [(0, .ref (gA G 12)), (1, .ref (gA G c1)), (2, .int x2), (3, .int x3)] → WG p l e ({ frames := 1, cells := 0, slots := 0, locals := 25 }) s m args below meth c G wX none σ' H locs 6 ls [] := by
  obtain ⟨X, hb, hml, hr, hlk⟩ := id M
  have hx := X.1
  intro fu
  induction fu with
  | zero =>
    intro x2 x3 σ H locs ls hf hF hl
    rw [fX3_look_6] at hf
    cases hf
  | succ fu ih =>
    intro x2 x3 σ H locs ls hf hF hl
    rw [fX3_look_6] at hf
    refine lv_iload_n hx hb dX3_look_6 rfl (lv_at hl 3 rfl) ?_
    refine lv_aload_n hx hb dX3_look_7 rfl (lv_at hl 1 rfl) ?_
    refine gf_X3_21 X hb hF (sh_C qc1) dX3_look_8 ?_
    refine lv_icmp_ge (tgt := 47) hx hb dX3_look_11 (by decide) (fun cd3 => ?_) (fun cd3 => ?_)
    · replace hf := ifp cd3 hf
      refine lv_aload_n hx hb dX3_look_47 rfl (lv_at hl 0 rfl) ?_
      obtain ⟨σ5, hq4, hf⟩ := bv_some hf
      refine cm_X3_40 (As := []) (rest := []) X hb hml hF (cX3_chain_ok (l := l) (G := G) X.2.2.2.2 hq4) sh_X3 ⟨Nat.le_of_ble_eq_true rfl, Nat.le_of_ble_eq_true rfl⟩ rfl rfl ⟨Nat.zero_le _, Nat.zero_le _⟩ rfl hl.1 rfl (Nat.le_of_ble_eq_true rfl) dX3_look_48 (fun H locs hF => ?_)
      obtain rfl := Option.some.inj hf
      exact fl_vret X hb hr hlk hF dX3_look_51
    · replace hf := ifn cd3 hf
      refine lv_iload_n hx hb dX3_look_14 rfl (lv_at hl 2 rfl) ?_
      refine lv_iload_n hx hb dX3_look_15 rfl (lv_at hl 3 rfl) ?_
      refine lv_ishr hx hb dX3_look_16 ?_
      refine lv_iconst (v := (1 : Int32)) hx hb dX3_look_17 (by decide) ?_
      refine lv_iand hx hb dX3_look_18 ?_
      refine lv_if_ne (tgt := 41) hx hb dX3_look_19 (by decide) (fun cd6 => ?_) (fun cd6 => ?_)
      · replace hf := ifn cd6 hf
        refine lv_iinc (v := x3 + (1 : Int32)) (lv' := [(3, .int (x3 + (1 : Int32))), (0, .ref (gA G 12)), (1, .ref (gA G c1)), (2, .int x2)]) hx hb dX3_look_41 hl (k := 3) rfl rfl (by decide) rfl (fun ls hl => ?_)
        refine lv_goto (tgt := 6) hx hb dX3_look_44 (by decide) ?_
        exact ih x2 (x3 + (1 : Int32)) σ _ _ _ hf hF (lv_sub hl [1, 2, 3, 0] rfl)
      · replace hf := ifp cd6 hf
        refine lv_aload_n hx hb dX3_look_22 rfl (lv_at hl 0 rfl) ?_
        refine lv_aload_n hx hb dX3_look_23 rfl (lv_at hl 1 rfl) ?_
        refine gf_X3_27 X hb hF (sh_C qc1) dX3_look_24 ?_
        refine lv_iload_n hx hb dX3_look_27 rfl (lv_at hl 3 rfl) ?_
        obtain ⟨g7, hf⟩ := grd_some hf
        refine fl_aaldH X hb hF (sh_Ca qc1) g7 dX3_look_28 ?_
        refine lv_aload_n hx hb dX3_look_29 rfl (lv_at hl 1 rfl) ?_
        refine gf_X3_27 X hb hF (sh_C qc1) dX3_look_30 ?_
        refine lv_iload_n hx hb dX3_look_33 rfl (lv_at hl 3 rfl) ?_
        obtain ⟨g8, hf⟩ := grd_some hf
        refine fl_aaldH X hb hF (sh_Ca qc1) g8 dX3_look_34 ?_
        refine gf_X3_31 X hb hF (sh_H (isH_mk qc1 g8)) dX3_look_35 ?_
        obtain ⟨σ10, hq9, hf⟩ := bv_some hf
        refine cm_X3_36 (As := [.ref (gA G (c1 + 2 + 3 * x3.toNatClampNeg)), .int (σ (c1 + 2 + 3 * x3.toNatClampNeg) 3)]) (rest := []) X hb hml hF (cX3_ask_ok (l := l) (G := G) X.2.2.2.2 (isH_mk qc1 g7) hq9) sh_X3 ⟨Nat.le_of_ble_eq_true rfl, Nat.le_of_ble_eq_true rfl⟩ rfl rfl ⟨Nat.zero_le _, Nat.zero_le _⟩ rfl hl.1 rfl (Nat.le_of_ble_eq_true rfl) dX3_look_38 (fun H locs hF => ?_)
        refine lv_iinc (v := x3 + (1 : Int32)) (lv' := [(3, .int (x3 + (1 : Int32))), (0, .ref (gA G 12)), (1, .ref (gA G c1)), (2, .int x2)]) hx hb dX3_look_41 hl (k := 3) rfl rfl (by decide) rfl (fun ls hl => ?_)
        refine lv_goto (tgt := 6) hx hb dX3_look_44 (by decide) ?_
        exact ih x2 (x3 + (1 : Int32)) σ10 _ _ _ hf hF (lv_sub hl [1, 2, 3, 0] rfl)
set_option maxHeartbeats 4000000 in
set_option maxRecDepth 100000 in
theorem cX3_look_ok {l : Launch} {G : Gl} (hI : FI G wX) {c1 : Nat} {x2 : Int32} {σ : Mem} (qc1 : isC c1) {σ' : Mem} (hf : fX3_look c1 x2 σ = some σ') : Ct l G wX yX3_look cX3_look 4 none ({ frames := 1, cells := 0, slots := 0, locals := 25 }) [.ref (gA G 12), .ref (gA G c1), .int x2] σ none σ' := by
  refine fl_start hI (by decide) (Nat.le_of_ble_eq_true rfl) ?_
  intro p e s m below meth c M hF ls hl
  obtain ⟨X, hb, hml, hr, hlk⟩ := id M
  have hx := X.1
  have hl : lv_has ls 4 [(0, .ref (gA G 12)), (1, .ref (gA G c1)), (2, .int x2)] := hl
  unfold fX3_look at hf
  refine lv_aload_n hx hb dX3_look_0 rfl (lv_at hl 0 rfl) ?_
  obtain ⟨σ2, hq1, hf⟩ := bv_some hf
  refine cm_X3_18 (As := []) (rest := []) X hb hml hF (cX3_empty_ok (l := l) (G := G) X.2.2.2.2 hq1) sh_X3 ⟨Nat.le_of_ble_eq_true rfl, Nat.le_of_ble_eq_true rfl⟩ rfl rfl ⟨Nat.zero_le _, Nat.zero_le _⟩ rfl hl.1 rfl (Nat.le_of_ble_eq_true rfl) dX3_look_1 (fun H locs hF => ?_)
  refine lv_iconst (v := (0 : Int32)) hx hb dX3_look_4 (by decide) ?_
  refine lv_istore_n (lv' := [(3, .int (0 : Int32)), (0, .ref (gA G 12)), (1, .ref (gA G c1)), (2, .int x2)]) hx hb dX3_look_5 rfl hl (by decide) rfl (fun ls hl => ?_)
  exact bX3_look_6 M qc1 FU x2 (0 : Int32) σ2 _ _ _ hf hF (lv_sub hl [1, 2, 3, 0] rfl)
set_option maxHeartbeats 4000000 in
set_option maxRecDepth 100000 in
theorem bX3_lookStruck_29 {σ' : Mem} {c1 : Nat} {k7 : Int32 → Int32 → Int32 → Mem → Option Mem} (M : MX p s m args meth c RX3 G wX cX3_lookStruck 6 none) (qc1 : isC c1) (hk7 : ∀ (x2 : Int32) (x3 : Int32) (x4 : Int32) (σ : Mem) (H : Heap) (locs : List Loc) (ls : Array Slot), k7 x2 x3 x4 σ = some σ' → FH G wX s.heap H locs σ → lv_has ls 6 [(0, .ref (gA G 12)), (1, .ref (gA G c1)), (2, .int x2), (3, .int x3), (4, .int x4)] → WG p l e ({ frames := 1, cells := 0, slots := 0, locals := 25 }) s m args below meth c G wX none σ' H locs 7 ls []) : ∀ (x2 : Int32) (x3 : Int32) (x4 : Int32) (s0 : Int32) (σ : Mem) (H : Heap) (locs : List Loc) (ls : Array Slot), fX3_lookStruck_29 k7 c1 x2 x3 x4 s0 σ = some σ' → FH G wX s.heap H locs σ → lv_has ls 6 [(0, .ref (gA G 12)), (1, .ref (gA G c1)), (2, .int x2), (3, .int x3), (4, .int x4)] → WG p l e ({ frames := 1, cells := 0, slots := 0, locals := 25 }) s m args below meth c G wX none σ' H locs 29 ls [.int s0] := by
  obtain ⟨X, hb, hml, hr, hlk⟩ := id M
  have hx := X.1
  intro x2 x3 x4 s0 σ H locs ls hf hF hl
  unfold fX3_lookStruck_29 at hf
  refine lv_istore (lv' := [(5, .int s0), (0, .ref (gA G 12)), (1, .ref (gA G c1)), (2, .int x2), (3, .int x3), (4, .int x4)]) hx hb dX3_lookStruck_29 hl (by decide) rfl (fun ls hl => ?_)
  refine lv_aload_n hx hb dX3_lookStruck_31 rfl (lv_at hl 1 rfl) ?_
  refine lv_aload_n hx hb dX3_lookStruck_32 rfl (lv_at hl 2 rfl) ?_
  refine gf_X3_27 X hb hF (sh_C qc1) dX3_lookStruck_33 ?_
  refine lv_iload hx hb dX3_lookStruck_36 (lv_at hl 5 rfl) ?_
  obtain ⟨g7, hf⟩ := grd_some hf
  refine fl_aaldH X hb hF (sh_Ca qc1) g7 dX3_lookStruck_38 ?_
  refine lv_aload_n hx hb dX3_lookStruck_39 rfl (lv_at hl 2 rfl) ?_
  refine gf_X3_27 X hb hF (sh_C qc1) dX3_lookStruck_40 ?_
  refine lv_iload hx hb dX3_lookStruck_43 (lv_at hl 5 rfl) ?_
  obtain ⟨g8, hf⟩ := grd_some hf
  refine fl_aaldH X hb hF (sh_Ca qc1) g8 dX3_lookStruck_45 ?_
  refine gf_X3_31 X hb hF (sh_H (isH_mk qc1 g8)) dX3_lookStruck_46 ?_
  refine lv_iload hx hb dX3_lookStruck_49 (lv_at hl 0 rfl) ?_
  refine lv_ior hx hb dX3_lookStruck_51 ?_
  obtain ⟨σ10, hq9, hf⟩ := bv_some hf
  refine cm_X3_36 (As := [.ref (gA G (c1 + 2 + 3 * x4.toNatClampNeg)), .int ((σ (c1 + 2 + 3 * x4.toNatClampNeg) 3) ||| s0)]) (rest := []) X hb hml hF (cX3_ask_ok (l := l) (G := G) X.2.2.2.2 (isH_mk qc1 g7) hq9) sh_X3 ⟨Nat.le_of_ble_eq_true rfl, Nat.le_of_ble_eq_true rfl⟩ rfl rfl ⟨Nat.zero_le _, Nat.zero_le _⟩ rfl hl.1 rfl (Nat.le_of_ble_eq_true rfl) dX3_lookStruck_52 (fun H locs hF => ?_)
  refine lv_iinc (v := x4 + (1 : Int32)) (lv' := [(4, .int (x4 + (1 : Int32))), (5, .int s0), (0, .ref (gA G 12)), (1, .ref (gA G c1)), (2, .int x2), (3, .int x3)]) hx hb dX3_lookStruck_55 hl (k := 5) rfl rfl (by decide) rfl (fun ls hl => ?_)
  refine lv_goto (tgt := 7) hx hb dX3_lookStruck_58 (by decide) ?_
  exact hk7 x2 x3 (x4 + (1 : Int32)) σ10 _ _ _ hf hF (lv_sub hl [2, 3, 4, 5, 0] rfl)
set_option maxHeartbeats 4000000 in
set_option maxRecDepth 100000 in
theorem bX3_lookStruck_7 {σ' : Mem} {c1 : Nat} (M : MX p s m args meth c RX3 G wX cX3_lookStruck 6 none) (qc1 : isC c1) : ∀ (fu : Nat) (x2 : Int32) (x3 : Int32) (x4 : Int32) (σ : Mem) (H : Heap) (locs : List Loc) (ls : Array Slot), fX3_lookStruck_7 c1 fu x2 x3 x4 σ = some σ' → FH G wX s.heap H locs σ → lv_has ls 6 [(0, .ref (gA G 12)), (1, .ref (gA G c1)), (2, .int x2), (3, .int x3), (4, .int x4)] → WG p l e ({ frames := 1, cells := 0, slots := 0, locals := 25 }) s m args below meth c G wX none σ' H locs 7 ls [] := by
  obtain ⟨X, hb, hml, hr, hlk⟩ := id M
  have hx := X.1
  intro fu
  induction fu with
  | zero =>
    intro x2 x3 x4 σ H locs ls hf hF hl
    rw [fX3_lookStruck_7] at hf
    cases hf
  | succ fu ih =>
    intro x2 x3 x4 σ H locs ls hf hF hl
    rw [fX3_lookStruck_7] at hf
    refine lv_iload hx hb dX3_lookStruck_7 (lv_at hl 4 rfl) ?_
    refine lv_aload_n hx hb dX3_lookStruck_9 rfl (lv_at hl 1 rfl) ?_
    refine gf_X3_21 X hb hF (sh_C qc1) dX3_lookStruck_10 ?_
    refine lv_icmp_ge (tgt := 61) hx hb dX3_lookStruck_13 (by decide) (fun cd3 => ?_) (fun cd3 => ?_)
    · replace hf := ifp cd3 hf
      refine lv_aload_n hx hb dX3_lookStruck_61 rfl (lv_at hl 0 rfl) ?_
      obtain ⟨σ5, hq4, hf⟩ := bv_some hf
      refine cm_X3_40 (As := []) (rest := []) X hb hml hF (cX3_chain_ok (l := l) (G := G) X.2.2.2.2 hq4) sh_X3 ⟨Nat.le_of_ble_eq_true rfl, Nat.le_of_ble_eq_true rfl⟩ rfl rfl ⟨Nat.zero_le _, Nat.zero_le _⟩ rfl hl.1 rfl (Nat.le_of_ble_eq_true rfl) dX3_lookStruck_62 (fun H locs hF => ?_)
      obtain rfl := Option.some.inj hf
      exact fl_vret X hb hr hlk hF dX3_lookStruck_65
    · replace hf := ifn cd3 hf
      refine lv_iload hx hb dX3_lookStruck_16 (lv_at hl 4 rfl) ?_
      refine lv_iload_n hx hb dX3_lookStruck_18 rfl (lv_at hl 2 rfl) ?_
      refine lv_icmp_ne (tgt := 28) hx hb dX3_lookStruck_19 (by decide) (fun cd6 => ?_) (fun cd6 => ?_)
      · replace hf := ifn cd6 hf
        refine lv_iconst (v := (0 : Int32)) hx hb dX3_lookStruck_28 (by decide) ?_
        exact bX3_lookStruck_29 M qc1 ih x2 x3 x4 (0 : Int32) σ _ _ _ hf hF (lv_sub hl [0, 1, 2, 3, 4] rfl)
      · replace hf := ifp cd6 hf
        refine lv_iconst (v := (1 : Int32)) hx hb dX3_lookStruck_22 (by decide) ?_
        refine lv_iload_n hx hb dX3_lookStruck_23 rfl (lv_at hl 3 rfl) ?_
        refine lv_ishl hx hb dX3_lookStruck_24 ?_
        refine lv_goto (tgt := 29) hx hb dX3_lookStruck_25 (by decide) ?_
        exact bX3_lookStruck_29 M qc1 ih x2 x3 x4 ((1 : Int32) <<< (x3 &&& 31)) σ _ _ _ hf hF (lv_sub hl [0, 1, 2, 3, 4] rfl)
set_option maxHeartbeats 4000000 in
set_option maxRecDepth 100000 in
theorem cX3_lookStruck_ok {l : Launch} {G : Gl} (hI : FI G wX) {c1 : Nat} {x2 : Int32} {x3 : Int32} {σ : Mem} (qc1 : isC c1) {σ' : Mem} (hf : fX3_lookStruck c1 x2 x3 σ = some σ') : Ct l G wX yX3_lookStruck cX3_lookStruck 6 none ({ frames := 1, cells := 0, slots := 0, locals := 25 }) [.ref (gA G 12), .ref (gA G c1), .int x2, .int x3] σ none σ' := by
  refine fl_start hI (by decide) (Nat.le_of_ble_eq_true rfl) ?_
  intro p e s m below meth c M hF ls hl
  obtain ⟨X, hb, hml, hr, hlk⟩ := id M
  have hx := X.1
  have hl : lv_has ls 6 [(0, .ref (gA G 12)), (1, .ref (gA G c1)), (2, .int x2), (3, .int x3)] := hl
  unfold fX3_lookStruck at hf
  refine lv_aload_n hx hb dX3_lookStruck_0 rfl (lv_at hl 0 rfl) ?_
  obtain ⟨σ2, hq1, hf⟩ := bv_some hf
  refine cm_X3_18 (As := []) (rest := []) X hb hml hF (cX3_empty_ok (l := l) (G := G) X.2.2.2.2 hq1) sh_X3 ⟨Nat.le_of_ble_eq_true rfl, Nat.le_of_ble_eq_true rfl⟩ rfl rfl ⟨Nat.zero_le _, Nat.zero_le _⟩ rfl hl.1 rfl (Nat.le_of_ble_eq_true rfl) dX3_lookStruck_1 (fun H locs hF => ?_)
  refine lv_iconst (v := (0 : Int32)) hx hb dX3_lookStruck_4 (by decide) ?_
  refine lv_istore (lv' := [(4, .int (0 : Int32)), (0, .ref (gA G 12)), (1, .ref (gA G c1)), (2, .int x2), (3, .int x3)]) hx hb dX3_lookStruck_5 hl (by decide) rfl (fun ls hl => ?_)
  exact bX3_lookStruck_7 M qc1 FU x2 x3 (0 : Int32) σ2 _ _ _ hf hF (lv_sub hl [1, 2, 3, 4, 0] rfl)
set_option maxHeartbeats 4000000 in
set_option maxRecDepth 100000 in
theorem bX3_knots_4 {σ : Mem} {r : Int32} (M : MX p s m args meth c RX3 G wX cX3_knots 3 (some .int)) : ∀ (fu : Nat) (x1 : Int32) (x2 : Int32) (H : Heap) (locs : List Loc) (ls : Array Slot), fX3_knots_4 σ fu x1 x2 = some r → FH G wX s.heap H locs σ → lv_has ls 3 [(0, .ref (gA G 12)), (1, .int x1), (2, .int x2)] → WG p l e ({ frames := 0, cells := 0, slots := 0, locals := 0 }) s m args below meth c G wX (some (.int r)) σ H locs 4 ls [] := by
  obtain ⟨X, hb, hml, hr, hlk⟩ := id M
  have hx := X.1
  intro fu
  induction fu with
  | zero =>
    intro x1 x2 H locs ls hf hF hl
    rw [fX3_knots_4] at hf
    cases hf
  | succ fu ih =>
    intro x1 x2 H locs ls hf hF hl
    rw [fX3_knots_4] at hf
    refine lv_iload_n hx hb dX3_knots_4 rfl (lv_at hl 2 rfl) ?_
    refine lv_bipush (v := (8 : Int32)) hx hb dX3_knots_5 (by decide) ?_
    refine lv_icmp_ge (tgt := 29) hx hb dX3_knots_7 (by decide) (fun cd1 => ?_) (fun cd1 => ?_)
    · replace hf := ifp cd1 hf
      refine lv_iload_n hx hb dX3_knots_29 rfl (lv_at hl 1 rfl) ?_
      obtain rfl := Option.some.inj hf
      exact fl_iret X hb hr hlk hF dX3_knots_30
    · replace hf := ifn cd1 hf
      refine lv_iload_n hx hb dX3_knots_10 rfl (lv_at hl 1 rfl) ?_
      refine lv_aload_n hx hb dX3_knots_11 rfl (lv_at hl 0 rfl) ?_
      refine gf_X3_15 X hb hF sh_X3 dX3_knots_12 ?_
      refine lv_iload_n hx hb dX3_knots_15 rfl (lv_at hl 2 rfl) ?_
      obtain ⟨g2, hf⟩ := grd_some hf
      refine fl_iald X hb hF sh_a14 g2 dX3_knots_16 ?_
      refine lv_iconst (v := (1 : Int32)) hx hb dX3_knots_17 (by decide) ?_
      refine lv_iload_n hx hb dX3_knots_18 rfl (lv_at hl 2 rfl) ?_
      refine lv_ishl hx hb dX3_knots_19 ?_
      refine lv_iand hx hb dX3_knots_20 ?_
      refine lv_ior hx hb dX3_knots_21 ?_
      refine lv_istore_n (lv' := [(1, .int (x1 ||| ((σ 14 x2.toNatClampNeg) &&& ((1 : Int32) <<< (x2 &&& 31))))), (0, .ref (gA G 12)), (2, .int x2)]) hx hb dX3_knots_22 rfl hl (by decide) rfl (fun ls hl => ?_)
      refine lv_iinc (v := x2 + (1 : Int32)) (lv' := [(2, .int (x2 + (1 : Int32))), (1, .int (x1 ||| ((σ 14 x2.toNatClampNeg) &&& ((1 : Int32) <<< (x2 &&& 31))))), (0, .ref (gA G 12))]) hx hb dX3_knots_23 hl (k := 2) rfl rfl (by decide) rfl (fun ls hl => ?_)
      refine lv_goto (tgt := 4) hx hb dX3_knots_26 (by decide) ?_
      exact ih (x1 ||| ((σ 14 x2.toNatClampNeg) &&& ((1 : Int32) <<< (x2 &&& 31)))) (x2 + (1 : Int32)) _ _ _ hf hF (lv_sub hl [2, 1, 0] rfl)
set_option maxHeartbeats 4000000 in
set_option maxRecDepth 100000 in
theorem cX3_knots_ok {l : Launch} {G : Gl} (hI : FI G wX) {σ : Mem} {r : Int32} (hf : fX3_knots σ = some r) : Ct l G wX yX3_knots cX3_knots 3 (some .int) ({ frames := 0, cells := 0, slots := 0, locals := 0 }) [.ref (gA G 12)] σ (some (.int r)) σ := by
  refine fl_start hI (by decide) (Nat.le_of_ble_eq_true rfl) ?_
  intro p e s m below meth c M hF ls hl
  obtain ⟨X, hb, hml, hr, hlk⟩ := id M
  have hx := X.1
  have hl : lv_has ls 3 [(0, .ref (gA G 12))] := hl
  unfold fX3_knots at hf
  refine lv_iconst (v := (0 : Int32)) hx hb dX3_knots_0 (by decide) ?_
  refine lv_istore_n (lv' := [(1, .int (0 : Int32)), (0, .ref (gA G 12))]) hx hb dX3_knots_1 rfl hl (by decide) rfl (fun ls hl => ?_)
  refine lv_iconst (v := (0 : Int32)) hx hb dX3_knots_2 (by decide) ?_
  refine lv_istore_n (lv' := [(2, .int (0 : Int32)), (1, .int (0 : Int32)), (0, .ref (gA G 12))]) hx hb dX3_knots_3 rfl hl (by decide) rfl (fun ls hl => ?_)
  exact bX3_knots_4 M FU (0 : Int32) (0 : Int32) _ _ _ hf hF (lv_sub hl [2, 1, 0] rfl)
set_option maxHeartbeats 4000000 in
set_option maxRecDepth 100000 in
theorem bX3_lowestFree_42 {σ : Mem} {r : Int32} (M : MX p s m args meth c RX3 G wX cX3_lowestFree 5 (some .int)) : ∀ (fu : Nat) (x3 : Int32) (x4 : Int32) (H : Heap) (locs : List Loc) (ls : Array Slot), fX3_lowestFree_42 σ fu x3 x4 = some r → FH G wX s.heap H locs σ → lv_has ls 5 [(3, .int x3), (4, .int x4)] → WG p l e ({ frames := 0, cells := 0, slots := 0, locals := 0 }) s m args below meth c G wX (some (.int r)) σ H locs 42 ls [] := by
  obtain ⟨X, hb, hml, hr, hlk⟩ := id M
  have hx := X.1
  intro fu
  induction fu with
  | zero =>
    intro x3 x4 H locs ls hf hF hl
    rw [fX3_lowestFree_42] at hf
    cases hf
  | succ fu ih =>
    intro x3 x4 H locs ls hf hF hl
    rw [fX3_lowestFree_42] at hf
    refine lv_iload hx hb dX3_lowestFree_42 (lv_at hl 1 rfl) ?_
    refine lv_bipush (v := (8 : Int32)) hx hb dX3_lowestFree_44 (by decide) ?_
    refine lv_icmp_ge (tgt := 67) hx hb dX3_lowestFree_46 (by decide) (fun cd2 => ?_) (fun cd2 => ?_)
    · replace hf := ifp cd2 hf
      refine lv_iconst (v := (-1 : Int32)) hx hb dX3_lowestFree_67 (by decide) ?_
      obtain rfl := Option.some.inj hf
      exact fl_iret X hb hr hlk hF dX3_lowestFree_68
    · replace hf := ifn cd2 hf
      refine lv_iload_n hx hb dX3_lowestFree_49 rfl (lv_at hl 0 rfl) ?_
      refine lv_iload hx hb dX3_lowestFree_50 (lv_at hl 1 rfl) ?_
      refine lv_ishr hx hb dX3_lowestFree_52 ?_
      refine lv_iconst (v := (1 : Int32)) hx hb dX3_lowestFree_53 (by decide) ?_
      refine lv_iand hx hb dX3_lowestFree_54 ?_
      refine lv_if_eq (tgt := 61) hx hb dX3_lowestFree_55 (by decide) (fun cd3 => ?_) (fun cd3 => ?_)
      · replace hf := ifp cd3 hf
        refine lv_iinc (v := x4 + (1 : Int32)) (lv' := [(4, .int (x4 + (1 : Int32))), (3, .int x3)]) hx hb dX3_lowestFree_61 hl (k := 1) rfl rfl (by decide) rfl (fun ls hl => ?_)
        refine lv_goto (tgt := 42) hx hb dX3_lowestFree_64 (by decide) ?_
        exact ih x3 (x4 + (1 : Int32)) _ _ _ hf hF (lv_sub hl [1, 0] rfl)
      · replace hf := ifn cd3 hf
        refine lv_iload hx hb dX3_lowestFree_58 (lv_at hl 1 rfl) ?_
        obtain rfl := Option.some.inj hf
        exact fl_iret X hb hr hlk hF dX3_lowestFree_60
set_option maxHeartbeats 4000000 in
set_option maxRecDepth 100000 in
theorem bX3_lowestFree_4 {σ : Mem} {r : Int32} (M : MX p s m args meth c RX3 G wX cX3_lowestFree 5 (some .int)) : ∀ (fu : Nat) (x1 : Int32) (x2 : Int32) (x3 : Int32) (H : Heap) (locs : List Loc) (ls : Array Slot), fX3_lowestFree_4 σ fu x1 x2 x3 = some r → FH G wX s.heap H locs σ → lv_has ls 5 [(0, .ref (gA G 12)), (1, .int x1), (2, .int x2), (3, .int x3)] → WG p l e ({ frames := 0, cells := 0, slots := 0, locals := 0 }) s m args below meth c G wX (some (.int r)) σ H locs 4 ls [] := by
  obtain ⟨X, hb, hml, hr, hlk⟩ := id M
  have hx := X.1
  intro fu
  induction fu with
  | zero =>
    intro x1 x2 x3 H locs ls hf hF hl
    rw [fX3_lowestFree_4] at hf
    cases hf
  | succ fu ih =>
    intro x1 x2 x3 H locs ls hf hF hl
    rw [fX3_lowestFree_4] at hf
    refine lv_iload_n hx hb dX3_lowestFree_4 rfl (lv_at hl 3 rfl) ?_
    refine lv_bipush (v := (8 : Int32)) hx hb dX3_lowestFree_5 (by decide) ?_
    refine lv_icmp_ge (tgt := 33) hx hb dX3_lowestFree_7 (by decide) (fun cd1 => ?_) (fun cd1 => ?_)
    · replace hf := ifp cd1 hf
      refine lv_iload_n hx hb dX3_lowestFree_33 rfl (lv_at hl 1 rfl) ?_
      refine lv_iload_n hx hb dX3_lowestFree_34 rfl (lv_at hl 2 rfl) ?_
      refine lv_iconst (v := (-1 : Int32)) hx hb dX3_lowestFree_35 (by decide) ?_
      refine lv_ixor hx hb dX3_lowestFree_36 ?_
      refine lv_iand hx hb dX3_lowestFree_37 ?_
      refine lv_istore_n (lv' := [(3, .int (x1 &&& (x2 ^^^ (-1 : Int32)))), (0, .ref (gA G 12)), (1, .int x1), (2, .int x2)]) hx hb dX3_lowestFree_38 rfl hl (by decide) rfl (fun ls hl => ?_)
      refine lv_iconst (v := (0 : Int32)) hx hb dX3_lowestFree_39 (by decide) ?_
      refine lv_istore (lv' := [(4, .int (0 : Int32)), (3, .int (x1 &&& (x2 ^^^ (-1 : Int32)))), (0, .ref (gA G 12)), (1, .int x1), (2, .int x2)]) hx hb dX3_lowestFree_40 hl (by decide) rfl (fun ls hl => ?_)
      exact bX3_lowestFree_42 M FU (x1 &&& (x2 ^^^ (-1 : Int32))) (0 : Int32) _ _ _ hf hF (lv_sub hl [1, 0] rfl)
    · replace hf := ifn cd1 hf
      refine lv_iload_n hx hb dX3_lowestFree_10 rfl (lv_at hl 1 rfl) ?_
      refine lv_iload_n hx hb dX3_lowestFree_11 rfl (lv_at hl 3 rfl) ?_
      refine lv_ishr hx hb dX3_lowestFree_12 ?_
      refine lv_iconst (v := (1 : Int32)) hx hb dX3_lowestFree_13 (by decide) ?_
      refine lv_iand hx hb dX3_lowestFree_14 ?_
      refine lv_if_eq (tgt := 27) hx hb dX3_lowestFree_15 (by decide) (fun cd4 => ?_) (fun cd4 => ?_)
      · replace hf := ifp cd4 hf
        refine lv_iinc (v := x3 + (1 : Int32)) (lv' := [(3, .int (x3 + (1 : Int32))), (0, .ref (gA G 12)), (1, .int x1), (2, .int x2)]) hx hb dX3_lowestFree_27 hl (k := 3) rfl rfl (by decide) rfl (fun ls hl => ?_)
        refine lv_goto (tgt := 4) hx hb dX3_lowestFree_30 (by decide) ?_
        exact ih x1 x2 (x3 + (1 : Int32)) _ _ _ hf hF (lv_sub hl [1, 2, 3, 0] rfl)
      · replace hf := ifn cd4 hf
        refine lv_iload_n hx hb dX3_lowestFree_18 rfl (lv_at hl 2 rfl) ?_
        refine lv_aload_n hx hb dX3_lowestFree_19 rfl (lv_at hl 0 rfl) ?_
        refine gf_X3_9 X hb hF sh_X3 dX3_lowestFree_20 ?_
        refine lv_iload_n hx hb dX3_lowestFree_23 rfl (lv_at hl 3 rfl) ?_
        obtain ⟨g5, hf⟩ := grd_some hf
        refine fl_iald X hb hF sh_a13 g5 dX3_lowestFree_24 ?_
        refine lv_ior hx hb dX3_lowestFree_25 ?_
        refine lv_istore_n (lv' := [(2, .int (x2 ||| (σ 13 x3.toNatClampNeg))), (0, .ref (gA G 12)), (1, .int x1), (3, .int x3)]) hx hb dX3_lowestFree_26 rfl hl (by decide) rfl (fun ls hl => ?_)
        refine lv_iinc (v := x3 + (1 : Int32)) (lv' := [(3, .int (x3 + (1 : Int32))), (2, .int (x2 ||| (σ 13 x3.toNatClampNeg))), (0, .ref (gA G 12)), (1, .int x1)]) hx hb dX3_lowestFree_27 hl (k := 3) rfl rfl (by decide) rfl (fun ls hl => ?_)
        refine lv_goto (tgt := 4) hx hb dX3_lowestFree_30 (by decide) ?_
        exact ih x1 (x2 ||| (σ 13 x3.toNatClampNeg)) (x3 + (1 : Int32)) _ _ _ hf hF (lv_sub hl [2, 3, 1, 0] rfl)
set_option maxHeartbeats 4000000 in
set_option maxRecDepth 100000 in
theorem cX3_lowestFree_ok {l : Launch} {G : Gl} (hI : FI G wX) {x1 : Int32} {σ : Mem} {r : Int32} (hf : fX3_lowestFree x1 σ = some r) : Ct l G wX yX3_lowestFree cX3_lowestFree 5 (some .int) ({ frames := 0, cells := 0, slots := 0, locals := 0 }) [.ref (gA G 12), .int x1] σ (some (.int r)) σ := by
  refine fl_start hI (by decide) (Nat.le_of_ble_eq_true rfl) ?_
  intro p e s m below meth c M hF ls hl
  obtain ⟨X, hb, hml, hr, hlk⟩ := id M
  have hx := X.1
  have hl : lv_has ls 5 [(0, .ref (gA G 12)), (1, .int x1)] := hl
  unfold fX3_lowestFree at hf
  refine lv_iconst (v := (0 : Int32)) hx hb dX3_lowestFree_0 (by decide) ?_
  refine lv_istore_n (lv' := [(2, .int (0 : Int32)), (0, .ref (gA G 12)), (1, .int x1)]) hx hb dX3_lowestFree_1 rfl hl (by decide) rfl (fun ls hl => ?_)
  refine lv_iconst (v := (0 : Int32)) hx hb dX3_lowestFree_2 (by decide) ?_
  refine lv_istore_n (lv' := [(3, .int (0 : Int32)), (2, .int (0 : Int32)), (0, .ref (gA G 12)), (1, .int x1)]) hx hb dX3_lowestFree_3 rfl hl (by decide) rfl (fun ls hl => ?_)
  exact bX3_lowestFree_4 M FU x1 (0 : Int32) (0 : Int32) _ _ _ hf hF (lv_sub hl [2, 3, 1, 0] rfl)
set_option maxHeartbeats 4000000 in
set_option maxRecDepth 100000 in
theorem bX3_inLine_5 {σ : Mem} {r : Int32} (M : MX p s m args meth c RX3 G wX cX3_inLine 6 (some .int)) : ∀ (fu : Nat) (x2 : Int32) (x3 : Int32) (x4 : Int32) (H : Heap) (locs : List Loc) (ls : Array Slot), fX3_inLine_5 σ fu x2 x3 x4 = some r → FH G wX s.heap H locs σ → lv_has ls 6 [(0, .ref (gA G 12)), (2, .int x2), (3, .int x3), (4, .int x4)] → WG p l e ({ frames := 1, cells := 0, slots := 0, locals := 24 }) s m args below meth c G wX (some (.int r)) σ H locs 5 ls [] := by
  obtain ⟨X, hb, hml, hr, hlk⟩ := id M
  have hx := X.1
  intro fu
  induction fu with
  | zero =>
    intro x2 x3 x4 H locs ls hf hF hl
    rw [fX3_inLine_5] at hf
    cases hf
  | succ fu ih =>
    intro x2 x3 x4 H locs ls hf hF hl
    rw [fX3_inLine_5] at hf
    refine lv_iload hx hb dX3_inLine_5 (lv_at hl 3 rfl) ?_
    refine lv_bipush (v := (8 : Int32)) hx hb dX3_inLine_7 (by decide) ?_
    refine lv_icmp_ge (tgt := 55) hx hb dX3_inLine_9 (by decide) (fun cd1 => ?_) (fun cd1 => ?_)
    · replace hf := ifp cd1 hf
      refine lv_bipush (v := (-9 : Int32)) hx hb dX3_inLine_55 (by decide) ?_
      obtain rfl := Option.some.inj hf
      exact fl_iret X hb hr hlk hF dX3_inLine_57
    · replace hf := ifn cd1 hf
      refine lv_iload_n hx hb dX3_inLine_12 rfl (lv_at hl 2 rfl) ?_
      refine lv_if_eq (tgt := 55) hx hb dX3_inLine_13 (by decide) (fun cd2 => ?_) (fun cd2 => ?_)
      · replace hf := ifp cd2 hf
        refine lv_bipush (v := (-9 : Int32)) hx hb dX3_inLine_55 (by decide) ?_
        obtain rfl := Option.some.inj hf
        exact fl_iret X hb hr hlk hF dX3_inLine_57
      · replace hf := ifn cd2 hf
        refine lv_aload_n hx hb dX3_inLine_16 rfl (lv_at hl 0 rfl) ?_
        refine lv_iload_n hx hb dX3_inLine_17 rfl (lv_at hl 2 rfl) ?_
        obtain ⟨r4, hq3, hf⟩ := bi_some hf
        refine cm_X3_50 (As := [.int x3]) (rest := []) X hb hml hF (cX3_lowestFree_ok (l := l) (G := G) X.2.2.2.2 hq3) sh_X3 ⟨Nat.le_of_ble_eq_true rfl, Nat.le_of_ble_eq_true rfl⟩ rfl rfl ⟨Nat.zero_le _, Nat.zero_le _⟩ rfl hl.1 rfl (Nat.le_of_ble_eq_true rfl) dX3_inLine_18 (fun H locs hF => ?_)
        refine lv_istore (lv' := [(5, .int r4), (0, .ref (gA G 12)), (2, .int x2), (3, .int x3), (4, .int x4)]) hx hb dX3_inLine_21 hl (by decide) rfl (fun ls hl => ?_)
        refine lv_iload hx hb dX3_inLine_23 (lv_at hl 0 rfl) ?_
        refine lv_if_ge (tgt := 31) hx hb dX3_inLine_25 (by decide) (fun cd5 => ?_) (fun cd5 => ?_)
        · replace hf := ifp cd5 hf
          refine lv_iload hx hb dX3_inLine_31 (lv_at hl 4 rfl) ?_
          refine lv_iload_n hx hb dX3_inLine_33 rfl (lv_at hl 2 rfl) ?_
          refine lv_icmp_ne (tgt := 40) hx hb dX3_inLine_34 (by decide) (fun cd6 => ?_) (fun cd6 => ?_)
          · replace hf := ifn cd6 hf
            refine lv_iload_n hx hb dX3_inLine_40 rfl (lv_at hl 3 rfl) ?_
            refine lv_iconst (v := (1 : Int32)) hx hb dX3_inLine_41 (by decide) ?_
            refine lv_iload hx hb dX3_inLine_42 (lv_at hl 0 rfl) ?_
            refine lv_ishl hx hb dX3_inLine_44 ?_
            refine lv_iconst (v := (-1 : Int32)) hx hb dX3_inLine_45 (by decide) ?_
            refine lv_ixor hx hb dX3_inLine_46 ?_
            refine lv_iand hx hb dX3_inLine_47 ?_
            refine lv_istore_n (lv' := [(3, .int (x3 &&& (((1 : Int32) <<< (r4 &&& 31)) ^^^ (-1 : Int32)))), (5, .int r4), (0, .ref (gA G 12)), (2, .int x2), (4, .int x4)]) hx hb dX3_inLine_48 rfl hl (by decide) rfl (fun ls hl => ?_)
            refine lv_iinc (v := x4 + (1 : Int32)) (lv' := [(4, .int (x4 + (1 : Int32))), (3, .int (x3 &&& (((1 : Int32) <<< (r4 &&& 31)) ^^^ (-1 : Int32)))), (5, .int r4), (0, .ref (gA G 12)), (2, .int x2)]) hx hb dX3_inLine_49 hl (k := 4) rfl rfl (by decide) rfl (fun ls hl => ?_)
            refine lv_goto (tgt := 5) hx hb dX3_inLine_52 (by decide) ?_
            exact ih x2 (x3 &&& (((1 : Int32) <<< (r4 &&& 31)) ^^^ (-1 : Int32))) (x4 + (1 : Int32)) _ _ _ hf hF (lv_sub hl [3, 4, 1, 0] rfl)
          · replace hf := ifp cd6 hf
            refine lv_iload hx hb dX3_inLine_37 (lv_at hl 0 rfl) ?_
            obtain rfl := Option.some.inj hf
            exact fl_iret X hb hr hlk hF dX3_inLine_39
        · replace hf := ifn cd5 hf
          refine lv_bipush (v := (-9 : Int32)) hx hb dX3_inLine_28 (by decide) ?_
          obtain rfl := Option.some.inj hf
          exact fl_iret X hb hr hlk hF dX3_inLine_30
set_option maxHeartbeats 4000000 in
set_option maxRecDepth 100000 in
theorem cX3_inLine_ok {l : Launch} {G : Gl} (hI : FI G wX) {x1 : Int32} {x2 : Int32} {σ : Mem} {r : Int32} (hf : fX3_inLine x1 x2 σ = some r) : Ct l G wX yX3_inLine cX3_inLine 6 (some .int) ({ frames := 1, cells := 0, slots := 0, locals := 24 }) [.ref (gA G 12), .int x1, .int x2] σ (some (.int r)) σ := by
  refine fl_start hI (by decide) (Nat.le_of_ble_eq_true rfl) ?_
  intro p e s m below meth c M hF ls hl
  obtain ⟨X, hb, hml, hr, hlk⟩ := id M
  have hx := X.1
  have hl : lv_has ls 6 [(0, .ref (gA G 12)), (1, .int x1), (2, .int x2)] := hl
  unfold fX3_inLine at hf
  refine lv_iload_n hx hb dX3_inLine_0 rfl (lv_at hl 1 rfl) ?_
  refine lv_istore_n (lv' := [(3, .int x1), (0, .ref (gA G 12)), (1, .int x1), (2, .int x2)]) hx hb dX3_inLine_1 rfl hl (by decide) rfl (fun ls hl => ?_)
  refine lv_iconst (v := (0 : Int32)) hx hb dX3_inLine_2 (by decide) ?_
  refine lv_istore (lv' := [(4, .int (0 : Int32)), (3, .int x1), (0, .ref (gA G 12)), (1, .int x1), (2, .int x2)]) hx hb dX3_inLine_3 hl (by decide) rfl (fun ls hl => ?_)
  exact bX3_inLine_5 M FU x2 x1 (0 : Int32) _ _ _ hf hF (lv_sub hl [2, 4, 1, 0] rfl)
set_option maxHeartbeats 4000000 in
set_option maxRecDepth 100000 in
theorem bX4_join_37 {σ' : Mem} {h1 : Nat} {h2 : Nat} {k7 : Int32 → Mem → Option Mem} (M : MX p s m args meth c RX4 G wX cX4_join 5 none) (qh1 : isH h1) (qh2 : isH h2) (hk7 : ∀ (x3 : Int32) (σ : Mem) (H : Heap) (locs : List Loc) (ls : Array Slot), k7 x3 σ = some σ' → FH G wX s.heap H locs σ → lv_has ls 5 [(0, .ref (gA G 9)), (1, .ref (gA G h1)), (2, .ref (gA G h2)), (3, .int x3)] → WG p l e ({ frames := 2, cells := 0, slots := 0, locals := 43 }) s m args below meth c G wX none σ' H locs 7 ls []) : ∀ (x3 : Int32) (s0 : Int32) (σ : Mem) (H : Heap) (locs : List Loc) (ls : Array Slot), fX4_join_37 k7 h1 h2 x3 s0 σ = some σ' → FH G wX s.heap H locs σ → lv_has ls 5 [(0, .ref (gA G 9)), (1, .ref (gA G h1)), (2, .ref (gA G h2)), (3, .int x3)] → WG p l e ({ frames := 2, cells := 0, slots := 0, locals := 43 }) s m args below meth c G wX none σ' H locs 37 ls [.int s0] := by
  obtain ⟨X, hb, hml, hr, hlk⟩ := id M
  have hx := X.1
  intro x3 s0 σ H locs ls hf hF hl
  unfold fX4_join_37 at hf
  refine lv_istore (lv' := [(4, .int s0), (0, .ref (gA G 9)), (1, .ref (gA G h1)), (2, .ref (gA G h2)), (3, .int x3)]) hx hb dX4_join_37 hl (by decide) rfl (fun ls hl => ?_)
  refine lv_iload hx hb dX4_join_39 (lv_at hl 0 rfl) ?_
  refine lv_if_lt (tgt := 92) hx hb dX4_join_41 (by decide) (fun cd8 => ?_) (fun cd8 => ?_)
  · replace hf := ifp cd8 hf
    refine lv_iinc (v := x3 + (1 : Int32)) (lv' := [(3, .int (x3 + (1 : Int32))), (4, .int s0), (0, .ref (gA G 9)), (1, .ref (gA G h1)), (2, .ref (gA G h2))]) hx hb dX4_join_92 hl (k := 4) rfl rfl (by decide) rfl (fun ls hl => ?_)
    refine lv_goto (tgt := 7) hx hb dX4_join_95 (by decide) ?_
    exact hk7 (x3 + (1 : Int32)) σ _ _ _ hf hF (lv_sub hl [2, 3, 4, 0] rfl)
  · replace hf := ifn cd8 hf
    refine lv_aload_n hx hb dX4_join_44 rfl (lv_at hl 1 rfl) ?_
    refine gf_X4_9 X hb hF sh_X4 dX4_join_45 ?_
    refine lv_aload_n hx hb dX4_join_48 rfl (lv_at hl 1 rfl) ?_
    refine gf_X4_18 X hb hF sh_X4 dX4_join_49 ?_
    refine lv_aload_n hx hb dX4_join_52 rfl (lv_at hl 2 rfl) ?_
    refine gf_X4_29 X hb hF (sh_H qh1) dX4_join_53 ?_
    refine lv_iload_n hx hb dX4_join_56 rfl (lv_at hl 4 rfl) ?_
    obtain ⟨g9, hf⟩ := grd_some hf
    refine fl_iald X hb hF (sh_He qh1) g9 dX4_join_57 ?_
    obtain ⟨g10, hf⟩ := grd_some hf
    refine fl_iast X hb hF sh_a10 g10 dX4_join_58 (fun H locs hF => ?_)
    refine lv_aload_n hx hb dX4_join_59 rfl (lv_at hl 1 rfl) ?_
    refine gf_X4_15 X hb hF sh_X4 dX4_join_60 ?_
    refine lv_aload_n hx hb dX4_join_63 rfl (lv_at hl 1 rfl) ?_
    refine gf_X4_18 X hb hF sh_X4 dX4_join_64 ?_
    refine lv_aload_n hx hb dX4_join_67 rfl (lv_at hl 3 rfl) ?_
    refine gf_X4_34 X hb hF (sh_H qh2) dX4_join_68 ?_
    refine lv_iload hx hb dX4_join_71 (lv_at hl 0 rfl) ?_
    obtain ⟨g11, hf⟩ := grd_some hf
    refine fl_iald X hb hF (sh_Hy qh2) g11 dX4_join_73 ?_
    refine lv_aload_n hx hb dX4_join_74 rfl (lv_at hl 2 rfl) ?_
    refine gf_X4_34 X hb hF (sh_H qh1) dX4_join_75 ?_
    refine lv_iload_n hx hb dX4_join_78 rfl (lv_at hl 4 rfl) ?_
    obtain ⟨g12, hf⟩ := grd_some hf
    refine fl_iald X hb hF (sh_Hy qh1) g12 dX4_join_79 ?_
    refine lv_isub hx hb dX4_join_80 ?_
    obtain ⟨g13, hf⟩ := grd_some hf
    refine fl_iast X hb hF sh_a11 g13 dX4_join_81 (fun H locs hF => ?_)
    refine lv_aload_n hx hb dX4_join_82 rfl (lv_at hl 1 rfl) ?_
    refine lv_dup hx hb dX4_join_83 rfl ?_
    refine gf_X4_18 X hb hF sh_X4 dX4_join_84 ?_
    refine lv_iconst (v := (1 : Int32)) hx hb dX4_join_87 (by decide) ?_
    refine lv_iadd hx hb dX4_join_88 ?_
    refine pf_X4_18 X hb hF sh_X4 dX4_join_89 (fun H locs hF => ?_)
    refine lv_iinc (v := x3 + (1 : Int32)) (lv' := [(3, .int (x3 + (1 : Int32))), (4, .int s0), (0, .ref (gA G 9)), (1, .ref (gA G h1)), (2, .ref (gA G h2))]) hx hb dX4_join_92 hl (k := 4) rfl rfl (by decide) rfl (fun ls hl => ?_)
    refine lv_goto (tgt := 7) hx hb dX4_join_95 (by decide) ?_
    exact hk7 (x3 + (1 : Int32)) (mup (mup (mup σ 10 (σ 9 2).toNatClampNeg (σ (h1 + 1) x3.toNatClampNeg)) 11 ((mup σ 10 (σ 9 2).toNatClampNeg (σ (h1 + 1) x3.toNatClampNeg)) 9 2).toNatClampNeg (((mup σ 10 (σ 9 2).toNatClampNeg (σ (h1 + 1) x3.toNatClampNeg)) (h2 + 2) s0.toNatClampNeg) - ((mup σ 10 (σ 9 2).toNatClampNeg (σ (h1 + 1) x3.toNatClampNeg)) (h1 + 2) x3.toNatClampNeg))) 9 2 (((mup (mup σ 10 (σ 9 2).toNatClampNeg (σ (h1 + 1) x3.toNatClampNeg)) 11 ((mup σ 10 (σ 9 2).toNatClampNeg (σ (h1 + 1) x3.toNatClampNeg)) 9 2).toNatClampNeg (((mup σ 10 (σ 9 2).toNatClampNeg (σ (h1 + 1) x3.toNatClampNeg)) (h2 + 2) s0.toNatClampNeg) - ((mup σ 10 (σ 9 2).toNatClampNeg (σ (h1 + 1) x3.toNatClampNeg)) (h1 + 2) x3.toNatClampNeg))) 9 2) + (1 : Int32))) _ _ _ hf hF (lv_sub hl [2, 3, 4, 0] rfl)
set_option maxHeartbeats 4000000 in
set_option maxRecDepth 100000 in
theorem bX4_join_7 {σ' : Mem} {h1 : Nat} {h2 : Nat} (M : MX p s m args meth c RX4 G wX cX4_join 5 none) (qh1 : isH h1) (qh2 : isH h2) : ∀ (fu : Nat) (x3 : Int32) (σ : Mem) (H : Heap) (locs : List Loc) (ls : Array Slot), fX4_join_7 h1 h2 fu x3 σ = some σ' → FH G wX s.heap H locs σ → lv_has ls 5 [(0, .ref (gA G 9)), (1, .ref (gA G h1)), (2, .ref (gA G h2)), (3, .int x3)] → WG p l e ({ frames := 2, cells := 0, slots := 0, locals := 43 }) s m args below meth c G wX none σ' H locs 7 ls [] := by
  obtain ⟨X, hb, hml, hr, hlk⟩ := id M
  have hx := X.1
  intro fu
  induction fu with
  | zero =>
    intro x3 σ H locs ls hf hF hl
    rw [fX4_join_7] at hf
    cases hf
  | succ fu ih =>
    intro x3 σ H locs ls hf hF hl
    rw [fX4_join_7] at hf
    refine lv_iload_n hx hb dX4_join_7 rfl (lv_at hl 3 rfl) ?_
    refine lv_aload_n hx hb dX4_join_8 rfl (lv_at hl 1 rfl) ?_
    refine gf_X4_22 X hb hF (sh_H qh1) dX4_join_9 ?_
    refine lv_icmp_ge (tgt := 98) hx hb dX4_join_12 (by decide) (fun cd1 => ?_) (fun cd1 => ?_)
    · replace hf := ifp cd1 hf
      obtain rfl := Option.some.inj hf
      exact fl_vret X hb hr hlk hF dX4_join_98
    · replace hf := ifn cd1 hf
      refine lv_aload_n hx hb dX4_join_15 rfl (lv_at hl 1 rfl) ?_
      refine lv_iload_n hx hb dX4_join_16 rfl (lv_at hl 3 rfl) ?_
      obtain ⟨r3, hq2, hf⟩ := bi_some hf
      refine cm_X4_25 (As := [.int x3]) (rest := []) X hb hml hF (cX2_isStruck_ok (l := l) (G := G) X.2.2.2.2 qh1 hq2) (sh_H qh1) ⟨Nat.le_of_ble_eq_true rfl, Nat.le_of_ble_eq_true rfl⟩ rfl rfl ⟨Nat.zero_le _, Nat.zero_le _⟩ rfl hl.1 rfl (Nat.le_of_ble_eq_true rfl) dX4_join_17 (fun H locs hF => ?_)
      refine lv_if_eq (tgt := 27) hx hb dX4_join_20 (by decide) (fun cd4 => ?_) (fun cd4 => ?_)
      · replace hf := ifp cd4 hf
        refine lv_aload_n hx hb dX4_join_27 rfl (lv_at hl 2 rfl) ?_
        refine lv_aload_n hx hb dX4_join_28 rfl (lv_at hl 1 rfl) ?_
        refine gf_X4_29 X hb hF (sh_H qh1) dX4_join_29 ?_
        refine lv_iload_n hx hb dX4_join_32 rfl (lv_at hl 3 rfl) ?_
        obtain ⟨g5, hf⟩ := grd_some hf
        refine fl_iald X hb hF (sh_He qh1) g5 dX4_join_33 ?_
        obtain ⟨r7, hq6, hf⟩ := bi_some hf
        refine cm_X4_30 (As := [.int (σ (h1 + 1) x3.toNatClampNeg)]) (rest := []) X hb hml hF (cX2_placeOf_ok (l := l) (G := G) X.2.2.2.2 qh2 hq6) (sh_H qh2) ⟨Nat.le_of_ble_eq_true rfl, Nat.le_of_ble_eq_true rfl⟩ rfl rfl ⟨Nat.zero_le _, Nat.zero_le _⟩ rfl hl.1 rfl (Nat.le_of_ble_eq_true rfl) dX4_join_34 (fun H locs hF => ?_)
        exact bX4_join_37 M qh1 qh2 ih x3 r7 σ _ _ _ hf hF (lv_sub hl [0, 1, 2, 3] rfl)
      · replace hf := ifn cd4 hf
        refine lv_iconst (v := (-1 : Int32)) hx hb dX4_join_23 (by decide) ?_
        refine lv_goto (tgt := 37) hx hb dX4_join_24 (by decide) ?_
        exact bX4_join_37 M qh1 qh2 ih x3 (-1 : Int32) σ _ _ _ hf hF (lv_sub hl [0, 1, 2, 3] rfl)
set_option maxHeartbeats 4000000 in
set_option maxRecDepth 100000 in
theorem cX4_join_ok {l : Launch} {G : Gl} (hI : FI G wX) {h1 : Nat} {h2 : Nat} {σ : Mem} (qh1 : isH h1) (qh2 : isH h2) {σ' : Mem} (hf : fX4_join h1 h2 σ = some σ') : Ct l G wX yX4_join cX4_join 5 none ({ frames := 2, cells := 0, slots := 0, locals := 43 }) [.ref (gA G 9), .ref (gA G h1), .ref (gA G h2)] σ none σ' := by
  refine fl_start hI (by decide) (Nat.le_of_ble_eq_true rfl) ?_
  intro p e s m below meth c M hF ls hl
  obtain ⟨X, hb, hml, hr, hlk⟩ := id M
  have hx := X.1
  have hl : lv_has ls 5 [(0, .ref (gA G 9)), (1, .ref (gA G h1)), (2, .ref (gA G h2))] := hl
  unfold fX4_join at hf
  refine lv_aload_n hx hb dX4_join_0 rfl (lv_at hl 0 rfl) ?_
  refine lv_iconst (v := (0 : Int32)) hx hb dX4_join_1 (by decide) ?_
  refine pf_X4_18 X hb hF sh_X4 dX4_join_2 (fun H locs hF => ?_)
  refine lv_iconst (v := (0 : Int32)) hx hb dX4_join_5 (by decide) ?_
  refine lv_istore_n (lv' := [(3, .int (0 : Int32)), (0, .ref (gA G 9)), (1, .ref (gA G h1)), (2, .ref (gA G h2))]) hx hb dX4_join_6 rfl hl (by decide) rfl (fun ls hl => ?_)
  exact bX4_join_7 M qh1 qh2 FU (0 : Int32) (mup σ 9 2 (0 : Int32)) _ _ _ hf hF (lv_sub hl [1, 2, 3, 0] rfl)
set_option maxHeartbeats 4000000 in
set_option maxRecDepth 100000 in
theorem bX4_spanEnd_20 {σ : Mem} {r : Int32} (M : MX p s m args meth c RX4 G wX cX4_spanEnd 6 (some .int)) : ∀ (fu : Nat) (x2 : Int32) (x3 : Int32) (x4 : Int32) (x5 : Int32) (H : Heap) (locs : List Loc) (ls : Array Slot), fX4_spanEnd_20 σ fu x2 x3 x4 x5 = some r → FH G wX s.heap H locs σ → lv_has ls 6 [(0, .ref (gA G 9)), (2, .int x2), (3, .int x3), (4, .int x4), (5, .int x5)] → WG p l e ({ frames := 1, cells := 0, slots := 0, locals := 24 }) s m args below meth c G wX (some (.int r)) σ H locs 20 ls [] := by
  obtain ⟨X, hb, hml, hr, hlk⟩ := id M
  have hx := X.1
  intro fu
  induction fu with
  | zero =>
    intro x2 x3 x4 x5 H locs ls hf hF hl
    rw [fX4_spanEnd_20] at hf
    cases hf
  | succ fu ih =>
    intro x2 x3 x4 x5 H locs ls hf hF hl
    rw [fX4_spanEnd_20] at hf
    refine lv_iload hx hb dX4_spanEnd_20 (lv_at hl 4 rfl) ?_
    refine lv_aload_n hx hb dX4_spanEnd_22 rfl (lv_at hl 0 rfl) ?_
    refine gf_X4_18 X hb hF sh_X4 dX4_spanEnd_23 ?_
    refine lv_icmp_ge (tgt := 72) hx hb dX4_spanEnd_26 (by decide) (fun cd3 => ?_) (fun cd3 => ?_)
    · replace hf := ifp cd3 hf
      refine lv_aload_n hx hb dX4_spanEnd_72 rfl (lv_at hl 0 rfl) ?_
      refine gf_X4_18 X hb hF sh_X4 dX4_spanEnd_73 ?_
      obtain rfl := Option.some.inj hf
      exact fl_iret X hb hr hlk hF dX4_spanEnd_76
    · replace hf := ifn cd3 hf
      refine lv_iload_n hx hb dX4_spanEnd_29 rfl (lv_at hl 2 rfl) ?_
      refine lv_aload_n hx hb dX4_spanEnd_30 rfl (lv_at hl 0 rfl) ?_
      refine gf_X4_15 X hb hF sh_X4 dX4_spanEnd_31 ?_
      refine lv_iload hx hb dX4_spanEnd_34 (lv_at hl 4 rfl) ?_
      obtain ⟨g4, hf⟩ := grd_some hf
      refine fl_iald X hb hF sh_a11 g4 dX4_spanEnd_36 ?_
      refine va_mmin hx hb (hml.trans hl.1.symm) X.2.1 (X.2.2.1 _ wm_X4_37) (X.2.2.1 _ wk_Mmin) (X.2.2.1 _ wi_Math) (X.2.2.1 _ wc_Mmin) (Nat.le_of_ble_eq_true rfl) (Nat.le_of_ble_eq_true rfl) (Nat.zero_le _) (Nat.zero_le _) dX4_spanEnd_37 ?_
      refine lv_istore_n (lv' := [(3, .int (if (σ 11 x5.toNatClampNeg) < x3 then (σ 11 x5.toNatClampNeg) else x3)), (0, .ref (gA G 9)), (2, .int x2), (4, .int x4), (5, .int x5)]) hx hb dX4_spanEnd_40 rfl hl (by decide) rfl (fun ls hl => ?_)
      refine lv_iload hx hb dX4_spanEnd_41 (lv_at hl 3 rfl) ?_
      refine lv_aload_n hx hb dX4_spanEnd_43 rfl (lv_at hl 1 rfl) ?_
      refine gf_X4_15 X hb hF sh_X4 dX4_spanEnd_44 ?_
      refine lv_iload hx hb dX4_spanEnd_47 (lv_at hl 4 rfl) ?_
      obtain ⟨g5, hf⟩ := grd_some hf
      refine fl_iald X hb hF sh_a11 g5 dX4_spanEnd_49 ?_
      refine va_mmax hx hb (hml.trans hl.1.symm) X.2.1 (X.2.2.1 _ wm_X4_43) (X.2.2.1 _ wk_Mmax) (X.2.2.1 _ wi_Math) (X.2.2.1 _ wc_Mmax) (Nat.le_of_ble_eq_true rfl) (Nat.le_of_ble_eq_true rfl) (Nat.zero_le _) (Nat.zero_le _) dX4_spanEnd_50 ?_
      refine lv_istore (lv' := [(4, .int (if x4 < (σ 11 x5.toNatClampNeg) then (σ 11 x5.toNatClampNeg) else x4)), (3, .int (if (σ 11 x5.toNatClampNeg) < x3 then (σ 11 x5.toNatClampNeg) else x3)), (0, .ref (gA G 9)), (2, .int x2), (5, .int x5)]) hx hb dX4_spanEnd_53 hl (by decide) rfl (fun ls hl => ?_)
      refine lv_iload hx hb dX4_spanEnd_55 (lv_at hl 0 rfl) ?_
      refine lv_iload_n hx hb dX4_spanEnd_57 rfl (lv_at hl 1 rfl) ?_
      refine lv_isub hx hb dX4_spanEnd_58 ?_
      refine lv_iload_n hx hb dX4_spanEnd_59 rfl (lv_at hl 3 rfl) ?_
      refine lv_icmp_le (tgt := 66) hx hb dX4_spanEnd_60 (by decide) (fun cd6 => ?_) (fun cd6 => ?_)
      · replace hf := ifp cd6 hf
        refine lv_iinc (v := x5 + (1 : Int32)) (lv' := [(5, .int (x5 + (1 : Int32))), (4, .int (if x4 < (σ 11 x5.toNatClampNeg) then (σ 11 x5.toNatClampNeg) else x4)), (3, .int (if (σ 11 x5.toNatClampNeg) < x3 then (σ 11 x5.toNatClampNeg) else x3)), (0, .ref (gA G 9)), (2, .int x2)]) hx hb dX4_spanEnd_66 hl (k := 4) rfl rfl (by decide) rfl (fun ls hl => ?_)
        refine lv_goto (tgt := 20) hx hb dX4_spanEnd_69 (by decide) ?_
        exact ih x2 (if (σ 11 x5.toNatClampNeg) < x3 then (σ 11 x5.toNatClampNeg) else x3) (if x4 < (σ 11 x5.toNatClampNeg) then (σ 11 x5.toNatClampNeg) else x4) (x5 + (1 : Int32)) _ _ _ hf hF (lv_sub hl [3, 4, 2, 1, 0] rfl)
      · replace hf := ifn cd6 hf
        refine lv_iload hx hb dX4_spanEnd_63 (lv_at hl 4 rfl) ?_
        obtain rfl := Option.some.inj hf
        exact fl_iret X hb hr hlk hF dX4_spanEnd_65
set_option maxHeartbeats 4000000 in
set_option maxRecDepth 100000 in
theorem cX4_spanEnd_ok {l : Launch} {G : Gl} (hI : FI G wX) {x1 : Int32} {x2 : Int32} {σ : Mem} {r : Int32} (hf : fX4_spanEnd x1 x2 σ = some r) : Ct l G wX yX4_spanEnd cX4_spanEnd 6 (some .int) ({ frames := 1, cells := 0, slots := 0, locals := 24 }) [.ref (gA G 9), .int x1, .int x2] σ (some (.int r)) σ := by
  refine fl_start hI (by decide) (Nat.le_of_ble_eq_true rfl) ?_
  intro p e s m below meth c M hF ls hl
  obtain ⟨X, hb, hml, hr, hlk⟩ := id M
  have hx := X.1
  have hl : lv_has ls 6 [(0, .ref (gA G 9)), (1, .int x1), (2, .int x2)] := hl
  unfold fX4_spanEnd at hf
  refine lv_aload_n hx hb dX4_spanEnd_0 rfl (lv_at hl 0 rfl) ?_
  refine gf_X4_15 X hb hF sh_X4 dX4_spanEnd_1 ?_
  refine lv_iload_n hx hb dX4_spanEnd_4 rfl (lv_at hl 1 rfl) ?_
  obtain ⟨g1, hf⟩ := grd_some hf
  refine fl_iald X hb hF sh_a11 g1 dX4_spanEnd_5 ?_
  refine lv_istore_n (lv' := [(3, .int (σ 11 x1.toNatClampNeg)), (0, .ref (gA G 9)), (1, .int x1), (2, .int x2)]) hx hb dX4_spanEnd_6 rfl hl (by decide) rfl (fun ls hl => ?_)
  refine lv_aload_n hx hb dX4_spanEnd_7 rfl (lv_at hl 1 rfl) ?_
  refine gf_X4_15 X hb hF sh_X4 dX4_spanEnd_8 ?_
  refine lv_iload_n hx hb dX4_spanEnd_11 rfl (lv_at hl 2 rfl) ?_
  obtain ⟨g2, hf⟩ := grd_some hf
  refine fl_iald X hb hF sh_a11 g2 dX4_spanEnd_12 ?_
  refine lv_istore (lv' := [(4, .int (σ 11 x1.toNatClampNeg)), (3, .int (σ 11 x1.toNatClampNeg)), (0, .ref (gA G 9)), (1, .int x1), (2, .int x2)]) hx hb dX4_spanEnd_13 hl (by decide) rfl (fun ls hl => ?_)
  refine lv_iload_n hx hb dX4_spanEnd_15 rfl (lv_at hl 3 rfl) ?_
  refine lv_iconst (v := (1 : Int32)) hx hb dX4_spanEnd_16 (by decide) ?_
  refine lv_iadd hx hb dX4_spanEnd_17 ?_
  refine lv_istore (lv' := [(5, .int (x1 + (1 : Int32))), (4, .int (σ 11 x1.toNatClampNeg)), (3, .int (σ 11 x1.toNatClampNeg)), (0, .ref (gA G 9)), (1, .int x1), (2, .int x2)]) hx hb dX4_spanEnd_18 hl (by decide) rfl (fun ls hl => ?_)
  exact bX4_spanEnd_20 M FU x2 (σ 11 x1.toNatClampNeg) (σ 11 x1.toNatClampNeg) (x1 + (1 : Int32)) _ _ _ hf hF (lv_sub hl [3, 5, 2, 1, 0] rfl)
set_option maxHeartbeats 4000000 in
set_option maxRecDepth 100000 in
theorem bX4_spans_4 {σ : Mem} {r : Int32} (M : MX p s m args meth c RX4 G wX cX4_spans 4 (some .int)) : ∀ (fu : Nat) (x1 : Int32) (x2 : Int32) (x3 : Int32) (H : Heap) (locs : List Loc) (ls : Array Slot), fX4_spans_4 σ fu x1 x2 x3 = some r → FH G wX s.heap H locs σ → lv_has ls 4 [(0, .ref (gA G 9)), (1, .int x1), (2, .int x2), (3, .int x3)] → WG p l e ({ frames := 2, cells := 0, slots := 0, locals := 49 }) s m args below meth c G wX (some (.int r)) σ H locs 4 ls [] := by
  obtain ⟨X, hb, hml, hr, hlk⟩ := id M
  have hx := X.1
  intro fu
  induction fu with
  | zero =>
    intro x1 x2 x3 H locs ls hf hF hl
    rw [fX4_spans_4] at hf
    cases hf
  | succ fu ih =>
    intro x1 x2 x3 H locs ls hf hF hl
    rw [fX4_spans_4] at hf
    refine lv_iload_n hx hb dX4_spans_4 rfl (lv_at hl 3 rfl) ?_
    refine lv_aload_n hx hb dX4_spans_5 rfl (lv_at hl 0 rfl) ?_
    refine gf_X4_18 X hb hF sh_X4 dX4_spans_6 ?_
    refine lv_icmp_ge (tgt := 31) hx hb dX4_spans_9 (by decide) (fun cd1 => ?_) (fun cd1 => ?_)
    · replace hf := ifp cd1 hf
      refine lv_iload_n hx hb dX4_spans_31 rfl (lv_at hl 2 rfl) ?_
      obtain rfl := Option.some.inj hf
      exact fl_iret X hb hr hlk hF dX4_spans_32
    · replace hf := ifn cd1 hf
      refine lv_iload_n hx hb dX4_spans_12 rfl (lv_at hl 2 rfl) ?_
      refine lv_bipush (v := (6 : Int32)) hx hb dX4_spans_13 (by decide) ?_
      refine lv_icmp_ge (tgt := 31) hx hb dX4_spans_15 (by decide) (fun cd2 => ?_) (fun cd2 => ?_)
      · replace hf := ifp cd2 hf
        refine lv_iload_n hx hb dX4_spans_31 rfl (lv_at hl 2 rfl) ?_
        obtain rfl := Option.some.inj hf
        exact fl_iret X hb hr hlk hF dX4_spans_32
      · replace hf := ifn cd2 hf
        refine lv_aload_n hx hb dX4_spans_18 rfl (lv_at hl 0 rfl) ?_
        refine lv_iload_n hx hb dX4_spans_19 rfl (lv_at hl 3 rfl) ?_
        refine lv_iload_n hx hb dX4_spans_20 rfl (lv_at hl 1 rfl) ?_
        obtain ⟨r4, hq3, hf⟩ := bi_some hf
        refine cm_X4_46 (As := [.int x3, .int x1]) (rest := []) X hb hml hF (cX4_spanEnd_ok (l := l) (G := G) X.2.2.2.2 hq3) sh_X4 ⟨Nat.le_of_ble_eq_true rfl, Nat.le_of_ble_eq_true rfl⟩ rfl rfl ⟨Nat.zero_le _, Nat.zero_le _⟩ rfl hl.1 rfl (Nat.le_of_ble_eq_true rfl) dX4_spans_21 (fun H locs hF => ?_)
        refine lv_istore_n (lv' := [(3, .int r4), (0, .ref (gA G 9)), (1, .int x1), (2, .int x2)]) hx hb dX4_spans_24 rfl hl (by decide) rfl (fun ls hl => ?_)
        refine lv_iinc (v := x2 + (1 : Int32)) (lv' := [(2, .int (x2 + (1 : Int32))), (3, .int r4), (0, .ref (gA G 9)), (1, .int x1)]) hx hb dX4_spans_25 hl (k := 3) rfl rfl (by decide) rfl (fun ls hl => ?_)
        refine lv_goto (tgt := 4) hx hb dX4_spans_28 (by decide) ?_
        exact ih x1 (x2 + (1 : Int32)) r4 _ _ _ hf hF (lv_sub hl [2, 3, 0, 1] rfl)
set_option maxHeartbeats 4000000 in
set_option maxRecDepth 100000 in
theorem cX4_spans_ok {l : Launch} {G : Gl} (hI : FI G wX) {x1 : Int32} {σ : Mem} {r : Int32} (hf : fX4_spans x1 σ = some r) : Ct l G wX yX4_spans cX4_spans 4 (some .int) ({ frames := 2, cells := 0, slots := 0, locals := 49 }) [.ref (gA G 9), .int x1] σ (some (.int r)) σ := by
  refine fl_start hI (by decide) (Nat.le_of_ble_eq_true rfl) ?_
  intro p e s m below meth c M hF ls hl
  obtain ⟨X, hb, hml, hr, hlk⟩ := id M
  have hx := X.1
  have hl : lv_has ls 4 [(0, .ref (gA G 9)), (1, .int x1)] := hl
  unfold fX4_spans at hf
  refine lv_iconst (v := (0 : Int32)) hx hb dX4_spans_0 (by decide) ?_
  refine lv_istore_n (lv' := [(2, .int (0 : Int32)), (0, .ref (gA G 9)), (1, .int x1)]) hx hb dX4_spans_1 rfl hl (by decide) rfl (fun ls hl => ?_)
  refine lv_iconst (v := (0 : Int32)) hx hb dX4_spans_2 (by decide) ?_
  refine lv_istore_n (lv' := [(3, .int (0 : Int32)), (2, .int (0 : Int32)), (0, .ref (gA G 9)), (1, .int x1)]) hx hb dX4_spans_3 rfl hl (by decide) rfl (fun ls hl => ?_)
  exact bX4_spans_4 M FU x1 (0 : Int32) (0 : Int32) _ _ _ hf hF (lv_sub hl [2, 3, 1, 0] rfl)
set_option maxHeartbeats 4000000 in
set_option maxRecDepth 100000 in
theorem bX4_spanStart_5 {σ : Mem} {r : Int32} (M : MX p s m args meth c RX4 G wX cX4_spanStart 5 (some .int)) : ∀ (fu : Nat) (x1 : Int32) (x2 : Int32) (x3 : Int32) (x4 : Int32) (H : Heap) (locs : List Loc) (ls : Array Slot), fX4_spanStart_5 σ fu x1 x2 x3 x4 = some r → FH G wX s.heap H locs σ → lv_has ls 5 [(0, .ref (gA G 9)), (1, .int x1), (2, .int x2), (3, .int x3), (4, .int x4)] → WG p l e ({ frames := 2, cells := 0, slots := 0, locals := 49 }) s m args below meth c G wX (some (.int r)) σ H locs 5 ls [] := by
  obtain ⟨X, hb, hml, hr, hlk⟩ := id M
  have hx := X.1
  intro fu
  induction fu with
  | zero =>
    intro x1 x2 x3 x4 H locs ls hf hF hl
    rw [fX4_spanStart_5] at hf
    cases hf
  | succ fu ih =>
    intro x1 x2 x3 x4 H locs ls hf hF hl
    rw [fX4_spanStart_5] at hf
    refine lv_iload hx hb dX4_spanStart_5 (lv_at hl 4 rfl) ?_
    refine lv_iload_n hx hb dX4_spanStart_7 rfl (lv_at hl 1 rfl) ?_
    refine lv_icmp_ge (tgt := 32) hx hb dX4_spanStart_8 (by decide) (fun cd1 => ?_) (fun cd1 => ?_)
    · replace hf := ifp cd1 hf
      refine lv_iload_n hx hb dX4_spanStart_32 rfl (lv_at hl 3 rfl) ?_
      obtain rfl := Option.some.inj hf
      exact fl_iret X hb hr hlk hF dX4_spanStart_33
    · replace hf := ifn cd1 hf
      refine lv_iload_n hx hb dX4_spanStart_11 rfl (lv_at hl 3 rfl) ?_
      refine lv_aload_n hx hb dX4_spanStart_12 rfl (lv_at hl 0 rfl) ?_
      refine gf_X4_18 X hb hF sh_X4 dX4_spanStart_13 ?_
      refine lv_icmp_ge (tgt := 32) hx hb dX4_spanStart_16 (by decide) (fun cd2 => ?_) (fun cd2 => ?_)
      · replace hf := ifp cd2 hf
        refine lv_iload_n hx hb dX4_spanStart_32 rfl (lv_at hl 3 rfl) ?_
        obtain rfl := Option.some.inj hf
        exact fl_iret X hb hr hlk hF dX4_spanStart_33
      · replace hf := ifn cd2 hf
        refine lv_aload_n hx hb dX4_spanStart_19 rfl (lv_at hl 0 rfl) ?_
        refine lv_iload_n hx hb dX4_spanStart_20 rfl (lv_at hl 3 rfl) ?_
        refine lv_iload_n hx hb dX4_spanStart_21 rfl (lv_at hl 2 rfl) ?_
        obtain ⟨r4, hq3, hf⟩ := bi_some hf
        refine cm_X4_46 (As := [.int x3, .int x2]) (rest := []) X hb hml hF (cX4_spanEnd_ok (l := l) (G := G) X.2.2.2.2 hq3) sh_X4 ⟨Nat.le_of_ble_eq_true rfl, Nat.le_of_ble_eq_true rfl⟩ rfl rfl ⟨Nat.zero_le _, Nat.zero_le _⟩ rfl hl.1 rfl (Nat.le_of_ble_eq_true rfl) dX4_spanStart_22 (fun H locs hF => ?_)
        refine lv_istore_n (lv' := [(3, .int r4), (0, .ref (gA G 9)), (1, .int x1), (2, .int x2), (4, .int x4)]) hx hb dX4_spanStart_25 rfl hl (by decide) rfl (fun ls hl => ?_)
        refine lv_iinc (v := x4 + (1 : Int32)) (lv' := [(4, .int (x4 + (1 : Int32))), (3, .int r4), (0, .ref (gA G 9)), (1, .int x1), (2, .int x2)]) hx hb dX4_spanStart_26 hl (k := 4) rfl rfl (by decide) rfl (fun ls hl => ?_)
        refine lv_goto (tgt := 5) hx hb dX4_spanStart_29 (by decide) ?_
        exact ih x1 x2 r4 (x4 + (1 : Int32)) _ _ _ hf hF (lv_sub hl [2, 3, 4, 1, 0] rfl)
set_option maxHeartbeats 4000000 in
set_option maxRecDepth 100000 in
theorem cX4_spanStart_ok {l : Launch} {G : Gl} (hI : FI G wX) {x1 : Int32} {x2 : Int32} {σ : Mem} {r : Int32} (hf : fX4_spanStart x1 x2 σ = some r) : Ct l G wX yX4_spanStart cX4_spanStart 5 (some .int) ({ frames := 2, cells := 0, slots := 0, locals := 49 }) [.ref (gA G 9), .int x1, .int x2] σ (some (.int r)) σ := by
  refine fl_start hI (by decide) (Nat.le_of_ble_eq_true rfl) ?_
  intro p e s m below meth c M hF ls hl
  obtain ⟨X, hb, hml, hr, hlk⟩ := id M
  have hx := X.1
  have hl : lv_has ls 5 [(0, .ref (gA G 9)), (1, .int x1), (2, .int x2)] := hl
  unfold fX4_spanStart at hf
  refine lv_iconst (v := (0 : Int32)) hx hb dX4_spanStart_0 (by decide) ?_
  refine lv_istore_n (lv' := [(3, .int (0 : Int32)), (0, .ref (gA G 9)), (1, .int x1), (2, .int x2)]) hx hb dX4_spanStart_1 rfl hl (by decide) rfl (fun ls hl => ?_)
  refine lv_iconst (v := (0 : Int32)) hx hb dX4_spanStart_2 (by decide) ?_
  refine lv_istore (lv' := [(4, .int (0 : Int32)), (3, .int (0 : Int32)), (0, .ref (gA G 9)), (1, .int x1), (2, .int x2)]) hx hb dX4_spanStart_3 hl (by decide) rfl (fun ls hl => ?_)
  exact bX4_spanStart_5 M FU x1 x2 (0 : Int32) (0 : Int32) _ _ _ hf hF (lv_sub hl [2, 3, 4, 1, 0] rfl)
set_option maxHeartbeats 4000000 in
set_option maxRecDepth 100000 in
theorem bX4_leastOffset_12 {σ : Mem} {r : Int32} (M : MX p s m args meth c RX4 G wX cX4_leastOffset 5 (some .int)) : ∀ (fu : Nat) (x2 : Int32) (x3 : Int32) (x4 : Int32) (H : Heap) (locs : List Loc) (ls : Array Slot), fX4_leastOffset_12 σ fu x2 x3 x4 = some r → FH G wX s.heap H locs σ → lv_has ls 5 [(0, .ref (gA G 9)), (2, .int x2), (3, .int x3), (4, .int x4)] → WG p l e ({ frames := 1, cells := 0, slots := 0, locals := 24 }) s m args below meth c G wX (some (.int r)) σ H locs 12 ls [] := by
  obtain ⟨X, hb, hml, hr, hlk⟩ := id M
  have hx := X.1
  intro fu
  induction fu with
  | zero =>
    intro x2 x3 x4 H locs ls hf hF hl
    rw [fX4_leastOffset_12] at hf
    cases hf
  | succ fu ih =>
    intro x2 x3 x4 H locs ls hf hF hl
    rw [fX4_leastOffset_12] at hf
    refine lv_iload hx hb dX4_leastOffset_12 (lv_at hl 3 rfl) ?_
    refine lv_iload_n hx hb dX4_leastOffset_14 rfl (lv_at hl 1 rfl) ?_
    refine lv_icmp_ge (tgt := 36) hx hb dX4_leastOffset_15 (by decide) (fun cd2 => ?_) (fun cd2 => ?_)
    · replace hf := ifp cd2 hf
      refine lv_iload_n hx hb dX4_leastOffset_36 rfl (lv_at hl 2 rfl) ?_
      obtain rfl := Option.some.inj hf
      exact fl_iret X hb hr hlk hF dX4_leastOffset_37
    · replace hf := ifn cd2 hf
      refine lv_iload_n hx hb dX4_leastOffset_18 rfl (lv_at hl 2 rfl) ?_
      refine lv_aload_n hx hb dX4_leastOffset_19 rfl (lv_at hl 0 rfl) ?_
      refine gf_X4_15 X hb hF sh_X4 dX4_leastOffset_20 ?_
      refine lv_iload hx hb dX4_leastOffset_23 (lv_at hl 3 rfl) ?_
      obtain ⟨g3, hf⟩ := grd_some hf
      refine fl_iald X hb hF sh_a11 g3 dX4_leastOffset_25 ?_
      refine va_mmin hx hb (hml.trans hl.1.symm) X.2.1 (X.2.2.1 _ wm_X4_37) (X.2.2.1 _ wk_Mmin) (X.2.2.1 _ wi_Math) (X.2.2.1 _ wc_Mmin) (Nat.le_of_ble_eq_true rfl) (Nat.le_of_ble_eq_true rfl) (Nat.zero_le _) (Nat.zero_le _) dX4_leastOffset_26 ?_
      refine lv_istore_n (lv' := [(3, .int (if (σ 11 x4.toNatClampNeg) < x3 then (σ 11 x4.toNatClampNeg) else x3)), (0, .ref (gA G 9)), (2, .int x2), (4, .int x4)]) hx hb dX4_leastOffset_29 rfl hl (by decide) rfl (fun ls hl => ?_)
      refine lv_iinc (v := x4 + (1 : Int32)) (lv' := [(4, .int (x4 + (1 : Int32))), (3, .int (if (σ 11 x4.toNatClampNeg) < x3 then (σ 11 x4.toNatClampNeg) else x3)), (0, .ref (gA G 9)), (2, .int x2)]) hx hb dX4_leastOffset_30 hl (k := 3) rfl rfl (by decide) rfl (fun ls hl => ?_)
      refine lv_goto (tgt := 12) hx hb dX4_leastOffset_33 (by decide) ?_
      exact ih x2 (if (σ 11 x4.toNatClampNeg) < x3 then (σ 11 x4.toNatClampNeg) else x3) (x4 + (1 : Int32)) _ _ _ hf hF (lv_sub hl [2, 3, 1, 0] rfl)
set_option maxHeartbeats 4000000 in
set_option maxRecDepth 100000 in
theorem cX4_leastOffset_ok {l : Launch} {G : Gl} (hI : FI G wX) {x1 : Int32} {x2 : Int32} {σ : Mem} {r : Int32} (hf : fX4_leastOffset x1 x2 σ = some r) : Ct l G wX yX4_leastOffset cX4_leastOffset 5 (some .int) ({ frames := 1, cells := 0, slots := 0, locals := 24 }) [.ref (gA G 9), .int x1, .int x2] σ (some (.int r)) σ := by
  refine fl_start hI (by decide) (Nat.le_of_ble_eq_true rfl) ?_
  intro p e s m below meth c M hF ls hl
  obtain ⟨X, hb, hml, hr, hlk⟩ := id M
  have hx := X.1
  have hl : lv_has ls 5 [(0, .ref (gA G 9)), (1, .int x1), (2, .int x2)] := hl
  unfold fX4_leastOffset at hf
  refine lv_aload_n hx hb dX4_leastOffset_0 rfl (lv_at hl 0 rfl) ?_
  refine gf_X4_15 X hb hF sh_X4 dX4_leastOffset_1 ?_
  refine lv_iload_n hx hb dX4_leastOffset_4 rfl (lv_at hl 1 rfl) ?_
  obtain ⟨g1, hf⟩ := grd_some hf
  refine fl_iald X hb hF sh_a11 g1 dX4_leastOffset_5 ?_
  refine lv_istore_n (lv' := [(3, .int (σ 11 x1.toNatClampNeg)), (0, .ref (gA G 9)), (1, .int x1), (2, .int x2)]) hx hb dX4_leastOffset_6 rfl hl (by decide) rfl (fun ls hl => ?_)
  refine lv_iload_n hx hb dX4_leastOffset_7 rfl (lv_at hl 2 rfl) ?_
  refine lv_iconst (v := (1 : Int32)) hx hb dX4_leastOffset_8 (by decide) ?_
  refine lv_iadd hx hb dX4_leastOffset_9 ?_
  refine lv_istore (lv' := [(4, .int (x1 + (1 : Int32))), (3, .int (σ 11 x1.toNatClampNeg)), (0, .ref (gA G 9)), (1, .int x1), (2, .int x2)]) hx hb dX4_leastOffset_10 hl (by decide) rfl (fun ls hl => ?_)
  exact bX4_leastOffset_12 M FU x2 (σ 11 x1.toNatClampNeg) (x1 + (1 : Int32)) _ _ _ hf hF (lv_sub hl [2, 4, 1, 0] rfl)
set_option maxHeartbeats 4000000 in
set_option maxRecDepth 100000 in
theorem bX4_eventsWith_4 {σ : Mem} {r : Int32} (M : MX p s m args meth c RX4 G wX cX4_eventsWith 4 (some .int)) : ∀ (fu : Nat) (x1 : Int32) (x2 : Int32) (x3 : Int32) (H : Heap) (locs : List Loc) (ls : Array Slot), fX4_eventsWith_4 σ fu x1 x2 x3 = some r → FH G wX s.heap H locs σ → lv_has ls 4 [(0, .ref (gA G 9)), (1, .int x1), (2, .int x2), (3, .int x3)] → WG p l e ({ frames := 0, cells := 0, slots := 0, locals := 0 }) s m args below meth c G wX (some (.int r)) σ H locs 4 ls [] := by
  obtain ⟨X, hb, hml, hr, hlk⟩ := id M
  have hx := X.1
  intro fu
  induction fu with
  | zero =>
    intro x1 x2 x3 H locs ls hf hF hl
    rw [fX4_eventsWith_4] at hf
    cases hf
  | succ fu ih =>
    intro x1 x2 x3 H locs ls hf hF hl
    rw [fX4_eventsWith_4] at hf
    refine lv_iload_n hx hb dX4_eventsWith_4 rfl (lv_at hl 3 rfl) ?_
    refine lv_aload_n hx hb dX4_eventsWith_5 rfl (lv_at hl 0 rfl) ?_
    refine gf_X4_18 X hb hF sh_X4 dX4_eventsWith_6 ?_
    refine lv_icmp_ge (tgt := 39) hx hb dX4_eventsWith_9 (by decide) (fun cd1 => ?_) (fun cd1 => ?_)
    · replace hf := ifp cd1 hf
      refine lv_iload_n hx hb dX4_eventsWith_39 rfl (lv_at hl 2 rfl) ?_
      obtain rfl := Option.some.inj hf
      exact fl_iret X hb hr hlk hF dX4_eventsWith_40
    · replace hf := ifn cd1 hf
      refine lv_aload_n hx hb dX4_eventsWith_12 rfl (lv_at hl 0 rfl) ?_
      refine gf_X4_15 X hb hF sh_X4 dX4_eventsWith_13 ?_
      refine lv_iload_n hx hb dX4_eventsWith_16 rfl (lv_at hl 3 rfl) ?_
      obtain ⟨g2, hf⟩ := grd_some hf
      refine fl_iald X hb hF sh_a11 g2 dX4_eventsWith_17 ?_
      refine lv_iload_n hx hb dX4_eventsWith_18 rfl (lv_at hl 1 rfl) ?_
      refine lv_icmp_ne (tgt := 33) hx hb dX4_eventsWith_19 (by decide) (fun cd3 => ?_) (fun cd3 => ?_)
      · replace hf := ifn cd3 hf
        refine lv_iinc (v := x3 + (1 : Int32)) (lv' := [(3, .int (x3 + (1 : Int32))), (0, .ref (gA G 9)), (1, .int x1), (2, .int x2)]) hx hb dX4_eventsWith_33 hl (k := 3) rfl rfl (by decide) rfl (fun ls hl => ?_)
        refine lv_goto (tgt := 4) hx hb dX4_eventsWith_36 (by decide) ?_
        exact ih x1 x2 (x3 + (1 : Int32)) _ _ _ hf hF (lv_sub hl [1, 2, 3, 0] rfl)
      · replace hf := ifp cd3 hf
        refine lv_iload_n hx hb dX4_eventsWith_22 rfl (lv_at hl 2 rfl) ?_
        refine lv_iconst (v := (1 : Int32)) hx hb dX4_eventsWith_23 (by decide) ?_
        refine lv_aload_n hx hb dX4_eventsWith_24 rfl (lv_at hl 0 rfl) ?_
        refine gf_X4_9 X hb hF sh_X4 dX4_eventsWith_25 ?_
        refine lv_iload_n hx hb dX4_eventsWith_28 rfl (lv_at hl 3 rfl) ?_
        obtain ⟨g4, hf⟩ := grd_some hf
        refine fl_iald X hb hF sh_a10 g4 dX4_eventsWith_29 ?_
        refine lv_ishl hx hb dX4_eventsWith_30 ?_
        refine lv_ior hx hb dX4_eventsWith_31 ?_
        refine lv_istore_n (lv' := [(2, .int (x2 ||| ((1 : Int32) <<< ((σ 10 x3.toNatClampNeg) &&& 31)))), (0, .ref (gA G 9)), (1, .int x1), (3, .int x3)]) hx hb dX4_eventsWith_32 rfl hl (by decide) rfl (fun ls hl => ?_)
        refine lv_iinc (v := x3 + (1 : Int32)) (lv' := [(3, .int (x3 + (1 : Int32))), (2, .int (x2 ||| ((1 : Int32) <<< ((σ 10 x3.toNatClampNeg) &&& 31)))), (0, .ref (gA G 9)), (1, .int x1)]) hx hb dX4_eventsWith_33 hl (k := 3) rfl rfl (by decide) rfl (fun ls hl => ?_)
        refine lv_goto (tgt := 4) hx hb dX4_eventsWith_36 (by decide) ?_
        exact ih x1 (x2 ||| ((1 : Int32) <<< ((σ 10 x3.toNatClampNeg) &&& 31))) (x3 + (1 : Int32)) _ _ _ hf hF (lv_sub hl [2, 3, 1, 0] rfl)
set_option maxHeartbeats 4000000 in
set_option maxRecDepth 100000 in
theorem cX4_eventsWith_ok {l : Launch} {G : Gl} (hI : FI G wX) {x1 : Int32} {σ : Mem} {r : Int32} (hf : fX4_eventsWith x1 σ = some r) : Ct l G wX yX4_eventsWith cX4_eventsWith 4 (some .int) ({ frames := 0, cells := 0, slots := 0, locals := 0 }) [.ref (gA G 9), .int x1] σ (some (.int r)) σ := by
  refine fl_start hI (by decide) (Nat.le_of_ble_eq_true rfl) ?_
  intro p e s m below meth c M hF ls hl
  obtain ⟨X, hb, hml, hr, hlk⟩ := id M
  have hx := X.1
  have hl : lv_has ls 4 [(0, .ref (gA G 9)), (1, .int x1)] := hl
  unfold fX4_eventsWith at hf
  refine lv_iconst (v := (0 : Int32)) hx hb dX4_eventsWith_0 (by decide) ?_
  refine lv_istore_n (lv' := [(2, .int (0 : Int32)), (0, .ref (gA G 9)), (1, .int x1)]) hx hb dX4_eventsWith_1 rfl hl (by decide) rfl (fun ls hl => ?_)
  refine lv_iconst (v := (0 : Int32)) hx hb dX4_eventsWith_2 (by decide) ?_
  refine lv_istore_n (lv' := [(3, .int (0 : Int32)), (2, .int (0 : Int32)), (0, .ref (gA G 9)), (1, .int x1)]) hx hb dX4_eventsWith_3 rfl hl (by decide) rfl (fun ls hl => ?_)
  exact bX4_eventsWith_4 M FU x1 (0 : Int32) (0 : Int32) _ _ _ hf hF (lv_sub hl [2, 3, 1, 0] rfl)
set_option maxHeartbeats 4000000 in
set_option maxRecDepth 100000 in
theorem bX4_isNearer_23 {σ : Mem} {r : Int32} (M : MX p s m args meth c RX4 G wX cX4_isNearer 3 (some .boolean)) : ∀ (H : Heap) (locs : List Loc) (ls : Array Slot), fX4_isNearer_23 = some r → FH G wX s.heap H locs σ → lv_has ls 3 [] → WG p l e ({ frames := 1, cells := 0, slots := 0, locals := 24 }) s m args below meth c G wX (some (.int r)) σ H locs 23 ls [] := by
  obtain ⟨X, hb, hml, hr, hlk⟩ := id M
  have hx := X.1
  intro H locs ls hf hF hl
  unfold fX4_isNearer_23 at hf
  refine lv_iconst (v := (1 : Int32)) hx hb dX4_isNearer_23 (by decide) ?_
  refine lv_goto (tgt := 28) hx hb dX4_isNearer_24 (by decide) ?_
  obtain rfl := Option.some.inj hf
  exact fl_zret X hb hr hlk hF (Or.inr rfl) dX4_isNearer_28
set_option maxHeartbeats 4000000 in
set_option maxRecDepth 100000 in
theorem cX4_isNearer_ok {l : Launch} {G : Gl} (hI : FI G wX) {x0 : Int32} {x1 : Int32} {σ : Mem} {r : Int32} (hf : fX4_isNearer x0 x1 = some r) : Ct l G wX yX4_isNearer cX4_isNearer 3 (some .boolean) ({ frames := 1, cells := 0, slots := 0, locals := 24 }) [.int x0, .int x1] σ (some (.int r)) σ := by
  refine fl_start hI (by decide) (Nat.le_of_ble_eq_true rfl) ?_
  intro p e s m below meth c M hF ls hl
  obtain ⟨X, hb, hml, hr, hlk⟩ := id M
  have hx := X.1
  have hl : lv_has ls 3 [(0, .int x0), (1, .int x1)] := hl
  unfold fX4_isNearer at hf
  refine lv_iload_n hx hb dX4_isNearer_0 rfl (lv_at hl 0 rfl) ?_
  refine va_mabs hx hb (hml.trans hl.1.symm) X.2.1 (X.2.2.1 _ wm_X4_61) (X.2.2.1 _ wk_Mabs) (X.2.2.1 _ wi_Math) (X.2.2.1 _ wc_Mabs) (Nat.le_of_ble_eq_true rfl) (Nat.le_of_ble_eq_true rfl) (Nat.zero_le _) (Nat.zero_le _) dX4_isNearer_1 ?_
  refine lv_iload_n hx hb dX4_isNearer_4 rfl (lv_at hl 1 rfl) ?_
  refine va_mabs hx hb (hml.trans hl.1.symm) X.2.1 (X.2.2.1 _ wm_X4_61) (X.2.2.1 _ wk_Mabs) (X.2.2.1 _ wi_Math) (X.2.2.1 _ wc_Mabs) (Nat.le_of_ble_eq_true rfl) (Nat.le_of_ble_eq_true rfl) (Nat.zero_le _) (Nat.zero_le _) dX4_isNearer_5 ?_
  refine lv_isub hx hb dX4_isNearer_8 ?_
  refine lv_istore_n (lv' := [(2, .int ((if 0 ≤ x0 then x0 else 0 - x0) - (if 0 ≤ x1 then x1 else 0 - x1))), (0, .int x0), (1, .int x1)]) hx hb dX4_isNearer_9 rfl hl (by decide) rfl (fun ls hl => ?_)
  refine lv_iload_n hx hb dX4_isNearer_10 rfl (lv_at hl 0 rfl) ?_
  refine lv_if_lt (tgt := 23) hx hb dX4_isNearer_11 (by decide) (fun cd1 => ?_) (fun cd1 => ?_)
  · replace hf := ifp cd1 hf
    exact bX4_isNearer_23 M _ _ _ hf hF (lv_sub hl [] rfl)
  · replace hf := ifn cd1 hf
    refine lv_iload_n hx hb dX4_isNearer_14 rfl (lv_at hl 0 rfl) ?_
    refine lv_if_ne (tgt := 27) hx hb dX4_isNearer_15 (by decide) (fun cd2 => ?_) (fun cd2 => ?_)
    · replace hf := ifn cd2 hf
      refine lv_iconst (v := (0 : Int32)) hx hb dX4_isNearer_27 (by decide) ?_
      obtain rfl := Option.some.inj hf
      exact fl_zret X hb hr hlk hF (Or.inl rfl) dX4_isNearer_28
    · replace hf := ifp cd2 hf
      refine lv_iload_n hx hb dX4_isNearer_18 rfl (lv_at hl 1 rfl) ?_
      refine lv_iload_n hx hb dX4_isNearer_19 rfl (lv_at hl 2 rfl) ?_
      refine lv_icmp_ge (tgt := 27) hx hb dX4_isNearer_20 (by decide) (fun cd3 => ?_) (fun cd3 => ?_)
      · replace hf := ifp cd3 hf
        refine lv_iconst (v := (0 : Int32)) hx hb dX4_isNearer_27 (by decide) ?_
        obtain rfl := Option.some.inj hf
        exact fl_zret X hb hr hlk hF (Or.inl rfl) dX4_isNearer_28
      · replace hf := ifn cd3 hf
        exact bX4_isNearer_23 M _ _ _ hf hF (lv_sub hl [] rfl)
set_option maxHeartbeats 4000000 in
set_option maxRecDepth 100000 in
theorem bX4_commonestOffset_54 {σ : Mem} {r : Int32} {k6 : Int32 → Int32 → Int32 → Option Int32} (M : MX p s m args meth c RX4 G wX cX4_commonestOffset 5 (some .int)) (hk6 : ∀ (x1 : Int32) (x2 : Int32) (x3 : Int32) (H : Heap) (locs : List Loc) (ls : Array Slot), k6 x1 x2 x3 = some r → FH G wX s.heap H locs σ → lv_has ls 5 [(0, .ref (gA G 9)), (1, .int x1), (2, .int x2), (3, .int x3)] → WG p l e ({ frames := 2, cells := 0, slots := 0, locals := 46 }) s m args below meth c G wX (some (.int r)) σ H locs 6 ls []) : ∀ (x3 : Int32) (x4 : Int32) (H : Heap) (locs : List Loc) (ls : Array Slot), fX4_commonestOffset_54 k6 σ x3 x4 = some r → FH G wX s.heap H locs σ → lv_has ls 5 [(0, .ref (gA G 9)), (3, .int x3), (4, .int x4)] → WG p l e ({ frames := 2, cells := 0, slots := 0, locals := 46 }) s m args below meth c G wX (some (.int r)) σ H locs 54 ls [] := by
  obtain ⟨X, hb, hml, hr, hlk⟩ := id M
  have hx := X.1
  intro x3 x4 H locs ls hf hF hl
  unfold fX4_commonestOffset_54 at hf
  refine lv_aload_n hx hb dX4_commonestOffset_54 rfl (lv_at hl 0 rfl) ?_
  refine gf_X4_15 X hb hF sh_X4 dX4_commonestOffset_55 ?_
  refine lv_iload_n hx hb dX4_commonestOffset_58 rfl (lv_at hl 1 rfl) ?_
  obtain ⟨g8, hf⟩ := grd_some hf
  refine fl_iald X hb hF sh_a11 g8 dX4_commonestOffset_59 ?_
  refine lv_istore_n (lv' := [(1, .int (σ 11 x3.toNatClampNeg)), (0, .ref (gA G 9)), (3, .int x3), (4, .int x4)]) hx hb dX4_commonestOffset_60 rfl hl (by decide) rfl (fun ls hl => ?_)
  refine lv_iload hx hb dX4_commonestOffset_61 (lv_at hl 3 rfl) ?_
  refine lv_istore_n (lv' := [(2, .int x4), (1, .int (σ 11 x3.toNatClampNeg)), (0, .ref (gA G 9)), (3, .int x3), (4, .int x4)]) hx hb dX4_commonestOffset_63 rfl hl (by decide) rfl (fun ls hl => ?_)
  refine lv_iinc (v := x3 + (1 : Int32)) (lv' := [(3, .int (x3 + (1 : Int32))), (2, .int x4), (1, .int (σ 11 x3.toNatClampNeg)), (0, .ref (gA G 9)), (4, .int x4)]) hx hb dX4_commonestOffset_64 hl (k := 3) rfl rfl (by decide) rfl (fun ls hl => ?_)
  refine lv_goto (tgt := 6) hx hb dX4_commonestOffset_67 (by decide) ?_
  exact hk6 (σ 11 x3.toNatClampNeg) x4 (x3 + (1 : Int32)) _ _ _ hf hF (lv_sub hl [3, 2, 1, 0] rfl)
set_option maxHeartbeats 4000000 in
set_option maxRecDepth 100000 in
theorem bX4_commonestOffset_6 {σ : Mem} {r : Int32} (M : MX p s m args meth c RX4 G wX cX4_commonestOffset 5 (some .int)) : ∀ (fu : Nat) (x1 : Int32) (x2 : Int32) (x3 : Int32) (H : Heap) (locs : List Loc) (ls : Array Slot), fX4_commonestOffset_6 σ fu x1 x2 x3 = some r → FH G wX s.heap H locs σ → lv_has ls 5 [(0, .ref (gA G 9)), (1, .int x1), (2, .int x2), (3, .int x3)] → WG p l e ({ frames := 2, cells := 0, slots := 0, locals := 46 }) s m args below meth c G wX (some (.int r)) σ H locs 6 ls [] := by
  obtain ⟨X, hb, hml, hr, hlk⟩ := id M
  have hx := X.1
  intro fu
  induction fu with
  | zero =>
    intro x1 x2 x3 H locs ls hf hF hl
    rw [fX4_commonestOffset_6] at hf
    cases hf
  | succ fu ih =>
    intro x1 x2 x3 H locs ls hf hF hl
    rw [fX4_commonestOffset_6] at hf
    refine lv_iload_n hx hb dX4_commonestOffset_6 rfl (lv_at hl 3 rfl) ?_
    refine lv_aload_n hx hb dX4_commonestOffset_7 rfl (lv_at hl 0 rfl) ?_
    refine gf_X4_18 X hb hF sh_X4 dX4_commonestOffset_8 ?_
    refine lv_icmp_ge (tgt := 70) hx hb dX4_commonestOffset_11 (by decide) (fun cd1 => ?_) (fun cd1 => ?_)
    · replace hf := ifp cd1 hf
      refine lv_iload_n hx hb dX4_commonestOffset_70 rfl (lv_at hl 1 rfl) ?_
      obtain rfl := Option.some.inj hf
      exact fl_iret X hb hr hlk hF dX4_commonestOffset_71
    · replace hf := ifn cd1 hf
      refine lv_aload_n hx hb dX4_commonestOffset_14 rfl (lv_at hl 0 rfl) ?_
      refine lv_aload_n hx hb dX4_commonestOffset_15 rfl (lv_at hl 0 rfl) ?_
      refine gf_X4_15 X hb hF sh_X4 dX4_commonestOffset_16 ?_
      refine lv_iload_n hx hb dX4_commonestOffset_19 rfl (lv_at hl 3 rfl) ?_
      obtain ⟨g2, hf⟩ := grd_some hf
      refine fl_iald X hb hF sh_a11 g2 dX4_commonestOffset_20 ?_
      obtain ⟨r4, hq3, hf⟩ := bi_some hf
      refine cm_X4_49 (As := [.int (σ 11 x3.toNatClampNeg)]) (rest := []) X hb hml hF (cX4_eventsWith_ok (l := l) (G := G) X.2.2.2.2 hq3) sh_X4 ⟨Nat.le_of_ble_eq_true rfl, Nat.le_of_ble_eq_true rfl⟩ rfl rfl ⟨Nat.zero_le _, Nat.zero_le _⟩ rfl hl.1 rfl (Nat.le_of_ble_eq_true rfl) dX4_commonestOffset_21 (fun H locs hF => ?_)
      obtain ⟨r6, hq5, hf⟩ := bi_some hf
      refine cm_X4_52 (As := [.int r4]) (rest := []) X hb hml hF (cJ6_bitCount_0f7a4_ok (l := l) (G := G) (σ := σ) X.2.2.2.2 hq5) ⟨Nat.le_of_ble_eq_true rfl, Nat.le_of_ble_eq_true rfl⟩ rfl rfl ⟨Nat.zero_le _, Nat.zero_le _⟩ rfl hl.1 rfl (Nat.le_of_ble_eq_true rfl) dX4_commonestOffset_24 (fun H locs hF => ?_)
      refine lv_istore (lv' := [(4, .int r6), (0, .ref (gA G 9)), (1, .int x1), (2, .int x2), (3, .int x3)]) hx hb dX4_commonestOffset_27 hl (by decide) rfl (fun ls hl => ?_)
      refine lv_iload hx hb dX4_commonestOffset_29 (lv_at hl 0 rfl) ?_
      refine lv_iload_n hx hb dX4_commonestOffset_31 rfl (lv_at hl 3 rfl) ?_
      refine lv_icmp_gt (tgt := 54) hx hb dX4_commonestOffset_32 (by decide) (fun cd7 => ?_) (fun cd7 => ?_)
      · replace hf := ifp cd7 hf
        exact bX4_commonestOffset_54 M ih x3 r6 _ _ _ hf hF (lv_sub hl [1, 4, 0] rfl)
      · replace hf := ifn cd7 hf
        refine lv_iload hx hb dX4_commonestOffset_35 (lv_at hl 0 rfl) ?_
        refine lv_iload_n hx hb dX4_commonestOffset_37 rfl (lv_at hl 3 rfl) ?_
        refine lv_icmp_ne (tgt := 64) hx hb dX4_commonestOffset_38 (by decide) (fun cd9 => ?_) (fun cd9 => ?_)
        · replace hf := ifn cd9 hf
          refine lv_iinc (v := x3 + (1 : Int32)) (lv' := [(3, .int (x3 + (1 : Int32))), (4, .int r6), (0, .ref (gA G 9)), (1, .int x1), (2, .int x2)]) hx hb dX4_commonestOffset_64 hl (k := 4) rfl rfl (by decide) rfl (fun ls hl => ?_)
          refine lv_goto (tgt := 6) hx hb dX4_commonestOffset_67 (by decide) ?_
          exact ih x1 x2 (x3 + (1 : Int32)) _ _ _ hf hF (lv_sub hl [2, 3, 4, 0] rfl)
        · replace hf := ifp cd9 hf
          refine lv_aload_n hx hb dX4_commonestOffset_41 rfl (lv_at hl 1 rfl) ?_
          refine gf_X4_15 X hb hF sh_X4 dX4_commonestOffset_42 ?_
          refine lv_iload_n hx hb dX4_commonestOffset_45 rfl (lv_at hl 4 rfl) ?_
          obtain ⟨g10, hf⟩ := grd_some hf
          refine fl_iald X hb hF sh_a11 g10 dX4_commonestOffset_46 ?_
          refine lv_iload_n hx hb dX4_commonestOffset_47 rfl (lv_at hl 2 rfl) ?_
          obtain ⟨r12, hq11, hf⟩ := bi_some hf
          refine cm_X4_57 (As := [.int (σ 11 x3.toNatClampNeg), .int x1]) (rest := []) X hb hml hF (cX4_isNearer_ok (l := l) (G := G) (σ := σ) X.2.2.2.2 hq11) ⟨Nat.le_of_ble_eq_true rfl, Nat.le_of_ble_eq_true rfl⟩ rfl rfl ⟨Nat.zero_le _, Nat.zero_le _⟩ rfl hl.1 rfl (Nat.le_of_ble_eq_true rfl) dX4_commonestOffset_48 (fun H locs hF => ?_)
          refine lv_if_eq (tgt := 64) hx hb dX4_commonestOffset_51 (by decide) (fun cd13 => ?_) (fun cd13 => ?_)
          · replace hf := ifp cd13 hf
            refine lv_iinc (v := x3 + (1 : Int32)) (lv' := [(3, .int (x3 + (1 : Int32))), (4, .int r6), (0, .ref (gA G 9)), (1, .int x1), (2, .int x2)]) hx hb dX4_commonestOffset_64 hl (k := 4) rfl rfl (by decide) rfl (fun ls hl => ?_)
            refine lv_goto (tgt := 6) hx hb dX4_commonestOffset_67 (by decide) ?_
            exact ih x1 x2 (x3 + (1 : Int32)) _ _ _ hf hF (lv_sub hl [2, 3, 4, 0] rfl)
          · replace hf := ifn cd13 hf
            exact bX4_commonestOffset_54 M ih x3 r6 _ _ _ hf hF (lv_sub hl [1, 4, 0] rfl)
set_option maxHeartbeats 4000000 in
set_option maxRecDepth 100000 in
theorem cX4_commonestOffset_ok {l : Launch} {G : Gl} (hI : FI G wX) {σ : Mem} {r : Int32} (hf : fX4_commonestOffset σ = some r) : Ct l G wX yX4_commonestOffset cX4_commonestOffset 5 (some .int) ({ frames := 2, cells := 0, slots := 0, locals := 46 }) [.ref (gA G 9)] σ (some (.int r)) σ := by
  refine fl_start hI (by decide) (Nat.le_of_ble_eq_true rfl) ?_
  intro p e s m below meth c M hF ls hl
  obtain ⟨X, hb, hml, hr, hlk⟩ := id M
  have hx := X.1
  have hl : lv_has ls 5 [(0, .ref (gA G 9))] := hl
  unfold fX4_commonestOffset at hf
  refine lv_iconst (v := (0 : Int32)) hx hb dX4_commonestOffset_0 (by decide) ?_
  refine lv_istore_n (lv' := [(1, .int (0 : Int32)), (0, .ref (gA G 9))]) hx hb dX4_commonestOffset_1 rfl hl (by decide) rfl (fun ls hl => ?_)
  refine lv_iconst (v := (0 : Int32)) hx hb dX4_commonestOffset_2 (by decide) ?_
  refine lv_istore_n (lv' := [(2, .int (0 : Int32)), (1, .int (0 : Int32)), (0, .ref (gA G 9))]) hx hb dX4_commonestOffset_3 rfl hl (by decide) rfl (fun ls hl => ?_)
  refine lv_iconst (v := (0 : Int32)) hx hb dX4_commonestOffset_4 (by decide) ?_
  refine lv_istore_n (lv' := [(3, .int (0 : Int32)), (2, .int (0 : Int32)), (1, .int (0 : Int32)), (0, .ref (gA G 9))]) hx hb dX4_commonestOffset_5 rfl hl (by decide) rfl (fun ls hl => ?_)
  exact bX4_commonestOffset_6 M FU (0 : Int32) (0 : Int32) (0 : Int32) _ _ _ hf hF (lv_sub hl [3, 2, 1, 0] rfl)
set_option maxHeartbeats 4000000 in
set_option maxRecDepth 100000 in
theorem bX4_eventBits_4 {σ : Mem} {r : Int32} (M : MX p s m args meth c RX4 G wX cX4_eventBits 3 (some .int)) : ∀ (fu : Nat) (x1 : Int32) (x2 : Int32) (H : Heap) (locs : List Loc) (ls : Array Slot), fX4_eventBits_4 σ fu x1 x2 = some r → FH G wX s.heap H locs σ → lv_has ls 3 [(0, .ref (gA G 9)), (1, .int x1), (2, .int x2)] → WG p l e ({ frames := 0, cells := 0, slots := 0, locals := 0 }) s m args below meth c G wX (some (.int r)) σ H locs 4 ls [] := by
  obtain ⟨X, hb, hml, hr, hlk⟩ := id M
  have hx := X.1
  intro fu
  induction fu with
  | zero =>
    intro x1 x2 H locs ls hf hF hl
    rw [fX4_eventBits_4] at hf
    cases hf
  | succ fu ih =>
    intro x1 x2 H locs ls hf hF hl
    rw [fX4_eventBits_4] at hf
    refine lv_iload_n hx hb dX4_eventBits_4 rfl (lv_at hl 2 rfl) ?_
    refine lv_aload_n hx hb dX4_eventBits_5 rfl (lv_at hl 0 rfl) ?_
    refine gf_X4_18 X hb hF sh_X4 dX4_eventBits_6 ?_
    refine lv_icmp_ge (tgt := 29) hx hb dX4_eventBits_9 (by decide) (fun cd1 => ?_) (fun cd1 => ?_)
    · replace hf := ifp cd1 hf
      refine lv_iload_n hx hb dX4_eventBits_29 rfl (lv_at hl 1 rfl) ?_
      obtain rfl := Option.some.inj hf
      exact fl_iret X hb hr hlk hF dX4_eventBits_30
    · replace hf := ifn cd1 hf
      refine lv_iload_n hx hb dX4_eventBits_12 rfl (lv_at hl 1 rfl) ?_
      refine lv_iconst (v := (1 : Int32)) hx hb dX4_eventBits_13 (by decide) ?_
      refine lv_aload_n hx hb dX4_eventBits_14 rfl (lv_at hl 0 rfl) ?_
      refine gf_X4_9 X hb hF sh_X4 dX4_eventBits_15 ?_
      refine lv_iload_n hx hb dX4_eventBits_18 rfl (lv_at hl 2 rfl) ?_
      obtain ⟨g2, hf⟩ := grd_some hf
      refine fl_iald X hb hF sh_a10 g2 dX4_eventBits_19 ?_
      refine lv_ishl hx hb dX4_eventBits_20 ?_
      refine lv_ior hx hb dX4_eventBits_21 ?_
      refine lv_istore_n (lv' := [(1, .int (x1 ||| ((1 : Int32) <<< ((σ 10 x2.toNatClampNeg) &&& 31)))), (0, .ref (gA G 9)), (2, .int x2)]) hx hb dX4_eventBits_22 rfl hl (by decide) rfl (fun ls hl => ?_)
      refine lv_iinc (v := x2 + (1 : Int32)) (lv' := [(2, .int (x2 + (1 : Int32))), (1, .int (x1 ||| ((1 : Int32) <<< ((σ 10 x2.toNatClampNeg) &&& 31)))), (0, .ref (gA G 9))]) hx hb dX4_eventBits_23 hl (k := 2) rfl rfl (by decide) rfl (fun ls hl => ?_)
      refine lv_goto (tgt := 4) hx hb dX4_eventBits_26 (by decide) ?_
      exact ih (x1 ||| ((1 : Int32) <<< ((σ 10 x2.toNatClampNeg) &&& 31))) (x2 + (1 : Int32)) _ _ _ hf hF (lv_sub hl [2, 1, 0] rfl)
set_option maxHeartbeats 4000000 in
set_option maxRecDepth 100000 in
theorem cX4_eventBits_ok {l : Launch} {G : Gl} (hI : FI G wX) {σ : Mem} {r : Int32} (hf : fX4_eventBits σ = some r) : Ct l G wX yX4_eventBits cX4_eventBits 3 (some .int) ({ frames := 0, cells := 0, slots := 0, locals := 0 }) [.ref (gA G 9)] σ (some (.int r)) σ := by
  refine fl_start hI (by decide) (Nat.le_of_ble_eq_true rfl) ?_
  intro p e s m below meth c M hF ls hl
  obtain ⟨X, hb, hml, hr, hlk⟩ := id M
  have hx := X.1
  have hl : lv_has ls 3 [(0, .ref (gA G 9))] := hl
  unfold fX4_eventBits at hf
  refine lv_iconst (v := (0 : Int32)) hx hb dX4_eventBits_0 (by decide) ?_
  refine lv_istore_n (lv' := [(1, .int (0 : Int32)), (0, .ref (gA G 9))]) hx hb dX4_eventBits_1 rfl hl (by decide) rfl (fun ls hl => ?_)
  refine lv_iconst (v := (0 : Int32)) hx hb dX4_eventBits_2 (by decide) ?_
  refine lv_istore_n (lv' := [(2, .int (0 : Int32)), (1, .int (0 : Int32)), (0, .ref (gA G 9))]) hx hb dX4_eventBits_3 rfl hl (by decide) rfl (fun ls hl => ?_)
  exact bX4_eventBits_4 M FU (0 : Int32) (0 : Int32) _ _ _ hf hF (lv_sub hl [2, 1, 0] rfl)
end GEN
