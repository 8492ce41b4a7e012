/-! THE CLAIM OUT OF ONE WALK OF THE LAW'S BODY. Your part is whole_start (and what it stands on); all else here is the same for every law, but numbers. -/
def R_law : String := "YearLinesLaw"
def lw_P (b : Addr) (xs : List Int32) (args : Array Value) (s : State) : Prop := args = #[.ref b] ∧ s.IntsAt b xs ∧ xs.length ≤ 2560 ∧ (Jvm.Cond.and given_1 narrow_1).before args s = true
def lw_Q (_ : Array Value) (s : State) (o : Outcome) (t : State) : Prop := o = .returned (some (.int 1)) ∧ Framed s o t [] 600000 7302250
def lw_Z (below : List Frame) (a : Array Value) (s : State) : State → Prop := fun t => ∃ o, t.status = .running ∧ Ended t below o ∧ lw_Q a s o t
/-- the law's own end, with 1 on the stack, nothing written that was there before, its room as the claim has it -/
theorem lw_ret {p : Program} {l : Launch} {e : Env} {s : State} {m : MethodId} {below : List Frame} {meth : Method} {c : Code} {b : Nat} (hx : p.tables.exec = Jvm.exec) (hb : c.code = code) (hr : meth.sig.returnType = ret) (hlocks : meth.locks = false) {pc : Nat} {H : Heap} {ls : Array Slot} (hdg : decode code pc = .ok (.ireturn, 1)) : W p l e room_1 s m #[Value.ref b] below meth c H [] 600000 7302250 (lw_Z below #[Value.ref b] s) (F0 m pc ls [.int 1]) := by
  intro T hT X
  obtain ⟨fs, hret, hrun, hended, hW, hframe⟩ := X.leave (v := some (.int 1)) (hlocks := hlocks) (fun h => by rw [hr] at h; cases h)
  have hmeth' : T.vm.method? m = some meth := X.method'
  refine ⟨T.setFrames fs, ?_, .returned (some (.int 1)), hrun, hended, rfl, ⟨_, rfl⟩, hW, hframe⟩
  jvm_step X.here [X.here.top, hx, hb, hdg, hmeth', hr, ret, narrow_b1]
  (try refine ⟨rfl, ?_⟩); (try refine ⟨rfl, ?_⟩)
  first | (intro acts; rw [hret _ acts rfl rfl rfl]) | rw [hret _ _ rfl rfl rfl]
  exact Steps.refl _
/-- what holds at the law's entry: the machine, the code, the tables' words (any of lw_tbl by 'hts w (by decide +kernel)'), the script of L ints xs at the cell b, what the Statement gives of the start (any of its parts by flat_of_before) -/
def lw_At (p : Program) (s : State) (m : MethodId) (meth : Method) (c : Code) (b L : Nat) (xs : Nat → Int32) : Prop :=
  p.tables.exec = Jvm.exec ∧ c.code = code ∧ meth.sig.returnType = ret ∧ c.maxLocals = 4 ∧ s.vm.findClass R_law = some m.cls ∧ (∀ w ∈ lw_tbl, w.before #[Value.ref b] s = true) ∧ va_X b L xs s s.heap ∧ b < s.heap.size ∧ meth.locks = false ∧ (Jvm.Cond.and given_1 narrow_1).before #[Value.ref b] s = true
def St_type (I : Mem → Mem → Prop) : Prop := ∀ (σ ρ : Mem) (a0 : Int32), I σ ρ → ∃ (r : Int32) (σ' ρ' : Mem), fX6_type a0 σ = some (r, σ') ∧ fX7_type a0 ρ = some (r, ρ') ∧ I σ' ρ'
def St_clear (I : Mem → Mem → Prop) : Prop := ∀ (σ ρ : Mem), I σ ρ → ∃ (r : Int32) (σ' ρ' : Mem), fX6_clear σ = some (r, σ') ∧ fX7_clear ρ = some (r, ρ') ∧ I σ' ρ'
def St_houses (I : Mem → Mem → Prop) : Prop := ∀ (σ ρ : Mem), I σ ρ → ∃ (r : Int32) (σ' ρ' : Mem), fX6_houses σ = some (r, σ') ∧ fX7_houses ρ = some (r, ρ') ∧ I σ' ρ'
def St_entry (I : Mem → Mem → Prop) : Prop := ∀ (σ ρ : Mem) (a0 : Int32) (a1 : Int32) (a2 : Int32), I σ ρ → ∃ (r : Int32), fX6_entry a0 a1 a2 σ = some r ∧ fX7_entry a0 a1 a2 ρ = some r
def St_strikes (I : Mem → Mem → Prop) : Prop := ∀ (σ ρ : Mem) (a0 : Int32) (a1 : Int32), I σ ρ → ∃ (r : Int32) (σ' ρ' : Mem), fX6_strikes a0 a1 σ = some (r, σ') ∧ fX7_strikes a0 a1 ρ = some (r, ρ') ∧ I σ' ρ'
def St_tells (I : Mem → Mem → Prop) : Prop := ∀ (σ ρ : Mem) (a0 : Int32) (a1 : Int32) (a2 : Int32), I σ ρ → ∃ (r : Int32) (σ' ρ' : Mem), fX6_tells a0 a1 a2 σ = some (r, σ') ∧ fX7_tells a0 a1 a2 ρ = some (r, ρ') ∧ I σ' ρ'
def St_slacks (I : Mem → Mem → Prop) : Prop := ∀ (σ ρ : Mem) (a0 : Int32), I σ ρ → ∃ (r : Int32) (σ' ρ' : Mem), fX6_slacks a0 σ = some (r, σ') ∧ fX7_slacks a0 ρ = some (r, ρ') ∧ I σ' ρ'
def St_undo (I : Mem → Mem → Prop) : Prop := ∀ (σ ρ : Mem), I σ ρ → ∃ (r : Int32) (σ' ρ' : Mem), fX6_undo σ = some (r, σ') ∧ fX7_undo ρ = some (r, ρ') ∧ I σ' ρ'
def St_span (I : Mem → Mem → Prop) : Prop := ∀ (σ ρ : Mem) (a0 : Int32) (a1 : Int32) (a2 : Int32) (a3 : Int32), I σ ρ → ∃ (r : Int32) (σ' ρ' : Mem), fX6_span a0 a1 a2 a3 σ = some (r, σ') ∧ fX7_span a0 a1 a2 a3 ρ = some (r, ρ') ∧ I σ' ρ'
def St_shift (I : Mem → Mem → Prop) : Prop := ∀ (σ ρ : Mem) (a0 : Int32) (a1 : Int32), I σ ρ → ∃ (r : Int32) (σ' ρ' : Mem), fX6_shift a0 a1 σ = some (r, σ') ∧ fX7_shift a0 a1 ρ = some (r, ρ') ∧ I σ' ρ'
def St_measure (I : Mem → Mem → Prop) : Prop := ∀ (σ ρ : Mem) (a0 : Int32) (a1 : Int32), I σ ρ → ∃ (r : Int32) (σ' ρ' : Mem), fX6_measure a0 a1 σ = some (r, σ') ∧ fX7_measure a0 a1 ρ = some (r, ρ') ∧ I σ' ρ'
def St_rank (I : Mem → Mem → Prop) : Prop := ∀ (σ ρ : Mem) (a0 : Int32) (a1 : Int32), I σ ρ → ∃ (r : Int32) (σ' ρ' : Mem), fX6_rank a0 a1 σ = some (r, σ') ∧ fX7_rank a0 a1 ρ = some (r, ρ') ∧ I σ' ρ'
def St_event (I : Mem → Mem → Prop) : Prop := ∀ (σ ρ : Mem) (a0 : Int32) (a1 : Int32), I σ ρ → ∃ (r : Int32) (σ' ρ' : Mem), fX6_event a0 a1 σ = some (r, σ') ∧ fX7_event a0 a1 ρ = some (r, ρ') ∧ I σ' ρ'
def St_date (I : Mem → Mem → Prop) : Prop := ∀ (σ ρ : Mem) (a0 : Int32), I σ ρ → ∃ (r : Int32) (σ' ρ' : Mem), fX6_date a0 σ = some (r, σ') ∧ fX7_date a0 ρ = some (r, ρ') ∧ I σ' ρ'
def St_late (I : Mem → Mem → Prop) : Prop := ∀ (σ ρ : Mem) (a0 : Int32) (a1 : Int32), I σ ρ → ∃ (r : Int32) (σ' ρ' : Mem), fX6_late a0 a1 σ = some (r, σ') ∧ fX7_late a0 a1 ρ = some (r, ρ') ∧ I σ' ρ'
def St_line (I : Mem → Mem → Prop) : Prop := ∀ (σ ρ : Mem) (a0 : Int32), I σ ρ → ∃ (r : Int32) (σ' ρ' : Mem), fX6_line a0 σ = some (r, σ') ∧ fX7_line a0 ρ = some (r, ρ') ∧ I σ' ρ'
def St_without (I : Mem → Mem → Prop) : Prop := ∀ (σ ρ : Mem), I σ ρ → ∃ (r : Int32) (σ' ρ' : Mem), fX6_without σ = some (r, σ') ∧ fX7_without ρ = some (r, ρ') ∧ I σ' ρ'
def St_sees (I : Mem → Mem → Prop) : Prop := ∀ (σ ρ : Mem) (a0 : Int32), I σ ρ → ∃ (r : Int32) (σ' ρ' : Mem), fX6_sees a0 σ = some (r, σ') ∧ fX7_sees a0 ρ = some (r, ρ') ∧ I σ' ρ'
def St_forget (I : Mem → Mem → Prop) : Prop := ∀ (σ ρ : Mem), I σ ρ → ∃ (r : Int32) (σ' ρ' : Mem), fX6_forget σ = some (r, σ') ∧ fX7_forget ρ = some (r, ρ') ∧ I σ' ρ'
def St_unseen (I : Mem → Mem → Prop) : Prop := ∀ (σ ρ : Mem) (a0 : Int32), I σ ρ → ∃ (r : Int32) (σ' ρ' : Mem), fX6_unseen a0 σ = some (r, σ') ∧ fX7_unseen a0 ρ = some (r, ρ') ∧ I σ' ρ'
def St_keep (I : Mem → Mem → Prop) : Prop := ∀ (σ ρ : Mem) (a0 : Int32), I σ ρ → ∃ (r : Int32) (σ' ρ' : Mem), fX6_keep a0 σ = some (r, σ') ∧ fX7_keep a0 ρ = some (r, ρ') ∧ I σ' ρ'
def St_back (I : Mem → Mem → Prop) : Prop := ∀ (σ ρ : Mem) (a0 : Int32), I σ ρ → ∃ (r : Int32) (σ' ρ' : Mem), fX6_back a0 σ = some (r, σ') ∧ fX7_back a0 ρ = some (r, ρ') ∧ I σ' ρ'
def St_count (I : Mem → Mem → Prop) : Prop := ∀ (σ ρ : Mem) (a0 : Int32), I σ ρ → ∃ (r : Int32) (σ' ρ' : Mem), fX6_count a0 σ = some (r, σ') ∧ fX7_count a0 ρ = some (r, ρ') ∧ I σ' ρ'
def Sts (I : Mem → Mem → Prop) : Prop := St_type I ∧ St_clear I ∧ St_houses I ∧ St_entry I ∧ St_strikes I ∧ St_tells I ∧ St_slacks I ∧ St_undo I ∧ St_span I ∧ St_shift I ∧ St_measure I ∧ St_rank I ∧ St_event I ∧ St_date I ∧ St_late I ∧ St_line I ∧ St_without I ∧ St_sees I ∧ St_forget I ∧ St_unseen I ∧ St_keep I ∧ St_back I ∧ St_count I
section LW
variable {p : Program} {l : Launch} {e : Env} {R : Room} {s : State} {m : MethodId} {args : Array Value} {below : List Frame} {meth : Method} {c : Code} {H H0 : Heap} {locs : List Loc} {cells slots : Nat} {Q : State → Prop}
variable {cc : ByteArray} {pc : Nat} {ls : Array Slot} {rest As st0 : List Value} {G G2 : Gl} {w w2 : Wd} {σ σ' ρ : Mem} {own C : String} {k ci index N n maxL nL : Nat} {T : u_T} {rs : List (Option Nat)} {A : Nat → Prop} {y : MethodName} {bytes : ByteArray} {ret : Option FieldType} {rm : Room} {v : Option Value} {a : Array Value}
/-- a call of the law on one of its two worlds: the other one stays -/
theorem fl_callL (hr : va_Run p l e R s m args below meth c H locs cells slots 0 0 (F0 m pc ls st0) rest (FQ G w σ' v a) (FA G w)) (hP2 : va_P (gD G2) vwCl (fw G2 w2 ρ) H) (hdis : ∀ i j, i < w.1 → j < w2.1 → gA G i ≠ gA G2 j) (hS : va_S A H0 H locs) (hA : ∀ q, FA G w q → A q)
    (kk : ∀ (H1 : Heap) (locs1 : List Loc), va_P (gD G) vwCl (fw G w σ') H1 → va_P (gD G2) vwCl (fw G2 w2 ρ) H1 → va_S A H0 H1 locs1 → W p l e R s m args below meth c H1 locs1 cells slots Q (F0 m (pc + 3) ls (v.toList ++ rest))) : W p l e R s m args below meth c H locs cells slots Q (F0 m pc ls st0) := by
  intro T hT X
  obtain ⟨v', st₀, t, T', L, h0, X', hL, e1, e2, ⟨hv, ⟨hP, hK⟩, hz, hk⟩, st⟩ := hr T hT X
  cases hv
  rw [h0] at hz hk
  obtain ⟨t2, a1, b1⟩ := kk T'.heap (locs ++ L) (by rw [e1]; exact hP) (by
      rw [e1]
      intro i q hi
      have h1 := hP2 i q hi
      obtain ⟨h2, h3⟩ := fw_some hi
      exact h1.kept (hk q.1 h1.lt (fun ⟨j, j1, j2⟩ => hdis j i j1 h2 (by rw [← h3]; exact j2.symm))))
    ⟨Nat.le_trans hS.1 (by rw [e1]; exact hz), fun q h1 h2 => by rw [e1, hk q (Nat.lt_of_lt_of_le h1 hS.1) (fun z => h2 (hA q z))]; exact hS.2.1 q h1 h2, fun q hq => by
      rcases List.mem_append.mp hq with h | h
      · exact hS.2.2 q h
      · exact hA _ (hL q h)⟩ T' rfl X'
  exact ⟨t2, st t2 a1, b1⟩
theorem fl_lawV (hx : p.tables.exec = Jvm.exec) (hown : s.vm.findClass own = some m.cls) (hts : ∀ x ∈ tbl, x.before args s = true) (hK : FK G s) (hb : c.code = cc) (hml : c.maxLocals = nL) (hP : va_P (gD G) vwCl (fw G w σ) H) (hP2 : va_P (gD G2) vwCl (fw G2 w2 ρ) H) (hdis : ∀ i j, i < w.1 → j < w2.1 → gA G i ≠ gA G2 j) (hS : va_S A H0 H locs) (hA : ∀ q, FA G w q → A q)
    (hM : Ct l G w y bytes maxL ret rm (.ref (gA G k) :: As) σ v σ') (hs : SH w k (.inl (ci, rs))) (hc : vwCl[ci]? = some (C, T, N))
    (h1 : Cond.methodLink own index y ∈ tbl) (h2 : Cond.instanceMethod y ∈ tbl) (h3 : Cond.selects C y y ∈ tbl) (h4 : Cond.initialized y.cls ∈ tbl) (h5 : Cond.code y bytes maxL ret ∈ tbl)
    (hd : y.cls ≠ "java/lang/invoke/MethodHandle" ∧ y.cls ≠ "java/lang/invoke/VarHandle" ∧ (parseMethodDescriptor y.desc).map (fun d => d.parameters.length) = some n) (hrc : rm.cells = 0) (hrs : rm.slots = 0) (hR : rm.frames + 1 ≤ R.frames ∧ 8 + (maxL + 11) + rm.locals ≤ R.locals) (hf : cells ≤ R.cells ∧ slots ≤ R.slots)
    (hn : As.length = n) (hl : ls.size = nL) (hst : st0 = As.reverse ++ .ref (gA G k) :: rest) (hW : (rest.map fun v => v.category).sum ≤ 8) (hdg : decode cc pc = .ok (.invokevirtual index, 3))
    (kk : ∀ (H1 : Heap) (locs1 : List Loc), va_P (gD G) vwCl (fw G w σ') H1 → va_P (gD G2) vwCl (fw G2 w2 ρ) H1 → va_S A H0 H1 locs1 → W p l e R s m args below meth c H1 locs1 cells slots Q (F0 m (pc + 3) ls (v.toList ++ rest))) : W p l e R s m args below meth c H locs cells slots Q (F0 m pc ls st0) :=
  fl_callL (va_runV (Ts := tbl) (C := C) (b := gA G k) (As := As) (rest := rest) ⟨hx, hb, hml, hown, hts⟩ hM ⟨callB_of n hts (tbl_cons h5) rfl hrc hrs (hts _ h4) (hts _ h1) hd hR, hts _ h2, hts _ h3⟩
    ⟨FP_blind, va_recv hK hP hc (q0 := k) (fs := ffs (gA G) rs (σ k)) (by rw [fw_get hs.1, hs.2]; rfl), fun U hU hW => ⟨rfl, by rw [hU]; exact hP, va_K.moved hW.alike hK⟩⟩ rfl hn hl hst (lv_room hW) hdg hf) hP2 hdis hS hA kk
end LW
theorem lw_len {L n : Nat} (hL : L ≤ 2560) (hn : n ≤ L) (h : ¬ Int32.ofNat L - 5 < nI n) : n + 5 ≤ L := by
  have e1 : (Int32.ofNat L - 5 : Int32) = nI L - nI 5 := rfl
  rw [e1, Int32.lt_iff_toInt_lt, pk_sub_toInt (by omega) (by omega), nI_toInt (by omega)] at h
  omega
/-- what the two worlds are at the head of the law's loop -/
def lw_Wd (G G2 : Gl) (s : State) : Prop := FK G s ∧ FK G2 s ∧ FI G wX ∧ FI G2 wR ∧ (∀ i j, i < 73 → j < 13 → gA G i ≠ gA G2 j) ∧ (∀ i, i < 73 → s.heap.size ≤ gA G i) ∧ (∀ i, i < 13 → s.heap.size ≤ gA G2 i)
set_option maxHeartbeats 8000000 in
set_option maxRecDepth 100000 in
theorem law_loop {I : Mem → Mem → Prop} (hI : Sts I) {p : Program} {l : Launch} {e : Env} {s : State} {m : MethodId} {below : List Frame} {meth : Method} {c : Code} {G G2 : Gl} {b L : Nat} {xs : Nat → Int32} (hL : L ≤ 2560) (C0 : lw_At p s m meth c b L xs) (hW : lw_Wd G G2 s) :
    ∀ (f n : Nat) (σ ρ : Mem) (H : Heap) (locs : List Loc) (ls : Array Slot), n ≤ L → L < n + f → I σ ρ → va_P (gD G) vwCl (fw G wX σ) H → va_P (gD G2) vwCl (fw G2 wR ρ) H → va_S (fun q : Nat => s.heap.size ≤ q) s.heap H locs → lv_has ls 4 [(0, .ref b), (1, .ref (gA G 0)), (2, .ref (gA G2 0)), (3, .int (nI n))] → W p l e room_1 s m #[Value.ref b] below meth c H locs 86 1385 (lw_Z below #[Value.ref b] s) (F0 m 18 ls []) := by
  obtain ⟨hx, hb, hr, hml, hown, hts0, hX, hbl, hlocks, hgv⟩ := C0
  have hts : ∀ w ∈ tbl, w.before #[Value.ref b] s = true := fun w h => hts0 w (tbl_sub w h)
  obtain ⟨hK, hK2, hI1, hI2, hdis, hge, hge2⟩ := hW
  have hA1 : ∀ q, FA G wX q → (fun q : Nat => s.heap.size ≤ q) q := fun q ⟨i, h1, h2⟩ => by rw [h2]; exact hge i h1
  have hA2 : ∀ q, FA G2 wR q → (fun q : Nat => s.heap.size ≤ q) q := fun q ⟨i, h1, h2⟩ => by rw [h2]; exact hge2 i h1
  have hdis2 : ∀ i j, i < wR.1 → j < wX.1 → gA G2 i ≠ gA G j := fun i j h1 h2 q => hdis j i h2 h1 q.symm
  have hbA : ¬ (fun q : Nat => s.heap.size ≤ q) b := Nat.not_le.mpr hbl
  obtain ⟨t_type, t_clear, t_houses, t_entry, t_strikes, t_tells, t_slacks, t_undo, t_span, t_shift, t_measure, t_rank, t_event, t_date, t_late, t_line, t_without, t_sees, t_forget, t_unseen, t_keep, t_back, t_count⟩ := hI
  intro f
  induction f with
  | zero =>
    intro n σ ρ H locs ls h1 h2
    exact absurd h2 (by omega)
  | succ f ih =>
    intro n σ ρ H locs ls hn hf hIn hP hP2 hS hl
    refine lv_iload_n hx hb dL_law_18 rfl (lv_at hl 3 rfl) ?_
    refine lv_aload_n hx hb dL_law_19 rfl (lv_at hl 0 rfl) ?_
    refine va_slen hx hb hX hbl hbA hS dL_law_20 ?_
    refine lv_iconst (v := 5) hx hb dL_law_21 (by decide) ?_
    refine lv_isub hx hb dL_law_22 ?_
    refine lv_icmp_gt (tgt := 755) hx hb dL_law_23 (by decide) (fun _ => ?_) (fun cg => ?_)
    · refine lv_iconst (v := 1) hx hb dL_law_755 (by decide) ?_
      refine va_forget (fun q hq => hS.2.2 q hq) ?_
      refine W.widen (k := 600000) (n := 7302250) (Nat.le_of_ble_eq_true rfl) (Nat.le_of_ble_eq_true rfl) ?_
      exact lw_ret hx hb hr hlocks dL_law_756
    have h5 := lw_len hL hn cg
    have i0 : vp_in (nI n) L := vp_in_nI (by omega) (by omega)
    have i1 : vp_in (nI n + 1) L := by rw [show nI n + 1 = nI (n + 1) from nI_add n 1]; exact vp_in_nI (by omega) (by omega)
    have i2 : vp_in (nI n + 2) L := by rw [show nI n + 2 = nI (n + 2) from nI_add n 2]; exact vp_in_nI (by omega) (by omega)
    have i3 : vp_in (nI n + 3) L := by rw [show nI n + 3 = nI (n + 3) from nI_add n 3]; exact vp_in_nI (by omega) (by omega)
    have i4 : vp_in (nI n + 4) L := by rw [show nI n + 4 = nI (n + 4) from nI_add n 4]; exact vp_in_nI (by omega) (by omega)
    refine lv_aload_n hx hb dL_law_26 rfl (lv_at hl 0 rfl) ?_
    refine lv_iload_n hx hb dL_law_27 rfl (lv_at hl 3 rfl) ?_
    refine va_sld hx hb hX hbl hbA hS i0 dL_law_28 ?_
    refine lv_bipush (v := 31) hx hb dL_law_29 (by decide) ?_
    refine lv_iand hx hb dL_law_31 ?_
    refine lv_topi (fun op eop => ?_)
    have hend : ∀ (σ ρ : Mem) (H : Heap) (locs : List Loc), I σ ρ → va_P (gD G) vwCl (fw G wX σ) H → va_P (gD G2) vwCl (fw G2 wR ρ) H → va_S (fun q : Nat => s.heap.size ≤ q) s.heap H locs → W p l e room_1 s m #[Value.ref b] below meth c H locs 86 1385 (lw_Z below #[Value.ref b] s) (F0 m 749 ls []) := by
      intro σ ρ H locs hIn hP hP2 hS
      refine lv_iinc (v := nI (n + 5)) (lv' := [(3, .int (nI (n + 5))), (0, .ref b), (1, .ref (gA G 0)), (2, .ref (gA G2 0))]) hx hb dL_law_749 hl (k := 3) rfl (nI_add n 5) (by decide) rfl (fun ls hl => ?_)
      refine lv_goto (tgt := 18) hx hb dL_law_752 (by decide) ?_
      exact ih (n + 5) σ ρ H locs ls h5 (by omega) hIn hP hP2 hS (lv_sub hl [1, 2, 3, 0] rfl)
    by_cases cs0 : op = (0 : Int32)
    · refine lv_tableIn (tgt := 140) (off := 108) hx hb dL_law_32 (by rw [cs0]; decide) (by rw [cs0]; decide) (by rw [cs0]; rfl) (by decide) ?_
      obtain ⟨r, σ', ρ', e1, e2, hIn'⟩ := t_type σ ρ (xs (nI n + 1).toNatClampNeg) hIn
      refine lv_aload_n hx hb dL_law_140 rfl (lv_at hl 1 rfl) ?_
      refine lv_aload_n hx hb dL_law_141 rfl (lv_at hl 0 rfl) ?_
      refine lv_iload_n hx hb dL_law_142 rfl (lv_at hl 3 rfl) ?_
      refine lv_iconst (v := 1) hx hb dL_law_143 (by decide) ?_
      refine lv_iadd hx hb dL_law_144 ?_
      refine va_sld hx hb hX hbl hbA hS i1 dL_law_145 ?_
      refine fl_lawV (n := 1) (As := [.int (xs (nI n + 1).toNatClampNeg)]) (rest := []) hx hown hts hK hb hml hP hP2 hdis hS hA1 (cX6_type_ok (l := l) (G := G) hI1 e1) sh_X6 rfl wm_L_13 wk_X6_type wl_X6_type wi_X6 wc_X6_type (by decide +kernel) rfl rfl ⟨Nat.le_of_ble_eq_true rfl, Nat.le_of_ble_eq_true rfl⟩ ⟨Nat.le_of_ble_eq_true rfl, Nat.le_of_ble_eq_true rfl⟩ rfl hl.1 rfl (Nat.le_of_ble_eq_true rfl) dL_law_146 (fun H locs hP hP2 hS => ?_)
      refine lv_aload_n hx hb dL_law_149 rfl (lv_at hl 2 rfl) ?_
      refine lv_aload_n hx hb dL_law_150 rfl (lv_at hl 0 rfl) ?_
      refine lv_iload_n hx hb dL_law_151 rfl (lv_at hl 3 rfl) ?_
      refine lv_iconst (v := 1) hx hb dL_law_152 (by decide) ?_
      refine lv_iadd hx hb dL_law_153 ?_
      refine va_sld hx hb hX hbl hbA hS i1 dL_law_154 ?_
      refine fl_lawV (n := 1) (As := [.int (xs (nI n + 1).toNatClampNeg)]) (rest := [.int r]) hx hown hts hK2 hb hml hP2 hP hdis2 hS hA2 (cX7_type_ok (l := l) (G := G2) hI2 e2) sh_X7 rfl wm_L_17 wk_X7_type wl_X7_type wi_X7 wc_X7_type (by decide +kernel) rfl rfl ⟨Nat.le_of_ble_eq_true rfl, Nat.le_of_ble_eq_true rfl⟩ ⟨Nat.le_of_ble_eq_true rfl, Nat.le_of_ble_eq_true rfl⟩ rfl hl.1 rfl (Nat.le_of_ble_eq_true rfl) dL_law_155 (fun H locs hP2 hP hS => ?_)
      refine lv_icmp_eq (tgt := 749) hx hb dL_law_158 (by decide) (fun _ => ?_) (fun z => absurd rfl z)
      exact hend _ _ _ _ hIn' hP hP2 hS
    by_cases cs1 : op = (1 : Int32)
    · refine lv_tableIn (tgt := 163) (off := 131) hx hb dL_law_32 (by rw [cs1]; decide) (by rw [cs1]; decide) (by rw [cs1]; rfl) (by decide) ?_
      obtain ⟨r, σ', ρ', e1, e2, hIn'⟩ := t_clear σ ρ hIn
      refine lv_aload_n hx hb dL_law_163 rfl (lv_at hl 1 rfl) ?_
      refine fl_lawV (n := 0) (As := []) (rest := []) hx hown hts hK hb hml hP hP2 hdis hS hA1 (cX6_clear_ok (l := l) (G := G) hI1 e1) sh_X6 rfl wm_L_18 wk_X6_clear wl_X6_clear wi_X6 wc_X6_clear (by decide +kernel) rfl rfl ⟨Nat.le_of_ble_eq_true rfl, Nat.le_of_ble_eq_true rfl⟩ ⟨Nat.le_of_ble_eq_true rfl, Nat.le_of_ble_eq_true rfl⟩ rfl hl.1 rfl (Nat.le_of_ble_eq_true rfl) dL_law_164 (fun H locs hP hP2 hS => ?_)
      refine lv_aload_n hx hb dL_law_167 rfl (lv_at hl 2 rfl) ?_
      refine fl_lawV (n := 0) (As := []) (rest := [.int r]) hx hown hts hK2 hb hml hP2 hP hdis2 hS hA2 (cX7_clear_ok (l := l) (G := G2) hI2 e2) sh_X7 rfl wm_L_22 wk_X7_clear wl_X7_clear wi_X7 wc_X7_clear (by decide +kernel) rfl rfl ⟨Nat.le_of_ble_eq_true rfl, Nat.le_of_ble_eq_true rfl⟩ ⟨Nat.le_of_ble_eq_true rfl, Nat.le_of_ble_eq_true rfl⟩ rfl hl.1 rfl (Nat.le_of_ble_eq_true rfl) dL_law_168 (fun H locs hP2 hP hS => ?_)
      refine lv_icmp_eq (tgt := 749) hx hb dL_law_171 (by decide) (fun _ => ?_) (fun z => absurd rfl z)
      exact hend _ _ _ _ hIn' hP hP2 hS
    by_cases cs2 : op = (2 : Int32)
    · refine lv_tableIn (tgt := 176) (off := 144) hx hb dL_law_32 (by rw [cs2]; decide) (by rw [cs2]; decide) (by rw [cs2]; rfl) (by decide) ?_
      obtain ⟨r, σ', ρ', e1, e2, hIn'⟩ := t_houses σ ρ hIn
      refine lv_aload_n hx hb dL_law_176 rfl (lv_at hl 1 rfl) ?_
      refine fl_lawV (n := 0) (As := []) (rest := []) hx hown hts hK hb hml hP hP2 hdis hS hA1 (cX6_houses_ok (l := l) (G := G) hI1 e1) sh_X6 rfl wm_L_23 wk_X6_houses wl_X6_houses wi_X6 wc_X6_houses (by decide +kernel) rfl rfl ⟨Nat.le_of_ble_eq_true rfl, Nat.le_of_ble_eq_true rfl⟩ ⟨Nat.le_of_ble_eq_true rfl, Nat.le_of_ble_eq_true rfl⟩ rfl hl.1 rfl (Nat.le_of_ble_eq_true rfl) dL_law_177 (fun H locs hP hP2 hS => ?_)
      refine lv_aload_n hx hb dL_law_180 rfl (lv_at hl 2 rfl) ?_
      refine fl_lawV (n := 0) (As := []) (rest := [.int r]) hx hown hts hK2 hb hml hP2 hP hdis2 hS hA2 (cX7_houses_ok (l := l) (G := G2) hI2 e2) sh_X7 rfl wm_L_26 wk_X7_houses wl_X7_houses wi_X7 wc_X7_houses (by decide +kernel) rfl rfl ⟨Nat.le_of_ble_eq_true rfl, Nat.le_of_ble_eq_true rfl⟩ ⟨Nat.le_of_ble_eq_true rfl, Nat.le_of_ble_eq_true rfl⟩ rfl hl.1 rfl (Nat.le_of_ble_eq_true rfl) dL_law_181 (fun H locs hP2 hP hS => ?_)
      refine lv_icmp_eq (tgt := 749) hx hb dL_law_184 (by decide) (fun _ => ?_) (fun z => absurd rfl z)
      exact hend _ _ _ _ hIn' hP hP2 hS
    by_cases cs3 : op = (3 : Int32)
    · refine lv_tableIn (tgt := 189) (off := 157) hx hb dL_law_32 (by rw [cs3]; decide) (by rw [cs3]; decide) (by rw [cs3]; rfl) (by decide) ?_
      obtain ⟨r, e1, e2⟩ := t_entry σ ρ (xs (nI n + 1).toNatClampNeg) (xs (nI n + 2).toNatClampNeg) (xs (nI n + 3).toNatClampNeg) hIn
      refine lv_aload_n hx hb dL_law_189 rfl (lv_at hl 1 rfl) ?_
      refine lv_aload_n hx hb dL_law_190 rfl (lv_at hl 0 rfl) ?_
      refine lv_iload_n hx hb dL_law_191 rfl (lv_at hl 3 rfl) ?_
      refine lv_iconst (v := 1) hx hb dL_law_192 (by decide) ?_
      refine lv_iadd hx hb dL_law_193 ?_
      refine va_sld hx hb hX hbl hbA hS i1 dL_law_194 ?_
      refine lv_aload_n hx hb dL_law_195 rfl (lv_at hl 0 rfl) ?_
      refine lv_iload_n hx hb dL_law_196 rfl (lv_at hl 3 rfl) ?_
      refine lv_iconst (v := 2) hx hb dL_law_197 (by decide) ?_
      refine lv_iadd hx hb dL_law_198 ?_
      refine va_sld hx hb hX hbl hbA hS i2 dL_law_199 ?_
      refine lv_aload_n hx hb dL_law_200 rfl (lv_at hl 0 rfl) ?_
      refine lv_iload_n hx hb dL_law_201 rfl (lv_at hl 3 rfl) ?_
      refine lv_iconst (v := 3) hx hb dL_law_202 (by decide) ?_
      refine lv_iadd hx hb dL_law_203 ?_
      refine va_sld hx hb hX hbl hbA hS i3 dL_law_204 ?_
      refine fl_lawV (n := 3) (As := [.int (xs (nI n + 1).toNatClampNeg), .int (xs (nI n + 2).toNatClampNeg), .int (xs (nI n + 3).toNatClampNeg)]) (rest := []) hx hown hts hK hb hml hP hP2 hdis hS hA1 (cX6_entry_ok (l := l) (G := G) hI1 e1) sh_X6 rfl wm_L_27 wk_X6_entry wl_X6_entry wi_X6 wc_X6_entry (by decide +kernel) rfl rfl ⟨Nat.le_of_ble_eq_true rfl, Nat.le_of_ble_eq_true rfl⟩ ⟨Nat.le_of_ble_eq_true rfl, Nat.le_of_ble_eq_true rfl⟩ rfl hl.1 rfl (Nat.le_of_ble_eq_true rfl) dL_law_205 (fun H locs hP hP2 hS => ?_)
      refine lv_aload_n hx hb dL_law_208 rfl (lv_at hl 2 rfl) ?_
      refine lv_aload_n hx hb dL_law_209 rfl (lv_at hl 0 rfl) ?_
      refine lv_iload_n hx hb dL_law_210 rfl (lv_at hl 3 rfl) ?_
      refine lv_iconst (v := 1) hx hb dL_law_211 (by decide) ?_
      refine lv_iadd hx hb dL_law_212 ?_
      refine va_sld hx hb hX hbl hbA hS i1 dL_law_213 ?_
      refine lv_aload_n hx hb dL_law_214 rfl (lv_at hl 0 rfl) ?_
      refine lv_iload_n hx hb dL_law_215 rfl (lv_at hl 3 rfl) ?_
      refine lv_iconst (v := 2) hx hb dL_law_216 (by decide) ?_
      refine lv_iadd hx hb dL_law_217 ?_
      refine va_sld hx hb hX hbl hbA hS i2 dL_law_218 ?_
      refine lv_aload_n hx hb dL_law_219 rfl (lv_at hl 0 rfl) ?_
      refine lv_iload_n hx hb dL_law_220 rfl (lv_at hl 3 rfl) ?_
      refine lv_iconst (v := 3) hx hb dL_law_221 (by decide) ?_
      refine lv_iadd hx hb dL_law_222 ?_
      refine va_sld hx hb hX hbl hbA hS i3 dL_law_223 ?_
      refine fl_lawV (n := 3) (As := [.int (xs (nI n + 1).toNatClampNeg), .int (xs (nI n + 2).toNatClampNeg), .int (xs (nI n + 3).toNatClampNeg)]) (rest := [.int r]) hx hown hts hK2 hb hml hP2 hP hdis2 hS hA2 (cX7_entry_ok (l := l) (G := G2) hI2 e2) sh_X7 rfl wm_L_31 wk_X7_entry wl_X7_entry wi_X7 wc_X7_entry (by decide +kernel) rfl rfl ⟨Nat.le_of_ble_eq_true rfl, Nat.le_of_ble_eq_true rfl⟩ ⟨Nat.le_of_ble_eq_true rfl, Nat.le_of_ble_eq_true rfl⟩ rfl hl.1 rfl (Nat.le_of_ble_eq_true rfl) dL_law_224 (fun H locs hP2 hP hS => ?_)
      refine lv_icmp_eq (tgt := 749) hx hb dL_law_227 (by decide) (fun _ => ?_) (fun z => absurd rfl z)
      exact hend _ _ _ _ hIn hP hP2 hS
    by_cases cs4 : op = (4 : Int32)
    · refine lv_tableIn (tgt := 232) (off := 200) hx hb dL_law_32 (by rw [cs4]; decide) (by rw [cs4]; decide) (by rw [cs4]; rfl) (by decide) ?_
      obtain ⟨r, σ', ρ', e1, e2, hIn'⟩ := t_strikes σ ρ (xs (nI n + 1).toNatClampNeg) (xs (nI n + 2).toNatClampNeg) hIn
      refine lv_aload_n hx hb dL_law_232 rfl (lv_at hl 1 rfl) ?_
      refine lv_aload_n hx hb dL_law_233 rfl (lv_at hl 0 rfl) ?_
      refine lv_iload_n hx hb dL_law_234 rfl (lv_at hl 3 rfl) ?_
      refine lv_iconst (v := 1) hx hb dL_law_235 (by decide) ?_
      refine lv_iadd hx hb dL_law_236 ?_
      refine va_sld hx hb hX hbl hbA hS i1 dL_law_237 ?_
      refine lv_aload_n hx hb dL_law_238 rfl (lv_at hl 0 rfl) ?_
      refine lv_iload_n hx hb dL_law_239 rfl (lv_at hl 3 rfl) ?_
      refine lv_iconst (v := 2) hx hb dL_law_240 (by decide) ?_
      refine lv_iadd hx hb dL_law_241 ?_
      refine va_sld hx hb hX hbl hbA hS i2 dL_law_242 ?_
      refine fl_lawV (n := 2) (As := [.int (xs (nI n + 1).toNatClampNeg), .int (xs (nI n + 2).toNatClampNeg)]) (rest := []) hx hown hts hK hb hml hP hP2 hdis hS hA1 (cX6_strikes_ok (l := l) (G := G) hI1 e1) sh_X6 rfl wm_L_32 wk_X6_strikes wl_X6_strikes wi_X6 wc_X6_strikes (by decide +kernel) rfl rfl ⟨Nat.le_of_ble_eq_true rfl, Nat.le_of_ble_eq_true rfl⟩ ⟨Nat.le_of_ble_eq_true rfl, Nat.le_of_ble_eq_true rfl⟩ rfl hl.1 rfl (Nat.le_of_ble_eq_true rfl) dL_law_243 (fun H locs hP hP2 hS => ?_)
      refine lv_aload_n hx hb dL_law_246 rfl (lv_at hl 2 rfl) ?_
      refine lv_aload_n hx hb dL_law_247 rfl (lv_at hl 0 rfl) ?_
      refine lv_iload_n hx hb dL_law_248 rfl (lv_at hl 3 rfl) ?_
      refine lv_iconst (v := 1) hx hb dL_law_249 (by decide) ?_
      refine lv_iadd hx hb dL_law_250 ?_
      refine va_sld hx hb hX hbl hbA hS i1 dL_law_251 ?_
      refine lv_aload_n hx hb dL_law_252 rfl (lv_at hl 0 rfl) ?_
      refine lv_iload_n hx hb dL_law_253 rfl (lv_at hl 3 rfl) ?_
      refine lv_iconst (v := 2) hx hb dL_law_254 (by decide) ?_
      refine lv_iadd hx hb dL_law_255 ?_
      refine va_sld hx hb hX hbl hbA hS i2 dL_law_256 ?_
      refine fl_lawV (n := 2) (As := [.int (xs (nI n + 1).toNatClampNeg), .int (xs (nI n + 2).toNatClampNeg)]) (rest := [.int r]) hx hown hts hK2 hb hml hP2 hP hdis2 hS hA2 (cX7_strikes_ok (l := l) (G := G2) hI2 e2) sh_X7 rfl wm_L_36 wk_X7_strikes wl_X7_strikes wi_X7 wc_X7_strikes (by decide +kernel) rfl rfl ⟨Nat.le_of_ble_eq_true rfl, Nat.le_of_ble_eq_true rfl⟩ ⟨Nat.le_of_ble_eq_true rfl, Nat.le_of_ble_eq_true rfl⟩ rfl hl.1 rfl (Nat.le_of_ble_eq_true rfl) dL_law_257 (fun H locs hP2 hP hS => ?_)
      refine lv_icmp_eq (tgt := 749) hx hb dL_law_260 (by decide) (fun _ => ?_) (fun z => absurd rfl z)
      exact hend _ _ _ _ hIn' hP hP2 hS
    by_cases cs5 : op = (5 : Int32)
    · refine lv_tableIn (tgt := 265) (off := 233) hx hb dL_law_32 (by rw [cs5]; decide) (by rw [cs5]; decide) (by rw [cs5]; rfl) (by decide) ?_
      obtain ⟨r, σ', ρ', e1, e2, hIn'⟩ := t_tells σ ρ (xs (nI n + 1).toNatClampNeg) (xs (nI n + 2).toNatClampNeg) (xs (nI n + 3).toNatClampNeg) hIn
      refine lv_aload_n hx hb dL_law_265 rfl (lv_at hl 1 rfl) ?_
      refine lv_aload_n hx hb dL_law_266 rfl (lv_at hl 0 rfl) ?_
      refine lv_iload_n hx hb dL_law_267 rfl (lv_at hl 3 rfl) ?_
      refine lv_iconst (v := 1) hx hb dL_law_268 (by decide) ?_
      refine lv_iadd hx hb dL_law_269 ?_
      refine va_sld hx hb hX hbl hbA hS i1 dL_law_270 ?_
      refine lv_aload_n hx hb dL_law_271 rfl (lv_at hl 0 rfl) ?_
      refine lv_iload_n hx hb dL_law_272 rfl (lv_at hl 3 rfl) ?_
      refine lv_iconst (v := 2) hx hb dL_law_273 (by decide) ?_
      refine lv_iadd hx hb dL_law_274 ?_
      refine va_sld hx hb hX hbl hbA hS i2 dL_law_275 ?_
      refine lv_aload_n hx hb dL_law_276 rfl (lv_at hl 0 rfl) ?_
      refine lv_iload_n hx hb dL_law_277 rfl (lv_at hl 3 rfl) ?_
      refine lv_iconst (v := 3) hx hb dL_law_278 (by decide) ?_
      refine lv_iadd hx hb dL_law_279 ?_
      refine va_sld hx hb hX hbl hbA hS i3 dL_law_280 ?_
      refine fl_lawV (n := 3) (As := [.int (xs (nI n + 1).toNatClampNeg), .int (xs (nI n + 2).toNatClampNeg), .int (xs (nI n + 3).toNatClampNeg)]) (rest := []) hx hown hts hK hb hml hP hP2 hdis hS hA1 (cX6_tells_ok (l := l) (G := G) hI1 e1) sh_X6 rfl wm_L_37 wk_X6_tells wl_X6_tells wi_X6 wc_X6_tells (by decide +kernel) rfl rfl ⟨Nat.le_of_ble_eq_true rfl, Nat.le_of_ble_eq_true rfl⟩ ⟨Nat.le_of_ble_eq_true rfl, Nat.le_of_ble_eq_true rfl⟩ rfl hl.1 rfl (Nat.le_of_ble_eq_true rfl) dL_law_281 (fun H locs hP hP2 hS => ?_)
      refine lv_aload_n hx hb dL_law_284 rfl (lv_at hl 2 rfl) ?_
      refine lv_aload_n hx hb dL_law_285 rfl (lv_at hl 0 rfl) ?_
      refine lv_iload_n hx hb dL_law_286 rfl (lv_at hl 3 rfl) ?_
      refine lv_iconst (v := 1) hx hb dL_law_287 (by decide) ?_
      refine lv_iadd hx hb dL_law_288 ?_
      refine va_sld hx hb hX hbl hbA hS i1 dL_law_289 ?_
      refine lv_aload_n hx hb dL_law_290 rfl (lv_at hl 0 rfl) ?_
      refine lv_iload_n hx hb dL_law_291 rfl (lv_at hl 3 rfl) ?_
      refine lv_iconst (v := 2) hx hb dL_law_292 (by decide) ?_
      refine lv_iadd hx hb dL_law_293 ?_
      refine va_sld hx hb hX hbl hbA hS i2 dL_law_294 ?_
      refine lv_aload_n hx hb dL_law_295 rfl (lv_at hl 0 rfl) ?_
      refine lv_iload_n hx hb dL_law_296 rfl (lv_at hl 3 rfl) ?_
      refine lv_iconst (v := 3) hx hb dL_law_297 (by decide) ?_
      refine lv_iadd hx hb dL_law_298 ?_
      refine va_sld hx hb hX hbl hbA hS i3 dL_law_299 ?_
      refine fl_lawV (n := 3) (As := [.int (xs (nI n + 1).toNatClampNeg), .int (xs (nI n + 2).toNatClampNeg), .int (xs (nI n + 3).toNatClampNeg)]) (rest := [.int r]) hx hown hts hK2 hb hml hP2 hP hdis2 hS hA2 (cX7_tells_ok (l := l) (G := G2) hI2 e2) sh_X7 rfl wm_L_40 wk_X7_tells wl_X7_tells wi_X7 wc_X7_tells (by decide +kernel) rfl rfl ⟨Nat.le_of_ble_eq_true rfl, Nat.le_of_ble_eq_true rfl⟩ ⟨Nat.le_of_ble_eq_true rfl, Nat.le_of_ble_eq_true rfl⟩ rfl hl.1 rfl (Nat.le_of_ble_eq_true rfl) dL_law_300 (fun H locs hP2 hP hS => ?_)
      refine lv_icmp_eq (tgt := 749) hx hb dL_law_303 (by decide) (fun _ => ?_) (fun z => absurd rfl z)
      exact hend _ _ _ _ hIn' hP hP2 hS
    by_cases cs6 : op = (6 : Int32)
    · refine lv_tableIn (tgt := 308) (off := 276) hx hb dL_law_32 (by rw [cs6]; decide) (by rw [cs6]; decide) (by rw [cs6]; rfl) (by decide) ?_
      obtain ⟨r, σ', ρ', e1, e2, hIn'⟩ := t_slacks σ ρ (xs (nI n + 1).toNatClampNeg) hIn
      refine lv_aload_n hx hb dL_law_308 rfl (lv_at hl 1 rfl) ?_
      refine lv_aload_n hx hb dL_law_309 rfl (lv_at hl 0 rfl) ?_
      refine lv_iload_n hx hb dL_law_310 rfl (lv_at hl 3 rfl) ?_
      refine lv_iconst (v := 1) hx hb dL_law_311 (by decide) ?_
      refine lv_iadd hx hb dL_law_312 ?_
      refine va_sld hx hb hX hbl hbA hS i1 dL_law_313 ?_
      refine fl_lawV (n := 1) (As := [.int (xs (nI n + 1).toNatClampNeg)]) (rest := []) hx hown hts hK hb hml hP hP2 hdis hS hA1 (cX6_slacks_ok (l := l) (G := G) hI1 e1) sh_X6 rfl wm_L_41 wk_X6_slacks wl_X6_slacks wi_X6 wc_X6_slacks (by decide +kernel) rfl rfl ⟨Nat.le_of_ble_eq_true rfl, Nat.le_of_ble_eq_true rfl⟩ ⟨Nat.le_of_ble_eq_true rfl, Nat.le_of_ble_eq_true rfl⟩ rfl hl.1 rfl (Nat.le_of_ble_eq_true rfl) dL_law_314 (fun H locs hP hP2 hS => ?_)
      refine lv_aload_n hx hb dL_law_317 rfl (lv_at hl 2 rfl) ?_
      refine lv_aload_n hx hb dL_law_318 rfl (lv_at hl 0 rfl) ?_
      refine lv_iload_n hx hb dL_law_319 rfl (lv_at hl 3 rfl) ?_
      refine lv_iconst (v := 1) hx hb dL_law_320 (by decide) ?_
      refine lv_iadd hx hb dL_law_321 ?_
      refine va_sld hx hb hX hbl hbA hS i1 dL_law_322 ?_
      refine fl_lawV (n := 1) (As := [.int (xs (nI n + 1).toNatClampNeg)]) (rest := [.int r]) hx hown hts hK2 hb hml hP2 hP hdis2 hS hA2 (cX7_slacks_ok (l := l) (G := G2) hI2 e2) sh_X7 rfl wm_L_44 wk_X7_slacks wl_X7_slacks wi_X7 wc_X7_slacks (by decide +kernel) rfl rfl ⟨Nat.le_of_ble_eq_true rfl, Nat.le_of_ble_eq_true rfl⟩ ⟨Nat.le_of_ble_eq_true rfl, Nat.le_of_ble_eq_true rfl⟩ rfl hl.1 rfl (Nat.le_of_ble_eq_true rfl) dL_law_323 (fun H locs hP2 hP hS => ?_)
      refine lv_icmp_eq (tgt := 749) hx hb dL_law_326 (by decide) (fun _ => ?_) (fun z => absurd rfl z)
      exact hend _ _ _ _ hIn' hP hP2 hS
    by_cases cs7 : op = (7 : Int32)
    · refine lv_tableIn (tgt := 331) (off := 299) hx hb dL_law_32 (by rw [cs7]; decide) (by rw [cs7]; decide) (by rw [cs7]; rfl) (by decide) ?_
      obtain ⟨r, σ', ρ', e1, e2, hIn'⟩ := t_undo σ ρ hIn
      refine lv_aload_n hx hb dL_law_331 rfl (lv_at hl 1 rfl) ?_
      refine fl_lawV (n := 0) (As := []) (rest := []) hx hown hts hK hb hml hP hP2 hdis hS hA1 (cX6_undo_ok (l := l) (G := G) hI1 e1) sh_X6 rfl wm_L_45 wk_X6_undo wl_X6_undo wi_X6 wc_X6_undo (by decide +kernel) rfl rfl ⟨Nat.le_of_ble_eq_true rfl, Nat.le_of_ble_eq_true rfl⟩ ⟨Nat.le_of_ble_eq_true rfl, Nat.le_of_ble_eq_true rfl⟩ rfl hl.1 rfl (Nat.le_of_ble_eq_true rfl) dL_law_332 (fun H locs hP hP2 hS => ?_)
      refine lv_aload_n hx hb dL_law_335 rfl (lv_at hl 2 rfl) ?_
      refine fl_lawV (n := 0) (As := []) (rest := [.int r]) hx hown hts hK2 hb hml hP2 hP hdis2 hS hA2 (cX7_undo_ok (l := l) (G := G2) hI2 e2) sh_X7 rfl wm_L_48 wk_X7_undo wl_X7_undo wi_X7 wc_X7_undo (by decide +kernel) rfl rfl ⟨Nat.le_of_ble_eq_true rfl, Nat.le_of_ble_eq_true rfl⟩ ⟨Nat.le_of_ble_eq_true rfl, Nat.le_of_ble_eq_true rfl⟩ rfl hl.1 rfl (Nat.le_of_ble_eq_true rfl) dL_law_336 (fun H locs hP2 hP hS => ?_)
      refine lv_icmp_eq (tgt := 749) hx hb dL_law_339 (by decide) (fun _ => ?_) (fun z => absurd rfl z)
      exact hend _ _ _ _ hIn' hP hP2 hS
    by_cases cs8 : op = (8 : Int32)
    · refine lv_tableIn (tgt := 344) (off := 312) hx hb dL_law_32 (by rw [cs8]; decide) (by rw [cs8]; decide) (by rw [cs8]; rfl) (by decide) ?_
      obtain ⟨r, σ', ρ', e1, e2, hIn'⟩ := t_span σ ρ (xs (nI n + 1).toNatClampNeg) (xs (nI n + 2).toNatClampNeg) (xs (nI n + 3).toNatClampNeg) (xs (nI n + 4).toNatClampNeg) hIn
      refine lv_aload_n hx hb dL_law_344 rfl (lv_at hl 1 rfl) ?_
      refine lv_aload_n hx hb dL_law_345 rfl (lv_at hl 0 rfl) ?_
      refine lv_iload_n hx hb dL_law_346 rfl (lv_at hl 3 rfl) ?_
      refine lv_iconst (v := 1) hx hb dL_law_347 (by decide) ?_
      refine lv_iadd hx hb dL_law_348 ?_
      refine va_sld hx hb hX hbl hbA hS i1 dL_law_349 ?_
      refine lv_aload_n hx hb dL_law_350 rfl (lv_at hl 0 rfl) ?_
      refine lv_iload_n hx hb dL_law_351 rfl (lv_at hl 3 rfl) ?_
      refine lv_iconst (v := 2) hx hb dL_law_352 (by decide) ?_
      refine lv_iadd hx hb dL_law_353 ?_
      refine va_sld hx hb hX hbl hbA hS i2 dL_law_354 ?_
      refine lv_aload_n hx hb dL_law_355 rfl (lv_at hl 0 rfl) ?_
      refine lv_iload_n hx hb dL_law_356 rfl (lv_at hl 3 rfl) ?_
      refine lv_iconst (v := 3) hx hb dL_law_357 (by decide) ?_
      refine lv_iadd hx hb dL_law_358 ?_
      refine va_sld hx hb hX hbl hbA hS i3 dL_law_359 ?_
      refine lv_aload_n hx hb dL_law_360 rfl (lv_at hl 0 rfl) ?_
      refine lv_iload_n hx hb dL_law_361 rfl (lv_at hl 3 rfl) ?_
      refine lv_iconst (v := 4) hx hb dL_law_362 (by decide) ?_
      refine lv_iadd hx hb dL_law_363 ?_
      refine va_sld hx hb hX hbl hbA hS i4 dL_law_364 ?_
      refine fl_lawV (n := 4) (As := [.int (xs (nI n + 1).toNatClampNeg), .int (xs (nI n + 2).toNatClampNeg), .int (xs (nI n + 3).toNatClampNeg), .int (xs (nI n + 4).toNatClampNeg)]) (rest := []) hx hown hts hK hb hml hP hP2 hdis hS hA1 (cX6_span_ok (l := l) (G := G) hI1 e1) sh_X6 rfl wm_L_49 wk_X6_span wl_X6_span wi_X6 wc_X6_span (by decide +kernel) rfl rfl ⟨Nat.le_of_ble_eq_true rfl, Nat.le_of_ble_eq_true rfl⟩ ⟨Nat.le_of_ble_eq_true rfl, Nat.le_of_ble_eq_true rfl⟩ rfl hl.1 rfl (Nat.le_of_ble_eq_true rfl) dL_law_365 (fun H locs hP hP2 hS => ?_)
      refine lv_aload_n hx hb dL_law_368 rfl (lv_at hl 2 rfl) ?_
      refine lv_aload_n hx hb dL_law_369 rfl (lv_at hl 0 rfl) ?_
      refine lv_iload_n hx hb dL_law_370 rfl (lv_at hl 3 rfl) ?_
      refine lv_iconst (v := 1) hx hb dL_law_371 (by decide) ?_
      refine lv_iadd hx hb dL_law_372 ?_
      refine va_sld hx hb hX hbl hbA hS i1 dL_law_373 ?_
      refine lv_aload_n hx hb dL_law_374 rfl (lv_at hl 0 rfl) ?_
      refine lv_iload_n hx hb dL_law_375 rfl (lv_at hl 3 rfl) ?_
      refine lv_iconst (v := 2) hx hb dL_law_376 (by decide) ?_
      refine lv_iadd hx hb dL_law_377 ?_
      refine va_sld hx hb hX hbl hbA hS i2 dL_law_378 ?_
      refine lv_aload_n hx hb dL_law_379 rfl (lv_at hl 0 rfl) ?_
      refine lv_iload_n hx hb dL_law_380 rfl (lv_at hl 3 rfl) ?_
      refine lv_iconst (v := 3) hx hb dL_law_381 (by decide) ?_
      refine lv_iadd hx hb dL_law_382 ?_
      refine va_sld hx hb hX hbl hbA hS i3 dL_law_383 ?_
      refine lv_aload_n hx hb dL_law_384 rfl (lv_at hl 0 rfl) ?_
      refine lv_iload_n hx hb dL_law_385 rfl (lv_at hl 3 rfl) ?_
      refine lv_iconst (v := 4) hx hb dL_law_386 (by decide) ?_
      refine lv_iadd hx hb dL_law_387 ?_
      refine va_sld hx hb hX hbl hbA hS i4 dL_law_388 ?_
      refine fl_lawV (n := 4) (As := [.int (xs (nI n + 1).toNatClampNeg), .int (xs (nI n + 2).toNatClampNeg), .int (xs (nI n + 3).toNatClampNeg), .int (xs (nI n + 4).toNatClampNeg)]) (rest := [.int r]) hx hown hts hK2 hb hml hP2 hP hdis2 hS hA2 (cX7_span_ok (l := l) (G := G2) hI2 e2) sh_X7 rfl wm_L_53 wk_X7_span wl_X7_span wi_X7 wc_X7_span (by decide +kernel) rfl rfl ⟨Nat.le_of_ble_eq_true rfl, Nat.le_of_ble_eq_true rfl⟩ ⟨Nat.le_of_ble_eq_true rfl, Nat.le_of_ble_eq_true rfl⟩ rfl hl.1 rfl (Nat.le_of_ble_eq_true rfl) dL_law_389 (fun H locs hP2 hP hS => ?_)
      refine lv_icmp_eq (tgt := 749) hx hb dL_law_392 (by decide) (fun _ => ?_) (fun z => absurd rfl z)
      exact hend _ _ _ _ hIn' hP hP2 hS
    by_cases cs9 : op = (9 : Int32)
    · refine lv_tableIn (tgt := 397) (off := 365) hx hb dL_law_32 (by rw [cs9]; decide) (by rw [cs9]; decide) (by rw [cs9]; rfl) (by decide) ?_
      obtain ⟨r, σ', ρ', e1, e2, hIn'⟩ := t_shift σ ρ (xs (nI n + 1).toNatClampNeg) (xs (nI n + 2).toNatClampNeg) hIn
      refine lv_aload_n hx hb dL_law_397 rfl (lv_at hl 1 rfl) ?_
      refine lv_aload_n hx hb dL_law_398 rfl (lv_at hl 0 rfl) ?_
      refine lv_iload_n hx hb dL_law_399 rfl (lv_at hl 3 rfl) ?_
      refine lv_iconst (v := 1) hx hb dL_law_400 (by decide) ?_
      refine lv_iadd hx hb dL_law_401 ?_
      refine va_sld hx hb hX hbl hbA hS i1 dL_law_402 ?_
      refine lv_aload_n hx hb dL_law_403 rfl (lv_at hl 0 rfl) ?_
      refine lv_iload_n hx hb dL_law_404 rfl (lv_at hl 3 rfl) ?_
      refine lv_iconst (v := 2) hx hb dL_law_405 (by decide) ?_
      refine lv_iadd hx hb dL_law_406 ?_
      refine va_sld hx hb hX hbl hbA hS i2 dL_law_407 ?_
      refine fl_lawV (n := 2) (As := [.int (xs (nI n + 1).toNatClampNeg), .int (xs (nI n + 2).toNatClampNeg)]) (rest := []) hx hown hts hK hb hml hP hP2 hdis hS hA1 (cX6_shift_ok (l := l) (G := G) hI1 e1) sh_X6 rfl wm_L_54 wk_X6_shift wl_X6_shift wi_X6 wc_X6_shift (by decide +kernel) rfl rfl ⟨Nat.le_of_ble_eq_true rfl, Nat.le_of_ble_eq_true rfl⟩ ⟨Nat.le_of_ble_eq_true rfl, Nat.le_of_ble_eq_true rfl⟩ rfl hl.1 rfl (Nat.le_of_ble_eq_true rfl) dL_law_408 (fun H locs hP hP2 hS => ?_)
      refine lv_aload_n hx hb dL_law_411 rfl (lv_at hl 2 rfl) ?_
      refine lv_aload_n hx hb dL_law_412 rfl (lv_at hl 0 rfl) ?_
      refine lv_iload_n hx hb dL_law_413 rfl (lv_at hl 3 rfl) ?_
      refine lv_iconst (v := 1) hx hb dL_law_414 (by decide) ?_
      refine lv_iadd hx hb dL_law_415 ?_
      refine va_sld hx hb hX hbl hbA hS i1 dL_law_416 ?_
      refine lv_aload_n hx hb dL_law_417 rfl (lv_at hl 0 rfl) ?_
      refine lv_iload_n hx hb dL_law_418 rfl (lv_at hl 3 rfl) ?_
      refine lv_iconst (v := 2) hx hb dL_law_419 (by decide) ?_
      refine lv_iadd hx hb dL_law_420 ?_
      refine va_sld hx hb hX hbl hbA hS i2 dL_law_421 ?_
      refine fl_lawV (n := 2) (As := [.int (xs (nI n + 1).toNatClampNeg), .int (xs (nI n + 2).toNatClampNeg)]) (rest := [.int r]) hx hown hts hK2 hb hml hP2 hP hdis2 hS hA2 (cX7_shift_ok (l := l) (G := G2) hI2 e2) sh_X7 rfl wm_L_57 wk_X7_shift wl_X7_shift wi_X7 wc_X7_shift (by decide +kernel) rfl rfl ⟨Nat.le_of_ble_eq_true rfl, Nat.le_of_ble_eq_true rfl⟩ ⟨Nat.le_of_ble_eq_true rfl, Nat.le_of_ble_eq_true rfl⟩ rfl hl.1 rfl (Nat.le_of_ble_eq_true rfl) dL_law_422 (fun H locs hP2 hP hS => ?_)
      refine lv_icmp_eq (tgt := 749) hx hb dL_law_425 (by decide) (fun _ => ?_) (fun z => absurd rfl z)
      exact hend _ _ _ _ hIn' hP hP2 hS
    by_cases cs10 : op = (10 : Int32)
    · refine lv_tableIn (tgt := 430) (off := 398) hx hb dL_law_32 (by rw [cs10]; decide) (by rw [cs10]; decide) (by rw [cs10]; rfl) (by decide) ?_
      obtain ⟨r, σ', ρ', e1, e2, hIn'⟩ := t_measure σ ρ (xs (nI n + 1).toNatClampNeg) (xs (nI n + 2).toNatClampNeg) hIn
      refine lv_aload_n hx hb dL_law_430 rfl (lv_at hl 1 rfl) ?_
      refine lv_aload_n hx hb dL_law_431 rfl (lv_at hl 0 rfl) ?_
      refine lv_iload_n hx hb dL_law_432 rfl (lv_at hl 3 rfl) ?_
      refine lv_iconst (v := 1) hx hb dL_law_433 (by decide) ?_
      refine lv_iadd hx hb dL_law_434 ?_
      refine va_sld hx hb hX hbl hbA hS i1 dL_law_435 ?_
      refine lv_aload_n hx hb dL_law_436 rfl (lv_at hl 0 rfl) ?_
      refine lv_iload_n hx hb dL_law_437 rfl (lv_at hl 3 rfl) ?_
      refine lv_iconst (v := 2) hx hb dL_law_438 (by decide) ?_
      refine lv_iadd hx hb dL_law_439 ?_
      refine va_sld hx hb hX hbl hbA hS i2 dL_law_440 ?_
      refine fl_lawV (n := 2) (As := [.int (xs (nI n + 1).toNatClampNeg), .int (xs (nI n + 2).toNatClampNeg)]) (rest := []) hx hown hts hK hb hml hP hP2 hdis hS hA1 (cX6_measure_ok (l := l) (G := G) hI1 e1) sh_X6 rfl wm_L_58 wk_X6_measure wl_X6_measure wi_X6 wc_X6_measure (by decide +kernel) rfl rfl ⟨Nat.le_of_ble_eq_true rfl, Nat.le_of_ble_eq_true rfl⟩ ⟨Nat.le_of_ble_eq_true rfl, Nat.le_of_ble_eq_true rfl⟩ rfl hl.1 rfl (Nat.le_of_ble_eq_true rfl) dL_law_441 (fun H locs hP hP2 hS => ?_)
      refine lv_aload_n hx hb dL_law_444 rfl (lv_at hl 2 rfl) ?_
      refine lv_aload_n hx hb dL_law_445 rfl (lv_at hl 0 rfl) ?_
      refine lv_iload_n hx hb dL_law_446 rfl (lv_at hl 3 rfl) ?_
      refine lv_iconst (v := 1) hx hb dL_law_447 (by decide) ?_
      refine lv_iadd hx hb dL_law_448 ?_
      refine va_sld hx hb hX hbl hbA hS i1 dL_law_449 ?_
      refine lv_aload_n hx hb dL_law_450 rfl (lv_at hl 0 rfl) ?_
      refine lv_iload_n hx hb dL_law_451 rfl (lv_at hl 3 rfl) ?_
      refine lv_iconst (v := 2) hx hb dL_law_452 (by decide) ?_
      refine lv_iadd hx hb dL_law_453 ?_
      refine va_sld hx hb hX hbl hbA hS i2 dL_law_454 ?_
      refine fl_lawV (n := 2) (As := [.int (xs (nI n + 1).toNatClampNeg), .int (xs (nI n + 2).toNatClampNeg)]) (rest := [.int r]) hx hown hts hK2 hb hml hP2 hP hdis2 hS hA2 (cX7_measure_ok (l := l) (G := G2) hI2 e2) sh_X7 rfl wm_L_61 wk_X7_measure wl_X7_measure wi_X7 wc_X7_measure (by decide +kernel) rfl rfl ⟨Nat.le_of_ble_eq_true rfl, Nat.le_of_ble_eq_true rfl⟩ ⟨Nat.le_of_ble_eq_true rfl, Nat.le_of_ble_eq_true rfl⟩ rfl hl.1 rfl (Nat.le_of_ble_eq_true rfl) dL_law_455 (fun H locs hP2 hP hS => ?_)
      refine lv_icmp_eq (tgt := 749) hx hb dL_law_458 (by decide) (fun _ => ?_) (fun z => absurd rfl z)
      exact hend _ _ _ _ hIn' hP hP2 hS
    by_cases cs11 : op = (11 : Int32)
    · refine lv_tableIn (tgt := 463) (off := 431) hx hb dL_law_32 (by rw [cs11]; decide) (by rw [cs11]; decide) (by rw [cs11]; rfl) (by decide) ?_
      obtain ⟨r, σ', ρ', e1, e2, hIn'⟩ := t_rank σ ρ (xs (nI n + 1).toNatClampNeg) (xs (nI n + 2).toNatClampNeg) hIn
      refine lv_aload_n hx hb dL_law_463 rfl (lv_at hl 1 rfl) ?_
      refine lv_aload_n hx hb dL_law_464 rfl (lv_at hl 0 rfl) ?_
      refine lv_iload_n hx hb dL_law_465 rfl (lv_at hl 3 rfl) ?_
      refine lv_iconst (v := 1) hx hb dL_law_466 (by decide) ?_
      refine lv_iadd hx hb dL_law_467 ?_
      refine va_sld hx hb hX hbl hbA hS i1 dL_law_468 ?_
      refine lv_aload_n hx hb dL_law_469 rfl (lv_at hl 0 rfl) ?_
      refine lv_iload_n hx hb dL_law_470 rfl (lv_at hl 3 rfl) ?_
      refine lv_iconst (v := 2) hx hb dL_law_471 (by decide) ?_
      refine lv_iadd hx hb dL_law_472 ?_
      refine va_sld hx hb hX hbl hbA hS i2 dL_law_473 ?_
      refine fl_lawV (n := 2) (As := [.int (xs (nI n + 1).toNatClampNeg), .int (xs (nI n + 2).toNatClampNeg)]) (rest := []) hx hown hts hK hb hml hP hP2 hdis hS hA1 (cX6_rank_ok (l := l) (G := G) hI1 e1) sh_X6 rfl wm_L_62 wk_X6_rank wl_X6_rank wi_X6 wc_X6_rank (by decide +kernel) rfl rfl ⟨Nat.le_of_ble_eq_true rfl, Nat.le_of_ble_eq_true rfl⟩ ⟨Nat.le_of_ble_eq_true rfl, Nat.le_of_ble_eq_true rfl⟩ rfl hl.1 rfl (Nat.le_of_ble_eq_true rfl) dL_law_474 (fun H locs hP hP2 hS => ?_)
      refine lv_aload_n hx hb dL_law_477 rfl (lv_at hl 2 rfl) ?_
      refine lv_aload_n hx hb dL_law_478 rfl (lv_at hl 0 rfl) ?_
      refine lv_iload_n hx hb dL_law_479 rfl (lv_at hl 3 rfl) ?_
      refine lv_iconst (v := 1) hx hb dL_law_480 (by decide) ?_
      refine lv_iadd hx hb dL_law_481 ?_
      refine va_sld hx hb hX hbl hbA hS i1 dL_law_482 ?_
      refine lv_aload_n hx hb dL_law_483 rfl (lv_at hl 0 rfl) ?_
      refine lv_iload_n hx hb dL_law_484 rfl (lv_at hl 3 rfl) ?_
      refine lv_iconst (v := 2) hx hb dL_law_485 (by decide) ?_
      refine lv_iadd hx hb dL_law_486 ?_
      refine va_sld hx hb hX hbl hbA hS i2 dL_law_487 ?_
      refine fl_lawV (n := 2) (As := [.int (xs (nI n + 1).toNatClampNeg), .int (xs (nI n + 2).toNatClampNeg)]) (rest := [.int r]) hx hown hts hK2 hb hml hP2 hP hdis2 hS hA2 (cX7_rank_ok (l := l) (G := G2) hI2 e2) sh_X7 rfl wm_L_65 wk_X7_rank wl_X7_rank wi_X7 wc_X7_rank (by decide +kernel) rfl rfl ⟨Nat.le_of_ble_eq_true rfl, Nat.le_of_ble_eq_true rfl⟩ ⟨Nat.le_of_ble_eq_true rfl, Nat.le_of_ble_eq_true rfl⟩ rfl hl.1 rfl (Nat.le_of_ble_eq_true rfl) dL_law_488 (fun H locs hP2 hP hS => ?_)
      refine lv_icmp_eq (tgt := 749) hx hb dL_law_491 (by decide) (fun _ => ?_) (fun z => absurd rfl z)
      exact hend _ _ _ _ hIn' hP hP2 hS
    by_cases cs12 : op = (12 : Int32)
    · refine lv_tableIn (tgt := 496) (off := 464) hx hb dL_law_32 (by rw [cs12]; decide) (by rw [cs12]; decide) (by rw [cs12]; rfl) (by decide) ?_
      obtain ⟨r, σ', ρ', e1, e2, hIn'⟩ := t_event σ ρ (xs (nI n + 1).toNatClampNeg) (xs (nI n + 2).toNatClampNeg) hIn
      refine lv_aload_n hx hb dL_law_496 rfl (lv_at hl 1 rfl) ?_
      refine lv_aload_n hx hb dL_law_497 rfl (lv_at hl 0 rfl) ?_
      refine lv_iload_n hx hb dL_law_498 rfl (lv_at hl 3 rfl) ?_
      refine lv_iconst (v := 1) hx hb dL_law_499 (by decide) ?_
      refine lv_iadd hx hb dL_law_500 ?_
      refine va_sld hx hb hX hbl hbA hS i1 dL_law_501 ?_
      refine lv_aload_n hx hb dL_law_502 rfl (lv_at hl 0 rfl) ?_
      refine lv_iload_n hx hb dL_law_503 rfl (lv_at hl 3 rfl) ?_
      refine lv_iconst (v := 2) hx hb dL_law_504 (by decide) ?_
      refine lv_iadd hx hb dL_law_505 ?_
      refine va_sld hx hb hX hbl hbA hS i2 dL_law_506 ?_
      refine fl_lawV (n := 2) (As := [.int (xs (nI n + 1).toNatClampNeg), .int (xs (nI n + 2).toNatClampNeg)]) (rest := []) hx hown hts hK hb hml hP hP2 hdis hS hA1 (cX6_event_ok (l := l) (G := G) hI1 e1) sh_X6 rfl wm_L_66 wk_X6_event wl_X6_event wi_X6 wc_X6_event (by decide +kernel) rfl rfl ⟨Nat.le_of_ble_eq_true rfl, Nat.le_of_ble_eq_true rfl⟩ ⟨Nat.le_of_ble_eq_true rfl, Nat.le_of_ble_eq_true rfl⟩ rfl hl.1 rfl (Nat.le_of_ble_eq_true rfl) dL_law_507 (fun H locs hP hP2 hS => ?_)
      refine lv_aload_n hx hb dL_law_510 rfl (lv_at hl 2 rfl) ?_
      refine lv_aload_n hx hb dL_law_511 rfl (lv_at hl 0 rfl) ?_
      refine lv_iload_n hx hb dL_law_512 rfl (lv_at hl 3 rfl) ?_
      refine lv_iconst (v := 1) hx hb dL_law_513 (by decide) ?_
      refine lv_iadd hx hb dL_law_514 ?_
      refine va_sld hx hb hX hbl hbA hS i1 dL_law_515 ?_
      refine lv_aload_n hx hb dL_law_516 rfl (lv_at hl 0 rfl) ?_
      refine lv_iload_n hx hb dL_law_517 rfl (lv_at hl 3 rfl) ?_
      refine lv_iconst (v := 2) hx hb dL_law_518 (by decide) ?_
      refine lv_iadd hx hb dL_law_519 ?_
      refine va_sld hx hb hX hbl hbA hS i2 dL_law_520 ?_
      refine fl_lawV (n := 2) (As := [.int (xs (nI n + 1).toNatClampNeg), .int (xs (nI n + 2).toNatClampNeg)]) (rest := [.int r]) hx hown hts hK2 hb hml hP2 hP hdis2 hS hA2 (cX7_event_ok (l := l) (G := G2) hI2 e2) sh_X7 rfl wm_L_69 wk_X7_event wl_X7_event wi_X7 wc_X7_event (by decide +kernel) rfl rfl ⟨Nat.le_of_ble_eq_true rfl, Nat.le_of_ble_eq_true rfl⟩ ⟨Nat.le_of_ble_eq_true rfl, Nat.le_of_ble_eq_true rfl⟩ rfl hl.1 rfl (Nat.le_of_ble_eq_true rfl) dL_law_521 (fun H locs hP2 hP hS => ?_)
      refine lv_icmp_eq (tgt := 749) hx hb dL_law_524 (by decide) (fun _ => ?_) (fun z => absurd rfl z)
      exact hend _ _ _ _ hIn' hP hP2 hS
    by_cases cs13 : op = (13 : Int32)
    · refine lv_tableIn (tgt := 529) (off := 497) hx hb dL_law_32 (by rw [cs13]; decide) (by rw [cs13]; decide) (by rw [cs13]; rfl) (by decide) ?_
      obtain ⟨r, σ', ρ', e1, e2, hIn'⟩ := t_date σ ρ (xs (nI n + 1).toNatClampNeg) hIn
      refine lv_aload_n hx hb dL_law_529 rfl (lv_at hl 1 rfl) ?_
      refine lv_aload_n hx hb dL_law_530 rfl (lv_at hl 0 rfl) ?_
      refine lv_iload_n hx hb dL_law_531 rfl (lv_at hl 3 rfl) ?_
      refine lv_iconst (v := 1) hx hb dL_law_532 (by decide) ?_
      refine lv_iadd hx hb dL_law_533 ?_
      refine va_sld hx hb hX hbl hbA hS i1 dL_law_534 ?_
      refine fl_lawV (n := 1) (As := [.int (xs (nI n + 1).toNatClampNeg)]) (rest := []) hx hown hts hK hb hml hP hP2 hdis hS hA1 (cX6_date_ok (l := l) (G := G) hI1 e1) sh_X6 rfl wm_L_70 wk_X6_date wl_X6_date wi_X6 wc_X6_date (by decide +kernel) rfl rfl ⟨Nat.le_of_ble_eq_true rfl, Nat.le_of_ble_eq_true rfl⟩ ⟨Nat.le_of_ble_eq_true rfl, Nat.le_of_ble_eq_true rfl⟩ rfl hl.1 rfl (Nat.le_of_ble_eq_true rfl) dL_law_535 (fun H locs hP hP2 hS => ?_)
      refine lv_aload_n hx hb dL_law_538 rfl (lv_at hl 2 rfl) ?_
      refine lv_aload_n hx hb dL_law_539 rfl (lv_at hl 0 rfl) ?_
      refine lv_iload_n hx hb dL_law_540 rfl (lv_at hl 3 rfl) ?_
      refine lv_iconst (v := 1) hx hb dL_law_541 (by decide) ?_
      refine lv_iadd hx hb dL_law_542 ?_
      refine va_sld hx hb hX hbl hbA hS i1 dL_law_543 ?_
      refine fl_lawV (n := 1) (As := [.int (xs (nI n + 1).toNatClampNeg)]) (rest := [.int r]) hx hown hts hK2 hb hml hP2 hP hdis2 hS hA2 (cX7_date_ok (l := l) (G := G2) hI2 e2) sh_X7 rfl wm_L_73 wk_X7_date wl_X7_date wi_X7 wc_X7_date (by decide +kernel) rfl rfl ⟨Nat.le_of_ble_eq_true rfl, Nat.le_of_ble_eq_true rfl⟩ ⟨Nat.le_of_ble_eq_true rfl, Nat.le_of_ble_eq_true rfl⟩ rfl hl.1 rfl (Nat.le_of_ble_eq_true rfl) dL_law_544 (fun H locs hP2 hP hS => ?_)
      refine lv_icmp_eq (tgt := 749) hx hb dL_law_547 (by decide) (fun _ => ?_) (fun z => absurd rfl z)
      exact hend _ _ _ _ hIn' hP hP2 hS
    by_cases cs14 : op = (14 : Int32)
    · refine lv_tableIn (tgt := 552) (off := 520) hx hb dL_law_32 (by rw [cs14]; decide) (by rw [cs14]; decide) (by rw [cs14]; rfl) (by decide) ?_
      obtain ⟨r, σ', ρ', e1, e2, hIn'⟩ := t_late σ ρ (xs (nI n + 1).toNatClampNeg) (xs (nI n + 2).toNatClampNeg) hIn
      refine lv_aload_n hx hb dL_law_552 rfl (lv_at hl 1 rfl) ?_
      refine lv_aload_n hx hb dL_law_553 rfl (lv_at hl 0 rfl) ?_
      refine lv_iload_n hx hb dL_law_554 rfl (lv_at hl 3 rfl) ?_
      refine lv_iconst (v := 1) hx hb dL_law_555 (by decide) ?_
      refine lv_iadd hx hb dL_law_556 ?_
      refine va_sld hx hb hX hbl hbA hS i1 dL_law_557 ?_
      refine lv_aload_n hx hb dL_law_558 rfl (lv_at hl 0 rfl) ?_
      refine lv_iload_n hx hb dL_law_559 rfl (lv_at hl 3 rfl) ?_
      refine lv_iconst (v := 2) hx hb dL_law_560 (by decide) ?_
      refine lv_iadd hx hb dL_law_561 ?_
      refine va_sld hx hb hX hbl hbA hS i2 dL_law_562 ?_
      refine fl_lawV (n := 2) (As := [.int (xs (nI n + 1).toNatClampNeg), .int (xs (nI n + 2).toNatClampNeg)]) (rest := []) hx hown hts hK hb hml hP hP2 hdis hS hA1 (cX6_late_ok (l := l) (G := G) hI1 e1) sh_X6 rfl wm_L_74 wk_X6_late wl_X6_late wi_X6 wc_X6_late (by decide +kernel) rfl rfl ⟨Nat.le_of_ble_eq_true rfl, Nat.le_of_ble_eq_true rfl⟩ ⟨Nat.le_of_ble_eq_true rfl, Nat.le_of_ble_eq_true rfl⟩ rfl hl.1 rfl (Nat.le_of_ble_eq_true rfl) dL_law_563 (fun H locs hP hP2 hS => ?_)
      refine lv_aload_n hx hb dL_law_566 rfl (lv_at hl 2 rfl) ?_
      refine lv_aload_n hx hb dL_law_567 rfl (lv_at hl 0 rfl) ?_
      refine lv_iload_n hx hb dL_law_568 rfl (lv_at hl 3 rfl) ?_
      refine lv_iconst (v := 1) hx hb dL_law_569 (by decide) ?_
      refine lv_iadd hx hb dL_law_570 ?_
      refine va_sld hx hb hX hbl hbA hS i1 dL_law_571 ?_
      refine lv_aload_n hx hb dL_law_572 rfl (lv_at hl 0 rfl) ?_
      refine lv_iload_n hx hb dL_law_573 rfl (lv_at hl 3 rfl) ?_
      refine lv_iconst (v := 2) hx hb dL_law_574 (by decide) ?_
      refine lv_iadd hx hb dL_law_575 ?_
      refine va_sld hx hb hX hbl hbA hS i2 dL_law_576 ?_
      refine fl_lawV (n := 2) (As := [.int (xs (nI n + 1).toNatClampNeg), .int (xs (nI n + 2).toNatClampNeg)]) (rest := [.int r]) hx hown hts hK2 hb hml hP2 hP hdis2 hS hA2 (cX7_late_ok (l := l) (G := G2) hI2 e2) sh_X7 rfl wm_L_77 wk_X7_late wl_X7_late wi_X7 wc_X7_late (by decide +kernel) rfl rfl ⟨Nat.le_of_ble_eq_true rfl, Nat.le_of_ble_eq_true rfl⟩ ⟨Nat.le_of_ble_eq_true rfl, Nat.le_of_ble_eq_true rfl⟩ rfl hl.1 rfl (Nat.le_of_ble_eq_true rfl) dL_law_577 (fun H locs hP2 hP hS => ?_)
      refine lv_icmp_eq (tgt := 749) hx hb dL_law_580 (by decide) (fun _ => ?_) (fun z => absurd rfl z)
      exact hend _ _ _ _ hIn' hP hP2 hS
    by_cases cs15 : op = (15 : Int32)
    · refine lv_tableIn (tgt := 585) (off := 553) hx hb dL_law_32 (by rw [cs15]; decide) (by rw [cs15]; decide) (by rw [cs15]; rfl) (by decide) ?_
      obtain ⟨r, σ', ρ', e1, e2, hIn'⟩ := t_line σ ρ (xs (nI n + 1).toNatClampNeg) hIn
      refine lv_aload_n hx hb dL_law_585 rfl (lv_at hl 1 rfl) ?_
      refine lv_aload_n hx hb dL_law_586 rfl (lv_at hl 0 rfl) ?_
      refine lv_iload_n hx hb dL_law_587 rfl (lv_at hl 3 rfl) ?_
      refine lv_iconst (v := 1) hx hb dL_law_588 (by decide) ?_
      refine lv_iadd hx hb dL_law_589 ?_
      refine va_sld hx hb hX hbl hbA hS i1 dL_law_590 ?_
      refine fl_lawV (n := 1) (As := [.int (xs (nI n + 1).toNatClampNeg)]) (rest := []) hx hown hts hK hb hml hP hP2 hdis hS hA1 (cX6_line_ok (l := l) (G := G) hI1 e1) sh_X6 rfl wm_L_78 wk_X6_line wl_X6_line wi_X6 wc_X6_line (by decide +kernel) rfl rfl ⟨Nat.le_of_ble_eq_true rfl, Nat.le_of_ble_eq_true rfl⟩ ⟨Nat.le_of_ble_eq_true rfl, Nat.le_of_ble_eq_true rfl⟩ rfl hl.1 rfl (Nat.le_of_ble_eq_true rfl) dL_law_591 (fun H locs hP hP2 hS => ?_)
      refine lv_aload_n hx hb dL_law_594 rfl (lv_at hl 2 rfl) ?_
      refine lv_aload_n hx hb dL_law_595 rfl (lv_at hl 0 rfl) ?_
      refine lv_iload_n hx hb dL_law_596 rfl (lv_at hl 3 rfl) ?_
      refine lv_iconst (v := 1) hx hb dL_law_597 (by decide) ?_
      refine lv_iadd hx hb dL_law_598 ?_
      refine va_sld hx hb hX hbl hbA hS i1 dL_law_599 ?_
      refine fl_lawV (n := 1) (As := [.int (xs (nI n + 1).toNatClampNeg)]) (rest := [.int r]) hx hown hts hK2 hb hml hP2 hP hdis2 hS hA2 (cX7_line_ok (l := l) (G := G2) hI2 e2) sh_X7 rfl wm_L_81 wk_X7_line wl_X7_line wi_X7 wc_X7_line (by decide +kernel) rfl rfl ⟨Nat.le_of_ble_eq_true rfl, Nat.le_of_ble_eq_true rfl⟩ ⟨Nat.le_of_ble_eq_true rfl, Nat.le_of_ble_eq_true rfl⟩ rfl hl.1 rfl (Nat.le_of_ble_eq_true rfl) dL_law_600 (fun H locs hP2 hP hS => ?_)
      refine lv_icmp_eq (tgt := 749) hx hb dL_law_603 (by decide) (fun _ => ?_) (fun z => absurd rfl z)
      exact hend _ _ _ _ hIn' hP hP2 hS
    by_cases cs16 : op = (16 : Int32)
    · refine lv_tableIn (tgt := 608) (off := 576) hx hb dL_law_32 (by rw [cs16]; decide) (by rw [cs16]; decide) (by rw [cs16]; rfl) (by decide) ?_
      obtain ⟨r, σ', ρ', e1, e2, hIn'⟩ := t_without σ ρ hIn
      refine lv_aload_n hx hb dL_law_608 rfl (lv_at hl 1 rfl) ?_
      refine fl_lawV (n := 0) (As := []) (rest := []) hx hown hts hK hb hml hP hP2 hdis hS hA1 (cX6_without_ok (l := l) (G := G) hI1 e1) sh_X6 rfl wm_L_82 wk_X6_without wl_X6_without wi_X6 wc_X6_without (by decide +kernel) rfl rfl ⟨Nat.le_of_ble_eq_true rfl, Nat.le_of_ble_eq_true rfl⟩ ⟨Nat.le_of_ble_eq_true rfl, Nat.le_of_ble_eq_true rfl⟩ rfl hl.1 rfl (Nat.le_of_ble_eq_true rfl) dL_law_609 (fun H locs hP hP2 hS => ?_)
      refine lv_aload_n hx hb dL_law_612 rfl (lv_at hl 2 rfl) ?_
      refine fl_lawV (n := 0) (As := []) (rest := [.int r]) hx hown hts hK2 hb hml hP2 hP hdis2 hS hA2 (cX7_without_ok (l := l) (G := G2) hI2 e2) sh_X7 rfl wm_L_85 wk_X7_without wl_X7_without wi_X7 wc_X7_without (by decide +kernel) rfl rfl ⟨Nat.le_of_ble_eq_true rfl, Nat.le_of_ble_eq_true rfl⟩ ⟨Nat.le_of_ble_eq_true rfl, Nat.le_of_ble_eq_true rfl⟩ rfl hl.1 rfl (Nat.le_of_ble_eq_true rfl) dL_law_613 (fun H locs hP2 hP hS => ?_)
      refine lv_icmp_eq (tgt := 749) hx hb dL_law_616 (by decide) (fun _ => ?_) (fun z => absurd rfl z)
      exact hend _ _ _ _ hIn' hP hP2 hS
    by_cases cs17 : op = (17 : Int32)
    · refine lv_tableIn (tgt := 621) (off := 589) hx hb dL_law_32 (by rw [cs17]; decide) (by rw [cs17]; decide) (by rw [cs17]; rfl) (by decide) ?_
      obtain ⟨r, σ', ρ', e1, e2, hIn'⟩ := t_sees σ ρ (xs (nI n + 1).toNatClampNeg) hIn
      refine lv_aload_n hx hb dL_law_621 rfl (lv_at hl 1 rfl) ?_
      refine lv_aload_n hx hb dL_law_622 rfl (lv_at hl 0 rfl) ?_
      refine lv_iload_n hx hb dL_law_623 rfl (lv_at hl 3 rfl) ?_
      refine lv_iconst (v := 1) hx hb dL_law_624 (by decide) ?_
      refine lv_iadd hx hb dL_law_625 ?_
      refine va_sld hx hb hX hbl hbA hS i1 dL_law_626 ?_
      refine fl_lawV (n := 1) (As := [.int (xs (nI n + 1).toNatClampNeg)]) (rest := []) hx hown hts hK hb hml hP hP2 hdis hS hA1 (cX6_sees_ok (l := l) (G := G) hI1 e1) sh_X6 rfl wm_L_86 wk_X6_sees wl_X6_sees wi_X6 wc_X6_sees (by decide +kernel) rfl rfl ⟨Nat.le_of_ble_eq_true rfl, Nat.le_of_ble_eq_true rfl⟩ ⟨Nat.le_of_ble_eq_true rfl, Nat.le_of_ble_eq_true rfl⟩ rfl hl.1 rfl (Nat.le_of_ble_eq_true rfl) dL_law_627 (fun H locs hP hP2 hS => ?_)
      refine lv_aload_n hx hb dL_law_630 rfl (lv_at hl 2 rfl) ?_
      refine lv_aload_n hx hb dL_law_631 rfl (lv_at hl 0 rfl) ?_
      refine lv_iload_n hx hb dL_law_632 rfl (lv_at hl 3 rfl) ?_
      refine lv_iconst (v := 1) hx hb dL_law_633 (by decide) ?_
      refine lv_iadd hx hb dL_law_634 ?_
      refine va_sld hx hb hX hbl hbA hS i1 dL_law_635 ?_
      refine fl_lawV (n := 1) (As := [.int (xs (nI n + 1).toNatClampNeg)]) (rest := [.int r]) hx hown hts hK2 hb hml hP2 hP hdis2 hS hA2 (cX7_sees_ok (l := l) (G := G2) hI2 e2) sh_X7 rfl wm_L_89 wk_X7_sees wl_X7_sees wi_X7 wc_X7_sees (by decide +kernel) rfl rfl ⟨Nat.le_of_ble_eq_true rfl, Nat.le_of_ble_eq_true rfl⟩ ⟨Nat.le_of_ble_eq_true rfl, Nat.le_of_ble_eq_true rfl⟩ rfl hl.1 rfl (Nat.le_of_ble_eq_true rfl) dL_law_636 (fun H locs hP2 hP hS => ?_)
      refine lv_icmp_eq (tgt := 749) hx hb dL_law_639 (by decide) (fun _ => ?_) (fun z => absurd rfl z)
      exact hend _ _ _ _ hIn' hP hP2 hS
    by_cases cs18 : op = (18 : Int32)
    · refine lv_tableIn (tgt := 644) (off := 612) hx hb dL_law_32 (by rw [cs18]; decide) (by rw [cs18]; decide) (by rw [cs18]; rfl) (by decide) ?_
      obtain ⟨r, σ', ρ', e1, e2, hIn'⟩ := t_forget σ ρ hIn
      refine lv_aload_n hx hb dL_law_644 rfl (lv_at hl 1 rfl) ?_
      refine fl_lawV (n := 0) (As := []) (rest := []) hx hown hts hK hb hml hP hP2 hdis hS hA1 (cX6_forget_ok (l := l) (G := G) hI1 e1) sh_X6 rfl wm_L_90 wk_X6_forget wl_X6_forget wi_X6 wc_X6_forget (by decide +kernel) rfl rfl ⟨Nat.le_of_ble_eq_true rfl, Nat.le_of_ble_eq_true rfl⟩ ⟨Nat.le_of_ble_eq_true rfl, Nat.le_of_ble_eq_true rfl⟩ rfl hl.1 rfl (Nat.le_of_ble_eq_true rfl) dL_law_645 (fun H locs hP hP2 hS => ?_)
      refine lv_aload_n hx hb dL_law_648 rfl (lv_at hl 2 rfl) ?_
      refine fl_lawV (n := 0) (As := []) (rest := [.int r]) hx hown hts hK2 hb hml hP2 hP hdis2 hS hA2 (cX7_forget_ok (l := l) (G := G2) hI2 e2) sh_X7 rfl wm_L_93 wk_X7_forget wl_X7_forget wi_X7 wc_X7_forget (by decide +kernel) rfl rfl ⟨Nat.le_of_ble_eq_true rfl, Nat.le_of_ble_eq_true rfl⟩ ⟨Nat.le_of_ble_eq_true rfl, Nat.le_of_ble_eq_true rfl⟩ rfl hl.1 rfl (Nat.le_of_ble_eq_true rfl) dL_law_649 (fun H locs hP2 hP hS => ?_)
      refine lv_icmp_eq (tgt := 749) hx hb dL_law_652 (by decide) (fun _ => ?_) (fun z => absurd rfl z)
      exact hend _ _ _ _ hIn' hP hP2 hS
    by_cases cs19 : op = (19 : Int32)
    · refine lv_tableIn (tgt := 657) (off := 625) hx hb dL_law_32 (by rw [cs19]; decide) (by rw [cs19]; decide) (by rw [cs19]; rfl) (by decide) ?_
      obtain ⟨r, σ', ρ', e1, e2, hIn'⟩ := t_unseen σ ρ (xs (nI n + 1).toNatClampNeg) hIn
      refine lv_aload_n hx hb dL_law_657 rfl (lv_at hl 1 rfl) ?_
      refine lv_aload_n hx hb dL_law_658 rfl (lv_at hl 0 rfl) ?_
      refine lv_iload_n hx hb dL_law_659 rfl (lv_at hl 3 rfl) ?_
      refine lv_iconst (v := 1) hx hb dL_law_660 (by decide) ?_
      refine lv_iadd hx hb dL_law_661 ?_
      refine va_sld hx hb hX hbl hbA hS i1 dL_law_662 ?_
      refine fl_lawV (n := 1) (As := [.int (xs (nI n + 1).toNatClampNeg)]) (rest := []) hx hown hts hK hb hml hP hP2 hdis hS hA1 (cX6_unseen_ok (l := l) (G := G) hI1 e1) sh_X6 rfl wm_L_94 wk_X6_unseen wl_X6_unseen wi_X6 wc_X6_unseen (by decide +kernel) rfl rfl ⟨Nat.le_of_ble_eq_true rfl, Nat.le_of_ble_eq_true rfl⟩ ⟨Nat.le_of_ble_eq_true rfl, Nat.le_of_ble_eq_true rfl⟩ rfl hl.1 rfl (Nat.le_of_ble_eq_true rfl) dL_law_663 (fun H locs hP hP2 hS => ?_)
      refine lv_aload_n hx hb dL_law_666 rfl (lv_at hl 2 rfl) ?_
      refine lv_aload_n hx hb dL_law_667 rfl (lv_at hl 0 rfl) ?_
      refine lv_iload_n hx hb dL_law_668 rfl (lv_at hl 3 rfl) ?_
      refine lv_iconst (v := 1) hx hb dL_law_669 (by decide) ?_
      refine lv_iadd hx hb dL_law_670 ?_
      refine va_sld hx hb hX hbl hbA hS i1 dL_law_671 ?_
      refine fl_lawV (n := 1) (As := [.int (xs (nI n + 1).toNatClampNeg)]) (rest := [.int r]) hx hown hts hK2 hb hml hP2 hP hdis2 hS hA2 (cX7_unseen_ok (l := l) (G := G2) hI2 e2) sh_X7 rfl wm_L_97 wk_X7_unseen wl_X7_unseen wi_X7 wc_X7_unseen (by decide +kernel) rfl rfl ⟨Nat.le_of_ble_eq_true rfl, Nat.le_of_ble_eq_true rfl⟩ ⟨Nat.le_of_ble_eq_true rfl, Nat.le_of_ble_eq_true rfl⟩ rfl hl.1 rfl (Nat.le_of_ble_eq_true rfl) dL_law_672 (fun H locs hP2 hP hS => ?_)
      refine lv_icmp_eq (tgt := 749) hx hb dL_law_675 (by decide) (fun _ => ?_) (fun z => absurd rfl z)
      exact hend _ _ _ _ hIn' hP hP2 hS
    by_cases cs20 : op = (20 : Int32)
    · refine lv_tableIn (tgt := 680) (off := 648) hx hb dL_law_32 (by rw [cs20]; decide) (by rw [cs20]; decide) (by rw [cs20]; rfl) (by decide) ?_
      obtain ⟨r, σ', ρ', e1, e2, hIn'⟩ := t_keep σ ρ (xs (nI n + 1).toNatClampNeg) hIn
      refine lv_aload_n hx hb dL_law_680 rfl (lv_at hl 1 rfl) ?_
      refine lv_aload_n hx hb dL_law_681 rfl (lv_at hl 0 rfl) ?_
      refine lv_iload_n hx hb dL_law_682 rfl (lv_at hl 3 rfl) ?_
      refine lv_iconst (v := 1) hx hb dL_law_683 (by decide) ?_
      refine lv_iadd hx hb dL_law_684 ?_
      refine va_sld hx hb hX hbl hbA hS i1 dL_law_685 ?_
      refine fl_lawV (n := 1) (As := [.int (xs (nI n + 1).toNatClampNeg)]) (rest := []) hx hown hts hK hb hml hP hP2 hdis hS hA1 (cX6_keep_ok (l := l) (G := G) hI1 e1) sh_X6 rfl wm_L_98 wk_X6_keep wl_X6_keep wi_X6 wc_X6_keep (by decide +kernel) rfl rfl ⟨Nat.le_of_ble_eq_true rfl, Nat.le_of_ble_eq_true rfl⟩ ⟨Nat.le_of_ble_eq_true rfl, Nat.le_of_ble_eq_true rfl⟩ rfl hl.1 rfl (Nat.le_of_ble_eq_true rfl) dL_law_686 (fun H locs hP hP2 hS => ?_)
      refine lv_aload_n hx hb dL_law_689 rfl (lv_at hl 2 rfl) ?_
      refine lv_aload_n hx hb dL_law_690 rfl (lv_at hl 0 rfl) ?_
      refine lv_iload_n hx hb dL_law_691 rfl (lv_at hl 3 rfl) ?_
      refine lv_iconst (v := 1) hx hb dL_law_692 (by decide) ?_
      refine lv_iadd hx hb dL_law_693 ?_
      refine va_sld hx hb hX hbl hbA hS i1 dL_law_694 ?_
      refine fl_lawV (n := 1) (As := [.int (xs (nI n + 1).toNatClampNeg)]) (rest := [.int r]) hx hown hts hK2 hb hml hP2 hP hdis2 hS hA2 (cX7_keep_ok (l := l) (G := G2) hI2 e2) sh_X7 rfl wm_L_101 wk_X7_keep wl_X7_keep wi_X7 wc_X7_keep (by decide +kernel) rfl rfl ⟨Nat.le_of_ble_eq_true rfl, Nat.le_of_ble_eq_true rfl⟩ ⟨Nat.le_of_ble_eq_true rfl, Nat.le_of_ble_eq_true rfl⟩ rfl hl.1 rfl (Nat.le_of_ble_eq_true rfl) dL_law_695 (fun H locs hP2 hP hS => ?_)
      refine lv_icmp_eq (tgt := 749) hx hb dL_law_698 (by decide) (fun _ => ?_) (fun z => absurd rfl z)
      exact hend _ _ _ _ hIn' hP hP2 hS
    by_cases cs21 : op = (21 : Int32)
    · refine lv_tableIn (tgt := 703) (off := 671) hx hb dL_law_32 (by rw [cs21]; decide) (by rw [cs21]; decide) (by rw [cs21]; rfl) (by decide) ?_
      obtain ⟨r, σ', ρ', e1, e2, hIn'⟩ := t_back σ ρ (xs (nI n + 1).toNatClampNeg) hIn
      refine lv_aload_n hx hb dL_law_703 rfl (lv_at hl 1 rfl) ?_
      refine lv_aload_n hx hb dL_law_704 rfl (lv_at hl 0 rfl) ?_
      refine lv_iload_n hx hb dL_law_705 rfl (lv_at hl 3 rfl) ?_
      refine lv_iconst (v := 1) hx hb dL_law_706 (by decide) ?_
      refine lv_iadd hx hb dL_law_707 ?_
      refine va_sld hx hb hX hbl hbA hS i1 dL_law_708 ?_
      refine fl_lawV (n := 1) (As := [.int (xs (nI n + 1).toNatClampNeg)]) (rest := []) hx hown hts hK hb hml hP hP2 hdis hS hA1 (cX6_back_ok (l := l) (G := G) hI1 e1) sh_X6 rfl wm_L_102 wk_X6_back wl_X6_back wi_X6 wc_X6_back (by decide +kernel) rfl rfl ⟨Nat.le_of_ble_eq_true rfl, Nat.le_of_ble_eq_true rfl⟩ ⟨Nat.le_of_ble_eq_true rfl, Nat.le_of_ble_eq_true rfl⟩ rfl hl.1 rfl (Nat.le_of_ble_eq_true rfl) dL_law_709 (fun H locs hP hP2 hS => ?_)
      refine lv_aload_n hx hb dL_law_712 rfl (lv_at hl 2 rfl) ?_
      refine lv_aload_n hx hb dL_law_713 rfl (lv_at hl 0 rfl) ?_
      refine lv_iload_n hx hb dL_law_714 rfl (lv_at hl 3 rfl) ?_
      refine lv_iconst (v := 1) hx hb dL_law_715 (by decide) ?_
      refine lv_iadd hx hb dL_law_716 ?_
      refine va_sld hx hb hX hbl hbA hS i1 dL_law_717 ?_
      refine fl_lawV (n := 1) (As := [.int (xs (nI n + 1).toNatClampNeg)]) (rest := [.int r]) hx hown hts hK2 hb hml hP2 hP hdis2 hS hA2 (cX7_back_ok (l := l) (G := G2) hI2 e2) sh_X7 rfl wm_L_105 wk_X7_back wl_X7_back wi_X7 wc_X7_back (by decide +kernel) rfl rfl ⟨Nat.le_of_ble_eq_true rfl, Nat.le_of_ble_eq_true rfl⟩ ⟨Nat.le_of_ble_eq_true rfl, Nat.le_of_ble_eq_true rfl⟩ rfl hl.1 rfl (Nat.le_of_ble_eq_true rfl) dL_law_718 (fun H locs hP2 hP hS => ?_)
      refine lv_icmp_eq (tgt := 749) hx hb dL_law_721 (by decide) (fun _ => ?_) (fun z => absurd rfl z)
      exact hend _ _ _ _ hIn' hP hP2 hS
    by_cases cs22 : op = (22 : Int32)
    · refine lv_tableIn (tgt := 726) (off := 694) hx hb dL_law_32 (by rw [cs22]; decide) (by rw [cs22]; decide) (by rw [cs22]; rfl) (by decide) ?_
      obtain ⟨r, σ', ρ', e1, e2, hIn'⟩ := t_count σ ρ (xs (nI n + 1).toNatClampNeg) hIn
      refine lv_aload_n hx hb dL_law_726 rfl (lv_at hl 1 rfl) ?_
      refine lv_aload_n hx hb dL_law_727 rfl (lv_at hl 0 rfl) ?_
      refine lv_iload_n hx hb dL_law_728 rfl (lv_at hl 3 rfl) ?_
      refine lv_iconst (v := 1) hx hb dL_law_729 (by decide) ?_
      refine lv_iadd hx hb dL_law_730 ?_
      refine va_sld hx hb hX hbl hbA hS i1 dL_law_731 ?_
      refine fl_lawV (n := 1) (As := [.int (xs (nI n + 1).toNatClampNeg)]) (rest := []) hx hown hts hK hb hml hP hP2 hdis hS hA1 (cX6_count_ok (l := l) (G := G) hI1 e1) sh_X6 rfl wm_L_106 wk_X6_count wl_X6_count wi_X6 wc_X6_count (by decide +kernel) rfl rfl ⟨Nat.le_of_ble_eq_true rfl, Nat.le_of_ble_eq_true rfl⟩ ⟨Nat.le_of_ble_eq_true rfl, Nat.le_of_ble_eq_true rfl⟩ rfl hl.1 rfl (Nat.le_of_ble_eq_true rfl) dL_law_732 (fun H locs hP hP2 hS => ?_)
      refine lv_aload_n hx hb dL_law_735 rfl (lv_at hl 2 rfl) ?_
      refine lv_aload_n hx hb dL_law_736 rfl (lv_at hl 0 rfl) ?_
      refine lv_iload_n hx hb dL_law_737 rfl (lv_at hl 3 rfl) ?_
      refine lv_iconst (v := 1) hx hb dL_law_738 (by decide) ?_
      refine lv_iadd hx hb dL_law_739 ?_
      refine va_sld hx hb hX hbl hbA hS i1 dL_law_740 ?_
      refine fl_lawV (n := 1) (As := [.int (xs (nI n + 1).toNatClampNeg)]) (rest := [.int r]) hx hown hts hK2 hb hml hP2 hP hdis2 hS hA2 (cX7_count_ok (l := l) (G := G2) hI2 e2) sh_X7 rfl wm_L_109 wk_X7_count wl_X7_count wi_X7 wc_X7_count (by decide +kernel) rfl rfl ⟨Nat.le_of_ble_eq_true rfl, Nat.le_of_ble_eq_true rfl⟩ ⟨Nat.le_of_ble_eq_true rfl, Nat.le_of_ble_eq_true rfl⟩ rfl hl.1 rfl (Nat.le_of_ble_eq_true rfl) dL_law_741 (fun H locs hP2 hP hS => ?_)
      refine lv_icmp_eq (tgt := 749) hx hb dL_law_744 (by decide) (fun _ => ?_) (fun z => absurd rfl z)
      exact hend _ _ _ _ hIn' hP hP2 hS
    refine lv_tableOut (tgt := 749) hx hb dL_law_32 (by have z0 := lv_neT (a := 0) cs0 (by decide); have z1 := lv_neT (a := 1) cs1 (by decide); have z2 := lv_neT (a := 2) cs2 (by decide); have z3 := lv_neT (a := 3) cs3 (by decide); have z4 := lv_neT (a := 4) cs4 (by decide); have z5 := lv_neT (a := 5) cs5 (by decide); have z6 := lv_neT (a := 6) cs6 (by decide); have z7 := lv_neT (a := 7) cs7 (by decide); have z8 := lv_neT (a := 8) cs8 (by decide); have z9 := lv_neT (a := 9) cs9 (by decide); have z10 := lv_neT (a := 10) cs10 (by decide); have z11 := lv_neT (a := 11) cs11 (by decide); have z12 := lv_neT (a := 12) cs12 (by decide); have z13 := lv_neT (a := 13) cs13 (by decide); have z14 := lv_neT (a := 14) cs14 (by decide); have z15 := lv_neT (a := 15) cs15 (by decide); have z16 := lv_neT (a := 16) cs16 (by decide); have z17 := lv_neT (a := 17) cs17 (by decide); have z18 := lv_neT (a := 18) cs18 (by decide); have z19 := lv_neT (a := 19) cs19 (by decide); have z20 := lv_neT (a := 20) cs20 (by decide); have z21 := lv_neT (a := 21) cs21 (by decide); have z22 := lv_neT (a := 22) cs22 (by decide); omega) (by decide) ?_
    exact hend _ _ _ _ hIn hP hP2 hS
