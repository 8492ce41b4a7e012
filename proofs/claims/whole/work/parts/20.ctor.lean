/-! constructors: worlds of explicit cells that grow; the array classes are fixed ahead -/
def FK0 (G : Gl) (U : State) : Prop := FK G U ∧ va_AO "YearLines$House" U ∧ va_AO "YearLines$Chronicle" U
theorem FK0.moved {G : Gl} {u U : State} (hvm : u.vm.Alike U.vm) (h : FK0 G u) : FK0 G U := ⟨va_K.moved hvm h.1, va_AO.moved hvm h.2.1, va_AO.moved hvm h.2.2⟩
def CN (p : Program) (s : State) (m : MethodId) (args : Array Value) (own : String) (G : Gl) : Prop :=
  p.tables.exec = Jvm.exec ∧ s.vm.findClass own = some m.cls ∧ (∀ x ∈ tbl, x.before args s = true) ∧ FK0 G s
def FPN (G : Gl) (h0 : Nat) (e0 : va_E) (sz : Nat) : Array Value → State → Prop := fun a U => a = ([Value.ref h0] : List Value).toArray ∧ U.heap.size = sz ∧ va_P (gD G) vwCl [(h0, e0)] U.heap ∧ FK0 G U
def FQN (G : Gl) (A : Nat → Prop) (cs : (Nat → Nat) → va_W) : Array Value → State → Outcome → State → Prop := fun _ st oc t => oc = .returned none ∧ (∃ qs : Nat → Nat, va_P (gD G) vwCl (cs qs) t.heap ∧ va_D A (cs qs)) ∧ FK0 G t ∧ va_F A st t
def CtN (l : Launch) (G : Gl) (y : MethodName) (bytes : ByteArray) (maxL : Nat) (rm : Room) (h0 : Nat) (e0 : va_E) (sz mc ms : Nat) (cs : (Nat → Nat) → va_W) : Prop :=
  Met l y (Cond.code y bytes maxL none :: tbl) rm (FPN G h0 e0 sz) (FQN G (va_A [(h0, e0)] sz) cs) mc ms (va_A [(h0, e0)] sz)
abbrev WN (p : Program) (l : Launch) (e : Env) (R : Room) (s : State) (m : MethodId) (args : Array Value) (below : List Frame) (meth : Method) (c : Code) (G : Gl) (A : Nat → Prop) (cs : (Nat → Nat) → va_W) (mc ms : Nat) (H : Heap) (locs : List Loc) (cells slots : Nat) (pc : Nat) (ls : Array Slot) (st : List Value) : Prop :=
  W p l e R s m args below meth c H locs cells slots (MQ below (FQN G A cs) args s mc ms A) (F0 m pc ls st)
theorem FPN_blind {G : Gl} {h0 : Nat} {e0 : va_E} {sz : Nat} : FrameBlind (FPN G h0 e0 sz) := fun a U g mk q => ⟨q.1, q.2.1, q.2.2.1, FK0.moved (u := U) (U := U.calling g mk a) (Vm.Alike.refl U.vm) q.2.2.2⟩
theorem fn_start {l : Launch} {G : Gl} {y : MethodName} {bytes : ByteArray} {maxL : Nat} {rm : Room} {h0 : Nat} {e0 : va_E} {sz mc ms : Nat} {cs : (Nat → Nat) → va_W} (hy : plainName y.cls = true) (hnm : y.name = "<init>") (hn : 1 ≤ maxL)
    (body : ∀ (p : Program) (e : Env) (s : State) (m : MethodId) (below : List Frame) (meth : Method) (c : Code) (A : Nat → Prop), CN p s m ([Value.ref h0] : List Value).toArray y.cls G → c.code = bytes → c.maxLocals = maxL → meth.sig.returnType = none → meth.locks = false → meth.name = "<init>" → (∀ q : Nat, s.heap.size ≤ q → A q) → va_P (gD G) vwCl [(h0, e0)] s.heap → va_D A [(h0, e0)] → va_S A s.heap s.heap [] →
      ∀ ls : Array Slot, lv_has ls maxL [(0, .ref h0)] → WN p l e rm s m ([Value.ref h0] : List Value).toArray below meth c G A cs mc ms s.heap [] 0 0 0 ls []) :
    CtN l G y bytes maxL rm h0 e0 sz mc ms cs := by
  refine Met.ofW (cc := bytes) (maxL := maxL) (ret := none) hy rfl ?_
  intro p e s m args below meth c s₁ B hml hv
  obtain ⟨rfl, hsz, hP, hK⟩ := hv
  subst hsz
  have hts := atoms_spec (ws := Cond.code y bytes maxL none :: tbl) B.pre
  have hin : meth.name = y.name := (name_of_methodNamed B.named B.method).1
  rw [lg_entry_eq]
  have hl := lv_entry ([Value.ref h0]) (n := maxL) hn
  refine body p e s m below meth c _ ⟨B.exec, findClass_of_methodNamed B.named, fun x hx => hts x (List.mem_cons_of_mem _ hx), hK⟩ B.bytes hml B.returns B.notSynchronized (hin.trans hnm) (fun q h => Or.inr h) hP ?_ va_S.rf _ hl
  refine ⟨fun i j p q hi hj _ => ?_, fun k q hk => va_A.in hk⟩
  have a1 := (List.getElem?_eq_some_iff.mp hi).1
  have a2 := (List.getElem?_eq_some_iff.mp hj).1
  simp at a1 a2
  omega
theorem pj_split {D : va_G} {cl : List vw_C} {u v : va_W} {H : Heap} (h : va_P D cl (u ++ v) H) : va_P D cl u H ∧ va_P D cl v H := by
  refine ⟨fun k q hk => h k q ?_, fun k q hk => h (u.length + k) q ?_⟩
  · rw [List.getElem?_append_left (List.getElem?_eq_some_iff.mp hk).1]; exact hk
  · rw [List.getElem?_append_right (by omega), Nat.add_sub_cancel_left]; exact hk
theorem dj_split {A : Nat → Prop} {u v : va_W} (h : va_D A (u ++ v)) : va_D A u ∧ va_D A v ∧ ∀ (i j : Nat) (p q : Nat × va_E), u[i]? = some p → v[j]? = some q → p.1 ≠ q.1 := by
  have hu : ∀ (k : Nat) (q : Nat × va_E), u[k]? = some q → (u ++ v)[k]? = some q := fun k q hk => by
    rw [List.getElem?_append_left (List.getElem?_eq_some_iff.mp hk).1]; exact hk
  have hv : ∀ (k : Nat) (q : Nat × va_E), v[k]? = some q → (u ++ v)[u.length + k]? = some q := fun k q hk => by
    rw [List.getElem?_append_right (by omega), Nat.add_sub_cancel_left]; exact hk
  refine ⟨⟨fun i j p q hi hj e => h.1 i j p q (hu i p hi) (hu j q hj) e, fun k q hk => h.2 k q (hu k q hk)⟩, ⟨fun i j p q hi hj e => ?_, fun k q hk => h.2 _ q (hv k q hk)⟩, fun i j p q hi hj e => ?_⟩
  · have := h.1 _ _ p q (hv i p hi) (hv j q hj) e
    omega
  · have h1 := h.1 _ _ p q (hu i p hi) (hv j q hj) e
    have h2 := (List.getElem?_eq_some_iff.mp hi).1
    omega
section FN
variable {p : Program} {l : Launch} {e : Env} {R : Room} {s : State} {m : MethodId} {args : Array Value} {below : List Frame} {meth : Method} {c : Code} {H H0 : Heap} {locs : List Loc} {cells slots : Nat} {Q : State → Prop}
variable {cc : ByteArray} {pc : Nat} {ls : Array Slot} {rest : List Value} {G : Gl} {own : String} {A : Nat → Prop} {ws : va_W}
theorem fn_vret {cs : (Nat → Nat) → va_W} (qs : Nat → Nat) (X : CN p s m args own G) (hb : c.code = cc) (hr : meth.sig.returnType = none) (hlk : meth.locks = false) (hP : va_P (gD G) vwCl (cs qs) H) (hD : va_D A (cs qs)) (hS : va_S A s.heap H locs) (hdg : decode cc pc = .ok (.return_, 1)) : WN p l e R s m args below meth c G A cs cells slots H locs cells slots pc ls [] :=
  W.vret X.1 hb hr (fun t ht hW => ⟨rfl, ⟨qs, by rw [ht]; exact hP, hD⟩, FK0.moved hW.alike X.2.2.2, hS.F ht⟩) hS.2.2 hdg (hlocks := hlk)
theorem fn_newI {N' : Nat} {n : Int32} (X : CN p s m args own G) (hb : c.code = cc) (hw : Cond.arrayClass .int ∈ tbl) (hP : va_P (gD G) vwCl ws H) (hD : va_D A ws) (hS : va_S A H0 H locs) (hA : ∀ q, H0.size ≤ q → A q)
    (hn : ¬ n < 0) (hN : n.toNatClampNeg = N') (hbytes : N' * componentBytes .int ≤ 536870912) (hcells : cells + 1 ≤ R.cells) (hslots : slots + N' ≤ R.slots) (hdg : decode cc pc = .ok (.newarray .int, 2))
    (kk : ∀ (q : Nat) (H1 : Heap), va_P (gD G) vwCl (ws ++ [(q, .inl (G.2.2.1 0, N', .inl (fun _ => 0)))]) H1 → va_D A (ws ++ [(q, .inl (G.2.2.1 0, N', .inl (fun _ => 0)))]) → va_S A H0 H1 locs →
      W p l e R s m args below meth c H1 locs (cells + 1) (slots + N') Q (F0 m (pc + 2) ls (.ref q :: rest))) : W p l e R s m args below meth c H locs cells slots Q (F0 m pc ls (.int n :: rest)) := by
  refine va_newa (atype := .int) (ty := .int) (a0 := (N', .inl (fun _ => 0))) (N' := N') X.1 hb (X.2.2.1 _ hw) rfl X.2.2.2.1 hP hD hS hA (fun _ => rfl) hn hN hbytes hcells hslots hdg (fun q cA H1 hK1 hP1 hD1 hS1 => ?_)
  have h1 : s.vm.findClass ("[" ++ FieldType.int.toString) = some cA := (hK1.2 4 (cA, .int) rfl).2
  have h2 : s.vm.findClass ("[" ++ FieldType.int.toString) = some (G.2.2.1 0) := (X.2.2.2.1.2 0 (G.2.2.1 0, .int) rfl).2
  have h3 : cA = G.2.2.1 0 := Option.some.inj (h1.symm.trans h2)
  rw [h3] at hP1 hD1
  exact kk q H1 hP1 hD1 hS1
theorem fn_newZ {N' : Nat} {n : Int32} (X : CN p s m args own G) (hb : c.code = cc) (hw : Cond.arrayClass .boolean ∈ tbl) (hP : va_P (gD G) vwCl ws H) (hD : va_D A ws) (hS : va_S A H0 H locs) (hA : ∀ q, H0.size ≤ q → A q)
    (hn : ¬ n < 0) (hN : n.toNatClampNeg = N') (hbytes : N' * componentBytes .boolean ≤ 536870912) (hcells : cells + 1 ≤ R.cells) (hslots : slots + N' ≤ R.slots) (hdg : decode cc pc = .ok (.newarray .boolean, 2))
    (kk : ∀ (q : Nat) (H1 : Heap), va_P (gD G) vwCl (ws ++ [(q, .inl (G.2.2.1 1, N', .inl (fun _ => 0)))]) H1 → va_D A (ws ++ [(q, .inl (G.2.2.1 1, N', .inl (fun _ => 0)))]) → va_S A H0 H1 locs →
      W p l e R s m args below meth c H1 locs (cells + 1) (slots + N') Q (F0 m (pc + 2) ls (.ref q :: rest))) : W p l e R s m args below meth c H locs cells slots Q (F0 m pc ls (.int n :: rest)) := by
  refine va_newa (atype := .boolean) (ty := .boolean) (a0 := (N', .inl (fun _ => 0))) (N' := N') X.1 hb (X.2.2.1 _ hw) rfl X.2.2.2.1 hP hD hS hA (fun _ => rfl) hn hN hbytes hcells hslots hdg (fun q cA H1 hK1 hP1 hD1 hS1 => ?_)
  have h1 : s.vm.findClass ("[" ++ FieldType.boolean.toString) = some cA := (hK1.2 4 (cA, .boolean) rfl).2
  have h2 : s.vm.findClass ("[" ++ FieldType.boolean.toString) = some (G.2.2.1 1) := (X.2.2.2.1.2 1 (G.2.2.1 1, .boolean) rfl).2
  have h3 : cA = G.2.2.1 1 := Option.some.inj (h1.symm.trans h2)
  rw [h3] at hP1 hD1
  exact kk q H1 hP1 hD1 hS1
theorem fn_newq {N' t : Nat} {n : Int32} {C : String} {index : Nat} (X : CN p s m args own G) (hb : c.code = cc) (hw : Cond.classLink own index C ∈ tbl) (hao : va_AO C s) (ht : (ftys G)[t]? = some (G.2.2.1 t, .object C)) (ht4 : t < 4) (hP : va_P (gD G) vwCl ws H) (hD : va_D A ws) (hS : va_S A H0 H locs) (hA : ∀ q, H0.size ≤ q → A q)
    (hn : ¬ n < 0) (hN : n.toNatClampNeg = N') (hbytes : N' * 4 ≤ 536870912) (hcells : cells + 1 ≤ R.cells) (hslots : slots + N' ≤ R.slots) (hdg : decode cc pc = .ok (.anewarray index, 3))
    (kk : ∀ (q : Nat) (H1 : Heap), va_P (gD G) vwCl (ws ++ [(q, .inl (G.2.2.1 t, N', .inr (.inr (.inr (.inr (fun _ => none))))))]) H1 → va_D A (ws ++ [(q, .inl (G.2.2.1 t, N', .inr (.inr (.inr (.inr (fun _ => none))))))]) → va_S A H0 H1 locs →
      W p l e R s m args below meth c H1 locs (cells + 1) (slots + N') Q (F0 m (pc + 3) ls (.ref q :: rest))) : W p l e R s m args below meth c H locs cells slots Q (F0 m pc ls (.int n :: rest)) := by
  refine va_newq (N' := N') X.1 hb X.2.1 (X.2.2.1 _ hw) hao X.2.2.2.1 hP hD hS hA hn hN hbytes hcells hslots hdg (fun q cA H1 hK1 hP1 hD1 hS1 => ?_)
  obtain ⟨_, _, _, _, _, h1⟩ := (hK1.2 4 (cA, .object C) rfl).2
  obtain ⟨_, _, _, _, _, h2⟩ := (X.2.2.2.1.2 t _ ht).2
  have h3 : cA = G.2.2.1 t := Option.some.inj (h1.symm.trans h2)
  rw [h3] at hP1 hD1
  exact kk q H1 hP1 hD1 hS1
theorem fn_callI {y : MethodName} {bytes : ByteArray} {maxL nL mc ms index q : Nat} {rm : Room} {e0 : va_E} {cs : (Nat → Nat) → va_W} {wr : va_W} (X : CN p s m args own G) (hb : c.code = cc) (hml : c.maxLocals = nL) (hM : ∀ sz, CtN l G y bytes maxL rm q e0 sz mc ms cs)
    (h1 : Cond.methodLink own index y ∈ tbl) (h2 : Cond.instanceMethod y ∈ tbl) (h4 : Cond.initialized y.cls ∈ tbl) (h5 : Cond.code y bytes maxL none ∈ tbl) (hnm : y.name = "<init>")
    (hd : y.cls ≠ "java/lang/invoke/MethodHandle" ∧ y.cls ≠ "java/lang/invoke/VarHandle" ∧ (parseMethodDescriptor y.desc).map (fun d => d.parameters.length) = some 0) (hrc : rm.cells = mc) (hrs : rm.slots = ms) (hR : rm.frames + 1 ≤ R.frames ∧ 8 + (maxL + 11) + rm.locals ≤ R.locals) (hf : cells + mc ≤ R.cells ∧ slots + ms ≤ R.slots)
    (hP : va_P (gD G) vwCl (wr ++ [(q, e0)]) H) (hD : va_D A (wr ++ [(q, e0)])) (hS : va_S A H0 H locs) (hA : ∀ q, H0.size ≤ q → A q) (hl : ls.size = nL) (hW : (rest.map fun v => v.category).sum ≤ 8) (hdg : decode cc pc = .ok (.invokespecial index, 3))
    (kk : ∀ (qs : Nat → Nat) (H1 : Heap) (locs1 : List Loc), va_P (gD G) vwCl (wr ++ cs qs) H1 → va_D A (wr ++ cs qs) → va_S A H0 H1 locs1 → W p l e R s m args below meth c H1 locs1 (cells + mc) (slots + ms) Q (F0 m (pc + 3) ls rest)) : W p l e R s m args below meth c H locs cells slots Q (F0 m pc ls (.ref q :: rest)) := by
  obtain ⟨hPr, hPq⟩ := pj_split hP
  obtain ⟨hDr, hDq, hdis⟩ := dj_split hD
  have hAq : ∀ z, va_A [(q, e0)] H.size z → A z := fun z hz => by
    rcases hz with ⟨k, e, hk⟩ | hz
    · exact hDq.2 k _ hk
    · exact hA z (Nat.le_trans hS.1 hz)
  have hr := va_runI (Ts := tbl) (b := q) (As := []) (rest := rest) (g := F0 m pc ls (.ref q :: rest)) (locs := locs) (cells := cells) (slots := slots) (e := e) (below := below) (meth := meth) ⟨X.1, hb, hml, X.2.1, X.2.2.1⟩ (hM H.size) ⟨callB_of 0 X.2.2.1 (tbl_cons h5) rfl hrc hrs (X.2.2.1 _ h4) (X.2.2.1 _ h1) hd hR, hnm, X.2.2.1 _ h2⟩
    ⟨FPN_blind, fun U hU hW => ⟨rfl, by rw [hU], by rw [hU]; exact hPq, FK0.moved hW.alike X.2.2.2⟩⟩ rfl rfl hl rfl (lv_room hW) hdg hf
  intro T hT X0
  obtain ⟨v', st₀, t, T', L, h0, X', hL, e1, e2, ⟨hv, ⟨qs, hP1, hD1⟩, hK1, hz, hk⟩, st⟩ := hr T hT X0
  cases hv
  rw [h0] at hz hk
  have hkeep : ∀ (k : Nat) (x : Nat × va_E), wr[k]? = some x → ¬ va_A [(q, e0)] H.size x.1 := fun k x hx hz => by
    rcases hz with ⟨j, e, hj⟩ | hz
    · exact hdis k j x (x.1, e) hx hj rfl
    · exact absurd ((hPr k x hx).lt) (by omega)
  obtain ⟨t2, a1, b1⟩ := kk qs T'.heap (locs ++ L) (by
      rw [e1]
      exact va_P.app (fun k x hx => (hPr k x hx).kept (hk x.1 ((hPr k x hx).lt) (hkeep k x hx))) hP1)
    (va_D.app hDr (hD1.weaken (fun k x _ h => hAq x.1 h)) (fun i j x z hx hz hxz => hkeep i x hx (by rw [hxz]; exact hD1.2 j z hz)))
    ⟨Nat.le_trans hS.1 (by rw [e1]; exact hz), fun z a b => by rw [e1, hk z (Nat.lt_of_lt_of_le a hS.1) (fun w => b (hAq z w))]; exact hS.2.1 z a b, fun z hz => by
      rcases List.mem_append.mp hz with h | h
      · exact hS.2.2 z h
      · exact hAq _ (hL z h)⟩ T' rfl X'
  exact ⟨t2, st t2 a1, b1⟩
end FN
