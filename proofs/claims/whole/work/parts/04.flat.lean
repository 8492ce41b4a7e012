/-! The flat memory: every object and array of the class (or of the reference) has a number; what it holds are ints, by number and slot; references are fixed by the shape. Contracts and rows over it. -/
def tbl : List Cond := lw_tbl.filter goodWord
theorem tb {i : Nat} {w : Cond} (h : lw_tbl[i]? = some w) (g : goodWord w = true) : w ∈ tbl := List.mem_filter.mpr ⟨List.mem_of_getElem? h, g⟩
theorem tbl_ok : ∀ w ∈ tbl, (w.onTables && w.keeps) = true ∨ ∃ ty, w = .arrayClass ty := fun w h => good_of_word (List.mem_filter.mp h).2
theorem tbl_sub : ∀ w ∈ tbl, w ∈ lw_tbl := fun w h => (List.mem_filter.mp h).1
theorem tbl_GI {ws : List Cond} (h : ∀ w ∈ ws, w ∈ tbl) : GoodIn tbl ws := fun w hw => ⟨h w hw, tbl_ok w (h w hw)⟩
theorem tbl_cons {w : Cond} (h : w ∈ tbl) : GoodIn tbl (w :: tbl) := tbl_GI (fun x hx => (List.mem_cons.mp hx).elim (fun e => e ▸ h) id)

abbrev Mem : Type := Nat → Nat → Int32
abbrev Shp : Type := (Nat × List (Option Nat)) ⊕ (Nat × Nat × (Nat → Nat))
abbrev Gl : Type := (Nat → ClassId) × (Nat → Nat → Nat) × (Nat → ClassId) × (Nat → Nat)
abbrev Wd : Type := Nat × (Nat → Shp)
abbrev gD (G : Gl) : va_G := (G.1, G.2.1)
abbrev gA (G : Gl) : Nat → Nat := G.2.2.2
def mup (σ : Mem) (k j : Nat) (v : Int32) : Mem := fun a => if a = k then upd (σ k) j v else σ a
def ffs (ad : Nat → Nat) (rs : List (Option Nat)) (f : Nat → Int32) : List Value := rs.mapIdx (fun j r => match r with | none => Value.int (f j) | some k => Value.ref (ad k))
def fcell (G : Gl) (s : Shp) (f : Nat → Int32) : va_E := match s with
  | .inl (ci, rs) => .inr (ci, ffs (gA G) rs f)
  | .inr (kd, n, tg) => .inl (G.2.2.1 kd, n, if kd < 2 then .inl f else .inr (.inr (.inr (.inr (fun i => some (gA G (tg i)))))))
def fw (G : Gl) (w : Wd) (σ : Mem) : va_W := (List.range w.1).map (fun k => (gA G k, fcell G (w.2 k) (σ k)))
def ftys (G : Gl) : List (ClassId × FieldType) := [(G.2.2.1 0, .int), (G.2.2.1 1, .boolean), (G.2.2.1 2, .object "YearLines$House"), (G.2.2.1 3, .object "YearLines$Chronicle")]
def FK (G : Gl) (U : State) : Prop := va_K (gD G) vwCl (ftys G) U
def FI (G : Gl) (w : Wd) : Prop := ∀ i j, i < w.1 → j < w.1 → gA G i = gA G j → i = j
def FA (G : Gl) (w : Wd) : Nat → Prop := fun q => ∃ k, k < w.1 ∧ q = gA G k
def FH (G : Gl) (w : Wd) (H0 H : Heap) (locs : List Loc) (σ : Mem) : Prop := va_P (gD G) vwCl (fw G w σ) H ∧ va_S (FA G w) H0 H locs
def SH (w : Wd) (k : Nat) (s : Shp) : Prop := k < w.1 ∧ w.2 k = s

theorem fw_get {G : Gl} {w : Wd} {σ : Mem} {k : Nat} (hk : k < w.1) : (fw G w σ)[k]? = some (gA G k, fcell G (w.2 k) (σ k)) := by
  simp [fw, List.getElem?_map, List.getElem?_range hk]
theorem fw_some {G : Gl} {w : Wd} {σ : Mem} {k : Nat} {q : Nat × va_E} (h : (fw G w σ)[k]? = some q) : k < w.1 ∧ q.1 = gA G k := by
  have hk : k < w.1 := by
    have := (List.getElem?_eq_some_iff.mp h).1
    simpa [fw] using this
  rw [fw_get hk] at h
  cases h
  exact ⟨hk, rfl⟩
theorem fw_set {G : Gl} {w : Wd} {σ : Mem} {k j : Nat} {v : Int32} (hk : k < w.1) : (fw G w σ).set k (gA G k, fcell G (w.2 k) (upd (σ k) j v)) = fw G w (mup σ k j v) := by
  apply List.ext_getElem?
  intro i
  by_cases hi : i = k
  · subst hi
    rw [List.getElem?_set_self (by simpa [fw] using hk), fw_get hk]
    simp [mup]
  · rw [List.getElem?_set_ne (Ne.symm hi)]
    by_cases h : i < w.1
    · rw [fw_get h, fw_get h]
      simp [mup, hi]
    · rw [List.getElem?_eq_none (by simpa [fw] using h), List.getElem?_eq_none (by simpa [fw] using h)]
theorem fw_D {G : Gl} {w : Wd} {σ : Mem} (hI : FI G w) : va_D (FA G w) (fw G w σ) := by
  refine ⟨fun i j p q hi hj h => ?_, fun k q hk => ?_⟩
  · obtain ⟨a1, a2⟩ := fw_some hi
    obtain ⟨b1, b2⟩ := fw_some hj
    exact hI i j a1 b1 (by rw [← a2, ← b2]; exact h)
  · obtain ⟨a1, a2⟩ := fw_some hk
    exact ⟨k, a1, a2⟩
theorem ffs_int {ad : Nat → Nat} {rs : List (Option Nat)} {f : Nat → Int32} {j : Nat} (h : rs[j]? = some none) : (ffs ad rs f)[j]? = some (.int (f j)) := by
  simp [ffs, List.getElem?_mapIdx, h]
theorem ffs_ref {ad : Nat → Nat} {rs : List (Option Nat)} {f : Nat → Int32} {j k : Nat} (h : rs[j]? = some (some k)) : (ffs ad rs f)[j]? = some (.ref (ad k)) := by
  simp [ffs, List.getElem?_mapIdx, h]
theorem ffs_set {ad : Nat → Nat} {rs : List (Option Nat)} {f : Nat → Int32} {j : Nat} {v : Int32} (h : rs[j]? = some none) : (ffs ad rs f).set j (.int v) = ffs ad rs (upd f j v) := by
  have hl : j < rs.length := (List.getElem?_eq_some_iff.mp h).1
  apply List.ext_getElem?
  intro i
  by_cases hi : i = j
  · subst hi
    rw [List.getElem?_set_self (by simpa [ffs] using hl), ffs_int h]
    simp [upd]
  · rw [List.getElem?_set_ne (Ne.symm hi)]
    simp only [ffs, List.getElem?_mapIdx]
    cases hr : rs[i]? with
    | none => rfl
    | some r => cases r <;> simp [upd, hi]
theorem ffs_len {ad : Nat → Nat} {rs : List (Option Nat)} {f : Nat → Int32} : (ffs ad rs f).length = rs.length := by simp [ffs]

def CX (p : Program) (s : State) (m : MethodId) (args : Array Value) (own : String) (G : Gl) (w : Wd) : Prop :=
  p.tables.exec = Jvm.exec ∧ s.vm.findClass own = some m.cls ∧ (∀ x ∈ tbl, x.before args s = true) ∧ FK G s ∧ FI G w
def MX (p : Program) (s : State) (m : MethodId) (args : Array Value) (meth : Method) (c : Code) (own : String) (G : Gl) (w : Wd) (cc : ByteArray) (nL : Nat) (ret : Option FieldType) : Prop :=
  CX p s m args own G w ∧ c.code = cc ∧ c.maxLocals = nL ∧ meth.sig.returnType = ret ∧ meth.locks = false
def FQ (G : Gl) (w : Wd) (σ' : Mem) (v : Option Value) : Array Value → State → Outcome → State → Prop := fun _ st oc t => oc = .returned v ∧ (va_P (gD G) vwCl (fw G w σ') t.heap ∧ FK G t) ∧ va_F (FA G w) st t
def FP (G : Gl) (w : Wd) (as : List Value) (σ : Mem) : Array Value → State → Prop := fun a U => a = as.toArray ∧ va_P (gD G) vwCl (fw G w σ) U.heap ∧ FK G U
def Ct (l : Launch) (G : Gl) (w : Wd) (y : MethodName) (bytes : ByteArray) (maxL : Nat) (ret : Option FieldType) (rm : Room) (as : List Value) (σ : Mem) (v : Option Value) (σ' : Mem) : Prop :=
  Met l y (Cond.code y bytes maxL ret :: tbl) rm (FP G w as σ) (FQ G w σ' v) 0 0 (FA G w)
abbrev WG (p : Program) (l : Launch) (e : Env) (R : Room) (s : State) (m : MethodId) (args : Array Value) (below : List Frame) (meth : Method) (c : Code) (G : Gl) (w : Wd) (v : Option Value) (σ' : Mem) (H : Heap) (locs : List Loc) (pc : Nat) (ls : Array Slot) (st : List Value) : Prop :=
  W p l e R s m args below meth c H locs 0 0 (MQ below (FQ G w σ' v) args s 0 0 (FA G w)) (F0 m pc ls st)
theorem FP_blind {G : Gl} {w : Wd} {as : List Value} {σ : Mem} : FrameBlind (FP G w as σ) := fun a U g mk q => ⟨q.1, q.2.1, va_K.moved (u := U) (U := U.calling g mk a) (Vm.Alike.refl U.vm) q.2.2⟩

theorem fl_start {l : Launch} {G : Gl} {w : Wd} {y : MethodName} {bytes : ByteArray} {maxL : Nat} {ret : Option FieldType} {rm : Room} {as : List Value} {σ σ' : Mem} {v : Option Value} (hI : FI G w) (hy : plainName y.cls = true) (hn : (lg_sl as).length ≤ maxL)
    (body : ∀ (p : Program) (e : Env) (s : State) (m : MethodId) (below : List Frame) (meth : Method) (c : Code), MX p s m as.toArray meth c y.cls G w bytes maxL ret → FH G w s.heap s.heap [] σ → ∀ ls : Array Slot, lv_has ls maxL (lv_args 0 as) → WG p l e rm s m as.toArray below meth c G w v σ' s.heap [] 0 ls []) :
    Ct l G w y bytes maxL ret rm as σ v σ' := by
  refine Met.ofW (cc := bytes) (maxL := maxL) (ret := ret) hy rfl ?_
  intro p e s m args below meth c s₁ B hml hv
  obtain ⟨rfl, hP, hK⟩ := hv
  have hts := atoms_spec (ws := Cond.code y bytes maxL ret :: tbl) B.pre
  rw [lg_entry_eq]
  exact body p e s m below meth c ⟨⟨B.exec, findClass_of_methodNamed B.named, fun x hx => hts x (List.mem_cons_of_mem _ hx), hK, hI⟩, B.bytes, hml, B.returns, B.notSynchronized⟩ ⟨hP, va_S.rf⟩ _ (lv_entry as hn)

section FL
variable {p : Program} {l : Launch} {e : Env} {R : Room} {s : State} {m : MethodId} {args : Array Value} {below : List Frame} {meth : Method} {c : Code} {H H0 : Heap} {locs : List Loc} {cells slots : Nat} {Q : State → Prop}
variable {cc : ByteArray} {pc : Nat} {ls : Array Slot} {rest : List Value} {G : Gl} {w : Wd} {σ : Mem} {own : String} {k ci j index N n kd : Nat} {C : String} {T : u_T} {rs : List (Option Nat)} {tg : Nat → Nat}
theorem fl_geti (X : CX p s m args own G w) (hb : c.code = cc) (hF : FH G w H0 H locs σ) (hs : SH w k (.inl (ci, rs))) (hc : vwCl[ci]? = some (C, T, N)) (hj : j < N) (hin : ∀ x ∈ u_ws C T N, x ∈ tbl) (hl : Cond.fieldLink own index (T j).1 (T j).2.1 (T j).2.2.1 ∈ tbl) (hv : rs[j]? = some none) (hdg : decode cc pc = .ok (.getfield index, 3))
    (kk : W p l e R s m args below meth c H locs cells slots Q (F0 m (pc + 3) ls (.int (σ k j) :: rest))) : W p l e R s m args below meth c H locs cells slots Q (F0 m pc ls (.ref (gA G k) :: rest)) :=
  va_get X.1 hb X.2.2.1 hin X.2.1 X.2.2.2.1 hF.1 k (fs := ffs (gA G) rs (σ k)) (ci := ci) (by rw [fw_get hs.1, hs.2]; rfl) hc j hj (X.2.2.1 _ hl) (fun _ h => h) (ffs_int hv) hdg kk
theorem fl_getr {k2 : Nat} (X : CX p s m args own G w) (hb : c.code = cc) (hF : FH G w H0 H locs σ) (hs : SH w k (.inl (ci, rs))) (hc : vwCl[ci]? = some (C, T, N)) (hj : j < N) (hin : ∀ x ∈ u_ws C T N, x ∈ tbl) (hl : Cond.fieldLink own index (T j).1 (T j).2.1 (T j).2.2.1 ∈ tbl) (hv : rs[j]? = some (some k2)) (hdg : decode cc pc = .ok (.getfield index, 3))
    (kk : W p l e R s m args below meth c H locs cells slots Q (F0 m (pc + 3) ls (.ref (gA G k2) :: rest))) : W p l e R s m args below meth c H locs cells slots Q (F0 m pc ls (.ref (gA G k) :: rest)) :=
  va_get X.1 hb X.2.2.1 hin X.2.1 X.2.2.2.1 hF.1 k (fs := ffs (gA G) rs (σ k)) (ci := ci) (by rw [fw_get hs.1, hs.2]; rfl) hc j hj (X.2.2.1 _ hl) (fun _ h => h) (ffs_ref hv) hdg kk
theorem fl_puti {v : Int32} {ty : FieldType} (X : CX p s m args own G w) (hb : c.code = cc) (hF : FH G w H0 H locs σ) (hs : SH w k (.inl (ci, rs))) (hc : vwCl[ci]? = some (C, T, N)) (hj : j < N) (hin : ∀ x ∈ u_ws C T N, x ∈ tbl) (ty0 : Nat → FieldType) (hty : ∀ k, k < N → parseFieldDescriptor (T k).2.2.1 = some (ty0 k)) (hnm : ∀ a, a < N → ∀ b, b < N → a ≠ b → (T a).2.1 ≠ (T b).2.1) (hl : Cond.fieldLink own index (T j).1 (T j).2.1 (T j).2.2.1 ∈ tbl) (hfin : (T j).2.2.2 = false) (hd : parseFieldDescriptor (T j).2.2.1 = some ty) (hnr : narrow ty (.int v) = .int v) (hfit : fits ty (.int v) = true) (hv : rs[j]? = some none) (hdg : decode cc pc = .ok (.putfield index, 3))
    (kk : ∀ (H1 : Heap) (locs1 : List Loc), FH G w H0 H1 locs1 (mup σ k j v) → W p l e R s m args below meth c H1 locs1 cells slots Q (F0 m (pc + 3) ls rest)) : W p l e R s m args below meth c H locs cells slots Q (F0 m pc ls (.int v :: .ref (gA G k) :: rest)) := by
  have hg : (fw G w σ)[k]? = some (gA G k, .inr (ci, ffs (gA G) rs (σ k))) := by rw [fw_get hs.1, hs.2]; rfl
  refine va_put X.1 hb X.2.2.1 hin ty0 hty hnm X.2.1 X.2.2.2.1 hF.1 (fw_D X.2.2.2.2) hF.2 k hg hc j hj (X.2.2.1 _ hl) (fun _ h => h) hfin hd hnr hfit (by rw [ffs_len]; exact (List.getElem?_eq_some_iff.mp hv).1) hdg (fun H1 locs1 hP1 _ hS1 => kk H1 locs1 ⟨?_, hS1⟩)
  rw [ffs_set hv] at hP1
  rw [← fw_set hs.1, hs.2]
  exact hP1
theorem fl_iald (X : CX p s m args own G w) (hb : c.code = cc) (hF : FH G w H0 H locs σ) (hs : SH w k (.inr (0, n, tg))) {i : Int32} (hi : ¬ (i < 0 ∨ n ≤ i.toNatClampNeg)) (hdg : decode cc pc = .ok (.iaload, 1))
    (kk : W p l e R s m args below meth c H locs cells slots Q (F0 m (pc + 1) ls (.int (σ k i.toNatClampNeg) :: rest))) : W p l e R s m args below meth c H locs cells slots Q (F0 m pc ls (.int i :: .ref (gA G k) :: rest)) :=
  va_iald X.1 hb X.2.2.2.1 hF.1 k 0 (n := n) (f := σ k) (by rw [fw_get hs.1, hs.2]; rfl) rfl hi hdg kk
theorem fl_zald (X : CX p s m args own G w) (hb : c.code = cc) (hF : FH G w H0 H locs σ) (hs : SH w k (.inr (1, n, tg))) {i : Int32} (hi : ¬ (i < 0 ∨ n ≤ i.toNatClampNeg)) (hdg : decode cc pc = .ok (.baload, 1))
    (kk : W p l e R s m args below meth c H locs cells slots Q (F0 m (pc + 1) ls (.int (σ k i.toNatClampNeg) :: rest))) : W p l e R s m args below meth c H locs cells slots Q (F0 m pc ls (.int i :: .ref (gA G k) :: rest)) :=
  va_zald X.1 hb X.2.2.2.1 hF.1 k 1 (n := n) (f := σ k) (by rw [fw_get hs.1, hs.2]; rfl) rfl hi hdg kk
theorem fl_aaldH (X : CX p s m args own G w) (hb : c.code = cc) (hF : FH G w H0 H locs σ) (hs : SH w k (.inr (2, n, tg))) {i : Int32} (hi : ¬ (i < 0 ∨ n ≤ i.toNatClampNeg)) (hdg : decode cc pc = .ok (.aaload, 1))
    (kk : W p l e R s m args below meth c H locs cells slots Q (F0 m (pc + 1) ls (.ref (gA G (tg i.toNatClampNeg)) :: rest))) : W p l e R s m args below meth c H locs cells slots Q (F0 m pc ls (.int i :: .ref (gA G k) :: rest)) :=
  va_aldq X.1 hb X.2.2.2.1 hF.1 k 2 (n := n) (f := fun i => some (gA G (tg i))) (by rw [fw_get hs.1, hs.2]; rfl) rfl hi hdg kk
theorem fl_aaldC (X : CX p s m args own G w) (hb : c.code = cc) (hF : FH G w H0 H locs σ) (hs : SH w k (.inr (3, n, tg))) {i : Int32} (hi : ¬ (i < 0 ∨ n ≤ i.toNatClampNeg)) (hdg : decode cc pc = .ok (.aaload, 1))
    (kk : W p l e R s m args below meth c H locs cells slots Q (F0 m (pc + 1) ls (.ref (gA G (tg i.toNatClampNeg)) :: rest))) : W p l e R s m args below meth c H locs cells slots Q (F0 m pc ls (.int i :: .ref (gA G k) :: rest)) :=
  va_aldq X.1 hb X.2.2.2.1 hF.1 k 3 (n := n) (f := fun i => some (gA G (tg i))) (by rw [fw_get hs.1, hs.2]; rfl) rfl hi hdg kk
theorem fl_iast (X : CX p s m args own G w) (hb : c.code = cc) (hF : FH G w H0 H locs σ) (hs : SH w k (.inr (0, n, tg))) {i x : Int32} (hi : ¬ (i < 0 ∨ n ≤ i.toNatClampNeg)) (hdg : decode cc pc = .ok (.iastore, 1))
    (kk : ∀ (H1 : Heap) (locs1 : List Loc), FH G w H0 H1 locs1 (mup σ k i.toNatClampNeg x) → W p l e R s m args below meth c H1 locs1 cells slots Q (F0 m (pc + 1) ls rest)) : W p l e R s m args below meth c H locs cells slots Q (F0 m pc ls (.int x :: .int i :: .ref (gA G k) :: rest)) := by
  refine va_iast X.1 hb X.2.2.2.1 hF.1 (fw_D X.2.2.2.2) hF.2 k 0 (n := n) (f := σ k) (cA := G.2.2.1 0) (by rw [fw_get hs.1, hs.2]; rfl) rfl hi hdg (fun H1 locs1 hP1 _ hS1 => kk H1 locs1 ⟨?_, hS1⟩)
  rw [← fw_set hs.1, hs.2]
  exact hP1
theorem fl_zast (X : CX p s m args own G w) (hb : c.code = cc) (hF : FH G w H0 H locs σ) (hs : SH w k (.inr (1, n, tg))) {i x : Int32} (hi : ¬ (i < 0 ∨ n ≤ i.toNatClampNeg)) (hx : vp_nar .boolean x = x) (hdg : decode cc pc = .ok (.bastore, 1))
    (kk : ∀ (H1 : Heap) (locs1 : List Loc), FH G w H0 H1 locs1 (mup σ k i.toNatClampNeg x) → W p l e R s m args below meth c H1 locs1 cells slots Q (F0 m (pc + 1) ls rest)) : W p l e R s m args below meth c H locs cells slots Q (F0 m pc ls (.int x :: .int i :: .ref (gA G k) :: rest)) := by
  refine va_zast X.1 hb X.2.2.2.1 hF.1 (fw_D X.2.2.2.2) hF.2 k 1 (n := n) (f := σ k) (cA := G.2.2.1 1) (by rw [fw_get hs.1, hs.2]; rfl) rfl hi hdg (fun H1 locs1 hP1 _ hS1 => kk H1 locs1 ⟨?_, hS1⟩)
  rw [hx] at hP1
  rw [← fw_set hs.1, hs.2]
  exact hP1
theorem fl_iret {v : Int32} (X : CX p s m args own G w) (hb : c.code = cc) (hr : meth.sig.returnType = some .int) (hlk : meth.locks = false) (hF : FH G w s.heap H locs σ) (hdg : decode cc pc = .ok (.ireturn, 1)) : WG p l e R s m args below meth c G w (some (.int v)) σ H locs pc ls [.int v] :=
  W.iret X.1 hb hr (fun t ht hW => ⟨rfl, ⟨by rw [ht]; exact hF.1, va_K.moved hW.alike X.2.2.2.1⟩, hF.2.F ht⟩) hF.2.2.2 hdg (hlocks := hlk)
theorem fl_zret {v : Int32} (X : CX p s m args own G w) (hb : c.code = cc) (hr : meth.sig.returnType = some .boolean) (hlk : meth.locks = false) (hF : FH G w s.heap H locs σ) (hv : v = 0 ∨ v = 1) (hdg : decode cc pc = .ok (.ireturn, 1)) : WG p l e R s m args below meth c G w (some (.int v)) σ H locs pc ls [.int v] :=
  W.zret X.1 hb hr (by rcases hv with rfl | rfl <;> rfl) (fun t ht hW => ⟨rfl, ⟨by rw [ht]; exact hF.1, va_K.moved hW.alike X.2.2.2.1⟩, hF.2.F ht⟩) hF.2.2.2 hdg (hlocks := hlk)
theorem fl_vret (X : CX p s m args own G w) (hb : c.code = cc) (hr : meth.sig.returnType = none) (hlk : meth.locks = false) (hF : FH G w s.heap H locs σ) (hdg : decode cc pc = .ok (.return_, 1)) : WG p l e R s m args below meth c G w none σ H locs pc ls [] :=
  W.vret X.1 hb hr (fun t ht hW => ⟨rfl, ⟨by rw [ht]; exact hF.1, va_K.moved hW.alike X.2.2.2.1⟩, hF.2.F ht⟩) hF.2.2.2 hdg (hlocks := hlk)
theorem fl_aret {o : String} (X : CX p s m args own G w) (hb : c.code = cc) (hr : meth.sig.returnType = some (.object o)) (hlk : meth.locks = false) (hF : FH G w s.heap H locs σ) (hdg : decode cc pc = .ok (.areturn, 1)) : WG p l e R s m args below meth c G w (some (.ref (gA G k))) σ H locs pc ls [.ref (gA G k)] :=
  W.aret X.1 hb hr (Or.inl ⟨_, rfl⟩) (Or.inr ⟨_, rfl⟩) (fun t ht hW => ⟨rfl, ⟨by rw [ht]; exact hF.1, va_K.moved hW.alike X.2.2.2.1⟩, hF.2.F ht⟩) hF.2.2.2 hdg (hlocks := hlk)
variable {y : MethodName} {bytes : ByteArray} {maxL nL : Nat} {ret : Option FieldType} {rm : Room} {As st0 : List Value} {v : Option Value} {σ' : Mem} {a : Array Value}
theorem fl_call (hr : va_Run p l e R s m args below meth c H locs cells slots 0 0 (F0 m pc ls st0) rest (FQ G w σ' v a) (FA G w)) (hF : FH G w H0 H locs σ)
    (kk : ∀ (H1 : Heap) (locs1 : List Loc), FH G w H0 H1 locs1 σ' → W p l e R s m args below meth c H1 locs1 cells slots Q (F0 m (pc + 3) ls (v.toList ++ rest))) : W p l e R s m args below meth c H locs cells slots Q (F0 m pc ls st0) := by
  intro T hT X
  obtain ⟨v', st₀, t, T', L, h0, X', hL, e1, e2, ⟨hv, ⟨hP, hK⟩, hz, hk⟩, st⟩ := hr T hT X
  cases hv
  rw [h0] at hz hk
  have hS := hF.2
  obtain ⟨t2, a1, b1⟩ := kk T'.heap (locs ++ L) ⟨by rw [e1]; exact hP, Nat.le_trans hS.1 (by rw [e1]; exact hz), fun q h1 h2 => by rw [e1, hk q (Nat.lt_of_lt_of_le h1 hS.1) h2]; exact hS.2.1 q h1 h2, fun q hq => by
      rcases List.mem_append.mp hq with h | h
      · exact hS.2.2 q h
      · exact hL q h⟩ T' rfl X'
  exact ⟨t2, st t2 a1, b1⟩
theorem fl_callV (X : CX p s m args own G w) (hb : c.code = cc) (hml : c.maxLocals = nL) (hF : FH G w H0 H locs σ) (hM : Ct l G w y bytes maxL ret rm (.ref (gA G k) :: As) σ v σ') (hs : SH w k (.inl (ci, rs))) (hc : vwCl[ci]? = some (C, T, N))
    (h1 : Cond.methodLink own index y ∈ tbl) (h2 : Cond.instanceMethod y ∈ tbl) (h3 : Cond.selects C y y ∈ tbl) (h4 : Cond.initialized y.cls ∈ tbl) (h5 : Cond.code y bytes maxL ret ∈ tbl)
    (hd : y.cls ≠ "java/lang/invoke/MethodHandle" ∧ y.cls ≠ "java/lang/invoke/VarHandle" ∧ (parseMethodDescriptor y.desc).map (fun d => d.parameters.length) = some n) (hrc : rm.cells = 0) (hrs : rm.slots = 0) (hR : rm.frames + 1 ≤ R.frames ∧ 8 + (maxL + 11) + rm.locals ≤ R.locals) (hf : cells ≤ R.cells ∧ slots ≤ R.slots)
    (hn : As.length = n) (hl : ls.size = nL) (hst : st0 = As.reverse ++ .ref (gA G k) :: rest) (hW : (rest.map fun v => v.category).sum ≤ 8) (hdg : decode cc pc = .ok (.invokevirtual index, 3))
    (kk : ∀ (H1 : Heap) (locs1 : List Loc), FH G w H0 H1 locs1 σ' → W p l e R s m args below meth c H1 locs1 cells slots Q (F0 m (pc + 3) ls (v.toList ++ rest))) : W p l e R s m args below meth c H locs cells slots Q (F0 m pc ls st0) :=
  fl_call (va_runV (Ts := tbl) (C := C) (b := gA G k) (As := As) (rest := rest) ⟨X.1, hb, hml, X.2.1, X.2.2.1⟩ hM ⟨callB_of n X.2.2.1 (tbl_cons h5) rfl hrc hrs (X.2.2.1 _ h4) (X.2.2.1 _ h1) hd hR, X.2.2.1 _ h2, X.2.2.1 _ h3⟩
    ⟨FP_blind, va_recv X.2.2.2.1 hF.1 hc (q0 := k) (fs := ffs (gA G) rs (σ k)) (by rw [fw_get hs.1, hs.2]; rfl), fun U hU hW => ⟨rfl, by rw [hU]; exact hF.1, va_K.moved hW.alike X.2.2.2.1⟩⟩ rfl hn hl hst (lv_room hW) hdg hf) hF kk
theorem fl_callS (X : CX p s m args own G w) (hb : c.code = cc) (hml : c.maxLocals = nL) (hF : FH G w H0 H locs σ) (hM : Ct l G w y bytes maxL ret rm As σ v σ')
    (h1 : Cond.methodLink own index y ∈ tbl) (h2 : Cond.static y ∈ tbl) (h4 : Cond.initialized y.cls ∈ tbl) (h5 : Cond.code y bytes maxL ret ∈ tbl)
    (hd : y.cls ≠ "java/lang/invoke/MethodHandle" ∧ y.cls ≠ "java/lang/invoke/VarHandle" ∧ (parseMethodDescriptor y.desc).map (fun d => d.parameters.length) = some n) (hrc : rm.cells = 0) (hrs : rm.slots = 0) (hR : rm.frames + 1 ≤ R.frames ∧ 8 + (maxL + 11) + rm.locals ≤ R.locals) (hf : cells ≤ R.cells ∧ slots ≤ R.slots)
    (hn : As.length = n) (hl : ls.size = nL) (hst : st0 = As.reverse ++ rest) (hW : (rest.map fun v => v.category).sum ≤ 8) (hdg : decode cc pc = .ok (.invokestatic index, 3))
    (kk : ∀ (H1 : Heap) (locs1 : List Loc), FH G w H0 H1 locs1 σ' → W p l e R s m args below meth c H1 locs1 cells slots Q (F0 m (pc + 3) ls (v.toList ++ rest))) : W p l e R s m args below meth c H locs cells slots Q (F0 m pc ls st0) :=
  fl_call (va_runS (Ts := tbl) (As := As) (rest := rest) ⟨X.1, hb, hml, X.2.1, X.2.2.1⟩ hM ⟨callB_of n X.2.2.1 (tbl_cons h5) rfl hrc hrs (X.2.2.1 _ h4) (X.2.2.1 _ h1) hd hR, X.2.2.1 _ h2⟩
    ⟨FP_blind, fun U hU hW => ⟨rfl, by rw [hU]; exact hF.1, va_K.moved hW.alike X.2.2.2.1⟩⟩ rfl hn hl hst (lv_room hW) hdg hf) hF kk
end FL
/-! what a pure picture of a method may be: nothing where the machine would throw -/
def grd {α : Type} (q : Prop) [Decidable q] (x : Option α) : Option α := if q then x else none
def bi {α : Type} (x : Option Int32) (k : Int32 → Option α) : Option α := match x with | none => none | some r => k r
def bk {α : Type} (x : Option Nat) (k : Nat → Option α) : Option α := match x with | none => none | some r => k r
def bv {α : Type} (x : Option Mem) (k : Mem → Option α) : Option α := match x with | none => none | some r => k r
def bm {α : Type} (x : Option (Int32 × Mem)) (k : Int32 → Mem → Option α) : Option α := match x with | none => none | some r => k r.1 r.2
theorem grd_some {α : Type} {q : Prop} [Decidable q] {x : Option α} {r : α} (h : grd q x = some r) : q ∧ x = some r := by
  unfold grd at h
  split at h
  · exact ⟨by assumption, h⟩
  · cases h
theorem bi_some {α : Type} {x : Option Int32} {k : Int32 → Option α} {r : α} (h : bi x k = some r) : ∃ z, x = some z ∧ k z = some r := by
  cases x with
  | none => cases h
  | some z => exact ⟨z, rfl, h⟩
theorem bk_some {α : Type} {x : Option Nat} {k : Nat → Option α} {r : α} (h : bk x k = some r) : ∃ z, x = some z ∧ k z = some r := by
  cases x with
  | none => cases h
  | some z => exact ⟨z, rfl, h⟩
theorem bv_some {α : Type} {x : Option Mem} {k : Mem → Option α} {r : α} (h : bv x k = some r) : ∃ z, x = some z ∧ k z = some r := by
  cases x with
  | none => cases h
  | some z => exact ⟨z, rfl, h⟩
theorem bm_some {α : Type} {x : Option (Int32 × Mem)} {k : Int32 → Mem → Option α} {r : α} (h : bm x k = some r) : ∃ z τ, x = some (z, τ) ∧ k z τ = some r := by
  cases x with
  | none => cases h
  | some z => exact ⟨z.1, z.2, rfl, h⟩
def FU : Nat := 1000
