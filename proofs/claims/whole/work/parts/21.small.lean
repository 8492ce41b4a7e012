theorem wa_I : Cond.arrayClass .int ∈ tbl := tb (i := 111) (by decide +kernel) (by decide +kernel)
theorem wa_Z : Cond.arrayClass .boolean ∈ tbl := tb (i := 710) (by decide +kernel) (by decide +kernel)
theorem wo_ins : Cond.instanceMethod objectInit ∈ tbl := tb (i := 71) (by decide +kernel) (by decide +kernel)
theorem wo_code : Cond.code objectInit ⟨#[0xb1]⟩ 1 none ∈ tbl := tb (i := 72) (by decide +kernel) (by decide +kernel)
theorem va_at_q {D : va_G} {cl : List vw_C} {a n : Nat} {cA : ClassId} {f f' : Nat → Option Nat} {H : Heap} (h : ∀ j, j < n → f j = f' j) (k : va_at D cl (a, .inl (cA, n, .inr (.inr (.inr (.inr f))))) H) : va_at D cl (a, .inl (cA, n, .inr (.inr (.inr (.inr f'))))) H := by
  have e : vp_cell cA (n, .inr (.inr (.inr (.inr f)))) = vp_cell cA (n, .inr (.inr (.inr (.inr f')))) := by
    rw [vp_cell_q, vp_cell_q]
    unfold arrV
    congr 2
    funext j
    show va_rf (f j.val) = va_rf (f' j.val)
    rw [h j.val j.isLt]
  show H[a]? = some _
  rw [← e]
  exact k
def adh (h0 : Nat) (qs : Nat → Nat) : Nat → Nat := fun k => if k = 0 then h0 else qs k
def ρ0 : Mem := mup (fun _ _ => 0) 0 19 (-9)
theorem ρ0_ne {k : Nat} (h : k ≠ 0) : ρ0 k = fun _ => 0 := by simp [ρ0, mup, h]
theorem ρ0_0 : ρ0 0 = upd (fun _ => 0) 19 (-9) := by simp [ρ0, mup]
theorem fw_P {D : va_G} {cl : List vw_C} {G : Gl} {w : Wd} {σ : Mem} {H : Heap} (h : ∀ k, k < w.1 → va_at D cl (gA G k, fcell G (w.2 k) (σ k)) H) : va_P D cl (fw G w σ) H := by
  intro k q hk
  obtain ⟨h1, -⟩ := fw_some hk
  rw [fw_get h1] at hk
  cases hk
  exact h k h1
theorem fw_fst {G : Gl} {w : Wd} {σ : Mem} : (fw G w σ).map Prod.fst = (List.range w.1).map (gA G) := by
  simp [fw, Function.comp_def]
theorem va_D_addr {A : Nat → Prop} {u v : va_W} (h : u.map Prod.fst = v.map Prod.fst) (hD : va_D A u) : va_D A v := by
  have key : ∀ (k : Nat) (q : Nat × va_E), v[k]? = some q → ∃ q', u[k]? = some q' ∧ q'.1 = q.1 := by
    intro k q hk
    have h1 : (v.map Prod.fst)[k]? = some q.1 := by rw [List.getElem?_map, hk]; rfl
    rw [← h, List.getElem?_map] at h1
    cases hu : u[k]? with
    | none => rw [hu] at h1; cases h1
    | some q' => rw [hu] at h1; exact ⟨q', rfl, Option.some.inj h1⟩
  refine ⟨fun i j p q hi hj e => ?_, fun k q hk => ?_⟩
  · obtain ⟨p', a1, a2⟩ := key i p hi
    obtain ⟨q', b1, b2⟩ := key j q hj
    exact hD.1 i j p' q' a1 b1 (by rw [a2, b2]; exact e)
  · obtain ⟨q', b1, b2⟩ := key k q hk
    rw [← b2]
    exact hD.2 k q' b1
theorem wo_X2 : Cond.methodLink RX2 3 objectInit ∈ tbl := tb (i := 124) (by decide +kernel) (by decide +kernel)
set_option maxHeartbeats 4000000 in
set_option maxRecDepth 100000 in
theorem nX2_ok {l : Launch} {G : Gl} {h0 sz : Nat} : CtN l G yX2_init cX2_init 1 ({ frames := 1, cells := 2, slots := 12, locals := 20 }) h0 (.inr (2, [.null, .null, .int 0, .int 0])) sz 2 12 (fun qs => ((h0, .inr (2, [.ref (qs 0), .ref (qs 1), .int 0, .int 0])) :: ((qs 0), .inl (G.2.2.1 0, 6, .inl (fun _ => 0))) :: ((qs 1), .inl (G.2.2.1 0, 6, .inl (fun _ => 0))) :: ([] : va_W))) := by
  refine fn_start (by decide) rfl (by decide) ?_
  intro p e s m below meth c A X hb hml hr hlk hin hA hP hD hS ls hl
  have hx := X.1
  refine lv_aload_n hx hb dX2_init_0 rfl (lv_at hl 0 rfl) ?_
  refine W.objInit hx hb X.2.1 (X.2.2.1 _ wo_X2) (X.2.2.1 _ wo_ins) (X.2.2.1 _ wo_code) rfl (by rw [hml]; exact hl.1) rfl dX2_init_1 (Nat.le_of_ble_eq_true rfl) (Nat.le_of_ble_eq_true rfl) ?_
  refine W.eq (g2 := F0 m 4 ls []) rfl ?_
  refine lv_aload_n hx hb dX2_init_4 rfl (lv_at hl 0 rfl) ?_
  refine lv_bipush (v := (6 : Int32)) hx hb dX2_init_5 (by decide) ?_
  refine fn_newI (N' := 6) X hb wa_I hP hD hS hA (by decide) (by decide) (by decide) (Nat.le_of_ble_eq_true rfl) (Nat.le_of_ble_eq_true rfl) dX2_init_7 (fun q1 H hP hD hS => ?_)
  have hP : va_P (gD G) vwCl ((h0, .inr (2, [.null, .null, .int 0, .int 0])) :: (q1, .inl (G.2.2.1 0, 6, .inl (fun _ => 0))) :: ([] : va_W)) H := hP
  have hD : va_D A ((h0, .inr (2, [.null, .null, .int 0, .int 0])) :: (q1, .inl (G.2.2.1 0, 6, .inl (fun _ => 0))) :: ([] : va_W)) := hD
  refine W.cs (cells' := 1) (slots' := 6) rfl rfl ?_
  refine va_putF (D := gD G) (ci := 2) (v := .ref q1) (ty := (.array .int)) (C := RX2) (T := TX2) (N := 4) hx hb X.2.2.1 inT2 tyX2 tyX2_ok nmX2 X.2.1 X.2.2.2.1 hP hD hS 0 rfl rfl 0 (by decide) (X.2.2.1 _ wf_X2_9) (fun _ h9 => h9) rfl hin rfl (by decide +kernel) rfl rfl (Nat.le_of_ble_eq_true rfl) dX2_init_9 (fun H locs hP hD hS => ?_)
  have hP : va_P (gD G) vwCl ((h0, .inr (2, [.ref q1, .null, .int 0, .int 0])) :: (q1, .inl (G.2.2.1 0, 6, .inl (fun _ => 0))) :: ([] : va_W)) H := hP
  have hD : va_D A ((h0, .inr (2, [.ref q1, .null, .int 0, .int 0])) :: (q1, .inl (G.2.2.1 0, 6, .inl (fun _ => 0))) :: ([] : va_W)) := hD
  refine lv_aload_n hx hb dX2_init_12 rfl (lv_at hl 0 rfl) ?_
  refine lv_bipush (v := (6 : Int32)) hx hb dX2_init_13 (by decide) ?_
  refine fn_newI (N' := 6) X hb wa_I hP hD hS hA (by decide) (by decide) (by decide) (Nat.le_of_ble_eq_true rfl) (Nat.le_of_ble_eq_true rfl) dX2_init_15 (fun q2 H hP hD hS => ?_)
  have hP : va_P (gD G) vwCl ((h0, .inr (2, [.ref q1, .null, .int 0, .int 0])) :: (q1, .inl (G.2.2.1 0, 6, .inl (fun _ => 0))) :: (q2, .inl (G.2.2.1 0, 6, .inl (fun _ => 0))) :: ([] : va_W)) H := hP
  have hD : va_D A ((h0, .inr (2, [.ref q1, .null, .int 0, .int 0])) :: (q1, .inl (G.2.2.1 0, 6, .inl (fun _ => 0))) :: (q2, .inl (G.2.2.1 0, 6, .inl (fun _ => 0))) :: ([] : va_W)) := hD
  refine W.cs (cells' := 2) (slots' := 12) rfl rfl ?_
  refine va_putF (D := gD G) (ci := 2) (v := .ref q2) (ty := (.array .int)) (C := RX2) (T := TX2) (N := 4) hx hb X.2.2.1 inT2 tyX2 tyX2_ok nmX2 X.2.1 X.2.2.2.1 hP hD hS 0 rfl rfl 1 (by decide) (X.2.2.1 _ wf_X2_15) (fun _ h9 => h9) rfl hin rfl (by decide +kernel) rfl rfl (Nat.le_of_ble_eq_true rfl) dX2_init_17 (fun H locs hP hD hS => ?_)
  have hP : va_P (gD G) vwCl ((h0, .inr (2, [.ref q1, .ref q2, .int 0, .int 0])) :: (q1, .inl (G.2.2.1 0, 6, .inl (fun _ => 0))) :: (q2, .inl (G.2.2.1 0, 6, .inl (fun _ => 0))) :: ([] : va_W)) H := hP
  have hD : va_D A ((h0, .inr (2, [.ref q1, .ref q2, .int 0, .int 0])) :: (q1, .inl (G.2.2.1 0, 6, .inl (fun _ => 0))) :: (q2, .inl (G.2.2.1 0, 6, .inl (fun _ => 0))) :: ([] : va_W)) := hD
  refine lv_aload_n hx hb dX2_init_20 rfl (lv_at hl 0 rfl) ?_
  refine lv_iconst (v := (0 : Int32)) hx hb dX2_init_21 (by decide) ?_
  refine va_put (D := gD G) (ci := 2) (v := .int 0) (ty := (.int)) (C := RX2) (T := TX2) (N := 4) hx hb X.2.2.1 inT2 tyX2 tyX2_ok nmX2 X.2.1 X.2.2.2.1 hP hD hS 0 rfl rfl 2 (by decide) (X.2.2.1 _ wf_X2_18) (fun _ h9 => h9) rfl (by decide +kernel) rfl rfl (Nat.le_of_ble_eq_true rfl) dX2_init_22 (fun H locs hP hD hS => ?_)
  have hP : va_P (gD G) vwCl ((h0, .inr (2, [.ref q1, .ref q2, .int 0, .int 0])) :: (q1, .inl (G.2.2.1 0, 6, .inl (fun _ => 0))) :: (q2, .inl (G.2.2.1 0, 6, .inl (fun _ => 0))) :: ([] : va_W)) H := hP
  have hD : va_D A ((h0, .inr (2, [.ref q1, .ref q2, .int 0, .int 0])) :: (q1, .inl (G.2.2.1 0, 6, .inl (fun _ => 0))) :: (q2, .inl (G.2.2.1 0, 6, .inl (fun _ => 0))) :: ([] : va_W)) := hD
  refine lv_aload_n hx hb dX2_init_25 rfl (lv_at hl 0 rfl) ?_
  refine lv_iconst (v := (0 : Int32)) hx hb dX2_init_26 (by decide) ?_
  refine va_put (D := gD G) (ci := 2) (v := .int 0) (ty := (.int)) (C := RX2) (T := TX2) (N := 4) hx hb X.2.2.1 inT2 tyX2 tyX2_ok nmX2 X.2.1 X.2.2.2.1 hP hD hS 0 rfl rfl 3 (by decide) (X.2.2.1 _ wf_X2_22) (fun _ h9 => h9) rfl (by decide +kernel) rfl rfl (Nat.le_of_ble_eq_true rfl) dX2_init_27 (fun H locs hP hD hS => ?_)
  have hP : va_P (gD G) vwCl ((h0, .inr (2, [.ref q1, .ref q2, .int 0, .int 0])) :: (q1, .inl (G.2.2.1 0, 6, .inl (fun _ => 0))) :: (q2, .inl (G.2.2.1 0, 6, .inl (fun _ => 0))) :: ([] : va_W)) H := hP
  have hD : va_D A ((h0, .inr (2, [.ref q1, .ref q2, .int 0, .int 0])) :: (q1, .inl (G.2.2.1 0, 6, .inl (fun _ => 0))) :: (q2, .inl (G.2.2.1 0, 6, .inl (fun _ => 0))) :: ([] : va_W)) := hD
  exact fn_vret (cs := fun qs => ((h0, .inr (2, [.ref (qs 0), .ref (qs 1), .int 0, .int 0])) :: ((qs 0), .inl (G.2.2.1 0, 6, .inl (fun _ => 0))) :: ((qs 1), .inl (G.2.2.1 0, 6, .inl (fun _ => 0))) :: ([] : va_W))) (fun k => ([q1, q2] : List Nat).getD k 0) X hb hr hlk (hP.sub [0, 1, 2] rfl) (hD.sub [0, 1, 2] (by decide) rfl) hS dX2_init_30
theorem wo_X0 : Cond.methodLink RX0 3 objectInit ∈ tbl := tb (i := 117) (by decide +kernel) (by decide +kernel)
theorem wq_X0_9 : Cond.classLink RX0 9 RX2 ∈ tbl := tb (i := 118) (by decide +kernel) (by decide +kernel)
theorem wj_X2 : Cond.instantiable RX2 4 ∈ tbl := tb (i := 120) (by decide +kernel) (by decide +kernel)
theorem wmi_X0_17 : Cond.methodLink RX0 17 yX2_init ∈ tbl := tb (i := 121) (by decide +kernel) (by decide +kernel)
theorem wci_X2 : Cond.code yX2_init cX2_init 1 none ∈ tbl := tb (i := 123) (by decide +kernel) (by decide +kernel)
theorem wki_X2 : Cond.instanceMethod yX2_init ∈ tbl := tb (i := 122) (by decide +kernel) (by decide +kernel)
set_option maxHeartbeats 4000000 in
set_option maxRecDepth 100000 in
theorem nX0_ok {l : Launch} {G : Gl} {h0 sz : Nat} : CtN l G yX0_init cX0_init 2 ({ frames := 2, cells := 13, slots := 68, locals := 40 }) h0 (.inr (0, [.null, .int 0, .int 0])) sz 13 68 (fun qs => ((h0, .inr (0, [.ref (qs 0), .int 0, .int 0])) :: ((qs 0), .inl (G.2.2.1 2, 4, .inr (.inr (.inr (.inr (va_up (va_up (va_up (va_up (fun _ => none) 0 (some (qs 1))) 1 (some (qs 4))) 2 (some (qs 7))) 3 (some (qs 10)))))))) :: ((qs 1), .inr (2, [.ref (qs 2), .ref (qs 3), .int 0, .int 0])) :: ((qs 2), .inl (G.2.2.1 0, 6, .inl (fun _ => 0))) :: ((qs 3), .inl (G.2.2.1 0, 6, .inl (fun _ => 0))) :: ((qs 4), .inr (2, [.ref (qs 5), .ref (qs 6), .int 0, .int 0])) :: ((qs 5), .inl (G.2.2.1 0, 6, .inl (fun _ => 0))) :: ((qs 6), .inl (G.2.2.1 0, 6, .inl (fun _ => 0))) :: ((qs 7), .inr (2, [.ref (qs 8), .ref (qs 9), .int 0, .int 0])) :: ((qs 8), .inl (G.2.2.1 0, 6, .inl (fun _ => 0))) :: ((qs 9), .inl (G.2.2.1 0, 6, .inl (fun _ => 0))) :: ((qs 10), .inr (2, [.ref (qs 11), .ref (qs 12), .int 0, .int 0])) :: ((qs 11), .inl (G.2.2.1 0, 6, .inl (fun _ => 0))) :: ((qs 12), .inl (G.2.2.1 0, 6, .inl (fun _ => 0))) :: ([] : va_W))) := by
  refine fn_start (by decide) rfl (by decide) ?_
  intro p e s m below meth c A X hb hml hr hlk hin hA hP hD hS ls hl
  have hx := X.1
  refine lv_aload_n hx hb dX0_init_0 rfl (lv_at hl 0 rfl) ?_
  refine W.objInit hx hb X.2.1 (X.2.2.1 _ wo_X0) (X.2.2.1 _ wo_ins) (X.2.2.1 _ wo_code) rfl (by rw [hml]; exact hl.1) rfl dX0_init_1 (Nat.le_of_ble_eq_true rfl) (Nat.le_of_ble_eq_true rfl) ?_
  refine W.eq (g2 := F0 m 4 ls []) rfl ?_
  refine lv_aload_n hx hb dX0_init_4 rfl (lv_at hl 0 rfl) ?_
  refine lv_iconst (v := (4 : Int32)) hx hb dX0_init_5 (by decide) ?_
  refine fn_newq (N' := 4) (t := 2) X hb wq_X0_9 X.2.2.2.2.1 rfl (by decide) hP hD hS hA (by decide) (by decide) (by decide) (Nat.le_of_ble_eq_true rfl) (Nat.le_of_ble_eq_true rfl) dX0_init_6 (fun q1 H hP hD hS => ?_)
  have hP : va_P (gD G) vwCl ((h0, .inr (0, [.null, .int 0, .int 0])) :: (q1, .inl (G.2.2.1 2, 4, .inr (.inr (.inr (.inr (fun _ => none)))))) :: ([] : va_W)) H := hP
  have hD : va_D A ((h0, .inr (0, [.null, .int 0, .int 0])) :: (q1, .inl (G.2.2.1 2, 4, .inr (.inr (.inr (.inr (fun _ => none)))))) :: ([] : va_W)) := hD
  refine W.cs (cells' := 1) (slots' := 4) rfl rfl ?_
  refine va_putF (D := gD G) (ci := 0) (v := .ref q1) (ty := (.array (.object "YearLines$House"))) (C := RX0) (T := TX0) (N := 3) hx hb X.2.2.1 inT0 tyX0 tyX0_ok nmX0 X.2.1 X.2.2.2.1 hP hD hS 0 rfl rfl 0 (by decide) (X.2.2.1 _ wf_X0_11) (fun _ h9 => h9) rfl hin rfl (by decide +kernel) rfl rfl (Nat.le_of_ble_eq_true rfl) dX0_init_9 (fun H locs hP hD hS => ?_)
  have hP : va_P (gD G) vwCl ((h0, .inr (0, [.ref q1, .int 0, .int 0])) :: (q1, .inl (G.2.2.1 2, 4, .inr (.inr (.inr (.inr (fun _ => none)))))) :: ([] : va_W)) H := hP
  have hD : va_D A ((h0, .inr (0, [.ref q1, .int 0, .int 0])) :: (q1, .inl (G.2.2.1 2, 4, .inr (.inr (.inr (.inr (fun _ => none)))))) :: ([] : va_W)) := hD
  refine lv_iconst (v := (0 : Int32)) hx hb dX0_init_12 (by decide) ?_
  refine lv_istore_n (lv' := [(1, .int (0 : Int32)), (0, .ref h0)]) hx hb dX0_init_13 rfl hl (by decide) rfl (fun ls hl => ?_)
  refine lv_iload_n hx hb dX0_init_14 rfl (lv_at hl 0 rfl) ?_
  refine lv_iconst (v := (4 : Int32)) hx hb dX0_init_15 (by decide) ?_
  refine lv_icmp_ge (tgt := 38) hx hb dX0_init_16 (by decide) (fun z => absurd z (by decide)) (fun _ => ?_)
  refine lv_aload_n hx hb dX0_init_19 rfl (lv_at hl 1 rfl) ?_
  refine va_get (D := gD G) (ci := 0) (v := .ref q1) (C := RX0) (T := TX0) (N := 3) hx hb X.2.2.1 inT0 X.2.1 X.2.2.2.1 hP 0 rfl rfl 0 (by decide) (X.2.2.1 _ wf_X0_11) (fun _ h9 => h9) rfl dX0_init_20 ?_
  refine lv_iload_n hx hb dX0_init_23 rfl (lv_at hl 0 rfl) ?_
  refine va_new (ci := 2) (fs := [.null, .null, .int 0, .int 0]) (C := RX2) (T := TX2) (N := 4) hx hb X.2.2.1 inT2 tyX2 tyX2_ok X.2.1 (X.2.2.1 _ wq_X0_9) (X.2.2.1 _ wj_X2) (X.2.2.1 _ wi_X2) X.2.2.2.1 hP hD hS hA rfl (fun j hj => by rcases (show j = 0 ∨ j = 1 ∨ j = 2 ∨ j = 3 by omega) with rfl | rfl | rfl | rfl <;> rfl) (Nat.le_of_ble_eq_true rfl) (Nat.le_of_ble_eq_true rfl) dX0_init_24 (fun q2 H hP hD hS => ?_)
  have hP : va_P (gD G) vwCl ((h0, .inr (0, [.ref q1, .int 0, .int 0])) :: (q1, .inl (G.2.2.1 2, 4, .inr (.inr (.inr (.inr (fun _ => none)))))) :: (q2, .inr (2, [.null, .null, .int 0, .int 0])) :: ([] : va_W)) H := hP
  have hD : va_D A ((h0, .inr (0, [.ref q1, .int 0, .int 0])) :: (q1, .inl (G.2.2.1 2, 4, .inr (.inr (.inr (.inr (fun _ => none)))))) :: (q2, .inr (2, [.null, .null, .int 0, .int 0])) :: ([] : va_W)) := hD
  refine W.cs (cells' := 2) (slots' := 8) rfl rfl ?_
  refine lv_dup hx hb dX0_init_27 rfl ?_
  refine fn_callI (wr := ((h0, .inr (0, [.ref q1, .int 0, .int 0])) :: (q1, .inl (G.2.2.1 2, 4, .inr (.inr (.inr (.inr (fun _ => none)))))) :: ([] : va_W))) (rest := [.ref q2, .int (0 : Int32), .ref q1]) X hb hml (fun sz => nX2_ok (sz := sz)) wmi_X0_17 wki_X2 wi_X2 wci_X2 rfl (by decide +kernel) rfl rfl ⟨Nat.le_of_ble_eq_true rfl, Nat.le_of_ble_eq_true rfl⟩ ⟨Nat.le_of_ble_eq_true rfl, Nat.le_of_ble_eq_true rfl⟩ hP hD hS hA hl.1 (Nat.le_of_ble_eq_true rfl) dX0_init_28 (fun u3 H locs hP hD hS => ?_)
  have hP : va_P (gD G) vwCl ((h0, .inr (0, [.ref q1, .int 0, .int 0])) :: (q1, .inl (G.2.2.1 2, 4, .inr (.inr (.inr (.inr (fun _ => none)))))) :: (q2, .inr (2, [.ref (u3 0), .ref (u3 1), .int 0, .int 0])) :: ((u3 0), .inl (G.2.2.1 0, 6, .inl (fun _ => 0))) :: ((u3 1), .inl (G.2.2.1 0, 6, .inl (fun _ => 0))) :: ([] : va_W)) H := hP
  have hD : va_D A ((h0, .inr (0, [.ref q1, .int 0, .int 0])) :: (q1, .inl (G.2.2.1 2, 4, .inr (.inr (.inr (.inr (fun _ => none)))))) :: (q2, .inr (2, [.ref (u3 0), .ref (u3 1), .int 0, .int 0])) :: ((u3 0), .inl (G.2.2.1 0, 6, .inl (fun _ => 0))) :: ((u3 1), .inl (G.2.2.1 0, 6, .inl (fun _ => 0))) :: ([] : va_W)) := hD
  refine W.cs (cells' := 4) (slots' := 20) rfl rfl ?_
  refine va_astq hx hb X.2.2.2.1 hP hD hS 1 2 2 2 (r := (RX2, TX2, 4)) rfl rfl rfl rfl (by unfold vp_in; decide) dX0_init_31 (fun H locs hP hD hS => ?_)
  have hP : va_P (gD G) vwCl ((h0, .inr (0, [.ref q1, .int 0, .int 0])) :: (q1, .inl (G.2.2.1 2, 4, .inr (.inr (.inr (.inr (va_up (fun _ => none) 0 (some q2))))))) :: (q2, .inr (2, [.ref (u3 0), .ref (u3 1), .int 0, .int 0])) :: ((u3 0), .inl (G.2.2.1 0, 6, .inl (fun _ => 0))) :: ((u3 1), .inl (G.2.2.1 0, 6, .inl (fun _ => 0))) :: ([] : va_W)) H := hP
  have hD : va_D A ((h0, .inr (0, [.ref q1, .int 0, .int 0])) :: (q1, .inl (G.2.2.1 2, 4, .inr (.inr (.inr (.inr (va_up (fun _ => none) 0 (some q2))))))) :: (q2, .inr (2, [.ref (u3 0), .ref (u3 1), .int 0, .int 0])) :: ((u3 0), .inl (G.2.2.1 0, 6, .inl (fun _ => 0))) :: ((u3 1), .inl (G.2.2.1 0, 6, .inl (fun _ => 0))) :: ([] : va_W)) := hD
  refine lv_iinc (v := (1 : Int32)) (lv' := [(1, .int (1 : Int32)), (0, .ref h0)]) hx hb dX0_init_32 hl (k := 0) rfl (by decide) (by decide) rfl (fun ls hl => ?_)
  refine lv_goto (tgt := 14) hx hb dX0_init_35 (by decide) ?_
  refine lv_iload_n hx hb dX0_init_14 rfl (lv_at hl 0 rfl) ?_
  refine lv_iconst (v := (4 : Int32)) hx hb dX0_init_15 (by decide) ?_
  refine lv_icmp_ge (tgt := 38) hx hb dX0_init_16 (by decide) (fun z => absurd z (by decide)) (fun _ => ?_)
  refine lv_aload_n hx hb dX0_init_19 rfl (lv_at hl 1 rfl) ?_
  refine va_get (D := gD G) (ci := 0) (v := .ref q1) (C := RX0) (T := TX0) (N := 3) hx hb X.2.2.1 inT0 X.2.1 X.2.2.2.1 hP 0 rfl rfl 0 (by decide) (X.2.2.1 _ wf_X0_11) (fun _ h9 => h9) rfl dX0_init_20 ?_
  refine lv_iload_n hx hb dX0_init_23 rfl (lv_at hl 0 rfl) ?_
  refine va_new (ci := 2) (fs := [.null, .null, .int 0, .int 0]) (C := RX2) (T := TX2) (N := 4) hx hb X.2.2.1 inT2 tyX2 tyX2_ok X.2.1 (X.2.2.1 _ wq_X0_9) (X.2.2.1 _ wj_X2) (X.2.2.1 _ wi_X2) X.2.2.2.1 hP hD hS hA rfl (fun j hj => by rcases (show j = 0 ∨ j = 1 ∨ j = 2 ∨ j = 3 by omega) with rfl | rfl | rfl | rfl <;> rfl) (Nat.le_of_ble_eq_true rfl) (Nat.le_of_ble_eq_true rfl) dX0_init_24 (fun q4 H hP hD hS => ?_)
  have hP : va_P (gD G) vwCl ((h0, .inr (0, [.ref q1, .int 0, .int 0])) :: (q1, .inl (G.2.2.1 2, 4, .inr (.inr (.inr (.inr (va_up (fun _ => none) 0 (some q2))))))) :: (q2, .inr (2, [.ref (u3 0), .ref (u3 1), .int 0, .int 0])) :: ((u3 0), .inl (G.2.2.1 0, 6, .inl (fun _ => 0))) :: ((u3 1), .inl (G.2.2.1 0, 6, .inl (fun _ => 0))) :: (q4, .inr (2, [.null, .null, .int 0, .int 0])) :: ([] : va_W)) H := hP
  have hD : va_D A ((h0, .inr (0, [.ref q1, .int 0, .int 0])) :: (q1, .inl (G.2.2.1 2, 4, .inr (.inr (.inr (.inr (va_up (fun _ => none) 0 (some q2))))))) :: (q2, .inr (2, [.ref (u3 0), .ref (u3 1), .int 0, .int 0])) :: ((u3 0), .inl (G.2.2.1 0, 6, .inl (fun _ => 0))) :: ((u3 1), .inl (G.2.2.1 0, 6, .inl (fun _ => 0))) :: (q4, .inr (2, [.null, .null, .int 0, .int 0])) :: ([] : va_W)) := hD
  refine W.cs (cells' := 5) (slots' := 24) rfl rfl ?_
  refine lv_dup hx hb dX0_init_27 rfl ?_
  refine fn_callI (wr := ((h0, .inr (0, [.ref q1, .int 0, .int 0])) :: (q1, .inl (G.2.2.1 2, 4, .inr (.inr (.inr (.inr (va_up (fun _ => none) 0 (some q2))))))) :: (q2, .inr (2, [.ref (u3 0), .ref (u3 1), .int 0, .int 0])) :: ((u3 0), .inl (G.2.2.1 0, 6, .inl (fun _ => 0))) :: ((u3 1), .inl (G.2.2.1 0, 6, .inl (fun _ => 0))) :: ([] : va_W))) (rest := [.ref q4, .int (1 : Int32), .ref q1]) X hb hml (fun sz => nX2_ok (sz := sz)) wmi_X0_17 wki_X2 wi_X2 wci_X2 rfl (by decide +kernel) rfl rfl ⟨Nat.le_of_ble_eq_true rfl, Nat.le_of_ble_eq_true rfl⟩ ⟨Nat.le_of_ble_eq_true rfl, Nat.le_of_ble_eq_true rfl⟩ hP hD hS hA hl.1 (Nat.le_of_ble_eq_true rfl) dX0_init_28 (fun u5 H locs hP hD hS => ?_)
  have hP : va_P (gD G) vwCl ((h0, .inr (0, [.ref q1, .int 0, .int 0])) :: (q1, .inl (G.2.2.1 2, 4, .inr (.inr (.inr (.inr (va_up (fun _ => none) 0 (some q2))))))) :: (q2, .inr (2, [.ref (u3 0), .ref (u3 1), .int 0, .int 0])) :: ((u3 0), .inl (G.2.2.1 0, 6, .inl (fun _ => 0))) :: ((u3 1), .inl (G.2.2.1 0, 6, .inl (fun _ => 0))) :: (q4, .inr (2, [.ref (u5 0), .ref (u5 1), .int 0, .int 0])) :: ((u5 0), .inl (G.2.2.1 0, 6, .inl (fun _ => 0))) :: ((u5 1), .inl (G.2.2.1 0, 6, .inl (fun _ => 0))) :: ([] : va_W)) H := hP
  have hD : va_D A ((h0, .inr (0, [.ref q1, .int 0, .int 0])) :: (q1, .inl (G.2.2.1 2, 4, .inr (.inr (.inr (.inr (va_up (fun _ => none) 0 (some q2))))))) :: (q2, .inr (2, [.ref (u3 0), .ref (u3 1), .int 0, .int 0])) :: ((u3 0), .inl (G.2.2.1 0, 6, .inl (fun _ => 0))) :: ((u3 1), .inl (G.2.2.1 0, 6, .inl (fun _ => 0))) :: (q4, .inr (2, [.ref (u5 0), .ref (u5 1), .int 0, .int 0])) :: ((u5 0), .inl (G.2.2.1 0, 6, .inl (fun _ => 0))) :: ((u5 1), .inl (G.2.2.1 0, 6, .inl (fun _ => 0))) :: ([] : va_W)) := hD
  refine W.cs (cells' := 7) (slots' := 36) rfl rfl ?_
  refine va_astq hx hb X.2.2.2.1 hP hD hS 1 2 5 2 (r := (RX2, TX2, 4)) rfl rfl rfl rfl (by unfold vp_in; decide) dX0_init_31 (fun H locs hP hD hS => ?_)
  have hP : va_P (gD G) vwCl ((h0, .inr (0, [.ref q1, .int 0, .int 0])) :: (q1, .inl (G.2.2.1 2, 4, .inr (.inr (.inr (.inr (va_up (va_up (fun _ => none) 0 (some q2)) 1 (some q4))))))) :: (q2, .inr (2, [.ref (u3 0), .ref (u3 1), .int 0, .int 0])) :: ((u3 0), .inl (G.2.2.1 0, 6, .inl (fun _ => 0))) :: ((u3 1), .inl (G.2.2.1 0, 6, .inl (fun _ => 0))) :: (q4, .inr (2, [.ref (u5 0), .ref (u5 1), .int 0, .int 0])) :: ((u5 0), .inl (G.2.2.1 0, 6, .inl (fun _ => 0))) :: ((u5 1), .inl (G.2.2.1 0, 6, .inl (fun _ => 0))) :: ([] : va_W)) H := hP
  have hD : va_D A ((h0, .inr (0, [.ref q1, .int 0, .int 0])) :: (q1, .inl (G.2.2.1 2, 4, .inr (.inr (.inr (.inr (va_up (va_up (fun _ => none) 0 (some q2)) 1 (some q4))))))) :: (q2, .inr (2, [.ref (u3 0), .ref (u3 1), .int 0, .int 0])) :: ((u3 0), .inl (G.2.2.1 0, 6, .inl (fun _ => 0))) :: ((u3 1), .inl (G.2.2.1 0, 6, .inl (fun _ => 0))) :: (q4, .inr (2, [.ref (u5 0), .ref (u5 1), .int 0, .int 0])) :: ((u5 0), .inl (G.2.2.1 0, 6, .inl (fun _ => 0))) :: ((u5 1), .inl (G.2.2.1 0, 6, .inl (fun _ => 0))) :: ([] : va_W)) := hD
  refine lv_iinc (v := (2 : Int32)) (lv' := [(1, .int (2 : Int32)), (0, .ref h0)]) hx hb dX0_init_32 hl (k := 0) rfl (by decide) (by decide) rfl (fun ls hl => ?_)
  refine lv_goto (tgt := 14) hx hb dX0_init_35 (by decide) ?_
  refine lv_iload_n hx hb dX0_init_14 rfl (lv_at hl 0 rfl) ?_
  refine lv_iconst (v := (4 : Int32)) hx hb dX0_init_15 (by decide) ?_
  refine lv_icmp_ge (tgt := 38) hx hb dX0_init_16 (by decide) (fun z => absurd z (by decide)) (fun _ => ?_)
  refine lv_aload_n hx hb dX0_init_19 rfl (lv_at hl 1 rfl) ?_
  refine va_get (D := gD G) (ci := 0) (v := .ref q1) (C := RX0) (T := TX0) (N := 3) hx hb X.2.2.1 inT0 X.2.1 X.2.2.2.1 hP 0 rfl rfl 0 (by decide) (X.2.2.1 _ wf_X0_11) (fun _ h9 => h9) rfl dX0_init_20 ?_
  refine lv_iload_n hx hb dX0_init_23 rfl (lv_at hl 0 rfl) ?_
  refine va_new (ci := 2) (fs := [.null, .null, .int 0, .int 0]) (C := RX2) (T := TX2) (N := 4) hx hb X.2.2.1 inT2 tyX2 tyX2_ok X.2.1 (X.2.2.1 _ wq_X0_9) (X.2.2.1 _ wj_X2) (X.2.2.1 _ wi_X2) X.2.2.2.1 hP hD hS hA rfl (fun j hj => by rcases (show j = 0 ∨ j = 1 ∨ j = 2 ∨ j = 3 by omega) with rfl | rfl | rfl | rfl <;> rfl) (Nat.le_of_ble_eq_true rfl) (Nat.le_of_ble_eq_true rfl) dX0_init_24 (fun q6 H hP hD hS => ?_)
  have hP : va_P (gD G) vwCl ((h0, .inr (0, [.ref q1, .int 0, .int 0])) :: (q1, .inl (G.2.2.1 2, 4, .inr (.inr (.inr (.inr (va_up (va_up (fun _ => none) 0 (some q2)) 1 (some q4))))))) :: (q2, .inr (2, [.ref (u3 0), .ref (u3 1), .int 0, .int 0])) :: ((u3 0), .inl (G.2.2.1 0, 6, .inl (fun _ => 0))) :: ((u3 1), .inl (G.2.2.1 0, 6, .inl (fun _ => 0))) :: (q4, .inr (2, [.ref (u5 0), .ref (u5 1), .int 0, .int 0])) :: ((u5 0), .inl (G.2.2.1 0, 6, .inl (fun _ => 0))) :: ((u5 1), .inl (G.2.2.1 0, 6, .inl (fun _ => 0))) :: (q6, .inr (2, [.null, .null, .int 0, .int 0])) :: ([] : va_W)) H := hP
  have hD : va_D A ((h0, .inr (0, [.ref q1, .int 0, .int 0])) :: (q1, .inl (G.2.2.1 2, 4, .inr (.inr (.inr (.inr (va_up (va_up (fun _ => none) 0 (some q2)) 1 (some q4))))))) :: (q2, .inr (2, [.ref (u3 0), .ref (u3 1), .int 0, .int 0])) :: ((u3 0), .inl (G.2.2.1 0, 6, .inl (fun _ => 0))) :: ((u3 1), .inl (G.2.2.1 0, 6, .inl (fun _ => 0))) :: (q4, .inr (2, [.ref (u5 0), .ref (u5 1), .int 0, .int 0])) :: ((u5 0), .inl (G.2.2.1 0, 6, .inl (fun _ => 0))) :: ((u5 1), .inl (G.2.2.1 0, 6, .inl (fun _ => 0))) :: (q6, .inr (2, [.null, .null, .int 0, .int 0])) :: ([] : va_W)) := hD
  refine W.cs (cells' := 8) (slots' := 40) rfl rfl ?_
  refine lv_dup hx hb dX0_init_27 rfl ?_
  refine fn_callI (wr := ((h0, .inr (0, [.ref q1, .int 0, .int 0])) :: (q1, .inl (G.2.2.1 2, 4, .inr (.inr (.inr (.inr (va_up (va_up (fun _ => none) 0 (some q2)) 1 (some q4))))))) :: (q2, .inr (2, [.ref (u3 0), .ref (u3 1), .int 0, .int 0])) :: ((u3 0), .inl (G.2.2.1 0, 6, .inl (fun _ => 0))) :: ((u3 1), .inl (G.2.2.1 0, 6, .inl (fun _ => 0))) :: (q4, .inr (2, [.ref (u5 0), .ref (u5 1), .int 0, .int 0])) :: ((u5 0), .inl (G.2.2.1 0, 6, .inl (fun _ => 0))) :: ((u5 1), .inl (G.2.2.1 0, 6, .inl (fun _ => 0))) :: ([] : va_W))) (rest := [.ref q6, .int (2 : Int32), .ref q1]) X hb hml (fun sz => nX2_ok (sz := sz)) wmi_X0_17 wki_X2 wi_X2 wci_X2 rfl (by decide +kernel) rfl rfl ⟨Nat.le_of_ble_eq_true rfl, Nat.le_of_ble_eq_true rfl⟩ ⟨Nat.le_of_ble_eq_true rfl, Nat.le_of_ble_eq_true rfl⟩ hP hD hS hA hl.1 (Nat.le_of_ble_eq_true rfl) dX0_init_28 (fun u7 H locs hP hD hS => ?_)
  have hP : va_P (gD G) vwCl ((h0, .inr (0, [.ref q1, .int 0, .int 0])) :: (q1, .inl (G.2.2.1 2, 4, .inr (.inr (.inr (.inr (va_up (va_up (fun _ => none) 0 (some q2)) 1 (some q4))))))) :: (q2, .inr (2, [.ref (u3 0), .ref (u3 1), .int 0, .int 0])) :: ((u3 0), .inl (G.2.2.1 0, 6, .inl (fun _ => 0))) :: ((u3 1), .inl (G.2.2.1 0, 6, .inl (fun _ => 0))) :: (q4, .inr (2, [.ref (u5 0), .ref (u5 1), .int 0, .int 0])) :: ((u5 0), .inl (G.2.2.1 0, 6, .inl (fun _ => 0))) :: ((u5 1), .inl (G.2.2.1 0, 6, .inl (fun _ => 0))) :: (q6, .inr (2, [.ref (u7 0), .ref (u7 1), .int 0, .int 0])) :: ((u7 0), .inl (G.2.2.1 0, 6, .inl (fun _ => 0))) :: ((u7 1), .inl (G.2.2.1 0, 6, .inl (fun _ => 0))) :: ([] : va_W)) H := hP
  have hD : va_D A ((h0, .inr (0, [.ref q1, .int 0, .int 0])) :: (q1, .inl (G.2.2.1 2, 4, .inr (.inr (.inr (.inr (va_up (va_up (fun _ => none) 0 (some q2)) 1 (some q4))))))) :: (q2, .inr (2, [.ref (u3 0), .ref (u3 1), .int 0, .int 0])) :: ((u3 0), .inl (G.2.2.1 0, 6, .inl (fun _ => 0))) :: ((u3 1), .inl (G.2.2.1 0, 6, .inl (fun _ => 0))) :: (q4, .inr (2, [.ref (u5 0), .ref (u5 1), .int 0, .int 0])) :: ((u5 0), .inl (G.2.2.1 0, 6, .inl (fun _ => 0))) :: ((u5 1), .inl (G.2.2.1 0, 6, .inl (fun _ => 0))) :: (q6, .inr (2, [.ref (u7 0), .ref (u7 1), .int 0, .int 0])) :: ((u7 0), .inl (G.2.2.1 0, 6, .inl (fun _ => 0))) :: ((u7 1), .inl (G.2.2.1 0, 6, .inl (fun _ => 0))) :: ([] : va_W)) := hD
  refine W.cs (cells' := 10) (slots' := 52) rfl rfl ?_
  refine va_astq hx hb X.2.2.2.1 hP hD hS 1 2 8 2 (r := (RX2, TX2, 4)) rfl rfl rfl rfl (by unfold vp_in; decide) dX0_init_31 (fun H locs hP hD hS => ?_)
  have hP : va_P (gD G) vwCl ((h0, .inr (0, [.ref q1, .int 0, .int 0])) :: (q1, .inl (G.2.2.1 2, 4, .inr (.inr (.inr (.inr (va_up (va_up (va_up (fun _ => none) 0 (some q2)) 1 (some q4)) 2 (some q6))))))) :: (q2, .inr (2, [.ref (u3 0), .ref (u3 1), .int 0, .int 0])) :: ((u3 0), .inl (G.2.2.1 0, 6, .inl (fun _ => 0))) :: ((u3 1), .inl (G.2.2.1 0, 6, .inl (fun _ => 0))) :: (q4, .inr (2, [.ref (u5 0), .ref (u5 1), .int 0, .int 0])) :: ((u5 0), .inl (G.2.2.1 0, 6, .inl (fun _ => 0))) :: ((u5 1), .inl (G.2.2.1 0, 6, .inl (fun _ => 0))) :: (q6, .inr (2, [.ref (u7 0), .ref (u7 1), .int 0, .int 0])) :: ((u7 0), .inl (G.2.2.1 0, 6, .inl (fun _ => 0))) :: ((u7 1), .inl (G.2.2.1 0, 6, .inl (fun _ => 0))) :: ([] : va_W)) H := hP
  have hD : va_D A ((h0, .inr (0, [.ref q1, .int 0, .int 0])) :: (q1, .inl (G.2.2.1 2, 4, .inr (.inr (.inr (.inr (va_up (va_up (va_up (fun _ => none) 0 (some q2)) 1 (some q4)) 2 (some q6))))))) :: (q2, .inr (2, [.ref (u3 0), .ref (u3 1), .int 0, .int 0])) :: ((u3 0), .inl (G.2.2.1 0, 6, .inl (fun _ => 0))) :: ((u3 1), .inl (G.2.2.1 0, 6, .inl (fun _ => 0))) :: (q4, .inr (2, [.ref (u5 0), .ref (u5 1), .int 0, .int 0])) :: ((u5 0), .inl (G.2.2.1 0, 6, .inl (fun _ => 0))) :: ((u5 1), .inl (G.2.2.1 0, 6, .inl (fun _ => 0))) :: (q6, .inr (2, [.ref (u7 0), .ref (u7 1), .int 0, .int 0])) :: ((u7 0), .inl (G.2.2.1 0, 6, .inl (fun _ => 0))) :: ((u7 1), .inl (G.2.2.1 0, 6, .inl (fun _ => 0))) :: ([] : va_W)) := hD
  refine lv_iinc (v := (3 : Int32)) (lv' := [(1, .int (3 : Int32)), (0, .ref h0)]) hx hb dX0_init_32 hl (k := 0) rfl (by decide) (by decide) rfl (fun ls hl => ?_)
  refine lv_goto (tgt := 14) hx hb dX0_init_35 (by decide) ?_
  refine lv_iload_n hx hb dX0_init_14 rfl (lv_at hl 0 rfl) ?_
  refine lv_iconst (v := (4 : Int32)) hx hb dX0_init_15 (by decide) ?_
  refine lv_icmp_ge (tgt := 38) hx hb dX0_init_16 (by decide) (fun z => absurd z (by decide)) (fun _ => ?_)
  refine lv_aload_n hx hb dX0_init_19 rfl (lv_at hl 1 rfl) ?_
  refine va_get (D := gD G) (ci := 0) (v := .ref q1) (C := RX0) (T := TX0) (N := 3) hx hb X.2.2.1 inT0 X.2.1 X.2.2.2.1 hP 0 rfl rfl 0 (by decide) (X.2.2.1 _ wf_X0_11) (fun _ h9 => h9) rfl dX0_init_20 ?_
  refine lv_iload_n hx hb dX0_init_23 rfl (lv_at hl 0 rfl) ?_
  refine va_new (ci := 2) (fs := [.null, .null, .int 0, .int 0]) (C := RX2) (T := TX2) (N := 4) hx hb X.2.2.1 inT2 tyX2 tyX2_ok X.2.1 (X.2.2.1 _ wq_X0_9) (X.2.2.1 _ wj_X2) (X.2.2.1 _ wi_X2) X.2.2.2.1 hP hD hS hA rfl (fun j hj => by rcases (show j = 0 ∨ j = 1 ∨ j = 2 ∨ j = 3 by omega) with rfl | rfl | rfl | rfl <;> rfl) (Nat.le_of_ble_eq_true rfl) (Nat.le_of_ble_eq_true rfl) dX0_init_24 (fun q8 H hP hD hS => ?_)
  have hP : va_P (gD G) vwCl ((h0, .inr (0, [.ref q1, .int 0, .int 0])) :: (q1, .inl (G.2.2.1 2, 4, .inr (.inr (.inr (.inr (va_up (va_up (va_up (fun _ => none) 0 (some q2)) 1 (some q4)) 2 (some q6))))))) :: (q2, .inr (2, [.ref (u3 0), .ref (u3 1), .int 0, .int 0])) :: ((u3 0), .inl (G.2.2.1 0, 6, .inl (fun _ => 0))) :: ((u3 1), .inl (G.2.2.1 0, 6, .inl (fun _ => 0))) :: (q4, .inr (2, [.ref (u5 0), .ref (u5 1), .int 0, .int 0])) :: ((u5 0), .inl (G.2.2.1 0, 6, .inl (fun _ => 0))) :: ((u5 1), .inl (G.2.2.1 0, 6, .inl (fun _ => 0))) :: (q6, .inr (2, [.ref (u7 0), .ref (u7 1), .int 0, .int 0])) :: ((u7 0), .inl (G.2.2.1 0, 6, .inl (fun _ => 0))) :: ((u7 1), .inl (G.2.2.1 0, 6, .inl (fun _ => 0))) :: (q8, .inr (2, [.null, .null, .int 0, .int 0])) :: ([] : va_W)) H := hP
  have hD : va_D A ((h0, .inr (0, [.ref q1, .int 0, .int 0])) :: (q1, .inl (G.2.2.1 2, 4, .inr (.inr (.inr (.inr (va_up (va_up (va_up (fun _ => none) 0 (some q2)) 1 (some q4)) 2 (some q6))))))) :: (q2, .inr (2, [.ref (u3 0), .ref (u3 1), .int 0, .int 0])) :: ((u3 0), .inl (G.2.2.1 0, 6, .inl (fun _ => 0))) :: ((u3 1), .inl (G.2.2.1 0, 6, .inl (fun _ => 0))) :: (q4, .inr (2, [.ref (u5 0), .ref (u5 1), .int 0, .int 0])) :: ((u5 0), .inl (G.2.2.1 0, 6, .inl (fun _ => 0))) :: ((u5 1), .inl (G.2.2.1 0, 6, .inl (fun _ => 0))) :: (q6, .inr (2, [.ref (u7 0), .ref (u7 1), .int 0, .int 0])) :: ((u7 0), .inl (G.2.2.1 0, 6, .inl (fun _ => 0))) :: ((u7 1), .inl (G.2.2.1 0, 6, .inl (fun _ => 0))) :: (q8, .inr (2, [.null, .null, .int 0, .int 0])) :: ([] : va_W)) := hD
  refine W.cs (cells' := 11) (slots' := 56) rfl rfl ?_
  refine lv_dup hx hb dX0_init_27 rfl ?_
  refine fn_callI (wr := ((h0, .inr (0, [.ref q1, .int 0, .int 0])) :: (q1, .inl (G.2.2.1 2, 4, .inr (.inr (.inr (.inr (va_up (va_up (va_up (fun _ => none) 0 (some q2)) 1 (some q4)) 2 (some q6))))))) :: (q2, .inr (2, [.ref (u3 0), .ref (u3 1), .int 0, .int 0])) :: ((u3 0), .inl (G.2.2.1 0, 6, .inl (fun _ => 0))) :: ((u3 1), .inl (G.2.2.1 0, 6, .inl (fun _ => 0))) :: (q4, .inr (2, [.ref (u5 0), .ref (u5 1), .int 0, .int 0])) :: ((u5 0), .inl (G.2.2.1 0, 6, .inl (fun _ => 0))) :: ((u5 1), .inl (G.2.2.1 0, 6, .inl (fun _ => 0))) :: (q6, .inr (2, [.ref (u7 0), .ref (u7 1), .int 0, .int 0])) :: ((u7 0), .inl (G.2.2.1 0, 6, .inl (fun _ => 0))) :: ((u7 1), .inl (G.2.2.1 0, 6, .inl (fun _ => 0))) :: ([] : va_W))) (rest := [.ref q8, .int (3 : Int32), .ref q1]) X hb hml (fun sz => nX2_ok (sz := sz)) wmi_X0_17 wki_X2 wi_X2 wci_X2 rfl (by decide +kernel) rfl rfl ⟨Nat.le_of_ble_eq_true rfl, Nat.le_of_ble_eq_true rfl⟩ ⟨Nat.le_of_ble_eq_true rfl, Nat.le_of_ble_eq_true rfl⟩ hP hD hS hA hl.1 (Nat.le_of_ble_eq_true rfl) dX0_init_28 (fun u9 H locs hP hD hS => ?_)
  have hP : va_P (gD G) vwCl ((h0, .inr (0, [.ref q1, .int 0, .int 0])) :: (q1, .inl (G.2.2.1 2, 4, .inr (.inr (.inr (.inr (va_up (va_up (va_up (fun _ => none) 0 (some q2)) 1 (some q4)) 2 (some q6))))))) :: (q2, .inr (2, [.ref (u3 0), .ref (u3 1), .int 0, .int 0])) :: ((u3 0), .inl (G.2.2.1 0, 6, .inl (fun _ => 0))) :: ((u3 1), .inl (G.2.2.1 0, 6, .inl (fun _ => 0))) :: (q4, .inr (2, [.ref (u5 0), .ref (u5 1), .int 0, .int 0])) :: ((u5 0), .inl (G.2.2.1 0, 6, .inl (fun _ => 0))) :: ((u5 1), .inl (G.2.2.1 0, 6, .inl (fun _ => 0))) :: (q6, .inr (2, [.ref (u7 0), .ref (u7 1), .int 0, .int 0])) :: ((u7 0), .inl (G.2.2.1 0, 6, .inl (fun _ => 0))) :: ((u7 1), .inl (G.2.2.1 0, 6, .inl (fun _ => 0))) :: (q8, .inr (2, [.ref (u9 0), .ref (u9 1), .int 0, .int 0])) :: ((u9 0), .inl (G.2.2.1 0, 6, .inl (fun _ => 0))) :: ((u9 1), .inl (G.2.2.1 0, 6, .inl (fun _ => 0))) :: ([] : va_W)) H := hP
  have hD : va_D A ((h0, .inr (0, [.ref q1, .int 0, .int 0])) :: (q1, .inl (G.2.2.1 2, 4, .inr (.inr (.inr (.inr (va_up (va_up (va_up (fun _ => none) 0 (some q2)) 1 (some q4)) 2 (some q6))))))) :: (q2, .inr (2, [.ref (u3 0), .ref (u3 1), .int 0, .int 0])) :: ((u3 0), .inl (G.2.2.1 0, 6, .inl (fun _ => 0))) :: ((u3 1), .inl (G.2.2.1 0, 6, .inl (fun _ => 0))) :: (q4, .inr (2, [.ref (u5 0), .ref (u5 1), .int 0, .int 0])) :: ((u5 0), .inl (G.2.2.1 0, 6, .inl (fun _ => 0))) :: ((u5 1), .inl (G.2.2.1 0, 6, .inl (fun _ => 0))) :: (q6, .inr (2, [.ref (u7 0), .ref (u7 1), .int 0, .int 0])) :: ((u7 0), .inl (G.2.2.1 0, 6, .inl (fun _ => 0))) :: ((u7 1), .inl (G.2.2.1 0, 6, .inl (fun _ => 0))) :: (q8, .inr (2, [.ref (u9 0), .ref (u9 1), .int 0, .int 0])) :: ((u9 0), .inl (G.2.2.1 0, 6, .inl (fun _ => 0))) :: ((u9 1), .inl (G.2.2.1 0, 6, .inl (fun _ => 0))) :: ([] : va_W)) := hD
  refine W.cs (cells' := 13) (slots' := 68) rfl rfl ?_
  refine va_astq hx hb X.2.2.2.1 hP hD hS 1 2 11 2 (r := (RX2, TX2, 4)) rfl rfl rfl rfl (by unfold vp_in; decide) dX0_init_31 (fun H locs hP hD hS => ?_)
  have hP : va_P (gD G) vwCl ((h0, .inr (0, [.ref q1, .int 0, .int 0])) :: (q1, .inl (G.2.2.1 2, 4, .inr (.inr (.inr (.inr (va_up (va_up (va_up (va_up (fun _ => none) 0 (some q2)) 1 (some q4)) 2 (some q6)) 3 (some q8))))))) :: (q2, .inr (2, [.ref (u3 0), .ref (u3 1), .int 0, .int 0])) :: ((u3 0), .inl (G.2.2.1 0, 6, .inl (fun _ => 0))) :: ((u3 1), .inl (G.2.2.1 0, 6, .inl (fun _ => 0))) :: (q4, .inr (2, [.ref (u5 0), .ref (u5 1), .int 0, .int 0])) :: ((u5 0), .inl (G.2.2.1 0, 6, .inl (fun _ => 0))) :: ((u5 1), .inl (G.2.2.1 0, 6, .inl (fun _ => 0))) :: (q6, .inr (2, [.ref (u7 0), .ref (u7 1), .int 0, .int 0])) :: ((u7 0), .inl (G.2.2.1 0, 6, .inl (fun _ => 0))) :: ((u7 1), .inl (G.2.2.1 0, 6, .inl (fun _ => 0))) :: (q8, .inr (2, [.ref (u9 0), .ref (u9 1), .int 0, .int 0])) :: ((u9 0), .inl (G.2.2.1 0, 6, .inl (fun _ => 0))) :: ((u9 1), .inl (G.2.2.1 0, 6, .inl (fun _ => 0))) :: ([] : va_W)) H := hP
  have hD : va_D A ((h0, .inr (0, [.ref q1, .int 0, .int 0])) :: (q1, .inl (G.2.2.1 2, 4, .inr (.inr (.inr (.inr (va_up (va_up (va_up (va_up (fun _ => none) 0 (some q2)) 1 (some q4)) 2 (some q6)) 3 (some q8))))))) :: (q2, .inr (2, [.ref (u3 0), .ref (u3 1), .int 0, .int 0])) :: ((u3 0), .inl (G.2.2.1 0, 6, .inl (fun _ => 0))) :: ((u3 1), .inl (G.2.2.1 0, 6, .inl (fun _ => 0))) :: (q4, .inr (2, [.ref (u5 0), .ref (u5 1), .int 0, .int 0])) :: ((u5 0), .inl (G.2.2.1 0, 6, .inl (fun _ => 0))) :: ((u5 1), .inl (G.2.2.1 0, 6, .inl (fun _ => 0))) :: (q6, .inr (2, [.ref (u7 0), .ref (u7 1), .int 0, .int 0])) :: ((u7 0), .inl (G.2.2.1 0, 6, .inl (fun _ => 0))) :: ((u7 1), .inl (G.2.2.1 0, 6, .inl (fun _ => 0))) :: (q8, .inr (2, [.ref (u9 0), .ref (u9 1), .int 0, .int 0])) :: ((u9 0), .inl (G.2.2.1 0, 6, .inl (fun _ => 0))) :: ((u9 1), .inl (G.2.2.1 0, 6, .inl (fun _ => 0))) :: ([] : va_W)) := hD
  refine lv_iinc (v := (4 : Int32)) (lv' := [(1, .int (4 : Int32)), (0, .ref h0)]) hx hb dX0_init_32 hl (k := 0) rfl (by decide) (by decide) rfl (fun ls hl => ?_)
  refine lv_goto (tgt := 14) hx hb dX0_init_35 (by decide) ?_
  refine lv_iload_n hx hb dX0_init_14 rfl (lv_at hl 0 rfl) ?_
  refine lv_iconst (v := (4 : Int32)) hx hb dX0_init_15 (by decide) ?_
  refine lv_icmp_ge (tgt := 38) hx hb dX0_init_16 (by decide) (fun _ => ?_) (fun z => absurd (by decide) z)
  refine lv_aload_n hx hb dX0_init_38 rfl (lv_at hl 1 rfl) ?_
  refine lv_iconst (v := (0 : Int32)) hx hb dX0_init_39 (by decide) ?_
  refine va_put (D := gD G) (ci := 0) (v := .int 0) (ty := (.int)) (C := RX0) (T := TX0) (N := 3) hx hb X.2.2.1 inT0 tyX0 tyX0_ok nmX0 X.2.1 X.2.2.2.1 hP hD hS 0 rfl rfl 1 (by decide) (X.2.2.1 _ wf_X0_18) (fun _ h9 => h9) rfl (by decide +kernel) rfl rfl (Nat.le_of_ble_eq_true rfl) dX0_init_40 (fun H locs hP hD hS => ?_)
  have hP : va_P (gD G) vwCl ((h0, .inr (0, [.ref q1, .int 0, .int 0])) :: (q1, .inl (G.2.2.1 2, 4, .inr (.inr (.inr (.inr (va_up (va_up (va_up (va_up (fun _ => none) 0 (some q2)) 1 (some q4)) 2 (some q6)) 3 (some q8))))))) :: (q2, .inr (2, [.ref (u3 0), .ref (u3 1), .int 0, .int 0])) :: ((u3 0), .inl (G.2.2.1 0, 6, .inl (fun _ => 0))) :: ((u3 1), .inl (G.2.2.1 0, 6, .inl (fun _ => 0))) :: (q4, .inr (2, [.ref (u5 0), .ref (u5 1), .int 0, .int 0])) :: ((u5 0), .inl (G.2.2.1 0, 6, .inl (fun _ => 0))) :: ((u5 1), .inl (G.2.2.1 0, 6, .inl (fun _ => 0))) :: (q6, .inr (2, [.ref (u7 0), .ref (u7 1), .int 0, .int 0])) :: ((u7 0), .inl (G.2.2.1 0, 6, .inl (fun _ => 0))) :: ((u7 1), .inl (G.2.2.1 0, 6, .inl (fun _ => 0))) :: (q8, .inr (2, [.ref (u9 0), .ref (u9 1), .int 0, .int 0])) :: ((u9 0), .inl (G.2.2.1 0, 6, .inl (fun _ => 0))) :: ((u9 1), .inl (G.2.2.1 0, 6, .inl (fun _ => 0))) :: ([] : va_W)) H := hP
  have hD : va_D A ((h0, .inr (0, [.ref q1, .int 0, .int 0])) :: (q1, .inl (G.2.2.1 2, 4, .inr (.inr (.inr (.inr (va_up (va_up (va_up (va_up (fun _ => none) 0 (some q2)) 1 (some q4)) 2 (some q6)) 3 (some q8))))))) :: (q2, .inr (2, [.ref (u3 0), .ref (u3 1), .int 0, .int 0])) :: ((u3 0), .inl (G.2.2.1 0, 6, .inl (fun _ => 0))) :: ((u3 1), .inl (G.2.2.1 0, 6, .inl (fun _ => 0))) :: (q4, .inr (2, [.ref (u5 0), .ref (u5 1), .int 0, .int 0])) :: ((u5 0), .inl (G.2.2.1 0, 6, .inl (fun _ => 0))) :: ((u5 1), .inl (G.2.2.1 0, 6, .inl (fun _ => 0))) :: (q6, .inr (2, [.ref (u7 0), .ref (u7 1), .int 0, .int 0])) :: ((u7 0), .inl (G.2.2.1 0, 6, .inl (fun _ => 0))) :: ((u7 1), .inl (G.2.2.1 0, 6, .inl (fun _ => 0))) :: (q8, .inr (2, [.ref (u9 0), .ref (u9 1), .int 0, .int 0])) :: ((u9 0), .inl (G.2.2.1 0, 6, .inl (fun _ => 0))) :: ((u9 1), .inl (G.2.2.1 0, 6, .inl (fun _ => 0))) :: ([] : va_W)) := hD
  refine lv_aload_n hx hb dX0_init_43 rfl (lv_at hl 1 rfl) ?_
  refine lv_iconst (v := (0 : Int32)) hx hb dX0_init_44 (by decide) ?_
  refine va_put (D := gD G) (ci := 0) (v := .int 0) (ty := (.int)) (C := RX0) (T := TX0) (N := 3) hx hb X.2.2.1 inT0 tyX0 tyX0_ok nmX0 X.2.1 X.2.2.2.1 hP hD hS 0 rfl rfl 2 (by decide) (X.2.2.1 _ wf_X0_22) (fun _ h9 => h9) rfl (by decide +kernel) rfl rfl (Nat.le_of_ble_eq_true rfl) dX0_init_45 (fun H locs hP hD hS => ?_)
  have hP : va_P (gD G) vwCl ((h0, .inr (0, [.ref q1, .int 0, .int 0])) :: (q1, .inl (G.2.2.1 2, 4, .inr (.inr (.inr (.inr (va_up (va_up (va_up (va_up (fun _ => none) 0 (some q2)) 1 (some q4)) 2 (some q6)) 3 (some q8))))))) :: (q2, .inr (2, [.ref (u3 0), .ref (u3 1), .int 0, .int 0])) :: ((u3 0), .inl (G.2.2.1 0, 6, .inl (fun _ => 0))) :: ((u3 1), .inl (G.2.2.1 0, 6, .inl (fun _ => 0))) :: (q4, .inr (2, [.ref (u5 0), .ref (u5 1), .int 0, .int 0])) :: ((u5 0), .inl (G.2.2.1 0, 6, .inl (fun _ => 0))) :: ((u5 1), .inl (G.2.2.1 0, 6, .inl (fun _ => 0))) :: (q6, .inr (2, [.ref (u7 0), .ref (u7 1), .int 0, .int 0])) :: ((u7 0), .inl (G.2.2.1 0, 6, .inl (fun _ => 0))) :: ((u7 1), .inl (G.2.2.1 0, 6, .inl (fun _ => 0))) :: (q8, .inr (2, [.ref (u9 0), .ref (u9 1), .int 0, .int 0])) :: ((u9 0), .inl (G.2.2.1 0, 6, .inl (fun _ => 0))) :: ((u9 1), .inl (G.2.2.1 0, 6, .inl (fun _ => 0))) :: ([] : va_W)) H := hP
  have hD : va_D A ((h0, .inr (0, [.ref q1, .int 0, .int 0])) :: (q1, .inl (G.2.2.1 2, 4, .inr (.inr (.inr (.inr (va_up (va_up (va_up (va_up (fun _ => none) 0 (some q2)) 1 (some q4)) 2 (some q6)) 3 (some q8))))))) :: (q2, .inr (2, [.ref (u3 0), .ref (u3 1), .int 0, .int 0])) :: ((u3 0), .inl (G.2.2.1 0, 6, .inl (fun _ => 0))) :: ((u3 1), .inl (G.2.2.1 0, 6, .inl (fun _ => 0))) :: (q4, .inr (2, [.ref (u5 0), .ref (u5 1), .int 0, .int 0])) :: ((u5 0), .inl (G.2.2.1 0, 6, .inl (fun _ => 0))) :: ((u5 1), .inl (G.2.2.1 0, 6, .inl (fun _ => 0))) :: (q6, .inr (2, [.ref (u7 0), .ref (u7 1), .int 0, .int 0])) :: ((u7 0), .inl (G.2.2.1 0, 6, .inl (fun _ => 0))) :: ((u7 1), .inl (G.2.2.1 0, 6, .inl (fun _ => 0))) :: (q8, .inr (2, [.ref (u9 0), .ref (u9 1), .int 0, .int 0])) :: ((u9 0), .inl (G.2.2.1 0, 6, .inl (fun _ => 0))) :: ((u9 1), .inl (G.2.2.1 0, 6, .inl (fun _ => 0))) :: ([] : va_W)) := hD
  exact fn_vret (cs := fun qs => ((h0, .inr (0, [.ref (qs 0), .int 0, .int 0])) :: ((qs 0), .inl (G.2.2.1 2, 4, .inr (.inr (.inr (.inr (va_up (va_up (va_up (va_up (fun _ => none) 0 (some (qs 1))) 1 (some (qs 4))) 2 (some (qs 7))) 3 (some (qs 10)))))))) :: ((qs 1), .inr (2, [.ref (qs 2), .ref (qs 3), .int 0, .int 0])) :: ((qs 2), .inl (G.2.2.1 0, 6, .inl (fun _ => 0))) :: ((qs 3), .inl (G.2.2.1 0, 6, .inl (fun _ => 0))) :: ((qs 4), .inr (2, [.ref (qs 5), .ref (qs 6), .int 0, .int 0])) :: ((qs 5), .inl (G.2.2.1 0, 6, .inl (fun _ => 0))) :: ((qs 6), .inl (G.2.2.1 0, 6, .inl (fun _ => 0))) :: ((qs 7), .inr (2, [.ref (qs 8), .ref (qs 9), .int 0, .int 0])) :: ((qs 8), .inl (G.2.2.1 0, 6, .inl (fun _ => 0))) :: ((qs 9), .inl (G.2.2.1 0, 6, .inl (fun _ => 0))) :: ((qs 10), .inr (2, [.ref (qs 11), .ref (qs 12), .int 0, .int 0])) :: ((qs 11), .inl (G.2.2.1 0, 6, .inl (fun _ => 0))) :: ((qs 12), .inl (G.2.2.1 0, 6, .inl (fun _ => 0))) :: ([] : va_W))) (fun k => ([q1, q2, (u3 0), (u3 1), q4, (u5 0), (u5 1), q6, (u7 0), (u7 1), q8, (u9 0), (u9 1)] : List Nat).getD k 0) X hb hr hlk (hP.sub [0, 1, 2, 3, 4, 5, 6, 7, 8, 9, 10, 11, 12, 13] rfl) (hD.sub [0, 1, 2, 3, 4, 5, 6, 7, 8, 9, 10, 11, 12, 13] (by decide) rfl) hS dX0_init_48
theorem wo_X5 : Cond.methodLink RX5 3 objectInit ∈ tbl := tb (i := 78) (by decide +kernel) (by decide +kernel)
set_option maxHeartbeats 4000000 in
set_option maxRecDepth 100000 in
theorem nX5_ok {l : Launch} {G : Gl} {h0 sz : Nat} : CtN l G yX5_init cX5_init 1 ({ frames := 1, cells := 1, slots := 110, locals := 20 }) h0 (.inr (5, [.int 0, .null, .int 0, .int 0, .int 0, .int 0, .int 0, .int 0, .int 0, .int 0])) sz 1 110 (fun qs => ((h0, .inr (5, [.int 0, .ref (qs 0), .int 0, .int 0, .int 0, .int 0, .int 0, .int 0, .int 0, .int 0])) :: ((qs 0), .inl (G.2.2.1 0, 110, .inl (fun _ => 0))) :: ([] : va_W))) := by
  refine fn_start (by decide) rfl (by decide) ?_
  intro p e s m below meth c A X hb hml hr hlk hin hA hP hD hS ls hl
  have hx := X.1
  refine lv_aload_n hx hb dX5_init_0 rfl (lv_at hl 0 rfl) ?_
  refine W.objInit hx hb X.2.1 (X.2.2.1 _ wo_X5) (X.2.2.1 _ wo_ins) (X.2.2.1 _ wo_code) rfl (by rw [hml]; exact hl.1) rfl dX5_init_1 (Nat.le_of_ble_eq_true rfl) (Nat.le_of_ble_eq_true rfl) ?_
  refine W.eq (g2 := F0 m 4 ls []) rfl ?_
  refine lv_aload_n hx hb dX5_init_4 rfl (lv_at hl 0 rfl) ?_
  refine lv_bipush (v := (110 : Int32)) hx hb dX5_init_5 (by decide) ?_
  refine fn_newI (N' := 110) X hb wa_I hP hD hS hA (by decide) (by decide) (by decide) (Nat.le_of_ble_eq_true rfl) (Nat.le_of_ble_eq_true rfl) dX5_init_7 (fun q1 H hP hD hS => ?_)
  have hP : va_P (gD G) vwCl ((h0, .inr (5, [.int 0, .null, .int 0, .int 0, .int 0, .int 0, .int 0, .int 0, .int 0, .int 0])) :: (q1, .inl (G.2.2.1 0, 110, .inl (fun _ => 0))) :: ([] : va_W)) H := hP
  have hD : va_D A ((h0, .inr (5, [.int 0, .null, .int 0, .int 0, .int 0, .int 0, .int 0, .int 0, .int 0, .int 0])) :: (q1, .inl (G.2.2.1 0, 110, .inl (fun _ => 0))) :: ([] : va_W)) := hD
  refine W.cs (cells' := 1) (slots' := 110) rfl rfl ?_
  refine va_putF (D := gD G) (ci := 5) (v := .ref q1) (ty := (.array .int)) (C := RX5) (T := TX5) (N := 10) hx hb X.2.2.1 inT5 tyX5 tyX5_ok nmX5 X.2.1 X.2.2.2.1 hP hD hS 0 rfl rfl 1 (by decide) (X.2.2.1 _ wf_X5_9) (fun _ h9 => h9) rfl hin rfl (by decide +kernel) rfl rfl (Nat.le_of_ble_eq_true rfl) dX5_init_9 (fun H locs hP hD hS => ?_)
  have hP : va_P (gD G) vwCl ((h0, .inr (5, [.int 0, .ref q1, .int 0, .int 0, .int 0, .int 0, .int 0, .int 0, .int 0, .int 0])) :: (q1, .inl (G.2.2.1 0, 110, .inl (fun _ => 0))) :: ([] : va_W)) H := hP
  have hD : va_D A ((h0, .inr (5, [.int 0, .ref q1, .int 0, .int 0, .int 0, .int 0, .int 0, .int 0, .int 0, .int 0])) :: (q1, .inl (G.2.2.1 0, 110, .inl (fun _ => 0))) :: ([] : va_W)) := hD
  refine lv_aload_n hx hb dX5_init_12 rfl (lv_at hl 0 rfl) ?_
  refine lv_iconst (v := (0 : Int32)) hx hb dX5_init_13 (by decide) ?_
  refine va_put (D := gD G) (ci := 5) (v := .int 0) (ty := (.int)) (C := RX5) (T := TX5) (N := 10) hx hb X.2.2.1 inT5 tyX5 tyX5_ok nmX5 X.2.1 X.2.2.2.1 hP hD hS 0 rfl rfl 0 (by decide) (X.2.2.1 _ wf_X5_15) (fun _ h9 => h9) rfl (by decide +kernel) rfl rfl (Nat.le_of_ble_eq_true rfl) dX5_init_14 (fun H locs hP hD hS => ?_)
  have hP : va_P (gD G) vwCl ((h0, .inr (5, [.int 0, .ref q1, .int 0, .int 0, .int 0, .int 0, .int 0, .int 0, .int 0, .int 0])) :: (q1, .inl (G.2.2.1 0, 110, .inl (fun _ => 0))) :: ([] : va_W)) H := hP
  have hD : va_D A ((h0, .inr (5, [.int 0, .ref q1, .int 0, .int 0, .int 0, .int 0, .int 0, .int 0, .int 0, .int 0])) :: (q1, .inl (G.2.2.1 0, 110, .inl (fun _ => 0))) :: ([] : va_W)) := hD
  exact fn_vret (cs := fun qs => ((h0, .inr (5, [.int 0, .ref (qs 0), .int 0, .int 0, .int 0, .int 0, .int 0, .int 0, .int 0, .int 0])) :: ((qs 0), .inl (G.2.2.1 0, 110, .inl (fun _ => 0))) :: ([] : va_W))) (fun k => ([q1] : List Nat).getD k 0) X hb hr hlk (hP.sub [0, 1] rfl) (hD.sub [0, 1] (by decide) rfl) hS dX5_init_17
theorem wo_X1 : Cond.methodLink RX1 3 objectInit ∈ tbl := tb (i := 176) (by decide +kernel) (by decide +kernel)
set_option maxHeartbeats 4000000 in
set_option maxRecDepth 100000 in
theorem nX1_ok {l : Launch} {G : Gl} {h0 sz : Nat} : CtN l G yX1_init cX1_init 1 ({ frames := 1, cells := 4, slots := 40, locals := 20 }) h0 (.inr (1, [.int 0, .null, .null, .null, .null])) sz 4 40 (fun qs => ((h0, .inr (1, [.int 0, .ref (qs 0), .ref (qs 1), .ref (qs 2), .ref (qs 3)])) :: ((qs 0), .inl (G.2.2.1 0, 10, .inl (fun _ => 0))) :: ((qs 1), .inl (G.2.2.1 0, 10, .inl (fun _ => 0))) :: ((qs 2), .inl (G.2.2.1 0, 10, .inl (fun _ => 0))) :: ((qs 3), .inl (G.2.2.1 0, 10, .inl (fun _ => 0))) :: ([] : va_W))) := by
  refine fn_start (by decide) rfl (by decide) ?_
  intro p e s m below meth c A X hb hml hr hlk hin hA hP hD hS ls hl
  have hx := X.1
  refine lv_aload_n hx hb dX1_init_0 rfl (lv_at hl 0 rfl) ?_
  refine W.objInit hx hb X.2.1 (X.2.2.1 _ wo_X1) (X.2.2.1 _ wo_ins) (X.2.2.1 _ wo_code) rfl (by rw [hml]; exact hl.1) rfl dX1_init_1 (Nat.le_of_ble_eq_true rfl) (Nat.le_of_ble_eq_true rfl) ?_
  refine W.eq (g2 := F0 m 4 ls []) rfl ?_
  refine lv_aload_n hx hb dX1_init_4 rfl (lv_at hl 0 rfl) ?_
  refine lv_iconst (v := (0 : Int32)) hx hb dX1_init_5 (by decide) ?_
  refine va_put (D := gD G) (ci := 1) (v := .int 0) (ty := (.int)) (C := RX1) (T := TX1) (N := 5) hx hb X.2.2.1 inT1 tyX1 tyX1_ok nmX1 X.2.1 X.2.2.2.1 hP hD hS 0 rfl rfl 0 (by decide) (X.2.2.1 _ wf_X1_9) (fun _ h9 => h9) rfl (by decide +kernel) rfl rfl (Nat.le_of_ble_eq_true rfl) dX1_init_6 (fun H locs hP hD hS => ?_)
  have hP : va_P (gD G) vwCl ((h0, .inr (1, [.int 0, .null, .null, .null, .null])) :: ([] : va_W)) H := hP
  have hD : va_D A ((h0, .inr (1, [.int 0, .null, .null, .null, .null])) :: ([] : va_W)) := hD
  refine lv_aload_n hx hb dX1_init_9 rfl (lv_at hl 0 rfl) ?_
  refine lv_bipush (v := (10 : Int32)) hx hb dX1_init_10 (by decide) ?_
  refine fn_newI (N' := 10) X hb wa_I hP hD hS hA (by decide) (by decide) (by decide) (Nat.le_of_ble_eq_true rfl) (Nat.le_of_ble_eq_true rfl) dX1_init_12 (fun q1 H hP hD hS => ?_)
  have hP : va_P (gD G) vwCl ((h0, .inr (1, [.int 0, .null, .null, .null, .null])) :: (q1, .inl (G.2.2.1 0, 10, .inl (fun _ => 0))) :: ([] : va_W)) H := hP
  have hD : va_D A ((h0, .inr (1, [.int 0, .null, .null, .null, .null])) :: (q1, .inl (G.2.2.1 0, 10, .inl (fun _ => 0))) :: ([] : va_W)) := hD
  refine W.cs (cells' := 1) (slots' := 10) rfl rfl ?_
  refine va_putF (D := gD G) (ci := 1) (v := .ref q1) (ty := (.array .int)) (C := RX1) (T := TX1) (N := 5) hx hb X.2.2.1 inT1 tyX1 tyX1_ok nmX1 X.2.1 X.2.2.2.1 hP hD hS 0 rfl rfl 1 (by decide) (X.2.2.1 _ wf_X1_15) (fun _ h9 => h9) rfl hin rfl (by decide +kernel) rfl rfl (Nat.le_of_ble_eq_true rfl) dX1_init_14 (fun H locs hP hD hS => ?_)
  have hP : va_P (gD G) vwCl ((h0, .inr (1, [.int 0, .ref q1, .null, .null, .null])) :: (q1, .inl (G.2.2.1 0, 10, .inl (fun _ => 0))) :: ([] : va_W)) H := hP
  have hD : va_D A ((h0, .inr (1, [.int 0, .ref q1, .null, .null, .null])) :: (q1, .inl (G.2.2.1 0, 10, .inl (fun _ => 0))) :: ([] : va_W)) := hD
  refine lv_aload_n hx hb dX1_init_17 rfl (lv_at hl 0 rfl) ?_
  refine lv_bipush (v := (10 : Int32)) hx hb dX1_init_18 (by decide) ?_
  refine fn_newI (N' := 10) X hb wa_I hP hD hS hA (by decide) (by decide) (by decide) (Nat.le_of_ble_eq_true rfl) (Nat.le_of_ble_eq_true rfl) dX1_init_20 (fun q2 H hP hD hS => ?_)
  have hP : va_P (gD G) vwCl ((h0, .inr (1, [.int 0, .ref q1, .null, .null, .null])) :: (q1, .inl (G.2.2.1 0, 10, .inl (fun _ => 0))) :: (q2, .inl (G.2.2.1 0, 10, .inl (fun _ => 0))) :: ([] : va_W)) H := hP
  have hD : va_D A ((h0, .inr (1, [.int 0, .ref q1, .null, .null, .null])) :: (q1, .inl (G.2.2.1 0, 10, .inl (fun _ => 0))) :: (q2, .inl (G.2.2.1 0, 10, .inl (fun _ => 0))) :: ([] : va_W)) := hD
  refine W.cs (cells' := 2) (slots' := 20) rfl rfl ?_
  refine va_putF (D := gD G) (ci := 1) (v := .ref q2) (ty := (.array .int)) (C := RX1) (T := TX1) (N := 5) hx hb X.2.2.1 inT1 tyX1 tyX1_ok nmX1 X.2.1 X.2.2.2.1 hP hD hS 0 rfl rfl 2 (by decide) (X.2.2.1 _ wf_X1_19) (fun _ h9 => h9) rfl hin rfl (by decide +kernel) rfl rfl (Nat.le_of_ble_eq_true rfl) dX1_init_22 (fun H locs hP hD hS => ?_)
  have hP : va_P (gD G) vwCl ((h0, .inr (1, [.int 0, .ref q1, .ref q2, .null, .null])) :: (q1, .inl (G.2.2.1 0, 10, .inl (fun _ => 0))) :: (q2, .inl (G.2.2.1 0, 10, .inl (fun _ => 0))) :: ([] : va_W)) H := hP
  have hD : va_D A ((h0, .inr (1, [.int 0, .ref q1, .ref q2, .null, .null])) :: (q1, .inl (G.2.2.1 0, 10, .inl (fun _ => 0))) :: (q2, .inl (G.2.2.1 0, 10, .inl (fun _ => 0))) :: ([] : va_W)) := hD
  refine lv_aload_n hx hb dX1_init_25 rfl (lv_at hl 0 rfl) ?_
  refine lv_bipush (v := (10 : Int32)) hx hb dX1_init_26 (by decide) ?_
  refine fn_newI (N' := 10) X hb wa_I hP hD hS hA (by decide) (by decide) (by decide) (Nat.le_of_ble_eq_true rfl) (Nat.le_of_ble_eq_true rfl) dX1_init_28 (fun q3 H hP hD hS => ?_)
  have hP : va_P (gD G) vwCl ((h0, .inr (1, [.int 0, .ref q1, .ref q2, .null, .null])) :: (q1, .inl (G.2.2.1 0, 10, .inl (fun _ => 0))) :: (q2, .inl (G.2.2.1 0, 10, .inl (fun _ => 0))) :: (q3, .inl (G.2.2.1 0, 10, .inl (fun _ => 0))) :: ([] : va_W)) H := hP
  have hD : va_D A ((h0, .inr (1, [.int 0, .ref q1, .ref q2, .null, .null])) :: (q1, .inl (G.2.2.1 0, 10, .inl (fun _ => 0))) :: (q2, .inl (G.2.2.1 0, 10, .inl (fun _ => 0))) :: (q3, .inl (G.2.2.1 0, 10, .inl (fun _ => 0))) :: ([] : va_W)) := hD
  refine W.cs (cells' := 3) (slots' := 30) rfl rfl ?_
  refine va_putF (D := gD G) (ci := 1) (v := .ref q3) (ty := (.array .int)) (C := RX1) (T := TX1) (N := 5) hx hb X.2.2.1 inT1 tyX1 tyX1_ok nmX1 X.2.1 X.2.2.2.1 hP hD hS 0 rfl rfl 3 (by decide) (X.2.2.1 _ wf_X1_22) (fun _ h9 => h9) rfl hin rfl (by decide +kernel) rfl rfl (Nat.le_of_ble_eq_true rfl) dX1_init_30 (fun H locs hP hD hS => ?_)
  have hP : va_P (gD G) vwCl ((h0, .inr (1, [.int 0, .ref q1, .ref q2, .ref q3, .null])) :: (q1, .inl (G.2.2.1 0, 10, .inl (fun _ => 0))) :: (q2, .inl (G.2.2.1 0, 10, .inl (fun _ => 0))) :: (q3, .inl (G.2.2.1 0, 10, .inl (fun _ => 0))) :: ([] : va_W)) H := hP
  have hD : va_D A ((h0, .inr (1, [.int 0, .ref q1, .ref q2, .ref q3, .null])) :: (q1, .inl (G.2.2.1 0, 10, .inl (fun _ => 0))) :: (q2, .inl (G.2.2.1 0, 10, .inl (fun _ => 0))) :: (q3, .inl (G.2.2.1 0, 10, .inl (fun _ => 0))) :: ([] : va_W)) := hD
  refine lv_aload_n hx hb dX1_init_33 rfl (lv_at hl 0 rfl) ?_
  refine lv_bipush (v := (10 : Int32)) hx hb dX1_init_34 (by decide) ?_
  refine fn_newI (N' := 10) X hb wa_I hP hD hS hA (by decide) (by decide) (by decide) (Nat.le_of_ble_eq_true rfl) (Nat.le_of_ble_eq_true rfl) dX1_init_36 (fun q4 H hP hD hS => ?_)
  have hP : va_P (gD G) vwCl ((h0, .inr (1, [.int 0, .ref q1, .ref q2, .ref q3, .null])) :: (q1, .inl (G.2.2.1 0, 10, .inl (fun _ => 0))) :: (q2, .inl (G.2.2.1 0, 10, .inl (fun _ => 0))) :: (q3, .inl (G.2.2.1 0, 10, .inl (fun _ => 0))) :: (q4, .inl (G.2.2.1 0, 10, .inl (fun _ => 0))) :: ([] : va_W)) H := hP
  have hD : va_D A ((h0, .inr (1, [.int 0, .ref q1, .ref q2, .ref q3, .null])) :: (q1, .inl (G.2.2.1 0, 10, .inl (fun _ => 0))) :: (q2, .inl (G.2.2.1 0, 10, .inl (fun _ => 0))) :: (q3, .inl (G.2.2.1 0, 10, .inl (fun _ => 0))) :: (q4, .inl (G.2.2.1 0, 10, .inl (fun _ => 0))) :: ([] : va_W)) := hD
  refine W.cs (cells' := 4) (slots' := 40) rfl rfl ?_
  refine va_putF (D := gD G) (ci := 1) (v := .ref q4) (ty := (.array .int)) (C := RX1) (T := TX1) (N := 5) hx hb X.2.2.1 inT1 tyX1 tyX1_ok nmX1 X.2.1 X.2.2.2.1 hP hD hS 0 rfl rfl 4 (by decide) (X.2.2.1 _ wf_X1_25) (fun _ h9 => h9) rfl hin rfl (by decide +kernel) rfl rfl (Nat.le_of_ble_eq_true rfl) dX1_init_38 (fun H locs hP hD hS => ?_)
  have hP : va_P (gD G) vwCl ((h0, .inr (1, [.int 0, .ref q1, .ref q2, .ref q3, .ref q4])) :: (q1, .inl (G.2.2.1 0, 10, .inl (fun _ => 0))) :: (q2, .inl (G.2.2.1 0, 10, .inl (fun _ => 0))) :: (q3, .inl (G.2.2.1 0, 10, .inl (fun _ => 0))) :: (q4, .inl (G.2.2.1 0, 10, .inl (fun _ => 0))) :: ([] : va_W)) H := hP
  have hD : va_D A ((h0, .inr (1, [.int 0, .ref q1, .ref q2, .ref q3, .ref q4])) :: (q1, .inl (G.2.2.1 0, 10, .inl (fun _ => 0))) :: (q2, .inl (G.2.2.1 0, 10, .inl (fun _ => 0))) :: (q3, .inl (G.2.2.1 0, 10, .inl (fun _ => 0))) :: (q4, .inl (G.2.2.1 0, 10, .inl (fun _ => 0))) :: ([] : va_W)) := hD
  exact fn_vret (cs := fun qs => ((h0, .inr (1, [.int 0, .ref (qs 0), .ref (qs 1), .ref (qs 2), .ref (qs 3)])) :: ((qs 0), .inl (G.2.2.1 0, 10, .inl (fun _ => 0))) :: ((qs 1), .inl (G.2.2.1 0, 10, .inl (fun _ => 0))) :: ((qs 2), .inl (G.2.2.1 0, 10, .inl (fun _ => 0))) :: ((qs 3), .inl (G.2.2.1 0, 10, .inl (fun _ => 0))) :: ([] : va_W))) (fun k => ([q1, q2, q3, q4] : List Nat).getD k 0) X hb hr hlk (hP.sub [0, 1, 2, 3, 4] rfl) (hD.sub [0, 1, 2, 3, 4] (by decide) rfl) hS dX1_init_41
theorem wo_X4 : Cond.methodLink RX4 3 objectInit ∈ tbl := tb (i := 199) (by decide +kernel) (by decide +kernel)
set_option maxHeartbeats 4000000 in
set_option maxRecDepth 100000 in
theorem nX4_ok {l : Launch} {G : Gl} {h0 sz : Nat} : CtN l G yX4_init cX4_init 1 ({ frames := 1, cells := 2, slots := 12, locals := 20 }) h0 (.inr (4, [.null, .null, .int 0])) sz 2 12 (fun qs => ((h0, .inr (4, [.ref (qs 0), .ref (qs 1), .int 0])) :: ((qs 0), .inl (G.2.2.1 0, 6, .inl (fun _ => 0))) :: ((qs 1), .inl (G.2.2.1 0, 6, .inl (fun _ => 0))) :: ([] : va_W))) := by
  refine fn_start (by decide) rfl (by decide) ?_
  intro p e s m below meth c A X hb hml hr hlk hin hA hP hD hS ls hl
  have hx := X.1
  refine lv_aload_n hx hb dX4_init_0 rfl (lv_at hl 0 rfl) ?_
  refine W.objInit hx hb X.2.1 (X.2.2.1 _ wo_X4) (X.2.2.1 _ wo_ins) (X.2.2.1 _ wo_code) rfl (by rw [hml]; exact hl.1) rfl dX4_init_1 (Nat.le_of_ble_eq_true rfl) (Nat.le_of_ble_eq_true rfl) ?_
  refine W.eq (g2 := F0 m 4 ls []) rfl ?_
  refine lv_aload_n hx hb dX4_init_4 rfl (lv_at hl 0 rfl) ?_
  refine lv_bipush (v := (6 : Int32)) hx hb dX4_init_5 (by decide) ?_
  refine fn_newI (N' := 6) X hb wa_I hP hD hS hA (by decide) (by decide) (by decide) (Nat.le_of_ble_eq_true rfl) (Nat.le_of_ble_eq_true rfl) dX4_init_7 (fun q1 H hP hD hS => ?_)
  have hP : va_P (gD G) vwCl ((h0, .inr (4, [.null, .null, .int 0])) :: (q1, .inl (G.2.2.1 0, 6, .inl (fun _ => 0))) :: ([] : va_W)) H := hP
  have hD : va_D A ((h0, .inr (4, [.null, .null, .int 0])) :: (q1, .inl (G.2.2.1 0, 6, .inl (fun _ => 0))) :: ([] : va_W)) := hD
  refine W.cs (cells' := 1) (slots' := 6) rfl rfl ?_
  refine va_putF (D := gD G) (ci := 4) (v := .ref q1) (ty := (.array .int)) (C := RX4) (T := TX4) (N := 3) hx hb X.2.2.1 inT4 tyX4 tyX4_ok nmX4 X.2.1 X.2.2.2.1 hP hD hS 0 rfl rfl 0 (by decide) (X.2.2.1 _ wf_X4_9) (fun _ h9 => h9) rfl hin rfl (by decide +kernel) rfl rfl (Nat.le_of_ble_eq_true rfl) dX4_init_9 (fun H locs hP hD hS => ?_)
  have hP : va_P (gD G) vwCl ((h0, .inr (4, [.ref q1, .null, .int 0])) :: (q1, .inl (G.2.2.1 0, 6, .inl (fun _ => 0))) :: ([] : va_W)) H := hP
  have hD : va_D A ((h0, .inr (4, [.ref q1, .null, .int 0])) :: (q1, .inl (G.2.2.1 0, 6, .inl (fun _ => 0))) :: ([] : va_W)) := hD
  refine lv_aload_n hx hb dX4_init_12 rfl (lv_at hl 0 rfl) ?_
  refine lv_bipush (v := (6 : Int32)) hx hb dX4_init_13 (by decide) ?_
  refine fn_newI (N' := 6) X hb wa_I hP hD hS hA (by decide) (by decide) (by decide) (Nat.le_of_ble_eq_true rfl) (Nat.le_of_ble_eq_true rfl) dX4_init_15 (fun q2 H hP hD hS => ?_)
  have hP : va_P (gD G) vwCl ((h0, .inr (4, [.ref q1, .null, .int 0])) :: (q1, .inl (G.2.2.1 0, 6, .inl (fun _ => 0))) :: (q2, .inl (G.2.2.1 0, 6, .inl (fun _ => 0))) :: ([] : va_W)) H := hP
  have hD : va_D A ((h0, .inr (4, [.ref q1, .null, .int 0])) :: (q1, .inl (G.2.2.1 0, 6, .inl (fun _ => 0))) :: (q2, .inl (G.2.2.1 0, 6, .inl (fun _ => 0))) :: ([] : va_W)) := hD
  refine W.cs (cells' := 2) (slots' := 12) rfl rfl ?_
  refine va_putF (D := gD G) (ci := 4) (v := .ref q2) (ty := (.array .int)) (C := RX4) (T := TX4) (N := 3) hx hb X.2.2.1 inT4 tyX4 tyX4_ok nmX4 X.2.1 X.2.2.2.1 hP hD hS 0 rfl rfl 1 (by decide) (X.2.2.1 _ wf_X4_15) (fun _ h9 => h9) rfl hin rfl (by decide +kernel) rfl rfl (Nat.le_of_ble_eq_true rfl) dX4_init_17 (fun H locs hP hD hS => ?_)
  have hP : va_P (gD G) vwCl ((h0, .inr (4, [.ref q1, .ref q2, .int 0])) :: (q1, .inl (G.2.2.1 0, 6, .inl (fun _ => 0))) :: (q2, .inl (G.2.2.1 0, 6, .inl (fun _ => 0))) :: ([] : va_W)) H := hP
  have hD : va_D A ((h0, .inr (4, [.ref q1, .ref q2, .int 0])) :: (q1, .inl (G.2.2.1 0, 6, .inl (fun _ => 0))) :: (q2, .inl (G.2.2.1 0, 6, .inl (fun _ => 0))) :: ([] : va_W)) := hD
  refine lv_aload_n hx hb dX4_init_20 rfl (lv_at hl 0 rfl) ?_
  refine lv_iconst (v := (0 : Int32)) hx hb dX4_init_21 (by decide) ?_
  refine va_put (D := gD G) (ci := 4) (v := .int 0) (ty := (.int)) (C := RX4) (T := TX4) (N := 3) hx hb X.2.2.1 inT4 tyX4 tyX4_ok nmX4 X.2.1 X.2.2.2.1 hP hD hS 0 rfl rfl 2 (by decide) (X.2.2.1 _ wf_X4_18) (fun _ h9 => h9) rfl (by decide +kernel) rfl rfl (Nat.le_of_ble_eq_true rfl) dX4_init_22 (fun H locs hP hD hS => ?_)
  have hP : va_P (gD G) vwCl ((h0, .inr (4, [.ref q1, .ref q2, .int 0])) :: (q1, .inl (G.2.2.1 0, 6, .inl (fun _ => 0))) :: (q2, .inl (G.2.2.1 0, 6, .inl (fun _ => 0))) :: ([] : va_W)) H := hP
  have hD : va_D A ((h0, .inr (4, [.ref q1, .ref q2, .int 0])) :: (q1, .inl (G.2.2.1 0, 6, .inl (fun _ => 0))) :: (q2, .inl (G.2.2.1 0, 6, .inl (fun _ => 0))) :: ([] : va_W)) := hD
  exact fn_vret (cs := fun qs => ((h0, .inr (4, [.ref (qs 0), .ref (qs 1), .int 0])) :: ((qs 0), .inl (G.2.2.1 0, 6, .inl (fun _ => 0))) :: ((qs 1), .inl (G.2.2.1 0, 6, .inl (fun _ => 0))) :: ([] : va_W))) (fun k => ([q1, q2] : List Nat).getD k 0) X hb hr hlk (hP.sub [0, 1, 2] rfl) (hD.sub [0, 1, 2] (by decide) rfl) hS dX4_init_25
theorem wo_X3 : Cond.methodLink RX3 3 objectInit ∈ tbl := tb (i := 217) (by decide +kernel) (by decide +kernel)
set_option maxHeartbeats 4000000 in
set_option maxRecDepth 100000 in
theorem nX3_ok {l : Launch} {G : Gl} {h0 sz : Nat} : CtN l G yX3_init cX3_init 1 ({ frames := 1, cells := 2, slots := 16, locals := 20 }) h0 (.inr (3, [.null, .null])) sz 2 16 (fun qs => ((h0, .inr (3, [.ref (qs 0), .ref (qs 1)])) :: ((qs 0), .inl (G.2.2.1 0, 8, .inl (fun _ => 0))) :: ((qs 1), .inl (G.2.2.1 0, 8, .inl (fun _ => 0))) :: ([] : va_W))) := by
  refine fn_start (by decide) rfl (by decide) ?_
  intro p e s m below meth c A X hb hml hr hlk hin hA hP hD hS ls hl
  have hx := X.1
  refine lv_aload_n hx hb dX3_init_0 rfl (lv_at hl 0 rfl) ?_
  refine W.objInit hx hb X.2.1 (X.2.2.1 _ wo_X3) (X.2.2.1 _ wo_ins) (X.2.2.1 _ wo_code) rfl (by rw [hml]; exact hl.1) rfl dX3_init_1 (Nat.le_of_ble_eq_true rfl) (Nat.le_of_ble_eq_true rfl) ?_
  refine W.eq (g2 := F0 m 4 ls []) rfl ?_
  refine lv_aload_n hx hb dX3_init_4 rfl (lv_at hl 0 rfl) ?_
  refine lv_bipush (v := (8 : Int32)) hx hb dX3_init_5 (by decide) ?_
  refine fn_newI (N' := 8) X hb wa_I hP hD hS hA (by decide) (by decide) (by decide) (Nat.le_of_ble_eq_true rfl) (Nat.le_of_ble_eq_true rfl) dX3_init_7 (fun q1 H hP hD hS => ?_)
  have hP : va_P (gD G) vwCl ((h0, .inr (3, [.null, .null])) :: (q1, .inl (G.2.2.1 0, 8, .inl (fun _ => 0))) :: ([] : va_W)) H := hP
  have hD : va_D A ((h0, .inr (3, [.null, .null])) :: (q1, .inl (G.2.2.1 0, 8, .inl (fun _ => 0))) :: ([] : va_W)) := hD
  refine W.cs (cells' := 1) (slots' := 8) rfl rfl ?_
  refine va_putF (D := gD G) (ci := 3) (v := .ref q1) (ty := (.array .int)) (C := RX3) (T := TX3) (N := 2) hx hb X.2.2.1 inT3 tyX3 tyX3_ok nmX3 X.2.1 X.2.2.2.1 hP hD hS 0 rfl rfl 0 (by decide) (X.2.2.1 _ wf_X3_9) (fun _ h9 => h9) rfl hin rfl (by decide +kernel) rfl rfl (Nat.le_of_ble_eq_true rfl) dX3_init_9 (fun H locs hP hD hS => ?_)
  have hP : va_P (gD G) vwCl ((h0, .inr (3, [.ref q1, .null])) :: (q1, .inl (G.2.2.1 0, 8, .inl (fun _ => 0))) :: ([] : va_W)) H := hP
  have hD : va_D A ((h0, .inr (3, [.ref q1, .null])) :: (q1, .inl (G.2.2.1 0, 8, .inl (fun _ => 0))) :: ([] : va_W)) := hD
  refine lv_aload_n hx hb dX3_init_12 rfl (lv_at hl 0 rfl) ?_
  refine lv_bipush (v := (8 : Int32)) hx hb dX3_init_13 (by decide) ?_
  refine fn_newI (N' := 8) X hb wa_I hP hD hS hA (by decide) (by decide) (by decide) (Nat.le_of_ble_eq_true rfl) (Nat.le_of_ble_eq_true rfl) dX3_init_15 (fun q2 H hP hD hS => ?_)
  have hP : va_P (gD G) vwCl ((h0, .inr (3, [.ref q1, .null])) :: (q1, .inl (G.2.2.1 0, 8, .inl (fun _ => 0))) :: (q2, .inl (G.2.2.1 0, 8, .inl (fun _ => 0))) :: ([] : va_W)) H := hP
  have hD : va_D A ((h0, .inr (3, [.ref q1, .null])) :: (q1, .inl (G.2.2.1 0, 8, .inl (fun _ => 0))) :: (q2, .inl (G.2.2.1 0, 8, .inl (fun _ => 0))) :: ([] : va_W)) := hD
  refine W.cs (cells' := 2) (slots' := 16) rfl rfl ?_
  refine va_putF (D := gD G) (ci := 3) (v := .ref q2) (ty := (.array .int)) (C := RX3) (T := TX3) (N := 2) hx hb X.2.2.1 inT3 tyX3 tyX3_ok nmX3 X.2.1 X.2.2.2.1 hP hD hS 0 rfl rfl 1 (by decide) (X.2.2.1 _ wf_X3_15) (fun _ h9 => h9) rfl hin rfl (by decide +kernel) rfl rfl (Nat.le_of_ble_eq_true rfl) dX3_init_17 (fun H locs hP hD hS => ?_)
  have hP : va_P (gD G) vwCl ((h0, .inr (3, [.ref q1, .ref q2])) :: (q1, .inl (G.2.2.1 0, 8, .inl (fun _ => 0))) :: (q2, .inl (G.2.2.1 0, 8, .inl (fun _ => 0))) :: ([] : va_W)) H := hP
  have hD : va_D A ((h0, .inr (3, [.ref q1, .ref q2])) :: (q1, .inl (G.2.2.1 0, 8, .inl (fun _ => 0))) :: (q2, .inl (G.2.2.1 0, 8, .inl (fun _ => 0))) :: ([] : va_W)) := hD
  exact fn_vret (cs := fun qs => ((h0, .inr (3, [.ref (qs 0), .ref (qs 1)])) :: ((qs 0), .inl (G.2.2.1 0, 8, .inl (fun _ => 0))) :: ((qs 1), .inl (G.2.2.1 0, 8, .inl (fun _ => 0))) :: ([] : va_W))) (fun k => ([q1, q2] : List Nat).getD k 0) X hb hr hlk (hP.sub [0, 1, 2] rfl) (hD.sub [0, 1, 2] (by decide) rfl) hS dX3_init_20
