/-! THE NINE CONSTRUCTORS (printed by wip/whole/gen_init.py) -/
theorem ct_wO : Jvm.Cond.code objectInit ⟨#[0xb1]⟩ 1 none ∈ am_tbl := am_wat_in (i := 59) (by decide +kernel)
theorem ct_wOi : Jvm.Cond.instanceMethod objectInit ∈ am_tbl := am_wat_in (i := 58) (by decide +kernel)
def wX2 (cI cZ cB : ClassId) (h0 : Nat) (u : Nat → Nat) : va_W := [(h0, .inr (2, [.int 0, .ref (u 0), .ref (u 1)])), (u 0, ct_ia cI 8), (u 1, ct_ia cI 8)]
abbrev eX2 : va_E := .inr (2, [.int 0, .null, .null])
theorem fX2 : ∀ j, j < 3 → defaultValue (tyX2 j) = vp_V [.int 0, .null, .null] j := fun j hj => match j, hj with
  | 0, _ => rfl
  | 1, _ => rfl
  | 2, _ => rfl
  | n + 3, h => absurd h (by omega)
theorem kX2_code : Jvm.Cond.code yX2_init cX2_init 1 none ∈ am_tbl := am_wat_in (i := 64) (by decide +kernel)
theorem kX2_ini : Jvm.Cond.initialized RX2 ∈ am_tbl := am_wat_in (i := 42) (by decide +kernel)
theorem kX2_inst : Jvm.Cond.instanceMethod yX2_init ∈ am_tbl := am_wat_in (i := 63) (by decide +kernel)
theorem dX2_0 : decode cX2_init 0 = .ok (.aload_n 0, 1) := by decide +kernel
theorem dX2_1 : decode cX2_init 1 = .ok (.invokespecial 3, 3) := by decide +kernel
theorem dX2_4 : decode cX2_init 4 = .ok (.aload_n 0, 1) := by decide +kernel
theorem dX2_5 : decode cX2_init 5 = .ok (.bipush 8, 2) := by decide +kernel
theorem dX2_7 : decode cX2_init 7 = .ok (.newarray .int, 2) := by decide +kernel
theorem dX2_9 : decode cX2_init 9 = .ok (.putfield 9, 3) := by decide +kernel
theorem dX2_12 : decode cX2_init 12 = .ok (.aload_n 0, 1) := by decide +kernel
theorem dX2_13 : decode cX2_init 13 = .ok (.bipush 8, 2) := by decide +kernel
theorem dX2_15 : decode cX2_init 15 = .ok (.newarray .int, 2) := by decide +kernel
theorem dX2_17 : decode cX2_init 17 = .ok (.putfield 15, 3) := by decide +kernel
theorem dX2_20 : decode cX2_init 20 = .ok (.return_, 1) := by decide +kernel
set_option maxHeartbeats 4000000 in
set_option maxRecDepth 100000 in
theorem c_X2 (l : Launch) (D : va_G) (cI cZ cB : ClassId) (h0 sz : Nat) : ct_Met l D cI cZ cB yX2_init cX2_init 1 { frames := 1, cells := 2, slots := 16, locals := 12 } [.ref h0] [(h0, eX2)] (wX2 cI cZ cB h0) 2 16 sz := by
  unfold ct_Met ct_Qm ct_Pm
  refine Met.ofW (cc := cX2_init) (maxL := 1) (ret := none) (by decide) rfl ?_
  intro p e s m args below meth c s₁ B hml hv
  obtain ⟨rfl, hsz, hP, hK, hD0, hN⟩ := hv
  have hx := B.exec
  have hb := B.bytes
  have hr := B.returns
  have hts0 := atoms_spec (ws := ct_wd yX2_init cX2_init 1) B.pre
  have hts : ∀ w ∈ am_tbl, w.before _ s = true := fun w hw => hts0 w (List.mem_cons_of_mem _ hw)
  have hown : s.vm.findClass RX2 = some m.cls := findClass_of_methodNamed B.named
  have hlocks := B.notSynchronized
  have hin : meth.name = "<init>" := (name_of_methodNamed B.named B.method).1
  subst hsz
  have hD := hD0.self (sz := s.heap.size)
  generalize hAe : va_A [(h0, eX2)] s.heap.size = A at hD ⊢
  have hA : ∀ q : Nat, s.heap.size ≤ q → A q := fun q h => by rw [← hAe]; exact Or.inr h
  have hS : va_S A s.heap s.heap [] := va_S.rf
  have hl := lv_entry ([.ref h0]) (n := 1) (Nat.le_of_ble_eq_true rfl)
  rw [lg_entry_eq]
  generalize (lg_sl ([.ref h0]) ++ List.replicate (1 - (lg_sl ([.ref h0])).length) Slot.unset).toArray = ls at hl ⊢
  have hl : lv_has ls 1 [(0, .ref h0)] := hl
  refine lv_aload_n hx hb dX2_0 rfl (lv_at hl 0 rfl) ?_
  refine W.objInit hx hb hown (hts _ (am_wat_in (i := 65) (w := .methodLink RX2 3 objectInit) (by decide +kernel))) (hts _ ct_wOi) (hts _ ct_wO) rfl (by rw [hml]; exact hl.1) rfl dX2_1 (Nat.le_of_ble_eq_true rfl) (Nat.le_of_ble_eq_true rfl) ?_
  refine W.eq (g2 := F0 m 4 ls []) rfl ?_
  refine lv_aload_n hx hb dX2_4 rfl (lv_at hl 0 rfl) ?_
  refine lv_bipush (v := 8) hx hb dX2_5 (by decide) ?_
  refine ct_newi (N := 8) hx hb hts hK hP hD hS hA (by decide) (by decide) (Nat.le_of_ble_eq_true rfl) (Nat.le_of_ble_eq_true rfl) (Nat.le_of_ble_eq_true rfl) dX2_7 (fun q7 H hP hD hS => ?_)
  have hP : va_P D am_cls [(h0, .inr (2, [.int 0, .null, .null])), (q7, ct_ia cI 8)] H := hP
  have hD : va_D A [(h0, .inr (2, [.int 0, .null, .null])), (q7, ct_ia cI 8)] := hD
  refine W.widen (k := 1) (n := 8) (Nat.le_of_ble_eq_true rfl) (Nat.le_of_ble_eq_true rfl) ?_
  refine ct_put (ci := 2) (q := (RX2, TX2, 3)) (i1 := 70) (ty := .array .int) hx hb hts rfl hown hin hK hP hD hS rfl 1 (by decide) (by decide +kernel) rfl rfl (by decide +kernel) rfl rfl (Nat.le_of_ble_eq_true rfl) dX2_9 (fun H locs hP hD hS => ?_)
  have hP : va_P D am_cls [(h0, .inr (2, [.int 0, .ref q7, .null])), (q7, ct_ia cI 8)] H := hP
  have hD : va_D A [(h0, .inr (2, [.int 0, .ref q7, .null])), (q7, ct_ia cI 8)] := hD
  refine lv_aload_n hx hb dX2_12 rfl (lv_at hl 0 rfl) ?_
  refine lv_bipush (v := 8) hx hb dX2_13 (by decide) ?_
  refine ct_newi (N := 8) hx hb hts hK hP hD hS hA (by decide) (by decide) (Nat.le_of_ble_eq_true rfl) (Nat.le_of_ble_eq_true rfl) (Nat.le_of_ble_eq_true rfl) dX2_15 (fun q15 H hP hD hS => ?_)
  have hP : va_P D am_cls [(h0, .inr (2, [.int 0, .ref q7, .null])), (q7, ct_ia cI 8), (q15, ct_ia cI 8)] H := hP
  have hD : va_D A [(h0, .inr (2, [.int 0, .ref q7, .null])), (q7, ct_ia cI 8), (q15, ct_ia cI 8)] := hD
  refine W.widen (k := 2) (n := 16) (Nat.le_of_ble_eq_true rfl) (Nat.le_of_ble_eq_true rfl) ?_
  refine ct_put (ci := 2) (q := (RX2, TX2, 3)) (i1 := 73) (ty := .array .int) hx hb hts rfl hown hin hK hP hD hS rfl 2 (by decide) (by decide +kernel) rfl rfl (by decide +kernel) rfl rfl (Nat.le_of_ble_eq_true rfl) dX2_17 (fun H locs hP hD hS => ?_)
  have hP : va_P D am_cls [(h0, .inr (2, [.int 0, .ref q7, .ref q15])), (q7, ct_ia cI 8), (q15, ct_ia cI 8)] H := hP
  have hD : va_D A [(h0, .inr (2, [.int 0, .ref q7, .ref q15])), (q7, ct_ia cI 8), (q15, ct_ia cI 8)] := hD
  have hP9 := hP.sub (ws' := wX2 cI cZ cB h0 (fun k => ([q7, q15] : List Nat).getD k 0)) [0, 1, 2] rfl
  have hD9 := hD.sub (ws' := wX2 cI cZ cB h0 (fun k => ([q7, q15] : List Nat).getD k 0)) [0, 1, 2] (by decide +kernel) rfl
  exact W.vret hx hb hr (fun t ht hW => ⟨⟨_, rfl, trivial, by rw [ht]; exact hP9, hD9⟩, hS.F ht⟩) hS.2.2 dX2_20
def wX3 (cI cZ cB : ClassId) (h0 : Nat) (u : Nat → Nat) : va_W := [(h0, .inr (3, [.int 0, .int 0, .ref (u 0), .ref (u 1), .ref (u 2), .ref (u 3), .ref (u 4)])), (u 0, ct_ia cI 10), (u 1, ct_ia cI 10), (u 2, ct_ia cI 10), (u 3, ct_ia cI 10), (u 4, ct_ia cI 10)]
abbrev eX3 : va_E := .inr (3, [.int 0, .int 0, .null, .null, .null, .null, .null])
theorem fX3 : ∀ j, j < 7 → defaultValue (tyX3 j) = vp_V [.int 0, .int 0, .null, .null, .null, .null, .null] j := fun j hj => match j, hj with
  | 0, _ => rfl
  | 1, _ => rfl
  | 2, _ => rfl
  | 3, _ => rfl
  | 4, _ => rfl
  | 5, _ => rfl
  | 6, _ => rfl
  | n + 7, h => absurd h (by omega)
theorem kX3_code : Jvm.Cond.code yX3_init cX3_init 1 none ∈ am_tbl := am_wat_in (i := 88) (by decide +kernel)
theorem kX3_ini : Jvm.Cond.initialized RX3 ∈ am_tbl := am_wat_in (i := 43) (by decide +kernel)
theorem kX3_inst : Jvm.Cond.instanceMethod yX3_init ∈ am_tbl := am_wat_in (i := 87) (by decide +kernel)
theorem dX3_0 : decode cX3_init 0 = .ok (.aload_n 0, 1) := by decide +kernel
theorem dX3_1 : decode cX3_init 1 = .ok (.invokespecial 3, 3) := by decide +kernel
theorem dX3_4 : decode cX3_init 4 = .ok (.aload_n 0, 1) := by decide +kernel
theorem dX3_5 : decode cX3_init 5 = .ok (.bipush 10, 2) := by decide +kernel
theorem dX3_7 : decode cX3_init 7 = .ok (.newarray .int, 2) := by decide +kernel
theorem dX3_9 : decode cX3_init 9 = .ok (.putfield 9, 3) := by decide +kernel
theorem dX3_12 : decode cX3_init 12 = .ok (.aload_n 0, 1) := by decide +kernel
theorem dX3_13 : decode cX3_init 13 = .ok (.bipush 10, 2) := by decide +kernel
theorem dX3_15 : decode cX3_init 15 = .ok (.newarray .int, 2) := by decide +kernel
theorem dX3_17 : decode cX3_init 17 = .ok (.putfield 15, 3) := by decide +kernel
theorem dX3_20 : decode cX3_init 20 = .ok (.aload_n 0, 1) := by decide +kernel
theorem dX3_21 : decode cX3_init 21 = .ok (.bipush 10, 2) := by decide +kernel
theorem dX3_23 : decode cX3_init 23 = .ok (.newarray .int, 2) := by decide +kernel
theorem dX3_25 : decode cX3_init 25 = .ok (.putfield 18, 3) := by decide +kernel
theorem dX3_28 : decode cX3_init 28 = .ok (.aload_n 0, 1) := by decide +kernel
theorem dX3_29 : decode cX3_init 29 = .ok (.bipush 10, 2) := by decide +kernel
theorem dX3_31 : decode cX3_init 31 = .ok (.newarray .int, 2) := by decide +kernel
theorem dX3_33 : decode cX3_init 33 = .ok (.putfield 21, 3) := by decide +kernel
theorem dX3_36 : decode cX3_init 36 = .ok (.aload_n 0, 1) := by decide +kernel
theorem dX3_37 : decode cX3_init 37 = .ok (.bipush 10, 2) := by decide +kernel
theorem dX3_39 : decode cX3_init 39 = .ok (.newarray .int, 2) := by decide +kernel
theorem dX3_41 : decode cX3_init 41 = .ok (.putfield 24, 3) := by decide +kernel
theorem dX3_44 : decode cX3_init 44 = .ok (.return_, 1) := by decide +kernel
set_option maxHeartbeats 4000000 in
set_option maxRecDepth 100000 in
theorem c_X3 (l : Launch) (D : va_G) (cI cZ cB : ClassId) (h0 sz : Nat) : ct_Met l D cI cZ cB yX3_init cX3_init 1 { frames := 1, cells := 5, slots := 50, locals := 12 } [.ref h0] [(h0, eX3)] (wX3 cI cZ cB h0) 5 50 sz := by
  unfold ct_Met ct_Qm ct_Pm
  refine Met.ofW (cc := cX3_init) (maxL := 1) (ret := none) (by decide) rfl ?_
  intro p e s m args below meth c s₁ B hml hv
  obtain ⟨rfl, hsz, hP, hK, hD0, hN⟩ := hv
  have hx := B.exec
  have hb := B.bytes
  have hr := B.returns
  have hts0 := atoms_spec (ws := ct_wd yX3_init cX3_init 1) B.pre
  have hts : ∀ w ∈ am_tbl, w.before _ s = true := fun w hw => hts0 w (List.mem_cons_of_mem _ hw)
  have hown : s.vm.findClass RX3 = some m.cls := findClass_of_methodNamed B.named
  have hlocks := B.notSynchronized
  have hin : meth.name = "<init>" := (name_of_methodNamed B.named B.method).1
  subst hsz
  have hD := hD0.self (sz := s.heap.size)
  generalize hAe : va_A [(h0, eX3)] s.heap.size = A at hD ⊢
  have hA : ∀ q : Nat, s.heap.size ≤ q → A q := fun q h => by rw [← hAe]; exact Or.inr h
  have hS : va_S A s.heap s.heap [] := va_S.rf
  have hl := lv_entry ([.ref h0]) (n := 1) (Nat.le_of_ble_eq_true rfl)
  rw [lg_entry_eq]
  generalize (lg_sl ([.ref h0]) ++ List.replicate (1 - (lg_sl ([.ref h0])).length) Slot.unset).toArray = ls at hl ⊢
  have hl : lv_has ls 1 [(0, .ref h0)] := hl
  refine lv_aload_n hx hb dX3_0 rfl (lv_at hl 0 rfl) ?_
  refine W.objInit hx hb hown (hts _ (am_wat_in (i := 89) (w := .methodLink RX3 3 objectInit) (by decide +kernel))) (hts _ ct_wOi) (hts _ ct_wO) rfl (by rw [hml]; exact hl.1) rfl dX3_1 (Nat.le_of_ble_eq_true rfl) (Nat.le_of_ble_eq_true rfl) ?_
  refine W.eq (g2 := F0 m 4 ls []) rfl ?_
  refine lv_aload_n hx hb dX3_4 rfl (lv_at hl 0 rfl) ?_
  refine lv_bipush (v := 10) hx hb dX3_5 (by decide) ?_
  refine ct_newi (N := 10) hx hb hts hK hP hD hS hA (by decide) (by decide) (Nat.le_of_ble_eq_true rfl) (Nat.le_of_ble_eq_true rfl) (Nat.le_of_ble_eq_true rfl) dX3_7 (fun q7 H hP hD hS => ?_)
  have hP : va_P D am_cls [(h0, .inr (3, [.int 0, .int 0, .null, .null, .null, .null, .null])), (q7, ct_ia cI 10)] H := hP
  have hD : va_D A [(h0, .inr (3, [.int 0, .int 0, .null, .null, .null, .null, .null])), (q7, ct_ia cI 10)] := hD
  refine W.widen (k := 1) (n := 10) (Nat.le_of_ble_eq_true rfl) (Nat.le_of_ble_eq_true rfl) ?_
  refine ct_put (ci := 3) (q := (RX3, TX3, 7)) (i1 := 98) (ty := .array .int) hx hb hts rfl hown hin hK hP hD hS rfl 2 (by decide) (by decide +kernel) rfl rfl (by decide +kernel) rfl rfl (Nat.le_of_ble_eq_true rfl) dX3_9 (fun H locs hP hD hS => ?_)
  have hP : va_P D am_cls [(h0, .inr (3, [.int 0, .int 0, .ref q7, .null, .null, .null, .null])), (q7, ct_ia cI 10)] H := hP
  have hD : va_D A [(h0, .inr (3, [.int 0, .int 0, .ref q7, .null, .null, .null, .null])), (q7, ct_ia cI 10)] := hD
  refine lv_aload_n hx hb dX3_12 rfl (lv_at hl 0 rfl) ?_
  refine lv_bipush (v := 10) hx hb dX3_13 (by decide) ?_
  refine ct_newi (N := 10) hx hb hts hK hP hD hS hA (by decide) (by decide) (Nat.le_of_ble_eq_true rfl) (Nat.le_of_ble_eq_true rfl) (Nat.le_of_ble_eq_true rfl) dX3_15 (fun q15 H hP hD hS => ?_)
  have hP : va_P D am_cls [(h0, .inr (3, [.int 0, .int 0, .ref q7, .null, .null, .null, .null])), (q7, ct_ia cI 10), (q15, ct_ia cI 10)] H := hP
  have hD : va_D A [(h0, .inr (3, [.int 0, .int 0, .ref q7, .null, .null, .null, .null])), (q7, ct_ia cI 10), (q15, ct_ia cI 10)] := hD
  refine W.widen (k := 2) (n := 20) (Nat.le_of_ble_eq_true rfl) (Nat.le_of_ble_eq_true rfl) ?_
  refine ct_put (ci := 3) (q := (RX3, TX3, 7)) (i1 := 101) (ty := .array .int) hx hb hts rfl hown hin hK hP hD hS rfl 3 (by decide) (by decide +kernel) rfl rfl (by decide +kernel) rfl rfl (Nat.le_of_ble_eq_true rfl) dX3_17 (fun H locs hP hD hS => ?_)
  have hP : va_P D am_cls [(h0, .inr (3, [.int 0, .int 0, .ref q7, .ref q15, .null, .null, .null])), (q7, ct_ia cI 10), (q15, ct_ia cI 10)] H := hP
  have hD : va_D A [(h0, .inr (3, [.int 0, .int 0, .ref q7, .ref q15, .null, .null, .null])), (q7, ct_ia cI 10), (q15, ct_ia cI 10)] := hD
  refine lv_aload_n hx hb dX3_20 rfl (lv_at hl 0 rfl) ?_
  refine lv_bipush (v := 10) hx hb dX3_21 (by decide) ?_
  refine ct_newi (N := 10) hx hb hts hK hP hD hS hA (by decide) (by decide) (Nat.le_of_ble_eq_true rfl) (Nat.le_of_ble_eq_true rfl) (Nat.le_of_ble_eq_true rfl) dX3_23 (fun q23 H hP hD hS => ?_)
  have hP : va_P D am_cls [(h0, .inr (3, [.int 0, .int 0, .ref q7, .ref q15, .null, .null, .null])), (q7, ct_ia cI 10), (q15, ct_ia cI 10), (q23, ct_ia cI 10)] H := hP
  have hD : va_D A [(h0, .inr (3, [.int 0, .int 0, .ref q7, .ref q15, .null, .null, .null])), (q7, ct_ia cI 10), (q15, ct_ia cI 10), (q23, ct_ia cI 10)] := hD
  refine W.widen (k := 3) (n := 30) (Nat.le_of_ble_eq_true rfl) (Nat.le_of_ble_eq_true rfl) ?_
  refine ct_put (ci := 3) (q := (RX3, TX3, 7)) (i1 := 104) (ty := .array .int) hx hb hts rfl hown hin hK hP hD hS rfl 4 (by decide) (by decide +kernel) rfl rfl (by decide +kernel) rfl rfl (Nat.le_of_ble_eq_true rfl) dX3_25 (fun H locs hP hD hS => ?_)
  have hP : va_P D am_cls [(h0, .inr (3, [.int 0, .int 0, .ref q7, .ref q15, .ref q23, .null, .null])), (q7, ct_ia cI 10), (q15, ct_ia cI 10), (q23, ct_ia cI 10)] H := hP
  have hD : va_D A [(h0, .inr (3, [.int 0, .int 0, .ref q7, .ref q15, .ref q23, .null, .null])), (q7, ct_ia cI 10), (q15, ct_ia cI 10), (q23, ct_ia cI 10)] := hD
  refine lv_aload_n hx hb dX3_28 rfl (lv_at hl 0 rfl) ?_
  refine lv_bipush (v := 10) hx hb dX3_29 (by decide) ?_
  refine ct_newi (N := 10) hx hb hts hK hP hD hS hA (by decide) (by decide) (Nat.le_of_ble_eq_true rfl) (Nat.le_of_ble_eq_true rfl) (Nat.le_of_ble_eq_true rfl) dX3_31 (fun q31 H hP hD hS => ?_)
  have hP : va_P D am_cls [(h0, .inr (3, [.int 0, .int 0, .ref q7, .ref q15, .ref q23, .null, .null])), (q7, ct_ia cI 10), (q15, ct_ia cI 10), (q23, ct_ia cI 10), (q31, ct_ia cI 10)] H := hP
  have hD : va_D A [(h0, .inr (3, [.int 0, .int 0, .ref q7, .ref q15, .ref q23, .null, .null])), (q7, ct_ia cI 10), (q15, ct_ia cI 10), (q23, ct_ia cI 10), (q31, ct_ia cI 10)] := hD
  refine W.widen (k := 4) (n := 40) (Nat.le_of_ble_eq_true rfl) (Nat.le_of_ble_eq_true rfl) ?_
  refine ct_put (ci := 3) (q := (RX3, TX3, 7)) (i1 := 107) (ty := .array .int) hx hb hts rfl hown hin hK hP hD hS rfl 5 (by decide) (by decide +kernel) rfl rfl (by decide +kernel) rfl rfl (Nat.le_of_ble_eq_true rfl) dX3_33 (fun H locs hP hD hS => ?_)
  have hP : va_P D am_cls [(h0, .inr (3, [.int 0, .int 0, .ref q7, .ref q15, .ref q23, .ref q31, .null])), (q7, ct_ia cI 10), (q15, ct_ia cI 10), (q23, ct_ia cI 10), (q31, ct_ia cI 10)] H := hP
  have hD : va_D A [(h0, .inr (3, [.int 0, .int 0, .ref q7, .ref q15, .ref q23, .ref q31, .null])), (q7, ct_ia cI 10), (q15, ct_ia cI 10), (q23, ct_ia cI 10), (q31, ct_ia cI 10)] := hD
  refine lv_aload_n hx hb dX3_36 rfl (lv_at hl 0 rfl) ?_
  refine lv_bipush (v := 10) hx hb dX3_37 (by decide) ?_
  refine ct_newi (N := 10) hx hb hts hK hP hD hS hA (by decide) (by decide) (Nat.le_of_ble_eq_true rfl) (Nat.le_of_ble_eq_true rfl) (Nat.le_of_ble_eq_true rfl) dX3_39 (fun q39 H hP hD hS => ?_)
  have hP : va_P D am_cls [(h0, .inr (3, [.int 0, .int 0, .ref q7, .ref q15, .ref q23, .ref q31, .null])), (q7, ct_ia cI 10), (q15, ct_ia cI 10), (q23, ct_ia cI 10), (q31, ct_ia cI 10), (q39, ct_ia cI 10)] H := hP
  have hD : va_D A [(h0, .inr (3, [.int 0, .int 0, .ref q7, .ref q15, .ref q23, .ref q31, .null])), (q7, ct_ia cI 10), (q15, ct_ia cI 10), (q23, ct_ia cI 10), (q31, ct_ia cI 10), (q39, ct_ia cI 10)] := hD
  refine W.widen (k := 5) (n := 50) (Nat.le_of_ble_eq_true rfl) (Nat.le_of_ble_eq_true rfl) ?_
  refine ct_put (ci := 3) (q := (RX3, TX3, 7)) (i1 := 110) (ty := .array .int) hx hb hts rfl hown hin hK hP hD hS rfl 6 (by decide) (by decide +kernel) rfl rfl (by decide +kernel) rfl rfl (Nat.le_of_ble_eq_true rfl) dX3_41 (fun H locs hP hD hS => ?_)
  have hP : va_P D am_cls [(h0, .inr (3, [.int 0, .int 0, .ref q7, .ref q15, .ref q23, .ref q31, .ref q39])), (q7, ct_ia cI 10), (q15, ct_ia cI 10), (q23, ct_ia cI 10), (q31, ct_ia cI 10), (q39, ct_ia cI 10)] H := hP
  have hD : va_D A [(h0, .inr (3, [.int 0, .int 0, .ref q7, .ref q15, .ref q23, .ref q31, .ref q39])), (q7, ct_ia cI 10), (q15, ct_ia cI 10), (q23, ct_ia cI 10), (q31, ct_ia cI 10), (q39, ct_ia cI 10)] := hD
  have hP9 := hP.sub (ws' := wX3 cI cZ cB h0 (fun k => ([q7, q15, q23, q31, q39] : List Nat).getD k 0)) [0, 1, 2, 3, 4, 5] rfl
  have hD9 := hD.sub (ws' := wX3 cI cZ cB h0 (fun k => ([q7, q15, q23, q31, q39] : List Nat).getD k 0)) [0, 1, 2, 3, 4, 5] (by decide +kernel) rfl
  exact W.vret hx hb hr (fun t ht hW => ⟨⟨_, rfl, trivial, by rw [ht]; exact hP9, hD9⟩, hS.F ht⟩) hS.2.2 dX3_44
def wX6 (cI cZ cB : ClassId) (h0 : Nat) (u : Nat → Nat) : va_W := [(h0, .inr (6, [.int 0, .int 0, .ref (u 0), .ref (u 1), .ref (u 2), .int 0, .ref (u 3), .ref (u 4), .ref (u 5)])), (u 0, ct_ia cI 8), (u 1, ct_ia cI 8), (u 2, ct_ia cI 8), (u 3, ct_ia cI 20), (u 4, ct_ia cI 20), (u 5, ct_ia cI 20)]
abbrev eX6 : va_E := .inr (6, [.int 0, .int 0, .null, .null, .null, .int 0, .null, .null, .null])
theorem fX6 : ∀ j, j < 9 → defaultValue (tyX6 j) = vp_V [.int 0, .int 0, .null, .null, .null, .int 0, .null, .null, .null] j := fun j hj => match j, hj with
  | 0, _ => rfl
  | 1, _ => rfl
  | 2, _ => rfl
  | 3, _ => rfl
  | 4, _ => rfl
  | 5, _ => rfl
  | 6, _ => rfl
  | 7, _ => rfl
  | 8, _ => rfl
  | n + 9, h => absurd h (by omega)
theorem kX6_code : Jvm.Cond.code yX6_init cX6_init 1 none ∈ am_tbl := am_wat_in (i := 137) (by decide +kernel)
theorem kX6_ini : Jvm.Cond.initialized RX6 ∈ am_tbl := am_wat_in (i := 45) (by decide +kernel)
theorem kX6_inst : Jvm.Cond.instanceMethod yX6_init ∈ am_tbl := am_wat_in (i := 136) (by decide +kernel)
theorem dX6_0 : decode cX6_init 0 = .ok (.aload_n 0, 1) := by decide +kernel
theorem dX6_1 : decode cX6_init 1 = .ok (.invokespecial 3, 3) := by decide +kernel
theorem dX6_4 : decode cX6_init 4 = .ok (.aload_n 0, 1) := by decide +kernel
theorem dX6_5 : decode cX6_init 5 = .ok (.bipush 8, 2) := by decide +kernel
theorem dX6_7 : decode cX6_init 7 = .ok (.newarray .int, 2) := by decide +kernel
theorem dX6_9 : decode cX6_init 9 = .ok (.putfield 9, 3) := by decide +kernel
theorem dX6_12 : decode cX6_init 12 = .ok (.aload_n 0, 1) := by decide +kernel
theorem dX6_13 : decode cX6_init 13 = .ok (.bipush 8, 2) := by decide +kernel
theorem dX6_15 : decode cX6_init 15 = .ok (.newarray .int, 2) := by decide +kernel
theorem dX6_17 : decode cX6_init 17 = .ok (.putfield 15, 3) := by decide +kernel
theorem dX6_20 : decode cX6_init 20 = .ok (.aload_n 0, 1) := by decide +kernel
theorem dX6_21 : decode cX6_init 21 = .ok (.bipush 8, 2) := by decide +kernel
theorem dX6_23 : decode cX6_init 23 = .ok (.newarray .int, 2) := by decide +kernel
theorem dX6_25 : decode cX6_init 25 = .ok (.putfield 18, 3) := by decide +kernel
theorem dX6_28 : decode cX6_init 28 = .ok (.aload_n 0, 1) := by decide +kernel
theorem dX6_29 : decode cX6_init 29 = .ok (.bipush 20, 2) := by decide +kernel
theorem dX6_31 : decode cX6_init 31 = .ok (.newarray .int, 2) := by decide +kernel
theorem dX6_33 : decode cX6_init 33 = .ok (.putfield 21, 3) := by decide +kernel
theorem dX6_36 : decode cX6_init 36 = .ok (.aload_n 0, 1) := by decide +kernel
theorem dX6_37 : decode cX6_init 37 = .ok (.bipush 20, 2) := by decide +kernel
theorem dX6_39 : decode cX6_init 39 = .ok (.newarray .int, 2) := by decide +kernel
theorem dX6_41 : decode cX6_init 41 = .ok (.putfield 24, 3) := by decide +kernel
theorem dX6_44 : decode cX6_init 44 = .ok (.aload_n 0, 1) := by decide +kernel
theorem dX6_45 : decode cX6_init 45 = .ok (.bipush 20, 2) := by decide +kernel
theorem dX6_47 : decode cX6_init 47 = .ok (.newarray .int, 2) := by decide +kernel
theorem dX6_49 : decode cX6_init 49 = .ok (.putfield 27, 3) := by decide +kernel
theorem dX6_52 : decode cX6_init 52 = .ok (.return_, 1) := by decide +kernel
set_option maxHeartbeats 4000000 in
set_option maxRecDepth 100000 in
theorem c_X6 (l : Launch) (D : va_G) (cI cZ cB : ClassId) (h0 sz : Nat) : ct_Met l D cI cZ cB yX6_init cX6_init 1 { frames := 1, cells := 6, slots := 84, locals := 12 } [.ref h0] [(h0, eX6)] (wX6 cI cZ cB h0) 6 84 sz := by
  unfold ct_Met ct_Qm ct_Pm
  refine Met.ofW (cc := cX6_init) (maxL := 1) (ret := none) (by decide) rfl ?_
  intro p e s m args below meth c s₁ B hml hv
  obtain ⟨rfl, hsz, hP, hK, hD0, hN⟩ := hv
  have hx := B.exec
  have hb := B.bytes
  have hr := B.returns
  have hts0 := atoms_spec (ws := ct_wd yX6_init cX6_init 1) B.pre
  have hts : ∀ w ∈ am_tbl, w.before _ s = true := fun w hw => hts0 w (List.mem_cons_of_mem _ hw)
  have hown : s.vm.findClass RX6 = some m.cls := findClass_of_methodNamed B.named
  have hlocks := B.notSynchronized
  have hin : meth.name = "<init>" := (name_of_methodNamed B.named B.method).1
  subst hsz
  have hD := hD0.self (sz := s.heap.size)
  generalize hAe : va_A [(h0, eX6)] s.heap.size = A at hD ⊢
  have hA : ∀ q : Nat, s.heap.size ≤ q → A q := fun q h => by rw [← hAe]; exact Or.inr h
  have hS : va_S A s.heap s.heap [] := va_S.rf
  have hl := lv_entry ([.ref h0]) (n := 1) (Nat.le_of_ble_eq_true rfl)
  rw [lg_entry_eq]
  generalize (lg_sl ([.ref h0]) ++ List.replicate (1 - (lg_sl ([.ref h0])).length) Slot.unset).toArray = ls at hl ⊢
  have hl : lv_has ls 1 [(0, .ref h0)] := hl
  refine lv_aload_n hx hb dX6_0 rfl (lv_at hl 0 rfl) ?_
  refine W.objInit hx hb hown (hts _ (am_wat_in (i := 138) (w := .methodLink RX6 3 objectInit) (by decide +kernel))) (hts _ ct_wOi) (hts _ ct_wO) rfl (by rw [hml]; exact hl.1) rfl dX6_1 (Nat.le_of_ble_eq_true rfl) (Nat.le_of_ble_eq_true rfl) ?_
  refine W.eq (g2 := F0 m 4 ls []) rfl ?_
  refine lv_aload_n hx hb dX6_4 rfl (lv_at hl 0 rfl) ?_
  refine lv_bipush (v := 8) hx hb dX6_5 (by decide) ?_
  refine ct_newi (N := 8) hx hb hts hK hP hD hS hA (by decide) (by decide) (Nat.le_of_ble_eq_true rfl) (Nat.le_of_ble_eq_true rfl) (Nat.le_of_ble_eq_true rfl) dX6_7 (fun q7 H hP hD hS => ?_)
  have hP : va_P D am_cls [(h0, .inr (6, [.int 0, .int 0, .null, .null, .null, .int 0, .null, .null, .null])), (q7, ct_ia cI 8)] H := hP
  have hD : va_D A [(h0, .inr (6, [.int 0, .int 0, .null, .null, .null, .int 0, .null, .null, .null])), (q7, ct_ia cI 8)] := hD
  refine W.widen (k := 1) (n := 8) (Nat.le_of_ble_eq_true rfl) (Nat.le_of_ble_eq_true rfl) ?_
  refine ct_put (ci := 6) (q := (RX6, TX6, 9)) (i1 := 141) (ty := .array .int) hx hb hts rfl hown hin hK hP hD hS rfl 2 (by decide) (by decide +kernel) rfl rfl (by decide +kernel) rfl rfl (Nat.le_of_ble_eq_true rfl) dX6_9 (fun H locs hP hD hS => ?_)
  have hP : va_P D am_cls [(h0, .inr (6, [.int 0, .int 0, .ref q7, .null, .null, .int 0, .null, .null, .null])), (q7, ct_ia cI 8)] H := hP
  have hD : va_D A [(h0, .inr (6, [.int 0, .int 0, .ref q7, .null, .null, .int 0, .null, .null, .null])), (q7, ct_ia cI 8)] := hD
  refine lv_aload_n hx hb dX6_12 rfl (lv_at hl 0 rfl) ?_
  refine lv_bipush (v := 8) hx hb dX6_13 (by decide) ?_
  refine ct_newi (N := 8) hx hb hts hK hP hD hS hA (by decide) (by decide) (Nat.le_of_ble_eq_true rfl) (Nat.le_of_ble_eq_true rfl) (Nat.le_of_ble_eq_true rfl) dX6_15 (fun q15 H hP hD hS => ?_)
  have hP : va_P D am_cls [(h0, .inr (6, [.int 0, .int 0, .ref q7, .null, .null, .int 0, .null, .null, .null])), (q7, ct_ia cI 8), (q15, ct_ia cI 8)] H := hP
  have hD : va_D A [(h0, .inr (6, [.int 0, .int 0, .ref q7, .null, .null, .int 0, .null, .null, .null])), (q7, ct_ia cI 8), (q15, ct_ia cI 8)] := hD
  refine W.widen (k := 2) (n := 16) (Nat.le_of_ble_eq_true rfl) (Nat.le_of_ble_eq_true rfl) ?_
  refine ct_put (ci := 6) (q := (RX6, TX6, 9)) (i1 := 142) (ty := .array .int) hx hb hts rfl hown hin hK hP hD hS rfl 3 (by decide) (by decide +kernel) rfl rfl (by decide +kernel) rfl rfl (Nat.le_of_ble_eq_true rfl) dX6_17 (fun H locs hP hD hS => ?_)
  have hP : va_P D am_cls [(h0, .inr (6, [.int 0, .int 0, .ref q7, .ref q15, .null, .int 0, .null, .null, .null])), (q7, ct_ia cI 8), (q15, ct_ia cI 8)] H := hP
  have hD : va_D A [(h0, .inr (6, [.int 0, .int 0, .ref q7, .ref q15, .null, .int 0, .null, .null, .null])), (q7, ct_ia cI 8), (q15, ct_ia cI 8)] := hD
  refine lv_aload_n hx hb dX6_20 rfl (lv_at hl 0 rfl) ?_
  refine lv_bipush (v := 8) hx hb dX6_21 (by decide) ?_
  refine ct_newi (N := 8) hx hb hts hK hP hD hS hA (by decide) (by decide) (Nat.le_of_ble_eq_true rfl) (Nat.le_of_ble_eq_true rfl) (Nat.le_of_ble_eq_true rfl) dX6_23 (fun q23 H hP hD hS => ?_)
  have hP : va_P D am_cls [(h0, .inr (6, [.int 0, .int 0, .ref q7, .ref q15, .null, .int 0, .null, .null, .null])), (q7, ct_ia cI 8), (q15, ct_ia cI 8), (q23, ct_ia cI 8)] H := hP
  have hD : va_D A [(h0, .inr (6, [.int 0, .int 0, .ref q7, .ref q15, .null, .int 0, .null, .null, .null])), (q7, ct_ia cI 8), (q15, ct_ia cI 8), (q23, ct_ia cI 8)] := hD
  refine W.widen (k := 3) (n := 24) (Nat.le_of_ble_eq_true rfl) (Nat.le_of_ble_eq_true rfl) ?_
  refine ct_put (ci := 6) (q := (RX6, TX6, 9)) (i1 := 143) (ty := .array .int) hx hb hts rfl hown hin hK hP hD hS rfl 4 (by decide) (by decide +kernel) rfl rfl (by decide +kernel) rfl rfl (Nat.le_of_ble_eq_true rfl) dX6_25 (fun H locs hP hD hS => ?_)
  have hP : va_P D am_cls [(h0, .inr (6, [.int 0, .int 0, .ref q7, .ref q15, .ref q23, .int 0, .null, .null, .null])), (q7, ct_ia cI 8), (q15, ct_ia cI 8), (q23, ct_ia cI 8)] H := hP
  have hD : va_D A [(h0, .inr (6, [.int 0, .int 0, .ref q7, .ref q15, .ref q23, .int 0, .null, .null, .null])), (q7, ct_ia cI 8), (q15, ct_ia cI 8), (q23, ct_ia cI 8)] := hD
  refine lv_aload_n hx hb dX6_28 rfl (lv_at hl 0 rfl) ?_
  refine lv_bipush (v := 20) hx hb dX6_29 (by decide) ?_
  refine ct_newi (N := 20) hx hb hts hK hP hD hS hA (by decide) (by decide) (Nat.le_of_ble_eq_true rfl) (Nat.le_of_ble_eq_true rfl) (Nat.le_of_ble_eq_true rfl) dX6_31 (fun q31 H hP hD hS => ?_)
  have hP : va_P D am_cls [(h0, .inr (6, [.int 0, .int 0, .ref q7, .ref q15, .ref q23, .int 0, .null, .null, .null])), (q7, ct_ia cI 8), (q15, ct_ia cI 8), (q23, ct_ia cI 8), (q31, ct_ia cI 20)] H := hP
  have hD : va_D A [(h0, .inr (6, [.int 0, .int 0, .ref q7, .ref q15, .ref q23, .int 0, .null, .null, .null])), (q7, ct_ia cI 8), (q15, ct_ia cI 8), (q23, ct_ia cI 8), (q31, ct_ia cI 20)] := hD
  refine W.widen (k := 4) (n := 44) (Nat.le_of_ble_eq_true rfl) (Nat.le_of_ble_eq_true rfl) ?_
  refine ct_put (ci := 6) (q := (RX6, TX6, 9)) (i1 := 145) (ty := .array .int) hx hb hts rfl hown hin hK hP hD hS rfl 6 (by decide) (by decide +kernel) rfl rfl (by decide +kernel) rfl rfl (Nat.le_of_ble_eq_true rfl) dX6_33 (fun H locs hP hD hS => ?_)
  have hP : va_P D am_cls [(h0, .inr (6, [.int 0, .int 0, .ref q7, .ref q15, .ref q23, .int 0, .ref q31, .null, .null])), (q7, ct_ia cI 8), (q15, ct_ia cI 8), (q23, ct_ia cI 8), (q31, ct_ia cI 20)] H := hP
  have hD : va_D A [(h0, .inr (6, [.int 0, .int 0, .ref q7, .ref q15, .ref q23, .int 0, .ref q31, .null, .null])), (q7, ct_ia cI 8), (q15, ct_ia cI 8), (q23, ct_ia cI 8), (q31, ct_ia cI 20)] := hD
  refine lv_aload_n hx hb dX6_36 rfl (lv_at hl 0 rfl) ?_
  refine lv_bipush (v := 20) hx hb dX6_37 (by decide) ?_
  refine ct_newi (N := 20) hx hb hts hK hP hD hS hA (by decide) (by decide) (Nat.le_of_ble_eq_true rfl) (Nat.le_of_ble_eq_true rfl) (Nat.le_of_ble_eq_true rfl) dX6_39 (fun q39 H hP hD hS => ?_)
  have hP : va_P D am_cls [(h0, .inr (6, [.int 0, .int 0, .ref q7, .ref q15, .ref q23, .int 0, .ref q31, .null, .null])), (q7, ct_ia cI 8), (q15, ct_ia cI 8), (q23, ct_ia cI 8), (q31, ct_ia cI 20), (q39, ct_ia cI 20)] H := hP
  have hD : va_D A [(h0, .inr (6, [.int 0, .int 0, .ref q7, .ref q15, .ref q23, .int 0, .ref q31, .null, .null])), (q7, ct_ia cI 8), (q15, ct_ia cI 8), (q23, ct_ia cI 8), (q31, ct_ia cI 20), (q39, ct_ia cI 20)] := hD
  refine W.widen (k := 5) (n := 64) (Nat.le_of_ble_eq_true rfl) (Nat.le_of_ble_eq_true rfl) ?_
  refine ct_put (ci := 6) (q := (RX6, TX6, 9)) (i1 := 146) (ty := .array .int) hx hb hts rfl hown hin hK hP hD hS rfl 7 (by decide) (by decide +kernel) rfl rfl (by decide +kernel) rfl rfl (Nat.le_of_ble_eq_true rfl) dX6_41 (fun H locs hP hD hS => ?_)
  have hP : va_P D am_cls [(h0, .inr (6, [.int 0, .int 0, .ref q7, .ref q15, .ref q23, .int 0, .ref q31, .ref q39, .null])), (q7, ct_ia cI 8), (q15, ct_ia cI 8), (q23, ct_ia cI 8), (q31, ct_ia cI 20), (q39, ct_ia cI 20)] H := hP
  have hD : va_D A [(h0, .inr (6, [.int 0, .int 0, .ref q7, .ref q15, .ref q23, .int 0, .ref q31, .ref q39, .null])), (q7, ct_ia cI 8), (q15, ct_ia cI 8), (q23, ct_ia cI 8), (q31, ct_ia cI 20), (q39, ct_ia cI 20)] := hD
  refine lv_aload_n hx hb dX6_44 rfl (lv_at hl 0 rfl) ?_
  refine lv_bipush (v := 20) hx hb dX6_45 (by decide) ?_
  refine ct_newi (N := 20) hx hb hts hK hP hD hS hA (by decide) (by decide) (Nat.le_of_ble_eq_true rfl) (Nat.le_of_ble_eq_true rfl) (Nat.le_of_ble_eq_true rfl) dX6_47 (fun q47 H hP hD hS => ?_)
  have hP : va_P D am_cls [(h0, .inr (6, [.int 0, .int 0, .ref q7, .ref q15, .ref q23, .int 0, .ref q31, .ref q39, .null])), (q7, ct_ia cI 8), (q15, ct_ia cI 8), (q23, ct_ia cI 8), (q31, ct_ia cI 20), (q39, ct_ia cI 20), (q47, ct_ia cI 20)] H := hP
  have hD : va_D A [(h0, .inr (6, [.int 0, .int 0, .ref q7, .ref q15, .ref q23, .int 0, .ref q31, .ref q39, .null])), (q7, ct_ia cI 8), (q15, ct_ia cI 8), (q23, ct_ia cI 8), (q31, ct_ia cI 20), (q39, ct_ia cI 20), (q47, ct_ia cI 20)] := hD
  refine W.widen (k := 6) (n := 84) (Nat.le_of_ble_eq_true rfl) (Nat.le_of_ble_eq_true rfl) ?_
  refine ct_put (ci := 6) (q := (RX6, TX6, 9)) (i1 := 147) (ty := .array .int) hx hb hts rfl hown hin hK hP hD hS rfl 8 (by decide) (by decide +kernel) rfl rfl (by decide +kernel) rfl rfl (Nat.le_of_ble_eq_true rfl) dX6_49 (fun H locs hP hD hS => ?_)
  have hP : va_P D am_cls [(h0, .inr (6, [.int 0, .int 0, .ref q7, .ref q15, .ref q23, .int 0, .ref q31, .ref q39, .ref q47])), (q7, ct_ia cI 8), (q15, ct_ia cI 8), (q23, ct_ia cI 8), (q31, ct_ia cI 20), (q39, ct_ia cI 20), (q47, ct_ia cI 20)] H := hP
  have hD : va_D A [(h0, .inr (6, [.int 0, .int 0, .ref q7, .ref q15, .ref q23, .int 0, .ref q31, .ref q39, .ref q47])), (q7, ct_ia cI 8), (q15, ct_ia cI 8), (q23, ct_ia cI 8), (q31, ct_ia cI 20), (q39, ct_ia cI 20), (q47, ct_ia cI 20)] := hD
  have hP9 := hP.sub (ws' := wX6 cI cZ cB h0 (fun k => ([q7, q15, q23, q31, q39, q47] : List Nat).getD k 0)) [0, 1, 2, 3, 4, 5, 6] rfl
  have hD9 := hD.sub (ws' := wX6 cI cZ cB h0 (fun k => ([q7, q15, q23, q31, q39, q47] : List Nat).getD k 0)) [0, 1, 2, 3, 4, 5, 6] (by decide +kernel) rfl
  exact W.vret hx hb hr (fun t ht hW => ⟨⟨_, rfl, trivial, by rw [ht]; exact hP9, hD9⟩, hS.F ht⟩) hS.2.2 dX6_52
def wX4 (cI cZ cB : ClassId) (h0 : Nat) (u : Nat → Nat) : va_W := [(h0, .inr (4, [.int 0, .ref (u 0), .ref (u 1)])), (u 0, ct_ia cI 8), (u 1, ct_ia cI 256)]
abbrev eX4 : va_E := .inr (4, [.int 0, .null, .null])
theorem fX4 : ∀ j, j < 3 → defaultValue (tyX4 j) = vp_V [.int 0, .null, .null] j := fun j hj => match j, hj with
  | 0, _ => rfl
  | 1, _ => rfl
  | 2, _ => rfl
  | n + 3, h => absurd h (by omega)
theorem kX4_code : Jvm.Cond.code yX4_init cX4_init 1 none ∈ am_tbl := am_wat_in (i := 251) (by decide +kernel)
theorem kX4_ini : Jvm.Cond.initialized RX4 ∈ am_tbl := am_wat_in (i := 47) (by decide +kernel)
theorem kX4_inst : Jvm.Cond.instanceMethod yX4_init ∈ am_tbl := am_wat_in (i := 250) (by decide +kernel)
theorem dX4_0 : decode cX4_init 0 = .ok (.aload_n 0, 1) := by decide +kernel
theorem dX4_1 : decode cX4_init 1 = .ok (.invokespecial 3, 3) := by decide +kernel
theorem dX4_4 : decode cX4_init 4 = .ok (.aload_n 0, 1) := by decide +kernel
theorem dX4_5 : decode cX4_init 5 = .ok (.bipush 8, 2) := by decide +kernel
theorem dX4_7 : decode cX4_init 7 = .ok (.newarray .int, 2) := by decide +kernel
theorem dX4_9 : decode cX4_init 9 = .ok (.putfield 9, 3) := by decide +kernel
theorem dX4_12 : decode cX4_init 12 = .ok (.aload_n 0, 1) := by decide +kernel
theorem dX4_13 : decode cX4_init 13 = .ok (.sipush 256, 3) := by decide +kernel
theorem dX4_16 : decode cX4_init 16 = .ok (.newarray .int, 2) := by decide +kernel
theorem dX4_18 : decode cX4_init 18 = .ok (.putfield 15, 3) := by decide +kernel
theorem dX4_21 : decode cX4_init 21 = .ok (.return_, 1) := by decide +kernel
set_option maxHeartbeats 4000000 in
set_option maxRecDepth 100000 in
theorem c_X4 (l : Launch) (D : va_G) (cI cZ cB : ClassId) (h0 sz : Nat) : ct_Met l D cI cZ cB yX4_init cX4_init 1 { frames := 1, cells := 2, slots := 264, locals := 12 } [.ref h0] [(h0, eX4)] (wX4 cI cZ cB h0) 2 264 sz := by
  unfold ct_Met ct_Qm ct_Pm
  refine Met.ofW (cc := cX4_init) (maxL := 1) (ret := none) (by decide) rfl ?_
  intro p e s m args below meth c s₁ B hml hv
  obtain ⟨rfl, hsz, hP, hK, hD0, hN⟩ := hv
  have hx := B.exec
  have hb := B.bytes
  have hr := B.returns
  have hts0 := atoms_spec (ws := ct_wd yX4_init cX4_init 1) B.pre
  have hts : ∀ w ∈ am_tbl, w.before _ s = true := fun w hw => hts0 w (List.mem_cons_of_mem _ hw)
  have hown : s.vm.findClass RX4 = some m.cls := findClass_of_methodNamed B.named
  have hlocks := B.notSynchronized
  have hin : meth.name = "<init>" := (name_of_methodNamed B.named B.method).1
  subst hsz
  have hD := hD0.self (sz := s.heap.size)
  generalize hAe : va_A [(h0, eX4)] s.heap.size = A at hD ⊢
  have hA : ∀ q : Nat, s.heap.size ≤ q → A q := fun q h => by rw [← hAe]; exact Or.inr h
  have hS : va_S A s.heap s.heap [] := va_S.rf
  have hl := lv_entry ([.ref h0]) (n := 1) (Nat.le_of_ble_eq_true rfl)
  rw [lg_entry_eq]
  generalize (lg_sl ([.ref h0]) ++ List.replicate (1 - (lg_sl ([.ref h0])).length) Slot.unset).toArray = ls at hl ⊢
  have hl : lv_has ls 1 [(0, .ref h0)] := hl
  refine lv_aload_n hx hb dX4_0 rfl (lv_at hl 0 rfl) ?_
  refine W.objInit hx hb hown (hts _ (am_wat_in (i := 252) (w := .methodLink RX4 3 objectInit) (by decide +kernel))) (hts _ ct_wOi) (hts _ ct_wO) rfl (by rw [hml]; exact hl.1) rfl dX4_1 (Nat.le_of_ble_eq_true rfl) (Nat.le_of_ble_eq_true rfl) ?_
  refine W.eq (g2 := F0 m 4 ls []) rfl ?_
  refine lv_aload_n hx hb dX4_4 rfl (lv_at hl 0 rfl) ?_
  refine lv_bipush (v := 8) hx hb dX4_5 (by decide) ?_
  refine ct_newi (N := 8) hx hb hts hK hP hD hS hA (by decide) (by decide) (Nat.le_of_ble_eq_true rfl) (Nat.le_of_ble_eq_true rfl) (Nat.le_of_ble_eq_true rfl) dX4_7 (fun q7 H hP hD hS => ?_)
  have hP : va_P D am_cls [(h0, .inr (4, [.int 0, .null, .null])), (q7, ct_ia cI 8)] H := hP
  have hD : va_D A [(h0, .inr (4, [.int 0, .null, .null])), (q7, ct_ia cI 8)] := hD
  refine W.widen (k := 1) (n := 8) (Nat.le_of_ble_eq_true rfl) (Nat.le_of_ble_eq_true rfl) ?_
  refine ct_put (ci := 4) (q := (RX4, TX4, 3)) (i1 := 254) (ty := .array .int) hx hb hts rfl hown hin hK hP hD hS rfl 1 (by decide) (by decide +kernel) rfl rfl (by decide +kernel) rfl rfl (Nat.le_of_ble_eq_true rfl) dX4_9 (fun H locs hP hD hS => ?_)
  have hP : va_P D am_cls [(h0, .inr (4, [.int 0, .ref q7, .null])), (q7, ct_ia cI 8)] H := hP
  have hD : va_D A [(h0, .inr (4, [.int 0, .ref q7, .null])), (q7, ct_ia cI 8)] := hD
  refine lv_aload_n hx hb dX4_12 rfl (lv_at hl 0 rfl) ?_
  refine lv_sipush (v := 256) hx hb dX4_13 (by decide) ?_
  refine ct_newi (N := 256) hx hb hts hK hP hD hS hA (by decide) (by decide) (Nat.le_of_ble_eq_true rfl) (Nat.le_of_ble_eq_true rfl) (Nat.le_of_ble_eq_true rfl) dX4_16 (fun q16 H hP hD hS => ?_)
  have hP : va_P D am_cls [(h0, .inr (4, [.int 0, .ref q7, .null])), (q7, ct_ia cI 8), (q16, ct_ia cI 256)] H := hP
  have hD : va_D A [(h0, .inr (4, [.int 0, .ref q7, .null])), (q7, ct_ia cI 8), (q16, ct_ia cI 256)] := hD
  refine W.widen (k := 2) (n := 264) (Nat.le_of_ble_eq_true rfl) (Nat.le_of_ble_eq_true rfl) ?_
  refine ct_put (ci := 4) (q := (RX4, TX4, 3)) (i1 := 255) (ty := .array .int) hx hb hts rfl hown hin hK hP hD hS rfl 2 (by decide) (by decide +kernel) rfl rfl (by decide +kernel) rfl rfl (Nat.le_of_ble_eq_true rfl) dX4_18 (fun H locs hP hD hS => ?_)
  have hP : va_P D am_cls [(h0, .inr (4, [.int 0, .ref q7, .ref q16])), (q7, ct_ia cI 8), (q16, ct_ia cI 256)] H := hP
  have hD : va_D A [(h0, .inr (4, [.int 0, .ref q7, .ref q16])), (q7, ct_ia cI 8), (q16, ct_ia cI 256)] := hD
  have hP9 := hP.sub (ws' := wX4 cI cZ cB h0 (fun k => ([q7, q16] : List Nat).getD k 0)) [0, 1, 2] rfl
  have hD9 := hD.sub (ws' := wX4 cI cZ cB h0 (fun k => ([q7, q16] : List Nat).getD k 0)) [0, 1, 2] (by decide +kernel) rfl
  exact W.vret hx hb hr (fun t ht hW => ⟨⟨_, rfl, trivial, by rw [ht]; exact hP9, hD9⟩, hS.F ht⟩) hS.2.2 dX4_21
def wX0 (cI cZ cB : ClassId) (h0 : Nat) (u : Nat → Nat) : va_W := [(h0, .inr (0, [.int 0, .ref (u 0)])), (u 0, ct_ia cI 8)]
abbrev eX0 : va_E := .inr (0, [.int 0, .null])
theorem fX0 : ∀ j, j < 2 → defaultValue (tyX0 j) = vp_V [.int 0, .null] j := fun j hj => match j, hj with
  | 0, _ => rfl
  | 1, _ => rfl
  | n + 2, h => absurd h (by omega)
theorem kX0_code : Jvm.Cond.code yX0_init cX0_init 1 none ∈ am_tbl := am_wat_in (i := 268) (by decide +kernel)
theorem kX0_ini : Jvm.Cond.initialized RX0 ∈ am_tbl := am_wat_in (i := 48) (by decide +kernel)
theorem kX0_inst : Jvm.Cond.instanceMethod yX0_init ∈ am_tbl := am_wat_in (i := 267) (by decide +kernel)
theorem dX0_0 : decode cX0_init 0 = .ok (.aload_n 0, 1) := by decide +kernel
theorem dX0_1 : decode cX0_init 1 = .ok (.invokespecial 3, 3) := by decide +kernel
theorem dX0_4 : decode cX0_init 4 = .ok (.aload_n 0, 1) := by decide +kernel
theorem dX0_5 : decode cX0_init 5 = .ok (.bipush 8, 2) := by decide +kernel
theorem dX0_7 : decode cX0_init 7 = .ok (.newarray .int, 2) := by decide +kernel
theorem dX0_9 : decode cX0_init 9 = .ok (.putfield 9, 3) := by decide +kernel
theorem dX0_12 : decode cX0_init 12 = .ok (.return_, 1) := by decide +kernel
set_option maxHeartbeats 4000000 in
set_option maxRecDepth 100000 in
theorem c_X0 (l : Launch) (D : va_G) (cI cZ cB : ClassId) (h0 sz : Nat) : ct_Met l D cI cZ cB yX0_init cX0_init 1 { frames := 1, cells := 1, slots := 8, locals := 12 } [.ref h0] [(h0, eX0)] (wX0 cI cZ cB h0) 1 8 sz := by
  unfold ct_Met ct_Qm ct_Pm
  refine Met.ofW (cc := cX0_init) (maxL := 1) (ret := none) (by decide) rfl ?_
  intro p e s m args below meth c s₁ B hml hv
  obtain ⟨rfl, hsz, hP, hK, hD0, hN⟩ := hv
  have hx := B.exec
  have hb := B.bytes
  have hr := B.returns
  have hts0 := atoms_spec (ws := ct_wd yX0_init cX0_init 1) B.pre
  have hts : ∀ w ∈ am_tbl, w.before _ s = true := fun w hw => hts0 w (List.mem_cons_of_mem _ hw)
  have hown : s.vm.findClass RX0 = some m.cls := findClass_of_methodNamed B.named
  have hlocks := B.notSynchronized
  have hin : meth.name = "<init>" := (name_of_methodNamed B.named B.method).1
  subst hsz
  have hD := hD0.self (sz := s.heap.size)
  generalize hAe : va_A [(h0, eX0)] s.heap.size = A at hD ⊢
  have hA : ∀ q : Nat, s.heap.size ≤ q → A q := fun q h => by rw [← hAe]; exact Or.inr h
  have hS : va_S A s.heap s.heap [] := va_S.rf
  have hl := lv_entry ([.ref h0]) (n := 1) (Nat.le_of_ble_eq_true rfl)
  rw [lg_entry_eq]
  generalize (lg_sl ([.ref h0]) ++ List.replicate (1 - (lg_sl ([.ref h0])).length) Slot.unset).toArray = ls at hl ⊢
  have hl : lv_has ls 1 [(0, .ref h0)] := hl
  refine lv_aload_n hx hb dX0_0 rfl (lv_at hl 0 rfl) ?_
  refine W.objInit hx hb hown (hts _ (am_wat_in (i := 269) (w := .methodLink RX0 3 objectInit) (by decide +kernel))) (hts _ ct_wOi) (hts _ ct_wO) rfl (by rw [hml]; exact hl.1) rfl dX0_1 (Nat.le_of_ble_eq_true rfl) (Nat.le_of_ble_eq_true rfl) ?_
  refine W.eq (g2 := F0 m 4 ls []) rfl ?_
  refine lv_aload_n hx hb dX0_4 rfl (lv_at hl 0 rfl) ?_
  refine lv_bipush (v := 8) hx hb dX0_5 (by decide) ?_
  refine ct_newi (N := 8) hx hb hts hK hP hD hS hA (by decide) (by decide) (Nat.le_of_ble_eq_true rfl) (Nat.le_of_ble_eq_true rfl) (Nat.le_of_ble_eq_true rfl) dX0_7 (fun q7 H hP hD hS => ?_)
  have hP : va_P D am_cls [(h0, .inr (0, [.int 0, .null])), (q7, ct_ia cI 8)] H := hP
  have hD : va_D A [(h0, .inr (0, [.int 0, .null])), (q7, ct_ia cI 8)] := hD
  refine W.widen (k := 1) (n := 8) (Nat.le_of_ble_eq_true rfl) (Nat.le_of_ble_eq_true rfl) ?_
  refine ct_put (ci := 0) (q := (RX0, TX0, 2)) (i1 := 272) (ty := .array .int) hx hb hts rfl hown hin hK hP hD hS rfl 1 (by decide) (by decide +kernel) rfl rfl (by decide +kernel) rfl rfl (Nat.le_of_ble_eq_true rfl) dX0_9 (fun H locs hP hD hS => ?_)
  have hP : va_P D am_cls [(h0, .inr (0, [.int 0, .ref q7])), (q7, ct_ia cI 8)] H := hP
  have hD : va_D A [(h0, .inr (0, [.int 0, .ref q7])), (q7, ct_ia cI 8)] := hD
  have hP9 := hP.sub (ws' := wX0 cI cZ cB h0 (fun k => ([q7] : List Nat).getD k 0)) [0, 1] rfl
  have hD9 := hD.sub (ws' := wX0 cI cZ cB h0 (fun k => ([q7] : List Nat).getD k 0)) [0, 1] (by decide +kernel) rfl
  exact W.vret hx hb hr (fun t ht hW => ⟨⟨_, rfl, trivial, by rw [ht]; exact hP9, hD9⟩, hS.F ht⟩) hS.2.2 dX0_12
def wX1 (cI cZ cB : ClassId) (h0 a1 a2 : Nat) (u : Nat → Nat) : va_W := [(h0, .inr (1, [.int 0, .ref a1, .ref a2, .ref (u 1), .ref (u 0), .int 0, .int 0, .int 0, .int 0])), (u 0, ct_ia cI 8), (u 1, .inr (6, [.int 0, .int 0, .ref (u 2), .ref (u 3), .ref (u 4), .int 0, .ref (u 5), .ref (u 6), .ref (u 7)])), (u 2, ct_ia cI 8), (u 3, ct_ia cI 8), (u 4, ct_ia cI 8), (u 5, ct_ia cI 20), (u 6, ct_ia cI 20), (u 7, ct_ia cI 20)]
abbrev eX1 : va_E := .inr (1, [.int 0, .null, .null, .null, .null, .int 0, .int 0, .int 0, .int 0])
theorem fX1 : ∀ j, j < 9 → defaultValue (tyX1 j) = vp_V [.int 0, .null, .null, .null, .null, .int 0, .int 0, .int 0, .int 0] j := fun j hj => match j, hj with
  | 0, _ => rfl
  | 1, _ => rfl
  | 2, _ => rfl
  | 3, _ => rfl
  | 4, _ => rfl
  | 5, _ => rfl
  | 6, _ => rfl
  | 7, _ => rfl
  | 8, _ => rfl
  | n + 9, h => absurd h (by omega)
theorem kX1_code : Jvm.Cond.code yX1_init cX1_init 3 none ∈ am_tbl := am_wat_in (i := 214) (by decide +kernel)
theorem kX1_ini : Jvm.Cond.initialized RX1 ∈ am_tbl := am_wat_in (i := 46) (by decide +kernel)
theorem kX1_inst : Jvm.Cond.instanceMethod yX1_init ∈ am_tbl := am_wat_in (i := 213) (by decide +kernel)
theorem dX1_0 : decode cX1_init 0 = .ok (.aload_n 0, 1) := by decide +kernel
theorem dX1_1 : decode cX1_init 1 = .ok (.invokespecial 3, 3) := by decide +kernel
theorem dX1_4 : decode cX1_init 4 = .ok (.aload_n 0, 1) := by decide +kernel
theorem dX1_5 : decode cX1_init 5 = .ok (.new 9, 3) := by decide +kernel
theorem dX1_8 : decode cX1_init 8 = .ok (.dup, 1) := by decide +kernel
theorem dX1_9 : decode cX1_init 9 = .ok (.invokespecial 11, 3) := by decide +kernel
theorem dX1_12 : decode cX1_init 12 = .ok (.putfield 12, 3) := by decide +kernel
theorem dX1_15 : decode cX1_init 15 = .ok (.aload_n 0, 1) := by decide +kernel
theorem dX1_16 : decode cX1_init 16 = .ok (.bipush 8, 2) := by decide +kernel
theorem dX1_18 : decode cX1_init 18 = .ok (.newarray .int, 2) := by decide +kernel
theorem dX1_20 : decode cX1_init 20 = .ok (.putfield 18, 3) := by decide +kernel
theorem dX1_23 : decode cX1_init 23 = .ok (.aload_n 0, 1) := by decide +kernel
theorem dX1_24 : decode cX1_init 24 = .ok (.aload_n 1, 1) := by decide +kernel
theorem dX1_25 : decode cX1_init 25 = .ok (.putfield 22, 3) := by decide +kernel
theorem dX1_28 : decode cX1_init 28 = .ok (.aload_n 0, 1) := by decide +kernel
theorem dX1_29 : decode cX1_init 29 = .ok (.aload_n 2, 1) := by decide +kernel
theorem dX1_30 : decode cX1_init 30 = .ok (.putfield 26, 3) := by decide +kernel
theorem dX1_33 : decode cX1_init 33 = .ok (.return_, 1) := by decide +kernel
set_option maxHeartbeats 4000000 in
set_option maxRecDepth 100000 in
theorem c_X1 (l : Launch) (D : va_G) (cI cZ cB : ClassId) (h0 a1 a2 sz : Nat) : ct_Met l D cI cZ cB yX1_init cX1_init 3 { frames := 2, cells := 8, slots := 101, locals := 32 } [.ref h0, .ref a1, .ref a2] [(h0, eX1)] (wX1 cI cZ cB h0 a1 a2) 8 101 sz := by
  unfold ct_Met ct_Qm ct_Pm
  refine Met.ofW (cc := cX1_init) (maxL := 3) (ret := none) (by decide) rfl ?_
  intro p e s m args below meth c s₁ B hml hv
  obtain ⟨rfl, hsz, hP, hK, hD0, hN⟩ := hv
  have hx := B.exec
  have hb := B.bytes
  have hr := B.returns
  have hts0 := atoms_spec (ws := ct_wd yX1_init cX1_init 3) B.pre
  have hts : ∀ w ∈ am_tbl, w.before _ s = true := fun w hw => hts0 w (List.mem_cons_of_mem _ hw)
  have hown : s.vm.findClass RX1 = some m.cls := findClass_of_methodNamed B.named
  have hlocks := B.notSynchronized
  have hin : meth.name = "<init>" := (name_of_methodNamed B.named B.method).1
  subst hsz
  have hD := hD0.self (sz := s.heap.size)
  generalize hAe : va_A [(h0, eX1)] s.heap.size = A at hD ⊢
  have hA : ∀ q : Nat, s.heap.size ≤ q → A q := fun q h => by rw [← hAe]; exact Or.inr h
  have hS : va_S A s.heap s.heap [] := va_S.rf
  have hl := lv_entry ([.ref h0, .ref a1, .ref a2]) (n := 3) (Nat.le_of_ble_eq_true rfl)
  rw [lg_entry_eq]
  generalize (lg_sl ([.ref h0, .ref a1, .ref a2]) ++ List.replicate (3 - (lg_sl ([.ref h0, .ref a1, .ref a2])).length) Slot.unset).toArray = ls at hl ⊢
  have hl : lv_has ls 3 [(0, .ref h0), (1, .ref a1), (2, .ref a2)] := hl
  refine lv_aload_n hx hb dX1_0 rfl (lv_at hl 0 rfl) ?_
  refine W.objInit hx hb hown (hts _ (am_wat_in (i := 215) (w := .methodLink RX1 3 objectInit) (by decide +kernel))) (hts _ ct_wOi) (hts _ ct_wO) rfl (by rw [hml]; exact hl.1) rfl dX1_1 (Nat.le_of_ble_eq_true rfl) (Nat.le_of_ble_eq_true rfl) ?_
  refine W.eq (g2 := F0 m 4 ls []) rfl ?_
  refine lv_aload_n hx hb dX1_4 rfl (lv_at hl 0 rfl) ?_
  refine ct_new (ci := 6) (q := (RX6, TX6, 9)) (i1 := 216) (i2 := 134) (i3 := 45) (fs := [.int 0, .int 0, .null, .null, .null, .int 0, .null, .null, .null]) hx hb hts rfl hown (by decide +kernel) (by decide +kernel) (by decide +kernel) hK hP hD hS hA tyX6 tyX6_ok fX6 (Nat.le_of_ble_eq_true rfl) (Nat.le_of_ble_eq_true rfl) dX1_5 (fun b5 H hP hD hS => ?_)
  have hP : va_P D am_cls ([(h0, .inr (1, [.int 0, .null, .null, .null, .null, .int 0, .int 0, .int 0, .int 0]))] ++ [(b5, eX6)]) H := hP
  have hD : va_D A ([(h0, .inr (1, [.int 0, .null, .null, .null, .null, .int 0, .int 0, .int 0, .int 0]))] ++ [(b5, eX6)]) := hD
  refine W.widen (k := 1) (n := 9) (Nat.le_of_ble_eq_true rfl) (Nat.le_of_ble_eq_true rfl) ?_
  refine lv_dup hx hb dX1_8 rfl ?_
  refine ct_call (wr := [(h0, .inr (1, [.int 0, .null, .null, .null, .null, .int 0, .int 0, .int 0, .int 0]))]) (b := b5) (E := eX6) (wf := wX6 cI cZ cB b5) (va_runIN (As := []) (rest := [.ref b5, .ref h0]) ⟨hx, hb, hml, hown, hts⟩ (c_X6 l D cI cZ cB b5 H.size) ⟨va_cnB 0 hts (ct_gd kX6_code) rfl rfl rfl hN.2.1.1 (hts _ kX6_ini) (by decide +kernel) ⟨(Nat.le_of_ble_eq_true rfl), (Nat.le_of_ble_eq_true rfl)⟩, rfl, hts _ kX6_inst⟩ (ct_PreS hN hK (ct_lP hP) (ct_lD hD) [.ref b5]) rfl rfl hl.1 rfl (lv_room (Nat.le_of_ble_eq_true rfl)) dX1_9 ⟨(Nat.le_of_ble_eq_true rfl), (Nat.le_of_ble_eq_true rfl)⟩) hP hD hS hA (fun u9 H locs hP hD hS => ?_)
  have hP : va_P D am_cls ([(h0, .inr (1, [.int 0, .null, .null, .null, .null, .int 0, .int 0, .int 0, .int 0]))] ++ wX6 cI cZ cB b5 u9) H := hP
  have hD : va_D A ([(h0, .inr (1, [.int 0, .null, .null, .null, .null, .int 0, .int 0, .int 0, .int 0]))] ++ wX6 cI cZ cB b5 u9) := hD
  refine W.widen (k := 7) (n := 93) (Nat.le_of_ble_eq_true rfl) (Nat.le_of_ble_eq_true rfl) ?_
  refine ct_put (ci := 1) (q := (RX1, TX1, 9)) (i1 := 222) (ty := .object "LetterDays$Web") hx hb hts rfl hown hin hK hP hD hS rfl 3 (by decide) (by decide +kernel) rfl rfl (by decide +kernel) rfl rfl (Nat.le_of_ble_eq_true rfl) dX1_12 (fun H locs hP hD hS => ?_)
  have hP : va_P D am_cls ([(h0, .inr (1, [.int 0, .null, .null, .ref b5, .null, .int 0, .int 0, .int 0, .int 0]))] ++ wX6 cI cZ cB b5 u9) H := hP
  have hD : va_D A ([(h0, .inr (1, [.int 0, .null, .null, .ref b5, .null, .int 0, .int 0, .int 0, .int 0]))] ++ wX6 cI cZ cB b5 u9) := hD
  refine lv_aload_n hx hb dX1_15 rfl (lv_at hl 0 rfl) ?_
  refine lv_bipush (v := 8) hx hb dX1_16 (by decide) ?_
  refine ct_newi (N := 8) hx hb hts hK hP hD hS hA (by decide) (by decide) (Nat.le_of_ble_eq_true rfl) (Nat.le_of_ble_eq_true rfl) (Nat.le_of_ble_eq_true rfl) dX1_18 (fun q18 H hP hD hS => ?_)
  have hP : va_P D am_cls (([(h0, .inr (1, [.int 0, .null, .null, .ref b5, .null, .int 0, .int 0, .int 0, .int 0]))] ++ wX6 cI cZ cB b5 u9) ++ [(q18, ct_ia cI 8)]) H := hP
  have hD : va_D A (([(h0, .inr (1, [.int 0, .null, .null, .ref b5, .null, .int 0, .int 0, .int 0, .int 0]))] ++ wX6 cI cZ cB b5 u9) ++ [(q18, ct_ia cI 8)]) := hD
  refine W.widen (k := 8) (n := 101) (Nat.le_of_ble_eq_true rfl) (Nat.le_of_ble_eq_true rfl) ?_
  refine ct_put (ci := 1) (q := (RX1, TX1, 9)) (i1 := 223) (ty := .array .int) hx hb hts rfl hown hin hK hP hD hS rfl 4 (by decide) (by decide +kernel) rfl rfl (by decide +kernel) rfl rfl (Nat.le_of_ble_eq_true rfl) dX1_20 (fun H locs hP hD hS => ?_)
  have hP : va_P D am_cls (([(h0, .inr (1, [.int 0, .null, .null, .ref b5, .ref q18, .int 0, .int 0, .int 0, .int 0]))] ++ wX6 cI cZ cB b5 u9) ++ [(q18, ct_ia cI 8)]) H := hP
  have hD : va_D A (([(h0, .inr (1, [.int 0, .null, .null, .ref b5, .ref q18, .int 0, .int 0, .int 0, .int 0]))] ++ wX6 cI cZ cB b5 u9) ++ [(q18, ct_ia cI 8)]) := hD
  refine lv_aload_n hx hb dX1_23 rfl (lv_at hl 0 rfl) ?_
  refine lv_aload_n hx hb dX1_24 rfl (lv_at hl 1 rfl) ?_
  refine ct_put (ci := 1) (q := (RX1, TX1, 9)) (i1 := 220) (ty := .object "LetterDays$Letters") hx hb hts rfl hown hin hK hP hD hS rfl 1 (by decide) (by decide +kernel) rfl rfl (by decide +kernel) rfl rfl (Nat.le_of_ble_eq_true rfl) dX1_25 (fun H locs hP hD hS => ?_)
  have hP : va_P D am_cls (([(h0, .inr (1, [.int 0, .ref a1, .null, .ref b5, .ref q18, .int 0, .int 0, .int 0, .int 0]))] ++ wX6 cI cZ cB b5 u9) ++ [(q18, ct_ia cI 8)]) H := hP
  have hD : va_D A (([(h0, .inr (1, [.int 0, .ref a1, .null, .ref b5, .ref q18, .int 0, .int 0, .int 0, .int 0]))] ++ wX6 cI cZ cB b5 u9) ++ [(q18, ct_ia cI 8)]) := hD
  refine lv_aload_n hx hb dX1_28 rfl (lv_at hl 0 rfl) ?_
  refine lv_aload_n hx hb dX1_29 rfl (lv_at hl 2 rfl) ?_
  refine ct_put (ci := 1) (q := (RX1, TX1, 9)) (i1 := 221) (ty := .object "LetterDays$Notes") hx hb hts rfl hown hin hK hP hD hS rfl 2 (by decide) (by decide +kernel) rfl rfl (by decide +kernel) rfl rfl (Nat.le_of_ble_eq_true rfl) dX1_30 (fun H locs hP hD hS => ?_)
  have hP : va_P D am_cls (([(h0, .inr (1, [.int 0, .ref a1, .ref a2, .ref b5, .ref q18, .int 0, .int 0, .int 0, .int 0]))] ++ wX6 cI cZ cB b5 u9) ++ [(q18, ct_ia cI 8)]) H := hP
  have hD : va_D A (([(h0, .inr (1, [.int 0, .ref a1, .ref a2, .ref b5, .ref q18, .int 0, .int 0, .int 0, .int 0]))] ++ wX6 cI cZ cB b5 u9) ++ [(q18, ct_ia cI 8)]) := hD
  have hP9 := hP.sub (ws' := wX1 cI cZ cB h0 a1 a2 (fun k => ([q18, b5, (u9 0), (u9 1), (u9 2), (u9 3), (u9 4), (u9 5)] : List Nat).getD k 0)) [0, 8, 1, 2, 3, 4, 5, 6, 7] rfl
  have hD9 := hD.sub (ws' := wX1 cI cZ cB h0 a1 a2 (fun k => ([q18, b5, (u9 0), (u9 1), (u9 2), (u9 3), (u9 4), (u9 5)] : List Nat).getD k 0)) [0, 8, 1, 2, 3, 4, 5, 6, 7] (by decide +kernel) rfl
  exact W.vret hx hb hr (fun t ht hW => ⟨⟨_, rfl, trivial, by rw [ht]; exact hP9, hD9⟩, hS.F ht⟩) hS.2.2 dX1_33
def wX5 (cI cZ cB : ClassId) (h0 a1 a2 : Nat) (u : Nat → Nat) : va_W := [(h0, .inr (5, [.int 0, .ref (u 0), .ref (u 1), .ref a1, .ref a2, .ref (u 7), .int 0, .int 0, .ref (u 2), .ref (u 3), .ref (u 4), .ref (u 5), .ref (u 6)])), (u 0, ct_ia cI 8), (u 1, ct_ia cI 8), (u 2, ct_ia cI 8), (u 3, ct_ia cI 1600), (u 4, ct_ia cI 8), (u 5, ct_ia cI 64), (u 6, ct_ia cI 8), (u 7, .inr (6, [.int 0, .int 0, .ref (u 8), .ref (u 9), .ref (u 10), .int 0, .ref (u 11), .ref (u 12), .ref (u 13)])), (u 8, ct_ia cI 8), (u 9, ct_ia cI 8), (u 10, ct_ia cI 8), (u 11, ct_ia cI 20), (u 12, ct_ia cI 20), (u 13, ct_ia cI 20)]
abbrev eX5 : va_E := .inr (5, [.int 0, .null, .null, .null, .null, .null, .int 0, .int 0, .null, .null, .null, .null, .null])
theorem fX5 : ∀ j, j < 13 → defaultValue (tyX5 j) = vp_V [.int 0, .null, .null, .null, .null, .null, .int 0, .int 0, .null, .null, .null, .null, .null] j := fun j hj => match j, hj with
  | 0, _ => rfl
  | 1, _ => rfl
  | 2, _ => rfl
  | 3, _ => rfl
  | 4, _ => rfl
  | 5, _ => rfl
  | 6, _ => rfl
  | 7, _ => rfl
  | 8, _ => rfl
  | 9, _ => rfl
  | 10, _ => rfl
  | 11, _ => rfl
  | 12, _ => rfl
  | n + 13, h => absurd h (by omega)
theorem kX5_code : Jvm.Cond.code yX5_init cX5_init 3 none ∈ am_tbl := am_wat_in (i := 131) (by decide +kernel)
theorem kX5_ini : Jvm.Cond.initialized RX5 ∈ am_tbl := am_wat_in (i := 44) (by decide +kernel)
theorem kX5_inst : Jvm.Cond.instanceMethod yX5_init ∈ am_tbl := am_wat_in (i := 130) (by decide +kernel)
theorem dX5_0 : decode cX5_init 0 = .ok (.aload_n 0, 1) := by decide +kernel
theorem dX5_1 : decode cX5_init 1 = .ok (.invokespecial 3, 3) := by decide +kernel
theorem dX5_4 : decode cX5_init 4 = .ok (.aload_n 0, 1) := by decide +kernel
theorem dX5_5 : decode cX5_init 5 = .ok (.bipush 8, 2) := by decide +kernel
theorem dX5_7 : decode cX5_init 7 = .ok (.newarray .int, 2) := by decide +kernel
theorem dX5_9 : decode cX5_init 9 = .ok (.putfield 9, 3) := by decide +kernel
theorem dX5_12 : decode cX5_init 12 = .ok (.aload_n 0, 1) := by decide +kernel
theorem dX5_13 : decode cX5_init 13 = .ok (.bipush 8, 2) := by decide +kernel
theorem dX5_15 : decode cX5_init 15 = .ok (.newarray .int, 2) := by decide +kernel
theorem dX5_17 : decode cX5_init 17 = .ok (.putfield 15, 3) := by decide +kernel
theorem dX5_20 : decode cX5_init 20 = .ok (.aload_n 0, 1) := by decide +kernel
theorem dX5_21 : decode cX5_init 21 = .ok (.new 18, 3) := by decide +kernel
theorem dX5_24 : decode cX5_init 24 = .ok (.dup, 1) := by decide +kernel
theorem dX5_25 : decode cX5_init 25 = .ok (.invokespecial 20, 3) := by decide +kernel
theorem dX5_28 : decode cX5_init 28 = .ok (.putfield 21, 3) := by decide +kernel
theorem dX5_31 : decode cX5_init 31 = .ok (.aload_n 0, 1) := by decide +kernel
theorem dX5_32 : decode cX5_init 32 = .ok (.bipush 8, 2) := by decide +kernel
theorem dX5_34 : decode cX5_init 34 = .ok (.newarray .int, 2) := by decide +kernel
theorem dX5_36 : decode cX5_init 36 = .ok (.putfield 25, 3) := by decide +kernel
theorem dX5_39 : decode cX5_init 39 = .ok (.aload_n 0, 1) := by decide +kernel
theorem dX5_40 : decode cX5_init 40 = .ok (.sipush 1600, 3) := by decide +kernel
theorem dX5_43 : decode cX5_init 43 = .ok (.newarray .int, 2) := by decide +kernel
theorem dX5_45 : decode cX5_init 45 = .ok (.putfield 28, 3) := by decide +kernel
theorem dX5_48 : decode cX5_init 48 = .ok (.aload_n 0, 1) := by decide +kernel
theorem dX5_49 : decode cX5_init 49 = .ok (.bipush 8, 2) := by decide +kernel
theorem dX5_51 : decode cX5_init 51 = .ok (.newarray .int, 2) := by decide +kernel
theorem dX5_53 : decode cX5_init 53 = .ok (.putfield 31, 3) := by decide +kernel
theorem dX5_56 : decode cX5_init 56 = .ok (.aload_n 0, 1) := by decide +kernel
theorem dX5_57 : decode cX5_init 57 = .ok (.bipush 64, 2) := by decide +kernel
theorem dX5_59 : decode cX5_init 59 = .ok (.newarray .int, 2) := by decide +kernel
theorem dX5_61 : decode cX5_init 61 = .ok (.putfield 34, 3) := by decide +kernel
theorem dX5_64 : decode cX5_init 64 = .ok (.aload_n 0, 1) := by decide +kernel
theorem dX5_65 : decode cX5_init 65 = .ok (.bipush 8, 2) := by decide +kernel
theorem dX5_67 : decode cX5_init 67 = .ok (.newarray .int, 2) := by decide +kernel
theorem dX5_69 : decode cX5_init 69 = .ok (.putfield 37, 3) := by decide +kernel
theorem dX5_72 : decode cX5_init 72 = .ok (.aload_n 0, 1) := by decide +kernel
theorem dX5_73 : decode cX5_init 73 = .ok (.aload_n 1, 1) := by decide +kernel
theorem dX5_74 : decode cX5_init 74 = .ok (.putfield 40, 3) := by decide +kernel
theorem dX5_77 : decode cX5_init 77 = .ok (.aload_n 0, 1) := by decide +kernel
theorem dX5_78 : decode cX5_init 78 = .ok (.aload_n 2, 1) := by decide +kernel
theorem dX5_79 : decode cX5_init 79 = .ok (.putfield 44, 3) := by decide +kernel
theorem dX5_82 : decode cX5_init 82 = .ok (.return_, 1) := by decide +kernel
set_option maxHeartbeats 4000000 in
set_option maxRecDepth 100000 in
theorem c_X5 (l : Launch) (D : va_G) (cI cZ cB : ClassId) (h0 a1 a2 sz : Nat) : ct_Met l D cI cZ cB yX5_init cX5_init 3 { frames := 2, cells := 14, slots := 1797, locals := 32 } [.ref h0, .ref a1, .ref a2] [(h0, eX5)] (wX5 cI cZ cB h0 a1 a2) 14 1797 sz := by
  unfold ct_Met ct_Qm ct_Pm
  refine Met.ofW (cc := cX5_init) (maxL := 3) (ret := none) (by decide) rfl ?_
  intro p e s m args below meth c s₁ B hml hv
  obtain ⟨rfl, hsz, hP, hK, hD0, hN⟩ := hv
  have hx := B.exec
  have hb := B.bytes
  have hr := B.returns
  have hts0 := atoms_spec (ws := ct_wd yX5_init cX5_init 3) B.pre
  have hts : ∀ w ∈ am_tbl, w.before _ s = true := fun w hw => hts0 w (List.mem_cons_of_mem _ hw)
  have hown : s.vm.findClass RX5 = some m.cls := findClass_of_methodNamed B.named
  have hlocks := B.notSynchronized
  have hin : meth.name = "<init>" := (name_of_methodNamed B.named B.method).1
  subst hsz
  have hD := hD0.self (sz := s.heap.size)
  generalize hAe : va_A [(h0, eX5)] s.heap.size = A at hD ⊢
  have hA : ∀ q : Nat, s.heap.size ≤ q → A q := fun q h => by rw [← hAe]; exact Or.inr h
  have hS : va_S A s.heap s.heap [] := va_S.rf
  have hl := lv_entry ([.ref h0, .ref a1, .ref a2]) (n := 3) (Nat.le_of_ble_eq_true rfl)
  rw [lg_entry_eq]
  generalize (lg_sl ([.ref h0, .ref a1, .ref a2]) ++ List.replicate (3 - (lg_sl ([.ref h0, .ref a1, .ref a2])).length) Slot.unset).toArray = ls at hl ⊢
  have hl : lv_has ls 3 [(0, .ref h0), (1, .ref a1), (2, .ref a2)] := hl
  refine lv_aload_n hx hb dX5_0 rfl (lv_at hl 0 rfl) ?_
  refine W.objInit hx hb hown (hts _ (am_wat_in (i := 132) (w := .methodLink RX5 3 objectInit) (by decide +kernel))) (hts _ ct_wOi) (hts _ ct_wO) rfl (by rw [hml]; exact hl.1) rfl dX5_1 (Nat.le_of_ble_eq_true rfl) (Nat.le_of_ble_eq_true rfl) ?_
  refine W.eq (g2 := F0 m 4 ls []) rfl ?_
  refine lv_aload_n hx hb dX5_4 rfl (lv_at hl 0 rfl) ?_
  refine lv_bipush (v := 8) hx hb dX5_5 (by decide) ?_
  refine ct_newi (N := 8) hx hb hts hK hP hD hS hA (by decide) (by decide) (Nat.le_of_ble_eq_true rfl) (Nat.le_of_ble_eq_true rfl) (Nat.le_of_ble_eq_true rfl) dX5_7 (fun q7 H hP hD hS => ?_)
  have hP : va_P D am_cls ([(h0, .inr (5, [.int 0, .null, .null, .null, .null, .null, .int 0, .int 0, .null, .null, .null, .null, .null]))] ++ [(q7, ct_ia cI 8)]) H := hP
  have hD : va_D A ([(h0, .inr (5, [.int 0, .null, .null, .null, .null, .null, .int 0, .int 0, .null, .null, .null, .null, .null]))] ++ [(q7, ct_ia cI 8)]) := hD
  refine W.widen (k := 1) (n := 8) (Nat.le_of_ble_eq_true rfl) (Nat.le_of_ble_eq_true rfl) ?_
  refine ct_put (ci := 5) (q := (RX5, TX5, 13)) (i1 := 169) (ty := .array .int) hx hb hts rfl hown hin hK hP hD hS rfl 1 (by decide) (by decide +kernel) rfl rfl (by decide +kernel) rfl rfl (Nat.le_of_ble_eq_true rfl) dX5_9 (fun H locs hP hD hS => ?_)
  have hP : va_P D am_cls ([(h0, .inr (5, [.int 0, .ref q7, .null, .null, .null, .null, .int 0, .int 0, .null, .null, .null, .null, .null]))] ++ [(q7, ct_ia cI 8)]) H := hP
  have hD : va_D A ([(h0, .inr (5, [.int 0, .ref q7, .null, .null, .null, .null, .int 0, .int 0, .null, .null, .null, .null, .null]))] ++ [(q7, ct_ia cI 8)]) := hD
  refine lv_aload_n hx hb dX5_12 rfl (lv_at hl 0 rfl) ?_
  refine lv_bipush (v := 8) hx hb dX5_13 (by decide) ?_
  refine ct_newi (N := 8) hx hb hts hK hP hD hS hA (by decide) (by decide) (Nat.le_of_ble_eq_true rfl) (Nat.le_of_ble_eq_true rfl) (Nat.le_of_ble_eq_true rfl) dX5_15 (fun q15 H hP hD hS => ?_)
  have hP : va_P D am_cls (([(h0, .inr (5, [.int 0, .ref q7, .null, .null, .null, .null, .int 0, .int 0, .null, .null, .null, .null, .null]))] ++ [(q7, ct_ia cI 8)]) ++ [(q15, ct_ia cI 8)]) H := hP
  have hD : va_D A (([(h0, .inr (5, [.int 0, .ref q7, .null, .null, .null, .null, .int 0, .int 0, .null, .null, .null, .null, .null]))] ++ [(q7, ct_ia cI 8)]) ++ [(q15, ct_ia cI 8)]) := hD
  refine W.widen (k := 2) (n := 16) (Nat.le_of_ble_eq_true rfl) (Nat.le_of_ble_eq_true rfl) ?_
  refine ct_put (ci := 5) (q := (RX5, TX5, 13)) (i1 := 171) (ty := .array .int) hx hb hts rfl hown hin hK hP hD hS rfl 2 (by decide) (by decide +kernel) rfl rfl (by decide +kernel) rfl rfl (Nat.le_of_ble_eq_true rfl) dX5_17 (fun H locs hP hD hS => ?_)
  have hP : va_P D am_cls (([(h0, .inr (5, [.int 0, .ref q7, .ref q15, .null, .null, .null, .int 0, .int 0, .null, .null, .null, .null, .null]))] ++ [(q7, ct_ia cI 8)]) ++ [(q15, ct_ia cI 8)]) H := hP
  have hD : va_D A (([(h0, .inr (5, [.int 0, .ref q7, .ref q15, .null, .null, .null, .int 0, .int 0, .null, .null, .null, .null, .null]))] ++ [(q7, ct_ia cI 8)]) ++ [(q15, ct_ia cI 8)]) := hD
  refine lv_aload_n hx hb dX5_20 rfl (lv_at hl 0 rfl) ?_
  refine ct_new (ci := 6) (q := (RX6, TX6, 9)) (i1 := 133) (i2 := 134) (i3 := 45) (fs := [.int 0, .int 0, .null, .null, .null, .int 0, .null, .null, .null]) hx hb hts rfl hown (by decide +kernel) (by decide +kernel) (by decide +kernel) hK hP hD hS hA tyX6 tyX6_ok fX6 (Nat.le_of_ble_eq_true rfl) (Nat.le_of_ble_eq_true rfl) dX5_21 (fun b21 H hP hD hS => ?_)
  have hP : va_P D am_cls ((([(h0, .inr (5, [.int 0, .ref q7, .ref q15, .null, .null, .null, .int 0, .int 0, .null, .null, .null, .null, .null]))] ++ [(q7, ct_ia cI 8)]) ++ [(q15, ct_ia cI 8)]) ++ [(b21, eX6)]) H := hP
  have hD : va_D A ((([(h0, .inr (5, [.int 0, .ref q7, .ref q15, .null, .null, .null, .int 0, .int 0, .null, .null, .null, .null, .null]))] ++ [(q7, ct_ia cI 8)]) ++ [(q15, ct_ia cI 8)]) ++ [(b21, eX6)]) := hD
  refine W.widen (k := 3) (n := 25) (Nat.le_of_ble_eq_true rfl) (Nat.le_of_ble_eq_true rfl) ?_
  refine lv_dup hx hb dX5_24 rfl ?_
  refine ct_call (wr := (([(h0, .inr (5, [.int 0, .ref q7, .ref q15, .null, .null, .null, .int 0, .int 0, .null, .null, .null, .null, .null]))] ++ [(q7, ct_ia cI 8)]) ++ [(q15, ct_ia cI 8)])) (b := b21) (E := eX6) (wf := wX6 cI cZ cB b21) (va_runIN (As := []) (rest := [.ref b21, .ref h0]) ⟨hx, hb, hml, hown, hts⟩ (c_X6 l D cI cZ cB b21 H.size) ⟨va_cnB 0 hts (ct_gd kX6_code) rfl rfl rfl hN.2.1.2 (hts _ kX6_ini) (by decide +kernel) ⟨(Nat.le_of_ble_eq_true rfl), (Nat.le_of_ble_eq_true rfl)⟩, rfl, hts _ kX6_inst⟩ (ct_PreS hN hK (ct_lP hP) (ct_lD hD) [.ref b21]) rfl rfl hl.1 rfl (lv_room (Nat.le_of_ble_eq_true rfl)) dX5_25 ⟨(Nat.le_of_ble_eq_true rfl), (Nat.le_of_ble_eq_true rfl)⟩) hP hD hS hA (fun u25 H locs hP hD hS => ?_)
  have hP : va_P D am_cls ((([(h0, .inr (5, [.int 0, .ref q7, .ref q15, .null, .null, .null, .int 0, .int 0, .null, .null, .null, .null, .null]))] ++ [(q7, ct_ia cI 8)]) ++ [(q15, ct_ia cI 8)]) ++ wX6 cI cZ cB b21 u25) H := hP
  have hD : va_D A ((([(h0, .inr (5, [.int 0, .ref q7, .ref q15, .null, .null, .null, .int 0, .int 0, .null, .null, .null, .null, .null]))] ++ [(q7, ct_ia cI 8)]) ++ [(q15, ct_ia cI 8)]) ++ wX6 cI cZ cB b21 u25) := hD
  refine W.widen (k := 9) (n := 109) (Nat.le_of_ble_eq_true rfl) (Nat.le_of_ble_eq_true rfl) ?_
  refine ct_put (ci := 5) (q := (RX5, TX5, 13)) (i1 := 175) (ty := .object "LetterDays$Web") hx hb hts rfl hown hin hK hP hD hS rfl 5 (by decide) (by decide +kernel) rfl rfl (by decide +kernel) rfl rfl (Nat.le_of_ble_eq_true rfl) dX5_28 (fun H locs hP hD hS => ?_)
  have hP : va_P D am_cls ((([(h0, .inr (5, [.int 0, .ref q7, .ref q15, .null, .null, .ref b21, .int 0, .int 0, .null, .null, .null, .null, .null]))] ++ [(q7, ct_ia cI 8)]) ++ [(q15, ct_ia cI 8)]) ++ wX6 cI cZ cB b21 u25) H := hP
  have hD : va_D A ((([(h0, .inr (5, [.int 0, .ref q7, .ref q15, .null, .null, .ref b21, .int 0, .int 0, .null, .null, .null, .null, .null]))] ++ [(q7, ct_ia cI 8)]) ++ [(q15, ct_ia cI 8)]) ++ wX6 cI cZ cB b21 u25) := hD
  refine lv_aload_n hx hb dX5_31 rfl (lv_at hl 0 rfl) ?_
  refine lv_bipush (v := 8) hx hb dX5_32 (by decide) ?_
  refine ct_newi (N := 8) hx hb hts hK hP hD hS hA (by decide) (by decide) (Nat.le_of_ble_eq_true rfl) (Nat.le_of_ble_eq_true rfl) (Nat.le_of_ble_eq_true rfl) dX5_34 (fun q34 H hP hD hS => ?_)
  have hP : va_P D am_cls (((([(h0, .inr (5, [.int 0, .ref q7, .ref q15, .null, .null, .ref b21, .int 0, .int 0, .null, .null, .null, .null, .null]))] ++ [(q7, ct_ia cI 8)]) ++ [(q15, ct_ia cI 8)]) ++ wX6 cI cZ cB b21 u25) ++ [(q34, ct_ia cI 8)]) H := hP
  have hD : va_D A (((([(h0, .inr (5, [.int 0, .ref q7, .ref q15, .null, .null, .ref b21, .int 0, .int 0, .null, .null, .null, .null, .null]))] ++ [(q7, ct_ia cI 8)]) ++ [(q15, ct_ia cI 8)]) ++ wX6 cI cZ cB b21 u25) ++ [(q34, ct_ia cI 8)]) := hD
  refine W.widen (k := 10) (n := 117) (Nat.le_of_ble_eq_true rfl) (Nat.le_of_ble_eq_true rfl) ?_
  refine ct_put (ci := 5) (q := (RX5, TX5, 13)) (i1 := 178) (ty := .array .int) hx hb hts rfl hown hin hK hP hD hS rfl 8 (by decide) (by decide +kernel) rfl rfl (by decide +kernel) rfl rfl (Nat.le_of_ble_eq_true rfl) dX5_36 (fun H locs hP hD hS => ?_)
  have hP : va_P D am_cls (((([(h0, .inr (5, [.int 0, .ref q7, .ref q15, .null, .null, .ref b21, .int 0, .int 0, .ref q34, .null, .null, .null, .null]))] ++ [(q7, ct_ia cI 8)]) ++ [(q15, ct_ia cI 8)]) ++ wX6 cI cZ cB b21 u25) ++ [(q34, ct_ia cI 8)]) H := hP
  have hD : va_D A (((([(h0, .inr (5, [.int 0, .ref q7, .ref q15, .null, .null, .ref b21, .int 0, .int 0, .ref q34, .null, .null, .null, .null]))] ++ [(q7, ct_ia cI 8)]) ++ [(q15, ct_ia cI 8)]) ++ wX6 cI cZ cB b21 u25) ++ [(q34, ct_ia cI 8)]) := hD
  refine lv_aload_n hx hb dX5_39 rfl (lv_at hl 0 rfl) ?_
  refine lv_sipush (v := 1600) hx hb dX5_40 (by decide) ?_
  refine ct_newi (N := 1600) hx hb hts hK hP hD hS hA (by decide) (by decide) (Nat.le_of_ble_eq_true rfl) (Nat.le_of_ble_eq_true rfl) (Nat.le_of_ble_eq_true rfl) dX5_43 (fun q43 H hP hD hS => ?_)
  have hP : va_P D am_cls ((((([(h0, .inr (5, [.int 0, .ref q7, .ref q15, .null, .null, .ref b21, .int 0, .int 0, .ref q34, .null, .null, .null, .null]))] ++ [(q7, ct_ia cI 8)]) ++ [(q15, ct_ia cI 8)]) ++ wX6 cI cZ cB b21 u25) ++ [(q34, ct_ia cI 8)]) ++ [(q43, ct_ia cI 1600)]) H := hP
  have hD : va_D A ((((([(h0, .inr (5, [.int 0, .ref q7, .ref q15, .null, .null, .ref b21, .int 0, .int 0, .ref q34, .null, .null, .null, .null]))] ++ [(q7, ct_ia cI 8)]) ++ [(q15, ct_ia cI 8)]) ++ wX6 cI cZ cB b21 u25) ++ [(q34, ct_ia cI 8)]) ++ [(q43, ct_ia cI 1600)]) := hD
  refine W.widen (k := 11) (n := 1717) (Nat.le_of_ble_eq_true rfl) (Nat.le_of_ble_eq_true rfl) ?_
  refine ct_put (ci := 5) (q := (RX5, TX5, 13)) (i1 := 179) (ty := .array .int) hx hb hts rfl hown hin hK hP hD hS rfl 9 (by decide) (by decide +kernel) rfl rfl (by decide +kernel) rfl rfl (Nat.le_of_ble_eq_true rfl) dX5_45 (fun H locs hP hD hS => ?_)
  have hP : va_P D am_cls ((((([(h0, .inr (5, [.int 0, .ref q7, .ref q15, .null, .null, .ref b21, .int 0, .int 0, .ref q34, .ref q43, .null, .null, .null]))] ++ [(q7, ct_ia cI 8)]) ++ [(q15, ct_ia cI 8)]) ++ wX6 cI cZ cB b21 u25) ++ [(q34, ct_ia cI 8)]) ++ [(q43, ct_ia cI 1600)]) H := hP
  have hD : va_D A ((((([(h0, .inr (5, [.int 0, .ref q7, .ref q15, .null, .null, .ref b21, .int 0, .int 0, .ref q34, .ref q43, .null, .null, .null]))] ++ [(q7, ct_ia cI 8)]) ++ [(q15, ct_ia cI 8)]) ++ wX6 cI cZ cB b21 u25) ++ [(q34, ct_ia cI 8)]) ++ [(q43, ct_ia cI 1600)]) := hD
  refine lv_aload_n hx hb dX5_48 rfl (lv_at hl 0 rfl) ?_
  refine lv_bipush (v := 8) hx hb dX5_49 (by decide) ?_
  refine ct_newi (N := 8) hx hb hts hK hP hD hS hA (by decide) (by decide) (Nat.le_of_ble_eq_true rfl) (Nat.le_of_ble_eq_true rfl) (Nat.le_of_ble_eq_true rfl) dX5_51 (fun q51 H hP hD hS => ?_)
  have hP : va_P D am_cls (((((([(h0, .inr (5, [.int 0, .ref q7, .ref q15, .null, .null, .ref b21, .int 0, .int 0, .ref q34, .ref q43, .null, .null, .null]))] ++ [(q7, ct_ia cI 8)]) ++ [(q15, ct_ia cI 8)]) ++ wX6 cI cZ cB b21 u25) ++ [(q34, ct_ia cI 8)]) ++ [(q43, ct_ia cI 1600)]) ++ [(q51, ct_ia cI 8)]) H := hP
  have hD : va_D A (((((([(h0, .inr (5, [.int 0, .ref q7, .ref q15, .null, .null, .ref b21, .int 0, .int 0, .ref q34, .ref q43, .null, .null, .null]))] ++ [(q7, ct_ia cI 8)]) ++ [(q15, ct_ia cI 8)]) ++ wX6 cI cZ cB b21 u25) ++ [(q34, ct_ia cI 8)]) ++ [(q43, ct_ia cI 1600)]) ++ [(q51, ct_ia cI 8)]) := hD
  refine W.widen (k := 12) (n := 1725) (Nat.le_of_ble_eq_true rfl) (Nat.le_of_ble_eq_true rfl) ?_
  refine ct_put (ci := 5) (q := (RX5, TX5, 13)) (i1 := 180) (ty := .array .int) hx hb hts rfl hown hin hK hP hD hS rfl 10 (by decide) (by decide +kernel) rfl rfl (by decide +kernel) rfl rfl (Nat.le_of_ble_eq_true rfl) dX5_53 (fun H locs hP hD hS => ?_)
  have hP : va_P D am_cls (((((([(h0, .inr (5, [.int 0, .ref q7, .ref q15, .null, .null, .ref b21, .int 0, .int 0, .ref q34, .ref q43, .ref q51, .null, .null]))] ++ [(q7, ct_ia cI 8)]) ++ [(q15, ct_ia cI 8)]) ++ wX6 cI cZ cB b21 u25) ++ [(q34, ct_ia cI 8)]) ++ [(q43, ct_ia cI 1600)]) ++ [(q51, ct_ia cI 8)]) H := hP
  have hD : va_D A (((((([(h0, .inr (5, [.int 0, .ref q7, .ref q15, .null, .null, .ref b21, .int 0, .int 0, .ref q34, .ref q43, .ref q51, .null, .null]))] ++ [(q7, ct_ia cI 8)]) ++ [(q15, ct_ia cI 8)]) ++ wX6 cI cZ cB b21 u25) ++ [(q34, ct_ia cI 8)]) ++ [(q43, ct_ia cI 1600)]) ++ [(q51, ct_ia cI 8)]) := hD
  refine lv_aload_n hx hb dX5_56 rfl (lv_at hl 0 rfl) ?_
  refine lv_bipush (v := 64) hx hb dX5_57 (by decide) ?_
  refine ct_newi (N := 64) hx hb hts hK hP hD hS hA (by decide) (by decide) (Nat.le_of_ble_eq_true rfl) (Nat.le_of_ble_eq_true rfl) (Nat.le_of_ble_eq_true rfl) dX5_59 (fun q59 H hP hD hS => ?_)
  have hP : va_P D am_cls ((((((([(h0, .inr (5, [.int 0, .ref q7, .ref q15, .null, .null, .ref b21, .int 0, .int 0, .ref q34, .ref q43, .ref q51, .null, .null]))] ++ [(q7, ct_ia cI 8)]) ++ [(q15, ct_ia cI 8)]) ++ wX6 cI cZ cB b21 u25) ++ [(q34, ct_ia cI 8)]) ++ [(q43, ct_ia cI 1600)]) ++ [(q51, ct_ia cI 8)]) ++ [(q59, ct_ia cI 64)]) H := hP
  have hD : va_D A ((((((([(h0, .inr (5, [.int 0, .ref q7, .ref q15, .null, .null, .ref b21, .int 0, .int 0, .ref q34, .ref q43, .ref q51, .null, .null]))] ++ [(q7, ct_ia cI 8)]) ++ [(q15, ct_ia cI 8)]) ++ wX6 cI cZ cB b21 u25) ++ [(q34, ct_ia cI 8)]) ++ [(q43, ct_ia cI 1600)]) ++ [(q51, ct_ia cI 8)]) ++ [(q59, ct_ia cI 64)]) := hD
  refine W.widen (k := 13) (n := 1789) (Nat.le_of_ble_eq_true rfl) (Nat.le_of_ble_eq_true rfl) ?_
  refine ct_put (ci := 5) (q := (RX5, TX5, 13)) (i1 := 181) (ty := .array .int) hx hb hts rfl hown hin hK hP hD hS rfl 11 (by decide) (by decide +kernel) rfl rfl (by decide +kernel) rfl rfl (Nat.le_of_ble_eq_true rfl) dX5_61 (fun H locs hP hD hS => ?_)
  have hP : va_P D am_cls ((((((([(h0, .inr (5, [.int 0, .ref q7, .ref q15, .null, .null, .ref b21, .int 0, .int 0, .ref q34, .ref q43, .ref q51, .ref q59, .null]))] ++ [(q7, ct_ia cI 8)]) ++ [(q15, ct_ia cI 8)]) ++ wX6 cI cZ cB b21 u25) ++ [(q34, ct_ia cI 8)]) ++ [(q43, ct_ia cI 1600)]) ++ [(q51, ct_ia cI 8)]) ++ [(q59, ct_ia cI 64)]) H := hP
  have hD : va_D A ((((((([(h0, .inr (5, [.int 0, .ref q7, .ref q15, .null, .null, .ref b21, .int 0, .int 0, .ref q34, .ref q43, .ref q51, .ref q59, .null]))] ++ [(q7, ct_ia cI 8)]) ++ [(q15, ct_ia cI 8)]) ++ wX6 cI cZ cB b21 u25) ++ [(q34, ct_ia cI 8)]) ++ [(q43, ct_ia cI 1600)]) ++ [(q51, ct_ia cI 8)]) ++ [(q59, ct_ia cI 64)]) := hD
  refine lv_aload_n hx hb dX5_64 rfl (lv_at hl 0 rfl) ?_
  refine lv_bipush (v := 8) hx hb dX5_65 (by decide) ?_
  refine ct_newi (N := 8) hx hb hts hK hP hD hS hA (by decide) (by decide) (Nat.le_of_ble_eq_true rfl) (Nat.le_of_ble_eq_true rfl) (Nat.le_of_ble_eq_true rfl) dX5_67 (fun q67 H hP hD hS => ?_)
  have hP : va_P D am_cls (((((((([(h0, .inr (5, [.int 0, .ref q7, .ref q15, .null, .null, .ref b21, .int 0, .int 0, .ref q34, .ref q43, .ref q51, .ref q59, .null]))] ++ [(q7, ct_ia cI 8)]) ++ [(q15, ct_ia cI 8)]) ++ wX6 cI cZ cB b21 u25) ++ [(q34, ct_ia cI 8)]) ++ [(q43, ct_ia cI 1600)]) ++ [(q51, ct_ia cI 8)]) ++ [(q59, ct_ia cI 64)]) ++ [(q67, ct_ia cI 8)]) H := hP
  have hD : va_D A (((((((([(h0, .inr (5, [.int 0, .ref q7, .ref q15, .null, .null, .ref b21, .int 0, .int 0, .ref q34, .ref q43, .ref q51, .ref q59, .null]))] ++ [(q7, ct_ia cI 8)]) ++ [(q15, ct_ia cI 8)]) ++ wX6 cI cZ cB b21 u25) ++ [(q34, ct_ia cI 8)]) ++ [(q43, ct_ia cI 1600)]) ++ [(q51, ct_ia cI 8)]) ++ [(q59, ct_ia cI 64)]) ++ [(q67, ct_ia cI 8)]) := hD
  refine W.widen (k := 14) (n := 1797) (Nat.le_of_ble_eq_true rfl) (Nat.le_of_ble_eq_true rfl) ?_
  refine ct_put (ci := 5) (q := (RX5, TX5, 13)) (i1 := 182) (ty := .array .int) hx hb hts rfl hown hin hK hP hD hS rfl 12 (by decide) (by decide +kernel) rfl rfl (by decide +kernel) rfl rfl (Nat.le_of_ble_eq_true rfl) dX5_69 (fun H locs hP hD hS => ?_)
  have hP : va_P D am_cls (((((((([(h0, .inr (5, [.int 0, .ref q7, .ref q15, .null, .null, .ref b21, .int 0, .int 0, .ref q34, .ref q43, .ref q51, .ref q59, .ref q67]))] ++ [(q7, ct_ia cI 8)]) ++ [(q15, ct_ia cI 8)]) ++ wX6 cI cZ cB b21 u25) ++ [(q34, ct_ia cI 8)]) ++ [(q43, ct_ia cI 1600)]) ++ [(q51, ct_ia cI 8)]) ++ [(q59, ct_ia cI 64)]) ++ [(q67, ct_ia cI 8)]) H := hP
  have hD : va_D A (((((((([(h0, .inr (5, [.int 0, .ref q7, .ref q15, .null, .null, .ref b21, .int 0, .int 0, .ref q34, .ref q43, .ref q51, .ref q59, .ref q67]))] ++ [(q7, ct_ia cI 8)]) ++ [(q15, ct_ia cI 8)]) ++ wX6 cI cZ cB b21 u25) ++ [(q34, ct_ia cI 8)]) ++ [(q43, ct_ia cI 1600)]) ++ [(q51, ct_ia cI 8)]) ++ [(q59, ct_ia cI 64)]) ++ [(q67, ct_ia cI 8)]) := hD
  refine lv_aload_n hx hb dX5_72 rfl (lv_at hl 0 rfl) ?_
  refine lv_aload_n hx hb dX5_73 rfl (lv_at hl 1 rfl) ?_
  refine ct_put (ci := 5) (q := (RX5, TX5, 13)) (i1 := 173) (ty := .object "LetterDays$Letters") hx hb hts rfl hown hin hK hP hD hS rfl 3 (by decide) (by decide +kernel) rfl rfl (by decide +kernel) rfl rfl (Nat.le_of_ble_eq_true rfl) dX5_74 (fun H locs hP hD hS => ?_)
  have hP : va_P D am_cls (((((((([(h0, .inr (5, [.int 0, .ref q7, .ref q15, .ref a1, .null, .ref b21, .int 0, .int 0, .ref q34, .ref q43, .ref q51, .ref q59, .ref q67]))] ++ [(q7, ct_ia cI 8)]) ++ [(q15, ct_ia cI 8)]) ++ wX6 cI cZ cB b21 u25) ++ [(q34, ct_ia cI 8)]) ++ [(q43, ct_ia cI 1600)]) ++ [(q51, ct_ia cI 8)]) ++ [(q59, ct_ia cI 64)]) ++ [(q67, ct_ia cI 8)]) H := hP
  have hD : va_D A (((((((([(h0, .inr (5, [.int 0, .ref q7, .ref q15, .ref a1, .null, .ref b21, .int 0, .int 0, .ref q34, .ref q43, .ref q51, .ref q59, .ref q67]))] ++ [(q7, ct_ia cI 8)]) ++ [(q15, ct_ia cI 8)]) ++ wX6 cI cZ cB b21 u25) ++ [(q34, ct_ia cI 8)]) ++ [(q43, ct_ia cI 1600)]) ++ [(q51, ct_ia cI 8)]) ++ [(q59, ct_ia cI 64)]) ++ [(q67, ct_ia cI 8)]) := hD
  refine lv_aload_n hx hb dX5_77 rfl (lv_at hl 0 rfl) ?_
  refine lv_aload_n hx hb dX5_78 rfl (lv_at hl 2 rfl) ?_
  refine ct_put (ci := 5) (q := (RX5, TX5, 13)) (i1 := 174) (ty := .object "LetterDays$Notes") hx hb hts rfl hown hin hK hP hD hS rfl 4 (by decide) (by decide +kernel) rfl rfl (by decide +kernel) rfl rfl (Nat.le_of_ble_eq_true rfl) dX5_79 (fun H locs hP hD hS => ?_)
  have hP : va_P D am_cls (((((((([(h0, .inr (5, [.int 0, .ref q7, .ref q15, .ref a1, .ref a2, .ref b21, .int 0, .int 0, .ref q34, .ref q43, .ref q51, .ref q59, .ref q67]))] ++ [(q7, ct_ia cI 8)]) ++ [(q15, ct_ia cI 8)]) ++ wX6 cI cZ cB b21 u25) ++ [(q34, ct_ia cI 8)]) ++ [(q43, ct_ia cI 1600)]) ++ [(q51, ct_ia cI 8)]) ++ [(q59, ct_ia cI 64)]) ++ [(q67, ct_ia cI 8)]) H := hP
  have hD : va_D A (((((((([(h0, .inr (5, [.int 0, .ref q7, .ref q15, .ref a1, .ref a2, .ref b21, .int 0, .int 0, .ref q34, .ref q43, .ref q51, .ref q59, .ref q67]))] ++ [(q7, ct_ia cI 8)]) ++ [(q15, ct_ia cI 8)]) ++ wX6 cI cZ cB b21 u25) ++ [(q34, ct_ia cI 8)]) ++ [(q43, ct_ia cI 1600)]) ++ [(q51, ct_ia cI 8)]) ++ [(q59, ct_ia cI 64)]) ++ [(q67, ct_ia cI 8)]) := hD
  have hP9 := hP.sub (ws' := wX5 cI cZ cB h0 a1 a2 (fun k => ([q7, q15, q34, q43, q51, q59, q67, b21, (u25 0), (u25 1), (u25 2), (u25 3), (u25 4), (u25 5)] : List Nat).getD k 0)) [0, 1, 2, 10, 11, 12, 13, 14, 3, 4, 5, 6, 7, 8, 9] rfl
  have hD9 := hD.sub (ws' := wX5 cI cZ cB h0 a1 a2 (fun k => ([q7, q15, q34, q43, q51, q59, q67, b21, (u25 0), (u25 1), (u25 2), (u25 3), (u25 4), (u25 5)] : List Nat).getD k 0)) [0, 1, 2, 10, 11, 12, 13, 14, 3, 4, 5, 6, 7, 8, 9] (by decide +kernel) rfl
  exact W.vret hx hb hr (fun t ht hW => ⟨⟨_, rfl, trivial, by rw [ht]; exact hP9, hD9⟩, hS.F ht⟩) hS.2.2 dX5_82
