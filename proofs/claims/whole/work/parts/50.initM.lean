/-! the reference (printed by wip/whole/gen_init.py) -/
def wX8 (cI cZ cB : ClassId) (h0 : Nat) (u : Nat → Nat) : va_W := [(h0, .inr (8, [.int 0, .ref (u 0), .ref (u 1), .int 0, .ref (u 2), .ref (u 3), .ref (u 4), .ref (u 5), .ref (u 6), .ref (u 7), .ref (u 8), .ref (u 9), .int 0, .ref (u 10), .ref (u 11), .ref (u 12), .ref (u 13), .ref (u 14)])), (u 0, ct_ia cI 8), (u 1, ct_ia cI 8), (u 2, ct_ia cI 10), (u 3, ct_ia cI 10), (u 4, ct_ia cI 10), (u 5, ct_ia cI 10), (u 6, ct_ia cI 10), (u 7, ct_ia cZ 10), (u 8, ct_ia cI 81), (u 9, ct_ia cI 9), (u 10, ct_ia cI 8), (u 11, ct_ia cI 8), (u 12, ct_ia cI 256), (u 13, ct_ia cI 3), (u 14, ct_ia cI 24)]
abbrev eX8 : va_E := .inr (8, [.int 0, .null, .null, .int 0, .null, .null, .null, .null, .null, .null, .null, .null, .int 0, .null, .null, .null, .null, .null])
theorem fX8 : ∀ j, j < 18 → defaultValue (tyX8 j) = vp_V [.int 0, .null, .null, .int 0, .null, .null, .null, .null, .null, .null, .null, .null, .int 0, .null, .null, .null, .null, .null] j := fun j hj => match j, hj with
  | 0, _ => rfl
  | 1, _ => rfl
  | 2, _ => rfl
  | 3, _ => rfl
  | 4, _ => rfl
  | 5, _ => rfl
  | 6, _ => rfl
  | 7, _ => rfl
  | 8, _ => rfl
  | 9, _ => rfl
  | 10, _ => rfl
  | 11, _ => rfl
  | 12, _ => rfl
  | 13, _ => rfl
  | 14, _ => rfl
  | 15, _ => rfl
  | 16, _ => rfl
  | 17, _ => rfl
  | n + 18, h => absurd h (by omega)
theorem kX8_code : Jvm.Cond.code yX8_init cX8_init 1 none ∈ am_tbl := am_wat_in (i := 632) (by decide +kernel)
theorem kX8_ini : Jvm.Cond.initialized RX8 ∈ am_tbl := am_wat_in (i := 49) (by decide +kernel)
theorem kX8_inst : Jvm.Cond.instanceMethod yX8_init ∈ am_tbl := am_wat_in (i := 631) (by decide +kernel)
theorem dX8_0 : decode cX8_init 0 = .ok (.aload_n 0, 1) := by decide +kernel
theorem dX8_1 : decode cX8_init 1 = .ok (.invokespecial 1, 3) := by decide +kernel
theorem dX8_4 : decode cX8_init 4 = .ok (.aload_n 0, 1) := by decide +kernel
theorem dX8_5 : decode cX8_init 5 = .ok (.bipush 8, 2) := by decide +kernel
theorem dX8_7 : decode cX8_init 7 = .ok (.newarray .int, 2) := by decide +kernel
theorem dX8_9 : decode cX8_init 9 = .ok (.putfield 7, 3) := by decide +kernel
theorem dX8_12 : decode cX8_init 12 = .ok (.aload_n 0, 1) := by decide +kernel
theorem dX8_13 : decode cX8_init 13 = .ok (.bipush 8, 2) := by decide +kernel
theorem dX8_15 : decode cX8_init 15 = .ok (.newarray .int, 2) := by decide +kernel
theorem dX8_17 : decode cX8_init 17 = .ok (.putfield 13, 3) := by decide +kernel
theorem dX8_20 : decode cX8_init 20 = .ok (.aload_n 0, 1) := by decide +kernel
theorem dX8_21 : decode cX8_init 21 = .ok (.bipush 10, 2) := by decide +kernel
theorem dX8_23 : decode cX8_init 23 = .ok (.newarray .int, 2) := by decide +kernel
theorem dX8_25 : decode cX8_init 25 = .ok (.putfield 16, 3) := by decide +kernel
theorem dX8_28 : decode cX8_init 28 = .ok (.aload_n 0, 1) := by decide +kernel
theorem dX8_29 : decode cX8_init 29 = .ok (.bipush 10, 2) := by decide +kernel
theorem dX8_31 : decode cX8_init 31 = .ok (.newarray .int, 2) := by decide +kernel
theorem dX8_33 : decode cX8_init 33 = .ok (.putfield 19, 3) := by decide +kernel
theorem dX8_36 : decode cX8_init 36 = .ok (.aload_n 0, 1) := by decide +kernel
theorem dX8_37 : decode cX8_init 37 = .ok (.bipush 10, 2) := by decide +kernel
theorem dX8_39 : decode cX8_init 39 = .ok (.newarray .int, 2) := by decide +kernel
theorem dX8_41 : decode cX8_init 41 = .ok (.putfield 22, 3) := by decide +kernel
theorem dX8_44 : decode cX8_init 44 = .ok (.aload_n 0, 1) := by decide +kernel
theorem dX8_45 : decode cX8_init 45 = .ok (.bipush 10, 2) := by decide +kernel
theorem dX8_47 : decode cX8_init 47 = .ok (.newarray .int, 2) := by decide +kernel
theorem dX8_49 : decode cX8_init 49 = .ok (.putfield 25, 3) := by decide +kernel
theorem dX8_52 : decode cX8_init 52 = .ok (.aload_n 0, 1) := by decide +kernel
theorem dX8_53 : decode cX8_init 53 = .ok (.bipush 10, 2) := by decide +kernel
theorem dX8_55 : decode cX8_init 55 = .ok (.newarray .int, 2) := by decide +kernel
theorem dX8_57 : decode cX8_init 57 = .ok (.putfield 28, 3) := by decide +kernel
theorem dX8_60 : decode cX8_init 60 = .ok (.aload_n 0, 1) := by decide +kernel
theorem dX8_61 : decode cX8_init 61 = .ok (.bipush 10, 2) := by decide +kernel
theorem dX8_63 : decode cX8_init 63 = .ok (.newarray .boolean, 2) := by decide +kernel
theorem dX8_65 : decode cX8_init 65 = .ok (.putfield 31, 3) := by decide +kernel
theorem dX8_68 : decode cX8_init 68 = .ok (.aload_n 0, 1) := by decide +kernel
theorem dX8_69 : decode cX8_init 69 = .ok (.bipush 81, 2) := by decide +kernel
theorem dX8_71 : decode cX8_init 71 = .ok (.newarray .int, 2) := by decide +kernel
theorem dX8_73 : decode cX8_init 73 = .ok (.putfield 35, 3) := by decide +kernel
theorem dX8_76 : decode cX8_init 76 = .ok (.aload_n 0, 1) := by decide +kernel
theorem dX8_77 : decode cX8_init 77 = .ok (.bipush 9, 2) := by decide +kernel
theorem dX8_79 : decode cX8_init 79 = .ok (.newarray .int, 2) := by decide +kernel
theorem dX8_81 : decode cX8_init 81 = .ok (.putfield 38, 3) := by decide +kernel
theorem dX8_84 : decode cX8_init 84 = .ok (.aload_n 0, 1) := by decide +kernel
theorem dX8_85 : decode cX8_init 85 = .ok (.bipush 8, 2) := by decide +kernel
theorem dX8_87 : decode cX8_init 87 = .ok (.newarray .int, 2) := by decide +kernel
theorem dX8_89 : decode cX8_init 89 = .ok (.putfield 41, 3) := by decide +kernel
theorem dX8_92 : decode cX8_init 92 = .ok (.aload_n 0, 1) := by decide +kernel
theorem dX8_93 : decode cX8_init 93 = .ok (.bipush 8, 2) := by decide +kernel
theorem dX8_95 : decode cX8_init 95 = .ok (.newarray .int, 2) := by decide +kernel
theorem dX8_97 : decode cX8_init 97 = .ok (.putfield 44, 3) := by decide +kernel
theorem dX8_100 : decode cX8_init 100 = .ok (.aload_n 0, 1) := by decide +kernel
theorem dX8_101 : decode cX8_init 101 = .ok (.sipush 256, 3) := by decide +kernel
theorem dX8_104 : decode cX8_init 104 = .ok (.newarray .int, 2) := by decide +kernel
theorem dX8_106 : decode cX8_init 106 = .ok (.putfield 47, 3) := by decide +kernel
theorem dX8_109 : decode cX8_init 109 = .ok (.aload_n 0, 1) := by decide +kernel
theorem dX8_110 : decode cX8_init 110 = .ok (.iconst 3, 1) := by decide +kernel
theorem dX8_111 : decode cX8_init 111 = .ok (.newarray .int, 2) := by decide +kernel
theorem dX8_113 : decode cX8_init 113 = .ok (.putfield 50, 3) := by decide +kernel
theorem dX8_116 : decode cX8_init 116 = .ok (.aload_n 0, 1) := by decide +kernel
theorem dX8_117 : decode cX8_init 117 = .ok (.bipush 24, 2) := by decide +kernel
theorem dX8_119 : decode cX8_init 119 = .ok (.newarray .int, 2) := by decide +kernel
theorem dX8_121 : decode cX8_init 121 = .ok (.putfield 53, 3) := by decide +kernel
theorem dX8_124 : decode cX8_init 124 = .ok (.return_, 1) := by decide +kernel
set_option maxHeartbeats 4000000 in
set_option maxRecDepth 100000 in
theorem c_X8 (l : Launch) (D : va_G) (cI cZ cB : ClassId) (h0 sz : Nat) : ct_Met l D cI cZ cB yX8_init cX8_init 1 { frames := 1, cells := 15, slots := 465, locals := 12 } [.ref h0] [(h0, eX8)] (wX8 cI cZ cB h0) 15 465 sz := by
  unfold ct_Met ct_Qm ct_Pm
  refine Met.ofW (cc := cX8_init) (maxL := 1) (ret := none) (by decide) rfl ?_
  intro p e s m args below meth c s₁ B hml hv
  obtain ⟨rfl, hsz, hP, hK, hD0, hN⟩ := hv
  have hx := B.exec
  have hb := B.bytes
  have hr := B.returns
  have hts0 := atoms_spec (ws := ct_wd yX8_init cX8_init 1) B.pre
  have hts : ∀ w ∈ am_tbl, w.before _ s = true := fun w hw => hts0 w (List.mem_cons_of_mem _ hw)
  have hown : s.vm.findClass RX8 = some m.cls := findClass_of_methodNamed B.named
  have hlocks := B.notSynchronized
  have hin : meth.name = "<init>" := (name_of_methodNamed B.named B.method).1
  subst hsz
  have hD := hD0.self (sz := s.heap.size)
  generalize hAe : va_A [(h0, eX8)] s.heap.size = A at hD ⊢
  have hA : ∀ q : Nat, s.heap.size ≤ q → A q := fun q h => by rw [← hAe]; exact Or.inr h
  have hS : va_S A s.heap s.heap [] := va_S.rf
  have hl := lv_entry ([.ref h0]) (n := 1) (Nat.le_of_ble_eq_true rfl)
  rw [lg_entry_eq]
  generalize (lg_sl ([.ref h0]) ++ List.replicate (1 - (lg_sl ([.ref h0])).length) Slot.unset).toArray = ls at hl ⊢
  have hl : lv_has ls 1 [(0, .ref h0)] := hl
  refine lv_aload_n hx hb dX8_0 rfl (lv_at hl 0 rfl) ?_
  refine W.objInit hx hb hown (hts _ (am_wat_in (i := 633) (w := .methodLink RX8 1 objectInit) (by decide +kernel))) (hts _ ct_wOi) (hts _ ct_wO) rfl (by rw [hml]; exact hl.1) rfl dX8_1 (Nat.le_of_ble_eq_true rfl) (Nat.le_of_ble_eq_true rfl) ?_
  refine W.eq (g2 := F0 m 4 ls []) rfl ?_
  refine lv_aload_n hx hb dX8_4 rfl (lv_at hl 0 rfl) ?_
  refine lv_bipush (v := 8) hx hb dX8_5 (by decide) ?_
  refine ct_newi (N := 8) hx hb hts hK hP hD hS hA (by decide) (by decide) (Nat.le_of_ble_eq_true rfl) (Nat.le_of_ble_eq_true rfl) (Nat.le_of_ble_eq_true rfl) dX8_7 (fun q7 H hP hD hS => ?_)
  have hP : va_P D am_cls [(h0, .inr (8, [.int 0, .null, .null, .int 0, .null, .null, .null, .null, .null, .null, .null, .null, .int 0, .null, .null, .null, .null, .null])), (q7, ct_ia cI 8)] H := hP
  have hD : va_D A [(h0, .inr (8, [.int 0, .null, .null, .int 0, .null, .null, .null, .null, .null, .null, .null, .null, .int 0, .null, .null, .null, .null, .null])), (q7, ct_ia cI 8)] := hD
  refine W.widen (k := 1) (n := 8) (Nat.le_of_ble_eq_true rfl) (Nat.le_of_ble_eq_true rfl) ?_
  refine ct_put (ci := 8) (q := (RX8, TX8, 18)) (i1 := 635) (ty := .array .int) hx hb hts rfl hown hin hK hP hD hS rfl 1 (by decide) (by decide +kernel) rfl rfl (by decide +kernel) rfl rfl (Nat.le_of_ble_eq_true rfl) dX8_9 (fun H locs hP hD hS => ?_)
  have hP : va_P D am_cls [(h0, .inr (8, [.int 0, .ref q7, .null, .int 0, .null, .null, .null, .null, .null, .null, .null, .null, .int 0, .null, .null, .null, .null, .null])), (q7, ct_ia cI 8)] H := hP
  have hD : va_D A [(h0, .inr (8, [.int 0, .ref q7, .null, .int 0, .null, .null, .null, .null, .null, .null, .null, .null, .int 0, .null, .null, .null, .null, .null])), (q7, ct_ia cI 8)] := hD
  refine lv_aload_n hx hb dX8_12 rfl (lv_at hl 0 rfl) ?_
  refine lv_bipush (v := 8) hx hb dX8_13 (by decide) ?_
  refine ct_newi (N := 8) hx hb hts hK hP hD hS hA (by decide) (by decide) (Nat.le_of_ble_eq_true rfl) (Nat.le_of_ble_eq_true rfl) (Nat.le_of_ble_eq_true rfl) dX8_15 (fun q15 H hP hD hS => ?_)
  have hP : va_P D am_cls [(h0, .inr (8, [.int 0, .ref q7, .null, .int 0, .null, .null, .null, .null, .null, .null, .null, .null, .int 0, .null, .null, .null, .null, .null])), (q7, ct_ia cI 8), (q15, ct_ia cI 8)] H := hP
  have hD : va_D A [(h0, .inr (8, [.int 0, .ref q7, .null, .int 0, .null, .null, .null, .null, .null, .null, .null, .null, .int 0, .null, .null, .null, .null, .null])), (q7, ct_ia cI 8), (q15, ct_ia cI 8)] := hD
  refine W.widen (k := 2) (n := 16) (Nat.le_of_ble_eq_true rfl) (Nat.le_of_ble_eq_true rfl) ?_
  refine ct_put (ci := 8) (q := (RX8, TX8, 18)) (i1 := 636) (ty := .array .int) hx hb hts rfl hown hin hK hP hD hS rfl 2 (by decide) (by decide +kernel) rfl rfl (by decide +kernel) rfl rfl (Nat.le_of_ble_eq_true rfl) dX8_17 (fun H locs hP hD hS => ?_)
  have hP : va_P D am_cls [(h0, .inr (8, [.int 0, .ref q7, .ref q15, .int 0, .null, .null, .null, .null, .null, .null, .null, .null, .int 0, .null, .null, .null, .null, .null])), (q7, ct_ia cI 8), (q15, ct_ia cI 8)] H := hP
  have hD : va_D A [(h0, .inr (8, [.int 0, .ref q7, .ref q15, .int 0, .null, .null, .null, .null, .null, .null, .null, .null, .int 0, .null, .null, .null, .null, .null])), (q7, ct_ia cI 8), (q15, ct_ia cI 8)] := hD
  refine lv_aload_n hx hb dX8_20 rfl (lv_at hl 0 rfl) ?_
  refine lv_bipush (v := 10) hx hb dX8_21 (by decide) ?_
  refine ct_newi (N := 10) hx hb hts hK hP hD hS hA (by decide) (by decide) (Nat.le_of_ble_eq_true rfl) (Nat.le_of_ble_eq_true rfl) (Nat.le_of_ble_eq_true rfl) dX8_23 (fun q23 H hP hD hS => ?_)
  have hP : va_P D am_cls [(h0, .inr (8, [.int 0, .ref q7, .ref q15, .int 0, .null, .null, .null, .null, .null, .null, .null, .null, .int 0, .null, .null, .null, .null, .null])), (q7, ct_ia cI 8), (q15, ct_ia cI 8), (q23, ct_ia cI 10)] H := hP
  have hD : va_D A [(h0, .inr (8, [.int 0, .ref q7, .ref q15, .int 0, .null, .null, .null, .null, .null, .null, .null, .null, .int 0, .null, .null, .null, .null, .null])), (q7, ct_ia cI 8), (q15, ct_ia cI 8), (q23, ct_ia cI 10)] := hD
  refine W.widen (k := 3) (n := 26) (Nat.le_of_ble_eq_true rfl) (Nat.le_of_ble_eq_true rfl) ?_
  refine ct_put (ci := 8) (q := (RX8, TX8, 18)) (i1 := 638) (ty := .array .int) hx hb hts rfl hown hin hK hP hD hS rfl 4 (by decide) (by decide +kernel) rfl rfl (by decide +kernel) rfl rfl (Nat.le_of_ble_eq_true rfl) dX8_25 (fun H locs hP hD hS => ?_)
  have hP : va_P D am_cls [(h0, .inr (8, [.int 0, .ref q7, .ref q15, .int 0, .ref q23, .null, .null, .null, .null, .null, .null, .null, .int 0, .null, .null, .null, .null, .null])), (q7, ct_ia cI 8), (q15, ct_ia cI 8), (q23, ct_ia cI 10)] H := hP
  have hD : va_D A [(h0, .inr (8, [.int 0, .ref q7, .ref q15, .int 0, .ref q23, .null, .null, .null, .null, .null, .null, .null, .int 0, .null, .null, .null, .null, .null])), (q7, ct_ia cI 8), (q15, ct_ia cI 8), (q23, ct_ia cI 10)] := hD
  refine lv_aload_n hx hb dX8_28 rfl (lv_at hl 0 rfl) ?_
  refine lv_bipush (v := 10) hx hb dX8_29 (by decide) ?_
  refine ct_newi (N := 10) hx hb hts hK hP hD hS hA (by decide) (by decide) (Nat.le_of_ble_eq_true rfl) (Nat.le_of_ble_eq_true rfl) (Nat.le_of_ble_eq_true rfl) dX8_31 (fun q31 H hP hD hS => ?_)
  have hP : va_P D am_cls [(h0, .inr (8, [.int 0, .ref q7, .ref q15, .int 0, .ref q23, .null, .null, .null, .null, .null, .null, .null, .int 0, .null, .null, .null, .null, .null])), (q7, ct_ia cI 8), (q15, ct_ia cI 8), (q23, ct_ia cI 10), (q31, ct_ia cI 10)] H := hP
  have hD : va_D A [(h0, .inr (8, [.int 0, .ref q7, .ref q15, .int 0, .ref q23, .null, .null, .null, .null, .null, .null, .null, .int 0, .null, .null, .null, .null, .null])), (q7, ct_ia cI 8), (q15, ct_ia cI 8), (q23, ct_ia cI 10), (q31, ct_ia cI 10)] := hD
  refine W.widen (k := 4) (n := 36) (Nat.le_of_ble_eq_true rfl) (Nat.le_of_ble_eq_true rfl) ?_
  refine ct_put (ci := 8) (q := (RX8, TX8, 18)) (i1 := 639) (ty := .array .int) hx hb hts rfl hown hin hK hP hD hS rfl 5 (by decide) (by decide +kernel) rfl rfl (by decide +kernel) rfl rfl (Nat.le_of_ble_eq_true rfl) dX8_33 (fun H locs hP hD hS => ?_)
  have hP : va_P D am_cls [(h0, .inr (8, [.int 0, .ref q7, .ref q15, .int 0, .ref q23, .ref q31, .null, .null, .null, .null, .null, .null, .int 0, .null, .null, .null, .null, .null])), (q7, ct_ia cI 8), (q15, ct_ia cI 8), (q23, ct_ia cI 10), (q31, ct_ia cI 10)] H := hP
  have hD : va_D A [(h0, .inr (8, [.int 0, .ref q7, .ref q15, .int 0, .ref q23, .ref q31, .null, .null, .null, .null, .null, .null, .int 0, .null, .null, .null, .null, .null])), (q7, ct_ia cI 8), (q15, ct_ia cI 8), (q23, ct_ia cI 10), (q31, ct_ia cI 10)] := hD
  refine lv_aload_n hx hb dX8_36 rfl (lv_at hl 0 rfl) ?_
  refine lv_bipush (v := 10) hx hb dX8_37 (by decide) ?_
  refine ct_newi (N := 10) hx hb hts hK hP hD hS hA (by decide) (by decide) (Nat.le_of_ble_eq_true rfl) (Nat.le_of_ble_eq_true rfl) (Nat.le_of_ble_eq_true rfl) dX8_39 (fun q39 H hP hD hS => ?_)
  have hP : va_P D am_cls [(h0, .inr (8, [.int 0, .ref q7, .ref q15, .int 0, .ref q23, .ref q31, .null, .null, .null, .null, .null, .null, .int 0, .null, .null, .null, .null, .null])), (q7, ct_ia cI 8), (q15, ct_ia cI 8), (q23, ct_ia cI 10), (q31, ct_ia cI 10), (q39, ct_ia cI 10)] H := hP
  have hD : va_D A [(h0, .inr (8, [.int 0, .ref q7, .ref q15, .int 0, .ref q23, .ref q31, .null, .null, .null, .null, .null, .null, .int 0, .null, .null, .null, .null, .null])), (q7, ct_ia cI 8), (q15, ct_ia cI 8), (q23, ct_ia cI 10), (q31, ct_ia cI 10), (q39, ct_ia cI 10)] := hD
  refine W.widen (k := 5) (n := 46) (Nat.le_of_ble_eq_true rfl) (Nat.le_of_ble_eq_true rfl) ?_
  refine ct_put (ci := 8) (q := (RX8, TX8, 18)) (i1 := 640) (ty := .array .int) hx hb hts rfl hown hin hK hP hD hS rfl 6 (by decide) (by decide +kernel) rfl rfl (by decide +kernel) rfl rfl (Nat.le_of_ble_eq_true rfl) dX8_41 (fun H locs hP hD hS => ?_)
  have hP : va_P D am_cls [(h0, .inr (8, [.int 0, .ref q7, .ref q15, .int 0, .ref q23, .ref q31, .ref q39, .null, .null, .null, .null, .null, .int 0, .null, .null, .null, .null, .null])), (q7, ct_ia cI 8), (q15, ct_ia cI 8), (q23, ct_ia cI 10), (q31, ct_ia cI 10), (q39, ct_ia cI 10)] H := hP
  have hD : va_D A [(h0, .inr (8, [.int 0, .ref q7, .ref q15, .int 0, .ref q23, .ref q31, .ref q39, .null, .null, .null, .null, .null, .int 0, .null, .null, .null, .null, .null])), (q7, ct_ia cI 8), (q15, ct_ia cI 8), (q23, ct_ia cI 10), (q31, ct_ia cI 10), (q39, ct_ia cI 10)] := hD
  refine lv_aload_n hx hb dX8_44 rfl (lv_at hl 0 rfl) ?_
  refine lv_bipush (v := 10) hx hb dX8_45 (by decide) ?_
  refine ct_newi (N := 10) hx hb hts hK hP hD hS hA (by decide) (by decide) (Nat.le_of_ble_eq_true rfl) (Nat.le_of_ble_eq_true rfl) (Nat.le_of_ble_eq_true rfl) dX8_47 (fun q47 H hP hD hS => ?_)
  have hP : va_P D am_cls [(h0, .inr (8, [.int 0, .ref q7, .ref q15, .int 0, .ref q23, .ref q31, .ref q39, .null, .null, .null, .null, .null, .int 0, .null, .null, .null, .null, .null])), (q7, ct_ia cI 8), (q15, ct_ia cI 8), (q23, ct_ia cI 10), (q31, ct_ia cI 10), (q39, ct_ia cI 10), (q47, ct_ia cI 10)] H := hP
  have hD : va_D A [(h0, .inr (8, [.int 0, .ref q7, .ref q15, .int 0, .ref q23, .ref q31, .ref q39, .null, .null, .null, .null, .null, .int 0, .null, .null, .null, .null, .null])), (q7, ct_ia cI 8), (q15, ct_ia cI 8), (q23, ct_ia cI 10), (q31, ct_ia cI 10), (q39, ct_ia cI 10), (q47, ct_ia cI 10)] := hD
  refine W.widen (k := 6) (n := 56) (Nat.le_of_ble_eq_true rfl) (Nat.le_of_ble_eq_true rfl) ?_
  refine ct_put (ci := 8) (q := (RX8, TX8, 18)) (i1 := 641) (ty := .array .int) hx hb hts rfl hown hin hK hP hD hS rfl 7 (by decide) (by decide +kernel) rfl rfl (by decide +kernel) rfl rfl (Nat.le_of_ble_eq_true rfl) dX8_49 (fun H locs hP hD hS => ?_)
  have hP : va_P D am_cls [(h0, .inr (8, [.int 0, .ref q7, .ref q15, .int 0, .ref q23, .ref q31, .ref q39, .ref q47, .null, .null, .null, .null, .int 0, .null, .null, .null, .null, .null])), (q7, ct_ia cI 8), (q15, ct_ia cI 8), (q23, ct_ia cI 10), (q31, ct_ia cI 10), (q39, ct_ia cI 10), (q47, ct_ia cI 10)] H := hP
  have hD : va_D A [(h0, .inr (8, [.int 0, .ref q7, .ref q15, .int 0, .ref q23, .ref q31, .ref q39, .ref q47, .null, .null, .null, .null, .int 0, .null, .null, .null, .null, .null])), (q7, ct_ia cI 8), (q15, ct_ia cI 8), (q23, ct_ia cI 10), (q31, ct_ia cI 10), (q39, ct_ia cI 10), (q47, ct_ia cI 10)] := hD
  refine lv_aload_n hx hb dX8_52 rfl (lv_at hl 0 rfl) ?_
  refine lv_bipush (v := 10) hx hb dX8_53 (by decide) ?_
  refine ct_newi (N := 10) hx hb hts hK hP hD hS hA (by decide) (by decide) (Nat.le_of_ble_eq_true rfl) (Nat.le_of_ble_eq_true rfl) (Nat.le_of_ble_eq_true rfl) dX8_55 (fun q55 H hP hD hS => ?_)
  have hP : va_P D am_cls [(h0, .inr (8, [.int 0, .ref q7, .ref q15, .int 0, .ref q23, .ref q31, .ref q39, .ref q47, .null, .null, .null, .null, .int 0, .null, .null, .null, .null, .null])), (q7, ct_ia cI 8), (q15, ct_ia cI 8), (q23, ct_ia cI 10), (q31, ct_ia cI 10), (q39, ct_ia cI 10), (q47, ct_ia cI 10), (q55, ct_ia cI 10)] H := hP
  have hD : va_D A [(h0, .inr (8, [.int 0, .ref q7, .ref q15, .int 0, .ref q23, .ref q31, .ref q39, .ref q47, .null, .null, .null, .null, .int 0, .null, .null, .null, .null, .null])), (q7, ct_ia cI 8), (q15, ct_ia cI 8), (q23, ct_ia cI 10), (q31, ct_ia cI 10), (q39, ct_ia cI 10), (q47, ct_ia cI 10), (q55, ct_ia cI 10)] := hD
  refine W.widen (k := 7) (n := 66) (Nat.le_of_ble_eq_true rfl) (Nat.le_of_ble_eq_true rfl) ?_
  refine ct_put (ci := 8) (q := (RX8, TX8, 18)) (i1 := 642) (ty := .array .int) hx hb hts rfl hown hin hK hP hD hS rfl 8 (by decide) (by decide +kernel) rfl rfl (by decide +kernel) rfl rfl (Nat.le_of_ble_eq_true rfl) dX8_57 (fun H locs hP hD hS => ?_)
  have hP : va_P D am_cls [(h0, .inr (8, [.int 0, .ref q7, .ref q15, .int 0, .ref q23, .ref q31, .ref q39, .ref q47, .ref q55, .null, .null, .null, .int 0, .null, .null, .null, .null, .null])), (q7, ct_ia cI 8), (q15, ct_ia cI 8), (q23, ct_ia cI 10), (q31, ct_ia cI 10), (q39, ct_ia cI 10), (q47, ct_ia cI 10), (q55, ct_ia cI 10)] H := hP
  have hD : va_D A [(h0, .inr (8, [.int 0, .ref q7, .ref q15, .int 0, .ref q23, .ref q31, .ref q39, .ref q47, .ref q55, .null, .null, .null, .int 0, .null, .null, .null, .null, .null])), (q7, ct_ia cI 8), (q15, ct_ia cI 8), (q23, ct_ia cI 10), (q31, ct_ia cI 10), (q39, ct_ia cI 10), (q47, ct_ia cI 10), (q55, ct_ia cI 10)] := hD
  refine lv_aload_n hx hb dX8_60 rfl (lv_at hl 0 rfl) ?_
  refine lv_bipush (v := 10) hx hb dX8_61 (by decide) ?_
  refine ct_newz (N := 10) hx hb hts hK hP hD hS hA (by decide) (by decide) (Nat.le_of_ble_eq_true rfl) (Nat.le_of_ble_eq_true rfl) (Nat.le_of_ble_eq_true rfl) dX8_63 (fun q63 H hP hD hS => ?_)
  have hP : va_P D am_cls [(h0, .inr (8, [.int 0, .ref q7, .ref q15, .int 0, .ref q23, .ref q31, .ref q39, .ref q47, .ref q55, .null, .null, .null, .int 0, .null, .null, .null, .null, .null])), (q7, ct_ia cI 8), (q15, ct_ia cI 8), (q23, ct_ia cI 10), (q31, ct_ia cI 10), (q39, ct_ia cI 10), (q47, ct_ia cI 10), (q55, ct_ia cI 10), (q63, ct_ia cZ 10)] H := hP
  have hD : va_D A [(h0, .inr (8, [.int 0, .ref q7, .ref q15, .int 0, .ref q23, .ref q31, .ref q39, .ref q47, .ref q55, .null, .null, .null, .int 0, .null, .null, .null, .null, .null])), (q7, ct_ia cI 8), (q15, ct_ia cI 8), (q23, ct_ia cI 10), (q31, ct_ia cI 10), (q39, ct_ia cI 10), (q47, ct_ia cI 10), (q55, ct_ia cI 10), (q63, ct_ia cZ 10)] := hD
  refine W.widen (k := 8) (n := 76) (Nat.le_of_ble_eq_true rfl) (Nat.le_of_ble_eq_true rfl) ?_
  refine ct_put (ci := 8) (q := (RX8, TX8, 18)) (i1 := 643) (ty := .array .boolean) hx hb hts rfl hown hin hK hP hD hS rfl 9 (by decide) (by decide +kernel) rfl rfl (by decide +kernel) rfl rfl (Nat.le_of_ble_eq_true rfl) dX8_65 (fun H locs hP hD hS => ?_)
  have hP : va_P D am_cls [(h0, .inr (8, [.int 0, .ref q7, .ref q15, .int 0, .ref q23, .ref q31, .ref q39, .ref q47, .ref q55, .ref q63, .null, .null, .int 0, .null, .null, .null, .null, .null])), (q7, ct_ia cI 8), (q15, ct_ia cI 8), (q23, ct_ia cI 10), (q31, ct_ia cI 10), (q39, ct_ia cI 10), (q47, ct_ia cI 10), (q55, ct_ia cI 10), (q63, ct_ia cZ 10)] H := hP
  have hD : va_D A [(h0, .inr (8, [.int 0, .ref q7, .ref q15, .int 0, .ref q23, .ref q31, .ref q39, .ref q47, .ref q55, .ref q63, .null, .null, .int 0, .null, .null, .null, .null, .null])), (q7, ct_ia cI 8), (q15, ct_ia cI 8), (q23, ct_ia cI 10), (q31, ct_ia cI 10), (q39, ct_ia cI 10), (q47, ct_ia cI 10), (q55, ct_ia cI 10), (q63, ct_ia cZ 10)] := hD
  refine lv_aload_n hx hb dX8_68 rfl (lv_at hl 0 rfl) ?_
  refine lv_bipush (v := 81) hx hb dX8_69 (by decide) ?_
  refine ct_newi (N := 81) hx hb hts hK hP hD hS hA (by decide) (by decide) (Nat.le_of_ble_eq_true rfl) (Nat.le_of_ble_eq_true rfl) (Nat.le_of_ble_eq_true rfl) dX8_71 (fun q71 H hP hD hS => ?_)
  have hP : va_P D am_cls [(h0, .inr (8, [.int 0, .ref q7, .ref q15, .int 0, .ref q23, .ref q31, .ref q39, .ref q47, .ref q55, .ref q63, .null, .null, .int 0, .null, .null, .null, .null, .null])), (q7, ct_ia cI 8), (q15, ct_ia cI 8), (q23, ct_ia cI 10), (q31, ct_ia cI 10), (q39, ct_ia cI 10), (q47, ct_ia cI 10), (q55, ct_ia cI 10), (q63, ct_ia cZ 10), (q71, ct_ia cI 81)] H := hP
  have hD : va_D A [(h0, .inr (8, [.int 0, .ref q7, .ref q15, .int 0, .ref q23, .ref q31, .ref q39, .ref q47, .ref q55, .ref q63, .null, .null, .int 0, .null, .null, .null, .null, .null])), (q7, ct_ia cI 8), (q15, ct_ia cI 8), (q23, ct_ia cI 10), (q31, ct_ia cI 10), (q39, ct_ia cI 10), (q47, ct_ia cI 10), (q55, ct_ia cI 10), (q63, ct_ia cZ 10), (q71, ct_ia cI 81)] := hD
  refine W.widen (k := 9) (n := 157) (Nat.le_of_ble_eq_true rfl) (Nat.le_of_ble_eq_true rfl) ?_
  refine ct_put (ci := 8) (q := (RX8, TX8, 18)) (i1 := 644) (ty := .array .int) hx hb hts rfl hown hin hK hP hD hS rfl 10 (by decide) (by decide +kernel) rfl rfl (by decide +kernel) rfl rfl (Nat.le_of_ble_eq_true rfl) dX8_73 (fun H locs hP hD hS => ?_)
  have hP : va_P D am_cls [(h0, .inr (8, [.int 0, .ref q7, .ref q15, .int 0, .ref q23, .ref q31, .ref q39, .ref q47, .ref q55, .ref q63, .ref q71, .null, .int 0, .null, .null, .null, .null, .null])), (q7, ct_ia cI 8), (q15, ct_ia cI 8), (q23, ct_ia cI 10), (q31, ct_ia cI 10), (q39, ct_ia cI 10), (q47, ct_ia cI 10), (q55, ct_ia cI 10), (q63, ct_ia cZ 10), (q71, ct_ia cI 81)] H := hP
  have hD : va_D A [(h0, .inr (8, [.int 0, .ref q7, .ref q15, .int 0, .ref q23, .ref q31, .ref q39, .ref q47, .ref q55, .ref q63, .ref q71, .null, .int 0, .null, .null, .null, .null, .null])), (q7, ct_ia cI 8), (q15, ct_ia cI 8), (q23, ct_ia cI 10), (q31, ct_ia cI 10), (q39, ct_ia cI 10), (q47, ct_ia cI 10), (q55, ct_ia cI 10), (q63, ct_ia cZ 10), (q71, ct_ia cI 81)] := hD
  refine lv_aload_n hx hb dX8_76 rfl (lv_at hl 0 rfl) ?_
  refine lv_bipush (v := 9) hx hb dX8_77 (by decide) ?_
  refine ct_newi (N := 9) hx hb hts hK hP hD hS hA (by decide) (by decide) (Nat.le_of_ble_eq_true rfl) (Nat.le_of_ble_eq_true rfl) (Nat.le_of_ble_eq_true rfl) dX8_79 (fun q79 H hP hD hS => ?_)
  have hP : va_P D am_cls [(h0, .inr (8, [.int 0, .ref q7, .ref q15, .int 0, .ref q23, .ref q31, .ref q39, .ref q47, .ref q55, .ref q63, .ref q71, .null, .int 0, .null, .null, .null, .null, .null])), (q7, ct_ia cI 8), (q15, ct_ia cI 8), (q23, ct_ia cI 10), (q31, ct_ia cI 10), (q39, ct_ia cI 10), (q47, ct_ia cI 10), (q55, ct_ia cI 10), (q63, ct_ia cZ 10), (q71, ct_ia cI 81), (q79, ct_ia cI 9)] H := hP
  have hD : va_D A [(h0, .inr (8, [.int 0, .ref q7, .ref q15, .int 0, .ref q23, .ref q31, .ref q39, .ref q47, .ref q55, .ref q63, .ref q71, .null, .int 0, .null, .null, .null, .null, .null])), (q7, ct_ia cI 8), (q15, ct_ia cI 8), (q23, ct_ia cI 10), (q31, ct_ia cI 10), (q39, ct_ia cI 10), (q47, ct_ia cI 10), (q55, ct_ia cI 10), (q63, ct_ia cZ 10), (q71, ct_ia cI 81), (q79, ct_ia cI 9)] := hD
  refine W.widen (k := 10) (n := 166) (Nat.le_of_ble_eq_true rfl) (Nat.le_of_ble_eq_true rfl) ?_
  refine ct_put (ci := 8) (q := (RX8, TX8, 18)) (i1 := 645) (ty := .array .int) hx hb hts rfl hown hin hK hP hD hS rfl 11 (by decide) (by decide +kernel) rfl rfl (by decide +kernel) rfl rfl (Nat.le_of_ble_eq_true rfl) dX8_81 (fun H locs hP hD hS => ?_)
  have hP : va_P D am_cls [(h0, .inr (8, [.int 0, .ref q7, .ref q15, .int 0, .ref q23, .ref q31, .ref q39, .ref q47, .ref q55, .ref q63, .ref q71, .ref q79, .int 0, .null, .null, .null, .null, .null])), (q7, ct_ia cI 8), (q15, ct_ia cI 8), (q23, ct_ia cI 10), (q31, ct_ia cI 10), (q39, ct_ia cI 10), (q47, ct_ia cI 10), (q55, ct_ia cI 10), (q63, ct_ia cZ 10), (q71, ct_ia cI 81), (q79, ct_ia cI 9)] H := hP
  have hD : va_D A [(h0, .inr (8, [.int 0, .ref q7, .ref q15, .int 0, .ref q23, .ref q31, .ref q39, .ref q47, .ref q55, .ref q63, .ref q71, .ref q79, .int 0, .null, .null, .null, .null, .null])), (q7, ct_ia cI 8), (q15, ct_ia cI 8), (q23, ct_ia cI 10), (q31, ct_ia cI 10), (q39, ct_ia cI 10), (q47, ct_ia cI 10), (q55, ct_ia cI 10), (q63, ct_ia cZ 10), (q71, ct_ia cI 81), (q79, ct_ia cI 9)] := hD
  refine lv_aload_n hx hb dX8_84 rfl (lv_at hl 0 rfl) ?_
  refine lv_bipush (v := 8) hx hb dX8_85 (by decide) ?_
  refine ct_newi (N := 8) hx hb hts hK hP hD hS hA (by decide) (by decide) (Nat.le_of_ble_eq_true rfl) (Nat.le_of_ble_eq_true rfl) (Nat.le_of_ble_eq_true rfl) dX8_87 (fun q87 H hP hD hS => ?_)
  have hP : va_P D am_cls [(h0, .inr (8, [.int 0, .ref q7, .ref q15, .int 0, .ref q23, .ref q31, .ref q39, .ref q47, .ref q55, .ref q63, .ref q71, .ref q79, .int 0, .null, .null, .null, .null, .null])), (q7, ct_ia cI 8), (q15, ct_ia cI 8), (q23, ct_ia cI 10), (q31, ct_ia cI 10), (q39, ct_ia cI 10), (q47, ct_ia cI 10), (q55, ct_ia cI 10), (q63, ct_ia cZ 10), (q71, ct_ia cI 81), (q79, ct_ia cI 9), (q87, ct_ia cI 8)] H := hP
  have hD : va_D A [(h0, .inr (8, [.int 0, .ref q7, .ref q15, .int 0, .ref q23, .ref q31, .ref q39, .ref q47, .ref q55, .ref q63, .ref q71, .ref q79, .int 0, .null, .null, .null, .null, .null])), (q7, ct_ia cI 8), (q15, ct_ia cI 8), (q23, ct_ia cI 10), (q31, ct_ia cI 10), (q39, ct_ia cI 10), (q47, ct_ia cI 10), (q55, ct_ia cI 10), (q63, ct_ia cZ 10), (q71, ct_ia cI 81), (q79, ct_ia cI 9), (q87, ct_ia cI 8)] := hD
  refine W.widen (k := 11) (n := 174) (Nat.le_of_ble_eq_true rfl) (Nat.le_of_ble_eq_true rfl) ?_
  refine ct_put (ci := 8) (q := (RX8, TX8, 18)) (i1 := 647) (ty := .array .int) hx hb hts rfl hown hin hK hP hD hS rfl 13 (by decide) (by decide +kernel) rfl rfl (by decide +kernel) rfl rfl (Nat.le_of_ble_eq_true rfl) dX8_89 (fun H locs hP hD hS => ?_)
  have hP : va_P D am_cls [(h0, .inr (8, [.int 0, .ref q7, .ref q15, .int 0, .ref q23, .ref q31, .ref q39, .ref q47, .ref q55, .ref q63, .ref q71, .ref q79, .int 0, .ref q87, .null, .null, .null, .null])), (q7, ct_ia cI 8), (q15, ct_ia cI 8), (q23, ct_ia cI 10), (q31, ct_ia cI 10), (q39, ct_ia cI 10), (q47, ct_ia cI 10), (q55, ct_ia cI 10), (q63, ct_ia cZ 10), (q71, ct_ia cI 81), (q79, ct_ia cI 9), (q87, ct_ia cI 8)] H := hP
  have hD : va_D A [(h0, .inr (8, [.int 0, .ref q7, .ref q15, .int 0, .ref q23, .ref q31, .ref q39, .ref q47, .ref q55, .ref q63, .ref q71, .ref q79, .int 0, .ref q87, .null, .null, .null, .null])), (q7, ct_ia cI 8), (q15, ct_ia cI 8), (q23, ct_ia cI 10), (q31, ct_ia cI 10), (q39, ct_ia cI 10), (q47, ct_ia cI 10), (q55, ct_ia cI 10), (q63, ct_ia cZ 10), (q71, ct_ia cI 81), (q79, ct_ia cI 9), (q87, ct_ia cI 8)] := hD
  refine lv_aload_n hx hb dX8_92 rfl (lv_at hl 0 rfl) ?_
  refine lv_bipush (v := 8) hx hb dX8_93 (by decide) ?_
  refine ct_newi (N := 8) hx hb hts hK hP hD hS hA (by decide) (by decide) (Nat.le_of_ble_eq_true rfl) (Nat.le_of_ble_eq_true rfl) (Nat.le_of_ble_eq_true rfl) dX8_95 (fun q95 H hP hD hS => ?_)
  have hP : va_P D am_cls [(h0, .inr (8, [.int 0, .ref q7, .ref q15, .int 0, .ref q23, .ref q31, .ref q39, .ref q47, .ref q55, .ref q63, .ref q71, .ref q79, .int 0, .ref q87, .null, .null, .null, .null])), (q7, ct_ia cI 8), (q15, ct_ia cI 8), (q23, ct_ia cI 10), (q31, ct_ia cI 10), (q39, ct_ia cI 10), (q47, ct_ia cI 10), (q55, ct_ia cI 10), (q63, ct_ia cZ 10), (q71, ct_ia cI 81), (q79, ct_ia cI 9), (q87, ct_ia cI 8), (q95, ct_ia cI 8)] H := hP
  have hD : va_D A [(h0, .inr (8, [.int 0, .ref q7, .ref q15, .int 0, .ref q23, .ref q31, .ref q39, .ref q47, .ref q55, .ref q63, .ref q71, .ref q79, .int 0, .ref q87, .null, .null, .null, .null])), (q7, ct_ia cI 8), (q15, ct_ia cI 8), (q23, ct_ia cI 10), (q31, ct_ia cI 10), (q39, ct_ia cI 10), (q47, ct_ia cI 10), (q55, ct_ia cI 10), (q63, ct_ia cZ 10), (q71, ct_ia cI 81), (q79, ct_ia cI 9), (q87, ct_ia cI 8), (q95, ct_ia cI 8)] := hD
  refine W.widen (k := 12) (n := 182) (Nat.le_of_ble_eq_true rfl) (Nat.le_of_ble_eq_true rfl) ?_
  refine ct_put (ci := 8) (q := (RX8, TX8, 18)) (i1 := 648) (ty := .array .int) hx hb hts rfl hown hin hK hP hD hS rfl 14 (by decide) (by decide +kernel) rfl rfl (by decide +kernel) rfl rfl (Nat.le_of_ble_eq_true rfl) dX8_97 (fun H locs hP hD hS => ?_)
  have hP : va_P D am_cls [(h0, .inr (8, [.int 0, .ref q7, .ref q15, .int 0, .ref q23, .ref q31, .ref q39, .ref q47, .ref q55, .ref q63, .ref q71, .ref q79, .int 0, .ref q87, .ref q95, .null, .null, .null])), (q7, ct_ia cI 8), (q15, ct_ia cI 8), (q23, ct_ia cI 10), (q31, ct_ia cI 10), (q39, ct_ia cI 10), (q47, ct_ia cI 10), (q55, ct_ia cI 10), (q63, ct_ia cZ 10), (q71, ct_ia cI 81), (q79, ct_ia cI 9), (q87, ct_ia cI 8), (q95, ct_ia cI 8)] H := hP
  have hD : va_D A [(h0, .inr (8, [.int 0, .ref q7, .ref q15, .int 0, .ref q23, .ref q31, .ref q39, .ref q47, .ref q55, .ref q63, .ref q71, .ref q79, .int 0, .ref q87, .ref q95, .null, .null, .null])), (q7, ct_ia cI 8), (q15, ct_ia cI 8), (q23, ct_ia cI 10), (q31, ct_ia cI 10), (q39, ct_ia cI 10), (q47, ct_ia cI 10), (q55, ct_ia cI 10), (q63, ct_ia cZ 10), (q71, ct_ia cI 81), (q79, ct_ia cI 9), (q87, ct_ia cI 8), (q95, ct_ia cI 8)] := hD
  refine lv_aload_n hx hb dX8_100 rfl (lv_at hl 0 rfl) ?_
  refine lv_sipush (v := 256) hx hb dX8_101 (by decide) ?_
  refine ct_newi (N := 256) hx hb hts hK hP hD hS hA (by decide) (by decide) (Nat.le_of_ble_eq_true rfl) (Nat.le_of_ble_eq_true rfl) (Nat.le_of_ble_eq_true rfl) dX8_104 (fun q104 H hP hD hS => ?_)
  have hP : va_P D am_cls [(h0, .inr (8, [.int 0, .ref q7, .ref q15, .int 0, .ref q23, .ref q31, .ref q39, .ref q47, .ref q55, .ref q63, .ref q71, .ref q79, .int 0, .ref q87, .ref q95, .null, .null, .null])), (q7, ct_ia cI 8), (q15, ct_ia cI 8), (q23, ct_ia cI 10), (q31, ct_ia cI 10), (q39, ct_ia cI 10), (q47, ct_ia cI 10), (q55, ct_ia cI 10), (q63, ct_ia cZ 10), (q71, ct_ia cI 81), (q79, ct_ia cI 9), (q87, ct_ia cI 8), (q95, ct_ia cI 8), (q104, ct_ia cI 256)] H := hP
  have hD : va_D A [(h0, .inr (8, [.int 0, .ref q7, .ref q15, .int 0, .ref q23, .ref q31, .ref q39, .ref q47, .ref q55, .ref q63, .ref q71, .ref q79, .int 0, .ref q87, .ref q95, .null, .null, .null])), (q7, ct_ia cI 8), (q15, ct_ia cI 8), (q23, ct_ia cI 10), (q31, ct_ia cI 10), (q39, ct_ia cI 10), (q47, ct_ia cI 10), (q55, ct_ia cI 10), (q63, ct_ia cZ 10), (q71, ct_ia cI 81), (q79, ct_ia cI 9), (q87, ct_ia cI 8), (q95, ct_ia cI 8), (q104, ct_ia cI 256)] := hD
  refine W.widen (k := 13) (n := 438) (Nat.le_of_ble_eq_true rfl) (Nat.le_of_ble_eq_true rfl) ?_
  refine ct_put (ci := 8) (q := (RX8, TX8, 18)) (i1 := 649) (ty := .array .int) hx hb hts rfl hown hin hK hP hD hS rfl 15 (by decide) (by decide +kernel) rfl rfl (by decide +kernel) rfl rfl (Nat.le_of_ble_eq_true rfl) dX8_106 (fun H locs hP hD hS => ?_)
  have hP : va_P D am_cls [(h0, .inr (8, [.int 0, .ref q7, .ref q15, .int 0, .ref q23, .ref q31, .ref q39, .ref q47, .ref q55, .ref q63, .ref q71, .ref q79, .int 0, .ref q87, .ref q95, .ref q104, .null, .null])), (q7, ct_ia cI 8), (q15, ct_ia cI 8), (q23, ct_ia cI 10), (q31, ct_ia cI 10), (q39, ct_ia cI 10), (q47, ct_ia cI 10), (q55, ct_ia cI 10), (q63, ct_ia cZ 10), (q71, ct_ia cI 81), (q79, ct_ia cI 9), (q87, ct_ia cI 8), (q95, ct_ia cI 8), (q104, ct_ia cI 256)] H := hP
  have hD : va_D A [(h0, .inr (8, [.int 0, .ref q7, .ref q15, .int 0, .ref q23, .ref q31, .ref q39, .ref q47, .ref q55, .ref q63, .ref q71, .ref q79, .int 0, .ref q87, .ref q95, .ref q104, .null, .null])), (q7, ct_ia cI 8), (q15, ct_ia cI 8), (q23, ct_ia cI 10), (q31, ct_ia cI 10), (q39, ct_ia cI 10), (q47, ct_ia cI 10), (q55, ct_ia cI 10), (q63, ct_ia cZ 10), (q71, ct_ia cI 81), (q79, ct_ia cI 9), (q87, ct_ia cI 8), (q95, ct_ia cI 8), (q104, ct_ia cI 256)] := hD
  refine lv_aload_n hx hb dX8_109 rfl (lv_at hl 0 rfl) ?_
  refine lv_iconst (v := 3) hx hb dX8_110 (by decide) ?_
  refine ct_newi (N := 3) hx hb hts hK hP hD hS hA (by decide) (by decide) (Nat.le_of_ble_eq_true rfl) (Nat.le_of_ble_eq_true rfl) (Nat.le_of_ble_eq_true rfl) dX8_111 (fun q111 H hP hD hS => ?_)
  have hP : va_P D am_cls [(h0, .inr (8, [.int 0, .ref q7, .ref q15, .int 0, .ref q23, .ref q31, .ref q39, .ref q47, .ref q55, .ref q63, .ref q71, .ref q79, .int 0, .ref q87, .ref q95, .ref q104, .null, .null])), (q7, ct_ia cI 8), (q15, ct_ia cI 8), (q23, ct_ia cI 10), (q31, ct_ia cI 10), (q39, ct_ia cI 10), (q47, ct_ia cI 10), (q55, ct_ia cI 10), (q63, ct_ia cZ 10), (q71, ct_ia cI 81), (q79, ct_ia cI 9), (q87, ct_ia cI 8), (q95, ct_ia cI 8), (q104, ct_ia cI 256), (q111, ct_ia cI 3)] H := hP
  have hD : va_D A [(h0, .inr (8, [.int 0, .ref q7, .ref q15, .int 0, .ref q23, .ref q31, .ref q39, .ref q47, .ref q55, .ref q63, .ref q71, .ref q79, .int 0, .ref q87, .ref q95, .ref q104, .null, .null])), (q7, ct_ia cI 8), (q15, ct_ia cI 8), (q23, ct_ia cI 10), (q31, ct_ia cI 10), (q39, ct_ia cI 10), (q47, ct_ia cI 10), (q55, ct_ia cI 10), (q63, ct_ia cZ 10), (q71, ct_ia cI 81), (q79, ct_ia cI 9), (q87, ct_ia cI 8), (q95, ct_ia cI 8), (q104, ct_ia cI 256), (q111, ct_ia cI 3)] := hD
  refine W.widen (k := 14) (n := 441) (Nat.le_of_ble_eq_true rfl) (Nat.le_of_ble_eq_true rfl) ?_
  refine ct_put (ci := 8) (q := (RX8, TX8, 18)) (i1 := 650) (ty := .array .int) hx hb hts rfl hown hin hK hP hD hS rfl 16 (by decide) (by decide +kernel) rfl rfl (by decide +kernel) rfl rfl (Nat.le_of_ble_eq_true rfl) dX8_113 (fun H locs hP hD hS => ?_)
  have hP : va_P D am_cls [(h0, .inr (8, [.int 0, .ref q7, .ref q15, .int 0, .ref q23, .ref q31, .ref q39, .ref q47, .ref q55, .ref q63, .ref q71, .ref q79, .int 0, .ref q87, .ref q95, .ref q104, .ref q111, .null])), (q7, ct_ia cI 8), (q15, ct_ia cI 8), (q23, ct_ia cI 10), (q31, ct_ia cI 10), (q39, ct_ia cI 10), (q47, ct_ia cI 10), (q55, ct_ia cI 10), (q63, ct_ia cZ 10), (q71, ct_ia cI 81), (q79, ct_ia cI 9), (q87, ct_ia cI 8), (q95, ct_ia cI 8), (q104, ct_ia cI 256), (q111, ct_ia cI 3)] H := hP
  have hD : va_D A [(h0, .inr (8, [.int 0, .ref q7, .ref q15, .int 0, .ref q23, .ref q31, .ref q39, .ref q47, .ref q55, .ref q63, .ref q71, .ref q79, .int 0, .ref q87, .ref q95, .ref q104, .ref q111, .null])), (q7, ct_ia cI 8), (q15, ct_ia cI 8), (q23, ct_ia cI 10), (q31, ct_ia cI 10), (q39, ct_ia cI 10), (q47, ct_ia cI 10), (q55, ct_ia cI 10), (q63, ct_ia cZ 10), (q71, ct_ia cI 81), (q79, ct_ia cI 9), (q87, ct_ia cI 8), (q95, ct_ia cI 8), (q104, ct_ia cI 256), (q111, ct_ia cI 3)] := hD
  refine lv_aload_n hx hb dX8_116 rfl (lv_at hl 0 rfl) ?_
  refine lv_bipush (v := 24) hx hb dX8_117 (by decide) ?_
  refine ct_newi (N := 24) hx hb hts hK hP hD hS hA (by decide) (by decide) (Nat.le_of_ble_eq_true rfl) (Nat.le_of_ble_eq_true rfl) (Nat.le_of_ble_eq_true rfl) dX8_119 (fun q119 H hP hD hS => ?_)
  have hP : va_P D am_cls [(h0, .inr (8, [.int 0, .ref q7, .ref q15, .int 0, .ref q23, .ref q31, .ref q39, .ref q47, .ref q55, .ref q63, .ref q71, .ref q79, .int 0, .ref q87, .ref q95, .ref q104, .ref q111, .null])), (q7, ct_ia cI 8), (q15, ct_ia cI 8), (q23, ct_ia cI 10), (q31, ct_ia cI 10), (q39, ct_ia cI 10), (q47, ct_ia cI 10), (q55, ct_ia cI 10), (q63, ct_ia cZ 10), (q71, ct_ia cI 81), (q79, ct_ia cI 9), (q87, ct_ia cI 8), (q95, ct_ia cI 8), (q104, ct_ia cI 256), (q111, ct_ia cI 3), (q119, ct_ia cI 24)] H := hP
  have hD : va_D A [(h0, .inr (8, [.int 0, .ref q7, .ref q15, .int 0, .ref q23, .ref q31, .ref q39, .ref q47, .ref q55, .ref q63, .ref q71, .ref q79, .int 0, .ref q87, .ref q95, .ref q104, .ref q111, .null])), (q7, ct_ia cI 8), (q15, ct_ia cI 8), (q23, ct_ia cI 10), (q31, ct_ia cI 10), (q39, ct_ia cI 10), (q47, ct_ia cI 10), (q55, ct_ia cI 10), (q63, ct_ia cZ 10), (q71, ct_ia cI 81), (q79, ct_ia cI 9), (q87, ct_ia cI 8), (q95, ct_ia cI 8), (q104, ct_ia cI 256), (q111, ct_ia cI 3), (q119, ct_ia cI 24)] := hD
  refine W.widen (k := 15) (n := 465) (Nat.le_of_ble_eq_true rfl) (Nat.le_of_ble_eq_true rfl) ?_
  refine ct_put (ci := 8) (q := (RX8, TX8, 18)) (i1 := 651) (ty := .array .int) hx hb hts rfl hown hin hK hP hD hS rfl 17 (by decide) (by decide +kernel) rfl rfl (by decide +kernel) rfl rfl (Nat.le_of_ble_eq_true rfl) dX8_121 (fun H locs hP hD hS => ?_)
  have hP : va_P D am_cls [(h0, .inr (8, [.int 0, .ref q7, .ref q15, .int 0, .ref q23, .ref q31, .ref q39, .ref q47, .ref q55, .ref q63, .ref q71, .ref q79, .int 0, .ref q87, .ref q95, .ref q104, .ref q111, .ref q119])), (q7, ct_ia cI 8), (q15, ct_ia cI 8), (q23, ct_ia cI 10), (q31, ct_ia cI 10), (q39, ct_ia cI 10), (q47, ct_ia cI 10), (q55, ct_ia cI 10), (q63, ct_ia cZ 10), (q71, ct_ia cI 81), (q79, ct_ia cI 9), (q87, ct_ia cI 8), (q95, ct_ia cI 8), (q104, ct_ia cI 256), (q111, ct_ia cI 3), (q119, ct_ia cI 24)] H := hP
  have hD : va_D A [(h0, .inr (8, [.int 0, .ref q7, .ref q15, .int 0, .ref q23, .ref q31, .ref q39, .ref q47, .ref q55, .ref q63, .ref q71, .ref q79, .int 0, .ref q87, .ref q95, .ref q104, .ref q111, .ref q119])), (q7, ct_ia cI 8), (q15, ct_ia cI 8), (q23, ct_ia cI 10), (q31, ct_ia cI 10), (q39, ct_ia cI 10), (q47, ct_ia cI 10), (q55, ct_ia cI 10), (q63, ct_ia cZ 10), (q71, ct_ia cI 81), (q79, ct_ia cI 9), (q87, ct_ia cI 8), (q95, ct_ia cI 8), (q104, ct_ia cI 256), (q111, ct_ia cI 3), (q119, ct_ia cI 24)] := hD
  have hP9 := hP.sub (ws' := wX8 cI cZ cB h0 (fun k => ([q7, q15, q23, q31, q39, q47, q55, q63, q71, q79, q87, q95, q104, q111, q119] : List Nat).getD k 0)) [0, 1, 2, 3, 4, 5, 6, 7, 8, 9, 10, 11, 12, 13, 14, 15] rfl
  have hD9 := hD.sub (ws' := wX8 cI cZ cB h0 (fun k => ([q7, q15, q23, q31, q39, q47, q55, q63, q71, q79, q87, q95, q104, q111, q119] : List Nat).getD k 0)) [0, 1, 2, 3, 4, 5, 6, 7, 8, 9, 10, 11, 12, 13, 14, 15] (by decide +kernel) rfl
  exact W.vret hx hb hr (fun t ht hW => ⟨⟨_, rfl, trivial, by rw [ht]; exact hP9, hD9⟩, hS.F ht⟩) hS.2.2 dX8_124
