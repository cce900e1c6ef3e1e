/-! LetterDays() (printed by wip/whole/gen_init.py) -/
def wX7 (cI cZ cB : ClassId) (h0 : Nat) (u : Nat → Nat) : va_W := [(h0, .inr (7, [.ref (u 0), .ref (u 3), .ref (u 9), .ref (u 24), .ref (u 33), .ref (u 36)])), (u 0, .inr (2, [.int 0, .ref (u 1), .ref (u 2)])), (u 1, ct_ia cI 8), (u 2, ct_ia cI 8), (u 3, .inr (3, [.int 0, .int 0, .ref (u 4), .ref (u 5), .ref (u 6), .ref (u 7), .ref (u 8)])), (u 4, ct_ia cI 10), (u 5, ct_ia cI 10), (u 6, ct_ia cI 10), (u 7, ct_ia cI 10), (u 8, ct_ia cI 10), (u 9, .inr (5, [.int 0, .ref (u 10), .ref (u 11), .ref (u 0), .ref (u 3), .ref (u 17), .int 0, .int 0, .ref (u 12), .ref (u 13), .ref (u 14), .ref (u 15), .ref (u 16)])), (u 10, ct_ia cI 8), (u 11, ct_ia cI 8), (u 12, ct_ia cI 8), (u 13, ct_ia cI 1600), (u 14, ct_ia cI 8), (u 15, ct_ia cI 64), (u 16, ct_ia cI 8), (u 17, .inr (6, [.int 0, .int 0, .ref (u 18), .ref (u 19), .ref (u 20), .int 0, .ref (u 21), .ref (u 22), .ref (u 23)])), (u 18, ct_ia cI 8), (u 19, ct_ia cI 8), (u 20, ct_ia cI 8), (u 21, ct_ia cI 20), (u 22, ct_ia cI 20), (u 23, ct_ia cI 20), (u 24, .inr (1, [.int 0, .ref (u 0), .ref (u 3), .ref (u 26), .ref (u 25), .int 0, .int 0, .int 0, .int 0])), (u 25, ct_ia cI 8), (u 26, .inr (6, [.int 0, .int 0, .ref (u 27), .ref (u 28), .ref (u 29), .int 0, .ref (u 30), .ref (u 31), .ref (u 32)])), (u 27, ct_ia cI 8), (u 28, ct_ia cI 8), (u 29, ct_ia cI 8), (u 30, ct_ia cI 20), (u 31, ct_ia cI 20), (u 32, ct_ia cI 20), (u 33, .inr (4, [.int 0, .ref (u 34), .ref (u 35)])), (u 34, ct_ia cI 8), (u 35, ct_ia cI 256), (u 36, .inl (cB, 3, .inr (.inr (.inr (.inr (va_up (va_up (va_up (fun _ => none) 0 (some (u 37))) 1 (some (u 39))) 2 (some (u 41)))))))), (u 37, .inr (0, [.int 0, .ref (u 38)])), (u 38, ct_ia cI 8), (u 39, .inr (0, [.int 0, .ref (u 40)])), (u 40, ct_ia cI 8), (u 41, .inr (0, [.int 0, .ref (u 42)])), (u 42, ct_ia cI 8)]
abbrev eX7 : va_E := .inr (7, [.null, .null, .null, .null, .null, .null])
theorem fX7 : ∀ j, j < 6 → defaultValue (tyX7 j) = vp_V [.null, .null, .null, .null, .null, .null] j := fun j hj => match j, hj with
  | 0, _ => rfl
  | 1, _ => rfl
  | 2, _ => rfl
  | 3, _ => rfl
  | 4, _ => rfl
  | 5, _ => rfl
  | n + 6, h => absurd h (by omega)
theorem kX7_code : Jvm.Cond.code yX7_init cX7_init 2 none ∈ am_tbl := am_wat_in (i := 56) (by decide +kernel)
theorem kX7_ini : Jvm.Cond.initialized RX7 ∈ am_tbl := am_wat_in (i := 41) (by decide +kernel)
theorem kX7_inst : Jvm.Cond.instanceMethod yX7_init ∈ am_tbl := am_wat_in (i := 55) (by decide +kernel)
theorem dX7_0 : decode cX7_init 0 = .ok (.aload_n 0, 1) := by decide +kernel
theorem dX7_1 : decode cX7_init 1 = .ok (.invokespecial 1, 3) := by decide +kernel
theorem dX7_4 : decode cX7_init 4 = .ok (.aload_n 0, 1) := by decide +kernel
theorem dX7_5 : decode cX7_init 5 = .ok (.new 7, 3) := by decide +kernel
theorem dX7_8 : decode cX7_init 8 = .ok (.dup, 1) := by decide +kernel
theorem dX7_9 : decode cX7_init 9 = .ok (.invokespecial 9, 3) := by decide +kernel
theorem dX7_12 : decode cX7_init 12 = .ok (.putfield 10, 3) := by decide +kernel
theorem dX7_15 : decode cX7_init 15 = .ok (.aload_n 0, 1) := by decide +kernel
theorem dX7_16 : decode cX7_init 16 = .ok (.new 16, 3) := by decide +kernel
theorem dX7_19 : decode cX7_init 19 = .ok (.dup, 1) := by decide +kernel
theorem dX7_20 : decode cX7_init 20 = .ok (.invokespecial 18, 3) := by decide +kernel
theorem dX7_23 : decode cX7_init 23 = .ok (.putfield 19, 3) := by decide +kernel
theorem dX7_26 : decode cX7_init 26 = .ok (.aload_n 0, 1) := by decide +kernel
theorem dX7_27 : decode cX7_init 27 = .ok (.new 23, 3) := by decide +kernel
theorem dX7_30 : decode cX7_init 30 = .ok (.dup, 1) := by decide +kernel
theorem dX7_31 : decode cX7_init 31 = .ok (.aload_n 0, 1) := by decide +kernel
theorem dX7_32 : decode cX7_init 32 = .ok (.getfield 10, 3) := by decide +kernel
theorem dX7_35 : decode cX7_init 35 = .ok (.aload_n 0, 1) := by decide +kernel
theorem dX7_36 : decode cX7_init 36 = .ok (.getfield 19, 3) := by decide +kernel
theorem dX7_39 : decode cX7_init 39 = .ok (.invokespecial 25, 3) := by decide +kernel
theorem dX7_42 : decode cX7_init 42 = .ok (.putfield 28, 3) := by decide +kernel
theorem dX7_45 : decode cX7_init 45 = .ok (.aload_n 0, 1) := by decide +kernel
theorem dX7_46 : decode cX7_init 46 = .ok (.new 32, 3) := by decide +kernel
theorem dX7_49 : decode cX7_init 49 = .ok (.dup, 1) := by decide +kernel
theorem dX7_50 : decode cX7_init 50 = .ok (.aload_n 0, 1) := by decide +kernel
theorem dX7_51 : decode cX7_init 51 = .ok (.getfield 10, 3) := by decide +kernel
theorem dX7_54 : decode cX7_init 54 = .ok (.aload_n 0, 1) := by decide +kernel
theorem dX7_55 : decode cX7_init 55 = .ok (.getfield 19, 3) := by decide +kernel
theorem dX7_58 : decode cX7_init 58 = .ok (.invokespecial 34, 3) := by decide +kernel
theorem dX7_61 : decode cX7_init 61 = .ok (.putfield 35, 3) := by decide +kernel
theorem dX7_64 : decode cX7_init 64 = .ok (.aload_n 0, 1) := by decide +kernel
theorem dX7_65 : decode cX7_init 65 = .ok (.new 39, 3) := by decide +kernel
theorem dX7_68 : decode cX7_init 68 = .ok (.dup, 1) := by decide +kernel
theorem dX7_69 : decode cX7_init 69 = .ok (.invokespecial 41, 3) := by decide +kernel
theorem dX7_72 : decode cX7_init 72 = .ok (.putfield 42, 3) := by decide +kernel
theorem dX7_75 : decode cX7_init 75 = .ok (.aload_n 0, 1) := by decide +kernel
theorem dX7_76 : decode cX7_init 76 = .ok (.iconst 3, 1) := by decide +kernel
theorem dX7_77 : decode cX7_init 77 = .ok (.anewarray 46, 3) := by decide +kernel
theorem dX7_80 : decode cX7_init 80 = .ok (.putfield 48, 3) := by decide +kernel
theorem dX7_83 : decode cX7_init 83 = .ok (.iconst 0, 1) := by decide +kernel
theorem dX7_84 : decode cX7_init 84 = .ok (.istore_n 1, 1) := by decide +kernel
theorem dX7_85 : decode cX7_init 85 = .ok (.iload_n 1, 1) := by decide +kernel
theorem dX7_86 : decode cX7_init 86 = .ok (.iconst 3, 1) := by decide +kernel
theorem dX7_87 : decode cX7_init 87 = .ok (.if_icmp .ge 22, 3) := by decide +kernel
theorem dX7_90 : decode cX7_init 90 = .ok (.aload_n 0, 1) := by decide +kernel
theorem dX7_91 : decode cX7_init 91 = .ok (.getfield 48, 3) := by decide +kernel
theorem dX7_94 : decode cX7_init 94 = .ok (.iload_n 1, 1) := by decide +kernel
theorem dX7_95 : decode cX7_init 95 = .ok (.new 46, 3) := by decide +kernel
theorem dX7_98 : decode cX7_init 98 = .ok (.dup, 1) := by decide +kernel
theorem dX7_99 : decode cX7_init 99 = .ok (.invokespecial 52, 3) := by decide +kernel
theorem dX7_102 : decode cX7_init 102 = .ok (.aastore, 1) := by decide +kernel
theorem dX7_103 : decode cX7_init 103 = .ok (.iinc 1 1, 3) := by decide +kernel
theorem dX7_106 : decode cX7_init 106 = .ok (.goto (-21), 3) := by decide +kernel
theorem dX7_109 : decode cX7_init 109 = .ok (.return_, 1) := by decide +kernel
set_option maxHeartbeats 4000000 in
set_option maxRecDepth 100000 in
theorem c_X7 (l : Launch) (D : va_G) (cI cZ cB : ClassId) (h0 sz : Nat) : ct_Met l D cI cZ cB yX7_init cX7_init 2 { frames := 3, cells := 43, slots := 2296, locals := 54 } [.ref h0] [(h0, eX7)] (wX7 cI cZ cB h0) 43 2296 sz := by
  unfold ct_Met ct_Qm ct_Pm
  refine Met.ofW (cc := cX7_init) (maxL := 2) (ret := none) (by decide) rfl ?_
  intro p e s m args below meth c s₁ B hml hv
  obtain ⟨rfl, hsz, hP, hK, hD0, hN⟩ := hv
  have hx := B.exec
  have hb := B.bytes
  have hr := B.returns
  have hts0 := atoms_spec (ws := ct_wd yX7_init cX7_init 2) B.pre
  have hts : ∀ w ∈ am_tbl, w.before _ s = true := fun w hw => hts0 w (List.mem_cons_of_mem _ hw)
  have hown : s.vm.findClass RX7 = some m.cls := findClass_of_methodNamed B.named
  have hlocks := B.notSynchronized
  have hin : meth.name = "<init>" := (name_of_methodNamed B.named B.method).1
  subst hsz
  have hD := hD0.self (sz := s.heap.size)
  generalize hAe : va_A [(h0, eX7)] s.heap.size = A at hD ⊢
  have hA : ∀ q : Nat, s.heap.size ≤ q → A q := fun q h => by rw [← hAe]; exact Or.inr h
  have hS : va_S A s.heap s.heap [] := va_S.rf
  have hl := lv_entry ([.ref h0]) (n := 2) (Nat.le_of_ble_eq_true rfl)
  rw [lg_entry_eq]
  generalize (lg_sl ([.ref h0]) ++ List.replicate (2 - (lg_sl ([.ref h0])).length) Slot.unset).toArray = ls at hl ⊢
  have hl : lv_has ls 2 [(0, .ref h0)] := hl
  refine lv_aload_n hx hb dX7_0 rfl (lv_at hl 0 rfl) ?_
  refine W.objInit hx hb hown (hts _ (am_wat_in (i := 57) (w := .methodLink RX7 1 objectInit) (by decide +kernel))) (hts _ ct_wOi) (hts _ ct_wO) rfl (by rw [hml]; exact hl.1) rfl dX7_1 (Nat.le_of_ble_eq_true rfl) (Nat.le_of_ble_eq_true rfl) ?_
  refine W.eq (g2 := F0 m 4 ls []) rfl ?_
  refine lv_aload_n hx hb dX7_4 rfl (lv_at hl 0 rfl) ?_
  refine ct_new (ci := 2) (q := (RX2, TX2, 3)) (i1 := 60) (i2 := 61) (i3 := 42) (fs := [.int 0, .null, .null]) hx hb hts rfl hown (by decide +kernel) (by decide +kernel) (by decide +kernel) hK hP hD hS hA tyX2 tyX2_ok fX2 (Nat.le_of_ble_eq_true rfl) (Nat.le_of_ble_eq_true rfl) dX7_5 (fun b5 H hP hD hS => ?_)
  have hP : va_P D am_cls ([(h0, .inr (7, [.null, .null, .null, .null, .null, .null]))] ++ [(b5, eX2)]) H := hP
  have hD : va_D A ([(h0, .inr (7, [.null, .null, .null, .null, .null, .null]))] ++ [(b5, eX2)]) := hD
  refine W.widen (k := 1) (n := 3) (Nat.le_of_ble_eq_true rfl) (Nat.le_of_ble_eq_true rfl) ?_
  refine lv_dup hx hb dX7_8 rfl ?_
  refine ct_call (wr := [(h0, .inr (7, [.null, .null, .null, .null, .null, .null]))]) (b := b5) (E := eX2) (wf := wX2 cI cZ cB b5) (va_runIN (As := []) (rest := [.ref b5, .ref h0]) ⟨hx, hb, hml, hown, hts⟩ (c_X2 l D cI cZ cB b5 H.size) ⟨va_cnB 0 hts (ct_gd kX2_code) rfl rfl rfl hN.1.1 (hts _ kX2_ini) (by decide +kernel) ⟨(Nat.le_of_ble_eq_true rfl), (Nat.le_of_ble_eq_true rfl)⟩, rfl, hts _ kX2_inst⟩ (ct_PreS hN hK (ct_lP hP) (ct_lD hD) [.ref b5]) rfl rfl hl.1 rfl (lv_room (Nat.le_of_ble_eq_true rfl)) dX7_9 ⟨(Nat.le_of_ble_eq_true rfl), (Nat.le_of_ble_eq_true rfl)⟩) hP hD hS hA (fun u9 H locs hP hD hS => ?_)
  have hP : va_P D am_cls ([(h0, .inr (7, [.null, .null, .null, .null, .null, .null]))] ++ wX2 cI cZ cB b5 u9) H := hP
  have hD : va_D A ([(h0, .inr (7, [.null, .null, .null, .null, .null, .null]))] ++ wX2 cI cZ cB b5 u9) := hD
  refine W.widen (k := 3) (n := 19) (Nat.le_of_ble_eq_true rfl) (Nat.le_of_ble_eq_true rfl) ?_
  refine ct_put (ci := 7) (q := (RX7, TX7, 6)) (i1 := 279) (ty := .object "LetterDays$Letters") hx hb hts rfl hown hin hK hP hD hS rfl 0 (by decide) (by decide +kernel) rfl rfl (by decide +kernel) rfl rfl (Nat.le_of_ble_eq_true rfl) dX7_12 (fun H locs hP hD hS => ?_)
  have hP : va_P D am_cls ([(h0, .inr (7, [.ref b5, .null, .null, .null, .null, .null]))] ++ wX2 cI cZ cB b5 u9) H := hP
  have hD : va_D A ([(h0, .inr (7, [.ref b5, .null, .null, .null, .null, .null]))] ++ wX2 cI cZ cB b5 u9) := hD
  refine lv_aload_n hx hb dX7_15 rfl (lv_at hl 0 rfl) ?_
  refine ct_new (ci := 3) (q := (RX3, TX3, 7)) (i1 := 84) (i2 := 85) (i3 := 43) (fs := [.int 0, .int 0, .null, .null, .null, .null, .null]) hx hb hts rfl hown (by decide +kernel) (by decide +kernel) (by decide +kernel) hK hP hD hS hA tyX3 tyX3_ok fX3 (Nat.le_of_ble_eq_true rfl) (Nat.le_of_ble_eq_true rfl) dX7_16 (fun b16 H hP hD hS => ?_)
  have hP : va_P D am_cls (([(h0, .inr (7, [.ref b5, .null, .null, .null, .null, .null]))] ++ wX2 cI cZ cB b5 u9) ++ [(b16, eX3)]) H := hP
  have hD : va_D A (([(h0, .inr (7, [.ref b5, .null, .null, .null, .null, .null]))] ++ wX2 cI cZ cB b5 u9) ++ [(b16, eX3)]) := hD
  refine W.widen (k := 4) (n := 26) (Nat.le_of_ble_eq_true rfl) (Nat.le_of_ble_eq_true rfl) ?_
  refine lv_dup hx hb dX7_19 rfl ?_
  refine ct_call (wr := ([(h0, .inr (7, [.ref b5, .null, .null, .null, .null, .null]))] ++ wX2 cI cZ cB b5 u9)) (b := b16) (E := eX3) (wf := wX3 cI cZ cB b16) (va_runIN (As := []) (rest := [.ref b16, .ref h0]) ⟨hx, hb, hml, hown, hts⟩ (c_X3 l D cI cZ cB b16 H.size) ⟨va_cnB 0 hts (ct_gd kX3_code) rfl rfl rfl hN.1.2.1 (hts _ kX3_ini) (by decide +kernel) ⟨(Nat.le_of_ble_eq_true rfl), (Nat.le_of_ble_eq_true rfl)⟩, rfl, hts _ kX3_inst⟩ (ct_PreS hN hK (ct_lP hP) (ct_lD hD) [.ref b16]) rfl rfl hl.1 rfl (lv_room (Nat.le_of_ble_eq_true rfl)) dX7_20 ⟨(Nat.le_of_ble_eq_true rfl), (Nat.le_of_ble_eq_true rfl)⟩) hP hD hS hA (fun u20 H locs hP hD hS => ?_)
  have hP : va_P D am_cls (([(h0, .inr (7, [.ref b5, .null, .null, .null, .null, .null]))] ++ wX2 cI cZ cB b5 u9) ++ wX3 cI cZ cB b16 u20) H := hP
  have hD : va_D A (([(h0, .inr (7, [.ref b5, .null, .null, .null, .null, .null]))] ++ wX2 cI cZ cB b5 u9) ++ wX3 cI cZ cB b16 u20) := hD
  refine W.widen (k := 9) (n := 76) (Nat.le_of_ble_eq_true rfl) (Nat.le_of_ble_eq_true rfl) ?_
  refine ct_put (ci := 7) (q := (RX7, TX7, 6)) (i1 := 280) (ty := .object "LetterDays$Notes") hx hb hts rfl hown hin hK hP hD hS rfl 1 (by decide) (by decide +kernel) rfl rfl (by decide +kernel) rfl rfl (Nat.le_of_ble_eq_true rfl) dX7_23 (fun H locs hP hD hS => ?_)
  have hP : va_P D am_cls (([(h0, .inr (7, [.ref b5, .ref b16, .null, .null, .null, .null]))] ++ wX2 cI cZ cB b5 u9) ++ wX3 cI cZ cB b16 u20) H := hP
  have hD : va_D A (([(h0, .inr (7, [.ref b5, .ref b16, .null, .null, .null, .null]))] ++ wX2 cI cZ cB b5 u9) ++ wX3 cI cZ cB b16 u20) := hD
  refine lv_aload_n hx hb dX7_26 rfl (lv_at hl 0 rfl) ?_
  refine ct_new (ci := 5) (q := (RX5, TX5, 13)) (i1 := 127) (i2 := 128) (i3 := 44) (fs := [.int 0, .null, .null, .null, .null, .null, .int 0, .int 0, .null, .null, .null, .null, .null]) hx hb hts rfl hown (by decide +kernel) (by decide +kernel) (by decide +kernel) hK hP hD hS hA tyX5 tyX5_ok fX5 (Nat.le_of_ble_eq_true rfl) (Nat.le_of_ble_eq_true rfl) dX7_27 (fun b27 H hP hD hS => ?_)
  have hP : va_P D am_cls ((([(h0, .inr (7, [.ref b5, .ref b16, .null, .null, .null, .null]))] ++ wX2 cI cZ cB b5 u9) ++ wX3 cI cZ cB b16 u20) ++ [(b27, eX5)]) H := hP
  have hD : va_D A ((([(h0, .inr (7, [.ref b5, .ref b16, .null, .null, .null, .null]))] ++ wX2 cI cZ cB b5 u9) ++ wX3 cI cZ cB b16 u20) ++ [(b27, eX5)]) := hD
  refine W.widen (k := 10) (n := 89) (Nat.le_of_ble_eq_true rfl) (Nat.le_of_ble_eq_true rfl) ?_
  refine lv_dup hx hb dX7_30 rfl ?_
  refine lv_aload_n hx hb dX7_31 rfl (lv_at hl 0 rfl) ?_
  refine ct_get (ci := 7) (q := (RX7, TX7, 6)) (i1 := 279) hx hb hts rfl hown hK hP rfl 0 (by decide) (by decide +kernel) rfl rfl dX7_32 ?_
  refine lv_aload_n hx hb dX7_35 rfl (lv_at hl 0 rfl) ?_
  refine ct_get (ci := 7) (q := (RX7, TX7, 6)) (i1 := 280) hx hb hts rfl hown hK hP rfl 1 (by decide) (by decide +kernel) rfl rfl dX7_36 ?_
  refine ct_call (wr := (([(h0, .inr (7, [.ref b5, .ref b16, .null, .null, .null, .null]))] ++ wX2 cI cZ cB b5 u9) ++ wX3 cI cZ cB b16 u20)) (b := b27) (E := eX5) (wf := wX5 cI cZ cB b27 b5 b16) (va_runI (As := [.ref b5, .ref b16]) (rest := [.ref b27, .ref h0]) ⟨hx, hb, hml, hown, hts⟩ (c_X5 l D cI cZ cB b27 b5 b16 H.size) (cwI 2 hts (ct_gd kX5_code) rfl rfl rfl (hts _ kX5_ini) (hts _ (am_wat_in (i := 129) (w := .methodLink RX7 25 yX5_init) (by decide +kernel))) (hts _ kX5_inst) rfl (by decide +kernel) ⟨(Nat.le_of_ble_eq_true rfl), (Nat.le_of_ble_eq_true rfl)⟩) (ct_PreS hN hK (ct_lP hP) (ct_lD hD) [.ref b27, .ref b5, .ref b16]) rfl rfl hl.1 rfl (lv_room (Nat.le_of_ble_eq_true rfl)) dX7_39 ⟨(Nat.le_of_ble_eq_true rfl), (Nat.le_of_ble_eq_true rfl)⟩) hP hD hS hA (fun u39 H locs hP hD hS => ?_)
  have hP : va_P D am_cls ((([(h0, .inr (7, [.ref b5, .ref b16, .null, .null, .null, .null]))] ++ wX2 cI cZ cB b5 u9) ++ wX3 cI cZ cB b16 u20) ++ wX5 cI cZ cB b27 b5 b16 u39) H := hP
  have hD : va_D A ((([(h0, .inr (7, [.ref b5, .ref b16, .null, .null, .null, .null]))] ++ wX2 cI cZ cB b5 u9) ++ wX3 cI cZ cB b16 u20) ++ wX5 cI cZ cB b27 b5 b16 u39) := hD
  refine W.widen (k := 24) (n := 1886) (Nat.le_of_ble_eq_true rfl) (Nat.le_of_ble_eq_true rfl) ?_
  refine ct_put (ci := 7) (q := (RX7, TX7, 6)) (i1 := 281) (ty := .object "LetterDays$Ways") hx hb hts rfl hown hin hK hP hD hS rfl 2 (by decide) (by decide +kernel) rfl rfl (by decide +kernel) rfl rfl (Nat.le_of_ble_eq_true rfl) dX7_42 (fun H locs hP hD hS => ?_)
  have hP : va_P D am_cls ((([(h0, .inr (7, [.ref b5, .ref b16, .ref b27, .null, .null, .null]))] ++ wX2 cI cZ cB b5 u9) ++ wX3 cI cZ cB b16 u20) ++ wX5 cI cZ cB b27 b5 b16 u39) H := hP
  have hD : va_D A ((([(h0, .inr (7, [.ref b5, .ref b16, .ref b27, .null, .null, .null]))] ++ wX2 cI cZ cB b5 u9) ++ wX3 cI cZ cB b16 u20) ++ wX5 cI cZ cB b27 b5 b16 u39) := hD
  refine lv_aload_n hx hb dX7_45 rfl (lv_at hl 0 rfl) ?_
  refine ct_new (ci := 1) (q := (RX1, TX1, 9)) (i1 := 210) (i2 := 211) (i3 := 46) (fs := [.int 0, .null, .null, .null, .null, .int 0, .int 0, .int 0, .int 0]) hx hb hts rfl hown (by decide +kernel) (by decide +kernel) (by decide +kernel) hK hP hD hS hA tyX1 tyX1_ok fX1 (Nat.le_of_ble_eq_true rfl) (Nat.le_of_ble_eq_true rfl) dX7_46 (fun b46 H hP hD hS => ?_)
  have hP : va_P D am_cls (((([(h0, .inr (7, [.ref b5, .ref b16, .ref b27, .null, .null, .null]))] ++ wX2 cI cZ cB b5 u9) ++ wX3 cI cZ cB b16 u20) ++ wX5 cI cZ cB b27 b5 b16 u39) ++ [(b46, eX1)]) H := hP
  have hD : va_D A (((([(h0, .inr (7, [.ref b5, .ref b16, .ref b27, .null, .null, .null]))] ++ wX2 cI cZ cB b5 u9) ++ wX3 cI cZ cB b16 u20) ++ wX5 cI cZ cB b27 b5 b16 u39) ++ [(b46, eX1)]) := hD
  refine W.widen (k := 25) (n := 1895) (Nat.le_of_ble_eq_true rfl) (Nat.le_of_ble_eq_true rfl) ?_
  refine lv_dup hx hb dX7_49 rfl ?_
  refine lv_aload_n hx hb dX7_50 rfl (lv_at hl 0 rfl) ?_
  refine ct_get (ci := 7) (q := (RX7, TX7, 6)) (i1 := 279) hx hb hts rfl hown hK hP rfl 0 (by decide) (by decide +kernel) rfl rfl dX7_51 ?_
  refine lv_aload_n hx hb dX7_54 rfl (lv_at hl 0 rfl) ?_
  refine ct_get (ci := 7) (q := (RX7, TX7, 6)) (i1 := 280) hx hb hts rfl hown hK hP rfl 1 (by decide) (by decide +kernel) rfl rfl dX7_55 ?_
  refine ct_call (wr := ((([(h0, .inr (7, [.ref b5, .ref b16, .ref b27, .null, .null, .null]))] ++ wX2 cI cZ cB b5 u9) ++ wX3 cI cZ cB b16 u20) ++ wX5 cI cZ cB b27 b5 b16 u39)) (b := b46) (E := eX1) (wf := wX1 cI cZ cB b46 b5 b16) (va_runI (As := [.ref b5, .ref b16]) (rest := [.ref b46, .ref h0]) ⟨hx, hb, hml, hown, hts⟩ (c_X1 l D cI cZ cB b46 b5 b16 H.size) (cwI 2 hts (ct_gd kX1_code) rfl rfl rfl (hts _ kX1_ini) (hts _ (am_wat_in (i := 212) (w := .methodLink RX7 34 yX1_init) (by decide +kernel))) (hts _ kX1_inst) rfl (by decide +kernel) ⟨(Nat.le_of_ble_eq_true rfl), (Nat.le_of_ble_eq_true rfl)⟩) (ct_PreS hN hK (ct_lP hP) (ct_lD hD) [.ref b46, .ref b5, .ref b16]) rfl rfl hl.1 rfl (lv_room (Nat.le_of_ble_eq_true rfl)) dX7_58 ⟨(Nat.le_of_ble_eq_true rfl), (Nat.le_of_ble_eq_true rfl)⟩) hP hD hS hA (fun u58 H locs hP hD hS => ?_)
  have hP : va_P D am_cls (((([(h0, .inr (7, [.ref b5, .ref b16, .ref b27, .null, .null, .null]))] ++ wX2 cI cZ cB b5 u9) ++ wX3 cI cZ cB b16 u20) ++ wX5 cI cZ cB b27 b5 b16 u39) ++ wX1 cI cZ cB b46 b5 b16 u58) H := hP
  have hD : va_D A (((([(h0, .inr (7, [.ref b5, .ref b16, .ref b27, .null, .null, .null]))] ++ wX2 cI cZ cB b5 u9) ++ wX3 cI cZ cB b16 u20) ++ wX5 cI cZ cB b27 b5 b16 u39) ++ wX1 cI cZ cB b46 b5 b16 u58) := hD
  refine W.widen (k := 33) (n := 1996) (Nat.le_of_ble_eq_true rfl) (Nat.le_of_ble_eq_true rfl) ?_
  refine ct_put (ci := 7) (q := (RX7, TX7, 6)) (i1 := 282) (ty := .object "LetterDays$Knots") hx hb hts rfl hown hin hK hP hD hS rfl 3 (by decide) (by decide +kernel) rfl rfl (by decide +kernel) rfl rfl (Nat.le_of_ble_eq_true rfl) dX7_61 (fun H locs hP hD hS => ?_)
  have hP : va_P D am_cls (((([(h0, .inr (7, [.ref b5, .ref b16, .ref b27, .ref b46, .null, .null]))] ++ wX2 cI cZ cB b5 u9) ++ wX3 cI cZ cB b16 u20) ++ wX5 cI cZ cB b27 b5 b16 u39) ++ wX1 cI cZ cB b46 b5 b16 u58) H := hP
  have hD : va_D A (((([(h0, .inr (7, [.ref b5, .ref b16, .ref b27, .ref b46, .null, .null]))] ++ wX2 cI cZ cB b5 u9) ++ wX3 cI cZ cB b16 u20) ++ wX5 cI cZ cB b27 b5 b16 u39) ++ wX1 cI cZ cB b46 b5 b16 u58) := hD
  refine lv_aload_n hx hb dX7_64 rfl (lv_at hl 0 rfl) ?_
  refine ct_new (ci := 4) (q := (RX4, TX4, 3)) (i1 := 247) (i2 := 248) (i3 := 47) (fs := [.int 0, .null, .null]) hx hb hts rfl hown (by decide +kernel) (by decide +kernel) (by decide +kernel) hK hP hD hS hA tyX4 tyX4_ok fX4 (Nat.le_of_ble_eq_true rfl) (Nat.le_of_ble_eq_true rfl) dX7_65 (fun b65 H hP hD hS => ?_)
  have hP : va_P D am_cls ((((([(h0, .inr (7, [.ref b5, .ref b16, .ref b27, .ref b46, .null, .null]))] ++ wX2 cI cZ cB b5 u9) ++ wX3 cI cZ cB b16 u20) ++ wX5 cI cZ cB b27 b5 b16 u39) ++ wX1 cI cZ cB b46 b5 b16 u58) ++ [(b65, eX4)]) H := hP
  have hD : va_D A ((((([(h0, .inr (7, [.ref b5, .ref b16, .ref b27, .ref b46, .null, .null]))] ++ wX2 cI cZ cB b5 u9) ++ wX3 cI cZ cB b16 u20) ++ wX5 cI cZ cB b27 b5 b16 u39) ++ wX1 cI cZ cB b46 b5 b16 u58) ++ [(b65, eX4)]) := hD
  refine W.widen (k := 34) (n := 1999) (Nat.le_of_ble_eq_true rfl) (Nat.le_of_ble_eq_true rfl) ?_
  refine lv_dup hx hb dX7_68 rfl ?_
  refine ct_call (wr := (((([(h0, .inr (7, [.ref b5, .ref b16, .ref b27, .ref b46, .null, .null]))] ++ wX2 cI cZ cB b5 u9) ++ wX3 cI cZ cB b16 u20) ++ wX5 cI cZ cB b27 b5 b16 u39) ++ wX1 cI cZ cB b46 b5 b16 u58)) (b := b65) (E := eX4) (wf := wX4 cI cZ cB b65) (va_runIN (As := []) (rest := [.ref b65, .ref h0]) ⟨hx, hb, hml, hown, hts⟩ (c_X4 l D cI cZ cB b65 H.size) ⟨va_cnB 0 hts (ct_gd kX4_code) rfl rfl rfl hN.1.2.2.1 (hts _ kX4_ini) (by decide +kernel) ⟨(Nat.le_of_ble_eq_true rfl), (Nat.le_of_ble_eq_true rfl)⟩, rfl, hts _ kX4_inst⟩ (ct_PreS hN hK (ct_lP hP) (ct_lD hD) [.ref b65]) rfl rfl hl.1 rfl (lv_room (Nat.le_of_ble_eq_true rfl)) dX7_69 ⟨(Nat.le_of_ble_eq_true rfl), (Nat.le_of_ble_eq_true rfl)⟩) hP hD hS hA (fun u69 H locs hP hD hS => ?_)
  have hP : va_P D am_cls ((((([(h0, .inr (7, [.ref b5, .ref b16, .ref b27, .ref b46, .null, .null]))] ++ wX2 cI cZ cB b5 u9) ++ wX3 cI cZ cB b16 u20) ++ wX5 cI cZ cB b27 b5 b16 u39) ++ wX1 cI cZ cB b46 b5 b16 u58) ++ wX4 cI cZ cB b65 u69) H := hP
  have hD : va_D A ((((([(h0, .inr (7, [.ref b5, .ref b16, .ref b27, .ref b46, .null, .null]))] ++ wX2 cI cZ cB b5 u9) ++ wX3 cI cZ cB b16 u20) ++ wX5 cI cZ cB b27 b5 b16 u39) ++ wX1 cI cZ cB b46 b5 b16 u58) ++ wX4 cI cZ cB b65 u69) := hD
  refine W.widen (k := 36) (n := 2263) (Nat.le_of_ble_eq_true rfl) (Nat.le_of_ble_eq_true rfl) ?_
  refine ct_put (ci := 7) (q := (RX7, TX7, 6)) (i1 := 283) (ty := .object "LetterDays$Orders") hx hb hts rfl hown hin hK hP hD hS rfl 4 (by decide) (by decide +kernel) rfl rfl (by decide +kernel) rfl rfl (Nat.le_of_ble_eq_true rfl) dX7_72 (fun H locs hP hD hS => ?_)
  have hP : va_P D am_cls ((((([(h0, .inr (7, [.ref b5, .ref b16, .ref b27, .ref b46, .ref b65, .null]))] ++ wX2 cI cZ cB b5 u9) ++ wX3 cI cZ cB b16 u20) ++ wX5 cI cZ cB b27 b5 b16 u39) ++ wX1 cI cZ cB b46 b5 b16 u58) ++ wX4 cI cZ cB b65 u69) H := hP
  have hD : va_D A ((((([(h0, .inr (7, [.ref b5, .ref b16, .ref b27, .ref b46, .ref b65, .null]))] ++ wX2 cI cZ cB b5 u9) ++ wX3 cI cZ cB b16 u20) ++ wX5 cI cZ cB b27 b5 b16 u39) ++ wX1 cI cZ cB b46 b5 b16 u58) ++ wX4 cI cZ cB b65 u69) := hD
  refine lv_aload_n hx hb dX7_75 rfl (lv_at hl 0 rfl) ?_
  refine lv_iconst (v := 3) hx hb dX7_76 (by decide) ?_
  refine ct_newq (N := 3) (i1 := 263) hx hb hts hown (by decide +kernel) hN hK hP hD hS hA (by decide) (by decide) (Nat.le_of_ble_eq_true rfl) (Nat.le_of_ble_eq_true rfl) (Nat.le_of_ble_eq_true rfl) dX7_77 (fun q77 H hP hD hS => ?_)
  have hP : va_P D am_cls (((((([(h0, .inr (7, [.ref b5, .ref b16, .ref b27, .ref b46, .ref b65, .null]))] ++ wX2 cI cZ cB b5 u9) ++ wX3 cI cZ cB b16 u20) ++ wX5 cI cZ cB b27 b5 b16 u39) ++ wX1 cI cZ cB b46 b5 b16 u58) ++ wX4 cI cZ cB b65 u69) ++ [(q77, .inl (cB, 3, .inr (.inr (.inr (.inr (fun _ => none))))))]) H := hP
  have hD : va_D A (((((([(h0, .inr (7, [.ref b5, .ref b16, .ref b27, .ref b46, .ref b65, .null]))] ++ wX2 cI cZ cB b5 u9) ++ wX3 cI cZ cB b16 u20) ++ wX5 cI cZ cB b27 b5 b16 u39) ++ wX1 cI cZ cB b46 b5 b16 u58) ++ wX4 cI cZ cB b65 u69) ++ [(q77, .inl (cB, 3, .inr (.inr (.inr (.inr (fun _ => none))))))]) := hD
  refine W.widen (k := 37) (n := 2266) (Nat.le_of_ble_eq_true rfl) (Nat.le_of_ble_eq_true rfl) ?_
  refine ct_put (ci := 7) (q := (RX7, TX7, 6)) (i1 := 284) (ty := .array (.object "LetterDays$Bundle")) hx hb hts rfl hown hin hK hP hD hS rfl 5 (by decide) (by decide +kernel) rfl rfl (by decide +kernel) rfl rfl (Nat.le_of_ble_eq_true rfl) dX7_80 (fun H locs hP hD hS => ?_)
  have hP : va_P D am_cls (((((([(h0, .inr (7, [.ref b5, .ref b16, .ref b27, .ref b46, .ref b65, .ref q77]))] ++ wX2 cI cZ cB b5 u9) ++ wX3 cI cZ cB b16 u20) ++ wX5 cI cZ cB b27 b5 b16 u39) ++ wX1 cI cZ cB b46 b5 b16 u58) ++ wX4 cI cZ cB b65 u69) ++ [(q77, .inl (cB, 3, .inr (.inr (.inr (.inr (fun _ => none))))))]) H := hP
  have hD : va_D A (((((([(h0, .inr (7, [.ref b5, .ref b16, .ref b27, .ref b46, .ref b65, .ref q77]))] ++ wX2 cI cZ cB b5 u9) ++ wX3 cI cZ cB b16 u20) ++ wX5 cI cZ cB b27 b5 b16 u39) ++ wX1 cI cZ cB b46 b5 b16 u58) ++ wX4 cI cZ cB b65 u69) ++ [(q77, .inl (cB, 3, .inr (.inr (.inr (.inr (fun _ => none))))))]) := hD
  refine lv_iconst (v := 0) hx hb dX7_83 (by decide) ?_
  refine lv_istore_n (lv' := [(1, .int 0), (0, .ref h0)]) hx hb dX7_84 rfl hl (by decide) rfl (fun ls hl => ?_)
  refine lv_iload_n hx hb dX7_85 rfl (lv_at hl 0 rfl) ?_
  refine lv_iconst (v := 3) hx hb dX7_86 (by decide) ?_
  refine lv_icmp_ge (tgt := 109) hx hb dX7_87 (by decide) (fun h9 => absurd h9 (by decide)) (fun _ => ?_)
  refine lv_aload_n hx hb dX7_90 rfl (lv_at hl 1 rfl) ?_
  refine ct_get (ci := 7) (q := (RX7, TX7, 6)) (i1 := 284) hx hb hts rfl hown hK hP rfl 5 (by decide) (by decide +kernel) rfl rfl dX7_91 ?_
  refine lv_iload_n hx hb dX7_94 rfl (lv_at hl 0 rfl) ?_
  refine ct_new (ci := 0) (q := (RX0, TX0, 2)) (i1 := 263) (i2 := 265) (i3 := 48) (fs := [.int 0, .null]) hx hb hts rfl hown (by decide +kernel) (by decide +kernel) (by decide +kernel) hK hP hD hS hA tyX0 tyX0_ok fX0 (Nat.le_of_ble_eq_true rfl) (Nat.le_of_ble_eq_true rfl) dX7_95 (fun b95 H hP hD hS => ?_)
  have hP : va_P D am_cls ((((((([(h0, .inr (7, [.ref b5, .ref b16, .ref b27, .ref b46, .ref b65, .ref q77]))] ++ wX2 cI cZ cB b5 u9) ++ wX3 cI cZ cB b16 u20) ++ wX5 cI cZ cB b27 b5 b16 u39) ++ wX1 cI cZ cB b46 b5 b16 u58) ++ wX4 cI cZ cB b65 u69) ++ [(q77, .inl (cB, 3, .inr (.inr (.inr (.inr (fun _ => none))))))]) ++ [(b95, eX0)]) H := hP
  have hD : va_D A ((((((([(h0, .inr (7, [.ref b5, .ref b16, .ref b27, .ref b46, .ref b65, .ref q77]))] ++ wX2 cI cZ cB b5 u9) ++ wX3 cI cZ cB b16 u20) ++ wX5 cI cZ cB b27 b5 b16 u39) ++ wX1 cI cZ cB b46 b5 b16 u58) ++ wX4 cI cZ cB b65 u69) ++ [(q77, .inl (cB, 3, .inr (.inr (.inr (.inr (fun _ => none))))))]) ++ [(b95, eX0)]) := hD
  refine W.widen (k := 38) (n := 2268) (Nat.le_of_ble_eq_true rfl) (Nat.le_of_ble_eq_true rfl) ?_
  refine lv_dup hx hb dX7_98 rfl ?_
  refine ct_call (wr := (((((([(h0, .inr (7, [.ref b5, .ref b16, .ref b27, .ref b46, .ref b65, .ref q77]))] ++ wX2 cI cZ cB b5 u9) ++ wX3 cI cZ cB b16 u20) ++ wX5 cI cZ cB b27 b5 b16 u39) ++ wX1 cI cZ cB b46 b5 b16 u58) ++ wX4 cI cZ cB b65 u69) ++ [(q77, .inl (cB, 3, .inr (.inr (.inr (.inr (fun _ => none))))))])) (b := b95) (E := eX0) (wf := wX0 cI cZ cB b95) (va_runIN (As := []) (rest := [.ref b95, .int 0, .ref q77]) ⟨hx, hb, hml, hown, hts⟩ (c_X0 l D cI cZ cB b95 H.size) ⟨va_cnB 0 hts (ct_gd kX0_code) rfl rfl rfl hN.1.2.2.2 (hts _ kX0_ini) (by decide +kernel) ⟨(Nat.le_of_ble_eq_true rfl), (Nat.le_of_ble_eq_true rfl)⟩, rfl, hts _ kX0_inst⟩ (ct_PreS hN hK (ct_lP hP) (ct_lD hD) [.ref b95]) rfl rfl hl.1 rfl (lv_room (Nat.le_of_ble_eq_true rfl)) dX7_99 ⟨(Nat.le_of_ble_eq_true rfl), (Nat.le_of_ble_eq_true rfl)⟩) hP hD hS hA (fun u99 H locs hP hD hS => ?_)
  have hP : va_P D am_cls ((((((([(h0, .inr (7, [.ref b5, .ref b16, .ref b27, .ref b46, .ref b65, .ref q77]))] ++ wX2 cI cZ cB b5 u9) ++ wX3 cI cZ cB b16 u20) ++ wX5 cI cZ cB b27 b5 b16 u39) ++ wX1 cI cZ cB b46 b5 b16 u58) ++ wX4 cI cZ cB b65 u69) ++ [(q77, .inl (cB, 3, .inr (.inr (.inr (.inr (fun _ => none))))))]) ++ wX0 cI cZ cB b95 u99) H := hP
  have hD : va_D A ((((((([(h0, .inr (7, [.ref b5, .ref b16, .ref b27, .ref b46, .ref b65, .ref q77]))] ++ wX2 cI cZ cB b5 u9) ++ wX3 cI cZ cB b16 u20) ++ wX5 cI cZ cB b27 b5 b16 u39) ++ wX1 cI cZ cB b46 b5 b16 u58) ++ wX4 cI cZ cB b65 u69) ++ [(q77, .inl (cB, 3, .inr (.inr (.inr (.inr (fun _ => none))))))]) ++ wX0 cI cZ cB b95 u99) := hD
  refine W.widen (k := 39) (n := 2276) (Nat.le_of_ble_eq_true rfl) (Nat.le_of_ble_eq_true rfl) ?_
  refine va_astq (r := (RX0, TX0, 2)) hx hb hK hP hD hS 37 2 38 0 rfl rfl rfl rfl (by unfold vp_in; decide) dX7_102 (fun H locs hP hD hS => ?_)
  have hP : va_P D am_cls ((((((([(h0, .inr (7, [.ref b5, .ref b16, .ref b27, .ref b46, .ref b65, .ref q77]))] ++ wX2 cI cZ cB b5 u9) ++ wX3 cI cZ cB b16 u20) ++ wX5 cI cZ cB b27 b5 b16 u39) ++ wX1 cI cZ cB b46 b5 b16 u58) ++ wX4 cI cZ cB b65 u69) ++ [(q77, .inl (cB, 3, .inr (.inr (.inr (.inr (va_up (fun _ => none) 0 (some b95)))))))]) ++ wX0 cI cZ cB b95 u99) H := hP
  have hD : va_D A ((((((([(h0, .inr (7, [.ref b5, .ref b16, .ref b27, .ref b46, .ref b65, .ref q77]))] ++ wX2 cI cZ cB b5 u9) ++ wX3 cI cZ cB b16 u20) ++ wX5 cI cZ cB b27 b5 b16 u39) ++ wX1 cI cZ cB b46 b5 b16 u58) ++ wX4 cI cZ cB b65 u69) ++ [(q77, .inl (cB, 3, .inr (.inr (.inr (.inr (va_up (fun _ => none) 0 (some b95)))))))]) ++ wX0 cI cZ cB b95 u99) := hD
  refine lv_iinc (k := 0) (v := 1) (lv' := [(1, .int 1), (0, .ref h0)]) hx hb dX7_103 hl rfl (by decide) (by decide) rfl (fun ls hl => ?_)
  refine lv_goto (tgt := 85) hx hb dX7_106 (by decide) ?_
  refine lv_iload_n hx hb dX7_85 rfl (lv_at hl 0 rfl) ?_
  refine lv_iconst (v := 3) hx hb dX7_86 (by decide) ?_
  refine lv_icmp_ge (tgt := 109) hx hb dX7_87 (by decide) (fun h9 => absurd h9 (by decide)) (fun _ => ?_)
  refine lv_aload_n hx hb dX7_90 rfl (lv_at hl 1 rfl) ?_
  refine ct_get (ci := 7) (q := (RX7, TX7, 6)) (i1 := 284) hx hb hts rfl hown hK hP rfl 5 (by decide) (by decide +kernel) rfl rfl dX7_91 ?_
  refine lv_iload_n hx hb dX7_94 rfl (lv_at hl 0 rfl) ?_
  refine ct_new (ci := 0) (q := (RX0, TX0, 2)) (i1 := 263) (i2 := 265) (i3 := 48) (fs := [.int 0, .null]) hx hb hts rfl hown (by decide +kernel) (by decide +kernel) (by decide +kernel) hK hP hD hS hA tyX0 tyX0_ok fX0 (Nat.le_of_ble_eq_true rfl) (Nat.le_of_ble_eq_true rfl) dX7_95 (fun b95_1 H hP hD hS => ?_)
  have hP : va_P D am_cls (((((((([(h0, .inr (7, [.ref b5, .ref b16, .ref b27, .ref b46, .ref b65, .ref q77]))] ++ wX2 cI cZ cB b5 u9) ++ wX3 cI cZ cB b16 u20) ++ wX5 cI cZ cB b27 b5 b16 u39) ++ wX1 cI cZ cB b46 b5 b16 u58) ++ wX4 cI cZ cB b65 u69) ++ [(q77, .inl (cB, 3, .inr (.inr (.inr (.inr (va_up (fun _ => none) 0 (some b95)))))))]) ++ wX0 cI cZ cB b95 u99) ++ [(b95_1, eX0)]) H := hP
  have hD : va_D A (((((((([(h0, .inr (7, [.ref b5, .ref b16, .ref b27, .ref b46, .ref b65, .ref q77]))] ++ wX2 cI cZ cB b5 u9) ++ wX3 cI cZ cB b16 u20) ++ wX5 cI cZ cB b27 b5 b16 u39) ++ wX1 cI cZ cB b46 b5 b16 u58) ++ wX4 cI cZ cB b65 u69) ++ [(q77, .inl (cB, 3, .inr (.inr (.inr (.inr (va_up (fun _ => none) 0 (some b95)))))))]) ++ wX0 cI cZ cB b95 u99) ++ [(b95_1, eX0)]) := hD
  refine W.widen (k := 40) (n := 2278) (Nat.le_of_ble_eq_true rfl) (Nat.le_of_ble_eq_true rfl) ?_
  refine lv_dup hx hb dX7_98 rfl ?_
  refine ct_call (wr := ((((((([(h0, .inr (7, [.ref b5, .ref b16, .ref b27, .ref b46, .ref b65, .ref q77]))] ++ wX2 cI cZ cB b5 u9) ++ wX3 cI cZ cB b16 u20) ++ wX5 cI cZ cB b27 b5 b16 u39) ++ wX1 cI cZ cB b46 b5 b16 u58) ++ wX4 cI cZ cB b65 u69) ++ [(q77, .inl (cB, 3, .inr (.inr (.inr (.inr (va_up (fun _ => none) 0 (some b95)))))))]) ++ wX0 cI cZ cB b95 u99)) (b := b95_1) (E := eX0) (wf := wX0 cI cZ cB b95_1) (va_runIN (As := []) (rest := [.ref b95_1, .int 1, .ref q77]) ⟨hx, hb, hml, hown, hts⟩ (c_X0 l D cI cZ cB b95_1 H.size) ⟨va_cnB 0 hts (ct_gd kX0_code) rfl rfl rfl hN.1.2.2.2 (hts _ kX0_ini) (by decide +kernel) ⟨(Nat.le_of_ble_eq_true rfl), (Nat.le_of_ble_eq_true rfl)⟩, rfl, hts _ kX0_inst⟩ (ct_PreS hN hK (ct_lP hP) (ct_lD hD) [.ref b95_1]) rfl rfl hl.1 rfl (lv_room (Nat.le_of_ble_eq_true rfl)) dX7_99 ⟨(Nat.le_of_ble_eq_true rfl), (Nat.le_of_ble_eq_true rfl)⟩) hP hD hS hA (fun u99_1 H locs hP hD hS => ?_)
  have hP : va_P D am_cls (((((((([(h0, .inr (7, [.ref b5, .ref b16, .ref b27, .ref b46, .ref b65, .ref q77]))] ++ wX2 cI cZ cB b5 u9) ++ wX3 cI cZ cB b16 u20) ++ wX5 cI cZ cB b27 b5 b16 u39) ++ wX1 cI cZ cB b46 b5 b16 u58) ++ wX4 cI cZ cB b65 u69) ++ [(q77, .inl (cB, 3, .inr (.inr (.inr (.inr (va_up (fun _ => none) 0 (some b95)))))))]) ++ wX0 cI cZ cB b95 u99) ++ wX0 cI cZ cB b95_1 u99_1) H := hP
  have hD : va_D A (((((((([(h0, .inr (7, [.ref b5, .ref b16, .ref b27, .ref b46, .ref b65, .ref q77]))] ++ wX2 cI cZ cB b5 u9) ++ wX3 cI cZ cB b16 u20) ++ wX5 cI cZ cB b27 b5 b16 u39) ++ wX1 cI cZ cB b46 b5 b16 u58) ++ wX4 cI cZ cB b65 u69) ++ [(q77, .inl (cB, 3, .inr (.inr (.inr (.inr (va_up (fun _ => none) 0 (some b95)))))))]) ++ wX0 cI cZ cB b95 u99) ++ wX0 cI cZ cB b95_1 u99_1) := hD
  refine W.widen (k := 41) (n := 2286) (Nat.le_of_ble_eq_true rfl) (Nat.le_of_ble_eq_true rfl) ?_
  refine va_astq (r := (RX0, TX0, 2)) hx hb hK hP hD hS 37 2 40 0 rfl rfl rfl rfl (by unfold vp_in; decide) dX7_102 (fun H locs hP hD hS => ?_)
  have hP : va_P D am_cls (((((((([(h0, .inr (7, [.ref b5, .ref b16, .ref b27, .ref b46, .ref b65, .ref q77]))] ++ wX2 cI cZ cB b5 u9) ++ wX3 cI cZ cB b16 u20) ++ wX5 cI cZ cB b27 b5 b16 u39) ++ wX1 cI cZ cB b46 b5 b16 u58) ++ wX4 cI cZ cB b65 u69) ++ [(q77, .inl (cB, 3, .inr (.inr (.inr (.inr (va_up (va_up (fun _ => none) 0 (some b95)) 1 (some b95_1)))))))]) ++ wX0 cI cZ cB b95 u99) ++ wX0 cI cZ cB b95_1 u99_1) H := hP
  have hD : va_D A (((((((([(h0, .inr (7, [.ref b5, .ref b16, .ref b27, .ref b46, .ref b65, .ref q77]))] ++ wX2 cI cZ cB b5 u9) ++ wX3 cI cZ cB b16 u20) ++ wX5 cI cZ cB b27 b5 b16 u39) ++ wX1 cI cZ cB b46 b5 b16 u58) ++ wX4 cI cZ cB b65 u69) ++ [(q77, .inl (cB, 3, .inr (.inr (.inr (.inr (va_up (va_up (fun _ => none) 0 (some b95)) 1 (some b95_1)))))))]) ++ wX0 cI cZ cB b95 u99) ++ wX0 cI cZ cB b95_1 u99_1) := hD
  refine lv_iinc (k := 0) (v := 2) (lv' := [(1, .int 2), (0, .ref h0)]) hx hb dX7_103 hl rfl (by decide) (by decide) rfl (fun ls hl => ?_)
  refine lv_goto (tgt := 85) hx hb dX7_106 (by decide) ?_
  refine lv_iload_n hx hb dX7_85 rfl (lv_at hl 0 rfl) ?_
  refine lv_iconst (v := 3) hx hb dX7_86 (by decide) ?_
  refine lv_icmp_ge (tgt := 109) hx hb dX7_87 (by decide) (fun h9 => absurd h9 (by decide)) (fun _ => ?_)
  refine lv_aload_n hx hb dX7_90 rfl (lv_at hl 1 rfl) ?_
  refine ct_get (ci := 7) (q := (RX7, TX7, 6)) (i1 := 284) hx hb hts rfl hown hK hP rfl 5 (by decide) (by decide +kernel) rfl rfl dX7_91 ?_
  refine lv_iload_n hx hb dX7_94 rfl (lv_at hl 0 rfl) ?_
  refine ct_new (ci := 0) (q := (RX0, TX0, 2)) (i1 := 263) (i2 := 265) (i3 := 48) (fs := [.int 0, .null]) hx hb hts rfl hown (by decide +kernel) (by decide +kernel) (by decide +kernel) hK hP hD hS hA tyX0 tyX0_ok fX0 (Nat.le_of_ble_eq_true rfl) (Nat.le_of_ble_eq_true rfl) dX7_95 (fun b95_2 H hP hD hS => ?_)
  have hP : va_P D am_cls ((((((((([(h0, .inr (7, [.ref b5, .ref b16, .ref b27, .ref b46, .ref b65, .ref q77]))] ++ wX2 cI cZ cB b5 u9) ++ wX3 cI cZ cB b16 u20) ++ wX5 cI cZ cB b27 b5 b16 u39) ++ wX1 cI cZ cB b46 b5 b16 u58) ++ wX4 cI cZ cB b65 u69) ++ [(q77, .inl (cB, 3, .inr (.inr (.inr (.inr (va_up (va_up (fun _ => none) 0 (some b95)) 1 (some b95_1)))))))]) ++ wX0 cI cZ cB b95 u99) ++ wX0 cI cZ cB b95_1 u99_1) ++ [(b95_2, eX0)]) H := hP
  have hD : va_D A ((((((((([(h0, .inr (7, [.ref b5, .ref b16, .ref b27, .ref b46, .ref b65, .ref q77]))] ++ wX2 cI cZ cB b5 u9) ++ wX3 cI cZ cB b16 u20) ++ wX5 cI cZ cB b27 b5 b16 u39) ++ wX1 cI cZ cB b46 b5 b16 u58) ++ wX4 cI cZ cB b65 u69) ++ [(q77, .inl (cB, 3, .inr (.inr (.inr (.inr (va_up (va_up (fun _ => none) 0 (some b95)) 1 (some b95_1)))))))]) ++ wX0 cI cZ cB b95 u99) ++ wX0 cI cZ cB b95_1 u99_1) ++ [(b95_2, eX0)]) := hD
  refine W.widen (k := 42) (n := 2288) (Nat.le_of_ble_eq_true rfl) (Nat.le_of_ble_eq_true rfl) ?_
  refine lv_dup hx hb dX7_98 rfl ?_
  refine ct_call (wr := (((((((([(h0, .inr (7, [.ref b5, .ref b16, .ref b27, .ref b46, .ref b65, .ref q77]))] ++ wX2 cI cZ cB b5 u9) ++ wX3 cI cZ cB b16 u20) ++ wX5 cI cZ cB b27 b5 b16 u39) ++ wX1 cI cZ cB b46 b5 b16 u58) ++ wX4 cI cZ cB b65 u69) ++ [(q77, .inl (cB, 3, .inr (.inr (.inr (.inr (va_up (va_up (fun _ => none) 0 (some b95)) 1 (some b95_1)))))))]) ++ wX0 cI cZ cB b95 u99) ++ wX0 cI cZ cB b95_1 u99_1)) (b := b95_2) (E := eX0) (wf := wX0 cI cZ cB b95_2) (va_runIN (As := []) (rest := [.ref b95_2, .int 2, .ref q77]) ⟨hx, hb, hml, hown, hts⟩ (c_X0 l D cI cZ cB b95_2 H.size) ⟨va_cnB 0 hts (ct_gd kX0_code) rfl rfl rfl hN.1.2.2.2 (hts _ kX0_ini) (by decide +kernel) ⟨(Nat.le_of_ble_eq_true rfl), (Nat.le_of_ble_eq_true rfl)⟩, rfl, hts _ kX0_inst⟩ (ct_PreS hN hK (ct_lP hP) (ct_lD hD) [.ref b95_2]) rfl rfl hl.1 rfl (lv_room (Nat.le_of_ble_eq_true rfl)) dX7_99 ⟨(Nat.le_of_ble_eq_true rfl), (Nat.le_of_ble_eq_true rfl)⟩) hP hD hS hA (fun u99_2 H locs hP hD hS => ?_)
  have hP : va_P D am_cls ((((((((([(h0, .inr (7, [.ref b5, .ref b16, .ref b27, .ref b46, .ref b65, .ref q77]))] ++ wX2 cI cZ cB b5 u9) ++ wX3 cI cZ cB b16 u20) ++ wX5 cI cZ cB b27 b5 b16 u39) ++ wX1 cI cZ cB b46 b5 b16 u58) ++ wX4 cI cZ cB b65 u69) ++ [(q77, .inl (cB, 3, .inr (.inr (.inr (.inr (va_up (va_up (fun _ => none) 0 (some b95)) 1 (some b95_1)))))))]) ++ wX0 cI cZ cB b95 u99) ++ wX0 cI cZ cB b95_1 u99_1) ++ wX0 cI cZ cB b95_2 u99_2) H := hP
  have hD : va_D A ((((((((([(h0, .inr (7, [.ref b5, .ref b16, .ref b27, .ref b46, .ref b65, .ref q77]))] ++ wX2 cI cZ cB b5 u9) ++ wX3 cI cZ cB b16 u20) ++ wX5 cI cZ cB b27 b5 b16 u39) ++ wX1 cI cZ cB b46 b5 b16 u58) ++ wX4 cI cZ cB b65 u69) ++ [(q77, .inl (cB, 3, .inr (.inr (.inr (.inr (va_up (va_up (fun _ => none) 0 (some b95)) 1 (some b95_1)))))))]) ++ wX0 cI cZ cB b95 u99) ++ wX0 cI cZ cB b95_1 u99_1) ++ wX0 cI cZ cB b95_2 u99_2) := hD
  refine W.widen (k := 43) (n := 2296) (Nat.le_of_ble_eq_true rfl) (Nat.le_of_ble_eq_true rfl) ?_
  refine va_astq (r := (RX0, TX0, 2)) hx hb hK hP hD hS 37 2 42 0 rfl rfl rfl rfl (by unfold vp_in; decide) dX7_102 (fun H locs hP hD hS => ?_)
  have hP : va_P D am_cls ((((((((([(h0, .inr (7, [.ref b5, .ref b16, .ref b27, .ref b46, .ref b65, .ref q77]))] ++ wX2 cI cZ cB b5 u9) ++ wX3 cI cZ cB b16 u20) ++ wX5 cI cZ cB b27 b5 b16 u39) ++ wX1 cI cZ cB b46 b5 b16 u58) ++ wX4 cI cZ cB b65 u69) ++ [(q77, .inl (cB, 3, .inr (.inr (.inr (.inr (va_up (va_up (va_up (fun _ => none) 0 (some b95)) 1 (some b95_1)) 2 (some b95_2)))))))]) ++ wX0 cI cZ cB b95 u99) ++ wX0 cI cZ cB b95_1 u99_1) ++ wX0 cI cZ cB b95_2 u99_2) H := hP
  have hD : va_D A ((((((((([(h0, .inr (7, [.ref b5, .ref b16, .ref b27, .ref b46, .ref b65, .ref q77]))] ++ wX2 cI cZ cB b5 u9) ++ wX3 cI cZ cB b16 u20) ++ wX5 cI cZ cB b27 b5 b16 u39) ++ wX1 cI cZ cB b46 b5 b16 u58) ++ wX4 cI cZ cB b65 u69) ++ [(q77, .inl (cB, 3, .inr (.inr (.inr (.inr (va_up (va_up (va_up (fun _ => none) 0 (some b95)) 1 (some b95_1)) 2 (some b95_2)))))))]) ++ wX0 cI cZ cB b95 u99) ++ wX0 cI cZ cB b95_1 u99_1) ++ wX0 cI cZ cB b95_2 u99_2) := hD
  refine lv_iinc (k := 0) (v := 3) (lv' := [(1, .int 3), (0, .ref h0)]) hx hb dX7_103 hl rfl (by decide) (by decide) rfl (fun ls hl => ?_)
  refine lv_goto (tgt := 85) hx hb dX7_106 (by decide) ?_
  refine lv_iload_n hx hb dX7_85 rfl (lv_at hl 0 rfl) ?_
  refine lv_iconst (v := 3) hx hb dX7_86 (by decide) ?_
  refine lv_icmp_ge (tgt := 109) hx hb dX7_87 (by decide) (fun _ => ?_) (fun h9 => absurd (by decide) h9)
  have hP9 := hP.sub (ws' := wX7 cI cZ cB h0 (fun k => ([b5, (u9 0), (u9 1), b16, (u20 0), (u20 1), (u20 2), (u20 3), (u20 4), b27, (u39 0), (u39 1), (u39 2), (u39 3), (u39 4), (u39 5), (u39 6), (u39 7), (u39 8), (u39 9), (u39 10), (u39 11), (u39 12), (u39 13), b46, (u58 0), (u58 1), (u58 2), (u58 3), (u58 4), (u58 5), (u58 6), (u58 7), b65, (u69 0), (u69 1), q77, b95, (u99 0), b95_1, (u99_1 0), b95_2, (u99_2 0)] : List Nat).getD k 0)) [0, 1, 2, 3, 4, 5, 6, 7, 8, 9, 10, 11, 12, 13, 14, 15, 16, 17, 18, 19, 20, 21, 22, 23, 24, 25, 26, 27, 28, 29, 30, 31, 32, 33, 34, 35, 36, 37, 38, 39, 40, 41, 42, 43] rfl
  have hD9 := hD.sub (ws' := wX7 cI cZ cB h0 (fun k => ([b5, (u9 0), (u9 1), b16, (u20 0), (u20 1), (u20 2), (u20 3), (u20 4), b27, (u39 0), (u39 1), (u39 2), (u39 3), (u39 4), (u39 5), (u39 6), (u39 7), (u39 8), (u39 9), (u39 10), (u39 11), (u39 12), (u39 13), b46, (u58 0), (u58 1), (u58 2), (u58 3), (u58 4), (u58 5), (u58 6), (u58 7), b65, (u69 0), (u69 1), q77, b95, (u99 0), b95_1, (u99_1 0), b95_2, (u99_2 0)] : List Nat).getD k 0)) [0, 1, 2, 3, 4, 5, 6, 7, 8, 9, 10, 11, 12, 13, 14, 15, 16, 17, 18, 19, 20, 21, 22, 23, 24, 25, 26, 27, 28, 29, 30, 31, 32, 33, 34, 35, 36, 37, 38, 39, 40, 41, 42, 43] (by decide +kernel) rfl
  exact W.vret hx hb hr (fun t ht hW => ⟨⟨_, rfl, trivial, by rw [ht]; exact hP9, hD9⟩, hS.F ht⟩) hS.2.2 dX7_109
