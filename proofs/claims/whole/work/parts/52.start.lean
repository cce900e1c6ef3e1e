/-! THE CLAIM OUT OF ONE WALK OF THE LAW'S BODY. Your part is whole_start (and what it stands on); all else here is the same for every law, but numbers. -/
def R_law : String := "LetterDaysLaw"
def lw_P (b : Addr) (xs : List Int32) (args : Array Value) (s : State) : Prop := args = #[.ref b] ∧ s.IntsAt b xs ∧ xs.length ≤ 3072 ∧ (Jvm.Cond.and given_1 narrow_1).before args s = true
def lw_Q (_ : Array Value) (s : State) (o : Outcome) (t : State) : Prop := o = .returned (some (.int 1)) ∧ Framed s o t [] 600000 7302250
def lw_Z (below : List Frame) (a : Array Value) (s : State) : State → Prop := fun t => ∃ o, t.status = .running ∧ Ended t below o ∧ lw_Q a s o t
/-- the law's own end, with 1 on the stack, nothing written that was there before, its room as the claim has it -/
theorem lw_ret {p : Program} {l : Launch} {e : Env} {s : State} {m : MethodId} {below : List Frame} {meth : Method} {c : Code} {b : Nat} (hx : p.tables.exec = Jvm.exec) (hb : c.code = code) (hr : meth.sig.returnType = ret) (hlocks : meth.locks = false) {pc : Nat} {H : Heap} {ls : Array Slot} (hdg : decode code pc = .ok (.ireturn, 1)) : W p l e room_1 s m #[Value.ref b] below meth c H [] 600000 7302250 (lw_Z below #[Value.ref b] s) (F0 m pc ls [.int 1]) := by
  intro T hT X
  obtain ⟨fs, hret, hrun, hended, hW, hframe⟩ := X.leave (v := some (.int 1)) (hlocks := hlocks) (fun h => by rw [hr] at h; cases h)
  have hmeth' : T.vm.method? m = some meth := X.method'
  refine ⟨T.setFrames fs, ?_, .returned (some (.int 1)), hrun, hended, rfl, ⟨_, rfl⟩, hW, hframe⟩
  jvm_step X.here [X.here.top, hx, hb, hdg, hmeth', hr, ret, narrow_b1]
  (try refine ⟨rfl, ?_⟩); (try refine ⟨rfl, ?_⟩)
  first | (intro acts; rw [hret _ acts rfl rfl rfl]) | rw [hret _ _ rfl rfl rfl]
  exact Steps.refl _
/-- what holds at the law's entry: the machine, the code, the tables' words (any of lw_tbl by 'hts w (by decide +kernel)'), the script of L ints xs at the cell b, what the Statement gives of the start (any of its parts by flat_of_before) -/
def lw_At (p : Program) (s : State) (m : MethodId) (meth : Method) (c : Code) (b L : Nat) (xs : Nat → Int32) : Prop :=
  p.tables.exec = Jvm.exec ∧ c.code = code ∧ meth.sig.returnType = ret ∧ c.maxLocals = 4 ∧ s.vm.findClass R_law = some m.cls ∧ (∀ w ∈ lw_tbl, w.before #[Value.ref b] s = true) ∧ va_X b L xs s s.heap ∧ b < s.heap.size ∧ meth.locks = false ∧ (Jvm.Cond.and given_1 narrow_1).before #[Value.ref b] s = true
theorem dL_0 : decode code 0 = .ok (.new 7, 3) := by decide +kernel
theorem dL_3 : decode code 3 = .ok (.dup, 1) := by decide +kernel
theorem dL_4 : decode code 4 = .ok (.invokespecial 9, 3) := by decide +kernel
theorem dL_7 : decode code 7 = .ok (.astore_n 1, 1) := by decide +kernel
theorem dL_8 : decode code 8 = .ok (.new 10, 3) := by decide +kernel
theorem dL_11 : decode code 11 = .ok (.dup, 1) := by decide +kernel
theorem dL_12 : decode code 12 = .ok (.invokespecial 12, 3) := by decide +kernel
theorem dL_15 : decode code 15 = .ok (.astore_n 2, 1) := by decide +kernel
theorem ct_wO3 : Jvm.Cond.arrayOver (.object "LetterDays$Bundle") ∈ lw_tbl := List.mem_of_getElem? (i := 264) (by decide +kernel)
theorem ct_Nn_of {s : State} {args : Array Value} (hts : ∀ w ∈ lw_tbl, w.before args s = true) : ct_Nn s :=
  ⟨⟨va_Nw.of rfl (hts (.methodLinkNest RX7 9 yX2_init "LetterDays") (List.mem_of_getElem? (i := 62) (by decide +kernel))), va_Nw.of rfl (hts (.methodLinkNest RX7 18 yX3_init "LetterDays") (List.mem_of_getElem? (i := 86) (by decide +kernel))), va_Nw.of rfl (hts (.methodLinkNest RX7 41 yX4_init "LetterDays") (List.mem_of_getElem? (i := 249) (by decide +kernel))), va_Nw.of rfl (hts (.methodLinkNest RX7 52 yX0_init "LetterDays") (List.mem_of_getElem? (i := 266) (by decide +kernel)))⟩, ⟨va_Nw.of rfl (hts (.methodLinkNest RX1 11 yX6_init "LetterDays") (List.mem_of_getElem? (i := 217) (by decide +kernel))), va_Nw.of rfl (hts (.methodLinkNest RX5 20 yX6_init "LetterDays") (List.mem_of_getElem? (i := 135) (by decide +kernel)))⟩, va_AO.of (hts _ ct_wO3)⟩
/-- the classes, by the tables -/
theorem ct_classes {s : State} {args : Array Value} (hts : ∀ w ∈ am_tbl, w.before args s = true) : ∃ D : va_G, ∀ (k : Nat) (q : vw_C), am_cls[k]? = some q → u_Kn s q.1 q.2.1 q.2.2 (D.1 k) (D.2 k) := by
  have kn : ∀ (k : Nat) (q : vw_C), am_cls[k]? = some q → ∃ (cC : ClassId) (iS : Nat → Nat), u_Kn s q.1 q.2.1 q.2.2 cC iS := by
    intro k q hq
    have hi : ∃ n, Jvm.Cond.instantiable q.1 n ∈ am_tbl := by
      match k, hq with
      | 0, hq => cases hq; exact ⟨2, am_wat_in (i := 265) (by decide +kernel)⟩
      | 1, hq => cases hq; exact ⟨9, am_wat_in (i := 211) (by decide +kernel)⟩
      | 2, hq => cases hq; exact ⟨3, am_wat_in (i := 61) (by decide +kernel)⟩
      | 3, hq => cases hq; exact ⟨7, am_wat_in (i := 85) (by decide +kernel)⟩
      | 4, hq => cases hq; exact ⟨3, am_wat_in (i := 248) (by decide +kernel)⟩
      | 5, hq => cases hq; exact ⟨13, am_wat_in (i := 128) (by decide +kernel)⟩
      | 6, hq => cases hq; exact ⟨9, am_wat_in (i := 134) (by decide +kernel)⟩
      | 7, hq => cases hq; exact ⟨6, am_wat_in (i := 53) (by decide +kernel)⟩
      | 8, hq => cases hq; exact ⟨18, am_wat_in (i := 629) (by decide +kernel)⟩
      | n + 9, hq => cases hq
    obtain ⟨n, hn⟩ := hi
    exact u_known (n := n) hts (am_cls_ok hq).1 (hts _ hn)
  obtain ⟨c0, i0, -⟩ := kn 0 _ rfl
  have h : ∀ k : Nat, ∃ (cC : ClassId) (iS : Nat → Nat), ∀ q : vw_C, am_cls[k]? = some q → u_Kn s q.1 q.2.1 q.2.2 cC iS := by
    intro k
    cases hq : am_cls[k]? with
    | none => exact ⟨c0, i0, fun q h => by cases h⟩
    | some q =>
      obtain ⟨cC, iS, hk⟩ := kn k q hq
      exact ⟨cC, iS, fun q' h' => by cases h'; exact hk⟩
  exact ⟨(fun k => Classical.choose (h k), fun k => Classical.choose (Classical.choose_spec (h k))), fun k q hq => Classical.choose_spec (Classical.choose_spec (h k)) q hq⟩
theorem ct_arrays {s : State} {args : Array Value} (hts : ∀ w ∈ lw_tbl, w.before args s = true) {D : va_G} (hKc : ∀ (k : Nat) (q : vw_C), am_cls[k]? = some q → u_Kn s q.1 q.2.1 q.2.2 (D.1 k) (D.2 k)) : ∃ cI cZ cB : ClassId, va_K D am_cls (ct_ty cI cZ cB) s := by
  obtain ⟨cI, kI, pI, fI, gI, eI⟩ := Cond.arrayClass_spec (hts _ (List.mem_filter.mp ct_wI).1)
  obtain ⟨cZ, kZ, pZ, fZ, gZ, eZ⟩ := Cond.arrayClass_spec (hts _ (List.mem_filter.mp ct_wZ).1)
  obtain ⟨pB, cB, kB, fB, -, gB, eB, nB⟩ := Cond.arrayOver_spec (hts _ ct_wO3)
  refine ⟨cI, cZ, cB, hKc, fun k q hk => ?_⟩
  match k, hk with
  | 0, hk => cases hk; exact ⟨fun n z => ⟨fun k h => (by cases h), kI, gI, pI, eI⟩, fI⟩
  | 1, hk => cases hk; exact ⟨fun n z => ⟨fun k h => (by cases h), kZ, gZ, pZ, eZ⟩, fZ⟩
  | 2, hk => cases hk; exact ⟨fun n z => ⟨fun k h => (by cases h), kB, gB, pB, eB⟩, kB, pB, gB, eB, fB, nB⟩
  | n + 3, hk => cases hk
theorem ct_rng (L : Nat) (xs : Nat → Int32) {j : Int} (j0 : 0 ≤ j) : am_rng (st0 L xs 60 j) := by
  have e : st0 L xs 60 j = (xs j.toNat).toInt := if_neg (by omega)
  rw [e]
  have h1 := Int32.le_toInt (xs j.toNat)
  have h2 := Int32.toInt_lt (xs j.toNat)
  exact ⟨by omega, by omega⟩
theorem ct_scr (L : Nat) (xs : Nat → Int32) (j : Nat) : xs j = Int32.ofInt (st0 L xs 60 (j : Int)) := by
  have e : st0 L xs 60 (j : Int) = (xs ((j : Int)).toNat).toInt := (show (if (j : Int) = -1 then (L : Int) else (xs ((j : Int)).toNat).toInt) = _ from if_neg (by omega))
  rw [e, Int32.ofInt_toInt, Int.toNat_natCast]
set_option maxHeartbeats 4000000 in
set_option maxRecDepth 100000 in
theorem whole_start {p : Program} {e : Env} {s : State} {m : MethodId} {below : List Frame} {meth : Method} {c : Code} (l : Launch) (hflags : l.flags = flags0) {b L : Nat} {xs : Nat → Int32} (hL : L ≤ 3072) (C0 : lw_At p s m meth c b L xs) : W p l e room_1 s m #[Value.ref b] below meth c s.heap [] 0 0 (lw_Z below #[Value.ref b] s) (entryFrame m ([Value.ref b] : List Value).toArray 4) := by
  obtain ⟨hx, hb, hr, hml, hown, hts, hX, hbl, hlocks, hgv⟩ := id C0
  have htg : ∀ w ∈ am_tbl, w.before #[Value.ref b] s = true := fun w hw => hts w (List.mem_filter.mp hw).1
  obtain ⟨A, hAe⟩ : ∃ A : Nat → Prop, A = fun q : Nat => s.heap.size ≤ q := ⟨_, rfl⟩
  have hA : ∀ q : Nat, s.heap.size ≤ q → A q := fun q h => by rw [hAe]; exact h
  have hAi : ∀ q : Nat, A q → s.heap.size ≤ q := fun q h => by rw [hAe] at h; exact h
  have hbA : ¬ A b := fun h => Nat.not_le.mpr hbl (hAi b h)
  obtain ⟨D, hKc⟩ := ct_classes htg
  obtain ⟨cI, cZ, cB, hK⟩ := ct_arrays hts hKc
  have hN : ct_Nn s := ct_Nn_of hts
  have hS : va_S A s.heap s.heap [] := va_S.rf
  have hP : va_P D am_cls [] s.heap := fun k q h => by simp at h
  have hD : va_D A [] := ⟨fun i j p q h => by simp at h, fun k q h => by simp at h⟩
  have hl := lv_entry ([.ref b]) (n := 4) (Nat.le_of_ble_eq_true rfl)
  rw [lg_entry_eq]
  generalize (lg_sl ([.ref b]) ++ List.replicate (4 - (lg_sl ([.ref b])).length) Slot.unset).toArray = ls at hl ⊢
  have hl : lv_has ls 4 [(0, .ref b)] := hl
  refine ct_new (own := R_law) (ci := 7) (q := (RX7, TX7, 6)) (i1 := 52) (i2 := 53) (i3 := 41) (fs := [.null, .null, .null, .null, .null, .null]) hx hb htg rfl hown (by decide +kernel) (by decide +kernel) (by decide +kernel) hK hP hD hS hA tyX7 tyX7_ok fX7 (Nat.le_of_ble_eq_true rfl) (Nat.le_of_ble_eq_true rfl) dL_0 (fun b7 H hP hD hS => ?_)
  have hP : va_P D am_cls ([] ++ [(b7, eX7)]) H := hP
  have hD : va_D A ([] ++ [(b7, eX7)]) := hD
  refine W.widen (k := 1) (n := 6) (Nat.le_of_ble_eq_true rfl) (Nat.le_of_ble_eq_true rfl) ?_
  refine lv_dup hx hb dL_3 rfl ?_
  refine ct_call (wr := []) (b := b7) (E := eX7) (wf := wX7 cI cZ cB b7) (va_runI (As := []) (rest := [.ref b7]) ⟨hx, hb, hml, hown, htg⟩ (c_X7 l D cI cZ cB b7 H.size) (cwI 0 htg (ct_gd kX7_code) rfl rfl rfl (htg _ kX7_ini) (htg _ (am_wat_in (i := 54) (w := .methodLink R_law 9 yX7_init) (by decide +kernel))) (htg _ kX7_inst) rfl (by decide +kernel) ⟨(Nat.le_of_ble_eq_true rfl), (Nat.le_of_ble_eq_true rfl)⟩) (ct_PreS hN hK (ct_lP hP) (ct_lD hD) [.ref b7]) rfl rfl hl.1 rfl (lv_room (Nat.le_of_ble_eq_true rfl)) dL_4 ⟨(Nat.le_of_ble_eq_true rfl), (Nat.le_of_ble_eq_true rfl)⟩) hP hD hS hA (fun u7 H locs hP hD hS => ?_)
  have hP : va_P D am_cls (wX7 cI cZ cB b7 u7) H := hP
  have hD : va_D A (wX7 cI cZ cB b7 u7) := hD
  refine W.widen (k := 44) (n := 2302) (Nat.le_of_ble_eq_true rfl) (Nat.le_of_ble_eq_true rfl) ?_
  refine lv_astore_n (lv' := [(1, .ref b7), (0, .ref b)]) hx hb dL_7 rfl hl (by decide) rfl (fun ls hl => ?_)
  refine ct_new (own := R_law) (ci := 8) (q := (RX8, TX8, 18)) (i1 := 628) (i2 := 629) (i3 := 49) (fs := [.int 0, .null, .null, .int 0, .null, .null, .null, .null, .null, .null, .null, .null, .int 0, .null, .null, .null, .null, .null]) hx hb htg rfl hown (by decide +kernel) (by decide +kernel) (by decide +kernel) hK hP hD hS hA tyX8 tyX8_ok fX8 (Nat.le_of_ble_eq_true rfl) (Nat.le_of_ble_eq_true rfl) dL_8 (fun b8 H hP hD hS => ?_)
  have hP : va_P D am_cls (wX7 cI cZ cB b7 u7 ++ [(b8, eX8)]) H := hP
  have hD : va_D A (wX7 cI cZ cB b7 u7 ++ [(b8, eX8)]) := hD
  refine W.widen (k := 45) (n := 2320) (Nat.le_of_ble_eq_true rfl) (Nat.le_of_ble_eq_true rfl) ?_
  refine lv_dup hx hb dL_11 rfl ?_
  refine ct_call (wr := wX7 cI cZ cB b7 u7) (b := b8) (E := eX8) (wf := wX8 cI cZ cB b8) (va_runI (As := []) (rest := [.ref b8]) ⟨hx, hb, hml, hown, htg⟩ (c_X8 l D cI cZ cB b8 H.size) (cwI 0 htg (ct_gd kX8_code) rfl rfl rfl (htg _ kX8_ini) (htg _ (am_wat_in (i := 630) (w := .methodLink R_law 12 yX8_init) (by decide +kernel))) (htg _ kX8_inst) rfl (by decide +kernel) ⟨(Nat.le_of_ble_eq_true rfl), (Nat.le_of_ble_eq_true rfl)⟩) (ct_PreS hN hK (ct_lP hP) (ct_lD hD) [.ref b8]) rfl rfl hl.1 rfl (lv_room (Nat.le_of_ble_eq_true rfl)) dL_12 ⟨(Nat.le_of_ble_eq_true rfl), (Nat.le_of_ble_eq_true rfl)⟩) hP hD hS hA (fun u8 H locs hP hD hS => ?_)
  refine W.widen (k := 60) (n := 2785) (Nat.le_of_ble_eq_true rfl) (Nat.le_of_ble_eq_true rfl) ?_
  refine lv_astore_n (lv' := [(2, .ref b8), (1, .ref b7), (0, .ref b)]) hx hb dL_15 rfl hl (by decide) rfl (fun ls hl => ?_)
  have hpc : am_pc mZ_law 8 = 16 := by decide +kernel
  have hw := s_law (d := 0) (Q := fun o _ => o = some 1) (am_sound l (ct_G D cI cZ cB b7 u7 b8 u8 b)) (σ0 := st0 L xs) (show (0 : Int) ≤ (L : Int) by omega) (show (L : Int) ≤ 2000000000 by omega) (fun j j0 _ => ct_rng L xs j0) (st0_Inv L xs) (fun _ _ => rfl)
    p e room_1 s m #[Value.ref b] below meth c H locs 60 2785 ls A (lw_Z below #[Value.ref b] s) (st0 L xs am_NC)
    ⟨hx, hb, hml, hown, htg, ⟨Nat.le_of_ble_eq_true rfl, Nat.le_of_ble_eq_true rfl, Nat.le_of_ble_eq_true rfl, Nat.le_of_ble_eq_true rfl⟩, hK, ct_P b L xs hP, ct_D b L xs hD, hS, hA, rfl, fun _ => ⟨L, xs, hX, hbl, hbA, rfl, by omega, fun j _ => ct_scr L xs j⟩⟩
    (lv_sub hl [2, 1, 0] rfl) (by
      intro o σ' H' locs' pc ls' hq hX' _ hdg
      subst hq
      obtain ⟨-, -, -, -, -, -, -, -, -, hS', -, -⟩ := hX'
      refine va_forget (fun q hq => hAi _ (hS'.2.2 q hq)) (W.widen (k := 600000) (n := 7302250) (Nat.le_of_ble_eq_true rfl) (Nat.le_of_ble_eq_true rfl) ?_)
      exact lw_ret hx hb hr hlocks hdg)
  rw [hpc] at hw
  exact hw
-- ===== YOUR PART ENDS =====
set_option maxHeartbeats 4000000 in
theorem lw_walk (l : Launch) (hflags : l.flags = flags0) (b : Addr) (xs : List Int32) : MetFree l x (headSpec (Jvm.Cond.code x code maxLocals ret :: tables_1) room_1) (lw_P b xs) (fun _ _ _ _ _ => True) lw_Q := by
  refine MetFree.of_bodyS (code := code) (maxLocals := maxLocals) (ret := ret) (by decide) ?_ ?_
  · intro args s m h hn
    obtain ⟨meth, c, h1, h2, h3, h4, h5, h6, -, -⟩ := Cond.code_spec hn (atoms_spec (ws := Jvm.Cond.code x code maxLocals ret :: tables_1) h _ List.mem_cons_self)
    exact ⟨meth, c, h1, h2, h3, h4, h5, h6⟩
  · intro p e s m args below meth c s₁ B hml0 hP _
    obtain ⟨rfl, hx, hbd, hgv⟩ := hP
    obtain ⟨scr, harrAt, hlist, hof, hsmall⟩ := hx
    obtain ⟨hcb, hkn, -, -⟩ := State.arrayAt?_spec harrAt
    have hown : s.vm.findClass R_law = some m.cls := findClass_of_methodNamed B.named
    have hts0 : ∀ c ∈ (Jvm.Cond.code x code maxLocals ret :: tables_1), c.before #[Value.ref b] s = true := atoms_spec (ws := Jvm.Cond.code x code maxLocals ret :: tables_1) B.pre
    have hts : ∀ w ∈ lw_tbl, w.before #[Value.ref b] s = true := k2_hts_sels lw_privs (fun w hw => hts0 w (List.mem_cons_of_mem _ hw)) lw_privs_ok
    have hml : c.maxLocals = 4 := B.maxLocals_eq (hts0 _ List.mem_cons_self)
    have X₀ : Stand p l e room_1 s m #[Value.ref b] below meth c s₁ [] 0 0 := Stand.of_body B
    have hh0 : s₁.heap = s.heap := by rw [B.state]; rfl
    have hsz : scr.slots.size = xs.length := by rw [← Array.length_toList, hlist, List.length_map]
    have hval : ∀ j : Nat, j < xs.length → scr.slots[j]? = some (.int (xs.getD j 0)) := fun j hj => by
      rw [← Array.getElem?_toList, hlist]
      simp [hj]
    have hbl : b < s.heap.size := (Array.getElem?_eq_some_iff.mp hcb).1
    have hX : va_X b xs.length (fun j => xs.getD j 0) s s.heap := ⟨scr, hcb, hof, hkn, hsz, hval⟩
    have K : W p l e room_1 s m #[Value.ref b] below meth c s₁.heap [] 0 0 (lw_Z below #[Value.ref b] s) (entryFrame m ([Value.ref b] : List Value).toArray 4) := by
      rw [hh0]
      exact whole_start l hflags hbd ⟨B.exec, B.bytes, B.returns, hml, hown, hts, hX, hbl, B.notSynchronized, hgv⟩
    obtain ⟨t, a1, o, b1, b2, b3⟩ := K s₁ rfl X₀
    exact ⟨t, o, a1, b1, b2, b3⟩
theorem lw_pre_spec {args : Array Value} {s : State} (h : (Jvm.Cond.and given_1 narrow_1).before args s = true) (hr : rest_1_c.before args s = true) : ∃ (b : Addr) (xs : List Int32), lw_P b xs args s := by
  have hs := flat_of_before _ h
  have hq := flat_of_before _ hr
  have hc : (Cond.count 1).before args s = true := hs _ (by decide +kernel)
  have harr : (Cond.arrayOf (.arg 0) .int).before args s = true := hs _ (by decide +kernel)
  have hle : (Cond.le (.length (.arg 0)) (.int 3072)).before args s = true := hs _ (by decide +kernel)
  have hlen : (Cond.isInt (.length (.arg 0))).before args s = true := hq _ (by decide +kernel)
  have hall : (Cond.all (.arg 0) (.isInt (.elem (.arg 0) (.index 0)))).before args s = true := hq _ (by decide +kernel)
  obtain ⟨b, xs, hb, hx⟩ := State.ints_of_pre rfl harr hlen hall
  have hsm : xs.length < 2 ^ 31 := hx.choose_spec.2.2.2
  have hev : (Term.length (.arg 0)).eval args s none [] s = some (.int xs.length.toInt32) := hx.length_eval hb
  have hv := Cond.le_ints hev (show (Term.int 3072).eval args s none [] s = some (.int 3072) from rfl)
  have hd : xs.length.toInt32 ≤ 3072 := by
    simpa [Cond.before, Cond.holds, hv] using hle
  have hN : xs.length ≤ 3072 := (Int32.ofNat_le_ofNat hsm (by decide)).mp (show Int32.ofNat xs.length ≤ Int32.ofNat 3072 from hd)
  exact ⟨b, xs, Cond.one_arg hc (show args[0]? = some (.ref b) from hb), hx, hN, h⟩
theorem lw_comes (l : Launch) (hflags : l.flags = flags0) : Comes l x (Jvm.Cond.code x code maxLocals ret :: tables_1) room_1 (fun tb e args s => Calls_1 tb e args s ∧ rest_1 tb e args s ∧ Pre_1 tb e args s)
    (fun _ _ args s o t => lw_Q args s o t) := by
  intro p e ha hc hk s m args below hf hfit hheap happ hpre
  obtain ⟨b, xs, hP⟩ := lw_pre_spec hpre.2.2 hpre.2.1
  obtain ⟨k, o, h1, h2, h3, hQ⟩ := lw_walk l hflags b xs p e ha hc hk s m args below hf ((Spec.applies_iff_loose hf).mp happ).1 hP trivial
  exact ⟨k, o, h1, h2, h3, hQ⟩
theorem lw_frame {s t : State} {o : Outcome} {args : Array Value} (h : Framed s o t [] 600000 7302250) :
    Framed s o t (fieldLocs frame_1_writes args s ++ arrayLocs frame_1_arrays args s ++ staticLocs frame_1_statics s) 600000 7302250 := h
theorem lw_limb (L : Cond) (hL : ∀ (args : Array Value) (s t : State), L.after args s (.returned (some (.int 1))) t = true) :
    ArmFor flags0 classFile x code maxLocals ret World_1 tables_1 room_1 Calls_1 rest_1 Pre_1
      (fun tb e a s o t => postC L tb e a s o t ∧ Framed s o t (fieldLocs frame_1_writes a s ++ arrayLocs frame_1_arrays a s ++ staticLocs frame_1_statics s) 600000 7302250) := by
  intro l hflags _ _ p e ha hc hk s m args below hf hfit hheap happ hpre
  obtain ⟨k, o, h1, h2, h3, rfl, hF⟩ := lw_comes l hflags p e ha hc hk s m args below hf hfit hheap happ hpre
  exact ⟨k, _, h1, h2, h3, hL args s _, lw_frame hF⟩
theorem i_vc : Claimed_1_1 ∧ Claimed_1_2 := ⟨lw_limb limb_1_1 (fun args s t => by simp [limb_1_1, Cond.after, Cond.holds, Cond.value]), lw_limb limb_1_2 (fun args s t => Cond.after_iff.mpr (by
  first | (rw [show limb_1_2 = Cond.eq .result (.int 1) from rfl, Cond.eq_ints (x := 1) (y := 1) rfl rfl]; simp; done) | (simp [limb_1_2, Cond.value, Term.eval]; done)))⟩
