/-! CONSTRUCTORS: what all of them share -/
abbrev ct_ty (cI cZ cB : ClassId) : List (ClassId × FieldType) := [(cI, .int), (cZ, .boolean), (cB, .object "LetterDays$Bundle")]
abbrev ct_ia (cA : ClassId) (n : Nat) : va_E := .inl (cA, n, .inl fun _ => 0)
def ct_wd (y : MethodName) (cc : ByteArray) (n : Nat) : List Jvm.Cond := .code y cc n none :: am_tbl
theorem ct_gd {y : MethodName} {cc : ByteArray} {n : Nat} (h : Jvm.Cond.code y cc n none ∈ am_tbl) : GoodIn am_tbl (ct_wd y cc n) := by
  intro w hw
  have hm : w ∈ am_tbl := by
    rcases List.mem_cons.mp hw with rfl | h2
    · exact h
    · exact h2
  exact ⟨hm, good_of_word (am_good hm)⟩
/-- the words that no call hands on: the private constructors, and the array of bundles -/
def ct_Nn (U : State) : Prop := (va_Nw (.methodLinkNest RX7 9 yX2_init "LetterDays") U ∧ va_Nw (.methodLinkNest RX7 18 yX3_init "LetterDays") U ∧ va_Nw (.methodLinkNest RX7 41 yX4_init "LetterDays") U ∧ va_Nw (.methodLinkNest RX7 52 yX0_init "LetterDays") U) ∧ (va_Nw (.methodLinkNest RX1 11 yX6_init "LetterDays") U ∧ va_Nw (.methodLinkNest RX5 20 yX6_init "LetterDays") U) ∧ va_AO "LetterDays$Bundle" U
theorem ct_Nn_warm {s U : State} (hW : s.WarmedH U.vm) (h : ct_Nn s) : ct_Nn U := by
  obtain ⟨⟨a1, a2, a3, a4⟩, ⟨a5, a6⟩, a7⟩ := h
  exact ⟨⟨a1.warmM hW, a2.warmM hW, a3.warmM hW, a4.warmM hW⟩, ⟨a5.warmM hW, a6.warmM hW⟩, a7.moved hW.alike⟩
theorem ct_Nn_same {u U : State} (hv : u.vm = U.vm) (h : ct_Nn u) : ct_Nn U := by
  obtain ⟨⟨a1, a2, a3, a4⟩, ⟨a5, a6⟩, a7⟩ := h
  exact ⟨⟨a1.same rfl hv, a2.same rfl hv, a3.same rfl hv, a4.same rfl hv⟩, ⟨a5.same rfl hv, a6.same rfl hv⟩, a7.moved (by rw [hv]; exact Vm.Alike.refl U.vm)⟩
def ct_Pm (D : va_G) (cI cZ cB : ClassId) (As : List Value) (ws : va_W) (sz : Nat) : Array Value → State → Prop := va_Pc As (fun U => U.heap.size = sz ∧ va_P D am_cls ws U.heap ∧ va_K D am_cls (ct_ty cI cZ cB) U ∧ va_D (fun _ => True) ws ∧ ct_Nn U)
theorem ct_blind (D : va_G) (cI cZ cB : ClassId) (As : List Value) (ws : va_W) (sz : Nat) : FrameBlind (ct_Pm D cI cZ cB As ws sz) := by
  intro a U g mk q
  obtain ⟨q0, q1, qP, qK, qD, qN⟩ := q
  exact ⟨q0, q1, qP, va_K.moved (u := U) (U := U.calling g mk a) (Vm.Alike.refl U.vm) qK, qD, ct_Nn_same (u := U) (U := U.calling g mk a) rfl qN⟩
/-- a constructor's contract: the new object, and the cells that it makes, at addresses u -/
def ct_Qm (D : va_G) (w0 : va_W) (wf : (Nat → Nat) → va_W) (sz : Nat) : Array Value → State → Outcome → State → Prop := va_Qv (fun _ : Nat → Nat => True) (fun u t => va_P D am_cls (wf u) t.heap ∧ va_D (va_A w0 sz) (wf u)) (va_A w0 sz)
def ct_Met (l : Launch) (D : va_G) (cI cZ cB : ClassId) (y : MethodName) (cc : ByteArray) (n : Nat) (rm : Room) (As : List Value) (w0 : va_W) (wf : (Nat → Nat) → va_W) (mc ms sz : Nat) : Prop :=
  Met l y (ct_wd y cc n) rm (ct_Pm D cI cZ cB As w0 sz) (ct_Qm D w0 wf sz) mc ms (va_A w0 sz)
theorem ct_lP {D : va_G} {cl : List vw_C} {wr : va_W} {x : Nat × va_E} {H : Heap} (h : va_P D cl (wr ++ [x]) H) : va_P D cl [x] H := by
  intro k q hk
  have hz : k < 1 := (List.getElem?_eq_some_iff.mp hk).1
  have h0 : k = 0 := by omega
  subst h0
  exact h wr.length q (by rw [List.getElem?_append_right (Nat.le_refl _), Nat.sub_self]; exact hk)
theorem ct_lD {A : Nat → Prop} {wr : va_W} {x : Nat × va_E} (h : va_D A (wr ++ [x])) : va_D A [x] := by
  refine ⟨fun i j a b hi hj _ => ?_, fun k q hk => ?_⟩
  · have h1 : i < 1 := (List.getElem?_eq_some_iff.mp hi).1
    have h2 : j < 1 := (List.getElem?_eq_some_iff.mp hj).1
    omega
  · have hz : k < 1 := (List.getElem?_eq_some_iff.mp hk).1
    have h0 : k = 0 := by omega
    subst h0
    exact h.2 wr.length q (by rw [List.getElem?_append_right (Nat.le_refl _), Nat.sub_self]; exact hk)
section
variable {p : Program} {l : Launch} {e : Env} {R : Room} {s : State} {m : MethodId} {args : Array Value} {below : List Frame} {meth : Method} {c : Code} {H : Heap} {locs : List Loc} {cells slots : Nat} {Q : State → Prop}
variable {cc : ByteArray} {pc : Nat} {ls : Array Slot} {rest : List Value} {D : va_G} {A : Nat → Prop} {a : Nat} {ws : va_W} {H0 : Heap} {cI cZ cB : ClassId}
theorem ct_PreS (hN : ct_Nn s) (hK : va_K D am_cls (ct_ty cI cZ cB) s) (hP : va_P D am_cls ws H) (hD : va_D A ws) (As : List Value) : PreS s H (ct_Pm D cI cZ cB As ws H.size) As :=
  ⟨ct_blind D cI cZ cB As ws H.size, fun U hU hW => ⟨rfl, by rw [hU], by rw [hU]; exact hP, va_K.moved hW.alike hK, hD.weaken (fun _ _ _ _ => trivial), ct_Nn_warm hW hN⟩⟩
/-- behind a constructor's call: the object was the last cell -/
theorem ct_call {wr : va_W} {b : Nat} {E : va_E} {wf : (Nat → Nat) → va_W} {av : Array Value} {st0 : List Value} {mc ms : Nat} (hr : va_Run p l e R s m args below meth c H locs cells slots mc ms (F0 m pc ls st0) rest (ct_Qm D [(b, E)] wf H.size av) (va_A [(b, E)] H.size))
    (hP : va_P D am_cls (wr ++ [(b, E)]) H) (hD : va_D A (wr ++ [(b, E)])) (hS : va_S A H0 H locs) (hA : ∀ q, H0.size ≤ q → A q)
    (kk : ∀ (u : Nat → Nat) (H1 : Heap) (locs1 : List Loc), va_P D am_cls (wr ++ wf u) H1 → va_D A (wr ++ wf u) → va_S A H0 H1 locs1 → W p l e R s m args below meth c H1 locs1 (cells + mc) (slots + ms) Q (F0 m (pc + 3) ls rest)) : W p l e R s m args below meth c H locs cells slots Q (F0 m pc ls st0) := by
  have hlast : (wr ++ [(b, E)])[wr.length]? = some (b, E) := by
    rw [List.getElem?_append_right (Nat.le_refl _), Nat.sub_self]
    rfl
  have up : ∀ (k : Nat) (q : Nat × va_E), wr[k]? = some q → (wr ++ [(b, E)])[k]? = some q := fun k q hq => by
    rw [List.getElem?_append_left (List.getElem?_eq_some_iff.mp hq).1]
    exact hq
  have one : ∀ (k : Nat) (q : Nat) (e : va_E), [(b, E)][k]? = some (q, e) → b = q := by
    intro k q e h
    have hz : k < 1 := (List.getElem?_eq_some_iff.mp h).1
    have h0 : k = 0 := by omega
    subst h0
    exact congrArg Prod.fst (Option.some.inj h)
  have hF : ∀ q, va_A [(b, E)] H.size q → A q := by
    intro q h
    rcases h with ⟨k, e, h⟩ | h
    · rw [← one k q e h]
      exact hD.2 wr.length _ hlast
    · exact hA q (Nat.le_trans hS.1 h)
  have apart : ∀ (k : Nat) (q : Nat × va_E), wr[k]? = some q → q.1 < H.size ∧ ¬ va_A [(b, E)] H.size q.1 := by
    intro k q hq
    have hl := (hP k q (up k q hq)).lt
    refine ⟨hl, fun h => ?_⟩
    rcases h with ⟨k2, e, h⟩ | h
    · have h2 := hD.1 k wr.length q (b, E) (up k q hq) hlast (one k2 q.1 e h).symm
      have h3 := (List.getElem?_eq_some_iff.mp hq).1
      omega
    · omega
  refine va_callv hr hS (fun q _ h => hF q h) hF (fun u t H1 locs1 ht hvm _ hB hz1 hk1 hS1 => ?_)
  obtain ⟨hP1, hD1⟩ := hB
  rw [ht] at hP1
  refine kk u H1 locs1 (va_P.app (fun k q hq => ?_) hP1) (va_D.app ⟨fun i j x y hx hy => hD.1 i j x y (up i x hx) (up j y hy), fun k q hk => hD.2 k q (up k q hk)⟩ (hD1.weaken (fun k q _ h => hF q.1 h)) (fun i j x y hx hy hxy => (apart i x hx).2 (by rw [hxy]; exact hD1.2 j y hy))) hS1
  exact (hP k q (up k q hq)).kept (hk1 q.1 (apart k q hq).1 (apart k q hq).2)
theorem ct_new (hexec : p.tables.exec = Jvm.exec) (hb : c.code = cc) (hts : ∀ w ∈ am_tbl, w.before args s = true) {own : String} {ci index i1 i2 i3 : Nat} {q : vw_C} (hc : am_cls[ci]? = some q) (hown : s.vm.findClass own = some m.cls) (hcl : am_wat i1 (.classLink own index q.1) = true) (hinst : am_wat i2 (.instantiable q.1 q.2.2) = true) (hini : am_wat i3 (.initialized q.1) = true)
    (hK : va_K D am_cls (ct_ty cI cZ cB) s) (hP : va_P D am_cls ws H) (hD : va_D A ws) (hS : va_S A H0 H locs) (hA : ∀ q, H0.size ≤ q → A q) (ty : Nat → FieldType) (hty : ∀ k, k < q.2.2 → parseFieldDescriptor (q.2.1 k).2.2.1 = some (ty k)) {fs : List Value} (hfs : ∀ j, j < q.2.2 → defaultValue (ty j) = vp_V fs j) (hcells : cells + 1 ≤ R.cells) (hslots : slots + q.2.2 ≤ R.slots) (hdg : decode cc pc = .ok (.new index, 3))
    (kk : ∀ (b : Nat) (H1 : Heap), va_P D am_cls (ws ++ [(b, .inr (ci, fs))]) H1 → va_D A (ws ++ [(b, .inr (ci, fs))]) → va_S A H0 H1 locs →
      W p l e R s m args below meth c H1 locs (cells + 1) (slots + q.2.2) Q (F0 m (pc + 3) ls (.ref b :: rest))) : W p l e R s m args below meth c H locs cells slots Q (F0 m pc ls rest) :=
  va_new (C := q.1) (T := q.2.1) (N := q.2.2) hexec hb hts (am_cls_ok hc).1 ty hty hown (hts _ (am_wat_in hcl)) (hts _ (am_wat_in hinst)) (hts _ (am_wat_in hini)) hK hP hD hS hA hc hfs hcells hslots hdg kk
theorem ct_put (hexec : p.tables.exec = Jvm.exec) (hb : c.code = cc) (hts : ∀ w ∈ am_tbl, w.before args s = true) {ci index i1 : Nat} {q : vw_C} (hc : am_cls[ci]? = some q) (hown : s.vm.findClass q.1 = some m.cls) (hin : meth.name = "<init>") (hK : va_K D am_cls (ct_ty cI cZ cB) s) (hP : va_P D am_cls ws H) (hD : va_D A ws) (hS : va_S A H0 H locs)
    {fs : List Value} (he : ws[0]? = some (a, .inr (ci, fs))) (k : Nat) (hk : k < q.2.2) (hlink : am_wat i1 (.fieldLink q.1 index q.1 (q.2.1 k).2.1 (q.2.1 k).2.2.1) = true) (hdecl : (q.2.1 k).1 = q.1) (hfin : (q.2.1 k).2.2.2 = true) {ty : FieldType} {v : Nat} (hd : parseFieldDescriptor (q.2.1 k).2.2.1 = some ty) (hn : narrow ty (.ref v) = .ref v) (hfit : fits ty (.ref v) = true) (hl : k < fs.length)
    (hdg : decode cc pc = .ok (.putfield index, 3)) (kk : ∀ (H1 : Heap) (locs1 : List Loc), va_P D am_cls (ws.set 0 (a, .inr (ci, fs.set k (.ref v)))) H1 → va_D A (ws.set 0 (a, .inr (ci, fs.set k (.ref v)))) → va_S A H0 H1 locs1 → W p l e R s m args below meth c H1 locs1 cells slots Q (F0 m (pc + 3) ls rest)) : W p l e R s m args below meth c H locs cells slots Q (F0 m pc ls (.ref v :: .ref a :: rest)) := by
  obtain ⟨h1, ⟨ty0, h2⟩, h3⟩ := am_cls_ok hc
  exact va_putF (C := q.1) (T := q.2.1) (N := q.2.2) hexec hb hts h1 ty0 h2 h3 hown hK hP hD hS 0 he hc k hk (hts _ (am_wat_in hlink)) (fun x h9 => by rw [hdecl] at h9; exact h9) hfin hin hdecl hd hn hfit hl hdg kk
theorem ct_get (hexec : p.tables.exec = Jvm.exec) (hb : c.code = cc) (hts : ∀ w ∈ am_tbl, w.before args s = true) {ci index i1 : Nat} {q : vw_C} (hc : am_cls[ci]? = some q) (hown : s.vm.findClass q.1 = some m.cls) (hK : va_K D am_cls (ct_ty cI cZ cB) s) (hP : va_P D am_cls ws H)
    {fs : List Value} (he : ws[0]? = some (a, .inr (ci, fs))) (k : Nat) (hk : k < q.2.2) (hlink : am_wat i1 (.fieldLink q.1 index q.1 (q.2.1 k).2.1 (q.2.1 k).2.2.1) = true) (hdecl : (q.2.1 k).1 = q.1) {v : Value} (hv : fs[k]? = some v)
    (hdg : decode cc pc = .ok (.getfield index, 3)) (kk : W p l e R s m args below meth c H locs cells slots Q (F0 m (pc + 3) ls (v :: rest))) : W p l e R s m args below meth c H locs cells slots Q (F0 m pc ls (.ref a :: rest)) :=
  va_get (C := q.1) (T := q.2.1) (N := q.2.2) hexec hb hts (am_cls_ok hc).1 hown hK hP 0 he hc k hk (hts _ (am_wat_in hlink)) (fun x h9 => by rw [hdecl] at h9; exact h9) hv hdg kk
theorem ct_wI : Jvm.Cond.arrayClass .int ∈ am_tbl := am_wat_in (i := 83) (by decide +kernel)
theorem ct_wZ : Jvm.Cond.arrayClass .boolean ∈ am_tbl := am_wat_in (i := 689) (by decide +kernel)
theorem ct_newi (hexec : p.tables.exec = Jvm.exec) (hb : c.code = cc) (hts : ∀ w ∈ am_tbl, w.before args s = true) (hK : va_K D am_cls (ct_ty cI cZ cB) s) (hP : va_P D am_cls ws H) (hD : va_D A ws) (hS : va_S A H0 H locs) (hA : ∀ q, H0.size ≤ q → A q)
    {n : Int32} {N : Nat} (hn : ¬ n < 0) (hN : n.toNatClampNeg = N) (hbytes : N * componentBytes .int ≤ 536870912) (hcells : cells + 1 ≤ R.cells) (hslots : slots + N ≤ R.slots) (hdg : decode cc pc = .ok (.newarray .int, 2))
    (kk : ∀ (b : Nat) (H1 : Heap), va_P D am_cls (ws ++ [(b, ct_ia cI N)]) H1 → va_D A (ws ++ [(b, ct_ia cI N)]) → va_S A H0 H1 locs →
      W p l e R s m args below meth c H1 locs (cells + 1) (slots + N) Q (F0 m (pc + 2) ls (.ref b :: rest))) : W p l e R s m args below meth c H locs cells slots Q (F0 m pc ls (.int n :: rest)) := by
  refine va_newa (atype := .int) (ty := .int) (a0 := (N, .inl fun _ => 0)) hexec hb (hts _ ct_wI) rfl hK hP hD hS hA (fun _ => rfl) hn hN hbytes hcells hslots hdg (fun b cA H1 hK1 hP1 hD1 hS1 => ?_)
  have e1 : s.vm.findClass ("[" ++ (FieldType.int).toString) = some cA := (hK1.2 3 (cA, .int) rfl).2
  have e2 : s.vm.findClass ("[" ++ (FieldType.int).toString) = some cI := (hK.2 0 (cI, .int) rfl).2
  obtain rfl : cA = cI := Option.some.inj (e1.symm.trans e2)
  exact kk b H1 hP1 hD1 hS1
theorem ct_newz (hexec : p.tables.exec = Jvm.exec) (hb : c.code = cc) (hts : ∀ w ∈ am_tbl, w.before args s = true) (hK : va_K D am_cls (ct_ty cI cZ cB) s) (hP : va_P D am_cls ws H) (hD : va_D A ws) (hS : va_S A H0 H locs) (hA : ∀ q, H0.size ≤ q → A q)
    {n : Int32} {N : Nat} (hn : ¬ n < 0) (hN : n.toNatClampNeg = N) (hbytes : N * componentBytes .boolean ≤ 536870912) (hcells : cells + 1 ≤ R.cells) (hslots : slots + N ≤ R.slots) (hdg : decode cc pc = .ok (.newarray .boolean, 2))
    (kk : ∀ (b : Nat) (H1 : Heap), va_P D am_cls (ws ++ [(b, ct_ia cZ N)]) H1 → va_D A (ws ++ [(b, ct_ia cZ N)]) → va_S A H0 H1 locs →
      W p l e R s m args below meth c H1 locs (cells + 1) (slots + N) Q (F0 m (pc + 2) ls (.ref b :: rest))) : W p l e R s m args below meth c H locs cells slots Q (F0 m pc ls (.int n :: rest)) := by
  refine va_newa (atype := .boolean) (ty := .boolean) (a0 := (N, .inl fun _ => 0)) hexec hb (hts _ ct_wZ) rfl hK hP hD hS hA (fun _ => rfl) hn hN hbytes hcells hslots hdg (fun b cA H1 hK1 hP1 hD1 hS1 => ?_)
  have e1 : s.vm.findClass ("[" ++ (FieldType.boolean).toString) = some cA := (hK1.2 3 (cA, .boolean) rfl).2
  have e2 : s.vm.findClass ("[" ++ (FieldType.boolean).toString) = some cZ := (hK.2 1 (cZ, .boolean) rfl).2
  obtain rfl : cA = cZ := Option.some.inj (e1.symm.trans e2)
  exact kk b H1 hP1 hD1 hS1
theorem ct_newq (hexec : p.tables.exec = Jvm.exec) (hb : c.code = cc) (hts : ∀ w ∈ am_tbl, w.before args s = true) {own : String} {index i1 : Nat} (hown : s.vm.findClass own = some m.cls) (hcl : am_wat i1 (.classLink own index "LetterDays$Bundle") = true) (hN0 : ct_Nn s) (hK : va_K D am_cls (ct_ty cI cZ cB) s) (hP : va_P D am_cls ws H) (hD : va_D A ws) (hS : va_S A H0 H locs) (hA : ∀ q, H0.size ≤ q → A q)
    {n : Int32} {N : Nat} (hn : ¬ n < 0) (hN : n.toNatClampNeg = N) (hbytes : N * 4 ≤ 536870912) (hcells : cells + 1 ≤ R.cells) (hslots : slots + N ≤ R.slots) (hdg : decode cc pc = .ok (.anewarray index, 3))
    (kk : ∀ (b : Nat) (H1 : Heap), va_P D am_cls (ws ++ [(b, .inl (cB, N, .inr (.inr (.inr (.inr (fun _ => none))))))]) H1 → va_D A (ws ++ [(b, .inl (cB, N, .inr (.inr (.inr (.inr (fun _ => none))))))]) → va_S A H0 H1 locs →
      W p l e R s m args below meth c H1 locs (cells + 1) (slots + N) Q (F0 m (pc + 3) ls (.ref b :: rest))) : W p l e R s m args below meth c H locs cells slots Q (F0 m pc ls (.int n :: rest)) := by
  refine va_newq (C := "LetterDays$Bundle") hexec hb hown (hts _ (am_wat_in hcl)) hN0.2.2 hK hP hD hS hA hn hN hbytes hcells hslots hdg (fun b cA H1 hK1 hP1 hD1 hS1 => ?_)
  obtain ⟨_, _, _, _, _, e1⟩ := (hK1.2 3 (cA, .object "LetterDays$Bundle") rfl).2
  obtain ⟨_, _, _, _, _, e2⟩ := (hK.2 2 (cB, .object "LetterDays$Bundle") rfl).2
  obtain rfl : cA = cB := Option.some.inj (e1.symm.trans e2)
  exact kk b H1 hP1 hD1 hS1
end
