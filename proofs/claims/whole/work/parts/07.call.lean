/-! calls of the abstract machine are calls of the machine -/
def am_Qo (G : am_G) (sc : Int → Int) (Q : am_Q) (A : Nat → Prop) : Array Value → State → Outcome → State → Prop := fun _ st oc t => (∃ (o : Option Int) (σ' : am_S), oc = .returned (o.map fun x => .int (Int32.ofInt x)) ∧ Q o σ' ∧ σ' am_NC = sc ∧ va_P G.1 am_cls (am_ws G σ') t.heap) ∧ va_F A st t
def am_rm (d : Nat) : Room := { frames := d, cells := 0, slots := 0, locals := 64 * d }
def am_wd (μ : Nat) : List Jvm.Cond := .code (am_met μ).1 (am_met μ).2.1 (am_met μ).2.2.1 (am_met μ).2.2.2.1 :: am_tbl
def am_Pm (G : am_G) (As : List am_V) (σ : am_S) (sz : Nat) : Array Value → State → Prop := va_Pc (As.map (am_vv G)) (fun U => U.heap.size = sz ∧ va_P G.1 am_cls (am_ws G σ) U.heap ∧ va_K G.1 am_cls (am_tys G) U ∧ va_D (fun _ => True) (am_ws G σ))
theorem am_okm_e {μ : Nat} (h : μ < am_law) : plainName (am_met μ).1.cls = true ∧ ((am_met μ).1.cls ≠ "java/lang/invoke/MethodHandle" ∧ (am_met μ).1.cls ≠ "java/lang/invoke/VarHandle") ∧ (am_met μ).2.2.1 ≤ 40 ∧ Jvm.Cond.code (am_met μ).1 (am_met μ).2.1 (am_met μ).2.2.1 (am_met μ).2.2.2.1 ∈ am_tbl ∧ Jvm.Cond.initialized (am_met μ).1.cls ∈ am_tbl ∧ ((am_met μ).2.2.2.2.1 = 99 ∨ (am_T (am_met μ).2.2.2.2.1).1 = (am_met μ).1.cls) := by
  have h1 := am_okm h
  unfold am_okM at h1
  simp only [Bool.and_eq_true, Bool.or_eq_true] at h1
  obtain ⟨⟨⟨⟨⟨⟨a1, a2⟩, a3⟩, a4⟩, a5⟩, a6⟩, a7⟩ := h1
  exact ⟨a1, ⟨of_decide_eq_true a2, of_decide_eq_true a3⟩, Nat.le_of_ble_eq_true a4, am_wat_in a5, am_wat_in a6, a7.elim (fun q => Or.inl (Nat.eq_of_beq_eq_true q)) (fun q => Or.inr (of_decide_eq_true q))⟩
theorem am_gd {μ : Nat} (h : μ < am_law) : GoodIn am_tbl (am_wd μ) := by
  intro w hw
  have hm : w ∈ am_tbl := by
    rcases List.mem_cons.mp hw with rfl | h2
    · exact (am_okm_e h).2.2.2.1
    · exact h2
  exact ⟨hm, good_of_word (am_good hm)⟩
set_option maxHeartbeats 4000000 in
/-- what the abstract machine says of a method is a contract of it -/
theorem am_met_of {l : Launch} {G : am_G} {d μ : Nat} (hμ : μ < am_law) {As : List am_V} (hlen : As.length ≤ (am_met μ).2.2.1) {σ : am_S} {Q : am_Q} (h : am_KM l G d μ 0 As [] σ Q) (h0 : am_pc μ 0 = 0) (sz : Nat) :
    Met l (am_met μ).1 (am_wd μ) (am_rm d) (am_Pm G As σ sz) (am_Qo G (σ am_NC) Q (va_A (am_ws G σ) sz)) 0 0 (va_A (am_ws G σ) sz) := by
  obtain ⟨k1, k2, k3, k4, k5, k6⟩ := am_okm_e hμ
  refine Met.ofW (cc := (am_met μ).2.1) (maxL := (am_met μ).2.2.1) (ret := (am_met μ).2.2.2.1) k1 rfl ?_
  intro p e s m args below meth c s₁ B hml hv
  obtain ⟨rfl, hsz, hP, hK, hD0⟩ := hv
  have hx := B.exec
  have hb := B.bytes
  have hr := B.returns
  have hts := atoms_spec (ws := am_wd μ) B.pre
  have hown : s.vm.findClass (am_met μ).1.cls = some m.cls := findClass_of_methodNamed B.named
  have hlocks := B.notSynchronized
  subst hsz
  have hD := hD0.self (sz := s.heap.size)
  have hl := lv_entry (As.map (am_vv G)) (n := (am_met μ).2.2.1) (by rw [am_sl]; exact hlen)
  rw [lg_entry_eq]
  rw [am_args] at hl
  generalize (lg_sl (As.map (am_vv G)) ++ List.replicate ((am_met μ).2.2.1 - (lg_sl (As.map (am_vv G))).length) Slot.unset).toArray = ls at hl ⊢
  have hl2 : am_LV G ls (am_met μ).2.2.1 As := by
    have e1 : (As.mapIdx fun j v => (0 + j, am_vv G v)) = am_lm G As := by
      unfold am_lm
      congr 1
      funext j v
      rw [Nat.zero_add]
    rw [e1] at hl
    exact hl
  have hX : am_X G (σ am_NC) d μ σ p (headSpec (am_wd μ) (am_rm d)).room s m ((As.map (am_vv G)).toArray) c s.heap [] 0 0 (va_A (am_ws G σ) s.heap.size) :=
    ⟨hx, hb, hml, hown, fun w hw => hts w (List.mem_cons_of_mem _ hw), ⟨Nat.le_refl _, Nat.le_refl _, Nat.le_refl _, Nat.le_refl _⟩, hK, hP, hD, va_S.rf, fun q hq => Or.inr hq, rfl, fun q => by subst q; exact absurd hμ (Nat.lt_irrefl _)⟩
  have w := h p e (headSpec (am_wd μ) (am_rm d)).room s m ((As.map (am_vv G)).toArray) below meth c s.heap [] 0 0 ls (va_A (am_ws G σ) s.heap.size) (MQ below (am_Qo G (σ am_NC) Q (va_A (am_ws G σ) s.heap.size)) ((As.map (am_vv G)).toArray) s 0 0 (va_A (am_ws G σ) s.heap.size)) (σ am_NC) hX hl2 (by
    intro o σ' H' locs' pc ls' hq hX' hrt hdg
    obtain ⟨-, -, -, -, -, -, -, hP', -, hS', -, hsc'⟩ := hX'
    cases o with
    | none => exact W.vret hx hb (hr.trans hrt) (fun t ht hW => ⟨⟨none, σ', rfl, hq, hsc'.1, by rw [ht]; exact hP'⟩, hS'.F ht⟩) hS'.2.2 hdg
    | some v =>
      obtain ⟨ty, hty, hn⟩ := hrt
      exact W.zret hx hb (hr.trans hty) hn (fun t ht hW => ⟨⟨some v, σ', rfl, hq, hsc'.1, by rw [ht]; exact hP'⟩, hS'.F ht⟩) hS'.2.2 hdg)
  rw [h0] at w
  exact w
section
variable {p : Program} {l : Launch} {e : Env} {R : Room} {s : State} {m : MethodId} {args : Array Value} {below : List Frame} {meth : Method} {c : Code} {H : Heap} {locs : List Loc} {cells slots : Nat} {Z : State → Prop}
/-- behind a call -/
theorem am_back {G : am_G} {sc : Int → Int} {Q : am_Q} {pc : Nat} {ls : Array Slot} {rest st0 : List Value} {a : Array Value} {A0 A1 : Nat → Prop} {H0 : Heap} {free : Addr → Prop} (hr : va_Run p l e R s m args below meth c H locs cells slots 0 0 (F0 m pc ls st0) rest (am_Qo G sc Q A1 a) free) (hS : va_S A0 H0 H locs) (hA : ∀ q, q < H.size → A1 q → A0 q) (hf : ∀ q, free q → A0 q)
    (kk : ∀ (o : Option Int) (σ' : am_S) (H1 : Heap) (locs1 : List Loc), Q o σ' → σ' am_NC = sc → va_P G.1 am_cls (am_ws G σ') H1 → va_S A0 H0 H1 locs1 → W p l e R s m args below meth c H1 locs1 cells slots Z (F0 m (pc + 3) ls ((am_o o).map (am_vv G) ++ rest))) : W p l e R s m args below meth c H locs cells slots Z (F0 m pc ls st0) := by
  intro T hT X
  obtain ⟨v, st₀, t, T', L, h0, X', hL, e1, e2, ⟨⟨o, σ', hv, hq, hsc, hb⟩, hz, hk⟩, st⟩ := hr T hT X
  have hv2 : v = o.map fun x => .int (Int32.ofInt x) := by
    cases hv
    rfl
  subst hv2
  rw [h0] at hz hk
  obtain ⟨t2, a1, b1⟩ := kk o σ' T'.heap (locs ++ L) hq hsc (by rw [e1]; exact hb)
    ⟨Nat.le_trans hS.1 (by rw [e1]; exact hz), fun q h1 h2 => by rw [e1, hk q (Nat.lt_of_lt_of_le h1 hS.1) (fun z => h2 (hA q (Nat.lt_of_lt_of_le h1 hS.1) z))]; exact hS.2.1 q h1 h2, fun q hq => by
      rcases List.mem_append.mp hq with h | h
      · exact hS.2.2 q h
      · exact hf _ (hL q h)⟩ T' rfl X'
  refine ⟨t2, st t2 ?_, b1⟩
  cases o with
  | none => exact a1
  | some x => exact a1
end
theorem am_pc0 {μ : Nat} (h : μ < am_law) : am_pc μ 0 = 0 := by
  have h1 : ((List.range am_law).all fun i => Nat.beq (am_pc i 0) 0) = true := by decide +kernel
  exact Nat.eq_of_beq_eq_true (List.all_eq_true.mp h1 μ (List.mem_range.mpr h))
theorem am_sumcat (G : am_G) (st : List am_V) : ((st.map (am_vv G)).map fun v => v.category).sum = st.length := by
  induction st with
  | nil => rfl
  | cons v vs ih => rw [List.map_cons, List.map_cons, List.sum_cons, ih, am_vv_cat, List.length_cons, Nat.add_comm]
theorem am_blind (G : am_G) (As : List am_V) (σ : am_S) (sz : Nat) : FrameBlind (am_Pm G As σ sz) := by
  intro a U g mk q
  obtain ⟨q0, q1, qP, qK, qD⟩ := q
  exact ⟨q0, q1, qP, va_K.moved (u := U) (U := U.calling g mk a) (Vm.Alike.refl U.vm) qK, qD⟩
theorem am_A {G : am_G} {σ : am_S} {A : Nat → Prop} {H0 H : Heap} {locs : List Loc} (hD : va_D A (am_ws G σ)) (hS : va_S A H0 H locs) (hA : ∀ q : Nat, H0.size ≤ q → A q) : ∀ q, va_A (am_ws G σ) H.size q → A q := by
  intro q h
  rcases h with ⟨k, e, h⟩ | h
  · exact hD.2 k _ h
  · exact hA q (Nat.le_trans hS.1 h)
/-- what is known, behind a call -/
theorem am_X_call {G : am_G} {sc : Int → Int} {d μ : Nat} {σ σ' : am_S} {p : Program} {R : Room} {s : State} {m : MethodId} {args : Array Value} {c : Code} {H H1 : Heap} {locs locs1 : List Loc} {cells slots : Nat} {A : Nat → Prop} (hX : am_X G sc d μ σ p R s m args c H locs cells slots A) (hs : σ' am_NC = σ am_NC) (hP : va_P G.1 am_cls (am_ws G σ') H1) (hS : va_S A s.heap H1 locs1) : am_X G sc d μ σ' p R s m args c H1 locs1 cells slots A := by
  obtain ⟨hx, hb, hml, hown, hts, hroom, hK, -, hD, -, hA, hsc⟩ := hX
  refine ⟨hx, hb, hml, hown, hts, hroom, hK, hP, am_ws_D hD _, hS, hA, hs.trans hsc.1, fun hμ => ?_⟩
  obtain ⟨L, xs, h1, h2, h3, h4, h5, h6⟩ := hsc.2 hμ
  exact ⟨L, xs, h1, h2, h3, by rw [hs]; exact h4, h5, fun j hj => by rw [hs]; exact h6 j hj⟩
theorem am_PreS {G : am_G} {sc : Int → Int} {d μ : Nat} {σ : am_S} {p : Program} {R : Room} {s : State} {m : MethodId} {args : Array Value} {c : Code} {H : Heap} {locs : List Loc} {cells slots : Nat} {A : Nat → Prop} (hX : am_X G sc d μ σ p R s m args c H locs cells slots A) (As : List am_V) : PreS s H (am_Pm G As σ H.size) (As.map (am_vv G)) := by
  obtain ⟨hx, hb, hml, hown, hts, hroom, hK, hP, hD, hS, hA, hsc⟩ := hX
  exact ⟨am_blind G As σ H.size, fun U hU hW => ⟨rfl, by rw [hU], by rw [hU]; exact hP, va_K.moved hW.alike hK, hD.weaken (fun _ _ _ _ => trivial)⟩⟩
set_option maxHeartbeats 4000000 in
theorem am_s_invokevirtual {l : Launch} {G : am_G} {d μ k : Nat} {lv st : List am_V} {σ : am_S} {Q : am_Q} {pc len x y : Nat} {c : Int} {z : List Nat} {i : Nat} (he : (am_tab μ)[k]? = some (pc, .invokevirtual i, len, x, y, c, z)) (h : am_ins (am_KM l G) d μ k lv st σ Q (.invokevirtual i) x y c z) : am_KM l G d μ k lv st σ Q := by
  obtain ⟨hdg, hok, hpc⟩ := am_ok2 he
  obtain ⟨hok, hxl⟩ := Bool.and_eq_true_iff.mp hok
  obtain ⟨hok, hml2⟩ := Bool.and_eq_true_iff.mp hok
  obtain ⟨hok, hpd⟩ := Bool.and_eq_true_iff.mp hok
  obtain ⟨hok, hsel⟩ := Bool.and_eq_true_iff.mp hok
  obtain ⟨hok, hins⟩ := Bool.and_eq_true_iff.mp hok
  obtain ⟨hok, hlk⟩ := Bool.and_eq_true_iff.mp hok
  have hxl := of_decide_eq_true hxl
  have hml2 := Nat.le_of_ble_eq_true hml2
  have hpd := of_decide_eq_true hpd
  obtain ⟨rfl, hnx⟩ := am_nx_e hok
  rcases d with _ | d'
  · exact False.elim h
  obtain ⟨r, st', hst, h⟩ := am_r1_e h
  obtain ⟨hg, h⟩ := am_g_e h
  obtain ⟨hg, hy⟩ := Bool.and_eq_true_iff.mp hg
  obtain ⟨hO, hs8⟩ := Bool.and_eq_true_iff.mp hg
  have hy := Nat.le_of_ble_eq_true hy
  have hs8 := Nat.le_of_ble_eq_true hs8
  obtain ⟨refs, hL⟩ := am_isO_e hO
  obtain ⟨hcl, hrl⟩ := am_lay_cls hL
  have hr := am_lay_lt hL (show (0 : Nat) ≠ 4 by decide)
  obtain ⟨k1, k2, k3, k4, k5, k6⟩ := am_okm_e hxl
  have hst2 : st = (st.take y).reverse.reverse ++ .inr r :: st' := by
    rw [List.reverse_reverse, ← hst, List.take_append_drop]
  have hlen : (st.take y).reverse.length = y := by
    rw [List.length_reverse, List.length_take]
    omega
  generalize (st.take y).reverse = As at h hst2 hlen
  intro p e R s m args below meth c0 H locs cells slots ls A Z sc hX hl hR
  obtain ⟨hx, hb, hml, hown, hts, hroom, hK, hP, hD, hS, hA, hsc⟩ := id hX
  rw [hpc]
  have hC : (am_T (am_met x).2.2.2.2.1).1 = (am_met x).1.cls := by
    rcases k6 with q | q
    · rw [q] at hcl
      cases (show am_cls[99]? = none from rfl).symm.trans hcl
    · exact q
  have hM := am_met_of hxl (As := .inr r :: As) (by show As.length + 1 ≤ _; omega) h (am_pc0 hxl) H.size
  have hwd : ∀ w ∈ am_wd x, w ∈ am_tbl := fun w hw => (am_gd hxl w hw).1
  have hcb : CallB R s args (am_met μ).1.cls i (am_met x).1 (am_met x).2.1 (am_met x).2.2.1 (am_met x).2.2.2.1 (am_wd x) (am_rm d') 0 0 y :=
    callB_of y hts (am_gd hxl) rfl rfl rfl (hts _ k5) (hts _ (am_wat_in hlk)) ⟨k2.1, k2.2, hpd⟩ ⟨hroom.1, by show 8 + ((am_met x).2.2.1 + 11) + 64 * d' ≤ R.locals; have := hroom.2.1; omega⟩
  have hrun := va_runV (e := e) (below := below) (meth := meth) (locs := locs) (g := F0 m pc ls (st.map (am_vv G))) (As := As.map (am_vv G)) (rest := st'.map (am_vv G)) (b := G.2.1 r) (C := (am_met x).1.cls) ⟨hx, hb, hml, hown, hts⟩ hM ⟨hcb, hts _ (am_wat_in hins), hts _ (am_wat_in hsel)⟩
    ⟨am_blind G _ σ H.size, by rw [← hC]; exact va_recv hK hP hcl (am_ws_at G σ hL hr), (am_PreS hX (.inr r :: As)).2⟩ rfl (by rw [List.length_map, hlen]) hl.1 (by show st.map (am_vv G) = _; rw [hst2]; simp [am_vv]) (lv_room (by rw [am_sumcat]; exact hs8)) hdg ⟨hroom.2.2.1, hroom.2.2.2⟩
  refine am_back hrun hS (fun q _ hq => am_A hD hS hA q hq) (am_A hD hS hA) (fun o σ' H1 locs1 hq hs1 hP1 hS1 => ?_)
  have w := hq p e R s m args below meth c0 H1 locs1 cells slots ls A Z sc (am_X_call hX hs1 hP1 hS1) hl hR
  rw [hnx, List.map_append] at w
  exact w
set_option maxHeartbeats 4000000 in
theorem am_s_invokestatic {l : Launch} {G : am_G} {d μ k : Nat} {lv st : List am_V} {σ : am_S} {Q : am_Q} {pc len x y : Nat} {c : Int} {z : List Nat} {i : Nat} (he : (am_tab μ)[k]? = some (pc, .invokestatic i, len, x, y, c, z)) (h : am_ins (am_KM l G) d μ k lv st σ Q (.invokestatic i) x y c z) : am_KM l G d μ k lv st σ Q := by
  obtain ⟨hdg, hok, hpc⟩ := am_ok2 he
  obtain ⟨hok, hrow⟩ := Bool.and_eq_true_iff.mp hok
  obtain ⟨rfl, hnx⟩ := am_nx_e hok
  rcases d with _ | d'
  · exact False.elim h
  have h : (match Nat.beq x 1000 with
        | true => am_p2 st fun a b st' => am_g (Nat.ble st'.length 8) (am_rng a ∧ am_rng b ∧ am_KM l G (d' + 1) μ (k + 1) lv (.inl (max a b) :: st') σ Q)
        | false => (match Nat.beq x 1001 with
          | true => am_p2 st fun a b st' => am_g (Nat.ble st'.length 8) (am_rng a ∧ am_rng b ∧ am_KM l G (d' + 1) μ (k + 1) lv (.inl (min a b) :: st') σ Q)
          | false => am_g (Nat.ble (st.drop y).length 8 && Nat.ble y st.length)
            (am_KM l G d' x 0 (st.take y).reverse [] σ fun o σ' => am_KM l G (d' + 1) μ (k + 1) lv (am_o o ++ st.drop y) σ' Q))) := h
  cases hb1 : Nat.beq x 1000 with
  | true =>
    rw [hb1] at h hrow
    obtain ⟨a, b, st', rfl, h⟩ := am_p2_e h
    obtain ⟨hs8, ra, rb, h⟩ := am_g_e h
    have hs8 := Nat.le_of_ble_eq_true hs8
    obtain ⟨w1, w2⟩ := Bool.and_eq_true_iff.mp hrow
    intro p e R s m args below meth c0 H locs cells slots ls A Z sc hX hl hR
    obtain ⟨hx, hb, hml, hown, hts, hroom, hK, hP, hD, hS, hA, hsc⟩ := id hX
    rw [hpc]
    have w := h p e R s m args below meth c0 H locs cells slots ls A Z sc hX hl hR
    rw [hnx] at w
    refine va_mmax hx hb (hml.trans hl.1.symm) hown (hts _ (am_wat_in w1)) (hts _ (am_wat_in w2)) (hts _ am_wmath) (hts _ am_wmax) (by have := hroom.1; omega) (by rw [am_sumcat]; have := hroom.2.1; omega) hroom.2.2.1 hroom.2.2.2 hdg ?_
    have e1 : (if Int32.ofInt a < Int32.ofInt b then Int32.ofInt b else Int32.ofInt a) = Int32.ofInt (max a b) := by
      by_cases q : a < b
      · rw [if_pos ((am_lt ra rb).mpr q), Int.max_eq_right (Int.le_of_lt q)]
      · rw [if_neg (fun z => q ((am_lt ra rb).mp z)), Int.max_eq_left (Int.not_lt.mp q)]
    rw [e1]
    exact w
  | false =>
    rw [hb1] at h hrow
    cases hb2 : Nat.beq x 1001 with
    | true =>
      simp only [hb2] at h hrow
      obtain ⟨a, b, st', rfl, h⟩ := am_p2_e h
      obtain ⟨hs8, ra, rb, h⟩ := am_g_e h
      have hs8 := Nat.le_of_ble_eq_true hs8
      obtain ⟨w1, w2⟩ := Bool.and_eq_true_iff.mp hrow
      intro p e R s m args below meth c0 H locs cells slots ls A Z sc hX hl hR
      obtain ⟨hx, hb, hml, hown, hts, hroom, hK, hP, hD, hS, hA, hsc⟩ := id hX
      rw [hpc]
      have w := h p e R s m args below meth c0 H locs cells slots ls A Z sc hX hl hR
      rw [hnx] at w
      refine va_mmin hx hb (hml.trans hl.1.symm) hown (hts _ (am_wat_in w1)) (hts _ (am_wat_in w2)) (hts _ am_wmath) (hts _ am_wmin) (by have := hroom.1; omega) (by rw [am_sumcat]; have := hroom.2.1; omega) hroom.2.2.1 hroom.2.2.2 hdg ?_
      have e1 : (if Int32.ofInt b < Int32.ofInt a then Int32.ofInt b else Int32.ofInt a) = Int32.ofInt (min a b) := by
        by_cases q : b < a
        · rw [if_pos ((am_lt rb ra).mpr q), Int.min_eq_right (Int.le_of_lt q)]
        · rw [if_neg (fun z => q ((am_lt rb ra).mp z)), Int.min_eq_left (Int.not_lt.mp q)]
      rw [e1]
      exact w
    | false =>
      simp only [hb2] at h hrow
      obtain ⟨hg, h⟩ := am_g_e h
      obtain ⟨hs8, hy⟩ := Bool.and_eq_true_iff.mp hg
      have hy := Nat.le_of_ble_eq_true hy
      have hs8 := Nat.le_of_ble_eq_true hs8
      obtain ⟨hrow, hxl⟩ := Bool.and_eq_true_iff.mp hrow
      obtain ⟨hrow, hml2⟩ := Bool.and_eq_true_iff.mp hrow
      obtain ⟨hrow, hpd⟩ := Bool.and_eq_true_iff.mp hrow
      obtain ⟨hlk, hstt⟩ := Bool.and_eq_true_iff.mp hrow
      have hxl := of_decide_eq_true hxl
      have hml2 := Nat.le_of_ble_eq_true hml2
      have hpd := of_decide_eq_true hpd
      obtain ⟨k1, k2, k3, k4, k5, k6⟩ := am_okm_e hxl
      have hst2 : st = (st.take y).reverse.reverse ++ st.drop y := by rw [List.reverse_reverse, List.take_append_drop]
      have hlen : (st.take y).reverse.length = y := by
        rw [List.length_reverse, List.length_take]
        omega
      generalize (st.take y).reverse = As at h hst2 hlen
      generalize st.drop y = st' at h hst2 hs8
      intro p e R s m args below meth c0 H locs cells slots ls A Z sc hX hl hR
      obtain ⟨hx, hb, hml, hown, hts, hroom, hK, hP, hD, hS, hA, hsc⟩ := id hX
      rw [hpc]
      have hM := am_met_of hxl (As := As) (by omega) h (am_pc0 hxl) H.size
      have hcb : CallB R s args (am_met μ).1.cls i (am_met x).1 (am_met x).2.1 (am_met x).2.2.1 (am_met x).2.2.2.1 (am_wd x) (am_rm d') 0 0 y :=
        callB_of y hts (am_gd hxl) rfl rfl rfl (hts _ k5) (hts _ (am_wat_in hlk)) ⟨k2.1, k2.2, hpd⟩ ⟨hroom.1, by show 8 + ((am_met x).2.2.1 + 11) + 64 * d' ≤ R.locals; have := hroom.2.1; omega⟩
      have hrun := va_runS (e := e) (below := below) (meth := meth) (locs := locs) (g := F0 m pc ls (st.map (am_vv G))) (As := As.map (am_vv G)) (rest := st'.map (am_vv G)) ⟨hx, hb, hml, hown, hts⟩ hM ⟨hcb, hts _ (am_wat_in hstt)⟩
        (am_PreS hX As) rfl (by rw [List.length_map, hlen]) hl.1 (by show st.map (am_vv G) = _; rw [hst2]; simp) (lv_room (by rw [am_sumcat]; exact hs8)) hdg ⟨hroom.2.2.1, hroom.2.2.2⟩
      refine am_back hrun hS (fun q _ hq => am_A hD hS hA q hq) (am_A hD hS hA) (fun o σ' H1 locs1 hq hs1 hP1 hS1 => ?_)
      have w := hq p e R s m args below meth c0 H1 locs1 cells slots ls A Z sc (am_X_call hX hs1 hP1 hS1) hl hR
      rw [hnx, List.map_append] at w
      exact w
/-- THE ABSTRACT MACHINE IS SOUND -/
theorem am_sound (l : Launch) (G : am_G) : am_C (am_KM l G) := by
  refine ⟨fun d μ k lv st σ Q h => ?_, fun d μ k lv lv' st σ Q h => ?_, fun d μ k lv st σ Q Q' hQ h => ?_⟩
  · unfold am_stp at h
    split at h
    · rename_i e he
      obtain ⟨pc, i, len, x, y, c, z⟩ := e
      cases i with
      | iconst => exact am_s_iconst he h
      | bipush => exact am_s_bipush he h
      | sipush => exact am_s_sipush he h
      | ldc => exact am_s_ldc he h
      | ldc_w => exact am_s_ldc_w he h
      | iload_n => exact am_s_iload_n he h
      | aload_n => exact am_s_aload_n he h
      | iload => exact am_s_iload he h
      | aload => exact am_s_aload he h
      | istore_n => exact am_s_istore_n he h
      | astore_n => exact am_s_astore_n he h
      | istore => exact am_s_istore he h
      | astore => exact am_s_astore he h
      | iinc => exact am_s_iinc he h
      | iadd => exact am_s_iadd he h
      | isub => exact am_s_isub he h
      | imul => exact am_s_imul he h
      | iand => exact am_s_iand he h
      | ior => exact am_s_ior he h
      | ixor => exact am_s_ixor he h
      | ishl => exact am_s_ishl he h
      | ishr => exact am_s_ishr he h
      | iushr => exact am_s_iushr he h
      | idiv => exact am_s_idiv he h
      | irem => exact am_s_irem he h
      | ineg => exact am_s_ineg he h
      | goto => exact am_s_goto he h
      | if_icmp => exact am_s_if_icmp he h
      | ifCond => exact am_s_ifCond he h
      | tableswitch => exact am_s_tableswitch he h
      | getfield => exact am_s_getfield he h
      | putfield => exact am_s_putfield he h
      | iaload => exact am_s_iaload he h
      | baload => exact am_s_baload he h
      | aaload => exact am_s_aaload he h
      | iastore => exact am_s_iastore he h
      | bastore => exact am_s_bastore he h
      | arraylength => exact am_s_arraylength he h
      | dup => exact am_s_dup he h
      | dup2 => exact am_s_dup2 he h
      | pop => exact am_s_pop he h
      | ireturn => exact am_s_ireturn he h
      | return_ => exact am_s_return_ he h
      | invokevirtual => exact am_s_invokevirtual he h
      | invokestatic => exact am_s_invokestatic he h
      | _ => exact False.elim h
    · exact False.elim h
  · intro p e R s m args below meth c0 H locs cells slots ls A Z sc hX hl hR
    exact h p e R s m args below meth c0 H locs cells slots ls A Z sc hX (am_LV_trunc hl) hR
  · intro p e R s m args below meth c0 H locs cells slots ls A Z sc hX hl hR
    exact h p e R s m args below meth c0 H locs cells slots ls A Z sc hX hl (fun o σ' H' locs' pc ls' q => hR o σ' H' locs' pc ls' (hQ o σ' q))
