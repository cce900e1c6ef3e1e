theorem am_wmax : Jvm.Cond.code Lib.Math.max.name Lib.Math.max.code 2 (some .int) ∈ am_tbl := am_wat_in (i := 406) (by decide +kernel)
theorem am_wmin : Jvm.Cond.code Lib.Math.min.name Lib.Math.min.code 2 (some .int) ∈ am_tbl := am_wat_in (i := 409) (by decide +kernel)
theorem am_wmath : Jvm.Cond.initialized "java/lang/Math" ∈ am_tbl := am_wat_in (i := 50) (by decide +kernel)

/-! numbers -/
theorem am_toInt {x : Int} (h : am_rng x) : (Int32.ofInt x).toInt = x := Int32.toInt_ofInt_of_le (by have := h.1; omega) (by have := h.2; omega)
theorem am_lt {x y : Int} (hx : am_rng x) (hy : am_rng y) : Int32.ofInt x < Int32.ofInt y ↔ x < y := by rw [Int32.lt_iff_toInt_lt, am_toInt hx, am_toInt hy]
theorem am_le {x y : Int} (hx : am_rng x) (hy : am_rng y) : Int32.ofInt x ≤ Int32.ofInt y ↔ x ≤ y := by rw [Int32.le_iff_toInt_le, am_toInt hx, am_toInt hy]
theorem am_eq {x y : Int} (hx : am_rng x) (hy : am_rng y) : Int32.ofInt x = Int32.ofInt y ↔ x = y := ⟨fun h => by
  have h1 := congrArg Int32.toInt h
  rwa [am_toInt hx, am_toInt hy] at h1, fun h => congrArg _ h⟩
theorem am_rng0 : am_rng 0 := ⟨by decide, by decide⟩
theorem am_of0 : Int32.ofInt 0 = 0 := rfl
theorem am_clamp {v : Int} {n : Nat} (hn : n < 2147483648) (h : 0 ≤ v ∧ v < n) : (Int32.ofInt v).toNatClampNeg = v.toNat := Int32.toNatClampNeg_ofInt_of_le (by omega) (by omega)
theorem am_vin {v : Int} {n : Nat} (hn : n < 2147483648) (h : 0 ≤ v ∧ v < n) : vp_in (Int32.ofInt v) n := by
  rw [vp_in_iff, am_toInt ⟨by omega, by omega⟩]
  exact h
theorem am_bool {x : Int} (h : x = 0 ∨ x = 1) : narrow .boolean (.int (Int32.ofInt x)) = .int (Int32.ofInt x) := by rcases h with rfl | rfl <;> decide
/-! the world -/
abbrev am_G : Type := va_G × (Nat → Nat) × ClassId × ClassId × ClassId
def am_vv (G : am_G) : am_V → Value
  | .inl x => .int (Int32.ofInt x)
  | .inr r => .ref (G.2.1 r)
theorem am_vv_cat (G : am_G) (v : am_V) : (am_vv G v).category = 1 := by cases v <;> rfl
def am_fv (G : am_G) (σk : Int → Int) (j : Nat) (r : Option Nat) : Value := match r with
  | some t => .ref (G.2.1 t)
  | none => .int (Int32.ofInt (σk (j : Int)))
def am_fs (G : am_G) (σk : Int → Int) (refs : List (Option Nat)) : List Value := refs.mapIdx (am_fv G σk)
def am_cell (G : am_G) (σk : Int → Int) (L : am_L) : va_E := match L with
  | (0, ci, refs) => .inr (ci, am_fs G σk refs)
  | (1, n, _) => .inl (G.2.2.1, n, .inl fun j => Int32.ofInt (σk (j : Int)))
  | (2, n, _) => .inl (G.2.2.2.1, n, .inl fun j => Int32.ofInt (σk (j : Int)))
  | (_, n, refs) => .inl (G.2.2.2.2, n, .inr (.inr (.inr (.inr fun j => ((refs[j]?).getD none).map G.2.1))))
def am_ws (G : am_G) (σ : am_S) : va_W := (am_lay.take am_NC).mapIdx fun k L => (G.2.1 k, am_cell G (σ k) L)
def am_tys (G : am_G) : List (ClassId × FieldType) := [(G.2.2.1, .int), (G.2.2.2.1, .boolean), (G.2.2.2.2, .object "LetterDays$Bundle")]
theorem am_lay_lt {r : Nat} {L : am_L} (h : am_lay[r]? = some L) (h4 : L.1 ≠ 4) : r < am_NC := by
  have h1 : r < am_lay.length := (List.getElem?_eq_some_iff.mp h).1
  have h2 : am_lay.length = am_NC + 1 := rfl
  rcases Nat.lt_or_ge r am_NC with g | g
  · exact g
  · have g2 : r = am_NC := by omega
    subst g2
    have h3 : am_lay[am_NC]? = some (4, 0, []) := rfl
    rw [h3] at h
    cases h
    exact absurd rfl h4
theorem am_ws_at (G : am_G) (σ : am_S) {r : Nat} {L : am_L} (h : am_lay[r]? = some L) (hr : r < am_NC) : (am_ws G σ)[r]? = some (G.2.1 r, am_cell G (σ r) L) := by
  unfold am_ws
  rw [List.getElem?_mapIdx, List.getElem?_take, if_pos hr, h]
  rfl
theorem am_ws_inv {G : am_G} {σ : am_S} {r : Nat} {q : Nat × va_E} (h : (am_ws G σ)[r]? = some q) : r < am_NC ∧ ∃ L, am_lay[r]? = some L ∧ q = (G.2.1 r, am_cell G (σ r) L) := by
  unfold am_ws at h
  rw [List.getElem?_mapIdx, List.getElem?_take] at h
  by_cases hr : r < am_NC
  · rw [if_pos hr] at h
    cases hL : am_lay[r]? with
    | none => rw [hL] at h; cases h
    | some L =>
      rw [hL] at h
      exact ⟨hr, L, rfl, (Option.some.inj h).symm⟩
  · rw [if_neg hr] at h
    cases h
theorem am_ws_D {G : am_G} {σ : am_S} {A : Nat → Prop} (h : va_D A (am_ws G σ)) (σ' : am_S) : va_D A (am_ws G σ') := by
  refine ⟨fun i j p q hi hj e => ?_, fun k q hk => ?_⟩
  · obtain ⟨i1, Li, hLi, rfl⟩ := am_ws_inv hi
    obtain ⟨j1, Lj, hLj, rfl⟩ := am_ws_inv hj
    exact h.1 i j _ _ (am_ws_at G σ hLi i1) (am_ws_at G σ hLj j1) e
  · obtain ⟨k1, L, hL, rfl⟩ := am_ws_inv hk
    have h1 := h.2 k _ (am_ws_at G σ hL k1)
    exact h1
theorem am_ws_set {G : am_G} {σ σ' : am_S} {r : Nat} {L : am_L} (h : am_lay[r]? = some L) (hr : r < am_NC) (ho : ∀ k, k ≠ r → σ' k = σ k) {E : va_E} (hE : E = am_cell G (σ' r) L) : (am_ws G σ).set r (G.2.1 r, E) = am_ws G σ' := by
  subst hE
  apply List.ext_getElem?
  intro i
  by_cases e : r = i
  · subst e
    rw [List.getElem?_set_self (List.getElem?_eq_some_iff.mp (am_ws_at G σ h hr)).1]
    exact (am_ws_at G σ' h hr).symm
  · rw [List.getElem?_set_ne e]
    unfold am_ws
    rw [List.getElem?_mapIdx, List.getElem?_mapIdx, ho i (Ne.symm e)]
theorem am_us_o {σ : am_S} {r : Nat} {i v : Int} {k : Nat} (h : k ≠ r) : am_us σ r i v k = σ k := by
  funext j
  unfold am_us
  rw [if_neg (fun q => h q.1)]
theorem am_us_s {σ : am_S} {r : Nat} {i v j : Int} : am_us σ r i v r j = if j = i then v else σ r j := by
  unfold am_us
  by_cases e : j = i
  · rw [if_pos ⟨rfl, e⟩, if_pos e]
  · rw [if_neg (fun q => e q.2), if_neg e]
theorem am_fs_set {G : am_G} {σ : am_S} {r y : Nat} {v : Int} {refs : List (Option Nat)} (h : refs[y]? = some none) : (am_fs G (σ r) refs).set y (.int (Int32.ofInt v)) = am_fs G (am_us σ r y v r) refs := by
  apply List.ext_getElem?
  intro i
  unfold am_fs
  by_cases e : y = i
  · subst e
    have hl : y < (refs.mapIdx (am_fv G (σ r))).length := by rw [List.length_mapIdx]; exact (List.getElem?_eq_some_iff.mp h).1
    rw [List.getElem?_set_self hl, List.getElem?_mapIdx, h]
    show some _ = some (Value.int (Int32.ofInt (am_us σ r y v r y)))
    rw [am_us_s, if_pos rfl]
  · rw [List.getElem?_set_ne e, List.getElem?_mapIdx, List.getElem?_mapIdx]
    cases refs[i]? with
    | none => rfl
    | some q =>
      cases q with
      | some t => rfl
      | none =>
        show some (Value.int (Int32.ofInt (σ r i))) = some (Value.int (Int32.ofInt (am_us σ r y v r i)))
        rw [am_us_s, if_neg (fun q => e (by omega))]
theorem am_upd {σ : am_S} {r : Nat} {i v : Int} {x : Int32} (h0 : 0 ≤ i) (hx : x = Int32.ofInt v) : upd (fun j : Nat => Int32.ofInt (σ r (j : Int))) i.toNat x = fun j : Nat => Int32.ofInt (am_us σ r i v r (j : Int)) := by
  funext j
  unfold upd
  rw [am_us_s]
  by_cases e : j = i.toNat
  · rw [if_pos e, if_pos (by omega), hx]
  · rw [if_neg e, if_neg (by omega)]
/-! the locals -/
def am_lm (G : am_G) (lv : List am_V) : List (Nat × Value) := lv.mapIdx fun i v => (i, am_vv G v)
def am_LV (G : am_G) (ls : Array Slot) (nL : Nat) (lv : List am_V) : Prop := lv_has ls nL (am_lm G lv)
theorem am_lm_at {G : am_G} {lv : List am_V} {a : Nat} {v : am_V} (h : lv[a]? = some v) : (am_lm G lv)[a]? = some (a, am_vv G v) := by
  unfold am_lm
  rw [List.getElem?_mapIdx, h]
  rfl
theorem am_lm_mem {G : am_G} {lv : List am_V} {q : Nat × Value} (h : q ∈ am_lm G lv) : ∃ a v, lv[a]? = some v ∧ q = (a, am_vv G v) := by
  obtain ⟨a, ha⟩ := List.getElem?_of_mem h
  unfold am_lm at ha
  rw [List.getElem?_mapIdx] at ha
  cases hv : lv[a]? with
  | none => rw [hv] at ha; cases ha
  | some v =>
    rw [hv] at ha
    exact ⟨a, v, hv, (Option.some.inj ha).symm⟩
theorem am_lset_at : ∀ (lv : List am_V) (a : Nat) (v : am_V) (j : Nat) (w : am_V), (am_lset lv a v)[j]? = some w → (j = a ∧ w = v) ∨ (j ≠ a ∧ lv[j]? = some w)
  | [], 0, v, 0, w, h => Or.inl ⟨rfl, (Option.some.inj h).symm⟩
  | [], 0, v, j + 1, w, h => by simp [am_lset] at h
  | [], a + 1, v, j, w, h => by simp [am_lset] at h
  | x :: xs, 0, v, 0, w, h => Or.inl ⟨rfl, (Option.some.inj h).symm⟩
  | x :: xs, 0, v, j + 1, w, h => Or.inr ⟨by omega, by simpa [am_lset] using h⟩
  | x :: xs, a + 1, v, 0, w, h => Or.inr ⟨by omega, h⟩
  | x :: xs, a + 1, v, j + 1, w, h => by
    have h1 : (am_lset xs a v)[j]? = some w := by simpa [am_lset] using h
    rcases am_lset_at xs a v j w h1 with ⟨h2, h3⟩ | ⟨h2, h3⟩
    · exact Or.inl ⟨by omega, h3⟩
    · exact Or.inr ⟨by omega, by simpa using h3⟩
theorem am_LV_set {G : am_G} {ls' : Array Slot} {nL a : Nat} {lv : List am_V} {v : am_V} (h : lv_has ls' nL ((a, am_vv G v) :: (am_lm G lv).filter (fun q => !(q.1 == a) && !(q.1 + 1 == a && q.2.category == 2)))) : am_LV G ls' nL (am_lset lv a v) := by
  refine ⟨h.1, h.2.1, fun q hq => h.2.2 q ?_⟩
  obtain ⟨j, w, hj, rfl⟩ := am_lm_mem hq
  rcases am_lset_at lv a v j w hj with ⟨rfl, rfl⟩ | ⟨h1, h2⟩
  · exact List.mem_cons_self
  · refine List.mem_cons_of_mem _ (List.mem_filter.mpr ⟨List.mem_of_getElem? (am_lm_at h2), ?_⟩)
    have h3 : (am_vv G w).category = 1 := am_vv_cat G w
    simp [h1, h3]
theorem am_LV_trunc {G : am_G} {ls : Array Slot} {nL : Nat} {lv lv' : List am_V} (h : am_LV G ls nL (lv ++ lv')) : am_LV G ls nL lv := by
  refine ⟨h.1, h.2.1, fun q hq => h.2.2 q ?_⟩
  obtain ⟨j, w, hj, rfl⟩ := am_lm_mem hq
  refine List.mem_of_getElem? (am_lm_at ?_)
  rw [List.getElem?_append_left (List.getElem?_eq_some_iff.mp hj).1]
  exact hj
theorem am_args : ∀ (i : Nat) (G : am_G) (lv : List am_V), lv_args i (lv.map (am_vv G)) = lv.mapIdx (fun j v => (i + j, am_vv G v))
  | i, G, [] => rfl
  | i, G, v :: vs => by
    rw [List.map_cons, lv_args, am_vv_cat, List.mapIdx_cons]
    rw [if_neg (by decide), am_args (i + 1) G vs]
    congr 1
    apply List.ext_getElem?
    intro j
    rw [List.getElem?_mapIdx, List.getElem?_mapIdx]
    cases vs[j]? with
    | none => rfl
    | some w => simp [Nat.add_comm, Nat.add_left_comm]
theorem am_sl (G : am_G) (lv : List am_V) : (lg_sl (lv.map (am_vv G))).length = lv.length := by
  induction lv with
  | nil => rfl
  | cons v vs ih =>
    show ((if (am_vv G v).category = 2 then _ else _) ++ lg_sl (vs.map (am_vv G))).length = _
    rw [am_vv_cat, if_neg (by decide), List.length_append, ih]
    simp
    omega
/-! the elimination of the step's cases -/
theorem am_gi_e {lv : List am_V} {a : Nat} {f : Int → Prop} (h : am_gi lv a f) : ∃ x, lv[a]? = some (.inl x) ∧ f x := by
  unfold am_gi at h
  split at h
  · exact ⟨_, by assumption, h⟩
  · exact h.elim
theorem am_gr_e {lv : List am_V} {a : Nat} {f : Nat → Prop} (h : am_gr lv a f) : ∃ x, lv[a]? = some (.inr x) ∧ f x := by
  unfold am_gr at h
  split at h
  · exact ⟨_, by assumption, h⟩
  · exact h.elim
theorem am_p1_e {st : List am_V} {f : Int → List am_V → Prop} (h : am_p1 st f) : ∃ x st', st = .inl x :: st' ∧ f x st' := by
  unfold am_p1 at h
  split at h
  · exact ⟨_, _, rfl, h⟩
  · exact h.elim
theorem am_r1_e {st : List am_V} {f : Nat → List am_V → Prop} (h : am_r1 st f) : ∃ x st', st = .inr x :: st' ∧ f x st' := by
  unfold am_r1 at h
  split at h
  · exact ⟨_, _, rfl, h⟩
  · exact h.elim
theorem am_p2_e {st : List am_V} {f : Int → Int → List am_V → Prop} (h : am_p2 st f) : ∃ x y st', st = .inl y :: .inl x :: st' ∧ f x y st' := by
  unfold am_p2 at h
  split at h
  · exact ⟨_, _, _, rfl, h⟩
  · exact h.elim
theorem am_pr_e {st : List am_V} {f : Int → Nat → List am_V → Prop} (h : am_pr st f) : ∃ x r st', st = .inl x :: .inr r :: st' ∧ f x r st' := by
  unfold am_pr at h
  split at h
  · exact ⟨_, _, _, rfl, h⟩
  · exact h.elim
theorem am_pir_e {st : List am_V} {f : Int → Int → Nat → List am_V → Prop} (h : am_pir st f) : ∃ x i r st', st = .inl x :: .inl i :: .inr r :: st' ∧ f x i r st' := by
  unfold am_pir at h
  split at h
  · exact ⟨_, _, _, _, rfl, h⟩
  · exact h.elim
theorem am_g_e {b : Bool} {P : Prop} (h : am_g b P) : b = true ∧ P := by
  cases b with
  | true => exact ⟨rfl, h⟩
  | false => exact h.elim
theorem am_fld_e {r ci y : Nat} {fr : Nat → Prop} {fi : Prop} (h : am_fld r ci y fr fi) : ∃ refs, am_lay[r]? = some (0, ci, refs) ∧ ((∃ t, refs[y]? = some (some t) ∧ fr t) ∨ (refs[y]? = some none ∧ fi)) := by
  unfold am_fld at h
  split at h
  · rename_i c refs hl
    obtain ⟨h1, h2⟩ := am_g_e h
    have h3 : c = ci := Nat.eq_of_beq_eq_true h1
    subst h3
    refine ⟨refs, hl, ?_⟩
    split at h2
    · exact Or.inl ⟨_, by assumption, h2⟩
    · exact Or.inr ⟨by assumption, h2⟩
    · exact h2.elim
  · exact h.elim
theorem am_isO_e {r ci : Nat} (h : am_isO r ci = true) : ∃ refs, am_lay[r]? = some (0, ci, refs) := by
  unfold am_isO at h
  split at h
  · rename_i c refs hl
    have h3 : c = ci := Nat.eq_of_beq_eq_true h
    subst h3
    exact ⟨refs, hl⟩
  · cases h
theorem am_ok2 {μ k pc len x y : Nat} {i : Instr} {c : Int} {z : List Nat} (he : (am_tab μ)[k]? = some (pc, i, len, x, y, c, z)) : decode (am_met μ).2.1 pc = .ok (i, len) ∧ am_okI μ k pc len i x y c z = true ∧ am_pc μ k = pc := by
  have h := am_ok he
  obtain ⟨h1, h2⟩ := Bool.and_eq_true_iff.mp h
  refine ⟨of_decide_eq_true h1, h2, ?_⟩
  unfold am_pc
  rw [he]
  rfl
theorem am_nx_e {μ k pc n len : Nat} (h : am_nx μ k pc n len = true) : len = n ∧ am_pc μ (k + 1) = pc + n := by
  obtain ⟨h1, h2⟩ := Bool.and_eq_true_iff.mp h
  exact ⟨Nat.eq_of_beq_eq_true h1, Nat.eq_of_beq_eq_true h2⟩
/-! the machine's own judgement, in the abstract machine's words -/
def am_scr (G : am_G) (sc : Int → Int) (μ : Nat) (σ : am_S) (s : State) (A : Nat → Prop) : Prop := σ am_NC = sc ∧ (μ = am_law → ∃ (L : Nat) (xs : Nat → Int32), va_X (G.2.1 am_NC) L xs s s.heap ∧ G.2.1 am_NC < s.heap.size ∧ ¬ A (G.2.1 am_NC) ∧ σ am_NC (-1) = (L : Int) ∧ L < 2147483648 ∧ ∀ j : Nat, j < L → xs j = Int32.ofInt (σ am_NC (j : Int)))
def am_X (G : am_G) (sc : Int → Int) (d μ : Nat) (σ : am_S) (p : Program) (R : Room) (s : State) (m : MethodId) (args : Array Value) (c : Code) (H : Heap) (locs : List Loc) (cells slots : Nat) (A : Nat → Prop) : Prop :=
  p.tables.exec = Jvm.exec ∧ c.code = (am_met μ).2.1 ∧ c.maxLocals = (am_met μ).2.2.1 ∧ s.vm.findClass (am_met μ).1.cls = some m.cls ∧ (∀ w ∈ am_tbl, w.before args s = true) ∧ (d ≤ R.frames ∧ 64 * d ≤ R.locals ∧ cells ≤ R.cells ∧ slots ≤ R.slots) ∧
  va_K G.1 am_cls (am_tys G) s ∧ va_P G.1 am_cls (am_ws G σ) H ∧ va_D A (am_ws G σ) ∧ va_S A s.heap H locs ∧ (∀ q : Nat, s.heap.size ≤ q → A q) ∧ am_scr G sc μ σ s A
def am_rt (μ : Nat) (o : Option Int) : Prop := match o with
  | none => (am_met μ).2.2.2.1 = none
  | some x => ∃ ty, (am_met μ).2.2.2.1 = some ty ∧ narrow ty (.int (Int32.ofInt x)) = .int (Int32.ofInt x)
def am_ri (o : Option Int) : Instr := match o with
  | none => .return_
  | some _ => .ireturn
def am_KM (l : Launch) (G : am_G) : am_KT := fun d μ k lv st σ Q =>
  ∀ (p : Program) (e : Env) (R : Room) (s : State) (m : MethodId) (args : Array Value) (below : List Frame) (meth : Method) (c : Code) (H : Heap) (locs : List Loc) (cells slots : Nat) (ls : Array Slot) (A : Nat → Prop) (Z : State → Prop) (sc : Int → Int),
    am_X G sc d μ σ p R s m args c H locs cells slots A → am_LV G ls (am_met μ).2.2.1 lv →
    (∀ (o : Option Int) (σ' : am_S) (H' : Heap) (locs' : List Loc) (pc : Nat) (ls' : Array Slot), Q o σ' → am_X G sc d μ σ' p R s m args c H' locs' cells slots A → am_rt μ o → decode (am_met μ).2.1 pc = .ok (am_ri o, 1) → W p l e R s m args below meth c H' locs' cells slots Z (F0 m pc ls' ((am_o o).map (am_vv G)))) →
    W p l e R s m args below meth c H locs cells slots Z (F0 m (am_pc μ k) ls (st.map (am_vv G)))
/-- a store keeps what is known -/
theorem am_X_set {G : am_G} {d μ : Nat} {σ : am_S} {p : Program} {R : Room} {s : State} {m : MethodId} {args : Array Value} {c : Code} {H H1 : Heap} {locs locs1 : List Loc} {cells slots : Nat} {A : Nat → Prop} {sc : Int → Int} (hX : am_X G sc d μ σ p R s m args c H locs cells slots A)
    {r : Nat} {L : am_L} (hL : am_lay[r]? = some L) (hr : r < am_NC) {i v : Int} {E : va_E} (hE : E = am_cell G (am_us σ r i v r) L) (hP : va_P G.1 am_cls ((am_ws G σ).set r (G.2.1 r, E)) H1) (hS : va_S A s.heap H1 locs1) : am_X G sc d μ (am_us σ r i v) p R s m args c H1 locs1 cells slots A := by
  obtain ⟨hx, hb, hml, hown, hts, hroom, hK, -, hD, -, hA, hsc⟩ := hX
  rw [am_ws_set hL hr (fun k hk => am_us_o hk) hE] at hP
  refine ⟨hx, hb, hml, hown, hts, hroom, hK, hP, am_ws_D hD _, hS, hA, ?_⟩
  have hne : am_NC ≠ r := by omega
  refine ⟨by rw [am_us_o hne]; exact hsc.1, fun hμ => ?_⟩
  obtain ⟨L, xs, h1, h2, h3, h4, h5, h6⟩ := hsc.2 hμ
  exact ⟨L, xs, h1, h2, h3, by rw [am_us_o hne]; exact h4, h5, fun j hj => by rw [am_us_o hne]; exact h6 j hj⟩
theorem am_lens {r : Nat} {k n : Nat} {refs : List (Option Nat)} (h : am_lay[r]? = some (k, n, refs)) : n < 2147483648 := by
  have h1 : (am_lay.all fun L => Nat.blt L.2.1 2147483648) = true := by decide +kernel
  have h2 := List.all_eq_true.mp h1 _ (List.mem_of_getElem? h)
  exact Nat.le_of_ble_eq_true h2
theorem am_cls_ok {ci : Nat} {q : vw_C} (h : am_cls[ci]? = some q) : (∀ w ∈ u_ws q.1 q.2.1 q.2.2, w ∈ am_tbl) ∧ (∃ ty0 : Nat → FieldType, ∀ k, k < q.2.2 → parseFieldDescriptor (q.2.1 k).2.2.1 = some (ty0 k)) ∧ (∀ a, a < q.2.2 → ∀ b, b < q.2.2 → a ≠ b → (q.2.1 a).2.1 ≠ (q.2.1 b).2.1) := by
  match ci, h with
  | 0, h => cases h; exact ⟨am_igX0, ⟨tyX0, tyX0_ok⟩, nmX0⟩
  | 1, h => cases h; exact ⟨am_igX1, ⟨tyX1, tyX1_ok⟩, nmX1⟩
  | 2, h => cases h; exact ⟨am_igX2, ⟨tyX2, tyX2_ok⟩, nmX2⟩
  | 3, h => cases h; exact ⟨am_igX3, ⟨tyX3, tyX3_ok⟩, nmX3⟩
  | 4, h => cases h; exact ⟨am_igX4, ⟨tyX4, tyX4_ok⟩, nmX4⟩
  | 5, h => cases h; exact ⟨am_igX5, ⟨tyX5, tyX5_ok⟩, nmX5⟩
  | 6, h => cases h; exact ⟨am_igX6, ⟨tyX6, tyX6_ok⟩, nmX6⟩
  | 7, h => cases h; exact ⟨am_igX7, ⟨tyX7, tyX7_ok⟩, nmX7⟩
  | 8, h => cases h; exact ⟨am_igX8, ⟨tyX8, tyX8_ok⟩, nmX8⟩
  | n + 9, h => cases h
theorem am_T_at {ci : Nat} {q : vw_C} (h : am_cls[ci]? = some q) : am_T ci = q := by
  unfold am_T
  rw [h]
  rfl
theorem am_lay_cls {r ci : Nat} {refs : List (Option Nat)} (h : am_lay[r]? = some (0, ci, refs)) : am_cls[ci]? = some (am_T ci) ∧ refs.length = (am_T ci).2.2 := by
  have h1 : (am_lay.all fun L => !(Nat.beq L.1 0) || (Nat.blt L.2.1 9 && Nat.beq L.2.2.length (am_T L.2.1).2.2)) = true := by decide +kernel
  have h2 := List.all_eq_true.mp h1 _ (List.mem_of_getElem? h)
  have h3 : (Nat.blt ci 9 && Nat.beq refs.length (am_T ci).2.2) = true := h2
  obtain ⟨h4, h5⟩ := Bool.and_eq_true_iff.mp h3
  have h6 : ci < 9 := Nat.le_of_ble_eq_true h4
  refine ⟨?_, Nat.eq_of_beq_eq_true h5⟩
  have h7 : ci < am_cls.length := h6
  unfold am_T
  rw [List.getElem?_eq_getElem h7]
  rfl

theorem am_s_iconst {l : Launch} {G : am_G} {d μ k : Nat} {lv st : List am_V} {σ : am_S} {Q : am_Q} {pc len x y : Nat} {c : Int} {z : List Nat} {n : Int} (he : (am_tab μ)[k]? = some (pc, .iconst n, len, x, y, c, z)) (h : am_ins (am_KM l G) d μ k lv st σ Q (.iconst n) x y c z) : am_KM l G d μ k lv st σ Q := by
  obtain ⟨hdg, hok, hpc⟩ := am_ok2 he
  obtain ⟨rfl, hnx⟩ := am_nx_e hok
  intro p e R s m args below meth c0 H locs cells slots ls A Z sc hX hl hR
  obtain ⟨hx, hb, hml, hown, hts, hroom, hK, hP, hD, hS, hA, hsc⟩ := id hX
  rw [hpc]
  have w := h p e R s m args below meth c0 H locs cells slots ls A Z sc hX hl hR
  rw [hnx] at w
  exact lv_iconst hx hb hdg rfl w
theorem am_s_bipush {l : Launch} {G : am_G} {d μ k : Nat} {lv st : List am_V} {σ : am_S} {Q : am_Q} {pc len x y : Nat} {c : Int} {z : List Nat} {n : Int} (he : (am_tab μ)[k]? = some (pc, .bipush n, len, x, y, c, z)) (h : am_ins (am_KM l G) d μ k lv st σ Q (.bipush n) x y c z) : am_KM l G d μ k lv st σ Q := by
  obtain ⟨hdg, hok, hpc⟩ := am_ok2 he
  obtain ⟨hok, hv⟩ := Bool.and_eq_true_iff.mp hok
  obtain ⟨rfl, hnx⟩ := am_nx_e hok
  intro p e R s m args below meth c0 H locs cells slots ls A Z sc hX hl hR
  obtain ⟨hx, hb, hml, hown, hts, hroom, hK, hP, hD, hS, hA, hsc⟩ := id hX
  rw [hpc]
  have w := h p e R s m args below meth c0 H locs cells slots ls A Z sc hX hl hR
  rw [hnx] at w
  exact lv_bipush hx hb hdg (of_decide_eq_true hv) w
theorem am_s_sipush {l : Launch} {G : am_G} {d μ k : Nat} {lv st : List am_V} {σ : am_S} {Q : am_Q} {pc len x y : Nat} {c : Int} {z : List Nat} {n : Int} (he : (am_tab μ)[k]? = some (pc, .sipush n, len, x, y, c, z)) (h : am_ins (am_KM l G) d μ k lv st σ Q (.sipush n) x y c z) : am_KM l G d μ k lv st σ Q := by
  obtain ⟨hdg, hok, hpc⟩ := am_ok2 he
  obtain ⟨hok, hv⟩ := Bool.and_eq_true_iff.mp hok
  obtain ⟨rfl, hnx⟩ := am_nx_e hok
  intro p e R s m args below meth c0 H locs cells slots ls A Z sc hX hl hR
  obtain ⟨hx, hb, hml, hown, hts, hroom, hK, hP, hD, hS, hA, hsc⟩ := id hX
  rw [hpc]
  have w := h p e R s m args below meth c0 H locs cells slots ls A Z sc hX hl hR
  rw [hnx] at w
  exact lv_sipush hx hb hdg (of_decide_eq_true hv) w
theorem am_s_ldc {l : Launch} {G : am_G} {d μ k : Nat} {lv st : List am_V} {σ : am_S} {Q : am_Q} {pc len x y : Nat} {c : Int} {z : List Nat} {n : Nat} (he : (am_tab μ)[k]? = some (pc, .ldc n, len, x, y, c, z)) (h : am_ins (am_KM l G) d μ k lv st σ Q (.ldc n) x y c z) : am_KM l G d μ k lv st σ Q := by
  obtain ⟨hdg, hok, hpc⟩ := am_ok2 he
  obtain ⟨hok, hv⟩ := Bool.and_eq_true_iff.mp hok
  obtain ⟨rfl, hnx⟩ := am_nx_e hok
  intro p e R s m args below meth c0 H locs cells slots ls A Z sc hX hl hR
  obtain ⟨hx, hb, hml, hown, hts, hroom, hK, hP, hD, hS, hA, hsc⟩ := id hX
  rw [hpc]
  have w := h p e R s m args below meth c0 H locs cells slots ls A Z sc hX hl hR
  rw [hnx] at w
  exact lv_ldc hx hb hown (hts _ (am_wat_in hv)) hdg w
theorem am_s_ldc_w {l : Launch} {G : am_G} {d μ k : Nat} {lv st : List am_V} {σ : am_S} {Q : am_Q} {pc len x y : Nat} {c : Int} {z : List Nat} {n : Nat} (he : (am_tab μ)[k]? = some (pc, .ldc_w n, len, x, y, c, z)) (h : am_ins (am_KM l G) d μ k lv st σ Q (.ldc_w n) x y c z) : am_KM l G d μ k lv st σ Q := by
  obtain ⟨hdg, hok, hpc⟩ := am_ok2 he
  obtain ⟨hok, hv⟩ := Bool.and_eq_true_iff.mp hok
  obtain ⟨rfl, hnx⟩ := am_nx_e hok
  intro p e R s m args below meth c0 H locs cells slots ls A Z sc hX hl hR
  obtain ⟨hx, hb, hml, hown, hts, hroom, hK, hP, hD, hS, hA, hsc⟩ := id hX
  rw [hpc]
  have w := h p e R s m args below meth c0 H locs cells slots ls A Z sc hX hl hR
  rw [hnx] at w
  exact lv_ldcw hx hb hown (hts _ (am_wat_in hv)) hdg w
theorem am_s_iload_n {l : Launch} {G : am_G} {d μ k : Nat} {lv st : List am_V} {σ : am_S} {Q : am_Q} {pc len x y : Nat} {c : Int} {z : List Nat} {a : Fin 4} (he : (am_tab μ)[k]? = some (pc, .iload_n a, len, x, y, c, z)) (h : am_ins (am_KM l G) d μ k lv st σ Q (.iload_n a) x y c z) : am_KM l G d μ k lv st σ Q := by
  obtain ⟨hdg, hok, hpc⟩ := am_ok2 he
  obtain ⟨rfl, hnx⟩ := am_nx_e hok
  obtain ⟨v, hv, h⟩ := am_gi_e h
  intro p e R s m args below meth c0 H locs cells slots ls A Z sc hX hl hR
  obtain ⟨hx, hb, hml, hown, hts, hroom, hK, hP, hD, hS, hA, hsc⟩ := id hX
  rw [hpc]
  have w := h p e R s m args below meth c0 H locs cells slots ls A Z sc hX hl hR
  rw [hnx] at w
  exact lv_iload_n hx hb hdg rfl (lv_at hl _ (am_lm_at hv)) w
theorem am_s_aload_n {l : Launch} {G : am_G} {d μ k : Nat} {lv st : List am_V} {σ : am_S} {Q : am_Q} {pc len x y : Nat} {c : Int} {z : List Nat} {a : Fin 4} (he : (am_tab μ)[k]? = some (pc, .aload_n a, len, x, y, c, z)) (h : am_ins (am_KM l G) d μ k lv st σ Q (.aload_n a) x y c z) : am_KM l G d μ k lv st σ Q := by
  obtain ⟨hdg, hok, hpc⟩ := am_ok2 he
  obtain ⟨rfl, hnx⟩ := am_nx_e hok
  obtain ⟨v, hv, h⟩ := am_gr_e h
  intro p e R s m args below meth c0 H locs cells slots ls A Z sc hX hl hR
  obtain ⟨hx, hb, hml, hown, hts, hroom, hK, hP, hD, hS, hA, hsc⟩ := id hX
  rw [hpc]
  have w := h p e R s m args below meth c0 H locs cells slots ls A Z sc hX hl hR
  rw [hnx] at w
  exact lv_aload_n hx hb hdg rfl (lv_at hl _ (am_lm_at hv)) w
theorem am_s_iload {l : Launch} {G : am_G} {d μ k : Nat} {lv st : List am_V} {σ : am_S} {Q : am_Q} {pc len x y : Nat} {c : Int} {z : List Nat} {a : Nat} (he : (am_tab μ)[k]? = some (pc, .iload a, len, x, y, c, z)) (h : am_ins (am_KM l G) d μ k lv st σ Q (.iload a) x y c z) : am_KM l G d μ k lv st σ Q := by
  obtain ⟨hdg, hok, hpc⟩ := am_ok2 he
  obtain ⟨rfl, hnx⟩ := am_nx_e hok
  obtain ⟨v, hv, h⟩ := am_gi_e h
  intro p e R s m args below meth c0 H locs cells slots ls A Z sc hX hl hR
  obtain ⟨hx, hb, hml, hown, hts, hroom, hK, hP, hD, hS, hA, hsc⟩ := id hX
  rw [hpc]
  have w := h p e R s m args below meth c0 H locs cells slots ls A Z sc hX hl hR
  rw [hnx] at w
  exact lv_iload hx hb hdg (lv_at hl _ (am_lm_at hv)) w
theorem am_s_aload {l : Launch} {G : am_G} {d μ k : Nat} {lv st : List am_V} {σ : am_S} {Q : am_Q} {pc len x y : Nat} {c : Int} {z : List Nat} {a : Nat} (he : (am_tab μ)[k]? = some (pc, .aload a, len, x, y, c, z)) (h : am_ins (am_KM l G) d μ k lv st σ Q (.aload a) x y c z) : am_KM l G d μ k lv st σ Q := by
  obtain ⟨hdg, hok, hpc⟩ := am_ok2 he
  obtain ⟨rfl, hnx⟩ := am_nx_e hok
  obtain ⟨v, hv, h⟩ := am_gr_e h
  intro p e R s m args below meth c0 H locs cells slots ls A Z sc hX hl hR
  obtain ⟨hx, hb, hml, hown, hts, hroom, hK, hP, hD, hS, hA, hsc⟩ := id hX
  rw [hpc]
  have w := h p e R s m args below meth c0 H locs cells slots ls A Z sc hX hl hR
  rw [hnx] at w
  exact lv_aload hx hb hdg (lv_at hl _ (am_lm_at hv)) w
theorem am_s_istore_n {l : Launch} {G : am_G} {d μ k : Nat} {lv st : List am_V} {σ : am_S} {Q : am_Q} {pc len x y : Nat} {c : Int} {z : List Nat} {a : Fin 4} (he : (am_tab μ)[k]? = some (pc, .istore_n a, len, x, y, c, z)) (h : am_ins (am_KM l G) d μ k lv st σ Q (.istore_n a) x y c z) : am_KM l G d μ k lv st σ Q := by
  obtain ⟨hdg, hok, hpc⟩ := am_ok2 he
  obtain ⟨hok, ha⟩ := Bool.and_eq_true_iff.mp hok
  obtain ⟨rfl, hnx⟩ := am_nx_e hok
  obtain ⟨v, st', rfl, h⟩ := am_p1_e h
  intro p e R s m args below meth c0 H locs cells slots ls A Z sc hX hl hR
  obtain ⟨hx, hb, hml, hown, hts, hroom, hK, hP, hD, hS, hA, hsc⟩ := id hX
  rw [hpc]
  refine lv_istore_n hx hb hdg rfl hl (of_decide_eq_true ha) rfl (fun ls' hl' => ?_)
  have w := h p e R s m args below meth c0 H locs cells slots ls' A Z sc hX (am_LV_set hl') hR
  rw [hnx] at w
  exact w
theorem am_s_astore_n {l : Launch} {G : am_G} {d μ k : Nat} {lv st : List am_V} {σ : am_S} {Q : am_Q} {pc len x y : Nat} {c : Int} {z : List Nat} {a : Fin 4} (he : (am_tab μ)[k]? = some (pc, .astore_n a, len, x, y, c, z)) (h : am_ins (am_KM l G) d μ k lv st σ Q (.astore_n a) x y c z) : am_KM l G d μ k lv st σ Q := by
  obtain ⟨hdg, hok, hpc⟩ := am_ok2 he
  obtain ⟨hok, ha⟩ := Bool.and_eq_true_iff.mp hok
  obtain ⟨rfl, hnx⟩ := am_nx_e hok
  obtain ⟨v, st', rfl, h⟩ := am_r1_e h
  intro p e R s m args below meth c0 H locs cells slots ls A Z sc hX hl hR
  obtain ⟨hx, hb, hml, hown, hts, hroom, hK, hP, hD, hS, hA, hsc⟩ := id hX
  rw [hpc]
  refine lv_astore_n hx hb hdg rfl hl (of_decide_eq_true ha) rfl (fun ls' hl' => ?_)
  have w := h p e R s m args below meth c0 H locs cells slots ls' A Z sc hX (am_LV_set hl') hR
  rw [hnx] at w
  exact w
theorem am_s_istore {l : Launch} {G : am_G} {d μ k : Nat} {lv st : List am_V} {σ : am_S} {Q : am_Q} {pc len x y : Nat} {c : Int} {z : List Nat} {a : Nat} (he : (am_tab μ)[k]? = some (pc, .istore a, len, x, y, c, z)) (h : am_ins (am_KM l G) d μ k lv st σ Q (.istore a) x y c z) : am_KM l G d μ k lv st σ Q := by
  obtain ⟨hdg, hok, hpc⟩ := am_ok2 he
  obtain ⟨hok, ha⟩ := Bool.and_eq_true_iff.mp hok
  obtain ⟨rfl, hnx⟩ := am_nx_e hok
  obtain ⟨v, st', rfl, h⟩ := am_p1_e h
  intro p e R s m args below meth c0 H locs cells slots ls A Z sc hX hl hR
  obtain ⟨hx, hb, hml, hown, hts, hroom, hK, hP, hD, hS, hA, hsc⟩ := id hX
  rw [hpc]
  refine lv_istore hx hb hdg hl (of_decide_eq_true ha) rfl (fun ls' hl' => ?_)
  have w := h p e R s m args below meth c0 H locs cells slots ls' A Z sc hX (am_LV_set hl') hR
  rw [hnx] at w
  exact w
theorem am_s_astore {l : Launch} {G : am_G} {d μ k : Nat} {lv st : List am_V} {σ : am_S} {Q : am_Q} {pc len x y : Nat} {c : Int} {z : List Nat} {a : Nat} (he : (am_tab μ)[k]? = some (pc, .astore a, len, x, y, c, z)) (h : am_ins (am_KM l G) d μ k lv st σ Q (.astore a) x y c z) : am_KM l G d μ k lv st σ Q := by
  obtain ⟨hdg, hok, hpc⟩ := am_ok2 he
  obtain ⟨hok, ha⟩ := Bool.and_eq_true_iff.mp hok
  obtain ⟨rfl, hnx⟩ := am_nx_e hok
  obtain ⟨v, st', rfl, h⟩ := am_r1_e h
  intro p e R s m args below meth c0 H locs cells slots ls A Z sc hX hl hR
  obtain ⟨hx, hb, hml, hown, hts, hroom, hK, hP, hD, hS, hA, hsc⟩ := id hX
  rw [hpc]
  refine lv_astore hx hb hdg hl (of_decide_eq_true ha) rfl (fun ls' hl' => ?_)
  have w := h p e R s m args below meth c0 H locs cells slots ls' A Z sc hX (am_LV_set hl') hR
  rw [hnx] at w
  exact w
theorem am_s_iinc {l : Launch} {G : am_G} {d μ k : Nat} {lv st : List am_V} {σ : am_S} {Q : am_Q} {pc len x y : Nat} {c : Int} {z : List Nat} {a : Nat} {n : Int} (he : (am_tab μ)[k]? = some (pc, .iinc a n, len, x, y, c, z)) (h : am_ins (am_KM l G) d μ k lv st σ Q (.iinc a n) x y c z) : am_KM l G d μ k lv st σ Q := by
  obtain ⟨hdg, hok, hpc⟩ := am_ok2 he
  obtain ⟨hok, ha⟩ := Bool.and_eq_true_iff.mp hok
  obtain ⟨rfl, hnx⟩ := am_nx_e hok
  obtain ⟨v, hv, h⟩ := am_gi_e h
  intro p e R s m args below meth c0 H locs cells slots ls A Z sc hX hl hR
  obtain ⟨hx, hb, hml, hown, hts, hroom, hK, hP, hD, hS, hA, hsc⟩ := id hX
  rw [hpc]
  refine lv_iinc (v := Int32.ofInt (v + n)) hx hb hdg hl (am_lm_at hv) (Int32.ofInt_add v n).symm (of_decide_eq_true ha) rfl (fun ls' hl' => ?_)
  have w := h p e R s m args below meth c0 H locs cells slots ls' A Z sc hX (am_LV_set hl') hR
  rw [hnx] at w
  exact w
theorem am_s_iadd {l : Launch} {G : am_G} {d μ k : Nat} {lv st : List am_V} {σ : am_S} {Q : am_Q} {pc len x y : Nat} {c : Int} {z : List Nat} (he : (am_tab μ)[k]? = some (pc, .iadd, len, x, y, c, z)) (h : am_ins (am_KM l G) d μ k lv st σ Q (.iadd) x y c z) : am_KM l G d μ k lv st σ Q := by
  obtain ⟨hdg, hok, hpc⟩ := am_ok2 he
  obtain ⟨rfl, hnx⟩ := am_nx_e hok
  obtain ⟨a, b, st', rfl, h⟩ := am_p2_e h
  intro p e R s m args below meth c0 H locs cells slots ls A Z sc hX hl hR
  obtain ⟨hx, hb, hml, hown, hts, hroom, hK, hP, hD, hS, hA, hsc⟩ := id hX
  rw [hpc]
  have w := h p e R s m args below meth c0 H locs cells slots ls A Z sc hX hl hR
  rw [hnx] at w
  refine lv_iadd hx hb hdg ?_
  rw [← Int32.ofInt_add]
  exact w
theorem am_s_isub {l : Launch} {G : am_G} {d μ k : Nat} {lv st : List am_V} {σ : am_S} {Q : am_Q} {pc len x y : Nat} {c : Int} {z : List Nat} (he : (am_tab μ)[k]? = some (pc, .isub, len, x, y, c, z)) (h : am_ins (am_KM l G) d μ k lv st σ Q (.isub) x y c z) : am_KM l G d μ k lv st σ Q := by
  obtain ⟨hdg, hok, hpc⟩ := am_ok2 he
  obtain ⟨rfl, hnx⟩ := am_nx_e hok
  obtain ⟨a, b, st', rfl, h⟩ := am_p2_e h
  intro p e R s m args below meth c0 H locs cells slots ls A Z sc hX hl hR
  obtain ⟨hx, hb, hml, hown, hts, hroom, hK, hP, hD, hS, hA, hsc⟩ := id hX
  rw [hpc]
  have w := h p e R s m args below meth c0 H locs cells slots ls A Z sc hX hl hR
  rw [hnx] at w
  refine lv_isub hx hb hdg ?_
  rw [← Int32.ofInt_sub]
  exact w
theorem am_s_imul {l : Launch} {G : am_G} {d μ k : Nat} {lv st : List am_V} {σ : am_S} {Q : am_Q} {pc len x y : Nat} {c : Int} {z : List Nat} (he : (am_tab μ)[k]? = some (pc, .imul, len, x, y, c, z)) (h : am_ins (am_KM l G) d μ k lv st σ Q (.imul) x y c z) : am_KM l G d μ k lv st σ Q := by
  obtain ⟨hdg, hok, hpc⟩ := am_ok2 he
  obtain ⟨rfl, hnx⟩ := am_nx_e hok
  obtain ⟨a, b, st', rfl, h⟩ := am_p2_e h
  intro p e R s m args below meth c0 H locs cells slots ls A Z sc hX hl hR
  obtain ⟨hx, hb, hml, hown, hts, hroom, hK, hP, hD, hS, hA, hsc⟩ := id hX
  rw [hpc]
  have w := h p e R s m args below meth c0 H locs cells slots ls A Z sc hX hl hR
  rw [hnx] at w
  refine lv_imul hx hb hdg ?_
  rw [← Int32.ofInt_mul]
  exact w
theorem am_s_iand {l : Launch} {G : am_G} {d μ k : Nat} {lv st : List am_V} {σ : am_S} {Q : am_Q} {pc len x y : Nat} {c : Int} {z : List Nat} (he : (am_tab μ)[k]? = some (pc, .iand, len, x, y, c, z)) (h : am_ins (am_KM l G) d μ k lv st σ Q (.iand) x y c z) : am_KM l G d μ k lv st σ Q := by
  obtain ⟨hdg, hok, hpc⟩ := am_ok2 he
  obtain ⟨rfl, hnx⟩ := am_nx_e hok
  obtain ⟨a, b, st', rfl, h⟩ := am_p2_e h
  intro p e R s m args below meth c0 H locs cells slots ls A Z sc hX hl hR
  obtain ⟨hx, hb, hml, hown, hts, hroom, hK, hP, hD, hS, hA, hsc⟩ := id hX
  rw [hpc]
  have w := h p e R s m args below meth c0 H locs cells slots ls A Z sc hX hl hR
  rw [hnx] at w
  refine lv_iand hx hb hdg ?_
  rw [List.map_cons, show am_vv G (.inl (am_and a b)) = Value.int (Int32.ofInt (am_and a b)) from rfl, am_and, Int32.ofInt_toInt] at w
  exact w
theorem am_s_ior {l : Launch} {G : am_G} {d μ k : Nat} {lv st : List am_V} {σ : am_S} {Q : am_Q} {pc len x y : Nat} {c : Int} {z : List Nat} (he : (am_tab μ)[k]? = some (pc, .ior, len, x, y, c, z)) (h : am_ins (am_KM l G) d μ k lv st σ Q (.ior) x y c z) : am_KM l G d μ k lv st σ Q := by
  obtain ⟨hdg, hok, hpc⟩ := am_ok2 he
  obtain ⟨rfl, hnx⟩ := am_nx_e hok
  obtain ⟨a, b, st', rfl, h⟩ := am_p2_e h
  intro p e R s m args below meth c0 H locs cells slots ls A Z sc hX hl hR
  obtain ⟨hx, hb, hml, hown, hts, hroom, hK, hP, hD, hS, hA, hsc⟩ := id hX
  rw [hpc]
  have w := h p e R s m args below meth c0 H locs cells slots ls A Z sc hX hl hR
  rw [hnx] at w
  refine lv_ior hx hb hdg ?_
  rw [List.map_cons, show am_vv G (.inl (am_or a b)) = Value.int (Int32.ofInt (am_or a b)) from rfl, am_or, Int32.ofInt_toInt] at w
  exact w
theorem am_s_ixor {l : Launch} {G : am_G} {d μ k : Nat} {lv st : List am_V} {σ : am_S} {Q : am_Q} {pc len x y : Nat} {c : Int} {z : List Nat} (he : (am_tab μ)[k]? = some (pc, .ixor, len, x, y, c, z)) (h : am_ins (am_KM l G) d μ k lv st σ Q (.ixor) x y c z) : am_KM l G d μ k lv st σ Q := by
  obtain ⟨hdg, hok, hpc⟩ := am_ok2 he
  obtain ⟨rfl, hnx⟩ := am_nx_e hok
  obtain ⟨a, b, st', rfl, h⟩ := am_p2_e h
  intro p e R s m args below meth c0 H locs cells slots ls A Z sc hX hl hR
  obtain ⟨hx, hb, hml, hown, hts, hroom, hK, hP, hD, hS, hA, hsc⟩ := id hX
  rw [hpc]
  have w := h p e R s m args below meth c0 H locs cells slots ls A Z sc hX hl hR
  rw [hnx] at w
  refine lv_ixor hx hb hdg ?_
  rw [List.map_cons, show am_vv G (.inl (am_xor a b)) = Value.int (Int32.ofInt (am_xor a b)) from rfl, am_xor, Int32.ofInt_toInt] at w
  exact w
theorem am_s_ishl {l : Launch} {G : am_G} {d μ k : Nat} {lv st : List am_V} {σ : am_S} {Q : am_Q} {pc len x y : Nat} {c : Int} {z : List Nat} (he : (am_tab μ)[k]? = some (pc, .ishl, len, x, y, c, z)) (h : am_ins (am_KM l G) d μ k lv st σ Q (.ishl) x y c z) : am_KM l G d μ k lv st σ Q := by
  obtain ⟨hdg, hok, hpc⟩ := am_ok2 he
  obtain ⟨rfl, hnx⟩ := am_nx_e hok
  obtain ⟨a, b, st', rfl, h⟩ := am_p2_e h
  intro p e R s m args below meth c0 H locs cells slots ls A Z sc hX hl hR
  obtain ⟨hx, hb, hml, hown, hts, hroom, hK, hP, hD, hS, hA, hsc⟩ := id hX
  rw [hpc]
  have w := h p e R s m args below meth c0 H locs cells slots ls A Z sc hX hl hR
  rw [hnx] at w
  refine lv_ishl hx hb hdg ?_
  rw [List.map_cons, show am_vv G (.inl (am_shl a b)) = Value.int (Int32.ofInt (am_shl a b)) from rfl, am_shl, Int32.ofInt_toInt] at w
  exact w
theorem am_s_ishr {l : Launch} {G : am_G} {d μ k : Nat} {lv st : List am_V} {σ : am_S} {Q : am_Q} {pc len x y : Nat} {c : Int} {z : List Nat} (he : (am_tab μ)[k]? = some (pc, .ishr, len, x, y, c, z)) (h : am_ins (am_KM l G) d μ k lv st σ Q (.ishr) x y c z) : am_KM l G d μ k lv st σ Q := by
  obtain ⟨hdg, hok, hpc⟩ := am_ok2 he
  obtain ⟨rfl, hnx⟩ := am_nx_e hok
  obtain ⟨a, b, st', rfl, h⟩ := am_p2_e h
  intro p e R s m args below meth c0 H locs cells slots ls A Z sc hX hl hR
  obtain ⟨hx, hb, hml, hown, hts, hroom, hK, hP, hD, hS, hA, hsc⟩ := id hX
  rw [hpc]
  have w := h p e R s m args below meth c0 H locs cells slots ls A Z sc hX hl hR
  rw [hnx] at w
  refine lv_ishr hx hb hdg ?_
  rw [List.map_cons, show am_vv G (.inl (am_shr a b)) = Value.int (Int32.ofInt (am_shr a b)) from rfl, am_shr, Int32.ofInt_toInt] at w
  exact w
theorem am_s_iushr {l : Launch} {G : am_G} {d μ k : Nat} {lv st : List am_V} {σ : am_S} {Q : am_Q} {pc len x y : Nat} {c : Int} {z : List Nat} (he : (am_tab μ)[k]? = some (pc, .iushr, len, x, y, c, z)) (h : am_ins (am_KM l G) d μ k lv st σ Q (.iushr) x y c z) : am_KM l G d μ k lv st σ Q := by
  obtain ⟨hdg, hok, hpc⟩ := am_ok2 he
  obtain ⟨rfl, hnx⟩ := am_nx_e hok
  obtain ⟨a, b, st', rfl, h⟩ := am_p2_e h
  intro p e R s m args below meth c0 H locs cells slots ls A Z sc hX hl hR
  obtain ⟨hx, hb, hml, hown, hts, hroom, hK, hP, hD, hS, hA, hsc⟩ := id hX
  rw [hpc]
  have w := h p e R s m args below meth c0 H locs cells slots ls A Z sc hX hl hR
  rw [hnx] at w
  refine lv_iushr hx hb hdg rfl ?_
  rw [List.map_cons, show am_vv G (.inl (am_ushr a b)) = Value.int (Int32.ofInt (am_ushr a b)) from rfl, am_ushr, Int32.ofInt_toInt] at w
  exact w
theorem am_tdiv {a b : Int} (ha : am_rng a) (hb : am_rng b) : Int32.ofInt (a.tdiv b) = Int32.ofInt a / Int32.ofInt b := by
  apply Int32.toInt_inj.mp
  rw [Int32.toInt_div, am_toInt ha, am_toInt hb, Int32.toInt_ofInt]
theorem am_s_idiv {l : Launch} {G : am_G} {d μ k : Nat} {lv st : List am_V} {σ : am_S} {Q : am_Q} {pc len x y : Nat} {c : Int} {z : List Nat} (he : (am_tab μ)[k]? = some (pc, .idiv, len, x, y, c, z)) (h : am_ins (am_KM l G) d μ k lv st σ Q (.idiv) x y c z) : am_KM l G d μ k lv st σ Q := by
  obtain ⟨hdg, hok, hpc⟩ := am_ok2 he
  obtain ⟨rfl, hnx⟩ := am_nx_e hok
  obtain ⟨a, b, st', rfl, ra, rb, h0, h⟩ := am_p2_e h
  intro p e R s m args below meth c0 H locs cells slots ls A Z sc hX hl hR
  obtain ⟨hx, hb, hml, hown, hts, hroom, hK, hP, hD, hS, hA, hsc⟩ := id hX
  rw [hpc]
  have w := h p e R s m args below meth c0 H locs cells slots ls A Z sc hX hl hR
  rw [hnx] at w
  refine lv_idiv hx hb hdg (fun q => h0 ((am_eq rb am_rng0).mp q)) ?_
  rw [← am_tdiv ra rb]
  exact w
theorem am_tmod {a b : Int} (ha : am_rng a) (hb : am_rng b) : Int32.ofInt (a.tmod b) = Int32.ofInt a - Int32.ofInt a / Int32.ofInt b * Int32.ofInt b := by
  rw [Int.tmod_def, Int32.ofInt_sub, Int.mul_comm, Int32.ofInt_mul, am_tdiv ha hb]
theorem am_s_irem {l : Launch} {G : am_G} {d μ k : Nat} {lv st : List am_V} {σ : am_S} {Q : am_Q} {pc len x y : Nat} {c : Int} {z : List Nat} (he : (am_tab μ)[k]? = some (pc, .irem, len, x, y, c, z)) (h : am_ins (am_KM l G) d μ k lv st σ Q (.irem) x y c z) : am_KM l G d μ k lv st σ Q := by
  obtain ⟨hdg, hok, hpc⟩ := am_ok2 he
  obtain ⟨rfl, hnx⟩ := am_nx_e hok
  obtain ⟨a, b, st', rfl, ra, rb, h0, h⟩ := am_p2_e h
  intro p e R s m args below meth c0 H locs cells slots ls A Z sc hX hl hR
  obtain ⟨hx, hb, hml, hown, hts, hroom, hK, hP, hD, hS, hA, hsc⟩ := id hX
  rw [hpc]
  have w := h p e R s m args below meth c0 H locs cells slots ls A Z sc hX hl hR
  rw [hnx] at w
  refine lv_irem hx hb hdg (fun q => h0 ((am_eq rb am_rng0).mp q)) ?_
  rw [← am_tmod ra rb]
  exact w
theorem am_s_ineg {l : Launch} {G : am_G} {d μ k : Nat} {lv st : List am_V} {σ : am_S} {Q : am_Q} {pc len x y : Nat} {c : Int} {z : List Nat} (he : (am_tab μ)[k]? = some (pc, .ineg, len, x, y, c, z)) (h : am_ins (am_KM l G) d μ k lv st σ Q (.ineg) x y c z) : am_KM l G d μ k lv st σ Q := by
  obtain ⟨hdg, hok, hpc⟩ := am_ok2 he
  obtain ⟨rfl, hnx⟩ := am_nx_e hok
  obtain ⟨a, st', rfl, h⟩ := am_p1_e h
  intro p e R s m args below meth c0 H locs cells slots ls A Z sc hX hl hR
  obtain ⟨hx, hb, hml, hown, hts, hroom, hK, hP, hD, hS, hA, hsc⟩ := id hX
  rw [hpc]
  have w := h p e R s m args below meth c0 H locs cells slots ls A Z sc hX hl hR
  rw [hnx] at w
  refine lv_ineg hx hb hdg ?_
  rw [← Int32.ofInt_neg]
  exact w
theorem am_s_goto {l : Launch} {G : am_G} {d μ k : Nat} {lv st : List am_V} {σ : am_S} {Q : am_Q} {pc len x y : Nat} {c : Int} {z : List Nat} {off : Int} (he : (am_tab μ)[k]? = some (pc, .goto off, len, x, y, c, z)) (h : am_ins (am_KM l G) d μ k lv st σ Q (.goto off) x y c z) : am_KM l G d μ k lv st σ Q := by
  obtain ⟨hdg, hok, hpc⟩ := am_ok2 he
  obtain ⟨hlen, ht⟩ := Bool.and_eq_true_iff.mp hok
  have hlen := Nat.eq_of_beq_eq_true hlen
  subst hlen
  intro p e R s m args below meth c0 H locs cells slots ls A Z sc hX hl hR
  obtain ⟨hx, hb, hml, hown, hts, hroom, hK, hP, hD, hS, hA, hsc⟩ := id hX
  rw [hpc]
  exact lv_goto hx hb hdg (of_decide_eq_true ht) (h p e R s m args below meth c0 H locs cells slots ls A Z sc hX hl hR)
theorem am_s_icmp0 {l : Launch} {G : am_G} {d μ k : Nat} {lv st' : List am_V} {σ : am_S} {Q : am_Q} {pc x : Nat} {r : ClassFile.Cond} {off a b : Int} (hdg : decode (am_met μ).2.1 pc = .ok (.if_icmp r off, 3)) (hnx : am_pc μ (k + 1) = pc + 3) (ht : (pc : Int) + off = (am_pc μ x : Int)) (hpc : am_pc μ k = pc) (h : am_br r a b (am_KM l G d μ x lv st' σ Q) (am_KM l G d μ (k + 1) lv st' σ Q)) : am_KM l G d μ k lv (.inl b :: .inl a :: st') σ Q := by
  intro p e R s m args below meth c0 H locs cells slots ls A Z sc hX hl hR
  obtain ⟨hx, hb, hml, hown, hts, hroom, hK, hP, hD, hS, hA, hsc⟩ := id hX
  rw [hpc]
  cases r with
  | eq =>
    obtain ⟨ra, rb, hT, hF⟩ := h
    refine lv_icmp_eq hx hb hdg ht (fun q => hT ((am_eq ra rb).mp q) p e R s m args below meth c0 H locs cells slots ls A Z sc hX hl hR) (fun q => ?_)
    have w := hF (fun z => q ((am_eq ra rb).mpr z)) p e R s m args below meth c0 H locs cells slots ls A Z sc hX hl hR
    rw [hnx] at w
    exact w
  | ne =>
    obtain ⟨ra, rb, hT, hF⟩ := h
    refine lv_icmp_ne hx hb hdg ht (fun q => hT (fun z => q ((am_eq ra rb).mpr z)) p e R s m args below meth c0 H locs cells slots ls A Z sc hX hl hR) (fun q => ?_)
    have w := hF ((am_eq ra rb).mp q) p e R s m args below meth c0 H locs cells slots ls A Z sc hX hl hR
    rw [hnx] at w
    exact w
  | lt =>
    obtain ⟨ra, rb, hT, hF⟩ := h
    refine lv_icmp_lt hx hb hdg ht (fun q => hT ((am_lt ra rb).mp q) p e R s m args below meth c0 H locs cells slots ls A Z sc hX hl hR) (fun q => ?_)
    have w := hF (Int.not_lt.mp fun z => q ((am_lt ra rb).mpr z)) p e R s m args below meth c0 H locs cells slots ls A Z sc hX hl hR
    rw [hnx] at w
    exact w
  | ge =>
    obtain ⟨ra, rb, hT, hF⟩ := h
    refine lv_icmp_ge hx hb hdg ht (fun q => hT ((am_le rb ra).mp q) p e R s m args below meth c0 H locs cells slots ls A Z sc hX hl hR) (fun q => ?_)
    have w := hF (Int.not_le.mp fun z => q ((am_le rb ra).mpr z)) p e R s m args below meth c0 H locs cells slots ls A Z sc hX hl hR
    rw [hnx] at w
    exact w
  | gt =>
    obtain ⟨ra, rb, hT, hF⟩ := h
    refine lv_icmp_gt hx hb hdg ht (fun q => hT ((am_lt rb ra).mp q) p e R s m args below meth c0 H locs cells slots ls A Z sc hX hl hR) (fun q => ?_)
    have w := hF (Int.not_lt.mp fun z => q ((am_lt rb ra).mpr z)) p e R s m args below meth c0 H locs cells slots ls A Z sc hX hl hR
    rw [hnx] at w
    exact w
  | le =>
    obtain ⟨ra, rb, hT, hF⟩ := h
    refine lv_icmp_le hx hb hdg ht (fun q => hT ((am_le ra rb).mp q) p e R s m args below meth c0 H locs cells slots ls A Z sc hX hl hR) (fun q => ?_)
    have w := hF (Int.not_le.mp fun z => q ((am_le ra rb).mpr z)) p e R s m args below meth c0 H locs cells slots ls A Z sc hX hl hR
    rw [hnx] at w
    exact w
theorem am_s_ifCond {l : Launch} {G : am_G} {d μ k : Nat} {lv st : List am_V} {σ : am_S} {Q : am_Q} {pc len x y : Nat} {c : Int} {z : List Nat} {r : ClassFile.Cond} {off : Int} (he : (am_tab μ)[k]? = some (pc, .ifCond r off, len, x, y, c, z)) (h : am_ins (am_KM l G) d μ k lv st σ Q (.ifCond r off) x y c z) : am_KM l G d μ k lv st σ Q := by
  obtain ⟨hdg, hok, hpc⟩ := am_ok2 he
  obtain ⟨hok, ht⟩ := Bool.and_eq_true_iff.mp hok
  have ht := of_decide_eq_true ht
  obtain ⟨rfl, hnx⟩ := am_nx_e hok
  obtain ⟨a, st', rfl, h⟩ := am_p1_e h
  have rb := am_rng0
  intro p e R s m args below meth c0 H locs cells slots ls A Z sc hX hl hR
  obtain ⟨hx, hb, hml, hown, hts, hroom, hK, hP, hD, hS, hA, hsc⟩ := id hX
  rw [hpc]
  cases r with
  | eq =>
    obtain ⟨ra, -, hT, hF⟩ := h
    refine lv_if_eq hx hb hdg ht (fun q => hT ((am_eq ra rb).mp q) p e R s m args below meth c0 H locs cells slots ls A Z sc hX hl hR) (fun q => ?_)
    have w := hF (fun z => q ((am_eq ra rb).mpr z)) p e R s m args below meth c0 H locs cells slots ls A Z sc hX hl hR
    rw [hnx] at w
    exact w
  | ne =>
    obtain ⟨ra, -, hT, hF⟩ := h
    refine lv_if_ne hx hb hdg ht (fun q => hT (fun z => q ((am_eq ra rb).mpr z)) p e R s m args below meth c0 H locs cells slots ls A Z sc hX hl hR) (fun q => ?_)
    have w := hF ((am_eq ra rb).mp q) p e R s m args below meth c0 H locs cells slots ls A Z sc hX hl hR
    rw [hnx] at w
    exact w
  | lt =>
    obtain ⟨ra, -, hT, hF⟩ := h
    refine lv_if_lt hx hb hdg ht (fun q => hT ((am_lt ra rb).mp q) p e R s m args below meth c0 H locs cells slots ls A Z sc hX hl hR) (fun q => ?_)
    have w := hF (Int.not_lt.mp fun z => q ((am_lt ra rb).mpr z)) p e R s m args below meth c0 H locs cells slots ls A Z sc hX hl hR
    rw [hnx] at w
    exact w
  | ge =>
    obtain ⟨ra, -, hT, hF⟩ := h
    refine lv_if_ge hx hb hdg ht (fun q => hT ((am_le rb ra).mp q) p e R s m args below meth c0 H locs cells slots ls A Z sc hX hl hR) (fun q => ?_)
    have w := hF (Int.not_le.mp fun z => q ((am_le rb ra).mpr z)) p e R s m args below meth c0 H locs cells slots ls A Z sc hX hl hR
    rw [hnx] at w
    exact w
  | gt =>
    obtain ⟨ra, -, hT, hF⟩ := h
    refine lv_if_gt hx hb hdg ht (fun q => hT ((am_lt rb ra).mp q) p e R s m args below meth c0 H locs cells slots ls A Z sc hX hl hR) (fun q => ?_)
    have w := hF (Int.not_lt.mp fun z => q ((am_lt rb ra).mpr z)) p e R s m args below meth c0 H locs cells slots ls A Z sc hX hl hR
    rw [hnx] at w
    exact w
  | le =>
    obtain ⟨ra, -, hT, hF⟩ := h
    refine lv_if_le hx hb hdg ht (fun q => hT ((am_le ra rb).mp q) p e R s m args below meth c0 H locs cells slots ls A Z sc hX hl hR) (fun q => ?_)
    have w := hF (Int.not_le.mp fun z => q ((am_le ra rb).mpr z)) p e R s m args below meth c0 H locs cells slots ls A Z sc hX hl hR
    rw [hnx] at w
    exact w
theorem am_s_if_icmp {l : Launch} {G : am_G} {d μ k : Nat} {lv st : List am_V} {σ : am_S} {Q : am_Q} {pc len x y : Nat} {c : Int} {z : List Nat} {r : ClassFile.Cond} {off : Int} (he : (am_tab μ)[k]? = some (pc, .if_icmp r off, len, x, y, c, z)) (h : am_ins (am_KM l G) d μ k lv st σ Q (.if_icmp r off) x y c z) : am_KM l G d μ k lv st σ Q := by
  obtain ⟨hdg, hok, hpc⟩ := am_ok2 he
  obtain ⟨hok, ht⟩ := Bool.and_eq_true_iff.mp hok
  have ht := of_decide_eq_true ht
  obtain ⟨rfl, hnx⟩ := am_nx_e hok
  obtain ⟨a, b, st', rfl, h⟩ := am_p2_e h
  have h : (match Nat.beq μ am_law with
      | true => am_brq r a b (am_KM l G d μ x lv st' σ Q) (am_KM l G d μ (k + 1) lv st' σ Q)
      | false => am_br r a b (am_KM l G d μ x lv st' σ Q) (am_KM l G d μ (k + 1) lv st' σ Q)) := h
  cases hq : Nat.beq μ am_law with
  | false =>
    rw [hq] at h
    exact am_s_icmp0 hdg hnx ht hpc h
  | true =>
    rw [hq] at h
    have h : am_brq r a b (am_KM l G d μ x lv st' σ Q) (am_KM l G d μ (k + 1) lv st' σ Q) := h
    cases r with
    | eq =>
      by_cases e1 : a = b
      · have hT := h.1 e1
        intro p e R s m args below meth c0 H locs cells slots ls A Z sc hX hl hR
        obtain ⟨hx, hb, hml, hown, hts, hroom, hK, hP, hD, hS, hA, hsc⟩ := id hX
        rw [hpc]
        exact lv_icmp_eq hx hb hdg ht (fun _ => hT p e R s m args below meth c0 H locs cells slots ls A Z sc hX hl hR) (fun q => absurd (congrArg Int32.ofInt e1) q)
      · obtain ⟨ra, rb, hF⟩ := h.2 e1
        exact am_s_icmp0 hdg hnx ht hpc ⟨ra, rb, fun q => absurd q e1, fun _ => hF⟩
    | ne => exact am_s_icmp0 hdg hnx ht hpc h
    | lt => exact am_s_icmp0 hdg hnx ht hpc h
    | ge => exact am_s_icmp0 hdg hnx ht hpc h
    | gt => exact am_s_icmp0 hdg hnx ht hpc h
    | le => exact am_s_icmp0 hdg hnx ht hpc h
theorem am_sw_at {x : Int} {f : Nat → Prop} : ∀ (z : List Nat) (i : Int) (j t : Nat), am_sw x f i z → z[j]? = some t → x = i + (j : Int) → f t
  | [], _, _, _, _, h, _ => by cases h
  | a :: z, i, 0, t, h, h2, h3 => by
    obtain rfl := Option.some.inj h2
    exact h.1 (by rw [h3]; simp)
  | a :: z, i, j + 1, t, h, h2, h3 => am_sw_at z (i + 1) j t h.2 (by simpa using h2) (by rw [h3]; omega)
theorem am_s_tableswitch {l : Launch} {G : am_G} {d μ k : Nat} {lv st : List am_V} {σ : am_S} {Q : am_Q} {pc len x y : Nat} {c : Int} {z : List Nat} {dflt lo hi : Int} {offs : Array Int} (he : (am_tab μ)[k]? = some (pc, .tableswitch dflt lo hi offs, len, x, y, c, z)) (h : am_ins (am_KM l G) d μ k lv st σ Q (.tableswitch dflt lo hi offs) x y c z) : am_KM l G d μ k lv st σ Q := by
  obtain ⟨hdg, hok, hpc⟩ := am_ok2 he
  obtain ⟨hok, h3⟩ := Bool.and_eq_true_iff.mp hok
  obtain ⟨h1, h2⟩ := Bool.and_eq_true_iff.mp hok
  have h1 := of_decide_eq_true h1
  have h2 := of_decide_eq_true h2
  have h3 := of_decide_eq_true h3
  obtain ⟨a, st', rfl, ra, hs, hd⟩ := am_p1_e h
  intro p e R s m args below meth c0 H locs cells slots ls A Z sc hX hl hR
  obtain ⟨hx, hb, hml, hown, hts, hroom, hK, hP, hD, hS, hA, hsc⟩ := id hX
  rw [hpc]
  by_cases hin : a < lo ∨ lo + (z.length : Int) ≤ a
  · exact lv_tableOut hx hb hdg (by rw [am_toInt ra]; omega) h1 (hd hin p e R s m args below meth c0 H locs cells slots ls A Z sc hX hl hR)
  · have hj : (a - lo).toNat < z.length := by omega
    have hzj : z[(a - lo).toNat]? = some z[(a - lo).toNat] := List.getElem?_eq_getElem hj
    have ho : (offs.toList.map (fun o => (pc : Int) + o))[(a - lo).toNat]? = some (am_pc μ z[(a - lo).toNat] : Int) := by rw [h3, List.getElem?_map, hzj]; rfl
    rw [List.getElem?_map] at ho
    cases hoo : offs.toList[(a - lo).toNat]? with
    | none => rw [hoo] at ho; cases ho
    | some off =>
      rw [hoo] at ho
      have ho2 : (pc : Int) + off = (am_pc μ z[(a - lo).toNat] : Int) := Option.some.inj ho
      have hk := am_sw_at z lo _ _ hs hzj (by omega)
      exact lv_tableIn hx hb hdg (by rw [am_toInt ra]; omega) (by rw [am_toInt ra]; omega) (by rw [am_toInt ra, ← Array.getElem?_toList]; exact hoo) ho2 (hk p e R s m args below meth c0 H locs cells slots ls A Z sc hX hl hR)
theorem am_s_getfield {l : Launch} {G : am_G} {d μ k : Nat} {lv st : List am_V} {σ : am_S} {Q : am_Q} {pc len x y : Nat} {c : Int} {z : List Nat} {i : Nat} (he : (am_tab μ)[k]? = some (pc, .getfield i, len, x, y, c, z)) (h : am_ins (am_KM l G) d μ k lv st σ Q (.getfield i) x y c z) : am_KM l G d μ k lv st σ Q := by
  obtain ⟨hdg, hok, hpc⟩ := am_ok2 he
  obtain ⟨hok, hy⟩ := Bool.and_eq_true_iff.mp hok
  obtain ⟨hok, hw⟩ := Bool.and_eq_true_iff.mp hok
  have hy := of_decide_eq_true hy
  obtain ⟨rfl, hnx⟩ := am_nx_e hok
  obtain ⟨r, st', rfl, h⟩ := am_r1_e h
  obtain ⟨refs, hL, h⟩ := am_fld_e h
  obtain ⟨hc, hrl⟩ := am_lay_cls hL
  obtain ⟨hin, -, -⟩ := am_cls_ok hc
  have hr := am_lay_lt hL (show (0 : Nat) ≠ 4 by decide)
  intro p e R s m args below meth c0 H locs cells slots ls A Z sc hX hl hR
  obtain ⟨hx, hb, hml, hown, hts, hroom, hK, hP, hD, hS, hA, hsc⟩ := id hX
  rw [hpc]
  have hat := am_ws_at G σ hL hr
  rcases h with ⟨t, ht, h⟩ | ⟨ht, h⟩
  · have w := h p e R s m args below meth c0 H locs cells slots ls A Z sc hX hl hR
    rw [hnx] at w
    exact va_get (v := .ref (G.2.1 t)) hx hb hts hin hown hK hP r hat hc y hy (hts _ (am_wat_in hw)) (fun _ q => q) (by show (am_fs G (σ r) refs)[y]? = _; unfold am_fs; rw [List.getElem?_mapIdx, ht]; rfl) hdg w
  · have w := h p e R s m args below meth c0 H locs cells slots ls A Z sc hX hl hR
    rw [hnx] at w
    exact va_get (v := .int (Int32.ofInt (σ r y))) hx hb hts hin hown hK hP r hat hc y hy (hts _ (am_wat_in hw)) (fun _ q => q) (by show (am_fs G (σ r) refs)[y]? = _; unfold am_fs; rw [List.getElem?_mapIdx, ht]; rfl) hdg w
theorem am_putz {z : List Nat} {v : Int} {P : Prop} {desc : String} (h : match (generalizing := false) z with
      | [_, 0] => P
      | _ => (v = 0 ∨ v = 1) ∧ P) (hz : (match (generalizing := false) z with
      | [_, 0] => decide (parseFieldDescriptor desc = some .int)
      | _ => decide (parseFieldDescriptor desc = some .boolean)) = true) : P ∧ ∃ ty, parseFieldDescriptor desc = some ty ∧ narrow ty (.int (Int32.ofInt v)) = .int (Int32.ofInt v) ∧ fits ty (.int (Int32.ofInt v)) = true := by
  split at h
  · exact ⟨h, .int, of_decide_eq_true hz, rfl, rfl⟩
  · rename_i hne
    refine ⟨h.2, .boolean, ?_, am_bool h.1, by rcases h.1 with rfl | rfl <;> rfl⟩
    split at hz
    · exact absurd rfl (hne _)
    · exact of_decide_eq_true hz
theorem am_s_putfield {l : Launch} {G : am_G} {d μ k : Nat} {lv st : List am_V} {σ : am_S} {Q : am_Q} {pc len x y : Nat} {c : Int} {z : List Nat} {i : Nat} (he : (am_tab μ)[k]? = some (pc, .putfield i, len, x, y, c, z)) (h : am_ins (am_KM l G) d μ k lv st σ Q (.putfield i) x y c z) : am_KM l G d μ k lv st σ Q := by
  obtain ⟨hdg, hok, hpc⟩ := am_ok2 he
  obtain ⟨hok, hz⟩ := Bool.and_eq_true_iff.mp hok
  obtain ⟨hok, hf⟩ := Bool.and_eq_true_iff.mp hok
  obtain ⟨hok, hy⟩ := Bool.and_eq_true_iff.mp hok
  obtain ⟨hok, hw⟩ := Bool.and_eq_true_iff.mp hok
  have hy := of_decide_eq_true hy
  have hf : ((am_T x).2.1 y).2.2.2 = false := by simpa using hf
  obtain ⟨rfl, hnx⟩ := am_nx_e hok
  obtain ⟨v, r, st', rfl, h⟩ := am_pr_e h
  obtain ⟨refs, hL, h⟩ := am_fld_e h
  obtain ⟨hc, hrl⟩ := am_lay_cls hL
  obtain ⟨hin, ⟨ty0, hty⟩, hnm⟩ := am_cls_ok hc
  have hr := am_lay_lt hL (show (0 : Nat) ≠ 4 by decide)
  rcases h with ⟨t, ht, h⟩ | ⟨ht, h⟩
  · exact h.elim
  obtain ⟨h, ty, hd, hn, hfit⟩ := am_putz h hz
  intro p e R s m args below meth c0 H locs cells slots ls A Z sc hX hl hR
  obtain ⟨hx, hb, hml, hown, hts, hroom, hK, hP, hD, hS, hA, hsc⟩ := id hX
  rw [hpc]
  have hat := am_ws_at G σ hL hr
  refine va_put (v := .int (Int32.ofInt v)) (ty := ty) hx hb hts hin ty0 hty hnm hown hK hP hD hS r hat hc y hy (hts _ (am_wat_in hw)) (fun _ q => q) hf hd hn hfit (by show y < (am_fs G (σ r) refs).length; unfold am_fs; rw [List.length_mapIdx, hrl]; exact hy) hdg (fun H1 locs1 hP1 _ hS1 => ?_)
  have w := h p e R s m args below meth c0 H1 locs1 cells slots ls A Z sc (am_X_set hX hL hr (by show Sum.inr _ = Sum.inr _; rw [am_fs_set ht]) hP1 hS1) hl hR
  rw [hnx] at w
  exact w
theorem am_iald_e {r : Nat} {v : Int} {μ : Nat} {P : Nat → Prop} {B : Prop} (h : match am_lay[r]? with
      | some (1, n, _) => P n
      | some (4, _, _) => am_g (Nat.beq μ am_law) B
      | _ => False) : (∃ n refs, am_lay[r]? = some (1, n, refs) ∧ P n) ∨ (∃ n refs, am_lay[r]? = some (4, n, refs) ∧ μ = am_law ∧ B) := by
  split at h
  · exact Or.inl ⟨_, _, by assumption, h⟩
  · obtain ⟨h1, h2⟩ := am_g_e h
    exact Or.inr ⟨_, _, by assumption, Nat.eq_of_beq_eq_true h1, h2⟩
  · exact h.elim
theorem am_k1_e {r : Nat} {P : Nat → Prop} (h : match am_lay[r]? with
      | some (1, n, _) => P n
      | _ => False) : ∃ n refs, am_lay[r]? = some (1, n, refs) ∧ P n := by
  split at h
  · exact ⟨_, _, by assumption, h⟩
  · exact h.elim
theorem am_k2_e {r : Nat} {P : Nat → Prop} (h : match am_lay[r]? with
      | some (2, n, _) => P n
      | _ => False) : ∃ n refs, am_lay[r]? = some (2, n, refs) ∧ P n := by
  split at h
  · exact ⟨_, _, by assumption, h⟩
  · exact h.elim
theorem am_k3_e {r : Nat} {P : Nat → List (Option Nat) → Prop} (h : match am_lay[r]? with
      | some (3, n, refs) => P n refs
      | _ => False) : ∃ n refs, am_lay[r]? = some (3, n, refs) ∧ P n refs := by
  split at h
  · exact ⟨_, _, by assumption, h⟩
  · exact h.elim
theorem am_lay4 {r n : Nat} {refs : List (Option Nat)} (h : am_lay[r]? = some (4, n, refs)) : r = am_NC := by
  have h1 : ((List.range am_NC).all fun i => match am_lay[i]? with | some (4, _, _) => false | _ => true) = true := by decide +kernel
  have h2 : r < am_lay.length := (List.getElem?_eq_some_iff.mp h).1
  have h3 : am_lay.length = am_NC + 1 := rfl
  rcases Nat.lt_or_ge r am_NC with g | g
  · have h4 := List.all_eq_true.mp h1 r (List.mem_range.mpr g)
    rw [h] at h4
    cases h4
  · omega
theorem am_s_iaload {l : Launch} {G : am_G} {d μ k : Nat} {lv st : List am_V} {σ : am_S} {Q : am_Q} {pc len x y : Nat} {c : Int} {z : List Nat} (he : (am_tab μ)[k]? = some (pc, .iaload, len, x, y, c, z)) (h : am_ins (am_KM l G) d μ k lv st σ Q (.iaload) x y c z) : am_KM l G d μ k lv st σ Q := by
  obtain ⟨hdg, hok, hpc⟩ := am_ok2 he
  obtain ⟨rfl, hnx⟩ := am_nx_e hok
  obtain ⟨v, r, st', rfl, h⟩ := am_pr_e h
  rcases am_iald_e (v := v) (P := fun n => (0 ≤ v ∧ v < n) ∧ am_KM l G d μ (k + 1) lv (.inl (σ r v) :: st') σ Q) (B := (0 ≤ v ∧ v < σ am_NC (-1)) ∧ am_KM l G d μ (k + 1) lv (.inl (σ am_NC v) :: st') σ Q) h with ⟨n, refs, hL, hin, h⟩ | ⟨n, refs, hL, hμ, hin, hk⟩
  · have hr := am_lay_lt hL (show (1 : Nat) ≠ 4 by decide)
    have hn := am_lens hL
    intro p e R s m args below meth c0 H locs cells slots ls A Z sc hX hl hR
    obtain ⟨hx, hb, hml, hown, hts, hroom, hK, hP, hD, hS, hA, hsc⟩ := id hX
    rw [hpc]
    have w := h p e R s m args below meth c0 H locs cells slots ls A Z sc hX hl hR
    rw [hnx] at w
    refine va_iald hx hb hK hP r 0 (am_ws_at G σ hL hr) rfl (am_vin hn hin) hdg ?_
    rw [am_clamp hn hin]
    show W _ _ _ _ _ _ _ _ _ _ _ _ _ _ _ (F0 m (pc + 1) ls (.int (Int32.ofInt (σ r (v.toNat : Int))) :: st'.map (am_vv G)))
    rw [Int.toNat_of_nonneg hin.1]
    exact w
  · have hrr := am_lay4 hL
    subst hrr
    intro p e R s m args below meth c0 H locs cells slots ls A Z sc hX hl hR
    obtain ⟨hx, hb, hml, hown, hts, hroom, hK, hP, hD, hS, hA, hsc⟩ := id hX
    rw [hpc]
    obtain ⟨L, xs, h1, h2, h3, h4, h5, h6⟩ := hsc.2 hμ
    have hin2 : 0 ≤ v ∧ v < (L : Int) := by rw [← h4]; exact hin
    have w := hk p e R s m args below meth c0 H locs cells slots ls A Z sc hX hl hR
    rw [hnx] at w
    refine va_sld hx hb h1 h2 h3 hS (am_vin h5 hin2) hdg ?_
    rw [am_clamp h5 hin2, h6 _ (by omega), Int.toNat_of_nonneg hin2.1]
    exact w
theorem am_s_baload {l : Launch} {G : am_G} {d μ k : Nat} {lv st : List am_V} {σ : am_S} {Q : am_Q} {pc len x y : Nat} {c : Int} {z : List Nat} (he : (am_tab μ)[k]? = some (pc, .baload, len, x, y, c, z)) (h : am_ins (am_KM l G) d μ k lv st σ Q (.baload) x y c z) : am_KM l G d μ k lv st σ Q := by
  obtain ⟨hdg, hok, hpc⟩ := am_ok2 he
  obtain ⟨rfl, hnx⟩ := am_nx_e hok
  obtain ⟨v, r, st', rfl, h⟩ := am_pr_e h
  obtain ⟨n, refs, hL, hin, h⟩ := am_k2_e (P := fun n => (0 ≤ v ∧ v < n) ∧ am_KM l G d μ (k + 1) lv (.inl (σ r v) :: st') σ Q) h
  have hr := am_lay_lt hL (show (2 : Nat) ≠ 4 by decide)
  have hn := am_lens hL
  intro p e R s m args below meth c0 H locs cells slots ls A Z sc hX hl hR
  obtain ⟨hx, hb, hml, hown, hts, hroom, hK, hP, hD, hS, hA, hsc⟩ := id hX
  rw [hpc]
  have w := h p e R s m args below meth c0 H locs cells slots ls A Z sc hX hl hR
  rw [hnx] at w
  refine va_zald hx hb hK hP r 1 (am_ws_at G σ hL hr) rfl (am_vin hn hin) hdg ?_
  rw [am_clamp hn hin]
  show W _ _ _ _ _ _ _ _ _ _ _ _ _ _ _ (F0 m (pc + 1) ls (.int (Int32.ofInt (σ r (v.toNat : Int))) :: st'.map (am_vv G)))
  rw [Int.toNat_of_nonneg hin.1]
  exact w
theorem am_s_aaload {l : Launch} {G : am_G} {d μ k : Nat} {lv st : List am_V} {σ : am_S} {Q : am_Q} {pc len x y : Nat} {c : Int} {z : List Nat} (he : (am_tab μ)[k]? = some (pc, .aaload, len, x, y, c, z)) (h : am_ins (am_KM l G) d μ k lv st σ Q (.aaload) x y c z) : am_KM l G d μ k lv st σ Q := by
  obtain ⟨hdg, hok, hpc⟩ := am_ok2 he
  obtain ⟨rfl, hnx⟩ := am_nx_e hok
  obtain ⟨v, r, st', rfl, h⟩ := am_pr_e h
  obtain ⟨n, refs, hL, hin, h⟩ := am_k3_e (P := fun n refs => (0 ≤ v ∧ v < n) ∧ (match refs[v.toNat]? with
        | some (some t) => am_KM l G d μ (k + 1) lv (.inr t :: st') σ Q
        | _ => False)) h
  have hr := am_lay_lt hL (show (3 : Nat) ≠ 4 by decide)
  have hn := am_lens hL
  split at h
  · rename_i t ht
    intro p e R s m args below meth c0 H locs cells slots ls A Z sc hX hl hR
    obtain ⟨hx, hb, hml, hown, hts, hroom, hK, hP, hD, hS, hA, hsc⟩ := id hX
    rw [hpc]
    have w := h p e R s m args below meth c0 H locs cells slots ls A Z sc hX hl hR
    rw [hnx] at w
    refine va_aldq hx hb hK hP r 2 (am_ws_at G σ hL hr) rfl (am_vin hn hin) hdg ?_
    rw [am_clamp hn hin]
    show W _ _ _ _ _ _ _ _ _ _ _ _ _ _ _ (F0 m (pc + 1) ls (va_rf (((refs[v.toNat]?).getD none).map G.2.1) :: st'.map (am_vv G)))
    rw [ht]
    exact w
  · exact h.elim
theorem am_s_iastore {l : Launch} {G : am_G} {d μ k : Nat} {lv st : List am_V} {σ : am_S} {Q : am_Q} {pc len x y : Nat} {c : Int} {z : List Nat} (he : (am_tab μ)[k]? = some (pc, .iastore, len, x, y, c, z)) (h : am_ins (am_KM l G) d μ k lv st σ Q (.iastore) x y c z) : am_KM l G d μ k lv st σ Q := by
  obtain ⟨hdg, hok, hpc⟩ := am_ok2 he
  obtain ⟨rfl, hnx⟩ := am_nx_e hok
  obtain ⟨v, j, r, st', rfl, h⟩ := am_pir_e h
  obtain ⟨n, refs, hL, hin, h⟩ := am_k1_e (P := fun n => (0 ≤ j ∧ j < n) ∧ am_KM l G d μ (k + 1) lv st' (am_us σ r j v) Q) h
  have hr := am_lay_lt hL (show (1 : Nat) ≠ 4 by decide)
  have hn := am_lens hL
  intro p e R s m args below meth c0 H locs cells slots ls A Z sc hX hl hR
  obtain ⟨hx, hb, hml, hown, hts, hroom, hK, hP, hD, hS, hA, hsc⟩ := id hX
  rw [hpc]
  refine va_iast hx hb hK hP hD hS r 0 (am_ws_at G σ hL hr) rfl (am_vin hn hin) hdg (fun H1 locs1 hP1 _ hS1 => ?_)
  have w := h p e R s m args below meth c0 H1 locs1 cells slots ls A Z sc (am_X_set hX hL hr (by show Sum.inl _ = Sum.inl _; rw [am_clamp hn hin, am_upd hin.1 rfl]) hP1 hS1) hl hR
  rw [hnx] at w
  exact w
theorem am_s_bastore {l : Launch} {G : am_G} {d μ k : Nat} {lv st : List am_V} {σ : am_S} {Q : am_Q} {pc len x y : Nat} {c : Int} {z : List Nat} (he : (am_tab μ)[k]? = some (pc, .bastore, len, x, y, c, z)) (h : am_ins (am_KM l G) d μ k lv st σ Q (.bastore) x y c z) : am_KM l G d μ k lv st σ Q := by
  obtain ⟨hdg, hok, hpc⟩ := am_ok2 he
  obtain ⟨rfl, hnx⟩ := am_nx_e hok
  obtain ⟨v, j, r, st', rfl, h⟩ := am_pir_e h
  obtain ⟨n, refs, hL, hin, h01, h⟩ := am_k2_e (P := fun n => (0 ≤ j ∧ j < n) ∧ (v = 0 ∨ v = 1) ∧ am_KM l G d μ (k + 1) lv st' (am_us σ r j v) Q) h
  have hr := am_lay_lt hL (show (2 : Nat) ≠ 4 by decide)
  have hn := am_lens hL
  intro p e R s m args below meth c0 H locs cells slots ls A Z sc hX hl hR
  obtain ⟨hx, hb, hml, hown, hts, hroom, hK, hP, hD, hS, hA, hsc⟩ := id hX
  rw [hpc]
  refine va_zast hx hb hK hP hD hS r 1 (am_ws_at G σ hL hr) rfl (am_vin hn hin) hdg (fun H1 locs1 hP1 _ hS1 => ?_)
  have w := h p e R s m args below meth c0 H1 locs1 cells slots ls A Z sc (am_X_set hX hL hr (by show Sum.inl _ = Sum.inl _; rw [am_clamp hn hin, am_upd hin.1 (show vp_nar .boolean (Int32.ofInt v) = Int32.ofInt v by rcases h01 with rfl | rfl <;> decide)]) hP1 hS1) hl hR
  rw [hnx] at w
  exact w
theorem am_s_arraylength {l : Launch} {G : am_G} {d μ k : Nat} {lv st : List am_V} {σ : am_S} {Q : am_Q} {pc len x y : Nat} {c : Int} {z : List Nat} (he : (am_tab μ)[k]? = some (pc, .arraylength, len, x, y, c, z)) (h : am_ins (am_KM l G) d μ k lv st σ Q (.arraylength) x y c z) : am_KM l G d μ k lv st σ Q := by
  obtain ⟨hdg, hok, hpc⟩ := am_ok2 he
  obtain ⟨rfl, hnx⟩ := am_nx_e hok
  obtain ⟨r, st', rfl, h⟩ := am_r1_e h
  obtain ⟨hb2, h⟩ := am_g_e h
  obtain ⟨hμ, hrr⟩ := Bool.and_eq_true_iff.mp hb2
  have hμ := Nat.eq_of_beq_eq_true hμ
  have hrr := Nat.eq_of_beq_eq_true hrr
  intro p e R s m args below meth c0 H locs cells slots ls A Z sc hX hl hR
  obtain ⟨hx, hb, hml, hown, hts, hroom, hK, hP, hD, hS, hA, hsc⟩ := id hX
  rw [hpc]
  obtain ⟨L, xs, h1, h2, h3, h4, h5, h6⟩ := hsc.2 hμ
  have w := h p e R s m args below meth c0 H locs cells slots ls A Z sc hX hl hR
  rw [hnx] at w
  have e1 : am_vv G (.inr r) = .ref (G.2.1 am_NC) := by rw [hrr]; rfl
  rw [List.map_cons, e1]
  refine va_slen hx hb h1 h2 h3 hS hdg ?_
  rw [← Int32.ofInt_eq_ofNat, ← h4]
  exact w
theorem am_s_dup {l : Launch} {G : am_G} {d μ k : Nat} {lv st : List am_V} {σ : am_S} {Q : am_Q} {pc len x y : Nat} {c : Int} {z : List Nat} (he : (am_tab μ)[k]? = some (pc, .dup, len, x, y, c, z)) (h : am_ins (am_KM l G) d μ k lv st σ Q (.dup) x y c z) : am_KM l G d μ k lv st σ Q := by
  obtain ⟨hdg, hok, hpc⟩ := am_ok2 he
  obtain ⟨rfl, hnx⟩ := am_nx_e hok
  rcases st with _ | ⟨v, st'⟩
  · exact False.elim h
  intro p e R s m args below meth c0 H locs cells slots ls A Z sc hX hl hR
  obtain ⟨hx, hb, hml, hown, hts, hroom, hK, hP, hD, hS, hA, hsc⟩ := id hX
  rw [hpc]
  have w := h p e R s m args below meth c0 H locs cells slots ls A Z sc hX hl hR
  rw [hnx] at w
  exact lv_dup hx hb hdg (am_vv_cat G v) w
theorem am_s_dup2 {l : Launch} {G : am_G} {d μ k : Nat} {lv st : List am_V} {σ : am_S} {Q : am_Q} {pc len x y : Nat} {c : Int} {z : List Nat} (he : (am_tab μ)[k]? = some (pc, .dup2, len, x, y, c, z)) (h : am_ins (am_KM l G) d μ k lv st σ Q (.dup2) x y c z) : am_KM l G d μ k lv st σ Q := by
  obtain ⟨hdg, hok, hpc⟩ := am_ok2 he
  obtain ⟨rfl, hnx⟩ := am_nx_e hok
  rcases st with _ | ⟨v, _ | ⟨v2, st'⟩⟩
  · exact False.elim h
  · exact False.elim h
  intro p e R s m args below meth c0 H locs cells slots ls A Z sc hX hl hR
  obtain ⟨hx, hb, hml, hown, hts, hroom, hK, hP, hD, hS, hA, hsc⟩ := id hX
  rw [hpc]
  have w := h p e R s m args below meth c0 H locs cells slots ls A Z sc hX hl hR
  rw [hnx] at w
  exact lv_dup2_11 hx hb hdg (am_vv_cat G v) (am_vv_cat G v2) w
theorem am_s_pop {l : Launch} {G : am_G} {d μ k : Nat} {lv st : List am_V} {σ : am_S} {Q : am_Q} {pc len x y : Nat} {c : Int} {z : List Nat} (he : (am_tab μ)[k]? = some (pc, .pop, len, x, y, c, z)) (h : am_ins (am_KM l G) d μ k lv st σ Q (.pop) x y c z) : am_KM l G d μ k lv st σ Q := by
  obtain ⟨hdg, hok, hpc⟩ := am_ok2 he
  obtain ⟨rfl, hnx⟩ := am_nx_e hok
  rcases st with _ | ⟨v, st'⟩
  · exact False.elim h
  intro p e R s m args below meth c0 H locs cells slots ls A Z sc hX hl hR
  obtain ⟨hx, hb, hml, hown, hts, hroom, hK, hP, hD, hS, hA, hsc⟩ := id hX
  rw [hpc]
  have w := h p e R s m args below meth c0 H locs cells slots ls A Z sc hX hl hR
  rw [hnx] at w
  exact lv_pop hx hb hdg (am_vv_cat G v) w
theorem am_s_ireturn {l : Launch} {G : am_G} {d μ k : Nat} {lv st : List am_V} {σ : am_S} {Q : am_Q} {pc len x y : Nat} {c : Int} {z : List Nat} (he : (am_tab μ)[k]? = some (pc, .ireturn, len, x, y, c, z)) (h : am_ins (am_KM l G) d μ k lv st σ Q (.ireturn) x y c z) : am_KM l G d μ k lv st σ Q := by
  obtain ⟨hdg, hok, hpc⟩ := am_ok2 he
  obtain ⟨hlen, ht⟩ := Bool.and_eq_true_iff.mp hok
  have hlen := Nat.eq_of_beq_eq_true hlen
  subst hlen
  rcases st with _ | ⟨v | v, _ | ⟨v2, st'⟩⟩
  · exact False.elim h
  · obtain ⟨hz, hq⟩ := h
    have hrt : am_rt μ (some v) := by
      unfold am_rz at hz
      show ∃ ty, _
      split at ht
      · rename_i e1
        exact ⟨.int, e1, rfl⟩
      · rename_i e1
        rw [e1] at hz
        exact ⟨.boolean, e1, am_bool hz⟩
      · cases ht
    intro p e R s m args below meth c0 H locs cells slots ls A Z sc hX hl hR
    obtain ⟨hx, hb, hml, hown, hts, hroom, hK, hP, hD, hS, hA, hsc⟩ := id hX
    rw [hpc]
    exact hR (some v) σ H locs pc ls hq hX hrt hdg
  · exact False.elim h
  · exact False.elim h
  · exact False.elim h
theorem am_s_return_ {l : Launch} {G : am_G} {d μ k : Nat} {lv st : List am_V} {σ : am_S} {Q : am_Q} {pc len x y : Nat} {c : Int} {z : List Nat} (he : (am_tab μ)[k]? = some (pc, .return_, len, x, y, c, z)) (h : am_ins (am_KM l G) d μ k lv st σ Q (.return_) x y c z) : am_KM l G d μ k lv st σ Q := by
  obtain ⟨hdg, hok, hpc⟩ := am_ok2 he
  obtain ⟨hlen, ht⟩ := Bool.and_eq_true_iff.mp hok
  have hlen := Nat.eq_of_beq_eq_true hlen
  subst hlen
  rcases st with _ | ⟨v, st'⟩
  · have hrt : am_rt μ none := by
      show (am_met μ).2.2.2.1 = none
      split at ht
      · assumption
      · cases ht
    intro p e R s m args below meth c0 H locs cells slots ls A Z sc hX hl hR
    obtain ⟨hx, hb, hml, hown, hts, hroom, hK, hP, hD, hS, hA, hsc⟩ := id hX
    rw [hpc]
    exact hR none σ H locs pc ls h hX hrt hdg
  · exact False.elim h
