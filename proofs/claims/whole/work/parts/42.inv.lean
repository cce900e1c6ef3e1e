/-! THE COUPLING: the class and the reference hold the same -/
def Cpl (σ : am_S) : Prop := σ 17 0 = σ 0 0 ∧ σ 20 0 = σ 0 3 ∧ (∀ a, 0 ≤ a → a < σ 0 0 → σ 18 a = σ 1 a ∧ σ 19 a = σ 2 a) ∧ (∀ k, 0 ≤ k → k < σ 0 3 → σ 21 k = σ 3 k ∧ σ 22 k = σ 4 k ∧ σ 23 k = σ 5 k ∧ σ 24 k = σ 6 k ∧ σ 25 k = σ 7 k) ∧ σ 20 1 = (fmk σ : Int)
def I0 (σ : am_S) : Prop := Mok σ ∧ Wok σ ∧ Cpl σ
def IB (σ : am_S) (BL : Int → List Int) : Prop := MBd σ BL ∧ CBd σ BL ∧ BV (σ 0 0) BL
def Inv (σ : am_S) : Prop := I0 σ ∧ (YV σ ∧ TV σ) ∧ ∃ BL, IB σ BL
theorem Vld_c {σ : am_S} (hm : Mok σ) (hc : Cpl σ) : Vld (pbC σ) := by
  obtain ⟨⟨v1, v2, v3, v4⟩, -⟩ := hm
  obtain ⟨c1, c2, c3, c4, -⟩ := hc
  refine ⟨?_, fun a a0 an => ?_, ?_, fun k k0 k1 => ?_⟩
  · show 0 ≤ σ 17 0 ∧ σ 17 0 ≤ 8
    rw [c1]
    exact v1
  · have an : a < σ 17 0 := an
    rw [c1] at an
    show 0 ≤ σ 18 a ∧ σ 18 a ≤ σ 19 a ∧ σ 19 a ≤ 199
    rw [(c3 a a0 an).1, (c3 a a0 an).2]
    exact v2 a a0 an
  · show 0 ≤ σ 20 0 ∧ σ 20 0 ≤ 10
    rw [c2]
    exact v3
  · have k1 : k < σ 20 0 := k1
    rw [c2] at k1
    obtain ⟨e1, e2, e3, e4, -⟩ := c4 k k0 k1
    have h := v4 k k0 k1
    unfold vN at h ⊢
    show (0 ≤ σ 21 k ∧ σ 21 k ≤ 4) ∧ (0 ≤ σ 22 k ∧ σ 22 k < σ 17 0) ∧ (0 ≤ σ 23 k ∧ σ 23 k < σ 17 0) ∧ (σ 21 k ≤ 1 → σ 22 k ≠ σ 23 k ∧ σ 24 k ≤ 99) ∧ (2 ≤ σ 21 k → σ 23 k = σ 22 k) ∧ (0 ≤ σ 24 k ∧ σ 24 k ≤ 199) ∧ (σ 21 k = 4 → σ 24 k ≤ 6)
    rw [e1, e2, e3, e4, c1]
    exact h
theorem WN_c {σ : am_S} (hc : Cpl σ) : WN (pbC σ) = WN (pbM σ) := by
  obtain ⟨c1, c2, c3, c4, -⟩ := hc
  funext s w
  apply propext
  unfold WN Way StpW Nts
  show ((∀ a, 0 ≤ a → a < σ 17 0 → σ 18 a ≤ w a ∧ w a ≤ σ 19 a) ∧ (∀ k, 0 ≤ k → k < σ 20 0 → SB s k → nOK (σ 21 k) (w (σ 22 k)) (w (σ 23 k)) (σ 24 k))) ↔ ((∀ a, 0 ≤ a → a < σ 0 0 → σ 1 a ≤ w a ∧ w a ≤ σ 2 a) ∧ (∀ k, 0 ≤ k → k < σ 0 3 → SB s k → nOK (σ 3 k) (w (σ 4 k)) (w (σ 5 k)) (σ 6 k)))
  rw [c1, c2]
  constructor
  · rintro ⟨h1, h2⟩
    refine ⟨fun a a0 an => ?_, fun k k0 k1 hs => ?_⟩
    · rw [← (c3 a a0 an).1, ← (c3 a a0 an).2]
      exact h1 a a0 an
    · obtain ⟨e1, e2, e3, e4, -⟩ := c4 k k0 k1
      rw [← e1, ← e2, ← e3, ← e4]
      exact h2 k k0 k1 hs
  · rintro ⟨h1, h2⟩
    refine ⟨fun a a0 an => ?_, fun k k0 k1 hs => ?_⟩
    · rw [(c3 a a0 an).1, (c3 a a0 an).2]
      exact h1 a a0 an
    · obtain ⟨e1, e2, e3, e4, -⟩ := c4 k k0 k1
      rw [e1, e2, e3, e4]
      exact h2 k k0 k1 hs
theorem F_c {σ : am_S} (hc : Cpl σ) : (σ 20 1).toNat = fmk σ := by
  have := hc.2.2.2.2
  omega
theorem WC_c {σ : am_S} (hc : Cpl σ) : WC σ = WM σ := by
  unfold WC WM
  rw [WN_c hc, F_c hc]
theorem wtS_cong {wt wt' : Int → Int} {m : Int} (h : ∀ k, 0 ≤ k → k < m → wt k = wt' k) : wtS wt m = wtS wt' m := by
  funext s
  unfold wtS
  refine sumI_cong _ (fun k k0 k1 => ?_)
  show (if s.testBit k.toNat = true then wt k else 0) = if s.testBit k.toNat = true then wt' k else 0
  rw [h k k0 (by omega)]
theorem CI_c {σ : am_S} (h : I0 σ) (hyt : YV σ ∧ TV σ) : CI σ := by
  obtain ⟨hm, hw, hc⟩ := h
  have hF := fmk_lt hm
  refine ⟨⟨Vld_c hm hc, by rw [hc.2.2.2.2]; omega, by rw [hc.2.2.2.2]; omega⟩, ⟨fun k k0 k1 => ?_, ?_⟩, hyt.1, hyt.2⟩
  · rw [hc.2.1] at k1
    rw [(hc.2.2.2.1 k k0 k1).2.2.2.2]
    exact hw k k0 k1
  · rw [F_c hc, hc.2.1]
    exact mk_lt _ _
theorem Wok_b {σ σ' : am_S} (h : mbf σ σ') (hw : Wok σ) : Wok σ' := by
  unfold Wok at hw ⊢
  rw [h.2 3 (by decide), h.1 7 (by decide) (by decide)]
  exact hw
theorem pbM_b {σ σ' : am_S} (h : mbf σ σ') : pbM σ' = pbM σ := by
  unfold pbM
  rw [h.2 0 (by decide), h.2 3 (by decide), h.1 1 (by decide) (by decide), h.1 2 (by decide) (by decide), h.1 3 (by decide) (by decide), h.1 4 (by decide) (by decide), h.1 5 (by decide) (by decide), h.1 6 (by decide) (by decide)]
theorem fmk_b {σ σ' : am_S} (h : mbf σ σ') : fmk σ' = fmk σ := by
  unfold fmk
  rw [h.2 3 (by decide), h.1 8 (by decide) (by decide)]
theorem I0_b {σ σ' : am_S} (h : mbf σ σ') (hi : I0 σ) : I0 σ' := by
  obtain ⟨hm, hw, hc⟩ := hi
  refine ⟨⟨by rw [pbM_b h]; exact hm.1, by rw [h.1 8 (by decide) (by decide)]; exact hm.2⟩, Wok_b h hw, ?_⟩
  unfold Cpl at hc ⊢
  rw [fmk_b h, h.2 0 (by decide), h.2 3 (by decide), h.1 1 (by decide) (by decide), h.1 2 (by decide) (by decide), h.1 3 (by decide) (by decide), h.1 4 (by decide) (by decide), h.1 5 (by decide) (by decide), h.1 6 (by decide) (by decide), h.1 7 (by decide) (by decide), h.1 17 (by decide) (by decide), h.1 18 (by decide) (by decide), h.1 19 (by decide) (by decide), h.1 20 (by decide) (by decide), h.1 21 (by decide) (by decide), h.1 22 (by decide) (by decide), h.1 23 (by decide) (by decide), h.1 24 (by decide) (by decide), h.1 25 (by decide) (by decide)]
  exact hc
theorem YT_b {σ σ' : am_S} (h : mbf σ σ') (hi : YV σ ∧ TV σ) : YV σ' ∧ TV σ' := ⟨YV_eq (fun c h1 _ => h.1 c (by omega) (by omega)) hi.1, TV_eq (fun c hc => h.1 c (by omega) (by omega)) hi.2⟩
theorem CBd_b {σ σ' : am_S} {BL : Int → List Int} (h : mbf σ σ') (hB : CBd σ BL) : CBd σ' BL := CBd_eq (fun c h1 _ => h.1 c (by omega) (by omega)) hB
theorem Inv_m {σ σ' : am_S} (h : mfr σ σ') (hi : Inv σ) : Inv σ' := by
  obtain ⟨h0, hyt, BL, b1, b2, b3⟩ := hi
  have hb := mbf_m h
  exact ⟨I0_b hb h0, YT_b hb hyt, BL, MBd_m h b1, CBd_b hb b2, by rw [h.2 0 (by decide)]; exact b3⟩
theorem I0_d {σ σ' : am_S} (h : ∀ c, c < 26 → σ' c = σ c) (hi : I0 σ) : I0 σ' := by
  unfold I0 Mok Wok Cpl fmk pbM at hi ⊢
  rw [h 0 (by decide), h 1 (by decide), h 2 (by decide), h 3 (by decide), h 4 (by decide), h 5 (by decide), h 6 (by decide), h 7 (by decide), h 8 (by decide), h 17 (by decide), h 18 (by decide), h 19 (by decide), h 20 (by decide), h 21 (by decide), h 22 (by decide), h 23 (by decide), h 24 (by decide), h 25 (by decide)]
  exact hi
theorem MBd_d {σ σ' : am_S} {BL : Int → List Int} (h : ∀ c, c < 26 → σ' c = σ c) (hB : MBd σ BL) : MBd σ' BL := by
  unfold MBd at hB ⊢
  rw [h 14 (by decide), h 15 (by decide)]
  exact hB
theorem Inv_d {σ σ' : am_S} (h : DQ σ σ') (hi : Inv σ) : Inv σ' := by
  obtain ⟨h0, hyt, BL, b1, b2, b3⟩ := hi
  have hb : ∀ c, c < 26 → σ' c = σ c := fun c hc => h.1 c (by omega)
  exact ⟨I0_d hb h0, h.2, BL, MBd_d hb b1, CBd_eq (fun c h1 _ => h.1 c (by omega)) b2, by rw [hb 0 (by decide)]; exact b3⟩
/-- one call, of both -/
def Both (K : am_KT) (D mC mR : Nat) (xs : List am_V) (σ : am_S) : Prop := K D mC 0 (.inr 16 :: xs) [] σ (fun o σ1 => ∃ v, o = some v ∧ σ1 60 = σ 60 ∧ K D mR 0 (.inr 0 :: xs) [] σ1 (fun o' σ2 => o' = some v ∧ Inv σ2 ∧ σ2 60 = σ 60))
theorem ansE {σ σ1 : am_S} (h : DQ σ σ1) (hi : Inv σ) : σ 17 0 = σ1 0 0 ∧ WC σ = WM σ1 := by
  have h0 := Inv_d h hi
  refine ⟨?_, ?_⟩
  · rw [h.1 0 (by decide)]
    exact hi.1.2.2.1
  · rw [← WC_c h0.1.2.2]
    exact (WC_eq (fun c _ h2 => h.1 c (by omega))).symm
theorem d60 {σ σ1 : am_S} (h : DQ σ σ1) : σ1 60 = σ 60 := h.1 60 (by decide)
theorem m60 {σ σ1 : am_S} (h : mfr σ σ1) : σ1 60 = σ 60 := h.1 60 (by decide) (by decide)
section
theorem y_agree {K : am_KT} (hK : am_C K) {d : Nat} {σ : am_S} (hi : Inv σ) : Both K (d + 16) mD_agree mM_agree [] σ := by
  refine sD_agree hK (CI_c hi.1 hi.2.1) (fun r σ1 c1 hr => ⟨r, rfl, d60 c1, ?_⟩)
  have i1 := Inv_d c1 hi
  refine sM_agree hK i1.1.1 (fun r2 σ2 c2 hr2 => ⟨?_, Inv_m c2 i1, (m60 c2).trans (d60 c1)⟩)
  rw [(ansE c1 hi).2] at hr
  rcases hr with q | q
  · rcases hr2 with q2 | q2
    · rw [q.1, q2.1]
    · exact absurd q.2 q2.2
  · rcases hr2 with q2 | q2
    · exact absurd q2.2 q.2
    · rw [q.1, q2.1]
theorem y_day {K : am_KT} (hK : am_C K) {d : Nat} {σ : am_S} {a b : Int} (ra : am_rng a) (rb : am_rng b) (hi : Inv σ) : Both K (d + 16) mD_day mM_day [.inl a, .inl b] σ := by
  refine sD_day hK ra rb (CI_c hi.1 hi.2.1) (fun σ1 c1 => ⟨_, rfl, d60 c1, ?_⟩)
  have i1 := Inv_d c1 hi
  rw [(ansE c1 hi).1, (ansE c1 hi).2]
  exact sM_day hK ra rb i1.1.1 (fun σ2 c2 => ⟨rfl, Inv_m c2 i1, (m60 c2).trans (d60 c1)⟩)
theorem y_can {K : am_KT} (hK : am_C K) {d : Nat} {σ : am_S} {a b : Int} (ra : am_rng a) (rb : am_rng b) (hi : Inv σ) : Both K (d + 16) mD_can mM_can [.inl a, .inl b] σ := by
  refine sD_can hK ra rb (CI_c hi.1 hi.2.1) (fun σ1 c1 => ⟨_, rfl, d60 c1, ?_⟩)
  have i1 := Inv_d c1 hi
  rw [(ansE c1 hi).1, (ansE c1 hi).2]
  exact sM_can hK ra rb i1.1.1 (fun σ2 c2 => ⟨rfl, Inv_m c2 i1, (m60 c2).trans (d60 c1)⟩)
theorem y_left {K : am_KT} (hK : am_C K) {d : Nat} {σ : am_S} {a : Int} (ra : am_rng a) (hi : Inv σ) : Both K (d + 16) mD_left mM_left [.inl a] σ := by
  refine sD_left hK ra (CI_c hi.1 hi.2.1) (fun σ1 c1 => ⟨_, rfl, d60 c1, ?_⟩)
  have i1 := Inv_d c1 hi
  rw [(ansE c1 hi).1, (ansE c1 hi).2]
  exact sM_left hK ra i1.1.1 (fun σ2 c2 => ⟨rfl, Inv_m c2 i1, (m60 c2).trans (d60 c1)⟩)
theorem y_gap {K : am_KT} (hK : am_C K) {d : Nat} {σ : am_S} {a b : Int} (ra : am_rng a) (rb : am_rng b) (hi : Inv σ) : Both K (d + 16) mD_gap mM_gap [.inl a, .inl b] σ := by
  refine sD_gap hK ra rb (CI_c hi.1 hi.2.1) (fun σ1 c1 => ⟨_, rfl, d60 c1, ?_⟩)
  have i1 := Inv_d c1 hi
  rw [(ansE c1 hi).1, (ansE c1 hi).2]
  exact sM_gap hK ra rb i1.1.1 (fun σ2 c2 => ⟨rfl, Inv_m c2 i1, (m60 c2).trans (d60 c1)⟩)
theorem y_ahead {K : am_KT} (hK : am_C K) {d : Nat} {σ : am_S} {a b : Int} (ra : am_rng a) (rb : am_rng b) (hi : Inv σ) : Both K (d + 16) mD_ahead mM_ahead [.inl a, .inl b] σ := by
  refine sD_ahead hK ra rb (CI_c hi.1 hi.2.1) (fun σ1 c1 => ⟨_, rfl, d60 c1, ?_⟩)
  have i1 := Inv_d c1 hi
  rw [(ansE c1 hi).1, (ansE c1 hi).2]
  exact sM_ahead hK ra rb i1.1.1 (fun σ2 c2 => ⟨rfl, Inv_m c2 i1, (m60 c2).trans (d60 c1)⟩)
theorem y_orders {K : am_KT} (hK : am_C K) {d : Nat} {σ : am_S} (hi : Inv σ) : Both K (d + 16) mD_orders mM_orders [] σ := by
  refine sD_orders hK (CI_c hi.1 hi.2.1) (fun σ1 c1 => ⟨_, rfl, d60 c1, ?_⟩)
  have i1 := Inv_d c1 hi
  rw [(ansE c1 hi).1, (ansE c1 hi).2]
  exact sM_orders hK i1.1.1 (fun σ2 c2 => ⟨rfl, Inv_m c2 i1, (m60 c2).trans (d60 c1)⟩)
theorem y_order {K : am_KT} (hK : am_C K) {d : Nat} {σ : am_S} {a : Int} (ra : am_rng a) (hi : Inv σ) : Both K (d + 16) mD_order mM_order [.inl a] σ := by
  refine sD_order hK ra (CI_c hi.1 hi.2.1) (fun σ1 c1 => ⟨_, rfl, d60 c1, ?_⟩)
  have i1 := Inv_d c1 hi
  rw [(ansE c1 hi).1, (ansE c1 hi).2]
  exact sM_order hK ra i1.1.1 (fun σ2 c2 => ⟨rfl, Inv_m c2 i1, (m60 c2).trans (d60 c1)⟩)
theorem y_worst {K : am_KT} (hK : am_C K) {d : Nat} {σ : am_S} {a : Int} (ra : am_rng a) (hi : Inv σ) : Both K (d + 16) mD_worst mM_worst [.inl a] σ := by
  refine sD_worst hK ra (CI_c hi.1 hi.2.1) (fun σ1 c1 => ⟨_, rfl, d60 c1, ?_⟩)
  have i1 := Inv_d c1 hi
  rw [(ansE c1 hi).1, (ansE c1 hi).2]
  exact sM_worst hK ra i1.1.1 (fun σ2 c2 => ⟨rfl, Inv_m c2 i1, (m60 c2).trans (d60 c1)⟩)
theorem y_best {K : am_KT} (hK : am_C K) {d : Nat} {σ : am_S} (hi : Inv σ) : Both K (d + 16) mD_best mM_best [] σ := by
  refine sD_best hK (CI_c hi.1 hi.2.1) (fun σ1 c1 => ⟨_, rfl, d60 c1, ?_⟩)
  have i1 := Inv_d c1 hi
  rw [(ansE c1 hi).1, (ansE c1 hi).2]
  exact sM_best hK i1.1.1 (fun σ2 c2 => ⟨rfl, Inv_m c2 i1, (m60 c2).trans (d60 c1)⟩)
theorem kn_cong {wt wt' : Int → Int} {m : Int} (h : wtS wt m = wtS wt' m) (WF : Nat → WS) (F : Nat) : knS wt m WF F = knS wt' m WF F := by
  unfold knS IsKn kL
  rw [h]
theorem ansK {σ σ1 : am_S} (h : DQ σ σ1) (hi : Inv σ) : σ 20 0 = σ1 0 3 ∧ WN (pbC σ) = WN (pbM σ1) ∧ (σ 20 1).toNat = fmk σ1 ∧ wtS (σ 25) (σ 20 0) = wtS (σ1 7) (σ1 0 3) := by
  have h0 := Inv_d h hi
  have e20 : σ1 20 = σ 20 := h.1 20 (by decide)
  have e25 : σ1 25 = σ 25 := h.1 25 (by decide)
  have hc := h0.1.2.2
  have ep : pbC σ1 = pbC σ := by
    unfold pbC
    rw [h.1 17 (by decide), h.1 18 (by decide), h.1 19 (by decide), h.1 20 (by decide), h.1 21 (by decide), h.1 22 (by decide), h.1 23 (by decide), h.1 24 (by decide)]
  refine ⟨?_, ?_, ?_, ?_⟩
  · rw [← e20]; exact hc.2.1
  · rw [← ep]; exact WN_c hc
  · rw [← e20]; exact F_c hc
  · rw [← e20, ← e25, hc.2.1]
    exact wtS_cong (fun k k0 k1 => (hc.2.2.2.1 k k0 k1).2.2.2.2)
theorem y_knot {K : am_KT} (hK : am_C K) {d : Nat} {σ : am_S} {a : Int} (ra : am_rng a) (hi : Inv σ) : Both K (d + 16) mD_knot mM_knot [.inl a] σ := by
  refine sD_knot hK ra (CI_c hi.1 hi.2.1) (fun σ1 c1 => ⟨_, rfl, d60 c1, ?_⟩)
  have i1 := Inv_d c1 hi
  obtain ⟨e1, e2, e3, e4⟩ := ansK c1 hi
  have e5 : aKnot (σ 25) (σ 20 0) (WN (pbC σ)) (σ 20 1).toNat a = aKnot (σ1 7) (σ1 0 3) (WN (pbM σ1)) (fmk σ1) a := by
    unfold aKnot
    rw [e1] at e4 ⊢
    rw [e2, e3, kn_cong e4, e4]
  rw [e5]
  exact sM_knot hK ra i1.1.1 i1.1.2.1 (fun σ2 c2 => ⟨rfl, Inv_m c2 i1, (m60 c2).trans (d60 c1)⟩)
theorem y_core {K : am_KT} (hK : am_C K) {d : Nat} {σ : am_S} (hi : Inv σ) : Both K (d + 16) mD_core mM_core [] σ := by
  refine sD_core hK (CI_c hi.1 hi.2.1) (fun σ1 c1 => ⟨_, rfl, d60 c1, ?_⟩)
  have i1 := Inv_d c1 hi
  obtain ⟨e1, e2, e3, e4⟩ := ansK c1 hi
  rw [e1, e2, e3]
  exact sM_core hK i1.1.1 (fun σ2 c2 => ⟨rfl, Inv_m c2 i1, (m60 c2).trans (d60 c1)⟩)
end
