/-! the class: Web.weave, notBefore, notBehind -/
theorem sW_weave {K : am_KT} (hK : am_C K) {d : Nat} {σ : am_S} {Q : am_Q} {r : Nat} (hr : am_isW r) {s : Nat} (hs : s < 1024) (hv : Vld (pbC σ))
    (h : ∀ σ', wfr r σ σ' → WebV σ' r (σ 17 0) 20 → (∀ w, wSol σ' r w ↔ WN (pbC σ) s w) → Q none σ') : K (d + 2) mW_weave 0 [.inr r, .inr 17, .inr 20, .inl (s : Int)] [] σ Q := by
  have hrr : r = 34 ∨ r = 43 := hr
  have n0 : 0 ≤ σ 17 0 := hv.1.1
  have n8 : σ 17 0 ≤ 8 := hv.1.2
  have m0 : 0 ≤ σ 20 0 := hv.2.2.1.1
  have m10 : σ 20 0 ≤ 10 := hv.2.2.1.2
  -- the notes
  have loop3 : ∀ (k : Int) (τ : am_S), k ≤ σ 20 0 → (0 ≤ k ∧ wfr r σ τ ∧ WebV τ r (σ 17 0) (2 * k) ∧ ∀ w, wSol τ r w ↔ StpW (pbC σ) w ∧ Nts (pbC σ) (SB s) k w) → K (d + 2) mW_weave 41 [.inr r, .inr 17, .inr 20, .inl (s : Int), .inl k] [] τ Q := by
    refine am_up (P := fun k τ => 0 ≤ k ∧ wfr r σ τ ∧ WebV τ r (σ 17 0) (2 * k) ∧ ∀ w, wSol τ r w ↔ StpW (pbC σ) w ∧ Nts (pbC σ) (SB s) k w) (C := fun k τ => K (d + 2) mW_weave 41 [.inr r, .inr 17, .inr 20, .inl (s : Int), .inl k] [] τ Q) (fun τ hp => ?_) (fun k τ hk hp ih => ?_)
    · obtain ⟨-, c, hV, hS⟩ := hp
      have e20 : τ 20 = σ 20 := c 20 (by omega)
      exact bW_weave_41 (d := d + 1) hK hr ⟨by omega, by omega⟩ (by rw [e20]; exact ⟨by omega, by omega⟩) (fun _ => bW_weave_71 (d := d + 1) hK hr (h τ c (WebV_l hV (by omega)) hS)) (fun g => absurd g (by rw [e20]; omega))
    · obtain ⟨k0, c, hV, hS⟩ := hp
      have e20 : τ 20 = σ 20 := c 20 (by omega)
      have ek : ((k.toNat : Nat) : Int) = k := by omega
      refine bW_weave_41 (d := d + 1) hK hr ⟨by omega, by omega⟩ (by rw [e20]; exact ⟨by omega, by omega⟩) (fun g => absurd g (by rw [e20]; omega)) (fun _ => ?_)
      refine bW_weave_45 (d := d + 1) hK hr (rng_and _ _) (fun g => ?_) (fun g => ?_)
      · rw [← ek, and_shl0 (by omega) (by omega)] at g
        refine bW_weave_69 (d := d + 1) hK hr (ih τ ⟨by omega, c, WebV_l hV (by omega), fun w => ?_⟩)
        rw [hS w]
        refine ⟨fun z => ⟨z.1, fun k' a b e => ?_⟩, fun z => ⟨z.1, fun k' a b e => z.2 k' a (by omega) e⟩⟩
        by_cases e2 : k' = k
        · unfold SB at e
          rw [e2, g] at e
          cases e
        · exact z.2 k' a (by omega) e
      · have hin : SB s k := by
          unfold SB
          cases q : s.testBit k.toNat with
          | true => rfl
          | false =>
            exfalso
            apply g
            rw [← ek]
            exact (and_shl0 (by omega) (by omega)).mpr q
        have e21 : τ 21 = σ 21 := c 21 (by omega)
        have e22 : τ 22 = σ 22 := c 22 (by omega)
        have e23 : τ 23 = σ 23 := c 23 (by omega)
        have e24 : τ 24 = σ 24 := c 24 (by omega)
        obtain ⟨v1, v2, v3, v4, v5, v6, v7⟩ := hv.2.2.2 k k0 hk
        refine bW_weave_51 (d := d + 1) hK hr (by omega) (by omega) (by omega) (by omega) ?_
        rw [e21, e22, e23, e24]
        refine sW_heed hK hr n8 hV (by omega) v1 v2 v3 v6 (fun q => (v4 q).2) v7 (fun τ' c' hV' hS' => ?_)
        refine bW_weave_69 (d := d + 1) hK hr (ih τ' ⟨by omega, wfr_tr c c', by rw [show 2 * (k + 1) = 2 * k + 2 by omega]; exact hV', fun w => ?_⟩)
        rw [hS' w, hS w]
        constructor
        · rintro ⟨⟨z1, z2⟩, z3⟩
          refine ⟨z1, fun k' a b e => ?_⟩
          by_cases e2 : k' = k
          · subst e2
            exact z3
          · exact z2 k' a (by omega) e
        · rintro ⟨z1, z2⟩
          exact ⟨⟨z1, fun k' a b e => z2 k' a (by omega) e⟩, z2 k k0 (by omega) hin⟩
  -- the stamps
  have loop2 : ∀ (a : Int) (τ : am_S), a ≤ σ 17 0 → (0 ≤ a ∧ wfr r σ τ ∧ τ r 0 = σ 17 0 ∧ τ r 1 = 0 ∧ τ r 5 = 0 ∧ ∀ x, 0 ≤ x → x < a → τ (r + 1) x = σ 18 x ∧ τ (r + 2) x = σ 19 x ∧ τ (r + 3) x = -1) → K (d + 2) mW_weave 12 [.inr r, .inr 17, .inr 20, .inl (s : Int), .inl a] [] τ Q := by
    refine am_up (P := fun a τ => 0 ≤ a ∧ wfr r σ τ ∧ τ r 0 = σ 17 0 ∧ τ r 1 = 0 ∧ τ r 5 = 0 ∧ ∀ x, 0 ≤ x → x < a → τ (r + 1) x = σ 18 x ∧ τ (r + 2) x = σ 19 x ∧ τ (r + 3) x = -1) (C := fun a τ => K (d + 2) mW_weave 12 [.inr r, .inr 17, .inr 20, .inl (s : Int), .inl a] [] τ Q) (fun τ hp => ?_) (fun a τ ha hp ih => ?_)
    · obtain ⟨-, c, t0, t1, t5, hx⟩ := hp
      refine bW_weave_12 (d := d + 1) hK hr ⟨by omega, by omega⟩ (by rw [t0]; exact ⟨by omega, by omega⟩) (fun _ => bW_weave_39 (d := d + 1) hK hr (loop3 0 τ m0 ⟨Int.le_refl 0, c, ⟨t0, Or.inl t1, fun x x0 xn => ?_, by rw [t5]; omega, fun k k0 k1 => absurd k1 (by rw [t5]; omega)⟩, fun w => ?_⟩)) (fun g => absurd g (by rw [t0]; omega))
      · obtain ⟨q1, q2, q3⟩ := hx x x0 xn
        obtain ⟨g1, g2, g3⟩ := hv.2.1 x x0 xn
        have g1 : 0 ≤ σ 18 x := g1
        have g2 : σ 18 x ≤ σ 19 x := g2
        have g3 : σ 19 x ≤ 199 := g3
        rw [q1, q2, q3]
        exact ⟨by omega, by omega, Or.inl rfl⟩
      · unfold wSol wSat
        rw [t0, t1, t5]
        constructor
        · rintro ⟨-, a2, -⟩
          refine ⟨fun x x0 xn => ?_, fun k k0 k1 => absurd k1 (by omega)⟩
          have := a2 x x0 xn
          obtain ⟨q1, q2, q3⟩ := hx x x0 xn
          rw [q1, q2] at this
          exact ⟨this.1, this.2.1⟩
        · rintro ⟨a1, -⟩
          refine ⟨rfl, fun x x0 xn => ?_, fun k k0 k1 => absurd k1 (by omega)⟩
          obtain ⟨q1, q2, q3⟩ := hx x x0 xn
          have := a1 x x0 xn
          rw [q1, q2]
          exact ⟨this.1, this.2, fun hne => absurd q3 hne⟩
    · obtain ⟨a0, c, t0, t1, t5, hx⟩ := hp
      refine bW_weave_12 (d := d + 1) hK hr ⟨by omega, by omega⟩ (by rw [t0]; exact ⟨by omega, by omega⟩) (fun g => absurd g (by rw [t0]; omega)) (fun _ => ?_)
      refine bW_weave_16 (d := d + 1) hK hr (by omega) (by omega) (by omega) (by omega) ?_
      have e18 : τ 18 = σ 18 := c 18 (by omega)
      have e19 : am_us τ (r + 1) a (τ 18 a) 19 = σ 19 := by rw [us_o _ _ _ (by omega)]; exact c 19 (by omega)
      rw [e19, e18]
      refine bW_weave_32 (d := d + 1) hK hr (by omega) (ih _ ⟨by omega, wfr_us (wfr_us (wfr_us c ⟨by omega, by omega⟩ _ _) ⟨by omega, by omega⟩ _ _) ⟨by omega, by omega⟩ _ _, ?_, ?_, ?_, fun x x0 xa => ?_⟩)
      · rw [us_o _ _ _ (by omega), us_o _ _ _ (by omega), us_o _ _ _ (by omega)]; exact t0
      · rw [us_o _ _ _ (by omega), us_o _ _ _ (by omega), us_o _ _ _ (by omega)]; exact t1
      · rw [us_o _ _ _ (by omega), us_o _ _ _ (by omega), us_o _ _ _ (by omega)]; exact t5
      · rw [us_o (k := r + 1) _ _ _ (by omega), us_o (k := r + 1) _ _ _ (by omega), us_s, us_o (k := r + 2) _ _ _ (by omega), us_s, us_o (k := r + 2) _ _ _ (by omega), us_s, us_o (k := r + 3) _ _ _ (by omega), us_o (k := r + 3) _ _ _ (by omega)]
        by_cases e : x = a
        · rw [if_pos e, if_pos e, if_pos e, e]
          exact ⟨rfl, rfl, rfl⟩
        · rw [if_neg e, if_neg e, if_neg e]
          exact hx x x0 (by omega)
  refine bW_weave_0 (d := d + 1) hK hr (bW_weave_7 (d := d + 1) hK hr (loop2 0 _ n0 ⟨Int.le_refl 0, wfr_us (wfr_us (wfr_us (fun _ _ => rfl) ⟨by omega, by omega⟩ _ _) ⟨by omega, by omega⟩ _ _) ⟨by omega, by omega⟩ _ _, ?_, ?_, us_e _ _ _ _, fun x x0 xa => absurd xa (by omega)⟩))
  · rw [us_n _ _ _ (by decide), us_n _ _ _ (by decide), us_e]
  · rw [us_n _ _ _ (by decide), us_e]
/-- the first day from y on that is one of the week's -/
def isNB (wd y z : Int) : Prop := y ≤ z ∧ z ≤ y + 6 ∧ (wd ≠ -1 → z % 7 = wd) ∧ ∀ t, y ≤ t → (wd ≠ -1 → t % 7 = wd) → z ≤ t
def isNA (wd y z : Int) : Prop := z ≤ y ∧ y - 6 ≤ z ∧ (wd ≠ -1 → z % 7 = wd) ∧ ∀ t, t ≤ y → (wd ≠ -1 → t % 7 = wd) → t ≤ z
theorem sW_notBefore {K : am_KT} (hK : am_C K) {d : Nat} {σ : am_S} {Q : am_Q} {r : Nat} (hr : am_isW r) {a y : Int} (ha : 0 ≤ a ∧ a < 8) (hw : σ (r + 3) a = -1 ∨ (0 ≤ σ (r + 3) a ∧ σ (r + 3) a ≤ 6)) (y0 : 0 ≤ y) (y1 : y ≤ 1000) (h : ∀ z, isNB (σ (r + 3) a) y z → Q (some z) σ) : K d mW_notBefore 0 [.inr r, .inl a, .inl y] [] σ Q := by
  refine bW_notBefore_0 hK hr (by omega) ⟨by omega, by omega⟩ (fun g => ?_) (fun g => bW_notBefore_6 hK hr (bW_notBefore_22 hK hr (h y ⟨by omega, by omega, fun q => absurd g q, fun t ht _ => ht⟩)))
  have e1 := tmd (x := y) 7 y0
  refine bW_notBefore_8 hK hr (by omega) ⟨by omega, by omega⟩ (by rw [e1]; exact ⟨by omega, by omega⟩) (bW_notBefore_22 hK hr (h _ ?_))
  have e2 : (σ (r + 3) a + 7 - y.tmod 7).tmod 7 = (σ (r + 3) a + 7 - y % 7) % 7 := by rw [e1, tmd 7 (by omega)]
  rw [e2]
  generalize σ (r + 3) a = wd at hw g
  refine ⟨by omega, by omega, fun _ => by omega, fun t ht hq => ?_⟩
  have := hq g
  omega
theorem sW_notBehind {K : am_KT} (hK : am_C K) {d : Nat} {σ : am_S} {Q : am_Q} {r : Nat} (hr : am_isW r) {a y : Int} (ha : 0 ≤ a ∧ a < 8) (hw : σ (r + 3) a = -1 ∨ (0 ≤ σ (r + 3) a ∧ σ (r + 3) a ≤ 6)) (y0 : 0 ≤ y) (y1 : y ≤ 1000) (h : ∀ z, isNA (σ (r + 3) a) y z → Q (some z) σ) : K d mW_notBehind 0 [.inr r, .inl a, .inl y] [] σ Q := by
  refine bW_notBehind_0 hK hr (by omega) ⟨by omega, by omega⟩ (fun g => ?_) (fun g => bW_notBehind_6 hK hr (bW_notBehind_22 hK hr (h y ⟨by omega, by omega, fun q => absurd g q, fun t ht _ => ht⟩)))
  have e1 := tmd (x := y) 7 y0
  refine bW_notBehind_8 hK hr ⟨by omega, by omega⟩ (by omega) (by rw [e1]; exact ⟨by omega, by omega⟩) (bW_notBehind_22 hK hr (h _ ?_))
  have e2 : (y.tmod 7 + 7 - σ (r + 3) a).tmod 7 = (y % 7 + 7 - σ (r + 3) a) % 7 := by rw [e1, tmd 7 (by omega)]
  rw [e2]
  generalize σ (r + 3) a = wd at hw g
  refine ⟨by omega, by omega, fun _ => by omega, fun t ht hq => ?_⟩
  have := hq g
  omega
