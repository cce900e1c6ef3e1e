/-! the reference: draws (bounds of two by way of a third) -/
def B6 (k : Int) : Int := 205 * (6 ^ k.toNat : Nat)
theorem B6_s {k : Int} (h : 0 ≤ k) : B6 (k + 1) = 6 * B6 k := by
  unfold B6
  have e : (k + 1).toNat = k.toNat + 1 := by omega
  rw [e, Nat.pow_succ]
  simp only [Int.natCast_mul]
  omega
theorem B6_r {k : Int} (h0 : 0 ≤ k) (h : k < 9) : 205 ≤ B6 k ∧ 6 * B6 k ≤ 2065927680 := by
  have : ∀ m : Nat, m < 9 → 205 ≤ 205 * ((6 ^ m : Nat) : Int) ∧ 6 * (205 * ((6 ^ m : Nat) : Int)) ≤ 2065927680 := by decide +kernel
  exact this k.toNat (by omega)
def Dg (n : Int) (M : Int → Int) : Prop := ∀ i, nde n i → 0 ≤ M (9 * i + i)
def DrT (n : Int) (M : Int → Int) (l : Int) : Prop := ∀ i j, nde n i → nde n j → M (9 * i + j) ≤ M (9 * i + l) + M (9 * l + j)
def DrP (n : Int) (k pos : Int) (M Mk : Int → Int) : Prop := (∀ i j, 0 ≤ i → i < 9 → 0 ≤ j → j < 9 → M (9 * i + j) ≤ Mk (9 * i + j)) ∧ (∀ i j, 0 ≤ i → i < 9 → 0 ≤ j → j < 9 → pos ≤ 9 * i + j → M (9 * i + j) = Mk (9 * i + j)) ∧
  (∀ i j, nde n i → nde n j → 9 * i + j < pos → nde n k → M (9 * i + j) = min (Mk (9 * i + k) + Mk (9 * k + j)) (Mk (9 * i + j))) ∧ (∀ i j, 0 ≤ i → i < 9 → 0 ≤ j → j < 9 → ¬ nde n k → M (9 * i + j) = Mk (9 * i + j)) ∧ ∀ l, 0 ≤ l → l < k → nde n l → DrT n Mk l
def DrI (n : Int) (M0 : Int → Int) (k pos : Int) (M : Int → Int) : Prop :=
  (∀ i j, 0 ≤ i → i < 9 → 0 ≤ j → j < 9 → M (9 * i + j) ≤ M0 (9 * i + j)) ∧ (∀ w, Sat n M w ↔ Sat n M0 w) ∧ (∀ i j, 0 ≤ i → i < 9 → 0 ≤ j → j < 9 → ¬ (nde n i ∧ nde n j) → M (9 * i + j) = M0 (9 * i + j)) ∧
  (∀ i j, 0 ≤ i → i < 9 → 0 ≤ j → j < 9 → (pos ≤ 9 * i + j → -(B6 k) ≤ M (9 * i + j)) ∧ -(6 * B6 k) ≤ M (9 * i + j) ∧ (i = k ∨ j = k → -(3 * B6 k) ≤ M (9 * i + j)) ∧ (i = k ∧ j = k → -(2 * B6 k) ≤ M (9 * i + j))) ∧
  (Dg n M → ∃ Mk, DrP n k pos M Mk)
theorem DrI_0 {n : Int} {M0 : Int → Int} (h : ∀ i j, 0 ≤ i → i < 9 → 0 ≤ j → j < 9 → -205 ≤ M0 (9 * i + j)) : DrI n M0 0 0 M0 := by
  have e : B6 0 = 205 := by decide
  refine ⟨fun _ _ _ _ _ _ => Int.le_refl _, fun _ => Iff.rfl, fun _ _ _ _ _ _ _ => rfl, fun i j a b c f => ?_, fun _ => ⟨M0, fun _ _ _ _ _ _ => Int.le_refl _, fun _ _ _ _ _ _ _ => rfl, fun i j hi hj hp _ => ?_, fun _ _ _ _ _ _ _ => rfl, fun l l0 l1 => absurd l1 (by omega)⟩⟩
  · have g := h i j a b c f
    rw [e]
    omega
  · exfalso
    have : 0 ≤ i := by rcases hi with q | q <;> omega
    have : 0 ≤ j := by rcases hj with q | q <;> omega
    omega
theorem DrI_skip {n : Int} (n8 : n ≤ 8) {M0 M : Int → Int} {k i j : Int} (hi : 0 ≤ i ∧ i < 9) (hj : 0 ≤ j ∧ j < 9) (hs : ¬ (nde n k ∧ nde n i ∧ nde n j)) (h : DrI n M0 k (9 * i + j) M) : DrI n M0 k (9 * i + j + 1) M := by
  obtain ⟨h1, h2, h3, h4, h5⟩ := h
  refine ⟨h1, h2, h3, fun a b a0 a1 b0 b1 => ⟨fun q => (h4 a b a0 a1 b0 b1).1 (by omega), (h4 a b a0 a1 b0 b1).2⟩, fun hD => ?_⟩
  obtain ⟨Mk, p1, p2, p3, p4, p5⟩ := h5 hD
  refine ⟨Mk, p1, fun a b a0 a1 b0 b1 q => p2 a b a0 a1 b0 b1 (by omega), fun a b ha hb q hk => ?_, p4, p5⟩
  have ra := nde_r n8 ha
  have rb := nde_r n8 hb
  by_cases e : 9 * a + b = 9 * i + j
  · have ea : a = i := by omega
    have eb : b = j := by omega
    subst ea
    subst eb
    exact absurd ⟨hk, ha, hb⟩ hs
  · exact p3 a b ha hb (by omega) hk
theorem DrI_do {n : Int} (n8 : n ≤ 8) {M0 M M' : Int → Int} {k i j : Int} (k0 : 0 ≤ k) (k9 : k < 9) (hi : nde n i) (hj : nde n j) (hk : nde n k) (h : DrI n M0 k (9 * i + j) M)
    (e1 : M' (9 * i + j) = min (M (9 * i + k) + M (9 * k + j)) (M (9 * i + j))) (e2 : ∀ q, q ≠ 9 * i + j → M' q = M q) : DrI n M0 k (9 * i + j + 1) M' := by
  obtain ⟨h1, h2, h3, h4, h5⟩ := h
  have ri := nde_r n8 hi
  have rj := nde_r n8 hj
  have hB := B6_r k0 k9
  have hle : ∀ q, M' q ≤ M q := fun q => by
    by_cases e : q = 9 * i + j
    · rw [e, e1]
      omega
    · rw [e2 q e]
      exact Int.le_refl _
  refine ⟨fun a b a0 a1 b0 b1 => Int.le_trans (hle _) (h1 a b a0 a1 b0 b1), fun w => by rw [Sat_via n8 hi hj hk e1 e2]; exact h2 w, fun a b a0 a1 b0 b1 hn => ?_, fun a b a0 a1 b0 b1 => ?_, fun hD => ?_⟩
  · by_cases e : 9 * a + b = 9 * i + j
    · have ea : a = i := by omega
      have eb : b = j := by omega
      subst ea
      subst eb
      exact absurd ⟨hi, hj⟩ hn
    · rw [e2 _ e]
      exact h3 a b a0 a1 b0 b1 hn
  · by_cases e : 9 * a + b = 9 * i + j
    · have ea : a = i := by omega
      have eb : b = j := by omega
      subst ea
      subst eb
      have g := h4 a b a0 a1 b0 b1
      have g1 := g.1 (Int.le_refl _)
      have gk := h4 a k a0 a1 k0 k9
      have gj := h4 k b k0 k9 b0 b1
      have gkk := (h4 k k k0 k9 k0 k9).2.2.2 ⟨rfl, rfl⟩
      have gk3 := gk.2.2.1 (Or.inr rfl)
      have gj3 := gj.2.2.1 (Or.inl rfl)
      rw [e1]
      refine ⟨fun q => absurd q (by omega), by omega, fun q => ?_, fun q => ?_⟩
      · rcases q with q | q
        · subst q
          omega
        · subst q
          omega
      · obtain ⟨q1, q2⟩ := q
        subst q1
        subst q2
        omega
    · rw [e2 _ e]
      have g := h4 a b a0 a1 b0 b1
      exact ⟨fun q => g.1 (by omega), g.2⟩
  · have hD0 : Dg n M := fun a ha => Int.le_trans (hD a ha) (hle _)
    obtain ⟨Mk, p1, p2, p3, p4, p5⟩ := h5 hD0
    have hkk : 0 ≤ Mk (9 * k + k) := Int.le_trans (hD0 k hk) (p1 k k k0 k9 k0 k9)
    have col : ∀ a, nde n a → M (9 * a + k) = Mk (9 * a + k) := fun a ha => by
      have ra := nde_r n8 ha
      by_cases q : 9 * a + k < 9 * i + j
      · rw [p3 a k ha hk q hk]
        omega
      · exact p2 a k ra.1 ra.2 k0 k9 (by omega)
    have row : ∀ b, nde n b → M (9 * k + b) = Mk (9 * k + b) := fun b hb => by
      have rb := nde_r n8 hb
      by_cases q : 9 * k + b < 9 * i + j
      · rw [p3 k b hk hb q hk]
        omega
      · exact p2 k b k0 k9 rb.1 rb.2 (by omega)
    refine ⟨Mk, fun a b a0 a1 b0 b1 => Int.le_trans (hle _) (p1 a b a0 a1 b0 b1), fun a b a0 a1 b0 b1 q => ?_, fun a b ha hb q _ => ?_, fun a b a0 a1 b0 b1 q => absurd hk q, p5⟩
    · rw [e2 _ (by omega)]
      exact p2 a b a0 a1 b0 b1 (by omega)
    · have ra := nde_r n8 ha
      have rb := nde_r n8 hb
      by_cases e : 9 * a + b = 9 * i + j
      · have ea : a = i := by omega
        have eb : b = j := by omega
        subst ea
        subst eb
        rw [e1, col a ha, row b hb, p2 a b ra.1 ra.2 rb.1 rb.2 (Int.le_refl _)]
      · rw [e2 _ e]
        exact p3 a b ha hb (by omega) hk
theorem DrI_roll {n : Int} (n8 : n ≤ 8) {M0 M : Int → Int} {k : Int} (k0 : 0 ≤ k) (k9 : k < 9) (h : DrI n M0 k 81 M) : DrI n M0 (k + 1) 0 M := by
  obtain ⟨h1, h2, h3, h4, h5⟩ := h
  have hB := B6_r k0 k9
  refine ⟨h1, h2, h3, fun a b a0 a1 b0 b1 => ?_, fun hD => ?_⟩
  · have g := (h4 a b a0 a1 b0 b1).2.1
    rw [B6_s k0]
    omega
  · obtain ⟨Mk, p1, p2, p3, p4, p5⟩ := h5 hD
    refine ⟨M, fun _ _ _ _ _ _ => Int.le_refl _, fun _ _ _ _ _ _ _ => rfl, fun a b ha hb q => ?_, fun _ _ _ _ _ _ _ => rfl, fun l l0 l1 hl => ?_⟩
    · have ra := nde_r n8 ha
      have rb := nde_r n8 hb
      exact absurd q (by omega)
    · by_cases hk : nde n k
      · have hkk : 0 ≤ Mk (9 * k + k) := Int.le_trans (hD k hk) (p1 k k k0 k9 k0 k9)
        have val : ∀ a b, nde n a → nde n b → M (9 * a + b) = min (Mk (9 * a + k) + Mk (9 * k + b)) (Mk (9 * a + b)) := fun a b ha hb => by
          have ra := nde_r n8 ha
          have rb := nde_r n8 hb
          exact p3 a b ha hb (by omega) hk
        intro a b ha hb
        rw [val a b ha hb, val a l ha hl, val l b hl hb]
        by_cases e : l = k
        · subst e
          omega
        · have t := p5 l l0 (by omega) hl
          have t1 := t a b ha hb
          have t2 := t k b hk hb
          have t3 := t a k ha hk
          have t4 := t k k hk hk
          omega
      · intro a b ha hb
        have ra := nde_r n8 ha
        have rb := nde_r n8 hb
        have rl := nde_r n8 hl
        have e : l ≠ k := fun q => hk (q ▸ hl)
        rw [p4 a b ra.1 ra.2 rb.1 rb.2 hk, p4 a l ra.1 ra.2 rl.1 rl.2 hk, p4 l b rl.1 rl.2 rb.1 rb.2 hk]
        exact p5 l l0 (by omega) hl a b ha hb
theorem DrI_end {n : Int} (n8 : n ≤ 8) {M0 M : Int → Int} (h : DrI n M0 9 0 M) (hD : Dg n M) : ∀ i j k, nde n i → nde n j → nde n k → M (9 * i + j) ≤ M (9 * i + k) + M (9 * k + j) := by
  obtain ⟨Mk, p1, p2, p3, p4, p5⟩ := h.2.2.2.2 hD
  intro i j k hi hj hk
  have ri := nde_r n8 hi
  have rj := nde_r n8 hj
  have rk := nde_r n8 hk
  rw [p2 i j ri.1 ri.2 rj.1 rj.2 (by omega), p2 i k ri.1 ri.2 rk.1 rk.2 (by omega), p2 k j rk.1 rk.2 rj.1 rj.2 (by omega)]
  exact p5 k rk.1 rk.2 hk i j hi hj
def fr9 (σ σ' : am_S) : Prop := ∀ c, c ≠ 9 → σ' c = σ c
set_option maxHeartbeats 1000000 in
theorem sM_draws {K : am_KT} (hK : am_C K) {d : Nat} {σ : am_S} {Q : am_Q} (n0 : 0 ≤ σ 0 0) (n8 : σ 0 0 ≤ 8) (hM : Mst (-205) σ)
    (h : ∀ r σ', fr9 σ σ' → (∀ q, 0 ≤ q → q < 81 → σ' 9 q ≤ σ 9 q) → (∀ w, Sat (σ 0 0) (σ' 9) w ↔ Sat (σ 0 0) (σ 9) w) → ((r = 1 ∧ Mst (-199) σ' ∧ Dg (σ 0 0) (σ' 9) ∧ ∀ i j k, nde (σ 0 0) i → nde (σ 0 0) j → nde (σ 0 0) k → σ' 9 (9 * i + j) ≤ σ' 9 (9 * i + k) + σ' 9 (9 * k + j)) ∨ (r = 0 ∧ ∀ w, ¬ Sat (σ 0 0) (σ' 9) w)) → Q (some r) σ') : K (d + 1) mM_draws 0 [.inr 0] [] σ Q := by
  obtain ⟨mr, md, mu', mw, mi⟩ := hM
  have dec : ∀ q : Int, 0 ≤ q → q < 81 → ∃ i j, 0 ≤ i ∧ i < 9 ∧ 0 ≤ j ∧ j < 9 ∧ q = 9 * i + j := fun q q0 q1 => ⟨q / 9, q % 9, by omega, by omega, by omega, by omega, by omega⟩
  -- whether none is before itself
  have loop2 : ∀ (k : Int) (t : Int × am_S), k ≤ 9 → (0 ≤ k ∧ fr9 σ t.2 ∧ DrI (σ 0 0) (σ 9) 9 0 (t.2 9) ∧ ((t.1 = 1 ∧ ∀ i, 0 ≤ i → i < k → 0 ≤ t.2 9 (9 * i + i)) ∨ (t.1 = 0 ∧ ∃ i, 0 ≤ i ∧ i < k ∧ t.2 9 (9 * i + i) < 0))) → K (d + 1) mM_draws 58 [.inr 0, .inl t.1, .inl k] [] t.2 Q := by
    refine am_up (P := fun k (t : Int × am_S) => 0 ≤ k ∧ fr9 σ t.2 ∧ DrI (σ 0 0) (σ 9) 9 0 (t.2 9) ∧ ((t.1 = 1 ∧ ∀ i, 0 ≤ i → i < k → 0 ≤ t.2 9 (9 * i + i)) ∨ (t.1 = 0 ∧ ∃ i, 0 ≤ i ∧ i < k ∧ t.2 9 (9 * i + i) < 0))) (C := fun k t => K (d + 1) mM_draws 58 [.inr 0, .inl t.1, .inl k] [] t.2 Q) (fun t hp => ?_) (fun k t hk hp ih => ?_)
    · obtain ⟨r, τ⟩ := t
      obtain ⟨-, c, hI, hr⟩ := hp
      dsimp only at c hI hr ⊢
      refine bM_draws_58 hK ⟨by decide, by decide⟩ (fun _ => bM_draws_78 hK (by rcases hr with q | q; exact Or.inr q.1; exact Or.inl q.1) ?_) (fun g => absurd g (by decide))
      have c0 : τ 0 = σ 0 := c 0 (by decide)
      have c10 : τ 10 = σ 10 := c 10 (by decide)
      refine h r τ c (fun q q0 q1 => ?_) hI.2.1 ?_
      · obtain ⟨i, j, a, b, e, f, rfl⟩ := dec q q0 q1
        exact hI.1 i j a b e f
      · rcases hr with ⟨r1, hd⟩ | ⟨r0, i, i0, i9, hneg⟩
        · left
          have hD : Dg (σ 0 0) (τ 9) := fun i hi => by
            have ri := nde_r n8 hi
            exact hd i ri.1 ri.2
          have ht := DrI_end n8 hI hD
          refine ⟨r1, ⟨fun q q0 q1 => ?_, ?_, ?_, ?_, ?_⟩, hD, ht⟩
          · obtain ⟨i, j, a, b, e, f, rfl⟩ := dec q q0 q1
            have g := mr (9 * i + j) q0 q1
            refine ⟨?_, Int.le_trans (hI.1 i j a b e f) g.2⟩
            by_cases hn : nde (σ 0 0) i ∧ nde (σ 0 0) j
            · obtain ⟨hi, hj⟩ := hn
              have o8 : nde (σ 0 0) 8 := Or.inr rfl
              have t1 := ht i i j hi hi hj
              have t2 := ht j i 8 hj hi o8
              have t3 := hD i hi
              have u1 : τ 9 (9 * j + 8) ≤ 0 ∨ j = 8 := by
                rcases hj with q | q
                · left
                  have := hI.1 j 8 (by omega) (by omega) (by omega) (by omega)
                  have := (mu' j q.1 q.2).2
                  omega
                · exact Or.inr q
              have u2 : τ 9 (9 * 8 + i) ≤ 199 ∨ i = 8 := by
                rcases hi with q | q
                · left
                  have := hI.1 8 i (by omega) (by omega) (by omega) (by omega)
                  have := (mu' i q.1 q.2).1
                  rw [show (72 : Int) + i = 9 * 8 + i by omega] at this
                  omega
                · exact Or.inr q
              have t88 := hD 8 o8
              by_cases ej : j = 8
              · subst ej
                by_cases ei : i = 8
                · subst ei
                  omega
                · omega
              · by_cases ei : i = 8
                · subst ei
                  omega
                · omega
            · rw [hI.2.2.1 i j a b e f hn]
              have := md i j a b e f hn
              omega
          · rw [c0]
            intro i j i0 i1 j0 j1 hk
            rw [hI.2.2.1 i j i0 i1 j0 j1 hk]
            exact md i j i0 i1 j0 j1 hk
          · rw [c0]
            intro a a0 an
            have g := mu' a a0 an
            have g1 := hI.1 8 a (by omega) (by omega) a0 (by omega)
            have g2 := hI.1 a 8 a0 (by omega) (by omega) (by omega)
            rw [show (72 : Int) + a = 9 * 8 + a by omega] at g ⊢
            omega
          · rw [c10]
            exact mw
          · rw [c0]
            exact mi
        · right
          refine ⟨r0, fun w hw => ?_⟩
          by_cases hi : nde (σ 0 0) i
          · have := hw i i hi hi
            omega
          · have e := hI.2.2.1 i i i0 i9 i0 i9 (fun q => hi q.1)
            have e2 := md i i i0 i9 i0 i9 (fun q => hi q.1)
            omega
    · obtain ⟨r, τ⟩ := t
      obtain ⟨k0, c, hI, hr⟩ := hp
      dsimp only at c hI hr ih ⊢
      have rg : am_rng (τ 9 (9 * k + k)) := by
        have g := hI.1 k k k0 hk k0 hk
        have g2 := (mr (9 * k + k) (by omega) (by omega)).2
        have g3 := ((hI.2.2.2.1 k k k0 hk k0 hk).1 (by omega))
        have g4 := B6_s (k := 8) (by decide)
        have g5 := B6_r (k := 8) (by decide) (by decide)
        rw [show (8 : Int) + 1 = 9 by decide] at g4
        exact ⟨by omega, by omega⟩
      refine bM_draws_58 hK ⟨by omega, by omega⟩ (fun g => absurd g (by omega)) (fun _ => ?_)
      refine bM_draws_61 hK (by rcases hr with q | q <;> (rw [q.1]; exact ⟨by decide, by decide⟩)) (fun g => ?_) (fun g => ?_)
      · refine bM_draws_74 hK (bM_draws_75 hK (ih (0, τ) ⟨by omega, c, hI, Or.inr ⟨rfl, ?_⟩⟩))
        rcases hr with q | ⟨q, i, i0, i1, i2⟩
        · omega
        · exact ⟨i, i0, by omega, i2⟩
      · refine bM_draws_63 hK (by omega) rg (fun g2 => bM_draws_74 hK (bM_draws_75 hK (ih (0, τ) ⟨by omega, c, hI, Or.inr ⟨rfl, k, k0, by omega, g2⟩⟩))) (fun g2 => bM_draws_72 hK (bM_draws_75 hK (ih (1, τ) ⟨by omega, c, hI, Or.inl ⟨rfl, fun i i0 i1 => ?_⟩⟩)))
        by_cases e : i = k
        · rw [e]
          exact g2
        · rcases hr with ⟨q, q2⟩ | q
          · exact q2 i i0 (by omega)
          · omega
  -- the drawing
  have loop1 : ∀ (x : Int) (τ : am_S), x ≤ 729 → (0 ≤ x ∧ fr9 σ τ ∧ DrI (σ 0 0) (σ 9) (x / 81) (x % 81) (τ 9)) → K (d + 1) mM_draws 2 [.inr 0, .inl x] [] τ Q := by
    refine am_up (P := fun x τ => 0 ≤ x ∧ fr9 σ τ ∧ DrI (σ 0 0) (σ 9) (x / 81) (x % 81) (τ 9)) (C := fun x τ => K (d + 1) mM_draws 2 [.inr 0, .inl x] [] τ Q) (fun τ hp => ?_) (fun x τ hx hp ih => ?_)
    · obtain ⟨-, c, hI⟩ := hp
      exact bM_draws_2 hK ⟨by decide, by decide⟩ (fun _ => bM_draws_54 hK (loop2 0 (1, τ) (by decide) ⟨Int.le_refl 0, c, hI, Or.inl ⟨rfl, fun i i0 i1 => absurd i1 (by omega)⟩⟩)) (fun g => absurd g (by decide))
    · obtain ⟨x0, c, hI⟩ := hp
      have c0 : τ 0 = σ 0 := c 0 (by decide)
      have c00 : τ 0 0 = σ 0 0 := by rw [c0]
      have d1 : x.tdiv 81 = x / 81 := tdv 81 x0
      have d2 : x.tdiv 9 = x / 9 := tdv 9 x0
      have d3 : (x.tdiv 9).tmod 9 = x / 9 % 9 := by rw [d2]; exact tmd 9 (by omega)
      have d4 : x.tmod 9 = x % 9 := tmd 9 x0
      have next : ∀ τ', fr9 σ τ' → DrI (σ 0 0) (σ 9) (x / 81) (9 * (x / 9 % 9) + x % 9 + 1) (τ' 9) → K (d + 1) mM_draws 52 [.inr 0, .inl x, .inl (x / 81), .inl (x / 9 % 9), .inl (x % 9)] [] τ' Q := by
        intro τ' c' hI'
        refine bM_draws_52 hK (ih τ' ⟨by omega, c', ?_⟩)
        by_cases e : x % 81 = 80
        · have h81 : 9 * (x / 9 % 9) + x % 9 + 1 = 81 := by omega
          rw [h81] at hI'
          have r := DrI_roll n8 (k := x / 81) (by omega) (by omega) hI'
          rw [show (x + 1) / 81 = x / 81 + 1 by omega, show (x + 1) % 81 = 0 by omega]
          exact r
        · rw [show (x + 1) / 81 = x / 81 by omega, show (x + 1) % 81 = 9 * (x / 9 % 9) + x % 9 + 1 by omega]
          exact hI'
      have hpos : x % 81 = 9 * (x / 9 % 9) + x % 9 := by omega
      rw [hpos] at hI
      have skip : ¬ (nde (σ 0 0) (x / 81) ∧ nde (σ 0 0) (x / 9 % 9) ∧ nde (σ 0 0) (x % 9)) → K (d + 1) mM_draws 52 [.inr 0, .inl x, .inl (x / 81), .inl (x / 9 % 9), .inl (x % 9)] [] τ Q := fun hs => next τ c (DrI_skip n8 (by omega) (by omega) hs hI)
      have rn : am_rng (τ 0 0) := by rw [c00]; exact ⟨by omega, by omega⟩
      refine bM_draws_2 hK ⟨by omega, by omega⟩ (fun g => absurd g (by omega)) (fun _ => ?_)
      refine bM_draws_5 hK ⟨by omega, by omega⟩ ⟨by omega, by omega⟩ (by rw [d2]; exact ⟨by omega, by omega⟩) ⟨by omega, by omega⟩ ?_
      rw [d1, d3, d4]
      refine sM_isNode hK ⟨by omega, by omega⟩ rn (by omega) (fun r1 hr1 => ?_)
      rw [c00] at hr1
      refine bM_draws_22 hK (by rcases hr1 with q | q <;> (rw [q.1]; exact ⟨by decide, by decide⟩)) (fun g => skip (fun z => ?_)) (fun g => ?_)
      · rcases hr1 with q | q
        · omega
        · exact q.2 z.1
      · refine bM_draws_23 hK (sM_isNode hK ⟨by omega, by omega⟩ rn (by omega) (fun r2 hr2 => ?_))
        rw [c00] at hr2
        refine bM_draws_26 hK (by rcases hr2 with q | q <;> (rw [q.1]; exact ⟨by decide, by decide⟩)) (fun g2 => skip (fun z => ?_)) (fun g2 => ?_)
        · rcases hr2 with q | q
          · omega
          · exact q.2 z.2.1
        · refine bM_draws_27 hK (sM_isNode hK ⟨by omega, by omega⟩ rn (by omega) (fun r3 hr3 => ?_))
          rw [c00] at hr3
          refine bM_draws_30 hK (by rcases hr3 with q | q <;> (rw [q.1]; exact ⟨by decide, by decide⟩)) (fun g3 => skip (fun z => ?_)) (fun g3 => ?_)
          · rcases hr3 with q | q
            · omega
            · exact q.2 z.2.2
          · have hk : nde (σ 0 0) (x / 81) := by rcases hr1 with q | q; exact q.2; exact absurd q.1 g
            have hi : nde (σ 0 0) (x / 9 % 9) := by rcases hr2 with q | q; exact q.2; exact absurd q.1 g2
            have hj : nde (σ 0 0) (x % 9) := by rcases hr3 with q | q; exact q.2; exact absurd q.1 g3
            have ub : ∀ i j, 0 ≤ i → i < 9 → 0 ≤ j → j < 9 → τ 9 (9 * i + j) ≤ 100000 := fun i j a b e f => Int.le_trans (hI.1 i j a b e f) (mr (9 * i + j) (by omega) (by omega)).2
            have hB := B6_r (k := x / 81) (by omega) (by omega)
            have l1 := (hI.2.2.2.1 (x / 9 % 9) (x / 81) (by omega) (by omega) (by omega) (by omega)).2.2.1 (Or.inr rfl)
            have l2 := (hI.2.2.2.1 (x / 81) (x % 9) (by omega) (by omega) (by omega) (by omega)).2.2.1 (Or.inl rfl)
            have l3 := (hI.2.2.2.1 (x / 9 % 9) (x % 9) (by omega) (by omega) (by omega) (by omega)).2.1
            have u1 := ub (x / 9 % 9) (x / 81) (by omega) (by omega) (by omega) (by omega)
            have u2 := ub (x / 81) (x % 9) (by omega) (by omega) (by omega) (by omega)
            have u3 := ub (x / 9 % 9) (x % 9) (by omega) (by omega) (by omega) (by omega)
            refine bM_draws_31 hK (by omega) (by omega) (sM_bounds hK (by omega) (by omega) ⟨by omega, by omega⟩ ⟨by omega, by omega⟩ ?_)
            refine next _ (fun cc hc => by rw [us_o _ _ _ hc]; exact c cc hc) (DrI_do n8 (by omega) (by omega) hi hj hk hI (us_e _ _ _ _) (fun q hq => us_n _ _ _ hq))
  exact bM_draws_0 hK (loop1 0 σ (by decide) ⟨Int.le_refl 0, fun _ _ => rfl, DrI_0 (fun i j a b e f => (mr (9 * i + j) (by omega) (by omega)).1)⟩)
