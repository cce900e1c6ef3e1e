/-! the reference: bounds are begun -/
def cfr (σ σ' : am_S) : Prop := (∀ c, c ≠ 0 → c ≠ 9 → c ≠ 10 → σ' c = σ c) ∧ ∀ j, j ≠ 12 → σ' 0 j = σ 0 j
theorem cfr_rf (σ : am_S) : cfr σ σ := ⟨fun _ _ _ _ => rfl, fun _ _ => rfl⟩
theorem cfr_tr {σ σ1 σ2 : am_S} (h1 : cfr σ σ1) (h2 : cfr σ1 σ2) : cfr σ σ2 := ⟨fun c a b e => (h2.1 c a b e).trans (h1.1 c a b e), fun j hj => (h2.2 j hj).trans (h1.2 j hj)⟩
theorem cfr_9 (σ : am_S) (i v : Int) : cfr σ (am_us σ 9 i v) := ⟨fun c _ h _ => us_o σ i v h, fun j _ => by rw [us_o σ i v (by decide : (0 : Nat) ≠ 9)]⟩
theorem cfr_10 (σ : am_S) (i v : Int) : cfr σ (am_us σ 10 i v) := ⟨fun c _ _ h => us_o σ i v h, fun j _ => by rw [us_o σ i v (by decide : (0 : Nat) ≠ 10)]⟩
theorem cfr_12 (σ : am_S) (v : Int) : cfr σ (am_us σ 0 12 v) := ⟨fun c h _ _ => us_o σ 12 v h, fun j hj => us_n σ 0 v hj⟩
def pbM (σ : am_S) : PB := (σ 0 0, σ 1, σ 2, σ 0 3, σ 3, σ 4, σ 5, σ 6)
theorem pbM_fr {σ σ' : am_S} (h : cfr σ σ') : pbM σ' = pbM σ := by
  unfold pbM
  rw [h.2 0 (by decide), h.2 3 (by decide), h.1 1 (by decide) (by decide) (by decide), h.1 2 (by decide) (by decide) (by decide), h.1 3 (by decide) (by decide) (by decide), h.1 4 (by decide) (by decide) (by decide), h.1 5 (by decide) (by decide) (by decide), h.1 6 (by decide) (by decide) (by decide)]
def Mrng (lo : Int) (M : Int → Int) : Prop := ∀ q, 0 ≤ q → q < 81 → lo ≤ M q ∧ M q ≤ 100000
def Mdg (n : Int) (M : Int → Int) : Prop := ∀ i j, 0 ≤ i → i < 9 → 0 ≤ j → j < 9 → ¬ (nde n i ∧ nde n j) → 0 ≤ M (9 * i + j)
def Mup (n : Int) (M : Int → Int) : Prop := ∀ a, 0 ≤ a → a < n → M (72 + a) ≤ 199 ∧ M (9 * a + 8) ≤ 0
def Wrg (wk : Int → Int) : Prop := (∀ a, 0 ≤ a → a < 8 → wk a = -9 ∨ (0 ≤ wk a ∧ wk a ≤ 6)) ∧ wk 8 = 0
def Mst (lo : Int) (σ : am_S) : Prop := Mrng lo (σ 9) ∧ Mdg (σ 0 0) (σ 9) ∧ Mup (σ 0 0) (σ 9) ∧ Wrg (σ 10) ∧ (σ 0 12 = 0 ∨ σ 0 12 = 1)
def Sol (σ : am_S) (w : Int → Int) : Prop := Sat (σ 0 0) (σ 9) w ∧ Wk (σ 0 0) (σ 10) w ∧ σ 0 12 = 1
theorem Mst_set {lo : Int} {σ : am_S} {i j x : Int} (n8 : σ 0 0 ≤ 8) (h : Mst lo σ) (hi : nde (σ 0 0) i) (hj : nde (σ 0 0) j) (hx : lo ≤ x) :
    Mst lo (am_us σ 9 (9 * i + j) (min x (σ 9 (9 * i + j)))) ∧ (∀ w, Sol (am_us σ 9 (9 * i + j) (min x (σ 9 (9 * i + j)))) w ↔ Sol σ w ∧ pl0 w j - pl0 w i ≤ x) := by
  obtain ⟨h1, h2, h3, h4, h5⟩ := h
  have ri := nde_r n8 hi
  have rj := nde_r n8 hj
  have e0 : am_us σ 9 (9 * i + j) (min x (σ 9 (9 * i + j))) 0 = σ 0 := us_o _ _ _ (by decide)
  have e10 : am_us σ 9 (9 * i + j) (min x (σ 9 (9 * i + j))) 10 = σ 10 := us_o _ _ _ (by decide)
  refine ⟨⟨fun q q0 q1 => ?_, ?_, ?_, ?_, ?_⟩, fun w => ?_⟩
  · rw [us_s]
    have g := h1 q q0 q1
    have g2 := h1 (9 * i + j) (by omega) (by omega)
    split <;> omega
  · rw [e0]
    intro a b a0 a1 b0 b1 hk
    rw [us_s, if_neg]
    · exact h2 a b a0 a1 b0 b1 hk
    · intro e
      have ea : a = i := by omega
      have eb : b = j := by omega
      subst ea
      subst eb
      exact hk ⟨hi, hj⟩
  · rw [e0]
    intro a a0 an
    have g := h3 a a0 an
    rw [us_s, us_s]
    constructor
    · split
      · rename_i e
        rw [← e]
        omega
      · exact g.1
    · split
      · rename_i e
        rw [← e]
        omega
      · exact g.2
  · rw [e10]
    exact h4
  · rw [e0]
    exact h5
  · unfold Sol
    rw [e0, e10, Sat_set n8 hi hj (us_e _ _ _ _) (fun q hq => us_n _ _ _ hq)]
    constructor
    · rintro ⟨⟨a, b⟩, c, e⟩
      exact ⟨⟨a, c, e⟩, b⟩
    · rintro ⟨⟨a, c, e⟩, b⟩
      exact ⟨⟨a, b⟩, c, e⟩
section
variable {K : am_KT} (hK : am_C K) {d : Nat} {σ : am_S} {Q : am_Q}
theorem sM_bounds {K : am_KT} (hK : am_C K) {d : Nat} {σ : am_S} {Q : am_Q} {i j x : Int} (hi : 0 ≤ i ∧ i < 9) (hj : 0 ≤ j ∧ j < 9) (hx : am_rng x) (hm : am_rng (σ 9 (9 * i + j))) (h : Q none (am_us σ 9 (9 * i + j) (min x (σ 9 (9 * i + j))))) : K d mM_bounds 0 [.inr 0, .inl i, .inl j, .inl x] [] σ Q := by
  refine bM_bounds_0 hK (by omega) hx hm (fun g => ?_) (fun g => ?_)
  · refine bM_bounds_17 hK (by omega) (bM_bounds_21 hK (by omega) ?_)
    rw [Int.min_eq_right g] at h
    exact h
  · refine bM_bounds_15 hK (bM_bounds_21 hK (by omega) ?_)
    rw [Int.min_eq_left (Int.le_of_lt g)] at h
    exact h
theorem sM_isNode {K : am_KT} (hK : am_C K) {d : Nat} {σ : am_S} {Q : am_Q} {i : Int} (ri : am_rng i) (rn : am_rng (σ 0 0)) (h0 : 0 ≤ i) (h : ∀ r, ((r = 1 ∧ nde (σ 0 0) i) ∨ (r = 0 ∧ ¬ nde (σ 0 0) i)) → Q (some r) σ) : K d mM_isNode 0 [.inr 0, .inl i] [] σ Q := by
  have one : nde (σ 0 0) i → K d mM_isNode 7 [.inr 0, .inl i] [] σ Q := fun g => bM_isNode_7 hK (bM_isNode_10 hK (Or.inr rfl) (h 1 (Or.inl ⟨rfl, g⟩)))
  refine bM_isNode_0 hK ri rn (fun g => one (Or.inl ⟨h0, g⟩)) (fun g => ?_)
  refine bM_isNode_4 hK ri (fun g2 => ?_) (fun g2 => one (Or.inr g2))
  exact bM_isNode_9 hK (bM_isNode_10 hK (Or.inl rfl) (h 0 (Or.inr ⟨rfl, fun q => by rcases q with q | q <;> omega⟩)))
end
theorem nOK_0 (wa wb d : Int) : nOK 0 wa wb d ↔ wb + d ≤ wa := ⟨fun h => h.1 rfl, fun h => ⟨fun _ => h, fun q => absurd q (by decide), fun q => absurd q (by decide), fun q => absurd q (by decide), fun q => absurd q (by decide)⟩⟩
theorem nOK_1 (wa wb d : Int) : nOK 1 wa wb d ↔ wa - wb ≤ d ∧ wb - wa ≤ d := ⟨fun h => h.2.1 rfl, fun h => ⟨fun q => absurd q (by decide), fun _ => h, fun q => absurd q (by decide), fun q => absurd q (by decide), fun q => absurd q (by decide)⟩⟩
theorem nOK_2 (wa wb d : Int) : nOK 2 wa wb d ↔ d ≤ wa := ⟨fun h => h.2.2.1 rfl, fun h => ⟨fun q => absurd q (by decide), fun q => absurd q (by decide), fun _ => h, fun q => absurd q (by decide), fun q => absurd q (by decide)⟩⟩
theorem nOK_3 (wa wb d : Int) : nOK 3 wa wb d ↔ wa ≤ d := ⟨fun h => h.2.2.2.1 rfl, fun h => ⟨fun q => absurd q (by decide), fun q => absurd q (by decide), fun q => absurd q (by decide), fun _ => h, fun q => absurd q (by decide)⟩⟩
theorem nOK_4 (wa wb d : Int) : nOK 4 wa wb d ↔ wa % 7 = d := ⟨fun h => h.2.2.2.2 rfl, fun h => ⟨fun q => absurd q (by decide), fun q => absurd q (by decide), fun q => absurd q (by decide), fun q => absurd q (by decide), fun _ => h⟩⟩
/-- a day of the week is taken -/
theorem Mst_wk {lo : Int} {σ : am_S} {a x s : Int} (n8 : σ 0 0 ≤ 8) (h : Mst lo σ) (ha : 0 ≤ a ∧ a < σ 0 0) (hx : 0 ≤ x ∧ x ≤ 6) (hs : (s = 1 ∧ σ 0 12 = 1 ∧ (σ 10 a = -9 ∨ σ 10 a = x)) ∨ (s = 0 ∧ ¬ (σ 0 12 = 1 ∧ (σ 10 a = -9 ∨ σ 10 a = x)))) :
    Mst lo (am_us (am_us σ 0 12 s) 10 a x) ∧ (∀ w, Sol (am_us (am_us σ 0 12 s) 10 a x) w ↔ Sol σ w ∧ w a % 7 = x) := by
  obtain ⟨h1, h2, h3, h4, h5⟩ := h
  have e0 : am_us (am_us σ 0 12 s) 10 a x 0 = am_us σ 0 12 s 0 := us_o _ _ _ (by decide)
  have e00 : am_us (am_us σ 0 12 s) 10 a x 0 0 = σ 0 0 := by rw [e0]; exact us_n _ _ _ (by decide)
  have e12 : am_us (am_us σ 0 12 s) 10 a x 0 12 = s := by rw [e0]; exact us_e _ _ _ _
  have e9 : am_us (am_us σ 0 12 s) 10 a x 9 = σ 9 := by rw [us_o _ _ _ (by decide), us_o _ _ _ (by decide)]
  have e10 : ∀ j, am_us (am_us σ 0 12 s) 10 a x 10 j = if j = a then x else σ 10 j := fun j => by rw [us_s, us_o _ _ _ (by decide : (10 : Nat) ≠ 0)]
  refine ⟨⟨?_, ?_, ?_, ⟨?_, ?_⟩, ?_⟩, fun w => ?_⟩
  · rw [e9]; exact h1
  · rw [e9, e00]; exact h2
  · rw [e9, e00]; exact h3
  · intro b b0 b8
    rw [e10]
    split
    · exact Or.inr hx
    · exact h4.1 b b0 b8
  · rw [e10, if_neg (by omega)]
    exact h4.2
  · rw [e12]
    rcases hs with hs | hs
    · exact Or.inr hs.1
    · exact Or.inl hs.1
  · unfold Sol
    rw [e9, e00, e12]
    constructor
    · rintro ⟨b1, b2, b3⟩
      have hs2 : σ 0 12 = 1 ∧ (σ 10 a = -9 ∨ σ 10 a = x) := by
        rcases hs with q | q
        · exact q.2
        · omega
      have ga := b2 a ha.1 ha.2 (by rw [e10, if_pos rfl]; omega)
      rw [e10, if_pos rfl] at ga
      refine ⟨⟨b1, fun c c0 cn hc => ?_, hs2.1⟩, ga⟩
      by_cases e : c = a
      · subst e
        rcases hs2.2 with q | q
        · exact absurd q hc
        · rw [ga, q]
      · have gc := b2 c c0 cn (by rw [e10, if_neg e]; exact hc)
        rw [e10, if_neg e] at gc
        exact gc
    · rintro ⟨⟨b1, b2, b3⟩, b4⟩
      refine ⟨b1, fun c c0 cn hc => ?_, ?_⟩
      · rw [e10] at hc ⊢
        by_cases e : c = a
        · rw [if_pos e, e]
          exact b4
        · rw [if_neg e] at hc ⊢
          exact b2 c c0 cn hc
      · rcases hs with q | q
        · exact q.1
        · exfalso
          apply q.2
          refine ⟨b3, ?_⟩
          by_cases e : σ 10 a = -9
          · exact Or.inl e
          · exact Or.inr ((b2 a ha.1 ha.2 e).symm.trans b4)
theorem sM_takesNote {K : am_KT} (hK : am_C K) {d : Nat} {σ : am_S} {Q : am_Q} {k : Int} (hv : Vld (pbM σ)) (hk : 0 ≤ k ∧ k < σ 0 3) (hM : Mst (-199) σ)
    (h : ∀ σ', cfr σ σ' → Mst (-199) σ' → (∀ w, Sol σ' w ↔ Sol σ w ∧ nOK (σ 3 k) (w (σ 4 k)) (w (σ 5 k)) (σ 6 k)) → Q none σ') : K (d + 1) mM_takesNote 0 [.inr 0, .inl k] [] σ Q := by
  obtain ⟨⟨n0, n8⟩, -, ⟨m0, m10⟩, hnt⟩ := hv
  have n0 : 0 ≤ σ 0 0 := n0
  have n8 : σ 0 0 ≤ 8 := n8
  have m10 : σ 0 3 ≤ 10 := m10
  obtain ⟨v1, v2, v3, v4, v5, v6, v7⟩ := hnt k hk.1 hk.2
  have v1 : 0 ≤ σ 3 k ∧ σ 3 k ≤ 4 := v1
  have v2 : 0 ≤ σ 4 k ∧ σ 4 k < σ 0 0 := v2
  have v3 : 0 ≤ σ 5 k ∧ σ 5 k < σ 0 0 := v3
  have v6 : 0 ≤ σ 6 k ∧ σ 6 k ≤ 199 := v6
  have v7 : σ 3 k = 4 → σ 6 k ≤ 6 := v7
  have na : nde (σ 0 0) (σ 4 k) := Or.inl v2
  have nb : nde (σ 0 0) (σ 5 k) := Or.inl v3
  have nO : nde (σ 0 0) 8 := Or.inr rfl
  have hr : ∀ (τ : am_S), Mst (-199) τ → ∀ i j, 0 ≤ i → i < 9 → 0 ≤ j → j < 9 → am_rng (τ 9 (9 * i + j)) := fun τ hτ i j a b e f => by
    have g := hτ.1 (9 * i + j) (by omega) (by omega)
    exact ⟨by omega, by omega⟩
  refine bM_takesNote_0 hK (by omega) (by omega) (by omega) (by omega) ⟨by omega, by omega⟩ (fun g => ?_) (fun g => ?_) (fun g => ?_) (fun g => ?_) (fun g => ?_)
  · obtain ⟨a1, a2⟩ := Mst_set n8 hM na nb (x := -(σ 6 k)) (by omega)
    refine bM_takesNote_20 hK (sM_bounds hK (by omega) (by omega) ⟨by omega, by omega⟩ (hr σ hM _ _ (by omega) (by omega) (by omega) (by omega)) ?_)
    refine bM_takesNote_26 hK (bM_takesNote_76 hK (h _ (cfr_9 _ _ _) a1 (fun w => ?_)))
    rw [a2 w, g, nOK_0, pl0_a w (by omega : σ 4 k < 8), pl0_a w (by omega : σ 5 k < 8)]
    refine ⟨fun q => ⟨q.1, by omega⟩, fun q => ⟨q.1, by omega⟩⟩
  · obtain ⟨a1, a2⟩ := Mst_set n8 hM na nb (x := σ 6 k) (by omega)
    refine bM_takesNote_27 hK (sM_bounds hK (by omega) (by omega) ⟨by omega, by omega⟩ (hr σ hM _ _ (by omega) (by omega) (by omega) (by omega)) ?_)
    have c1 := cfr_9 σ (9 * σ 4 k + σ 5 k) (min (σ 6 k) (σ 9 (9 * σ 4 k + σ 5 k)))
    generalize am_us σ 9 (9 * σ 4 k + σ 5 k) (min (σ 6 k) (σ 9 (9 * σ 4 k + σ 5 k))) = τ at a1 a2 c1 ⊢
    have t0 : τ 0 0 = σ 0 0 := c1.2 0 (by decide)
    obtain ⟨b1, b2⟩ := Mst_set (i := σ 5 k) (j := σ 4 k) (x := σ 6 k) (by rw [t0]; exact n8) a1 (by rw [t0]; exact nb) (by rw [t0]; exact na) (by omega)
    refine bM_takesNote_32 hK (sM_bounds hK (by omega) (by omega) ⟨by omega, by omega⟩ (hr τ a1 _ _ (by omega) (by omega) (by omega) (by omega)) ?_)
    refine bM_takesNote_37 hK (bM_takesNote_76 hK (h _ (cfr_tr c1 (cfr_9 _ _ _)) b1 (fun w => ?_)))
    rw [b2 w, a2 w, g, nOK_1, pl0_a w (by omega : σ 4 k < 8), pl0_a w (by omega : σ 5 k < 8)]
    refine ⟨fun q => ⟨q.1.1, by omega⟩, fun q => ⟨⟨q.1, by omega⟩, by omega⟩⟩
  · obtain ⟨a1, a2⟩ := Mst_set n8 hM na nO (x := -(σ 6 k)) (by omega)
    refine bM_takesNote_38 hK (sM_bounds hK (by omega) (by omega) ⟨by omega, by omega⟩ (hr σ hM _ _ (by omega) (by omega) (by omega) (by omega)) ?_)
    refine bM_takesNote_44 hK (bM_takesNote_76 hK (h _ (cfr_9 _ _ _) a1 (fun w => ?_)))
    rw [a2 w, g, nOK_2, pl0_a w (by omega : σ 4 k < 8), pl0_8]
    refine ⟨fun q => ⟨q.1, by omega⟩, fun q => ⟨q.1, by omega⟩⟩
  · obtain ⟨a1, a2⟩ := Mst_set n8 hM nO na (x := σ 6 k) (by omega)
    refine bM_takesNote_45 hK (sM_bounds hK (by omega) (by omega) ⟨by omega, by omega⟩ (hr σ hM _ _ (by omega) (by omega) (by omega) (by omega)) ?_)
    refine bM_takesNote_50 hK (bM_takesNote_76 hK (h _ (cfr_9 _ _ _) a1 (fun w => ?_)))
    rw [a2 w, g, nOK_3, pl0_a w (by omega : σ 4 k < 8), pl0_8]
    refine ⟨fun q => ⟨q.1, by omega⟩, fun q => ⟨q.1, by omega⟩⟩
  · have g4 : σ 3 k = 4 := by omega
    have hd6 := v7 g4
    have fin : ∀ s, ((s = 1 ∧ σ 0 12 = 1 ∧ (σ 10 (σ 4 k) = -9 ∨ σ 10 (σ 4 k) = σ 6 k)) ∨ (s = 0 ∧ ¬ (σ 0 12 = 1 ∧ (σ 10 (σ 4 k) = -9 ∨ σ 10 (σ 4 k) = σ 6 k)))) → K (d + 1) mM_takesNote 70 [.inr 0, .inl k, .inl (σ 4 k), .inl (σ 5 k), .inl (σ 6 k)] [.inl s, .inr 0] σ Q := by
      intro s hs
      obtain ⟨a1, a2⟩ := Mst_wk n8 hM v2 ⟨by omega, hd6⟩ hs
      refine bM_takesNote_70 hK (by rcases hs with q | q; exact Or.inr q.1; exact Or.inl q.1) (by omega) (bM_takesNote_76 hK (h _ (cfr_tr (cfr_12 _ _) (cfr_10 _ _ _)) a1 (fun w => ?_)))
      rw [a2 w, g4, nOK_4]
    have hw := hM.2.2.2.1.1 (σ 4 k) v2.1 (by omega)
    have hi := hM.2.2.2.2
    refine bM_takesNote_51 hK ⟨by omega, by omega⟩ (fun g0 => bM_takesNote_69 hK (fin 0 (Or.inr ⟨rfl, by omega⟩))) (fun g0 => ?_)
    refine bM_takesNote_55 hK (by omega) ⟨by omega, by omega⟩ (fun g1 => bM_takesNote_67 hK (fin 1 (Or.inl ⟨rfl, by omega, Or.inl g1⟩))) (fun g1 => ?_)
    refine bM_takesNote_61 hK (by omega) ⟨by omega, by omega⟩ ⟨by omega, by omega⟩ (fun g2 => bM_takesNote_69 hK (fin 0 (Or.inr ⟨rfl, by omega⟩))) (fun g2 => bM_takesNote_67 hK (fin 1 (Or.inl ⟨rfl, by omega, Or.inr g2⟩)))
