/-! the class: Web: what the stamps and a set of notes ask -/
def pbC (σ : am_S) : PB := (σ 17 0, σ 18, σ 19, σ 20 0, σ 21, σ 22, σ 23, σ 24)
def wSat (σ : am_S) (r : Nat) (w : Int → Int) : Prop := (∀ a, 0 ≤ a → a < σ r 0 → σ (r + 1) a ≤ w a ∧ w a ≤ σ (r + 2) a ∧ (σ (r + 3) a ≠ -1 → w a % 7 = σ (r + 3) a)) ∧ ∀ k, 0 ≤ k → k < σ r 5 → w (σ (r + 4) k) + σ (r + 6) k ≤ w (σ (r + 5) k)
def wSol (σ : am_S) (r : Nat) (w : Int → Int) : Prop := σ r 1 = 0 ∧ wSat σ r w
def WebV (σ : am_S) (r : Nat) (n lim : Int) : Prop := σ r 0 = n ∧ (σ r 1 = 0 ∨ σ r 1 = 1) ∧ (∀ a, 0 ≤ a → a < n → (0 ≤ σ (r + 1) a ∧ σ (r + 1) a ≤ 199) ∧ (0 ≤ σ (r + 2) a ∧ σ (r + 2) a ≤ 199) ∧ (σ (r + 3) a = -1 ∨ (0 ≤ σ (r + 3) a ∧ σ (r + 3) a ≤ 6))) ∧ (0 ≤ σ r 5 ∧ σ r 5 ≤ lim) ∧ ∀ k, 0 ≤ k → k < σ r 5 → (0 ≤ σ (r + 4) k ∧ σ (r + 4) k < n) ∧ (0 ≤ σ (r + 5) k ∧ σ (r + 5) k < n) ∧ (-99 ≤ σ (r + 6) k ∧ σ (r + 6) k ≤ 99)
def wfr (r : Nat) (σ σ' : am_S) : Prop := ∀ c, (c < r ∨ r + 6 < c) → σ' c = σ c
theorem wfr_tr {r : Nat} {σ σ1 σ2 : am_S} (h1 : wfr r σ σ1) (h2 : wfr r σ1 σ2) : wfr r σ σ2 := fun c h => (h2 c h).trans (h1 c h)
theorem wfr_us {r : Nat} {σ σ' : am_S} (h : wfr r σ σ') {c : Nat} (hc : r ≤ c ∧ c ≤ r + 6) (i v : Int) : wfr r σ (am_us σ' c i v) := fun x hx => by
  rw [us_o _ _ _ (by omega)]
  exact h x hx
theorem WebV_l {σ : am_S} {r : Nat} {n a b : Int} (h : WebV σ r n a) (hab : a ≤ b) : WebV σ r n b := ⟨h.1, h.2.1, h.2.2.1, ⟨h.2.2.2.1.1, by have := h.2.2.2.1.2; omega⟩, h.2.2.2.2⟩
theorem sW_link {K : am_KT} (hK : am_C K) {d : Nat} {σ : am_S} {Q : am_Q} {r : Nat} (hr : am_isW r) {n lim f t by' : Int} (hV : WebV σ r n lim) (hlim : lim < 20) (hf : 0 ≤ f ∧ f < n) (ht : 0 ≤ t ∧ t < n) (hb : -99 ≤ by' ∧ by' ≤ 99)
    (h : ∀ σ', wfr r σ σ' → WebV σ' r n (lim + 1) → (∀ w, wSol σ' r w ↔ wSol σ r w ∧ w f + by' ≤ w t) → Q none σ') : K d mW_link 0 [.inr r, .inl f, .inl t, .inl by'] [] σ Q := by
  obtain ⟨v1, v2, v3, v4, v5⟩ := hV
  refine bW_link_0 hK hr ⟨by omega, by omega⟩ (fun g => absurd g (by omega)) (fun _ => ?_)
  have e1 : am_us σ (r + 4) (σ r 5) f r 5 = σ r 5 := by rw [us_o _ _ _ (by omega)]
  refine bW_link_4 hK hr (by omega) (by rw [e1]; omega) ?_
  rw [e1]
  have e2 : am_us (am_us σ (r + 4) (σ r 5) f) (r + 5) (σ r 5) t r = σ r := by rw [us_o _ _ _ (by omega), us_o _ _ _ (by omega)]
  refine bW_link_16 hK hr (by rw [e2]; omega) ?_
  rw [e2]
  have e3 : am_us (am_us (am_us σ (r + 4) (σ r 5) f) (r + 5) (σ r 5) t) (r + 6) (σ r 5) by' r 5 = σ r 5 := by rw [us_o _ _ _ (by omega), e2]
  rw [e3]
  generalize hτ : am_us (am_us (am_us (am_us σ (r + 4) (σ r 5) f) (r + 5) (σ r 5) t) (r + 6) (σ r 5) by') r 5 (σ r 5 + 1) = τ
  have c : wfr r σ τ := by
    rw [← hτ]
    exact wfr_us (wfr_us (wfr_us (wfr_us (fun _ _ => rfl) ⟨by omega, by omega⟩ _ _) ⟨by omega, by omega⟩ _ _) ⟨by omega, by omega⟩ _ _) ⟨by omega, by omega⟩ _ _
  have t0 : ∀ j, j ≠ 5 → τ r j = σ r j := fun j hj => by rw [← hτ, us_n _ _ _ hj, us_o _ _ _ (by omega), e2]
  have t5 : τ r 5 = σ r 5 + 1 := by rw [← hτ, us_e]
  have t1 : τ (r + 1) = σ (r + 1) := by rw [← hτ, us_o _ _ _ (by omega), us_o _ _ _ (by omega), us_o _ _ _ (by omega), us_o _ _ _ (by omega)]
  have t2 : τ (r + 2) = σ (r + 2) := by rw [← hτ, us_o _ _ _ (by omega), us_o _ _ _ (by omega), us_o _ _ _ (by omega), us_o _ _ _ (by omega)]
  have t3 : τ (r + 3) = σ (r + 3) := by rw [← hτ, us_o _ _ _ (by omega), us_o _ _ _ (by omega), us_o _ _ _ (by omega), us_o _ _ _ (by omega)]
  have t4 : ∀ j, τ (r + 4) j = if j = σ r 5 then f else σ (r + 4) j := fun j => by rw [← hτ, us_o _ _ _ (by omega), us_o _ _ _ (by omega), us_o _ _ _ (by omega), us_s]
  have t5' : ∀ j, τ (r + 5) j = if j = σ r 5 then t else σ (r + 5) j := fun j => by rw [← hτ, us_o _ _ _ (by omega), us_o _ _ _ (by omega), us_s, us_o _ _ _ (by omega)]
  have t6 : ∀ j, τ (r + 6) j = if j = σ r 5 then by' else σ (r + 6) j := fun j => by rw [← hτ, us_o _ _ _ (by omega), us_s, us_o _ _ _ (by omega), us_o _ _ _ (by omega)]
  refine bW_link_28 hK hr (h τ c ⟨by rw [t0 0 (by decide)]; exact v1, by rw [t0 1 (by decide)]; exact v2, by rw [t1, t2, t3]; exact v3, by rw [t5]; omega, fun k k0 k1 => ?_⟩ (fun w => ?_))
  · rw [t5] at k1
    rw [t4, t5', t6]
    by_cases e : k = σ r 5
    · rw [if_pos e, if_pos e, if_pos e]
      exact ⟨hf, ht, hb⟩
    · rw [if_neg e, if_neg e, if_neg e]
      exact v5 k k0 (by omega)
  · unfold wSol wSat
    rw [t0 0 (by decide), t0 1 (by decide), t1, t2, t3, t5]
    constructor
    · rintro ⟨a1, a2, a3⟩
      refine ⟨⟨a1, a2, fun k k0 k1 => ?_⟩, ?_⟩
      · have := a3 k k0 (by omega)
        rw [t4, t5', t6, if_neg (by omega), if_neg (by omega), if_neg (by omega)] at this
        exact this
      · have := a3 (σ r 5) v4.1 (by omega)
        rw [t4, t5', t6, if_pos rfl, if_pos rfl, if_pos rfl] at this
        exact this
    · rintro ⟨⟨a1, a2, a3⟩, a4⟩
      refine ⟨a1, a2, fun k k0 k1 => ?_⟩
      rw [t4, t5', t6]
      by_cases e : k = σ r 5
      · rw [if_pos e, if_pos e, if_pos e]
        exact a4
      · rw [if_neg e, if_neg e, if_neg e]
        exact a3 k k0 (by omega)
theorem sW_heed {K : am_KT} (hK : am_C K) {d : Nat} {σ : am_S} {Q : am_Q} {r : Nat} (hr : am_isW r) {n lim so a b dd : Int} (n8 : n ≤ 8) (hV : WebV σ r n lim) (hlim : lim ≤ 18) (hs : 0 ≤ so ∧ so ≤ 4) (ha : 0 ≤ a ∧ a < n) (hb : 0 ≤ b ∧ b < n) (hd : 0 ≤ dd ∧ dd ≤ 199) (hd1 : so ≤ 1 → dd ≤ 99) (hd4 : so = 4 → dd ≤ 6)
    (h : ∀ σ', wfr r σ σ' → WebV σ' r n (lim + 2) → (∀ w, wSol σ' r w ↔ wSol σ r w ∧ nOK so (w a) (w b) dd) → Q none σ') : K (d + 1) mW_heed 0 [.inr r, .inl so, .inl a, .inl b, .inl dd] [] σ Q := by
  have hrr : r = 34 ∨ r = 43 := hr
  obtain ⟨v1, v2, v3, v4, v5⟩ := id hV
  have va := v3 a ha.1 ha.2
  refine bW_heed_0 hK hr ⟨by omega, by omega⟩ (fun g => ?_) (fun g => ?_) (fun g => ?_) (fun g => ?_) (fun g => ?_)
  · have := hd1 (by omega)
    refine bW_heed_2 hK hr (sW_link hK hr hV (by omega) hb ha (by omega) (fun σ1 c1 V1 s1 => bW_heed_7 hK hr (bW_heed_68 hK hr (h σ1 c1 (WebV_l V1 (by omega)) (fun w => ?_)))))
    rw [s1 w, g, nOK_0]
  · have := hd1 (by omega)
    refine bW_heed_8 hK hr (sW_link hK hr hV (by omega) hb ha (by omega) (fun σ1 c1 V1 s1 => bW_heed_14 hK hr (sW_link hK hr V1 (by omega) ha hb (by omega) (fun σ2 c2 V2 s2 => bW_heed_20 hK hr (bW_heed_68 hK hr (h σ2 (wfr_tr c1 c2) (WebV_l V2 (by omega)) (fun w => ?_)))))))
    rw [s2 w, s1 w, g, nOK_1]
    refine ⟨fun z => ⟨z.1.1, by omega⟩, fun z => ⟨⟨z.1, by omega⟩, by omega⟩⟩
  · refine bW_heed_21 hK hr (by omega) ⟨by omega, by omega⟩ ⟨by omega, by omega⟩ (by omega) ?_
    generalize hτ : am_us σ (r + 1) a (max (σ (r + 1) a) dd) = τ
    have c : wfr r σ τ := by rw [← hτ]; exact wfr_us (fun _ _ => rfl) ⟨by omega, by omega⟩ _ _
    have o : ∀ c, c ≠ r + 1 → τ c = σ c := fun c hc => by rw [← hτ, us_o _ _ _ hc]
    have t1 : ∀ j, τ (r + 1) j = if j = a then max (σ (r + 1) a) dd else σ (r + 1) j := fun j => by rw [← hτ, us_s]
    refine bW_heed_68 hK hr (h τ c (WebV_l (a := lim) ⟨?_, ?_, fun x x0 xn => ?_, ?_, ?_⟩ (by omega)) (fun w => ?_))
    · rw [o r (by omega)]; exact v1
    · rw [o r (by omega)]; exact v2
    · rw [o (r + 2) (by omega), o (r + 3) (by omega), t1]
      have vx := v3 x x0 xn
      refine ⟨?_, vx.2⟩
      split
      · omega
      · exact vx.1
    · rw [o r (by omega)]; exact v4
    · rw [o r (by omega), o (r + 4) (by omega), o (r + 5) (by omega), o (r + 6) (by omega)]; exact v5
    · unfold wSol wSat
      rw [o r (by omega), o (r + 2) (by omega), o (r + 3) (by omega), o (r + 4) (by omega), o (r + 5) (by omega), o (r + 6) (by omega), g, nOK_2, v1]
      constructor
      · rintro ⟨a1, a2, a3⟩
        refine ⟨⟨a1, fun x x0 xn => ?_, a3⟩, ?_⟩
        · have := a2 x x0 xn
          rw [t1] at this
          by_cases e : x = a
          · rw [if_pos e] at this
            rw [e] at this ⊢
            exact ⟨by omega, this.2⟩
          · rw [if_neg e] at this
            exact this
        · have := a2 a ha.1 ha.2
          rw [t1, if_pos rfl] at this
          omega
      · rintro ⟨⟨a1, a2, a3⟩, a4⟩
        refine ⟨a1, fun x x0 xn => ?_, a3⟩
        have := a2 x x0 xn
        rw [t1]
        by_cases e : x = a
        · rw [if_pos e]
          rw [e] at this ⊢
          exact ⟨by omega, this.2⟩
        · rw [if_neg e]
          exact this
  · refine bW_heed_32 hK hr (by omega) ⟨by omega, by omega⟩ ⟨by omega, by omega⟩ (by omega) ?_
    generalize hτ : am_us σ (r + 2) a (min (σ (r + 2) a) dd) = τ
    have c : wfr r σ τ := by rw [← hτ]; exact wfr_us (fun _ _ => rfl) ⟨by omega, by omega⟩ _ _
    have o : ∀ c, c ≠ r + 2 → τ c = σ c := fun c hc => by rw [← hτ, us_o _ _ _ hc]
    have t1 : ∀ j, τ (r + 2) j = if j = a then min (σ (r + 2) a) dd else σ (r + 2) j := fun j => by rw [← hτ, us_s]
    refine bW_heed_68 hK hr (h τ c (WebV_l (a := lim) ⟨?_, ?_, fun x x0 xn => ?_, ?_, ?_⟩ (by omega)) (fun w => ?_))
    · rw [o r (by omega)]; exact v1
    · rw [o r (by omega)]; exact v2
    · rw [o (r + 1) (by omega), o (r + 3) (by omega), t1]
      have vx := v3 x x0 xn
      refine ⟨vx.1, ?_, vx.2.2⟩
      split
      · omega
      · exact vx.2.1
    · rw [o r (by omega)]; exact v4
    · rw [o r (by omega), o (r + 4) (by omega), o (r + 5) (by omega), o (r + 6) (by omega)]; exact v5
    · unfold wSol wSat
      rw [o r (by omega), o (r + 1) (by omega), o (r + 3) (by omega), o (r + 4) (by omega), o (r + 5) (by omega), o (r + 6) (by omega), g, nOK_3, v1]
      constructor
      · rintro ⟨a1, a2, a3⟩
        refine ⟨⟨a1, fun x x0 xn => ?_, a3⟩, ?_⟩
        · have := a2 x x0 xn
          rw [t1] at this
          by_cases e : x = a
          · rw [if_pos e] at this
            rw [e] at this ⊢
            exact ⟨this.1, by omega, this.2.2⟩
          · rw [if_neg e] at this
            exact this
        · have := a2 a ha.1 ha.2
          rw [t1, if_pos rfl] at this
          omega
      · rintro ⟨⟨a1, a2, a3⟩, a4⟩
        refine ⟨a1, fun x x0 xn => ?_, a3⟩
        have := a2 x x0 xn
        rw [t1]
        by_cases e : x = a
        · rw [if_pos e]
          rw [e] at this ⊢
          exact ⟨this.1, by omega, this.2.2⟩
        · rw [if_neg e]
          exact this
  · have g4 : so = 4 := by omega
    have h6 := hd4 g4
    have fin : ∀ s, ((s = 0 ∧ σ r 1 = 0 ∧ (σ (r + 3) a = -1 ∨ σ (r + 3) a = dd)) ∨ (s = 1 ∧ ¬ (σ r 1 = 0 ∧ (σ (r + 3) a = -1 ∨ σ (r + 3) a = dd)))) → K (d + 1) mW_heed 62 [.inr r, .inl so, .inl a, .inl b, .inl dd] [.inl s, .inr r] σ Q := by
      intro s hs
      refine bW_heed_62 hK hr (by omega) (by omega) ?_
      generalize hτ : am_us (am_us σ r 1 s) (r + 3) a dd = τ
      have c : wfr r σ τ := by rw [← hτ]; exact wfr_us (wfr_us (fun _ _ => rfl) ⟨by omega, by omega⟩ _ _) ⟨by omega, by omega⟩ _ _
      have o : ∀ c, c ≠ r + 3 → c ≠ r → τ c = σ c := fun c hc hc2 => by rw [← hτ, us_o _ _ _ hc, us_o _ _ _ hc2]
      have tr : ∀ j, j ≠ 1 → τ r j = σ r j := fun j hj => by rw [← hτ, us_o _ _ _ (by omega), us_n _ _ _ hj]
      have tr1 : τ r 1 = s := by rw [← hτ, us_o _ _ _ (by omega), us_e]
      have t3 : ∀ j, τ (r + 3) j = if j = a then dd else σ (r + 3) j := fun j => by rw [← hτ, us_s, us_o _ _ _ (by omega)]
      refine bW_heed_68 hK hr (h τ c (WebV_l (a := lim) ⟨?_, ?_, fun x x0 xn => ?_, ?_, ?_⟩ (by omega)) (fun w => ?_))
      · rw [tr 0 (by decide)]; exact v1
      · rw [tr1]; omega
      · rw [o (r + 1) (by omega) (by omega), o (r + 2) (by omega) (by omega), t3]
        have vx := v3 x x0 xn
        refine ⟨vx.1, vx.2.1, ?_⟩
        split
        · right; omega
        · exact vx.2.2
      · rw [tr 5 (by decide)]; exact v4
      · rw [tr 5 (by decide), o (r + 4) (by omega) (by omega), o (r + 5) (by omega) (by omega), o (r + 6) (by omega) (by omega)]; exact v5
      · unfold wSol wSat
        rw [tr1, tr 0 (by decide), tr 5 (by decide), o (r + 1) (by omega) (by omega), o (r + 2) (by omega) (by omega), o (r + 4) (by omega) (by omega), o (r + 5) (by omega) (by omega), o (r + 6) (by omega) (by omega), g4, nOK_4, v1]
        constructor
        · rintro ⟨a1, a2, a3⟩
          have hs2 : σ r 1 = 0 ∧ (σ (r + 3) a = -1 ∨ σ (r + 3) a = dd) := by
            rcases hs with q | q
            · exact q.2
            · omega
          have ga := (a2 a ha.1 ha.2).2.2 (by rw [t3, if_pos rfl]; omega)
          rw [t3, if_pos rfl] at ga
          refine ⟨⟨hs2.1, fun x x0 xn => ?_, a3⟩, ga⟩
          have := a2 x x0 xn
          refine ⟨this.1, this.2.1, fun hne => ?_⟩
          by_cases e : x = a
          · rw [e] at hne ⊢
            rcases hs2.2 with q | q
            · exact absurd q hne
            · rw [ga, q]
          · have h2 := this.2.2 (by rw [t3, if_neg e]; exact hne)
            rw [t3, if_neg e] at h2
            exact h2
        · rintro ⟨⟨a1, a2, a3⟩, a4⟩
          refine ⟨?_, fun x x0 xn => ?_, a3⟩
          · rcases hs with q | q
            · exact q.1
            · exfalso
              apply q.2
              refine ⟨a1, ?_⟩
              by_cases e : σ (r + 3) a = -1
              · exact Or.inl e
              · exact Or.inr (((a2 a ha.1 ha.2).2.2 e).symm.trans a4)
          · have := a2 x x0 xn
            refine ⟨this.1, this.2.1, fun hne => ?_⟩
            rw [t3] at hne ⊢
            by_cases e : x = a
            · rw [if_pos e, e]
              exact a4
            · rw [if_neg e] at hne ⊢
              exact this.2.2 hne
    refine bW_heed_43 hK hr ⟨by omega, by omega⟩ (fun z => bW_heed_59 hK hr (fin 1 (Or.inr ⟨rfl, by omega⟩))) (fun z => ?_)
    refine bW_heed_47 hK hr (by omega) ⟨by omega, by omega⟩ (fun z2 => bW_heed_61 hK hr (fin 0 (Or.inl ⟨rfl, z, Or.inl z2⟩))) (fun z2 => ?_)
    exact bW_heed_53 hK hr (by omega) ⟨by omega, by omega⟩ ⟨by omega, by omega⟩ (fun z3 => bW_heed_61 hK hr (fin 0 (Or.inl ⟨rfl, z, Or.inr z3⟩))) (fun z3 => bW_heed_59 hK hr (fin 1 (Or.inr ⟨rfl, by omega⟩)))
