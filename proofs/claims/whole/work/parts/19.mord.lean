/-! orders: how many, the first -/
theorem nd_out {s a : Nat} (h : s.testBit a = true) : nd s (2 ^ a) < s := by
  have h1 := nd_le s (2 ^ a)
  rcases Nat.lt_or_ge (nd s (2 ^ a)) s with q | q
  · exact q
  · have e : nd s (2 ^ a) = s := by omega
    have h2 : (nd s (2 ^ a)).testBit a = false := by rw [nd_bit, Nat.testBit_two_pow_self]; simp
    rw [e, h] at h2
    cases h2
def oT (A : Int → Nat) (f : Nat → Int) (s : Nat) (a : Int) : Int := if s.testBit a.toNat = true ∧ nd (A a) s = 0 then f (nd s (2 ^ a.toNat)) else 0
def IsOrd (n : Int) (A : Int → Nat) (f : Nat → Int) : Prop := f 0 = 1 ∧ ∀ s, 0 < s → s < 2 ^ n.toNat → f s = sumI (oT A f s) n.toNat
noncomputable def ordN (n : Int) (A : Int → Nat) : Int := (Classical.epsilon (IsOrd n A)) (2 ^ n.toNat - 1)
theorem IsOrd_u {n : Int} {A : Int → Nat} {f g : Nat → Int} (hf : IsOrd n A f) (hg : IsOrd n A g) : ∀ (m s : Nat), s < m → s < 2 ^ n.toNat → f s = g s
  | 0, s, h, _ => absurd h (Nat.not_lt_zero s)
  | m + 1, s, h, h2 => by
    rcases Nat.eq_zero_or_pos s with e | e
    · rw [e, hf.1, hg.1]
    · rw [hf.2 s e h2, hg.2 s e h2]
      refine sumI_cong _ (fun a a0 a1 => ?_)
      unfold oT
      split
      · rename_i q
        have := nd_out q.1
        exact IsOrd_u hf hg m _ (by omega) (by omega)
      · rfl
theorem ordN_u {n : Int} {A : Int → Nat} {f : Nat → Int} (hf : IsOrd n A f) : f (2 ^ n.toNat - 1) = ordN n A := by
  have e : IsOrd n A (Classical.epsilon (IsOrd n A)) := Classical.epsilon_spec ⟨f, hf⟩
  have hp := Nat.two_pow_pos n.toNat
  exact IsOrd_u hf e (2 ^ n.toNat) _ (by omega) (by omega)
noncomputable def aOrders (n : Int) (W : WS) : Int := ic (Exi W) (ordN n (ahm n W)) (-3)
theorem sumI_s (f : Int → Int) {a : Int} (a0 : 0 ≤ a) : sumI f (a + 1).toNat = sumI f a.toNat + f a := by
  rw [show (a + 1).toNat = a.toNat + 1 by omega, sumI, show ((a.toNat : Nat) : Int) = a by omega]
def ofr (σ σ' : am_S) : Prop := ∀ c, c ≠ 13 → σ' c = σ c
theorem mfr_o {σ σ' : am_S} (h : ofr σ σ') : mfr σ σ' := ⟨fun c a b => h c (by omega), fun j _ => by rw [h 0 (by decide)]⟩
theorem sM_orders {K : am_KT} (hK : am_C K) {d : Nat} {σ : am_S} {Q : am_Q} (hm : Mok σ) (h : ∀ σ', mfr σ σ' → Q (some (aOrders (σ 0 0) (WM σ))) σ') : K (d + 7) mM_orders 0 [.inr 0] [] σ Q := by
  have n0 : 0 ≤ σ 0 0 := hm.1.1.1
  have n8 : σ 0 0 ≤ 8 := hm.1.1.2
  unfold aOrders at h
  refine bM_orders_0 (d := d + 6) hK (sM_closeNow (d := d + 2) hK hm (fun r σ1 c hr => ?_))
  have h2 := Nw_r hr
  refine bM_orders_2 (d := d + 6) hK (r01_g h2) (fun g => ?_) (fun g => bM_orders_3 (d := d + 6) hK ?_)
  · have h3 := r01_n h2 g
    rw [ic_t h3] at h
    have cm := mfr_c c
    have e00 : σ1 0 0 = σ 0 0 := c.2 0 (by decide)
    refine bM_orders_5 (d := d + 6) hK (sM_findAhead hK (Mok_m cm hm) (by rw [WM_m cm]; exact h3) (fun σ2 c2 hA => ?_))
    unfold AhI at hA
    rw [WM_m cm, e00] at hA
    have cm2 : mfr σ σ2 := mfr_tr cm (mfr_h c2)
    have f00 : σ2 0 0 = σ 0 0 := cm2.2 0 (by decide)
    refine bM_orders_7 (d := d + 6) hK ?_
    have g00 : am_us σ2 13 0 1 0 0 = σ 0 0 := by rw [us_o _ _ _ (by decide)]; exact f00
    rw [g00, shl_i n0 (by omega)]
    have hN := pow_lt8 n8
    have hNp := Nat.two_pow_pos (σ 0 0).toNat
    generalize hA' : ahm (σ 0 0) (WM σ) = A at h hA
    generalize hNe : 2 ^ (σ 0 0).toNat = N at hN hNp ⊢
    have Alt : ∀ a, A a < 256 := fun a => by
      rw [← hA']
      have h1 := mk_lt (fun a' => Ahd (WM σ) a' a) (σ 0 0).toNat
      have h2 := pow_lt8 n8
      unfold ahm
      omega
    have outer : ∀ (v : Int) (τ : am_S), v ≤ (N : Int) → (1 ≤ v ∧ ofr σ2 τ ∧ τ 13 0 = 1 ∧ ∀ s : Nat, 0 < s → (s : Int) < v → τ 13 s = sumI (oT A (fun t => τ 13 (t : Int)) s) (σ 0 0).toNat) → K (d + 7) mM_orders 21 [.inr 0, .inl ((N : Int) - 1), .inl v] [] τ Q := by
      refine am_up (P := fun v τ => 1 ≤ v ∧ ofr σ2 τ ∧ τ 13 0 = 1 ∧ ∀ s : Nat, 0 < s → (s : Int) < v → τ 13 s = sumI (oT A (fun t => τ 13 (t : Int)) s) (σ 0 0).toNat) (C := fun v τ => K (d + 7) mM_orders 21 [.inr 0, .inl ((N : Int) - 1), .inl v] [] τ Q) (fun τ hp => ?_) (fun v τ hv hp ih => ?_)
      · obtain ⟨-, co, e0, hs⟩ := hp
        refine bM_orders_21 (d := d + 6) hK ⟨by omega, by omega⟩ ⟨by omega, by omega⟩ (fun _ => bM_orders_80 (d := d + 6) hK (by omega) ?_) (fun g => absurd g (by omega))
        have hO : IsOrd (σ 0 0) A (fun t => τ 13 (t : Int)) := ⟨e0, fun s s0 s1 => hs s s0 (by rw [hNe] at s1; omega)⟩
        have e := ordN_u hO
        rw [hNe] at e
        have e2 : τ 13 ((N : Int) - 1) = ordN (σ 0 0) A := by
          rw [← e, show ((N - 1 : Nat) : Int) = (N : Int) - 1 by omega]
        rw [e2]
        exact h τ (mfr_tr cm2 (mfr_o co))
      · obtain ⟨v1, co, e0, hs⟩ := hp
        refine bM_orders_21 (d := d + 6) hK ⟨by omega, by omega⟩ ⟨by omega, by omega⟩ (fun g => absurd g (by omega)) (fun _ => ?_)
        refine bM_orders_24 (d := d + 6) hK (by omega) ?_
        obtain ⟨s, rfl⟩ : ∃ s : Nat, v = (s : Int) := ⟨v.toNat, by omega⟩
        have inner : ∀ (a : Int) (ρ : am_S), a ≤ σ 0 0 → (0 ≤ a ∧ ofr σ2 ρ ∧ (∀ t : Int, t ≠ (s : Int) → ρ 13 t = τ 13 t) ∧ ρ 13 s = sumI (oT A (fun t => τ 13 (t : Int)) s) a.toNat) → K (d + 7) mM_orders 31 [.inr 0, .inl ((N : Int) - 1), .inl (s : Int), .inl a] [] ρ Q := by
          refine am_up (P := fun a ρ => 0 ≤ a ∧ ofr σ2 ρ ∧ (∀ t : Int, t ≠ (s : Int) → ρ 13 t = τ 13 t) ∧ ρ 13 s = sumI (oT A (fun t => τ 13 (t : Int)) s) a.toNat) (C := fun a ρ => K (d + 7) mM_orders 31 [.inr 0, .inl ((N : Int) - 1), .inl (s : Int), .inl a] [] ρ Q) (fun ρ hp => ?_) (fun a ρ ha hp ih2 => ?_)
          · obtain ⟨-, cr, q1, q2⟩ := hp
            have z00 : ρ 0 0 = σ 0 0 := by rw [cr 0 (by decide)]; exact f00
            refine bM_orders_31 (d := d + 6) hK ⟨by omega, by omega⟩ (by rw [z00]; exact ⟨by omega, by omega⟩) (fun _ => bM_orders_78 (d := d + 6) hK (ih ρ ⟨by omega, cr, ?_, fun t t0 t1 => ?_⟩)) (fun g => absurd g (by omega))
            · rw [q1 0 (by omega)]
              exact e0
            · have same : ∀ u : Nat, u < t → ρ 13 (u : Int) = τ 13 (u : Int) := fun u hu => q1 _ (by omega)
              have hsum : sumI (oT A (fun t => ρ 13 (t : Int)) t) (σ 0 0).toNat = sumI (oT A (fun t => τ 13 (t : Int)) t) (σ 0 0).toNat := by
                refine sumI_cong _ (fun a a0 a1 => ?_)
                unfold oT
                split
                · rename_i q
                  have := nd_out q.1
                  exact same _ this
                · rfl
              rw [hsum]
              by_cases e : t = s
              · subst e
                exact q2
              · rw [q1 _ (by omega)]
                exact hs t t0 (by omega)
          · obtain ⟨a0, cr, q1, q2⟩ := hp
            have z00 : ρ 0 0 = σ 0 0 := by rw [cr 0 (by decide)]; exact f00
            have z12 : ρ 12 a = (A a : Int) := by rw [cr 12 (by decide), hA a a0 (by omega), if_pos ha]
            have ea : ((a.toNat : Nat) : Int) = a := by omega
            have s256 : s < 256 := by omega
            have p2 : 2 ^ a.toNat ≤ 256 := pow_lt8 (by omega)
            have fin : ∀ y v4, y = oT A (fun t => τ 13 (t : Int)) s a → K (d + 7) mM_orders 74 [.inr 0, .inl ((N : Int) - 1), .inl (s : Int), .inl a, .inl v4] [.inl y, .inl (ρ 13 s), .inl (s : Int), .inr 13] ρ Q := by
              intro y v4 hy
              refine bM_orders_74 (d := d + 6) hK (by omega) (ih2 _ ⟨by omega, fun cc hc => by rw [us_o _ _ _ hc]; exact cr cc hc, fun t ht => ?_, ?_⟩)
              · rw [us_n _ _ _ ht]
                exact q1 t ht
              · rw [us_e, q2, hy, sumI_s _ a0]
            refine bM_orders_31 (d := d + 6) hK ⟨by omega, by omega⟩ (by rw [z00]; exact ⟨by omega, by omega⟩) (fun g => absurd g (by omega)) (fun _ => ?_)
            have eb : am_and (am_shr (s : Int) a) 1 = if s.testBit a.toNat = true then 1 else 0 := by rw [← ea, bit_shr_nat (by omega), ea]
            have en : am_and (ρ 12 a) (am_xor (s : Int) (-1)) = ((nd (A a) s : Nat) : Int) := by
              rw [z12]
              exact andn_nat (by have := Alt a; omega)
            have es : am_and (s : Int) (am_xor (am_shl 1 a) (-1)) = ((nd s (2 ^ a.toNat) : Nat) : Int) := by
              rw [shl_i a0 (by omega)]
              exact andn_nat (by omega)
            have no : ¬ (s.testBit a.toNat = true ∧ nd (A a) s = 0) → K (d + 7) mM_orders 53 [.inr 0, .inl ((N : Int) - 1), .inl (s : Int), .inl a] [] ρ Q := fun q => by
              refine bM_orders_53 (d := d + 6) hK (bM_orders_54 (d := d + 6) hK (by omega) ⟨by decide, by decide⟩ (fun _ => bM_orders_73 (d := d + 6) hK (fin 0 _ ?_)) (fun g => absurd rfl g))
              unfold oT
              rw [if_neg q]
            refine bM_orders_35 (d := d + 6) hK (rng_and _ _) (fun g => no (fun q => g (by rw [eb, if_pos q.1]))) (fun g => ?_)
            have gb : s.testBit a.toNat = true := by
              rw [eb] at g
              by_cases q : s.testBit a.toNat = true
              · exact q
              · rw [if_neg q] at g
                cases g
            refine bM_orders_42 (d := d + 6) hK (by omega) (rng_and _ _) (fun g2 => no (fun q => g2 (by rw [en, q.2]; rfl))) (fun g2 => ?_)
            have gn : nd (A a) s = 0 := by
              rw [en] at g2
              omega
            refine bM_orders_51 (d := d + 6) hK (bM_orders_54 (d := d + 6) hK (by omega) ⟨by decide, by decide⟩ (fun q => absurd q (by decide)) (fun _ => bM_orders_62 (d := d + 6) hK ?_ (fin _ _ ?_)))
            · rw [es]
              have := nd_le s (2 ^ a.toNat)
              omega
            · rw [es, q1 _ (by have := nd_out gb; omega)]
              unfold oT
              rw [if_pos ⟨gb, gn⟩]
        refine inner 0 _ n0 ⟨Int.le_refl 0, fun cc hc => by rw [us_o _ _ _ hc]; exact co cc hc, fun t ht => us_n _ _ _ ht, us_e _ _ _ _⟩
    exact outer 1 _ (by omega) ⟨Int.le_refl 1, fun cc hc => us_o _ _ _ hc, us_e _ _ _ _, fun s s0 s1 => absurd s1 (by omega)⟩
  · rw [ic_f (r01_0 h2 g)] at h
    exact h σ1 (mfr_c c)
