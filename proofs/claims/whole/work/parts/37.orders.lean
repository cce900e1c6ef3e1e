/-! the class: Orders -/
theorem YE_eq {σ σ' : am_S} (h : ∀ c, 17 ≤ c → c ≤ 40 → σ' c = σ c) (hy : YE σ) : YE σ' := by
  unfold YE WebV wSol wSat WC pbC at hy ⊢
  rw [h 17 (by decide) (by decide), h 18 (by decide) (by decide), h 19 (by decide) (by decide), h 20 (by decide) (by decide), h 21 (by decide) (by decide), h 22 (by decide) (by decide), h 23 (by decide) (by decide), h 24 (by decide) (by decide), h 26 (by decide) (by decide), h 27 (by decide) (by decide), h 28 (by decide) (by decide), h 30 (by decide) (by decide), h 31 (by decide) (by decide), h 32 (by decide) (by decide), h 33 (by decide) (by decide), h 34 (by decide) (by decide), h (34 + 1) (by decide) (by decide), h (34 + 2) (by decide) (by decide), h (34 + 3) (by decide) (by decide), h (34 + 4) (by decide) (by decide), h (34 + 5) (by decide) (by decide), h (34 + 6) (by decide) (by decide)]
  exact hy
theorem WC_eq {σ σ' : am_S} (h : ∀ c, 17 ≤ c → c ≤ 24 → σ' c = σ c) : WC σ' = WC σ := by
  unfold WC pbC
  rw [h 17 (by decide) (by decide), h 18 (by decide) (by decide), h 19 (by decide) (by decide), h 20 (by decide) (by decide), h 21 (by decide) (by decide), h 22 (by decide) (by decide), h 23 (by decide) (by decide), h 24 (by decide) (by decide)]
theorem Cok_eq {σ σ' : am_S} (h : ∀ c, 17 ≤ c → c ≤ 24 → σ' c = σ c) (hc : Cok σ) : Cok σ' := by
  unfold Cok pbC at hc ⊢
  rw [h 17 (by decide) (by decide), h 18 (by decide) (by decide), h 19 (by decide) (by decide), h 20 (by decide) (by decide), h 21 (by decide) (by decide), h 22 (by decide) (by decide), h 23 (by decide) (by decide), h 24 (by decide) (by decide)]
  exact hc
/-- the frame of Ways and Orders -/
def ofr2 (σ σ' : am_S) : Prop := ∀ c, (c < 26 ∨ (40 < c ∧ c < 50) ∨ 52 < c) → σ' c = σ c
theorem ofr2_tr {σ σ1 σ2 : am_S} (h1 : ofr2 σ σ1) (h2 : ofr2 σ1 σ2) : ofr2 σ σ2 := fun c h => (h2 c h).trans (h1 c h)
theorem ofr2_y {σ σ' : am_S} (h : yfr σ σ') : ofr2 σ σ' := fun c hc => h c (by omega)
def OrV (n : Int) (A : Int → Nat) (σ : am_S) : Prop := σ 50 0 = n ∧ ∀ a, 0 ≤ a → a < n → σ 51 a = (A a : Int)
theorem sO_take {K : am_KT} (hK : am_C K) {d : Nat} {σ : am_S} {Q : am_Q} (hc : Cok σ) (hy : YE σ) (h : ∀ σ', ofr2 σ σ' → YE σ' → OrV (σ 17 0) (ahm (σ 17 0) (WC σ)) σ' → Q none σ') : K (d + 5) mO_take 0 [.inr 50, .inr 26, .inl (σ 17 0)] [] σ Q := by
  obtain ⟨⟨n0, n8⟩, hR⟩ := YE_pr hc hy
  have loop : ∀ (a : Int) (τ : am_S), a ≤ σ 17 0 → (0 ≤ a ∧ ofr2 σ τ ∧ YE τ ∧ τ 50 0 = σ 17 0 ∧ ∀ x, 0 ≤ x → x < a → τ 51 x = (ahm (σ 17 0) (WC σ) x : Int)) → K (d + 5) mO_take 5 [.inr 50, .inr 26, .inl (σ 17 0), .inl a] [] τ Q := by
    refine am_up (P := fun a τ => 0 ≤ a ∧ ofr2 σ τ ∧ YE τ ∧ τ 50 0 = σ 17 0 ∧ ∀ x, 0 ≤ x → x < a → τ 51 x = (ahm (σ 17 0) (WC σ) x : Int)) (C := fun a τ => K (d + 5) mO_take 5 [.inr 50, .inr 26, .inl (σ 17 0), .inl a] [] τ Q) (fun τ hp => ?_) (fun a τ ha hp ih => ?_)
    · obtain ⟨-, c, e, e50, hx⟩ := hp
      exact bO_take_5 (d := d + 4) hK ⟨by omega, by omega⟩ (by rw [e50]; exact ⟨by omega, by omega⟩) (fun _ => bO_take_18 (d := d + 4) hK (h τ c e ⟨e50, hx⟩)) (fun g => absurd g (by rw [e50]; omega))
    · obtain ⟨a0, c, e, e50, hx⟩ := hp
      have e17 : τ 17 = σ 17 := c 17 (by decide)
      have eq1 : ∀ c', 17 ≤ c' → c' ≤ 24 → τ c' = σ c' := fun c' _ h2 => c c' (by omega)
      refine bO_take_5 (d := d + 4) hK ⟨by omega, by omega⟩ (by rw [e50]; exact ⟨by omega, by omega⟩) (fun g => absurd g (by rw [e50]; omega)) (fun _ => ?_)
      refine bO_take_9 (d := d + 4) hK (sY_thoseAheadOf hK (Cok_eq eq1 hc) e (by rw [e17]; omega) (fun σ1 c1 y1 => ?_))
      rw [e17, WC_eq eq1]
      refine bO_take_15 (d := d + 4) hK (by omega) (ih _ ⟨by omega, fun c' hc' => ?_, YE_eq (fun c' _ h2 => us_o _ _ _ (by omega)) y1, ?_, fun x x0 xa => ?_⟩)
      · rw [us_o _ _ _ (by omega), c1 c' (by omega)]
        exact c c' hc'
      · rw [us_o _ _ _ (by decide), c1 50 (by decide)]
        exact e50
      · rw [us_s]
        by_cases ex : x = a
        · rw [if_pos ex, ex]
        · rw [if_neg ex, c1 51 (by decide)]
          exact hx x x0 (by omega)
  refine bO_take_0 (d := d + 4) hK (loop 0 _ n0 ⟨Int.le_refl 0, fun c' hc' => us_o _ _ _ (by omega), YE_eq (fun c' _ h2 => us_o _ _ _ (by omega)) hy, us_e _ _ _ _, fun x x0 xa => absurd xa (by omega)⟩)
theorem sO_comesNext {K : am_KT} (hK : am_C K) {d : Nat} {σ : am_S} {Q : am_Q} {a : Int} {s : Nat} {A : Nat} (ha : 0 ≤ a ∧ a < 8) (hs : s < 256) (hA : A < 256) (eA : σ 51 a = (A : Int)) (h : ∀ r, r01 r (s.testBit a.toNat = false ∧ nd A s = 0) → Q (some r) σ) : K d mO_comesNext 0 [.inr 50, .inl a, .inl (s : Int)] [] σ Q := by
  have ea : ((a.toNat : Nat) : Int) = a := by omega
  have e1 : am_and (s : Int) (am_shl 1 a) = 0 ↔ s.testBit a.toNat = false := by rw [← ea, and_shl0 (by omega) (by omega), ea]
  have e2 : am_and (σ 51 a) (am_xor (s : Int) (-1)) = ((nd A s : Nat) : Int) := by rw [eA]; exact andn_nat (by omega)
  refine bO_comesNext_0 hK (rng_and _ _) (fun g => bO_comesNext_17 hK (bO_comesNext_18 hK (Or.inl rfl) (h 0 (Or.inr ⟨rfl, fun q => g (e1.mpr q.1)⟩)))) (fun g => ?_)
  refine bO_comesNext_6 hK ha (rng_and _ _) (fun g2 => bO_comesNext_17 hK (bO_comesNext_18 hK (Or.inl rfl) (h 0 (Or.inr ⟨rfl, fun q => g2 (by rw [e2, q.2]; rfl)⟩)))) (fun g2 => bO_comesNext_15 hK (bO_comesNext_18 hK (Or.inr rfl) (h 1 (Or.inl ⟨rfl, e1.mp g, ?_⟩))))
  rw [e2] at g2
  omega
theorem sO_firstNext {K : am_KT} (hK : am_C K) {d : Nat} {σ : am_S} {Q : am_Q} {n : Int} {A : Int → Nat} {s : Nat} (n8 : n ≤ 8) (hO : OrV n A σ) (hs : s < 256) (hA : ∀ a, A a < 256) (hx : IsNx n A s (nxt n A s)) (h : Q (some (nxt n A s)) σ) : K (d + 1) mO_firstNext 0 [.inr 50, .inl (s : Int)] [] σ Q := by
  obtain ⟨o1, o2⟩ := hO
  generalize nxt n A s = N at hx h
  obtain ⟨x1, x2, x3⟩ := hx
  have loop : ∀ (a : Int) (u : Unit), a ≤ N → (0 ≤ a) → K (d + 1) mO_firstNext 2 [.inr 50, .inl (s : Int), .inl a] [] σ Q := by
    refine am_up (P := fun a (_ : Unit) => 0 ≤ a) (C := fun a _ => K (d + 1) mO_firstNext 2 [.inr 50, .inl (s : Int), .inl a] [] σ Q) (fun u hp => ?_) (fun a u ha hp ih => ?_)
    · refine bO_firstNext_2 hK ⟨by omega, by omega⟩ (by rw [o1]; exact ⟨by omega, by omega⟩) (fun g => absurd g (by rw [o1]; omega)) (fun _ => ?_)
      refine bO_firstNext_6 hK (sO_comesNext hK (by omega) hs (hA N) (o2 N x1.1 x1.2) (fun r hr => ?_))
      exact bO_firstNext_10 hK (r01_g hr) (fun g => absurd x2 (r01_0 hr g)) (fun _ => bO_firstNext_11 hK h)
    · refine bO_firstNext_2 hK ⟨by omega, by omega⟩ (by rw [o1]; exact ⟨by omega, by omega⟩) (fun g => absurd g (by rw [o1]; omega)) (fun _ => ?_)
      refine bO_firstNext_6 hK (sO_comesNext hK (by omega) hs (hA a) (o2 a hp (by omega)) (fun r hr => ?_))
      exact bO_firstNext_10 hK (r01_g hr) (fun g => bO_firstNext_13 hK (ih () (by omega))) (fun g => absurd (r01_n hr g) (x3 a hp ha))
  exact bO_firstNext_0 hK (loop 0 () x1.1 (Int.le_refl 0))
theorem ahm_lt {n : Int} {W : WS} (n8 : n ≤ 8) (a : Int) : ahm n W a < 256 := by
  have h1 := mk_lt (fun a' => Ahd W a' a) n.toNat
  have h2 := pow_lt8 n8
  unfold ahm
  omega
theorem sO_ofFirst {K : am_KT} (hK : am_C K) {d : Nat} {σ : am_S} {Q : am_Q} {n k : Int} {W : WS} (n0 : 0 ≤ n) (n8 : n ≤ 8) (hE : Exi W) (hR : ∀ w, W w → ∀ a, 0 ≤ a → a < n → 0 ≤ w a ∧ w a ≤ 199) (hO : OrV n (ahm n W) σ) (k0 : 0 ≤ k) (k1 : k < n) (h : Q (some (sqn n (ahm n W) (k + 1).toNat).2) σ) : K (d + 2) mO_ofFirst 0 [.inr 50, .inl k] [] σ Q := by
  have hsq := sqn_ok n0 n8 hE hR
  refine bO_ofFirst_0 (d := d + 1) hK ?_
  have loop : ∀ (x : Int) (t : Int × Int), x ≤ k + 1 → (0 ≤ x ∧ t = (((sqn n (ahm n W) x.toNat).1 : Int), (sqn n (ahm n W) x.toNat).2)) → K (d + 2) mO_ofFirst 6 [.inr 50, .inl k, .inl t.1, .inl t.2, .inl x] [] σ Q := by
    refine am_up (P := fun x (t : Int × Int) => 0 ≤ x ∧ t = (((sqn n (ahm n W) x.toNat).1 : Int), (sqn n (ahm n W) x.toNat).2)) (C := fun x t => K (d + 2) mO_ofFirst 6 [.inr 50, .inl k, .inl t.1, .inl t.2, .inl x] [] σ Q) (fun t hp => ?_) (fun x t hx hp ih => ?_)
    · obtain ⟨-, rfl⟩ := hp
      exact bO_ofFirst_6 (d := d + 1) hK ⟨by omega, by omega⟩ ⟨by omega, by omega⟩ (fun _ => bO_ofFirst_26 (d := d + 1) hK h) (fun g => absurd g (by omega))
    · obtain ⟨x0, rfl⟩ := hp
      have hsx := hsq x.toNat (by omega)
      have hnx := nxt_ex (place_ex n0 hE hR (s := (sqn n (ahm n W) x.toNat).1) (by omega))
      have hih := ih (((sqn n (ahm n W) (x + 1).toNat).1 : Int), (sqn n (ahm n W) (x + 1).toNat).2) ⟨by omega, rfl⟩
      rw [show (x + 1).toNat = x.toNat + 1 by omega, sqn] at hih
      dsimp only at hih ⊢
      generalize (sqn n (ahm n W) x.toNat).1 = s at hsx hnx hih ⊢
      generalize (sqn n (ahm n W) x.toNat).2 = v3
      refine bO_ofFirst_6 (d := d + 1) hK ⟨by omega, by omega⟩ ⟨by omega, by omega⟩ (fun g => absurd g (by omega)) (fun _ => ?_)
      refine bO_ofFirst_9 (d := d + 1) hK (sO_firstNext hK n8 hO hsx.2 (ahm_lt n8) hnx ?_)
      have hNr := hnx.1
      generalize nxt n (ahm n W) s = N at hNr hih ⊢
      refine bO_ofFirst_12 (d := d + 1) hK ⟨by omega, by omega⟩ (fun _ => bO_ofFirst_18 (d := d + 1) hK ?_) (fun g => absurd g (by omega))
      rw [shl_i hNr.1 (by omega), or_nat (by omega) (by have := pow_lt8 (k := N) (by omega); omega)]
      exact hih
  exact loop 0 (0, -9) (by omega) ⟨Int.le_refl 0, rfl⟩
/-! howMany -/
theorem sumI_upd {f g : Int → Int} {a : Int} (a0 : 0 ≤ a) (hg : ∀ b, b ≠ a → g b = f b) : ∀ n : Nat, a < n → sumI g n = sumI f n + (g a - f a)
  | 0, h => absurd h (by omega)
  | n + 1, h => by
    show sumI g n + g n = sumI f n + f n + (g a - f a)
    by_cases e : a = n
    · have : sumI g n = sumI f n := sumI_cong n (fun q q0 q1 => hg q (by omega))
      rw [this, ← e]
      omega
    · rw [sumI_upd a0 hg n (by omega), hg n (by omega)]
      omega
/-- those whose addition has been done -/
def hmT (A : Int → Nat) (f : Nat → Int) (S : Nat) (c : Int) (t : Nat) (b : Int) : Int := if t.testBit b.toNat = true ∧ nd (A b) t = 0 ∧ (nd t (2 ^ b.toNat) < S ∨ (nd t (2 ^ b.toNat) = S ∧ b < c)) then f (nd t (2 ^ b.toNat)) else 0
theorem nd_back {S t a : Nat} (ha : t.testBit a = true) (e : nd t (2 ^ a) = S) : t = S ||| 2 ^ a ∧ S.testBit a = false := by
  subst e
  constructor
  · apply Nat.eq_of_testBit_eq
    intro i
    rw [Nat.testBit_or, nd_bit, Nat.testBit_two_pow]
    by_cases h : a = i
    · subst h
      rw [ha]
      simp
    · rw [decide_eq_false h]
      simp
  · rw [nd_bit, Nat.testBit_two_pow_self]
    simp
theorem nd_forth {S a : Nat} (ha : S.testBit a = false) : nd (S ||| 2 ^ a) (2 ^ a) = S ∧ (S ||| 2 ^ a).testBit a = true ∧ S < S ||| 2 ^ a := by
  have h1 : nd (S ||| 2 ^ a) (2 ^ a) = S := by
    apply Nat.eq_of_testBit_eq
    intro i
    rw [nd_bit, Nat.testBit_or, Nat.testBit_two_pow]
    by_cases h : a = i
    · subst h
      rw [ha]
      simp
    · rw [decide_eq_false h]
      simp
  have h2 : (S ||| 2 ^ a).testBit a = true := by
    rw [Nat.testBit_or, Nat.testBit_two_pow_self]
    simp
  have h3 := nd_out h2
  exact ⟨h1, h2, by omega⟩
theorem nd_self2 {A S a : Nat} (hA : A.testBit a = false) : nd A (S ||| 2 ^ a) = 0 ↔ nd A S = 0 := by
  have e : nd A (S ||| 2 ^ a) = nd A S := by
    apply Nat.eq_of_testBit_eq
    intro i
    rw [nd_bit, nd_bit, Nat.testBit_or, Nat.testBit_two_pow]
    by_cases h : a = i
    · subst h
      rw [hA]
      simp
    · rw [decide_eq_false h]
      simp
  rw [e]
def hfr2 (σ σ' : am_S) : Prop := ∀ c, c ≠ 52 → σ' c = σ c
set_option maxHeartbeats 1000000 in
theorem sO_howMany {K : am_KT} (hK : am_C K) {d : Nat} {σ : am_S} {Q : am_Q} {n : Int} {A : Int → Nat} (n0 : 0 ≤ n) (n8 : n ≤ 8) (hO : OrV n A σ) (hA : ∀ a, A a < 256) (hAa : ∀ a, 0 ≤ a → (A a).testBit a.toNat = false) (h : ∀ σ', hfr2 σ σ' → Q (some (ordN n A)) σ') : K (d + 1) mO_howMany 0 [.inr 50] [] σ Q := by
  obtain ⟨o1, o2⟩ := hO
  have hN := pow_lt8 n8
  have hNp := Nat.two_pow_pos n.toNat
  refine bO_howMany_0 hK ?_
  rw [o1, shl_i n0 (by omega)]
  generalize hNe : 2 ^ n.toNat = N at hN hNp
  have lt_or : ∀ (S : Nat) (a : Int), S < N → 0 ≤ a → a < n → S ||| 2 ^ a.toNat < N := fun S a hS a0 an => by
    rw [← hNe] at hS ⊢
    exact Nat.or_lt_two_pow hS (Nat.pow_lt_pow_right (by decide) (by omega))
  -- the sums
  have outer : ∀ (v : Int) (τ : am_S), v ≤ (N : Int) - 1 → (0 ≤ v ∧ hfr2 σ τ ∧ τ 52 0 = 1 ∧ ∀ t : Nat, 0 < t → t < N → τ 52 t = sumI (hmT A (fun u => τ 52 (u : Int)) v.toNat 0 t) n.toNat) → K (d + 1) mO_howMany 26 [.inr 50, .inl ((N : Int) - 1), .inl v] [] τ Q := by
    refine am_up (P := fun v τ => 0 ≤ v ∧ hfr2 σ τ ∧ τ 52 0 = 1 ∧ ∀ t : Nat, 0 < t → t < N → τ 52 t = sumI (hmT A (fun u => τ 52 (u : Int)) v.toNat 0 t) n.toNat) (C := fun v τ => K (d + 1) mO_howMany 26 [.inr 50, .inl ((N : Int) - 1), .inl v] [] τ Q) (fun τ hp => ?_) (fun v τ hv hp ih => ?_)
    · obtain ⟨-, c, e0, hs⟩ := hp
      refine bO_howMany_26 hK ⟨by omega, by omega⟩ ⟨by omega, by omega⟩ (fun _ => bO_howMany_59 hK (by omega) ?_) (fun g => absurd g (by omega))
      have hI : IsOrd n A (fun t => τ 52 (t : Int)) := by
        refine ⟨e0, fun s s0 s1 => ?_⟩
        rw [hNe] at s1
        show τ 52 s = _
        rw [hs s s0 s1]
        refine sumI_cong _ (fun b b0 b1 => ?_)
        unfold hmT oT
        by_cases q : s.testBit b.toNat = true ∧ nd (A b) s = 0
        · have := nd_out q.1
          rw [if_pos ⟨q.1, q.2, Or.inl (by omega)⟩, if_pos q]
        · rw [if_neg q, if_neg (fun z => q ⟨z.1, z.2.1⟩)]
      have e := ordN_u hI
      rw [hNe] at e
      have e2 : τ 52 ((N : Int) - 1) = ordN n A := by
        rw [← e, show ((N - 1 : Nat) : Int) = (N : Int) - 1 by omega]
      rw [e2]
      exact h τ c
    · obtain ⟨v0, c, e0, hs⟩ := hp
      obtain ⟨S, rfl⟩ : ∃ S : Nat, v = (S : Int) := ⟨v.toNat, by omega⟩
      rw [show ((S : Int)).toNat = S by omega] at hs
      refine bO_howMany_26 hK ⟨by omega, by omega⟩ ⟨by omega, by omega⟩ (fun g => absurd g (by omega)) (fun _ => bO_howMany_29 hK ?_)
      have inner : ∀ (a : Int) (ρ : am_S), a ≤ n → (0 ≤ a ∧ hfr2 σ ρ ∧ ρ 52 0 = 1 ∧ ∀ t : Nat, 0 < t → t < N → ρ 52 t = sumI (hmT A (fun u => ρ 52 (u : Int)) S a t) n.toNat) → K (d + 1) mO_howMany 31 [.inr 50, .inl ((N : Int) - 1), .inl (S : Int), .inl a] [] ρ Q := by
        refine am_up (P := fun a ρ => 0 ≤ a ∧ hfr2 σ ρ ∧ ρ 52 0 = 1 ∧ ∀ t : Nat, 0 < t → t < N → ρ 52 t = sumI (hmT A (fun u => ρ 52 (u : Int)) S a t) n.toNat) (C := fun a ρ => K (d + 1) mO_howMany 31 [.inr 50, .inl ((N : Int) - 1), .inl (S : Int), .inl a] [] ρ Q) (fun ρ hp => ?_) (fun a ρ ha hp ih2 => ?_)
        · obtain ⟨-, cr, f0, fs⟩ := hp
          have z : ρ 50 0 = n := by rw [cr 50 (by decide)]; exact o1
          refine bO_howMany_31 hK ⟨by omega, by omega⟩ (by rw [z]; exact ⟨by omega, by omega⟩) (fun _ => bO_howMany_57 hK (ih ρ ⟨by omega, cr, f0, fun t t0 t1 => ?_⟩)) (fun g => absurd g (by rw [z]; omega))
          rw [fs t t0 t1, show ((S : Int) + 1).toNat = S + 1 by omega]
          refine sumI_cong _ (fun b b0 b1 => ?_)
          unfold hmT
          by_cases q : t.testBit b.toNat = true ∧ nd (A b) t = 0 ∧ (nd t (2 ^ b.toNat) < S ∨ (nd t (2 ^ b.toNat) = S ∧ b < n))
          · rw [if_pos q, if_pos ⟨q.1, q.2.1, Or.inl (by have := q.2.2; omega)⟩]
          · rw [if_neg q, if_neg (fun z => q ⟨z.1, z.2.1, by have := z.2.2; omega⟩)]
        · obtain ⟨a0, cr, f0, fs⟩ := hp
          have z : ρ 50 0 = n := by rw [cr 50 (by decide)]; exact o1
          have z51 : ρ 51 a = (A a : Int) := by rw [cr 51 (by decide)]; exact o2 a a0 ha
          refine bO_howMany_31 hK ⟨by omega, by omega⟩ (by rw [z]; exact ⟨by omega, by omega⟩) (fun g => absurd g (by rw [z]; omega)) (fun _ => ?_)
          refine bO_howMany_35 hK (sO_comesNext hK (by omega) (by omega) (hA a) z51 (fun r hr => ?_))
          have Aa := hAa a a0
          have p8 := pow_lt8 (k := a) (by omega)
          refine bO_howMany_39 hK (r01_g hr) (fun g => bO_howMany_55 hK (ih2 ρ ⟨by omega, cr, f0, fun t t0 t1 => ?_⟩)) (fun g => ?_)
          · have hno := r01_0 hr g
            rw [fs t t0 t1]
            refine sumI_cong _ (fun b b0 b1 => ?_)
            unfold hmT
            by_cases q : t.testBit b.toNat = true ∧ nd (A b) t = 0 ∧ (nd t (2 ^ b.toNat) < S ∨ (nd t (2 ^ b.toNat) = S ∧ b < a))
            · rw [if_pos q, if_pos ⟨q.1, q.2.1, by have := q.2.2; omega⟩]
            · rw [if_neg q, if_neg (fun y => ?_)]
              by_cases eb : b = a
              · obtain ⟨y1, y2, y3⟩ := y
                rw [eb] at y1 y2 y3 q
                have y4 : nd t (2 ^ a.toNat) = S := by
                  rcases y3 with y3 | y3
                  · exact absurd ⟨y1, y2, Or.inl y3⟩ q
                  · exact y3.1
                obtain ⟨u1, u2⟩ := nd_back y1 y4
                apply hno
                refine ⟨u2, ?_⟩
                rw [u1, nd_self2 Aa] at y2
                exact y2
              · exact q ⟨y.1, y.2.1, by have := y.2.2; omega⟩
          · obtain ⟨g1, g2⟩ := r01_n hr g
            obtain ⟨k1, k2, k3⟩ := nd_forth g1
            have k4 := lt_or S a (by omega) a0 ha
            have eor : am_or (S : Int) (am_shl 1 a) = ((S ||| 2 ^ a.toNat : Nat) : Int) := by rw [shl_i a0 (by omega), or_nat (by omega) (by omega)]
            generalize hT : S ||| 2 ^ a.toNat = T at k1 k2 k3 k4 eor
            refine bO_howMany_40 hK (by rw [eor]; omega) (by omega) (by rw [eor]; omega) ?_
            rw [eor]
            refine bO_howMany_55 hK ?_
            generalize hρ : am_us ρ 52 (T : Int) (ρ 52 (T : Int) + ρ 52 (S : Int)) = ρ'
            have w1 : ∀ c', c' ≠ 52 → ρ' c' = ρ c' := fun c' hc' => by rw [← hρ, us_o _ _ _ hc']
            have w2 : ∀ j : Int, j ≠ (T : Int) → ρ' 52 j = ρ 52 j := fun j hj => by rw [← hρ, us_n _ _ _ hj]
            have w3 : ρ' 52 (T : Int) = ρ 52 (T : Int) + ρ 52 (S : Int) := by rw [← hρ, us_e]
            refine ih2 ρ' ⟨by omega, fun c' hc' => (w1 c' hc').trans (cr c' hc'), by rw [w2 0 (by omega)]; exact f0, fun t t0 t1 => ?_⟩
            -- the values below do not change
            have base : ∀ b : Int, hmT A (fun u => ρ' 52 (u : Int)) S a t b = hmT A (fun u => ρ 52 (u : Int)) S a t b := fun b => by
              unfold hmT
              by_cases q : t.testBit b.toNat = true ∧ nd (A b) t = 0 ∧ (nd t (2 ^ b.toNat) < S ∨ (nd t (2 ^ b.toNat) = S ∧ b < a))
              · rw [if_pos q, if_pos q]
                exact w2 _ (by have := q.2.2; omega)
              · rw [if_neg q, if_neg q]
            have other : ∀ b : Int, b ≠ a → hmT A (fun u => ρ' 52 (u : Int)) S (a + 1) t b = hmT A (fun u => ρ 52 (u : Int)) S a t b := fun b hb => by
              rw [← base b]
              unfold hmT
              by_cases q : t.testBit b.toNat = true ∧ nd (A b) t = 0 ∧ (nd t (2 ^ b.toNat) < S ∨ (nd t (2 ^ b.toNat) = S ∧ b < a))
              · rw [if_pos q, if_pos ⟨q.1, q.2.1, by have := q.2.2; omega⟩]
              · rw [if_neg q, if_neg (fun y => q ⟨y.1, y.2.1, by have := y.2.2; omega⟩)]
            rw [sumI_upd a0 other n.toNat (by omega), ← fs t t0 t1]
            by_cases et : t = T
            · subst et
              have e1 : hmT A (fun u => ρ' 52 (u : Int)) S (a + 1) t a = ρ 52 (S : Int) := by
                unfold hmT
                rw [if_pos ⟨k2, by rw [← hT, nd_self2 Aa]; exact g2, Or.inr ⟨k1, by omega⟩⟩, k1]
                exact w2 _ (by omega)
              have e2 : hmT A (fun u => ρ 52 (u : Int)) S a t a = 0 := by
                unfold hmT
                rw [if_neg (fun y => by have := y.2.2; omega)]
              rw [e1, e2, w3]
              omega
            · have e1 : hmT A (fun u => ρ' 52 (u : Int)) S (a + 1) t a = hmT A (fun u => ρ 52 (u : Int)) S a t a := by
                rw [← base a]
                unfold hmT
                by_cases q : t.testBit a.toNat = true ∧ nd (A a) t = 0 ∧ (nd t (2 ^ a.toNat) < S ∨ (nd t (2 ^ a.toNat) = S ∧ a < a))
                · rw [if_pos q, if_pos ⟨q.1, q.2.1, by have := q.2.2; omega⟩]
                · rw [if_neg q, if_neg (fun y => ?_)]
                  obtain ⟨y1, y2, y3⟩ := y
                  rcases y3 with y3 | y3
                  · exact q ⟨y1, y2, Or.inl y3⟩
                  · exact et (by rw [(nd_back y1 y3.1).1, hT])
              rw [e1, w2 _ (by omega)]
              omega
      refine inner 0 τ n0 ⟨Int.le_refl 0, c, e0, hs⟩
  -- the beginning
  have first : ∀ (v : Int) (τ : am_S), v ≤ (N : Int) → (1 ≤ v ∧ hfr2 σ τ ∧ ∀ t : Int, 1 ≤ t → t < v → τ 52 t = 0) → K (d + 1) mO_howMany 9 [.inr 50, .inl ((N : Int) - 1), .inl v] [] τ Q := by
    refine am_up (P := fun v τ => 1 ≤ v ∧ hfr2 σ τ ∧ ∀ t : Int, 1 ≤ t → t < v → τ 52 t = 0) (C := fun v τ => K (d + 1) mO_howMany 9 [.inr 50, .inl ((N : Int) - 1), .inl v] [] τ Q) (fun τ hp => ?_) (fun v τ hv hp ih => ?_)
    · obtain ⟨-, c, hz⟩ := hp
      refine bO_howMany_9 hK ⟨by omega, by omega⟩ ⟨by omega, by omega⟩ (fun _ => bO_howMany_19 hK (outer 0 _ (by omega) ⟨Int.le_refl 0, fun c' hc' => by rw [us_o _ _ _ hc']; exact c c' hc', us_e _ _ _ _, fun t t0 t1 => ?_⟩)) (fun g => absurd g (by omega))
      rw [us_n _ _ _ (by omega), hz t (by omega) (by omega)]
      have e : sumI (hmT A (fun u => am_us τ 52 0 1 52 (u : Int)) (0 : Int).toNat 0 t) n.toNat = sumI (fun _ => 0) n.toNat := sumI_cong _ (fun b b0 b1 => by
        unfold hmT
        rw [if_neg (fun y => by have := y.2.2; omega)])
      rw [e]
      have z : ∀ m : Nat, sumI (fun _ => (0 : Int)) m = 0 := fun m => by
        induction m with
        | zero => rfl
        | succ m ih => rw [sumI, ih]; rfl
      exact (z _).symm
    · obtain ⟨v1, c, hz⟩ := hp
      refine bO_howMany_9 hK ⟨by omega, by omega⟩ ⟨by omega, by omega⟩ (fun g => absurd g (by omega)) (fun _ => bO_howMany_12 hK (by omega) (ih _ ⟨by omega, fun c' hc' => by rw [us_o _ _ _ hc']; exact c c' hc', fun t t1 t2 => ?_⟩))
      rw [us_s]
      by_cases e : t = v
      · rw [if_pos e]
      · rw [if_neg e]
        exact hz t t1 (by omega)
  exact first 1 σ (by omega) ⟨Int.le_refl 1, fun _ _ => rfl, fun t t1 t2 => absurd t2 (by omega)⟩
