/-! the first order -/
theorem ilt (a b : Int) : a < b ∨ b ≤ a := by omega
theorem least_nat {P : Nat → Prop} (h : ∃ n, P n) : ∃ n, P n ∧ ∀ m, m < n → ¬ P m := by
  obtain ⟨n, hn⟩ := h
  have key : ∀ k m, m < k → P m → ∃ n, P n ∧ ∀ m, m < n → ¬ P m := by
    intro k
    induction k with
    | zero =>
      intro m hm
      exact absurd hm (Nat.not_lt_zero m)
    | succ k ih =>
      intro m hm hP
      by_cases q : ∃ m', m' < m ∧ P m'
      · obtain ⟨m', h1, h2⟩ := q
        exact ih m' (by omega) h2
      · exact ⟨m, hP, fun m' h1 h2 => q ⟨m', h1, h2⟩⟩
  exact key (n + 1) n (Nat.lt_succ_self n) hn
theorem gap_ex {W : WS} {a b : Int} (hE : Exi W) (hr : ∀ w, W w → (0 ≤ w a ∧ w a ≤ 199) ∧ (0 ≤ w b ∧ w b ≤ 199)) : IsGap W a b (gp W a b) := by
  obtain ⟨w0, h0⟩ := hE
  have r0 := hr w0 h0
  obtain ⟨m, ⟨w, hw, e⟩, hl⟩ := least_nat (P := fun m => ∃ w, W w ∧ w b - w a + 200 = (m : Int)) ⟨(w0 b - w0 a + 200).toNat, w0, h0, by omega⟩
  have hg : IsGap W a b ((m : Int) - 200) := by
    refine ⟨⟨w, hw, by omega⟩, fun w' hw' => ?_⟩
    have r := hr w' hw'
    rcases ilt (w' b - w' a) ((m : Int) - 200) with q | q
    · exact absurd ⟨w', hw', by omega⟩ (hl (w' b - w' a + 200).toNat (by omega))
    · exact q
  rw [← gp_u hg]
  exact hg
theorem argmin {f : Int → Int} {p : Int → Prop} : ∀ (n : Nat), (∃ a : Int, 0 ≤ a ∧ a < n ∧ p a) → ∃ a : Int, 0 ≤ a ∧ a < n ∧ p a ∧ ∀ b : Int, 0 ≤ b → b < n → p b → f a ≤ f b
  | 0, ⟨a, h0, h1, _⟩ => by omega
  | n + 1, ⟨a, h0, h1, h2⟩ => by
    by_cases q : ∃ a : Int, 0 ≤ a ∧ a < n ∧ p a
    · obtain ⟨c, c0, c1, c2, c3⟩ := argmin (f := f) n q
      by_cases hp : p n ∧ f n < f c
      · refine ⟨n, by omega, by omega, hp.1, fun b b0 b1 b2 => ?_⟩
        by_cases e : b = n
        · rw [e]; exact Int.le_refl _
        · have := c3 b b0 (by omega) b2
          omega
      · refine ⟨c, c0, by omega, c2, fun b b0 b1 b2 => ?_⟩
        by_cases e : b = n
        · subst e
          have : ¬ f n < f c := fun z => hp ⟨b2, z⟩
          omega
        · exact c3 b b0 (by omega) b2
    · have e : a = n := by
        rcases ilt a n with z | z
        · exact absurd ⟨a, h0, z, h2⟩ q
        · omega
      subst e
      refine ⟨n, h0, h1, h2, fun b b0 b1 b2 => ?_⟩
      by_cases e : b = n
      · rw [e]; exact Int.le_refl _
      · exact absurd ⟨b, b0, by omega, b2⟩ q
def okN (A : Int → Nat) (s : Nat) (a : Int) : Prop := s.testBit a.toNat = false ∧ nd (A a) s = 0
def IsNx (n : Int) (A : Int → Nat) (s : Nat) (a : Int) : Prop := (0 ≤ a ∧ a < n) ∧ okN A s a ∧ ∀ b, 0 ≤ b → b < a → ¬ okN A s b
noncomputable def nxt (n : Int) (A : Int → Nat) (s : Nat) : Int := Classical.epsilon (IsNx n A s)
theorem nxt_u {n : Int} {A : Int → Nat} {s : Nat} {a : Int} (h : IsNx n A s a) : a = nxt n A s := by
  have e : IsNx n A s (nxt n A s) := Classical.epsilon_spec (p := IsNx n A s) ⟨a, h⟩
  rcases ilt a (nxt n A s) with q | q
  · exact absurd h.2.1 (e.2.2 a h.1.1 q)
  · rcases ilt (nxt n A s) a with q2 | q2
    · exact absurd e.2.1 (h.2.2 _ e.1.1 q2)
    · omega
theorem nxt_ex {n : Int} {A : Int → Nat} {s : Nat} (h : ∃ a, (0 ≤ a ∧ a < n) ∧ okN A s a) : IsNx n A s (nxt n A s) := by
  obtain ⟨a, ha, hok⟩ := h
  obtain ⟨m, ⟨hm, hk⟩, hl⟩ := least_nat (P := fun m => (m : Int) < n ∧ okN A s (m : Int)) ⟨a.toNat, by omega, by rw [show ((a.toNat : Nat) : Int) = a by omega]; exact hok⟩
  refine Classical.epsilon_spec (p := IsNx n A s) ⟨(m : Int), ⟨by omega, hm⟩, hk, fun b b0 b1 q => ?_⟩
  exact hl b.toNat (by omega) ⟨by omega, by rw [show ((b.toNat : Nat) : Int) = b by omega]; exact q⟩
/-- those that are placed, the last one of them -/
noncomputable def sqn (n : Int) (A : Int → Nat) : Nat → Nat × Int
  | 0 => (0, -9)
  | x + 1 => ((sqn n A x).1 ||| 2 ^ (nxt n A (sqn n A x).1).toNat, nxt n A (sqn n A x).1)
theorem cnt_cong {p q : Int → Prop} : ∀ (n : Nat), (∀ k : Nat, k < n → (p (k : Int) ↔ q (k : Int))) → cnt p n = cnt q n
  | 0, _ => rfl
  | n + 1, h => by
    rw [cnt, cnt, cnt_cong n (fun k hk => h k (by omega))]
    by_cases z : p (n : Int)
    · rw [ic_t z, ic_t ((h n (by omega)).mp z)]
    · rw [ic_f z, ic_f (fun y => z ((h n (by omega)).mpr y))]
theorem cnt_add {p q : Int → Prop} {a : Nat} (hq : ∀ k : Nat, q (k : Int) ↔ p (k : Int) ∨ k = a) (ha : ¬ p (a : Int)) : ∀ (n : Nat), cnt q n = cnt p n + (if a < n then 1 else 0)
  | 0 => by simp [cnt]
  | n + 1 => by
    rw [cnt, cnt, cnt_add hq ha n]
    by_cases e : n = a
    · subst e
      rw [ic_t ((hq n).mpr (Or.inr rfl)), ic_f ha, if_neg (by omega), if_pos (by omega)]
    · by_cases z : p (n : Int)
      · rw [ic_t z, ic_t ((hq n).mpr (Or.inl z))]
        split <;> split <;> omega
      · rw [ic_f z, ic_f (fun y => by rcases (hq n).mp y with y | y; exact z y; exact e y)]
        split <;> split <;> omega
theorem cnt_all {p : Int → Prop} : ∀ (n : Nat), (∀ k : Nat, k < n → p (k : Int)) → cnt p n = n
  | 0, _ => rfl
  | n + 1, h => by
    rw [cnt, cnt_all n (fun k hk => h k (by omega)), ic_t (h n (by omega))]
    omega
def bitP (s : Nat) (k : Int) : Prop := s.testBit k.toNat = true
/-- one can always be placed -/
theorem place_ex {n : Int} {W : WS} (n0 : 0 ≤ n) (hE : Exi W) (hr : ∀ w, W w → ∀ a, 0 ≤ a → a < n → 0 ≤ w a ∧ w a ≤ 199) {s : Nat} (hs : cnt (bitP s) n.toNat < n) : ∃ a, (0 ≤ a ∧ a < n) ∧ okN (ahm n W) s a := by
  have hne : ∃ a : Int, 0 ≤ a ∧ a < (n.toNat : Int) ∧ s.testBit a.toNat = false := by
    rcases Classical.em (∃ a : Int, 0 ≤ a ∧ a < (n.toNat : Int) ∧ s.testBit a.toNat = false) with q | q
    · exact q
    · exfalso
      have hall := cnt_all (p := bitP s) n.toNat (fun k hk => by
        unfold bitP
        rw [show ((k : Int)).toNat = k by omega]
        cases e : s.testBit k with
        | true => rfl
        | false => exact absurd ⟨(k : Int), by omega, by omega, by rw [show ((k : Int)).toNat = k by omega]; exact e⟩ q)
      omega
  obtain ⟨w, hw⟩ := id hE
  obtain ⟨a, a0, a1, a2, a3⟩ := argmin (f := w) (p := fun a => s.testBit a.toNat = false) n.toNat hne
  refine ⟨a, ⟨a0, by omega⟩, a2, ?_⟩
  apply Nat.eq_of_testBit_eq
  intro k
  rw [nd_bit, Nat.zero_testBit]
  cases hk : (ahm n W a).testBit k with
  | false => rfl
  | true =>
    obtain ⟨k1, k2, k3⟩ := (mk_bit _ _ _).mp hk
    have hg := gap_ex (a := (k : Int)) (b := a) hE (fun w hw => ⟨hr w hw _ (by omega) (by omega), hr w hw a a0 (by omega)⟩)
    have hlt := (Ahd_w hg).mp k3 w hw
    cases hb : s.testBit k with
    | true => rfl
    | false =>
      have := a3 (k : Int) (by omega) (by omega) (by rw [show ((k : Int)).toNat = k by omega]; exact hb)
      omega
theorem sqn_ok {n : Int} {W : WS} (n0 : 0 ≤ n) (n8 : n ≤ 8) (hE : Exi W) (hr : ∀ w, W w → ∀ a, 0 ≤ a → a < n → 0 ≤ w a ∧ w a ≤ 199) : ∀ x : Nat, (x : Int) ≤ n → cnt (bitP (sqn n (ahm n W) x).1) n.toNat = x ∧ (sqn n (ahm n W) x).1 < 256
  | 0, _ => by
    refine ⟨?_, (by decide : (0 : Nat) < 256)⟩
    have : ∀ m : Nat, cnt (bitP 0) m = 0 := fun m => by
      induction m with
      | zero => rfl
      | succ m ih => rw [cnt, ih, ic_f (by unfold bitP; simp)]; rfl
    exact this _
  | x + 1, h => by
    obtain ⟨h1, h2⟩ := sqn_ok n0 n8 hE hr x (by omega)
    have hx := nxt_ex (place_ex n0 hE hr (s := (sqn n (ahm n W) x).1) (by omega))
    have e1 : (sqn n (ahm n W) (x + 1)).1 = (sqn n (ahm n W) x).1 ||| 2 ^ (nxt n (ahm n W) (sqn n (ahm n W) x).1).toNat := rfl
    rw [e1]
    generalize (sqn n (ahm n W) x).1 = s at h1 h2 hx ⊢
    generalize nxt n (ahm n W) s = a at hx ⊢
    constructor
    · have := cnt_add (p := bitP s) (q := bitP (s ||| 2 ^ a.toNat)) (a := a.toNat) (fun k => by
        unfold bitP
        rw [Nat.testBit_or, Nat.testBit_two_pow, Bool.or_eq_true, decide_eq_true_iff, show ((k : Int)).toNat = k by omega]
        exact ⟨fun z => z.elim Or.inl (fun y => Or.inr y.symm), fun z => z.elim Or.inl (fun y => Or.inr y.symm)⟩) (by
        unfold bitP
        rw [show ((a.toNat : Nat) : Int).toNat = a.toNat by omega, hx.2.1.1]
        decide) n.toNat
      rw [this, if_pos (by have := hx.1; omega), h1]
      omega
    · have := Nat.or_lt_two_pow (n := 8) (x := s) (y := 2 ^ a.toNat) (by omega) (Nat.pow_lt_pow_right (by decide) (by have := hx.1; omega))
      omega
noncomputable def aOrder (n : Int) (W : WS) (k : Int) : Int := if ¬ (0 ≤ k ∧ k ≤ 7) then -2 else ic (Exi W) (if n ≤ k then -9 else (sqn n (ahm n W) (k + 1).toNat).2) (-3)
theorem sM_order {K : am_KT} (hK : am_C K) {d : Nat} {σ : am_S} {Q : am_Q} {k : Int} (rk : am_rng k) (hm : Mok σ) (h : ∀ σ', mfr σ σ' → Q (some (aOrder (σ 0 0) (WM σ) k)) σ') : K (d + 7) mM_order 0 [.inr 0, .inl k] [] σ Q := by
  have n0 : 0 ≤ σ 0 0 := hm.1.1.1
  have n8 : σ 0 0 ≤ 8 := hm.1.1.2
  unfold aOrder at h
  refine bM_order_0 (d := d + 6) hK (sM_within hK rk ⟨by decide, by decide⟩ ⟨by decide, by decide⟩ (fun r hr => ?_))
  refine bM_order_4 (d := d + 6) hK (r01_g hr) (fun g => ?_) (fun g => bM_order_5 (d := d + 6) hK ?_)
  · have gk := r01_n hr g
    rw [if_neg (fun q => q gk)] at h
    refine bM_order_7 (d := d + 6) hK (sM_closeNow (d := d + 2) hK hm (fun r σ1 c hr => ?_))
    have h2 := Nw_r hr
    refine bM_order_9 (d := d + 6) hK (r01_g h2) (fun g => ?_) (fun g => bM_order_10 (d := d + 6) hK ?_)
    · have h3 := r01_n h2 g
      rw [ic_t h3] at h
      have cm := mfr_c c
      have e00 : σ1 0 0 = σ 0 0 := c.2 0 (by decide)
      refine bM_order_12 (d := d + 6) hK rk (by rw [e00]; exact ⟨by omega, by omega⟩) (fun g => ?_) (fun g => ?_)
      · rw [e00] at g
        rw [if_neg (by omega)] at h
        refine bM_order_18 (d := d + 6) hK (sM_findAhead hK (Mok_m cm hm) (by rw [WM_m cm]; exact h3) (fun σ2 c2 hA => ?_))
        unfold AhI at hA
        rw [WM_m cm, e00] at hA
        have cm2 : mfr σ σ2 := mfr_tr cm (mfr_h c2)
        have hway : ∀ w, WM σ w → ∀ a, 0 ≤ a → a < σ 0 0 → 0 ≤ w a ∧ w a ≤ 199 := fun w hw a a0 an => Way_r hm.1 hw a0 an
        have hsq := sqn_ok n0 n8 h3 hway
        have Alt : ∀ a, ahm (σ 0 0) (WM σ) a < 256 := fun a => by
          have h1 := mk_lt (fun a' => Ahd (WM σ) a' a) (σ 0 0).toNat
          have h2 := pow_lt8 n8
          unfold ahm
          omega
        refine bM_order_20 (d := d + 6) hK ?_
        have outer : ∀ (x : Int) (t : Int × Int), x ≤ k + 1 → (0 ≤ x ∧ t = (((sqn (σ 0 0) (ahm (σ 0 0) (WM σ)) x.toNat).1 : Int), (sqn (σ 0 0) (ahm (σ 0 0) (WM σ)) x.toNat).2)) → K (d + 7) mM_order 26 [.inr 0, .inl k, .inl t.1, .inl t.2, .inl x] [] σ2 Q := by
          refine am_up (P := fun x (t : Int × Int) => 0 ≤ x ∧ t = (((sqn (σ 0 0) (ahm (σ 0 0) (WM σ)) x.toNat).1 : Int), (sqn (σ 0 0) (ahm (σ 0 0) (WM σ)) x.toNat).2)) (C := fun x t => K (d + 7) mM_order 26 [.inr 0, .inl k, .inl t.1, .inl t.2, .inl x] [] σ2 Q) (fun t hp => ?_) (fun x t hx hp ih => ?_)
          · obtain ⟨-, rfl⟩ := hp
            exact bM_order_26 (d := d + 6) hK ⟨by omega, by omega⟩ rk (fun _ => bM_order_57 (d := d + 6) hK (h σ2 cm2)) (fun g => absurd g (by omega))
          · obtain ⟨x0, rfl⟩ := hp
            have hsx := hsq x.toNat (by omega)
            have hnx := nxt_ex (place_ex n0 h3 hway (s := (sqn (σ 0 0) (ahm (σ 0 0) (WM σ)) x.toNat).1) (by omega))
            have hih := ih (((sqn (σ 0 0) (ahm (σ 0 0) (WM σ)) (x + 1).toNat).1 : Int), (sqn (σ 0 0) (ahm (σ 0 0) (WM σ)) (x + 1).toNat).2) ⟨by omega, rfl⟩
            rw [show (x + 1).toNat = x.toNat + 1 by omega, sqn] at hih
            dsimp only at hih ⊢
            generalize (sqn (σ 0 0) (ahm (σ 0 0) (WM σ)) x.toNat).1 = s at hsx hnx hih ⊢
            generalize (sqn (σ 0 0) (ahm (σ 0 0) (WM σ)) x.toNat).2 = v3
            refine bM_order_26 (d := d + 6) hK ⟨by omega, by omega⟩ rk (fun g => absurd g (by omega)) (fun _ => bM_order_29 (d := d + 6) hK ?_)
            generalize hN : nxt (σ 0 0) (ahm (σ 0 0) (WM σ)) s = N at hnx hih
            have hNr := hnx.1
            have inner : ∀ (i : Int) (u : Unit), i ≤ N → (0 ≤ i) → K (d + 7) mM_order 31 [.inr 0, .inl k, .inl (s : Int), .inl i, .inl x] [] σ2 Q := by
              refine am_up (P := fun i (_ : Unit) => 0 ≤ i) (C := fun i _ => K (d + 7) mM_order 31 [.inr 0, .inl k, .inl (s : Int), .inl i, .inl x] [] σ2 Q) (fun _ _ => ?_) (fun i _ hi i0 ih2 => ?_)
              · have ea : ((N.toNat : Nat) : Int) = N := by omega
                refine bM_order_31 (d := d + 6) hK (rng_and _ _) (fun g => ?_) (fun _ => ?_)
                · rw [← ea, bit_shr_nat (by omega), hnx.2.1.1] at g
                  simp at g
                · have e12 : σ2 12 N = (ahm (σ 0 0) (WM σ) N : Int) := by rw [hA N hNr.1 (by omega), if_pos hNr.2]
                  refine bM_order_38 (d := d + 6) hK (by omega) (rng_and _ _) (fun _ => bM_order_49 (d := d + 6) hK ?_) (fun g => ?_)
                  · rw [shl_i hNr.1 (by omega), or_nat (by omega) (by have := pow_lt8 (k := N) (by omega); omega)]
                    exact hih
                  · rw [e12, andn_nat (by have := Alt N; omega), hnx.2.1.2] at g
                    exact absurd rfl g
              · have ei : ((i.toNat : Nat) : Int) = i := by omega
                refine bM_order_31 (d := d + 6) hK (rng_and _ _) (fun _ => bM_order_47 (d := d + 6) hK (ih2 () (by omega))) (fun g => ?_)
                rw [← ei, bit_shr_nat (by omega)] at g
                have gb : s.testBit i.toNat = false := by
                  cases q : s.testBit i.toNat with
                  | false => rfl
                  | true => rw [q] at g; simp at g
                have e12 : σ2 12 i = (ahm (σ 0 0) (WM σ) i : Int) := by rw [hA i i0 (by omega), if_pos (by omega)]
                refine bM_order_38 (d := d + 6) hK (by omega) (rng_and _ _) (fun g2 => ?_) (fun _ => bM_order_47 (d := d + 6) hK (ih2 () (by omega)))
                rw [e12, andn_nat (by have := Alt i; omega)] at g2
                exact absurd ⟨gb, by omega⟩ (hnx.2.2 i i0 hi)
            exact inner 0 () hNr.1 (Int.le_refl 0)
        exact outer 0 (0, -9) (by omega) ⟨Int.le_refl 0, rfl⟩
      · rw [e00] at g
        rw [if_pos g] at h
        exact bM_order_16 (d := d + 6) hK (h σ1 cm)
    · rw [ic_f (r01_0 h2 g)] at h
      exact h σ1 (mfr_c c)
  · rw [if_pos (r01_0 hr g)] at h
    exact h σ (mfr_rf σ)
