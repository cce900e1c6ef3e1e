/-! the class: Ways: sweep, and what is asked of the ways -/
theorem SwV_cong {n : Int} {W : WS} {f30 f31 f32 f33 g30 g31 g32 g33 : Int → Int} {a : Int} (n8 : n ≤ 8) (h30 : ∀ y, 0 ≤ y → y < 200 → g30 (a * 200 + y) = f30 (a * 200 + y)) (h31 : g31 a = f31 a) (h32 : ∀ b, 0 ≤ b → b < 8 → g32 (a * 8 + b) = f32 (a * 8 + b)) (h33 : g33 a = f33 a) (h : SwV n W f30 f31 f32 f33 a) : SwV n W g30 g31 g32 g33 a := by
  obtain ⟨h1, h2, h3, h4⟩ := h
  refine ⟨fun y y0 y1 => ?_, by rw [h31]; exact h2, fun b b0 bn => ?_, by rw [h33]; exact h4⟩
  · rw [h30 y y0 y1]
    exact h1 y y0 y1
  · rw [h32 b b0 (by omega)]
    exact h3 b b0 bn
theorem bit_or2 (m k i : Nat) : (m ||| 2 ^ k).testBit i = true ↔ m.testBit i = true ∨ k = i := by
  rw [Nat.testBit_or, Bool.or_eq_true, Nat.testBit_two_pow, decide_eq_true_iff]
theorem YE_pr {σ : am_S} (hc : Cok σ) (hy : YE σ) : (0 ≤ σ 17 0 ∧ σ 17 0 ≤ 8) ∧ ∀ w, WC σ w → ∀ a, 0 ≤ a → a < σ 17 0 → 0 ≤ w a ∧ w a ≤ 199 := ⟨hc.1.1, fun w hw a a0 an => Way_r hc.1 hw a0 an⟩
set_option maxHeartbeats 1000000 in
theorem sY_sweep {K : am_KT} (hK : am_C K) {d : Nat} {σ : am_S} {Q : am_Q} {a : Int} (hc : Cok σ) (hy : YE σ) (ha : 0 ≤ a ∧ a < σ 17 0)
    (h : ∀ σ', yfr σ σ' → YE σ' → SwV (σ 17 0) (WC σ) (σ' 30) (σ' 31) (σ' 32) (σ' 33) a → Q none σ') : K (d + 3) mY_sweep 0 [.inr 26, .inl a] [] σ Q := by
  obtain ⟨⟨n0, n8⟩, hR⟩ := YE_pr hc hy
  obtain ⟨y1, y2, hV, hS, hL, m, em, ml, hm⟩ := id hy
  have sa := shl_i ha.1 (by omega : a < 31)
  have ea : ((a.toNat : Nat) : Int) = a := by omega
  have p8 : 2 ^ a.toNat < 256 := Nat.pow_lt_pow_right (a := 2) (by decide) (show a.toNat < 8 by omega)
  refine bY_sweep_0 (d := d + 2) hK (rng_and _ _) (fun g => ?_) (fun g => ?_)
  · refine bY_sweep_21 (d := d + 2) hK (h σ (yfr_rf σ) hy (hm a ha.1 ha.2 ?_))
    cases q : m.testBit a.toNat with
    | true => rfl
    | false =>
      exfalso
      apply g
      rw [em, ← ea]
      exact (and_shl0 (by omega) (by omega)).mpr q
  · refine bY_sweep_7 (d := d + 2) hK (sY_sweepUp hK n8 ha hV hS hL hR (fun σ1 c1 u1 => ?_))
    have f1 := c1.1
    have e17 : σ1 17 0 = σ 17 0 := by rw [f1 17 (by decide)]
    have V1 : WebV σ1 34 (σ 17 0) 20 := by
      unfold WebV
      rw [f1 34 (by decide), f1 (34 + 1) (by decide), f1 (34 + 2) (by decide), f1 (34 + 3) (by decide), f1 (34 + 4) (by decide), f1 (34 + 5) (by decide), f1 (34 + 6) (by decide)]
      exact hV
    have S1 : ∀ w, wSol σ1 34 w ↔ WC σ w := fun w => by
      rw [← hS w]
      unfold wSol wSat
      rw [f1 34 (by decide), f1 (34 + 1) (by decide), f1 (34 + 2) (by decide), f1 (34 + 3) (by decide), f1 (34 + 4) (by decide), f1 (34 + 5) (by decide), f1 (34 + 6) (by decide)]
    refine bY_sweep_10 (d := d + 2) hK (sY_sweepDown hK (W := WC σ) (by rw [e17]; exact n8) (by rw [e17]; exact ha) (by rw [e17]; exact V1) S1 (by rw [e17, f1 27 (by decide), f1 28 (by decide)]; exact hL) (by rw [e17]; exact hR) (by rw [e17]; exact u1.1) (fun σ2 c2 r2 r3 => ?_))
    rw [e17] at r2
    refine bY_sweep_13 (d := d + 2) hK (bY_sweep_21 (d := d + 2) hK ?_)
    have e7 : σ2 26 7 = (m : Int) := by rw [c2.1 26 (by decide) (by decide), f1 26 (by decide), em]
    rw [e7, sa, or_nat (by omega) (by omega)]
    generalize hυ : am_us σ2 26 7 ((m ||| 2 ^ a.toNat : Nat) : Int) = υ
    have k1 : ∀ c, c ≠ 26 → υ c = σ2 c := fun c hcc => by rw [← hυ, us_o _ _ _ hcc]
    have k26 : ∀ j, j ≠ 7 → υ 26 j = σ 26 j := fun j hj => by rw [← hυ, us_n _ _ _ hj, c2.1 26 (by decide) (by decide), f1 26 (by decide)]
    have k7 : υ 26 7 = ((m ||| 2 ^ a.toNat : Nat) : Int) := by rw [← hυ, us_e]
    have f2 : ∀ c, c ≠ 26 → (c < 29 ∨ 33 < c) → υ c = σ c := fun c h6 hcc => by rw [k1 c h6, c2.1 c (by omega) (by omega), f1 c (by omega)]
    have yf : yfr σ υ := fun c hcc => f2 c (by omega) (by omega)
    have g30 : υ 30 = σ1 30 := by rw [k1 30 (by decide), c2.1 30 (by decide) (by decide)]
    have g31 : υ 31 = σ1 31 := by rw [k1 31 (by decide), c2.1 31 (by decide) (by decide)]
    have g32 : υ 32 = σ1 32 := by rw [k1 32 (by decide), c2.1 32 (by decide) (by decide)]
    have g33 : υ 33 = σ2 33 := k1 33 (by decide)
    have here : SwV (σ 17 0) (WC σ) (υ 30) (υ 31) (υ 32) (υ 33) a := by
      rw [g30, g31, g32, g33]
      refine ⟨u1.1, u1.2.1, fun b b0 bn => ?_, r2, r3⟩
      obtain ⟨q1, q2⟩ := u1.2.2 b b0 bn
      refine ⟨?_, fun w hw => q1 w hw (by have := hR w hw a ha.1 ha.2; omega)⟩
      rcases q2 with q | q
      · exfalso
        have w1 := q1 _ hL.1.1 (by have := hR _ hL.1.1 a ha.1 ha.2; omega)
        have w2 := hR _ hL.1.1 a ha.1 ha.2
        have w3 := hR _ hL.1.1 b b0 bn
        omega
      · exact q
    refine h υ yf ⟨by rw [k26 0 (by decide)]; exact y1, by rw [k26 6 (by decide)]; exact y2, ?_, ?_, ?_, m ||| 2 ^ a.toNat, k7, Nat.or_lt_two_pow (n := 8) (by omega) (by omega), fun x x0 xn hb => ?_⟩ here
    · rw [yf 17 (by decide)]
      unfold WebV
      rw [f2 34 (by decide) (by decide), f2 (34 + 1) (by decide) (by decide), f2 (34 + 2) (by decide) (by decide), f2 (34 + 3) (by decide) (by decide), f2 (34 + 4) (by decide) (by decide), f2 (34 + 5) (by decide) (by decide), f2 (34 + 6) (by decide) (by decide)]
      exact hV
    · intro w
      rw [WC_y yf, ← hS w]
      unfold wSol wSat
      rw [f2 34 (by decide) (by decide), f2 (34 + 1) (by decide) (by decide), f2 (34 + 2) (by decide) (by decide), f2 (34 + 3) (by decide) (by decide), f2 (34 + 4) (by decide) (by decide), f2 (34 + 5) (by decide) (by decide), f2 (34 + 6) (by decide) (by decide)]
    · rw [yf 17 (by decide), WC_y yf, f2 27 (by decide) (by decide), f2 28 (by decide) (by decide)]
      exact hL
    · rw [yf 17 (by decide)] at xn ⊢
      rw [WC_y yf]
      by_cases e : x = a
      · rw [e]
        exact here
      · have hb2 := (bit_or2 m a.toNat x.toNat).mp hb
        have hb3 : m.testBit x.toNat = true := by
          rcases hb2 with q | q
          · exact q
          · omega
        refine SwV_cong n8 (fun y z0 z1 => ?_) ?_ (fun b b0 b1 => ?_) ?_ (hm x x0 xn hb3)
        · rw [g30]
          exact c1.2.1 _ (by omega)
        · rw [g31]
          exact c1.2.2.1 _ e
        · rw [g32]
          exact c1.2.2.2 _ (by omega)
        · rw [g33, c2.2 x e, f1 33 (by decide)]
theorem LsE_r {n : Int} {W : WS} {a y e : Int} (n0 : 0 ≤ n) (n8 : n ≤ 8) (hR : ∀ w, W w → ∀ a, 0 ≤ a → a < n → 0 ≤ w a ∧ w a ≤ 199) (h : LsE n W a y e) : am_rng e ∧ r01 (if e = -1 then 0 else 1) (Can W a y) := by
  rcases h with ⟨q, hno⟩ | ⟨x, x1, x2, x3, q⟩
  · rw [q, if_pos rfl]
    exact ⟨⟨by decide, by decide⟩, Or.inr ⟨rfl, hno⟩⟩
  · have q1 := sumI_lb (f := x) (c := 0) n.toNat (fun b b0 bn => (hR x x1 b b0 (by omega)).1)
    have q2 := sumI_ub (f := x) (c := 199) n.toNat (fun b b0 bn => (hR x x1 b b0 (by omega)).2)
    rw [if_neg (by omega)]
    exact ⟨⟨by omega, by omega⟩, Or.inl ⟨rfl, x, x1, x2⟩⟩
theorem sY_allow {K : am_KT} (hK : am_C K) {d : Nat} {σ : am_S} {Q : am_Q} {a y : Int} (hc : Cok σ) (hy : YE σ) (ha : 0 ≤ a ∧ a < σ 17 0) (y0 : 0 ≤ y) (y1 : y ≤ 199) (h : ∀ r σ', yfr σ σ' → YE σ' → r01 r (Can (WC σ) a y) → Q (some r) σ') : K (d + 4) mY_allow 0 [.inr 26, .inl a, .inl y] [] σ Q := by
  obtain ⟨⟨n0, n8⟩, hR⟩ := YE_pr hc hy
  refine bY_allow_0 (d := d + 3) hK (sY_sweep hK hc hy ha (fun σ1 c1 e1 s1 => ?_))
  obtain ⟨q1, q2⟩ := LsE_r n0 n8 hR (s1.1 y y0 (by omega))
  refine bY_allow_3 (d := d + 3) hK (by omega) q1 (fun g => bY_allow_15 (d := d + 3) hK (bY_allow_16 (d := d + 3) hK (Or.inl rfl) (h 0 σ1 c1 e1 ?_))) (fun g => bY_allow_13 (d := d + 3) hK (bY_allow_16 (d := d + 3) hK (Or.inr rfl) (h 1 σ1 c1 e1 ?_)))
  · rw [if_pos g] at q2
    exact q2
  · rw [if_neg g] at q2
    exact q2
theorem sY_daysOpenTo {K : am_KT} (hK : am_C K) {d : Nat} {σ : am_S} {Q : am_Q} {a : Int} (hc : Cok σ) (hy : YE σ) (ha : 0 ≤ a ∧ a < σ 17 0) (h : ∀ σ', yfr σ σ' → YE σ' → Q (some (cnt (Can (WC σ) a) 200)) σ') : K (d + 4) mY_daysOpenTo 0 [.inr 26, .inl a] [] σ Q := by
  obtain ⟨⟨n0, n8⟩, hR⟩ := YE_pr hc hy
  refine bY_daysOpenTo_0 (d := d + 3) hK (sY_sweep hK hc hy ha (fun σ1 c1 e1 s1 => bY_daysOpenTo_3 (d := d + 3) hK (by omega) ?_))
  rw [s1.2.1]
  exact h σ1 c1 e1
theorem sY_leastGap {K : am_KT} (hK : am_C K) {d : Nat} {σ : am_S} {Q : am_Q} {a b : Int} (hc : Cok σ) (hy : YE σ) (ha : 0 ≤ a ∧ a < σ 17 0) (hb : 0 ≤ b ∧ b < σ 17 0) (h : ∀ σ', yfr σ σ' → YE σ' → Q (some (gp (WC σ) a b)) σ') : K (d + 4) mY_leastGap 0 [.inr 26, .inl a, .inl b] [] σ Q := by
  obtain ⟨⟨n0, n8⟩, hR⟩ := YE_pr hc hy
  refine bY_leastGap_0 (d := d + 3) hK (sY_sweep hK hc hy ha (fun σ1 c1 e1 s1 => bY_leastGap_3 (d := d + 3) hK (by omega) ?_))
  rw [gp_u (s1.2.2.1 b hb.1 hb.2)]
  exact h σ1 c1 e1
theorem sY_greatestRest {K : am_KT} (hK : am_C K) {d : Nat} {σ : am_S} {Q : am_Q} {a : Int} (hc : Cok σ) (hy : YE σ) (ha : 0 ≤ a ∧ a < σ 17 0) (h : ∀ σ', yfr σ σ' → YE σ' → (0 ≤ wst (σ 17 0) (WC σ) a 200 ∧ wst (σ 17 0) (WC σ) a 200 ≤ 1592) → Q (some (wst (σ 17 0) (WC σ) a 200)) σ') : K (d + 4) mY_greatestRest 0 [.inr 26, .inl a] [] σ Q := by
  obtain ⟨⟨n0, n8⟩, hR⟩ := YE_pr hc hy
  refine bY_greatestRest_0 (d := d + 3) hK (sY_sweep hK hc hy ha (fun σ1 c1 e1 s1 => bY_greatestRest_3 (d := d + 3) hK (by omega) ?_))
  have b := s1.2.2.2.2
  rw [s1.2.2.2.1] at b ⊢
  exact h σ1 c1 e1 ⟨(wst_c _ _ _ 200).1, b⟩
/-- the sign of a gap -/
theorem gap_s {W : WS} {a b g : Int} (h : IsGap W a b g) : 0 < g ↔ Ahd W a b := by
  unfold Ahd
  rw [← gp_u h]
  constructor
  · intro hg
    refine ⟨fun e => ?_, hg⟩
    obtain ⟨⟨w, hw, e2⟩, -⟩ := h
    rw [e] at e2
    omega
  · exact fun z => z.2
theorem gap_r {W : WS} {n a b g : Int} (hR : ∀ w, W w → ∀ a, 0 ≤ a → a < n → 0 ≤ w a ∧ w a ≤ 199) (ha : 0 ≤ a ∧ a < n) (hb : 0 ≤ b ∧ b < n) (h : IsGap W a b g) : am_rng g := by
  obtain ⟨⟨w, hw, e⟩, -⟩ := h
  have := hR w hw a ha.1 ha.2
  have := hR w hw b hb.1 hb.2
  exact ⟨by omega, by omega⟩
theorem mk_or2 (p : Int → Prop) {k : Int} (k0 : 0 ≤ k) (k1 : k ≤ 10) (hp : p k) : am_or (mk p k.toNat : Int) (am_shl 1 k) = (mk p (k + 1).toNat : Int) := by
  have h := mk_or p k0 k1
  rw [icn_t hp] at h
  rw [shl_i k0 (by omega)]
  exact h
theorem mk_no (p : Int → Prop) {k : Int} (k0 : 0 ≤ k) (hp : ¬ p k) : mk p (k + 1).toNat = mk p k.toNat := by rw [mk_s p k0, icn_f hp, Nat.or_zero]
theorem sY_thoseAheadOf {K : am_KT} (hK : am_C K) {d : Nat} {σ : am_S} {Q : am_Q} {b : Int} (hc : Cok σ) (hy : YE σ) (hb : 0 ≤ b ∧ b < σ 17 0) (h : ∀ σ', yfr σ σ' → YE σ' → Q (some (ahm (σ 17 0) (WC σ) b : Int)) σ') : K (d + 4) mY_thoseAheadOf 0 [.inr 26, .inl b] [] σ Q := by
  obtain ⟨⟨n0, n8⟩, hR⟩ := YE_pr hc hy
  have loop : ∀ (a : Int) (t : Int × am_S), a ≤ σ 17 0 → (0 ≤ a ∧ yfr σ t.2 ∧ YE t.2 ∧ t.1 = (mk (fun a => Ahd (WC σ) a b) a.toNat : Int)) → K (d + 4) mY_thoseAheadOf 4 [.inr 26, .inl b, .inl t.1, .inl a] [] t.2 Q := by
    refine am_up (P := fun a (t : Int × am_S) => 0 ≤ a ∧ yfr σ t.2 ∧ YE t.2 ∧ t.1 = (mk (fun a => Ahd (WC σ) a b) a.toNat : Int)) (C := fun a t => K (d + 4) mY_thoseAheadOf 4 [.inr 26, .inl b, .inl t.1, .inl a] [] t.2 Q) (fun t hp => ?_) (fun a t ha hp ih => ?_)
    · obtain ⟨v, τ⟩ := t
      obtain ⟨-, c, e, rfl⟩ := hp
      dsimp only at c e ⊢
      have e17 : τ 17 = σ 17 := c 17 (by decide)
      exact bY_thoseAheadOf_4 (d := d + 3) hK ⟨by omega, by omega⟩ (by rw [e17]; exact ⟨by omega, by omega⟩) (fun _ => bY_thoseAheadOf_29 (d := d + 3) hK (h τ c e)) (fun g => absurd g (by rw [e17]; omega))
    · obtain ⟨v, τ⟩ := t
      obtain ⟨a0, c, e, rfl⟩ := hp
      dsimp only at c e ih ⊢
      have e17 : τ 17 = σ 17 := c 17 (by decide)
      refine bY_thoseAheadOf_4 (d := d + 3) hK ⟨by omega, by omega⟩ (by rw [e17]; exact ⟨by omega, by omega⟩) (fun g => absurd g (by rw [e17]; omega)) (fun _ => ?_)
      refine bY_thoseAheadOf_9 (d := d + 3) hK (sY_sweep hK (Cok_y c hc) e (by rw [e17]; omega) (fun σ1 c1 e1 s1 => ?_))
      rw [e17, WC_y c] at s1
      have sg := s1.2.2.1 b hb.1 hb.2
      refine bY_thoseAheadOf_12 (d := d + 3) hK (by omega) (gap_r hR ⟨a0, ha⟩ hb sg) (fun g => ?_) (fun g => ?_)
      · refine bY_thoseAheadOf_27 (d := d + 3) hK (ih (_, σ1) ⟨by omega, yfr_tr c c1, e1, ?_⟩)
        show (mk (fun a => Ahd (WC σ) a b) a.toNat : Int) = (mk (fun a => Ahd (WC σ) a b) (a + 1).toNat : Int)
        rw [mk_no _ a0 (fun q => by have := (gap_s sg).mpr q; omega)]
      · refine bY_thoseAheadOf_21 (d := d + 3) hK (bY_thoseAheadOf_27 (d := d + 3) hK (ih (_, σ1) ⟨by omega, yfr_tr c c1, e1, ?_⟩))
        exact mk_or2 (fun a => Ahd (WC σ) a b) a0 (by omega) ((gap_s sg).mp g)
  exact bY_thoseAheadOf_0 (d := d + 3) hK (loop 0 (0, σ) n0 ⟨Int.le_refl 0, yfr_rf σ, hy, rfl⟩)
theorem sY_thoseBehind {K : am_KT} (hK : am_C K) {d : Nat} {σ : am_S} {Q : am_Q} {a : Int} (hc : Cok σ) (hy : YE σ) (ha : 0 ≤ a ∧ a < σ 17 0) (h : ∀ σ', yfr σ σ' → YE σ' → Q (some (bhm (σ 17 0) (WC σ) a : Int)) σ') : K (d + 4) mY_thoseBehind 0 [.inr 26, .inl a] [] σ Q := by
  obtain ⟨⟨n0, n8⟩, hR⟩ := YE_pr hc hy
  refine bY_thoseBehind_0 (d := d + 3) hK (sY_sweep hK hc hy ha (fun σ1 c1 e1 s1 => bY_thoseBehind_3 (d := d + 3) hK ?_))
  have e17 : σ1 17 = σ 17 := c1 17 (by decide)
  have loop : ∀ (b : Int) (v : Int), b ≤ σ 17 0 → (0 ≤ b ∧ v = (mk (fun b => Ahd (WC σ) a b) b.toNat : Int)) → K (d + 4) mY_thoseBehind 7 [.inr 26, .inl a, .inl v, .inl b] [] σ1 Q := by
    refine am_up (P := fun b v => 0 ≤ b ∧ v = (mk (fun b => Ahd (WC σ) a b) b.toNat : Int)) (C := fun b v => K (d + 4) mY_thoseBehind 7 [.inr 26, .inl a, .inl v, .inl b] [] σ1 Q) (fun v hp => ?_) (fun b v hb hp ih => ?_)
    · obtain ⟨-, rfl⟩ := hp
      exact bY_thoseBehind_7 (d := d + 3) hK ⟨by omega, by omega⟩ (by rw [e17]; exact ⟨by omega, by omega⟩) (fun _ => bY_thoseBehind_29 (d := d + 3) hK (h σ1 c1 e1)) (fun g => absurd g (by rw [e17]; omega))
    · obtain ⟨b0, rfl⟩ := hp
      have sg := s1.2.2.1 b b0 hb
      refine bY_thoseBehind_7 (d := d + 3) hK ⟨by omega, by omega⟩ (by rw [e17]; exact ⟨by omega, by omega⟩) (fun g => absurd g (by rw [e17]; omega)) (fun _ => ?_)
      refine bY_thoseBehind_12 (d := d + 3) hK (by omega) (gap_r hR ha ⟨b0, hb⟩ sg) (fun g => ?_) (fun g => ?_)
      · refine bY_thoseBehind_27 (d := d + 3) hK (ih _ ⟨by omega, ?_⟩)
        rw [mk_no _ b0 (fun q => by have := (gap_s sg).mpr q; omega)]
      · exact bY_thoseBehind_21 (d := d + 3) hK (bY_thoseBehind_27 (d := d + 3) hK (ih _ ⟨by omega, mk_or2 (fun b => Ahd (WC σ) a b) b0 (by omega) ((gap_s sg).mp g)⟩))
  exact loop 0 0 n0 ⟨Int.le_refl 0, rfl⟩
