/-! the class: Knots -/
def sub2 (a b : Nat) : Prop := ∀ i, a.testBit i = true → b.testBit i = true
theorem WN_sub {P : PB} {s s' : Nat} (h : sub2 s s') {w : Int → Int} (hw : WN P s' w) : WN P s w := ⟨hw.1, fun k k0 k1 q => hw.2 k k0 k1 (h _ q)⟩
theorem Exi_sub {P : PB} {s s' : Nat} (h : sub2 s s') (he : Exi (WN P s')) : Exi (WN P s) := by
  obtain ⟨w, hw⟩ := he
  exact ⟨w, WN_sub h hw⟩
theorem wtS_sub {wt : Int → Int} {m : Int} (hw : ∀ k, 0 ≤ k → k < m → 1 ≤ wt k ∧ wt k ≤ 9) {a b : Nat} (h : sub2 a b) : wtS wt m a ≤ wtS wt m b := by
  unfold wtS
  refine sumI_le _ (fun k k0 k1 => ?_)
  have := hw k k0 (by omega)
  by_cases q : a.testBit k.toNat = true
  · rw [if_pos q, if_pos (h _ q)]
    omega
  · rw [if_neg q]
    split <;> omega
theorem pcC_e : ∀ s : Nat, s < 1024 → pcC s = sumI (fun k => if s.testBit k.toNat = true then 1 else 0) 10 := by decide +kernel
theorem pcC_sub {a b : Nat} (ha : a < 1024) (hb : b < 1024) (h : sub2 a b) : pcC a ≤ pcC b := by
  rw [pcC_e a ha, pcC_e b hb]
  refine sumI_le _ (fun k k0 k1 => ?_)
  by_cases q : a.testBit k.toNat = true
  · rw [if_pos q, if_pos (h _ q)]
    omega
  · rw [if_neg q]
    split <;> omega
/-- those from G on, below G + 2^N, have G's upper bits -/
theorem up_bit {N G S : Nat} (hG : G % 2 ^ N = 0) (h1 : G ≤ S) (h2 : S < G + 2 ^ N) {i : Nat} (hi : N ≤ i) : S.testBit i = G.testBit i := by
  have e : G = 2 ^ N * (G / 2 ^ N) := by have := Nat.div_add_mod G (2 ^ N); omega
  have e2 : S = 2 ^ N * (G / 2 ^ N) + (S - G) := by omega
  rw [e2, Nat.testBit_two_pow_mul_add _ (by omega), if_neg (by omega)]
  conv => rhs; rw [e, Nat.testBit_two_pow_mul]
  simp [hi]
theorem lo_bit {N G : Nat} (hG : G % 2 ^ N = 0) {i : Nat} (hi : i < N) : G.testBit i = false := by
  have e : G = 2 ^ N * (G / 2 ^ N) := by have := Nat.div_add_mod G (2 ^ N); omega
  rw [e, Nat.testBit_two_pow_mul, decide_eq_false (by omega), Bool.false_and]
theorem or_add {N G : Nat} (hG : G % 2 ^ (N + 1) = 0) : G ||| 2 ^ N = G + 2 ^ N := by
  have e : G = 2 ^ (N + 1) * (G / 2 ^ (N + 1)) := by have := Nat.div_add_mod G (2 ^ (N + 1)); omega
  have h := Nat.two_pow_add_eq_or_of_lt (i := N + 1) (b := 2 ^ N) (Nat.pow_lt_pow_right (by decide) (by omega)) (G / 2 ^ (N + 1))
  rw [← e] at h
  exact h.symm
theorem mod_dn {N G : Nat} (hG : G % 2 ^ (N + 1) = 0) : G % 2 ^ N = 0 ∧ (G + 2 ^ N) % 2 ^ N = 0 := by
  have e : G = 2 ^ (N + 1) * (G / 2 ^ (N + 1)) := by have := Nat.div_add_mod G (2 ^ (N + 1)); omega
  have e2 : G = 2 ^ N * (2 * (G / 2 ^ (N + 1))) := by
    rw [← Nat.mul_assoc, ← Nat.pow_succ]
    exact e
  have h1 : G % 2 ^ N = 0 := by rw [e2]; exact Nat.mul_mod_right _ _
  exact ⟨h1, by rw [Nat.add_mod_right]; exact h1⟩
def afr (σ σ' : am_S) : Prop := ∀ c, (c < 42 ∨ 49 < c) → σ' c = σ c
def tfr (σ σ' : am_S) : Prop := ∀ c, (c < 41 ∨ 49 < c) → σ' c = σ c
theorem tfr_tr {σ σ1 σ2 : am_S} (h1 : tfr σ σ1) (h2 : tfr σ1 σ2) : tfr σ σ2 := fun c h => (h2 c h).trans (h1 c h)
theorem tfr_a {σ σ' : am_S} (h : afr σ σ') : tfr σ σ' := fun c hc => h c (by omega)
theorem sT_agreeing {K : am_KT} (hK : am_C K) {D : Nat} (hD : 3 ≤ D) {σ : am_S} {Q : am_Q} {s : Nat} (hs : s < 1024) (hv : Vld (pbC σ)) (h : ∀ r σ', afr σ σ' → r01 r (Exi (WN (pbC σ) s)) → Q (some r) σ') : K D mT_agreeing 0 [.inr 41, .inl (s : Int)] [] σ Q := by
  obtain ⟨d, rfl⟩ : ∃ d, D = d + 3 := ⟨D - 3, by omega⟩
  refine bT_agreeing_0 (d := d + 2) hK (sW_weave hK (Or.inr rfl) hs hv (fun σ1 c1 V1 S1 => ?_))
  refine bT_agreeing_8 (d := d + 2) hK (sW_least hK (Or.inr rfl) (Or.inr (Or.inr (Or.inr rfl))) hv.1.1 hv.1.2 V1 (fun b σ2 c2 hb => ?_))
  have c3 : afr σ σ2 := fun c hc => (c2 c (by omega)).trans (c1 c (by omega))
  have hr : r01 b (Exi (WN (pbC σ) s)) := by
    rcases hb with q | q
    · exact Or.inl ⟨q.1, _, (S1 _).mp q.2.1⟩
    · exact Or.inr ⟨q.1, fun ⟨w, hw⟩ => q.2 w ((S1 w).mpr hw)⟩
  exact bT_agreeing_13 (d := d + 2) hK (r01_z hr) (h b σ2 c3 hr)
def KCt (σ : am_S) (P : PB) (wt : Int → Int) (m : Int) (F : Nat) : Prop := pbC σ = P ∧ σ 25 = wt ∧ σ 20 0 = m ∧ σ 20 1 = (F : Int)
theorem KCt_t {σ σ' : am_S} {P : PB} {wt : Int → Int} {m : Int} {F : Nat} (h : tfr σ σ') (hk : KCt σ P wt m F) : KCt σ' P wt m F := by
  obtain ⟨h1, h2, h3, h4⟩ := hk
  refine ⟨?_, by rw [h 25 (by decide)]; exact h2, by rw [h 20 (by decide)]; exact h3, by rw [h 20 (by decide)]; exact h4⟩
  rw [← h1]
  unfold pbC
  rw [h 17 (by decide), h 18 (by decide), h 19 (by decide), h 20 (by decide), h 21 (by decide), h 22 (by decide), h 23 (by decide), h 24 (by decide)]
/-- the best of those below L -/
def kInv (P : PB) (wt : Int → Int) (m : Int) (F L : Nat) (x : Int → Int) : Prop := (x 5 = 0 ∧ ∀ S, S < L → ¬ kC (WN P) F S) ∨ (x 5 = 1 ∧ ∃ B : Nat, x 6 = (B : Int) ∧ B < L ∧ B < 1024 ∧ x 7 = wtS wt m B ∧ x 8 = pcC B ∧ kC (WN P) F B ∧ ∀ S, S < L → kC (WN P) F S → kL wt m B S)
/-- what isBeatenBy answers -/
def kBt (wt : Int → Int) (m : Int) (G : Nat) (x : Int → Int) : Prop := x 5 = 0 ∨ wtS wt m G < x 7 ∨ (wtS wt m G = x 7 ∧ pcC G < x 8)
theorem sT_isBeatenBy {K : am_KT} (hK : am_C K) {D : Nat} (hD : 1 ≤ D) {σ : am_S} {Q : am_Q} {G : Nat} (hG : G < 1024) {P : PB} {wt : Int → Int} {m : Int} {F L : Nat} (hk : KCt σ P wt m F) (m0 : 0 ≤ m) (m10 : m ≤ 10) (hw : ∀ k, 0 ≤ k → k < m → 1 ≤ wt k ∧ wt k ≤ 9) (hi : kInv P wt m F L (σ 41))
    (h : ∀ r, r01 r (kBt wt m G (σ 41)) → Q (some r) σ) : K D mT_isBeatenBy 0 [.inr 41, .inl (G : Int)] [] σ Q := by
  obtain ⟨d, rfl⟩ : ∃ d, D = d + 1 := ⟨D - 1, by omega⟩
  obtain ⟨-, k2, k3, -⟩ := hk
  refine bT_isBeatenBy_0 hK (sN_weightOf hK hG (by rw [k3]; exact m0) (by rw [k3]; exact m10) ?_)
  rw [k2, k3]
  have yes : kBt wt m G (σ 41) → K (d + 1) mT_isBeatenBy 21 [.inr 41, .inl (G : Int), .inl (wtS wt m G)] [] σ Q := fun q => bT_isBeatenBy_21 hK (bT_isBeatenBy_24 hK (Or.inr rfl) (h 1 (Or.inl ⟨rfl, q⟩)))
  have no : ¬ kBt wt m G (σ 41) → K (d + 1) mT_isBeatenBy 23 [.inr 41, .inl (G : Int), .inl (wtS wt m G)] [] σ Q := fun q => bT_isBeatenBy_23 hK (bT_isBeatenBy_24 hK (Or.inl rfl) (h 0 (Or.inr ⟨rfl, q⟩)))
  have WG := wtS_r m0 m10 hw G
  have PG := pcC_r G hG
  rcases hi with ⟨q, -⟩ | ⟨q, B, -, -, hB, q7, q8, -, -⟩
  · exact bT_isBeatenBy_4 hK (by rw [q]; exact ⟨by decide, by decide⟩) (fun g => yes (Or.inl g)) (fun g => absurd q g)
  · have WB := wtS_r m0 m10 hw B
    have PB' := pcC_r B hB
    unfold kBt at yes no
    refine bT_isBeatenBy_4 hK (by rw [q]; exact ⟨by decide, by decide⟩) (fun g => by omega) (fun _ => ?_)
    refine bT_isBeatenBy_8 hK ⟨by omega, by omega⟩ ⟨by omega, by omega⟩ (fun g => yes (by omega)) (fun g => ?_)
    refine bT_isBeatenBy_12 hK ⟨by omega, by omega⟩ ⟨by omega, by omega⟩ (fun g2 => no (by omega)) (fun g2 => ?_)
    refine bT_isBeatenBy_16 hK (sJ_bitCount hK hG ?_)
    exact bT_isBeatenBy_18 hK ⟨by omega, by omega⟩ ⟨by omega, by omega⟩ (fun g3 => no (by omega)) (fun g3 => yes (by omega))
theorem sT_become {K : am_KT} (hK : am_C K) {D : Nat} (hD : 1 ≤ D) {σ : am_S} {Q : am_Q} {G : Nat} (hG : G < 1024) {P : PB} {wt : Int → Int} {m : Int} {F : Nat} (hk : KCt σ P wt m F) (m0 : 0 ≤ m) (m10 : m ≤ 10)
    (h : ∀ σ', tfr σ σ' → σ' 41 5 = 1 → σ' 41 6 = (G : Int) → σ' 41 7 = wtS wt m G → σ' 41 8 = pcC G → Q none σ') : K D mT_become 0 [.inr 41, .inl (G : Int)] [] σ Q := by
  obtain ⟨d, rfl⟩ : ∃ d, D = d + 1 := ⟨D - 1, by omega⟩
  obtain ⟨-, k2, k3, -⟩ := hk
  have f1 : tfr σ (am_us (am_us σ 41 5 1) 41 6 (G : Int)) := fun c hc => by rw [us_o _ _ _ (by omega), us_o _ _ _ (by omega)]
  have e20 : am_us (am_us σ 41 5 1) 41 6 (G : Int) 20 0 = m := by rw [f1 20 (by decide)]; exact k3
  have e25 : am_us (am_us σ 41 5 1) 41 6 (G : Int) 25 = wt := by rw [f1 25 (by decide)]; exact k2
  refine bT_become_0 hK (sN_weightOf hK hG (by rw [e20]; exact m0) (by rw [e20]; exact m10) ?_)
  rw [e20, e25]
  refine bT_become_11 hK (sJ_bitCount hK hG (bT_become_15 hK (h _ (fun c hc => ?_) ?_ ?_ ?_ ?_)))
  · rw [us_o _ _ _ (by omega), us_o _ _ _ (by omega)]
    exact f1 c hc
  · rw [us_n _ _ _ (by decide), us_n _ _ _ (by decide), us_n _ _ _ (by decide), us_e]
  · rw [us_n _ _ _ (by decide), us_n _ _ _ (by decide), us_e]
  · rw [us_n _ _ _ (by decide), us_e]
  · rw [us_e]
/-- none that may be let go between the two -/
theorem kInv_up {P : PB} {wt : Int → Int} {m : Int} {F L L' : Nat} {x : Int → Int} (hL : L ≤ L') (hno : ∀ S, L ≤ S → S < L' → ¬ kC (WN P) F S) (h : kInv P wt m F L x) : kInv P wt m F L' x := by
  rcases h with ⟨q, h1⟩ | ⟨q, B, b6, bL, b1, b7, b8, bk, h1⟩
  · refine Or.inl ⟨q, fun S hS => ?_⟩
    by_cases e : S < L
    · exact h1 S e
    · exact hno S (by omega) hS
  · refine Or.inr ⟨q, B, b6, by omega, b1, b7, b8, bk, fun S hS hk => ?_⟩
    by_cases e : S < L
    · exact h1 S e hk
    · exact absurd hk (hno S (by omega) hS)
set_option maxHeartbeats 1000000 in
theorem sT_seek {K : am_KT} (hK : am_C K) {P : PB} {wt : Int → Int} {m : Int} {F : Nat} (hv : Vld P) (em : m = pm P) (hF : F < 1024) (hw : ∀ k, 0 ≤ k → k < m → 1 ≤ wt k ∧ wt k ≤ 9) : ∀ (N : Nat), N ≤ 10 → ∀ {D : Nat}, N + 4 ≤ D → ∀ {σ : am_S} {Q : am_Q} {G kept : Nat}, KCt σ P wt m F → G < 1024 → kept < 1024 → G % 2 ^ N = 0 → nd G F = 0 → (∀ i, kept.testBit i = (decide (N ≤ i) && (F.testBit i && !G.testBit i))) → Exi (WN P kept) → kInv P wt m F G (σ 41) →
    (∀ σ', tfr σ σ' → kInv P wt m F (G + 2 ^ N) (σ' 41) → Q none σ') → K D mT_seek 0 [.inr 41, .inl ((N : Int) - 1), .inl (kept : Int), .inl (G : Int)] [] σ Q := by
  have m0 : 0 ≤ m := by rw [em]; exact hv.2.2.1.1
  have m10 : m ≤ 10 := by rw [em]; exact hv.2.2.1.2
  intro N
  induction N with
  | zero =>
    intro _ D hD σ Q G kept hk hG hkp hG0 hGF hkb hE hi h
    obtain ⟨d, rfl⟩ : ∃ d, D = d + 1 := ⟨D - 1, by omega⟩
    refine bT_seek_0 hK (sT_isBeatenBy hK (by omega) hG hk m0 m10 hw hi (fun r hr => ?_))
    refine bT_seek_3 hK (r01_g hr) (fun g => ?_) (fun g => bT_seek_4 hK (h σ (fun _ _ => rfl) ?_))
    · have hb := r01_n hr g
      refine bT_seek_5 hK ⟨by decide, by decide⟩ (fun g2 => absurd g2 (by decide)) (fun _ => ?_)
      refine bT_seek_7 hK (sT_become hK (by omega) hG hk m0 m10 (fun σ1 c1 s5 s6 s7 s8 => bT_seek_10 hK (h σ1 c1 ?_)))
      have ek : kept = nd F G := by
        apply Nat.eq_of_testBit_eq
        intro i
        rw [hkb i, nd_bit]
        simp
      refine Or.inr ⟨s5, G, s6, by omega, hG, s7, s8, ⟨hGF, by rw [← ek]; exact hE⟩, fun S hS hkS => ?_⟩
      by_cases e : S = G
      · rw [e]
        unfold kL
        omega
      · rcases hi with ⟨q, h1⟩ | ⟨q, B, b6, bL, b1, b7, b8, bk, h1⟩
        · exact absurd hkS (h1 S (by omega))
        · have l := h1 S (by omega) hkS
          unfold kBt at hb
          unfold kL at l ⊢
          omega
    · have hb := r01_0 hr g
      rcases hi with ⟨q, h1⟩ | ⟨q, B, b6, bL, b1, b7, b8, bk, h1⟩
      · exact absurd (Or.inl q) hb
      · refine Or.inr ⟨q, B, b6, by omega, b1, b7, b8, bk, fun S hS hkS => ?_⟩
        by_cases e : S = G
        · rw [e]
          unfold kBt at hb
          unfold kL
          omega
        · exact h1 S (by omega) hkS
  | succ n ih =>
    intro hN D hD σ Q G kept hk hG hkp hG0 hGF hkb hE hi h
    obtain ⟨d, rfl⟩ : ∃ d, D = d + 1 := ⟨D - 1, by omega⟩
    have p1 : 2 ^ (n + 1) = 2 ^ n + 2 ^ n := by rw [Nat.pow_succ]; omega
    have pn : 0 < 2 ^ n := Nat.two_pow_pos n
    have p10 : 2 ^ n ≤ 512 := Nat.pow_le_pow_right (n := 2) (by decide) (show n ≤ 9 by omega)
    have Gup : ∀ S, G ≤ S → S < G + 2 ^ (n + 1) → sub2 G S := fun S h1 h2 i hb => by
      by_cases e : n + 1 ≤ i
      · rw [up_bit hG0 h1 h2 e]
        exact hb
      · rw [lo_bit hG0 (by omega)] at hb
        cases hb
    obtain ⟨md1, md2⟩ := mod_dn hG0
    have Gn : G.testBit n = false := lo_bit hG0 (by omega)
    have oa := or_add hG0
    have Gbit : ∀ i, (G + 2 ^ n).testBit i = true ↔ G.testBit i = true ∨ n = i := fun i => by rw [← oa]; exact bit_or2 G n i
    have loS : ∀ S, G ≤ S → S < G + 2 ^ n → S.testBit n = false := fun S h1 h2 => by rw [up_bit md1 h1 h2 (Nat.le_refl n)]; exact Gn
    have hiS : ∀ S, G + 2 ^ n ≤ S → S < G + 2 ^ (n + 1) → S.testBit n = true := fun S h1 h2 => by
      rw [up_bit md2 h1 (by omega) (Nat.le_refl n)]
      exact (Gbit n).mpr (Or.inr rfl)
    have en : (((n + 1 : Nat) : Int) - 1) = (n : Int) := by omega
    rw [en]
    refine bT_seek_0 hK (sT_isBeatenBy hK (by omega) hG hk m0 m10 hw hi (fun r hr => ?_))
    refine bT_seek_3 hK (r01_g hr) (fun g => ?_) (fun g => bT_seek_4 hK (h σ (fun _ _ => rfl) ?_))
    · refine bT_seek_5 hK ⟨by omega, by omega⟩ (fun _ => ?_) (fun g2 => absurd g2 (by omega))
      obtain ⟨k1, k2, k3, k4⟩ := id hk
      refine bT_seek_11 hK (sN_isInForce hK (by rw [k4]; omega) (by rw [k4]; omega) (by omega) (by omega) (fun r2 hr2 => ?_))
      rw [k4, shl_nat n (by omega)] at *
      have sbF : SB ((F : Int)).toNat (n : Int) ↔ F.testBit n = true := by
        unfold SB
        rw [show ((F : Int)).toNat = F by omega, show ((n : Int)).toNat = n by omega]
      refine bT_seek_19 hK (r01_g hr2) (fun g2 => ?_) (fun g2 => ?_)
      · have hFn : F.testBit n = true := sbF.mp (r01_n hr2 g2)
        have kn : kept.testBit n = false := by rw [hkb n, decide_eq_false (by omega), Bool.false_and]
        have okb : ∀ i, (kept ||| 2 ^ n).testBit i = true ↔ kept.testBit i = true ∨ n = i := bit_or2 kept n
        have ko : kept ||| 2 ^ n < 1024 := Nat.or_lt_two_pow (n := 10) (by omega) (by omega)
        refine bT_seek_28 hK ?_
        rw [or_nat (by omega) (by omega)]
        refine sT_agreeing hK (by omega) ko (by rw [k1]; exact hv) (fun r3 σ1 c1 hr3 => ?_)
        rw [k1] at hr3
        have hk1 := KCt_t (tfr_a c1) hk
        have i1 : kInv P wt m F G (σ1 41) := by rw [c1 41 (by decide)]; exact hi
        -- the second half
        have half : ∀ σ2, tfr σ σ2 → kInv P wt m F (G + 2 ^ n) (σ2 41) → K (d + 1) mT_seek 43 [.inr 41, .inl (n : Int), .inl (kept : Int), .inl (G : Int), .inl ((2 ^ n : Nat) : Int)] [] σ2 Q := by
          intro σ2 c2 i2
          refine bT_seek_43 hK ?_
          have g10 : G + 2 ^ n < 1024 := by rw [← oa]; exact Nat.or_lt_two_pow (n := 10) (by omega) (by omega)
          rw [or_nat (by omega) (by omega), oa]
          refine ih (by omega) (by omega) (KCt_t c2 hk) g10 hkp md2 ?_ (fun i => ?_) hE i2 (fun σ3 c3 i3 => bT_seek_52 hK (h σ3 (tfr_tr c2 c3) ?_))
          · apply Nat.eq_of_testBit_eq
            intro i
            rw [nd_bit, Nat.zero_testBit]
            have h0 : (nd G F).testBit i = false := by rw [hGF]; exact Nat.zero_testBit i
            rw [nd_bit] at h0
            by_cases e : n = i
            · subst e
              rw [hFn]
              simp
            · have e3 : (G + 2 ^ n).testBit i = G.testBit i := by
                rw [Bool.eq_iff_iff, Gbit i]
                exact ⟨fun z => by rcases z with z | z; exact z; exact absurd z e, Or.inl⟩
              rw [e3]
              exact h0
          · rw [hkb i]
            by_cases e : n = i
            · subst e
              rw [(Gbit n).mpr (Or.inr rfl), decide_eq_false (show ¬ n + 1 ≤ n by omega)]
              simp
            · have e3 : (G + 2 ^ n).testBit i = G.testBit i := by
                rw [Bool.eq_iff_iff, Gbit i]
                exact ⟨fun z => by rcases z with z | z; exact z; exact absurd z e, Or.inl⟩
              rw [e3]
              have e4 : decide (n + 1 ≤ i) = decide (n ≤ i) := by
                by_cases q : n + 1 ≤ i
                · rw [decide_eq_true q, decide_eq_true (by omega)]
                · rw [decide_eq_false q, decide_eq_false (by omega)]
              rw [e4]
          · rw [p1, ← Nat.add_assoc]
            exact i3
        refine bT_seek_33 hK (r01_g hr3) (fun g3 => half σ1 (tfr_a c1) (kInv_up (by omega) (fun S h1 h2 hkS => ?_) i1)) (fun g3 => ?_)
        · refine r01_0 hr3 g3 (Exi_sub (fun i hb => ?_) hkS.2)
          rw [nd_bit]
          rcases (okb i).mp hb with q | q
          · rw [hkb i] at q
            have q1 : n + 1 ≤ i := by
              by_cases z : n + 1 ≤ i
              · exact z
              · rw [decide_eq_false z, Bool.false_and] at q
                cases q
            rw [decide_eq_true q1, Bool.true_and, ← up_bit hG0 h1 (by omega) q1] at q
            exact q
          · rw [← q, hFn, loS S h1 h2]
            rfl
        · refine bT_seek_34 hK ?_
          rw [or_nat (by omega) (by omega)]
          refine ih (by omega) (by omega) hk1 hG ko md1 hGF (fun i => ?_) (r01_n hr3 g3) i1 (fun σ2 c2 i2 => half σ2 (tfr_tr (tfr_a c1) c2) i2)
          rw [Bool.eq_iff_iff, okb i, hkb i]
          by_cases e : n = i
          · subst e
            rw [hFn, Gn]
            simp
          · have e4 : decide (n + 1 ≤ i) = decide (n ≤ i) := by
              by_cases q : n + 1 ≤ i
              · rw [decide_eq_true q, decide_eq_true (by omega)]
              · rw [decide_eq_false q, decide_eq_false (by omega)]
            rw [e4]
            exact ⟨fun z => by rcases z with z | z; exact z; exact absurd z e, Or.inl⟩
      · have hFn : ¬ F.testBit n = true := fun q => r01_0 hr2 g2 (sbF.mpr q)
        refine bT_seek_20 hK (ih (by omega) (by omega) hk hG hkp md1 hGF (fun i => ?_) hE hi (fun σ1 c1 i1 => bT_seek_27 hK (h σ1 c1 (kInv_up (by omega) (fun S h1 h2 hkS => ?_) i1))))
        · rw [hkb i]
          by_cases e : n = i
          · subst e
            rw [Bool.eq_false_iff.mpr hFn]
            simp
          · have e4 : decide (n + 1 ≤ i) = decide (n ≤ i) := by
              by_cases q : n + 1 ≤ i
              · rw [decide_eq_true q, decide_eq_true (by omega)]
              · rw [decide_eq_false q, decide_eq_false (by omega)]
            rw [e4]
        · have h0 : (nd S F).testBit n = false := by rw [hkS.1]; exact Nat.zero_testBit n
          rw [nd_bit, hiS S h1 h2, Bool.eq_false_iff.mpr hFn] at h0
          cases h0
    · have hb := r01_0 hr g
      rcases hi with ⟨q, h1⟩ | ⟨q, B, b6, bL, b1, b7, b8, bk, h1⟩
      · exact absurd (Or.inl q) hb
      · refine Or.inr ⟨q, B, b6, by omega, b1, b7, b8, bk, fun S hS hkS => ?_⟩
        by_cases e : S < G
        · exact h1 S e hkS
        · have sb := Gup S (by omega) hS
          have S10 : S < 1024 := by have := nd_sub_le hkS.1; omega
          have w1 := wtS_sub hw sb
          have w2 := pcC_sub hG S10 sb
          unfold kBt at hb
          unfold kL
          omega
/-! lightest, unsparable -/
def CW (σ : am_S) : Prop := (∀ k, 0 ≤ k → k < σ 20 0 → 1 ≤ σ 25 k ∧ σ 25 k ≤ 9) ∧ (σ 20 1).toNat < 2 ^ (σ 20 0).toNat
noncomputable def knC (σ : am_S) : Nat := knS (σ 25) (σ 20 0) (WN (pbC σ)) (σ 20 1).toNat
def TV (σ : am_S) : Prop := σ 41 0 = 0 ∨ (σ 41 0 = 1 ∧ σ 41 6 = (knC σ : Int) ∧ knC σ < 1024)
theorem pbC_t {σ σ' : am_S} (h : tfr σ σ') : pbC σ' = pbC σ := by
  unfold pbC
  rw [h 17 (by decide), h 18 (by decide), h 19 (by decide), h 20 (by decide), h 21 (by decide), h 22 (by decide), h 23 (by decide), h 24 (by decide)]
theorem knC_t {σ σ' : am_S} (h : tfr σ σ') : knC σ' = knC σ := by
  unfold knC
  rw [pbC_t h, h 20 (by decide), h 25 (by decide)]
theorem sT_lightest {K : am_KT} (hK : am_C K) {d : Nat} {σ : am_S} {Q : am_Q} (hc : Cok σ) (hw : CW σ) (ht : TV σ) (h : ∀ σ', tfr σ σ' → TV σ' → knC σ < 1024 → Q (some (knC σ : Int)) σ') : K (d + 15) mT_lightest 0 [.inr 41] [] σ Q := by
  have m0 : 0 ≤ σ 20 0 := hc.1.2.2.1.1
  have m10 : σ 20 0 ≤ 10 := hc.1.2.2.1.2
  have r41 : am_rng (σ 41 0) := by rcases ht with q | q <;> (first | rw [q] | rw [q.1]) <;> exact ⟨by decide, by decide⟩
  refine bT_lightest_0 (d := d + 14) hK r41 (fun g => ?_) (fun g => ?_)
  · rcases ht with q | q
    · exact absurd q g
    · have h2 := h σ (fun _ _ => rfl) (Or.inr q) q.2.2
      rw [← q.2.1] at h2
      exact bT_lightest_18 (d := d + 14) hK h2
  · generalize hτ : am_us σ 41 5 0 = τ
    have c : tfr σ τ := fun c hc => by rw [← hτ, us_o _ _ _ (by omega)]
    have e5 : τ 41 5 = 0 := by rw [← hτ, us_e]
    refine bT_lightest_3 (d := d + 14) hK ?_
    rw [hτ, c 20 (by decide), show σ 20 0 - 1 = (((σ 20 0).toNat : Nat) : Int) - 1 by omega]
    have hF : (σ 20 1).toNat < 1024 := by have := hc.2.2; omega
    have hk : KCt τ (pbC σ) (σ 25) (σ 20 0) (σ 20 1).toNat := ⟨pbC_t c, c 25 (by decide), by rw [c 20 (by decide)], by rw [c 20 (by decide)]; have := hc.2.1; omega⟩
    refine sT_seek hK (G := 0) (kept := 0) hc.1 rfl hF hw.1 (σ 20 0).toNat (by omega) (by omega) hk (by decide) (by decide) (Nat.zero_mod _) (by have := nd_le 0 (σ 20 1).toNat; omega) (fun i => ?_) (Exi_0 hc.1) (Or.inl ⟨e5, fun S hS => absurd hS (Nat.not_lt_zero S)⟩) (fun σ1 c1 i1 => ?_)
    · rw [Nat.zero_testBit]
      by_cases q : (σ 20 0).toNat ≤ i
      · rw [Nat.testBit_lt_two_pow (Nat.lt_of_lt_of_le hw.2 (Nat.pow_le_pow_right (by decide) q))]
        simp
      · rw [decide_eq_false q]
        rfl
    · rw [Nat.zero_add] at i1
      have cc : tfr σ (am_us σ1 41 0 1) := fun c' hc' => by
        rw [us_o _ _ _ (by omega), c1 c' hc']
        exact c c' hc'
      have i2 : ∃ B : Nat, σ1 41 6 = (B : Int) ∧ B < 1024 ∧ B = knC σ := by
        rcases i1 with ⟨-, h1⟩ | ⟨-, B, b6, bL, b1, b7, b8, bk, h1⟩
        · exfalso
          refine h1 (σ 20 1).toNat hw.2 ⟨nd_self _, ?_⟩
          rw [nd_self]
          exact Exi_0 hc.1
        · exact ⟨B, b6, b1, knS_u ⟨bk, fun S hS => h1 S (by have := nd_sub_le hS.1; have := hw.2; omega) hS⟩⟩
      obtain ⟨B, b6, b1, rfl⟩ := i2
      have e6 : am_us σ1 41 0 1 41 6 = (knC σ : Int) := by rw [us_n _ _ _ (by decide)]; exact b6
      refine bT_lightest_15 (d := d + 14) hK (bT_lightest_18 (d := d + 14) hK ?_)
      rw [e6]
      exact h _ cc (Or.inr ⟨us_e _ _ _ _, by rw [knC_t cc]; exact e6, by rw [knC_t cc]; exact b1⟩) b1
theorem sT_unsparable {K : am_KT} (hK : am_C K) {d : Nat} {σ : am_S} {Q : am_Q} (hc : Cok σ) (h : ∀ σ', afr σ σ' → Q (some (crF (WN (pbC σ)) (σ 20 0).toNat (σ 20 1).toNat : Int)) σ') : K (d + 4) mT_unsparable 0 [.inr 41] [] σ Q := by
  have m0 : 0 ≤ σ 20 0 := hc.1.2.2.1.1
  have m10 : σ 20 0 ≤ 10 := hc.1.2.2.1.2
  have hF : (σ 20 1).toNat < 1024 := by have := hc.2.2; omega
  have loop : ∀ (k : Int) (t : Int × am_S), -1 ≤ k → (k < σ 20 0 ∧ afr σ t.2 ∧ ∃ s : Nat, t.1 = (s : Int) ∧ s < 1024 ∧ crF (WN (pbC σ)) (k + 1).toNat s = crF (WN (pbC σ)) (σ 20 0).toNat (σ 20 1).toNat) → K (d + 4) mT_unsparable 10 [.inr 41, .inl t.1, .inl k] [] t.2 Q := by
    refine am_dn (P := fun k (t : Int × am_S) => k < σ 20 0 ∧ afr σ t.2 ∧ ∃ s : Nat, t.1 = (s : Int) ∧ s < 1024 ∧ crF (WN (pbC σ)) (k + 1).toNat s = crF (WN (pbC σ)) (σ 20 0).toNat (σ 20 1).toNat) (C := fun k t => K (d + 4) mT_unsparable 10 [.inr 41, .inl t.1, .inl k] [] t.2 Q) (fun t hp => ?_) (fun k t hk hp ih => ?_)
    · obtain ⟨v, τ⟩ := t
      obtain ⟨-, cτ, s, rfl, -, e⟩ := hp
      dsimp only at cτ e ⊢
      refine bT_unsparable_10 (d := d + 3) hK ⟨by decide, by decide⟩ (fun _ => bT_unsparable_31 (d := d + 3) hK ?_) (fun g => absurd g (by decide))
      rw [← e] at h
      exact h τ cτ
    · obtain ⟨v, τ⟩ := t
      obtain ⟨k1, cτ, s, rfl, hs, e⟩ := hp
      dsimp only at cτ e ih ⊢
      have k0 : 0 ≤ k := by omega
      have el : am_and (s : Int) (am_xor (am_shl 1 k) (-1)) = ((nd s (2 ^ k.toNat) : Nat) : Int) := by
        rw [shl_i k0 (by omega)]
        exact andn_nat (by omega)
      have hle := nd_le s (2 ^ k.toNat)
      rw [show (k + 1).toNat = k.toNat + 1 by omega, crF] at e
      have next : ∀ (s' : Nat) τ' v3, afr σ τ' → s' = icn (s.testBit k.toNat = true ∧ ¬ Exi (WN (pbC σ) (nd s (2 ^ k.toNat)))) (nd s (2 ^ k.toNat)) s → K (d + 4) mT_unsparable 29 [.inr 41, .inl (s' : Int), .inl k, .inl v3] [] τ' Q := by
        intro s' τ' v3 c' hs'
        refine bT_unsparable_29 (d := d + 3) hK ?_
        have := ih ((s' : Int), τ') ⟨by omega, c', s', rfl, ?_, ?_⟩
        · rw [show k + (-1) = k - 1 by omega]
          exact this
        · rw [hs']
          by_cases q : s.testBit k.toNat = true ∧ ¬ Exi (WN (pbC σ) (nd s (2 ^ k.toNat)))
          · rw [icn_t q]; omega
          · rw [icn_f q]; exact hs
        · rw [show (k - 1 + 1).toNat = k.toNat by omega, hs']
          exact e
      have pb : pbC τ = pbC σ := pbC_t (tfr_a cτ)
      refine bT_unsparable_10 (d := d + 3) hK ⟨by omega, by omega⟩ (fun g => absurd g (by omega)) (fun _ => ?_)
      refine bT_unsparable_12 (d := d + 3) hK (rng_and _ _) ⟨by omega, by omega⟩ (fun g => ?_) (fun g => ?_)
      · rw [el] at g
        exact next s τ _ cτ (by rw [icn_f (fun q => nd_ne.mpr q.1 (by omega))])
      · rw [el] at g ⊢
        have hbit := nd_ne.mp (show nd s (2 ^ k.toNat) ≠ s by omega)
        refine bT_unsparable_23 (d := d + 3) hK (sT_agreeing hK (by omega) (by omega) (by rw [pb]; exact hc.1) (fun r2 σ2 c2 hr2 => ?_))
        rw [pb] at hr2
        have c3 : afr σ σ2 := fun c' hc' => (c2 c' hc').trans (cτ c' hc')
        exact bT_unsparable_26 (d := d + 3) hK (r01_g hr2) (fun g2 => next s σ2 _ c3 (by rw [icn_f (fun q => q.2 (r01_n hr2 g2))])) (fun g2 => bT_unsparable_27 (d := d + 3) hK (next _ σ2 _ c3 (by rw [icn_t ⟨hbit, r01_0 hr2 g2⟩])))
  refine bT_unsparable_0 (d := d + 3) hK ?_
  exact loop (σ 20 0 - 1) (σ 20 1, σ) (by omega) ⟨by omega, fun _ _ => rfl, (σ 20 1).toNat, by have := hc.2.1; omega, hF, by rw [show σ 20 0 - 1 + 1 = σ 20 0 by omega]⟩
