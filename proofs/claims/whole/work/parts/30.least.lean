/-! the class: Web.least, greatest -/
theorem wSat_iff {σ : am_S} {r : Nat} {w : Int → Int} : wSat σ r w ↔ wLk σ r w ∧ btw (σ r 0) (σ (r + 1)) (σ (r + 2)) w := by
  unfold wSat wLk btw
  constructor
  · rintro ⟨a, b⟩
    exact ⟨⟨fun x x0 xn hne => (a x x0 xn).2.2 hne, b⟩, fun x x0 xn => ⟨(a x x0 xn).1, (a x x0 xn).2.1⟩⟩
  · rintro ⟨⟨a, b⟩, e⟩
    exact ⟨fun x x0 xn => ⟨(e x x0 xn).1, (e x x0 xn).2, a x x0 xn⟩, b⟩
set_option maxHeartbeats 1000000 in
theorem sW_least {K : am_KT} (hK : am_C K) {d : Nat} {σ : am_S} {Q : am_Q} {r q : Nat} (hr : am_isW r) (hq : am_isD q) {n : Int} (n0 : 0 ≤ n) (n8 : n ≤ 8) (hV : WebV σ r n 20)
    (h : ∀ b σ', qfr q σ σ' → ((b = 1 ∧ wSol σ r (σ' q) ∧ ∀ w, wSol σ r w → ∀ a, 0 ≤ a → a < n → σ' q a ≤ w a) ∨ (b = 0 ∧ ∀ w, ¬ wSol σ r w)) → Q (some b) σ') : K (d + 2) mW_least 0 [.inr r, .inr q] [] σ Q := by
  have hrr : r = 34 ∨ r = 43 := hr
  have hqq : q = 27 ∨ q = 28 ∨ q = 29 ∨ q = 42 := hq
  obtain ⟨v1, v2, v3, v4, v5⟩ := id hV
  refine bW_least_0 (d := d + 1) hK hr hq ⟨by omega, by omega⟩ (fun g => bW_least_5 (d := d + 1) hK hr hq ?_) (fun g => bW_least_3 (d := d + 1) hK hr hq (h 0 σ (fun _ _ => rfl) (Or.inr ⟨rfl, fun w hw => g hw.1⟩)))
  have loop : ∀ (a : Int) (τ : am_S), a ≤ n → (0 ≤ a ∧ qfr q σ τ ∧ ∀ x, 0 ≤ x → x < a → isNB (σ (r + 3) x) (σ (r + 1) x) (τ q x) ∧ τ q x ≤ σ (r + 2) x) → K (d + 2) mW_least 7 [.inr r, .inr q, .inl a] [] τ Q := by
    refine am_up (P := fun a τ => 0 ≤ a ∧ qfr q σ τ ∧ ∀ x, 0 ≤ x → x < a → isNB (σ (r + 3) x) (σ (r + 1) x) (τ q x) ∧ τ q x ≤ σ (r + 2) x) (C := fun a τ => K (d + 2) mW_least 7 [.inr r, .inr q, .inl a] [] τ Q) (fun τ hp => ?_) (fun a τ ha hp ih => ?_)
    · obtain ⟨-, c, hx⟩ := hp
      have u0 : τ r = σ r := c r (by omega)
      refine bW_least_7 (d := d + 1) hK hr hq ⟨by omega, by omega⟩ (by rw [u0]; exact ⟨by omega, by omega⟩) (fun _ => ?_) (fun g2 => absurd g2 (by rw [u0]; omega))
      have u2 : τ (r + 2) = σ (r + 2) := c (r + 2) (by omega)
      have u3 : τ (r + 3) = σ (r + 3) := c (r + 3) (by omega)
      refine bW_least_33 (d := d + 1) hK hr hq (sW_rise hK hr hq n0 n8 (WebV_q hr hq c hV) (fun x x0 xn => ?_) (fun x x0 xn => ?_) (fun b σ' c' hb => ?_))
      · have := (hx x x0 xn).1.1
        have := (v3 x x0 xn).1.1
        omega
      · rw [u2, u3]
        exact ⟨⟨Int.le_refl _, (hx x x0 xn).2⟩, (hx x x0 xn).1.2.2.1⟩
      · rw [wLk_q hr hq c, u2, u3] at hb
        have cc : qfr q σ σ' := fun x hxq => (c' x hxq).trans (c x hxq)
        -- all that keep the bounds lie not before these days
        have low : ∀ w, wSol σ r w → wLk σ r w ∧ btw n (τ q) (σ (r + 2)) w := fun w hw => by
          obtain ⟨w1, w2⟩ := wSat_iff.mp hw.2
          refine ⟨w1, fun x x0 xn => ?_⟩
          have w3 := w2 x x0 (by rw [v1]; exact xn)
          exact ⟨(hx x x0 xn).1.2.2.2 (w x) w3.1 (fun hne => w1.1 x x0 (by rw [v1]; exact xn) hne), w3.2⟩
        rcases hb with ⟨rfl, h1, h2, h3⟩ | ⟨rfl, h1⟩
        · refine bW_least_36 (d := d + 1) hK hr hq (Or.inr rfl) (h 1 σ' cc (Or.inl ⟨rfl, ⟨g, wSat_iff.mpr ⟨h2, fun x x0 xn => ?_⟩⟩, fun w hw a a0 an => ?_⟩))
          · rw [v1] at xn
            have := (h1 x x0 xn).1
            have := (hx x x0 xn).1.1
            omega
          · obtain ⟨w1, w2⟩ := low w hw
            exact h3 w w1 w2 a a0 an
        · refine bW_least_36 (d := d + 1) hK hr hq (Or.inl rfl) (h 0 σ' cc (Or.inr ⟨rfl, fun w hw => ?_⟩))
          obtain ⟨w1, w2⟩ := low w hw
          exact h1 w w1 w2
    · obtain ⟨a0, c, hx⟩ := hp
      have u0 : τ r = σ r := c r (by omega)
      have u1 : τ (r + 1) = σ (r + 1) := c (r + 1) (by omega)
      have u2 : τ (r + 2) = σ (r + 2) := c (r + 2) (by omega)
      have u3 : τ (r + 3) = σ (r + 3) := c (r + 3) (by omega)
      obtain ⟨w1, w2, w3⟩ := v3 a a0 ha
      refine bW_least_7 (d := d + 1) hK hr hq ⟨by omega, by omega⟩ (by rw [u0]; exact ⟨by omega, by omega⟩) (fun g2 => absurd g2 (by rw [u0]; omega)) (fun _ => ?_)
      refine bW_least_11 (d := d + 1) hK hr hq (by omega) ?_
      rw [u1]
      refine sW_notBefore hK hr (by omega) (by rw [u3]; exact w3) w1.1 (by omega) (fun z hz => ?_)
      rw [u3] at hz
      have s1 : am_us τ q a z q a = z := us_e _ _ _ _
      have s2 : am_us τ q a z (r + 2) = σ (r + 2) := by rw [us_o _ _ _ (by omega)]; exact u2
      have c' : qfr q σ (am_us τ q a z) := fun x hxq => by rw [us_o _ _ _ hxq]; exact c x hxq
      have hz' := hz
      obtain ⟨z1, z2, z3, z4⟩ := hz'
      refine bW_least_20 (d := d + 1) hK hr hq (by omega) (by omega) (by omega) (by rw [s1]; exact ⟨by omega, by omega⟩) (by rw [s2]; exact ⟨by omega, by omega⟩) (fun g2 => ?_) (fun g2 => ?_)
      · rw [s1, s2] at g2
        refine bW_least_31 (d := d + 1) hK hr hq (ih _ ⟨by omega, c', fun x x0 xa => ?_⟩)
        rw [us_s]
        by_cases e : x = a
        · rw [if_pos e, e]
          exact ⟨hz, g2⟩
        · rw [if_neg e]
          exact hx x x0 (by omega)
      · rw [s1, s2] at g2
        refine bW_least_29 (d := d + 1) hK hr hq (h 0 _ c' (Or.inr ⟨rfl, fun w hw => ?_⟩))
        obtain ⟨y1, y2⟩ := wSat_iff.mp hw.2
        have y3 := y2 a a0 (by rw [v1]; exact ha)
        have := z4 (w a) y3.1 (fun hne => y1.1 a a0 (by rw [v1]; exact ha) hne)
        omega
  exact loop 0 σ n0 ⟨Int.le_refl 0, fun _ _ => rfl, fun x x0 xa => absurd xa (by omega)⟩
set_option maxHeartbeats 1000000 in
theorem sW_greatest {K : am_KT} (hK : am_C K) {d : Nat} {σ : am_S} {Q : am_Q} {r q : Nat} (hr : am_isW r) (hq : am_isD q) {n : Int} (n0 : 0 ≤ n) (n8 : n ≤ 8) (hV : WebV σ r n 20) {w0 : Int → Int} (hw0 : wSol σ r w0)
    (h : ∀ σ', qfr q σ σ' → wSol σ r (σ' q) → (∀ w, wSol σ r w → ∀ a, 0 ≤ a → a < n → w a ≤ σ' q a) → Q none σ') : K (d + 2) mW_greatest 0 [.inr r, .inr q] [] σ Q := by
  have hrr : r = 34 ∨ r = 43 := hr
  have hqq : q = 27 ∨ q = 28 ∨ q = 29 ∨ q = 42 := hq
  obtain ⟨v1, v2, v3, v4, v5⟩ := id hV
  obtain ⟨k1, k2⟩ := wSat_iff.mp hw0.2
  have loop : ∀ (a : Int) (τ : am_S), a ≤ n → (0 ≤ a ∧ qfr q σ τ ∧ ∀ x, 0 ≤ x → x < a → isNA (σ (r + 3) x) (σ (r + 2) x) (τ q x)) → K (d + 2) mW_greatest 2 [.inr r, .inr q, .inl a] [] τ Q := by
    refine am_up (P := fun a τ => 0 ≤ a ∧ qfr q σ τ ∧ ∀ x, 0 ≤ x → x < a → isNA (σ (r + 3) x) (σ (r + 2) x) (τ q x)) (C := fun a τ => K (d + 2) mW_greatest 2 [.inr r, .inr q, .inl a] [] τ Q) (fun τ hp => ?_) (fun a τ ha hp ih => ?_)
    · obtain ⟨-, c, hx⟩ := hp
      have u0 : τ r = σ r := c r (by omega)
      have u3 : τ (r + 3) = σ (r + 3) := c (r + 3) (by omega)
      refine bW_greatest_2 (d := d + 1) hK hr hq ⟨by omega, by omega⟩ (by rw [u0]; exact ⟨by omega, by omega⟩) (fun _ => ?_) (fun g2 => absurd g2 (by rw [u0]; omega))
      have up : ∀ w, wSol σ r w → wLk σ r w ∧ ∀ a, 0 ≤ a → a < n → w a ≤ τ q a := fun w hw => by
        obtain ⟨w1, w2⟩ := wSat_iff.mp hw.2
        refine ⟨w1, fun x x0 xn => ?_⟩
        have w3 := w2 x x0 (by rw [v1]; exact xn)
        exact (hx x x0 xn).2.2.2 (w x) w3.2 (fun hne => w1.1 x x0 (by rw [v1]; exact xn) hne)
      refine bW_greatest_18 (d := d + 1) hK hr hq (sW_sink (w0 := w0) hK hr hq n0 n8 (WebV_q hr hq c hV) (fun x x0 xn => ?_) (fun x x0 xn => ?_) (by rw [wLk_q hr hq c]; exact k1) (fun x x0 xn => ⟨?_, (up w0 hw0).2 x x0 xn⟩) (fun σ' c' g1 g2 g3 => ?_))
      · have := (hx x x0 xn).1
        have := (v3 x x0 xn).2.1.2
        omega
      · rw [u3]
        exact (hx x x0 xn).2.2.1
      · have := k2 x x0 (by rw [v1]; exact xn)
        have := (v3 x x0 xn).1.1
        omega
      · rw [wLk_q hr hq c] at g1 g3
        have cc : qfr q σ σ' := fun x hxq => (c' x hxq).trans (c x hxq)
        refine bW_greatest_21 (d := d + 1) hK hr hq (h σ' cc ⟨hw0.1, wSat_iff.mpr ⟨g1, fun x x0 xn => ?_⟩⟩ (fun w hw a a0 an => ?_))
        · rw [v1] at xn
          have z1 := g3 w0 k1 (up w0 hw0).2 x x0 xn
          have z2 := k2 x x0 (by rw [v1]; exact xn)
          have z3 := g2 x x0 xn
          have z4 := (hx x x0 xn).1
          omega
        · obtain ⟨w1, w2⟩ := up w hw
          exact g3 w w1 w2 a a0 an
    · obtain ⟨a0, c, hx⟩ := hp
      have u0 : τ r = σ r := c r (by omega)
      have u2 : τ (r + 2) = σ (r + 2) := c (r + 2) (by omega)
      have u3 : τ (r + 3) = σ (r + 3) := c (r + 3) (by omega)
      obtain ⟨w1, w2, w3⟩ := v3 a a0 ha
      refine bW_greatest_2 (d := d + 1) hK hr hq ⟨by omega, by omega⟩ (by rw [u0]; exact ⟨by omega, by omega⟩) (fun g2 => absurd g2 (by rw [u0]; omega)) (fun _ => ?_)
      refine bW_greatest_6 (d := d + 1) hK hr hq (by omega) ?_
      rw [u2]
      refine sW_notBehind hK hr (by omega) (by rw [u3]; exact w3) w2.1 (by omega) (fun z hz => ?_)
      rw [u3] at hz
      refine bW_greatest_15 (d := d + 1) hK hr hq (by omega) (ih _ ⟨by omega, fun x hxq => by rw [us_o _ _ _ hxq]; exact c x hxq, fun x x0 xa => ?_⟩)
      rw [us_s]
      by_cases e : x = a
      · rw [if_pos e, e]
        exact hz
      · rw [if_neg e]
        exact hx x x0 (by omega)
  exact bW_greatest_0 (d := d + 1) hK hr hq (loop 0 σ n0 ⟨Int.le_refl 0, fun _ _ => rfl, fun x x0 xa => absurd xa (by omega)⟩)
