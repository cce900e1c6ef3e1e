/-! the class: Web.rise, sink, least, greatest -/
def wLk (σ : am_S) (r : Nat) (w : Int → Int) : Prop := (∀ a, 0 ≤ a → a < σ r 0 → σ (r + 3) a ≠ -1 → w a % 7 = σ (r + 3) a) ∧ ∀ k, 0 ≤ k → k < σ r 5 → w (σ (r + 4) k) + σ (r + 6) k ≤ w (σ (r + 5) k)
def qfr (q : Nat) (σ σ' : am_S) : Prop := ∀ c, c ≠ q → σ' c = σ c
theorem wLk_q {σ σ' : am_S} {r q : Nat} (hr : am_isW r) (hq : am_isD q) (h : qfr q σ σ') : wLk σ' r = wLk σ r := by
  have hrr : r = 34 ∨ r = 43 := hr
  have hqq : q = 27 ∨ q = 28 ∨ q = 29 ∨ q = 42 := hq
  unfold wLk
  rw [h r (by omega), h (r + 3) (by omega), h (r + 4) (by omega), h (r + 5) (by omega), h (r + 6) (by omega)]
theorem WebV_q {σ σ' : am_S} {r q : Nat} {n lim : Int} (hr : am_isW r) (hq : am_isD q) (h : qfr q σ σ') (hV : WebV σ r n lim) : WebV σ' r n lim := by
  have hrr : r = 34 ∨ r = 43 := hr
  have hqq : q = 27 ∨ q = 28 ∨ q = 29 ∨ q = 42 := hq
  unfold WebV
  rw [h r (by omega), h (r + 1) (by omega), h (r + 2) (by omega), h (r + 3) (by omega), h (r + 4) (by omega), h (r + 5) (by omega), h (r + 6) (by omega)]
  exact hV
/-- the days are at least x0, at most hi, of their weekday -/
def dOK (n : Int) (wd x0 hi x : Int → Int) : Prop := ∀ a, 0 ≤ a → a < n → (x0 a ≤ x a ∧ x a ≤ hi a) ∧ (wd a ≠ -1 → x a % 7 = wd a)
def btw (n : Int) (x0 hi w : Int → Int) : Prop := ∀ a, 0 ≤ a → a < n → x0 a ≤ w a ∧ w a ≤ hi a
set_option maxHeartbeats 1000000 in
theorem sW_rise {K : am_KT} (hK : am_C K) {d : Nat} {σ : am_S} {Q : am_Q} {r q : Nat} (hr : am_isW r) (hq : am_isD q) {n : Int} (n0 : 0 ≤ n) (n8 : n ≤ 8) (hV : WebV σ r n 20) (hx0 : ∀ a, 0 ≤ a → a < n → 0 ≤ σ q a) (hx : dOK n (σ (r + 3)) (σ q) (σ (r + 2)) (σ q))
    (h : ∀ b σ', qfr q σ σ' → ((b = 1 ∧ dOK n (σ (r + 3)) (σ q) (σ (r + 2)) (σ' q) ∧ wLk σ r (σ' q) ∧ ∀ w, wLk σ r w → btw n (σ q) (σ (r + 2)) w → ∀ a, 0 ≤ a → a < n → σ' q a ≤ w a) ∨ (b = 0 ∧ ∀ w, wLk σ r w → ¬ btw n (σ q) (σ (r + 2)) w)) → Q (some b) σ') : K (d + 1) mW_rise 0 [.inr r, .inr q] [] σ Q := by
  have hrr : r = 34 ∨ r = 43 := hr
  have hqq : q = 27 ∨ q = 28 ∨ q = 29 ∨ q = 42 := hq
  obtain ⟨v1, v2, v3, v4, v5⟩ := id hV
  have hi199 : ∀ a, 0 ≤ a → a < n → σ (r + 2) a ≤ 199 := fun a a0 an => (v3 a a0 an).2.1.2
  have rounds : ∀ (ρ : Int) (τ : am_S), ρ ≤ 1601 → (0 ≤ ρ ∧ qfr q σ τ ∧ dOK n (σ (r + 3)) (σ q) (σ (r + 2)) (τ q) ∧ (∀ w, wLk σ r w → btw n (σ q) (σ (r + 2)) w → ∀ a, 0 ≤ a → a < n → τ q a ≤ w a) ∧ ρ ≤ sumI (τ q) n.toNat) → K (d + 1) mW_rise 2 [.inr r, .inr q, .inl ρ] [] τ Q := by
    refine am_up (P := fun ρ τ => 0 ≤ ρ ∧ qfr q σ τ ∧ dOK n (σ (r + 3)) (σ q) (σ (r + 2)) (τ q) ∧ (∀ w, wLk σ r w → btw n (σ q) (σ (r + 2)) w → ∀ a, 0 ≤ a → a < n → τ q a ≤ w a) ∧ ρ ≤ sumI (τ q) n.toNat) (C := fun ρ τ => K (d + 1) mW_rise 2 [.inr r, .inr q, .inl ρ] [] τ Q) (fun τ hp => ?_) (fun ρ τ hρ hp ih => ?_)
    · exfalso
      obtain ⟨-, -, hd, -, hs⟩ := hp
      have := sumI_ub (f := τ q) (c := 199) n.toNat (fun a a0 an => by have := hd a a0 (by omega); have := hi199 a a0 (by omega); omega)
      omega
    · obtain ⟨ρ0, c, hd, hmin, hsum⟩ := hp
      refine bW_rise_2 hK hr hq ⟨by omega, by omega⟩ (fun g => absurd g (by omega)) (fun _ => bW_rise_5 hK hr hq ?_)
      -- the links
      have inner : ∀ (k : Int) (t : Int × am_S), k ≤ σ r 5 → (0 ≤ k ∧ qfr q σ t.2 ∧ dOK n (σ (r + 3)) (σ q) (σ (r + 2)) (t.2 q) ∧ (∀ w, wLk σ r w → btw n (σ q) (σ (r + 2)) w → ∀ a, 0 ≤ a → a < n → t.2 q a ≤ w a) ∧ ((t.1 = 0 ∧ (∀ a, t.2 q a = τ q a) ∧ ∀ j, 0 ≤ j → j < k → t.2 q (σ (r + 4) j) + σ (r + 6) j ≤ t.2 q (σ (r + 5) j)) ∨ (t.1 = 1 ∧ sumI (τ q) n.toNat + 1 ≤ sumI (t.2 q) n.toNat))) → K (d + 1) mW_rise 9 [.inr r, .inr q, .inl ρ, .inl t.1, .inl k] [] t.2 Q := by
        refine am_up (P := fun k (t : Int × am_S) => 0 ≤ k ∧ qfr q σ t.2 ∧ dOK n (σ (r + 3)) (σ q) (σ (r + 2)) (t.2 q) ∧ (∀ w, wLk σ r w → btw n (σ q) (σ (r + 2)) w → ∀ a, 0 ≤ a → a < n → t.2 q a ≤ w a) ∧ ((t.1 = 0 ∧ (∀ a, t.2 q a = τ q a) ∧ ∀ j, 0 ≤ j → j < k → t.2 q (σ (r + 4) j) + σ (r + 6) j ≤ t.2 q (σ (r + 5) j)) ∨ (t.1 = 1 ∧ sumI (τ q) n.toNat + 1 ≤ sumI (t.2 q) n.toNat))) (C := fun k t => K (d + 1) mW_rise 9 [.inr r, .inr q, .inl ρ, .inl t.1, .inl k] [] t.2 Q) (fun t hp => ?_) (fun k t hk hp ih2 => ?_)
        · obtain ⟨mv, υ⟩ := t
          obtain ⟨-, cu, du, mu', hmv⟩ := hp
          dsimp only at cu du mu' hmv ⊢
          have u5 : υ r 5 = σ r 5 := by rw [cu r (by omega)]
          have rm : am_rng mv := by rcases hmv with z | z <;> (rw [z.1]; exact ⟨by decide, by decide⟩)
          refine bW_rise_9 hK hr hq ⟨by omega, by omega⟩ (by rw [u5]; exact ⟨by omega, by omega⟩) (fun _ => ?_) (fun g => absurd g (by rw [u5]; omega))
          refine bW_rise_56 hK hr hq rm (fun g => bW_rise_60 hK hr hq (ih υ ⟨by omega, cu, du, mu', ?_⟩)) (fun g => bW_rise_58 hK hr hq (h 1 υ cu (Or.inl ⟨rfl, du, ⟨fun a a0 an hne => ?_, fun j j0 j1 => ?_⟩, mu'⟩)))
          · rcases hmv with z | z
            · exact absurd z.1 g
            · omega
          · rw [v1] at an
            exact (du a a0 an).2 hne
          · rcases hmv with z | z
            · exact z.2.2 j j0 j1
            · omega
        · obtain ⟨mv, υ⟩ := t
          obtain ⟨k0, cu, du, mu', hmv⟩ := hp
          dsimp only at cu du mu' hmv ih2 ⊢
          have u0 : υ r = σ r := cu r (by omega)
          have u2 : υ (r + 2) = σ (r + 2) := cu (r + 2) (by omega)
          have u3 : υ (r + 3) = σ (r + 3) := cu (r + 3) (by omega)
          have u4 : υ (r + 4) = σ (r + 4) := cu (r + 4) (by omega)
          have u5 : υ (r + 5) = σ (r + 5) := cu (r + 5) (by omega)
          have u6 : υ (r + 6) = σ (r + 6) := cu (r + 6) (by omega)
          obtain ⟨we, wt, wb⟩ := v5 k k0 hk
          generalize he : σ (r + 4) k = e at we
          generalize ht : σ (r + 5) k = t at wt
          generalize hb : σ (r + 6) k = by' at wb
          have xe := du e we.1 we.2
          have xt := du t wt.1 wt.2
          have x0e := hx0 e we.1 we.2
          have x0t := hx0 t wt.1 wt.2
          have h9e := hi199 e we.1 we.2
          have h9t := hi199 t wt.1 wt.2
          refine bW_rise_9 hK hr hq ⟨by omega, by omega⟩ (by rw [u0]; exact ⟨by omega, by omega⟩) (fun g => absurd g (by rw [u0]; omega)) (fun _ => ?_)
          refine bW_rise_13 hK hr hq (by omega) (by omega) (by rw [u4, he]; omega) (by omega) (by rw [u5, ht]; omega) (by rw [u5, ht]; exact ⟨by omega, by omega⟩) (by rw [u4, he, u6, hb]; exact ⟨by omega, by omega⟩) (fun g => ?_) (fun g => ?_)
          · rw [u4, u5, u6, he, ht, hb] at g ⊢
            refine bW_rise_54 hK hr hq (ih2 (mv, υ) ⟨by omega, cu, du, mu', ?_⟩)
            rcases hmv with ⟨z1, z2, z3⟩ | z
            · refine Or.inl ⟨z1, z2, fun j j0 j1 => ?_⟩
              by_cases ej : j = k
              · rw [ej, he, ht, hb]
                exact g
              · exact z3 j j0 (by omega)
            · exact Or.inr z
          · rw [u4, u5, u6, he, ht, hb] at g ⊢
            have wdt := (v3 t wt.1 wt.2).2.2
            refine bW_rise_35 hK hr hq (sW_notBefore hK hr (by omega) (by rw [u3]; exact wdt) (by omega) (by omega) (fun z hz => ?_))
            rw [u3] at hz
            obtain ⟨z1, z2, z3, z4⟩ := hz
            have below : ∀ w, wLk σ r w → btw n (σ q) (σ (r + 2)) w → z ≤ w t := fun w hw hbt => by
              refine z4 (w t) ?_ (fun hne => hw.1 t wt.1 (by rw [v1]; exact wt.2) hne)
              have l := hw.2 k k0 hk
              rw [he, ht, hb] at l
              have m1 := mu' w hw hbt e we.1 we.2
              omega
            have s1 : am_us υ q t z q t = z := us_e _ _ _ _
            have s2 : am_us υ q t z (r + 2) = σ (r + 2) := by rw [us_o _ _ _ (by omega)]; exact u2
            have c' : qfr q σ (am_us υ q t z) := fun cc hc => by rw [us_o _ _ _ hc]; exact cu cc hc
            refine bW_rise_41 hK hr hq (by omega) (by omega) (by omega) (by rw [s1]; exact ⟨by omega, by omega⟩) (by rw [s2]; exact ⟨by omega, by omega⟩) (fun g2 => ?_) (fun g2 => ?_)
            · rw [s1, s2] at g2
              refine bW_rise_52 hK hr hq (bW_rise_54 hK hr hq (ih2 (1, am_us υ q t z) ⟨by omega, c', fun a a0 an => ?_, fun w hw hbt a a0 an => ?_, Or.inr ⟨rfl, ?_⟩⟩))
              · show (σ q a ≤ am_us υ q t z q a ∧ am_us υ q t z q a ≤ σ (r + 2) a) ∧ (σ (r + 3) a ≠ -1 → am_us υ q t z q a % 7 = σ (r + 3) a)
                rw [us_s]
                by_cases ea : a = t
                · rw [if_pos ea, ea]
                  exact ⟨by omega, z3⟩
                · rw [if_neg ea]
                  exact du a a0 an
              · show am_us υ q t z q a ≤ w a
                rw [us_s]
                by_cases ea : a = t
                · rw [if_pos ea, ea]
                  exact below w hw hbt
                · rw [if_neg ea]
                  exact mu' w hw hbt a a0 an
              · show sumI (τ q) n.toNat + 1 ≤ sumI (am_us υ q t z q) n.toNat
                have l1 : sumI (υ q) n.toNat < sumI (am_us υ q t z q) n.toNat := sumI_lt n.toNat (fun a a0 an => by
                  rw [us_s]
                  split
                  · rename_i ea
                    rw [ea]
                    omega
                  · exact Int.le_refl _) ⟨t, wt.1, by omega, by rw [us_e]; omega⟩
                rcases hmv with ⟨-, y2, -⟩ | y
                · have l2 : sumI (υ q) n.toNat = sumI (τ q) n.toNat := sumI_cong _ (fun a _ _ => y2 a)
                  omega
                · omega
            · rw [s1, s2] at g2
              refine bW_rise_50 hK hr hq (h 0 _ c' (Or.inr ⟨rfl, fun w hw hbt => ?_⟩))
              have y1 := below w hw hbt
              have y2 := (hbt t wt.1 wt.2).2
              omega
      exact inner 0 (0, τ) v4.1 ⟨Int.le_refl 0, c, hd, hmin, Or.inl ⟨rfl, fun _ => rfl, fun j j0 j1 => absurd j1 (by omega)⟩⟩
  refine bW_rise_0 hK hr hq (rounds 0 σ (by decide) ⟨Int.le_refl 0, fun _ _ => rfl, hx, fun w _ hbt a a0 an => (hbt a a0 an).1, ?_⟩)
  have := sumI_lb (f := σ q) (c := 0) n.toNat (fun a a0 an => hx0 a a0 (by omega))
  omega
set_option maxHeartbeats 1000000 in
/-- the greatest below x0, where there is one -/
theorem sW_sink {K : am_KT} (hK : am_C K) {d : Nat} {σ : am_S} {Q : am_Q} {r q : Nat} (hr : am_isW r) (hq : am_isD q) {n : Int} (n0 : 0 ≤ n) (n8 : n ≤ 8) (hV : WebV σ r n 20) (hx1 : ∀ a, 0 ≤ a → a < n → σ q a ≤ 199) (hwd : ∀ a, 0 ≤ a → a < n → σ (r + 3) a ≠ -1 → σ q a % 7 = σ (r + 3) a) {w0 : Int → Int} (hw0 : wLk σ r w0) (hw1 : ∀ a, 0 ≤ a → a < n → 0 ≤ w0 a ∧ w0 a ≤ σ q a)
    (h : ∀ σ', qfr q σ σ' → wLk σ r (σ' q) → (∀ a, 0 ≤ a → a < n → σ' q a ≤ σ q a) → (∀ w, wLk σ r w → (∀ a, 0 ≤ a → a < n → w a ≤ σ q a) → ∀ a, 0 ≤ a → a < n → w a ≤ σ' q a) → Q none σ') : K (d + 1) mW_sink 0 [.inr r, .inr q] [] σ Q := by
  have hrr : r = 34 ∨ r = 43 := hr
  have hqq : q = 27 ∨ q = 28 ∨ q = 29 ∨ q = 42 := hq
  obtain ⟨v1, v2, v3, v4, v5⟩ := id hV
  have rounds : ∀ (ρ : Int) (τ : am_S), ρ ≤ 1601 → (0 ≤ ρ ∧ qfr q σ τ ∧ (∀ a, 0 ≤ a → a < n → τ q a ≤ σ q a ∧ (σ (r + 3) a ≠ -1 → τ q a % 7 = σ (r + 3) a)) ∧ (∀ w, wLk σ r w → (∀ a, 0 ≤ a → a < n → w a ≤ σ q a) → ∀ a, 0 ≤ a → a < n → w a ≤ τ q a) ∧ sumI (τ q) n.toNat ≤ 1592 - ρ) → K (d + 1) mW_sink 2 [.inr r, .inr q, .inl ρ] [] τ Q := by
    refine am_up (P := fun ρ τ => 0 ≤ ρ ∧ qfr q σ τ ∧ (∀ a, 0 ≤ a → a < n → τ q a ≤ σ q a ∧ (σ (r + 3) a ≠ -1 → τ q a % 7 = σ (r + 3) a)) ∧ (∀ w, wLk σ r w → (∀ a, 0 ≤ a → a < n → w a ≤ σ q a) → ∀ a, 0 ≤ a → a < n → w a ≤ τ q a) ∧ sumI (τ q) n.toNat ≤ 1592 - ρ) (C := fun ρ τ => K (d + 1) mW_sink 2 [.inr r, .inr q, .inl ρ] [] τ Q) (fun τ hp => ?_) (fun ρ τ hρ hp ih => ?_)
    · exfalso
      obtain ⟨-, -, -, hmax, hs⟩ := hp
      have := sumI_lb (f := τ q) (c := 0) n.toNat (fun a a0 an => by have g1 := hmax w0 hw0 (fun a a0 an => (hw1 a a0 an).2) a a0 (by omega); have g2 := hw1 a a0 (by omega); omega)
      omega
    · obtain ⟨ρ0, c, hd, hmax, hsum⟩ := hp
      refine bW_sink_2 hK hr hq ⟨by omega, by omega⟩ (fun g => absurd g (by omega)) (fun _ => bW_sink_5 hK hr hq ?_)
      have inner : ∀ (k : Int) (t : Int × am_S), k ≤ σ r 5 → (0 ≤ k ∧ qfr q σ t.2 ∧ (∀ a, 0 ≤ a → a < n → t.2 q a ≤ σ q a ∧ (σ (r + 3) a ≠ -1 → t.2 q a % 7 = σ (r + 3) a)) ∧ (∀ w, wLk σ r w → (∀ a, 0 ≤ a → a < n → w a ≤ σ q a) → ∀ a, 0 ≤ a → a < n → w a ≤ t.2 q a) ∧ ((t.1 = 0 ∧ (∀ a, t.2 q a = τ q a) ∧ ∀ j, 0 ≤ j → j < k → t.2 q (σ (r + 4) j) + σ (r + 6) j ≤ t.2 q (σ (r + 5) j)) ∨ (t.1 = 1 ∧ sumI (t.2 q) n.toNat + 1 ≤ sumI (τ q) n.toNat))) → K (d + 1) mW_sink 9 [.inr r, .inr q, .inl ρ, .inl t.1, .inl k] [] t.2 Q := by
        refine am_up (P := fun k (t : Int × am_S) => 0 ≤ k ∧ qfr q σ t.2 ∧ (∀ a, 0 ≤ a → a < n → t.2 q a ≤ σ q a ∧ (σ (r + 3) a ≠ -1 → t.2 q a % 7 = σ (r + 3) a)) ∧ (∀ w, wLk σ r w → (∀ a, 0 ≤ a → a < n → w a ≤ σ q a) → ∀ a, 0 ≤ a → a < n → w a ≤ t.2 q a) ∧ ((t.1 = 0 ∧ (∀ a, t.2 q a = τ q a) ∧ ∀ j, 0 ≤ j → j < k → t.2 q (σ (r + 4) j) + σ (r + 6) j ≤ t.2 q (σ (r + 5) j)) ∨ (t.1 = 1 ∧ sumI (t.2 q) n.toNat + 1 ≤ sumI (τ q) n.toNat))) (C := fun k t => K (d + 1) mW_sink 9 [.inr r, .inr q, .inl ρ, .inl t.1, .inl k] [] t.2 Q) (fun t hp => ?_) (fun k t hk hp ih2 => ?_)
        · obtain ⟨mv, υ⟩ := t
          obtain ⟨-, cu, du, mu', hmv⟩ := hp
          dsimp only at cu du mu' hmv ⊢
          have u5 : υ r 5 = σ r 5 := by rw [cu r (by omega)]
          have rm : am_rng mv := by rcases hmv with z | z <;> (rw [z.1]; exact ⟨by decide, by decide⟩)
          refine bW_sink_9 hK hr hq ⟨by omega, by omega⟩ (by rw [u5]; exact ⟨by omega, by omega⟩) (fun _ => ?_) (fun g => absurd g (by rw [u5]; omega))
          refine bW_sink_46 hK hr hq rm (fun g => bW_sink_49 hK hr hq (ih υ ⟨by omega, cu, du, mu', ?_⟩)) (fun g => bW_sink_48 hK hr hq (h υ cu ⟨fun a a0 an hne => ?_, fun j j0 j1 => ?_⟩ (fun a a0 an => (du a a0 an).1) mu'))
          · rcases hmv with z | z
            · exact absurd z.1 g
            · omega
          · rw [v1] at an
            exact (du a a0 an).2 hne
          · rcases hmv with z | z
            · exact z.2.2 j j0 j1
            · omega
        · obtain ⟨mv, υ⟩ := t
          obtain ⟨k0, cu, du, mu', hmv⟩ := hp
          dsimp only at cu du mu' hmv ih2 ⊢
          have u0 : υ r = σ r := cu r (by omega)
          have u3 : υ (r + 3) = σ (r + 3) := cu (r + 3) (by omega)
          have u4 : υ (r + 4) = σ (r + 4) := cu (r + 4) (by omega)
          have u5 : υ (r + 5) = σ (r + 5) := cu (r + 5) (by omega)
          have u6 : υ (r + 6) = σ (r + 6) := cu (r + 6) (by omega)
          obtain ⟨we, wt, wb⟩ := v5 k k0 hk
          have w0l := hw0.2 k k0 hk
          generalize he : σ (r + 4) k = e at we w0l
          generalize ht : σ (r + 5) k = t at wt w0l
          generalize hb : σ (r + 6) k = by' at wb w0l
          have xe := du e we.1 we.2
          have xt := du t wt.1 wt.2
          have hle0 : ∀ a, 0 ≤ a → a < n → w0 a ≤ σ q a := fun a a0 an => (hw1 a a0 an).2
          have l0e := mu' w0 hw0 hle0 e we.1 we.2
          have l0t := mu' w0 hw0 hle0 t wt.1 wt.2
          have p0e := (hw1 e we.1 we.2).1
          have p0t := (hw1 t wt.1 wt.2).1
          have h9e := hx1 e we.1 we.2
          have h9t := hx1 t wt.1 wt.2
          refine bW_sink_9 hK hr hq ⟨by omega, by omega⟩ (by rw [u0]; exact ⟨by omega, by omega⟩) (fun g => absurd g (by rw [u0]; omega)) (fun _ => ?_)
          refine bW_sink_13 hK hr hq (by omega) (by omega) (by rw [u5, ht]; omega) (by omega) (by rw [u4, he]; omega) (by rw [u4, he]; exact ⟨by omega, by omega⟩) (by rw [u5, ht, u6, hb]; exact ⟨by omega, by omega⟩) (fun g => ?_) (fun g => ?_)
          · rw [u4, u5, u6, he, ht, hb] at g ⊢
            refine bW_sink_44 hK hr hq (ih2 (mv, υ) ⟨by omega, cu, du, mu', ?_⟩)
            rcases hmv with ⟨z1, z2, z3⟩ | z
            · refine Or.inl ⟨z1, z2, fun j j0 j1 => ?_⟩
              by_cases ej : j = k
              · rw [ej, he, ht, hb]
                show υ q e + by' ≤ υ q t
                omega
              · exact z3 j j0 (by omega)
            · exact Or.inr z
          · rw [u4, u5, u6, he, ht, hb] at g ⊢
            have wdt := (v3 e we.1 we.2).2.2
            refine bW_sink_35 hK hr hq (sW_notBehind hK hr (by omega) (by rw [u3]; exact wdt) (by omega) (by omega) (fun z hz => ?_))
            rw [u3] at hz
            obtain ⟨z1, z2, z3, z4⟩ := hz
            have above : ∀ w, wLk σ r w → (∀ a, 0 ≤ a → a < n → w a ≤ σ q a) → w e ≤ z := fun w hw hbt => by
              refine z4 (w e) ?_ (fun hne => hw.1 e we.1 (by rw [v1]; exact we.2) hne)
              have l := hw.2 k k0 hk
              rw [he, ht, hb] at l
              have m1 := mu' w hw hbt t wt.1 wt.2
              omega
            have c' : qfr q σ (am_us υ q e z) := fun cc hc => by rw [us_o _ _ _ hc]; exact cu cc hc
            refine bW_sink_41 hK hr hq (by omega) (bW_sink_44 hK hr hq (ih2 (1, am_us υ q e z) ⟨by omega, c', fun a a0 an => ?_, fun w hw hbt a a0 an => ?_, Or.inr ⟨rfl, ?_⟩⟩))
            · show am_us υ q e z q a ≤ σ q a ∧ (σ (r + 3) a ≠ -1 → am_us υ q e z q a % 7 = σ (r + 3) a)
              rw [us_s]
              by_cases ea : a = e
              · rw [if_pos ea, ea]
                exact ⟨by omega, z3⟩
              · rw [if_neg ea]
                exact du a a0 an
            · show w a ≤ am_us υ q e z q a
              rw [us_s]
              by_cases ea : a = e
              · rw [if_pos ea, ea]
                exact above w hw hbt
              · rw [if_neg ea]
                exact mu' w hw hbt a a0 an
            · show sumI (am_us υ q e z q) n.toNat + 1 ≤ sumI (τ q) n.toNat
              have l1 : sumI (am_us υ q e z q) n.toNat < sumI (υ q) n.toNat := sumI_lt n.toNat (fun a a0 an => by
                rw [us_s]
                split
                · rename_i ea
                  rw [ea]
                  omega
                · exact Int.le_refl _) ⟨e, we.1, by omega, by rw [us_e]; omega⟩
              rcases hmv with ⟨-, y2, -⟩ | y
              · have l2 : sumI (υ q) n.toNat = sumI (τ q) n.toNat := sumI_cong _ (fun a _ _ => y2 a)
                omega
              · omega
      exact inner 0 (0, τ) v4.1 ⟨Int.le_refl 0, c, hd, hmax, Or.inl ⟨rfl, fun _ => rfl, fun j j0 j1 => absurd j1 (by omega)⟩⟩
  refine bW_sink_0 hK hr hq (rounds 0 σ (by decide) ⟨Int.le_refl 0, fun _ _ => rfl, fun a a0 an => ⟨Int.le_refl _, hwd a a0 an⟩, fun w _ hbt a a0 an => hbt a a0 an, ?_⟩)
  have := sumI_ub (f := σ q) (c := 199) n.toNat (fun a a0 an => hx1 a a0 (by omega))
  omega
