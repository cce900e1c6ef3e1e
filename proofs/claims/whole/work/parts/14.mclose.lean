/-! the reference: bindsWeek, close -/
theorem sM_bindsWeek {K : am_KT} (hK : am_C K) {d : Nat} {σ : am_S} {Q : am_Q} (n0 : 0 ≤ σ 0 0) (n8 : σ 0 0 ≤ 8) (hM : Mst (-199) σ)
    (h : ∀ r σ', fr9 σ σ' → (∀ w, Wk (σ 0 0) (σ 10) w → (Sat (σ 0 0) (σ' 9) w ↔ Sat (σ 0 0) (σ 9) w)) → ((r = 0 ∧ (∀ q, 0 ≤ q → q < 81 → σ' 9 q = σ 9 q) ∧ ∀ i j, nde (σ 0 0) i → nde (σ 0 0) j → i ≠ j → σ 10 i ≠ -9 → σ 10 j ≠ -9 → (σ 9 (9 * i + j) - σ 10 j + σ 10 i) % 7 = 0) ∨ (r = 1 ∧ (∀ q, 0 ≤ q → q < 81 → σ' 9 q ≤ σ 9 q) ∧ (∃ q, 0 ≤ q ∧ q < 81 ∧ σ' 9 q < σ 9 q) ∧ Mst (-205) σ')) → Q (some r) σ') : K (d + 1) mM_bindsWeek 0 [.inr 0] [] σ Q := by
  obtain ⟨mr, md, mu', mw, mi⟩ := hM
  have loop : ∀ (x : Int) (t : Int × am_S), x ≤ 81 → (0 ≤ x ∧ fr9 σ t.2 ∧ (∀ q, x ≤ q → t.2 9 q = σ 9 q) ∧ (∀ q, σ 9 q - 6 ≤ t.2 9 q ∧ t.2 9 q ≤ σ 9 q) ∧ (∀ i j, 0 ≤ i → i < 9 → 0 ≤ j → j < 9 → ¬ (nde (σ 0 0) i ∧ nde (σ 0 0) j) → t.2 9 (9 * i + j) = σ 9 (9 * i + j)) ∧ (∀ w, Wk (σ 0 0) (σ 10) w → (Sat (σ 0 0) (t.2 9) w ↔ Sat (σ 0 0) (σ 9) w)) ∧ ((t.1 = 0 ∧ (∀ q, t.2 9 q = σ 9 q) ∧ ∀ i j, nde (σ 0 0) i → nde (σ 0 0) j → 9 * i + j < x → i ≠ j → σ 10 i ≠ -9 → σ 10 j ≠ -9 → (σ 9 (9 * i + j) - σ 10 j + σ 10 i) % 7 = 0) ∨ (t.1 = 1 ∧ ∃ q, 0 ≤ q ∧ q < 81 ∧ t.2 9 q < σ 9 q))) → K (d + 1) mM_bindsWeek 4 [.inr 0, .inl t.1, .inl x] [] t.2 Q := by
    refine am_up (P := fun x (t : Int × am_S) => 0 ≤ x ∧ fr9 σ t.2 ∧ (∀ q, x ≤ q → t.2 9 q = σ 9 q) ∧ (∀ q, σ 9 q - 6 ≤ t.2 9 q ∧ t.2 9 q ≤ σ 9 q) ∧ (∀ i j, 0 ≤ i → i < 9 → 0 ≤ j → j < 9 → ¬ (nde (σ 0 0) i ∧ nde (σ 0 0) j) → t.2 9 (9 * i + j) = σ 9 (9 * i + j)) ∧ (∀ w, Wk (σ 0 0) (σ 10) w → (Sat (σ 0 0) (t.2 9) w ↔ Sat (σ 0 0) (σ 9) w)) ∧ ((t.1 = 0 ∧ (∀ q, t.2 9 q = σ 9 q) ∧ ∀ i j, nde (σ 0 0) i → nde (σ 0 0) j → 9 * i + j < x → i ≠ j → σ 10 i ≠ -9 → σ 10 j ≠ -9 → (σ 9 (9 * i + j) - σ 10 j + σ 10 i) % 7 = 0) ∨ (t.1 = 1 ∧ ∃ q, 0 ≤ q ∧ q < 81 ∧ t.2 9 q < σ 9 q))) (C := fun x t => K (d + 1) mM_bindsWeek 4 [.inr 0, .inl t.1, .inl x] [] t.2 Q) (fun t hp => ?_) (fun x t hx hp ih => ?_)
    · obtain ⟨r, τ⟩ := t
      obtain ⟨-, c, hun, hb, hn, hs, hr⟩ := hp
      dsimp only at c hun hb hn hs hr ⊢
      refine bM_bindsWeek_4 hK ⟨by decide, by decide⟩ (fun _ => bM_bindsWeek_81 hK (by rcases hr with q | q; exact Or.inl q.1; exact Or.inr q.1) ?_) (fun g => absurd g (by decide))
      have c0 : τ 0 = σ 0 := c 0 (by decide)
      have c10 : τ 10 = σ 10 := c 10 (by decide)
      refine h r τ c hs ?_
      rcases hr with ⟨r0, e, w7⟩ | ⟨r1, q, q0, q1, q2⟩
      · left
        refine ⟨r0, fun q _ _ => e q, fun i j hi hj ij wi wj => w7 i j hi hj ?_ ij wi wj⟩
        have ri := nde_r n8 hi
        have rj := nde_r n8 hj
        omega
      · right
        refine ⟨r1, fun q _ _ => (hb q).2, ⟨q, q0, q1, q2⟩, ⟨fun q q0 q1 => ?_, ?_, ?_, ?_, ?_⟩⟩
        · have g := mr q q0 q1
          have g2 := hb q
          omega
        · rw [c0]
          intro i j i0 i1 j0 j1 hk
          rw [hn i j i0 i1 j0 j1 hk]
          exact md i j i0 i1 j0 j1 hk
        · rw [c0]
          intro a a0 an
          have g := mu' a a0 an
          have g1 := (hb (72 + a)).2
          have g2 := (hb (9 * a + 8)).2
          omega
        · rw [c10]
          exact mw
        · rw [c0]
          exact mi
    · obtain ⟨r, τ⟩ := t
      obtain ⟨x0, c, hun, hb, hn, hs, hr⟩ := hp
      dsimp only at c hun hb hn hs hr ih ⊢
      have c0 : τ 0 = σ 0 := c 0 (by decide)
      have c00 : τ 0 0 = σ 0 0 := by rw [c0]
      have c10 : τ 10 = σ 10 := c 10 (by decide)
      have d1 : x.tdiv 9 = x / 9 := tdv 9 x0
      have d2 : x.tmod 9 = x % 9 := tmd 9 x0
      have hpos : x = 9 * (x / 9) + x % 9 := by omega
      have rr : am_rng r := by rcases hr with q | q <;> (rw [q.1]; exact ⟨by decide, by decide⟩)
      -- nothing is done
      have skip : ¬ (nde (σ 0 0) (x / 9) ∧ nde (σ 0 0) (x % 9) ∧ x / 9 ≠ x % 9 ∧ σ 10 (x / 9) ≠ -9 ∧ σ 10 (x % 9) ≠ -9) → K (d + 1) mM_bindsWeek 79 [.inr 0, .inl r, .inl x, .inl (x / 9), .inl (x % 9)] [] τ Q := by
        intro hno
        refine bM_bindsWeek_79 hK (ih (r, τ) ⟨by omega, c, fun q hq => hun q (by omega), hb, hn, hs, ?_⟩)
        rcases hr with ⟨r0, e, w7⟩ | q
        · refine Or.inl ⟨r0, e, fun i j hi hj hlt ij wi wj => ?_⟩
          have ri := nde_r n8 hi
          have rj := nde_r n8 hj
          by_cases ex : 9 * i + j = x
          · have ei : i = x / 9 := by omega
            have ej : j = x % 9 := by omega
            rw [ei] at hi ij wi
            rw [ej] at hj ij wj
            exact absurd ⟨hi, hj, ij, wi, wj⟩ hno
          · exact w7 i j hi hj (by omega) ij wi wj
        · exact Or.inr q
      refine bM_bindsWeek_4 hK ⟨by omega, by omega⟩ (fun g => absurd g (by omega)) (fun _ => ?_)
      refine bM_bindsWeek_7 hK ⟨by omega, by omega⟩ ⟨by omega, by omega⟩ (by rw [d1]; exact ⟨by omega, by omega⟩) (by rw [d2]; exact ⟨by omega, by omega⟩) (fun g => ?_) (fun g => ?_)
      · rw [d1, d2] at g ⊢
        exact skip (fun z => z.2.2.1 g)
      rw [d1, d2] at g ⊢
      have rn : am_rng (τ 0 0) := by rw [c00]; exact ⟨by omega, by omega⟩
      refine bM_bindsWeek_18 hK (sM_isNode hK ⟨by omega, by omega⟩ rn (by omega) (fun r1 hr1 => ?_))
      rw [c00] at hr1
      refine bM_bindsWeek_21 hK (by rcases hr1 with q | q <;> (rw [q.1]; exact ⟨by decide, by decide⟩)) (fun g1 => skip (fun z => ?_)) (fun g1 => ?_)
      · rcases hr1 with q | q
        · omega
        · exact q.2 z.1
      refine bM_bindsWeek_22 hK (sM_isNode hK ⟨by omega, by omega⟩ rn (by omega) (fun r2 hr2 => ?_))
      rw [c00] at hr2
      refine bM_bindsWeek_25 hK (by rcases hr2 with q | q <;> (rw [q.1]; exact ⟨by decide, by decide⟩)) (fun g2 => skip (fun z => ?_)) (fun g2 => ?_)
      · rcases hr2 with q | q
        · omega
        · exact q.2 z.2.1
      have hi : nde (σ 0 0) (x / 9) := by rcases hr1 with q | q; exact q.2; exact absurd q.1 g1
      have hj : nde (σ 0 0) (x % 9) := by rcases hr2 with q | q; exact q.2; exact absurd q.1 g2
      have wr : ∀ i, nde (σ 0 0) i → -9 ≤ σ 10 i ∧ σ 10 i ≤ 6 := fun i hi => by
        rcases hi with q | q
        · rcases mw.1 i q.1 (by omega) with z | z <;> omega
        · rw [q, mw.2]
          omega
      have w1 := wr _ hi
      have w2 := wr _ hj
      refine bM_bindsWeek_26 hK (by omega) (by rw [c10]; exact ⟨by omega, by omega⟩) (fun g3 => skip (fun z => z.2.2.2.1 (by rw [← c10]; exact g3))) (fun g3 => ?_)
      rw [c10] at g3
      refine bM_bindsWeek_32 hK (by omega) (by rw [c10]; exact ⟨by omega, by omega⟩) (fun g4 => skip (fun z => z.2.2.2.2 (by rw [← c10]; exact g4))) (fun g4 => ?_)
      rw [c10] at g4
      have mx : τ 9 x = σ 9 x := hun x (Int.le_refl x)
      have mrx := mr x x0 hx
      obtain ⟨t1, t2, t3, t4⟩ := tm7 (τ 9 x - τ 10 (x % 9) + τ 10 (x / 9))
      -- the bound becomes less
      have fin : ∀ v5, K (d + 1) mM_bindsWeek 62 [.inr 0, .inl r, .inl x, .inl (x / 9), .inl (x % 9), .inl v5] [.inl ((σ 9 x - σ 10 (x % 9) + σ 10 (x / 9)) % 7)] τ Q := by
        intro v5
        generalize hoff : (σ 9 x - σ 10 (x % 9) + σ 10 (x / 9)) % 7 = off
        have ho : 0 ≤ off ∧ off < 7 := by omega
        have e9 : ∀ q, am_us τ 9 x (τ 9 x - off) 9 q = if q = x then σ 9 x - off else τ 9 q := fun q => by rw [us_s, mx]
        have c' : fr9 σ (am_us τ 9 x (τ 9 x - off)) := fun cc hc => by rw [us_o _ _ _ hc]; exact c cc hc
        have un' : ∀ q, x + 1 ≤ q → am_us τ 9 x (τ 9 x - off) 9 q = σ 9 q := fun q hq => by
          rw [e9, if_neg (by omega)]
          exact hun q (by omega)
        have b' : ∀ q, σ 9 q - 6 ≤ am_us τ 9 x (τ 9 x - off) 9 q ∧ am_us τ 9 x (τ 9 x - off) 9 q ≤ σ 9 q := fun q => by
          rw [e9]
          split
          · rename_i e
            subst e
            omega
          · exact hb q
        have n' : ∀ i j, 0 ≤ i → i < 9 → 0 ≤ j → j < 9 → ¬ (nde (σ 0 0) i ∧ nde (σ 0 0) j) → am_us τ 9 x (τ 9 x - off) 9 (9 * i + j) = σ 9 (9 * i + j) := fun i j i0 i1 j0 j1 hk => by
          rw [e9, if_neg]
          · exact hn i j i0 i1 j0 j1 hk
          · intro e
            have ei : i = x / 9 := by omega
            have ej : j = x % 9 := by omega
            subst ei
            subst ej
            exact hk ⟨hi, hj⟩
        have s' : ∀ w, Wk (σ 0 0) (σ 10) w → (Sat (σ 0 0) (am_us τ 9 x (τ 9 x - off) 9) w ↔ Sat (σ 0 0) (σ 9) w) := fun w hw => by
          rw [← hs w hw]
          refine Sat_week n8 hi hj mw.2 g3 g4 hw ?_ (fun q hq => ?_)
          · rw [← hpos, us_e, mx, hoff]
          · rw [us_n _ _ _ (by omega)]
        have key : ∀ r', ((r' = 0 ∧ r = 0 ∧ off = 0) ∨ (r' = 1 ∧ (r = 1 ∨ 0 < off))) → K (d + 1) mM_bindsWeek 78 [.inr 0, .inl r, .inl x, .inl (x / 9), .inl (x % 9), .inl off] [.inl r'] (am_us τ 9 x (τ 9 x - off)) Q := by
          intro r' hr'
          refine bM_bindsWeek_78 hK (bM_bindsWeek_79 hK (ih (r', _) ⟨by omega, c', un', b', n', s', ?_⟩))
          rcases hr' with ⟨z1, z2, z3⟩ | ⟨z1, z2⟩
          · left
            rcases hr with ⟨-, e, w7⟩ | ⟨q, -⟩
            · refine ⟨z1, fun q => ?_, fun i j hi' hj' hlt ij wi wj => ?_⟩
              · show am_us τ 9 x (τ 9 x - off) 9 q = σ 9 q
                rw [e9]
                split
                · rename_i e1
                  rw [e1]
                  omega
                · exact e q
              · have ri := nde_r n8 hi'
                have rj := nde_r n8 hj'
                by_cases ex : 9 * i + j = x
                · have ei : i = x / 9 := by omega
                  have ej : j = x % 9 := by omega
                  rw [ei, ej, ← hpos, hoff]
                  exact z3
                · exact w7 i j hi' hj' (by omega) ij wi wj
            · omega
          · right
            refine ⟨z1, ?_⟩
            rcases z2 with z2 | z2
            · rcases hr with ⟨q, -⟩ | ⟨-, q, q0, q1, q2⟩
              · omega
              · refine ⟨q, q0, q1, ?_⟩
                show am_us τ 9 x (τ 9 x - off) 9 q < σ 9 q
                rw [e9]
                split
                · rename_i e1
                  subst e1
                  omega
                · exact q2
            · refine ⟨x, x0, hx, ?_⟩
              show am_us τ 9 x (τ 9 x - off) 9 x < σ 9 x
              rw [e9, if_pos rfl]
              omega
        have r01 : r = 0 ∨ r = 1 := by rcases hr with q | q; exact Or.inl q.1; exact Or.inr q.1
        refine bM_bindsWeek_62 hK (by omega) (by omega) rr (fun z => bM_bindsWeek_75 hK (key 1 (Or.inr ⟨rfl, Or.inl (by omega)⟩))) (fun z => ?_)
        exact bM_bindsWeek_73 hK ⟨by omega, by omega⟩ (fun z2 => bM_bindsWeek_77 hK (key 0 (Or.inl ⟨rfl, z, by omega⟩))) (fun z2 => bM_bindsWeek_75 hK (key 1 (Or.inr ⟨rfl, Or.inr z2⟩)))
      have eqs : τ 9 x - τ 10 (x % 9) + τ 10 (x / 9) = σ 9 x - σ 10 (x % 9) + σ 10 (x / 9) := by rw [mx, c10]
      refine bM_bindsWeek_38 hK (by omega) (by omega) (by omega) (by rw [eqs]; exact ⟨by omega, by omega⟩) ⟨by omega, by omega⟩ (fun g5 => ?_) (fun g5 => ?_)
      · refine bM_bindsWeek_61 hK ?_
        have e := t1 g5
        rw [e, eqs]
        exact fin _
      · refine bM_bindsWeek_57 hK ?_
        have e := t2 g5
        rw [e, eqs]
        exact fin _
  exact bM_bindsWeek_0 hK (loop 0 (0, σ) (by decide) ⟨Int.le_refl 0, fun _ _ => rfl, fun _ _ => rfl, fun q => (show σ 9 q - 6 ≤ σ 9 q ∧ σ 9 q ≤ σ 9 q from ⟨by omega, Int.le_refl _⟩), fun _ _ _ _ _ _ _ => rfl, fun _ _ => Iff.rfl, Or.inl ⟨rfl, fun _ => rfl, fun i j hi hj hlt => by
    have ri := nde_r n8 hi
    have rj := nde_r n8 hj
    exact absurd hlt (by omega)⟩⟩)
/-- the notes of a set -/
def Sm (s : Int) (k : Int) : Prop := am_and (am_shr s k) 1 = 1
def LG (P : PB) (S : Int → Prop) (l y : Int) (x z : Int → Int) : Prop := WayP P S l y x ∧ WayP P S l y z ∧ ∀ w, WayP P S l y w → ∀ a, 0 ≤ a → a < pn P → x a ≤ w a ∧ w a ≤ z a
theorem sM_close {K : am_KT} (hK : am_C K) {d : Nat} {σ : am_S} {Q : am_Q} {s l y : Int} (hv : Vld (pbM σ)) (hl : l = -9 ∨ (0 ≤ l ∧ l < σ 0 0 ∧ 0 ≤ y ∧ y ≤ 199))
    (h : ∀ r σ', cfr σ σ' → ((r = 1 ∧ LG (pbM σ) (Sm s) l y (fun a => -(σ' 9 (9 * a + 8))) (fun a => σ' 9 (72 + a))) ∨ (r = 0 ∧ ∀ w, ¬ WayP (pbM σ) (Sm s) l y w)) → Q (some r) σ') : K (d + 3) mM_close 0 [.inr 0, .inl s, .inl l, .inl y] [] σ Q := by
  have n0 : 0 ≤ σ 0 0 := hv.1.1
  have n8 : σ 0 0 ≤ 8 := hv.1.2
  have cfr_f : ∀ {τ τ' : am_S}, fr9 τ τ' → cfr τ τ' := fun hf => ⟨fun c _ h9 _ => hf c h9, fun j _ => by rw [hf 0 (by decide)]⟩
  -- a round
  have step : ∀ (τ : am_S), cfr σ τ → Mst (-205) τ → τ 0 12 = 1 → (∀ w, Sol τ w ↔ WayP (pbM σ) (Sm s) l y w) → (∀ τ2, cfr σ τ2 → Mst (-205) τ2 → τ2 0 12 = 1 → (∀ w, Sol τ2 w ↔ WayP (pbM σ) (Sm s) l y w) → sumI (τ2 9) 81 < sumI (τ 9) 81 → K (d + 3) mM_close 22 [.inr 0, .inl s, .inl l, .inl y, .inl 1, .inl 1] [] τ2 Q) → K (d + 3) mM_close 22 [.inr 0, .inl s, .inl l, .inl y, .inl 1, .inl 1] [] τ Q := by
    intro τ c m w12 hsol ih
    have e00 : τ 0 0 = σ 0 0 := c.2 0 (by decide)
    have r01 : am_rng (0 : Int) := ⟨by decide, by decide⟩
    have r11 : am_rng (1 : Int) := ⟨by decide, by decide⟩
    refine bM_close_22 (d := d + 2) hK r11 (fun g => absurd g (by decide)) (fun _ => ?_)
    refine bM_close_24 (d := d + 2) hK r11 (fun g => absurd g (by decide)) (fun _ => ?_)
    refine bM_close_26 (d := d + 2) hK (sM_draws (d := d + 1) hK (by rw [e00]; exact n0) (by rw [e00]; exact n8) m (fun r1 τ1 f1 le1 sat1 hr1 => ?_))
    have a0 : τ1 0 = τ 0 := f1 0 (by decide)
    have a10 : τ1 10 = τ 10 := f1 10 (by decide)
    have sol1 : ∀ w, Sol τ1 w ↔ WayP (pbM σ) (Sm s) l y w := fun w => by
      rw [← hsol w]
      unfold Sol
      rw [a0, a10, sat1 w]
    rcases hr1 with ⟨rfl, m1, dg, tri⟩ | ⟨rfl, hno⟩
    · refine bM_close_28 (d := d + 2) hK r11 (fun g => absurd g (by decide)) (fun _ => ?_)
      refine bM_close_31 (d := d + 2) hK (sM_bindsWeek (d := d + 1) hK (by rw [a0, e00]; exact n0) (by rw [a0, e00]; exact n8) m1 (fun r2 τ2 f2 sat2 hr2 => ?_))
      have b0 : τ2 0 = τ1 0 := f2 0 (by decide)
      have b10 : τ2 10 = τ1 10 := f2 10 (by decide)
      have sol2 : ∀ w, Sol τ2 w ↔ WayP (pbM σ) (Sm s) l y w := fun w => by
        rw [← sol1 w]
        unfold Sol
        rw [b0, b10]
        refine ⟨fun z => ⟨(sat2 w z.2.1).mp z.1, z.2⟩, fun z => ⟨(sat2 w z.2.1).mpr z.1, z.2⟩⟩
      have c2 : cfr σ τ2 := cfr_tr c (cfr_tr (cfr_f f1) (cfr_f f2))
      rcases hr2 with ⟨rfl, eq2, w7⟩ | ⟨rfl, le2, ⟨q, q0, q1, q2⟩, m2⟩
      · refine bM_close_33 (d := d + 2) hK r01 (fun _ => bM_close_36 (d := d + 2) hK (bM_close_37 (d := d + 2) hK ?_)) (fun g => absurd rfl g)
        refine bM_close_22 (d := d + 2) hK r11 (fun g => absurd g (by decide)) (fun _ => bM_close_24 (d := d + 2) hK r01 (fun _ => bM_close_39 (d := d + 2) hK (Or.inr rfl) ?_) (fun g => absurd rfl g))
        rw [a0] at w7
        have mm : ∀ i j, nde (σ 0 0) i → nde (σ 0 0) j → τ2 9 (9 * i + j) = τ1 9 (9 * i + j) := fun i j hi hj => by
          have ri := nde_r n8 hi
          have rj := nde_r n8 hj
          exact eq2 _ (by omega) (by omega)
        rw [e00] at w7 dg tri
        have hce := closed_ends n0 n8 (M := τ2 9) (wk := τ2 10) (by rw [b10]; exact m1.2.2.2.1.2) (by rw [b10]; exact m1.2.2.2.1.1) (fun k hk => by rw [mm k k hk hk]; exact dg k hk) (fun i j k hi hj hk => by rw [mm i j hi hj, mm i k hi hk, mm k j hk hj]; exact tri i j k hi hj hk)
          (fun i j hi hj ij wi wj => by rw [mm i j hi hj, b10] ; rw [b10] at wi wj; exact w7 i j hi hj ij wi wj)
        have s12 : τ2 0 12 = 1 := by rw [b0, a0]; exact w12
        have s00 : τ2 0 0 = σ 0 0 := by rw [b0, a0]; exact e00
        refine h 1 τ2 c2 (Or.inl ⟨rfl, (sol2 _).mp ⟨by rw [s00]; exact hce.1.1, by rw [s00]; exact hce.1.2, s12⟩, (sol2 _).mp ⟨by rw [s00]; exact hce.2.1.1, by rw [s00]; exact hce.2.1.2, s12⟩, fun w hw a a0' an => ?_⟩)
        have hs := ((sol2 w).mpr hw).1
        rw [s00] at hs
        exact hce.2.2 w hs a a0' an
      · refine bM_close_33 (d := d + 2) hK r11 (fun g => absurd g (by decide)) (fun _ => bM_close_34 (d := d + 2) hK (bM_close_37 (d := d + 2) hK ?_))
        refine ih τ2 c2 m2 (by rw [b0, a0]; exact w12) sol2 ?_
        have l1 : sumI (τ1 9) 81 ≤ sumI (τ 9) 81 := sumI_le 81 (fun q q0 q1 => le1 q q0 (by omega))
        have l2 : sumI (τ2 9) 81 < sumI (τ1 9) 81 := sumI_lt 81 (fun q q0 q1 => le2 q q0 (by omega)) ⟨q, q0, by omega, q2⟩
        omega
    · refine bM_close_28 (d := d + 2) hK r01 (fun _ => bM_close_36 (d := d + 2) hK (bM_close_37 (d := d + 2) hK ?_)) (fun g => absurd rfl g)
      refine bM_close_22 (d := d + 2) hK r01 (fun _ => bM_close_39 (d := d + 2) hK (Or.inl rfl) ?_) (fun g => absurd rfl g)
      refine h 0 τ1 (cfr_tr c (cfr_f f1)) (Or.inr ⟨rfl, fun w hw => ?_⟩)
      have hs := ((sol1 w).mpr hw).1
      rw [a0] at hs
      exact hno w hs
  have loop : ∀ (N : Nat) (τ : am_S), cfr σ τ → Mst (-205) τ → τ 0 12 = 1 → (∀ w, Sol τ w ↔ WayP (pbM σ) (Sm s) l y w) → sumI (τ 9) 81 + 205 * 81 ≤ N → K (d + 3) mM_close 22 [.inr 0, .inl s, .inl l, .inl y, .inl 1, .inl 1] [] τ Q := by
    intro N
    induction N with
    | zero =>
      intro τ c m w12 hsol hN
      refine step τ c m w12 hsol (fun τ2 c2 m2 w2 hs2 hlt => ?_)
      have := sumI_lb (c := -205) 81 (fun q q0 q1 => (m2.1 q q0 (by omega)).1)
      omega
    | succ N ih =>
      intro τ c m w12 hsol hN
      exact step τ c m w12 hsol (fun τ2 c2 m2 w2 hs2 hlt => ih τ2 c2 m2 w2 hs2 (by omega))
  -- behind the start
  have go : ∀ τ, cfr σ τ → Mst (-199) τ → (∀ w, Sol τ w ↔ WayP (pbM σ) (Sm s) l y w) → K (d + 3) mM_close 17 [.inr 0, .inl s, .inl l, .inl y] [] τ Q := by
    intro τ c m hsol
    refine bM_close_17 (d := d + 2) hK ?_
    rcases m.2.2.2.2 with q | q
    · rw [q]
      refine bM_close_22 (d := d + 2) hK ⟨by decide, by decide⟩ (fun _ => bM_close_39 (d := d + 2) hK (Or.inl rfl) (h 0 τ c (Or.inr ⟨rfl, fun w hw => ?_⟩))) (fun g => absurd rfl g)
      have := ((hsol w).mpr hw).2.2
      omega
    · rw [q]
      have m' : Mst (-205) τ := ⟨fun q q0 q1 => ⟨by have := (m.1 q q0 q1).1; omega, (m.1 q q0 q1).2⟩, m.2⟩
      exact loop (sumI (τ 9) 81 + 205 * 81).toNat τ c m' q hsol (by omega)
  refine bM_close_0 (d := d + 2) hK (sM_begins hK hv (fun τ c m hsol => ?_))
  have e00 : τ 0 0 = σ 0 0 := c.2 0 (by decide)
  rcases hl with rfl | ⟨l0, l1, y0, y1⟩
  · refine bM_close_3 (d := d + 2) hK ⟨by decide, by decide⟩ (fun _ => go τ c m (fun w => ?_)) (fun g => absurd rfl g)
    rw [hsol w]
    exact ⟨fun z => ⟨z, fun q => absurd rfl q⟩, fun z => z.1⟩
  · refine bM_close_3 (d := d + 2) hK ⟨by omega, by omega⟩ (fun g => absurd g (by omega)) (fun _ => ?_)
    have nl : nde (σ 0 0) l := Or.inl ⟨l0, l1⟩
    have nO : nde (σ 0 0) 8 := Or.inr rfl
    obtain ⟨a1, a2⟩ := Mst_set (i := 8) (j := l) (x := y) (by rw [e00]; exact n8) m (by rw [e00]; exact nO) (by rw [e00]; exact nl) (by omega)
    have rg : ∀ (ρ : am_S), Mst (-199) ρ → ∀ i j, 0 ≤ i → i < 9 → 0 ≤ j → j < 9 → am_rng (ρ 9 (9 * i + j)) := fun ρ hρ i j a b e f => by
      have g := hρ.1 (9 * i + j) (by omega) (by omega)
      exact ⟨by omega, by omega⟩
    refine bM_close_6 (d := d + 2) hK (sM_bounds hK (by omega) (by omega) ⟨by omega, by omega⟩ (rg τ m _ _ (by omega) (by omega) (by omega) (by omega)) ?_)
    have c1 : cfr σ (am_us τ 9 (9 * 8 + l) (min y (τ 9 (9 * 8 + l)))) := cfr_tr c (cfr_9 _ _ _)
    generalize am_us τ 9 (9 * 8 + l) (min y (τ 9 (9 * 8 + l))) = ρ at a1 a2 c1 ⊢
    have f00 : ρ 0 0 = σ 0 0 := c1.2 0 (by decide)
    obtain ⟨b1, b2⟩ := Mst_set (i := l) (j := 8) (x := -y) (by rw [f00]; exact n8) a1 (by rw [f00]; exact nl) (by rw [f00]; exact nO) (by omega)
    refine bM_close_11 (d := d + 2) hK (sM_bounds hK (by omega) (by omega) ⟨by omega, by omega⟩ (rg ρ a1 _ _ (by omega) (by omega) (by omega) (by omega)) ?_)
    refine go _ (cfr_tr c1 (cfr_9 _ _ _)) b1 (fun w => ?_)
    rw [b2 w, a2 w, hsol w, pl0_8, pl0_a w (by omega : l < 8)]
    constructor
    · rintro ⟨⟨z1, z2⟩, z3⟩
      exact ⟨z1, fun _ => by omega⟩
    · rintro ⟨z1, z2⟩
      have z3 := z2 (by omega)
      exact ⟨⟨z1, by omega⟩, by omega⟩
theorem sM_earliest {K : am_KT} (hK : am_C K) {d : Nat} {σ : am_S} {Q : am_Q} {a : Int} (ha : 0 ≤ a ∧ a < 8) (h : Q (some (-(σ 9 (9 * a + 8)))) σ) : K d mM_earliest 0 [.inr 0, .inl a] [] σ Q := bM_earliest_0 hK (by omega) h
theorem sM_latest {K : am_KT} (hK : am_C K) {d : Nat} {σ : am_S} {Q : am_Q} {a : Int} (ha : 0 ≤ a ∧ a < 8) (h : Q (some (σ 9 (72 + a))) σ) : K d mM_latest 0 [.inr 0, .inl a] [] σ Q := bM_latest_0 hK (by omega) h
