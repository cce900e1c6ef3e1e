/-! the class: LetterDays: bundles -/
def tB (b : Int) : Nat := 54 + 2 * b.toNat
theorem tB_d {b : Int} (b0 : 0 ≤ b) (b3 : b < 3) : am_bd b (tB b) := by
  unfold am_bd tB
  omega
theorem tB_i {b : Int} (b0 : 0 ≤ b) (b3 : b < 3) : am_isB (tB b) := by
  unfold am_isB tB
  omega
theorem tB_r {b : Int} (b0 : 0 ≤ b) (b3 : b < 3) : 54 ≤ tB b ∧ tB b + 1 ≤ 59 := by
  unfold tB
  omega
theorem tB_n {b c : Int} (b0 : 0 ≤ b) (c0 : 0 ≤ c) (h : c ≠ b) : tB c ≠ tB b ∧ tB c ≠ tB b + 1 ∧ tB c + 1 ≠ tB b ∧ tB c + 1 ≠ tB b + 1 := by
  unfold tB
  omega
def CBd (σ : am_S) (BL : Int → List Int) : Prop := ∀ b, 0 ≤ b → b < 3 → CRow σ (tB b) (BL b)
theorem CRow_eq {σ σ' : am_S} {r : Nat} {L : List Int} (h1 : σ' r = σ r) (h2 : σ' (r + 1) = σ (r + 1)) (h : CRow σ r L) : CRow σ' r L := by
  unfold CRow at h ⊢
  rw [h1, h2]
  exact h
theorem CBd_eq {σ σ' : am_S} {BL : Int → List Int} (h : ∀ c, 54 ≤ c → c ≤ 59 → σ' c = σ c) (hB : CBd σ BL) : CBd σ' BL := fun b b0 b3 => by
  have := tB_r b0 b3
  exact CRow_eq (h _ (by omega) (by omega)) (h _ (by omega) (by omega)) (hB b b0 b3)
theorem CBd_u {σ σ' : am_S} {BL : Int → List Int} {b : Int} {L : List Int} (b0 : 0 ≤ b) (hB : CBd σ BL) (hr : rfr (tB b) σ σ') (hL : CRow σ' (tB b) L) : CBd σ' (uB BL b L) := fun c c0 c3 => by
  by_cases e : c = b
  · rw [e, uB_e]
    exact hL
  · rw [uB_n _ _ e]
    obtain ⟨n1, n2, n3, n4⟩ := tB_n b0 c0 e
    exact CRow_eq (hr _ n1 n2) (hr _ n3 n4) (hB c c0 c3)
/-- behind a bundle's change -/
def DB (σ σ' : am_S) : Prop := (∀ c, (c < 26 ∨ 59 < c) → σ' c = σ c) ∧ YV σ' ∧ TV σ'
theorem DB_q {σ σ' : am_S} (h : DQ σ σ') : DB σ σ' := ⟨fun c hc => h.1 c (by omega), h.2⟩
theorem DB_r {σ σ1 σ2 : am_S} {b : Int} (b0 : 0 ≤ b) (b3 : b < 3) (h : DB σ σ1) (hr : rfr (tB b) σ1 σ2) : DB σ σ2 := by
  have := tB_r b0 b3
  exact ⟨fun c hc => (hr c (by omega) (by omega)).trans (h.1 c hc), YV_eq (fun c _ h2 => hr c (by omega) (by omega)) h.2.1, TV_eq (fun c hc => hr c (by omega) (by omega)) h.2.2⟩
theorem BV_8 {n : Int} {BL : Int → List Int} (n8 : n ≤ 8) (h : BV n BL) {b : Int} (b0 : 0 ≤ b) (b3 : b < 3) : ∀ x ∈ BL b, 0 ≤ x ∧ x < 8 := fun x hx => by
  have := (h b b0 b3).2 x hx
  omega
theorem sD_bundlesWith {K : am_KT} (hK : am_C K) {d : Nat} {σ : am_S} {Q : am_Q} {BL : Int → List Int} {a n : Int} (n8 : n ≤ 8) (hB : CBd σ BL) (hV : BV n BL) (ha : 0 ≤ a ∧ a < 8) (h : Q (some (bnm BL a : Int)) σ) : K (d + 2) mD_bundlesWith 0 [.inr 16, .inl a] [] σ Q := by
  have loop : ∀ (b : Int) (v : Int), b ≤ 3 → (0 ≤ b ∧ v = (mk (fun b => a ∈ BL b) b.toNat : Int)) → K (d + 2) mD_bundlesWith 4 [.inr 16, .inl a, .inl v, .inl b] [] σ Q := by
    refine am_up (P := fun b v => 0 ≤ b ∧ v = (mk (fun b => a ∈ BL b) b.toNat : Int)) (C := fun b v => K (d + 2) mD_bundlesWith 4 [.inr 16, .inl a, .inl v, .inl b] [] σ Q) (fun v hp => ?_) (fun b v hb hp ih => ?_)
    · obtain ⟨-, rfl⟩ := hp
      exact bD_bundlesWith_4 (d := d + 1) hK ⟨by decide, by decide⟩ (fun _ => bD_bundlesWith_22 (d := d + 1) hK h) (fun g => absurd g (by decide))
    · obtain ⟨b0, rfl⟩ := hp
      refine bD_bundlesWith_4 (d := d + 1) hK ⟨by omega, by omega⟩ (fun g => absurd g (by omega)) (fun _ => ?_)
      refine bD_bundlesWith_7 (d := d + 1) hK (tB_d b0 hb) (sB_holds hK (tB_i b0 hb) (hB b b0 hb) (BV_8 n8 hV b0 hb) ha (fun r hr => ?_))
      refine bD_bundlesWith_13 (d := d + 1) hK (r01_g hr) (fun g => bD_bundlesWith_20 (d := d + 1) hK (ih _ ⟨by omega, ?_⟩)) (fun g => bD_bundlesWith_14 (d := d + 1) hK (bD_bundlesWith_20 (d := d + 1) hK (ih _ ⟨by omega, ?_⟩)))
      · rw [mk_no _ b0 (r01_0 hr g)]
      · exact mk_or2 (fun b => a ∈ BL b) b0 (by omega) (r01_n hr g)
  exact bD_bundlesWith_0 (d := d + 1) hK (loop 0 0 (by decide) ⟨Int.le_refl 0, rfl⟩)
theorem sD_ofLetter {K : am_KT} (hK : am_C K) {d : Nat} {σ : am_S} {Q : am_Q} {BL : Int → List Int} {a what : Int} (ra : am_rng a) (rw' : am_rng what) (hc : Cok σ) (hB : CBd σ BL) (hV : BV (σ 17 0) BL) (h : Q (some (aOfLetter (σ 17 0) (σ 20 0) (σ 18) (σ 19) (σ 20 1).toNat (σ 22) (σ 23) BL a what)) σ) : K (d + 3) mD_ofLetter 0 [.inr 16, .inl a, .inl what] [] σ Q := by
  have n0 : 0 ≤ σ 17 0 := hc.1.1.1
  have n8 : σ 17 0 ≤ 8 := hc.1.1.2
  unfold aOfLetter at h
  refine bD_ofLetter_0 (d := d + 2) hK (sL_has hK ra n0 n8 (fun r hr => ?_))
  refine bD_ofLetter_4 (d := d + 2) hK (r01_g hr) (fun g => ?_) (fun g => bD_ofLetter_5 (d := d + 2) hK ?_)
  · have ga := r01_n hr g
    rw [if_neg (fun q => q ga)] at h
    refine bD_ofLetter_7 (d := d + 2) hK rw' (fun e => ?_) (fun e => ?_) (fun e => ?_) (fun e => ?_) (fun e => ?_)
    · subst e
      exact bD_ofLetter_9 (d := d + 2) hK (by omega) h
    · subst e
      exact bD_ofLetter_15 (d := d + 2) hK (by omega) h
    · subst e
      exact bD_ofLetter_21 (d := d + 2) hK (sN_inForceNaming (d := d + 1) hK ra hc (bD_ofLetter_25 (d := d + 2) hK h))
    · subst e
      exact bD_ofLetter_26 (d := d + 2) hK (sD_bundlesWith hK n8 hB hV (by omega) (bD_ofLetter_29 (d := d + 2) hK h))
    · rw [if_neg (by omega), if_neg (by omega), if_neg (by omega), if_neg (by omega)] at h
      exact bD_ofLetter_30 (d := d + 2) hK h
  · rw [if_pos (r01_0 hr g)] at h
    exact h
theorem sD_lies {K : am_KT} (hK : am_C K) {d : Nat} {σ : am_S} {Q : am_Q} {BL : Int → List Int} {b p : Int} (rb : am_rng b) (rp : am_rng p) (hB : CBd σ BL) (h : Q (some (if ¬ (0 ≤ b ∧ b < 3) then -1 else if ¬ (0 ≤ p ∧ p ≤ 7) then -2 else ((BL b)[p.toNat]?).getD (-9))) σ) : K (d + 1) mD_lies 0 [.inr 16, .inl b, .inl p] [] σ Q := by
  refine bD_lies_0 hK (sD_isBundle hK rb (fun r hr => ?_))
  refine bD_lies_2 hK (r01_g hr) (fun g => ?_) (fun g => bD_lies_3 hK ?_)
  · have gb := r01_n hr g
    rw [if_neg (fun q => q gb)] at h
    have no : ¬ (0 ≤ p ∧ p ≤ 7) → K (d + 1) mD_lies 10 [.inr 16, .inl b, .inl p] [] σ Q := fun q => by
      rw [if_pos q] at h
      exact bD_lies_10 hK h
    refine bD_lies_5 hK rp (fun z => no (by omega)) (fun z => ?_)
    refine bD_lies_7 hK rp (fun z2 => ?_) (fun z2 => no (by omega))
    rw [if_neg (by omega)] at h
    have hb := hB b gb.1 gb.2
    have hsz : σ (tB b) 0 = ((BL b).length : Int) := hb.1.1
    have hl8 := hb.2
    refine bD_lies_12 hK (tB_d gb.1 gb.2) rp (by rw [hsz]; exact ⟨by omega, by omega⟩) (fun z3 => ?_) (fun z3 => ?_)
    · rw [hsz] at z3
      rw [List.getElem?_eq_none (by omega)] at h
      exact bD_lies_27 hK (bD_lies_28 hK h)
    · rw [hsz] at z3
      have hp := CRow_at hb (p := p.toNat) (by omega)
      rw [show ((p.toNat : Nat) : Int) = p by omega] at hp
      rw [hp] at h
      exact bD_lies_19 hK (tB_d gb.1 gb.2) (by omega) (bD_lies_28 hK h)
  · rw [if_pos (r01_0 hr g)] at h
    exact h
theorem sD_many {K : am_KT} (hK : am_C K) {d : Nat} {σ : am_S} {Q : am_Q} {BL : Int → List Int} {what : Int} (rw' : am_rng what) (hc : Cok σ) (hB : CBd σ BL) (h : Q (some (aMany (σ 17 0) (σ 20 0) (σ 20 1).toNat (σ 25) BL what)) σ) : K (d + 1) mD_many 0 [.inr 16, .inl what] [] σ Q := by
  have m0 : 0 ≤ σ 20 0 := hc.1.2.2.1.1
  have m10 : σ 20 0 ≤ 10 := hc.1.2.2.1.2
  have hF : ((σ 20 1).toNat : Int) = σ 20 1 := by have := hc.2.1; omega
  have hF2 : (σ 20 1).toNat < 1024 := by have := hc.2.2; omega
  unfold aMany at h
  refine bD_many_0 hK rw' (fun e => ?_) (fun e => ?_) (fun e => ?_) (fun e => ?_) (fun e => ?_) (fun e => ?_) (fun e => ?_) (fun e => ?_)
  · subst e
    exact bD_many_2 hK h
  · subst e
    exact bD_many_6 hK h
  · subst e
    refine bD_many_10 hK ?_
    rw [← hF]
    exact sJ_bitCount hK hF2 (bD_many_14 hK h)
  · subst e
    refine bD_many_15 hK (t20 := tB 0) (tB_d (by decide) (by decide)) ?_
    rw [(hB 0 (by decide) (by decide)).1.1]
    exact h
  · subst e
    refine bD_many_15 hK (t20 := tB 1) (tB_d (by decide) (by decide)) ?_
    rw [(hB 1 (by decide) (by decide)).1.1]
    exact h
  · subst e
    refine bD_many_15 hK (t20 := tB 2) (tB_d (by decide) (by decide)) ?_
    rw [(hB 2 (by decide) (by decide)).1.1]
    exact h
  · subst e
    refine bD_many_23 hK ?_
    rw [← hF]
    exact sN_weightOf hK hF2 m0 m10 (bD_many_29 hK h)
  · rw [if_neg (by omega), if_neg (by omega), if_neg (by omega), if_neg (by omega), if_neg (by omega), if_neg (by omega), if_neg (by omega)] at h
    exact bD_many_30 hK h
theorem sD_unletter {K : am_KT} (hK : am_C K) {d : Nat} {σ : am_S} {Q : am_Q} {BL : Int → List Int} (hc : Cok σ) (hB : CBd σ BL) (hV : BV (σ 17 0) BL) (h1 : σ 17 0 = 0 → Q (some (-3)) σ) (h2 : 0 < σ 17 0 → nmd (σ 20 0) (σ 22) (σ 23) (σ 17 0 - 1) → Q (some (-3)) σ)
    (h3 : 0 < σ 17 0 → ¬ nmd (σ 20 0) (σ 22) (σ 23) (σ 17 0 - 1) → ∀ σ', (∀ c, (c < 54 ∨ 59 < c) → c ≠ 17 → c ≠ 26 → c ≠ 41 → σ' c = σ c) → σ' 17 0 = σ 17 0 - 1 → σ' 26 0 = 0 → σ' 41 0 = 0 → CBd σ' (fun b => (BL b).erase (σ 17 0 - 1)) → Q (some (σ 17 0 - 1)) σ') : K (d + 2) mD_unletter 0 [.inr 16] [] σ Q := by
  have n0 : 0 ≤ σ 17 0 := hc.1.1.1
  have n8 : σ 17 0 ≤ 8 := hc.1.1.2
  refine bD_unletter_0 (d := d + 1) hK ⟨by omega, by omega⟩ (fun g => bD_unletter_13 (d := d + 1) hK (h1 (by omega))) (fun g => ?_)
  have ra : am_rng (σ 17 0 - 1) := ⟨by omega, by omega⟩
  refine bD_unletter_8 (d := d + 1) hK (sN_anyNames hK ra hc.1 (fun r hr => ?_))
  refine bD_unletter_12 (d := d + 1) hK (r01_g hr) (fun g2 => bD_unletter_15 (d := d + 1) hK ?_) (fun g2 => bD_unletter_13 (d := d + 1) hK (h2 (by omega) (r01_n hr g2)))
  have h4 := h3 (by omega) (r01_0 hr g2)
  generalize hA : σ 17 0 - 1 = A at ra h4 ⊢
  have loop : ∀ (b : Int) (τ : am_S), b ≤ 3 → (0 ≤ b ∧ (∀ c, (c < 54 ∨ 59 < c) → τ c = σ c) ∧ CBd τ (erB BL b A)) → K (d + 2) mD_unletter 17 [.inr 16, .inl A, .inl b] [] τ Q := by
    refine am_up (P := fun b τ => 0 ≤ b ∧ (∀ c, (c < 54 ∨ 59 < c) → τ c = σ c) ∧ CBd τ (erB BL b A)) (C := fun b τ => K (d + 2) mD_unletter 17 [.inr 16, .inl A, .inl b] [] τ Q) (fun τ hp => ?_) (fun b τ hb hp ih => ?_)
    · obtain ⟨-, c, hBt⟩ := hp
      refine bD_unletter_17 (d := d + 1) hK ⟨by decide, by decide⟩ (fun _ => bD_unletter_28 (d := d + 1) hK (sD_forget hK (bD_unletter_34 (d := d + 1) hK (h4 _ (fun c' hc' h17 h26 h41 => ?_) ?_ (fgt_26 _) (fgt_41 _) (fun b b0 b3 => ?_))))) (fun g => absurd g (by decide))
      · rw [fgt_o _ ⟨h26, h41⟩, us_o _ _ _ h17]
        exact c c' hc'
      · rw [fgt_o _ (by decide), us_e]
      · have hb := hBt b b0 b3
        rw [erB_l _ _ b3] at hb
        have := tB_r b0 b3
        exact CRow_eq (by rw [fgt_o _ (by omega), us_o _ _ _ (by omega)]) (by rw [fgt_o _ (by omega), us_o _ _ _ (by omega)]) hb
    · obtain ⟨b0, c, hBt⟩ := hp
      have hbt := hBt b b0 hb
      rw [erB_g _ _ (by omega)] at hbt
      refine bD_unletter_17 (d := d + 1) hK ⟨by omega, by omega⟩ (fun g => absurd g (by omega)) (fun _ => ?_)
      refine bD_unletter_20 (d := d + 1) hK (tB_d b0 hb) (sB_remove hK (tB_i b0 hb) hbt (BV_8 n8 hV b0 hb) (hV b b0 hb).1 ra (fun σ1 c1 hB1 => bD_unletter_26 (d := d + 1) hK (ih σ1 ⟨by omega, fun c' hc' => ?_, fun x x0 x3 => ?_⟩)))
      · have := tB_r b0 hb
        rw [c1 c' (by omega) (by omega)]
        exact c c' hc'
      · have h5 := CBd_u b0 hBt c1 hB1 x x0 x3
        by_cases e : x = b
        · rw [e, uB_e] at h5
          rw [e, erB_l _ _ (by omega)]
          exact h5
        · rw [uB_n _ _ e] at h5
          by_cases e2 : x < b
          · rw [erB_l _ _ e2] at h5
            rw [erB_l _ _ (by omega)]
            exact h5
          · rw [erB_g _ _ e2] at h5
            rw [erB_g _ _ (by omega)]
            exact h5
  refine loop 0 σ (by decide) ⟨Int.le_refl 0, fun _ _ => rfl, fun x x0 x3 => ?_⟩
  rw [erB_g _ _ (by omega)]
  exact hB x x0 x3
theorem sD_untie {K : am_KT} (hK : am_C K) {d : Nat} {σ : am_S} {Q : am_Q} {BL : Int → List Int} {a b : Int} (ra : am_rng a) (rb : am_rng b) (hi : CI σ) (hB : CBd σ BL) (hV : BV (σ 17 0) BL) (h1 : ¬ ((0 ≤ a ∧ a < σ 17 0) ∧ (0 ≤ b ∧ b < 3)) → Q (some (-1)) σ) (h2 : (0 ≤ a ∧ a < σ 17 0) → (0 ≤ b ∧ b < 3) → a ∉ BL b → Q (some (-3)) σ)
    (h3 : (0 ≤ a ∧ a < σ 17 0) → (0 ≤ b ∧ b < 3) → a ∈ BL b → ∀ σ', DB σ σ' → CBd σ' (uB BL b ((BL b).erase a)) → Q (some (((BL b).erase a).length : Int)) σ') : K (d + 2) mD_untie 0 [.inr 16, .inl a, .inl b] [] σ Q := by
  have n0 : 0 ≤ σ 17 0 := hi.1.1.1.1
  have n8 : σ 17 0 ≤ 8 := hi.1.1.1.2
  refine bD_untie_0 (d := d + 1) hK (sL_has hK ra n0 n8 (fun r hr => ?_))
  refine bD_untie_4 (d := d + 1) hK (r01_g hr) (fun g => bD_untie_8 (d := d + 1) hK (h1 (fun q => r01_0 hr g q.1))) (fun g => ?_)
  have ga := r01_n hr g
  refine bD_untie_5 (d := d + 1) hK (sD_isBundle hK rb (fun r2 hr2 => ?_))
  refine bD_untie_7 (d := d + 1) hK (r01_g hr2) (fun g2 => ?_) (fun g2 => bD_untie_8 (d := d + 1) hK (h1 (fun q => r01_0 hr2 g2 q.2)))
  have gb := r01_n hr2 g2
  have ti := tB_i gb.1 gb.2
  have h8 := BV_8 n8 hV gb.1 gb.2
  refine bD_untie_10 (d := d + 1) hK (tB_d gb.1 gb.2) (sB_holds hK ti (hB b gb.1 gb.2) h8 (by omega) (fun r3 hr3 => ?_))
  refine bD_untie_18 (d := d + 1) hK ti (r01_g hr3) (fun g3 => ?_) (fun g3 => bD_untie_19 (d := d + 1) hK ti (h2 ga gb (r01_0 hr3 g3)))
  refine bD_untie_21 (d := d + 1) hK ti (sB_remove hK ti (hB b gb.1 gb.2) h8 (hV b gb.1 gb.2).1 ra (fun σ1 c1 hB1 => bD_untie_24 (d := d + 1) hK ti ?_))
  rw [hB1.1.1]
  exact h3 ga gb (r01_n hr3 g3) σ1 (DB_r gb.1 gb.2 (DB_q (DQ_rf hi)) c1) (CBd_u gb.1 hB c1 hB1)
theorem sD_tie {K : am_KT} (hK : am_C K) {d : Nat} {σ : am_S} {Q : am_Q} {BL : Int → List Int} {a b : Int} (ra : am_rng a) (rb : am_rng b) (hi : CI σ) (hB : CBd σ BL) (hV : BV (σ 17 0) BL) (h1 : ¬ ((0 ≤ a ∧ a < σ 17 0) ∧ (0 ≤ b ∧ b < 3)) → Q (some (-1)) σ) (h2 : (0 ≤ a ∧ a < σ 17 0) → (0 ≤ b ∧ b < 3) → (a ∈ BL b ∨ ¬ Exi (WC σ)) → ∀ σ', DQ σ σ' → Q (some (-3)) σ')
    (h3 : (0 ≤ a ∧ a < σ 17 0) → (0 ≤ b ∧ b < 3) → a ∉ BL b → Exi (WC σ) → ∀ σ', DB σ σ' → CBd σ' (uB BL b ((BL b).insertIdx (plN (bef (Lst (σ 17 0) (WC σ) (-9) 0) a) (BL b)) a)) → Q (some (plN (bef (Lst (σ 17 0) (WC σ) (-9) 0) a) (BL b) : Int)) σ') : K (d + 4) mD_tie 0 [.inr 16, .inl a, .inl b] [] σ Q := by
  have n0 : 0 ≤ σ 17 0 := hi.1.1.1.1
  have n8 : σ 17 0 ≤ 8 := hi.1.1.1.2
  refine bD_tie_0 (d := d + 3) hK (sL_has hK ra n0 n8 (fun r hr => ?_))
  refine bD_tie_4 (d := d + 3) hK (r01_g hr) (fun g => bD_tie_8 (d := d + 3) hK (h1 (fun q => r01_0 hr g q.1))) (fun g => ?_)
  have ga := r01_n hr g
  refine bD_tie_5 (d := d + 3) hK (sD_isBundle hK rb (fun r2 hr2 => ?_))
  refine bD_tie_7 (d := d + 3) hK (r01_g hr2) (fun g2 => ?_) (fun g2 => bD_tie_8 (d := d + 3) hK (h1 (fun q => r01_0 hr2 g2 q.2)))
  have gb := r01_n hr2 g2
  have ti := tB_i gb.1 gb.2
  have h8 := BV_8 n8 hV gb.1 gb.2
  refine bD_tie_10 (d := d + 3) hK (tB_d gb.1 gb.2) (sB_holds (d := d + 2) hK ti (hB b gb.1 gb.2) h8 (by omega) (fun r3 hr3 => ?_))
  refine bD_tie_18 (d := d + 3) hK ti (r01_g hr3) (fun g3 => bD_tie_23 (d := d + 3) hK ti (h2 ga gb (Or.inl (r01_n hr3 g3)) σ (DQ_rf hi))) (fun g3 => ?_)
  have hna := r01_0 hr3 g3
  refine bD_tie_19 (d := d + 3) hK ti (sY_exist hK hi.1 hi.2.2.1 (fun r4 σ1 c1 hr4 => ?_))
  have hr5 := YR_r hr4
  have q1 := DQ_y hi c1 (YR_v hr4)
  refine bD_tie_22 (d := d + 3) hK ti (r01_g hr5) (fun g4 => ?_) (fun g4 => bD_tie_23 (d := d + 3) hK ti (h2 ga gb (Or.inr (r01_0 hr5 g4)) σ1 q1))
  have hE := r01_n hr5 g4
  have hL := (YR_e hr4 g4).2.2.2.2.1
  rw [WC_y c1, c1 17 (by decide)] at hL
  have hB1 : CBd σ1 BL := CBd_eq (fun c h1 h2 => c1 c (by omega)) hB
  obtain ⟨hnd, hrg⟩ := hV b gb.1 gb.2
  have h7 := nodup_room n8 hnd hrg ga.1 ga.2 hna
  refine bD_tie_25 (d := d + 3) hK ti (sB_placeFor hK ti (Or.inl rfl) (n := σ 17 0) (E := Lst (σ 17 0) (WC σ) (-9) 0) n8 (hB1 b gb.1 gb.2) hrg ga (fun x x0 xn => ?_) (fun v hv => ?_))
  · have h5 := LGW_u hL x0 xn
    have h6 := Way_r hi.1.1 (WP_n.mp hL.1) x0 xn
    rw [← h5.1]
    exact ⟨rfl, h6⟩
  · have ev := plN_u hv
    refine bD_tie_31 (d := d + 3) hK ti (sB_insert hK ti (hB1 b gb.1 gb.2) hv.1 h7 (fun σ2 c2 hB2 => bD_tie_36 (d := d + 3) hK ti ?_))
    rw [ev] at hB2 ⊢
    exact h3 ga gb hna hE σ2 (DB_r gb.1 gb.2 (DB_q q1) c2) (CBd_u gb.1 hB1 c2 hB2)
/-! spread -/
theorem pcC_or : ∀ s : Nat, s < 256 → ∀ x : Nat, x < 8 → s.testBit x = false → pcC (s ||| 2 ^ x) = pcC s + 1 := by decide +kernel
theorem pcC_lm {L : List Int} (h : ∀ x ∈ L, 0 ≤ x ∧ x < 8) (hd : L.Nodup) : ∀ p : Nat, p ≤ L.length → pcC (lm (L.take p)) = p
  | 0, _ => by rw [List.take_zero]; rfl
  | p + 1, hp => by
    have ih := pcC_lm h hd p (by omega)
    have hx : L[p]? = some L[p] := List.getElem?_eq_getElem (by omega)
    have hr := h _ (List.mem_of_getElem? hx)
    have hs : ∀ y ∈ L.take p, 0 ≤ y ∧ y < 8 := fun y hy => h y (List.mem_of_mem_take hy)
    have hn : L[p] ∉ L.take p := fun hm => by
      have h2 : (L.take (p + 1)).Nodup := hd.sublist (List.take_sublist _ _)
      rw [take_s hx] at h2
      exact (List.nodup_append.mp h2).2.2 _ hm _ (List.mem_singleton.mpr rfl) rfl
    rw [take_s hx, lm_s, pcC_or _ (lm_lt h p) _ (by omega), ih]
    · omega
    · cases q : (lm (L.take p)).testBit (L[p]).toNat with
      | false => rfl
      | true => exact absurd ((lm_bit hs hr.1).mp q) hn
theorem sD_leavingOf {K : am_KT} (hK : am_C K) {d : Nat} {σ : am_S} {Q : am_Q} {L : List Int} {r : Nat} (ti : am_isB r) (hc : Cok σ) (hy : YE σ) (hB : CRow σ r L) (hx : ∀ x ∈ L, 0 ≤ x ∧ x < σ 17 0)
    (h : ∀ σ', yfr σ σ' → YE σ' → Q (some (lm (L.filter (lvB (ahm (σ 17 0) (WC σ)) (lm L))) : Int)) σ') : K (d + 5) mD_leavingOf 0 [.inr 16, .inr r] [] σ Q := by
  have htt : r = 54 ∨ r = 56 ∨ r = 58 := ti
  have n0 : 0 ≤ σ 17 0 := hc.1.1.1
  have n8 : σ 17 0 ≤ 8 := hc.1.1.2
  have h8 : ∀ x ∈ L, 0 ≤ x ∧ x < 8 := fun x hxx => by have := hx x hxx; omega
  have hsz : σ r 0 = (L.length : Int) := hB.1.1
  have hl8 := hB.2
  have hlm := lm_lt2 h8
  refine bD_leavingOf_0 (d := d + 4) hK ti (sB_asSet hK ti hB h8 (bD_leavingOf_2 (d := d + 4) hK ti ?_))
  generalize hlv : lvB (ahm (σ 17 0) (WC σ)) (lm L) = lv at h
  have f8 : ∀ p : Nat, ∀ x ∈ (L.take p).filter lv, 0 ≤ x ∧ x < 8 := fun p x hm => h8 x (List.mem_of_mem_take (List.mem_filter.mp hm).1)
  have loop : ∀ (k : Int) (t : Int × am_S), k ≤ (L.length : Int) → (0 ≤ k ∧ yfr σ t.2 ∧ YE t.2 ∧ t.1 = (lm ((L.take k.toNat).filter lv) : Int)) → K (d + 5) mD_leavingOf 7 [.inr 16, .inr r, .inl (lm L : Int), .inl t.1, .inl k] [] t.2 Q := by
    refine am_up (P := fun k (t : Int × am_S) => 0 ≤ k ∧ yfr σ t.2 ∧ YE t.2 ∧ t.1 = (lm ((L.take k.toNat).filter lv) : Int)) (C := fun k t => K (d + 5) mD_leavingOf 7 [.inr 16, .inr r, .inl (lm L : Int), .inl t.1, .inl k] [] t.2 Q) (fun t hp => ?_) (fun k t hk hp ih => ?_)
    · obtain ⟨v, τ⟩ := t
      obtain ⟨-, c, e, rfl⟩ := hp
      dsimp only at c e ⊢
      have er : τ r = σ r := c r (by omega)
      rw [show ((L.length : Nat) : Int).toNat = L.length by omega, List.take_length]
      exact bD_leavingOf_7 (d := d + 4) hK ti ⟨by omega, by omega⟩ (by rw [er, hsz]; exact ⟨by omega, by omega⟩) (fun _ => bD_leavingOf_31 (d := d + 4) hK ti (h τ c e)) (fun g => absurd g (by rw [er]; omega))
    · obtain ⟨v, τ⟩ := t
      obtain ⟨k0, c, e, rfl⟩ := hp
      dsimp only at c e ih ⊢
      have er : τ r = σ r := c r (by omega)
      have er1 : τ (r + 1) = σ (r + 1) := c (r + 1) (by omega)
      have hp := CRow_at hB (p := k.toNat) (by omega)
      rw [show ((k.toNat : Nat) : Int) = k by omega] at hp
      have hxk := hx _ (List.mem_of_getElem? hp)
      generalize hxe : σ (r + 1) k = x at hp hxk
      rw [show (k + 1).toNat = k.toNat + 1 by omega, take_s hp, List.filter_append] at ih
      refine bD_leavingOf_7 (d := d + 4) hK ti ⟨by omega, by omega⟩ (by rw [er, hsz]; exact ⟨by omega, by omega⟩) (fun g => absurd g (by rw [er]; omega)) (fun _ => ?_)
      refine bD_leavingOf_11 (d := d + 4) hK ti (by omega) ?_
      rw [er1, hxe]
      have e17 : τ 17 = σ 17 := c 17 (by decide)
      refine sY_thoseAheadOf hK (Cok_y c hc) e (by rw [e17]; exact hxk) (fun σ1 c1 y1 => ?_)
      rw [e17, WC_y c]
      have hA := ahm_lt (W := WC σ) n8 x
      have eand : am_and (ahm (σ 17 0) (WC σ) x : Int) (lm L : Int) = ((ahm (σ 17 0) (WC σ) x &&& lm L : Nat) : Int) := and_nat (by omega) (by omega)
      have elv : lv x = decide (ahm (σ 17 0) (WC σ) x &&& lm L ≠ 0) := by rw [← hlv]; rfl
      have c2 := yfr_tr c c1
      refine bD_leavingOf_20 (d := d + 4) hK ti (rng_and _ _) (fun g => ?_) (fun g => ?_)
      · rw [eand] at g
        have hlx : ¬ lv x = true := by rw [elv]; simp; omega
        have ef : [x].filter lv = [] := by rw [List.filter_cons, if_neg hlx]; rfl
        rw [ef, List.append_nil] at ih
        exact bD_leavingOf_29 (d := d + 4) hK ti (ih (_, σ1) ⟨by omega, c2, y1, rfl⟩)
      · rw [eand] at g
        have hlx : lv x = true := by rw [elv]; exact decide_eq_true (by omega)
        have ef : [x].filter lv = [x] := by rw [List.filter_cons, if_pos hlx]; rfl
        rw [ef] at ih
        refine bD_leavingOf_23 (d := d + 4) hK ti (bD_leavingOf_29 (d := d + 4) hK ti (ih (_, σ1) ⟨by omega, c2, y1, ?_⟩))
        show am_or _ _ = _
        have l1 := lm_lt2 (f8 k.toNat)
        rw [shl_i hxk.1 (by omega), or_nat (by omega) (by have := pow_lt8 (k := x) (by omega); omega), lm_s]
  exact loop 0 (0, σ) (by omega) ⟨Int.le_refl 0, yfr_rf σ, hy, rfl⟩
theorem erase_mid2 (A : List Int) (x : Int) (B : List Int) (h : x ∉ A) : (A ++ x :: B).erase x = A ++ B := by
  rw [List.erase_append_right _ h, List.erase_cons_head]
set_option maxHeartbeats 1000000 in
theorem sD_spread {K : am_KT} (hK : am_C K) {d : Nat} {σ : am_S} {Q : am_Q} {BL : Int → List Int} {b : Int} (rb : am_rng b) (hi : CI σ) (hB : CBd σ BL) (hV : BV (σ 17 0) BL) (h1 : ¬ (0 ≤ b ∧ b < 3) → Q (some (-1)) σ) (h2 : (0 ≤ b ∧ b < 3) → ¬ Exi (WC σ) → ∀ σ', DQ σ σ' → Q (some (-3)) σ')
    (h3 : (0 ≤ b ∧ b < 3) → Exi (WC σ) → ∀ σ', DB σ σ' → CBd σ' (uB (uB BL b (spr (lvB (ahm (σ 17 0) (WC σ)) (lm (BL b))) (BL b) (BL (nxB b))).1) (nxB b) (spr (lvB (ahm (σ 17 0) (WC σ)) (lm (BL b))) (BL b) (BL (nxB b))).2) → Q (some (nlv (lvB (ahm (σ 17 0) (WC σ)) (lm (BL b))) (BL b))) σ') : K (d + 6) mD_spread 0 [.inr 16, .inl b] [] σ Q := by
  have n0 : 0 ≤ σ 17 0 := hi.1.1.1.1
  have n8 : σ 17 0 ≤ 8 := hi.1.1.1.2
  refine bD_spread_0 (d := d + 5) hK (sD_isBundle hK rb (fun r hr => ?_))
  refine bD_spread_2 (d := d + 5) hK (r01_g hr) (fun g => ?_) (fun g => bD_spread_3 (d := d + 5) hK (h1 (r01_0 hr g)))
  have gb := r01_n hr g
  refine bD_spread_5 (d := d + 5) hK (sY_exist hK hi.1 hi.2.2.1 (fun r2 σ1 c1 hr2 => ?_))
  have hr3 := YR_r hr2
  refine bD_spread_8 (d := d + 5) hK (r01_g hr3) (fun g2 => ?_) (fun g2 => bD_spread_9 (d := d + 5) hK (h2 gb (r01_0 hr3 g2) σ1 (DQ_y hi c1 (YR_v hr2))))
  have hE := r01_n hr3 g2
  have hB1 : CBd σ1 BL := CBd_eq (fun c h1 h2 => c1 c (by omega)) hB
  have e17 : σ1 17 0 = σ 17 0 := by rw [c1 17 (by decide)]
  obtain ⟨hnd, hrg⟩ := hV b gb.1 gb.2
  have hrg8 := BV_8 n8 hV gb.1 gb.2
  have nx0 : 0 ≤ nxB b ∧ nxB b < 3 ∧ nxB b ≠ b := by
    unfold nxB
    split <;> omega
  have ti := tB_i gb.1 gb.2
  have tn := tB_i nx0.1 nx0.2.1
  obtain ⟨nnd, nrg⟩ := hV (nxB b) nx0.1 nx0.2.1
  have main : K (d + 6) mD_spread 28 [.inr 16, .inl b, .inr (tB b)] [.inl (nxB b), .inr 53] σ1 Q := by
    refine bD_spread_28 (d := d + 5) hK ti (tB_d nx0.1 nx0.2.1) (sD_leavingOf hK ti (Cok_y c1 hi.1) (YR_e hr2 g2) (hB1 b gb.1 gb.2) (by rw [e17]; exact hrg) (fun σ2 c2 y2 => ?_))
    rw [WC_y c1, e17]
    have c12 := yfr_tr c1 c2
    have d2 := DB_q (DQ_e hi c12 y2)
    have hB2 : CBd σ2 BL := CBd_eq (fun c h1 h2 => c12 c (by omega)) hB
    generalize hlv : lvB (ahm (σ 17 0) (WC σ)) (lm (BL b)) = lv at h3
    have F8 : ∀ x ∈ (BL b).filter lv, 0 ≤ x ∧ x < 8 := fun x hm => hrg8 x (List.mem_filter.mp hm).1
    have Fd : ((BL b).filter lv).Nodup := hnd.sublist List.filter_sublist
    have hMlt := lm_lt2 F8
    have hMpc : pcC (lm ((BL b).filter lv)) = nlv lv (BL b) := by
      have := pcC_lm F8 Fd _ (Nat.le_refl _)
      rw [List.take_length] at this
      exact this
    have hMb : ∀ x ∈ BL b, (lm ((BL b).filter lv)).testBit x.toNat = true ↔ lv x = true := fun x hx => by
      rw [lm_bit F8 (hrg8 x hx).1, List.mem_filter]
      exact ⟨fun z => z.2, fun z => ⟨hx, z⟩⟩
    generalize lm ((BL b).filter lv) = M at hMlt hMpc hMb
    refine bD_spread_33 (d := d + 5) hK ti tn ?_
    rw [(hB2 b gb.1 gb.2).1.1]
    have loop : ∀ (rem kept N : List Int) (τ : am_S), DB σ τ → CBd τ (uB (uB BL b (kept ++ rem)) (nxB b) N) → (kept ++ rem).Nodup → (∀ y ∈ rem, y ∈ BL b) → (∀ y ∈ kept, y ∈ BL b) → N.Nodup → (∀ y ∈ N, 0 ≤ y ∧ y < σ 17 0) → (kept ++ (spr lv rem N).1, (spr lv rem N).2) = spr lv (BL b) (BL (nxB b)) → K (d + 6) mD_spread 39 [.inr 16, .inl b, .inr (tB b), .inr (tB (nxB b)), .inl (M : Int), .inl (kept.length : Int), .inl (rem.length : Int)] [] τ Q := by
      intro rem
      induction rem with
      | nil =>
        intro kept N τ dτ hBt hkd hrem hkp hNd hNr hsp
        refine bD_spread_39 (d := d + 5) hK ti tn ⟨by decide, by decide⟩ (fun _ => ?_) (fun q => absurd q (by simp))
        refine bD_spread_62 (d := d + 5) hK ti tn (sJ_bitCount hK (by omega) (bD_spread_64 (d := d + 5) hK ti tn ?_))
        rw [hMpc]
        have hs : (kept ++ [], N) = spr lv (BL b) (BL (nxB b)) := hsp
        rw [List.append_nil] at hs hBt
        have s1 : kept = (spr lv (BL b) (BL (nxB b))).1 := by rw [← hs]
        have s2 : N = (spr lv (BL b) (BL (nxB b))).2 := by rw [← hs]
        rw [s1, s2] at hBt
        exact h3 gb hE τ dτ hBt
      | cons x xs ih =>
        intro kept N τ dτ hBt hkd hrem hkp hNd hNr hsp
        have hbt := hBt b gb.1 gb.2
        rw [uB_n _ _ nx0.2.2.symm, uB_e] at hbt
        have hnt := hBt (nxB b) nx0.1 nx0.2.1
        rw [uB_e] at hnt
        have hl8 := hbt.2
        have hll : (kept ++ x :: xs).length = kept.length + xs.length + 1 := by simp; omega
        have hxB := hrem x List.mem_cons_self
        have hx := hrg x hxB
        have hrow0 := CRow_at hbt (p := kept.length) (by omega)
        rw [List.getElem?_append_right (Nat.le_refl _), Nat.sub_self] at hrow0
        have ex : τ (tB b + 1) (kept.length : Int) = x := (Option.some.inj hrow0).symm
        have exs : ((x :: xs).length : Int) = (xs.length : Int) + 1 := by simp
        rw [exs]
        refine bD_spread_39 (d := d + 5) hK ti tn ⟨by omega, by omega⟩ (fun q => absurd q (by omega)) (fun _ => ?_)
        have eM := SB_and (s := M) (x := (M : Int)) (k := x) rfl (by omega) hx.1 (by omega)
        unfold SB at eM
        rw [hMb x hxB] at eM
        refine bD_spread_41 (d := d + 5) hK ti tn (by omega) (rng_and _ _) (fun q => ?_) (fun q => ?_)
        · rw [ex] at q ⊢
          have hlx : lv x = true := Classical.byContradiction fun z => q (eM.mpr z)
          rw [spr_t hlx] at hsp
          have hnk : x ∉ kept := fun z => (List.nodup_append.mp hkd).2.2 x z x List.mem_cons_self rfl
          have all8 : ∀ y ∈ kept ++ x :: xs, 0 ≤ y ∧ y < 8 := fun y hy => by
            rcases List.mem_append.mp hy with z | z
            · exact hrg8 y (hkp y z)
            · exact hrg8 y (hrem y z)
          refine bD_spread_54 (d := d + 5) hK ti tn (sB_remove hK ti hbt all8 hkd ⟨by omega, by omega⟩ (fun τ1 k1 hR1 => ?_))
          rw [erase_mid2 _ _ _ hnk] at hR1
          have hB3 := CBd_u gb.1 hBt k1 hR1
          rw [uB_2 _ _ _ _ nx0.2.2] at hB3
          have hnt3 := hB3 (nxB b) nx0.1 nx0.2.1
          rw [uB_e] at hnt3
          refine bD_spread_57 (d := d + 5) hK ti tn (sB_receive (d := d + 3) hK tn n8 hnt3 hNr hNd hx (fun τ2 k2 hR2 => ?_))
          have hB4 := CBd_u nx0.1 hB3 k2 hR2
          rw [uB_3] at hB4
          obtain ⟨t1, t2⟩ := tog_ok hx.1 hx.2 hNd hNr
          refine bD_spread_60 (d := d + 5) hK ti tn ?_
          rw [show (xs.length : Int) + 1 + (-1) = (xs.length : Int) by omega]
          refine ih kept (tog x N) τ2 (DB_r nx0.1 nx0.2.1 (DB_r gb.1 gb.2 dτ k1) k2) hB4 ?_ (fun y hy => hrem y (List.mem_cons_of_mem _ hy)) hkp t1 t2 hsp
          rw [← erase_mid2 _ _ _ hnk]
          exact hkd.erase _
        · rw [ex] at q ⊢
          have hlx : ¬ lv x = true := eM.mp q
          rw [spr_f hlx] at hsp
          refine bD_spread_52 (d := d + 5) hK ti tn (bD_spread_60 (d := d + 5) hK ti tn ?_)
          rw [show (xs.length : Int) + 1 + (-1) = (xs.length : Int) by omega]
          have := ih (kept ++ [x]) N τ dτ (by rw [List.append_assoc]; exact hBt) (by rw [List.append_assoc]; exact hkd) (fun y hy => hrem y (List.mem_cons_of_mem _ hy)) (fun y hy => by
            rcases List.mem_append.mp hy with z | z
            · exact hkp y z
            · rw [List.mem_singleton] at z
              rw [z]
              exact hxB) hNd hNr (by rw [List.append_assoc]; exact hsp)
          rw [List.length_append, show ((kept.length + [x].length : Nat) : Int) = (kept.length : Int) + 1 by simp] at this
          exact this
    refine loop (BL b) [] (BL (nxB b)) σ2 d2 ?_ hnd (fun y hy => hy) (fun y hy => absurd hy List.not_mem_nil) nnd nrg rfl
    rw [List.nil_append]
    intro x x0 x3
    have := hB2 x x0 x3
    by_cases e1 : x = nxB b
    · rw [e1, uB_e]
      rw [e1] at this
      exact this
    · rw [uB_n _ _ e1]
      by_cases e2 : x = b
      · rw [e2, uB_e]
        rw [e2] at this
        exact this
      · rw [uB_n _ _ e2]
        exact this
  refine bD_spread_11 (d := d + 5) hK (tB_d gb.1 gb.2) ⟨by omega, by omega⟩ (fun q => bD_spread_27 (d := d + 5) hK ti ?_) (fun q => bD_spread_23 (d := d + 5) hK ti ?_)
  · have e : nxB b = 0 := by unfold nxB; rw [if_neg (by omega)]
    rw [e] at main
    exact main
  · have e : nxB b = b + 1 := by unfold nxB; rw [if_pos q]
    rw [e] at main
    exact main
