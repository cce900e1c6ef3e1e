/-! the reference: knots -/
def pcC (s : Nat) : Int := ((s % 2 + s / 2 % 2 + s / 4 % 2 + s / 8 % 2 + s / 16 % 2 + s / 32 % 2 + s / 64 % 2 + s / 128 % 2 + s / 256 % 2 + s / 512 % 2 : Nat) : Int)
theorem pcC_s : ∀ s : Nat, s < 1024 → am_and (s : Int) 1 = ((s % 2 : Nat) : Int) ∧ am_shr (s : Int) 1 = ((s / 2 : Nat) : Int) ∧ pcC s = ((s % 2 : Nat) : Int) + pcC (s / 2) := by decide +kernel
theorem pcC_r : ∀ s : Nat, s < 1024 → 0 ≤ pcC s ∧ pcC s ≤ 10 := by decide +kernel
theorem sM_manyOf {K : am_KT} (hK : am_C K) {d : Nat} {σ : am_S} {Q : am_Q} {s : Nat} (hs : s < 1024) (h : Q (some (pcC s)) σ) : K d mM_manyOf 0 [.inl (s : Int)] [] σ Q := by
  have loop : ∀ (N L : Nat) (v : Int), L < N → L < 1024 → v + pcC L = pcC s → K d mM_manyOf 4 [.inl (s : Int), .inl v, .inl (L : Int)] [] σ Q := by
    intro N
    induction N with
    | zero =>
      intro L v hL
      exact absurd hL (Nat.not_lt_zero L)
    | succ N ih =>
      intro L v hL h1 h2
      obtain ⟨a1, a2, a3⟩ := pcC_s L h1
      refine bM_manyOf_4 hK ⟨by omega, by omega⟩ (fun g => ?_) (fun g => ?_)
      · have e : L = 0 := by omega
        subst e
        have e0 : pcC 0 = 0 := rfl
        have : v = pcC s := by omega
        rw [this]
        exact bM_manyOf_17 hK h
      · refine bM_manyOf_6 hK ?_
        rw [a1, a2]
        exact ih (L / 2) _ (by omega) (by omega) (by omega)
  exact bM_manyOf_0 hK (loop (s + 1) s 0 (by omega) hs (by omega))
set_option maxRecDepth 20000 in
theorem bitC : ∀ s : Nat, s < 1024 → (am_and (((am_and (((am_and ((s : Int) - (am_and (am_ushr (s : Int) 1) 1431655765)) 858993459) + (am_and (am_ushr ((s : Int) - (am_and (am_ushr (s : Int) 1) 1431655765)) 2) 858993459)) + (am_ushr ((am_and ((s : Int) - (am_and (am_ushr (s : Int) 1) 1431655765)) 858993459) + (am_and (am_ushr ((s : Int) - (am_and (am_ushr (s : Int) 1) 1431655765)) 2) 858993459)) 4)) 252645135) + (am_ushr (am_and (((am_and ((s : Int) - (am_and (am_ushr (s : Int) 1) 1431655765)) 858993459) + (am_and (am_ushr ((s : Int) - (am_and (am_ushr (s : Int) 1) 1431655765)) 2) 858993459)) + (am_ushr ((am_and ((s : Int) - (am_and (am_ushr (s : Int) 1) 1431655765)) 858993459) + (am_and (am_ushr ((s : Int) - (am_and (am_ushr (s : Int) 1) 1431655765)) 2) 858993459)) 4)) 252645135) 8)) + (am_ushr ((am_and (((am_and ((s : Int) - (am_and (am_ushr (s : Int) 1) 1431655765)) 858993459) + (am_and (am_ushr ((s : Int) - (am_and (am_ushr (s : Int) 1) 1431655765)) 2) 858993459)) + (am_ushr ((am_and ((s : Int) - (am_and (am_ushr (s : Int) 1) 1431655765)) 858993459) + (am_and (am_ushr ((s : Int) - (am_and (am_ushr (s : Int) 1) 1431655765)) 2) 858993459)) 4)) 252645135) + (am_ushr (am_and (((am_and ((s : Int) - (am_and (am_ushr (s : Int) 1) 1431655765)) 858993459) + (am_and (am_ushr ((s : Int) - (am_and (am_ushr (s : Int) 1) 1431655765)) 2) 858993459)) + (am_ushr ((am_and ((s : Int) - (am_and (am_ushr (s : Int) 1) 1431655765)) 858993459) + (am_and (am_ushr ((s : Int) - (am_and (am_ushr (s : Int) 1) 1431655765)) 2) 858993459)) 4)) 252645135) 8)) 16)) 63) = pcC s := by decide +kernel
theorem sJ_bitCount {K : am_KT} (hK : am_C K) {d : Nat} {σ : am_S} {Q : am_Q} {s : Nat} (hs : s < 1024) (h : Q (some (pcC s)) σ) : K d mJ_bitCount 0 [.inl (s : Int)] [] σ Q := by
  refine bJ_bitCount_0 hK ?_
  rw [bitC s hs]
  exact h
/-- the weight of a set -/
def wtS (wt : Int → Int) (m : Int) (s : Nat) : Int := sumI (fun k => if s.testBit k.toNat = true then wt k else 0) m.toNat
def Wok (σ : am_S) : Prop := ∀ k, 0 ≤ k → k < σ 0 3 → 1 ≤ σ 7 k ∧ σ 7 k ≤ 9
theorem wtS_r {wt : Int → Int} {m : Int} (m0 : 0 ≤ m) (m10 : m ≤ 10) (h : ∀ k, 0 ≤ k → k < m → 1 ≤ wt k ∧ wt k ≤ 9) (s : Nat) : 0 ≤ wtS wt m s ∧ wtS wt m s ≤ 90 := by
  unfold wtS
  have l := sumI_lb (f := fun k => if s.testBit k.toNat = true then wt k else 0) (c := 0) m.toNat (fun q q0 q1 => by
    have := h q q0 (by omega)
    split <;> omega)
  have u := sumI_ub (f := fun k => if s.testBit k.toNat = true then wt k else 0) (c := 9) m.toNat (fun q q0 q1 => by
    have := h q q0 (by omega)
    split <;> omega)
  omega
theorem sM_weightBy {K : am_KT} (hK : am_C K) {d : Nat} {σ : am_S} {Q : am_Q} {s : Nat} (m0 : 0 ≤ σ 0 3) (m10 : σ 0 3 ≤ 10) (h : Q (some (wtS (σ 7) (σ 0 3) s)) σ) : K d mM_weightBy 0 [.inr 0, .inl (s : Int)] [] σ Q := by
  have loop : ∀ (k : Int) (v : Int), k ≤ σ 0 3 → (0 ≤ k ∧ v = wtS (σ 7) k s) → K d mM_weightBy 4 [.inr 0, .inl (s : Int), .inl v, .inl k] [] σ Q := by
    refine am_up (P := fun k v => 0 ≤ k ∧ v = wtS (σ 7) k s) (C := fun k v => K d mM_weightBy 4 [.inr 0, .inl (s : Int), .inl v, .inl k] [] σ Q) (fun v hp => ?_) (fun k v hk hp ih => ?_)
    · obtain ⟨-, rfl⟩ := hp
      exact bM_weightBy_4 hK ⟨by omega, by omega⟩ ⟨by omega, by omega⟩ (fun _ => bM_weightBy_26 hK h) (fun g => absurd g (by omega))
    · obtain ⟨k0, rfl⟩ := hp
      have ek : ((k.toNat : Nat) : Int) = k := by omega
      have es : wtS (σ 7) (k + 1) s = wtS (σ 7) k s + (if s.testBit k.toNat = true then σ 7 k else 0) := by
        unfold wtS
        rw [sumI_s _ k0]
      have eb : am_and (am_shr (s : Int) k) 1 = if s.testBit k.toNat = true then 1 else 0 := by rw [← ek, bit_shr_nat (by omega), ek]
      refine bM_weightBy_4 hK ⟨by omega, by omega⟩ ⟨by omega, by omega⟩ (fun g => absurd g (by omega)) (fun _ => ?_)
      refine bM_weightBy_8 hK (rng_and _ _) (fun g => ?_) (fun g => ?_)
      · rw [eb] at g
        refine bM_weightBy_21 hK (bM_weightBy_22 hK (ih _ ⟨by omega, ?_⟩))
        rw [es, if_neg (fun q => g (by rw [if_pos q]))]
      · rw [eb] at g
        refine bM_weightBy_16 hK (by omega) (bM_weightBy_22 hK (ih _ ⟨by omega, ?_⟩))
        rw [es, if_pos (Classical.byContradiction fun q => by rw [if_neg q] at g; cases g)]
  exact bM_weightBy_0 hK (loop 0 0 m0 ⟨Int.le_refl 0, rfl⟩)
/-- a set may be let go -/
def kC (WF : Nat → WS) (F S : Nat) : Prop := nd S F = 0 ∧ Exi (WF (nd F S))
def kL (wt : Int → Int) (m : Int) (S S' : Nat) : Prop := wtS wt m S < wtS wt m S' ∨ (wtS wt m S = wtS wt m S' ∧ (pcC S < pcC S' ∨ (pcC S = pcC S' ∧ S ≤ S')))
def IsKn (wt : Int → Int) (m : Int) (WF : Nat → WS) (F S : Nat) : Prop := kC WF F S ∧ ∀ S', kC WF F S' → kL wt m S S'
noncomputable def knS (wt : Int → Int) (m : Int) (WF : Nat → WS) (F : Nat) : Nat := Classical.epsilon (IsKn wt m WF F)
theorem knS_u {wt : Int → Int} {m : Int} {WF : Nat → WS} {F S : Nat} (h : IsKn wt m WF F S) : S = knS wt m WF F := by
  have e : IsKn wt m WF F (knS wt m WF F) := Classical.epsilon_spec (p := IsKn wt m WF F) ⟨S, h⟩
  have h1 := h.2 _ e.1
  have h2 := e.2 _ h.1
  unfold kL at h1 h2
  omega
theorem nd_self (a : Nat) : nd a a = 0 := by
  apply Nat.eq_of_testBit_eq
  intro k
  rw [nd_bit, Nat.zero_testBit]
  cases a.testBit k <;> rfl
theorem nd_sub_le {a b : Nat} (h : nd a b = 0) : a ≤ b := by
  have e : nd b (nd b a) = a := by
    apply Nat.eq_of_testBit_eq
    intro k
    have h1 : (nd a b).testBit k = false := by rw [h]; exact Nat.zero_testBit k
    rw [nd_bit] at h1
    rw [nd_bit, nd_bit]
    revert h1
    cases a.testBit k <;> cases b.testBit k <;> decide
  rw [← e]
  exact nd_le _ _
/-- the stamps alone contradict nothing -/
theorem Exi_0 {P : PB} (hv : Vld P) : Exi (WN P 0) := by
  refine ⟨pf P, fun a a0 an => ?_, fun k _ _ q => ?_⟩
  · have := hv.2.1 a a0 an
    omega
  · unfold SB at q
    simp at q
noncomputable def aKnot (wt : Int → Int) (m : Int) (WF : Nat → WS) (F : Nat) (what : Int) : Int := if ¬ (0 ≤ what ∧ what ≤ 1) then -2 else if what = 0 then (knS wt m WF F : Int) else wtS wt m (knS wt m WF F)
theorem sM_knot {K : am_KT} (hK : am_C K) {d : Nat} {σ : am_S} {Q : am_Q} {what : Int} (rw' : am_rng what) (hm : Mok σ) (hw : Wok σ) (h : ∀ σ', mfr σ σ' → Q (some (aKnot (σ 7) (σ 0 3) (WN (pbM σ)) (fmk σ) what)) σ') : K (d + 4) mM_knot 0 [.inr 0, .inl what] [] σ Q := by
  have m0 : 0 ≤ σ 0 3 := hm.1.2.2.1.1
  have m10 : σ 0 3 ≤ 10 := hm.1.2.2.1.2
  have hF := fmk_lt hm
  unfold aKnot at h
  refine bM_knot_0 (d := d + 3) hK (sM_within hK rw' ⟨by decide, by decide⟩ ⟨by decide, by decide⟩ (fun r hr => ?_))
  refine bM_knot_4 (d := d + 3) hK (r01_g hr) (fun g => ?_) (fun g => bM_knot_5 (d := d + 3) hK ?_)
  · have gw := r01_n hr g
    rw [if_neg (fun q => q gw)] at h
    refine bM_knot_7 (d := d + 3) hK (sM_setInForce hK hm (bM_knot_9 (d := d + 3) hK ?_))
    generalize hFe : fmk σ = F at h hF ⊢
    have WR := wtS_r (wt := σ 7) m0 m10 hw
    -- what the loop has found
    have loop : ∀ (v : Int) (t : Int × am_S), v ≤ (F : Int) + 1 → (0 ≤ v ∧ mfr σ t.2 ∧ ((t.1 = -9 ∧ ∀ S : Nat, (S : Int) < v → ¬ kC (WN (pbM σ)) F S) ∨ ∃ B : Nat, t.1 = (B : Int) ∧ (B : Int) < v ∧ kC (WN (pbM σ)) F B ∧ ∀ S : Nat, (S : Int) < v → kC (WN (pbM σ)) F S → kL (σ 7) (σ 0 3) B S)) → K (d + 4) mM_knot 14 [.inr 0, .inl what, .inl (F : Int), .inl t.1, .inl v] [] t.2 Q := by
      refine am_up (P := fun v (t : Int × am_S) => 0 ≤ v ∧ mfr σ t.2 ∧ ((t.1 = -9 ∧ ∀ S : Nat, (S : Int) < v → ¬ kC (WN (pbM σ)) F S) ∨ ∃ B : Nat, t.1 = (B : Int) ∧ (B : Int) < v ∧ kC (WN (pbM σ)) F B ∧ ∀ S : Nat, (S : Int) < v → kC (WN (pbM σ)) F S → kL (σ 7) (σ 0 3) B S)) (C := fun v t => K (d + 4) mM_knot 14 [.inr 0, .inl what, .inl (F : Int), .inl t.1, .inl v] [] t.2 Q) (fun t hp => ?_) (fun v t hv hp ih => ?_)
      · obtain ⟨b, τ⟩ := t
        obtain ⟨-, c, hB⟩ := hp
        dsimp only at c hB ⊢
        refine bM_knot_14 (d := d + 3) hK ⟨by omega, by omega⟩ ⟨by omega, by omega⟩ (fun _ => ?_) (fun g => absurd g (by omega))
        rcases hB with ⟨-, hno⟩ | ⟨B, rfl, hB1, hB2, hB3⟩
        · exfalso
          refine hno F (by omega) ⟨nd_self F, ?_⟩
          rw [nd_self]
          exact Exi_0 hm.1
        · have hk : B = knS (σ 7) (σ 0 3) (WN (pbM σ)) F := knS_u ⟨hB2, fun S hS => hB3 S (by have := nd_sub_le hS.1; omega) hS⟩
          rw [← hk] at h
          have e3 : τ 0 3 = σ 0 3 := c.2 3 (by decide)
          have e7 : τ 7 = σ 7 := c.1 7 (by decide) (by decide)
          refine bM_knot_65 (d := d + 3) hK rw' (fun g => ?_) (fun g => ?_)
          · rw [if_neg g] at h
            refine bM_knot_69 (d := d + 3) hK (sM_weightBy hK (by rw [e3]; exact m0) (by rw [e3]; exact m10) (bM_knot_72 (d := d + 3) hK ?_))
            rw [e3, e7]
            exact h τ c
          · rw [if_pos g] at h
            exact bM_knot_67 (d := d + 3) hK (bM_knot_72 (d := d + 3) hK (h τ c))
      · obtain ⟨b, τ⟩ := t
        obtain ⟨v0, c, hB⟩ := hp
        dsimp only at c hB ih ⊢
        obtain ⟨S, rfl⟩ : ∃ S : Nat, v = (S : Int) := ⟨v.toNat, by omega⟩
        have hS : S < 1024 := by omega
        have e3 : τ 0 3 = σ 0 3 := c.2 3 (by decide)
        have e7 : τ 7 = σ 7 := c.1 7 (by decide) (by decide)
        have rb : am_rng b := by
          rcases hB with ⟨q, -⟩ | ⟨B, q, q1, -⟩
          · rw [q]; exact ⟨by decide, by decide⟩
          · exact ⟨by omega, by omega⟩
        have ea : am_and (S : Int) (am_xor (F : Int) (-1)) = ((nd S F : Nat) : Int) := andn_nat (by omega)
        have eb : am_and (F : Int) (am_xor (S : Int) (-1)) = ((nd F S : Nat) : Int) := andn_nat (by omega)
        -- nothing new
        have keep : (kC (WN (pbM σ)) F S → ∃ B : Nat, b = (B : Int) ∧ kL (σ 7) (σ 0 3) B S) → ∀ v5 v6 τ', mfr σ τ' → K (d + 4) mM_knot 63 [.inr 0, .inl what, .inl (F : Int), .inl b, .inl (S : Int), .inl v5, .inl v6] [] τ' Q := by
          intro hc v5 v6 τ' c'
          refine bM_knot_63 (d := d + 3) hK (ih (b, τ') ⟨by omega, c', ?_⟩)
          rcases hB with ⟨q, hno⟩ | ⟨B, q, q1, q2, q3⟩
          · left
            refine ⟨q, fun S' h1 h2 => ?_⟩
            by_cases e : S' = S
            · subst e
              obtain ⟨B, hb, -⟩ := hc h2
              omega
            · exact hno S' (by omega) h2
          · right
            refine ⟨B, q, by omega, q2, fun S' h1 h2 => ?_⟩
            by_cases e : S' = S
            · subst e
              obtain ⟨B', hb, hl⟩ := hc h2
              have : B' = B := by omega
              rw [← this]
              exact hl
            · exact q3 S' (by omega) h2
        -- it is tried
        have tryit : nd S F = 0 → (∀ B : Nat, b = (B : Int) → ¬ kL (σ 7) (σ 0 3) B S) → ∀ v5, K (d + 4) mM_knot 45 [.inr 0, .inl what, .inl (F : Int), .inl b, .inl (S : Int), .inl v5] [] τ Q := by
          intro hsub hbet v5
          refine bM_knot_45 (d := d + 3) hK (bM_knot_48 (d := d + 3) hK ⟨by decide, by decide⟩ (fun g => absurd g (by decide)) (fun _ => bM_knot_51 (d := d + 3) hK ?_))
          rw [eb]
          refine sM_closeN hK (Mok_m c hm).1 (Or.inl rfl) (fun r2 σ2 c2 hr2 => ?_)
          rw [pbM_m c] at hr2
          have c3 : mfr σ σ2 := mfr_tr c (mfr_c c2)
          have hr3 : r01 r2 (kC (WN (pbM σ)) F S) := by
            rcases hr2 with q | q
            · exact Or.inl ⟨q.1, hsub, ⟨_, q.2.1.1⟩⟩
            · exact Or.inr ⟨q.1, fun z => by
                obtain ⟨w, hw⟩ := z.2
                exact q.2 w (WP_n.mpr hw)⟩
          refine bM_knot_60 (d := d + 3) hK (r01_g hr3) (fun g => keep (fun q => absurd q (r01_0 hr3 g)) _ _ σ2 c3) (fun g => ?_)
          have hkc := r01_n hr3 g
          refine bM_knot_61 (d := d + 3) hK (bM_knot_63 (d := d + 3) hK (ih ((S : Int), σ2) ⟨by omega, c3, Or.inr ⟨S, rfl, by omega, hkc, fun S' h1 h2 => ?_⟩⟩))
          by_cases e : S' = S
          · rw [e]
            unfold kL
            omega
          · rcases hB with ⟨q, hno⟩ | ⟨B, q, q1, q2, q3⟩
            · exact absurd h2 (hno S' (by omega))
            · have l1 := q3 S' (by omega) h2
              have l2 := hbet B q
              unfold kL at l1 l2 ⊢
              omega
        have skip : ¬ kC (WN (pbM σ)) F S ∨ (∃ B : Nat, b = (B : Int) ∧ kL (σ 7) (σ 0 3) B S) → ∀ v5, K (d + 4) mM_knot 47 [.inr 0, .inl what, .inl (F : Int), .inl b, .inl (S : Int), .inl v5] [] τ Q := by
          intro hq v5
          refine bM_knot_47 (d := d + 3) hK (bM_knot_48 (d := d + 3) hK ⟨by decide, by decide⟩ (fun _ => keep (fun q => ?_) _ _ τ c) (fun g => absurd rfl g))
          rcases hq with z | z
          · exact absurd q z
          · exact z
        have main : ∀ v5, am_rng v5 → ((b = -9 ∧ v5 = -1) ∨ ∃ B : Nat, b = (B : Int) ∧ (B : Int) < (S : Int) ∧ v5 = wtS (σ 7) (σ 0 3) S - wtS (σ 7) (σ 0 3) B) → K (d + 4) mM_knot 29 [.inr 0, .inl what, .inl (F : Int), .inl b, .inl (S : Int)] [.inl v5] τ Q := by
          intro v5 r5 hv5
          refine bM_knot_29 (d := d + 3) hK (rng_and _ _) (fun g => skip (Or.inl (fun z => g (by rw [ea, z.1]; rfl))) _) (fun g => ?_)
          have hsub : nd S F = 0 := by rw [ea] at g; omega
          refine bM_knot_36 (d := d + 3) hK r5 (fun g2 => tryit hsub (fun B hb z => ?_) _) (fun g2 => ?_)
          · rcases hv5 with ⟨q, -⟩ | ⟨B', q, q1, q2⟩
            · omega
            · have : B' = B := by omega
              subst this
              unfold kL at z
              omega
          · refine bM_knot_38 (d := d + 3) hK r5 (fun g3 => skip (Or.inr ?_) _) (fun g3 => ?_)
            · rcases hv5 with ⟨-, q⟩ | ⟨B', q, q1, q2⟩
              · omega
              · exact ⟨B', q, Or.inl (by omega)⟩
            · rcases hv5 with ⟨-, q⟩ | ⟨B', q, q1, q2⟩
              · omega
              · subst q
                have hB' : B' < 1024 := by omega
                refine bM_knot_40 (d := d + 3) hK (sM_manyOf hK hS (bM_knot_42 (d := d + 3) hK (sM_manyOf hK hB' ?_)))
                have p1 := pcC_r S hS
                have p2 := pcC_r B' hB'
                refine bM_knot_44 (d := d + 3) hK ⟨by omega, by omega⟩ ⟨by omega, by omega⟩ (fun g4 => skip (Or.inr ⟨B', rfl, ?_⟩) _) (fun g4 => tryit hsub (fun B hb z => ?_) _)
                · unfold kL
                  omega
                · have : B = B' := by omega
                  subst this
                  unfold kL at z
                  omega
        refine bM_knot_14 (d := d + 3) hK ⟨by omega, by omega⟩ ⟨by omega, by omega⟩ (fun g => absurd g (by omega)) (fun _ => ?_)
        refine bM_knot_17 (d := d + 3) hK rb (fun g => ?_) (fun g => bM_knot_20 (d := d + 3) hK (main (-1) ⟨by decide, by decide⟩ (Or.inl ⟨g, rfl⟩)))
        rcases hB with ⟨q, -⟩ | ⟨B, q, q1, -⟩
        · exact absurd q g
        · refine bM_knot_22 (d := d + 3) hK (sM_weightBy hK (by rw [e3]; exact m0) (by rw [e3]; exact m10) ?_)
          subst q
          refine bM_knot_25 (d := d + 3) hK (sM_weightBy hK (by rw [e3]; exact m0) (by rw [e3]; exact m10) ?_)
          rw [e3, e7]
          have w1 := WR S
          have w2 := WR B
          exact bM_knot_28 (d := d + 3) hK (main _ ⟨by omega, by omega⟩ (Or.inr ⟨B, rfl, q1, rfl⟩))
    exact loop 0 (-9, σ) (by omega) ⟨Int.le_refl 0, mfr_rf σ, Or.inl ⟨rfl, fun S h1 => absurd h1 (by omega)⟩⟩
  · rw [if_pos (r01_0 hr g)] at h
    exact h σ (mfr_rf σ)
/-- what is left, from the last note on -/
noncomputable def crF (WF : Nat → WS) : Nat → Nat → Nat
  | 0, s => s
  | k + 1, s => crF WF k (icn (s.testBit k = true ∧ ¬ Exi (WF (nd s (2 ^ k)))) (nd s (2 ^ k)) s)
noncomputable def aCore (m : Int) (WF : Nat → WS) (F : Nat) : Int := ic (Exi (WF F)) (-3) (crF WF m.toNat F : Int)
theorem nd_ne {s k : Nat} : nd s (2 ^ k) ≠ s ↔ s.testBit k = true := by
  constructor
  · intro h
    cases q : s.testBit k with
    | true => rfl
    | false =>
      exfalso
      apply h
      apply Nat.eq_of_testBit_eq
      intro i
      rw [nd_bit, Nat.testBit_two_pow]
      by_cases e : k = i
      · subst e
        rw [q]
        rfl
      · rw [decide_eq_false e]
        simp
  · intro h q
    have := nd_out h
    omega
theorem sM_core {K : am_KT} (hK : am_C K) {d : Nat} {σ : am_S} {Q : am_Q} (hm : Mok σ) (h : ∀ σ', mfr σ σ' → Q (some (aCore (σ 0 3) (WN (pbM σ)) (fmk σ))) σ') : K (d + 4) mM_core 0 [.inr 0] [] σ Q := by
  have m0 : 0 ≤ σ 0 3 := hm.1.2.2.1.1
  have m10 : σ 0 3 ≤ 10 := hm.1.2.2.1.2
  have hF := fmk_lt hm
  unfold aCore at h
  refine bM_core_0 (d := d + 3) hK (sM_setInForce hK hm (bM_core_2 (d := d + 3) hK (sM_closeN hK hm.1 (Or.inl rfl) (fun r σ1 c hr => ?_))))
  have cm := mfr_c c
  have hr2 : r01 r (Exi (WN (pbM σ) (fmk σ))) := by
    rcases hr with q | q
    · exact Or.inl ⟨q.1, ⟨_, q.2.1.1⟩⟩
    · exact Or.inr ⟨q.1, fun z => by
        obtain ⟨w, hw⟩ := z
        exact q.2 w (WP_n.mpr hw)⟩
  refine bM_core_8 (d := d + 3) hK (r01_g hr2) (fun g => bM_core_11 (d := d + 3) hK ?_) (fun g => bM_core_9 (d := d + 3) hK ?_)
  · rw [ic_f (r01_0 hr2 g)] at h
    have e3 : σ1 0 3 = σ 0 3 := cm.2 3 (by decide)
    rw [e3]
    have loop : ∀ (k : Int) (t : Int × am_S), -1 ≤ k → (k < σ 0 3 ∧ mfr σ t.2 ∧ ∃ s : Nat, t.1 = (s : Int) ∧ s < 1024 ∧ crF (WN (pbM σ)) (k + 1).toNat s = crF (WN (pbM σ)) (σ 0 3).toNat (fmk σ)) → K (d + 4) mM_core 16 [.inr 0, .inl t.1, .inl k] [] t.2 Q := by
      refine am_dn (P := fun k (t : Int × am_S) => k < σ 0 3 ∧ mfr σ t.2 ∧ ∃ s : Nat, t.1 = (s : Int) ∧ s < 1024 ∧ crF (WN (pbM σ)) (k + 1).toNat s = crF (WN (pbM σ)) (σ 0 3).toNat (fmk σ)) (C := fun k t => K (d + 4) mM_core 16 [.inr 0, .inl t.1, .inl k] [] t.2 Q) (fun t hp => ?_) (fun k t hk hp ih => ?_)
      · obtain ⟨v, τ⟩ := t
        obtain ⟨-, cτ, s, rfl, -, e⟩ := hp
        dsimp only at cτ e ⊢
        refine bM_core_16 (d := d + 3) hK ⟨by decide, by decide⟩ (fun _ => bM_core_39 (d := d + 3) hK ?_) (fun g => absurd g (by decide))
        rw [← e] at h
        exact h τ cτ
      · obtain ⟨v, τ⟩ := t
        obtain ⟨k1, cτ, s, rfl, hs, e⟩ := hp
        dsimp only at cτ e ih ⊢
        have k0 : 0 ≤ k := by omega
        have el : am_and (s : Int) (am_xor (am_shl 1 k) (-1)) = ((nd s (2 ^ k.toNat) : Nat) : Int) := by
          rw [shl_i k0 (by omega)]
          exact andn_nat (by omega)
        have hle := nd_le s (2 ^ k.toNat)
        rw [show (k + 1).toNat = k.toNat + 1 by omega, crF] at e
        have next : ∀ (s' : Nat) τ' v3, mfr σ τ' → s' = icn (s.testBit k.toNat = true ∧ ¬ Exi (WN (pbM σ) (nd s (2 ^ k.toNat)))) (nd s (2 ^ k.toNat)) s → K (d + 4) mM_core 37 [.inr 0, .inl (s' : Int), .inl k, .inl v3] [] τ' Q := by
          intro s' τ' v3 c' hs'
          refine bM_core_37 (d := d + 3) hK ?_
          have := ih ((s' : Int), τ') ⟨by omega, c', s', rfl, ?_, ?_⟩
          · rw [show k + (-1) = k - 1 by omega]
            exact this
          · rw [hs']
            by_cases q : s.testBit k.toNat = true ∧ ¬ Exi (WN (pbM σ) (nd s (2 ^ k.toNat)))
            · rw [icn_t q]; omega
            · rw [icn_f q]; exact hs
          · rw [show (k - 1 + 1).toNat = k.toNat by omega, hs']
            exact e
        refine bM_core_16 (d := d + 3) hK ⟨by omega, by omega⟩ (fun g => absurd g (by omega)) (fun _ => ?_)
        refine bM_core_18 (d := d + 3) hK (rng_and _ _) ⟨by omega, by omega⟩ (fun g => ?_) (fun g => ?_)
        · rw [el] at g
          exact next s τ _ cτ (by rw [icn_f (fun q => nd_ne.mpr q.1 (by omega))])
        · rw [el] at g ⊢
          have hbit := nd_ne.mp (show nd s (2 ^ k.toNat) ≠ s by omega)
          refine bM_core_29 (d := d + 3) hK (sM_closeN hK (Mok_m cτ hm).1 (Or.inl rfl) (fun r2 σ2 c2 hr2 => ?_))
          rw [pbM_m cτ] at hr2
          have c3 : mfr σ σ2 := mfr_tr cτ (mfr_c c2)
          have hr3 : r01 r2 (Exi (WN (pbM σ) (nd s (2 ^ k.toNat)))) := by
            rcases hr2 with q | q
            · exact Or.inl ⟨q.1, ⟨_, q.2.1.1⟩⟩
            · exact Or.inr ⟨q.1, fun z => by
                obtain ⟨w, hw⟩ := z
                exact q.2 w (WP_n.mpr hw)⟩
          refine bM_core_34 (d := d + 3) hK (r01_g hr3) (fun g2 => next s σ2 _ c3 (by rw [icn_f (fun q => q.2 (r01_n hr3 g2))])) (fun g2 => bM_core_35 (d := d + 3) hK (next _ σ2 _ c3 (by rw [icn_t ⟨hbit, r01_0 hr3 g2⟩])))
    exact loop (σ 0 3 - 1) ((fmk σ : Int), σ1) (by omega) ⟨by omega, cm, fmk σ, rfl, hF, by rw [show σ 0 3 - 1 + 1 = σ 0 3 by omega]⟩
  · rw [ic_t (r01_n hr2 g)] at h
    exact h σ1 cm
