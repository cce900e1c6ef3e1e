/-! the class: Letters.has, Notes -/
theorem sL_has {K : am_KT} (hK : am_C K) {d : Nat} {σ : am_S} {Q : am_Q} {a : Int} (ra : am_rng a) (n0 : 0 ≤ σ 17 0) (n8 : σ 17 0 ≤ 8) (h : ∀ r, r01 r (0 ≤ a ∧ a < σ 17 0) → Q (some r) σ) : K d mL_has 0 [.inr 17, .inl a] [] σ Q := by
  refine bL_has_0 hK ra (fun g => bL_has_8 hK (bL_has_9 hK (Or.inl rfl) (h 0 (Or.inr ⟨rfl, by omega⟩)))) (fun g => ?_)
  exact bL_has_2 hK ra ⟨by omega, by omega⟩ (fun g2 => bL_has_8 hK (bL_has_9 hK (Or.inl rfl) (h 0 (Or.inr ⟨rfl, by omega⟩)))) (fun g2 => bL_has_6 hK (bL_has_9 hK (Or.inr rfl) (h 1 (Or.inl ⟨rfl, g, g2⟩))))
theorem sN_has {K : am_KT} (hK : am_C K) {d : Nat} {σ : am_S} {Q : am_Q} {a : Int} (ra : am_rng a) (n0 : 0 ≤ σ 20 0) (n8 : σ 20 0 ≤ 10) (h : ∀ r, r01 r (0 ≤ a ∧ a < σ 20 0) → Q (some r) σ) : K d mN_has 0 [.inr 20, .inl a] [] σ Q := by
  refine bN_has_0 hK ra (fun g => bN_has_8 hK (bN_has_9 hK (Or.inl rfl) (h 0 (Or.inr ⟨rfl, by omega⟩)))) (fun g => ?_)
  exact bN_has_2 hK ra ⟨by omega, by omega⟩ (fun g2 => bN_has_8 hK (bN_has_9 hK (Or.inl rfl) (h 0 (Or.inr ⟨rfl, by omega⟩)))) (fun g2 => bN_has_6 hK (bN_has_9 hK (Or.inr rfl) (h 1 (Or.inl ⟨rfl, g, g2⟩))))
theorem SB_and {s : Nat} {x k : Int} (hx : x = (s : Int)) (hs : s < 1024) (k0 : 0 ≤ k) (k1 : k < 31) : am_and x (am_shl 1 k) = 0 ↔ ¬ SB s k := by
  have e : k = ((k.toNat : Nat) : Int) := by omega
  unfold SB
  rw [hx, e, and_shl0 (by omega) (by omega), show ((k.toNat : Nat) : Int).toNat = k.toNat by omega]
  cases s.testBit k.toNat <;> simp
theorem sN_isInForce {K : am_KT} (hK : am_C K) {d : Nat} {σ : am_S} {Q : am_Q} {k : Int} (f0 : 0 ≤ σ 20 1) (f1 : σ 20 1 < 1024) (k0 : 0 ≤ k) (k1 : k < 10) (h : ∀ r, r01 r (SB (σ 20 1).toNat k) → Q (some r) σ) : K d mN_isInForce 0 [.inr 20, .inl k] [] σ Q := by
  have e := SB_and (s := (σ 20 1).toNat) (x := σ 20 1) (k := k) (by omega) (by omega) k0 (by omega)
  exact bN_isInForce_0 hK (rng_and _ _) (fun g => bN_isInForce_9 hK (bN_isInForce_10 hK (Or.inl rfl) (h 0 (Or.inr ⟨rfl, e.mp g⟩)))) (fun g => bN_isInForce_7 hK (bN_isInForce_10 hK (Or.inr rfl) (h 1 (Or.inl ⟨rfl, Classical.byContradiction fun q => g (e.mpr q)⟩))))
theorem sN_names {K : am_KT} (hK : am_C K) {d : Nat} {σ : am_S} {Q : am_Q} {k a : Int} (ra : am_rng a) (hv : Vld (pbC σ)) (k0 : 0 ≤ k) (k1 : k < σ 20 0) (h : ∀ r, r01 r (σ 22 k = a ∨ σ 23 k = a) → Q (some r) σ) : K d mN_names 0 [.inr 20, .inl k, .inl a] [] σ Q := by
  have m10 : σ 20 0 ≤ 10 := hv.2.2.1.2
  have n8 : σ 17 0 ≤ 8 := hv.1.2
  obtain ⟨-, v2, v3, -⟩ := hv.2.2.2 k k0 k1
  have v2 : 0 ≤ σ 22 k ∧ σ 22 k < σ 17 0 := v2
  have v3 : 0 ≤ σ 23 k ∧ σ 23 k < σ 17 0 := v3
  refine bN_names_0 hK (by omega) ⟨by omega, by omega⟩ ra (fun g => bN_names_12 hK (bN_names_15 hK (Or.inr rfl) (h 1 (Or.inl ⟨rfl, Or.inl g⟩)))) (fun g => ?_)
  exact bN_names_6 hK (by omega) ⟨by omega, by omega⟩ ra (fun g2 => bN_names_14 hK (bN_names_15 hK (Or.inl rfl) (h 0 (Or.inr ⟨rfl, by omega⟩)))) (fun g2 => bN_names_12 hK (bN_names_15 hK (Or.inr rfl) (h 1 (Or.inl ⟨rfl, Or.inr g2⟩))))
theorem sN_anyNames {K : am_KT} (hK : am_C K) {d : Nat} {σ : am_S} {Q : am_Q} {a : Int} (ra : am_rng a) (hv : Vld (pbC σ)) (h : ∀ r, r01 r (∃ k, 0 ≤ k ∧ k < σ 20 0 ∧ (σ 22 k = a ∨ σ 23 k = a)) → Q (some r) σ) : K (d + 1) mN_anyNames 0 [.inr 20, .inl a] [] σ Q := by
  have m0 : 0 ≤ σ 20 0 := hv.2.2.1.1
  have m10 : σ 20 0 ≤ 10 := hv.2.2.1.2
  have loop : ∀ (k : Int) (u : Unit), k ≤ σ 20 0 → (0 ≤ k ∧ ∀ j, 0 ≤ j → j < k → ¬ (σ 22 j = a ∨ σ 23 j = a)) → K (d + 1) mN_anyNames 2 [.inr 20, .inl a, .inl k] [] σ Q := by
    refine am_up (P := fun k _ => 0 ≤ k ∧ ∀ j, 0 ≤ j → j < k → ¬ (σ 22 j = a ∨ σ 23 j = a)) (C := fun k _ => K (d + 1) mN_anyNames 2 [.inr 20, .inl a, .inl k] [] σ Q) (fun u hp => ?_) (fun k u hk hp ih => ?_)
    · exact bN_anyNames_2 hK ⟨by omega, by omega⟩ ⟨by omega, by omega⟩ (fun _ => bN_anyNames_15 hK (h 0 (Or.inr ⟨rfl, fun ⟨j, j0, j1, q⟩ => hp.2 j j0 j1 q⟩))) (fun g => absurd g (by omega))
    · obtain ⟨k0, hp⟩ := hp
      refine bN_anyNames_2 hK ⟨by omega, by omega⟩ ⟨by omega, by omega⟩ (fun g => absurd g (by omega)) (fun _ => ?_)
      refine bN_anyNames_6 hK (sN_names hK ra hv k0 hk (fun r hr => ?_))
      refine bN_anyNames_10 hK (r01_g hr) (fun g => bN_anyNames_13 hK (ih () ⟨by omega, fun j j0 j1 => ?_⟩)) (fun g => bN_anyNames_11 hK (h 1 (Or.inl ⟨rfl, k, k0, hk, r01_n hr g⟩)))
      by_cases e : j = k
      · rw [e]
        exact r01_0 hr g
      · exact hp j j0 (by omega)
  exact bN_anyNames_0 hK (loop 0 () m0 ⟨Int.le_refl 0, fun j j0 j1 => absurd j1 (by omega)⟩)
theorem sN_inForceNaming {K : am_KT} (hK : am_C K) {d : Nat} {σ : am_S} {Q : am_Q} {a : Int} (ra : am_rng a) (hc : Cok σ) (h : Q (some (nAb (σ 20 1).toNat (σ 22) (σ 23) a (σ 20 0))) σ) : K (d + 1) mN_inForceNaming 0 [.inr 20, .inl a] [] σ Q := by
  have m0 : 0 ≤ σ 20 0 := hc.1.2.2.1.1
  have m10 : σ 20 0 ≤ 10 := hc.1.2.2.1.2
  unfold nAb at h
  have loop : ∀ (k : Int) (v : Int), k ≤ σ 20 0 → (0 ≤ k ∧ v = cnt (fun k => SB (σ 20 1).toNat k ∧ (σ 22 k = a ∨ σ 23 k = a)) k.toNat) → K (d + 1) mN_inForceNaming 4 [.inr 20, .inl a, .inl v, .inl k] [] σ Q := by
    refine am_up (P := fun k v => 0 ≤ k ∧ v = cnt (fun k => SB (σ 20 1).toNat k ∧ (σ 22 k = a ∨ σ 23 k = a)) k.toNat) (C := fun k v => K (d + 1) mN_inForceNaming 4 [.inr 20, .inl a, .inl v, .inl k] [] σ Q) (fun v hp => ?_) (fun k v hk hp ih => ?_)
    · obtain ⟨-, rfl⟩ := hp
      exact bN_inForceNaming_4 hK ⟨by omega, by omega⟩ ⟨by omega, by omega⟩ (fun _ => bN_inForceNaming_20 hK h) (fun g => absurd g (by omega))
    · obtain ⟨k0, rfl⟩ := hp
      have es := cnt_s (fun k => SB (σ 20 1).toNat k ∧ (σ 22 k = a ∨ σ 23 k = a)) k0
      refine bN_inForceNaming_4 hK ⟨by omega, by omega⟩ ⟨by omega, by omega⟩ (fun g => absurd g (by omega)) (fun _ => ?_)
      refine bN_inForceNaming_8 hK (sN_isInForce hK hc.2.1 hc.2.2 k0 (by omega) (fun r hr => ?_))
      refine bN_inForceNaming_11 hK (r01_g hr) (fun g => bN_inForceNaming_18 hK (ih _ ⟨by omega, ?_⟩)) (fun g => ?_)
      · rw [es, ic_f (fun q => r01_0 hr g q.1)]
        omega
      · refine bN_inForceNaming_12 hK (sN_names hK ra hc.1 k0 hk (fun r2 hr2 => ?_))
        refine bN_inForceNaming_16 hK (r01_g hr2) (fun g2 => bN_inForceNaming_18 hK (ih _ ⟨by omega, ?_⟩)) (fun g2 => bN_inForceNaming_17 hK (bN_inForceNaming_18 hK (ih _ ⟨by omega, ?_⟩)))
        · rw [es, ic_f (fun q => r01_0 hr2 g2 q.2)]
          omega
        · rw [es, ic_t ⟨r01_n hr g, r01_n hr2 g2⟩]
  exact bN_inForceNaming_0 hK (loop 0 0 m0 ⟨Int.le_refl 0, rfl⟩)
theorem sN_weightOf {K : am_KT} (hK : am_C K) {d : Nat} {σ : am_S} {Q : am_Q} {s : Nat} (hs : s < 1024) (m0 : 0 ≤ σ 20 0) (m10 : σ 20 0 ≤ 10) (h : Q (some (wtS (σ 25) (σ 20 0) s)) σ) : K d mN_weightOf 0 [.inr 20, .inl (s : Int)] [] σ Q := by
  have loop : ∀ (k : Int) (v : Int), k ≤ σ 20 0 → (0 ≤ k ∧ v = wtS (σ 25) k s) → K d mN_weightOf 4 [.inr 20, .inl (s : Int), .inl v, .inl k] [] σ Q := by
    refine am_up (P := fun k v => 0 ≤ k ∧ v = wtS (σ 25) k s) (C := fun k v => K d mN_weightOf 4 [.inr 20, .inl (s : Int), .inl v, .inl k] [] σ Q) (fun v hp => ?_) (fun k v hk hp ih => ?_)
    · obtain ⟨-, rfl⟩ := hp
      exact bN_weightOf_4 hK ⟨by omega, by omega⟩ ⟨by omega, by omega⟩ (fun _ => bN_weightOf_23 hK h) (fun g => absurd g (by omega))
    · obtain ⟨k0, rfl⟩ := hp
      have es : wtS (σ 25) (k + 1) s = wtS (σ 25) k s + (if s.testBit k.toNat = true then σ 25 k else 0) := by
        unfold wtS
        rw [sumI_s _ k0]
      have eb := SB_and (s := s) (x := (s : Int)) (k := k) rfl hs k0 (by omega)
      unfold SB at eb
      refine bN_weightOf_4 hK ⟨by omega, by omega⟩ ⟨by omega, by omega⟩ (fun g => absurd g (by omega)) (fun _ => ?_)
      refine bN_weightOf_8 hK (rng_and _ _) (fun g => bN_weightOf_21 hK (ih _ ⟨by omega, ?_⟩)) (fun g => bN_weightOf_14 hK (by omega) (bN_weightOf_21 hK (ih _ ⟨by omega, ?_⟩)))
      · rw [es, if_neg (eb.mp g)]
        omega
      · rw [es, if_pos (Classical.byContradiction fun q => g (eb.mpr q))]
  exact bN_weightOf_0 hK (loop 0 0 m0 ⟨Int.le_refl 0, rfl⟩)
