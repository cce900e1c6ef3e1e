/-! one call of both: unletter, bundles -/
theorem nmd_c {σ σ1 : am_S} (hc : Cpl σ) (h : ∀ c, c < 9 → σ1 c = σ c) (a : Int) : nmd (σ1 0 3) (σ1 4) (σ1 5) a ↔ nmd (σ 20 0) (σ 22) (σ 23) a := by
  unfold nmd
  rw [h 0 (by decide), h 4 (by decide), h 5 (by decide), hc.2.1]
  constructor
  · rintro ⟨k, k0, k1, z⟩
    obtain ⟨-, e2, e3, -⟩ := hc.2.2.2.1 k k0 k1
    exact ⟨k, k0, k1, by rw [e2, e3]; exact z⟩
  · rintro ⟨k, k0, k1, z⟩
    obtain ⟨-, e2, e3, -⟩ := hc.2.2.2.1 k k0 k1
    exact ⟨k, k0, k1, by rw [← e2, ← e3]; exact z⟩
theorem y_unletter {K : am_KT} (hK : am_C K) {d : Nat} {σ : am_S} (hi : Inv σ) : Both K (d + 16) mD_unletter mM_unletter [] σ := by
  obtain ⟨hm, hw, hc⟩ := id hi.1
  have n0 : 0 ≤ σ 0 0 := hm.1.1.1
  have n8 : σ 0 0 ≤ 8 := hm.1.1.2
  have e17 := hc.1
  obtain ⟨BL, b1, b2, b3⟩ := hi.2.2
  have b4 : BV (σ 17 0) BL := by rw [e17]; exact b3
  refine sD_unletter hK (CI_c hi.1 hi.2.1).1 b2 b4 (fun q => ⟨_, rfl, rfl, ?_⟩) (fun q q2 => ⟨_, rfl, rfl, ?_⟩) (fun q q2 σ1 u0 u17 u26 u41 u54 => ⟨_, rfl, ?_, ?_⟩)
  · exact sM_unletter hK hm b1 b3 (fun _ => ⟨rfl, hi, rfl⟩) (fun z => by omega) (fun z => by omega)
  · rw [e17, ← nmd_c hc (fun _ _ => rfl)] at q2
    exact sM_unletter hK hm b1 b3 (fun z => by omega) (fun _ _ => ⟨rfl, hi, rfl⟩) (fun _ z => absurd q2 z)
  · exact u0 60 (by decide) (by decide) (by decide) (by decide)
  · have s1 : ∀ c, c < 17 → σ1 c = σ c := fun c h => u0 c (by omega) (by omega) (by omega) (by omega)
    rw [e17] at q q2 u17 u54 ⊢
    rw [← nmd_c hc (σ1 := σ1) (fun c h => s1 c (by omega))] at q2
    have e0 : σ1 0 = σ 0 := s1 0 (by decide)
    have B1 : MBd σ1 BL := MBd_s (s1 14 (by decide)) (s1 15 (by decide)) b1
    refine sM_unletter hK (Mok_r (fun c h => s1 c (by omega)) hm) B1 (by rw [e0]; exact b3) (fun z => by rw [e0] at z; omega) (fun _ z => absurd (by rw [e0] at z ⊢; exact z) q2) (fun _ _ τ cτ Bτ => ?_)
    rw [e0] at q2 cτ Bτ ⊢
    have tc : ∀ c, c ≠ 0 → c ≠ 14 → c ≠ 15 → τ c = σ1 c := fun c h h1 h2 => by rw [cτ c h1 h2, us_o _ _ _ h]
    have t00 : τ 0 0 = σ 0 0 - 1 := by rw [cτ 0 (by decide) (by decide), us_e]
    have t03 : τ 0 3 = σ 0 3 := by rw [cτ 0 (by decide) (by decide), us_n _ _ _ (by decide), e0]
    have td : ∀ c, c ≠ 0 → c ≠ 14 → c ≠ 15 → (c < 54 ∨ 59 < c) → c ≠ 17 → c ≠ 26 → c ≠ 41 → τ c = σ c := fun c h h1 h2 h3 h4 h5 h6 => (tc c h h1 h2).trans (u0 c h3 h4 h5 h6)
    have te : ∀ c, 0 < c → c < 9 → τ c = σ c := fun c h h1 => td c (by omega) (by omega) (by omega) (by omega) (by omega) (by omega) (by omega)
    have tf : ∀ c, 17 < c → c < 26 → τ c = σ c := fun c h h1 => td c (by omega) (by omega) (by omega) (by omega) (by omega) (by omega) (by omega)
    obtain ⟨⟨v1, v2, v3, v4⟩, vf⟩ := id hm
    have ef : fmk τ = fmk σ := by
      unfold fmk
      rw [t03, te 8 (by decide) (by decide)]
    refine ⟨rfl, ⟨⟨⟨⟨?_, fun a a0 an => ?_, ?_, fun k k0 k1 => ?_⟩, ?_⟩, ?_, ?_⟩, ⟨Or.inl ?_, Or.inl ?_⟩, _, Bτ, CBd_eq (fun c h1 h2 => tc c (by omega) (by omega) (by omega)) u54, fun b b0 b3' => ⟨(b3 b b0 b3').1.erase _, fun x hx => ?_⟩⟩, ?_⟩
    · show 0 ≤ τ 0 0 ∧ τ 0 0 ≤ 8
      omega
    · have an : a < τ 0 0 := an
      show 0 ≤ τ 1 a ∧ τ 1 a ≤ τ 2 a ∧ τ 2 a ≤ 199
      rw [te 1 (by decide) (by decide), te 2 (by decide) (by decide)]
      exact v2 a a0 (by show a < σ 0 0; omega)
    · show 0 ≤ τ 0 3 ∧ τ 0 3 ≤ 10
      rw [t03]
      exact v3
    · have k1 : k < τ 0 3 := k1
      rw [t03] at k1
      have h := v4 k k0 k1
      have h : (0 ≤ σ 3 k ∧ σ 3 k ≤ 4) ∧ (0 ≤ σ 4 k ∧ σ 4 k < σ 0 0) ∧ (0 ≤ σ 5 k ∧ σ 5 k < σ 0 0) ∧ (σ 3 k ≤ 1 → σ 4 k ≠ σ 5 k ∧ σ 6 k ≤ 99) ∧ (2 ≤ σ 3 k → σ 5 k = σ 4 k) ∧ (0 ≤ σ 6 k ∧ σ 6 k ≤ 199) ∧ (σ 3 k = 4 → σ 6 k ≤ 6) := h
      have nk : ¬ (σ 4 k = σ 0 0 - 1 ∨ σ 5 k = σ 0 0 - 1) := fun z => q2 ⟨k, k0, k1, by rw [s1 4 (by decide), s1 5 (by decide)]; exact z⟩
      show (0 ≤ τ 3 k ∧ τ 3 k ≤ 4) ∧ (0 ≤ τ 4 k ∧ τ 4 k < τ 0 0) ∧ (0 ≤ τ 5 k ∧ τ 5 k < τ 0 0) ∧ (τ 3 k ≤ 1 → τ 4 k ≠ τ 5 k ∧ τ 6 k ≤ 99) ∧ (2 ≤ τ 3 k → τ 5 k = τ 4 k) ∧ (0 ≤ τ 6 k ∧ τ 6 k ≤ 199) ∧ (τ 3 k = 4 → τ 6 k ≤ 6)
      rw [te 3 (by decide) (by decide), te 4 (by decide) (by decide), te 5 (by decide) (by decide), te 6 (by decide) (by decide), t00]
      exact ⟨h.1, ⟨h.2.1.1, by omega⟩, ⟨h.2.2.1.1, by omega⟩, h.2.2.2⟩
    · rw [te 8 (by decide) (by decide)]
      exact vf
    · unfold Wok
      rw [t03, te 7 (by decide) (by decide)]
      exact hw
    · unfold Cpl
      rw [ef, t00, t03, tc 17 (by decide) (by decide) (by decide), u17, te 1 (by decide) (by decide), te 2 (by decide) (by decide), te 3 (by decide) (by decide), te 4 (by decide) (by decide), te 5 (by decide) (by decide), te 6 (by decide) (by decide), te 7 (by decide) (by decide), tf 18 (by decide) (by decide), tf 19 (by decide) (by decide), tf 20 (by decide) (by decide), tf 21 (by decide) (by decide), tf 22 (by decide) (by decide), tf 23 (by decide) (by decide), tf 24 (by decide) (by decide), tf 25 (by decide) (by decide)]
      exact ⟨rfl, hc.2.1, fun a a0 an => hc.2.2.1 a a0 (by omega), hc.2.2.2⟩
    · rw [tc 26 (by decide) (by decide) (by decide)]
      exact u26
    · rw [tc 41 (by decide) (by decide) (by decide)]
      exact u41
    · have h := ((b3 b b0 b3').1.mem_erase_iff).mp hx
      have := (b3 b b0 b3').2 x h.2
      omega
    · exact td 60 (by decide) (by decide) (by decide) (by decide) (by decide) (by decide) (by decide)
theorem ansB {σ σ1 : am_S} (h : DB σ σ1) (hi : Inv σ) : I0 σ1 ∧ σ1 0 0 = σ 17 0 ∧ WM σ1 = WC σ ∧ σ1 60 = σ 60 := by
  have hb : ∀ c, c < 26 → σ1 c = σ c := fun c hc => h.1 c (by omega)
  have h0 := I0_d hb hi.1
  refine ⟨h0, ?_, ?_, h.1 60 (by decide)⟩
  · rw [hb 0 (by decide)]
    exact hi.1.2.2.1.symm
  · rw [← WC_c h0.2.2]
    exact WC_eq (fun c _ h2 => hb c (by omega))
theorem mbf60 {σ σ1 : am_S} (h : mbf σ σ1) : σ1 60 = σ 60 := h.1 60 (by decide) (by decide)
theorem Inv_mk {σ1 τ : am_S} {BL : Int → List Int} (h0 : I0 σ1) (hyt : YV σ1 ∧ TV σ1) (hb : mbf σ1 τ) (hM : MBd τ BL) (hC : CBd σ1 BL) (hV : BV (σ1 0 0) BL) : Inv τ := ⟨I0_b hb h0, YT_b hb hyt, BL, hM, CBd_b hb hC, by rw [hb.2 0 (by decide)]; exact hV⟩
theorem BV_u {n : Int} {BL : Int → List Int} {b : Int} {L : List Int} (hV : BV n BL) (hd : L.Nodup) (hx : ∀ a ∈ L, 0 ≤ a ∧ a < n) : BV n (uB BL b L) := fun c c0 c3 => by
  by_cases e : c = b
  · rw [e, uB_e]
    exact ⟨hd, hx⟩
  · rw [uB_n _ _ e]
    exact hV c c0 c3
theorem y_untie {K : am_KT} (hK : am_C K) {d : Nat} {σ : am_S} {a b : Int} (ra : am_rng a) (rb : am_rng b) (hi : Inv σ) : Both K (d + 16) mD_untie mM_untie [.inl a, .inl b] σ := by
  have hc := hi.1.2.2
  obtain ⟨BL, b1, b2, b3⟩ := hi.2.2
  have e17 := hc.1
  have b4 : BV (σ 17 0) BL := by rw [e17]; exact b3
  refine sD_untie hK ra rb (CI_c hi.1 hi.2.1) b2 b4 (fun q => ⟨_, rfl, rfl, ?_⟩) (fun q q2 q3 => ⟨_, rfl, rfl, ?_⟩) (fun q q2 q3 σ1 c1 B1 => ⟨_, rfl, c1.1 60 (by decide), ?_⟩)
  · rw [e17] at q
    exact sM_untie hK ra rb hi.1.1 b1 b3 (fun _ => ⟨rfl, hi, rfl⟩) (fun z1 z2 => absurd ⟨z1, z2⟩ q) (fun z1 z2 => absurd ⟨z1, z2⟩ q)
  · rw [e17] at q
    exact sM_untie hK ra rb hi.1.1 b1 b3 (fun z => absurd ⟨q, q2⟩ z) (fun _ _ _ => ⟨rfl, hi, rfl⟩) (fun _ _ z => absurd z q3)
  · obtain ⟨h0, s0, -, s60⟩ := ansB c1 hi
    have M1 : MBd σ1 BL := MBd_d (fun c h => c1.1 c (by omega)) b1
    have V1 : BV (σ1 0 0) BL := by rw [s0]; exact b4
    obtain ⟨hd, hx⟩ := b4 b q2.1 q2.2
    refine sM_untie hK ra rb h0.1 M1 V1 (fun z => absurd ⟨by rw [s0]; exact q, q2⟩ z) (fun _ _ z => absurd q3 z) (fun _ _ _ τ cτ Mτ => ⟨rfl, ?_, (mbf60 (mbf_b cτ)).trans s60⟩)
    refine Inv_mk h0 c1.2 (mbf_b cτ) Mτ B1 ?_
    rw [s0]
    exact BV_u b4 (hd.erase _) (fun x hx2 => hx x (List.mem_of_mem_erase hx2))
theorem y_tie {K : am_KT} (hK : am_C K) {d : Nat} {σ : am_S} {a b : Int} (ra : am_rng a) (rb : am_rng b) (hi : Inv σ) : Both K (d + 16) mD_tie mM_tie [.inl a, .inl b] σ := by
  have hc := hi.1.2.2
  obtain ⟨BL, b1, b2, b3⟩ := hi.2.2
  have e17 := hc.1
  have b4 : BV (σ 17 0) BL := by rw [e17]; exact b3
  refine sD_tie hK ra rb (CI_c hi.1 hi.2.1) b2 b4 (fun q => ⟨_, rfl, rfl, ?_⟩) (fun q q2 q3 σ1 c1 => ⟨_, rfl, d60 c1, ?_⟩) (fun q q2 q3 q4 σ1 c1 B1 => ⟨_, rfl, c1.1 60 (by decide), ?_⟩)
  · rw [e17] at q
    exact sM_tie hK ra rb hi.1.1 b1 b3 (fun _ => ⟨rfl, hi, rfl⟩) (fun z1 z2 => absurd ⟨z1, z2⟩ q) (fun z1 z2 => absurd ⟨z1, z2⟩ q)
  · obtain ⟨h0, s0, sW, s60⟩ := ansB (DB_q c1) hi
    have i1 := Inv_d c1 hi
    have M1 : MBd σ1 BL := MBd_d (fun c h => c1.1 c (by omega)) b1
    have V1 : BV (σ1 0 0) BL := by rw [s0]; exact b4
    refine sM_tie hK ra rb h0.1 M1 V1 (fun z => absurd ⟨by rw [s0]; exact q, q2⟩ z) (fun _ _ _ τ cτ => ⟨rfl, Inv_m cτ i1, (m60 cτ).trans s60⟩) (fun _ _ z1 z2 => ?_)
    rw [sW] at z2
    rcases q3 with y | y
    · exact absurd y z1
    · exact absurd z2 y
  · obtain ⟨h0, s0, sW, s60⟩ := ansB c1 hi
    have M1 : MBd σ1 BL := MBd_d (fun c h => c1.1 c (by omega)) b1
    have V1 : BV (σ1 0 0) BL := by rw [s0]; exact b4
    obtain ⟨hd, hx⟩ := b4 b q2.1 q2.2
    have h7 : (BL b).length ≤ 7 := nodup_room (CI_c hi.1 hi.2.1).1.1.1.2 hd hx q.1 q.2 q3
    have hl : (B1 b q2.1 q2.2).1.1 = (B1 b q2.1 q2.2).1.1 := rfl
    refine sM_tie hK ra rb h0.1 M1 V1 (fun z => absurd ⟨by rw [s0]; exact q, q2⟩ z) (fun _ _ z => ?_) (fun _ _ _ _ τ cτ Mτ => ?_)
    · rw [sW] at z
      rcases z with y | y
      · exact absurd y q3
      · exact absurd q4 y
    · rw [s0, sW] at Mτ ⊢
      refine ⟨rfl, ?_, (mbf60 cτ).trans s60⟩
      refine Inv_mk h0 c1.2 cτ Mτ B1 ?_
      rw [s0]
      generalize plN (bef (Lst (σ 17 0) (WC σ) (-9) 0) a) (BL b) = P
      by_cases hP : P ≤ (BL b).length
      · have pm := List.perm_insertIdx a (BL b) hP
        refine BV_u b4 (List.Nodup.perm (List.nodup_cons.mpr ⟨q3, hd⟩) pm.symm) (fun x hx2 => ?_)
        rcases (List.mem_insertIdx hP).mp hx2 with z | z
        · rw [z]
          exact q
        · exact hx x z
      · rw [List.insertIdx_of_length_lt (by omega)]
        exact BV_u b4 hd hx
theorem y_spread {K : am_KT} (hK : am_C K) {d : Nat} {σ : am_S} {b : Int} (rb : am_rng b) (hi : Inv σ) : Both K (d + 16) mD_spread mM_spread [.inl b] σ := by
  have hc := hi.1.2.2
  obtain ⟨BL, b1, b2, b3⟩ := hi.2.2
  have e17 := hc.1
  have b4 : BV (σ 17 0) BL := by rw [e17]; exact b3
  refine sD_spread hK rb (CI_c hi.1 hi.2.1) b2 b4 (fun q => ⟨_, rfl, rfl, ?_⟩) (fun q q2 σ1 c1 => ⟨_, rfl, d60 c1, ?_⟩) (fun q q2 σ1 c1 B1 => ⟨_, rfl, c1.1 60 (by decide), ?_⟩)
  · exact sM_spread hK rb hi.1.1 b1 b3 (fun _ => ⟨rfl, hi, rfl⟩) (fun z => absurd z q) (fun z => absurd z q)
  · obtain ⟨h0, s0, sW, s60⟩ := ansB (DB_q c1) hi
    have i1 := Inv_d c1 hi
    have M1 : MBd σ1 BL := MBd_d (fun c h => c1.1 c (by omega)) b1
    have V1 : BV (σ1 0 0) BL := by rw [s0]; exact b4
    refine sM_spread hK rb h0.1 M1 V1 (fun z => absurd q z) (fun _ _ τ cτ => ⟨rfl, Inv_m cτ i1, (m60 cτ).trans s60⟩) (fun _ z => ?_)
    rw [sW] at z
    exact absurd z q2
  · obtain ⟨h0, s0, sW, s60⟩ := ansB c1 hi
    have M1 : MBd σ1 BL := MBd_d (fun c h => c1.1 c (by omega)) b1
    have V1 : BV (σ1 0 0) BL := by rw [s0]; exact b4
    obtain ⟨hd, hx⟩ := b4 b q.1 q.2
    have nx0 : 0 ≤ nxB b ∧ nxB b < 3 := by
      unfold nxB
      split <;> omega
    obtain ⟨nd', nx⟩ := b4 (nxB b) nx0.1 nx0.2
    refine sM_spread hK rb h0.1 M1 V1 (fun z => absurd q z) (fun _ z => ?_) (fun _ _ τ cτ Mτ => ?_)
    · rw [sW] at z
      exact absurd q2 z
    · rw [s0, sW] at Mτ ⊢
      refine ⟨rfl, ?_, (mbf60 cτ).trans s60⟩
      refine Inv_mk h0 c1.2 cτ Mτ B1 ?_
      rw [s0]
      obtain ⟨⟨k1, k2⟩, k3, k4⟩ := spr_ok (lv := lvB (ahm (σ 17 0) (WC σ)) (lm (BL b))) (n := σ 17 0) (BL b) (BL (nxB b)) hx nd' nx
      exact BV_u (BV_u b4 (k2 hd) (fun y hy => hx y (k1 y hy))) k3 k4
