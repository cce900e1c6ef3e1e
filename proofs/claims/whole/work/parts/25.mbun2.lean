/-! the reference: bundles -/
def mbf (σ σ' : am_S) : Prop := (∀ c, c ≠ 0 → (c < 9 ∨ 15 < c) → σ' c = σ c) ∧ ∀ j, j ≠ 12 → σ' 0 j = σ 0 j
theorem mbf_tr {σ σ1 σ2 : am_S} (h1 : mbf σ σ1) (h2 : mbf σ1 σ2) : mbf σ σ2 := ⟨fun c a b => (h2.1 c a b).trans (h1.1 c a b), fun j hj => (h2.2 j hj).trans (h1.2 j hj)⟩
theorem mbf_m {σ σ' : am_S} (h : mfr σ σ') : mbf σ σ' := ⟨fun c a b => h.1 c a (by omega), h.2⟩
theorem mbf_b {σ σ' : am_S} (h : bfr σ σ') : mbf σ σ' := ⟨fun c a b => h c (by omega) (by omega), fun j _ => by rw [h 0 (by decide) (by decide)]⟩
theorem mbf_rf (σ : am_S) : mbf σ σ := ⟨fun _ _ _ => rfl, fun _ _ => rfl⟩
theorem MBd_m {σ σ' : am_S} {BL : Int → List Int} (h : mfr σ σ') (hB : MBd σ BL) : MBd σ' BL := by
  intro b b0 b3
  have e14 : σ' 14 = σ 14 := h.1 14 (by decide) (by decide)
  have e15 : σ' 15 = σ 15 := h.1 15 (by decide) (by decide)
  rw [e14, e15]
  exact hB b b0 b3
theorem BV_g {n : Int} {BL : Int → List Int} (n8 : n ≤ 8) (h : BV n BL) {b : Int} (b0 : 0 ≤ b) (b3 : b < 3) : ∀ x ∈ BL b, am_rng x := fun x hx => by
  have := (h b b0 b3).2 x hx
  exact ⟨by omega, by omega⟩
/-- in which bundles -/
noncomputable def bnm (BL : Int → List Int) (a : Int) : Nat := mk (fun b => a ∈ BL b) 3
theorem sM_bundlesOf {K : am_KT} (hK : am_C K) {d : Nat} {σ : am_S} {Q : am_Q} {BL : Int → List Int} {a : Int} (n8 : σ 0 0 ≤ 8) (hB : MBd σ BL) (hV : BV (σ 0 0) BL) (ra : am_rng a) (h : Q (some (bnm BL a : Int)) σ) : K (d + 1) mM_bundlesOf 0 [.inr 0, .inl a] [] σ Q := by
  have loop : ∀ (b : Int) (v : Int), b ≤ 3 → (0 ≤ b ∧ v = (mk (fun b => a ∈ BL b) b.toNat : Int)) → K (d + 1) mM_bundlesOf 4 [.inr 0, .inl a, .inl v, .inl b] [] σ Q := by
    refine am_up (P := fun b v => 0 ≤ b ∧ v = (mk (fun b => a ∈ BL b) b.toNat : Int)) (C := fun b v => K (d + 1) mM_bundlesOf 4 [.inr 0, .inl a, .inl v, .inl b] [] σ Q) (fun v hp => ?_) (fun b v hb hp ih => ?_)
    · obtain ⟨-, rfl⟩ := hp
      exact bM_bundlesOf_4 hK ⟨by decide, by decide⟩ (fun _ => bM_bundlesOf_23 hK h) (fun g => absurd g (by decide))
    · obtain ⟨b0, rfl⟩ := hp
      refine bM_bundlesOf_4 hK ⟨by omega, by omega⟩ (fun g => absurd g (by omega)) (fun _ => ?_)
      refine bM_bundlesOf_7 hK (sM_placeIn hK hB b0 hb ra (BV_g n8 hV b0 hb) (fun r hr => ?_))
      have rg := PlI_g (hB b b0 hb).2 hr
      have fin : ∀ y : Nat, y = icn (a ∈ BL b) (2 ^ b.toNat) 0 → K (d + 1) mM_bundlesOf 19 [.inr 0, .inl a, .inl (mk (fun b => a ∈ BL b) b.toNat : Int), .inl b] [.inl (y : Int), .inl (mk (fun b => a ∈ BL b) b.toNat : Int)] σ Q := by
        intro y hy
        refine bM_bundlesOf_19 hK (ih _ ⟨by omega, ?_⟩)
        rw [hy]
        exact mk_or (fun b => a ∈ BL b) b0 (by omega)
      refine bM_bundlesOf_12 hK rg (fun g => bM_bundlesOf_18 hK (fin 0 ?_)) (fun g => bM_bundlesOf_14 hK ?_)
      · rcases hr with ⟨-, q⟩ | ⟨i, q, -⟩
        · rw [icn_f q]
        · omega
      · rw [shl_i b0 (by omega)]
        refine fin _ ?_
        rcases hr with ⟨q, -⟩ | ⟨i, -, q⟩
        · exact absurd q g
        · rw [icn_t (List.mem_of_getElem? q)]
  exact bM_bundlesOf_0 hK (loop 0 0 (by decide) ⟨Int.le_refl 0, rfl⟩)
noncomputable def aOfLetter (n m : Int) (f l : Int → Int) (s : Nat) (pa' pb' : Int → Int) (BL : Int → List Int) (a what : Int) : Int := if ¬ (0 ≤ a ∧ a < n) then -1 else if what = 0 then f a else if what = 1 then l a else if what = 2 then nAb s pa' pb' a m else if what = 3 then (bnm BL a : Int) else -2
theorem sM_ofLetter {K : am_KT} (hK : am_C K) {d : Nat} {σ : am_S} {Q : am_Q} {BL : Int → List Int} {a what : Int} (ra : am_rng a) (rw' : am_rng what) (hm : Mok σ) (hB : MBd σ BL) (hV : BV (σ 0 0) BL) (h : Q (some (aOfLetter (σ 0 0) (σ 0 3) (σ 1) (σ 2) (fmk σ) (σ 4) (σ 5) BL a what)) σ) : K (d + 2) mM_ofLetter 0 [.inr 0, .inl a, .inl what] [] σ Q := by
  have n0 : 0 ≤ σ 0 0 := hm.1.1.1
  have n8 : σ 0 0 ≤ 8 := hm.1.1.2
  unfold aOfLetter at h
  refine bM_ofLetter_0 (d := d + 1) hK (sM_isLetter hK ra n0 n8 (fun r hr => ?_))
  refine bM_ofLetter_3 (d := d + 1) hK (r01_g hr) (fun g => ?_) (fun g => bM_ofLetter_4 (d := d + 1) hK ?_)
  · have ga := r01_n hr g
    rw [if_neg (fun q => q ga)] at h
    refine bM_ofLetter_6 (d := d + 1) hK rw' (fun e => ?_) (fun e => ?_) (fun e => ?_) (fun e => ?_) (fun e => ?_)
    · subst e
      exact bM_ofLetter_8 (d := d + 1) hK (by omega) h
    · subst e
      exact bM_ofLetter_13 (d := d + 1) hK (by omega) h
    · subst e
      exact bM_ofLetter_18 (d := d + 1) hK (sM_notesAbout hK ra hm (bM_ofLetter_21 (d := d + 1) hK h))
    · subst e
      exact bM_ofLetter_22 (d := d + 1) hK (sM_bundlesOf hK n8 hB hV ra (bM_ofLetter_25 (d := d + 1) hK h))
    · rw [if_neg (by omega), if_neg (by omega), if_neg (by omega), if_neg (by omega)] at h
      exact bM_ofLetter_26 (d := d + 1) hK h
  · rw [if_pos (r01_0 hr g)] at h
    exact h
theorem sM_lies {K : am_KT} (hK : am_C K) {d : Nat} {σ : am_S} {Q : am_Q} {BL : Int → List Int} {b p : Int} (rb : am_rng b) (rp : am_rng p) (hB : MBd σ BL) (h : Q (some (if ¬ (0 ≤ b ∧ b < 3) then -1 else if ¬ (0 ≤ p ∧ p ≤ 7) then -2 else ((BL b)[p.toNat]?).getD (-9))) σ) : K (d + 2) mM_lies 0 [.inr 0, .inl b, .inl p] [] σ Q := by
  refine bM_lies_0 (d := d + 1) hK (sM_isBundle hK rb (fun r hr => ?_))
  refine bM_lies_2 (d := d + 1) hK (r01_g hr) (fun g => ?_) (fun g => bM_lies_3 (d := d + 1) hK ?_)
  · have gb := r01_n hr g
    rw [if_neg (fun q => q gb)] at h
    obtain ⟨⟨hsz, hrow⟩, hl8⟩ := hB b gb.1 gb.2
    refine bM_lies_5 (d := d + 1) hK (sM_within hK rp ⟨by decide, by decide⟩ ⟨by decide, by decide⟩ (fun r2 hr2 => ?_))
    refine bM_lies_9 (d := d + 1) hK (r01_g hr2) (fun g2 => ?_) (fun g2 => bM_lies_10 (d := d + 1) hK ?_)
    · have gp := r01_n hr2 g2
      rw [if_neg (fun q => q gp)] at h
      refine bM_lies_12 (d := d + 1) hK (by omega) rp (by rw [hsz]; exact ⟨by omega, by omega⟩) (fun g3 => bM_lies_27 (d := d + 1) hK (bM_lies_28 (d := d + 1) hK ?_)) (fun g3 => bM_lies_18 (d := d + 1) hK (by omega) (bM_lies_28 (d := d + 1) hK ?_))
      · rw [List.getElem?_eq_none (by omega)] at h
        exact h
      · have hp := hrow p.toNat (by omega)
        rw [hp, show ((p.toNat : Nat) : Int) = p by omega] at h
        exact h
    · rw [if_pos (r01_0 hr2 g2)] at h
      exact h
  · rw [if_pos (r01_0 hr g)] at h
    exact h
noncomputable def aMany (n m : Int) (s : Nat) (wt : Int → Int) (BL : Int → List Int) (what : Int) : Int := if what = 0 then n else if what = 1 then m else if what = 2 then pcC s else if what = 3 then ((BL 0).length : Int) else if what = 4 then ((BL 1).length : Int) else if what = 5 then ((BL 2).length : Int) else if what = 6 then wtS wt m s else -2
theorem sM_many {K : am_KT} (hK : am_C K) {d : Nat} {σ : am_S} {Q : am_Q} {BL : Int → List Int} {what : Int} (rw' : am_rng what) (hm : Mok σ) (hB : MBd σ BL) (h : Q (some (aMany (σ 0 0) (σ 0 3) (fmk σ) (σ 7) BL what)) σ) : K (d + 1) mM_many 0 [.inr 0, .inl what] [] σ Q := by
  have m0 : 0 ≤ σ 0 3 := hm.1.2.2.1.1
  have m10 : σ 0 3 ≤ 10 := hm.1.2.2.1.2
  have hF := fmk_lt hm
  unfold aMany at h
  refine bM_many_0 hK rw' (fun e => ?_) (fun e => ?_) (fun e => ?_) (fun e => ?_) (fun e => ?_) (fun e => ?_) (fun e => ?_) (fun e => ?_)
  · subst e
    exact bM_many_2 hK h
  · subst e
    exact bM_many_5 hK h
  · subst e
    exact bM_many_8 hK (sM_setInForce hK hm (bM_many_10 hK (sM_manyOf hK hF (bM_many_11 hK h))))
  · subst e
    refine bM_many_12 hK (by omega) ?_
    have := (hB 0 (by decide) (by decide)).1.1
    rw [show (3 : Int) - 3 = 0 by decide, this]
    exact h
  · subst e
    refine bM_many_12 hK (by omega) ?_
    have := (hB 1 (by decide) (by decide)).1.1
    rw [show (4 : Int) - 3 = 1 by decide, this]
    exact h
  · subst e
    refine bM_many_12 hK (by omega) ?_
    have := (hB 2 (by decide) (by decide)).1.1
    rw [show (5 : Int) - 3 = 2 by decide, this]
    exact h
  · subst e
    exact bM_many_19 hK (sM_setInForce hK hm (bM_many_22 hK (sM_weightBy hK m0 m10 (bM_many_23 hK h))))
  · rw [if_neg (by omega), if_neg (by omega), if_neg (by omega), if_neg (by omega), if_neg (by omega), if_neg (by omega), if_neg (by omega)] at h
    exact bM_many_24 hK h
theorem sM_untie {K : am_KT} (hK : am_C K) {d : Nat} {σ : am_S} {Q : am_Q} {BL : Int → List Int} {a b : Int} (ra : am_rng a) (rb : am_rng b) (hm : Mok σ) (hB : MBd σ BL) (hV : BV (σ 0 0) BL) (h1 : ¬ ((0 ≤ a ∧ a < σ 0 0) ∧ (0 ≤ b ∧ b < 3)) → Q (some (-1)) σ) (h2 : (0 ≤ a ∧ a < σ 0 0) → (0 ≤ b ∧ b < 3) → a ∉ BL b → Q (some (-3)) σ)
    (h3 : (0 ≤ a ∧ a < σ 0 0) → (0 ≤ b ∧ b < 3) → a ∈ BL b → ∀ σ', bfr σ σ' → MBd σ' (uB BL b ((BL b).erase a)) → Q (some (((BL b).erase a).length : Int)) σ') : K (d + 2) mM_untie 0 [.inr 0, .inl a, .inl b] [] σ Q := by
  have n0 : 0 ≤ σ 0 0 := hm.1.1.1
  have n8 : σ 0 0 ≤ 8 := hm.1.1.2
  refine bM_untie_0 (d := d + 1) hK (sM_isLetter hK ra n0 n8 (fun r hr => ?_))
  refine bM_untie_3 (d := d + 1) hK (r01_g hr) (fun g => bM_untie_7 (d := d + 1) hK (h1 (fun q => r01_0 hr g q.1))) (fun g => ?_)
  have ga := r01_n hr g
  refine bM_untie_4 (d := d + 1) hK (sM_isBundle hK rb (fun r2 hr2 => ?_))
  refine bM_untie_6 (d := d + 1) hK (r01_g hr2) (fun g2 => ?_) (fun g2 => bM_untie_7 (d := d + 1) hK (h1 (fun q => r01_0 hr2 g2 q.2)))
  have gb := r01_n hr2 g2
  refine bM_untie_9 (d := d + 1) hK (sM_placeIn hK hB gb.1 gb.2 ra (BV_g n8 hV gb.1 gb.2) (fun r3 hr3 => ?_))
  refine bM_untie_13 (d := d + 1) hK (PlI_g (hB b gb.1 gb.2).2 hr3) (fun g3 => ?_) (fun g3 => bM_untie_17 (d := d + 1) hK (h2 ga gb ?_))
  · rcases hr3 with ⟨q, -⟩ | ⟨i, rfl, q⟩
    · exact absurd q g3
    · have hi := (List.getElem?_eq_some_iff.mp q).1
      have e := erase_at (hV b gb.1 gb.2).1 q
      refine bM_untie_19 (d := d + 1) hK (sM_takesOut hK hB gb.1 gb.2 hi (fun σ' c hB' => bM_untie_23 (d := d + 1) hK (by omega) ?_))
      rw [e] at hB'
      have hs := (hB' b gb.1 gb.2).1.1
      rw [uB_e] at hs
      rw [hs]
      exact h3 ga gb (List.mem_of_getElem? q) σ' c hB'
  · rcases hr3 with ⟨-, q⟩ | ⟨i, q, -⟩
    · exact q
    · omega
/-- the place right behind the last one with p -/
def IsPl (p : Int → Prop) (L : List Int) (r : Nat) : Prop := r ≤ L.length ∧ (r = 0 ∨ ∃ x, L[r - 1]? = some x ∧ p x) ∧ ∀ (j : Nat) (x : Int), r ≤ j → L[j]? = some x → ¬ p x
noncomputable def plN (p : Int → Prop) (L : List Int) : Nat := Classical.epsilon (IsPl p L)
theorem plN_u {p : Int → Prop} {L : List Int} {r : Nat} (h : IsPl p L r) : r = plN p L := by
  have e : IsPl p L (plN p L) := Classical.epsilon_spec (p := IsPl p L) ⟨r, h⟩
  obtain ⟨h1, h2, h3⟩ := h
  obtain ⟨e1, e2, e3⟩ := e
  rcases Nat.lt_trichotomy r (plN p L) with q | q | q
  · rcases e2 with z | ⟨x, z1, z2⟩
    · omega
    · exact absurd z2 (h3 _ x (by omega) z1)
  · exact q
  · rcases h2 with z | ⟨x, z1, z2⟩
    · omega
    · exact absurd z2 (e3 _ x (by omega) z1)
def bef (E : Int → Int) (a x : Int) : Prop := E x < E a ∨ (E x = E a ∧ x < a)
theorem sM_tie {K : am_KT} (hK : am_C K) {d : Nat} {σ : am_S} {Q : am_Q} {BL : Int → List Int} {a b : Int} (ra : am_rng a) (rb : am_rng b) (hm : Mok σ) (hB : MBd σ BL) (hV : BV (σ 0 0) BL) (h1 : ¬ ((0 ≤ a ∧ a < σ 0 0) ∧ (0 ≤ b ∧ b < 3)) → Q (some (-1)) σ) (h2 : (0 ≤ a ∧ a < σ 0 0) → (0 ≤ b ∧ b < 3) → (a ∈ BL b ∨ ¬ Exi (WM σ)) → ∀ σ', mfr σ σ' → Q (some (-3)) σ')
    (h3 : (0 ≤ a ∧ a < σ 0 0) → (0 ≤ b ∧ b < 3) → a ∉ BL b → Exi (WM σ) → ∀ σ', mbf σ σ' → MBd σ' (uB BL b ((BL b).insertIdx (plN (bef (Lst (σ 0 0) (WM σ) (-9) 0) a) (BL b)) a)) → Q (some (plN (bef (Lst (σ 0 0) (WM σ) (-9) 0) a) (BL b) : Int)) σ') : K (d + 5) mM_tie 0 [.inr 0, .inl a, .inl b] [] σ Q := by
  have n0 : 0 ≤ σ 0 0 := hm.1.1.1
  have n8 : σ 0 0 ≤ 8 := hm.1.1.2
  refine bM_tie_0 (d := d + 4) hK (sM_isLetter hK ra n0 n8 (fun r hr => ?_))
  refine bM_tie_3 (d := d + 4) hK (r01_g hr) (fun g => bM_tie_7 (d := d + 4) hK (h1 (fun q => r01_0 hr g q.1))) (fun g => ?_)
  have ga := r01_n hr g
  refine bM_tie_4 (d := d + 4) hK (sM_isBundle hK rb (fun r2 hr2 => ?_))
  refine bM_tie_6 (d := d + 4) hK (r01_g hr2) (fun g2 => ?_) (fun g2 => bM_tie_7 (d := d + 4) hK (h1 (fun q => r01_0 hr2 g2 q.2)))
  have gb := r01_n hr2 g2
  refine bM_tie_9 (d := d + 4) hK (sM_placeIn hK hB gb.1 gb.2 ra (BV_g n8 hV gb.1 gb.2) (fun r3 hr3 => ?_))
  refine bM_tie_13 (d := d + 4) hK (PlI_g (hB b gb.1 gb.2).2 hr3) (fun g3 => bM_tie_18 (d := d + 4) hK (h2 ga gb (Or.inl ?_) σ (mfr_rf σ))) (fun g3 => ?_)
  · rcases hr3 with ⟨q, -⟩ | ⟨i, -, q⟩
    · exact absurd q g3
    · exact List.mem_of_getElem? q
  have hna : a ∉ BL b := by
    rcases hr3 with ⟨-, q⟩ | ⟨i, q, -⟩
    · exact q
    · omega
  refine bM_tie_15 (d := d + 4) hK (sM_closeNow hK hm (fun r4 σ1 c hr4 => ?_))
  have hr5 := Nw_r hr4
  have cm := mfr_c c
  refine bM_tie_17 (d := d + 4) hK (r01_g hr5) (fun g4 => bM_tie_20 (d := d + 4) hK ?_) (fun g4 => bM_tie_18 (d := d + 4) hK (h2 ga gb (Or.inr (r01_0 hr5 g4)) σ1 cm))
  have hE := r01_n hr5 g4
  have hL : LGW (σ 0 0) (WM σ) (-9) 0 (fun a => -(σ1 9 (9 * a + 8))) (fun a => σ1 9 (72 + a)) := by
    rcases hr4 with q | q
    · exact q.2.2
    · exact absurd hE q.2
  have eE : ∀ x, 0 ≤ x → x < σ 0 0 → -(σ1 9 (9 * x + 8)) = Lst (σ 0 0) (WM σ) (-9) 0 x := fun x x0 xn => (LGW_u hL x0 xn).1
  have rE : ∀ x, 0 ≤ x → x < σ 0 0 → 0 ≤ Lst (σ 0 0) (WM σ) (-9) 0 x ∧ Lst (σ 0 0) (WM σ) (-9) 0 x ≤ 199 := fun x x0 xn => by
    rw [← eE x x0 xn]
    exact Way_r hm.1 (WP_n.mp hL.1) x0 xn
  generalize Lst (σ 0 0) (WM σ) (-9) 0 = E at eE rE h3
  have hB1 := MBd_m cm hB
  obtain ⟨⟨hsz, hrow⟩, hl8⟩ := hB1 b gb.1 gb.2
  obtain ⟨hnd, hrg⟩ := hV b gb.1 gb.2
  have h7 := nodup_room n8 hnd hrg ga.1 ga.2 hna
  have loop : ∀ (k : Int) (v : Int), k ≤ ((BL b).length : Int) → (0 ≤ k ∧ ∃ r : Nat, v = (r : Int) ∧ (r : Int) ≤ k ∧ (r = 0 ∨ ∃ x, (BL b)[r - 1]? = some x ∧ bef E a x) ∧ ∀ (j : Nat) (x : Int), r ≤ j → (j : Int) < k → (BL b)[j]? = some x → ¬ bef E a x) → K (d + 5) mM_tie 24 [.inr 0, .inl a, .inl b, .inl v, .inl k] [] σ1 Q := by
    refine am_up (P := fun k v => 0 ≤ k ∧ ∃ r : Nat, v = (r : Int) ∧ (r : Int) ≤ k ∧ (r = 0 ∨ ∃ x, (BL b)[r - 1]? = some x ∧ bef E a x) ∧ ∀ (j : Nat) (x : Int), r ≤ j → (j : Int) < k → (BL b)[j]? = some x → ¬ bef E a x) (C := fun k v => K (d + 5) mM_tie 24 [.inr 0, .inl a, .inl b, .inl v, .inl k] [] σ1 Q) (fun v hp => ?_) (fun k v hk hp ih => ?_)
    · obtain ⟨-, r, rfl, q1, q2, q3⟩ := hp
      have hpl : r = plN (bef E a) (BL b) := plN_u ⟨by omega, q2, fun j x z1 z2 => q3 j x z1 (by have := (List.getElem?_eq_some_iff.mp z2).1; omega) z2⟩
      refine bM_tie_24 (d := d + 4) hK (by omega) ⟨by omega, by omega⟩ (by rw [hsz]; exact ⟨by omega, by omega⟩) (fun _ => ?_) (fun g => absurd g (by omega))
      refine bM_tie_70 (d := d + 4) hK (sM_putsIn hK hB1 gb.1 gb.2 (by omega) h7 (fun σ2 c2 hB2 => bM_tie_75 (d := d + 4) hK ?_))
      rw [hpl] at hB2 ⊢
      exact h3 ga gb hna hE σ2 (mbf_tr (mbf_m cm) (mbf_b c2)) hB2
    · obtain ⟨k0, r, rfl, q1, q2, q3⟩ := hp
      obtain ⟨p, rfl⟩ : ∃ p : Nat, k = (p : Int) := ⟨k.toNat, by omega⟩
      have hp := hrow p (by omega)
      have hmem : σ1 15 (8 * b + (p : Int)) ∈ BL b := List.mem_of_getElem? hp
      have hx := hrg _ hmem
      generalize hxe : σ1 15 (8 * b + (p : Int)) = x at hp hmem hx
      have yes : bef E a x → K (d + 5) mM_tie 56 [.inr 0, .inl a, .inl b, .inl (r : Int), .inl (p : Int), .inl x] [] σ1 Q := fun q => by
        refine bM_tie_56 (d := d + 4) hK (bM_tie_59 (d := d + 4) hK ⟨by decide, by decide⟩ (fun g => absurd g (by decide)) (fun _ => bM_tie_62 (d := d + 4) hK (bM_tie_67 (d := d + 4) hK (ih _ ⟨by omega, p + 1, by omega, by omega, Or.inr ⟨x, hp, q⟩, fun j y z1 z2 => absurd z2 (by omega)⟩))))
      have no : ¬ bef E a x → K (d + 5) mM_tie 58 [.inr 0, .inl a, .inl b, .inl (r : Int), .inl (p : Int), .inl x] [] σ1 Q := fun q => by
        refine bM_tie_58 (d := d + 4) hK (bM_tie_59 (d := d + 4) hK ⟨by decide, by decide⟩ (fun _ => bM_tie_66 (d := d + 4) hK (bM_tie_67 (d := d + 4) hK (ih _ ⟨by omega, r, rfl, by omega, q2, fun j y z1 z2 z3 => ?_⟩))) (fun g => absurd rfl g))
        by_cases e : j = p
        · subst e
          rw [hp] at z3
          rw [← Option.some.inj z3]
          exact q
        · exact q3 j y z1 (by omega) z3
      have e1 := eE x hx.1 hx.2
      have e2 := eE a ga.1 ga.2
      have r1 := rE x hx.1 hx.2
      have r2 := rE a ga.1 ga.2
      refine bM_tie_24 (d := d + 4) hK (by omega) ⟨by omega, by omega⟩ (by rw [hsz]; exact ⟨by omega, by omega⟩) (fun g => absurd g (by omega)) (fun _ => ?_)
      refine bM_tie_30 (d := d + 4) hK (by omega) ?_
      rw [hxe]
      refine sM_earliest hK (by omega) (bM_tie_42 (d := d + 4) hK (sM_earliest hK (by omega) ?_))
      rw [e1, e2]
      refine bM_tie_45 (d := d + 4) hK ⟨by omega, by omega⟩ ⟨by omega, by omega⟩ (fun g => yes (Or.inl g)) (fun g => ?_)
      refine bM_tie_46 (d := d + 4) hK (sM_earliest hK (by omega) (bM_tie_49 (d := d + 4) hK (sM_earliest hK (by omega) ?_)))
      rw [e1, e2]
      refine bM_tie_52 (d := d + 4) hK ⟨by omega, by omega⟩ ⟨by omega, by omega⟩ (fun g2 => no (fun q => by unfold bef at q; omega)) (fun g2 => ?_)
      exact bM_tie_53 (d := d + 4) hK ⟨by omega, by omega⟩ ra (fun g3 => no (fun q => by unfold bef at q; omega)) (fun g3 => yes (Or.inr ⟨g2, g3⟩))
  exact loop 0 0 (by omega) ⟨Int.le_refl 0, 0, rfl, Int.le_refl 0, Or.inl rfl, fun j x z1 z2 => absurd z2 (by omega)⟩
