/-! the reference: what is asked -/
def mfr (σ σ' : am_S) : Prop := (∀ c, c ≠ 0 → (c < 9 ∨ 13 < c) → σ' c = σ c) ∧ ∀ j, j ≠ 12 → σ' 0 j = σ 0 j
theorem mfr_rf (σ : am_S) : mfr σ σ := ⟨fun _ _ _ => rfl, fun _ _ => rfl⟩
theorem mfr_tr {σ σ1 σ2 : am_S} (h1 : mfr σ σ1) (h2 : mfr σ1 σ2) : mfr σ σ2 := ⟨fun c a b => (h2.1 c a b).trans (h1.1 c a b), fun j hj => (h2.2 j hj).trans (h1.2 j hj)⟩
theorem mfr_c {σ σ' : am_S} (h : cfr σ σ') : mfr σ σ' := ⟨fun c a b => h.1 c a (by omega) (by omega), h.2⟩
noncomputable def fmk (σ : am_S) : Nat := mk (fun k => σ 8 k = 1) (σ 0 3).toNat
def WM (σ : am_S) : WS := WN (pbM σ) (fmk σ)
def Mok (σ : am_S) : Prop := Vld (pbM σ) ∧ ∀ k, 0 ≤ k → k < 10 → σ 8 k = 0 ∨ σ 8 k = 1
theorem pbM_m {σ σ' : am_S} (h : mfr σ σ') : pbM σ' = pbM σ := by
  unfold pbM
  rw [h.2 0 (by decide), h.2 3 (by decide), h.1 1 (by decide) (by decide), h.1 2 (by decide) (by decide), h.1 3 (by decide) (by decide), h.1 4 (by decide) (by decide), h.1 5 (by decide) (by decide), h.1 6 (by decide) (by decide)]
theorem fmk_m {σ σ' : am_S} (h : mfr σ σ') : fmk σ' = fmk σ := by
  unfold fmk
  rw [h.2 3 (by decide), h.1 8 (by decide) (by decide)]
theorem WM_m {σ σ' : am_S} (h : mfr σ σ') : WM σ' = WM σ := by
  unfold WM
  rw [pbM_m h, fmk_m h]
theorem Mok_m {σ σ' : am_S} (h : mfr σ σ') (hm : Mok σ) : Mok σ' := by
  refine ⟨by rw [pbM_m h]; exact hm.1, ?_⟩
  rw [h.1 8 (by decide) (by decide)]
  exact hm.2
theorem fmk_lt {σ : am_S} (h : Mok σ) : fmk σ < 1024 := by
  have h1 := mk_lt (fun k => σ 8 k = 1) (σ 0 3).toNat
  have h2 : σ 0 3 ≤ 10 := h.1.2.2.1.2
  have h3 : 2 ^ (σ 0 3).toNat ≤ 2 ^ 10 := Nat.pow_le_pow_right (by decide) (by omega)
  unfold fmk
  omega
def r01 (r : Int) (p : Prop) : Prop := (r = 1 ∧ p) ∨ (r = 0 ∧ ¬ p)
theorem r01_g {r : Int} {p : Prop} (h : r01 r p) : am_rng r := by rcases h with q | q <;> (rw [q.1]; exact ⟨by decide, by decide⟩)
theorem r01_z {r : Int} {p : Prop} (h : r01 r p) : r = 0 ∨ r = 1 := by rcases h with q | q; exact Or.inr q.1; exact Or.inl q.1
theorem r01_n {r : Int} {p : Prop} (h : r01 r p) (hr : r ≠ 0) : p := by rcases h with q | q; exact q.2; exact absurd q.1 hr
theorem r01_0 {r : Int} {p : Prop} (h : r01 r p) (hr : r = 0) : ¬ p := by rcases h with q | q; omega; exact q.2
section
variable {K : am_KT} (hK : am_C K) {d : Nat} {σ : am_S} {Q : am_Q}
theorem sM_within {K : am_KT} (hK : am_C K) {d : Nat} {σ : am_S} {Q : am_Q} {v a b : Int} (hv : am_rng v) (ha : am_rng a) (hb : am_rng b) (h : ∀ r, r01 r (a ≤ v ∧ v ≤ b) → Q (some r) σ) : K d mM_within 0 [.inl v, .inl a, .inl b] [] σ Q := by
  refine bM_within_0 hK hv ha (fun g => bM_within_8 hK (bM_within_9 hK (Or.inl rfl) (h 0 (Or.inr ⟨rfl, by omega⟩)))) (fun g => ?_)
  exact bM_within_3 hK hv hb (fun g2 => bM_within_8 hK (bM_within_9 hK (Or.inl rfl) (h 0 (Or.inr ⟨rfl, by omega⟩)))) (fun g2 => bM_within_6 hK (bM_within_9 hK (Or.inr rfl) (h 1 (Or.inl ⟨rfl, g, g2⟩))))
theorem sM_isLetter {K : am_KT} (hK : am_C K) {d : Nat} {σ : am_S} {Q : am_Q} {v : Int} (hv : am_rng v) (n0 : 0 ≤ σ 0 0) (n8 : σ 0 0 ≤ 8) (h : ∀ r, r01 r (0 ≤ v ∧ v < σ 0 0) → Q (some r) σ) : K (d + 1) mM_isLetter 0 [.inr 0, .inl v] [] σ Q := by
  refine bM_isLetter_0 hK (sM_within hK hv ⟨by decide, by decide⟩ ⟨by omega, by omega⟩ (fun r hr => bM_isLetter_7 hK (r01_z hr) (h r ?_)))
  rcases hr with q | q
  · exact Or.inl ⟨q.1, by omega⟩
  · exact Or.inr ⟨q.1, by omega⟩
theorem sM_isNote {K : am_KT} (hK : am_C K) {d : Nat} {σ : am_S} {Q : am_Q} {v : Int} (hv : am_rng v) (n0 : 0 ≤ σ 0 3) (n8 : σ 0 3 ≤ 10) (h : ∀ r, r01 r (0 ≤ v ∧ v < σ 0 3) → Q (some r) σ) : K (d + 1) mM_isNote 0 [.inr 0, .inl v] [] σ Q := by
  refine bM_isNote_0 hK (sM_within hK hv ⟨by decide, by decide⟩ ⟨by omega, by omega⟩ (fun r hr => bM_isNote_7 hK (r01_z hr) (h r ?_)))
  rcases hr with q | q
  · exact Or.inl ⟨q.1, by omega⟩
  · exact Or.inr ⟨q.1, by omega⟩
end
theorem sM_setInForce {K : am_KT} (hK : am_C K) {d : Nat} {σ : am_S} {Q : am_Q} (hm : Mok σ) (h : Q (some (fmk σ : Int)) σ) : K d mM_setInForce 0 [.inr 0] [] σ Q := by
  have m0 : 0 ≤ σ 0 3 := hm.1.2.2.1.1
  have m10 : σ 0 3 ≤ 10 := hm.1.2.2.1.2
  have loop : ∀ (k : Int) (v : Int), k ≤ σ 0 3 → (0 ≤ k ∧ v = (mk (fun k => σ 8 k = 1) k.toNat : Int)) → K d mM_setInForce 4 [.inr 0, .inl v, .inl k] [] σ Q := by
    refine am_up (P := fun k v => 0 ≤ k ∧ v = (mk (fun k => σ 8 k = 1) k.toNat : Int)) (C := fun k v => K d mM_setInForce 4 [.inr 0, .inl v, .inl k] [] σ Q) (fun v hp => ?_) (fun k v hk hp ih => ?_)
    · rw [hp.2]
      exact bM_setInForce_4 hK ⟨by omega, by omega⟩ ⟨by omega, by omega⟩ (fun _ => bM_setInForce_23 hK h) (fun g => absurd g (by omega))
    · obtain ⟨k0, rfl⟩ := hp
      have e : (k + 1).toNat = k.toNat + 1 := by omega
      have hlt := mk_lt (fun k => σ 8 k = 1) k.toNat
      have hp2 : 2 ^ k.toNat ≤ 2 ^ 10 := Nat.pow_le_pow_right (by decide) (by omega)
      have fin : ∀ y : Nat, y = icn (σ 8 k = 1) (2 ^ k.toNat) 0 → K d mM_setInForce 19 [.inr 0, .inl (mk (fun k => σ 8 k = 1) k.toNat : Int), .inl k] [.inl (y : Int), .inl (mk (fun k => σ 8 k = 1) k.toNat : Int)] σ Q := by
        intro y hy
        refine bM_setInForce_19 hK (ih _ ⟨by omega, ?_⟩)
        rw [e, mk]
        have hy2 : y < 2147483648 := by
          rw [hy]
          by_cases q : σ 8 k = 1
          · rw [icn_t q]
            omega
          · rw [icn_f q]
            decide
        rw [or_nat (by omega) hy2, hy, show ((k.toNat : Nat) : Int) = k by omega]
      refine bM_setInForce_4 hK ⟨by omega, by omega⟩ ⟨by omega, by omega⟩ (fun g => absurd g (by omega)) (fun _ => ?_)
      have f01 := hm.2 k k0 (by omega)
      refine bM_setInForce_8 hK (by omega) (by rcases f01 with q | q <;> (rw [q]; exact ⟨by decide, by decide⟩)) (fun g => bM_setInForce_18 hK (fin 0 (by rw [icn_f (by omega)]))) (fun g => bM_setInForce_14 hK ?_)
      have h1 := fin (2 ^ k.toNat) (by rw [icn_t (by omega)])
      rw [show k = ((k.toNat : Nat) : Int) by omega, shl_nat k.toNat (by omega)]
      rw [show ((k.toNat : Nat) : Int) = k by omega]
      exact h1
  exact bM_setInForce_0 hK (loop 0 0 m0 ⟨Int.le_refl 0, rfl⟩)
theorem sM_closeN {K : am_KT} (hK : am_C K) {d : Nat} {σ : am_S} {Q : am_Q} {s : Nat} {l y : Int} (hv : Vld (pbM σ)) (hl : l = -9 ∨ (0 ≤ l ∧ l < σ 0 0 ∧ 0 ≤ y ∧ y ≤ 199))
    (h : ∀ r σ', cfr σ σ' → ((r = 1 ∧ LGW (σ 0 0) (WN (pbM σ) s) l y (fun a => -(σ' 9 (9 * a + 8))) (fun a => σ' 9 (72 + a))) ∨ (r = 0 ∧ ∀ w, ¬ WP (WN (pbM σ) s) l y w)) → Q (some r) σ') : K (d + 3) mM_close 0 [.inr 0, .inl (s : Int), .inl l, .inl y] [] σ Q := by
  refine sM_close hK hv hl (fun r σ' c hr => h r σ' c ?_)
  have m10 : pm (pbM σ) ≤ 10 := hv.2.2.1.2
  have e : Way (pbM σ) (Sm (s : Int)) = WN (pbM σ) s := Way_cong (fun k k0 k1 => SB_Sm k0 (by omega))
  rcases hr with ⟨r1, hr⟩ | ⟨r0, hr⟩
  · refine Or.inl ⟨r1, ?_⟩
    rw [← e]
    exact hr
  · refine Or.inr ⟨r0, ?_⟩
    rw [← e]
    exact hr
theorem WP_n {W : WS} {w : Int → Int} {y : Int} : WP W (-9) y w ↔ W w := ⟨fun h => h.1, fun h => ⟨h, fun q => absurd rfl q⟩⟩
theorem WP_a {W : WS} {w : Int → Int} {l y : Int} (hl : 0 ≤ l) : WP W l y w ↔ W w ∧ w l = y := ⟨fun h => ⟨h.1, h.2 (by omega)⟩, fun h => ⟨h.1, fun _ => h.2⟩⟩
/-- behind closeNow: the bounds of all ways, or there is none -/
def Nw (σ : am_S) (r : Int) (σ' : am_S) : Prop := (r = 1 ∧ Exi (WM σ) ∧ LGW (σ 0 0) (WM σ) (-9) 0 (fun a => -(σ' 9 (9 * a + 8))) (fun a => σ' 9 (72 + a))) ∨ (r = 0 ∧ ¬ Exi (WM σ))
theorem Nw_r {σ : am_S} {r : Int} {σ' : am_S} (h : Nw σ r σ') : r01 r (Exi (WM σ)) := by rcases h with q | q; exact Or.inl ⟨q.1, q.2.1⟩; exact Or.inr q
theorem sM_closeNow {K : am_KT} (hK : am_C K) {d : Nat} {σ : am_S} {Q : am_Q} (hm : Mok σ) (h : ∀ r σ', cfr σ σ' → Nw σ r σ' → Q (some r) σ') : K (d + 4) mM_closeNow 0 [.inr 0] [] σ Q := by
  refine bM_closeNow_0 (d := d + 3) hK (sM_setInForce hK hm ?_)
  refine bM_closeNow_3 (d := d + 3) hK (sM_closeN hK hm.1 (Or.inl rfl) (fun r σ' c hr => ?_))
  have hr2 : Nw σ r σ' := by
    rcases hr with ⟨q, hr⟩ | ⟨q, hr⟩
    · exact Or.inl ⟨q, ⟨_, hr.1.1⟩, hr⟩
    · exact Or.inr ⟨q, fun ⟨w, hw⟩ => hr w (WP_n.mpr hw)⟩
  exact bM_closeNow_6 (d := d + 3) hK (r01_z (Nw_r hr2)) (h r σ' c hr2)
theorem sM_agree {K : am_KT} (hK : am_C K) {d : Nat} {σ : am_S} {Q : am_Q} (hm : Mok σ) (h : ∀ r σ', mfr σ σ' → r01 r (Exi (WM σ)) → Q (some r) σ') : K (d + 5) mM_agree 0 [.inr 0] [] σ Q := by
  refine bM_agree_0 (d := d + 4) hK (sM_closeNow hK hm (fun r σ' c hr => ?_))
  have h2 := Nw_r hr
  refine bM_agree_2 (d := d + 4) hK (r01_g h2) (fun g => bM_agree_5 (d := d + 4) hK (bM_agree_6 (d := d + 4) hK (h 0 σ' (mfr_c c) (Or.inr ⟨rfl, r01_0 h2 g⟩)))) (fun g => bM_agree_3 (d := d + 4) hK (bM_agree_6 (d := d + 4) hK (h 1 σ' (mfr_c c) (Or.inl ⟨rfl, r01_n h2 g⟩))))
/-- the answer of day -/
noncomputable def aDay (n : Int) (W : WS) (a what : Int) : Int := if ¬ (0 ≤ a ∧ a < n) then -1 else if ¬ (0 ≤ what ∧ what ≤ 1) then -2 else ic (Exi W) (if what = 0 then Lst n W (-9) 0 a else Gst n W (-9) 0 a) (-3)
theorem sM_day {K : am_KT} (hK : am_C K) {d : Nat} {σ : am_S} {Q : am_Q} {a what : Int} (ra : am_rng a) (rw' : am_rng what) (hm : Mok σ) (h : ∀ σ', mfr σ σ' → Q (some (aDay (σ 0 0) (WM σ) a what)) σ') : K (d + 5) mM_day 0 [.inr 0, .inl a, .inl what] [] σ Q := by
  have n0 : 0 ≤ σ 0 0 := hm.1.1.1
  have n8 : σ 0 0 ≤ 8 := hm.1.1.2
  unfold aDay at h
  refine bM_day_0 (d := d + 4) hK (sM_isLetter hK ra n0 n8 (fun r hr => ?_))
  refine bM_day_3 (d := d + 4) hK (r01_g hr) (fun g => ?_) (fun g => bM_day_4 (d := d + 4) hK ?_)
  · have ga := r01_n hr g
    rw [if_neg (fun q => q ga)] at h
    refine bM_day_6 (d := d + 4) hK (sM_within hK rw' ⟨by decide, by decide⟩ ⟨by decide, by decide⟩ (fun r hr => ?_))
    refine bM_day_10 (d := d + 4) hK (r01_g hr) (fun g => ?_) (fun g => bM_day_11 (d := d + 4) hK ?_)
    · have gw := r01_n hr g
      rw [if_neg (fun q => q gw)] at h
      refine bM_day_13 (d := d + 4) hK (sM_closeNow hK hm (fun r σ' c hr => ?_))
      have h2 := Nw_r hr
      refine bM_day_15 (d := d + 4) hK (r01_g h2) (fun g => ?_) (fun g => bM_day_16 (d := d + 4) hK ?_)
      · have h3 := r01_n h2 g
        rw [ic_t h3] at h
        have h4 : LGW (σ 0 0) (WM σ) (-9) 0 (fun a => -(σ' 9 (9 * a + 8))) (fun a => σ' 9 (72 + a)) := by
          rcases hr with q | q
          · exact q.2.2
          · exact absurd h3 q.2
        have h5 := LGW_u h4 ga.1 ga.2
        refine bM_day_18 (d := d + 4) hK rw' (fun g2 => ?_) (fun g2 => ?_)
        · rw [if_neg g2, ← h5.2] at h
          exact bM_day_24 (d := d + 4) hK (sM_latest hK (by omega) (bM_day_27 (d := d + 4) hK (h σ' (mfr_c c))))
        · rw [if_pos g2, ← h5.1] at h
          exact bM_day_20 (d := d + 4) hK (sM_earliest hK (by omega) (bM_day_23 (d := d + 4) hK (bM_day_27 (d := d + 4) hK (h σ' (mfr_c c)))))
      · rw [ic_f (r01_0 h2 g)] at h
        exact h σ' (mfr_c c)
    · rw [if_pos (r01_0 hr g)] at h
      exact h σ (mfr_rf σ)
  · rw [if_pos (r01_0 hr g)] at h
    exact h σ (mfr_rf σ)
noncomputable def aCan (n : Int) (W : WS) (a y : Int) : Int := if ¬ (0 ≤ a ∧ a < n) then -1 else if ¬ (0 ≤ y ∧ y ≤ 199) then -2 else ic (Exi W) (ic (Can W a y) 1 0) (-3)
theorem Can_WP {W : WS} {a y : Int} (a0 : 0 ≤ a) : Can W a y ↔ ∃ w, WP W a y w := ⟨fun ⟨w, h⟩ => ⟨w, (WP_a a0).mpr h⟩, fun ⟨w, h⟩ => ⟨w, (WP_a a0).mp h⟩⟩
theorem sM_can {K : am_KT} (hK : am_C K) {d : Nat} {σ : am_S} {Q : am_Q} {a y : Int} (ra : am_rng a) (ry : am_rng y) (hm : Mok σ) (h : ∀ σ', mfr σ σ' → Q (some (aCan (σ 0 0) (WM σ) a y)) σ') : K (d + 5) mM_can 0 [.inr 0, .inl a, .inl y] [] σ Q := by
  have n0 : 0 ≤ σ 0 0 := hm.1.1.1
  have n8 : σ 0 0 ≤ 8 := hm.1.1.2
  unfold aCan at h
  refine bM_can_0 (d := d + 4) hK (sM_isLetter hK ra n0 n8 (fun r hr => ?_))
  refine bM_can_3 (d := d + 4) hK (r01_g hr) (fun g => ?_) (fun g => bM_can_4 (d := d + 4) hK ?_)
  · have ga := r01_n hr g
    rw [if_neg (fun q => q ga)] at h
    refine bM_can_6 (d := d + 4) hK (sM_within hK ry ⟨by decide, by decide⟩ ⟨by decide, by decide⟩ (fun r hr => ?_))
    refine bM_can_10 (d := d + 4) hK (r01_g hr) (fun g => ?_) (fun g => bM_can_11 (d := d + 4) hK ?_)
    · have gw := r01_n hr g
      rw [if_neg (fun q => q gw)] at h
      refine bM_can_13 (d := d + 4) hK (sM_closeNow hK hm (fun r σ' c hr => ?_))
      have h2 := Nw_r hr
      refine bM_can_15 (d := d + 4) hK (r01_g h2) (fun g => ?_) (fun g => bM_can_16 (d := d + 4) hK ?_)
      · have h3 := r01_n h2 g
        rw [ic_t h3] at h
        have cm := mfr_c c
        have hm' := Mok_m cm hm
        refine bM_can_18 (d := d + 4) hK (sM_setInForce hK hm' ?_)
        have e00 : σ' 0 0 = σ 0 0 := c.2 0 (by decide)
        refine bM_can_21 (d := d + 4) hK (sM_closeN (d := d + 1) hK hm'.1 (Or.inr ⟨ga.1, by omega, gw.1, gw.2⟩) (fun r2 σ2 c2 hr2 => ?_))
        have hr3 : r01 r2 (Can (WM σ) a y) := by
          rw [Can_WP ga.1]
          have e : WN (pbM σ') (fmk σ') = WM σ := WM_m cm
          rw [e] at hr2
          rcases hr2 with q | q
          · exact Or.inl ⟨q.1, _, q.2.1⟩
          · exact Or.inr ⟨q.1, fun ⟨w, hw⟩ => q.2 w hw⟩
        have cm2 := mfr_tr cm (mfr_c c2)
        refine bM_can_24 (d := d + 4) hK (r01_g hr3) (fun g2 => ?_) (fun g2 => ?_)
        · rw [ic_f (r01_0 hr3 g2)] at h
          exact bM_can_27 (d := d + 4) hK (bM_can_28 (d := d + 4) hK (h σ2 cm2))
        · rw [ic_t (r01_n hr3 g2)] at h
          exact bM_can_25 (d := d + 4) hK (bM_can_28 (d := d + 4) hK (h σ2 cm2))
      · rw [ic_f (r01_0 h2 g)] at h
        exact h σ' (mfr_c c)
    · rw [if_pos (r01_0 hr g)] at h
      exact h σ (mfr_rf σ)
  · rw [if_pos (r01_0 hr g)] at h
    exact h σ (mfr_rf σ)
noncomputable def aLeft (n : Int) (W : WS) (a : Int) : Int := if ¬ (0 ≤ a ∧ a < n) then -1 else ic (Exi W) (cnt (Can W a) 200) (-3)
theorem sM_left {K : am_KT} (hK : am_C K) {d : Nat} {σ : am_S} {Q : am_Q} {a : Int} (ra : am_rng a) (hm : Mok σ) (h : ∀ σ', mfr σ σ' → Q (some (aLeft (σ 0 0) (WM σ) a)) σ') : K (d + 5) mM_left 0 [.inr 0, .inl a] [] σ Q := by
  have n0 : 0 ≤ σ 0 0 := hm.1.1.1
  have n8 : σ 0 0 ≤ 8 := hm.1.1.2
  unfold aLeft at h
  refine bM_left_0 (d := d + 4) hK (sM_isLetter hK ra n0 n8 (fun r hr => ?_))
  refine bM_left_3 (d := d + 4) hK (r01_g hr) (fun g => ?_) (fun g => bM_left_4 (d := d + 4) hK ?_)
  · have ga := r01_n hr g
    rw [if_neg (fun q => q ga)] at h
    refine bM_left_6 (d := d + 4) hK (sM_closeNow hK hm (fun r σ' c hr => ?_))
    have h2 := Nw_r hr
    refine bM_left_8 (d := d + 4) hK (r01_g h2) (fun g => ?_) (fun g => bM_left_9 (d := d + 4) hK ?_)
    · have h3 := r01_n h2 g
      rw [ic_t h3] at h
      have cm := mfr_c c
      have hm' := Mok_m cm hm
      refine bM_left_11 (d := d + 4) hK (sM_setInForce hK hm' ?_)
      rw [fmk_m cm]
      refine bM_left_13 (d := d + 4) hK ?_
      have loop : ∀ (y : Int) (t : Int × am_S), y ≤ 200 → (0 ≤ y ∧ mfr σ t.2 ∧ t.1 = cnt (Can (WM σ) a) y.toNat) → K (d + 5) mM_left 18 [.inr 0, .inl a, .inl (fmk σ : Int), .inl t.1, .inl y] [] t.2 Q := by
        refine am_up (P := fun y (t : Int × am_S) => 0 ≤ y ∧ mfr σ t.2 ∧ t.1 = cnt (Can (WM σ) a) y.toNat) (C := fun y t => K (d + 5) mM_left 18 [.inr 0, .inl a, .inl (fmk σ : Int), .inl t.1, .inl y] [] t.2 Q) (fun t hp => ?_) (fun y t hy hp ih => ?_)
        · obtain ⟨v, τ⟩ := t
          obtain ⟨-, cτ, e⟩ := hp
          dsimp only at cτ e ⊢
          rw [e]
          exact bM_left_18 (d := d + 4) hK ⟨by decide, by decide⟩ (fun _ => bM_left_35 (d := d + 4) hK (h τ cτ)) (fun g => absurd g (by decide))
        · obtain ⟨v, τ⟩ := t
          obtain ⟨y0, cτ, e⟩ := hp
          dsimp only at cτ e ih ⊢
          have e00 : τ 0 0 = σ 0 0 := cτ.2 0 (by decide)
          have hmτ := Mok_m cτ hm
          refine bM_left_18 (d := d + 4) hK ⟨by omega, by omega⟩ (fun g => absurd g (by omega)) (fun _ => ?_)
          refine bM_left_21 (d := d + 4) hK (sM_closeN (d := d + 1) hK hmτ.1 (Or.inr ⟨ga.1, by omega, y0, by omega⟩) (fun r2 σ2 c2 hr2 => ?_))
          have hr3 : r01 r2 (Can (WM σ) a y) := by
            rw [Can_WP ga.1]
            rw [pbM_m cτ] at hr2
            rcases hr2 with q | q
            · exact Or.inl ⟨q.1, _, q.2.1⟩
            · exact Or.inr ⟨q.1, fun ⟨w, hw⟩ => q.2 w hw⟩
          have cm2 := mfr_tr cτ (mfr_c c2)
          have es : cnt (Can (WM σ) a) (y + 1).toNat = cnt (Can (WM σ) a) y.toNat + ic (Can (WM σ) a y) 1 0 := by
            rw [show (y + 1).toNat = y.toNat + 1 by omega, cnt, show ((y.toNat : Nat) : Int) = y by omega]
          refine bM_left_27 (d := d + 4) hK (r01_g hr3) (fun g2 => ?_) (fun g2 => ?_)
          · exact bM_left_30 (d := d + 4) hK (bM_left_31 (d := d + 4) hK (ih (v + 0, σ2) ⟨by omega, cm2, by rw [es, ic_f (r01_0 hr3 g2), e]⟩))
          · exact bM_left_28 (d := d + 4) hK (bM_left_31 (d := d + 4) hK (ih (v + 1, σ2) ⟨by omega, cm2, by rw [es, ic_t (r01_n hr3 g2), e]⟩))
      exact loop 0 (0, σ') (by decide) ⟨Int.le_refl 0, cm, rfl⟩
    · rw [ic_f (r01_0 h2 g)] at h
      exact h σ' (mfr_c c)
  · rw [if_pos (r01_0 hr g)] at h
    exact h σ (mfr_rf σ)
