/-! the class: Ways: what is kept, and exist -/
def WC (σ : am_S) : WS := WN (pbC σ) (σ 20 1).toNat
def Cok (σ : am_S) : Prop := Vld (pbC σ) ∧ 0 ≤ σ 20 1 ∧ σ 20 1 < 1024
def yfr (σ σ' : am_S) : Prop := ∀ c, (c < 26 ∨ 40 < c) → σ' c = σ c
theorem yfr_rf (σ : am_S) : yfr σ σ := fun _ _ => rfl
theorem yfr_tr {σ σ1 σ2 : am_S} (h1 : yfr σ σ1) (h2 : yfr σ1 σ2) : yfr σ σ2 := fun c h => (h2 c h).trans (h1 c h)
theorem yfr_us {σ σ' : am_S} (h : yfr σ σ') {c : Nat} (hc : 26 ≤ c ∧ c ≤ 40) (i v : Int) : yfr σ (am_us σ' c i v) := fun x hx => by
  rw [us_o _ _ _ (by omega)]
  exact h x hx
theorem pbC_y {σ σ' : am_S} (h : yfr σ σ') : pbC σ' = pbC σ := by
  unfold pbC
  rw [h 17 (by decide), h 18 (by decide), h 19 (by decide), h 20 (by decide), h 21 (by decide), h 22 (by decide), h 23 (by decide), h 24 (by decide)]
theorem WC_y {σ σ' : am_S} (h : yfr σ σ') : WC σ' = WC σ := by
  unfold WC
  rw [pbC_y h, h 20 (by decide)]
theorem Cok_y {σ σ' : am_S} (h : yfr σ σ') (hc : Cok σ) : Cok σ' := by
  unfold Cok
  rw [pbC_y h, h 20 (by decide)]
  exact hc
/-- what stands for letter a's day y: the sum of the least way's days, or -1 -/
def LsE (n : Int) (W : WS) (a y e : Int) : Prop := (e = -1 ∧ ¬ Can W a y) ∨ ∃ x : Int → Int, W x ∧ x a = y ∧ (∀ w, W w → w a = y → ∀ b, 0 ≤ b → b < n → x b ≤ w b) ∧ e = sumI x n.toNat
def SwV (n : Int) (W : WS) (g30 g31 g32 g33 : Int → Int) (a : Int) : Prop := (∀ y, 0 ≤ y → y < 200 → LsE n W a y (g30 (a * 200 + y))) ∧ g31 a = cnt (Can W a) 200 ∧ (∀ b, 0 ≤ b → b < n → IsGap W a b (g32 (a * 8 + b))) ∧ g33 a = wst n W a 200 ∧ g33 a ≤ 1592
def YE (σ : am_S) : Prop := σ 26 0 = 1 ∧ σ 26 6 = 1 ∧ WebV σ 34 (σ 17 0) 20 ∧ (∀ w, wSol σ 34 w ↔ WC σ w) ∧ LGW (σ 17 0) (WC σ) (-9) 0 (σ 27) (σ 28) ∧ ∃ m : Nat, σ 26 7 = (m : Int) ∧ m < 256 ∧ ∀ a, 0 ≤ a → a < σ 17 0 → m.testBit a.toNat = true → SwV (σ 17 0) (WC σ) (σ 30) (σ 31) (σ 32) (σ 33) a
def YN (σ : am_S) : Prop := σ 26 0 = 1 ∧ σ 26 6 = 0 ∧ ¬ Exi (WC σ)
def YV (σ : am_S) : Prop := σ 26 0 = 0 ∨ YN σ ∨ YE σ
theorem YE_x {σ : am_S} (h : YE σ) : Exi (WC σ) := ⟨_, h.2.2.2.2.1.1.1⟩
def YR (σ : am_S) (r : Int) (σ' : am_S) : Prop := (r = 1 ∧ Exi (WC σ) ∧ YE σ') ∨ (r = 0 ∧ ¬ Exi (WC σ) ∧ YV σ')
theorem YR_r {σ : am_S} {r : Int} {σ' : am_S} (h : YR σ r σ') : r01 r (Exi (WC σ)) := by rcases h with q | q; exact Or.inl ⟨q.1, q.2.1⟩; exact Or.inr ⟨q.1, q.2.1⟩
theorem YR_e {σ : am_S} {r : Int} {σ' : am_S} (h : YR σ r σ') (hr : r ≠ 0) : YE σ' := by rcases h with q | q; exact q.2.2; exact absurd q.1 hr
theorem YR_v {σ : am_S} {r : Int} {σ' : am_S} (h : YR σ r σ') : YV σ' := by rcases h with q | q; exact Or.inr (Or.inr q.2.2); exact q.2.2
theorem sY_exist {K : am_KT} (hK : am_C K) {d : Nat} {σ : am_S} {Q : am_Q} (hc : Cok σ) (hy : YV σ) (h : ∀ r σ', yfr σ σ' → YR σ r σ' → Q (some r) σ') : K (d + 3) mY_exist 0 [.inr 26] [] σ Q := by
  have n0 : 0 ≤ σ 17 0 := hc.1.1.1
  have n8 : σ 17 0 ≤ 8 := hc.1.1.2
  have r26 : am_rng (σ 26 0) := by
    rcases hy with q | q | q
    · rw [q]; exact ⟨by decide, by decide⟩
    · rw [q.1]; exact ⟨by decide, by decide⟩
    · rw [q.1]; exact ⟨by decide, by decide⟩
  refine bY_exist_0 (d := d + 2) hK r26 (fun g => ?_) (fun g => ?_)
  · rcases hy with q | q | q
    · exact absurd q g
    · exact bY_exist_34 (d := d + 2) hK (Or.inl q.2.1) (h _ σ (yfr_rf σ) (Or.inr ⟨q.2.1, q.2.2, Or.inr (Or.inl q)⟩))
    · exact bY_exist_34 (d := d + 2) hK (Or.inr q.2.1) (h _ σ (yfr_rf σ) (Or.inl ⟨q.2.1, YE_x q, q⟩))
  · have em : ((σ 20 1).toNat : Int) = σ 20 1 := by have := hc.2.1; omega
    refine bY_exist_3 (d := d + 2) hK ?_
    rw [← em]
    refine sW_weave hK (Or.inl rfl) (by have := hc.2.2; omega) hc.1 (fun σ1 c1 V1 S1 => ?_)
    have y1 : yfr σ σ1 := fun c hcc => c1 c (by omega)
    refine bY_exist_13 (d := d + 2) hK (sW_least hK (Or.inl rfl) (Or.inl rfl) n0 n8 V1 (fun b σ2 c2 hb => ?_))
    have y2 : yfr σ σ2 := yfr_tr y1 (fun c hcc => c2 c (by omega))
    have hb01 : b = 0 ∨ b = 1 := by rcases hb with q | q; exact Or.inr q.1; exact Or.inl q.1
    have e26 : am_us σ2 26 6 b 26 6 = b := us_e _ _ _ _
    have y3 : yfr σ (am_us σ2 26 6 b) := yfr_us y2 ⟨by decide, by decide⟩ _ _
    refine bY_exist_19 (d := d + 2) hK hb01 (by rw [e26]; rcases hb01 with q | q <;> (rw [q]; exact ⟨by decide, by decide⟩)) (fun g2 => ?_) (fun g2 => ?_)
    · rw [e26] at g2
      have hno : ¬ Exi (WC σ) := by
        rintro ⟨w, hw⟩
        rcases hb with q | q
        · omega
        · exact q.2 w ((S1 w).mpr hw)
      have y4 : yfr σ (am_us (am_us (am_us σ2 26 6 b) 26 7 0) 26 0 1) := yfr_us (yfr_us y3 ⟨by decide, by decide⟩ _ _) ⟨by decide, by decide⟩ _ _
      have e6 : am_us (am_us (am_us σ2 26 6 b) 26 7 0) 26 0 1 26 6 = 0 := by rw [us_n _ _ _ (by decide), us_n _ _ _ (by decide), us_e, g2]
      refine bY_exist_28 (d := d + 2) hK (bY_exist_34 (d := d + 2) hK (Or.inl e6) (h _ _ y4 (Or.inr ⟨e6, hno, Or.inr (Or.inl ⟨us_e _ _ _ _, e6, ?_⟩)⟩)))
      rw [WC_y y4]
      exact hno
    · rw [e26] at g2
      have hb1 : b = 1 := by omega
      have hb2 : wSol σ1 34 (σ2 27) ∧ ∀ w, wSol σ1 34 w → ∀ a, 0 ≤ a → a < σ 17 0 → σ2 27 a ≤ w a := by
        rcases hb with q | q
        · exact q.2
        · omega
      generalize hτ : am_us σ2 26 6 b = τ at y3
      have t1 : ∀ c, c ≠ 26 → τ c = σ2 c := fun c hcc => by rw [← hτ, us_o _ _ _ hcc]
      have t2 : ∀ c, c ≠ 26 → c ≠ 27 → τ c = σ1 c := fun c h6 h7 => (t1 c h6).trans (c2 c h7)
      have V3 : WebV τ 34 (σ 17 0) 20 := by
        unfold WebV
        rw [t2 34 (by decide) (by decide), t2 (34 + 1) (by decide) (by decide), t2 (34 + 2) (by decide) (by decide), t2 (34 + 3) (by decide) (by decide), t2 (34 + 4) (by decide) (by decide), t2 (34 + 5) (by decide) (by decide), t2 (34 + 6) (by decide) (by decide)]
        exact V1
      have S3 : ∀ w, wSol τ 34 w ↔ wSol σ1 34 w := fun w => by
        unfold wSol wSat
        rw [t2 34 (by decide) (by decide), t2 (34 + 1) (by decide) (by decide), t2 (34 + 2) (by decide) (by decide), t2 (34 + 3) (by decide) (by decide), t2 (34 + 4) (by decide) (by decide), t2 (34 + 5) (by decide) (by decide), t2 (34 + 6) (by decide) (by decide)]
      refine bY_exist_23 (d := d + 2) hK (sW_greatest hK (Or.inl rfl) (Or.inr (Or.inl rfl)) n0 n8 V3 ((S3 _).mpr hb2.1) (fun σ4 c4 s4 m4 => ?_))
      have y4 : yfr σ σ4 := yfr_tr y3 (fun c hcc => c4 c (by omega))
      have y5 : yfr σ (am_us (am_us σ4 26 7 0) 26 0 1) := yfr_us (yfr_us y4 ⟨by decide, by decide⟩ _ _) ⟨by decide, by decide⟩ _ _
      refine bY_exist_28 (d := d + 2) hK ?_
      generalize hυ : am_us (am_us σ4 26 7 0) 26 0 1 = υ at y5
      have u1 : ∀ c, c ≠ 26 → υ c = σ4 c := fun c hcc => by rw [← hυ, us_o _ _ _ hcc, us_o _ _ _ hcc]
      have u0 : υ 26 0 = 1 := by rw [← hυ, us_e]
      have u7 : υ 26 7 = 0 := by rw [← hυ, us_n _ _ _ (by decide), us_e]
      have u6 : υ 26 6 = 1 := by rw [← hυ, us_n _ _ _ (by decide), us_n _ _ _ (by decide), c4 26 (by decide), ← hτ, us_e, hb1]
      have u2 : ∀ c, c ≠ 26 → c ≠ 28 → υ c = τ c := fun c h6 h8 => (u1 c h6).trans (c4 c h8)
      have e17 : υ 17 0 = σ 17 0 := by rw [y5 17 (by decide)]
      refine bY_exist_34 (d := d + 2) hK (Or.inr u6) ?_
      refine h _ υ y5 (Or.inl ⟨u6, ⟨_, (S1 _).mp hb2.1⟩, u0, u6, ?_, fun w => ?_, ?_, 0, u7, by decide, fun a _ _ hh => absurd hh (by simp)⟩)
      · rw [e17]
        unfold WebV
        rw [u2 34 (by decide) (by decide), u2 (34 + 1) (by decide) (by decide), u2 (34 + 2) (by decide) (by decide), u2 (34 + 3) (by decide) (by decide), u2 (34 + 4) (by decide) (by decide), u2 (34 + 5) (by decide) (by decide), u2 (34 + 6) (by decide) (by decide)]
        exact V3
      · rw [WC_y y5, show WC σ w ↔ wSol σ1 34 w from (S1 w).symm, ← S3 w]
        unfold wSol wSat
        rw [u2 34 (by decide) (by decide), u2 (34 + 1) (by decide) (by decide), u2 (34 + 2) (by decide) (by decide), u2 (34 + 3) (by decide) (by decide), u2 (34 + 4) (by decide) (by decide), u2 (34 + 5) (by decide) (by decide), u2 (34 + 6) (by decide) (by decide)]
      · rw [e17, WC_y y5, u2 27 (by decide) (by decide), t1 27 (by decide), u1 28 (by decide)]
        refine ⟨WP_n.mpr ((S1 _).mp hb2.1), WP_n.mpr ((S1 _).mp ((S3 _).mp s4)), fun w hw a a0 an => ?_⟩
        have hw2 := (S1 w).mpr hw.1
        exact ⟨hb2.2 w hw2 a a0 an, m4 w ((S3 w).mpr hw2) a a0 an⟩
