/-! bundles: rows of letters -/
def RowOf (f : Int → Int) (b sz : Int) (L : List Int) : Prop := sz = (L.length : Int) ∧ ∀ p : Nat, p < L.length → L[p]? = some (f (b + (p : Int)))
def MBd (σ : am_S) (BL : Int → List Int) : Prop := ∀ b, 0 ≤ b → b < 3 → RowOf (σ 15) (8 * b) (σ 14 b) (BL b) ∧ (BL b).length ≤ 8
def BV (n : Int) (BL : Int → List Int) : Prop := ∀ b, 0 ≤ b → b < 3 → (BL b).Nodup ∧ ∀ a ∈ BL b, 0 ≤ a ∧ a < n
def uB (BL : Int → List Int) (b : Int) (L : List Int) : Int → List Int := fun c => if c = b then L else BL c
theorem uB_e (BL : Int → List Int) (b : Int) (L : List Int) : uB BL b L b = L := if_pos rfl
theorem uB_n (BL : Int → List Int) {b c : Int} (L : List Int) (h : c ≠ b) : uB BL b L c = BL c := if_neg h
theorem nodup_len : ∀ (n : Nat) (L : List Int), L.Nodup → (∀ x ∈ L, 0 ≤ x ∧ x < (n : Int)) → L.length ≤ n
  | 0, L, _, h => by
    cases L with
    | nil => exact Nat.le_refl 0
    | cons x xs =>
      have := h x List.mem_cons_self
      omega
  | n + 1, L, hd, h => by
    by_cases q : (n : Int) ∈ L
    · have h1 := nodup_len n (L.erase (n : Int)) (hd.erase _) (fun x hx => by
        have h2 := (hd.mem_erase_iff).mp hx
        have h3 := h x h2.2
        have h4 := h2.1
        omega)
      rw [List.length_erase_of_mem q] at h1
      omega
    · have h1 := nodup_len n L hd (fun x hx => by
        have h3 := h x hx
        have h4 : x ≠ (n : Int) := fun e => q (e ▸ hx)
        omega)
      omega
theorem nodup_room {n : Int} {L : List Int} {a : Int} (n8 : n ≤ 8) (hd : L.Nodup) (hr : ∀ x ∈ L, 0 ≤ x ∧ x < n) (a0 : 0 ≤ a) (an : a < n) (ha : a ∉ L) : L.length ≤ 7 := by
  have h := nodup_len n.toNat (a :: L) (List.nodup_cons.mpr ⟨ha, hd⟩) (fun x hx => by
    rcases List.mem_cons.mp hx with rfl | h
    · omega
    · have := hr x h
      omega)
  rw [List.length_cons] at h
  omega
theorem erase_at {L : List Int} (hd : L.Nodup) {i : Nat} {a : Int} (h : L[i]? = some a) : L.eraseIdx i = L.erase a := by
  have hl : i < L.length := (List.getElem?_eq_some_iff.mp h).1
  have e : L = L.take i ++ a :: L.drop (i + 1) := by
    have h1 := List.take_append_drop i L
    have h2 : L.drop i = a :: L.drop (i + 1) := by
      rw [List.drop_eq_getElem_cons hl, (List.getElem?_eq_some_iff.mp h).2]
    rw [h2] at h1
    exact h1.symm
  have hd2 := hd
  rw [e, List.nodup_append] at hd2
  obtain ⟨-, d2, d3⟩ := hd2
  have n1 : a ∉ L.take i := fun q => d3 a q a List.mem_cons_self rfl
  have n2 : a ∉ L.drop (i + 1) := (List.nodup_cons.mp d2).1
  rw [hd.erase_eq_filter, List.eraseIdx_eq_take_drop_succ]
  have f1 : (L.take i).filter (· != a) = L.take i := List.filter_eq_self.mpr (fun x hx => by simp; intro q; exact n1 (q ▸ hx))
  have f2 : (L.drop (i + 1)).filter (· != a) = L.drop (i + 1) := List.filter_eq_self.mpr (fun x hx => by simp; intro q; exact n2 (q ▸ hx))
  conv => rhs; rw [e]
  rw [List.filter_append, List.filter_cons, f1, f2]
  simp
def bfr (σ σ' : am_S) : Prop := ∀ c, c ≠ 14 → c ≠ 15 → σ' c = σ c
theorem bfr_tr {σ σ1 σ2 : am_S} (h1 : bfr σ σ1) (h2 : bfr σ1 σ2) : bfr σ σ2 := fun c a b => (h2 c a b).trans (h1 c a b)
theorem bfr_14 (σ : am_S) (i v : Int) : bfr σ (am_us σ 14 i v) := fun _ h _ => us_o σ i v h
theorem bfr_15 (σ : am_S) (i v : Int) : bfr σ (am_us σ 15 i v) := fun _ _ h => us_o σ i v h
def PlI (L : List Int) (a r : Int) : Prop := (r = -9 ∧ a ∉ L) ∨ ∃ i : Nat, r = (i : Int) ∧ L[i]? = some a
theorem PlI_g {L : List Int} {a r : Int} (hl : L.length ≤ 8) (h : PlI L a r) : am_rng r := by
  rcases h with ⟨q, -⟩ | ⟨i, q, q2⟩
  · rw [q]; exact ⟨by decide, by decide⟩
  · have := (List.getElem?_eq_some_iff.mp q2).1
    exact ⟨by omega, by omega⟩
theorem sM_placeIn {K : am_KT} (hK : am_C K) {d : Nat} {σ : am_S} {Q : am_Q} {BL : Int → List Int} {b a : Int} (hB : MBd σ BL) (b0 : 0 ≤ b) (b3 : b < 3) (ra : am_rng a) (hr : ∀ x ∈ BL b, am_rng x) (h : ∀ r, PlI (BL b) a r → Q (some r) σ) : K d mM_placeIn 0 [.inr 0, .inl b, .inl a] [] σ Q := by
  obtain ⟨⟨hsz, hrow⟩, hl8⟩ := hB b b0 b3
  have loop : ∀ (k : Int) (u : Unit), k ≤ ((BL b).length : Int) → (0 ≤ k ∧ ∀ p : Nat, (p : Int) < k → (BL b)[p]? ≠ some a) → K d mM_placeIn 2 [.inr 0, .inl b, .inl a, .inl k] [] σ Q := by
    refine am_up (P := fun k (_ : Unit) => 0 ≤ k ∧ ∀ p : Nat, (p : Int) < k → (BL b)[p]? ≠ some a) (C := fun k _ => K d mM_placeIn 2 [.inr 0, .inl b, .inl a, .inl k] [] σ Q) (fun _ hp => ?_) (fun k _ hk hp ih => ?_)
    · refine bM_placeIn_2 hK (by omega) ⟨by omega, by omega⟩ (by rw [hsz]; exact ⟨by omega, by omega⟩) (fun _ => bM_placeIn_22 hK (h _ (Or.inl ⟨rfl, fun q => ?_⟩))) (fun g => absurd g (by omega))
      obtain ⟨i, hi⟩ := List.mem_iff_getElem?.mp q
      have := (List.getElem?_eq_some_iff.mp hi).1
      exact hp.2 i (by omega) hi
    · obtain ⟨k0, hno⟩ := hp
      obtain ⟨p, rfl⟩ : ∃ p : Nat, k = (p : Int) := ⟨k.toNat, by omega⟩
      have hp := hrow p (by omega)
      have hmem : σ 15 (8 * b + (p : Int)) ∈ BL b := List.mem_of_getElem? hp
      refine bM_placeIn_2 hK (by omega) ⟨by omega, by omega⟩ (by rw [hsz]; exact ⟨by omega, by omega⟩) (fun g => absurd g (by omega)) (fun _ => ?_)
      refine bM_placeIn_8 hK (by omega) (hr _ hmem) ra (fun g => bM_placeIn_20 hK (ih () ⟨by omega, fun p' h1 h2 => ?_⟩)) (fun g => bM_placeIn_18 hK (h _ (Or.inr ⟨p, rfl, by rw [hp, g]⟩)))
      by_cases e : p' = p
      · subst e
        rw [hp] at h2
        exact g (Option.some.inj h2)
      · exact hno p' (by omega) h2
  exact bM_placeIn_0 hK (loop 0 () (by omega) ⟨Int.le_refl 0, fun p h1 => absurd h1 (by omega)⟩)
theorem sM_takesOut {K : am_KT} (hK : am_C K) {d : Nat} {σ : am_S} {Q : am_Q} {BL : Int → List Int} {b : Int} {i : Nat} (hB : MBd σ BL) (b0 : 0 ≤ b) (b3 : b < 3) (hi : i < (BL b).length) (h : ∀ σ', bfr σ σ' → MBd σ' (uB BL b ((BL b).eraseIdx i)) → Q none σ') : K d mM_takesOut 0 [.inr 0, .inl b, .inl (i : Int)] [] σ Q := by
  obtain ⟨⟨hsz, hrow⟩, hl8⟩ := hB b b0 b3
  refine bM_takesOut_0 hK ⟨by omega, by omega⟩ (fun _ => ?_) (fun g => absurd g (by omega))
  refine bM_takesOut_4 hK (by omega) (by omega) ?_
  have loop : ∀ (k : Int) (τ : am_S), k ≤ ((BL b).length : Int) - 1 → ((i : Int) ≤ k ∧ bfr σ τ ∧ (∀ c, τ 14 c = if c = b then σ 14 b - 1 else σ 14 c) ∧ ∀ q, τ 15 q = if 8 * b + (i : Int) ≤ q ∧ q < 8 * b + k then σ 15 (q + 1) else σ 15 q) → K d mM_takesOut 14 [.inr 0, .inl b, .inl (i : Int), .inl k] [] τ Q := by
    refine am_up (P := fun k τ => (i : Int) ≤ k ∧ bfr σ τ ∧ (∀ c, τ 14 c = if c = b then σ 14 b - 1 else σ 14 c) ∧ ∀ q, τ 15 q = if 8 * b + (i : Int) ≤ q ∧ q < 8 * b + k then σ 15 (q + 1) else σ 15 q) (C := fun k τ => K d mM_takesOut 14 [.inr 0, .inl b, .inl (i : Int), .inl k] [] τ Q) (fun τ hp => ?_) (fun k τ hk hp ih => ?_)
    · obtain ⟨k0, c, h14, h15⟩ := hp
      have e14 : τ 14 b = σ 14 b - 1 := by rw [h14, if_pos rfl]
      refine bM_takesOut_14 hK (by omega) ⟨by omega, by omega⟩ (by rw [e14]; exact ⟨by omega, by omega⟩) (fun _ => bM_takesOut_40 hK (h τ c (fun c' c0 c3 => ?_))) (fun g => absurd g (by omega))
      by_cases e : c' = b
      · subst e
        rw [uB_e]
        refine ⟨⟨?_, fun p hp => ?_⟩, ?_⟩
        · rw [List.length_eraseIdx_of_lt hi, e14]
          omega
        · rw [List.length_eraseIdx_of_lt hi] at hp
          rw [List.getElem?_eraseIdx, h15]
          by_cases g : p < i
          · rw [if_pos g, if_neg (by omega)]
            exact hrow p (by omega)
          · rw [if_neg g, if_pos (by omega)]
            have := hrow (p + 1) (by omega)
            rw [this]
            congr 2
            omega
        · rw [List.length_eraseIdx_of_lt hi]
          omega
      · rw [uB_n _ _ e]
        obtain ⟨⟨z1, z2⟩, z3⟩ := hB c' c0 c3
        refine ⟨⟨by rw [h14, if_neg e]; exact z1, fun p hp => ?_⟩, z3⟩
        rw [h15, if_neg (by omega)]
        exact z2 p hp
    · obtain ⟨k0, c, h14, h15⟩ := hp
      have e14 : τ 14 b = σ 14 b - 1 := by rw [h14, if_pos rfl]
      refine bM_takesOut_14 hK (by omega) ⟨by omega, by omega⟩ (by rw [e14]; exact ⟨by omega, by omega⟩) (fun g => absurd g (by omega)) (fun _ => ?_)
      refine bM_takesOut_20 hK (by omega) (by omega) (ih _ ⟨by omega, bfr_tr c (bfr_15 _ _ _), fun c' => by rw [us_o _ _ _ (by decide)]; exact h14 c', fun q => ?_⟩)
      rw [us_s]
      by_cases e : q = 8 * b + k
      · rw [if_pos e, if_pos (by omega), h15, if_neg (by omega), e]
      · rw [if_neg e, h15]
        by_cases g : 8 * b + (i : Int) ≤ q ∧ q < 8 * b + k
        · rw [if_pos g, if_pos (by omega)]
        · rw [if_neg g, if_neg (by omega)]
  refine loop i _ (by omega) ⟨Int.le_refl _, bfr_14 _ _ _, fun c => us_s _ _ _ _ _, fun q => ?_⟩
  rw [us_o _ _ _ (by decide), if_neg (by omega)]
theorem sM_putsIn {K : am_KT} (hK : am_C K) {d : Nat} {σ : am_S} {Q : am_Q} {BL : Int → List Int} {b a : Int} {i : Nat} (hB : MBd σ BL) (b0 : 0 ≤ b) (b3 : b < 3) (hi : i ≤ (BL b).length) (h7 : (BL b).length ≤ 7) (h : ∀ σ', bfr σ σ' → MBd σ' (uB BL b ((BL b).insertIdx i a)) → Q none σ') : K d mM_putsIn 0 [.inr 0, .inl b, .inl (i : Int), .inl a] [] σ Q := by
  obtain ⟨⟨hsz, hrow⟩, hl8⟩ := hB b b0 b3
  refine bM_putsIn_0 hK (by omega) ?_
  rw [hsz]
  have loop : ∀ (k : Int) (τ : am_S), (i : Int) ≤ k → (k ≤ ((BL b).length : Int) ∧ (∀ c, c ≠ 15 → τ c = σ c) ∧ ∀ q, τ 15 q = if 8 * b + k < q ∧ q ≤ 8 * b + ((BL b).length : Int) then σ 15 (q - 1) else σ 15 q) → K d mM_putsIn 5 [.inr 0, .inl b, .inl (i : Int), .inl a, .inl k] [] τ Q := by
    refine am_dn (P := fun k τ => k ≤ ((BL b).length : Int) ∧ (∀ c, c ≠ 15 → τ c = σ c) ∧ ∀ q, τ 15 q = if 8 * b + k < q ∧ q ≤ 8 * b + ((BL b).length : Int) then σ 15 (q - 1) else σ 15 q) (C := fun k τ => K d mM_putsIn 5 [.inr 0, .inl b, .inl (i : Int), .inl a, .inl k] [] τ Q) (fun τ hp => ?_) (fun k τ hk hp ih => ?_)
    · obtain ⟨k1, c, h15⟩ := hp
      refine bM_putsIn_5 hK ⟨by omega, by omega⟩ ⟨by omega, by omega⟩ (fun _ => ?_) (fun g => absurd g (by omega))
      have e14 : am_us τ 15 (8 * b + (i : Int)) a 14 = σ 14 := by rw [us_o _ _ _ (by decide)]; exact c 14 (by decide)
      refine bM_putsIn_28 hK (by omega) (by omega) (by omega) ?_
      rw [e14]
      refine h _ (fun c' h1 h2 => ?_) (fun c' c0 c3 => ?_)
      · rw [us_o _ _ _ h1, us_o _ _ _ h2]
        exact c c' h2
      · have s14 : ∀ x, am_us (am_us τ 15 (8 * b + (i : Int)) a) 14 b (σ 14 b + 1) 14 x = if x = b then σ 14 b + 1 else σ 14 x := fun x => by rw [us_s, e14]
        have s15 : ∀ q, am_us (am_us τ 15 (8 * b + (i : Int)) a) 14 b (σ 14 b + 1) 15 q = if q = 8 * b + (i : Int) then a else τ 15 q := fun q => by rw [us_o _ _ _ (by decide : (15 : Nat) ≠ 14), us_s]
        by_cases e : c' = b
        · subst e
          rw [uB_e]
          refine ⟨⟨?_, fun p hp => ?_⟩, ?_⟩
          · rw [s14, if_pos rfl, List.length_insertIdx_of_le_length hi, hsz]
            omega
          · rw [List.length_insertIdx_of_le_length hi] at hp
            rw [List.getElem?_insertIdx, s15]
            by_cases g : p < i
            · rw [if_pos g, if_neg (by omega), h15, if_neg (by omega)]
              exact hrow p (by omega)
            · rw [if_neg g]
              by_cases g2 : p = i
              · rw [if_pos g2, if_pos (by omega), if_pos (by omega)]
              · rw [if_neg g2, if_neg (by omega), h15, if_pos (by omega)]
                have := hrow (p - 1) (by omega)
                rw [this]
                congr 2
                omega
          · rw [List.length_insertIdx_of_le_length hi]
            omega
        · rw [uB_n _ _ e]
          obtain ⟨⟨z1, z2⟩, z3⟩ := hB c' c0 c3
          refine ⟨⟨by rw [s14, if_neg e]; exact z1, fun p hp => ?_⟩, z3⟩
          rw [s15, if_neg (by omega), h15, if_neg (by omega)]
          exact z2 p hp
    · obtain ⟨k1, c, h15⟩ := hp
      refine bM_putsIn_5 hK ⟨by omega, by omega⟩ ⟨by omega, by omega⟩ (fun g => absurd g (by omega)) (fun _ => ?_)
      refine bM_putsIn_8 hK (by omega) (by omega) ?_
      rw [show k + (-1) = k - 1 by omega]
      refine ih _ ⟨by omega, fun c' hc => by rw [us_o _ _ _ hc]; exact c c' hc, fun q => ?_⟩
      rw [us_s]
      by_cases e : q = 8 * b + k
      · rw [if_pos e, if_pos (by omega), h15, if_neg (by omega), e]
      · rw [if_neg e, h15]
        by_cases g : 8 * b + k < q ∧ q ≤ 8 * b + ((BL b).length : Int)
        · rw [if_pos g, if_pos (by omega)]
        · rw [if_neg g, if_neg (by omega)]
  exact loop _ σ (by omega) ⟨Int.le_refl _, fun _ _ => rfl, fun q => by rw [if_neg (by omega)]⟩
