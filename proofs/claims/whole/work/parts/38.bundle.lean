/-! the class: Bundle -/
def CRow (σ : am_S) (r : Nat) (L : List Int) : Prop := RowOf (σ (r + 1)) 0 (σ r 0) L ∧ L.length ≤ 8
def rfr (r : Nat) (σ σ' : am_S) : Prop := ∀ c, c ≠ r → c ≠ r + 1 → σ' c = σ c
theorem CRow_at {σ : am_S} {r : Nat} {L : List Int} (h : CRow σ r L) {p : Nat} (hp : p < L.length) : L[p]? = some (σ (r + 1) (p : Int)) := by
  have := h.1.2 p hp
  rw [Int.zero_add] at this
  exact this
theorem lm_f (i : Nat) : ∀ (L : List Int) (s : Nat), (∀ x ∈ L, 0 ≤ x) → ((L.foldl (fun s x => s ||| 2 ^ x.toNat) s).testBit i = true ↔ s.testBit i = true ∨ (i : Int) ∈ L)
  | [], s, _ => by simp
  | x :: xs, s, h => by
    have hx := h x List.mem_cons_self
    rw [List.foldl_cons, lm_f i xs _ (fun y hy => h y (List.mem_cons_of_mem _ hy)), bit_or2, List.mem_cons]
    constructor
    · rintro ((a | a) | a)
      · exact Or.inl a
      · exact Or.inr (Or.inl (by omega))
      · exact Or.inr (Or.inr a)
    · rintro (a | a | a)
      · exact Or.inl (Or.inl a)
      · exact Or.inl (Or.inr (by omega))
      · exact Or.inr a
theorem lm_bit {L : List Int} (h : ∀ x ∈ L, 0 ≤ x ∧ x < 8) {a : Int} (a0 : 0 ≤ a) : (lm L).testBit a.toNat = true ↔ a ∈ L := by
  unfold lm
  rw [lm_f _ L 0 (fun x hx => (h x hx).1), Nat.zero_testBit, show ((a.toNat : Nat) : Int) = a by omega]
  simp
theorem lm_lt2 {L : List Int} (h : ∀ x ∈ L, 0 ≤ x ∧ x < 8) : lm L < 256 := by
  have := lm_lt h L.length
  rw [List.take_length] at this
  exact this
theorem sB_asSet {K : am_KT} (hK : am_C K) {d : Nat} {σ : am_S} {Q : am_Q} {r : Nat} (hr : am_isB r) {L : List Int} (hB : CRow σ r L) (hx : ∀ x ∈ L, 0 ≤ x ∧ x < 8) (h : Q (some (lm L : Int)) σ) : K d mB_asSet 0 [.inr r] [] σ Q := by
  have hsz : σ r 0 = (L.length : Int) := hB.1.1
  have hl8 := hB.2
  have loop : ∀ (k : Int) (v : Int), k ≤ (L.length : Int) → (0 ≤ k ∧ v = (lm (L.take k.toNat) : Int)) → K d mB_asSet 4 [.inr r, .inl v, .inl k] [] σ Q := by
    refine am_up (P := fun k v => 0 ≤ k ∧ v = (lm (L.take k.toNat) : Int)) (C := fun k v => K d mB_asSet 4 [.inr r, .inl v, .inl k] [] σ Q) (fun v hp => ?_) (fun k v hk hp ih => ?_)
    · obtain ⟨-, rfl⟩ := hp
      refine bB_asSet_4 hK hr ⟨by omega, by omega⟩ (by rw [hsz]; exact ⟨by omega, by omega⟩) (fun _ => bB_asSet_19 hK hr ?_) (fun g => absurd g (by omega))
      rw [show ((L.length : Nat) : Int).toNat = L.length by omega, List.take_length]
      exact h
    · obtain ⟨k0, rfl⟩ := hp
      have hp := CRow_at hB (p := k.toNat) (by omega)
      rw [show ((k.toNat : Nat) : Int) = k by omega] at hp
      have hxk := hx _ (List.mem_of_getElem? hp)
      have hlt := lm_lt hx k.toNat
      refine bB_asSet_4 hK hr ⟨by omega, by omega⟩ (by rw [hsz]; exact ⟨by omega, by omega⟩) (fun g => absurd g (by omega)) (fun _ => bB_asSet_8 hK hr (by omega) (ih _ ⟨by omega, ?_⟩))
      rw [shl_i hxk.1 (by omega), or_nat (by omega) (by have := pow_lt8 (k := σ (r + 1) k) (by omega); omega), show (k + 1).toNat = k.toNat + 1 by omega, take_s hp, lm_s]
  exact bB_asSet_0 hK hr (loop 0 0 (by omega) ⟨Int.le_refl 0, rfl⟩)
theorem sB_holds {K : am_KT} (hK : am_C K) {d : Nat} {σ : am_S} {Q : am_Q} {r : Nat} (hr : am_isB r) {L : List Int} {a : Int} (hB : CRow σ r L) (hx : ∀ x ∈ L, 0 ≤ x ∧ x < 8) (ha : 0 ≤ a ∧ a < 8) (h : ∀ v, r01 v (a ∈ L) → Q (some v) σ) : K (d + 1) mB_holds 0 [.inr r, .inl a] [] σ Q := by
  refine bB_holds_0 hK hr (sB_asSet hK hr hB hx ?_)
  have e := SB_and (s := lm L) (x := (lm L : Int)) (k := a) rfl (by have := lm_lt2 hx; omega) ha.1 (by omega)
  unfold SB at e
  rw [lm_bit hx ha.1] at e
  exact bB_holds_2 hK hr (rng_and _ _) (fun g => bB_holds_9 hK hr (bB_holds_10 hK hr (Or.inl rfl) (h 0 (Or.inr ⟨rfl, e.mp g⟩)))) (fun g => bB_holds_7 hK hr (bB_holds_10 hK hr (Or.inr rfl) (h 1 (Or.inl ⟨rfl, Classical.byContradiction fun q => g (e.mpr q)⟩))))
theorem sB_placeFor {K : am_KT} (hK : am_C K) {d : Nat} {σ : am_S} {Q : am_Q} {r q : Nat} (hr : am_isB r) (hq : am_isD q) {L : List Int} {a n : Int} {E : Int → Int} (n8 : n ≤ 8) (hB : CRow σ r L) (hx : ∀ x ∈ L, 0 ≤ x ∧ x < n) (ha : 0 ≤ a ∧ a < n) (hE : ∀ x, 0 ≤ x → x < n → σ q x = E x ∧ 0 ≤ E x ∧ E x ≤ 199) (h : ∀ v : Nat, IsPl (bef E a) L v → Q (some (v : Int)) σ) : K d mB_placeFor 0 [.inr r, .inl a, .inr q] [] σ Q := by
  have hsz : σ r 0 = (L.length : Int) := hB.1.1
  have hl8 := hB.2
  have ea := hE a ha.1 ha.2
  have loop : ∀ (k : Int) (u : Unit), 0 ≤ k → (k ≤ (L.length : Int) ∧ ∀ (j : Nat) (x : Int), k ≤ (j : Int) → L[j]? = some x → ¬ bef E a x) → K d mB_placeFor 3 [.inr r, .inl a, .inr q, .inl k] [] σ Q := by
    refine am_dn (P := fun k _ => k ≤ (L.length : Int) ∧ ∀ (j : Nat) (x : Int), k ≤ (j : Int) → L[j]? = some x → ¬ bef E a x) (C := fun k _ => K d mB_placeFor 3 [.inr r, .inl a, .inr q, .inl k] [] σ Q) (fun u hp => ?_) (fun k u hk hp ih => ?_)
    · refine bB_placeFor_3 hK hr hq ⟨by decide, by decide⟩ (fun _ => bB_placeFor_33 hK hr hq (h 0 ⟨Nat.zero_le _, Or.inl rfl, fun j x _ hj => hp.2 j x (by omega) hj⟩)) (fun g => absurd g (by decide))
    · obtain ⟨k1, hp⟩ := hp
      refine bB_placeFor_3 hK hr hq ⟨by omega, by omega⟩ (fun g => absurd g (by omega)) (fun _ => ?_)
      have hp2 := CRow_at hB (p := k.toNat - 1) (by omega)
      rw [show ((k.toNat - 1 : Nat) : Int) = k - 1 by omega] at hp2
      have hxk := hx _ (List.mem_of_getElem? hp2)
      generalize hxe : σ (r + 1) (k - 1) = x at hp2 hxk
      have ex := hE x hxk.1 hxk.2
      have yes : bef E a x → K d mB_placeFor 29 [.inr r, .inl a, .inr q, .inl k, .inl x] [] σ Q := fun z => by
        refine bB_placeFor_29 hK hr hq ?_
        have := h k.toNat ⟨by omega, Or.inr ⟨x, hp2, z⟩, fun j y hj => hp j y (by omega)⟩
        rw [show ((k.toNat : Nat) : Int) = k by omega] at this
        exact this
      have no : ¬ bef E a x → K d mB_placeFor 31 [.inr r, .inl a, .inr q, .inl k, .inl x] [] σ Q := fun z => by
        refine bB_placeFor_31 hK hr hq ?_
        rw [show k + (-1) = k - 1 by omega]
        refine ih () ⟨by omega, fun j y hj hy => ?_⟩
        by_cases e : j = k.toNat - 1
        · rw [e, hp2] at hy
          rw [← Option.some.inj hy]
          exact z
        · exact hp j y (by omega) hy
      refine bB_placeFor_5 hK hr hq (by omega) (by rw [hxe]; omega) (by omega) (by rw [hxe, ex.1]; exact ⟨by omega, by omega⟩) (by rw [ea.1]; exact ⟨by omega, by omega⟩) (fun g => ?_) (fun g => ?_)
      · rw [hxe, ex.1, ea.1] at g
        rw [hxe]
        exact yes (Or.inl g)
      · rw [hxe, ex.1, ea.1] at g
        rw [hxe]
        refine bB_placeFor_19 hK hr hq (by omega) (by omega) (by rw [ex.1]; exact ⟨by omega, by omega⟩) (by rw [ea.1]; exact ⟨by omega, by omega⟩) (fun g2 => no (fun z => ?_)) (fun g2 => ?_)
        · rw [ex.1, ea.1] at g2
          unfold bef at z
          omega
        · rw [ex.1, ea.1] at g2
          exact bB_placeFor_26 hK hr hq ⟨by omega, by omega⟩ ⟨by omega, by omega⟩ (fun g3 => no (fun z => by unfold bef at z; omega)) (fun g3 => yes (Or.inr ⟨g2, g3⟩))
  refine bB_placeFor_0 hK hr hq ?_
  rw [hsz]
  refine loop _ () (by omega) ⟨Int.le_refl _, fun j x hj hx2 => ?_⟩
  have := (List.getElem?_eq_some_iff.mp hx2).1
  omega
theorem sB_insert {K : am_KT} (hK : am_C K) {d : Nat} {σ : am_S} {Q : am_Q} {r : Nat} (hr : am_isB r) {L : List Int} {a : Int} {i : Nat} (hB : CRow σ r L) (hi : i ≤ L.length) (h7 : L.length ≤ 7) (h : ∀ σ', rfr r σ σ' → CRow σ' r (L.insertIdx i a) → Q none σ') : K d mB_insert 0 [.inr r, .inl (i : Int), .inl a] [] σ Q := by
  have hrr : r = 54 ∨ r = 56 ∨ r = 58 := hr
  have hsz : σ r 0 = (L.length : Int) := hB.1.1
  refine bB_insert_0 hK hr (by rw [hsz]; exact ⟨by omega, by omega⟩) (fun g => absurd g (by omega)) (fun _ => ?_)
  refine bB_insert_4 hK hr ⟨by omega, by omega⟩ (fun g => absurd g (by omega)) (fun _ => ?_)
  refine bB_insert_6 hK hr ⟨by omega, by omega⟩ (by rw [hsz]; exact ⟨by omega, by omega⟩) (fun _ => bB_insert_11 hK hr ?_) (fun g => absurd g (by omega))
  rw [hsz]
  have loop : ∀ (k : Int) (τ : am_S), (i : Int) ≤ k → (k ≤ (L.length : Int) ∧ (∀ c, c ≠ r + 1 → τ c = σ c) ∧ ∀ q, τ (r + 1) q = if k < q ∧ q ≤ (L.length : Int) then σ (r + 1) (q - 1) else σ (r + 1) q) → K d mB_insert 14 [.inr r, .inl (i : Int), .inl a, .inl k] [] τ Q := by
    refine am_dn (P := fun k τ => k ≤ (L.length : Int) ∧ (∀ c, c ≠ r + 1 → τ c = σ c) ∧ ∀ q, τ (r + 1) q = if k < q ∧ q ≤ (L.length : Int) then σ (r + 1) (q - 1) else σ (r + 1) q) (C := fun k τ => K d mB_insert 14 [.inr r, .inl (i : Int), .inl a, .inl k] [] τ Q) (fun τ hp => ?_) (fun k τ hk hp ih => ?_)
    · obtain ⟨k1, c, h15⟩ := hp
      refine bB_insert_14 hK hr ⟨by omega, by omega⟩ ⟨by omega, by omega⟩ (fun _ => ?_) (fun g => absurd g (by omega))
      have e14 : am_us τ (r + 1) (i : Int) a r = σ r := by rw [us_o _ _ _ (by omega)]; exact c r (by omega)
      refine bB_insert_29 hK hr (by omega) ?_
      rw [e14]
      refine h _ (fun c' h1 h2 => ?_) ?_
      · rw [us_o _ _ _ h1, us_o _ _ _ h2]
        exact c c' h2
      · have s15 : ∀ q, am_us (am_us τ (r + 1) (i : Int) a) r 0 (σ r 0 + 1) (r + 1) q = if q = (i : Int) then a else τ (r + 1) q := fun q => by rw [us_o _ _ _ (by omega : r + 1 ≠ r), us_s]
        refine ⟨⟨?_, fun p hp => ?_⟩, ?_⟩
        · rw [us_e, List.length_insertIdx_of_le_length hi, hsz]
          omega
        · rw [List.length_insertIdx_of_le_length hi] at hp
          rw [Int.zero_add, List.getElem?_insertIdx, s15]
          by_cases g : p < i
          · rw [if_pos g, if_neg (by omega), h15, if_neg (by omega)]
            exact CRow_at hB (by omega)
          · rw [if_neg g]
            by_cases g2 : p = i
            · rw [if_pos g2, if_pos (by omega), if_pos (by omega)]
            · rw [if_neg g2, if_neg (by omega), h15, if_pos (by omega)]
              have := CRow_at hB (p := p - 1) (by omega)
              rw [this]
              congr 2
              omega
        · rw [List.length_insertIdx_of_le_length hi]
          omega
    · obtain ⟨k1, c, h15⟩ := hp
      refine bB_insert_14 hK hr ⟨by omega, by omega⟩ ⟨by omega, by omega⟩ (fun g => absurd g (by omega)) (fun _ => ?_)
      refine bB_insert_17 hK hr (by omega) (by omega) ?_
      rw [show k + (-1) = k - 1 by omega]
      refine ih _ ⟨by omega, fun c' hc => by rw [us_o _ _ _ hc]; exact c c' hc, fun q => ?_⟩
      rw [us_s]
      by_cases e : q = k
      · rw [if_pos e, if_pos (by omega), h15, if_neg (by omega), e]
      · rw [if_neg e, h15]
        by_cases g : k < q ∧ q ≤ (L.length : Int)
        · rw [if_pos g, if_pos (by omega)]
        · rw [if_neg g, if_neg (by omega)]
  exact loop _ σ (by omega) ⟨Int.le_refl _, fun _ _ => rfl, fun q => by rw [if_neg (by omega)]⟩
theorem sB_remove {K : am_KT} (hK : am_C K) {d : Nat} {σ : am_S} {Q : am_Q} {r : Nat} (hr : am_isB r) {L : List Int} {a : Int} (hB : CRow σ r L) (hx : ∀ x ∈ L, 0 ≤ x ∧ x < 8) (hd : L.Nodup) (ra : am_rng a) (h : ∀ σ', rfr r σ σ' → CRow σ' r (L.erase a) → Q none σ') : K d mB_remove 0 [.inr r, .inl a] [] σ Q := by
  have hrr : r = 54 ∨ r = 56 ∨ r = 58 := hr
  have hsz : σ r 0 = (L.length : Int) := hB.1.1
  have hl8 := hB.2
  have lenF : ∀ k : Nat, ((L.take k).filter (· != a)).length ≤ k := fun k => Nat.le_trans (List.length_filter_le _ _) (by rw [List.length_take]; omega)
  have loop : ∀ (k : Int) (t : Int × am_S), k ≤ (L.length : Int) → (0 ≤ k ∧ (∀ c, c ≠ r + 1 → t.2 c = σ c) ∧ t.1 = (((L.take k.toNat).filter (· != a)).length : Int) ∧ (∀ j : Nat, j < ((L.take k.toNat).filter (· != a)).length → ((L.take k.toNat).filter (· != a))[j]? = some (t.2 (r + 1) (j : Int))) ∧ ∀ j : Int, k ≤ j → t.2 (r + 1) j = σ (r + 1) j) → K d mB_remove 4 [.inr r, .inl a, .inl t.1, .inl k] [] t.2 Q := by
    refine am_up (P := fun k (t : Int × am_S) => 0 ≤ k ∧ (∀ c, c ≠ r + 1 → t.2 c = σ c) ∧ t.1 = (((L.take k.toNat).filter (· != a)).length : Int) ∧ (∀ j : Nat, j < ((L.take k.toNat).filter (· != a)).length → ((L.take k.toNat).filter (· != a))[j]? = some (t.2 (r + 1) (j : Int))) ∧ ∀ j : Int, k ≤ j → t.2 (r + 1) j = σ (r + 1) j) (C := fun k t => K d mB_remove 4 [.inr r, .inl a, .inl t.1, .inl k] [] t.2 Q) (fun t hp => ?_) (fun k t hk hp ih => ?_)
    · obtain ⟨v, τ⟩ := t
      obtain ⟨-, c, rfl, h1, -⟩ := hp
      dsimp only at c h1 ⊢
      have e0 : τ r = σ r := c r (by omega)
      rw [show ((L.length : Nat) : Int).toNat = L.length by omega, List.take_length] at h1 ⊢
      refine bB_remove_4 hK hr ⟨by omega, by omega⟩ (by rw [e0, hsz]; exact ⟨by omega, by omega⟩) (fun _ => bB_remove_25 hK hr (h _ (fun c' h1 h2 => ?_) ?_)) (fun g => absurd g (by rw [e0]; omega))
      · rw [us_o _ _ _ h1]
        exact c c' h2
      · rw [hd.erase_eq_filter a]
        refine ⟨⟨us_e _ _ _ _, fun p hp => ?_⟩, Nat.le_trans (List.length_filter_le _ _) hl8⟩
        rw [us_o _ _ _ (by omega), Int.zero_add]
        exact h1 p hp
    · obtain ⟨v, τ⟩ := t
      obtain ⟨k0, c, rfl, h1, h2⟩ := hp
      dsimp only at c h1 h2 ih ⊢
      have e0 : τ r = σ r := c r (by omega)
      have hp := CRow_at hB (p := k.toNat) (by omega)
      rw [show ((k.toNat : Nat) : Int) = k by omega] at hp
      have hxk := hx _ (List.mem_of_getElem? hp)
      have ek := h2 k (Int.le_refl k)
      have et := take_s hp
      have lF := lenF k.toNat
      generalize hxe : σ (r + 1) k = x at hp hxk ek et
      rw [show (k + 1).toNat = k.toNat + 1 by omega, et, List.filter_append] at ih
      generalize hF : (L.take k.toNat).filter (· != a) = F at h1 ih lF ⊢
      refine bB_remove_4 hK hr ⟨by omega, by omega⟩ (by rw [e0, hsz]; exact ⟨by omega, by omega⟩) (fun g => absurd g (by rw [e0]; omega)) (fun _ => ?_)
      refine bB_remove_8 hK hr (by omega) (by rw [ek]; exact ⟨by omega, by omega⟩) ra (fun g => ?_) (fun g => ?_)
      · rw [ek] at g
        have ef : [x].filter (· != a) = [] := by rw [List.filter_cons, if_neg (by rw [g]; simp)]; rfl
        rw [ef, List.append_nil] at ih
        exact bB_remove_23 hK hr (ih ((F.length : Int), τ) ⟨by omega, c, rfl, h1, fun j hj => h2 j (by omega)⟩)
      · rw [ek] at g
        have ef : [x].filter (· != a) = [x] := by rw [List.filter_cons, if_pos (bne_iff_ne.mpr g)]; rfl
        rw [ef] at ih
        refine bB_remove_14 hK hr (by omega) (by omega) (bB_remove_23 hK hr ?_)
        rw [ek]
        refine ih ((F.length : Int) + 1, am_us τ (r + 1) (F.length : Int) x) ⟨by omega, fun c' hc => ?_, ?_, fun j hj => ?_, fun j hj => ?_⟩
        · show am_us τ (r + 1) (F.length : Int) x c' = σ c'
          rw [us_o _ _ _ hc]
          exact c c' hc
        · show (F.length : Int) + 1 = ((F ++ [x]).length : Int)
          rw [List.length_append]
          simp
        · show (F ++ [x])[j]? = some (am_us τ (r + 1) (F.length : Int) x (r + 1) (j : Int))
          rw [List.length_append, List.length_singleton] at hj
          rw [us_s]
          by_cases e : j = F.length
          · rw [if_pos (by omega), e, List.getElem?_append_right (Nat.le_refl _), Nat.sub_self]
            rfl
          · rw [if_neg (by omega), List.getElem?_append_left (by omega)]
            exact h1 j (by omega)
        · show am_us τ (r + 1) (F.length : Int) x (r + 1) j = σ (r + 1) j
          rw [us_n _ _ _ (by omega)]
          exact h2 j (by omega)
  exact bB_remove_0 hK hr (loop 0 (0, σ) (by omega) ⟨Int.le_refl 0, fun _ _ => rfl, rfl, fun j hj => absurd hj (by simp), fun _ _ => rfl⟩)
theorem sB_receive {K : am_KT} (hK : am_C K) {d : Nat} {σ : am_S} {Q : am_Q} {r : Nat} (hr : am_isB r) {L : List Int} {a n : Int} (n8 : n ≤ 8) (hB : CRow σ r L) (hx : ∀ x ∈ L, 0 ≤ x ∧ x < n) (hd : L.Nodup) (ha : 0 ≤ a ∧ a < n) (h : ∀ σ', rfr r σ σ' → CRow σ' r (tog a L) → Q none σ') : K (d + 2) mB_receive 0 [.inr r, .inl a] [] σ Q := by
  have hx8 : ∀ x ∈ L, 0 ≤ x ∧ x < 8 := fun x hxx => by have := hx x hxx; omega
  have hsz : σ r 0 = (L.length : Int) := hB.1.1
  unfold tog at h
  refine bB_receive_0 (d := d + 1) hK hr (sB_holds hK hr hB hx8 (by omega) (fun v hv => ?_))
  refine bB_receive_3 (d := d + 1) hK hr (r01_g hv) (fun g => ?_) (fun g => ?_)
  · have hna := r01_0 hv g
    rw [if_neg hna] at h
    have h7 := nodup_room n8 hd hx ha.1 ha.2 hna
    refine bB_receive_8 (d := d + 1) hK hr ?_
    rw [hsz]
    refine sB_insert hK hr hB (Nat.le_refl _) h7 (fun σ' c hB' => bB_receive_13 (d := d + 1) hK hr (h σ' c ?_))
    have e : L.insertIdx L.length a = L ++ [a] := by simp
    rw [← e]
    exact hB'
  · have hin := r01_n hv g
    rw [if_pos hin] at h
    exact bB_receive_4 (d := d + 1) hK hr (sB_remove hK hr hB hx8 hd ⟨by omega, by omega⟩ (fun σ' c hB' => bB_receive_7 (d := d + 1) hK hr (bB_receive_13 (d := d + 1) hK hr (h σ' c hB'))))
