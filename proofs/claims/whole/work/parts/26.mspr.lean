/-! the reference: unletter, spread -/
def erB (BL : Int → List Int) (b x : Int) : Int → List Int := fun c => if c < b then (BL c).erase x else BL c
theorem erB_l (BL : Int → List Int) {b c : Int} (x : Int) (h : c < b) : erB BL b x c = (BL c).erase x := if_pos h
theorem erB_g (BL : Int → List Int) {b c : Int} (x : Int) (h : ¬ c < b) : erB BL b x c = BL c := if_neg h
theorem erase_no {L : List Int} {a : Int} (h : a ∉ L) : L.erase a = L := List.erase_of_not_mem h
/-- a note names the letter -/
def nmd (m : Int) (pa' pb' : Int → Int) (a : Int) : Prop := ∃ k, 0 ≤ k ∧ k < m ∧ (pa' k = a ∨ pb' k = a)
theorem sM_unletter {K : am_KT} (hK : am_C K) {d : Nat} {σ : am_S} {Q : am_Q} {BL : Int → List Int} (hm : Mok σ) (hB : MBd σ BL) (hV : BV (σ 0 0) BL) (h1 : σ 0 0 = 0 → Q (some (-3)) σ) (h2 : 0 < σ 0 0 → nmd (σ 0 3) (σ 4) (σ 5) (σ 0 0 - 1) → Q (some (-3)) σ)
    (h3 : 0 < σ 0 0 → ¬ nmd (σ 0 3) (σ 4) (σ 5) (σ 0 0 - 1) → ∀ σ', bfr (am_us σ 0 0 (σ 0 0 - 1)) σ' → MBd σ' (fun b => (BL b).erase (σ 0 0 - 1)) → Q (some (σ 0 0 - 1)) σ') : K (d + 1) mM_unletter 0 [.inr 0] [] σ Q := by
  have n0 : 0 ≤ σ 0 0 := hm.1.1.1
  have n8 : σ 0 0 ≤ 8 := hm.1.1.2
  have m0 : 0 ≤ σ 0 3 := hm.1.2.2.1.1
  have m10 : σ 0 3 ≤ 10 := hm.1.2.2.1.2
  refine bM_unletter_0 hK ⟨by omega, by omega⟩ (fun g => bM_unletter_5 hK ?_) (fun g => bM_unletter_3 hK (h1 g))
  have np : 0 < σ 0 0 := by omega
  -- the bundles
  have out : ¬ nmd (σ 0 3) (σ 4) (σ 5) (σ 0 0 - 1) → ∀ (b : Int) (τ : am_S), b ≤ 3 → (0 ≤ b ∧ bfr (am_us σ 0 0 (σ 0 0 - 1)) τ ∧ MBd τ (erB BL b (σ 0 0 - 1))) → K (d + 1) mM_unletter 41 [.inr 0, .inl b] [] τ Q := by
    intro hno
    refine am_up (P := fun b τ => 0 ≤ b ∧ bfr (am_us σ 0 0 (σ 0 0 - 1)) τ ∧ MBd τ (erB BL b (σ 0 0 - 1))) (C := fun b τ => K (d + 1) mM_unletter 41 [.inr 0, .inl b] [] τ Q) (fun τ hp => ?_) (fun b τ hb hp ih => ?_)
    · obtain ⟨-, c, hBt⟩ := hp
      have e00 : τ 0 0 = σ 0 0 - 1 := by rw [c 0 (by decide) (by decide), us_e]
      refine bM_unletter_41 hK ⟨by decide, by decide⟩ (fun _ => bM_unletter_54 hK ?_) (fun g => absurd g (by decide))
      rw [e00]
      refine h3 np hno τ c (fun c' c0 c3 => ?_)
      have := hBt c' c0 c3
      rw [erB_l _ _ c3] at this
      exact this
    · obtain ⟨b0, c, hBt⟩ := hp
      have e00 : τ 0 0 = σ 0 0 - 1 := by rw [c 0 (by decide) (by decide), us_e]
      obtain ⟨hnd, hrg⟩ := hV b b0 hb
      have eb : erB BL b (σ 0 0 - 1) b = BL b := erB_g _ _ (by omega)
      have hl8 := (hBt b b0 hb).2
      rw [eb] at hl8
      refine bM_unletter_41 hK ⟨by omega, by omega⟩ (fun g => absurd g (by omega)) (fun _ => ?_)
      refine bM_unletter_44 hK ?_
      rw [e00]
      refine sM_placeIn hK hBt b0 hb ⟨by omega, by omega⟩ (fun x hx => by rw [eb] at hx; have := hrg x hx; exact ⟨by omega, by omega⟩) (fun r hr => ?_)
      rw [eb] at hr
      refine bM_unletter_51 hK ?_
      have next : ∀ τ', bfr τ τ' → MBd τ' (uB (erB BL b (σ 0 0 - 1)) b ((BL b).erase (σ 0 0 - 1))) → K (d + 1) mM_unletter 52 [.inr 0, .inl b] [] τ' Q := by
        intro τ' c' hB'
        refine bM_unletter_52 hK (ih τ' ⟨by omega, bfr_tr c c', fun x x0 x3 => ?_⟩)
        have hx := hB' x x0 x3
        by_cases e : x = b
        · subst e
          rw [uB_e] at hx
          rw [erB_l _ _ (by omega)]
          exact hx
        · rw [uB_n _ _ e] at hx
          by_cases g : x < b
          · rw [erB_l _ _ g] at hx
            rw [erB_l _ _ (by omega)]
            exact hx
          · rw [erB_g _ _ g] at hx
            rw [erB_g _ _ (by omega)]
            exact hx
      rcases hr with ⟨rfl, q⟩ | ⟨i, rfl, q⟩
      · refine bM_takesOut_0 hK ⟨by decide, by decide⟩ (fun g => absurd rfl g) (fun _ => bM_takesOut_3 hK (next τ (fun _ _ _ => rfl) (fun x x0 x3 => ?_)))
        by_cases e : x = b
        · subst e
          rw [uB_e, erase_no q]
          have := hBt x x0 x3
          rw [eb] at this
          exact this
        · rw [uB_n _ _ e]
          exact hBt x x0 x3
      · refine sM_takesOut hK hBt b0 hb (by rw [eb]; exact (List.getElem?_eq_some_iff.mp q).1) (fun τ' c' hB' => next τ' c' ?_)
        rw [eb, erase_at hnd q] at hB'
        exact hB'
  -- the notes
  have loop : ∀ (k : Int) (u : Unit), k ≤ σ 0 3 → (0 ≤ k ∧ ∀ j, 0 ≤ j → j < k → ¬ (σ 4 j = σ 0 0 - 1 ∨ σ 5 j = σ 0 0 - 1)) → K (d + 1) mM_unletter 7 [.inr 0, .inl k] [] σ Q := by
    refine am_up (P := fun k (_ : Unit) => 0 ≤ k ∧ ∀ j, 0 ≤ j → j < k → ¬ (σ 4 j = σ 0 0 - 1 ∨ σ 5 j = σ 0 0 - 1)) (C := fun k _ => K (d + 1) mM_unletter 7 [.inr 0, .inl k] [] σ Q) (fun _ hp => ?_) (fun k _ hk hp ih => ?_)
    · refine bM_unletter_7 hK ⟨by omega, by omega⟩ ⟨by omega, by omega⟩ (fun _ => bM_unletter_33 hK (out (fun ⟨k, k0, k1, q⟩ => hp.2 k k0 k1 q) 0 _ (by decide) ⟨Int.le_refl 0, fun _ _ _ => rfl, fun x x0 x3 => ?_⟩)) (fun g => absurd g (by omega))
      rw [erB_g _ _ (by omega), us_o _ _ _ (by decide), us_o _ _ _ (by decide)]
      exact hB x x0 x3
    · obtain ⟨k0, hno⟩ := hp
      obtain ⟨-, v2, v3, -⟩ := hm.1.2.2.2 k k0 hk
      have v2 : 0 ≤ σ 4 k ∧ σ 4 k < σ 0 0 := v2
      have v3 : 0 ≤ σ 5 k ∧ σ 5 k < σ 0 0 := v3
      have yes : (σ 4 k = σ 0 0 - 1 ∨ σ 5 k = σ 0 0 - 1) → K (d + 1) mM_unletter 29 [.inr 0, .inl k] [] σ Q := fun q => bM_unletter_29 hK (h2 np ⟨k, k0, hk, q⟩)
      refine bM_unletter_7 hK ⟨by omega, by omega⟩ ⟨by omega, by omega⟩ (fun g => absurd g (by omega)) (fun _ => ?_)
      refine bM_unletter_11 hK (by omega) ⟨by omega, by omega⟩ ⟨by omega, by omega⟩ (fun g2 => yes (Or.inl g2)) (fun g2 => ?_)
      refine bM_unletter_20 hK (by omega) ⟨by omega, by omega⟩ ⟨by omega, by omega⟩ (fun g3 => bM_unletter_31 hK (ih () ⟨by omega, fun j j0 j1 => ?_⟩)) (fun g3 => yes (Or.inr g3))
      by_cases e : j = k
      · rw [e]
        exact fun z => z.elim g2 g3
      · exact hno j j0 (by omega)
  exact loop 0 () m0 ⟨Int.le_refl 0, fun j j0 j1 => absurd j1 (by omega)⟩
/-- a row as a set -/
def lm (L : List Int) : Nat := L.foldl (fun s x => s ||| 2 ^ x.toNat) 0
theorem lm_s (L : List Int) (x : Int) : lm (L ++ [x]) = lm L ||| 2 ^ x.toNat := by
  unfold lm
  rw [List.foldl_append]
  rfl
theorem take_s {L : List Int} {p : Nat} {x : Int} (h : L[p]? = some x) : L.take (p + 1) = L.take p ++ [x] := by
  rw [List.take_add_one, h]
  rfl
theorem lm_lt {L : List Int} (h : ∀ x ∈ L, 0 ≤ x ∧ x < 8) : ∀ p : Nat, lm (L.take p) < 256
  | 0 => by simp [lm]
  | p + 1 => by
    have ih := lm_lt h p
    cases hp : L[p]? with
    | none =>
      have : L.take (p + 1) = L.take p := by rw [List.take_add_one, hp]; simp
      rw [this]
      exact ih
    | some x =>
      rw [take_s hp, lm_s]
      have hx := h x (List.mem_of_getElem? hp)
      have := Nat.or_lt_two_pow (n := 8) (x := lm (L.take p)) (y := 2 ^ x.toNat) (by omega) (Nat.pow_lt_pow_right (by decide) (by omega))
      omega
theorem sM_setIn {K : am_KT} (hK : am_C K) {d : Nat} {σ : am_S} {Q : am_Q} {BL : Int → List Int} {b : Int} (b0 : 0 ≤ b) (b3 : b < 3) (hB : MBd σ BL) (hr : ∀ x ∈ BL b, 0 ≤ x ∧ x < 8) (h : Q (some (lm (BL b) : Int)) σ) : K d mM_setIn 0 [.inr 0, .inl b] [] σ Q := by
  obtain ⟨⟨hsz, hrow⟩, hl8⟩ := hB b b0 b3
  have loop : ∀ (k : Int) (v : Int), k ≤ ((BL b).length : Int) → (0 ≤ k ∧ v = (lm ((BL b).take k.toNat) : Int)) → K d mM_setIn 4 [.inr 0, .inl b, .inl v, .inl k] [] σ Q := by
    refine am_up (P := fun k v => 0 ≤ k ∧ v = (lm ((BL b).take k.toNat) : Int)) (C := fun k v => K d mM_setIn 4 [.inr 0, .inl b, .inl v, .inl k] [] σ Q) (fun v hp => ?_) (fun k v hk hp ih => ?_)
    · obtain ⟨-, rfl⟩ := hp
      refine bM_setIn_4 hK (by omega) ⟨by omega, by omega⟩ (by rw [hsz]; exact ⟨by omega, by omega⟩) (fun _ => bM_setIn_25 hK ?_) (fun g => absurd g (by omega))
      rw [show (((BL b).length : Nat) : Int).toNat = (BL b).length by omega, List.take_length]
      exact h
    · obtain ⟨k0, rfl⟩ := hp
      have hp := hrow k.toNat (by omega)
      rw [show ((k.toNat : Nat) : Int) = k by omega] at hp
      have hx := hr _ (List.mem_of_getElem? hp)
      have hlt := lm_lt hr k.toNat
      refine bM_setIn_4 hK (by omega) ⟨by omega, by omega⟩ (by rw [hsz]; exact ⟨by omega, by omega⟩) (fun g => absurd g (by omega)) (fun _ => bM_setIn_10 hK (by omega) (ih _ ⟨by omega, ?_⟩))
      rw [shl_i hx.1 (by omega), or_nat (by omega) (by have := pow_lt8 (k := σ 15 (8 * b + k)) (by omega); omega), show (k + 1).toNat = k.toNat + 1 by omega, take_s hp, lm_s]
  exact bM_setIn_0 hK (loop 0 0 (by omega) ⟨Int.le_refl 0, rfl⟩)
def tog (x : Int) (N : List Int) : List Int := if x ∈ N then N.erase x else N ++ [x]
/-- those that stay, the next bundle -/
def spr (lv : Int → Bool) : List Int → List Int → List Int × List Int
  | [], N => ([], N)
  | x :: xs, N => if lv x = true then spr lv xs (tog x N) else (x :: (spr lv xs N).1, (spr lv xs N).2)
theorem spr_t {lv : Int → Bool} {x : Int} {xs N : List Int} (h : lv x = true) : spr lv (x :: xs) N = spr lv xs (tog x N) := by
  rw [spr, if_pos h]
theorem spr_f {lv : Int → Bool} {x : Int} {xs N : List Int} (h : ¬ lv x = true) : spr lv (x :: xs) N = (x :: (spr lv xs N).1, (spr lv xs N).2) := by
  rw [spr, if_neg h]
def nlv (lv : Int → Bool) (L : List Int) : Int := ((L.filter lv).length : Int)
def lvB (A : Int → Nat) (s : Nat) (x : Int) : Bool := decide (A x &&& s ≠ 0)
def nxB (b : Int) : Int := if b + 1 < 3 then b + 1 else 0
theorem tog_ok {n x : Int} {N : List Int} (x0 : 0 ≤ x) (xn : x < n) (hd : N.Nodup) (hr : ∀ y ∈ N, 0 ≤ y ∧ y < n) : (tog x N).Nodup ∧ ∀ y ∈ tog x N, 0 ≤ y ∧ y < n := by
  unfold tog
  split
  · exact ⟨hd.erase _, fun y hy => hr y (List.mem_of_mem_erase hy)⟩
  · rename_i q
    refine ⟨List.nodup_append.mpr ⟨hd, by simp, fun a ha b hb e => ?_⟩, fun y hy => ?_⟩
    · rw [List.mem_singleton] at hb
      rw [e, hb] at ha
      exact q ha
    · rcases List.mem_append.mp hy with z | z
      · exact hr y z
      · rw [List.mem_singleton] at z
        omega
theorem spr_ok {lv : Int → Bool} {n : Int} : ∀ (L N : List Int), (∀ y ∈ L, 0 ≤ y ∧ y < n) → N.Nodup → (∀ y ∈ N, 0 ≤ y ∧ y < n) → ((∀ y ∈ (spr lv L N).1, y ∈ L) ∧ (L.Nodup → (spr lv L N).1.Nodup)) ∧ (spr lv L N).2.Nodup ∧ ∀ y ∈ (spr lv L N).2, 0 ≤ y ∧ y < n
  | [], N, _, hd, hr => ⟨⟨fun y hy => hy, fun h => h⟩, hd, hr⟩
  | x :: xs, N, hL, hd, hr => by
    have hx := hL x List.mem_cons_self
    have hxs : ∀ y ∈ xs, 0 ≤ y ∧ y < n := fun y hy => hL y (List.mem_cons_of_mem _ hy)
    unfold spr
    split
    · obtain ⟨t1, t2⟩ := tog_ok hx.1 hx.2 hd hr
      obtain ⟨⟨a1, a2⟩, a3, a4⟩ := spr_ok (lv := lv) xs (tog x N) hxs t1 t2
      exact ⟨⟨fun y hy => List.mem_cons_of_mem _ (a1 y hy), fun h => a2 (List.nodup_cons.mp h).2⟩, a3, a4⟩
    · obtain ⟨⟨a1, a2⟩, a3, a4⟩ := spr_ok (lv := lv) xs N hxs hd hr
      refine ⟨⟨fun y hy => ?_, fun h => ?_⟩, a3, a4⟩
      · rcases List.mem_cons.mp hy with z | z
        · rw [z]; exact List.mem_cons_self
        · exact List.mem_cons_of_mem _ (a1 y z)
      · obtain ⟨b1, b2⟩ := List.nodup_cons.mp h
        exact List.nodup_cons.mpr ⟨fun z => b1 (a1 x z), a2 b2⟩
theorem erase_mid (A : List Int) (x : Int) (B : List Int) : (A ++ x :: B).eraseIdx A.length = A ++ B := by
  rw [List.eraseIdx_eq_take_drop_succ]
  simp
theorem uB_2 (BL : Int → List Int) {b c : Int} (X Y Z : List Int) (h : c ≠ b) : uB (uB (uB BL b X) c Y) b Z = uB (uB BL b Z) c Y := by
  funext x
  unfold uB
  by_cases e1 : x = b
  · rw [if_pos e1, if_neg (by omega), if_pos e1]
  · rw [if_neg e1]
    by_cases e2 : x = c
    · rw [if_pos e2, if_pos e2]
    · rw [if_neg e2, if_neg e1, if_neg e2, if_neg e1]
theorem uB_3 (BL : Int → List Int) {c : Int} (Y Z : List Int) : uB (uB BL c Y) c Z = uB BL c Z := by
  funext x
  unfold uB
  by_cases e1 : x = c
  · rw [if_pos e1, if_pos e1]
  · rw [if_neg e1, if_neg e1, if_neg e1]
set_option maxHeartbeats 1000000 in
theorem sM_spread {K : am_KT} (hK : am_C K) {d : Nat} {σ : am_S} {Q : am_Q} {BL : Int → List Int} {b : Int} (rb : am_rng b) (hm : Mok σ) (hB : MBd σ BL) (hV : BV (σ 0 0) BL) (h1 : ¬ (0 ≤ b ∧ b < 3) → Q (some (-1)) σ) (h2 : (0 ≤ b ∧ b < 3) → ¬ Exi (WM σ) → ∀ σ', mfr σ σ' → Q (some (-3)) σ')
    (h3 : (0 ≤ b ∧ b < 3) → Exi (WM σ) → ∀ σ', mbf σ σ' → MBd σ' (uB (uB BL b (spr (lvB (ahm (σ 0 0) (WM σ)) (lm (BL b))) (BL b) (BL (nxB b))).1) (nxB b) (spr (lvB (ahm (σ 0 0) (WM σ)) (lm (BL b))) (BL b) (BL (nxB b))).2) → Q (some (nlv (lvB (ahm (σ 0 0) (WM σ)) (lm (BL b))) (BL b))) σ') : K (d + 7) mM_spread 0 [.inr 0, .inl b] [] σ Q := by
  have n0 : 0 ≤ σ 0 0 := hm.1.1.1
  have n8 : σ 0 0 ≤ 8 := hm.1.1.2
  refine bM_spread_0 (d := d + 6) hK (sM_isBundle hK rb (fun r hr => ?_))
  refine bM_spread_2 (d := d + 6) hK (r01_g hr) (fun g => ?_) (fun g => bM_spread_3 (d := d + 6) hK (h1 (r01_0 hr g)))
  have gb := r01_n hr g
  refine bM_spread_5 (d := d + 6) hK (sM_closeNow (d := d + 2) hK hm (fun r2 σ1 c hr2 => ?_))
  have hr3 := Nw_r hr2
  have cm := mfr_c c
  refine bM_spread_7 (d := d + 6) hK (r01_g hr3) (fun g2 => ?_) (fun g2 => bM_spread_8 (d := d + 6) hK (h2 gb (r01_0 hr3 g2) σ1 cm))
  have hE := r01_n hr3 g2
  have e00 : σ1 0 0 = σ 0 0 := c.2 0 (by decide)
  refine bM_spread_10 (d := d + 6) hK (sM_findAhead hK (Mok_m cm hm) (by rw [WM_m cm]; exact hE) (fun σ2 c2 hA => ?_))
  unfold AhI at hA
  rw [WM_m cm, e00] at hA
  have cm2 : mfr σ σ2 := mfr_tr cm (mfr_h c2)
  have hB2 := MBd_m cm2 hB
  obtain ⟨hnd, hrg⟩ := hV b gb.1 gb.2
  have hrg8 : ∀ x ∈ BL b, 0 ≤ x ∧ x < 8 := fun x hx => by have := hrg x hx; omega
  refine bM_spread_12 (d := d + 6) hK (sM_setIn hK gb.1 gb.2 hB2 hrg8 ?_)
  have nx0 : 0 ≤ nxB b ∧ nxB b < 3 ∧ nxB b ≠ b := by
    unfold nxB
    split <;> omega
  have enx : (b + 1).tmod 3 = nxB b := by
    rw [tmd 3 (by omega)]
    unfold nxB
    split <;> omega
  refine bM_spread_15 (d := d + 6) hK ⟨by omega, by omega⟩ ?_
  rw [enx]
  have hlm : lm (BL b) < 256 := by
    have := lm_lt hrg8 (BL b).length
    rw [List.take_length] at this
    exact this
  have Alt : ∀ a, ahm (σ 0 0) (WM σ) a < 256 := fun a => by
    have h1 := mk_lt (fun a' => Ahd (WM σ) a' a) (σ 0 0).toNat
    have h2 := pow_lt8 n8
    unfold ahm
    omega
  obtain ⟨nnd, nrg⟩ := hV (nxB b) nx0.1 nx0.2.1
  generalize hlv : lvB (ahm (σ 0 0) (WM σ)) (lm (BL b)) = lv at h3
  -- one after another
  have loop : ∀ (rem kept N : List Int) (v : Int) (τ : am_S), mbf σ τ → τ 12 = σ2 12 → MBd τ (uB (uB BL b (kept ++ rem)) (nxB b) N) → (∀ y ∈ rem, 0 ≤ y ∧ y < σ 0 0) → N.Nodup → (∀ y ∈ N, 0 ≤ y ∧ y < σ 0 0) → (kept ++ (spr lv rem N).1, (spr lv rem N).2) = spr lv (BL b) (BL (nxB b)) → v + nlv lv rem = nlv lv (BL b) → K (d + 7) mM_spread 26 [.inr 0, .inl b, .inl (lm (BL b) : Int), .inl (nxB b), .inl v, .inl (kept.length : Int)] [] τ Q := by
    intro rem
    induction rem with
    | nil =>
      intro kept N v τ cτ k12 hBt hrem hNd hNr hsp hcnt
      have hbt := hBt b gb.1 gb.2
      rw [uB_n _ _ nx0.2.2.symm, uB_e, List.append_nil] at hbt
      refine bM_spread_26 (d := d + 6) hK (by omega) ⟨by omega, by have := hbt.2; omega⟩ (by rw [hbt.1.1]; have := hbt.2; exact ⟨by omega, by omega⟩) (fun _ => bM_spread_77 (d := d + 6) hK ?_) (fun q => absurd q (by rw [hbt.1.1]; omega))
      have hn0 : nlv lv [] = 0 := rfl
      have e1 : v = nlv lv (BL b) := by omega
      have hs : (kept ++ [], N) = spr lv (BL b) (BL (nxB b)) := hsp
      rw [List.append_nil] at hs hBt
      have s1 : kept = (spr lv (BL b) (BL (nxB b))).1 := by rw [← hs]
      have s2 : N = (spr lv (BL b) (BL (nxB b))).2 := by rw [← hs]
      rw [e1]
      rw [s1, s2] at hBt
      exact h3 gb hE τ cτ hBt
    | cons x xs ih =>
      intro kept N v τ cτ k12 hBt hrem hNd hNr hsp hcnt
      have hbt := hBt b gb.1 gb.2
      rw [uB_n _ _ nx0.2.2.symm, uB_e] at hbt
      obtain ⟨⟨hsz, hrow⟩, hl8⟩ := hbt
      have hll : (kept ++ x :: xs).length = kept.length + xs.length + 1 := by simp; omega
      have hx := hrem x List.mem_cons_self
      have hrow0 := hrow kept.length (by omega)
      rw [List.getElem?_append_right (Nat.le_refl _), Nat.sub_self] at hrow0
      have ex : τ 15 (8 * b + (kept.length : Int)) = x := (Option.some.inj hrow0).symm
      refine bM_spread_26 (d := d + 6) hK (by omega) ⟨by omega, by omega⟩ (by rw [hsz]; exact ⟨by omega, by omega⟩) (fun q => absurd q (by rw [hsz]; omega)) (fun _ => ?_)
      have e12 : τ 12 x = (ahm (σ 0 0) (WM σ) x : Int) := by rw [k12, hA x hx.1 (by omega), if_pos hx.2]
      have eand : am_and (τ 12 x) (lm (BL b) : Int) = ((ahm (σ 0 0) (WM σ) x &&& lm (BL b) : Nat) : Int) := by
        rw [e12]
        exact and_nat (by have := Alt x; omega) (by omega)
      have elv : lv x = decide (ahm (σ 0 0) (WM σ) x &&& lm (BL b) ≠ 0) := by rw [← hlv]; rfl
      refine bM_spread_32 (d := d + 6) hK (by omega) (by rw [ex]; omega) (rng_and _ _) (fun q => ?_) (fun q => ?_)
      · rw [ex] at q ⊢
        rw [eand] at q
        have hlx : lv x = true := by rw [elv]; exact decide_eq_true (by omega)
        rw [spr_t hlx] at hsp
        have hcnt2 : nlv lv (x :: xs) = nlv lv xs + 1 := by unfold nlv; rw [List.filter_cons, if_pos hlx]; simp
        have hlen : kept.length < (uB (uB BL b (kept ++ x :: xs)) (nxB b) N b).length := by
          rw [uB_n _ _ nx0.2.2.symm, uB_e]
          omega
        refine bM_spread_50 (d := d + 6) hK (sM_takesOut hK hBt gb.1 gb.2 hlen (fun τ1 c1 hB1 => ?_))
        rw [uB_n _ _ nx0.2.2.symm, uB_e, erase_mid, uB_2 _ _ _ _ nx0.2.2] at hB1
        have enl : uB (uB BL b (kept ++ xs)) (nxB b) N (nxB b) = N := uB_e _ _ _
        refine bM_spread_54 (d := d + 6) hK (sM_placeIn hK hB1 nx0.1 nx0.2.1 ⟨by omega, by omega⟩ (fun y hy => by rw [enl] at hy; have := hNr y hy; exact ⟨by omega, by omega⟩) (fun r5 hr5 => ?_))
        rw [enl] at hr5
        have hN8 := (hB1 (nxB b) nx0.1 nx0.2.1).2
        rw [enl] at hN8
        obtain ⟨t1, t2⟩ := tog_ok hx.1 hx.2 hNd hNr
        have fin : ∀ τ2 v7, bfr τ1 τ2 → MBd τ2 (uB (uB BL b (kept ++ xs)) (nxB b) (tog x N)) → K (d + 7) mM_spread 76 [.inr 0, .inl b, .inl (lm (BL b) : Int), .inl (nxB b), .inl (v + 1), .inl (kept.length : Int), .inl x, .inl v7] [] τ2 Q := by
          intro τ2 v7 c3 hB3
          refine bM_spread_76 (d := d + 6) hK (ih kept (tog x N) (v + 1) τ2 (mbf_tr cτ (mbf_tr (mbf_b c1) (mbf_b c3))) ?_ hB3 (fun y hy => hrem y (List.mem_cons_of_mem _ hy)) t1 t2 hsp (by omega))
          rw [c3 12 (by decide) (by decide), c1 12 (by decide) (by decide)]
          exact k12
        refine bM_spread_59 (d := d + 6) hK (PlI_g hN8 hr5) (fun z => ?_) (fun z => ?_)
        · have hnx : x ∉ N := by
            rcases hr5 with ⟨-, y⟩ | ⟨i, y, -⟩
            · exact y
            · omega
          have hs14 := (hB1 (nxB b) nx0.1 nx0.2.1).1.1
          rw [enl] at hs14
          have h7 := nodup_room n8 hNd hNr hx.1 hx.2 hnx
          refine bM_spread_68 (d := d + 6) hK (by omega) ?_
          rw [hs14]
          refine sM_putsIn hK hB1 nx0.1 nx0.2.1 (by rw [enl]; exact Nat.le_refl _) (by rw [enl]; exact h7) (fun τ2 c3 hB3 => fin τ2 _ c3 ?_)
          rw [enl, uB_3] at hB3
          have et : tog x N = N.insertIdx N.length x := by
            unfold tog
            rw [if_neg hnx]
            simp
          rw [et]
          exact hB3
        · rcases hr5 with ⟨y, -⟩ | ⟨i, rfl, y⟩
          · exact absurd y z
          · refine bM_spread_63 (d := d + 6) hK (sM_takesOut hK hB1 nx0.1 nx0.2.1 (by rw [enl]; exact (List.getElem?_eq_some_iff.mp y).1) (fun τ2 c3 hB3 => bM_spread_67 (d := d + 6) hK (fin τ2 _ c3 ?_)))
            rw [enl, uB_3, erase_at hNd y] at hB3
            have et : tog x N = N.erase x := by
              unfold tog
              rw [if_pos (List.mem_of_getElem? y)]
            rw [et]
            exact hB3
      · rw [ex] at q ⊢
        rw [eand] at q
        have hlx : ¬ lv x = true := by rw [elv]; simp; omega
        rw [spr_f hlx] at hsp
        have hcnt2 : nlv lv (x :: xs) = nlv lv xs := by unfold nlv; rw [List.filter_cons, if_neg hlx]
        have := ih (kept ++ [x]) N v τ cτ k12 (by rw [List.append_assoc]; exact hBt) (fun y hy => hrem y (List.mem_cons_of_mem _ hy)) hNd hNr (by rw [List.append_assoc]; exact hsp) (by omega)
        refine bM_spread_48 (d := d + 6) hK ?_
        rw [List.length_append, show ((kept.length + [x].length : Nat) : Int) = (kept.length : Int) + 1 by simp] at this
        exact this
  refine loop (BL b) [] (BL (nxB b)) 0 σ2 (mbf_m cm2) rfl ?_ hrg nnd nrg rfl (by omega)
  rw [List.nil_append]
  intro x x0 x3
  have := hB2 x x0 x3
  by_cases e1 : x = nxB b
  · rw [e1, uB_e]
    rw [e1] at this
    exact this
  · rw [uB_n _ _ e1]
    by_cases e2 : x = b
    · rw [e2, uB_e]
      rw [e2] at this
      exact this
    · rw [uB_n _ _ e2]
      exact this
