/-! THE ANSWERS, as functions of the set of all ways -/
noncomputable def ic (p : Prop) (a b : Int) : Int := @ite Int p (Classical.propDecidable p) a b
theorem ic_t {p : Prop} (h : p) (a b : Int) : ic p a b = a := if_pos h
theorem ic_f {p : Prop} (h : ¬ p) (a b : Int) : ic p a b = b := if_neg h
noncomputable def icn (p : Prop) (a b : Nat) : Nat := @ite Nat p (Classical.propDecidable p) a b
theorem icn_t {p : Prop} (h : p) (a b : Nat) : icn p a b = a := if_pos h
theorem icn_f {p : Prop} (h : ¬ p) (a b : Nat) : icn p a b = b := if_neg h
/-- the set of those below n -/
noncomputable def mk (p : Int → Prop) : Nat → Nat
  | 0 => 0
  | n + 1 => mk p n ||| icn (p (n : Int)) (2 ^ n) 0
theorem mk_bit (p : Int → Prop) : ∀ (n k : Nat), (mk p n).testBit k = true ↔ k < n ∧ p (k : Int)
  | 0, k => by simp [mk]
  | n + 1, k => by
    rw [mk, Nat.testBit_or, Bool.or_eq_true, mk_bit p n k]
    by_cases hp : p (n : Int)
    · rw [icn_t hp, Nat.testBit_two_pow, decide_eq_true_iff]
      constructor
      · rintro (⟨a, b⟩ | rfl)
        · exact ⟨by omega, b⟩
        · exact ⟨by omega, hp⟩
      · rintro ⟨a, b⟩
        by_cases e : n = k
        · exact Or.inr e
        · exact Or.inl ⟨by omega, b⟩
    · rw [icn_f hp, Nat.zero_testBit]
      constructor
      · rintro (⟨a, b⟩ | h)
        · exact ⟨by omega, b⟩
        · cases h
      · rintro ⟨a, b⟩
        refine Or.inl ⟨?_, b⟩
        by_cases e : n = k
        · subst e
          exact absurd b hp
        · omega
theorem mk_lt (p : Int → Prop) (n : Nat) : mk p n < 2 ^ n := by
  apply Nat.lt_pow_two_of_testBit
  intro i hi
  cases h : (mk p n).testBit i with
  | false => rfl
  | true =>
    have := ((mk_bit p n i).mp h).1
    omega
theorem mk_cong {p q : Int → Prop} (n : Nat) (h : ∀ k : Nat, k < n → (p (k : Int) ↔ q (k : Int))) : mk p n = mk q n := by
  apply Nat.eq_of_testBit_eq
  intro i
  rw [Bool.eq_iff_iff, mk_bit, mk_bit]
  exact ⟨fun z => ⟨z.1, (h i z.1).mp z.2⟩, fun z => ⟨z.1, (h i z.1).mpr z.2⟩⟩
noncomputable def cnt (p : Int → Prop) : Nat → Int
  | 0 => 0
  | n + 1 => cnt p n + ic (p (n : Int)) 1 0
theorem cnt_r (p : Int → Prop) : ∀ n : Nat, 0 ≤ cnt p n ∧ cnt p n ≤ n
  | 0 => ⟨Int.le_refl 0, Int.le_refl 0⟩
  | n + 1 => by
    have h := cnt_r p n
    rw [cnt]
    by_cases hp : p (n : Int)
    · rw [ic_t hp]
      omega
    · rw [ic_f hp]
      omega
abbrev WS : Type := (Int → Int) → Prop
def SB (s : Nat) (k : Int) : Prop := s.testBit k.toNat = true
def WP (W : WS) (l y : Int) (w : Int → Int) : Prop := W w ∧ (l ≠ -9 → w l = y)
def LGW (n : Int) (W : WS) (l y : Int) (x z : Int → Int) : Prop := WP W l y x ∧ WP W l y z ∧ ∀ w, WP W l y w → ∀ a, 0 ≤ a → a < n → x a ≤ w a ∧ w a ≤ z a
def Exi (W : WS) : Prop := ∃ w, W w
def Can (W : WS) (a y : Int) : Prop := ∃ w, W w ∧ w a = y
noncomputable def Lst (n : Int) (W : WS) (l y : Int) : Int → Int := (Classical.epsilon (fun p : (Int → Int) × (Int → Int) => LGW n W l y p.1 p.2)).1
noncomputable def Gst (n : Int) (W : WS) (l y : Int) : Int → Int := (Classical.epsilon (fun p : (Int → Int) × (Int → Int) => LGW n W l y p.1 p.2)).2
theorem LGW_e {n : Int} {W : WS} {l y : Int} {x z : Int → Int} (h : LGW n W l y x z) : LGW n W l y (Lst n W l y) (Gst n W l y) :=
  Classical.epsilon_spec (p := fun p : (Int → Int) × (Int → Int) => LGW n W l y p.1 p.2) ⟨(x, z), h⟩
theorem LGW_u {n : Int} {W : WS} {l y : Int} {x z : Int → Int} (h : LGW n W l y x z) {a : Int} (a0 : 0 ≤ a) (an : a < n) : x a = Lst n W l y a ∧ z a = Gst n W l y a := by
  have e := LGW_e h
  have h1 := h.2.2 _ e.1 a a0 an
  have h2 := h.2.2 _ e.2.1 a a0 an
  have h3 := e.2.2 _ h.1 a a0 an
  have h4 := e.2.2 _ h.2.1 a a0 an
  omega
/-- the least difference -/
def IsGap (W : WS) (a b g : Int) : Prop := (∃ w, W w ∧ w b - w a = g) ∧ ∀ w, W w → g ≤ w b - w a
noncomputable def gp (W : WS) (a b : Int) : Int := Classical.epsilon (fun g => IsGap W a b g)
theorem gp_u {W : WS} {a b g : Int} (h : IsGap W a b g) : g = gp W a b := by
  have e : IsGap W a b (gp W a b) := Classical.epsilon_spec (p := fun g => IsGap W a b g) ⟨g, h⟩
  obtain ⟨⟨w, h1, h2⟩, h3⟩ := h
  obtain ⟨⟨w', h1', h2'⟩, h3'⟩ := e
  have := h3 w' h1'
  have := h3' w h1
  omega
def Ahd (W : WS) (a b : Int) : Prop := a ≠ b ∧ 0 < gp W a b
theorem Ahd_w {W : WS} {a b g : Int} (h : IsGap W a b g) : 0 < gp W a b ↔ ∀ w, W w → w a < w b := by
  rw [← gp_u h]
  obtain ⟨⟨w, h1, h2⟩, h3⟩ := h
  constructor
  · intro h0 w' hw
    have := h3 w' hw
    omega
  · intro h0
    have := h0 w h1
    omega
/-- those ahead of b -/
noncomputable def ahm (n : Int) (W : WS) (b : Int) : Nat := mk (fun a => Ahd W a b) n.toNat
/-- those that a is ahead of -/
noncomputable def bhm (n : Int) (W : WS) (a : Int) : Nat := mk (fun b => Ahd W a b) n.toNat
/-- the sum of what is left, if a's day were y -/
noncomputable def wdt (n : Int) (W : WS) (a y : Int) : Int := sumI (fun b => Gst n W a y b - Lst n W a y b) n.toNat
noncomputable def wst (n : Int) (W : WS) (a : Int) : Nat → Int
  | 0 => 0
  | y + 1 => ic (Can W a (y : Int)) (max (wst n W a y) (wdt n W a (y : Int))) (wst n W a y)
/-- the letter of the least worst -/
noncomputable def bst (n : Int) (W : WS) : Nat → Int × Int
  | 0 => (-9, 0)
  | a + 1 => if (bst n W a).1 = -9 ∨ wst n W (a : Int) 200 < (bst n W a).2 then ((a : Int), wst n W (a : Int) 200) else bst n W a
theorem SB_Sm {s : Nat} {k : Int} (k0 : 0 ≤ k) (k1 : k < 32) : Sm (s : Int) k ↔ SB s k := by
  unfold Sm SB
  have e : k = (k.toNat : Int) := by omega
  rw [e, bit_shr_nat (by omega)]
  rw [show ((k.toNat : Int)).toNat = k.toNat by omega]
  cases s.testBit k.toNat with
  | true => simp
  | false => simp
theorem Way_cong {P : PB} {S S' : Int → Prop} (h : ∀ k, 0 ≤ k → k < pm P → (S k ↔ S' k)) : Way P S = Way P S' := by
  funext w
  unfold Way Nts
  apply propext
  constructor
  · rintro ⟨a, b⟩
    exact ⟨a, fun k k0 k1 hs => b k k0 k1 ((h k k0 k1).mpr hs)⟩
  · rintro ⟨a, b⟩
    exact ⟨a, fun k k0 k1 hs => b k k0 k1 ((h k k0 k1).mp hs)⟩
/-- the ways by a set of notes -/
def WN (P : PB) (s : Nat) : WS := Way P (SB s)
theorem Way_r {P : PB} (hv : Vld P) {s : Nat} {w : Int → Int} (h : WN P s w) {a : Int} (a0 : 0 ≤ a) (an : a < pn P) : 0 ≤ w a ∧ w a ≤ 199 := by
  have h1 := h.1 a a0 an
  have h2 := hv.2.1 a a0 an
  omega
