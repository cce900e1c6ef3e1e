/-! THE PROBLEM: letters with stamps, notes; what a way is -/
abbrev PB : Type := Int × (Int → Int) × (Int → Int) × Int × (Int → Int) × (Int → Int) × (Int → Int) × (Int → Int)
abbrev pn (P : PB) : Int := P.1
abbrev pf (P : PB) : Int → Int := P.2.1
abbrev pl (P : PB) : Int → Int := P.2.2.1
abbrev pm (P : PB) : Int := P.2.2.2.1
abbrev ps (P : PB) : Int → Int := P.2.2.2.2.1
abbrev pa (P : PB) : Int → Int := P.2.2.2.2.2.1
abbrev pb (P : PB) : Int → Int := P.2.2.2.2.2.2.1
abbrev pd (P : PB) : Int → Int := P.2.2.2.2.2.2.2
/-- what a note asks -/
def nOK (so wa wb d : Int) : Prop := (so = 0 → wb + d ≤ wa) ∧ (so = 1 → wa - wb ≤ d ∧ wb - wa ≤ d) ∧ (so = 2 → d ≤ wa) ∧ (so = 3 → wa ≤ d) ∧ (so = 4 → wa % 7 = d)
def StpW (P : PB) (w : Int → Int) : Prop := ∀ a, 0 ≤ a → a < pn P → pf P a ≤ w a ∧ w a ≤ pl P a
def Nts (P : PB) (S : Int → Prop) (v : Int) (w : Int → Int) : Prop := ∀ k, 0 ≤ k → k < v → S k → nOK (ps P k) (w (pa P k)) (w (pb P k)) (pd P k)
def Way (P : PB) (S : Int → Prop) (w : Int → Int) : Prop := StpW P w ∧ Nts P S (pm P) w
def WayP (P : PB) (S : Int → Prop) (l y : Int) (w : Int → Int) : Prop := Way P S w ∧ (l ≠ -9 → w l = y)
def vN (P : PB) (k : Int) : Prop := (0 ≤ ps P k ∧ ps P k ≤ 4) ∧ (0 ≤ pa P k ∧ pa P k < pn P) ∧ (0 ≤ pb P k ∧ pb P k < pn P) ∧ (ps P k ≤ 1 → pa P k ≠ pb P k ∧ pd P k ≤ 99) ∧ (2 ≤ ps P k → pb P k = pa P k) ∧ (0 ≤ pd P k ∧ pd P k ≤ 199) ∧ (ps P k = 4 → pd P k ≤ 6)
def Vld (P : PB) : Prop := (0 ≤ pn P ∧ pn P ≤ 8) ∧ (∀ a, 0 ≤ a → a < pn P → 0 ≤ pf P a ∧ pf P a ≤ pl P a ∧ pl P a ≤ 199) ∧ (0 ≤ pm P ∧ pm P ≤ 10) ∧ ∀ k, 0 ≤ k → k < pm P → vN P k
/-! bounds between any two, and day 0 -/
def nde (n i : Int) : Prop := (0 ≤ i ∧ i < n) ∨ i = 8
def pl0 (w : Int → Int) (i : Int) : Int := if i = 8 then 0 else w i
theorem pl0_8 (w : Int → Int) : pl0 w 8 = 0 := if_pos rfl
theorem pl0_a (w : Int → Int) {i : Int} (h : i < 8) : pl0 w i = w i := if_neg (by omega)
def Sat (n : Int) (M w : Int → Int) : Prop := ∀ i j, nde n i → nde n j → pl0 w j - pl0 w i ≤ M (9 * i + j)
def Wk (n : Int) (wk w : Int → Int) : Prop := ∀ a, 0 ≤ a → a < n → wk a ≠ -9 → w a % 7 = wk a
theorem nde_r {n i : Int} (hn : n ≤ 8) (h : nde n i) : 0 ≤ i ∧ i < 9 := by rcases h with h | h <;> omega
theorem Sat_set {n : Int} (hn : n ≤ 8) {M M' w : Int → Int} {i j by' : Int} (hi : nde n i) (hj : nde n j) (h1 : M' (9 * i + j) = min by' (M (9 * i + j))) (h2 : ∀ q, q ≠ 9 * i + j → M' q = M q) : Sat n M' w ↔ Sat n M w ∧ pl0 w j - pl0 w i ≤ by' := by
  have ri := nde_r hn hi
  have rj := nde_r hn hj
  constructor
  · intro h
    have h0 := h i j hi hj
    rw [h1] at h0
    refine ⟨fun a b ha hb => ?_, by omega⟩
    have hab := h a b ha hb
    by_cases e : 9 * a + b = 9 * i + j
    · rw [e] at hab ⊢
      rw [h1] at hab
      omega
    · rw [h2 _ e] at hab
      exact hab
  · intro h a b ha hb
    have ra := nde_r hn ha
    have rb := nde_r hn hb
    have hab := h.1 a b ha hb
    by_cases e : 9 * a + b = 9 * i + j
    · have ea : a = i := by omega
      have eb : b = j := by omega
      subst ea
      subst eb
      rw [h1]
      omega
    · rw [h2 _ e]
      exact hab
/-- the stamps alone -/
theorem Sat_stp {P : PB} (hv : Vld P) {M w : Int → Int} (hO : ∀ a, 0 ≤ a → a < pn P → M (72 + a) = pl P a ∧ M (9 * a + 8) = -(pf P a)) (hD : ∀ i, nde (pn P) i → M (9 * i + i) = 0) (hF : ∀ i j, 0 ≤ i → i < pn P → 0 ≤ j → j < pn P → i ≠ j → M (9 * i + j) = 100000) : Sat (pn P) M w ↔ StpW P w := by
  obtain ⟨⟨n0, n8⟩, hst, -⟩ := hv
  constructor
  · intro h a a0 an
    obtain ⟨e1, e2⟩ := hO a a0 an
    have h1 := h 8 a (Or.inr rfl) (Or.inl ⟨a0, an⟩)
    have h2 := h a 8 (Or.inl ⟨a0, an⟩) (Or.inr rfl)
    rw [pl0_8, pl0_a w (by omega : a < 8)] at h1 h2
    rw [show (9 : Int) * 8 + a = 72 + a by omega, e1] at h1
    rw [e2] at h2
    omega
  · intro h i j hi hj
    by_cases e : i = j
    · subst e
      rw [hD i hi]
      omega
    · rcases hi with hi | rfl
      · have g1 := h i hi.1 hi.2
        have g2 := hst i hi.1 hi.2
        rcases hj with hj | rfl
        · have g3 := h j hj.1 hj.2
          have g4 := hst j hj.1 hj.2
          rw [hF i j hi.1 hi.2 hj.1 hj.2 e, pl0_a w (by omega : i < 8), pl0_a w (by omega : j < 8)]
          omega
        · rw [(hO i hi.1 hi.2).2, pl0_8, pl0_a w (by omega : i < 8)]
          omega
      · rcases hj with hj | rfl
        · have g3 := h j hj.1 hj.2
          have g5 := (hO j hj.1 hj.2).1
          rw [show (9 : Int) * 8 + j = 72 + j by omega, g5, pl0_8, pl0_a w (by omega : j < 8)]
          omega
        · exact absurd rfl e
/-- a bound that goes by way of a third says nothing new -/
theorem Sat_via {n : Int} (hn : n ≤ 8) {M M' w : Int → Int} {i j k : Int} (hi : nde n i) (hj : nde n j) (hk : nde n k) (h1 : M' (9 * i + j) = min (M (9 * i + k) + M (9 * k + j)) (M (9 * i + j))) (h2 : ∀ q, q ≠ 9 * i + j → M' q = M q) : Sat n M' w ↔ Sat n M w := by
  rw [Sat_set hn hi hj h1 h2]
  refine ⟨fun h => h.1, fun h => ⟨h, ?_⟩⟩
  have h3 := h i k hi hk
  have h4 := h k j hk hj
  omega
def wk0 (wk : Int → Int) (i : Int) : Prop := wk i ≠ -9
/-- days of the week make a bound less, but for none that keeps them -/
theorem Sat_week {n : Int} (hn : n ≤ 8) {M M' wk w : Int → Int} {i j : Int} (hi : nde n i) (hj : nde n j) (h8 : wk 8 = 0) (wi : wk i ≠ -9) (wj : wk j ≠ -9) (hw : Wk n wk w) (h1 : M' (9 * i + j) = M (9 * i + j) - (M (9 * i + j) - wk j + wk i) % 7) (h2 : ∀ q, q ≠ 9 * i + j → M' q = M q) : Sat n M' w ↔ Sat n M w := by
  have ri := nde_r hn hi
  have rj := nde_r hn hj
  have ci : pl0 w i % 7 = wk i % 7 := by
    rcases hi with hi | rfl
    · rw [pl0_a w (by omega : i < 8), ← hw i hi.1 hi.2 wi]
      omega
    · rw [pl0_8, h8]
  have cj : pl0 w j % 7 = wk j % 7 := by
    rcases hj with hj | rfl
    · rw [pl0_a w (by omega : j < 8), ← hw j hj.1 hj.2 wj]
      omega
    · rw [pl0_8, h8]
  constructor
  · intro h a b ha hb
    have hab := h a b ha hb
    by_cases e : 9 * a + b = 9 * i + j
    · rw [e] at hab ⊢
      rw [h1] at hab
      omega
    · rw [h2 _ e] at hab
      exact hab
  · intro h a b ha hb
    have ra := nde_r hn ha
    have rb := nde_r hn hb
    have hab := h a b ha hb
    by_cases e : 9 * a + b = 9 * i + j
    · have ea : a = i := by omega
      have eb : b = j := by omega
      subst ea
      subst eb
      rw [h1]
      omega
    · rw [h2 _ e]
      exact hab
/-- drawn together, no cycle below 0, days of the week kept: the least and the greatest of all that keep the bounds -/
theorem closed_ends {n : Int} (n0 : 0 ≤ n) (hn : n ≤ 8) {M wk : Int → Int} (h8 : wk 8 = 0) (hr : ∀ a, 0 ≤ a → a < 8 → wk a = -9 ∨ (0 ≤ wk a ∧ wk a ≤ 6))
    (hd : ∀ k, nde n k → 0 ≤ M (9 * k + k)) (ht : ∀ i j k, nde n i → nde n j → nde n k → M (9 * i + j) ≤ M (9 * i + k) + M (9 * k + j))
    (hb : ∀ i j, nde n i → nde n j → i ≠ j → wk i ≠ -9 → wk j ≠ -9 → (M (9 * i + j) - wk j + wk i) % 7 = 0) :
    (Sat n M (fun a => -(M (9 * a + 8))) ∧ Wk n wk (fun a => -(M (9 * a + 8)))) ∧ (Sat n M (fun a => M (72 + a)) ∧ Wk n wk (fun a => M (72 + a))) ∧
    ∀ w, Sat n M w → ∀ a, 0 ≤ a → a < n → -(M (9 * a + 8)) ≤ w a ∧ w a ≤ M (72 + a) := by
  have o8 : nde n 8 := Or.inr rfl
  have h88 : M 80 = 0 ∨ 0 ≤ M 80 := by
    have := hd 8 o8
    right
    exact this
  refine ⟨⟨fun i j hi hj => ?_, fun a a0 an wa => ?_⟩, ⟨fun i j hi hj => ?_, fun a a0 an wa => ?_⟩, fun w hw a a0 an => ?_⟩
  · have ri := nde_r hn hi
    have rj := nde_r hn hj
    have t1 := ht i 8 j hi o8 hj
    by_cases ei : i = 8
    · subst ei
      by_cases ej : j = 8
      · subst ej
        rw [pl0_8]
        have := hd 8 o8
        omega
      · rw [pl0_8, pl0_a _ (by omega : j < 8)]
        have t2 := ht 8 8 j o8 o8 hj
        have := hd 8 o8
        omega
    · rw [pl0_a _ (by omega : i < 8)]
      by_cases ej : j = 8
      · subst ej
        rw [pl0_8]
        omega
      · rw [pl0_a _ (by omega : j < 8)]
        omega
  · have c := hb a 8 (Or.inl ⟨a0, an⟩) o8 (by omega) wa (by rw [h8]; decide)
    have hra := hr a a0 (by omega)
    rw [h8] at c
    show (-(M (9 * a + 8))) % 7 = wk a
    rcases hra with q | q
    · exact absurd q wa
    · omega
  · have ri := nde_r hn hi
    have rj := nde_r hn hj
    by_cases ei : i = 8
    · subst ei
      by_cases ej : j = 8
      · subst ej
        rw [pl0_8]
        have := hd 8 o8
        omega
      · rw [pl0_8, pl0_a _ (by omega : j < 8), show (9 : Int) * 8 + j = 72 + j by omega]
        omega
    · rw [pl0_a _ (by omega : i < 8)]
      by_cases ej : j = 8
      · subst ej
        rw [pl0_8]
        have t2 := ht 8 8 i o8 o8 hi
        have := hd 8 o8
        rw [show (9 : Int) * 8 + i = 72 + i by omega] at t2
        omega
      · rw [pl0_a _ (by omega : j < 8)]
        have t2 := ht 8 j i o8 hj hi
        rw [show (9 : Int) * 8 + i = 72 + i by omega, show (9 : Int) * 8 + j = 72 + j by omega] at t2
        omega
  · have c := hb 8 a o8 (Or.inl ⟨a0, an⟩) (by omega) (by rw [h8]; decide) wa
    have hra := hr a a0 (by omega)
    rw [h8, show (9 : Int) * 8 + a = 72 + a by omega] at c
    show M (72 + a) % 7 = wk a
    rcases hra with q | q
    · exact absurd q wa
    · omega
  · have ha : nde n a := Or.inl ⟨a0, an⟩
    have h1 := hw a 8 ha o8
    have h2 := hw 8 a o8 ha
    rw [pl0_8, pl0_a w (by omega : a < 8)] at h1 h2
    rw [show (9 : Int) * 8 + a = 72 + a by omega] at h2
    omega
/-! sums -/
def sumI (f : Int → Int) : Nat → Int
  | 0 => 0
  | n + 1 => sumI f n + f (n : Int)
theorem sumI_le {f g : Int → Int} : ∀ (n : Nat), (∀ q : Int, 0 ≤ q → q < n → f q ≤ g q) → sumI f n ≤ sumI g n
  | 0, _ => Int.le_refl _
  | n + 1, h => by
    have h1 := sumI_le n (fun q h0 h1 => h q h0 (by omega))
    have h2 := h n (by omega) (by omega)
    show sumI f n + f n ≤ sumI g n + g n
    omega
theorem sumI_lt {f g : Int → Int} : ∀ (n : Nat), (∀ q : Int, 0 ≤ q → q < n → f q ≤ g q) → (∃ q : Int, 0 ≤ q ∧ q < n ∧ f q < g q) → sumI f n < sumI g n
  | 0, _, ⟨q, h0, h1, _⟩ => by omega
  | n + 1, h, ⟨q, h0, h1, h2⟩ => by
    have h3 := h n (by omega) (by omega)
    show sumI f n + f n < sumI g n + g n
    by_cases e : q = n
    · have h4 := sumI_le n (fun q h0 h1 => h q h0 (by omega))
      subst e
      omega
    · have h4 := sumI_lt n (fun q h0 h1 => h q h0 (by omega)) ⟨q, h0, by omega, h2⟩
      omega
theorem sumI_lb {f : Int → Int} {c : Int} : ∀ (n : Nat), (∀ q : Int, 0 ≤ q → q < n → c ≤ f q) → c * n ≤ sumI f n
  | 0, _ => by simp [sumI]
  | n + 1, h => by
    have h1 := sumI_lb n (fun q h0 h1 => h q h0 (by omega))
    have h2 := h n (by omega) (by omega)
    show c * ((n + 1 : Nat) : Int) ≤ sumI f n + f n
    have e : c * ((n + 1 : Nat) : Int) = c * n + c := by rw [Int.natCast_add, Int.mul_add]; simp
    omega
theorem sumI_cong {f g : Int → Int} : ∀ (n : Nat), (∀ q : Int, 0 ≤ q → q < n → f q = g q) → sumI f n = sumI g n
  | 0, _ => rfl
  | n + 1, h => by
    show sumI f n + f n = sumI g n + g n
    rw [sumI_cong n (fun q h0 h1 => h q h0 (by omega)), h n (by omega) (by omega)]
