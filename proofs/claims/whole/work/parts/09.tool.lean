/-! tools: bits (the first rows are of the kit's laws/BITS.to-paste), numbers, loops -/
def bt (x : Int32) (i : Nat) : Bool := x.toBitVec.getLsbD i
theorem b_ext {x y : Int32} (h : ∀ i, i < 32 → bt x i = bt y i) : x = y := Int32.toBitVec_inj.mp (BitVec.eq_of_getLsbD_eq (fun i hi => h i hi))
theorem b_or (x y : Int32) (i : Nat) : bt (x ||| y) i = (bt x i || bt y i) := by unfold bt; rw [Int32.toBitVec_or, BitVec.getLsbD_or]
theorem b_and (x y : Int32) (i : Nat) : bt (x &&& y) i = (bt x i && bt y i) := by unfold bt; rw [Int32.toBitVec_and, BitVec.getLsbD_and]
theorem b_xor (x y : Int32) (i : Nat) : bt (x ^^^ y) i = (bt x i ^^ bt y i) := by unfold bt; rw [Int32.toBitVec_xor, BitVec.getLsbD_xor]
theorem b_big {x : Int32} {i : Nat} (h : 32 ≤ i) : bt x i = false := BitVec.getLsbD_of_ge _ _ h
theorem b_m1 : ∀ i, i < 32 → bt (-1) i = true := by decide +kernel
theorem b_0 (i : Nat) : bt 0 i = false := BitVec.getLsbD_zero
theorem s_l : ∀ n, n < 32 → ((nI n &&& 31).toBitVec.smod 32).toNat = n := by decide +kernel
theorem s_u : ∀ n, n < 32 → (((nI n).toUInt32 &&& Int32.toUInt32 31).toBitVec % 32).toNat = n := by decide +kernel
theorem b_shl (n : Nat) (hn : n < 32) (x : Int32) {i : Nat} (hi : i < 32) : bt (x <<< (nI n &&& 31)) i = (decide (n ≤ i) && bt x (i - n)) := by
  unfold bt
  rw [Int32.toBitVec_shiftLeft]
  show (x.toBitVec <<< ((nI n &&& 31).toBitVec.smod 32).toNat).getLsbD i = _
  rw [s_l n hn, BitVec.getLsbD_shiftLeft]
  rcases Nat.lt_or_ge i n with h | h
  · simp [h, Nat.not_le.mpr h]
  · simp [hi, h, Nat.not_lt.mpr h]
theorem b_ushr (n : Nat) (hn : n < 32) (x : Int32) (i : Nat) : bt ((x.toUInt32 >>> ((nI n).toUInt32 &&& Int32.toUInt32 31)).toInt32) i = bt x (n + i) := by
  show (x.toUInt32 >>> ((nI n).toUInt32 &&& Int32.toUInt32 31)).toBitVec.getLsbD i = x.toUInt32.toBitVec.getLsbD (n + i)
  rw [UInt32.toBitVec_shiftRight]
  show (x.toUInt32.toBitVec >>> (((nI n).toUInt32 &&& Int32.toUInt32 31).toBitVec % 32).toNat).getLsbD i = _
  rw [s_u n hn, BitVec.getLsbD_ushiftRight]
theorem b_sshr (n : Nat) (hn : n < 32) (x : Int32) {i : Nat} (hi : i < 32) : bt (x >>> (nI n &&& 31)) i = if n + i < 32 then bt x (n + i) else bt x 31 := by
  unfold bt
  rw [Int32.toBitVec_shiftRight]
  show (x.toBitVec.sshiftRight ((nI n &&& 31).toBitVec.smod 32).toNat).getLsbD i = _
  rw [s_l n hn, BitVec.getLsbD_sshiftRight, BitVec.msb_eq_getLsbD_last]
  simp [hi]
def tb (x : Int) (k : Nat) : Bool := bt (Int32.ofInt x) k
theorem rng_i (x : Int32) : am_rng x.toInt := ⟨by have := Int32.le_toInt x; omega, by have := Int32.toInt_lt x; omega⟩
theorem rng_and (x y : Int) : am_rng (am_and x y) := rng_i _
theorem rng_or (x y : Int) : am_rng (am_or x y) := rng_i _
theorem rng_xor (x y : Int) : am_rng (am_xor x y) := rng_i _
theorem rng_shl (x y : Int) : am_rng (am_shl x y) := rng_i _
theorem rng_shr (x y : Int) : am_rng (am_shr x y) := rng_i _
theorem rng_mk {x : Int} (h1 : -2147483648 ≤ x) (h2 : x ≤ 2147483647) : am_rng x := ⟨h1, h2⟩
theorem tb_ext {x y : Int} (hx : am_rng x) (hy : am_rng y) (h : ∀ k, k < 32 → tb x k = tb y k) : x = y := (am_eq hx hy).mp (b_ext h)
theorem tb_and (x y : Int) (k : Nat) : tb (am_and x y) k = (tb x k && tb y k) := by
  unfold tb am_and
  rw [Int32.ofInt_toInt, b_and]
theorem tb_or (x y : Int) (k : Nat) : tb (am_or x y) k = (tb x k || tb y k) := by
  unfold tb am_or
  rw [Int32.ofInt_toInt, b_or]
theorem tb_xor (x y : Int) (k : Nat) : tb (am_xor x y) k = (tb x k ^^ tb y k) := by
  unfold tb am_xor
  rw [Int32.ofInt_toInt, b_xor]
theorem tb_not (x : Int) {k : Nat} (hk : k < 32) : tb (am_xor x (-1)) k = !tb x k := by
  rw [tb_xor, show tb (-1) k = true from b_m1 k hk]
  cases tb x k <;> rfl
theorem tb_nat (n k : Nat) : tb (n : Int) k = (decide (k < 32) && n.testBit k) := by
  unfold tb bt
  rw [Int32.toBitVec_ofInt, BitVec.ofInt_natCast, BitVec.getLsbD_ofNat]
theorem tb_shr (x : Int) {k : Nat} (hk : k < 32) : tb (am_shr x (k : Int)) 0 = tb x k := by
  unfold tb am_shr
  rw [Int32.ofInt_toInt, Int32.ofInt_eq_ofNat]
  have h := b_sshr k hk (Int32.ofInt x) (i := 0) (by decide)
  rw [show Int32.ofNat k = nI k from rfl, h, Nat.add_zero, if_pos hk]
theorem tb_one : ∀ k, k < 32 → tb 1 k = decide (k = 0) := by decide +kernel
theorem tb_zero (k : Nat) : tb 0 k = false := b_0 k
theorem bit_shr (x : Int) {k : Nat} (hk : k < 32) : am_and (am_shr x (k : Int)) 1 = if tb x k = true then 1 else 0 := by
  refine tb_ext (rng_and _ _) (by split <;> exact ⟨by decide, by decide⟩) (fun i hi => ?_)
  rw [tb_and, tb_one i hi]
  by_cases h0 : i = 0
  · subst h0
    rw [tb_shr x hk]
    cases tb x k <;> decide
  · rw [decide_eq_false h0, Bool.and_false]
    split
    · rw [tb_one i hi, decide_eq_false h0]
    · exact (tb_zero i).symm
theorem shl_nat : ∀ k : Nat, k < 31 → am_shl 1 (k : Int) = ((2 ^ k : Nat) : Int) := by decide +kernel
theorem and_nat {a b : Nat} (ha : a < 2147483648) (hb : b < 2147483648) : am_and (a : Int) (b : Int) = ((a &&& b : Nat) : Int) := by
  refine tb_ext (rng_and _ _) ⟨by omega, by have := Nat.and_le_left (n := a) (m := b); omega⟩ (fun k hk => ?_)
  rw [tb_and, tb_nat, tb_nat, tb_nat, Nat.testBit_and]
  simp [hk]
theorem or_nat {a b : Nat} (ha : a < 2147483648) (hb : b < 2147483648) : am_or (a : Int) (b : Int) = ((a ||| b : Nat) : Int) := by
  refine tb_ext (rng_or _ _) ⟨by omega, by have := Nat.or_lt_two_pow (n := 31) (x := a) (y := b) (by omega) (by omega); omega⟩ (fun k hk => ?_)
  rw [tb_or, tb_nat, tb_nat, tb_nat, Nat.testBit_or]
  simp [hk]
theorem xor_nat {a b : Nat} (ha : a < 2147483648) (hb : b < 2147483648) : am_xor (a : Int) (b : Int) = ((a ^^^ b : Nat) : Int) := by
  refine tb_ext (rng_xor _ _) ⟨by omega, by have := Nat.xor_lt_two_pow (n := 31) (x := a) (y := b) (by omega) (by omega); omega⟩ (fun k hk => ?_)
  rw [tb_xor, tb_nat, tb_nat, tb_nat, Nat.testBit_xor]
  simp [hk]
/-- those of a that aren't in b -/
def nd (a b : Nat) : Nat := a &&& (a ^^^ b)
theorem nd_bit (a b k : Nat) : (nd a b).testBit k = (a.testBit k && !b.testBit k) := by
  unfold nd
  rw [Nat.testBit_and, Nat.testBit_xor]
  cases a.testBit k <;> cases b.testBit k <;> rfl
theorem nd_le (a b : Nat) : nd a b ≤ a := Nat.and_le_left
theorem andn_nat {a b : Nat} (ha : a < 2147483648) : am_and (a : Int) (am_xor (b : Int) (-1)) = ((nd a b : Nat) : Int) := by
  refine tb_ext (rng_and _ _) ⟨by omega, by have := nd_le a b; omega⟩ (fun k hk => ?_)
  rw [tb_and, tb_not _ hk, tb_nat, tb_nat, tb_nat, nd_bit]
  simp [hk]
theorem bit_shr_nat {a k : Nat} (hk : k < 32) : am_and (am_shr (a : Int) (k : Int)) 1 = if a.testBit k = true then 1 else 0 := by
  rw [bit_shr _ hk, tb_nat]
  simp [hk]
theorem and_shl {a k : Nat} (ha : a < 2147483648) (hk : k < 31) : am_and (a : Int) (am_shl 1 (k : Int)) = if a.testBit k = true then ((2 ^ k : Nat) : Int) else 0 := by
  have h2 : 2 ^ k < 2147483648 := by have := Nat.pow_lt_pow_right (a := 2) (by decide) hk; omega
  rw [shl_nat k hk, and_nat ha h2]
  have e : a &&& 2 ^ k = if a.testBit k = true then 2 ^ k else 0 := by
    apply Nat.eq_of_testBit_eq
    intro i
    rw [Nat.testBit_and, Nat.testBit_two_pow]
    by_cases h : k = i
    · subst h
      cases hb : a.testBit k <;> simp
    · rw [decide_eq_false h, Bool.and_false]
      split
      · rw [Nat.testBit_two_pow, decide_eq_false h]
      · exact (Nat.zero_testBit i).symm
  rw [e]
  split <;> rfl
theorem and_shl0 {a k : Nat} (ha : a < 2147483648) (hk : k < 31) : am_and (a : Int) (am_shl 1 (k : Int)) = 0 ↔ a.testBit k = false := by
  rw [and_shl ha hk]
  cases a.testBit k with
  | false => simp
  | true =>
    have h2 : 0 < 2 ^ k := Nat.two_pow_pos k
    rw [if_pos rfl]
    constructor
    · intro h
      have h3 : 2 ^ k = 0 := Int.natCast_eq_zero.mp h
      omega
    · intro h
      cases h
/-! numbers -/
theorem tdv {x : Int} (b : Int) (h : 0 ≤ x) : x.tdiv b = x / b := Int.tdiv_eq_ediv_of_nonneg h
theorem tmd {x : Int} (b : Int) (h : 0 ≤ x) : x.tmod b = x % b := Int.tmod_eq_emod_of_nonneg h
theorem tm7 (e : Int) : (0 ≤ e.tmod 7 → e.tmod 7 = e % 7) ∧ (e.tmod 7 < 0 → e.tmod 7 + 7 = e % 7) ∧ -7 < e.tmod 7 ∧ e.tmod 7 < 7 := by
  have h1 := Int.tmod_lt_of_pos e (b := 7) (by decide)
  have h2 := Int.lt_tmod_of_pos e (b := 7) (by decide)
  have h3 := Int.tmod_eq_emod (a := e) (b := 7)
  have h4 : (7 : Int).natAbs = 7 := rfl
  rw [h4] at h3
  split at h3 <;> (refine ⟨fun _ => ?_, fun _ => ?_, ?_, ?_⟩ <;> omega)
/-! loops -/
theorem am_up {τ : Type} {n : Int} {P C : Int → τ → Prop} (hend : ∀ t, P n t → C n t) (hstep : ∀ i t, i < n → P i t → (∀ t', P (i + 1) t' → C (i + 1) t') → C i t) : ∀ (i : Int) (t : τ), i ≤ n → P i t → C i t := by
  have h : ∀ (f : Nat) (i : Int) (t : τ), i ≤ n → (n - i).toNat = f → P i t → C i t := by
    intro f
    induction f with
    | zero =>
      intro i t hi hf hp
      have e : i = n := by omega
      subst e
      exact hend t hp
    | succ f ih =>
      intro i t hi hf hp
      exact hstep i t (by omega) hp (fun t' hp' => ih (i + 1) t' (by omega) (by omega) hp')
  exact fun i t hi hp => h _ i t hi rfl hp
theorem am_dn {τ : Type} {n : Int} {P C : Int → τ → Prop} (hend : ∀ t, P n t → C n t) (hstep : ∀ i t, n < i → P i t → (∀ t', P (i - 1) t' → C (i - 1) t') → C i t) : ∀ (i : Int) (t : τ), n ≤ i → P i t → C i t := by
  have h : ∀ (f : Nat) (i : Int) (t : τ), n ≤ i → (i - n).toNat = f → P i t → C i t := by
    intro f
    induction f with
    | zero =>
      intro i t hi hf hp
      have e : i = n := by omega
      subst e
      exact hend t hp
    | succ f ih =>
      intro i t hi hf hp
      exact hstep i t (by omega) hp (fun t' hp' => ih (i - 1) t' (by omega) (by omega) hp')
  exact fun i t hi hp => h _ i t hi rfl hp
/-! stores -/
theorem us_s (σ : am_S) (r : Nat) (i v j : Int) : am_us σ r i v r j = if j = i then v else σ r j := am_us_s
theorem us_o (σ : am_S) {r k : Nat} (i v : Int) (h : k ≠ r) : am_us σ r i v k = σ k := am_us_o h
theorem us_e (σ : am_S) (r : Nat) (i v : Int) : am_us σ r i v r i = v := by rw [us_s, if_pos rfl]
theorem us_n (σ : am_S) (r : Nat) {i j : Int} (v : Int) (h : j ≠ i) : am_us σ r i v r j = σ r j := by rw [us_s, if_neg h]
