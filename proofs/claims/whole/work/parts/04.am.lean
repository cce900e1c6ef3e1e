/-! the abstract machine: values are whole numbers or cells by their numbers; the state: cell, place, number -/
abbrev am_V : Type := Int ⊕ Nat
abbrev am_S : Type := Nat → Int → Int
abbrev am_Q : Type := Option Int → am_S → Prop
abbrev am_KT : Type := Nat → Nat → Nat → List am_V → List am_V → am_S → am_Q → Prop
abbrev am_L : Type := Nat × Nat × List (Option Nat)
def am_us (σ : am_S) (k : Nat) (i x : Int) : am_S := fun k' j => if k' = k ∧ j = i then x else σ k' j
def am_rng (x : Int) : Prop := -2147483648 ≤ x ∧ x ≤ 2147483647
def am_tab (μ : Nat) : List am_En := (am_tabs[μ]?).getD []
def am_met (μ : Nat) : am_Me := (am_mets[μ]?).getD (⟨"", "", ""⟩, ⟨#[]⟩, 0, none, 99, [])
def am_law : Nat := 131
def am_NC : Nat := 60
/-- the cells: kind (0 an object, 1 ints, 2 booleans, 3 references, 4 the script), class or length, references -/
def am_lay : List am_L := [
  (0, 8, [none, some 1, some 2, none, some 3, some 4, some 5, some 6, some 7, some 8, some 9, some 10, none, some 11, some 12, some 13, some 14, some 15]),
  (1, 8, []),
  (1, 8, []),
  (1, 10, []),
  (1, 10, []),
  (1, 10, []),
  (1, 10, []),
  (1, 10, []),
  (2, 10, []),
  (1, 81, []),
  (1, 9, []),
  (1, 8, []),
  (1, 8, []),
  (1, 256, []),
  (1, 3, []),
  (1, 24, []),
  (0, 7, [some 17, some 20, some 26, some 41, some 50, some 53]),
  (0, 2, [none, some 18, some 19]),
  (1, 8, []),
  (1, 8, []),
  (0, 3, [none, none, some 21, some 22, some 23, some 24, some 25]),
  (1, 10, []),
  (1, 10, []),
  (1, 10, []),
  (1, 10, []),
  (1, 10, []),
  (0, 5, [none, some 27, some 28, some 17, some 20, some 34, none, none, some 29, some 30, some 31, some 32, some 33]),
  (1, 8, []),
  (1, 8, []),
  (1, 8, []),
  (1, 1600, []),
  (1, 8, []),
  (1, 64, []),
  (1, 8, []),
  (0, 6, [none, none, some 35, some 36, some 37, none, some 38, some 39, some 40]),
  (1, 8, []),
  (1, 8, []),
  (1, 8, []),
  (1, 20, []),
  (1, 20, []),
  (1, 20, []),
  (0, 1, [none, some 17, some 20, some 43, some 42, none, none, none, none]),
  (1, 8, []),
  (0, 6, [none, none, some 44, some 45, some 46, none, some 47, some 48, some 49]),
  (1, 8, []),
  (1, 8, []),
  (1, 8, []),
  (1, 20, []),
  (1, 20, []),
  (1, 20, []),
  (0, 4, [none, some 51, some 52]),
  (1, 8, []),
  (1, 256, []),
  (3, 3, [some 54, some 56, some 58]),
  (0, 0, [none, some 55]),
  (1, 8, []),
  (0, 0, [none, some 57]),
  (1, 8, []),
  (0, 0, [none, some 59]),
  (1, 8, []),
  (4, 0, [])]
def am_lset : List am_V → Nat → am_V → List am_V
  | [], 0, v => [v]
  | [], _ + 1, _ => []
  | _ :: xs, 0, v => v :: xs
  | x :: xs, k + 1, v => x :: am_lset xs k v
def am_gi (lv : List am_V) (a : Nat) (f : Int → Prop) : Prop := match lv[a]? with
  | some (.inl x) => f x
  | _ => False
def am_gr (lv : List am_V) (a : Nat) (f : Nat → Prop) : Prop := match lv[a]? with
  | some (.inr r) => f r
  | _ => False
def am_p1 (st : List am_V) (f : Int → List am_V → Prop) : Prop := match st with
  | .inl x :: st' => f x st'
  | _ => False
def am_r1 (st : List am_V) (f : Nat → List am_V → Prop) : Prop := match st with
  | .inr r :: st' => f r st'
  | _ => False
def am_p2 (st : List am_V) (f : Int → Int → List am_V → Prop) : Prop := match st with
  | .inl y :: .inl x :: st' => f x y st'
  | _ => False
/-- number, cell -/
def am_pr (st : List am_V) (f : Int → Nat → List am_V → Prop) : Prop := match st with
  | .inl x :: .inr r :: st' => f x r st'
  | _ => False
/-- number, index, cell -/
def am_pir (st : List am_V) (f : Int → Int → Nat → List am_V → Prop) : Prop := match st with
  | .inl x :: .inl i :: .inr r :: st' => f x i r st'
  | _ => False
def am_g (b : Bool) (P : Prop) : Prop := match b with
  | true => P
  | false => False
def am_rel (c : ClassFile.Cond) (x y : Int) : Prop := match c with
  | .eq => x = y
  | .ne => x ≠ y
  | .lt => x < y
  | .ge => y ≤ x
  | .gt => y < x
  | .le => x ≤ y
def am_br (c : ClassFile.Cond) (x y : Int) (T F : Prop) : Prop := match c with
  | .eq => am_rng x ∧ am_rng y ∧ (x = y → T) ∧ (x ≠ y → F)
  | .ne => am_rng x ∧ am_rng y ∧ (x ≠ y → T) ∧ (x = y → F)
  | .lt => am_rng x ∧ am_rng y ∧ (x < y → T) ∧ (y ≤ x → F)
  | .ge => am_rng x ∧ am_rng y ∧ (y ≤ x → T) ∧ (x < y → F)
  | .gt => am_rng x ∧ am_rng y ∧ (y < x → T) ∧ (x ≤ y → F)
  | .le => am_rng x ∧ am_rng y ∧ (x ≤ y → T) ∧ (y < x → F)
/-- the law's own comparison of two answers: of equal ones nothing more is asked -/
def am_brq (c : ClassFile.Cond) (x y : Int) (T F : Prop) : Prop := match c with
  | .eq => (x = y → T) ∧ (x ≠ y → am_rng x ∧ am_rng y ∧ F)
  | c => am_br c x y T F
def am_and (x y : Int) : Int := (Int32.ofInt x &&& Int32.ofInt y).toInt
def am_or (x y : Int) : Int := (Int32.ofInt x ||| Int32.ofInt y).toInt
def am_xor (x y : Int) : Int := (Int32.ofInt x ^^^ Int32.ofInt y).toInt
def am_shl (x y : Int) : Int := (Int32.ofInt x <<< (Int32.ofInt y &&& 31)).toInt
def am_shr (x y : Int) : Int := (Int32.ofInt x >>> (Int32.ofInt y &&& 31)).toInt
def am_ushr (x y : Int) : Int := ((Int32.ofInt x).toUInt32 >>> ((Int32.ofInt y).toUInt32 &&& Int32.toUInt32 31)).toInt32.toInt
def am_sw (x : Int) (f : Nat → Prop) : Int → List Nat → Prop
  | _, [] => True
  | i, t :: ts => (x = i → f t) ∧ am_sw x f (i + 1) ts
def am_o : Option Int → List am_V
  | some x => [.inl x]
  | none => []
def am_rz (μ : Nat) (x : Int) : Prop := match (am_met μ).2.2.2.1 with
  | some .boolean => x = 0 ∨ x = 1
  | _ => True
def am_fld (r ci y : Nat) (fr : Nat → Prop) (fi : Prop) : Prop := match am_lay[r]? with
  | some (0, c, refs) => am_g (Nat.beq c ci) (match refs[y]? with
    | some (some t) => fr t
    | some none => fi
    | none => False)
  | _ => False
def am_isO (r ci : Nat) : Bool := match am_lay[r]? with
  | some (0, c, _) => Nat.beq c ci
  | _ => false
def am_ins (K : am_KT) (d μ k : Nat) (lv st : List am_V) (σ : am_S) (Q : am_Q) (i : Instr) (x y : Nat) (c : Int) (z : List Nat) : Prop := match i with
  | .iconst n => K d μ (k + 1) lv (.inl n :: st) σ Q
  | .bipush n => K d μ (k + 1) lv (.inl n :: st) σ Q
  | .sipush n => K d μ (k + 1) lv (.inl n :: st) σ Q
  | .ldc _ => K d μ (k + 1) lv (.inl c :: st) σ Q
  | .ldc_w _ => K d μ (k + 1) lv (.inl c :: st) σ Q
  | .iload_n a => am_gi lv a.val fun v => K d μ (k + 1) lv (.inl v :: st) σ Q
  | .iload a => am_gi lv a fun v => K d μ (k + 1) lv (.inl v :: st) σ Q
  | .aload_n a => am_gr lv a.val fun v => K d μ (k + 1) lv (.inr v :: st) σ Q
  | .aload a => am_gr lv a fun v => K d μ (k + 1) lv (.inr v :: st) σ Q
  | .istore_n a => am_p1 st fun v st' => K d μ (k + 1) (am_lset lv a.val (.inl v)) st' σ Q
  | .istore a => am_p1 st fun v st' => K d μ (k + 1) (am_lset lv a (.inl v)) st' σ Q
  | .astore_n a => am_r1 st fun v st' => K d μ (k + 1) (am_lset lv a.val (.inr v)) st' σ Q
  | .astore a => am_r1 st fun v st' => K d μ (k + 1) (am_lset lv a (.inr v)) st' σ Q
  | .iinc a n => am_gi lv a fun v => K d μ (k + 1) (am_lset lv a (.inl (v + n))) st σ Q
  | .iadd => am_p2 st fun a b st' => K d μ (k + 1) lv (.inl (a + b) :: st') σ Q
  | .isub => am_p2 st fun a b st' => K d μ (k + 1) lv (.inl (a - b) :: st') σ Q
  | .imul => am_p2 st fun a b st' => K d μ (k + 1) lv (.inl (a * b) :: st') σ Q
  | .idiv => am_p2 st fun a b st' => am_rng a ∧ am_rng b ∧ b ≠ 0 ∧ K d μ (k + 1) lv (.inl (a.tdiv b) :: st') σ Q
  | .irem => am_p2 st fun a b st' => am_rng a ∧ am_rng b ∧ b ≠ 0 ∧ K d μ (k + 1) lv (.inl (a.tmod b) :: st') σ Q
  | .ineg => am_p1 st fun a st' => K d μ (k + 1) lv (.inl (-a) :: st') σ Q
  | .iand => am_p2 st fun a b st' => K d μ (k + 1) lv (.inl (am_and a b) :: st') σ Q
  | .ior => am_p2 st fun a b st' => K d μ (k + 1) lv (.inl (am_or a b) :: st') σ Q
  | .ixor => am_p2 st fun a b st' => K d μ (k + 1) lv (.inl (am_xor a b) :: st') σ Q
  | .ishl => am_p2 st fun a b st' => K d μ (k + 1) lv (.inl (am_shl a b) :: st') σ Q
  | .ishr => am_p2 st fun a b st' => K d μ (k + 1) lv (.inl (am_shr a b) :: st') σ Q
  | .iushr => am_p2 st fun a b st' => K d μ (k + 1) lv (.inl (am_ushr a b) :: st') σ Q
  | .if_icmp r _ => am_p2 st fun a b st' => (match Nat.beq μ am_law with
      | true => am_brq r a b (K d μ x lv st' σ Q) (K d μ (k + 1) lv st' σ Q)
      | false => am_br r a b (K d μ x lv st' σ Q) (K d μ (k + 1) lv st' σ Q))
  | .ifCond r _ => am_p1 st fun a st' => am_br r a 0 (K d μ x lv st' σ Q) (K d μ (k + 1) lv st' σ Q)
  | .goto _ => K d μ x lv st σ Q
  | .tableswitch _ lo _ _ => am_p1 st fun a st' => am_rng a ∧ am_sw a (fun t => K d μ t lv st' σ Q) lo z ∧ (a < lo ∨ lo + (z.length : Int) ≤ a → K d μ x lv st' σ Q)
  | .getfield _ => am_r1 st fun r st' => am_fld r x y (fun t => K d μ (k + 1) lv (.inr t :: st') σ Q) (K d μ (k + 1) lv (.inl (σ r y) :: st') σ Q)
  | .putfield _ => am_pr st fun v r st' => am_fld r x y (fun _ => False) (match z with
      | [_, 0] => K d μ (k + 1) lv st' (am_us σ r y v) Q
      | _ => (v = 0 ∨ v = 1) ∧ K d μ (k + 1) lv st' (am_us σ r y v) Q)
  | .iaload => am_pr st fun v r st' => (match am_lay[r]? with
      | some (1, n, _) => (0 ≤ v ∧ v < n) ∧ K d μ (k + 1) lv (.inl (σ r v) :: st') σ Q
      | some (4, _, _) => am_g (Nat.beq μ am_law) ((0 ≤ v ∧ v < σ am_NC (-1)) ∧ K d μ (k + 1) lv (.inl (σ am_NC v) :: st') σ Q)
      | _ => False)
  | .baload => am_pr st fun v r st' => (match am_lay[r]? with
      | some (2, n, _) => (0 ≤ v ∧ v < n) ∧ K d μ (k + 1) lv (.inl (σ r v) :: st') σ Q
      | _ => False)
  | .aaload => am_pr st fun v r st' => (match am_lay[r]? with
      | some (3, n, refs) => (0 ≤ v ∧ v < n) ∧ (match refs[v.toNat]? with
        | some (some t) => K d μ (k + 1) lv (.inr t :: st') σ Q
        | _ => False)
      | _ => False)
  | .iastore => am_pir st fun v j r st' => (match am_lay[r]? with
      | some (1, n, _) => (0 ≤ j ∧ j < n) ∧ K d μ (k + 1) lv st' (am_us σ r j v) Q
      | _ => False)
  | .bastore => am_pir st fun v j r st' => (match am_lay[r]? with
      | some (2, n, _) => (0 ≤ j ∧ j < n) ∧ (v = 0 ∨ v = 1) ∧ K d μ (k + 1) lv st' (am_us σ r j v) Q
      | _ => False)
  | .arraylength => am_r1 st fun r st' => am_g (Nat.beq μ am_law && Nat.beq r am_NC) (K d μ (k + 1) lv (.inl (σ am_NC (-1)) :: st') σ Q)
  | .dup => (match st with
      | v :: st' => K d μ (k + 1) lv (v :: v :: st') σ Q
      | _ => False)
  | .dup2 => (match st with
      | v :: w :: st' => K d μ (k + 1) lv (v :: w :: v :: w :: st') σ Q
      | _ => False)
  | .pop => (match st with
      | _ :: st' => K d μ (k + 1) lv st' σ Q
      | _ => False)
  | .ireturn => (match st with
      | [.inl v] => am_rz μ v ∧ Q (some v) σ
      | _ => False)
  | .return_ => (match st with
      | [] => Q none σ
      | _ => False)
  | .invokevirtual _ => (match d with
      | 0 => False
      | d' + 1 => am_r1 (st.drop y) fun r st' => am_g (am_isO r (am_met x).2.2.2.2.1 && Nat.ble st'.length 8 && Nat.ble y st.length)
        (K d' x 0 (.inr r :: (st.take y).reverse) [] σ fun o σ' => K (d' + 1) μ (k + 1) lv (am_o o ++ st') σ' Q))
  | .invokestatic _ => (match d with
      | 0 => False
      | d' + 1 => (match Nat.beq x 1000 with
        | true => am_p2 st fun a b st' => am_g (Nat.ble st'.length 8) (am_rng a ∧ am_rng b ∧ K (d' + 1) μ (k + 1) lv (.inl (max a b) :: st') σ Q)
        | false => (match Nat.beq x 1001 with
          | true => am_p2 st fun a b st' => am_g (Nat.ble st'.length 8) (am_rng a ∧ am_rng b ∧ K (d' + 1) μ (k + 1) lv (.inl (min a b) :: st') σ Q)
          | false => am_g (Nat.ble (st.drop y).length 8 && Nat.ble y st.length)
            (K d' x 0 (st.take y).reverse [] σ fun o σ' => K (d' + 1) μ (k + 1) lv (am_o o ++ st.drop y) σ' Q))))
  | _ => False
def am_stp (K : am_KT) (d μ k : Nat) (lv st : List am_V) (σ : am_S) (Q : am_Q) : Prop := match (am_tab μ)[k]? with
  | some e => am_ins K d μ k lv st σ Q e.2.1 e.2.2.2.1 e.2.2.2.2.1 e.2.2.2.2.2.1 e.2.2.2.2.2.2
  | none => False
/-- closed under the steps; less may be said of the locals, more of the end -/
def am_C (K : am_KT) : Prop :=
  (∀ d μ k lv st σ Q, am_stp K d μ k lv st σ Q → K d μ k lv st σ Q) ∧
  (∀ d μ k lv lv' st σ Q, K d μ k lv st σ Q → K d μ k (lv ++ lv') st σ Q) ∧
  (∀ d μ k lv st σ (Q Q' : am_Q), (∀ o σ', Q o σ' → Q' o σ') → K d μ k lv st σ Q → K d μ k lv st σ Q')
