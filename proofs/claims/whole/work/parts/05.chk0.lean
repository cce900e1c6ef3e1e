def am_pc (μ k : Nat) : Nat := (((am_tab μ)[k]?).map fun e => e.1).getD 0
def am_wat (i : Nat) (w : Jvm.Cond) : Bool := decide (lw_tbl[i]? = some w) && goodWord w
theorem am_wat_in {i : Nat} {w : Jvm.Cond} (h : am_wat i w = true) : w ∈ am_tbl := by
  obtain ⟨h1, h2⟩ := Bool.and_eq_true_iff.mp h
  exact List.mem_filter.mpr ⟨List.mem_of_getElem? (of_decide_eq_true h1), h2⟩
def am_T (ci : Nat) : vw_C := (am_cls[ci]?).getD ("", fun _ => ("", "", "", false), 0)
def am_nx (μ k pc n len : Nat) : Bool := Nat.beq len n && Nat.beq (am_pc μ (k + 1)) (pc + n)
def am_z (z : List Nat) (i : Nat) : Nat := (z[i]?).getD 0
def am_okI (μ k pc len : Nat) (i : Instr) (x y : Nat) (c : Int) (z : List Nat) : Bool := match i with
  | .iconst _ => am_nx μ k pc 1 len
  | .bipush n => am_nx μ k pc 2 len && decide ((Int8.ofInt n).toInt32 = Int32.ofInt n)
  | .sipush n => am_nx μ k pc 3 len && decide ((Int16.ofInt n).toInt32 = Int32.ofInt n)
  | .ldc i => am_nx μ k pc 2 len && am_wat (am_z z 0) (.constant (am_met μ).1.cls i (Int32.ofInt c))
  | .ldc_w i => am_nx μ k pc 3 len && am_wat (am_z z 0) (.constant (am_met μ).1.cls i (Int32.ofInt c))
  | .iload _ => am_nx μ k pc 2 len
  | .aload _ => am_nx μ k pc 2 len
  | .istore a => am_nx μ k pc 2 len && decide (a < (am_met μ).2.2.1)
  | .astore a => am_nx μ k pc 2 len && decide (a < (am_met μ).2.2.1)
  | .istore_n a => am_nx μ k pc 1 len && decide (a.val < (am_met μ).2.2.1)
  | .astore_n a => am_nx μ k pc 1 len && decide (a.val < (am_met μ).2.2.1)
  | .iinc a _ => am_nx μ k pc 3 len && decide (a < (am_met μ).2.2.1)
  | .goto off => Nat.beq len 3 && decide ((pc : Int) + off = (am_pc μ x : Int))
  | .if_icmp _ off => am_nx μ k pc 3 len && decide ((pc : Int) + off = (am_pc μ x : Int))
  | .ifCond _ off => am_nx μ k pc 3 len && decide ((pc : Int) + off = (am_pc μ x : Int))
  | .tableswitch dflt lo hi offs => decide ((pc : Int) + dflt = (am_pc μ x : Int)) && decide (hi = lo + (z.length : Int) - 1) && decide (offs.toList.map (fun o => (pc : Int) + o) = z.map (fun t => (am_pc μ t : Int)))
  | .new _ => am_nx μ k pc 3 len
  | .invokespecial _ => am_nx μ k pc 3 len
  | .getfield i => am_nx μ k pc 3 len && am_wat (am_z z 0) (.fieldLink (am_met μ).1.cls i ((am_T x).2.1 y).1 ((am_T x).2.1 y).2.1 ((am_T x).2.1 y).2.2.1) && decide (y < (am_T x).2.2)
  | .putfield i => am_nx μ k pc 3 len && am_wat (am_z z 0) (.fieldLink (am_met μ).1.cls i ((am_T x).2.1 y).1 ((am_T x).2.1 y).2.1 ((am_T x).2.1 y).2.2.1) && decide (y < (am_T x).2.2) && !((am_T x).2.1 y).2.2.2 && (match z with
      | [_, 0] => decide (parseFieldDescriptor ((am_T x).2.1 y).2.2.1 = some .int)
      | _ => decide (parseFieldDescriptor ((am_T x).2.1 y).2.2.1 = some .boolean))
  | .ireturn => Nat.beq len 1 && (match (am_met μ).2.2.2.1 with
      | some .int => true
      | some .boolean => true
      | _ => false)
  | .return_ => Nat.beq len 1 && (match (am_met μ).2.2.2.1 with
      | none => true
      | _ => false)
  | .invokevirtual i => am_nx μ k pc 3 len && am_wat (am_z z 0) (.methodLink (am_met μ).1.cls i (am_met x).1) && am_wat (am_z z 1) (.instanceMethod (am_met x).1) && am_wat (am_z z 2) (.selects (am_met x).1.cls (am_met x).1 (am_met x).1) && decide ((parseMethodDescriptor (am_met x).1.desc).map (fun d => d.parameters.length) = some y) && Nat.ble (y + 1) (am_met x).2.2.1 && decide (x < am_law)
  | .invokestatic i => am_nx μ k pc 3 len && (match Nat.beq x 1000 with
      | true => am_wat (am_z z 0) (.methodLink (am_met μ).1.cls i Lib.Math.max.name) && am_wat (am_z z 1) (.static Lib.Math.max.name)
      | false => (match Nat.beq x 1001 with
        | true => am_wat (am_z z 0) (.methodLink (am_met μ).1.cls i Lib.Math.min.name) && am_wat (am_z z 1) (.static Lib.Math.min.name)
        | false => am_wat (am_z z 0) (.methodLink (am_met μ).1.cls i (am_met x).1) && am_wat (am_z z 1) (.static (am_met x).1) && decide ((parseMethodDescriptor (am_met x).1.desc).map (fun d => d.parameters.length) = some y) && Nat.ble y (am_met x).2.2.1 && decide (x < am_law)))
  | _ => am_nx μ k pc 1 len
def am_okE (μ k : Nat) (e : am_En) : Bool := decide (decode (am_met μ).2.1 e.1 = .ok (e.2.1, e.2.2.1)) && am_okI μ k e.1 e.2.2.1 e.2.1 e.2.2.2.1 e.2.2.2.2.1 e.2.2.2.2.2.1 e.2.2.2.2.2.2
def am_okA (μ k : Nat) : Bool := match (am_tab μ)[k]? with
  | some e => am_okE μ k e
  | none => true
def am_okR (μ a n : Nat) : Bool := (List.range' a n).all (am_okA μ)
theorem am_okR_at {μ a n : Nat} (h : am_okR μ a n = true) {k : Nat} (h1 : a ≤ k) (h2 : k < a + n) : am_okA μ k = true :=
  List.all_eq_true.mp h k (List.mem_range'_1.mpr ⟨h1, h2⟩)
theorem am_okA_end {μ k : Nat} (h : (am_tab μ)[k]? = none) : am_okA μ k = true := by
  unfold am_okA
  rw [h]
/-- what a callee owes -/
def am_okM (μ : Nat) : Bool := plainName (am_met μ).1.cls && decide ((am_met μ).1.cls ≠ "java/lang/invoke/MethodHandle") && decide ((am_met μ).1.cls ≠ "java/lang/invoke/VarHandle") && Nat.ble (am_met μ).2.2.1 40 && am_wat (am_z (am_met μ).2.2.2.2.2 0) (.code (am_met μ).1 (am_met μ).2.1 (am_met μ).2.2.1 (am_met μ).2.2.2.1) && am_wat (am_z (am_met μ).2.2.2.2.2 1) (.initialized (am_met μ).1.cls) && (Nat.beq (am_met μ).2.2.2.2.1 99 || decide ((am_T (am_met μ).2.2.2.2.1).1 = (am_met μ).1.cls))
theorem am_k0_0 : am_okR 0 0 10 = true := by decide +kernel
theorem am_k0 (k : Nat) : am_okA 0 k = true := by
  rcases Nat.lt_or_ge k 10 with h0 | h0
  · exact am_okR_at am_k0_0 (by omega) (by omega)
  exact am_okA_end (List.getElem?_eq_none (show (am_tab 0).length ≤ k from h0))
theorem am_k1_0 : am_okR 1 0 8 = true := by decide +kernel
theorem am_k1 (k : Nat) : am_okA 1 k = true := by
  rcases Nat.lt_or_ge k 8 with h0 | h0
  · exact am_okR_at am_k1_0 (by omega) (by omega)
  exact am_okA_end (List.getElem?_eq_none (show (am_tab 1).length ≤ k from h0))
theorem am_k2_0 : am_okR 2 0 8 = true := by decide +kernel
theorem am_k2 (k : Nat) : am_okA 2 k = true := by
  rcases Nat.lt_or_ge k 8 with h0 | h0
  · exact am_okR_at am_k2_0 (by omega) (by omega)
  exact am_okA_end (List.getElem?_eq_none (show (am_tab 2).length ≤ k from h0))
theorem am_k3_0 : am_okR 3 0 14 = true := by decide +kernel
theorem am_k3 (k : Nat) : am_okA 3 k = true := by
  rcases Nat.lt_or_ge k 14 with h0 | h0
  · exact am_okR_at am_k3_0 (by omega) (by omega)
  exact am_okA_end (List.getElem?_eq_none (show (am_tab 3).length ≤ k from h0))
theorem am_k4_0 : am_okR 4 0 35 = true := by decide +kernel
theorem am_k4 (k : Nat) : am_okA 4 k = true := by
  rcases Nat.lt_or_ge k 35 with h0 | h0
  · exact am_okR_at am_k4_0 (by omega) (by omega)
  exact am_okA_end (List.getElem?_eq_none (show (am_tab 4).length ≤ k from h0))
theorem am_k5_0 : am_okR 5 0 29 = true := by decide +kernel
theorem am_k5 (k : Nat) : am_okA 5 k = true := by
  rcases Nat.lt_or_ge k 29 with h0 | h0
  · exact am_okR_at am_k5_0 (by omega) (by omega)
  exact am_okA_end (List.getElem?_eq_none (show (am_tab 5).length ≤ k from h0))
theorem am_k6_0 : am_okR 6 0 40 = true := by decide +kernel
theorem am_k6_40 : am_okR 6 40 40 = true := by decide +kernel
theorem am_k6_80 : am_okR 6 80 30 = true := by decide +kernel
theorem am_k6 (k : Nat) : am_okA 6 k = true := by
  rcases Nat.lt_or_ge k 40 with h0 | h0
  · exact am_okR_at am_k6_0 (by omega) (by omega)
  rcases Nat.lt_or_ge k 80 with h40 | h40
  · exact am_okR_at am_k6_40 (by omega) (by omega)
  rcases Nat.lt_or_ge k 110 with h80 | h80
  · exact am_okR_at am_k6_80 (by omega) (by omega)
  exact am_okA_end (List.getElem?_eq_none (show (am_tab 6).length ≤ k from h80))
theorem am_k7_0 : am_okR 7 0 21 = true := by decide +kernel
theorem am_k7 (k : Nat) : am_okA 7 k = true := by
  rcases Nat.lt_or_ge k 21 with h0 | h0
  · exact am_okR_at am_k7_0 (by omega) (by omega)
  exact am_okA_end (List.getElem?_eq_none (show (am_tab 7).length ≤ k from h0))
theorem am_k8_0 : am_okR 8 0 14 = true := by decide +kernel
theorem am_k8 (k : Nat) : am_okA 8 k = true := by
  rcases Nat.lt_or_ge k 14 with h0 | h0
  · exact am_okR_at am_k8_0 (by omega) (by omega)
  exact am_okA_end (List.getElem?_eq_none (show (am_tab 8).length ≤ k from h0))
theorem am_k9_0 : am_okR 9 0 40 = true := by decide +kernel
theorem am_k9_40 : am_okR 9 40 17 = true := by decide +kernel
theorem am_k9 (k : Nat) : am_okA 9 k = true := by
  rcases Nat.lt_or_ge k 40 with h0 | h0
  · exact am_okR_at am_k9_0 (by omega) (by omega)
  rcases Nat.lt_or_ge k 57 with h40 | h40
  · exact am_okR_at am_k9_40 (by omega) (by omega)
  exact am_okA_end (List.getElem?_eq_none (show (am_tab 9).length ≤ k from h40))
theorem am_k10_0 : am_okR 10 0 35 = true := by decide +kernel
theorem am_k10 (k : Nat) : am_okA 10 k = true := by
  rcases Nat.lt_or_ge k 35 with h0 | h0
  · exact am_okR_at am_k10_0 (by omega) (by omega)
  exact am_okA_end (List.getElem?_eq_none (show (am_tab 10).length ≤ k from h0))
theorem am_k11_0 : am_okR 11 0 25 = true := by decide +kernel
theorem am_k11 (k : Nat) : am_okA 11 k = true := by
  rcases Nat.lt_or_ge k 25 with h0 | h0
  · exact am_okR_at am_k11_0 (by omega) (by omega)
  exact am_okA_end (List.getElem?_eq_none (show (am_tab 11).length ≤ k from h0))
theorem am_k12_0 : am_okR 12 0 28 = true := by decide +kernel
theorem am_k12 (k : Nat) : am_okA 12 k = true := by
  rcases Nat.lt_or_ge k 28 with h0 | h0
  · exact am_okR_at am_k12_0 (by omega) (by omega)
  exact am_okA_end (List.getElem?_eq_none (show (am_tab 12).length ≤ k from h0))
theorem am_k13_0 : am_okR 13 0 40 = true := by decide +kernel
theorem am_k13_40 : am_okR 13 40 4 = true := by decide +kernel
theorem am_k13 (k : Nat) : am_okA 13 k = true := by
  rcases Nat.lt_or_ge k 40 with h0 | h0
  · exact am_okR_at am_k13_0 (by omega) (by omega)
  rcases Nat.lt_or_ge k 44 with h40 | h40
  · exact am_okR_at am_k13_40 (by omega) (by omega)
  exact am_okA_end (List.getElem?_eq_none (show (am_tab 13).length ≤ k from h40))
theorem am_k14_0 : am_okR 14 0 23 = true := by decide +kernel
theorem am_k14 (k : Nat) : am_okA 14 k = true := by
  rcases Nat.lt_or_ge k 23 with h0 | h0
  · exact am_okR_at am_k14_0 (by omega) (by omega)
  exact am_okA_end (List.getElem?_eq_none (show (am_tab 14).length ≤ k from h0))
theorem am_k15_0 : am_okR 15 0 40 = true := by decide +kernel
theorem am_k15_40 : am_okR 15 40 37 = true := by decide +kernel
theorem am_k15 (k : Nat) : am_okA 15 k = true := by
  rcases Nat.lt_or_ge k 40 with h0 | h0
  · exact am_okR_at am_k15_0 (by omega) (by omega)
  rcases Nat.lt_or_ge k 77 with h40 | h40
  · exact am_okR_at am_k15_40 (by omega) (by omega)
  exact am_okA_end (List.getElem?_eq_none (show (am_tab 15).length ≤ k from h40))
theorem am_k16_0 : am_okR 16 0 25 = true := by decide +kernel
theorem am_k16 (k : Nat) : am_okA 16 k = true := by
  rcases Nat.lt_or_ge k 25 with h0 | h0
  · exact am_okR_at am_k16_0 (by omega) (by omega)
  exact am_okA_end (List.getElem?_eq_none (show (am_tab 16).length ≤ k from h0))
theorem am_k17_0 : am_okR 17 0 11 = true := by decide +kernel
theorem am_k17 (k : Nat) : am_okA 17 k = true := by
  rcases Nat.lt_or_ge k 11 with h0 | h0
  · exact am_okR_at am_k17_0 (by omega) (by omega)
  exact am_okA_end (List.getElem?_eq_none (show (am_tab 17).length ≤ k from h0))
theorem am_k18_0 : am_okR 18 0 40 = true := by decide +kernel
theorem am_k18_40 : am_okR 18 40 40 = true := by decide +kernel
theorem am_k18_80 : am_okR 18 80 1 = true := by decide +kernel
theorem am_k18 (k : Nat) : am_okA 18 k = true := by
  rcases Nat.lt_or_ge k 40 with h0 | h0
  · exact am_okR_at am_k18_0 (by omega) (by omega)
  rcases Nat.lt_or_ge k 80 with h40 | h40
  · exact am_okR_at am_k18_40 (by omega) (by omega)
  rcases Nat.lt_or_ge k 81 with h80 | h80
  · exact am_okR_at am_k18_80 (by omega) (by omega)
  exact am_okA_end (List.getElem?_eq_none (show (am_tab 18).length ≤ k from h80))
theorem am_k19_0 : am_okR 19 0 40 = true := by decide +kernel
theorem am_k19_40 : am_okR 19 40 40 = true := by decide +kernel
theorem am_k19 (k : Nat) : am_okA 19 k = true := by
  rcases Nat.lt_or_ge k 40 with h0 | h0
  · exact am_okR_at am_k19_0 (by omega) (by omega)
  rcases Nat.lt_or_ge k 80 with h40 | h40
  · exact am_okR_at am_k19_40 (by omega) (by omega)
  exact am_okA_end (List.getElem?_eq_none (show (am_tab 19).length ≤ k from h40))
theorem am_k20_0 : am_okR 20 0 40 = true := by decide +kernel
theorem am_k20_40 : am_okR 20 40 40 = true := by decide +kernel
theorem am_k20_80 : am_okR 20 80 3 = true := by decide +kernel
theorem am_k20 (k : Nat) : am_okA 20 k = true := by
  rcases Nat.lt_or_ge k 40 with h0 | h0
  · exact am_okR_at am_k20_0 (by omega) (by omega)
  rcases Nat.lt_or_ge k 80 with h40 | h40
  · exact am_okR_at am_k20_40 (by omega) (by omega)
  rcases Nat.lt_or_ge k 83 with h80 | h80
  · exact am_okR_at am_k20_80 (by omega) (by omega)
  exact am_okA_end (List.getElem?_eq_none (show (am_tab 20).length ≤ k from h80))
theorem am_k21_0 : am_okR 21 0 40 = true := by decide +kernel
theorem am_k21_40 : am_okR 21 40 1 = true := by decide +kernel
theorem am_k21 (k : Nat) : am_okA 21 k = true := by
  rcases Nat.lt_or_ge k 40 with h0 | h0
  · exact am_okR_at am_k21_0 (by omega) (by omega)
  rcases Nat.lt_or_ge k 41 with h40 | h40
  · exact am_okR_at am_k21_40 (by omega) (by omega)
  exact am_okA_end (List.getElem?_eq_none (show (am_tab 21).length ≤ k from h40))
theorem am_k22_0 : am_okR 22 0 7 = true := by decide +kernel
theorem am_k22 (k : Nat) : am_okA 22 k = true := by
  rcases Nat.lt_or_ge k 7 with h0 | h0
  · exact am_okR_at am_k22_0 (by omega) (by omega)
  exact am_okA_end (List.getElem?_eq_none (show (am_tab 22).length ≤ k from h0))
theorem am_k23_0 : am_okR 23 0 10 = true := by decide +kernel
theorem am_k23 (k : Nat) : am_okA 23 k = true := by
  rcases Nat.lt_or_ge k 10 with h0 | h0
  · exact am_okR_at am_k23_0 (by omega) (by omega)
  exact am_okA_end (List.getElem?_eq_none (show (am_tab 23).length ≤ k from h0))
theorem am_k24_0 : am_okR 24 0 7 = true := by decide +kernel
theorem am_k24 (k : Nat) : am_okA 24 k = true := by
  rcases Nat.lt_or_ge k 7 with h0 | h0
  · exact am_okR_at am_k24_0 (by omega) (by omega)
  exact am_okA_end (List.getElem?_eq_none (show (am_tab 24).length ≤ k from h0))
theorem am_k25_0 : am_okR 25 0 7 = true := by decide +kernel
theorem am_k25 (k : Nat) : am_okA 25 k = true := by
  rcases Nat.lt_or_ge k 7 with h0 | h0
  · exact am_okR_at am_k25_0 (by omega) (by omega)
  exact am_okA_end (List.getElem?_eq_none (show (am_tab 25).length ≤ k from h0))
theorem am_k26_0 : am_okR 26 0 28 = true := by decide +kernel
theorem am_k26 (k : Nat) : am_okA 26 k = true := by
  rcases Nat.lt_or_ge k 28 with h0 | h0
  · exact am_okR_at am_k26_0 (by omega) (by omega)
  exact am_okA_end (List.getElem?_eq_none (show (am_tab 26).length ≤ k from h0))
theorem am_k27_0 : am_okR 27 0 29 = true := by decide +kernel
theorem am_k27 (k : Nat) : am_okA 27 k = true := by
  rcases Nat.lt_or_ge k 29 with h0 | h0
  · exact am_okR_at am_k27_0 (by omega) (by omega)
  exact am_okA_end (List.getElem?_eq_none (show (am_tab 27).length ≤ k from h0))
theorem am_k28_0 : am_okR 28 0 37 = true := by decide +kernel
theorem am_k28 (k : Nat) : am_okA 28 k = true := by
  rcases Nat.lt_or_ge k 37 with h0 | h0
  · exact am_okR_at am_k28_0 (by omega) (by omega)
  exact am_okA_end (List.getElem?_eq_none (show (am_tab 28).length ≤ k from h0))
theorem am_k29_0 : am_okR 29 0 40 = true := by decide +kernel
theorem am_k29_40 : am_okR 29 40 30 = true := by decide +kernel
theorem am_k29 (k : Nat) : am_okA 29 k = true := by
  rcases Nat.lt_or_ge k 40 with h0 | h0
  · exact am_okR_at am_k29_0 (by omega) (by omega)
  rcases Nat.lt_or_ge k 70 with h40 | h40
  · exact am_okR_at am_k29_40 (by omega) (by omega)
  exact am_okA_end (List.getElem?_eq_none (show (am_tab 29).length ≤ k from h40))
theorem am_k30_0 : am_okR 30 0 28 = true := by decide +kernel
theorem am_k30 (k : Nat) : am_okA 30 k = true := by
  rcases Nat.lt_or_ge k 28 with h0 | h0
  · exact am_okR_at am_k30_0 (by omega) (by omega)
  exact am_okA_end (List.getElem?_eq_none (show (am_tab 30).length ≤ k from h0))
theorem am_k31_0 : am_okR 31 0 40 = true := by decide +kernel
theorem am_k31_40 : am_okR 31 40 12 = true := by decide +kernel
theorem am_k31 (k : Nat) : am_okA 31 k = true := by
  rcases Nat.lt_or_ge k 40 with h0 | h0
  · exact am_okR_at am_k31_0 (by omega) (by omega)
  rcases Nat.lt_or_ge k 52 with h40 | h40
  · exact am_okR_at am_k31_40 (by omega) (by omega)
  exact am_okA_end (List.getElem?_eq_none (show (am_tab 31).length ≤ k from h40))
theorem am_k32_0 : am_okR 32 0 40 = true := by decide +kernel
theorem am_k32_40 : am_okR 32 40 12 = true := by decide +kernel
theorem am_k32 (k : Nat) : am_okA 32 k = true := by
  rcases Nat.lt_or_ge k 40 with h0 | h0
  · exact am_okR_at am_k32_0 (by omega) (by omega)
  rcases Nat.lt_or_ge k 52 with h40 | h40
  · exact am_okR_at am_k32_40 (by omega) (by omega)
  exact am_okA_end (List.getElem?_eq_none (show (am_tab 32).length ≤ k from h40))
theorem am_k33_0 : am_okR 33 0 40 = true := by decide +kernel
theorem am_k33_40 : am_okR 33 40 40 = true := by decide +kernel
theorem am_k33_80 : am_okR 33 80 5 = true := by decide +kernel
theorem am_k33 (k : Nat) : am_okA 33 k = true := by
  rcases Nat.lt_or_ge k 40 with h0 | h0
  · exact am_okR_at am_k33_0 (by omega) (by omega)
  rcases Nat.lt_or_ge k 80 with h40 | h40
  · exact am_okR_at am_k33_40 (by omega) (by omega)
  rcases Nat.lt_or_ge k 85 with h80 | h80
  · exact am_okR_at am_k33_80 (by omega) (by omega)
  exact am_okA_end (List.getElem?_eq_none (show (am_tab 33).length ≤ k from h80))
theorem am_k34_0 : am_okR 34 0 40 = true := by decide +kernel
theorem am_k34_40 : am_okR 34 40 19 = true := by decide +kernel
theorem am_k34 (k : Nat) : am_okA 34 k = true := by
  rcases Nat.lt_or_ge k 40 with h0 | h0
  · exact am_okR_at am_k34_0 (by omega) (by omega)
  rcases Nat.lt_or_ge k 59 with h40 | h40
  · exact am_okR_at am_k34_40 (by omega) (by omega)
  exact am_okA_end (List.getElem?_eq_none (show (am_tab 34).length ≤ k from h40))
