theorem am_k115_0 : am_okR 115 0 20 = true := by decide +kernel
theorem am_k115 (k : Nat) : am_okA 115 k = true := by
  rcases Nat.lt_or_ge k 20 with h0 | h0
  · exact am_okR_at am_k115_0 (by omega) (by omega)
  exact am_okA_end (List.getElem?_eq_none (show (am_tab 115).length ≤ k from h0))
theorem am_k116_0 : am_okR 116 0 10 = true := by decide +kernel
theorem am_k116 (k : Nat) : am_okA 116 k = true := by
  rcases Nat.lt_or_ge k 10 with h0 | h0
  · exact am_okR_at am_k116_0 (by omega) (by omega)
  exact am_okA_end (List.getElem?_eq_none (show (am_tab 116).length ≤ k from h0))
theorem am_k117_0 : am_okR 117 0 18 = true := by decide +kernel
theorem am_k117 (k : Nat) : am_okA 117 k = true := by
  rcases Nat.lt_or_ge k 18 with h0 | h0
  · exact am_okR_at am_k117_0 (by omega) (by omega)
  exact am_okA_end (List.getElem?_eq_none (show (am_tab 117).length ≤ k from h0))
theorem am_k118_0 : am_okR 118 0 36 = true := by decide +kernel
theorem am_k118 (k : Nat) : am_okA 118 k = true := by
  rcases Nat.lt_or_ge k 36 with h0 | h0
  · exact am_okR_at am_k118_0 (by omega) (by omega)
  exact am_okA_end (List.getElem?_eq_none (show (am_tab 118).length ≤ k from h0))
theorem am_k119_0 : am_okR 119 0 38 = true := by decide +kernel
theorem am_k119 (k : Nat) : am_okA 119 k = true := by
  rcases Nat.lt_or_ge k 38 with h0 | h0
  · exact am_okR_at am_k119_0 (by omega) (by omega)
  exact am_okA_end (List.getElem?_eq_none (show (am_tab 119).length ≤ k from h0))
theorem am_k120_0 : am_okR 120 0 27 = true := by decide +kernel
theorem am_k120 (k : Nat) : am_okA 120 k = true := by
  rcases Nat.lt_or_ge k 27 with h0 | h0
  · exact am_okR_at am_k120_0 (by omega) (by omega)
  exact am_okA_end (List.getElem?_eq_none (show (am_tab 120).length ≤ k from h0))
theorem am_k121_0 : am_okR 121 0 40 = true := by decide +kernel
theorem am_k121_40 : am_okR 121 40 25 = true := by decide +kernel
theorem am_k121 (k : Nat) : am_okA 121 k = true := by
  rcases Nat.lt_or_ge k 40 with h0 | h0
  · exact am_okR_at am_k121_0 (by omega) (by omega)
  rcases Nat.lt_or_ge k 65 with h40 | h40
  · exact am_okR_at am_k121_40 (by omega) (by omega)
  exact am_okA_end (List.getElem?_eq_none (show (am_tab 121).length ≤ k from h40))
theorem am_k122_0 : am_okR 122 0 29 = true := by decide +kernel
theorem am_k122 (k : Nat) : am_okA 122 k = true := by
  rcases Nat.lt_or_ge k 29 with h0 | h0
  · exact am_okR_at am_k122_0 (by omega) (by omega)
  exact am_okA_end (List.getElem?_eq_none (show (am_tab 122).length ≤ k from h0))
theorem am_k123_0 : am_okR 123 0 32 = true := by decide +kernel
theorem am_k123 (k : Nat) : am_okA 123 k = true := by
  rcases Nat.lt_or_ge k 32 with h0 | h0
  · exact am_okR_at am_k123_0 (by omega) (by omega)
  exact am_okA_end (List.getElem?_eq_none (show (am_tab 123).length ≤ k from h0))
theorem am_k124_0 : am_okR 124 0 12 = true := by decide +kernel
theorem am_k124 (k : Nat) : am_okA 124 k = true := by
  rcases Nat.lt_or_ge k 12 with h0 | h0
  · exact am_okR_at am_k124_0 (by omega) (by omega)
  exact am_okA_end (List.getElem?_eq_none (show (am_tab 124).length ≤ k from h0))
theorem am_k125_0 : am_okR 125 0 9 = true := by decide +kernel
theorem am_k125 (k : Nat) : am_okA 125 k = true := by
  rcases Nat.lt_or_ge k 9 with h0 | h0
  · exact am_okR_at am_k125_0 (by omega) (by omega)
  exact am_okA_end (List.getElem?_eq_none (show (am_tab 125).length ≤ k from h0))
theorem am_k126_0 : am_okR 126 0 9 = true := by decide +kernel
theorem am_k126 (k : Nat) : am_okA 126 k = true := by
  rcases Nat.lt_or_ge k 9 with h0 | h0
  · exact am_okR_at am_k126_0 (by omega) (by omega)
  exact am_okA_end (List.getElem?_eq_none (show (am_tab 126).length ≤ k from h0))
theorem am_k127_0 : am_okR 127 0 12 = true := by decide +kernel
theorem am_k127 (k : Nat) : am_okA 127 k = true := by
  rcases Nat.lt_or_ge k 12 with h0 | h0
  · exact am_okR_at am_k127_0 (by omega) (by omega)
  exact am_okA_end (List.getElem?_eq_none (show (am_tab 127).length ≤ k from h0))
theorem am_k128_0 : am_okR 128 0 9 = true := by decide +kernel
theorem am_k128 (k : Nat) : am_okA 128 k = true := by
  rcases Nat.lt_or_ge k 9 with h0 | h0
  · exact am_okR_at am_k128_0 (by omega) (by omega)
  exact am_okA_end (List.getElem?_eq_none (show (am_tab 128).length ≤ k from h0))
theorem am_k129_0 : am_okR 129 0 24 = true := by decide +kernel
theorem am_k129 (k : Nat) : am_okA 129 k = true := by
  rcases Nat.lt_or_ge k 24 with h0 | h0
  · exact am_okR_at am_k129_0 (by omega) (by omega)
  exact am_okA_end (List.getElem?_eq_none (show (am_tab 129).length ≤ k from h0))
theorem am_k130_0 : am_okR 130 0 33 = true := by decide +kernel
theorem am_k130 (k : Nat) : am_okA 130 k = true := by
  rcases Nat.lt_or_ge k 33 with h0 | h0
  · exact am_okR_at am_k130_0 (by omega) (by omega)
  exact am_okA_end (List.getElem?_eq_none (show (am_tab 130).length ≤ k from h0))
theorem am_k131_0 : am_okR 131 0 40 = true := by decide +kernel
theorem am_k131_40 : am_okR 131 40 40 = true := by decide +kernel
theorem am_k131_80 : am_okR 131 80 40 = true := by decide +kernel
theorem am_k131_120 : am_okR 131 120 40 = true := by decide +kernel
theorem am_k131_160 : am_okR 131 160 40 = true := by decide +kernel
theorem am_k131_200 : am_okR 131 200 40 = true := by decide +kernel
theorem am_k131_240 : am_okR 131 240 40 = true := by decide +kernel
theorem am_k131_280 : am_okR 131 280 40 = true := by decide +kernel
theorem am_k131_320 : am_okR 131 320 40 = true := by decide +kernel
theorem am_k131_360 : am_okR 131 360 40 = true := by decide +kernel
theorem am_k131_400 : am_okR 131 400 40 = true := by decide +kernel
theorem am_k131_440 : am_okR 131 440 40 = true := by decide +kernel
theorem am_k131_480 : am_okR 131 480 40 = true := by decide +kernel
theorem am_k131_520 : am_okR 131 520 40 = true := by decide +kernel
theorem am_k131_560 : am_okR 131 560 9 = true := by decide +kernel
set_option maxRecDepth 20000 in
theorem am_k131 (k : Nat) : am_okA 131 k = true := by
  rcases Nat.lt_or_ge k 40 with h0 | h0
  · exact am_okR_at am_k131_0 (by omega) (by omega)
  rcases Nat.lt_or_ge k 80 with h40 | h40
  · exact am_okR_at am_k131_40 (by omega) (by omega)
  rcases Nat.lt_or_ge k 120 with h80 | h80
  · exact am_okR_at am_k131_80 (by omega) (by omega)
  rcases Nat.lt_or_ge k 160 with h120 | h120
  · exact am_okR_at am_k131_120 (by omega) (by omega)
  rcases Nat.lt_or_ge k 200 with h160 | h160
  · exact am_okR_at am_k131_160 (by omega) (by omega)
  rcases Nat.lt_or_ge k 240 with h200 | h200
  · exact am_okR_at am_k131_200 (by omega) (by omega)
  rcases Nat.lt_or_ge k 280 with h240 | h240
  · exact am_okR_at am_k131_240 (by omega) (by omega)
  rcases Nat.lt_or_ge k 320 with h280 | h280
  · exact am_okR_at am_k131_280 (by omega) (by omega)
  rcases Nat.lt_or_ge k 360 with h320 | h320
  · exact am_okR_at am_k131_320 (by omega) (by omega)
  rcases Nat.lt_or_ge k 400 with h360 | h360
  · exact am_okR_at am_k131_360 (by omega) (by omega)
  rcases Nat.lt_or_ge k 440 with h400 | h400
  · exact am_okR_at am_k131_400 (by omega) (by omega)
  rcases Nat.lt_or_ge k 480 with h440 | h440
  · exact am_okR_at am_k131_440 (by omega) (by omega)
  rcases Nat.lt_or_ge k 520 with h480 | h480
  · exact am_okR_at am_k131_480 (by omega) (by omega)
  rcases Nat.lt_or_ge k 560 with h520 | h520
  · exact am_okR_at am_k131_520 (by omega) (by omega)
  rcases Nat.lt_or_ge k 569 with h560 | h560
  · exact am_okR_at am_k131_560 (by omega) (by omega)
  exact am_okA_end (List.getElem?_eq_none (show (am_tab 131).length ≤ k from h560))
theorem am_kst {P : Nat → Prop} {n : Nat} (h : ∀ i, i < n → P i) (hn : P n) : ∀ i, i < n + 1 → P i := fun i hi => (Nat.lt_or_ge i n).elim (h i) (fun g => (show n = i by omega) ▸ hn)
theorem am_kz {P : Nat → Prop} : ∀ i, i < 0 → P i := fun i h => absurd h (Nat.not_lt_zero i)
theorem am_ks20 : ∀ i, i < 20 → ∀ k, am_okA i k = true := am_kst (am_kst (am_kst (am_kst (am_kst (am_kst (am_kst (am_kst (am_kst (am_kst (am_kst (am_kst (am_kst (am_kst (am_kst (am_kst (am_kst (am_kst (am_kst (am_kst am_kz am_k0) am_k1) am_k2) am_k3) am_k4) am_k5) am_k6) am_k7) am_k8) am_k9) am_k10) am_k11) am_k12) am_k13) am_k14) am_k15) am_k16) am_k17) am_k18) am_k19
theorem am_ks40 : ∀ i, i < 40 → ∀ k, am_okA i k = true := am_kst (am_kst (am_kst (am_kst (am_kst (am_kst (am_kst (am_kst (am_kst (am_kst (am_kst (am_kst (am_kst (am_kst (am_kst (am_kst (am_kst (am_kst (am_kst (am_kst am_ks20 am_k20) am_k21) am_k22) am_k23) am_k24) am_k25) am_k26) am_k27) am_k28) am_k29) am_k30) am_k31) am_k32) am_k33) am_k34) am_k35) am_k36) am_k37) am_k38) am_k39
theorem am_ks60 : ∀ i, i < 60 → ∀ k, am_okA i k = true := am_kst (am_kst (am_kst (am_kst (am_kst (am_kst (am_kst (am_kst (am_kst (am_kst (am_kst (am_kst (am_kst (am_kst (am_kst (am_kst (am_kst (am_kst (am_kst (am_kst am_ks40 am_k40) am_k41) am_k42) am_k43) am_k44) am_k45) am_k46) am_k47) am_k48) am_k49) am_k50) am_k51) am_k52) am_k53) am_k54) am_k55) am_k56) am_k57) am_k58) am_k59
theorem am_ks80 : ∀ i, i < 80 → ∀ k, am_okA i k = true := am_kst (am_kst (am_kst (am_kst (am_kst (am_kst (am_kst (am_kst (am_kst (am_kst (am_kst (am_kst (am_kst (am_kst (am_kst (am_kst (am_kst (am_kst (am_kst (am_kst am_ks60 am_k60) am_k61) am_k62) am_k63) am_k64) am_k65) am_k66) am_k67) am_k68) am_k69) am_k70) am_k71) am_k72) am_k73) am_k74) am_k75) am_k76) am_k77) am_k78) am_k79
theorem am_ks100 : ∀ i, i < 100 → ∀ k, am_okA i k = true := am_kst (am_kst (am_kst (am_kst (am_kst (am_kst (am_kst (am_kst (am_kst (am_kst (am_kst (am_kst (am_kst (am_kst (am_kst (am_kst (am_kst (am_kst (am_kst (am_kst am_ks80 am_k80) am_k81) am_k82) am_k83) am_k84) am_k85) am_k86) am_k87) am_k88) am_k89) am_k90) am_k91) am_k92) am_k93) am_k94) am_k95) am_k96) am_k97) am_k98) am_k99
theorem am_ks120 : ∀ i, i < 120 → ∀ k, am_okA i k = true := am_kst (am_kst (am_kst (am_kst (am_kst (am_kst (am_kst (am_kst (am_kst (am_kst (am_kst (am_kst (am_kst (am_kst (am_kst (am_kst (am_kst (am_kst (am_kst (am_kst am_ks100 am_k100) am_k101) am_k102) am_k103) am_k104) am_k105) am_k106) am_k107) am_k108) am_k109) am_k110) am_k111) am_k112) am_k113) am_k114) am_k115) am_k116) am_k117) am_k118) am_k119
theorem am_ks132 : ∀ i, i < 132 → ∀ k, am_okA i k = true := am_kst (am_kst (am_kst (am_kst (am_kst (am_kst (am_kst (am_kst (am_kst (am_kst (am_kst (am_kst am_ks120 am_k120) am_k121) am_k122) am_k123) am_k124) am_k125) am_k126) am_k127) am_k128) am_k129) am_k130) am_k131
theorem am_tab_end {μ : Nat} (h : 132 ≤ μ) : am_tab μ = [] := by
  unfold am_tab
  rw [List.getElem?_eq_none (show am_tabs.length ≤ μ from h)]
  rfl
theorem am_ok {μ k : Nat} {e : am_En} (h : (am_tab μ)[k]? = some e) : am_okE μ k e = true := by
  rcases Nat.lt_or_ge μ 132 with g | g
  · have h1 := am_ks132 μ g k
    unfold am_okA at h1
    rw [h] at h1
    exact h1
  · rw [am_tab_end g] at h
    cases h
theorem am_m_0 : (List.range' 0 33).all am_okM = true := by decide +kernel
theorem am_m_33 : (List.range' 33 33).all am_okM = true := by decide +kernel
theorem am_m_66 : (List.range' 66 33).all am_okM = true := by decide +kernel
theorem am_m_99 : (List.range' 99 32).all am_okM = true := by decide +kernel
theorem am_okm {μ : Nat} (h : μ < am_law) : am_okM μ = true := by
  have h : μ < 131 := h
  rcases Nat.lt_or_ge μ 33 with g0 | g0
  · exact List.all_eq_true.mp am_m_0 μ (List.mem_range'_1.mpr ⟨by omega, by omega⟩)
  rcases Nat.lt_or_ge μ 66 with g33 | g33
  · exact List.all_eq_true.mp am_m_33 μ (List.mem_range'_1.mpr ⟨by omega, by omega⟩)
  rcases Nat.lt_or_ge μ 99 with g66 | g66
  · exact List.all_eq_true.mp am_m_66 μ (List.mem_range'_1.mpr ⟨by omega, by omega⟩)
  rcases Nat.lt_or_ge μ 131 with g99 | g99
  · exact List.all_eq_true.mp am_m_99 μ (List.mem_range'_1.mpr ⟨by omega, by omega⟩)
  omega
theorem am_good {w : Jvm.Cond} (h : w ∈ am_tbl) : goodWord w = true := (List.mem_filter.mp h).2
