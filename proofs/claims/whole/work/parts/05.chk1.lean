theorem am_k35_0 : am_okR 35 0 19 = true := by decide +kernel
theorem am_k35 (k : Nat) : am_okA 35 k = true := by
  rcases Nat.lt_or_ge k 19 with h0 | h0
  · exact am_okR_at am_k35_0 (by omega) (by omega)
  exact am_okA_end (List.getElem?_eq_none (show (am_tab 35).length ≤ k from h0))
theorem am_k36_0 : am_okR 36 0 28 = true := by decide +kernel
theorem am_k36 (k : Nat) : am_okA 36 k = true := by
  rcases Nat.lt_or_ge k 28 with h0 | h0
  · exact am_okR_at am_k36_0 (by omega) (by omega)
  exact am_okA_end (List.getElem?_eq_none (show (am_tab 36).length ≤ k from h0))
theorem am_k37_0 : am_okR 37 0 40 = true := by decide +kernel
theorem am_k37_40 : am_okR 37 40 33 = true := by decide +kernel
theorem am_k37 (k : Nat) : am_okA 37 k = true := by
  rcases Nat.lt_or_ge k 40 with h0 | h0
  · exact am_okR_at am_k37_0 (by omega) (by omega)
  rcases Nat.lt_or_ge k 73 with h40 | h40
  · exact am_okR_at am_k37_40 (by omega) (by omega)
  exact am_okA_end (List.getElem?_eq_none (show (am_tab 37).length ≤ k from h40))
theorem am_k38_0 : am_okR 38 0 40 = true := by decide +kernel
theorem am_k38_40 : am_okR 38 40 1 = true := by decide +kernel
theorem am_k38 (k : Nat) : am_okA 38 k = true := by
  rcases Nat.lt_or_ge k 40 with h0 | h0
  · exact am_okR_at am_k38_0 (by omega) (by omega)
  rcases Nat.lt_or_ge k 41 with h40 | h40
  · exact am_okR_at am_k38_40 (by omega) (by omega)
  exact am_okA_end (List.getElem?_eq_none (show (am_tab 38).length ≤ k from h40))
theorem am_k39_0 : am_okR 39 0 22 = true := by decide +kernel
theorem am_k39 (k : Nat) : am_okA 39 k = true := by
  rcases Nat.lt_or_ge k 22 with h0 | h0
  · exact am_okR_at am_k39_0 (by omega) (by omega)
  exact am_okA_end (List.getElem?_eq_none (show (am_tab 39).length ≤ k from h0))
theorem am_k40_0 : am_okR 40 0 30 = true := by decide +kernel
theorem am_k40 (k : Nat) : am_okA 40 k = true := by
  rcases Nat.lt_or_ge k 30 with h0 | h0
  · exact am_okR_at am_k40_0 (by omega) (by omega)
  exact am_okA_end (List.getElem?_eq_none (show (am_tab 40).length ≤ k from h0))
theorem am_k41_0 : am_okR 41 0 15 = true := by decide +kernel
theorem am_k41 (k : Nat) : am_okA 41 k = true := by
  rcases Nat.lt_or_ge k 15 with h0 | h0
  · exact am_okR_at am_k41_0 (by omega) (by omega)
  exact am_okA_end (List.getElem?_eq_none (show (am_tab 41).length ≤ k from h0))
theorem am_k42_0 : am_okR 42 0 33 = true := by decide +kernel
theorem am_k42 (k : Nat) : am_okA 42 k = true := by
  rcases Nat.lt_or_ge k 33 with h0 | h0
  · exact am_okR_at am_k42_0 (by omega) (by omega)
  exact am_okA_end (List.getElem?_eq_none (show (am_tab 42).length ≤ k from h0))
theorem am_k43_0 : am_okR 43 0 5 = true := by decide +kernel
theorem am_k43 (k : Nat) : am_okA 43 k = true := by
  rcases Nat.lt_or_ge k 5 with h0 | h0
  · exact am_okR_at am_k43_0 (by omega) (by omega)
  exact am_okA_end (List.getElem?_eq_none (show (am_tab 43).length ≤ k from h0))
theorem am_k44_0 : am_okR 44 0 24 = true := by decide +kernel
theorem am_k44 (k : Nat) : am_okA 44 k = true := by
  rcases Nat.lt_or_ge k 24 with h0 | h0
  · exact am_okR_at am_k44_0 (by omega) (by omega)
  exact am_okA_end (List.getElem?_eq_none (show (am_tab 44).length ≤ k from h0))
theorem am_k45_0 : am_okR 45 0 40 = true := by decide +kernel
theorem am_k45_40 : am_okR 45 40 1 = true := by decide +kernel
theorem am_k45 (k : Nat) : am_okA 45 k = true := by
  rcases Nat.lt_or_ge k 40 with h0 | h0
  · exact am_okR_at am_k45_0 (by omega) (by omega)
  rcases Nat.lt_or_ge k 41 with h40 | h40
  · exact am_okR_at am_k45_40 (by omega) (by omega)
  exact am_okA_end (List.getElem?_eq_none (show (am_tab 45).length ≤ k from h40))
theorem am_k46_0 : am_okR 46 0 40 = true := by decide +kernel
theorem am_k46_40 : am_okR 46 40 6 = true := by decide +kernel
theorem am_k46 (k : Nat) : am_okA 46 k = true := by
  rcases Nat.lt_or_ge k 40 with h0 | h0
  · exact am_okR_at am_k46_0 (by omega) (by omega)
  rcases Nat.lt_or_ge k 46 with h40 | h40
  · exact am_okR_at am_k46_40 (by omega) (by omega)
  exact am_okA_end (List.getElem?_eq_none (show (am_tab 46).length ≤ k from h40))
theorem am_k47_0 : am_okR 47 0 40 = true := by decide +kernel
theorem am_k47_40 : am_okR 47 40 37 = true := by decide +kernel
theorem am_k47 (k : Nat) : am_okA 47 k = true := by
  rcases Nat.lt_or_ge k 40 with h0 | h0
  · exact am_okR_at am_k47_0 (by omega) (by omega)
  rcases Nat.lt_or_ge k 77 with h40 | h40
  · exact am_okR_at am_k47_40 (by omega) (by omega)
  exact am_okA_end (List.getElem?_eq_none (show (am_tab 47).length ≤ k from h40))
theorem am_k48_0 : am_okR 48 0 28 = true := by decide +kernel
theorem am_k48 (k : Nat) : am_okA 48 k = true := by
  rcases Nat.lt_or_ge k 28 with h0 | h0
  · exact am_okR_at am_k48_0 (by omega) (by omega)
  exact am_okA_end (List.getElem?_eq_none (show (am_tab 48).length ≤ k from h0))
theorem am_k49_0 : am_okR 49 0 27 = true := by decide +kernel
theorem am_k49 (k : Nat) : am_okA 49 k = true := by
  rcases Nat.lt_or_ge k 27 with h0 | h0
  · exact am_okR_at am_k49_0 (by omega) (by omega)
  exact am_okA_end (List.getElem?_eq_none (show (am_tab 49).length ≤ k from h0))
theorem am_k50_0 : am_okR 50 0 40 = true := by decide +kernel
theorem am_k50_40 : am_okR 50 40 39 = true := by decide +kernel
theorem am_k50 (k : Nat) : am_okA 50 k = true := by
  rcases Nat.lt_or_ge k 40 with h0 | h0
  · exact am_okR_at am_k50_0 (by omega) (by omega)
  rcases Nat.lt_or_ge k 79 with h40 | h40
  · exact am_okR_at am_k50_40 (by omega) (by omega)
  exact am_okA_end (List.getElem?_eq_none (show (am_tab 50).length ≤ k from h40))
theorem am_k51_0 : am_okR 51 0 29 = true := by decide +kernel
theorem am_k51 (k : Nat) : am_okA 51 k = true := by
  rcases Nat.lt_or_ge k 29 with h0 | h0
  · exact am_okR_at am_k51_0 (by omega) (by omega)
  exact am_okA_end (List.getElem?_eq_none (show (am_tab 51).length ≤ k from h0))
theorem am_k52_0 : am_okR 52 0 26 = true := by decide +kernel
theorem am_k52 (k : Nat) : am_okA 52 k = true := by
  rcases Nat.lt_or_ge k 26 with h0 | h0
  · exact am_okR_at am_k52_0 (by omega) (by omega)
  exact am_okA_end (List.getElem?_eq_none (show (am_tab 52).length ≤ k from h0))
theorem am_k53_0 : am_okR 53 0 40 = true := by decide +kernel
theorem am_k53_40 : am_okR 53 40 2 = true := by decide +kernel
theorem am_k53 (k : Nat) : am_okA 53 k = true := by
  rcases Nat.lt_or_ge k 40 with h0 | h0
  · exact am_okR_at am_k53_0 (by omega) (by omega)
  rcases Nat.lt_or_ge k 42 with h40 | h40
  · exact am_okR_at am_k53_40 (by omega) (by omega)
  exact am_okA_end (List.getElem?_eq_none (show (am_tab 53).length ≤ k from h40))
theorem am_k54_0 : am_okR 54 0 10 = true := by decide +kernel
theorem am_k54 (k : Nat) : am_okA 54 k = true := by
  rcases Nat.lt_or_ge k 10 with h0 | h0
  · exact am_okR_at am_k54_0 (by omega) (by omega)
  exact am_okA_end (List.getElem?_eq_none (show (am_tab 54).length ≤ k from h0))
theorem am_k55_0 : am_okR 55 0 10 = true := by decide +kernel
theorem am_k55 (k : Nat) : am_okA 55 k = true := by
  rcases Nat.lt_or_ge k 10 with h0 | h0
  · exact am_okR_at am_k55_0 (by omega) (by omega)
  exact am_okA_end (List.getElem?_eq_none (show (am_tab 55).length ≤ k from h0))
theorem am_k56_0 : am_okR 56 0 11 = true := by decide +kernel
theorem am_k56 (k : Nat) : am_okA 56 k = true := by
  rcases Nat.lt_or_ge k 11 with h0 | h0
  · exact am_okR_at am_k56_0 (by omega) (by omega)
  exact am_okA_end (List.getElem?_eq_none (show (am_tab 56).length ≤ k from h0))
theorem am_k57_0 : am_okR 57 0 16 = true := by decide +kernel
theorem am_k57 (k : Nat) : am_okA 57 k = true := by
  rcases Nat.lt_or_ge k 16 with h0 | h0
  · exact am_okR_at am_k57_0 (by omega) (by omega)
  exact am_okA_end (List.getElem?_eq_none (show (am_tab 57).length ≤ k from h0))
theorem am_k58_0 : am_okR 58 0 17 = true := by decide +kernel
theorem am_k58 (k : Nat) : am_okA 58 k = true := by
  rcases Nat.lt_or_ge k 17 with h0 | h0
  · exact am_okR_at am_k58_0 (by omega) (by omega)
  exact am_okA_end (List.getElem?_eq_none (show (am_tab 58).length ≤ k from h0))
theorem am_k59_0 : am_okR 59 0 22 = true := by decide +kernel
theorem am_k59 (k : Nat) : am_okA 59 k = true := by
  rcases Nat.lt_or_ge k 22 with h0 | h0
  · exact am_okR_at am_k59_0 (by omega) (by omega)
  exact am_okA_end (List.getElem?_eq_none (show (am_tab 59).length ≤ k from h0))
theorem am_k60_0 : am_okR 60 0 25 = true := by decide +kernel
theorem am_k60 (k : Nat) : am_okA 60 k = true := by
  rcases Nat.lt_or_ge k 25 with h0 | h0
  · exact am_okR_at am_k60_0 (by omega) (by omega)
  exact am_okA_end (List.getElem?_eq_none (show (am_tab 60).length ≤ k from h0))
theorem am_k61_0 : am_okR 61 0 40 = true := by decide +kernel
theorem am_k61_40 : am_okR 61 40 32 = true := by decide +kernel
theorem am_k61 (k : Nat) : am_okA 61 k = true := by
  rcases Nat.lt_or_ge k 40 with h0 | h0
  · exact am_okR_at am_k61_0 (by omega) (by omega)
  rcases Nat.lt_or_ge k 72 with h40 | h40
  · exact am_okR_at am_k61_40 (by omega) (by omega)
  exact am_okA_end (List.getElem?_eq_none (show (am_tab 61).length ≤ k from h40))
theorem am_k62_0 : am_okR 62 0 40 = true := by decide +kernel
theorem am_k62_40 : am_okR 62 40 29 = true := by decide +kernel
theorem am_k62 (k : Nat) : am_okA 62 k = true := by
  rcases Nat.lt_or_ge k 40 with h0 | h0
  · exact am_okR_at am_k62_0 (by omega) (by omega)
  rcases Nat.lt_or_ge k 69 with h40 | h40
  · exact am_okR_at am_k62_40 (by omega) (by omega)
  exact am_okA_end (List.getElem?_eq_none (show (am_tab 62).length ≤ k from h40))
theorem am_k63_0 : am_okR 63 0 29 = true := by decide +kernel
theorem am_k63 (k : Nat) : am_okA 63 k = true := by
  rcases Nat.lt_or_ge k 29 with h0 | h0
  · exact am_okR_at am_k63_0 (by omega) (by omega)
  exact am_okA_end (List.getElem?_eq_none (show (am_tab 63).length ≤ k from h0))
theorem am_k64_0 : am_okR 64 0 37 = true := by decide +kernel
theorem am_k64 (k : Nat) : am_okA 64 k = true := by
  rcases Nat.lt_or_ge k 37 with h0 | h0
  · exact am_okR_at am_k64_0 (by omega) (by omega)
  exact am_okA_end (List.getElem?_eq_none (show (am_tab 64).length ≤ k from h0))
theorem am_k65_0 : am_okR 65 0 22 = true := by decide +kernel
theorem am_k65 (k : Nat) : am_okA 65 k = true := by
  rcases Nat.lt_or_ge k 22 with h0 | h0
  · exact am_okR_at am_k65_0 (by omega) (by omega)
  exact am_okA_end (List.getElem?_eq_none (show (am_tab 65).length ≤ k from h0))
theorem am_k66_0 : am_okR 66 0 40 = true := by decide +kernel
theorem am_k66_40 : am_okR 66 40 24 = true := by decide +kernel
theorem am_k66 (k : Nat) : am_okA 66 k = true := by
  rcases Nat.lt_or_ge k 40 with h0 | h0
  · exact am_okR_at am_k66_0 (by omega) (by omega)
  rcases Nat.lt_or_ge k 64 with h40 | h40
  · exact am_okR_at am_k66_40 (by omega) (by omega)
  exact am_okA_end (List.getElem?_eq_none (show (am_tab 66).length ≤ k from h40))
theorem am_k67_0 : am_okR 67 0 40 = true := by decide +kernel
theorem am_k67_40 : am_okR 67 40 12 = true := by decide +kernel
theorem am_k67 (k : Nat) : am_okA 67 k = true := by
  rcases Nat.lt_or_ge k 40 with h0 | h0
  · exact am_okR_at am_k67_0 (by omega) (by omega)
  rcases Nat.lt_or_ge k 52 with h40 | h40
  · exact am_okR_at am_k67_40 (by omega) (by omega)
  exact am_okA_end (List.getElem?_eq_none (show (am_tab 67).length ≤ k from h40))
theorem am_k68_0 : am_okR 68 0 23 = true := by decide +kernel
theorem am_k68 (k : Nat) : am_okA 68 k = true := by
  rcases Nat.lt_or_ge k 23 with h0 | h0
  · exact am_okR_at am_k68_0 (by omega) (by omega)
  exact am_okA_end (List.getElem?_eq_none (show (am_tab 68).length ≤ k from h0))
theorem am_k69_0 : am_okR 69 0 23 = true := by decide +kernel
theorem am_k69 (k : Nat) : am_okA 69 k = true := by
  rcases Nat.lt_or_ge k 23 with h0 | h0
  · exact am_okR_at am_k69_0 (by omega) (by omega)
  exact am_okA_end (List.getElem?_eq_none (show (am_tab 69).length ≤ k from h0))
theorem am_k70_0 : am_okR 70 0 37 = true := by decide +kernel
theorem am_k70 (k : Nat) : am_okA 70 k = true := by
  rcases Nat.lt_or_ge k 37 with h0 | h0
  · exact am_okR_at am_k70_0 (by omega) (by omega)
  exact am_okA_end (List.getElem?_eq_none (show (am_tab 70).length ≤ k from h0))
theorem am_k71_0 : am_okR 71 0 17 = true := by decide +kernel
theorem am_k71 (k : Nat) : am_okA 71 k = true := by
  rcases Nat.lt_or_ge k 17 with h0 | h0
  · exact am_okR_at am_k71_0 (by omega) (by omega)
  exact am_okA_end (List.getElem?_eq_none (show (am_tab 71).length ≤ k from h0))
theorem am_k72_0 : am_okR 72 0 8 = true := by decide +kernel
theorem am_k72 (k : Nat) : am_okA 72 k = true := by
  rcases Nat.lt_or_ge k 8 with h0 | h0
  · exact am_okR_at am_k72_0 (by omega) (by omega)
  exact am_okA_end (List.getElem?_eq_none (show (am_tab 72).length ≤ k from h0))
theorem am_k73_0 : am_okR 73 0 12 = true := by decide +kernel
theorem am_k73 (k : Nat) : am_okA 73 k = true := by
  rcases Nat.lt_or_ge k 12 with h0 | h0
  · exact am_okR_at am_k73_0 (by omega) (by omega)
  exact am_okA_end (List.getElem?_eq_none (show (am_tab 73).length ≤ k from h0))
theorem am_k74_0 : am_okR 74 0 8 = true := by decide +kernel
theorem am_k74 (k : Nat) : am_okA 74 k = true := by
  rcases Nat.lt_or_ge k 8 with h0 | h0
  · exact am_okR_at am_k74_0 (by omega) (by omega)
  exact am_okA_end (List.getElem?_eq_none (show (am_tab 74).length ≤ k from h0))
theorem am_k75_0 : am_okR 75 0 31 = true := by decide +kernel
theorem am_k75 (k : Nat) : am_okA 75 k = true := by
  rcases Nat.lt_or_ge k 31 with h0 | h0
  · exact am_okR_at am_k75_0 (by omega) (by omega)
  exact am_okA_end (List.getElem?_eq_none (show (am_tab 75).length ≤ k from h0))
