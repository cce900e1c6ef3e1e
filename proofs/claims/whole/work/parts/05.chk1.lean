theorem am_k43_0 : am_okR 43 0 23 = true := by decide +kernel
theorem am_k43 (k : Nat) : am_okA 43 k = true := by
  rcases Nat.lt_or_ge k 23 with h0 | h0
  · exact am_okR_at am_k43_0 (by omega) (by omega)
  exact am_okA_end (List.getElem?_eq_none (show (am_tab 43).length ≤ k from h0))
theorem am_k44_0 : am_okR 44 0 23 = true := by decide +kernel
theorem am_k44 (k : Nat) : am_okA 44 k = true := by
  rcases Nat.lt_or_ge k 23 with h0 | h0
  · exact am_okR_at am_k44_0 (by omega) (by omega)
  exact am_okA_end (List.getElem?_eq_none (show (am_tab 44).length ≤ k from h0))
theorem am_k45_0 : am_okR 45 0 39 = true := by decide +kernel
theorem am_k45 (k : Nat) : am_okA 45 k = true := by
  rcases Nat.lt_or_ge k 39 with h0 | h0
  · exact am_okR_at am_k45_0 (by omega) (by omega)
  exact am_okA_end (List.getElem?_eq_none (show (am_tab 45).length ≤ k from h0))
theorem am_k46_0 : am_okR 46 0 35 = true := by decide +kernel
theorem am_k46 (k : Nat) : am_okA 46 k = true := by
  rcases Nat.lt_or_ge k 35 with h0 | h0
  · exact am_okR_at am_k46_0 (by omega) (by omega)
  exact am_okA_end (List.getElem?_eq_none (show (am_tab 46).length ≤ k from h0))
theorem am_k47_0 : am_okR 47 0 40 = true := by decide +kernel
theorem am_k47_40 : am_okR 47 40 40 = true := by decide +kernel
theorem am_k47_80 : am_okR 47 80 22 = true := by decide +kernel
theorem am_k47 (k : Nat) : am_okA 47 k = true := by
  rcases Nat.lt_or_ge k 40 with h0 | h0
  · exact am_okR_at am_k47_0 (by omega) (by omega)
  rcases Nat.lt_or_ge k 80 with h40 | h40
  · exact am_okR_at am_k47_40 (by omega) (by omega)
  rcases Nat.lt_or_ge k 102 with h80 | h80
  · exact am_okR_at am_k47_80 (by omega) (by omega)
  exact am_okA_end (List.getElem?_eq_none (show (am_tab 47).length ≤ k from h80))
theorem am_k48_0 : am_okR 48 0 28 = true := by decide +kernel
theorem am_k48 (k : Nat) : am_okA 48 k = true := by
  rcases Nat.lt_or_ge k 28 with h0 | h0
  · exact am_okR_at am_k48_0 (by omega) (by omega)
  exact am_okA_end (List.getElem?_eq_none (show (am_tab 48).length ≤ k from h0))
theorem am_k49_0 : am_okR 49 0 32 = true := by decide +kernel
theorem am_k49 (k : Nat) : am_okA 49 k = true := by
  rcases Nat.lt_or_ge k 32 with h0 | h0
  · exact am_okR_at am_k49_0 (by omega) (by omega)
  exact am_okA_end (List.getElem?_eq_none (show (am_tab 49).length ≤ k from h0))
theorem am_k50_0 : am_okR 50 0 36 = true := by decide +kernel
theorem am_k50 (k : Nat) : am_okA 50 k = true := by
  rcases Nat.lt_or_ge k 36 with h0 | h0
  · exact am_okR_at am_k50_0 (by omega) (by omega)
  exact am_okA_end (List.getElem?_eq_none (show (am_tab 50).length ≤ k from h0))
theorem am_k51_0 : am_okR 51 0 32 = true := by decide +kernel
theorem am_k51 (k : Nat) : am_okA 51 k = true := by
  rcases Nat.lt_or_ge k 32 with h0 | h0
  · exact am_okR_at am_k51_0 (by omega) (by omega)
  exact am_okA_end (List.getElem?_eq_none (show (am_tab 51).length ≤ k from h0))
theorem am_k52_0 : am_okR 52 0 40 = true := by decide +kernel
theorem am_k52_40 : am_okR 52 40 10 = true := by decide +kernel
theorem am_k52 (k : Nat) : am_okA 52 k = true := by
  rcases Nat.lt_or_ge k 40 with h0 | h0
  · exact am_okR_at am_k52_0 (by omega) (by omega)
  rcases Nat.lt_or_ge k 50 with h40 | h40
  · exact am_okR_at am_k52_40 (by omega) (by omega)
  exact am_okA_end (List.getElem?_eq_none (show (am_tab 52).length ≤ k from h40))
theorem am_k53_0 : am_okR 53 0 8 = true := by decide +kernel
theorem am_k53 (k : Nat) : am_okA 53 k = true := by
  rcases Nat.lt_or_ge k 8 with h0 | h0
  · exact am_okR_at am_k53_0 (by omega) (by omega)
  exact am_okA_end (List.getElem?_eq_none (show (am_tab 53).length ≤ k from h0))
theorem am_k54_0 : am_okR 54 0 34 = true := by decide +kernel
theorem am_k54 (k : Nat) : am_okA 54 k = true := by
  rcases Nat.lt_or_ge k 34 with h0 | h0
  · exact am_okR_at am_k54_0 (by omega) (by omega)
  exact am_okA_end (List.getElem?_eq_none (show (am_tab 54).length ≤ k from h0))
theorem am_k55_0 : am_okR 55 0 30 = true := by decide +kernel
theorem am_k55 (k : Nat) : am_okA 55 k = true := by
  rcases Nat.lt_or_ge k 30 with h0 | h0
  · exact am_okR_at am_k55_0 (by omega) (by omega)
  exact am_okA_end (List.getElem?_eq_none (show (am_tab 55).length ≤ k from h0))
theorem am_k56_0 : am_okR 56 0 18 = true := by decide +kernel
theorem am_k56 (k : Nat) : am_okA 56 k = true := by
  rcases Nat.lt_or_ge k 18 with h0 | h0
  · exact am_okR_at am_k56_0 (by omega) (by omega)
  exact am_okA_end (List.getElem?_eq_none (show (am_tab 56).length ≤ k from h0))
theorem am_k57_0 : am_okR 57 0 29 = true := by decide +kernel
theorem am_k57 (k : Nat) : am_okA 57 k = true := by
  rcases Nat.lt_or_ge k 29 with h0 | h0
  · exact am_okR_at am_k57_0 (by omega) (by omega)
  exact am_okA_end (List.getElem?_eq_none (show (am_tab 57).length ≤ k from h0))
theorem am_k58_0 : am_okR 58 0 32 = true := by decide +kernel
theorem am_k58 (k : Nat) : am_okA 58 k = true := by
  rcases Nat.lt_or_ge k 32 with h0 | h0
  · exact am_okR_at am_k58_0 (by omega) (by omega)
  exact am_okA_end (List.getElem?_eq_none (show (am_tab 58).length ≤ k from h0))
theorem am_k59_0 : am_okR 59 0 18 = true := by decide +kernel
theorem am_k59 (k : Nat) : am_okA 59 k = true := by
  rcases Nat.lt_or_ge k 18 with h0 | h0
  · exact am_okR_at am_k59_0 (by omega) (by omega)
  exact am_okA_end (List.getElem?_eq_none (show (am_tab 59).length ≤ k from h0))
theorem am_k60_0 : am_okR 60 0 33 = true := by decide +kernel
theorem am_k60 (k : Nat) : am_okA 60 k = true := by
  rcases Nat.lt_or_ge k 33 with h0 | h0
  · exact am_okR_at am_k60_0 (by omega) (by omega)
  exact am_okA_end (List.getElem?_eq_none (show (am_tab 60).length ≤ k from h0))
theorem am_k61_0 : am_okR 61 0 20 = true := by decide +kernel
theorem am_k61 (k : Nat) : am_okA 61 k = true := by
  rcases Nat.lt_or_ge k 20 with h0 | h0
  · exact am_okR_at am_k61_0 (by omega) (by omega)
  exact am_okA_end (List.getElem?_eq_none (show (am_tab 61).length ≤ k from h0))
theorem am_k62_0 : am_okR 62 0 10 = true := by decide +kernel
theorem am_k62 (k : Nat) : am_okA 62 k = true := by
  rcases Nat.lt_or_ge k 10 with h0 | h0
  · exact am_okR_at am_k62_0 (by omega) (by omega)
  exact am_okA_end (List.getElem?_eq_none (show (am_tab 62).length ≤ k from h0))
theorem am_k63_0 : am_okR 63 0 18 = true := by decide +kernel
theorem am_k63 (k : Nat) : am_okA 63 k = true := by
  rcases Nat.lt_or_ge k 18 with h0 | h0
  · exact am_okR_at am_k63_0 (by omega) (by omega)
  exact am_okA_end (List.getElem?_eq_none (show (am_tab 63).length ≤ k from h0))
theorem am_k64_0 : am_okR 64 0 36 = true := by decide +kernel
theorem am_k64 (k : Nat) : am_okA 64 k = true := by
  rcases Nat.lt_or_ge k 36 with h0 | h0
  · exact am_okR_at am_k64_0 (by omega) (by omega)
  exact am_okA_end (List.getElem?_eq_none (show (am_tab 64).length ≤ k from h0))
theorem am_k65_0 : am_okR 65 0 38 = true := by decide +kernel
theorem am_k65 (k : Nat) : am_okA 65 k = true := by
  rcases Nat.lt_or_ge k 38 with h0 | h0
  · exact am_okR_at am_k65_0 (by omega) (by omega)
  exact am_okA_end (List.getElem?_eq_none (show (am_tab 65).length ≤ k from h0))
theorem am_k66_0 : am_okR 66 0 27 = true := by decide +kernel
theorem am_k66 (k : Nat) : am_okA 66 k = true := by
  rcases Nat.lt_or_ge k 27 with h0 | h0
  · exact am_okR_at am_k66_0 (by omega) (by omega)
  exact am_okA_end (List.getElem?_eq_none (show (am_tab 66).length ≤ k from h0))
theorem am_k67_0 : am_okR 67 0 40 = true := by decide +kernel
theorem am_k67_40 : am_okR 67 40 25 = true := by decide +kernel
theorem am_k67 (k : Nat) : am_okA 67 k = true := by
  rcases Nat.lt_or_ge k 40 with h0 | h0
  · exact am_okR_at am_k67_0 (by omega) (by omega)
  rcases Nat.lt_or_ge k 65 with h40 | h40
  · exact am_okR_at am_k67_40 (by omega) (by omega)
  exact am_okA_end (List.getElem?_eq_none (show (am_tab 67).length ≤ k from h40))
theorem am_k68_0 : am_okR 68 0 29 = true := by decide +kernel
theorem am_k68 (k : Nat) : am_okA 68 k = true := by
  rcases Nat.lt_or_ge k 29 with h0 | h0
  · exact am_okR_at am_k68_0 (by omega) (by omega)
  exact am_okA_end (List.getElem?_eq_none (show (am_tab 68).length ≤ k from h0))
theorem am_k69_0 : am_okR 69 0 32 = true := by decide +kernel
theorem am_k69 (k : Nat) : am_okA 69 k = true := by
  rcases Nat.lt_or_ge k 32 with h0 | h0
  · exact am_okR_at am_k69_0 (by omega) (by omega)
  exact am_okA_end (List.getElem?_eq_none (show (am_tab 69).length ≤ k from h0))
theorem am_k70_0 : am_okR 70 0 12 = true := by decide +kernel
theorem am_k70 (k : Nat) : am_okA 70 k = true := by
  rcases Nat.lt_or_ge k 12 with h0 | h0
  · exact am_okR_at am_k70_0 (by omega) (by omega)
  exact am_okA_end (List.getElem?_eq_none (show (am_tab 70).length ≤ k from h0))
theorem am_k71_0 : am_okR 71 0 9 = true := by decide +kernel
theorem am_k71 (k : Nat) : am_okA 71 k = true := by
  rcases Nat.lt_or_ge k 9 with h0 | h0
  · exact am_okR_at am_k71_0 (by omega) (by omega)
  exact am_okA_end (List.getElem?_eq_none (show (am_tab 71).length ≤ k from h0))
theorem am_k72_0 : am_okR 72 0 9 = true := by decide +kernel
theorem am_k72 (k : Nat) : am_okA 72 k = true := by
  rcases Nat.lt_or_ge k 9 with h0 | h0
  · exact am_okR_at am_k72_0 (by omega) (by omega)
  exact am_okA_end (List.getElem?_eq_none (show (am_tab 72).length ≤ k from h0))
theorem am_k73_0 : am_okR 73 0 12 = true := by decide +kernel
theorem am_k73 (k : Nat) : am_okA 73 k = true := by
  rcases Nat.lt_or_ge k 12 with h0 | h0
  · exact am_okR_at am_k73_0 (by omega) (by omega)
  exact am_okA_end (List.getElem?_eq_none (show (am_tab 73).length ≤ k from h0))
theorem am_k74_0 : am_okR 74 0 9 = true := by decide +kernel
theorem am_k74 (k : Nat) : am_okA 74 k = true := by
  rcases Nat.lt_or_ge k 9 with h0 | h0
  · exact am_okR_at am_k74_0 (by omega) (by omega)
  exact am_okA_end (List.getElem?_eq_none (show (am_tab 74).length ≤ k from h0))
theorem am_k75_0 : am_okR 75 0 24 = true := by decide +kernel
theorem am_k75 (k : Nat) : am_okA 75 k = true := by
  rcases Nat.lt_or_ge k 24 with h0 | h0
  · exact am_okR_at am_k75_0 (by omega) (by omega)
  exact am_okA_end (List.getElem?_eq_none (show (am_tab 75).length ≤ k from h0))
theorem am_k76_0 : am_okR 76 0 33 = true := by decide +kernel
theorem am_k76 (k : Nat) : am_okA 76 k = true := by
  rcases Nat.lt_or_ge k 33 with h0 | h0
  · exact am_okR_at am_k76_0 (by omega) (by omega)
  exact am_okA_end (List.getElem?_eq_none (show (am_tab 76).length ≤ k from h0))
theorem am_k77_0 : am_okR 77 0 10 = true := by decide +kernel
theorem am_k77 (k : Nat) : am_okA 77 k = true := by
  rcases Nat.lt_or_ge k 10 with h0 | h0
  · exact am_okR_at am_k77_0 (by omega) (by omega)
  exact am_okA_end (List.getElem?_eq_none (show (am_tab 77).length ≤ k from h0))
theorem am_k78_0 : am_okR 78 0 8 = true := by decide +kernel
theorem am_k78 (k : Nat) : am_okA 78 k = true := by
  rcases Nat.lt_or_ge k 8 with h0 | h0
  · exact am_okR_at am_k78_0 (by omega) (by omega)
  exact am_okA_end (List.getElem?_eq_none (show (am_tab 78).length ≤ k from h0))
theorem am_k79_0 : am_okR 79 0 8 = true := by decide +kernel
theorem am_k79 (k : Nat) : am_okA 79 k = true := by
  rcases Nat.lt_or_ge k 8 with h0 | h0
  · exact am_okR_at am_k79_0 (by omega) (by omega)
  exact am_okA_end (List.getElem?_eq_none (show (am_tab 79).length ≤ k from h0))
theorem am_k80_0 : am_okR 80 0 14 = true := by decide +kernel
theorem am_k80 (k : Nat) : am_okA 80 k = true := by
  rcases Nat.lt_or_ge k 14 with h0 | h0
  · exact am_okR_at am_k80_0 (by omega) (by omega)
  exact am_okA_end (List.getElem?_eq_none (show (am_tab 80).length ≤ k from h0))
theorem am_k81_0 : am_okR 81 0 35 = true := by decide +kernel
theorem am_k81 (k : Nat) : am_okA 81 k = true := by
  rcases Nat.lt_or_ge k 35 with h0 | h0
  · exact am_okR_at am_k81_0 (by omega) (by omega)
  exact am_okA_end (List.getElem?_eq_none (show (am_tab 81).length ≤ k from h0))
theorem am_k82_0 : am_okR 82 0 29 = true := by decide +kernel
theorem am_k82 (k : Nat) : am_okA 82 k = true := by
  rcases Nat.lt_or_ge k 29 with h0 | h0
  · exact am_okR_at am_k82_0 (by omega) (by omega)
  exact am_okA_end (List.getElem?_eq_none (show (am_tab 82).length ≤ k from h0))
theorem am_k83_0 : am_okR 83 0 40 = true := by decide +kernel
theorem am_k83_40 : am_okR 83 40 40 = true := by decide +kernel
theorem am_k83_80 : am_okR 83 80 30 = true := by decide +kernel
theorem am_k83 (k : Nat) : am_okA 83 k = true := by
  rcases Nat.lt_or_ge k 40 with h0 | h0
  · exact am_okR_at am_k83_0 (by omega) (by omega)
  rcases Nat.lt_or_ge k 80 with h40 | h40
  · exact am_okR_at am_k83_40 (by omega) (by omega)
  rcases Nat.lt_or_ge k 110 with h80 | h80
  · exact am_okR_at am_k83_80 (by omega) (by omega)
  exact am_okA_end (List.getElem?_eq_none (show (am_tab 83).length ≤ k from h80))
theorem am_k84_0 : am_okR 84 0 21 = true := by decide +kernel
theorem am_k84 (k : Nat) : am_okA 84 k = true := by
  rcases Nat.lt_or_ge k 21 with h0 | h0
  · exact am_okR_at am_k84_0 (by omega) (by omega)
  exact am_okA_end (List.getElem?_eq_none (show (am_tab 84).length ≤ k from h0))
theorem am_k85_0 : am_okR 85 0 14 = true := by decide +kernel
theorem am_k85 (k : Nat) : am_okA 85 k = true := by
  rcases Nat.lt_or_ge k 14 with h0 | h0
  · exact am_okR_at am_k85_0 (by omega) (by omega)
  exact am_okA_end (List.getElem?_eq_none (show (am_tab 85).length ≤ k from h0))
theorem am_k86_0 : am_okR 86 0 40 = true := by decide +kernel
theorem am_k86_40 : am_okR 86 40 17 = true := by decide +kernel
theorem am_k86 (k : Nat) : am_okA 86 k = true := by
  rcases Nat.lt_or_ge k 40 with h0 | h0
  · exact am_okR_at am_k86_0 (by omega) (by omega)
  rcases Nat.lt_or_ge k 57 with h40 | h40
  · exact am_okR_at am_k86_40 (by omega) (by omega)
  exact am_okA_end (List.getElem?_eq_none (show (am_tab 86).length ≤ k from h40))
theorem am_k87_0 : am_okR 87 0 35 = true := by decide +kernel
theorem am_k87 (k : Nat) : am_okA 87 k = true := by
  rcases Nat.lt_or_ge k 35 with h0 | h0
  · exact am_okR_at am_k87_0 (by omega) (by omega)
  exact am_okA_end (List.getElem?_eq_none (show (am_tab 87).length ≤ k from h0))
