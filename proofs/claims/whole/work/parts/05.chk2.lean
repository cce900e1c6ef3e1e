theorem am_k76_0 : am_okR 76 0 31 = true := by decide +kernel
theorem am_k76 (k : Nat) : am_okA 76 k = true := by
  rcases Nat.lt_or_ge k 31 with h0 | h0
  · exact am_okR_at am_k76_0 (by omega) (by omega)
  exact am_okA_end (List.getElem?_eq_none (show (am_tab 76).length ≤ k from h0))
theorem am_k77_0 : am_okR 77 0 22 = true := by decide +kernel
theorem am_k77 (k : Nat) : am_okA 77 k = true := by
  rcases Nat.lt_or_ge k 22 with h0 | h0
  · exact am_okR_at am_k77_0 (by omega) (by omega)
  exact am_okA_end (List.getElem?_eq_none (show (am_tab 77).length ≤ k from h0))
theorem am_k78_0 : am_okR 78 0 40 = true := by decide +kernel
theorem am_k78_40 : am_okR 78 40 40 = true := by decide +kernel
theorem am_k78_80 : am_okR 78 80 36 = true := by decide +kernel
theorem am_k78 (k : Nat) : am_okA 78 k = true := by
  rcases Nat.lt_or_ge k 40 with h0 | h0
  · exact am_okR_at am_k78_0 (by omega) (by omega)
  rcases Nat.lt_or_ge k 80 with h40 | h40
  · exact am_okR_at am_k78_40 (by omega) (by omega)
  rcases Nat.lt_or_ge k 116 with h80 | h80
  · exact am_okR_at am_k78_80 (by omega) (by omega)
  exact am_okA_end (List.getElem?_eq_none (show (am_tab 78).length ≤ k from h80))
theorem am_k79_0 : am_okR 79 0 39 = true := by decide +kernel
theorem am_k79 (k : Nat) : am_okA 79 k = true := by
  rcases Nat.lt_or_ge k 39 with h0 | h0
  · exact am_okR_at am_k79_0 (by omega) (by omega)
  exact am_okA_end (List.getElem?_eq_none (show (am_tab 79).length ≤ k from h0))
theorem am_k80_0 : am_okR 80 0 40 = true := by decide +kernel
theorem am_k80_40 : am_okR 80 40 31 = true := by decide +kernel
theorem am_k80 (k : Nat) : am_okA 80 k = true := by
  rcases Nat.lt_or_ge k 40 with h0 | h0
  · exact am_okR_at am_k80_0 (by omega) (by omega)
  rcases Nat.lt_or_ge k 71 with h40 | h40
  · exact am_okR_at am_k80_40 (by omega) (by omega)
  exact am_okA_end (List.getElem?_eq_none (show (am_tab 80).length ≤ k from h40))
theorem am_k81_0 : am_okR 81 0 20 = true := by decide +kernel
theorem am_k81 (k : Nat) : am_okA 81 k = true := by
  rcases Nat.lt_or_ge k 20 with h0 | h0
  · exact am_okR_at am_k81_0 (by omega) (by omega)
  exact am_okA_end (List.getElem?_eq_none (show (am_tab 81).length ≤ k from h0))
theorem am_k82_0 : am_okR 82 0 21 = true := by decide +kernel
theorem am_k82 (k : Nat) : am_okA 82 k = true := by
  rcases Nat.lt_or_ge k 21 with h0 | h0
  · exact am_okR_at am_k82_0 (by omega) (by omega)
  exact am_okA_end (List.getElem?_eq_none (show (am_tab 82).length ≤ k from h0))
theorem am_k83_0 : am_okR 83 0 33 = true := by decide +kernel
theorem am_k83 (k : Nat) : am_okA 83 k = true := by
  rcases Nat.lt_or_ge k 33 with h0 | h0
  · exact am_okR_at am_k83_0 (by omega) (by omega)
  exact am_okA_end (List.getElem?_eq_none (show (am_tab 83).length ≤ k from h0))
theorem am_k84_0 : am_okR 84 0 40 = true := by decide +kernel
theorem am_k84_40 : am_okR 84 40 13 = true := by decide +kernel
theorem am_k84 (k : Nat) : am_okA 84 k = true := by
  rcases Nat.lt_or_ge k 40 with h0 | h0
  · exact am_okR_at am_k84_0 (by omega) (by omega)
  rcases Nat.lt_or_ge k 53 with h40 | h40
  · exact am_okR_at am_k84_40 (by omega) (by omega)
  exact am_okA_end (List.getElem?_eq_none (show (am_tab 84).length ≤ k from h40))
theorem am_k85_0 : am_okR 85 0 25 = true := by decide +kernel
theorem am_k85 (k : Nat) : am_okA 85 k = true := by
  rcases Nat.lt_or_ge k 25 with h0 | h0
  · exact am_okR_at am_k85_0 (by omega) (by omega)
  exact am_okA_end (List.getElem?_eq_none (show (am_tab 85).length ≤ k from h0))
theorem am_k86_0 : am_okR 86 0 17 = true := by decide +kernel
theorem am_k86 (k : Nat) : am_okA 86 k = true := by
  rcases Nat.lt_or_ge k 17 with h0 | h0
  · exact am_okR_at am_k86_0 (by omega) (by omega)
  exact am_okA_end (List.getElem?_eq_none (show (am_tab 86).length ≤ k from h0))
theorem am_k87_0 : am_okR 87 0 14 = true := by decide +kernel
theorem am_k87 (k : Nat) : am_okA 87 k = true := by
  rcases Nat.lt_or_ge k 14 with h0 | h0
  · exact am_okR_at am_k87_0 (by omega) (by omega)
  exact am_okA_end (List.getElem?_eq_none (show (am_tab 87).length ≤ k from h0))
theorem am_k88_0 : am_okR 88 0 19 = true := by decide +kernel
theorem am_k88 (k : Nat) : am_okA 88 k = true := by
  rcases Nat.lt_or_ge k 19 with h0 | h0
  · exact am_okR_at am_k88_0 (by omega) (by omega)
  exact am_okA_end (List.getElem?_eq_none (show (am_tab 88).length ≤ k from h0))
theorem am_k89_0 : am_okR 89 0 40 = true := by decide +kernel
theorem am_k89_40 : am_okR 89 40 24 = true := by decide +kernel
theorem am_k89 (k : Nat) : am_okA 89 k = true := by
  rcases Nat.lt_or_ge k 40 with h0 | h0
  · exact am_okR_at am_k89_0 (by omega) (by omega)
  rcases Nat.lt_or_ge k 64 with h40 | h40
  · exact am_okR_at am_k89_40 (by omega) (by omega)
  exact am_okA_end (List.getElem?_eq_none (show (am_tab 89).length ≤ k from h40))
theorem am_k90_0 : am_okR 90 0 28 = true := by decide +kernel
theorem am_k90 (k : Nat) : am_okA 90 k = true := by
  rcases Nat.lt_or_ge k 28 with h0 | h0
  · exact am_okR_at am_k90_0 (by omega) (by omega)
  exact am_okA_end (List.getElem?_eq_none (show (am_tab 90).length ≤ k from h0))
theorem am_k91_0 : am_okR 91 0 17 = true := by decide +kernel
theorem am_k91 (k : Nat) : am_okA 91 k = true := by
  rcases Nat.lt_or_ge k 17 with h0 | h0
  · exact am_okR_at am_k91_0 (by omega) (by omega)
  exact am_okA_end (List.getElem?_eq_none (show (am_tab 91).length ≤ k from h0))
theorem am_k92_0 : am_okR 92 0 19 = true := by decide +kernel
theorem am_k92 (k : Nat) : am_okA 92 k = true := by
  rcases Nat.lt_or_ge k 19 with h0 | h0
  · exact am_okR_at am_k92_0 (by omega) (by omega)
  exact am_okA_end (List.getElem?_eq_none (show (am_tab 92).length ≤ k from h0))
theorem am_k93_0 : am_okR 93 0 21 = true := by decide +kernel
theorem am_k93 (k : Nat) : am_okA 93 k = true := by
  rcases Nat.lt_or_ge k 21 with h0 | h0
  · exact am_okR_at am_k93_0 (by omega) (by omega)
  exact am_okA_end (List.getElem?_eq_none (show (am_tab 93).length ≤ k from h0))
theorem am_k94_0 : am_okR 94 0 11 = true := by decide +kernel
theorem am_k94 (k : Nat) : am_okA 94 k = true := by
  rcases Nat.lt_or_ge k 11 with h0 | h0
  · exact am_okR_at am_k94_0 (by omega) (by omega)
  exact am_okA_end (List.getElem?_eq_none (show (am_tab 94).length ≤ k from h0))
theorem am_k95_0 : am_okR 95 0 35 = true := by decide +kernel
theorem am_k95 (k : Nat) : am_okA 95 k = true := by
  rcases Nat.lt_or_ge k 35 with h0 | h0
  · exact am_okR_at am_k95_0 (by omega) (by omega)
  exact am_okA_end (List.getElem?_eq_none (show (am_tab 95).length ≤ k from h0))
theorem am_k96_0 : am_okR 96 0 40 = true := by decide +kernel
theorem am_k96_40 : am_okR 96 40 1 = true := by decide +kernel
theorem am_k96 (k : Nat) : am_okA 96 k = true := by
  rcases Nat.lt_or_ge k 40 with h0 | h0
  · exact am_okR_at am_k96_0 (by omega) (by omega)
  rcases Nat.lt_or_ge k 41 with h40 | h40
  · exact am_okR_at am_k96_40 (by omega) (by omega)
  exact am_okA_end (List.getElem?_eq_none (show (am_tab 96).length ≤ k from h40))
theorem am_k97_0 : am_okR 97 0 29 = true := by decide +kernel
theorem am_k97 (k : Nat) : am_okA 97 k = true := by
  rcases Nat.lt_or_ge k 29 with h0 | h0
  · exact am_okR_at am_k97_0 (by omega) (by omega)
  exact am_okA_end (List.getElem?_eq_none (show (am_tab 97).length ≤ k from h0))
theorem am_k98_0 : am_okR 98 0 14 = true := by decide +kernel
theorem am_k98 (k : Nat) : am_okA 98 k = true := by
  rcases Nat.lt_or_ge k 14 with h0 | h0
  · exact am_okR_at am_k98_0 (by omega) (by omega)
  exact am_okA_end (List.getElem?_eq_none (show (am_tab 98).length ≤ k from h0))
theorem am_k99_0 : am_okR 99 0 39 = true := by decide +kernel
theorem am_k99 (k : Nat) : am_okA 99 k = true := by
  rcases Nat.lt_or_ge k 39 with h0 | h0
  · exact am_okR_at am_k99_0 (by omega) (by omega)
  exact am_okA_end (List.getElem?_eq_none (show (am_tab 99).length ≤ k from h0))
theorem am_k100_0 : am_okR 100 0 35 = true := by decide +kernel
theorem am_k100 (k : Nat) : am_okA 100 k = true := by
  rcases Nat.lt_or_ge k 35 with h0 | h0
  · exact am_okR_at am_k100_0 (by omega) (by omega)
  exact am_okA_end (List.getElem?_eq_none (show (am_tab 100).length ≤ k from h0))
theorem am_k101_0 : am_okR 101 0 40 = true := by decide +kernel
theorem am_k101_40 : am_okR 101 40 40 = true := by decide +kernel
theorem am_k101_80 : am_okR 101 80 22 = true := by decide +kernel
theorem am_k101 (k : Nat) : am_okA 101 k = true := by
  rcases Nat.lt_or_ge k 40 with h0 | h0
  · exact am_okR_at am_k101_0 (by omega) (by omega)
  rcases Nat.lt_or_ge k 80 with h40 | h40
  · exact am_okR_at am_k101_40 (by omega) (by omega)
  rcases Nat.lt_or_ge k 102 with h80 | h80
  · exact am_okR_at am_k101_80 (by omega) (by omega)
  exact am_okA_end (List.getElem?_eq_none (show (am_tab 101).length ≤ k from h80))
theorem am_k102_0 : am_okR 102 0 28 = true := by decide +kernel
theorem am_k102 (k : Nat) : am_okA 102 k = true := by
  rcases Nat.lt_or_ge k 28 with h0 | h0
  · exact am_okR_at am_k102_0 (by omega) (by omega)
  exact am_okA_end (List.getElem?_eq_none (show (am_tab 102).length ≤ k from h0))
theorem am_k103_0 : am_okR 103 0 32 = true := by decide +kernel
theorem am_k103 (k : Nat) : am_okA 103 k = true := by
  rcases Nat.lt_or_ge k 32 with h0 | h0
  · exact am_okR_at am_k103_0 (by omega) (by omega)
  exact am_okA_end (List.getElem?_eq_none (show (am_tab 103).length ≤ k from h0))
theorem am_k104_0 : am_okR 104 0 36 = true := by decide +kernel
theorem am_k104 (k : Nat) : am_okA 104 k = true := by
  rcases Nat.lt_or_ge k 36 with h0 | h0
  · exact am_okR_at am_k104_0 (by omega) (by omega)
  exact am_okA_end (List.getElem?_eq_none (show (am_tab 104).length ≤ k from h0))
theorem am_k105_0 : am_okR 105 0 32 = true := by decide +kernel
theorem am_k105 (k : Nat) : am_okA 105 k = true := by
  rcases Nat.lt_or_ge k 32 with h0 | h0
  · exact am_okR_at am_k105_0 (by omega) (by omega)
  exact am_okA_end (List.getElem?_eq_none (show (am_tab 105).length ≤ k from h0))
theorem am_k106_0 : am_okR 106 0 40 = true := by decide +kernel
theorem am_k106_40 : am_okR 106 40 10 = true := by decide +kernel
theorem am_k106 (k : Nat) : am_okA 106 k = true := by
  rcases Nat.lt_or_ge k 40 with h0 | h0
  · exact am_okR_at am_k106_0 (by omega) (by omega)
  rcases Nat.lt_or_ge k 50 with h40 | h40
  · exact am_okR_at am_k106_40 (by omega) (by omega)
  exact am_okA_end (List.getElem?_eq_none (show (am_tab 106).length ≤ k from h40))
theorem am_k107_0 : am_okR 107 0 8 = true := by decide +kernel
theorem am_k107 (k : Nat) : am_okA 107 k = true := by
  rcases Nat.lt_or_ge k 8 with h0 | h0
  · exact am_okR_at am_k107_0 (by omega) (by omega)
  exact am_okA_end (List.getElem?_eq_none (show (am_tab 107).length ≤ k from h0))
theorem am_k108_0 : am_okR 108 0 34 = true := by decide +kernel
theorem am_k108 (k : Nat) : am_okA 108 k = true := by
  rcases Nat.lt_or_ge k 34 with h0 | h0
  · exact am_okR_at am_k108_0 (by omega) (by omega)
  exact am_okA_end (List.getElem?_eq_none (show (am_tab 108).length ≤ k from h0))
theorem am_k109_0 : am_okR 109 0 30 = true := by decide +kernel
theorem am_k109 (k : Nat) : am_okA 109 k = true := by
  rcases Nat.lt_or_ge k 30 with h0 | h0
  · exact am_okR_at am_k109_0 (by omega) (by omega)
  exact am_okA_end (List.getElem?_eq_none (show (am_tab 109).length ≤ k from h0))
theorem am_k110_0 : am_okR 110 0 18 = true := by decide +kernel
theorem am_k110 (k : Nat) : am_okA 110 k = true := by
  rcases Nat.lt_or_ge k 18 with h0 | h0
  · exact am_okR_at am_k110_0 (by omega) (by omega)
  exact am_okA_end (List.getElem?_eq_none (show (am_tab 110).length ≤ k from h0))
theorem am_k111_0 : am_okR 111 0 29 = true := by decide +kernel
theorem am_k111 (k : Nat) : am_okA 111 k = true := by
  rcases Nat.lt_or_ge k 29 with h0 | h0
  · exact am_okR_at am_k111_0 (by omega) (by omega)
  exact am_okA_end (List.getElem?_eq_none (show (am_tab 111).length ≤ k from h0))
theorem am_k112_0 : am_okR 112 0 32 = true := by decide +kernel
theorem am_k112 (k : Nat) : am_okA 112 k = true := by
  rcases Nat.lt_or_ge k 32 with h0 | h0
  · exact am_okR_at am_k112_0 (by omega) (by omega)
  exact am_okA_end (List.getElem?_eq_none (show (am_tab 112).length ≤ k from h0))
theorem am_k113_0 : am_okR 113 0 18 = true := by decide +kernel
theorem am_k113 (k : Nat) : am_okA 113 k = true := by
  rcases Nat.lt_or_ge k 18 with h0 | h0
  · exact am_okR_at am_k113_0 (by omega) (by omega)
  exact am_okA_end (List.getElem?_eq_none (show (am_tab 113).length ≤ k from h0))
theorem am_k114_0 : am_okR 114 0 33 = true := by decide +kernel
theorem am_k114 (k : Nat) : am_okA 114 k = true := by
  rcases Nat.lt_or_ge k 33 with h0 | h0
  · exact am_okR_at am_k114_0 (by omega) (by omega)
  exact am_okA_end (List.getElem?_eq_none (show (am_tab 114).length ≤ k from h0))
