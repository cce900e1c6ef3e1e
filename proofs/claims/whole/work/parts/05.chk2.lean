theorem am_k88_0 : am_okR 88 0 25 = true := by decide +kernel
theorem am_k88 (k : Nat) : am_okA 88 k = true := by
  rcases Nat.lt_or_ge k 25 with h0 | h0
  · exact am_okR_at am_k88_0 (by omega) (by omega)
  exact am_okA_end (List.getElem?_eq_none (show (am_tab 88).length ≤ k from h0))
theorem am_k89_0 : am_okR 89 0 28 = true := by decide +kernel
theorem am_k89 (k : Nat) : am_okA 89 k = true := by
  rcases Nat.lt_or_ge k 28 with h0 | h0
  · exact am_okR_at am_k89_0 (by omega) (by omega)
  exact am_okA_end (List.getElem?_eq_none (show (am_tab 89).length ≤ k from h0))
theorem am_k90_0 : am_okR 90 0 40 = true := by decide +kernel
theorem am_k90_40 : am_okR 90 40 4 = true := by decide +kernel
theorem am_k90 (k : Nat) : am_okA 90 k = true := by
  rcases Nat.lt_or_ge k 40 with h0 | h0
  · exact am_okR_at am_k90_0 (by omega) (by omega)
  rcases Nat.lt_or_ge k 44 with h40 | h40
  · exact am_okR_at am_k90_40 (by omega) (by omega)
  exact am_okA_end (List.getElem?_eq_none (show (am_tab 90).length ≤ k from h40))
theorem am_k91_0 : am_okR 91 0 23 = true := by decide +kernel
theorem am_k91 (k : Nat) : am_okA 91 k = true := by
  rcases Nat.lt_or_ge k 23 with h0 | h0
  · exact am_okR_at am_k91_0 (by omega) (by omega)
  exact am_okA_end (List.getElem?_eq_none (show (am_tab 91).length ≤ k from h0))
theorem am_k92_0 : am_okR 92 0 40 = true := by decide +kernel
theorem am_k92_40 : am_okR 92 40 37 = true := by decide +kernel
theorem am_k92 (k : Nat) : am_okA 92 k = true := by
  rcases Nat.lt_or_ge k 40 with h0 | h0
  · exact am_okR_at am_k92_0 (by omega) (by omega)
  rcases Nat.lt_or_ge k 77 with h40 | h40
  · exact am_okR_at am_k92_40 (by omega) (by omega)
  exact am_okA_end (List.getElem?_eq_none (show (am_tab 92).length ≤ k from h40))
theorem am_k93_0 : am_okR 93 0 25 = true := by decide +kernel
theorem am_k93 (k : Nat) : am_okA 93 k = true := by
  rcases Nat.lt_or_ge k 25 with h0 | h0
  · exact am_okR_at am_k93_0 (by omega) (by omega)
  exact am_okA_end (List.getElem?_eq_none (show (am_tab 93).length ≤ k from h0))
theorem am_k94_0 : am_okR 94 0 11 = true := by decide +kernel
theorem am_k94 (k : Nat) : am_okA 94 k = true := by
  rcases Nat.lt_or_ge k 11 with h0 | h0
  · exact am_okR_at am_k94_0 (by omega) (by omega)
  exact am_okA_end (List.getElem?_eq_none (show (am_tab 94).length ≤ k from h0))
theorem am_k95_0 : am_okR 95 0 40 = true := by decide +kernel
theorem am_k95_40 : am_okR 95 40 40 = true := by decide +kernel
theorem am_k95_80 : am_okR 95 80 1 = true := by decide +kernel
theorem am_k95 (k : Nat) : am_okA 95 k = true := by
  rcases Nat.lt_or_ge k 40 with h0 | h0
  · exact am_okR_at am_k95_0 (by omega) (by omega)
  rcases Nat.lt_or_ge k 80 with h40 | h40
  · exact am_okR_at am_k95_40 (by omega) (by omega)
  rcases Nat.lt_or_ge k 81 with h80 | h80
  · exact am_okR_at am_k95_80 (by omega) (by omega)
  exact am_okA_end (List.getElem?_eq_none (show (am_tab 95).length ≤ k from h80))
theorem am_k96_0 : am_okR 96 0 40 = true := by decide +kernel
theorem am_k96_40 : am_okR 96 40 40 = true := by decide +kernel
theorem am_k96 (k : Nat) : am_okA 96 k = true := by
  rcases Nat.lt_or_ge k 40 with h0 | h0
  · exact am_okR_at am_k96_0 (by omega) (by omega)
  rcases Nat.lt_or_ge k 80 with h40 | h40
  · exact am_okR_at am_k96_40 (by omega) (by omega)
  exact am_okA_end (List.getElem?_eq_none (show (am_tab 96).length ≤ k from h40))
theorem am_k97_0 : am_okR 97 0 40 = true := by decide +kernel
theorem am_k97_40 : am_okR 97 40 40 = true := by decide +kernel
theorem am_k97_80 : am_okR 97 80 3 = true := by decide +kernel
theorem am_k97 (k : Nat) : am_okA 97 k = true := by
  rcases Nat.lt_or_ge k 40 with h0 | h0
  · exact am_okR_at am_k97_0 (by omega) (by omega)
  rcases Nat.lt_or_ge k 80 with h40 | h40
  · exact am_okR_at am_k97_40 (by omega) (by omega)
  rcases Nat.lt_or_ge k 83 with h80 | h80
  · exact am_okR_at am_k97_80 (by omega) (by omega)
  exact am_okA_end (List.getElem?_eq_none (show (am_tab 97).length ≤ k from h80))
theorem am_k98_0 : am_okR 98 0 40 = true := by decide +kernel
theorem am_k98_40 : am_okR 98 40 1 = true := by decide +kernel
theorem am_k98 (k : Nat) : am_okA 98 k = true := by
  rcases Nat.lt_or_ge k 40 with h0 | h0
  · exact am_okR_at am_k98_0 (by omega) (by omega)
  rcases Nat.lt_or_ge k 41 with h40 | h40
  · exact am_okR_at am_k98_40 (by omega) (by omega)
  exact am_okA_end (List.getElem?_eq_none (show (am_tab 98).length ≤ k from h40))
theorem am_k99_0 : am_okR 99 0 7 = true := by decide +kernel
theorem am_k99 (k : Nat) : am_okA 99 k = true := by
  rcases Nat.lt_or_ge k 7 with h0 | h0
  · exact am_okR_at am_k99_0 (by omega) (by omega)
  exact am_okA_end (List.getElem?_eq_none (show (am_tab 99).length ≤ k from h0))
theorem am_k100_0 : am_okR 100 0 10 = true := by decide +kernel
theorem am_k100 (k : Nat) : am_okA 100 k = true := by
  rcases Nat.lt_or_ge k 10 with h0 | h0
  · exact am_okR_at am_k100_0 (by omega) (by omega)
  exact am_okA_end (List.getElem?_eq_none (show (am_tab 100).length ≤ k from h0))
theorem am_k101_0 : am_okR 101 0 7 = true := by decide +kernel
theorem am_k101 (k : Nat) : am_okA 101 k = true := by
  rcases Nat.lt_or_ge k 7 with h0 | h0
  · exact am_okR_at am_k101_0 (by omega) (by omega)
  exact am_okA_end (List.getElem?_eq_none (show (am_tab 101).length ≤ k from h0))
theorem am_k102_0 : am_okR 102 0 7 = true := by decide +kernel
theorem am_k102 (k : Nat) : am_okA 102 k = true := by
  rcases Nat.lt_or_ge k 7 with h0 | h0
  · exact am_okR_at am_k102_0 (by omega) (by omega)
  exact am_okA_end (List.getElem?_eq_none (show (am_tab 102).length ≤ k from h0))
theorem am_k103_0 : am_okR 103 0 28 = true := by decide +kernel
theorem am_k103 (k : Nat) : am_okA 103 k = true := by
  rcases Nat.lt_or_ge k 28 with h0 | h0
  · exact am_okR_at am_k103_0 (by omega) (by omega)
  exact am_okA_end (List.getElem?_eq_none (show (am_tab 103).length ≤ k from h0))
theorem am_k104_0 : am_okR 104 0 29 = true := by decide +kernel
theorem am_k104 (k : Nat) : am_okA 104 k = true := by
  rcases Nat.lt_or_ge k 29 with h0 | h0
  · exact am_okR_at am_k104_0 (by omega) (by omega)
  exact am_okA_end (List.getElem?_eq_none (show (am_tab 104).length ≤ k from h0))
theorem am_k105_0 : am_okR 105 0 37 = true := by decide +kernel
theorem am_k105 (k : Nat) : am_okA 105 k = true := by
  rcases Nat.lt_or_ge k 37 with h0 | h0
  · exact am_okR_at am_k105_0 (by omega) (by omega)
  exact am_okA_end (List.getElem?_eq_none (show (am_tab 105).length ≤ k from h0))
theorem am_k106_0 : am_okR 106 0 40 = true := by decide +kernel
theorem am_k106_40 : am_okR 106 40 30 = true := by decide +kernel
theorem am_k106 (k : Nat) : am_okA 106 k = true := by
  rcases Nat.lt_or_ge k 40 with h0 | h0
  · exact am_okR_at am_k106_0 (by omega) (by omega)
  rcases Nat.lt_or_ge k 70 with h40 | h40
  · exact am_okR_at am_k106_40 (by omega) (by omega)
  exact am_okA_end (List.getElem?_eq_none (show (am_tab 106).length ≤ k from h40))
theorem am_k107_0 : am_okR 107 0 28 = true := by decide +kernel
theorem am_k107 (k : Nat) : am_okA 107 k = true := by
  rcases Nat.lt_or_ge k 28 with h0 | h0
  · exact am_okR_at am_k107_0 (by omega) (by omega)
  exact am_okA_end (List.getElem?_eq_none (show (am_tab 107).length ≤ k from h0))
theorem am_k108_0 : am_okR 108 0 40 = true := by decide +kernel
theorem am_k108_40 : am_okR 108 40 12 = true := by decide +kernel
theorem am_k108 (k : Nat) : am_okA 108 k = true := by
  rcases Nat.lt_or_ge k 40 with h0 | h0
  · exact am_okR_at am_k108_0 (by omega) (by omega)
  rcases Nat.lt_or_ge k 52 with h40 | h40
  · exact am_okR_at am_k108_40 (by omega) (by omega)
  exact am_okA_end (List.getElem?_eq_none (show (am_tab 108).length ≤ k from h40))
theorem am_k109_0 : am_okR 109 0 40 = true := by decide +kernel
theorem am_k109_40 : am_okR 109 40 12 = true := by decide +kernel
theorem am_k109 (k : Nat) : am_okA 109 k = true := by
  rcases Nat.lt_or_ge k 40 with h0 | h0
  · exact am_okR_at am_k109_0 (by omega) (by omega)
  rcases Nat.lt_or_ge k 52 with h40 | h40
  · exact am_okR_at am_k109_40 (by omega) (by omega)
  exact am_okA_end (List.getElem?_eq_none (show (am_tab 109).length ≤ k from h40))
theorem am_k110_0 : am_okR 110 0 40 = true := by decide +kernel
theorem am_k110_40 : am_okR 110 40 40 = true := by decide +kernel
theorem am_k110_80 : am_okR 110 80 5 = true := by decide +kernel
theorem am_k110 (k : Nat) : am_okA 110 k = true := by
  rcases Nat.lt_or_ge k 40 with h0 | h0
  · exact am_okR_at am_k110_0 (by omega) (by omega)
  rcases Nat.lt_or_ge k 80 with h40 | h40
  · exact am_okR_at am_k110_40 (by omega) (by omega)
  rcases Nat.lt_or_ge k 85 with h80 | h80
  · exact am_okR_at am_k110_80 (by omega) (by omega)
  exact am_okA_end (List.getElem?_eq_none (show (am_tab 110).length ≤ k from h80))
theorem am_k111_0 : am_okR 111 0 40 = true := by decide +kernel
theorem am_k111_40 : am_okR 111 40 19 = true := by decide +kernel
theorem am_k111 (k : Nat) : am_okA 111 k = true := by
  rcases Nat.lt_or_ge k 40 with h0 | h0
  · exact am_okR_at am_k111_0 (by omega) (by omega)
  rcases Nat.lt_or_ge k 59 with h40 | h40
  · exact am_okR_at am_k111_40 (by omega) (by omega)
  exact am_okA_end (List.getElem?_eq_none (show (am_tab 111).length ≤ k from h40))
theorem am_k112_0 : am_okR 112 0 19 = true := by decide +kernel
theorem am_k112 (k : Nat) : am_okA 112 k = true := by
  rcases Nat.lt_or_ge k 19 with h0 | h0
  · exact am_okR_at am_k112_0 (by omega) (by omega)
  exact am_okA_end (List.getElem?_eq_none (show (am_tab 112).length ≤ k from h0))
theorem am_k113_0 : am_okR 113 0 28 = true := by decide +kernel
theorem am_k113 (k : Nat) : am_okA 113 k = true := by
  rcases Nat.lt_or_ge k 28 with h0 | h0
  · exact am_okR_at am_k113_0 (by omega) (by omega)
  exact am_okA_end (List.getElem?_eq_none (show (am_tab 113).length ≤ k from h0))
theorem am_k114_0 : am_okR 114 0 40 = true := by decide +kernel
theorem am_k114_40 : am_okR 114 40 33 = true := by decide +kernel
theorem am_k114 (k : Nat) : am_okA 114 k = true := by
  rcases Nat.lt_or_ge k 40 with h0 | h0
  · exact am_okR_at am_k114_0 (by omega) (by omega)
  rcases Nat.lt_or_ge k 73 with h40 | h40
  · exact am_okR_at am_k114_40 (by omega) (by omega)
  exact am_okA_end (List.getElem?_eq_none (show (am_tab 114).length ≤ k from h40))
theorem am_k115_0 : am_okR 115 0 40 = true := by decide +kernel
theorem am_k115_40 : am_okR 115 40 1 = true := by decide +kernel
theorem am_k115 (k : Nat) : am_okA 115 k = true := by
  rcases Nat.lt_or_ge k 40 with h0 | h0
  · exact am_okR_at am_k115_0 (by omega) (by omega)
  rcases Nat.lt_or_ge k 41 with h40 | h40
  · exact am_okR_at am_k115_40 (by omega) (by omega)
  exact am_okA_end (List.getElem?_eq_none (show (am_tab 115).length ≤ k from h40))
theorem am_k116_0 : am_okR 116 0 22 = true := by decide +kernel
theorem am_k116 (k : Nat) : am_okA 116 k = true := by
  rcases Nat.lt_or_ge k 22 with h0 | h0
  · exact am_okR_at am_k116_0 (by omega) (by omega)
  exact am_okA_end (List.getElem?_eq_none (show (am_tab 116).length ≤ k from h0))
theorem am_k117_0 : am_okR 117 0 30 = true := by decide +kernel
theorem am_k117 (k : Nat) : am_okA 117 k = true := by
  rcases Nat.lt_or_ge k 30 with h0 | h0
  · exact am_okR_at am_k117_0 (by omega) (by omega)
  exact am_okA_end (List.getElem?_eq_none (show (am_tab 117).length ≤ k from h0))
theorem am_k118_0 : am_okR 118 0 15 = true := by decide +kernel
theorem am_k118 (k : Nat) : am_okA 118 k = true := by
  rcases Nat.lt_or_ge k 15 with h0 | h0
  · exact am_okR_at am_k118_0 (by omega) (by omega)
  exact am_okA_end (List.getElem?_eq_none (show (am_tab 118).length ≤ k from h0))
theorem am_k119_0 : am_okR 119 0 33 = true := by decide +kernel
theorem am_k119 (k : Nat) : am_okA 119 k = true := by
  rcases Nat.lt_or_ge k 33 with h0 | h0
  · exact am_okR_at am_k119_0 (by omega) (by omega)
  exact am_okA_end (List.getElem?_eq_none (show (am_tab 119).length ≤ k from h0))
theorem am_k120_0 : am_okR 120 0 5 = true := by decide +kernel
theorem am_k120 (k : Nat) : am_okA 120 k = true := by
  rcases Nat.lt_or_ge k 5 with h0 | h0
  · exact am_okR_at am_k120_0 (by omega) (by omega)
  exact am_okA_end (List.getElem?_eq_none (show (am_tab 120).length ≤ k from h0))
theorem am_k121_0 : am_okR 121 0 24 = true := by decide +kernel
theorem am_k121 (k : Nat) : am_okA 121 k = true := by
  rcases Nat.lt_or_ge k 24 with h0 | h0
  · exact am_okR_at am_k121_0 (by omega) (by omega)
  exact am_okA_end (List.getElem?_eq_none (show (am_tab 121).length ≤ k from h0))
theorem am_k122_0 : am_okR 122 0 40 = true := by decide +kernel
theorem am_k122_40 : am_okR 122 40 1 = true := by decide +kernel
theorem am_k122 (k : Nat) : am_okA 122 k = true := by
  rcases Nat.lt_or_ge k 40 with h0 | h0
  · exact am_okR_at am_k122_0 (by omega) (by omega)
  rcases Nat.lt_or_ge k 41 with h40 | h40
  · exact am_okR_at am_k122_40 (by omega) (by omega)
  exact am_okA_end (List.getElem?_eq_none (show (am_tab 122).length ≤ k from h40))
