-- 54: LetterDays$Letters.has
theorem bL_has_0 {K : am_KT} (hK : am_C K) {d : Nat} {σ : am_S} {Q : am_Q} {v1 : Int} (e0 : am_rng v1) (hT : v1 < 0 → K d 54 8 [.inr 17, .inl v1] [] σ Q) (hF : 0 ≤ v1 → K d 54 2 [.inr 17, .inl v1] [] σ Q) : K d 54 0 [.inr 17, .inl v1] [] σ Q :=
  hK.1 d 54 0 [.inr 17, .inl v1] _ _ _ (hK.1 d 54 1 _ _ _ _ (And.intro e0 (And.intro (And.intro (by decide) (by decide)) (And.intro (fun g => hT g) (fun g => hF g)))))
theorem bL_has_2 {K : am_KT} (hK : am_C K) {d : Nat} {σ : am_S} {Q : am_Q} {v1 : Int} (e0 : am_rng v1) (e1 : am_rng (σ 17 0)) (hT : σ 17 0 ≤ v1 → K d 54 8 [.inr 17, .inl v1] [] σ Q) (hF : v1 < σ 17 0 → K d 54 6 [.inr 17, .inl v1] [] σ Q) : K d 54 2 [.inr 17, .inl v1] [] σ Q :=
  hK.1 d 54 2 [.inr 17, .inl v1] _ _ _ (hK.1 d 54 3 _ _ _ _ (hK.1 d 54 4 _ _ _ _ (hK.1 d 54 5 _ _ _ _ (And.intro e0 (And.intro e1 (And.intro (fun g => hT g) (fun g => hF g)))))))
theorem bL_has_6 {K : am_KT} (hK : am_C K) {d : Nat} {σ : am_S} {Q : am_Q} {v1 : Int} (h : K d 54 9 [.inr 17, .inl v1] [.inl 1] σ Q) : K d 54 6 [.inr 17, .inl v1] [] σ Q :=
  hK.1 d 54 6 [.inr 17, .inl v1] _ _ _ (hK.1 d 54 7 _ _ _ _ (h))
theorem bL_has_8 {K : am_KT} (hK : am_C K) {d : Nat} {σ : am_S} {Q : am_Q} {v1 : Int} (h : K d 54 9 [.inr 17, .inl v1] [.inl 0] σ Q) : K d 54 8 [.inr 17, .inl v1] [] σ Q :=
  hK.1 d 54 8 [.inr 17, .inl v1] _ _ _ (h)
theorem bL_has_9 {K : am_KT} (hK : am_C K) {d : Nat} {σ : am_S} {Q : am_Q} {v1 s0 : Int} (e0 : s0 = 0 ∨ s0 = 1) (h : Q (some s0) σ) : K d 54 9 [.inr 17, .inl v1] [.inl s0] σ Q :=
  hK.1 d 54 9 [.inr 17, .inl v1] _ _ _ (And.intro e0 (h))
-- 55: LetterDays$Notes.has
theorem bN_has_0 {K : am_KT} (hK : am_C K) {d : Nat} {σ : am_S} {Q : am_Q} {v1 : Int} (e0 : am_rng v1) (hT : v1 < 0 → K d 55 8 [.inr 20, .inl v1] [] σ Q) (hF : 0 ≤ v1 → K d 55 2 [.inr 20, .inl v1] [] σ Q) : K d 55 0 [.inr 20, .inl v1] [] σ Q :=
  hK.1 d 55 0 [.inr 20, .inl v1] _ _ _ (hK.1 d 55 1 _ _ _ _ (And.intro e0 (And.intro (And.intro (by decide) (by decide)) (And.intro (fun g => hT g) (fun g => hF g)))))
theorem bN_has_2 {K : am_KT} (hK : am_C K) {d : Nat} {σ : am_S} {Q : am_Q} {v1 : Int} (e0 : am_rng v1) (e1 : am_rng (σ 20 0)) (hT : σ 20 0 ≤ v1 → K d 55 8 [.inr 20, .inl v1] [] σ Q) (hF : v1 < σ 20 0 → K d 55 6 [.inr 20, .inl v1] [] σ Q) : K d 55 2 [.inr 20, .inl v1] [] σ Q :=
  hK.1 d 55 2 [.inr 20, .inl v1] _ _ _ (hK.1 d 55 3 _ _ _ _ (hK.1 d 55 4 _ _ _ _ (hK.1 d 55 5 _ _ _ _ (And.intro e0 (And.intro e1 (And.intro (fun g => hT g) (fun g => hF g)))))))
theorem bN_has_6 {K : am_KT} (hK : am_C K) {d : Nat} {σ : am_S} {Q : am_Q} {v1 : Int} (h : K d 55 9 [.inr 20, .inl v1] [.inl 1] σ Q) : K d 55 6 [.inr 20, .inl v1] [] σ Q :=
  hK.1 d 55 6 [.inr 20, .inl v1] _ _ _ (hK.1 d 55 7 _ _ _ _ (h))
theorem bN_has_8 {K : am_KT} (hK : am_C K) {d : Nat} {σ : am_S} {Q : am_Q} {v1 : Int} (h : K d 55 9 [.inr 20, .inl v1] [.inl 0] σ Q) : K d 55 8 [.inr 20, .inl v1] [] σ Q :=
  hK.1 d 55 8 [.inr 20, .inl v1] _ _ _ (h)
theorem bN_has_9 {K : am_KT} (hK : am_C K) {d : Nat} {σ : am_S} {Q : am_Q} {v1 s0 : Int} (e0 : s0 = 0 ∨ s0 = 1) (h : Q (some s0) σ) : K d 55 9 [.inr 20, .inl v1] [.inl s0] σ Q :=
  hK.1 d 55 9 [.inr 20, .inl v1] _ _ _ (And.intro e0 (h))
-- 56: LetterDays$Notes.isInForce
theorem bN_isInForce_0 {K : am_KT} (hK : am_C K) {d : Nat} {σ : am_S} {Q : am_Q} {v1 : Int} (e0 : am_rng (am_and (σ 20 1) (am_shl 1 v1))) (hT : am_and (σ 20 1) (am_shl 1 v1) = 0 → K d 56 9 [.inr 20, .inl v1] [] σ Q) (hF : am_and (σ 20 1) (am_shl 1 v1) ≠ 0 → K d 56 7 [.inr 20, .inl v1] [] σ Q) : K d 56 0 [.inr 20, .inl v1] [] σ Q :=
  hK.1 d 56 0 [.inr 20, .inl v1] _ _ _ (hK.1 d 56 1 _ _ _ _ (hK.1 d 56 2 _ _ _ _ (hK.1 d 56 3 _ _ _ _ (hK.1 d 56 4 _ _ _ _ (hK.1 d 56 5 _ _ _ _ (hK.1 d 56 6 _ _ _ _ (And.intro e0 (And.intro (And.intro (by decide) (by decide)) (And.intro (fun g => hT g) (fun g => hF g))))))))))
theorem bN_isInForce_7 {K : am_KT} (hK : am_C K) {d : Nat} {σ : am_S} {Q : am_Q} {v1 : Int} (h : K d 56 10 [.inr 20, .inl v1] [.inl 1] σ Q) : K d 56 7 [.inr 20, .inl v1] [] σ Q :=
  hK.1 d 56 7 [.inr 20, .inl v1] _ _ _ (hK.1 d 56 8 _ _ _ _ (h))
theorem bN_isInForce_9 {K : am_KT} (hK : am_C K) {d : Nat} {σ : am_S} {Q : am_Q} {v1 : Int} (h : K d 56 10 [.inr 20, .inl v1] [.inl 0] σ Q) : K d 56 9 [.inr 20, .inl v1] [] σ Q :=
  hK.1 d 56 9 [.inr 20, .inl v1] _ _ _ (h)
theorem bN_isInForce_10 {K : am_KT} (hK : am_C K) {d : Nat} {σ : am_S} {Q : am_Q} {v1 s0 : Int} (e0 : s0 = 0 ∨ s0 = 1) (h : Q (some s0) σ) : K d 56 10 [.inr 20, .inl v1] [.inl s0] σ Q :=
  hK.1 d 56 10 [.inr 20, .inl v1] _ _ _ (And.intro e0 (h))
-- 57: LetterDays$Notes.names
theorem bN_names_0 {K : am_KT} (hK : am_C K) {d : Nat} {σ : am_S} {Q : am_Q} {v1 v2 : Int} (e0 : 0 ≤ v1 ∧ v1 < 10) (e1 : am_rng (σ 22 v1)) (e2 : am_rng v2) (hT : σ 22 v1 = v2 → K d 57 12 [.inr 20, .inl v1, .inl v2] [] σ Q) (hF : σ 22 v1 ≠ v2 → K d 57 6 [.inr 20, .inl v1, .inl v2] [] σ Q) : K d 57 0 [.inr 20, .inl v1, .inl v2] [] σ Q :=
  hK.1 d 57 0 [.inr 20, .inl v1, .inl v2] _ _ _ (hK.1 d 57 1 _ _ _ _ (hK.1 d 57 2 _ _ _ _ (hK.1 d 57 3 _ _ _ _ (And.intro e0 (hK.1 d 57 4 _ _ _ _ (hK.1 d 57 5 _ _ _ _ (And.intro e1 (And.intro e2 (And.intro (fun g => hT g) (fun g => hF g))))))))))
theorem bN_names_6 {K : am_KT} (hK : am_C K) {d : Nat} {σ : am_S} {Q : am_Q} {v1 v2 : Int} (e0 : 0 ≤ v1 ∧ v1 < 10) (e1 : am_rng (σ 23 v1)) (e2 : am_rng v2) (hT : σ 23 v1 ≠ v2 → K d 57 14 [.inr 20, .inl v1, .inl v2] [] σ Q) (hF : σ 23 v1 = v2 → K d 57 12 [.inr 20, .inl v1, .inl v2] [] σ Q) : K d 57 6 [.inr 20, .inl v1, .inl v2] [] σ Q :=
  hK.1 d 57 6 [.inr 20, .inl v1, .inl v2] _ _ _ (hK.1 d 57 7 _ _ _ _ (hK.1 d 57 8 _ _ _ _ (hK.1 d 57 9 _ _ _ _ (And.intro e0 (hK.1 d 57 10 _ _ _ _ (hK.1 d 57 11 _ _ _ _ (And.intro e1 (And.intro e2 (And.intro (fun g => hT g) (fun g => hF g))))))))))
theorem bN_names_12 {K : am_KT} (hK : am_C K) {d : Nat} {σ : am_S} {Q : am_Q} {v1 v2 : Int} (h : K d 57 15 [.inr 20, .inl v1, .inl v2] [.inl 1] σ Q) : K d 57 12 [.inr 20, .inl v1, .inl v2] [] σ Q :=
  hK.1 d 57 12 [.inr 20, .inl v1, .inl v2] _ _ _ (hK.1 d 57 13 _ _ _ _ (h))
theorem bN_names_14 {K : am_KT} (hK : am_C K) {d : Nat} {σ : am_S} {Q : am_Q} {v1 v2 : Int} (h : K d 57 15 [.inr 20, .inl v1, .inl v2] [.inl 0] σ Q) : K d 57 14 [.inr 20, .inl v1, .inl v2] [] σ Q :=
  hK.1 d 57 14 [.inr 20, .inl v1, .inl v2] _ _ _ (h)
theorem bN_names_15 {K : am_KT} (hK : am_C K) {d : Nat} {σ : am_S} {Q : am_Q} {v1 v2 s0 : Int} (e0 : s0 = 0 ∨ s0 = 1) (h : Q (some s0) σ) : K d 57 15 [.inr 20, .inl v1, .inl v2] [.inl s0] σ Q :=
  hK.1 d 57 15 [.inr 20, .inl v1, .inl v2] _ _ _ (And.intro e0 (h))
-- 58: LetterDays$Notes.anyNames
theorem bN_anyNames_0 {K : am_KT} (hK : am_C K) {d : Nat} {σ : am_S} {Q : am_Q} {v1 : Int} (h : K (d + 1) 58 2 [.inr 20, .inl v1, .inl 0] [] σ Q) : K (d + 1) 58 0 [.inr 20, .inl v1] [] σ Q :=
  hK.1 (d + 1) 58 0 [.inr 20, .inl v1] _ _ _ (hK.1 (d + 1) 58 1 _ _ _ _ (h))
theorem bN_anyNames_2 {K : am_KT} (hK : am_C K) {d : Nat} {σ : am_S} {Q : am_Q} {v1 v2 : Int} (e0 : am_rng v2) (e1 : am_rng (σ 20 0)) (hT : σ 20 0 ≤ v2 → K (d + 1) 58 15 [.inr 20, .inl v1, .inl v2] [] σ Q) (hF : v2 < σ 20 0 → K (d + 1) 58 6 [.inr 20, .inl v1, .inl v2] [] σ Q) : K (d + 1) 58 2 [.inr 20, .inl v1, .inl v2] [] σ Q :=
  hK.1 (d + 1) 58 2 [.inr 20, .inl v1, .inl v2] _ _ _ (hK.1 (d + 1) 58 3 _ _ _ _ (hK.1 (d + 1) 58 4 _ _ _ _ (hK.1 (d + 1) 58 5 _ _ _ _ (And.intro e0 (And.intro e1 (And.intro (fun g => hT g) (fun g => hF g)))))))
theorem bN_anyNames_6 {K : am_KT} (hK : am_C K) {d : Nat} {σ : am_S} {Q : am_Q} {v1 v2 : Int} (h : K d 57 0 [.inr 20, .inl v2, .inl v1] [] σ (fun o σ1 => K (d + 1) 58 10 [.inr 20, .inl v1, .inl v2] (am_o o ++ []) σ1 Q)) : K (d + 1) 58 6 [.inr 20, .inl v1, .inl v2] [] σ Q :=
  hK.1 (d + 1) 58 6 [.inr 20, .inl v1, .inl v2] _ _ _ (hK.1 (d + 1) 58 7 _ _ _ _ (hK.1 (d + 1) 58 8 _ _ _ _ (hK.1 (d + 1) 58 9 _ _ _ _ (h))))
theorem bN_anyNames_10 {K : am_KT} (hK : am_C K) {d : Nat} {σ : am_S} {Q : am_Q} {v1 v2 s0 : Int} (e0 : am_rng s0) (hT : s0 = 0 → K (d + 1) 58 13 [.inr 20, .inl v1, .inl v2] [] σ Q) (hF : s0 ≠ 0 → K (d + 1) 58 11 [.inr 20, .inl v1, .inl v2] [] σ Q) : K (d + 1) 58 10 [.inr 20, .inl v1, .inl v2] [.inl s0] σ Q :=
  hK.1 (d + 1) 58 10 [.inr 20, .inl v1, .inl v2] _ _ _ (And.intro e0 (And.intro (And.intro (by decide) (by decide)) (And.intro (fun g => hT g) (fun g => hF g))))
theorem bN_anyNames_11 {K : am_KT} (hK : am_C K) {d : Nat} {σ : am_S} {Q : am_Q} {v1 v2 : Int} (h : Q (some 1) σ) : K (d + 1) 58 11 [.inr 20, .inl v1, .inl v2] [] σ Q :=
  hK.1 (d + 1) 58 11 [.inr 20, .inl v1, .inl v2] _ _ _ (hK.1 (d + 1) 58 12 _ _ _ _ (And.intro (Or.inr rfl) (h)))
theorem bN_anyNames_13 {K : am_KT} (hK : am_C K) {d : Nat} {σ : am_S} {Q : am_Q} {v1 v2 : Int} (h : K (d + 1) 58 2 [.inr 20, .inl v1, .inl (v2 + 1)] [] σ Q) : K (d + 1) 58 13 [.inr 20, .inl v1, .inl v2] [] σ Q :=
  hK.1 (d + 1) 58 13 [.inr 20, .inl v1, .inl v2] _ _ _ (hK.1 (d + 1) 58 14 [.inr 20, .inl v1, .inl (v2 + 1)] _ _ _ (h))
theorem bN_anyNames_15 {K : am_KT} (hK : am_C K) {d : Nat} {σ : am_S} {Q : am_Q} {v1 v2 : Int} (h : Q (some 0) σ) : K (d + 1) 58 15 [.inr 20, .inl v1, .inl v2] [] σ Q :=
  hK.1 (d + 1) 58 15 [.inr 20, .inl v1, .inl v2] _ _ _ (hK.1 (d + 1) 58 16 _ _ _ _ (And.intro (Or.inl rfl) (h)))
-- 59: LetterDays$Notes.inForceNaming
theorem bN_inForceNaming_0 {K : am_KT} (hK : am_C K) {d : Nat} {σ : am_S} {Q : am_Q} {v1 : Int} (h : K (d + 1) 59 4 [.inr 20, .inl v1, .inl 0, .inl 0] [] σ Q) : K (d + 1) 59 0 [.inr 20, .inl v1] [] σ Q :=
  hK.1 (d + 1) 59 0 [.inr 20, .inl v1] _ _ _ (hK.1 (d + 1) 59 1 _ _ _ _ (hK.1 (d + 1) 59 2 [.inr 20, .inl v1, .inl 0] _ _ _ (hK.1 (d + 1) 59 3 _ _ _ _ (h))))
theorem bN_inForceNaming_4 {K : am_KT} (hK : am_C K) {d : Nat} {σ : am_S} {Q : am_Q} {v1 v2 v3 : Int} (e0 : am_rng v3) (e1 : am_rng (σ 20 0)) (hT : σ 20 0 ≤ v3 → K (d + 1) 59 20 [.inr 20, .inl v1, .inl v2, .inl v3] [] σ Q) (hF : v3 < σ 20 0 → K (d + 1) 59 8 [.inr 20, .inl v1, .inl v2, .inl v3] [] σ Q) : K (d + 1) 59 4 [.inr 20, .inl v1, .inl v2, .inl v3] [] σ Q :=
  hK.1 (d + 1) 59 4 [.inr 20, .inl v1, .inl v2, .inl v3] _ _ _ (hK.1 (d + 1) 59 5 _ _ _ _ (hK.1 (d + 1) 59 6 _ _ _ _ (hK.1 (d + 1) 59 7 _ _ _ _ (And.intro e0 (And.intro e1 (And.intro (fun g => hT g) (fun g => hF g)))))))
theorem bN_inForceNaming_8 {K : am_KT} (hK : am_C K) {d : Nat} {σ : am_S} {Q : am_Q} {v1 v2 v3 : Int} (h : K d 56 0 [.inr 20, .inl v3] [] σ (fun o σ1 => K (d + 1) 59 11 [.inr 20, .inl v1, .inl v2, .inl v3] (am_o o ++ []) σ1 Q)) : K (d + 1) 59 8 [.inr 20, .inl v1, .inl v2, .inl v3] [] σ Q :=
  hK.1 (d + 1) 59 8 [.inr 20, .inl v1, .inl v2, .inl v3] _ _ _ (hK.1 (d + 1) 59 9 _ _ _ _ (hK.1 (d + 1) 59 10 _ _ _ _ (h)))
theorem bN_inForceNaming_11 {K : am_KT} (hK : am_C K) {d : Nat} {σ : am_S} {Q : am_Q} {v1 v2 v3 s0 : Int} (e0 : am_rng s0) (hT : s0 = 0 → K (d + 1) 59 18 [.inr 20, .inl v1, .inl v2, .inl v3] [] σ Q) (hF : s0 ≠ 0 → K (d + 1) 59 12 [.inr 20, .inl v1, .inl v2, .inl v3] [] σ Q) : K (d + 1) 59 11 [.inr 20, .inl v1, .inl v2, .inl v3] [.inl s0] σ Q :=
  hK.1 (d + 1) 59 11 [.inr 20, .inl v1, .inl v2, .inl v3] _ _ _ (And.intro e0 (And.intro (And.intro (by decide) (by decide)) (And.intro (fun g => hT g) (fun g => hF g))))
theorem bN_inForceNaming_12 {K : am_KT} (hK : am_C K) {d : Nat} {σ : am_S} {Q : am_Q} {v1 v2 v3 : Int} (h : K d 57 0 [.inr 20, .inl v3, .inl v1] [] σ (fun o σ1 => K (d + 1) 59 16 [.inr 20, .inl v1, .inl v2, .inl v3] (am_o o ++ []) σ1 Q)) : K (d + 1) 59 12 [.inr 20, .inl v1, .inl v2, .inl v3] [] σ Q :=
  hK.1 (d + 1) 59 12 [.inr 20, .inl v1, .inl v2, .inl v3] _ _ _ (hK.1 (d + 1) 59 13 _ _ _ _ (hK.1 (d + 1) 59 14 _ _ _ _ (hK.1 (d + 1) 59 15 _ _ _ _ (h))))
theorem bN_inForceNaming_16 {K : am_KT} (hK : am_C K) {d : Nat} {σ : am_S} {Q : am_Q} {v1 v2 v3 s0 : Int} (e0 : am_rng s0) (hT : s0 = 0 → K (d + 1) 59 18 [.inr 20, .inl v1, .inl v2, .inl v3] [] σ Q) (hF : s0 ≠ 0 → K (d + 1) 59 17 [.inr 20, .inl v1, .inl v2, .inl v3] [] σ Q) : K (d + 1) 59 16 [.inr 20, .inl v1, .inl v2, .inl v3] [.inl s0] σ Q :=
  hK.1 (d + 1) 59 16 [.inr 20, .inl v1, .inl v2, .inl v3] _ _ _ (And.intro e0 (And.intro (And.intro (by decide) (by decide)) (And.intro (fun g => hT g) (fun g => hF g))))
theorem bN_inForceNaming_17 {K : am_KT} (hK : am_C K) {d : Nat} {σ : am_S} {Q : am_Q} {v1 v2 v3 : Int} (h : K (d + 1) 59 18 [.inr 20, .inl v1, .inl (v2 + 1), .inl v3] [] σ Q) : K (d + 1) 59 17 [.inr 20, .inl v1, .inl v2, .inl v3] [] σ Q :=
  hK.1 (d + 1) 59 17 [.inr 20, .inl v1, .inl v2, .inl v3] _ _ _ (h)
theorem bN_inForceNaming_18 {K : am_KT} (hK : am_C K) {d : Nat} {σ : am_S} {Q : am_Q} {v1 v2 v3 : Int} (h : K (d + 1) 59 4 [.inr 20, .inl v1, .inl v2, .inl (v3 + 1)] [] σ Q) : K (d + 1) 59 18 [.inr 20, .inl v1, .inl v2, .inl v3] [] σ Q :=
  hK.1 (d + 1) 59 18 [.inr 20, .inl v1, .inl v2, .inl v3] _ _ _ (hK.1 (d + 1) 59 19 [.inr 20, .inl v1, .inl v2, .inl (v3 + 1)] _ _ _ (h))
theorem bN_inForceNaming_20 {K : am_KT} (hK : am_C K) {d : Nat} {σ : am_S} {Q : am_Q} {v1 v2 v3 : Int} (h : Q (some v2) σ) : K (d + 1) 59 20 [.inr 20, .inl v1, .inl v2, .inl v3] [] σ Q :=
  hK.1 (d + 1) 59 20 [.inr 20, .inl v1, .inl v2, .inl v3] _ _ _ (hK.1 (d + 1) 59 21 _ _ _ _ (And.intro trivial (h)))
-- 60: LetterDays$Notes.weightOf
theorem bN_weightOf_0 {K : am_KT} (hK : am_C K) {d : Nat} {σ : am_S} {Q : am_Q} {v1 : Int} (h : K d 60 4 [.inr 20, .inl v1, .inl 0, .inl 0] [] σ Q) : K d 60 0 [.inr 20, .inl v1] [] σ Q :=
  hK.1 d 60 0 [.inr 20, .inl v1] _ _ _ (hK.1 d 60 1 _ _ _ _ (hK.1 d 60 2 [.inr 20, .inl v1, .inl 0] _ _ _ (hK.1 d 60 3 _ _ _ _ (h))))
theorem bN_weightOf_4 {K : am_KT} (hK : am_C K) {d : Nat} {σ : am_S} {Q : am_Q} {v1 v2 v3 : Int} (e0 : am_rng v3) (e1 : am_rng (σ 20 0)) (hT : σ 20 0 ≤ v3 → K d 60 23 [.inr 20, .inl v1, .inl v2, .inl v3] [] σ Q) (hF : v3 < σ 20 0 → K d 60 8 [.inr 20, .inl v1, .inl v2, .inl v3] [] σ Q) : K d 60 4 [.inr 20, .inl v1, .inl v2, .inl v3] [] σ Q :=
  hK.1 d 60 4 [.inr 20, .inl v1, .inl v2, .inl v3] _ _ _ (hK.1 d 60 5 _ _ _ _ (hK.1 d 60 6 _ _ _ _ (hK.1 d 60 7 _ _ _ _ (And.intro e0 (And.intro e1 (And.intro (fun g => hT g) (fun g => hF g)))))))
theorem bN_weightOf_8 {K : am_KT} (hK : am_C K) {d : Nat} {σ : am_S} {Q : am_Q} {v1 v2 v3 : Int} (e0 : am_rng (am_and v1 (am_shl 1 v3))) (hT : am_and v1 (am_shl 1 v3) = 0 → K d 60 21 [.inr 20, .inl v1, .inl v2, .inl v3] [] σ Q) (hF : am_and v1 (am_shl 1 v3) ≠ 0 → K d 60 14 [.inr 20, .inl v1, .inl v2, .inl v3] [] σ Q) : K d 60 8 [.inr 20, .inl v1, .inl v2, .inl v3] [] σ Q :=
  hK.1 d 60 8 [.inr 20, .inl v1, .inl v2, .inl v3] _ _ _ (hK.1 d 60 9 _ _ _ _ (hK.1 d 60 10 _ _ _ _ (hK.1 d 60 11 _ _ _ _ (hK.1 d 60 12 _ _ _ _ (hK.1 d 60 13 _ _ _ _ (And.intro e0 (And.intro (And.intro (by decide) (by decide)) (And.intro (fun g => hT g) (fun g => hF g)))))))))
theorem bN_weightOf_14 {K : am_KT} (hK : am_C K) {d : Nat} {σ : am_S} {Q : am_Q} {v1 v2 v3 : Int} (e0 : 0 ≤ v3 ∧ v3 < 10) (h : K d 60 21 [.inr 20, .inl v1, .inl (v2 + (σ 25 v3)), .inl v3] [] σ Q) : K d 60 14 [.inr 20, .inl v1, .inl v2, .inl v3] [] σ Q :=
  hK.1 d 60 14 [.inr 20, .inl v1, .inl v2, .inl v3] _ _ _ (hK.1 d 60 15 _ _ _ _ (hK.1 d 60 16 _ _ _ _ (hK.1 d 60 17 _ _ _ _ (hK.1 d 60 18 _ _ _ _ (And.intro e0 (hK.1 d 60 19 _ _ _ _ (hK.1 d 60 20 _ _ _ _ (h))))))))
theorem bN_weightOf_21 {K : am_KT} (hK : am_C K) {d : Nat} {σ : am_S} {Q : am_Q} {v1 v2 v3 : Int} (h : K d 60 4 [.inr 20, .inl v1, .inl v2, .inl (v3 + 1)] [] σ Q) : K d 60 21 [.inr 20, .inl v1, .inl v2, .inl v3] [] σ Q :=
  hK.1 d 60 21 [.inr 20, .inl v1, .inl v2, .inl v3] _ _ _ (hK.1 d 60 22 [.inr 20, .inl v1, .inl v2, .inl (v3 + 1)] _ _ _ (h))
theorem bN_weightOf_23 {K : am_KT} (hK : am_C K) {d : Nat} {σ : am_S} {Q : am_Q} {v1 v2 v3 : Int} (h : Q (some v2) σ) : K d 60 23 [.inr 20, .inl v1, .inl v2, .inl v3] [] σ Q :=
  hK.1 d 60 23 [.inr 20, .inl v1, .inl v2, .inl v3] _ _ _ (hK.1 d 60 24 _ _ _ _ (And.intro trivial (h)))
-- 61: LetterDays$Web.weave
theorem bW_weave_0 {K : am_KT} (hK : am_C K) {d : Nat} {σ : am_S} {Q : am_Q} {v3 : Int} {r : Nat} (hr : am_isW r) (h : K (d + 1) 61 7 [.inr r, .inr 17, .inr 20, .inl v3] [] (am_us (am_us σ r 0 (σ 17 0)) r 1 0) Q) : K (d + 1) 61 0 [.inr r, .inr 17, .inr 20, .inl v3] [] σ Q := by
  rcases hr with rfl | rfl
  · exact hK.1 (d + 1) 61 0 [.inr 34, .inr 17, .inr 20, .inl v3] _ _ _ (hK.1 (d + 1) 61 1 _ _ _ _ (hK.1 (d + 1) 61 2 _ _ _ _ (hK.1 (d + 1) 61 3 _ _ _ _ (hK.1 (d + 1) 61 4 _ _ _ _ (hK.1 (d + 1) 61 5 _ _ _ _ (hK.1 (d + 1) 61 6 _ _ _ _ (And.intro (Or.inl rfl) (h))))))))
  · exact hK.1 (d + 1) 61 0 [.inr 43, .inr 17, .inr 20, .inl v3] _ _ _ (hK.1 (d + 1) 61 1 _ _ _ _ (hK.1 (d + 1) 61 2 _ _ _ _ (hK.1 (d + 1) 61 3 _ _ _ _ (hK.1 (d + 1) 61 4 _ _ _ _ (hK.1 (d + 1) 61 5 _ _ _ _ (hK.1 (d + 1) 61 6 _ _ _ _ (And.intro (Or.inl rfl) (h))))))))
theorem bW_weave_7 {K : am_KT} (hK : am_C K) {d : Nat} {σ : am_S} {Q : am_Q} {v3 : Int} {r : Nat} (hr : am_isW r) (h : K (d + 1) 61 12 [.inr r, .inr 17, .inr 20, .inl v3, .inl 0] [] (am_us σ r 5 0) Q) : K (d + 1) 61 7 [.inr r, .inr 17, .inr 20, .inl v3] [] σ Q := by
  rcases hr with rfl | rfl
  · exact hK.1 (d + 1) 61 7 [.inr 34, .inr 17, .inr 20, .inl v3] _ _ _ (hK.1 (d + 1) 61 8 _ _ _ _ (hK.1 (d + 1) 61 9 _ _ _ _ (hK.1 (d + 1) 61 10 _ _ _ _ (hK.1 (d + 1) 61 11 _ _ _ _ (h)))))
  · exact hK.1 (d + 1) 61 7 [.inr 43, .inr 17, .inr 20, .inl v3] _ _ _ (hK.1 (d + 1) 61 8 _ _ _ _ (hK.1 (d + 1) 61 9 _ _ _ _ (hK.1 (d + 1) 61 10 _ _ _ _ (hK.1 (d + 1) 61 11 _ _ _ _ (h)))))
theorem bW_weave_12 {K : am_KT} (hK : am_C K) {d : Nat} {σ : am_S} {Q : am_Q} {v3 v4 : Int} {r : Nat} (hr : am_isW r) (e0 : am_rng v4) (e1 : am_rng (σ r 0)) (hT : σ r 0 ≤ v4 → K (d + 1) 61 39 [.inr r, .inr 17, .inr 20, .inl v3, .inl v4] [] σ Q) (hF : v4 < σ r 0 → K (d + 1) 61 16 [.inr r, .inr 17, .inr 20, .inl v3, .inl v4] [] σ Q) : K (d + 1) 61 12 [.inr r, .inr 17, .inr 20, .inl v3, .inl v4] [] σ Q := by
  rcases hr with rfl | rfl
  · exact hK.1 (d + 1) 61 12 [.inr 34, .inr 17, .inr 20, .inl v3, .inl v4] _ _ _ (hK.1 (d + 1) 61 13 _ _ _ _ (hK.1 (d + 1) 61 14 _ _ _ _ (hK.1 (d + 1) 61 15 _ _ _ _ (And.intro e0 (And.intro e1 (And.intro (fun g => hT g) (fun g => hF g)))))))
  · exact hK.1 (d + 1) 61 12 [.inr 43, .inr 17, .inr 20, .inl v3, .inl v4] _ _ _ (hK.1 (d + 1) 61 13 _ _ _ _ (hK.1 (d + 1) 61 14 _ _ _ _ (hK.1 (d + 1) 61 15 _ _ _ _ (And.intro e0 (And.intro e1 (And.intro (fun g => hT g) (fun g => hF g)))))))
theorem bW_weave_16 {K : am_KT} (hK : am_C K) {d : Nat} {σ : am_S} {Q : am_Q} {v3 v4 : Int} {r : Nat} (hr : am_isW r) (e0 : 0 ≤ v4 ∧ v4 < 8) (e1 : 0 ≤ v4 ∧ v4 < 8) (e2 : 0 ≤ v4 ∧ v4 < 8) (e3 : 0 ≤ v4 ∧ v4 < 8) (h : K (d + 1) 61 32 [.inr r, .inr 17, .inr 20, .inl v3, .inl v4] [] (am_us (am_us σ (r + 1) v4 (σ 18 v4)) (r + 2) v4 ((am_us σ (r + 1) v4 (σ 18 v4)) 19 v4)) Q) : K (d + 1) 61 16 [.inr r, .inr 17, .inr 20, .inl v3, .inl v4] [] σ Q := by
  rcases hr with rfl | rfl
  · exact hK.1 (d + 1) 61 16 [.inr 34, .inr 17, .inr 20, .inl v3, .inl v4] _ _ _ (hK.1 (d + 1) 61 17 _ _ _ _ (hK.1 (d + 1) 61 18 _ _ _ _ (hK.1 (d + 1) 61 19 _ _ _ _ (hK.1 (d + 1) 61 20 _ _ _ _ (hK.1 (d + 1) 61 21 _ _ _ _ (hK.1 (d + 1) 61 22 _ _ _ _ (And.intro e0 (hK.1 (d + 1) 61 23 _ _ _ _ (And.intro e1 (hK.1 (d + 1) 61 24 _ _ _ _ (hK.1 (d + 1) 61 25 _ _ _ _ (hK.1 (d + 1) 61 26 _ _ _ _ (hK.1 (d + 1) 61 27 _ _ _ _ (hK.1 (d + 1) 61 28 _ _ _ _ (hK.1 (d + 1) 61 29 _ _ _ _ (hK.1 (d + 1) 61 30 _ _ _ _ (And.intro e2 (hK.1 (d + 1) 61 31 _ _ _ _ (And.intro e3 (h))))))))))))))))))))
  · exact hK.1 (d + 1) 61 16 [.inr 43, .inr 17, .inr 20, .inl v3, .inl v4] _ _ _ (hK.1 (d + 1) 61 17 _ _ _ _ (hK.1 (d + 1) 61 18 _ _ _ _ (hK.1 (d + 1) 61 19 _ _ _ _ (hK.1 (d + 1) 61 20 _ _ _ _ (hK.1 (d + 1) 61 21 _ _ _ _ (hK.1 (d + 1) 61 22 _ _ _ _ (And.intro e0 (hK.1 (d + 1) 61 23 _ _ _ _ (And.intro e1 (hK.1 (d + 1) 61 24 _ _ _ _ (hK.1 (d + 1) 61 25 _ _ _ _ (hK.1 (d + 1) 61 26 _ _ _ _ (hK.1 (d + 1) 61 27 _ _ _ _ (hK.1 (d + 1) 61 28 _ _ _ _ (hK.1 (d + 1) 61 29 _ _ _ _ (hK.1 (d + 1) 61 30 _ _ _ _ (And.intro e2 (hK.1 (d + 1) 61 31 _ _ _ _ (And.intro e3 (h))))))))))))))))))))
theorem bW_weave_32 {K : am_KT} (hK : am_C K) {d : Nat} {σ : am_S} {Q : am_Q} {v3 v4 : Int} {r : Nat} (hr : am_isW r) (e0 : 0 ≤ v4 ∧ v4 < 8) (h : K (d + 1) 61 12 [.inr r, .inr 17, .inr 20, .inl v3, .inl (v4 + 1)] [] (am_us σ (r + 3) v4 (-1)) Q) : K (d + 1) 61 32 [.inr r, .inr 17, .inr 20, .inl v3, .inl v4] [] σ Q := by
  rcases hr with rfl | rfl
  · exact hK.1 (d + 1) 61 32 [.inr 34, .inr 17, .inr 20, .inl v3, .inl v4] _ _ _ (hK.1 (d + 1) 61 33 _ _ _ _ (hK.1 (d + 1) 61 34 _ _ _ _ (hK.1 (d + 1) 61 35 _ _ _ _ (hK.1 (d + 1) 61 36 _ _ _ _ (And.intro e0 (hK.1 (d + 1) 61 37 _ _ _ _ (hK.1 (d + 1) 61 38 [.inr 34, .inr 17, .inr 20, .inl v3, .inl (v4 + 1)] _ _ _ (h))))))))
  · exact hK.1 (d + 1) 61 32 [.inr 43, .inr 17, .inr 20, .inl v3, .inl v4] _ _ _ (hK.1 (d + 1) 61 33 _ _ _ _ (hK.1 (d + 1) 61 34 _ _ _ _ (hK.1 (d + 1) 61 35 _ _ _ _ (hK.1 (d + 1) 61 36 _ _ _ _ (And.intro e0 (hK.1 (d + 1) 61 37 _ _ _ _ (hK.1 (d + 1) 61 38 [.inr 43, .inr 17, .inr 20, .inl v3, .inl (v4 + 1)] _ _ _ (h))))))))
theorem bW_weave_39 {K : am_KT} (hK : am_C K) {d : Nat} {σ : am_S} {Q : am_Q} {v3 v4 : Int} {r : Nat} (hr : am_isW r) (h : K (d + 1) 61 41 [.inr r, .inr 17, .inr 20, .inl v3, .inl 0] [] σ Q) : K (d + 1) 61 39 [.inr r, .inr 17, .inr 20, .inl v3, .inl v4] [] σ Q := by
  rcases hr with rfl | rfl
  · exact hK.1 (d + 1) 61 39 [.inr 34, .inr 17, .inr 20, .inl v3, .inl v4] _ _ _ (hK.1 (d + 1) 61 40 _ _ _ _ (h))
  · exact hK.1 (d + 1) 61 39 [.inr 43, .inr 17, .inr 20, .inl v3, .inl v4] _ _ _ (hK.1 (d + 1) 61 40 _ _ _ _ (h))
theorem bW_weave_41 {K : am_KT} (hK : am_C K) {d : Nat} {σ : am_S} {Q : am_Q} {v3 v4 : Int} {r : Nat} (hr : am_isW r) (e0 : am_rng v4) (e1 : am_rng (σ 20 0)) (hT : σ 20 0 ≤ v4 → K (d + 1) 61 71 [.inr r, .inr 17, .inr 20, .inl v3, .inl v4] [] σ Q) (hF : v4 < σ 20 0 → K (d + 1) 61 45 [.inr r, .inr 17, .inr 20, .inl v3, .inl v4] [] σ Q) : K (d + 1) 61 41 [.inr r, .inr 17, .inr 20, .inl v3, .inl v4] [] σ Q := by
  rcases hr with rfl | rfl
  · exact hK.1 (d + 1) 61 41 [.inr 34, .inr 17, .inr 20, .inl v3, .inl v4] _ _ _ (hK.1 (d + 1) 61 42 _ _ _ _ (hK.1 (d + 1) 61 43 _ _ _ _ (hK.1 (d + 1) 61 44 _ _ _ _ (And.intro e0 (And.intro e1 (And.intro (fun g => hT g) (fun g => hF g)))))))
  · exact hK.1 (d + 1) 61 41 [.inr 43, .inr 17, .inr 20, .inl v3, .inl v4] _ _ _ (hK.1 (d + 1) 61 42 _ _ _ _ (hK.1 (d + 1) 61 43 _ _ _ _ (hK.1 (d + 1) 61 44 _ _ _ _ (And.intro e0 (And.intro e1 (And.intro (fun g => hT g) (fun g => hF g)))))))
theorem bW_weave_45 {K : am_KT} (hK : am_C K) {d : Nat} {σ : am_S} {Q : am_Q} {v3 v4 : Int} {r : Nat} (hr : am_isW r) (e0 : am_rng (am_and v3 (am_shl 1 v4))) (hT : am_and v3 (am_shl 1 v4) = 0 → K (d + 1) 61 69 [.inr r, .inr 17, .inr 20, .inl v3, .inl v4] [] σ Q) (hF : am_and v3 (am_shl 1 v4) ≠ 0 → K (d + 1) 61 51 [.inr r, .inr 17, .inr 20, .inl v3, .inl v4] [] σ Q) : K (d + 1) 61 45 [.inr r, .inr 17, .inr 20, .inl v3, .inl v4] [] σ Q := by
  rcases hr with rfl | rfl
  · exact hK.1 (d + 1) 61 45 [.inr 34, .inr 17, .inr 20, .inl v3, .inl v4] _ _ _ (hK.1 (d + 1) 61 46 _ _ _ _ (hK.1 (d + 1) 61 47 _ _ _ _ (hK.1 (d + 1) 61 48 _ _ _ _ (hK.1 (d + 1) 61 49 _ _ _ _ (hK.1 (d + 1) 61 50 _ _ _ _ (And.intro e0 (And.intro (And.intro (by decide) (by decide)) (And.intro (fun g => hT g) (fun g => hF g)))))))))
  · exact hK.1 (d + 1) 61 45 [.inr 43, .inr 17, .inr 20, .inl v3, .inl v4] _ _ _ (hK.1 (d + 1) 61 46 _ _ _ _ (hK.1 (d + 1) 61 47 _ _ _ _ (hK.1 (d + 1) 61 48 _ _ _ _ (hK.1 (d + 1) 61 49 _ _ _ _ (hK.1 (d + 1) 61 50 _ _ _ _ (And.intro e0 (And.intro (And.intro (by decide) (by decide)) (And.intro (fun g => hT g) (fun g => hF g)))))))))
theorem bW_weave_51 {K : am_KT} (hK : am_C K) {d : Nat} {σ : am_S} {Q : am_Q} {v3 v4 : Int} {r : Nat} (hr : am_isW r) (e0 : 0 ≤ v4 ∧ v4 < 10) (e1 : 0 ≤ v4 ∧ v4 < 10) (e2 : 0 ≤ v4 ∧ v4 < 10) (e3 : 0 ≤ v4 ∧ v4 < 10) (h : K d 62 0 [.inr r, .inl (σ 21 v4), .inl (σ 22 v4), .inl (σ 23 v4), .inl (σ 24 v4)] [] σ (fun o σ1 => K (d + 1) 61 69 [.inr r, .inr 17, .inr 20, .inl v3, .inl v4] (am_o o ++ []) σ1 Q)) : K (d + 1) 61 51 [.inr r, .inr 17, .inr 20, .inl v3, .inl v4] [] σ Q := by
  rcases hr with rfl | rfl
  · exact hK.1 (d + 1) 61 51 [.inr 34, .inr 17, .inr 20, .inl v3, .inl v4] _ _ _ (hK.1 (d + 1) 61 52 _ _ _ _ (hK.1 (d + 1) 61 53 _ _ _ _ (hK.1 (d + 1) 61 54 _ _ _ _ (hK.1 (d + 1) 61 55 _ _ _ _ (And.intro e0 (hK.1 (d + 1) 61 56 _ _ _ _ (hK.1 (d + 1) 61 57 _ _ _ _ (hK.1 (d + 1) 61 58 _ _ _ _ (hK.1 (d + 1) 61 59 _ _ _ _ (And.intro e1 (hK.1 (d + 1) 61 60 _ _ _ _ (hK.1 (d + 1) 61 61 _ _ _ _ (hK.1 (d + 1) 61 62 _ _ _ _ (hK.1 (d + 1) 61 63 _ _ _ _ (And.intro e2 (hK.1 (d + 1) 61 64 _ _ _ _ (hK.1 (d + 1) 61 65 _ _ _ _ (hK.1 (d + 1) 61 66 _ _ _ _ (hK.1 (d + 1) 61 67 _ _ _ _ (And.intro e3 (hK.1 (d + 1) 61 68 _ _ _ _ (h))))))))))))))))))))))
  · exact hK.1 (d + 1) 61 51 [.inr 43, .inr 17, .inr 20, .inl v3, .inl v4] _ _ _ (hK.1 (d + 1) 61 52 _ _ _ _ (hK.1 (d + 1) 61 53 _ _ _ _ (hK.1 (d + 1) 61 54 _ _ _ _ (hK.1 (d + 1) 61 55 _ _ _ _ (And.intro e0 (hK.1 (d + 1) 61 56 _ _ _ _ (hK.1 (d + 1) 61 57 _ _ _ _ (hK.1 (d + 1) 61 58 _ _ _ _ (hK.1 (d + 1) 61 59 _ _ _ _ (And.intro e1 (hK.1 (d + 1) 61 60 _ _ _ _ (hK.1 (d + 1) 61 61 _ _ _ _ (hK.1 (d + 1) 61 62 _ _ _ _ (hK.1 (d + 1) 61 63 _ _ _ _ (And.intro e2 (hK.1 (d + 1) 61 64 _ _ _ _ (hK.1 (d + 1) 61 65 _ _ _ _ (hK.1 (d + 1) 61 66 _ _ _ _ (hK.1 (d + 1) 61 67 _ _ _ _ (And.intro e3 (hK.1 (d + 1) 61 68 _ _ _ _ (h))))))))))))))))))))))
theorem bW_weave_69 {K : am_KT} (hK : am_C K) {d : Nat} {σ : am_S} {Q : am_Q} {v3 v4 : Int} {r : Nat} (hr : am_isW r) (h : K (d + 1) 61 41 [.inr r, .inr 17, .inr 20, .inl v3, .inl (v4 + 1)] [] σ Q) : K (d + 1) 61 69 [.inr r, .inr 17, .inr 20, .inl v3, .inl v4] [] σ Q := by
  rcases hr with rfl | rfl
  · exact hK.1 (d + 1) 61 69 [.inr 34, .inr 17, .inr 20, .inl v3, .inl v4] _ _ _ (hK.1 (d + 1) 61 70 [.inr 34, .inr 17, .inr 20, .inl v3, .inl (v4 + 1)] _ _ _ (h))
  · exact hK.1 (d + 1) 61 69 [.inr 43, .inr 17, .inr 20, .inl v3, .inl v4] _ _ _ (hK.1 (d + 1) 61 70 [.inr 43, .inr 17, .inr 20, .inl v3, .inl (v4 + 1)] _ _ _ (h))
theorem bW_weave_71 {K : am_KT} (hK : am_C K) {d : Nat} {σ : am_S} {Q : am_Q} {v3 v4 : Int} {r : Nat} (hr : am_isW r) (h : Q none σ) : K (d + 1) 61 71 [.inr r, .inr 17, .inr 20, .inl v3, .inl v4] [] σ Q := by
  rcases hr with rfl | rfl
  · exact hK.1 (d + 1) 61 71 [.inr 34, .inr 17, .inr 20, .inl v3, .inl v4] _ _ _ (h)
  · exact hK.1 (d + 1) 61 71 [.inr 43, .inr 17, .inr 20, .inl v3, .inl v4] _ _ _ (h)
-- 62: LetterDays$Web.heed
theorem bW_heed_0 {K : am_KT} (hK : am_C K) {d : Nat} {σ : am_S} {Q : am_Q} {v1 v2 v3 v4 : Int} {r : Nat} (hr : am_isW r) (e0 : am_rng v1) (h0 : (v1 = 0) → K (d + 1) 62 2 [.inr r, .inl v1, .inl v2, .inl v3, .inl v4] [] σ Q) (h1 : (v1 = 1) → K (d + 1) 62 8 [.inr r, .inl v1, .inl v2, .inl v3, .inl v4] [] σ Q) (h2 : (v1 = 2) → K (d + 1) 62 21 [.inr r, .inl v1, .inl v2, .inl v3, .inl v4] [] σ Q) (h3 : (v1 = 3) → K (d + 1) 62 32 [.inr r, .inl v1, .inl v2, .inl v3, .inl v4] [] σ Q) (hD : (v1 < 0 ∨ 4 ≤ v1) → K (d + 1) 62 43 [.inr r, .inl v1, .inl v2, .inl v3, .inl v4] [] σ Q) : K (d + 1) 62 0 [.inr r, .inl v1, .inl v2, .inl v3, .inl v4] [] σ Q := by
  rcases hr with rfl | rfl
  · exact hK.1 (d + 1) 62 0 [.inr 34, .inl v1, .inl v2, .inl v3, .inl v4] _ _ _ (hK.1 (d + 1) 62 1 _ _ _ _ (And.intro e0 (And.intro (And.intro (fun g => h0 g) (And.intro (fun g => h1 g) (And.intro (fun g => h2 g) (And.intro (fun g => h3 g) (trivial))))) (fun g => hD g))))
  · exact hK.1 (d + 1) 62 0 [.inr 43, .inl v1, .inl v2, .inl v3, .inl v4] _ _ _ (hK.1 (d + 1) 62 1 _ _ _ _ (And.intro e0 (And.intro (And.intro (fun g => h0 g) (And.intro (fun g => h1 g) (And.intro (fun g => h2 g) (And.intro (fun g => h3 g) (trivial))))) (fun g => hD g))))
theorem bW_heed_2 {K : am_KT} (hK : am_C K) {d : Nat} {σ : am_S} {Q : am_Q} {v1 v2 v3 v4 : Int} {r : Nat} (hr : am_isW r) (h : K d 63 0 [.inr r, .inl v3, .inl v2, .inl v4] [] σ (fun o σ1 => K (d + 1) 62 7 [.inr r, .inl v1, .inl v2, .inl v3, .inl v4] (am_o o ++ []) σ1 Q)) : K (d + 1) 62 2 [.inr r, .inl v1, .inl v2, .inl v3, .inl v4] [] σ Q := by
  rcases hr with rfl | rfl
  · exact hK.1 (d + 1) 62 2 [.inr 34, .inl v1, .inl v2, .inl v3, .inl v4] _ _ _ (hK.1 (d + 1) 62 3 _ _ _ _ (hK.1 (d + 1) 62 4 _ _ _ _ (hK.1 (d + 1) 62 5 _ _ _ _ (hK.1 (d + 1) 62 6 _ _ _ _ (h)))))
  · exact hK.1 (d + 1) 62 2 [.inr 43, .inl v1, .inl v2, .inl v3, .inl v4] _ _ _ (hK.1 (d + 1) 62 3 _ _ _ _ (hK.1 (d + 1) 62 4 _ _ _ _ (hK.1 (d + 1) 62 5 _ _ _ _ (hK.1 (d + 1) 62 6 _ _ _ _ (h)))))
theorem bW_heed_7 {K : am_KT} (hK : am_C K) {d : Nat} {σ : am_S} {Q : am_Q} {v1 v2 v3 v4 : Int} {r : Nat} (hr : am_isW r) (h : K (d + 1) 62 68 [.inr r, .inl v1, .inl v2, .inl v3, .inl v4] [] σ Q) : K (d + 1) 62 7 [.inr r, .inl v1, .inl v2, .inl v3, .inl v4] [] σ Q := by
  rcases hr with rfl | rfl
  · exact hK.1 (d + 1) 62 7 [.inr 34, .inl v1, .inl v2, .inl v3, .inl v4] _ _ _ (h)
  · exact hK.1 (d + 1) 62 7 [.inr 43, .inl v1, .inl v2, .inl v3, .inl v4] _ _ _ (h)
theorem bW_heed_8 {K : am_KT} (hK : am_C K) {d : Nat} {σ : am_S} {Q : am_Q} {v1 v2 v3 v4 : Int} {r : Nat} (hr : am_isW r) (h : K d 63 0 [.inr r, .inl v3, .inl v2, .inl (-v4)] [] σ (fun o σ1 => K (d + 1) 62 14 [.inr r, .inl v1, .inl v2, .inl v3, .inl v4] (am_o o ++ []) σ1 Q)) : K (d + 1) 62 8 [.inr r, .inl v1, .inl v2, .inl v3, .inl v4] [] σ Q := by
  rcases hr with rfl | rfl
  · exact hK.1 (d + 1) 62 8 [.inr 34, .inl v1, .inl v2, .inl v3, .inl v4] _ _ _ (hK.1 (d + 1) 62 9 _ _ _ _ (hK.1 (d + 1) 62 10 _ _ _ _ (hK.1 (d + 1) 62 11 _ _ _ _ (hK.1 (d + 1) 62 12 _ _ _ _ (hK.1 (d + 1) 62 13 _ _ _ _ (h))))))
  · exact hK.1 (d + 1) 62 8 [.inr 43, .inl v1, .inl v2, .inl v3, .inl v4] _ _ _ (hK.1 (d + 1) 62 9 _ _ _ _ (hK.1 (d + 1) 62 10 _ _ _ _ (hK.1 (d + 1) 62 11 _ _ _ _ (hK.1 (d + 1) 62 12 _ _ _ _ (hK.1 (d + 1) 62 13 _ _ _ _ (h))))))
theorem bW_heed_14 {K : am_KT} (hK : am_C K) {d : Nat} {σ : am_S} {Q : am_Q} {v1 v2 v3 v4 : Int} {r : Nat} (hr : am_isW r) (h : K d 63 0 [.inr r, .inl v2, .inl v3, .inl (-v4)] [] σ (fun o σ1 => K (d + 1) 62 20 [.inr r, .inl v1, .inl v2, .inl v3, .inl v4] (am_o o ++ []) σ1 Q)) : K (d + 1) 62 14 [.inr r, .inl v1, .inl v2, .inl v3, .inl v4] [] σ Q := by
  rcases hr with rfl | rfl
  · exact hK.1 (d + 1) 62 14 [.inr 34, .inl v1, .inl v2, .inl v3, .inl v4] _ _ _ (hK.1 (d + 1) 62 15 _ _ _ _ (hK.1 (d + 1) 62 16 _ _ _ _ (hK.1 (d + 1) 62 17 _ _ _ _ (hK.1 (d + 1) 62 18 _ _ _ _ (hK.1 (d + 1) 62 19 _ _ _ _ (h))))))
  · exact hK.1 (d + 1) 62 14 [.inr 43, .inl v1, .inl v2, .inl v3, .inl v4] _ _ _ (hK.1 (d + 1) 62 15 _ _ _ _ (hK.1 (d + 1) 62 16 _ _ _ _ (hK.1 (d + 1) 62 17 _ _ _ _ (hK.1 (d + 1) 62 18 _ _ _ _ (hK.1 (d + 1) 62 19 _ _ _ _ (h))))))
theorem bW_heed_20 {K : am_KT} (hK : am_C K) {d : Nat} {σ : am_S} {Q : am_Q} {v1 v2 v3 v4 : Int} {r : Nat} (hr : am_isW r) (h : K (d + 1) 62 68 [.inr r, .inl v1, .inl v2, .inl v3, .inl v4] [] σ Q) : K (d + 1) 62 20 [.inr r, .inl v1, .inl v2, .inl v3, .inl v4] [] σ Q := by
  rcases hr with rfl | rfl
  · exact hK.1 (d + 1) 62 20 [.inr 34, .inl v1, .inl v2, .inl v3, .inl v4] _ _ _ (h)
  · exact hK.1 (d + 1) 62 20 [.inr 43, .inl v1, .inl v2, .inl v3, .inl v4] _ _ _ (h)
theorem bW_heed_21 {K : am_KT} (hK : am_C K) {d : Nat} {σ : am_S} {Q : am_Q} {v1 v2 v3 v4 : Int} {r : Nat} (hr : am_isW r) (e0 : 0 ≤ v2 ∧ v2 < 8) (e1 : am_rng (σ (r + 1) v2)) (e2 : am_rng v4) (e3 : 0 ≤ v2 ∧ v2 < 8) (h : K (d + 1) 62 68 [.inr r, .inl v1, .inl v2, .inl v3, .inl v4] [] (am_us σ (r + 1) v2 (max (σ (r + 1) v2) v4)) Q) : K (d + 1) 62 21 [.inr r, .inl v1, .inl v2, .inl v3, .inl v4] [] σ Q := by
  rcases hr with rfl | rfl
  · exact hK.1 (d + 1) 62 21 [.inr 34, .inl v1, .inl v2, .inl v3, .inl v4] _ _ _ (hK.1 (d + 1) 62 22 _ _ _ _ (hK.1 (d + 1) 62 23 _ _ _ _ (hK.1 (d + 1) 62 24 _ _ _ _ (hK.1 (d + 1) 62 25 _ _ _ _ (hK.1 (d + 1) 62 26 _ _ _ _ (hK.1 (d + 1) 62 27 _ _ _ _ (And.intro e0 (hK.1 (d + 1) 62 28 _ _ _ _ (hK.1 (d + 1) 62 29 _ _ _ _ (And.intro e1 (And.intro e2 (hK.1 (d + 1) 62 30 _ _ _ _ (And.intro e3 (hK.1 (d + 1) 62 31 _ _ _ _ (h)))))))))))))))
  · exact hK.1 (d + 1) 62 21 [.inr 43, .inl v1, .inl v2, .inl v3, .inl v4] _ _ _ (hK.1 (d + 1) 62 22 _ _ _ _ (hK.1 (d + 1) 62 23 _ _ _ _ (hK.1 (d + 1) 62 24 _ _ _ _ (hK.1 (d + 1) 62 25 _ _ _ _ (hK.1 (d + 1) 62 26 _ _ _ _ (hK.1 (d + 1) 62 27 _ _ _ _ (And.intro e0 (hK.1 (d + 1) 62 28 _ _ _ _ (hK.1 (d + 1) 62 29 _ _ _ _ (And.intro e1 (And.intro e2 (hK.1 (d + 1) 62 30 _ _ _ _ (And.intro e3 (hK.1 (d + 1) 62 31 _ _ _ _ (h)))))))))))))))
theorem bW_heed_32 {K : am_KT} (hK : am_C K) {d : Nat} {σ : am_S} {Q : am_Q} {v1 v2 v3 v4 : Int} {r : Nat} (hr : am_isW r) (e0 : 0 ≤ v2 ∧ v2 < 8) (e1 : am_rng (σ (r + 2) v2)) (e2 : am_rng v4) (e3 : 0 ≤ v2 ∧ v2 < 8) (h : K (d + 1) 62 68 [.inr r, .inl v1, .inl v2, .inl v3, .inl v4] [] (am_us σ (r + 2) v2 (min (σ (r + 2) v2) v4)) Q) : K (d + 1) 62 32 [.inr r, .inl v1, .inl v2, .inl v3, .inl v4] [] σ Q := by
  rcases hr with rfl | rfl
  · exact hK.1 (d + 1) 62 32 [.inr 34, .inl v1, .inl v2, .inl v3, .inl v4] _ _ _ (hK.1 (d + 1) 62 33 _ _ _ _ (hK.1 (d + 1) 62 34 _ _ _ _ (hK.1 (d + 1) 62 35 _ _ _ _ (hK.1 (d + 1) 62 36 _ _ _ _ (hK.1 (d + 1) 62 37 _ _ _ _ (hK.1 (d + 1) 62 38 _ _ _ _ (And.intro e0 (hK.1 (d + 1) 62 39 _ _ _ _ (hK.1 (d + 1) 62 40 _ _ _ _ (And.intro e1 (And.intro e2 (hK.1 (d + 1) 62 41 _ _ _ _ (And.intro e3 (hK.1 (d + 1) 62 42 _ _ _ _ (h)))))))))))))))
  · exact hK.1 (d + 1) 62 32 [.inr 43, .inl v1, .inl v2, .inl v3, .inl v4] _ _ _ (hK.1 (d + 1) 62 33 _ _ _ _ (hK.1 (d + 1) 62 34 _ _ _ _ (hK.1 (d + 1) 62 35 _ _ _ _ (hK.1 (d + 1) 62 36 _ _ _ _ (hK.1 (d + 1) 62 37 _ _ _ _ (hK.1 (d + 1) 62 38 _ _ _ _ (And.intro e0 (hK.1 (d + 1) 62 39 _ _ _ _ (hK.1 (d + 1) 62 40 _ _ _ _ (And.intro e1 (And.intro e2 (hK.1 (d + 1) 62 41 _ _ _ _ (And.intro e3 (hK.1 (d + 1) 62 42 _ _ _ _ (h)))))))))))))))
theorem bW_heed_43 {K : am_KT} (hK : am_C K) {d : Nat} {σ : am_S} {Q : am_Q} {v1 v2 v3 v4 : Int} {r : Nat} (hr : am_isW r) (e0 : am_rng (σ r 1)) (hT : σ r 1 ≠ 0 → K (d + 1) 62 59 [.inr r, .inl v1, .inl v2, .inl v3, .inl v4] [.inr r] σ Q) (hF : σ r 1 = 0 → K (d + 1) 62 47 [.inr r, .inl v1, .inl v2, .inl v3, .inl v4] [.inr r] σ Q) : K (d + 1) 62 43 [.inr r, .inl v1, .inl v2, .inl v3, .inl v4] [] σ Q := by
  rcases hr with rfl | rfl
  · exact hK.1 (d + 1) 62 43 [.inr 34, .inl v1, .inl v2, .inl v3, .inl v4] _ _ _ (hK.1 (d + 1) 62 44 _ _ _ _ (hK.1 (d + 1) 62 45 _ _ _ _ (hK.1 (d + 1) 62 46 _ _ _ _ (And.intro e0 (And.intro (And.intro (by decide) (by decide)) (And.intro (fun g => hT g) (fun g => hF g)))))))
  · exact hK.1 (d + 1) 62 43 [.inr 43, .inl v1, .inl v2, .inl v3, .inl v4] _ _ _ (hK.1 (d + 1) 62 44 _ _ _ _ (hK.1 (d + 1) 62 45 _ _ _ _ (hK.1 (d + 1) 62 46 _ _ _ _ (And.intro e0 (And.intro (And.intro (by decide) (by decide)) (And.intro (fun g => hT g) (fun g => hF g)))))))
theorem bW_heed_47 {K : am_KT} (hK : am_C K) {d : Nat} {σ : am_S} {Q : am_Q} {v1 v2 v3 v4 : Int} {r : Nat} (hr : am_isW r) (e0 : 0 ≤ v2 ∧ v2 < 8) (e1 : am_rng (σ (r + 3) v2)) (hT : σ (r + 3) v2 = (-1) → K (d + 1) 62 61 [.inr r, .inl v1, .inl v2, .inl v3, .inl v4] [.inr r] σ Q) (hF : σ (r + 3) v2 ≠ (-1) → K (d + 1) 62 53 [.inr r, .inl v1, .inl v2, .inl v3, .inl v4] [.inr r] σ Q) : K (d + 1) 62 47 [.inr r, .inl v1, .inl v2, .inl v3, .inl v4] [.inr r] σ Q := by
  rcases hr with rfl | rfl
  · exact hK.1 (d + 1) 62 47 [.inr 34, .inl v1, .inl v2, .inl v3, .inl v4] _ _ _ (hK.1 (d + 1) 62 48 _ _ _ _ (hK.1 (d + 1) 62 49 _ _ _ _ (hK.1 (d + 1) 62 50 _ _ _ _ (And.intro e0 (hK.1 (d + 1) 62 51 _ _ _ _ (hK.1 (d + 1) 62 52 _ _ _ _ (And.intro e1 (And.intro (And.intro (by decide) (by decide)) (And.intro (fun g => hT g) (fun g => hF g))))))))))
  · exact hK.1 (d + 1) 62 47 [.inr 43, .inl v1, .inl v2, .inl v3, .inl v4] _ _ _ (hK.1 (d + 1) 62 48 _ _ _ _ (hK.1 (d + 1) 62 49 _ _ _ _ (hK.1 (d + 1) 62 50 _ _ _ _ (And.intro e0 (hK.1 (d + 1) 62 51 _ _ _ _ (hK.1 (d + 1) 62 52 _ _ _ _ (And.intro e1 (And.intro (And.intro (by decide) (by decide)) (And.intro (fun g => hT g) (fun g => hF g))))))))))
theorem bW_heed_53 {K : am_KT} (hK : am_C K) {d : Nat} {σ : am_S} {Q : am_Q} {v1 v2 v3 v4 : Int} {r : Nat} (hr : am_isW r) (e0 : 0 ≤ v2 ∧ v2 < 8) (e1 : am_rng (σ (r + 3) v2)) (e2 : am_rng v4) (hT : σ (r + 3) v2 = v4 → K (d + 1) 62 61 [.inr r, .inl v1, .inl v2, .inl v3, .inl v4] [.inr r] σ Q) (hF : σ (r + 3) v2 ≠ v4 → K (d + 1) 62 59 [.inr r, .inl v1, .inl v2, .inl v3, .inl v4] [.inr r] σ Q) : K (d + 1) 62 53 [.inr r, .inl v1, .inl v2, .inl v3, .inl v4] [.inr r] σ Q := by
  rcases hr with rfl | rfl
  · exact hK.1 (d + 1) 62 53 [.inr 34, .inl v1, .inl v2, .inl v3, .inl v4] _ _ _ (hK.1 (d + 1) 62 54 _ _ _ _ (hK.1 (d + 1) 62 55 _ _ _ _ (hK.1 (d + 1) 62 56 _ _ _ _ (And.intro e0 (hK.1 (d + 1) 62 57 _ _ _ _ (hK.1 (d + 1) 62 58 _ _ _ _ (And.intro e1 (And.intro e2 (And.intro (fun g => hT g) (fun g => hF g))))))))))
  · exact hK.1 (d + 1) 62 53 [.inr 43, .inl v1, .inl v2, .inl v3, .inl v4] _ _ _ (hK.1 (d + 1) 62 54 _ _ _ _ (hK.1 (d + 1) 62 55 _ _ _ _ (hK.1 (d + 1) 62 56 _ _ _ _ (And.intro e0 (hK.1 (d + 1) 62 57 _ _ _ _ (hK.1 (d + 1) 62 58 _ _ _ _ (And.intro e1 (And.intro e2 (And.intro (fun g => hT g) (fun g => hF g))))))))))
theorem bW_heed_59 {K : am_KT} (hK : am_C K) {d : Nat} {σ : am_S} {Q : am_Q} {v1 v2 v3 v4 : Int} {r : Nat} (hr : am_isW r) (h : K (d + 1) 62 62 [.inr r, .inl v1, .inl v2, .inl v3, .inl v4] [.inl 1, .inr r] σ Q) : K (d + 1) 62 59 [.inr r, .inl v1, .inl v2, .inl v3, .inl v4] [.inr r] σ Q := by
  rcases hr with rfl | rfl
  · exact hK.1 (d + 1) 62 59 [.inr 34, .inl v1, .inl v2, .inl v3, .inl v4] _ _ _ (hK.1 (d + 1) 62 60 _ _ _ _ (h))
  · exact hK.1 (d + 1) 62 59 [.inr 43, .inl v1, .inl v2, .inl v3, .inl v4] _ _ _ (hK.1 (d + 1) 62 60 _ _ _ _ (h))
theorem bW_heed_61 {K : am_KT} (hK : am_C K) {d : Nat} {σ : am_S} {Q : am_Q} {v1 v2 v3 v4 : Int} {r : Nat} (hr : am_isW r) (h : K (d + 1) 62 62 [.inr r, .inl v1, .inl v2, .inl v3, .inl v4] [.inl 0, .inr r] σ Q) : K (d + 1) 62 61 [.inr r, .inl v1, .inl v2, .inl v3, .inl v4] [.inr r] σ Q := by
  rcases hr with rfl | rfl
  · exact hK.1 (d + 1) 62 61 [.inr 34, .inl v1, .inl v2, .inl v3, .inl v4] _ _ _ (h)
  · exact hK.1 (d + 1) 62 61 [.inr 43, .inl v1, .inl v2, .inl v3, .inl v4] _ _ _ (h)
theorem bW_heed_62 {K : am_KT} (hK : am_C K) {d : Nat} {σ : am_S} {Q : am_Q} {v1 v2 v3 v4 s0 : Int} {r : Nat} (hr : am_isW r) (e0 : s0 = 0 ∨ s0 = 1) (e1 : 0 ≤ v2 ∧ v2 < 8) (h : K (d + 1) 62 68 [.inr r, .inl v1, .inl v2, .inl v3, .inl v4] [] (am_us (am_us σ r 1 s0) (r + 3) v2 v4) Q) : K (d + 1) 62 62 [.inr r, .inl v1, .inl v2, .inl v3, .inl v4] [.inl s0, .inr r] σ Q := by
  rcases hr with rfl | rfl
  · exact hK.1 (d + 1) 62 62 [.inr 34, .inl v1, .inl v2, .inl v3, .inl v4] _ _ _ (And.intro e0 (hK.1 (d + 1) 62 63 _ _ _ _ (hK.1 (d + 1) 62 64 _ _ _ _ (hK.1 (d + 1) 62 65 _ _ _ _ (hK.1 (d + 1) 62 66 _ _ _ _ (hK.1 (d + 1) 62 67 _ _ _ _ (And.intro e1 (h))))))))
  · exact hK.1 (d + 1) 62 62 [.inr 43, .inl v1, .inl v2, .inl v3, .inl v4] _ _ _ (And.intro e0 (hK.1 (d + 1) 62 63 _ _ _ _ (hK.1 (d + 1) 62 64 _ _ _ _ (hK.1 (d + 1) 62 65 _ _ _ _ (hK.1 (d + 1) 62 66 _ _ _ _ (hK.1 (d + 1) 62 67 _ _ _ _ (And.intro e1 (h))))))))
theorem bW_heed_68 {K : am_KT} (hK : am_C K) {d : Nat} {σ : am_S} {Q : am_Q} {v1 v2 v3 v4 : Int} {r : Nat} (hr : am_isW r) (h : Q none σ) : K (d + 1) 62 68 [.inr r, .inl v1, .inl v2, .inl v3, .inl v4] [] σ Q := by
  rcases hr with rfl | rfl
  · exact hK.1 (d + 1) 62 68 [.inr 34, .inl v1, .inl v2, .inl v3, .inl v4] _ _ _ (h)
  · exact hK.1 (d + 1) 62 68 [.inr 43, .inl v1, .inl v2, .inl v3, .inl v4] _ _ _ (h)
-- 63: LetterDays$Web.link
theorem bW_link_0 {K : am_KT} (hK : am_C K) {d : Nat} {σ : am_S} {Q : am_Q} {v1 v2 v3 : Int} {r : Nat} (hr : am_isW r) (e0 : am_rng (σ r 5)) (hT : 20 ≤ σ r 5 → K d 63 28 [.inr r, .inl v1, .inl v2, .inl v3] [] σ Q) (hF : σ r 5 < 20 → K d 63 4 [.inr r, .inl v1, .inl v2, .inl v3] [] σ Q) : K d 63 0 [.inr r, .inl v1, .inl v2, .inl v3] [] σ Q := by
  rcases hr with rfl | rfl
  · exact hK.1 d 63 0 [.inr 34, .inl v1, .inl v2, .inl v3] _ _ _ (hK.1 d 63 1 _ _ _ _ (hK.1 d 63 2 _ _ _ _ (hK.1 d 63 3 _ _ _ _ (And.intro e0 (And.intro (And.intro (by decide) (by decide)) (And.intro (fun g => hT g) (fun g => hF g)))))))
  · exact hK.1 d 63 0 [.inr 43, .inl v1, .inl v2, .inl v3] _ _ _ (hK.1 d 63 1 _ _ _ _ (hK.1 d 63 2 _ _ _ _ (hK.1 d 63 3 _ _ _ _ (And.intro e0 (And.intro (And.intro (by decide) (by decide)) (And.intro (fun g => hT g) (fun g => hF g)))))))
theorem bW_link_4 {K : am_KT} (hK : am_C K) {d : Nat} {σ : am_S} {Q : am_Q} {v1 v2 v3 : Int} {r : Nat} (hr : am_isW r) (e0 : 0 ≤ σ r 5 ∧ σ r 5 < 20) (e1 : 0 ≤ (am_us σ (r + 4) (σ r 5) v1) r 5 ∧ (am_us σ (r + 4) (σ r 5) v1) r 5 < 20) (h : K d 63 16 [.inr r, .inl v1, .inl v2, .inl v3] [] (am_us (am_us σ (r + 4) (σ r 5) v1) (r + 5) ((am_us σ (r + 4) (σ r 5) v1) r 5) v2) Q) : K d 63 4 [.inr r, .inl v1, .inl v2, .inl v3] [] σ Q := by
  rcases hr with rfl | rfl
  · exact hK.1 d 63 4 [.inr 34, .inl v1, .inl v2, .inl v3] _ _ _ (hK.1 d 63 5 _ _ _ _ (hK.1 d 63 6 _ _ _ _ (hK.1 d 63 7 _ _ _ _ (hK.1 d 63 8 _ _ _ _ (hK.1 d 63 9 _ _ _ _ (And.intro e0 (hK.1 d 63 10 _ _ _ _ (hK.1 d 63 11 _ _ _ _ (hK.1 d 63 12 _ _ _ _ (hK.1 d 63 13 _ _ _ _ (hK.1 d 63 14 _ _ _ _ (hK.1 d 63 15 _ _ _ _ (And.intro e1 (h))))))))))))))
  · exact hK.1 d 63 4 [.inr 43, .inl v1, .inl v2, .inl v3] _ _ _ (hK.1 d 63 5 _ _ _ _ (hK.1 d 63 6 _ _ _ _ (hK.1 d 63 7 _ _ _ _ (hK.1 d 63 8 _ _ _ _ (hK.1 d 63 9 _ _ _ _ (And.intro e0 (hK.1 d 63 10 _ _ _ _ (hK.1 d 63 11 _ _ _ _ (hK.1 d 63 12 _ _ _ _ (hK.1 d 63 13 _ _ _ _ (hK.1 d 63 14 _ _ _ _ (hK.1 d 63 15 _ _ _ _ (And.intro e1 (h))))))))))))))
theorem bW_link_16 {K : am_KT} (hK : am_C K) {d : Nat} {σ : am_S} {Q : am_Q} {v1 v2 v3 : Int} {r : Nat} (hr : am_isW r) (e0 : 0 ≤ σ r 5 ∧ σ r 5 < 20) (h : K d 63 28 [.inr r, .inl v1, .inl v2, .inl v3] [] (am_us (am_us σ (r + 6) (σ r 5) v3) r 5 (((am_us σ (r + 6) (σ r 5) v3) r 5) + 1)) Q) : K d 63 16 [.inr r, .inl v1, .inl v2, .inl v3] [] σ Q := by
  rcases hr with rfl | rfl
  · exact hK.1 d 63 16 [.inr 34, .inl v1, .inl v2, .inl v3] _ _ _ (hK.1 d 63 17 _ _ _ _ (hK.1 d 63 18 _ _ _ _ (hK.1 d 63 19 _ _ _ _ (hK.1 d 63 20 _ _ _ _ (hK.1 d 63 21 _ _ _ _ (And.intro e0 (hK.1 d 63 22 _ _ _ _ (hK.1 d 63 23 _ _ _ _ (hK.1 d 63 24 _ _ _ _ (hK.1 d 63 25 _ _ _ _ (hK.1 d 63 26 _ _ _ _ (hK.1 d 63 27 _ _ _ _ (h)))))))))))))
  · exact hK.1 d 63 16 [.inr 43, .inl v1, .inl v2, .inl v3] _ _ _ (hK.1 d 63 17 _ _ _ _ (hK.1 d 63 18 _ _ _ _ (hK.1 d 63 19 _ _ _ _ (hK.1 d 63 20 _ _ _ _ (hK.1 d 63 21 _ _ _ _ (And.intro e0 (hK.1 d 63 22 _ _ _ _ (hK.1 d 63 23 _ _ _ _ (hK.1 d 63 24 _ _ _ _ (hK.1 d 63 25 _ _ _ _ (hK.1 d 63 26 _ _ _ _ (hK.1 d 63 27 _ _ _ _ (h)))))))))))))
theorem bW_link_28 {K : am_KT} (hK : am_C K) {d : Nat} {σ : am_S} {Q : am_Q} {v1 v2 v3 : Int} {r : Nat} (hr : am_isW r) (h : Q none σ) : K d 63 28 [.inr r, .inl v1, .inl v2, .inl v3] [] σ Q := by
  rcases hr with rfl | rfl
  · exact hK.1 d 63 28 [.inr 34, .inl v1, .inl v2, .inl v3] _ _ _ (h)
  · exact hK.1 d 63 28 [.inr 43, .inl v1, .inl v2, .inl v3] _ _ _ (h)
-- 64: LetterDays$Web.least
theorem bW_least_0 {K : am_KT} (hK : am_C K) {d : Nat} {σ : am_S} {Q : am_Q} {r q : Nat} (hr : am_isW r) (hq : am_isD q) (e0 : am_rng (σ r 1)) (hT : σ r 1 = 0 → K (d + 1) 64 5 [.inr r, .inr q] [] σ Q) (hF : σ r 1 ≠ 0 → K (d + 1) 64 3 [.inr r, .inr q] [] σ Q) : K (d + 1) 64 0 [.inr r, .inr q] [] σ Q := by
  rcases hr with rfl | rfl
  · rcases hq with rfl | rfl | rfl | rfl
    · exact hK.1 (d + 1) 64 0 [.inr 34, .inr 27] _ _ _ (hK.1 (d + 1) 64 1 _ _ _ _ (hK.1 (d + 1) 64 2 _ _ _ _ (And.intro e0 (And.intro (And.intro (by decide) (by decide)) (And.intro (fun g => hT g) (fun g => hF g))))))
    · exact hK.1 (d + 1) 64 0 [.inr 34, .inr 28] _ _ _ (hK.1 (d + 1) 64 1 _ _ _ _ (hK.1 (d + 1) 64 2 _ _ _ _ (And.intro e0 (And.intro (And.intro (by decide) (by decide)) (And.intro (fun g => hT g) (fun g => hF g))))))
    · exact hK.1 (d + 1) 64 0 [.inr 34, .inr 29] _ _ _ (hK.1 (d + 1) 64 1 _ _ _ _ (hK.1 (d + 1) 64 2 _ _ _ _ (And.intro e0 (And.intro (And.intro (by decide) (by decide)) (And.intro (fun g => hT g) (fun g => hF g))))))
    · exact hK.1 (d + 1) 64 0 [.inr 34, .inr 42] _ _ _ (hK.1 (d + 1) 64 1 _ _ _ _ (hK.1 (d + 1) 64 2 _ _ _ _ (And.intro e0 (And.intro (And.intro (by decide) (by decide)) (And.intro (fun g => hT g) (fun g => hF g))))))
  · rcases hq with rfl | rfl | rfl | rfl
    · exact hK.1 (d + 1) 64 0 [.inr 43, .inr 27] _ _ _ (hK.1 (d + 1) 64 1 _ _ _ _ (hK.1 (d + 1) 64 2 _ _ _ _ (And.intro e0 (And.intro (And.intro (by decide) (by decide)) (And.intro (fun g => hT g) (fun g => hF g))))))
    · exact hK.1 (d + 1) 64 0 [.inr 43, .inr 28] _ _ _ (hK.1 (d + 1) 64 1 _ _ _ _ (hK.1 (d + 1) 64 2 _ _ _ _ (And.intro e0 (And.intro (And.intro (by decide) (by decide)) (And.intro (fun g => hT g) (fun g => hF g))))))
    · exact hK.1 (d + 1) 64 0 [.inr 43, .inr 29] _ _ _ (hK.1 (d + 1) 64 1 _ _ _ _ (hK.1 (d + 1) 64 2 _ _ _ _ (And.intro e0 (And.intro (And.intro (by decide) (by decide)) (And.intro (fun g => hT g) (fun g => hF g))))))
    · exact hK.1 (d + 1) 64 0 [.inr 43, .inr 42] _ _ _ (hK.1 (d + 1) 64 1 _ _ _ _ (hK.1 (d + 1) 64 2 _ _ _ _ (And.intro e0 (And.intro (And.intro (by decide) (by decide)) (And.intro (fun g => hT g) (fun g => hF g))))))
theorem bW_least_3 {K : am_KT} (hK : am_C K) {d : Nat} {σ : am_S} {Q : am_Q} {r q : Nat} (hr : am_isW r) (hq : am_isD q) (h : Q (some 0) σ) : K (d + 1) 64 3 [.inr r, .inr q] [] σ Q := by
  rcases hr with rfl | rfl
  · rcases hq with rfl | rfl | rfl | rfl
    · exact hK.1 (d + 1) 64 3 [.inr 34, .inr 27] _ _ _ (hK.1 (d + 1) 64 4 _ _ _ _ (And.intro (Or.inl rfl) (h)))
    · exact hK.1 (d + 1) 64 3 [.inr 34, .inr 28] _ _ _ (hK.1 (d + 1) 64 4 _ _ _ _ (And.intro (Or.inl rfl) (h)))
    · exact hK.1 (d + 1) 64 3 [.inr 34, .inr 29] _ _ _ (hK.1 (d + 1) 64 4 _ _ _ _ (And.intro (Or.inl rfl) (h)))
    · exact hK.1 (d + 1) 64 3 [.inr 34, .inr 42] _ _ _ (hK.1 (d + 1) 64 4 _ _ _ _ (And.intro (Or.inl rfl) (h)))
  · rcases hq with rfl | rfl | rfl | rfl
    · exact hK.1 (d + 1) 64 3 [.inr 43, .inr 27] _ _ _ (hK.1 (d + 1) 64 4 _ _ _ _ (And.intro (Or.inl rfl) (h)))
    · exact hK.1 (d + 1) 64 3 [.inr 43, .inr 28] _ _ _ (hK.1 (d + 1) 64 4 _ _ _ _ (And.intro (Or.inl rfl) (h)))
    · exact hK.1 (d + 1) 64 3 [.inr 43, .inr 29] _ _ _ (hK.1 (d + 1) 64 4 _ _ _ _ (And.intro (Or.inl rfl) (h)))
    · exact hK.1 (d + 1) 64 3 [.inr 43, .inr 42] _ _ _ (hK.1 (d + 1) 64 4 _ _ _ _ (And.intro (Or.inl rfl) (h)))
theorem bW_least_5 {K : am_KT} (hK : am_C K) {d : Nat} {σ : am_S} {Q : am_Q} {r q : Nat} (hr : am_isW r) (hq : am_isD q) (h : K (d + 1) 64 7 [.inr r, .inr q, .inl 0] [] σ Q) : K (d + 1) 64 5 [.inr r, .inr q] [] σ Q := by
  rcases hr with rfl | rfl
  · rcases hq with rfl | rfl | rfl | rfl
    · exact hK.1 (d + 1) 64 5 [.inr 34, .inr 27] _ _ _ (hK.1 (d + 1) 64 6 _ _ _ _ (h))
    · exact hK.1 (d + 1) 64 5 [.inr 34, .inr 28] _ _ _ (hK.1 (d + 1) 64 6 _ _ _ _ (h))
    · exact hK.1 (d + 1) 64 5 [.inr 34, .inr 29] _ _ _ (hK.1 (d + 1) 64 6 _ _ _ _ (h))
    · exact hK.1 (d + 1) 64 5 [.inr 34, .inr 42] _ _ _ (hK.1 (d + 1) 64 6 _ _ _ _ (h))
  · rcases hq with rfl | rfl | rfl | rfl
    · exact hK.1 (d + 1) 64 5 [.inr 43, .inr 27] _ _ _ (hK.1 (d + 1) 64 6 _ _ _ _ (h))
    · exact hK.1 (d + 1) 64 5 [.inr 43, .inr 28] _ _ _ (hK.1 (d + 1) 64 6 _ _ _ _ (h))
    · exact hK.1 (d + 1) 64 5 [.inr 43, .inr 29] _ _ _ (hK.1 (d + 1) 64 6 _ _ _ _ (h))
    · exact hK.1 (d + 1) 64 5 [.inr 43, .inr 42] _ _ _ (hK.1 (d + 1) 64 6 _ _ _ _ (h))
theorem bW_least_7 {K : am_KT} (hK : am_C K) {d : Nat} {σ : am_S} {Q : am_Q} {v2 : Int} {r q : Nat} (hr : am_isW r) (hq : am_isD q) (e0 : am_rng v2) (e1 : am_rng (σ r 0)) (hT : σ r 0 ≤ v2 → K (d + 1) 64 33 [.inr r, .inr q, .inl v2] [] σ Q) (hF : v2 < σ r 0 → K (d + 1) 64 11 [.inr r, .inr q, .inl v2] [] σ Q) : K (d + 1) 64 7 [.inr r, .inr q, .inl v2] [] σ Q := by
  rcases hr with rfl | rfl
  · rcases hq with rfl | rfl | rfl | rfl
    · exact hK.1 (d + 1) 64 7 [.inr 34, .inr 27, .inl v2] _ _ _ (hK.1 (d + 1) 64 8 _ _ _ _ (hK.1 (d + 1) 64 9 _ _ _ _ (hK.1 (d + 1) 64 10 _ _ _ _ (And.intro e0 (And.intro e1 (And.intro (fun g => hT g) (fun g => hF g)))))))
    · exact hK.1 (d + 1) 64 7 [.inr 34, .inr 28, .inl v2] _ _ _ (hK.1 (d + 1) 64 8 _ _ _ _ (hK.1 (d + 1) 64 9 _ _ _ _ (hK.1 (d + 1) 64 10 _ _ _ _ (And.intro e0 (And.intro e1 (And.intro (fun g => hT g) (fun g => hF g)))))))
    · exact hK.1 (d + 1) 64 7 [.inr 34, .inr 29, .inl v2] _ _ _ (hK.1 (d + 1) 64 8 _ _ _ _ (hK.1 (d + 1) 64 9 _ _ _ _ (hK.1 (d + 1) 64 10 _ _ _ _ (And.intro e0 (And.intro e1 (And.intro (fun g => hT g) (fun g => hF g)))))))
    · exact hK.1 (d + 1) 64 7 [.inr 34, .inr 42, .inl v2] _ _ _ (hK.1 (d + 1) 64 8 _ _ _ _ (hK.1 (d + 1) 64 9 _ _ _ _ (hK.1 (d + 1) 64 10 _ _ _ _ (And.intro e0 (And.intro e1 (And.intro (fun g => hT g) (fun g => hF g)))))))
  · rcases hq with rfl | rfl | rfl | rfl
    · exact hK.1 (d + 1) 64 7 [.inr 43, .inr 27, .inl v2] _ _ _ (hK.1 (d + 1) 64 8 _ _ _ _ (hK.1 (d + 1) 64 9 _ _ _ _ (hK.1 (d + 1) 64 10 _ _ _ _ (And.intro e0 (And.intro e1 (And.intro (fun g => hT g) (fun g => hF g)))))))
    · exact hK.1 (d + 1) 64 7 [.inr 43, .inr 28, .inl v2] _ _ _ (hK.1 (d + 1) 64 8 _ _ _ _ (hK.1 (d + 1) 64 9 _ _ _ _ (hK.1 (d + 1) 64 10 _ _ _ _ (And.intro e0 (And.intro e1 (And.intro (fun g => hT g) (fun g => hF g)))))))
    · exact hK.1 (d + 1) 64 7 [.inr 43, .inr 29, .inl v2] _ _ _ (hK.1 (d + 1) 64 8 _ _ _ _ (hK.1 (d + 1) 64 9 _ _ _ _ (hK.1 (d + 1) 64 10 _ _ _ _ (And.intro e0 (And.intro e1 (And.intro (fun g => hT g) (fun g => hF g)))))))
    · exact hK.1 (d + 1) 64 7 [.inr 43, .inr 42, .inl v2] _ _ _ (hK.1 (d + 1) 64 8 _ _ _ _ (hK.1 (d + 1) 64 9 _ _ _ _ (hK.1 (d + 1) 64 10 _ _ _ _ (And.intro e0 (And.intro e1 (And.intro (fun g => hT g) (fun g => hF g)))))))
theorem bW_least_11 {K : am_KT} (hK : am_C K) {d : Nat} {σ : am_S} {Q : am_Q} {v2 : Int} {r q : Nat} (hr : am_isW r) (hq : am_isD q) (e0 : 0 ≤ v2 ∧ v2 < 8) (h : K d 68 0 [.inr r, .inl v2, .inl (σ (r + 1) v2)] [] σ (fun o σ1 => K (d + 1) 64 20 [.inr r, .inr q, .inl v2] (am_o o ++ [.inl v2, .inr q]) σ1 Q)) : K (d + 1) 64 11 [.inr r, .inr q, .inl v2] [] σ Q := by
  rcases hr with rfl | rfl
  · rcases hq with rfl | rfl | rfl | rfl
    · exact hK.1 (d + 1) 64 11 [.inr 34, .inr 27, .inl v2] _ _ _ (hK.1 (d + 1) 64 12 _ _ _ _ (hK.1 (d + 1) 64 13 _ _ _ _ (hK.1 (d + 1) 64 14 _ _ _ _ (hK.1 (d + 1) 64 15 _ _ _ _ (hK.1 (d + 1) 64 16 _ _ _ _ (hK.1 (d + 1) 64 17 _ _ _ _ (hK.1 (d + 1) 64 18 _ _ _ _ (And.intro e0 (hK.1 (d + 1) 64 19 _ _ _ _ (h))))))))))
    · exact hK.1 (d + 1) 64 11 [.inr 34, .inr 28, .inl v2] _ _ _ (hK.1 (d + 1) 64 12 _ _ _ _ (hK.1 (d + 1) 64 13 _ _ _ _ (hK.1 (d + 1) 64 14 _ _ _ _ (hK.1 (d + 1) 64 15 _ _ _ _ (hK.1 (d + 1) 64 16 _ _ _ _ (hK.1 (d + 1) 64 17 _ _ _ _ (hK.1 (d + 1) 64 18 _ _ _ _ (And.intro e0 (hK.1 (d + 1) 64 19 _ _ _ _ (h))))))))))
    · exact hK.1 (d + 1) 64 11 [.inr 34, .inr 29, .inl v2] _ _ _ (hK.1 (d + 1) 64 12 _ _ _ _ (hK.1 (d + 1) 64 13 _ _ _ _ (hK.1 (d + 1) 64 14 _ _ _ _ (hK.1 (d + 1) 64 15 _ _ _ _ (hK.1 (d + 1) 64 16 _ _ _ _ (hK.1 (d + 1) 64 17 _ _ _ _ (hK.1 (d + 1) 64 18 _ _ _ _ (And.intro e0 (hK.1 (d + 1) 64 19 _ _ _ _ (h))))))))))
    · exact hK.1 (d + 1) 64 11 [.inr 34, .inr 42, .inl v2] _ _ _ (hK.1 (d + 1) 64 12 _ _ _ _ (hK.1 (d + 1) 64 13 _ _ _ _ (hK.1 (d + 1) 64 14 _ _ _ _ (hK.1 (d + 1) 64 15 _ _ _ _ (hK.1 (d + 1) 64 16 _ _ _ _ (hK.1 (d + 1) 64 17 _ _ _ _ (hK.1 (d + 1) 64 18 _ _ _ _ (And.intro e0 (hK.1 (d + 1) 64 19 _ _ _ _ (h))))))))))
  · rcases hq with rfl | rfl | rfl | rfl
    · exact hK.1 (d + 1) 64 11 [.inr 43, .inr 27, .inl v2] _ _ _ (hK.1 (d + 1) 64 12 _ _ _ _ (hK.1 (d + 1) 64 13 _ _ _ _ (hK.1 (d + 1) 64 14 _ _ _ _ (hK.1 (d + 1) 64 15 _ _ _ _ (hK.1 (d + 1) 64 16 _ _ _ _ (hK.1 (d + 1) 64 17 _ _ _ _ (hK.1 (d + 1) 64 18 _ _ _ _ (And.intro e0 (hK.1 (d + 1) 64 19 _ _ _ _ (h))))))))))
    · exact hK.1 (d + 1) 64 11 [.inr 43, .inr 28, .inl v2] _ _ _ (hK.1 (d + 1) 64 12 _ _ _ _ (hK.1 (d + 1) 64 13 _ _ _ _ (hK.1 (d + 1) 64 14 _ _ _ _ (hK.1 (d + 1) 64 15 _ _ _ _ (hK.1 (d + 1) 64 16 _ _ _ _ (hK.1 (d + 1) 64 17 _ _ _ _ (hK.1 (d + 1) 64 18 _ _ _ _ (And.intro e0 (hK.1 (d + 1) 64 19 _ _ _ _ (h))))))))))
    · exact hK.1 (d + 1) 64 11 [.inr 43, .inr 29, .inl v2] _ _ _ (hK.1 (d + 1) 64 12 _ _ _ _ (hK.1 (d + 1) 64 13 _ _ _ _ (hK.1 (d + 1) 64 14 _ _ _ _ (hK.1 (d + 1) 64 15 _ _ _ _ (hK.1 (d + 1) 64 16 _ _ _ _ (hK.1 (d + 1) 64 17 _ _ _ _ (hK.1 (d + 1) 64 18 _ _ _ _ (And.intro e0 (hK.1 (d + 1) 64 19 _ _ _ _ (h))))))))))
    · exact hK.1 (d + 1) 64 11 [.inr 43, .inr 42, .inl v2] _ _ _ (hK.1 (d + 1) 64 12 _ _ _ _ (hK.1 (d + 1) 64 13 _ _ _ _ (hK.1 (d + 1) 64 14 _ _ _ _ (hK.1 (d + 1) 64 15 _ _ _ _ (hK.1 (d + 1) 64 16 _ _ _ _ (hK.1 (d + 1) 64 17 _ _ _ _ (hK.1 (d + 1) 64 18 _ _ _ _ (And.intro e0 (hK.1 (d + 1) 64 19 _ _ _ _ (h))))))))))
theorem bW_least_20 {K : am_KT} (hK : am_C K) {d : Nat} {σ : am_S} {Q : am_Q} {v2 s0 s1 : Int} {r q : Nat} (hr : am_isW r) (hq : am_isD q) (e0 : 0 ≤ s1 ∧ s1 < 8) (e1 : 0 ≤ v2 ∧ v2 < 8) (e2 : 0 ≤ v2 ∧ v2 < 8) (e3 : am_rng ((am_us σ q s1 s0) q v2)) (e4 : am_rng ((am_us σ q s1 s0) (r + 2) v2)) (hT : (am_us σ q s1 s0) q v2 ≤ (am_us σ q s1 s0) (r + 2) v2 → K (d + 1) 64 31 [.inr r, .inr q, .inl v2] [] (am_us σ q s1 s0) Q) (hF : (am_us σ q s1 s0) (r + 2) v2 < (am_us σ q s1 s0) q v2 → K (d + 1) 64 29 [.inr r, .inr q, .inl v2] [] (am_us σ q s1 s0) Q) : K (d + 1) 64 20 [.inr r, .inr q, .inl v2] [.inl s0, .inl s1, .inr q] σ Q := by
  rcases hr with rfl | rfl
  · rcases hq with rfl | rfl | rfl | rfl
    · exact hK.1 (d + 1) 64 20 [.inr 34, .inr 27, .inl v2] _ _ _ (And.intro e0 (hK.1 (d + 1) 64 21 _ _ _ _ (hK.1 (d + 1) 64 22 _ _ _ _ (hK.1 (d + 1) 64 23 _ _ _ _ (And.intro e1 (hK.1 (d + 1) 64 24 _ _ _ _ (hK.1 (d + 1) 64 25 _ _ _ _ (hK.1 (d + 1) 64 26 _ _ _ _ (hK.1 (d + 1) 64 27 _ _ _ _ (And.intro e2 (hK.1 (d + 1) 64 28 _ _ _ _ (And.intro e3 (And.intro e4 (And.intro (fun g => hT g) (fun g => hF g)))))))))))))))
    · exact hK.1 (d + 1) 64 20 [.inr 34, .inr 28, .inl v2] _ _ _ (And.intro e0 (hK.1 (d + 1) 64 21 _ _ _ _ (hK.1 (d + 1) 64 22 _ _ _ _ (hK.1 (d + 1) 64 23 _ _ _ _ (And.intro e1 (hK.1 (d + 1) 64 24 _ _ _ _ (hK.1 (d + 1) 64 25 _ _ _ _ (hK.1 (d + 1) 64 26 _ _ _ _ (hK.1 (d + 1) 64 27 _ _ _ _ (And.intro e2 (hK.1 (d + 1) 64 28 _ _ _ _ (And.intro e3 (And.intro e4 (And.intro (fun g => hT g) (fun g => hF g)))))))))))))))
    · exact hK.1 (d + 1) 64 20 [.inr 34, .inr 29, .inl v2] _ _ _ (And.intro e0 (hK.1 (d + 1) 64 21 _ _ _ _ (hK.1 (d + 1) 64 22 _ _ _ _ (hK.1 (d + 1) 64 23 _ _ _ _ (And.intro e1 (hK.1 (d + 1) 64 24 _ _ _ _ (hK.1 (d + 1) 64 25 _ _ _ _ (hK.1 (d + 1) 64 26 _ _ _ _ (hK.1 (d + 1) 64 27 _ _ _ _ (And.intro e2 (hK.1 (d + 1) 64 28 _ _ _ _ (And.intro e3 (And.intro e4 (And.intro (fun g => hT g) (fun g => hF g)))))))))))))))
    · exact hK.1 (d + 1) 64 20 [.inr 34, .inr 42, .inl v2] _ _ _ (And.intro e0 (hK.1 (d + 1) 64 21 _ _ _ _ (hK.1 (d + 1) 64 22 _ _ _ _ (hK.1 (d + 1) 64 23 _ _ _ _ (And.intro e1 (hK.1 (d + 1) 64 24 _ _ _ _ (hK.1 (d + 1) 64 25 _ _ _ _ (hK.1 (d + 1) 64 26 _ _ _ _ (hK.1 (d + 1) 64 27 _ _ _ _ (And.intro e2 (hK.1 (d + 1) 64 28 _ _ _ _ (And.intro e3 (And.intro e4 (And.intro (fun g => hT g) (fun g => hF g)))))))))))))))
  · rcases hq with rfl | rfl | rfl | rfl
    · exact hK.1 (d + 1) 64 20 [.inr 43, .inr 27, .inl v2] _ _ _ (And.intro e0 (hK.1 (d + 1) 64 21 _ _ _ _ (hK.1 (d + 1) 64 22 _ _ _ _ (hK.1 (d + 1) 64 23 _ _ _ _ (And.intro e1 (hK.1 (d + 1) 64 24 _ _ _ _ (hK.1 (d + 1) 64 25 _ _ _ _ (hK.1 (d + 1) 64 26 _ _ _ _ (hK.1 (d + 1) 64 27 _ _ _ _ (And.intro e2 (hK.1 (d + 1) 64 28 _ _ _ _ (And.intro e3 (And.intro e4 (And.intro (fun g => hT g) (fun g => hF g)))))))))))))))
    · exact hK.1 (d + 1) 64 20 [.inr 43, .inr 28, .inl v2] _ _ _ (And.intro e0 (hK.1 (d + 1) 64 21 _ _ _ _ (hK.1 (d + 1) 64 22 _ _ _ _ (hK.1 (d + 1) 64 23 _ _ _ _ (And.intro e1 (hK.1 (d + 1) 64 24 _ _ _ _ (hK.1 (d + 1) 64 25 _ _ _ _ (hK.1 (d + 1) 64 26 _ _ _ _ (hK.1 (d + 1) 64 27 _ _ _ _ (And.intro e2 (hK.1 (d + 1) 64 28 _ _ _ _ (And.intro e3 (And.intro e4 (And.intro (fun g => hT g) (fun g => hF g)))))))))))))))
    · exact hK.1 (d + 1) 64 20 [.inr 43, .inr 29, .inl v2] _ _ _ (And.intro e0 (hK.1 (d + 1) 64 21 _ _ _ _ (hK.1 (d + 1) 64 22 _ _ _ _ (hK.1 (d + 1) 64 23 _ _ _ _ (And.intro e1 (hK.1 (d + 1) 64 24 _ _ _ _ (hK.1 (d + 1) 64 25 _ _ _ _ (hK.1 (d + 1) 64 26 _ _ _ _ (hK.1 (d + 1) 64 27 _ _ _ _ (And.intro e2 (hK.1 (d + 1) 64 28 _ _ _ _ (And.intro e3 (And.intro e4 (And.intro (fun g => hT g) (fun g => hF g)))))))))))))))
    · exact hK.1 (d + 1) 64 20 [.inr 43, .inr 42, .inl v2] _ _ _ (And.intro e0 (hK.1 (d + 1) 64 21 _ _ _ _ (hK.1 (d + 1) 64 22 _ _ _ _ (hK.1 (d + 1) 64 23 _ _ _ _ (And.intro e1 (hK.1 (d + 1) 64 24 _ _ _ _ (hK.1 (d + 1) 64 25 _ _ _ _ (hK.1 (d + 1) 64 26 _ _ _ _ (hK.1 (d + 1) 64 27 _ _ _ _ (And.intro e2 (hK.1 (d + 1) 64 28 _ _ _ _ (And.intro e3 (And.intro e4 (And.intro (fun g => hT g) (fun g => hF g)))))))))))))))
theorem bW_least_29 {K : am_KT} (hK : am_C K) {d : Nat} {σ : am_S} {Q : am_Q} {v2 : Int} {r q : Nat} (hr : am_isW r) (hq : am_isD q) (h : Q (some 0) σ) : K (d + 1) 64 29 [.inr r, .inr q, .inl v2] [] σ Q := by
  rcases hr with rfl | rfl
  · rcases hq with rfl | rfl | rfl | rfl
    · exact hK.1 (d + 1) 64 29 [.inr 34, .inr 27, .inl v2] _ _ _ (hK.1 (d + 1) 64 30 _ _ _ _ (And.intro (Or.inl rfl) (h)))
    · exact hK.1 (d + 1) 64 29 [.inr 34, .inr 28, .inl v2] _ _ _ (hK.1 (d + 1) 64 30 _ _ _ _ (And.intro (Or.inl rfl) (h)))
    · exact hK.1 (d + 1) 64 29 [.inr 34, .inr 29, .inl v2] _ _ _ (hK.1 (d + 1) 64 30 _ _ _ _ (And.intro (Or.inl rfl) (h)))
    · exact hK.1 (d + 1) 64 29 [.inr 34, .inr 42, .inl v2] _ _ _ (hK.1 (d + 1) 64 30 _ _ _ _ (And.intro (Or.inl rfl) (h)))
  · rcases hq with rfl | rfl | rfl | rfl
    · exact hK.1 (d + 1) 64 29 [.inr 43, .inr 27, .inl v2] _ _ _ (hK.1 (d + 1) 64 30 _ _ _ _ (And.intro (Or.inl rfl) (h)))
    · exact hK.1 (d + 1) 64 29 [.inr 43, .inr 28, .inl v2] _ _ _ (hK.1 (d + 1) 64 30 _ _ _ _ (And.intro (Or.inl rfl) (h)))
    · exact hK.1 (d + 1) 64 29 [.inr 43, .inr 29, .inl v2] _ _ _ (hK.1 (d + 1) 64 30 _ _ _ _ (And.intro (Or.inl rfl) (h)))
    · exact hK.1 (d + 1) 64 29 [.inr 43, .inr 42, .inl v2] _ _ _ (hK.1 (d + 1) 64 30 _ _ _ _ (And.intro (Or.inl rfl) (h)))
theorem bW_least_31 {K : am_KT} (hK : am_C K) {d : Nat} {σ : am_S} {Q : am_Q} {v2 : Int} {r q : Nat} (hr : am_isW r) (hq : am_isD q) (h : K (d + 1) 64 7 [.inr r, .inr q, .inl (v2 + 1)] [] σ Q) : K (d + 1) 64 31 [.inr r, .inr q, .inl v2] [] σ Q := by
  rcases hr with rfl | rfl
  · rcases hq with rfl | rfl | rfl | rfl
    · exact hK.1 (d + 1) 64 31 [.inr 34, .inr 27, .inl v2] _ _ _ (hK.1 (d + 1) 64 32 [.inr 34, .inr 27, .inl (v2 + 1)] _ _ _ (h))
    · exact hK.1 (d + 1) 64 31 [.inr 34, .inr 28, .inl v2] _ _ _ (hK.1 (d + 1) 64 32 [.inr 34, .inr 28, .inl (v2 + 1)] _ _ _ (h))
    · exact hK.1 (d + 1) 64 31 [.inr 34, .inr 29, .inl v2] _ _ _ (hK.1 (d + 1) 64 32 [.inr 34, .inr 29, .inl (v2 + 1)] _ _ _ (h))
    · exact hK.1 (d + 1) 64 31 [.inr 34, .inr 42, .inl v2] _ _ _ (hK.1 (d + 1) 64 32 [.inr 34, .inr 42, .inl (v2 + 1)] _ _ _ (h))
  · rcases hq with rfl | rfl | rfl | rfl
    · exact hK.1 (d + 1) 64 31 [.inr 43, .inr 27, .inl v2] _ _ _ (hK.1 (d + 1) 64 32 [.inr 43, .inr 27, .inl (v2 + 1)] _ _ _ (h))
    · exact hK.1 (d + 1) 64 31 [.inr 43, .inr 28, .inl v2] _ _ _ (hK.1 (d + 1) 64 32 [.inr 43, .inr 28, .inl (v2 + 1)] _ _ _ (h))
    · exact hK.1 (d + 1) 64 31 [.inr 43, .inr 29, .inl v2] _ _ _ (hK.1 (d + 1) 64 32 [.inr 43, .inr 29, .inl (v2 + 1)] _ _ _ (h))
    · exact hK.1 (d + 1) 64 31 [.inr 43, .inr 42, .inl v2] _ _ _ (hK.1 (d + 1) 64 32 [.inr 43, .inr 42, .inl (v2 + 1)] _ _ _ (h))
theorem bW_least_33 {K : am_KT} (hK : am_C K) {d : Nat} {σ : am_S} {Q : am_Q} {v2 : Int} {r q : Nat} (hr : am_isW r) (hq : am_isD q) (h : K d 66 0 [.inr r, .inr q] [] σ (fun o σ1 => K (d + 1) 64 36 [.inr r, .inr q, .inl v2] (am_o o ++ []) σ1 Q)) : K (d + 1) 64 33 [.inr r, .inr q, .inl v2] [] σ Q := by
  rcases hr with rfl | rfl
  · rcases hq with rfl | rfl | rfl | rfl
    · exact hK.1 (d + 1) 64 33 [.inr 34, .inr 27, .inl v2] _ _ _ (hK.1 (d + 1) 64 34 _ _ _ _ (hK.1 (d + 1) 64 35 _ _ _ _ (h)))
    · exact hK.1 (d + 1) 64 33 [.inr 34, .inr 28, .inl v2] _ _ _ (hK.1 (d + 1) 64 34 _ _ _ _ (hK.1 (d + 1) 64 35 _ _ _ _ (h)))
    · exact hK.1 (d + 1) 64 33 [.inr 34, .inr 29, .inl v2] _ _ _ (hK.1 (d + 1) 64 34 _ _ _ _ (hK.1 (d + 1) 64 35 _ _ _ _ (h)))
    · exact hK.1 (d + 1) 64 33 [.inr 34, .inr 42, .inl v2] _ _ _ (hK.1 (d + 1) 64 34 _ _ _ _ (hK.1 (d + 1) 64 35 _ _ _ _ (h)))
  · rcases hq with rfl | rfl | rfl | rfl
    · exact hK.1 (d + 1) 64 33 [.inr 43, .inr 27, .inl v2] _ _ _ (hK.1 (d + 1) 64 34 _ _ _ _ (hK.1 (d + 1) 64 35 _ _ _ _ (h)))
    · exact hK.1 (d + 1) 64 33 [.inr 43, .inr 28, .inl v2] _ _ _ (hK.1 (d + 1) 64 34 _ _ _ _ (hK.1 (d + 1) 64 35 _ _ _ _ (h)))
    · exact hK.1 (d + 1) 64 33 [.inr 43, .inr 29, .inl v2] _ _ _ (hK.1 (d + 1) 64 34 _ _ _ _ (hK.1 (d + 1) 64 35 _ _ _ _ (h)))
    · exact hK.1 (d + 1) 64 33 [.inr 43, .inr 42, .inl v2] _ _ _ (hK.1 (d + 1) 64 34 _ _ _ _ (hK.1 (d + 1) 64 35 _ _ _ _ (h)))
theorem bW_least_36 {K : am_KT} (hK : am_C K) {d : Nat} {σ : am_S} {Q : am_Q} {v2 s0 : Int} {r q : Nat} (hr : am_isW r) (hq : am_isD q) (e0 : s0 = 0 ∨ s0 = 1) (h : Q (some s0) σ) : K (d + 1) 64 36 [.inr r, .inr q, .inl v2] [.inl s0] σ Q := by
  rcases hr with rfl | rfl
  · rcases hq with rfl | rfl | rfl | rfl
    · exact hK.1 (d + 1) 64 36 [.inr 34, .inr 27, .inl v2] _ _ _ (And.intro e0 (h))
    · exact hK.1 (d + 1) 64 36 [.inr 34, .inr 28, .inl v2] _ _ _ (And.intro e0 (h))
    · exact hK.1 (d + 1) 64 36 [.inr 34, .inr 29, .inl v2] _ _ _ (And.intro e0 (h))
    · exact hK.1 (d + 1) 64 36 [.inr 34, .inr 42, .inl v2] _ _ _ (And.intro e0 (h))
  · rcases hq with rfl | rfl | rfl | rfl
    · exact hK.1 (d + 1) 64 36 [.inr 43, .inr 27, .inl v2] _ _ _ (And.intro e0 (h))
    · exact hK.1 (d + 1) 64 36 [.inr 43, .inr 28, .inl v2] _ _ _ (And.intro e0 (h))
    · exact hK.1 (d + 1) 64 36 [.inr 43, .inr 29, .inl v2] _ _ _ (And.intro e0 (h))
    · exact hK.1 (d + 1) 64 36 [.inr 43, .inr 42, .inl v2] _ _ _ (And.intro e0 (h))
-- 65: LetterDays$Web.greatest
theorem bW_greatest_0 {K : am_KT} (hK : am_C K) {d : Nat} {σ : am_S} {Q : am_Q} {r q : Nat} (hr : am_isW r) (hq : am_isD q) (h : K (d + 1) 65 2 [.inr r, .inr q, .inl 0] [] σ Q) : K (d + 1) 65 0 [.inr r, .inr q] [] σ Q := by
  rcases hr with rfl | rfl
  · rcases hq with rfl | rfl | rfl | rfl
    · exact hK.1 (d + 1) 65 0 [.inr 34, .inr 27] _ _ _ (hK.1 (d + 1) 65 1 _ _ _ _ (h))
    · exact hK.1 (d + 1) 65 0 [.inr 34, .inr 28] _ _ _ (hK.1 (d + 1) 65 1 _ _ _ _ (h))
    · exact hK.1 (d + 1) 65 0 [.inr 34, .inr 29] _ _ _ (hK.1 (d + 1) 65 1 _ _ _ _ (h))
    · exact hK.1 (d + 1) 65 0 [.inr 34, .inr 42] _ _ _ (hK.1 (d + 1) 65 1 _ _ _ _ (h))
  · rcases hq with rfl | rfl | rfl | rfl
    · exact hK.1 (d + 1) 65 0 [.inr 43, .inr 27] _ _ _ (hK.1 (d + 1) 65 1 _ _ _ _ (h))
    · exact hK.1 (d + 1) 65 0 [.inr 43, .inr 28] _ _ _ (hK.1 (d + 1) 65 1 _ _ _ _ (h))
    · exact hK.1 (d + 1) 65 0 [.inr 43, .inr 29] _ _ _ (hK.1 (d + 1) 65 1 _ _ _ _ (h))
    · exact hK.1 (d + 1) 65 0 [.inr 43, .inr 42] _ _ _ (hK.1 (d + 1) 65 1 _ _ _ _ (h))
theorem bW_greatest_2 {K : am_KT} (hK : am_C K) {d : Nat} {σ : am_S} {Q : am_Q} {v2 : Int} {r q : Nat} (hr : am_isW r) (hq : am_isD q) (e0 : am_rng v2) (e1 : am_rng (σ r 0)) (hT : σ r 0 ≤ v2 → K (d + 1) 65 18 [.inr r, .inr q, .inl v2] [] σ Q) (hF : v2 < σ r 0 → K (d + 1) 65 6 [.inr r, .inr q, .inl v2] [] σ Q) : K (d + 1) 65 2 [.inr r, .inr q, .inl v2] [] σ Q := by
  rcases hr with rfl | rfl
  · rcases hq with rfl | rfl | rfl | rfl
    · exact hK.1 (d + 1) 65 2 [.inr 34, .inr 27, .inl v2] _ _ _ (hK.1 (d + 1) 65 3 _ _ _ _ (hK.1 (d + 1) 65 4 _ _ _ _ (hK.1 (d + 1) 65 5 _ _ _ _ (And.intro e0 (And.intro e1 (And.intro (fun g => hT g) (fun g => hF g)))))))
    · exact hK.1 (d + 1) 65 2 [.inr 34, .inr 28, .inl v2] _ _ _ (hK.1 (d + 1) 65 3 _ _ _ _ (hK.1 (d + 1) 65 4 _ _ _ _ (hK.1 (d + 1) 65 5 _ _ _ _ (And.intro e0 (And.intro e1 (And.intro (fun g => hT g) (fun g => hF g)))))))
    · exact hK.1 (d + 1) 65 2 [.inr 34, .inr 29, .inl v2] _ _ _ (hK.1 (d + 1) 65 3 _ _ _ _ (hK.1 (d + 1) 65 4 _ _ _ _ (hK.1 (d + 1) 65 5 _ _ _ _ (And.intro e0 (And.intro e1 (And.intro (fun g => hT g) (fun g => hF g)))))))
    · exact hK.1 (d + 1) 65 2 [.inr 34, .inr 42, .inl v2] _ _ _ (hK.1 (d + 1) 65 3 _ _ _ _ (hK.1 (d + 1) 65 4 _ _ _ _ (hK.1 (d + 1) 65 5 _ _ _ _ (And.intro e0 (And.intro e1 (And.intro (fun g => hT g) (fun g => hF g)))))))
  · rcases hq with rfl | rfl | rfl | rfl
    · exact hK.1 (d + 1) 65 2 [.inr 43, .inr 27, .inl v2] _ _ _ (hK.1 (d + 1) 65 3 _ _ _ _ (hK.1 (d + 1) 65 4 _ _ _ _ (hK.1 (d + 1) 65 5 _ _ _ _ (And.intro e0 (And.intro e1 (And.intro (fun g => hT g) (fun g => hF g)))))))
    · exact hK.1 (d + 1) 65 2 [.inr 43, .inr 28, .inl v2] _ _ _ (hK.1 (d + 1) 65 3 _ _ _ _ (hK.1 (d + 1) 65 4 _ _ _ _ (hK.1 (d + 1) 65 5 _ _ _ _ (And.intro e0 (And.intro e1 (And.intro (fun g => hT g) (fun g => hF g)))))))
    · exact hK.1 (d + 1) 65 2 [.inr 43, .inr 29, .inl v2] _ _ _ (hK.1 (d + 1) 65 3 _ _ _ _ (hK.1 (d + 1) 65 4 _ _ _ _ (hK.1 (d + 1) 65 5 _ _ _ _ (And.intro e0 (And.intro e1 (And.intro (fun g => hT g) (fun g => hF g)))))))
    · exact hK.1 (d + 1) 65 2 [.inr 43, .inr 42, .inl v2] _ _ _ (hK.1 (d + 1) 65 3 _ _ _ _ (hK.1 (d + 1) 65 4 _ _ _ _ (hK.1 (d + 1) 65 5 _ _ _ _ (And.intro e0 (And.intro e1 (And.intro (fun g => hT g) (fun g => hF g)))))))
theorem bW_greatest_6 {K : am_KT} (hK : am_C K) {d : Nat} {σ : am_S} {Q : am_Q} {v2 : Int} {r q : Nat} (hr : am_isW r) (hq : am_isD q) (e0 : 0 ≤ v2 ∧ v2 < 8) (h : K d 69 0 [.inr r, .inl v2, .inl (σ (r + 2) v2)] [] σ (fun o σ1 => K (d + 1) 65 15 [.inr r, .inr q, .inl v2] (am_o o ++ [.inl v2, .inr q]) σ1 Q)) : K (d + 1) 65 6 [.inr r, .inr q, .inl v2] [] σ Q := by
  rcases hr with rfl | rfl
  · rcases hq with rfl | rfl | rfl | rfl
    · exact hK.1 (d + 1) 65 6 [.inr 34, .inr 27, .inl v2] _ _ _ (hK.1 (d + 1) 65 7 _ _ _ _ (hK.1 (d + 1) 65 8 _ _ _ _ (hK.1 (d + 1) 65 9 _ _ _ _ (hK.1 (d + 1) 65 10 _ _ _ _ (hK.1 (d + 1) 65 11 _ _ _ _ (hK.1 (d + 1) 65 12 _ _ _ _ (hK.1 (d + 1) 65 13 _ _ _ _ (And.intro e0 (hK.1 (d + 1) 65 14 _ _ _ _ (h))))))))))
    · exact hK.1 (d + 1) 65 6 [.inr 34, .inr 28, .inl v2] _ _ _ (hK.1 (d + 1) 65 7 _ _ _ _ (hK.1 (d + 1) 65 8 _ _ _ _ (hK.1 (d + 1) 65 9 _ _ _ _ (hK.1 (d + 1) 65 10 _ _ _ _ (hK.1 (d + 1) 65 11 _ _ _ _ (hK.1 (d + 1) 65 12 _ _ _ _ (hK.1 (d + 1) 65 13 _ _ _ _ (And.intro e0 (hK.1 (d + 1) 65 14 _ _ _ _ (h))))))))))
    · exact hK.1 (d + 1) 65 6 [.inr 34, .inr 29, .inl v2] _ _ _ (hK.1 (d + 1) 65 7 _ _ _ _ (hK.1 (d + 1) 65 8 _ _ _ _ (hK.1 (d + 1) 65 9 _ _ _ _ (hK.1 (d + 1) 65 10 _ _ _ _ (hK.1 (d + 1) 65 11 _ _ _ _ (hK.1 (d + 1) 65 12 _ _ _ _ (hK.1 (d + 1) 65 13 _ _ _ _ (And.intro e0 (hK.1 (d + 1) 65 14 _ _ _ _ (h))))))))))
    · exact hK.1 (d + 1) 65 6 [.inr 34, .inr 42, .inl v2] _ _ _ (hK.1 (d + 1) 65 7 _ _ _ _ (hK.1 (d + 1) 65 8 _ _ _ _ (hK.1 (d + 1) 65 9 _ _ _ _ (hK.1 (d + 1) 65 10 _ _ _ _ (hK.1 (d + 1) 65 11 _ _ _ _ (hK.1 (d + 1) 65 12 _ _ _ _ (hK.1 (d + 1) 65 13 _ _ _ _ (And.intro e0 (hK.1 (d + 1) 65 14 _ _ _ _ (h))))))))))
  · rcases hq with rfl | rfl | rfl | rfl
    · exact hK.1 (d + 1) 65 6 [.inr 43, .inr 27, .inl v2] _ _ _ (hK.1 (d + 1) 65 7 _ _ _ _ (hK.1 (d + 1) 65 8 _ _ _ _ (hK.1 (d + 1) 65 9 _ _ _ _ (hK.1 (d + 1) 65 10 _ _ _ _ (hK.1 (d + 1) 65 11 _ _ _ _ (hK.1 (d + 1) 65 12 _ _ _ _ (hK.1 (d + 1) 65 13 _ _ _ _ (And.intro e0 (hK.1 (d + 1) 65 14 _ _ _ _ (h))))))))))
    · exact hK.1 (d + 1) 65 6 [.inr 43, .inr 28, .inl v2] _ _ _ (hK.1 (d + 1) 65 7 _ _ _ _ (hK.1 (d + 1) 65 8 _ _ _ _ (hK.1 (d + 1) 65 9 _ _ _ _ (hK.1 (d + 1) 65 10 _ _ _ _ (hK.1 (d + 1) 65 11 _ _ _ _ (hK.1 (d + 1) 65 12 _ _ _ _ (hK.1 (d + 1) 65 13 _ _ _ _ (And.intro e0 (hK.1 (d + 1) 65 14 _ _ _ _ (h))))))))))
    · exact hK.1 (d + 1) 65 6 [.inr 43, .inr 29, .inl v2] _ _ _ (hK.1 (d + 1) 65 7 _ _ _ _ (hK.1 (d + 1) 65 8 _ _ _ _ (hK.1 (d + 1) 65 9 _ _ _ _ (hK.1 (d + 1) 65 10 _ _ _ _ (hK.1 (d + 1) 65 11 _ _ _ _ (hK.1 (d + 1) 65 12 _ _ _ _ (hK.1 (d + 1) 65 13 _ _ _ _ (And.intro e0 (hK.1 (d + 1) 65 14 _ _ _ _ (h))))))))))
    · exact hK.1 (d + 1) 65 6 [.inr 43, .inr 42, .inl v2] _ _ _ (hK.1 (d + 1) 65 7 _ _ _ _ (hK.1 (d + 1) 65 8 _ _ _ _ (hK.1 (d + 1) 65 9 _ _ _ _ (hK.1 (d + 1) 65 10 _ _ _ _ (hK.1 (d + 1) 65 11 _ _ _ _ (hK.1 (d + 1) 65 12 _ _ _ _ (hK.1 (d + 1) 65 13 _ _ _ _ (And.intro e0 (hK.1 (d + 1) 65 14 _ _ _ _ (h))))))))))
theorem bW_greatest_15 {K : am_KT} (hK : am_C K) {d : Nat} {σ : am_S} {Q : am_Q} {v2 s0 s1 : Int} {r q : Nat} (hr : am_isW r) (hq : am_isD q) (e0 : 0 ≤ s1 ∧ s1 < 8) (h : K (d + 1) 65 2 [.inr r, .inr q, .inl (v2 + 1)] [] (am_us σ q s1 s0) Q) : K (d + 1) 65 15 [.inr r, .inr q, .inl v2] [.inl s0, .inl s1, .inr q] σ Q := by
  rcases hr with rfl | rfl
  · rcases hq with rfl | rfl | rfl | rfl
    · exact hK.1 (d + 1) 65 15 [.inr 34, .inr 27, .inl v2] _ _ _ (And.intro e0 (hK.1 (d + 1) 65 16 _ _ _ _ (hK.1 (d + 1) 65 17 [.inr 34, .inr 27, .inl (v2 + 1)] _ _ _ (h))))
    · exact hK.1 (d + 1) 65 15 [.inr 34, .inr 28, .inl v2] _ _ _ (And.intro e0 (hK.1 (d + 1) 65 16 _ _ _ _ (hK.1 (d + 1) 65 17 [.inr 34, .inr 28, .inl (v2 + 1)] _ _ _ (h))))
    · exact hK.1 (d + 1) 65 15 [.inr 34, .inr 29, .inl v2] _ _ _ (And.intro e0 (hK.1 (d + 1) 65 16 _ _ _ _ (hK.1 (d + 1) 65 17 [.inr 34, .inr 29, .inl (v2 + 1)] _ _ _ (h))))
    · exact hK.1 (d + 1) 65 15 [.inr 34, .inr 42, .inl v2] _ _ _ (And.intro e0 (hK.1 (d + 1) 65 16 _ _ _ _ (hK.1 (d + 1) 65 17 [.inr 34, .inr 42, .inl (v2 + 1)] _ _ _ (h))))
  · rcases hq with rfl | rfl | rfl | rfl
    · exact hK.1 (d + 1) 65 15 [.inr 43, .inr 27, .inl v2] _ _ _ (And.intro e0 (hK.1 (d + 1) 65 16 _ _ _ _ (hK.1 (d + 1) 65 17 [.inr 43, .inr 27, .inl (v2 + 1)] _ _ _ (h))))
    · exact hK.1 (d + 1) 65 15 [.inr 43, .inr 28, .inl v2] _ _ _ (And.intro e0 (hK.1 (d + 1) 65 16 _ _ _ _ (hK.1 (d + 1) 65 17 [.inr 43, .inr 28, .inl (v2 + 1)] _ _ _ (h))))
    · exact hK.1 (d + 1) 65 15 [.inr 43, .inr 29, .inl v2] _ _ _ (And.intro e0 (hK.1 (d + 1) 65 16 _ _ _ _ (hK.1 (d + 1) 65 17 [.inr 43, .inr 29, .inl (v2 + 1)] _ _ _ (h))))
    · exact hK.1 (d + 1) 65 15 [.inr 43, .inr 42, .inl v2] _ _ _ (And.intro e0 (hK.1 (d + 1) 65 16 _ _ _ _ (hK.1 (d + 1) 65 17 [.inr 43, .inr 42, .inl (v2 + 1)] _ _ _ (h))))
theorem bW_greatest_18 {K : am_KT} (hK : am_C K) {d : Nat} {σ : am_S} {Q : am_Q} {v2 : Int} {r q : Nat} (hr : am_isW r) (hq : am_isD q) (h : K d 67 0 [.inr r, .inr q] [] σ (fun o σ1 => K (d + 1) 65 21 [.inr r, .inr q, .inl v2] (am_o o ++ []) σ1 Q)) : K (d + 1) 65 18 [.inr r, .inr q, .inl v2] [] σ Q := by
  rcases hr with rfl | rfl
  · rcases hq with rfl | rfl | rfl | rfl
    · exact hK.1 (d + 1) 65 18 [.inr 34, .inr 27, .inl v2] _ _ _ (hK.1 (d + 1) 65 19 _ _ _ _ (hK.1 (d + 1) 65 20 _ _ _ _ (h)))
    · exact hK.1 (d + 1) 65 18 [.inr 34, .inr 28, .inl v2] _ _ _ (hK.1 (d + 1) 65 19 _ _ _ _ (hK.1 (d + 1) 65 20 _ _ _ _ (h)))
    · exact hK.1 (d + 1) 65 18 [.inr 34, .inr 29, .inl v2] _ _ _ (hK.1 (d + 1) 65 19 _ _ _ _ (hK.1 (d + 1) 65 20 _ _ _ _ (h)))
    · exact hK.1 (d + 1) 65 18 [.inr 34, .inr 42, .inl v2] _ _ _ (hK.1 (d + 1) 65 19 _ _ _ _ (hK.1 (d + 1) 65 20 _ _ _ _ (h)))
  · rcases hq with rfl | rfl | rfl | rfl
    · exact hK.1 (d + 1) 65 18 [.inr 43, .inr 27, .inl v2] _ _ _ (hK.1 (d + 1) 65 19 _ _ _ _ (hK.1 (d + 1) 65 20 _ _ _ _ (h)))
    · exact hK.1 (d + 1) 65 18 [.inr 43, .inr 28, .inl v2] _ _ _ (hK.1 (d + 1) 65 19 _ _ _ _ (hK.1 (d + 1) 65 20 _ _ _ _ (h)))
    · exact hK.1 (d + 1) 65 18 [.inr 43, .inr 29, .inl v2] _ _ _ (hK.1 (d + 1) 65 19 _ _ _ _ (hK.1 (d + 1) 65 20 _ _ _ _ (h)))
    · exact hK.1 (d + 1) 65 18 [.inr 43, .inr 42, .inl v2] _ _ _ (hK.1 (d + 1) 65 19 _ _ _ _ (hK.1 (d + 1) 65 20 _ _ _ _ (h)))
theorem bW_greatest_21 {K : am_KT} (hK : am_C K) {d : Nat} {σ : am_S} {Q : am_Q} {v2 : Int} {r q : Nat} (hr : am_isW r) (hq : am_isD q) (h : Q none σ) : K (d + 1) 65 21 [.inr r, .inr q, .inl v2] [] σ Q := by
  rcases hr with rfl | rfl
  · rcases hq with rfl | rfl | rfl | rfl
    · exact hK.1 (d + 1) 65 21 [.inr 34, .inr 27, .inl v2] _ _ _ (h)
    · exact hK.1 (d + 1) 65 21 [.inr 34, .inr 28, .inl v2] _ _ _ (h)
    · exact hK.1 (d + 1) 65 21 [.inr 34, .inr 29, .inl v2] _ _ _ (h)
    · exact hK.1 (d + 1) 65 21 [.inr 34, .inr 42, .inl v2] _ _ _ (h)
  · rcases hq with rfl | rfl | rfl | rfl
    · exact hK.1 (d + 1) 65 21 [.inr 43, .inr 27, .inl v2] _ _ _ (h)
    · exact hK.1 (d + 1) 65 21 [.inr 43, .inr 28, .inl v2] _ _ _ (h)
    · exact hK.1 (d + 1) 65 21 [.inr 43, .inr 29, .inl v2] _ _ _ (h)
    · exact hK.1 (d + 1) 65 21 [.inr 43, .inr 42, .inl v2] _ _ _ (h)
-- 66: LetterDays$Web.rise
theorem bW_rise_0 {K : am_KT} (hK : am_C K) {d : Nat} {σ : am_S} {Q : am_Q} {r q : Nat} (hr : am_isW r) (hq : am_isD q) (h : K (d + 1) 66 2 [.inr r, .inr q, .inl 0] [] σ Q) : K (d + 1) 66 0 [.inr r, .inr q] [] σ Q := by
  rcases hr with rfl | rfl
  · rcases hq with rfl | rfl | rfl | rfl
    · exact hK.1 (d + 1) 66 0 [.inr 34, .inr 27] _ _ _ (hK.1 (d + 1) 66 1 _ _ _ _ (h))
    · exact hK.1 (d + 1) 66 0 [.inr 34, .inr 28] _ _ _ (hK.1 (d + 1) 66 1 _ _ _ _ (h))
    · exact hK.1 (d + 1) 66 0 [.inr 34, .inr 29] _ _ _ (hK.1 (d + 1) 66 1 _ _ _ _ (h))
    · exact hK.1 (d + 1) 66 0 [.inr 34, .inr 42] _ _ _ (hK.1 (d + 1) 66 1 _ _ _ _ (h))
  · rcases hq with rfl | rfl | rfl | rfl
    · exact hK.1 (d + 1) 66 0 [.inr 43, .inr 27] _ _ _ (hK.1 (d + 1) 66 1 _ _ _ _ (h))
    · exact hK.1 (d + 1) 66 0 [.inr 43, .inr 28] _ _ _ (hK.1 (d + 1) 66 1 _ _ _ _ (h))
    · exact hK.1 (d + 1) 66 0 [.inr 43, .inr 29] _ _ _ (hK.1 (d + 1) 66 1 _ _ _ _ (h))
    · exact hK.1 (d + 1) 66 0 [.inr 43, .inr 42] _ _ _ (hK.1 (d + 1) 66 1 _ _ _ _ (h))
theorem bW_rise_2 {K : am_KT} (hK : am_C K) {d : Nat} {σ : am_S} {Q : am_Q} {v2 : Int} {r q : Nat} (hr : am_isW r) (hq : am_isD q) (e0 : am_rng v2) (hT : 1601 ≤ v2 → K (d + 1) 66 62 [.inr r, .inr q, .inl v2] [] σ Q) (hF : v2 < 1601 → K (d + 1) 66 5 [.inr r, .inr q, .inl v2] [] σ Q) : K (d + 1) 66 2 [.inr r, .inr q, .inl v2] [] σ Q := by
  rcases hr with rfl | rfl
  · rcases hq with rfl | rfl | rfl | rfl
    · exact hK.1 (d + 1) 66 2 [.inr 34, .inr 27, .inl v2] _ _ _ (hK.1 (d + 1) 66 3 _ _ _ _ (hK.1 (d + 1) 66 4 _ _ _ _ (And.intro e0 (And.intro (And.intro (by decide) (by decide)) (And.intro (fun g => hT g) (fun g => hF g))))))
    · exact hK.1 (d + 1) 66 2 [.inr 34, .inr 28, .inl v2] _ _ _ (hK.1 (d + 1) 66 3 _ _ _ _ (hK.1 (d + 1) 66 4 _ _ _ _ (And.intro e0 (And.intro (And.intro (by decide) (by decide)) (And.intro (fun g => hT g) (fun g => hF g))))))
    · exact hK.1 (d + 1) 66 2 [.inr 34, .inr 29, .inl v2] _ _ _ (hK.1 (d + 1) 66 3 _ _ _ _ (hK.1 (d + 1) 66 4 _ _ _ _ (And.intro e0 (And.intro (And.intro (by decide) (by decide)) (And.intro (fun g => hT g) (fun g => hF g))))))
    · exact hK.1 (d + 1) 66 2 [.inr 34, .inr 42, .inl v2] _ _ _ (hK.1 (d + 1) 66 3 _ _ _ _ (hK.1 (d + 1) 66 4 _ _ _ _ (And.intro e0 (And.intro (And.intro (by decide) (by decide)) (And.intro (fun g => hT g) (fun g => hF g))))))
  · rcases hq with rfl | rfl | rfl | rfl
    · exact hK.1 (d + 1) 66 2 [.inr 43, .inr 27, .inl v2] _ _ _ (hK.1 (d + 1) 66 3 _ _ _ _ (hK.1 (d + 1) 66 4 _ _ _ _ (And.intro e0 (And.intro (And.intro (by decide) (by decide)) (And.intro (fun g => hT g) (fun g => hF g))))))
    · exact hK.1 (d + 1) 66 2 [.inr 43, .inr 28, .inl v2] _ _ _ (hK.1 (d + 1) 66 3 _ _ _ _ (hK.1 (d + 1) 66 4 _ _ _ _ (And.intro e0 (And.intro (And.intro (by decide) (by decide)) (And.intro (fun g => hT g) (fun g => hF g))))))
    · exact hK.1 (d + 1) 66 2 [.inr 43, .inr 29, .inl v2] _ _ _ (hK.1 (d + 1) 66 3 _ _ _ _ (hK.1 (d + 1) 66 4 _ _ _ _ (And.intro e0 (And.intro (And.intro (by decide) (by decide)) (And.intro (fun g => hT g) (fun g => hF g))))))
    · exact hK.1 (d + 1) 66 2 [.inr 43, .inr 42, .inl v2] _ _ _ (hK.1 (d + 1) 66 3 _ _ _ _ (hK.1 (d + 1) 66 4 _ _ _ _ (And.intro e0 (And.intro (And.intro (by decide) (by decide)) (And.intro (fun g => hT g) (fun g => hF g))))))
theorem bW_rise_5 {K : am_KT} (hK : am_C K) {d : Nat} {σ : am_S} {Q : am_Q} {v2 : Int} {r q : Nat} (hr : am_isW r) (hq : am_isD q) (h : K (d + 1) 66 9 [.inr r, .inr q, .inl v2, .inl 0, .inl 0] [] σ Q) : K (d + 1) 66 5 [.inr r, .inr q, .inl v2] [] σ Q := by
  rcases hr with rfl | rfl
  · rcases hq with rfl | rfl | rfl | rfl
    · exact hK.1 (d + 1) 66 5 [.inr 34, .inr 27, .inl v2] _ _ _ (hK.1 (d + 1) 66 6 _ _ _ _ (hK.1 (d + 1) 66 7 [.inr 34, .inr 27, .inl v2, .inl 0] _ _ _ (hK.1 (d + 1) 66 8 _ _ _ _ (h))))
    · exact hK.1 (d + 1) 66 5 [.inr 34, .inr 28, .inl v2] _ _ _ (hK.1 (d + 1) 66 6 _ _ _ _ (hK.1 (d + 1) 66 7 [.inr 34, .inr 28, .inl v2, .inl 0] _ _ _ (hK.1 (d + 1) 66 8 _ _ _ _ (h))))
    · exact hK.1 (d + 1) 66 5 [.inr 34, .inr 29, .inl v2] _ _ _ (hK.1 (d + 1) 66 6 _ _ _ _ (hK.1 (d + 1) 66 7 [.inr 34, .inr 29, .inl v2, .inl 0] _ _ _ (hK.1 (d + 1) 66 8 _ _ _ _ (h))))
    · exact hK.1 (d + 1) 66 5 [.inr 34, .inr 42, .inl v2] _ _ _ (hK.1 (d + 1) 66 6 _ _ _ _ (hK.1 (d + 1) 66 7 [.inr 34, .inr 42, .inl v2, .inl 0] _ _ _ (hK.1 (d + 1) 66 8 _ _ _ _ (h))))
  · rcases hq with rfl | rfl | rfl | rfl
    · exact hK.1 (d + 1) 66 5 [.inr 43, .inr 27, .inl v2] _ _ _ (hK.1 (d + 1) 66 6 _ _ _ _ (hK.1 (d + 1) 66 7 [.inr 43, .inr 27, .inl v2, .inl 0] _ _ _ (hK.1 (d + 1) 66 8 _ _ _ _ (h))))
    · exact hK.1 (d + 1) 66 5 [.inr 43, .inr 28, .inl v2] _ _ _ (hK.1 (d + 1) 66 6 _ _ _ _ (hK.1 (d + 1) 66 7 [.inr 43, .inr 28, .inl v2, .inl 0] _ _ _ (hK.1 (d + 1) 66 8 _ _ _ _ (h))))
    · exact hK.1 (d + 1) 66 5 [.inr 43, .inr 29, .inl v2] _ _ _ (hK.1 (d + 1) 66 6 _ _ _ _ (hK.1 (d + 1) 66 7 [.inr 43, .inr 29, .inl v2, .inl 0] _ _ _ (hK.1 (d + 1) 66 8 _ _ _ _ (h))))
    · exact hK.1 (d + 1) 66 5 [.inr 43, .inr 42, .inl v2] _ _ _ (hK.1 (d + 1) 66 6 _ _ _ _ (hK.1 (d + 1) 66 7 [.inr 43, .inr 42, .inl v2, .inl 0] _ _ _ (hK.1 (d + 1) 66 8 _ _ _ _ (h))))
theorem bW_rise_9 {K : am_KT} (hK : am_C K) {d : Nat} {σ : am_S} {Q : am_Q} {v2 v3 v4 : Int} {r q : Nat} (hr : am_isW r) (hq : am_isD q) (e0 : am_rng v4) (e1 : am_rng (σ r 5)) (hT : σ r 5 ≤ v4 → K (d + 1) 66 56 [.inr r, .inr q, .inl v2, .inl v3, .inl v4] [] σ Q) (hF : v4 < σ r 5 → K (d + 1) 66 13 [.inr r, .inr q, .inl v2, .inl v3, .inl v4] [] σ Q) : K (d + 1) 66 9 [.inr r, .inr q, .inl v2, .inl v3, .inl v4] [] σ Q := by
  rcases hr with rfl | rfl
  · rcases hq with rfl | rfl | rfl | rfl
    · exact hK.1 (d + 1) 66 9 [.inr 34, .inr 27, .inl v2, .inl v3, .inl v4] _ _ _ (hK.1 (d + 1) 66 10 _ _ _ _ (hK.1 (d + 1) 66 11 _ _ _ _ (hK.1 (d + 1) 66 12 _ _ _ _ (And.intro e0 (And.intro e1 (And.intro (fun g => hT g) (fun g => hF g)))))))
    · exact hK.1 (d + 1) 66 9 [.inr 34, .inr 28, .inl v2, .inl v3, .inl v4] _ _ _ (hK.1 (d + 1) 66 10 _ _ _ _ (hK.1 (d + 1) 66 11 _ _ _ _ (hK.1 (d + 1) 66 12 _ _ _ _ (And.intro e0 (And.intro e1 (And.intro (fun g => hT g) (fun g => hF g)))))))
    · exact hK.1 (d + 1) 66 9 [.inr 34, .inr 29, .inl v2, .inl v3, .inl v4] _ _ _ (hK.1 (d + 1) 66 10 _ _ _ _ (hK.1 (d + 1) 66 11 _ _ _ _ (hK.1 (d + 1) 66 12 _ _ _ _ (And.intro e0 (And.intro e1 (And.intro (fun g => hT g) (fun g => hF g)))))))
    · exact hK.1 (d + 1) 66 9 [.inr 34, .inr 42, .inl v2, .inl v3, .inl v4] _ _ _ (hK.1 (d + 1) 66 10 _ _ _ _ (hK.1 (d + 1) 66 11 _ _ _ _ (hK.1 (d + 1) 66 12 _ _ _ _ (And.intro e0 (And.intro e1 (And.intro (fun g => hT g) (fun g => hF g)))))))
  · rcases hq with rfl | rfl | rfl | rfl
    · exact hK.1 (d + 1) 66 9 [.inr 43, .inr 27, .inl v2, .inl v3, .inl v4] _ _ _ (hK.1 (d + 1) 66 10 _ _ _ _ (hK.1 (d + 1) 66 11 _ _ _ _ (hK.1 (d + 1) 66 12 _ _ _ _ (And.intro e0 (And.intro e1 (And.intro (fun g => hT g) (fun g => hF g)))))))
    · exact hK.1 (d + 1) 66 9 [.inr 43, .inr 28, .inl v2, .inl v3, .inl v4] _ _ _ (hK.1 (d + 1) 66 10 _ _ _ _ (hK.1 (d + 1) 66 11 _ _ _ _ (hK.1 (d + 1) 66 12 _ _ _ _ (And.intro e0 (And.intro e1 (And.intro (fun g => hT g) (fun g => hF g)))))))
    · exact hK.1 (d + 1) 66 9 [.inr 43, .inr 29, .inl v2, .inl v3, .inl v4] _ _ _ (hK.1 (d + 1) 66 10 _ _ _ _ (hK.1 (d + 1) 66 11 _ _ _ _ (hK.1 (d + 1) 66 12 _ _ _ _ (And.intro e0 (And.intro e1 (And.intro (fun g => hT g) (fun g => hF g)))))))
    · exact hK.1 (d + 1) 66 9 [.inr 43, .inr 42, .inl v2, .inl v3, .inl v4] _ _ _ (hK.1 (d + 1) 66 10 _ _ _ _ (hK.1 (d + 1) 66 11 _ _ _ _ (hK.1 (d + 1) 66 12 _ _ _ _ (And.intro e0 (And.intro e1 (And.intro (fun g => hT g) (fun g => hF g)))))))
theorem bW_rise_13 {K : am_KT} (hK : am_C K) {d : Nat} {σ : am_S} {Q : am_Q} {v2 v3 v4 : Int} {r q : Nat} (hr : am_isW r) (hq : am_isD q) (e0 : 0 ≤ v4 ∧ v4 < 20) (e1 : 0 ≤ v4 ∧ v4 < 20) (e2 : 0 ≤ σ (r + 4) v4 ∧ σ (r + 4) v4 < 8) (e3 : 0 ≤ v4 ∧ v4 < 20) (e4 : 0 ≤ σ (r + 5) v4 ∧ σ (r + 5) v4 < 8) (e5 : am_rng (σ q (σ (r + 5) v4))) (e6 : am_rng ((σ q (σ (r + 4) v4)) + (σ (r + 6) v4))) (hT : (σ q (σ (r + 4) v4)) + (σ (r + 6) v4) ≤ σ q (σ (r + 5) v4) → K (d + 1) 66 54 [.inr r, .inr q, .inl v2, .inl v3, .inl v4, .inl (σ (r + 5) v4), .inl ((σ q (σ (r + 4) v4)) + (σ (r + 6) v4))] [] σ Q) (hF : σ q (σ (r + 5) v4) < (σ q (σ (r + 4) v4)) + (σ (r + 6) v4) → K (d + 1) 66 35 [.inr r, .inr q, .inl v2, .inl v3, .inl v4, .inl (σ (r + 5) v4), .inl ((σ q (σ (r + 4) v4)) + (σ (r + 6) v4))] [] σ Q) : K (d + 1) 66 13 [.inr r, .inr q, .inl v2, .inl v3, .inl v4] [] σ Q := by
  rcases hr with rfl | rfl
  · rcases hq with rfl | rfl | rfl | rfl
    · exact hK.1 (d + 1) 66 13 [.inr 34, .inr 27, .inl v2, .inl v3, .inl v4] _ _ _ (hK.1 (d + 1) 66 14 _ _ _ _ (hK.1 (d + 1) 66 15 _ _ _ _ (hK.1 (d + 1) 66 16 _ _ _ _ (And.intro e0 (hK.1 (d + 1) 66 17 _ _ _ _ (hK.1 (d + 1) 66 18 [.inr 34, .inr 27, .inl v2, .inl v3, .inl v4, .inl (σ (34 + 5) v4)] _ _ _ (hK.1 (d + 1) 66 19 _ _ _ _ (hK.1 (d + 1) 66 20 _ _ _ _ (hK.1 (d + 1) 66 21 _ _ _ _ (hK.1 (d + 1) 66 22 _ _ _ _ (And.intro e1 (hK.1 (d + 1) 66 23 _ _ _ _ (And.intro e2 (hK.1 (d + 1) 66 24 _ _ _ _ (hK.1 (d + 1) 66 25 _ _ _ _ (hK.1 (d + 1) 66 26 _ _ _ _ (hK.1 (d + 1) 66 27 _ _ _ _ (And.intro e3 (hK.1 (d + 1) 66 28 _ _ _ _ (hK.1 (d + 1) 66 29 _ _ _ _ (hK.1 (d + 1) 66 30 [.inr 34, .inr 27, .inl v2, .inl v3, .inl v4, .inl (σ (34 + 5) v4), .inl ((σ 27 (σ (34 + 4) v4)) + (σ (34 + 6) v4))] _ _ _ (hK.1 (d + 1) 66 31 _ _ _ _ (hK.1 (d + 1) 66 32 _ _ _ _ (And.intro e4 (hK.1 (d + 1) 66 33 _ _ _ _ (hK.1 (d + 1) 66 34 _ _ _ _ (And.intro e5 (And.intro e6 (And.intro (fun g => hT g) (fun g => hF g))))))))))))))))))))))))))))))
    · exact hK.1 (d + 1) 66 13 [.inr 34, .inr 28, .inl v2, .inl v3, .inl v4] _ _ _ (hK.1 (d + 1) 66 14 _ _ _ _ (hK.1 (d + 1) 66 15 _ _ _ _ (hK.1 (d + 1) 66 16 _ _ _ _ (And.intro e0 (hK.1 (d + 1) 66 17 _ _ _ _ (hK.1 (d + 1) 66 18 [.inr 34, .inr 28, .inl v2, .inl v3, .inl v4, .inl (σ (34 + 5) v4)] _ _ _ (hK.1 (d + 1) 66 19 _ _ _ _ (hK.1 (d + 1) 66 20 _ _ _ _ (hK.1 (d + 1) 66 21 _ _ _ _ (hK.1 (d + 1) 66 22 _ _ _ _ (And.intro e1 (hK.1 (d + 1) 66 23 _ _ _ _ (And.intro e2 (hK.1 (d + 1) 66 24 _ _ _ _ (hK.1 (d + 1) 66 25 _ _ _ _ (hK.1 (d + 1) 66 26 _ _ _ _ (hK.1 (d + 1) 66 27 _ _ _ _ (And.intro e3 (hK.1 (d + 1) 66 28 _ _ _ _ (hK.1 (d + 1) 66 29 _ _ _ _ (hK.1 (d + 1) 66 30 [.inr 34, .inr 28, .inl v2, .inl v3, .inl v4, .inl (σ (34 + 5) v4), .inl ((σ 28 (σ (34 + 4) v4)) + (σ (34 + 6) v4))] _ _ _ (hK.1 (d + 1) 66 31 _ _ _ _ (hK.1 (d + 1) 66 32 _ _ _ _ (And.intro e4 (hK.1 (d + 1) 66 33 _ _ _ _ (hK.1 (d + 1) 66 34 _ _ _ _ (And.intro e5 (And.intro e6 (And.intro (fun g => hT g) (fun g => hF g))))))))))))))))))))))))))))))
    · exact hK.1 (d + 1) 66 13 [.inr 34, .inr 29, .inl v2, .inl v3, .inl v4] _ _ _ (hK.1 (d + 1) 66 14 _ _ _ _ (hK.1 (d + 1) 66 15 _ _ _ _ (hK.1 (d + 1) 66 16 _ _ _ _ (And.intro e0 (hK.1 (d + 1) 66 17 _ _ _ _ (hK.1 (d + 1) 66 18 [.inr 34, .inr 29, .inl v2, .inl v3, .inl v4, .inl (σ (34 + 5) v4)] _ _ _ (hK.1 (d + 1) 66 19 _ _ _ _ (hK.1 (d + 1) 66 20 _ _ _ _ (hK.1 (d + 1) 66 21 _ _ _ _ (hK.1 (d + 1) 66 22 _ _ _ _ (And.intro e1 (hK.1 (d + 1) 66 23 _ _ _ _ (And.intro e2 (hK.1 (d + 1) 66 24 _ _ _ _ (hK.1 (d + 1) 66 25 _ _ _ _ (hK.1 (d + 1) 66 26 _ _ _ _ (hK.1 (d + 1) 66 27 _ _ _ _ (And.intro e3 (hK.1 (d + 1) 66 28 _ _ _ _ (hK.1 (d + 1) 66 29 _ _ _ _ (hK.1 (d + 1) 66 30 [.inr 34, .inr 29, .inl v2, .inl v3, .inl v4, .inl (σ (34 + 5) v4), .inl ((σ 29 (σ (34 + 4) v4)) + (σ (34 + 6) v4))] _ _ _ (hK.1 (d + 1) 66 31 _ _ _ _ (hK.1 (d + 1) 66 32 _ _ _ _ (And.intro e4 (hK.1 (d + 1) 66 33 _ _ _ _ (hK.1 (d + 1) 66 34 _ _ _ _ (And.intro e5 (And.intro e6 (And.intro (fun g => hT g) (fun g => hF g))))))))))))))))))))))))))))))
    · exact hK.1 (d + 1) 66 13 [.inr 34, .inr 42, .inl v2, .inl v3, .inl v4] _ _ _ (hK.1 (d + 1) 66 14 _ _ _ _ (hK.1 (d + 1) 66 15 _ _ _ _ (hK.1 (d + 1) 66 16 _ _ _ _ (And.intro e0 (hK.1 (d + 1) 66 17 _ _ _ _ (hK.1 (d + 1) 66 18 [.inr 34, .inr 42, .inl v2, .inl v3, .inl v4, .inl (σ (34 + 5) v4)] _ _ _ (hK.1 (d + 1) 66 19 _ _ _ _ (hK.1 (d + 1) 66 20 _ _ _ _ (hK.1 (d + 1) 66 21 _ _ _ _ (hK.1 (d + 1) 66 22 _ _ _ _ (And.intro e1 (hK.1 (d + 1) 66 23 _ _ _ _ (And.intro e2 (hK.1 (d + 1) 66 24 _ _ _ _ (hK.1 (d + 1) 66 25 _ _ _ _ (hK.1 (d + 1) 66 26 _ _ _ _ (hK.1 (d + 1) 66 27 _ _ _ _ (And.intro e3 (hK.1 (d + 1) 66 28 _ _ _ _ (hK.1 (d + 1) 66 29 _ _ _ _ (hK.1 (d + 1) 66 30 [.inr 34, .inr 42, .inl v2, .inl v3, .inl v4, .inl (σ (34 + 5) v4), .inl ((σ 42 (σ (34 + 4) v4)) + (σ (34 + 6) v4))] _ _ _ (hK.1 (d + 1) 66 31 _ _ _ _ (hK.1 (d + 1) 66 32 _ _ _ _ (And.intro e4 (hK.1 (d + 1) 66 33 _ _ _ _ (hK.1 (d + 1) 66 34 _ _ _ _ (And.intro e5 (And.intro e6 (And.intro (fun g => hT g) (fun g => hF g))))))))))))))))))))))))))))))
  · rcases hq with rfl | rfl | rfl | rfl
    · exact hK.1 (d + 1) 66 13 [.inr 43, .inr 27, .inl v2, .inl v3, .inl v4] _ _ _ (hK.1 (d + 1) 66 14 _ _ _ _ (hK.1 (d + 1) 66 15 _ _ _ _ (hK.1 (d + 1) 66 16 _ _ _ _ (And.intro e0 (hK.1 (d + 1) 66 17 _ _ _ _ (hK.1 (d + 1) 66 18 [.inr 43, .inr 27, .inl v2, .inl v3, .inl v4, .inl (σ (43 + 5) v4)] _ _ _ (hK.1 (d + 1) 66 19 _ _ _ _ (hK.1 (d + 1) 66 20 _ _ _ _ (hK.1 (d + 1) 66 21 _ _ _ _ (hK.1 (d + 1) 66 22 _ _ _ _ (And.intro e1 (hK.1 (d + 1) 66 23 _ _ _ _ (And.intro e2 (hK.1 (d + 1) 66 24 _ _ _ _ (hK.1 (d + 1) 66 25 _ _ _ _ (hK.1 (d + 1) 66 26 _ _ _ _ (hK.1 (d + 1) 66 27 _ _ _ _ (And.intro e3 (hK.1 (d + 1) 66 28 _ _ _ _ (hK.1 (d + 1) 66 29 _ _ _ _ (hK.1 (d + 1) 66 30 [.inr 43, .inr 27, .inl v2, .inl v3, .inl v4, .inl (σ (43 + 5) v4), .inl ((σ 27 (σ (43 + 4) v4)) + (σ (43 + 6) v4))] _ _ _ (hK.1 (d + 1) 66 31 _ _ _ _ (hK.1 (d + 1) 66 32 _ _ _ _ (And.intro e4 (hK.1 (d + 1) 66 33 _ _ _ _ (hK.1 (d + 1) 66 34 _ _ _ _ (And.intro e5 (And.intro e6 (And.intro (fun g => hT g) (fun g => hF g))))))))))))))))))))))))))))))
    · exact hK.1 (d + 1) 66 13 [.inr 43, .inr 28, .inl v2, .inl v3, .inl v4] _ _ _ (hK.1 (d + 1) 66 14 _ _ _ _ (hK.1 (d + 1) 66 15 _ _ _ _ (hK.1 (d + 1) 66 16 _ _ _ _ (And.intro e0 (hK.1 (d + 1) 66 17 _ _ _ _ (hK.1 (d + 1) 66 18 [.inr 43, .inr 28, .inl v2, .inl v3, .inl v4, .inl (σ (43 + 5) v4)] _ _ _ (hK.1 (d + 1) 66 19 _ _ _ _ (hK.1 (d + 1) 66 20 _ _ _ _ (hK.1 (d + 1) 66 21 _ _ _ _ (hK.1 (d + 1) 66 22 _ _ _ _ (And.intro e1 (hK.1 (d + 1) 66 23 _ _ _ _ (And.intro e2 (hK.1 (d + 1) 66 24 _ _ _ _ (hK.1 (d + 1) 66 25 _ _ _ _ (hK.1 (d + 1) 66 26 _ _ _ _ (hK.1 (d + 1) 66 27 _ _ _ _ (And.intro e3 (hK.1 (d + 1) 66 28 _ _ _ _ (hK.1 (d + 1) 66 29 _ _ _ _ (hK.1 (d + 1) 66 30 [.inr 43, .inr 28, .inl v2, .inl v3, .inl v4, .inl (σ (43 + 5) v4), .inl ((σ 28 (σ (43 + 4) v4)) + (σ (43 + 6) v4))] _ _ _ (hK.1 (d + 1) 66 31 _ _ _ _ (hK.1 (d + 1) 66 32 _ _ _ _ (And.intro e4 (hK.1 (d + 1) 66 33 _ _ _ _ (hK.1 (d + 1) 66 34 _ _ _ _ (And.intro e5 (And.intro e6 (And.intro (fun g => hT g) (fun g => hF g))))))))))))))))))))))))))))))
    · exact hK.1 (d + 1) 66 13 [.inr 43, .inr 29, .inl v2, .inl v3, .inl v4] _ _ _ (hK.1 (d + 1) 66 14 _ _ _ _ (hK.1 (d + 1) 66 15 _ _ _ _ (hK.1 (d + 1) 66 16 _ _ _ _ (And.intro e0 (hK.1 (d + 1) 66 17 _ _ _ _ (hK.1 (d + 1) 66 18 [.inr 43, .inr 29, .inl v2, .inl v3, .inl v4, .inl (σ (43 + 5) v4)] _ _ _ (hK.1 (d + 1) 66 19 _ _ _ _ (hK.1 (d + 1) 66 20 _ _ _ _ (hK.1 (d + 1) 66 21 _ _ _ _ (hK.1 (d + 1) 66 22 _ _ _ _ (And.intro e1 (hK.1 (d + 1) 66 23 _ _ _ _ (And.intro e2 (hK.1 (d + 1) 66 24 _ _ _ _ (hK.1 (d + 1) 66 25 _ _ _ _ (hK.1 (d + 1) 66 26 _ _ _ _ (hK.1 (d + 1) 66 27 _ _ _ _ (And.intro e3 (hK.1 (d + 1) 66 28 _ _ _ _ (hK.1 (d + 1) 66 29 _ _ _ _ (hK.1 (d + 1) 66 30 [.inr 43, .inr 29, .inl v2, .inl v3, .inl v4, .inl (σ (43 + 5) v4), .inl ((σ 29 (σ (43 + 4) v4)) + (σ (43 + 6) v4))] _ _ _ (hK.1 (d + 1) 66 31 _ _ _ _ (hK.1 (d + 1) 66 32 _ _ _ _ (And.intro e4 (hK.1 (d + 1) 66 33 _ _ _ _ (hK.1 (d + 1) 66 34 _ _ _ _ (And.intro e5 (And.intro e6 (And.intro (fun g => hT g) (fun g => hF g))))))))))))))))))))))))))))))
    · exact hK.1 (d + 1) 66 13 [.inr 43, .inr 42, .inl v2, .inl v3, .inl v4] _ _ _ (hK.1 (d + 1) 66 14 _ _ _ _ (hK.1 (d + 1) 66 15 _ _ _ _ (hK.1 (d + 1) 66 16 _ _ _ _ (And.intro e0 (hK.1 (d + 1) 66 17 _ _ _ _ (hK.1 (d + 1) 66 18 [.inr 43, .inr 42, .inl v2, .inl v3, .inl v4, .inl (σ (43 + 5) v4)] _ _ _ (hK.1 (d + 1) 66 19 _ _ _ _ (hK.1 (d + 1) 66 20 _ _ _ _ (hK.1 (d + 1) 66 21 _ _ _ _ (hK.1 (d + 1) 66 22 _ _ _ _ (And.intro e1 (hK.1 (d + 1) 66 23 _ _ _ _ (And.intro e2 (hK.1 (d + 1) 66 24 _ _ _ _ (hK.1 (d + 1) 66 25 _ _ _ _ (hK.1 (d + 1) 66 26 _ _ _ _ (hK.1 (d + 1) 66 27 _ _ _ _ (And.intro e3 (hK.1 (d + 1) 66 28 _ _ _ _ (hK.1 (d + 1) 66 29 _ _ _ _ (hK.1 (d + 1) 66 30 [.inr 43, .inr 42, .inl v2, .inl v3, .inl v4, .inl (σ (43 + 5) v4), .inl ((σ 42 (σ (43 + 4) v4)) + (σ (43 + 6) v4))] _ _ _ (hK.1 (d + 1) 66 31 _ _ _ _ (hK.1 (d + 1) 66 32 _ _ _ _ (And.intro e4 (hK.1 (d + 1) 66 33 _ _ _ _ (hK.1 (d + 1) 66 34 _ _ _ _ (And.intro e5 (And.intro e6 (And.intro (fun g => hT g) (fun g => hF g))))))))))))))))))))))))))))))
theorem bW_rise_35 {K : am_KT} (hK : am_C K) {d : Nat} {σ : am_S} {Q : am_Q} {v2 v3 v4 v5 v6 : Int} {r q : Nat} (hr : am_isW r) (hq : am_isD q) (h : K d 68 0 [.inr r, .inl v5, .inl v6] [] σ (fun o σ1 => K (d + 1) 66 41 [.inr r, .inr q, .inl v2, .inl v3, .inl v4, .inl v5, .inl v6] (am_o o ++ [.inl v5, .inr q]) σ1 Q)) : K (d + 1) 66 35 [.inr r, .inr q, .inl v2, .inl v3, .inl v4, .inl v5, .inl v6] [] σ Q := by
  rcases hr with rfl | rfl
  · rcases hq with rfl | rfl | rfl | rfl
    · exact hK.1 (d + 1) 66 35 [.inr 34, .inr 27, .inl v2, .inl v3, .inl v4, .inl v5, .inl v6] _ _ _ (hK.1 (d + 1) 66 36 _ _ _ _ (hK.1 (d + 1) 66 37 _ _ _ _ (hK.1 (d + 1) 66 38 _ _ _ _ (hK.1 (d + 1) 66 39 _ _ _ _ (hK.1 (d + 1) 66 40 _ _ _ _ (h))))))
    · exact hK.1 (d + 1) 66 35 [.inr 34, .inr 28, .inl v2, .inl v3, .inl v4, .inl v5, .inl v6] _ _ _ (hK.1 (d + 1) 66 36 _ _ _ _ (hK.1 (d + 1) 66 37 _ _ _ _ (hK.1 (d + 1) 66 38 _ _ _ _ (hK.1 (d + 1) 66 39 _ _ _ _ (hK.1 (d + 1) 66 40 _ _ _ _ (h))))))
    · exact hK.1 (d + 1) 66 35 [.inr 34, .inr 29, .inl v2, .inl v3, .inl v4, .inl v5, .inl v6] _ _ _ (hK.1 (d + 1) 66 36 _ _ _ _ (hK.1 (d + 1) 66 37 _ _ _ _ (hK.1 (d + 1) 66 38 _ _ _ _ (hK.1 (d + 1) 66 39 _ _ _ _ (hK.1 (d + 1) 66 40 _ _ _ _ (h))))))
    · exact hK.1 (d + 1) 66 35 [.inr 34, .inr 42, .inl v2, .inl v3, .inl v4, .inl v5, .inl v6] _ _ _ (hK.1 (d + 1) 66 36 _ _ _ _ (hK.1 (d + 1) 66 37 _ _ _ _ (hK.1 (d + 1) 66 38 _ _ _ _ (hK.1 (d + 1) 66 39 _ _ _ _ (hK.1 (d + 1) 66 40 _ _ _ _ (h))))))
  · rcases hq with rfl | rfl | rfl | rfl
    · exact hK.1 (d + 1) 66 35 [.inr 43, .inr 27, .inl v2, .inl v3, .inl v4, .inl v5, .inl v6] _ _ _ (hK.1 (d + 1) 66 36 _ _ _ _ (hK.1 (d + 1) 66 37 _ _ _ _ (hK.1 (d + 1) 66 38 _ _ _ _ (hK.1 (d + 1) 66 39 _ _ _ _ (hK.1 (d + 1) 66 40 _ _ _ _ (h))))))
    · exact hK.1 (d + 1) 66 35 [.inr 43, .inr 28, .inl v2, .inl v3, .inl v4, .inl v5, .inl v6] _ _ _ (hK.1 (d + 1) 66 36 _ _ _ _ (hK.1 (d + 1) 66 37 _ _ _ _ (hK.1 (d + 1) 66 38 _ _ _ _ (hK.1 (d + 1) 66 39 _ _ _ _ (hK.1 (d + 1) 66 40 _ _ _ _ (h))))))
    · exact hK.1 (d + 1) 66 35 [.inr 43, .inr 29, .inl v2, .inl v3, .inl v4, .inl v5, .inl v6] _ _ _ (hK.1 (d + 1) 66 36 _ _ _ _ (hK.1 (d + 1) 66 37 _ _ _ _ (hK.1 (d + 1) 66 38 _ _ _ _ (hK.1 (d + 1) 66 39 _ _ _ _ (hK.1 (d + 1) 66 40 _ _ _ _ (h))))))
    · exact hK.1 (d + 1) 66 35 [.inr 43, .inr 42, .inl v2, .inl v3, .inl v4, .inl v5, .inl v6] _ _ _ (hK.1 (d + 1) 66 36 _ _ _ _ (hK.1 (d + 1) 66 37 _ _ _ _ (hK.1 (d + 1) 66 38 _ _ _ _ (hK.1 (d + 1) 66 39 _ _ _ _ (hK.1 (d + 1) 66 40 _ _ _ _ (h))))))
theorem bW_rise_41 {K : am_KT} (hK : am_C K) {d : Nat} {σ : am_S} {Q : am_Q} {v2 v3 v4 v5 v6 s0 s1 : Int} {r q : Nat} (hr : am_isW r) (hq : am_isD q) (e0 : 0 ≤ s1 ∧ s1 < 8) (e1 : 0 ≤ v5 ∧ v5 < 8) (e2 : 0 ≤ v5 ∧ v5 < 8) (e3 : am_rng ((am_us σ q s1 s0) q v5)) (e4 : am_rng ((am_us σ q s1 s0) (r + 2) v5)) (hT : (am_us σ q s1 s0) q v5 ≤ (am_us σ q s1 s0) (r + 2) v5 → K (d + 1) 66 52 [.inr r, .inr q, .inl v2, .inl v3, .inl v4, .inl v5, .inl v6] [] (am_us σ q s1 s0) Q) (hF : (am_us σ q s1 s0) (r + 2) v5 < (am_us σ q s1 s0) q v5 → K (d + 1) 66 50 [.inr r, .inr q, .inl v2, .inl v3, .inl v4, .inl v5, .inl v6] [] (am_us σ q s1 s0) Q) : K (d + 1) 66 41 [.inr r, .inr q, .inl v2, .inl v3, .inl v4, .inl v5, .inl v6] [.inl s0, .inl s1, .inr q] σ Q := by
  rcases hr with rfl | rfl
  · rcases hq with rfl | rfl | rfl | rfl
    · exact hK.1 (d + 1) 66 41 [.inr 34, .inr 27, .inl v2, .inl v3, .inl v4, .inl v5, .inl v6] _ _ _ (And.intro e0 (hK.1 (d + 1) 66 42 _ _ _ _ (hK.1 (d + 1) 66 43 _ _ _ _ (hK.1 (d + 1) 66 44 _ _ _ _ (And.intro e1 (hK.1 (d + 1) 66 45 _ _ _ _ (hK.1 (d + 1) 66 46 _ _ _ _ (hK.1 (d + 1) 66 47 _ _ _ _ (hK.1 (d + 1) 66 48 _ _ _ _ (And.intro e2 (hK.1 (d + 1) 66 49 _ _ _ _ (And.intro e3 (And.intro e4 (And.intro (fun g => hT g) (fun g => hF g)))))))))))))))
    · exact hK.1 (d + 1) 66 41 [.inr 34, .inr 28, .inl v2, .inl v3, .inl v4, .inl v5, .inl v6] _ _ _ (And.intro e0 (hK.1 (d + 1) 66 42 _ _ _ _ (hK.1 (d + 1) 66 43 _ _ _ _ (hK.1 (d + 1) 66 44 _ _ _ _ (And.intro e1 (hK.1 (d + 1) 66 45 _ _ _ _ (hK.1 (d + 1) 66 46 _ _ _ _ (hK.1 (d + 1) 66 47 _ _ _ _ (hK.1 (d + 1) 66 48 _ _ _ _ (And.intro e2 (hK.1 (d + 1) 66 49 _ _ _ _ (And.intro e3 (And.intro e4 (And.intro (fun g => hT g) (fun g => hF g)))))))))))))))
    · exact hK.1 (d + 1) 66 41 [.inr 34, .inr 29, .inl v2, .inl v3, .inl v4, .inl v5, .inl v6] _ _ _ (And.intro e0 (hK.1 (d + 1) 66 42 _ _ _ _ (hK.1 (d + 1) 66 43 _ _ _ _ (hK.1 (d + 1) 66 44 _ _ _ _ (And.intro e1 (hK.1 (d + 1) 66 45 _ _ _ _ (hK.1 (d + 1) 66 46 _ _ _ _ (hK.1 (d + 1) 66 47 _ _ _ _ (hK.1 (d + 1) 66 48 _ _ _ _ (And.intro e2 (hK.1 (d + 1) 66 49 _ _ _ _ (And.intro e3 (And.intro e4 (And.intro (fun g => hT g) (fun g => hF g)))))))))))))))
    · exact hK.1 (d + 1) 66 41 [.inr 34, .inr 42, .inl v2, .inl v3, .inl v4, .inl v5, .inl v6] _ _ _ (And.intro e0 (hK.1 (d + 1) 66 42 _ _ _ _ (hK.1 (d + 1) 66 43 _ _ _ _ (hK.1 (d + 1) 66 44 _ _ _ _ (And.intro e1 (hK.1 (d + 1) 66 45 _ _ _ _ (hK.1 (d + 1) 66 46 _ _ _ _ (hK.1 (d + 1) 66 47 _ _ _ _ (hK.1 (d + 1) 66 48 _ _ _ _ (And.intro e2 (hK.1 (d + 1) 66 49 _ _ _ _ (And.intro e3 (And.intro e4 (And.intro (fun g => hT g) (fun g => hF g)))))))))))))))
  · rcases hq with rfl | rfl | rfl | rfl
    · exact hK.1 (d + 1) 66 41 [.inr 43, .inr 27, .inl v2, .inl v3, .inl v4, .inl v5, .inl v6] _ _ _ (And.intro e0 (hK.1 (d + 1) 66 42 _ _ _ _ (hK.1 (d + 1) 66 43 _ _ _ _ (hK.1 (d + 1) 66 44 _ _ _ _ (And.intro e1 (hK.1 (d + 1) 66 45 _ _ _ _ (hK.1 (d + 1) 66 46 _ _ _ _ (hK.1 (d + 1) 66 47 _ _ _ _ (hK.1 (d + 1) 66 48 _ _ _ _ (And.intro e2 (hK.1 (d + 1) 66 49 _ _ _ _ (And.intro e3 (And.intro e4 (And.intro (fun g => hT g) (fun g => hF g)))))))))))))))
    · exact hK.1 (d + 1) 66 41 [.inr 43, .inr 28, .inl v2, .inl v3, .inl v4, .inl v5, .inl v6] _ _ _ (And.intro e0 (hK.1 (d + 1) 66 42 _ _ _ _ (hK.1 (d + 1) 66 43 _ _ _ _ (hK.1 (d + 1) 66 44 _ _ _ _ (And.intro e1 (hK.1 (d + 1) 66 45 _ _ _ _ (hK.1 (d + 1) 66 46 _ _ _ _ (hK.1 (d + 1) 66 47 _ _ _ _ (hK.1 (d + 1) 66 48 _ _ _ _ (And.intro e2 (hK.1 (d + 1) 66 49 _ _ _ _ (And.intro e3 (And.intro e4 (And.intro (fun g => hT g) (fun g => hF g)))))))))))))))
    · exact hK.1 (d + 1) 66 41 [.inr 43, .inr 29, .inl v2, .inl v3, .inl v4, .inl v5, .inl v6] _ _ _ (And.intro e0 (hK.1 (d + 1) 66 42 _ _ _ _ (hK.1 (d + 1) 66 43 _ _ _ _ (hK.1 (d + 1) 66 44 _ _ _ _ (And.intro e1 (hK.1 (d + 1) 66 45 _ _ _ _ (hK.1 (d + 1) 66 46 _ _ _ _ (hK.1 (d + 1) 66 47 _ _ _ _ (hK.1 (d + 1) 66 48 _ _ _ _ (And.intro e2 (hK.1 (d + 1) 66 49 _ _ _ _ (And.intro e3 (And.intro e4 (And.intro (fun g => hT g) (fun g => hF g)))))))))))))))
    · exact hK.1 (d + 1) 66 41 [.inr 43, .inr 42, .inl v2, .inl v3, .inl v4, .inl v5, .inl v6] _ _ _ (And.intro e0 (hK.1 (d + 1) 66 42 _ _ _ _ (hK.1 (d + 1) 66 43 _ _ _ _ (hK.1 (d + 1) 66 44 _ _ _ _ (And.intro e1 (hK.1 (d + 1) 66 45 _ _ _ _ (hK.1 (d + 1) 66 46 _ _ _ _ (hK.1 (d + 1) 66 47 _ _ _ _ (hK.1 (d + 1) 66 48 _ _ _ _ (And.intro e2 (hK.1 (d + 1) 66 49 _ _ _ _ (And.intro e3 (And.intro e4 (And.intro (fun g => hT g) (fun g => hF g)))))))))))))))
theorem bW_rise_50 {K : am_KT} (hK : am_C K) {d : Nat} {σ : am_S} {Q : am_Q} {v2 v3 v4 v5 v6 : Int} {r q : Nat} (hr : am_isW r) (hq : am_isD q) (h : Q (some 0) σ) : K (d + 1) 66 50 [.inr r, .inr q, .inl v2, .inl v3, .inl v4, .inl v5, .inl v6] [] σ Q := by
  rcases hr with rfl | rfl
  · rcases hq with rfl | rfl | rfl | rfl
    · exact hK.1 (d + 1) 66 50 [.inr 34, .inr 27, .inl v2, .inl v3, .inl v4, .inl v5, .inl v6] _ _ _ (hK.1 (d + 1) 66 51 _ _ _ _ (And.intro (Or.inl rfl) (h)))
    · exact hK.1 (d + 1) 66 50 [.inr 34, .inr 28, .inl v2, .inl v3, .inl v4, .inl v5, .inl v6] _ _ _ (hK.1 (d + 1) 66 51 _ _ _ _ (And.intro (Or.inl rfl) (h)))
    · exact hK.1 (d + 1) 66 50 [.inr 34, .inr 29, .inl v2, .inl v3, .inl v4, .inl v5, .inl v6] _ _ _ (hK.1 (d + 1) 66 51 _ _ _ _ (And.intro (Or.inl rfl) (h)))
    · exact hK.1 (d + 1) 66 50 [.inr 34, .inr 42, .inl v2, .inl v3, .inl v4, .inl v5, .inl v6] _ _ _ (hK.1 (d + 1) 66 51 _ _ _ _ (And.intro (Or.inl rfl) (h)))
  · rcases hq with rfl | rfl | rfl | rfl
    · exact hK.1 (d + 1) 66 50 [.inr 43, .inr 27, .inl v2, .inl v3, .inl v4, .inl v5, .inl v6] _ _ _ (hK.1 (d + 1) 66 51 _ _ _ _ (And.intro (Or.inl rfl) (h)))
    · exact hK.1 (d + 1) 66 50 [.inr 43, .inr 28, .inl v2, .inl v3, .inl v4, .inl v5, .inl v6] _ _ _ (hK.1 (d + 1) 66 51 _ _ _ _ (And.intro (Or.inl rfl) (h)))
    · exact hK.1 (d + 1) 66 50 [.inr 43, .inr 29, .inl v2, .inl v3, .inl v4, .inl v5, .inl v6] _ _ _ (hK.1 (d + 1) 66 51 _ _ _ _ (And.intro (Or.inl rfl) (h)))
    · exact hK.1 (d + 1) 66 50 [.inr 43, .inr 42, .inl v2, .inl v3, .inl v4, .inl v5, .inl v6] _ _ _ (hK.1 (d + 1) 66 51 _ _ _ _ (And.intro (Or.inl rfl) (h)))
theorem bW_rise_52 {K : am_KT} (hK : am_C K) {d : Nat} {σ : am_S} {Q : am_Q} {v2 v3 v4 v5 v6 : Int} {r q : Nat} (hr : am_isW r) (hq : am_isD q) (h : K (d + 1) 66 54 [.inr r, .inr q, .inl v2, .inl 1, .inl v4, .inl v5, .inl v6] [] σ Q) : K (d + 1) 66 52 [.inr r, .inr q, .inl v2, .inl v3, .inl v4, .inl v5, .inl v6] [] σ Q := by
  rcases hr with rfl | rfl
  · rcases hq with rfl | rfl | rfl | rfl
    · exact hK.1 (d + 1) 66 52 [.inr 34, .inr 27, .inl v2, .inl v3, .inl v4, .inl v5, .inl v6] _ _ _ (hK.1 (d + 1) 66 53 _ _ _ _ (h))
    · exact hK.1 (d + 1) 66 52 [.inr 34, .inr 28, .inl v2, .inl v3, .inl v4, .inl v5, .inl v6] _ _ _ (hK.1 (d + 1) 66 53 _ _ _ _ (h))
    · exact hK.1 (d + 1) 66 52 [.inr 34, .inr 29, .inl v2, .inl v3, .inl v4, .inl v5, .inl v6] _ _ _ (hK.1 (d + 1) 66 53 _ _ _ _ (h))
    · exact hK.1 (d + 1) 66 52 [.inr 34, .inr 42, .inl v2, .inl v3, .inl v4, .inl v5, .inl v6] _ _ _ (hK.1 (d + 1) 66 53 _ _ _ _ (h))
  · rcases hq with rfl | rfl | rfl | rfl
    · exact hK.1 (d + 1) 66 52 [.inr 43, .inr 27, .inl v2, .inl v3, .inl v4, .inl v5, .inl v6] _ _ _ (hK.1 (d + 1) 66 53 _ _ _ _ (h))
    · exact hK.1 (d + 1) 66 52 [.inr 43, .inr 28, .inl v2, .inl v3, .inl v4, .inl v5, .inl v6] _ _ _ (hK.1 (d + 1) 66 53 _ _ _ _ (h))
    · exact hK.1 (d + 1) 66 52 [.inr 43, .inr 29, .inl v2, .inl v3, .inl v4, .inl v5, .inl v6] _ _ _ (hK.1 (d + 1) 66 53 _ _ _ _ (h))
    · exact hK.1 (d + 1) 66 52 [.inr 43, .inr 42, .inl v2, .inl v3, .inl v4, .inl v5, .inl v6] _ _ _ (hK.1 (d + 1) 66 53 _ _ _ _ (h))
theorem bW_rise_54 {K : am_KT} (hK : am_C K) {d : Nat} {σ : am_S} {Q : am_Q} {v2 v3 v4 v5 v6 : Int} {r q : Nat} (hr : am_isW r) (hq : am_isD q) (h : K (d + 1) 66 9 [.inr r, .inr q, .inl v2, .inl v3, .inl (v4 + 1)] [] σ Q) : K (d + 1) 66 54 [.inr r, .inr q, .inl v2, .inl v3, .inl v4, .inl v5, .inl v6] [] σ Q := by
  rcases hr with rfl | rfl
  · rcases hq with rfl | rfl | rfl | rfl
    · exact hK.1 (d + 1) 66 54 [.inr 34, .inr 27, .inl v2, .inl v3, .inl v4, .inl v5, .inl v6] _ _ _ (hK.1 (d + 1) 66 55 [.inr 34, .inr 27, .inl v2, .inl v3, .inl (v4 + 1), .inl v5, .inl v6] _ _ _ (hK.2.1 (d + 1) 66 9 [.inr 34, .inr 27, .inl v2, .inl v3, .inl (v4 + 1)] [.inl v5, .inl v6] [] σ Q (h)))
    · exact hK.1 (d + 1) 66 54 [.inr 34, .inr 28, .inl v2, .inl v3, .inl v4, .inl v5, .inl v6] _ _ _ (hK.1 (d + 1) 66 55 [.inr 34, .inr 28, .inl v2, .inl v3, .inl (v4 + 1), .inl v5, .inl v6] _ _ _ (hK.2.1 (d + 1) 66 9 [.inr 34, .inr 28, .inl v2, .inl v3, .inl (v4 + 1)] [.inl v5, .inl v6] [] σ Q (h)))
    · exact hK.1 (d + 1) 66 54 [.inr 34, .inr 29, .inl v2, .inl v3, .inl v4, .inl v5, .inl v6] _ _ _ (hK.1 (d + 1) 66 55 [.inr 34, .inr 29, .inl v2, .inl v3, .inl (v4 + 1), .inl v5, .inl v6] _ _ _ (hK.2.1 (d + 1) 66 9 [.inr 34, .inr 29, .inl v2, .inl v3, .inl (v4 + 1)] [.inl v5, .inl v6] [] σ Q (h)))
    · exact hK.1 (d + 1) 66 54 [.inr 34, .inr 42, .inl v2, .inl v3, .inl v4, .inl v5, .inl v6] _ _ _ (hK.1 (d + 1) 66 55 [.inr 34, .inr 42, .inl v2, .inl v3, .inl (v4 + 1), .inl v5, .inl v6] _ _ _ (hK.2.1 (d + 1) 66 9 [.inr 34, .inr 42, .inl v2, .inl v3, .inl (v4 + 1)] [.inl v5, .inl v6] [] σ Q (h)))
  · rcases hq with rfl | rfl | rfl | rfl
    · exact hK.1 (d + 1) 66 54 [.inr 43, .inr 27, .inl v2, .inl v3, .inl v4, .inl v5, .inl v6] _ _ _ (hK.1 (d + 1) 66 55 [.inr 43, .inr 27, .inl v2, .inl v3, .inl (v4 + 1), .inl v5, .inl v6] _ _ _ (hK.2.1 (d + 1) 66 9 [.inr 43, .inr 27, .inl v2, .inl v3, .inl (v4 + 1)] [.inl v5, .inl v6] [] σ Q (h)))
    · exact hK.1 (d + 1) 66 54 [.inr 43, .inr 28, .inl v2, .inl v3, .inl v4, .inl v5, .inl v6] _ _ _ (hK.1 (d + 1) 66 55 [.inr 43, .inr 28, .inl v2, .inl v3, .inl (v4 + 1), .inl v5, .inl v6] _ _ _ (hK.2.1 (d + 1) 66 9 [.inr 43, .inr 28, .inl v2, .inl v3, .inl (v4 + 1)] [.inl v5, .inl v6] [] σ Q (h)))
    · exact hK.1 (d + 1) 66 54 [.inr 43, .inr 29, .inl v2, .inl v3, .inl v4, .inl v5, .inl v6] _ _ _ (hK.1 (d + 1) 66 55 [.inr 43, .inr 29, .inl v2, .inl v3, .inl (v4 + 1), .inl v5, .inl v6] _ _ _ (hK.2.1 (d + 1) 66 9 [.inr 43, .inr 29, .inl v2, .inl v3, .inl (v4 + 1)] [.inl v5, .inl v6] [] σ Q (h)))
    · exact hK.1 (d + 1) 66 54 [.inr 43, .inr 42, .inl v2, .inl v3, .inl v4, .inl v5, .inl v6] _ _ _ (hK.1 (d + 1) 66 55 [.inr 43, .inr 42, .inl v2, .inl v3, .inl (v4 + 1), .inl v5, .inl v6] _ _ _ (hK.2.1 (d + 1) 66 9 [.inr 43, .inr 42, .inl v2, .inl v3, .inl (v4 + 1)] [.inl v5, .inl v6] [] σ Q (h)))
theorem bW_rise_56 {K : am_KT} (hK : am_C K) {d : Nat} {σ : am_S} {Q : am_Q} {v2 v3 v4 : Int} {r q : Nat} (hr : am_isW r) (hq : am_isD q) (e0 : am_rng v3) (hT : v3 ≠ 0 → K (d + 1) 66 60 [.inr r, .inr q, .inl v2, .inl v3, .inl v4] [] σ Q) (hF : v3 = 0 → K (d + 1) 66 58 [.inr r, .inr q, .inl v2, .inl v3, .inl v4] [] σ Q) : K (d + 1) 66 56 [.inr r, .inr q, .inl v2, .inl v3, .inl v4] [] σ Q := by
  rcases hr with rfl | rfl
  · rcases hq with rfl | rfl | rfl | rfl
    · exact hK.1 (d + 1) 66 56 [.inr 34, .inr 27, .inl v2, .inl v3, .inl v4] _ _ _ (hK.1 (d + 1) 66 57 _ _ _ _ (And.intro e0 (And.intro (And.intro (by decide) (by decide)) (And.intro (fun g => hT g) (fun g => hF g)))))
    · exact hK.1 (d + 1) 66 56 [.inr 34, .inr 28, .inl v2, .inl v3, .inl v4] _ _ _ (hK.1 (d + 1) 66 57 _ _ _ _ (And.intro e0 (And.intro (And.intro (by decide) (by decide)) (And.intro (fun g => hT g) (fun g => hF g)))))
    · exact hK.1 (d + 1) 66 56 [.inr 34, .inr 29, .inl v2, .inl v3, .inl v4] _ _ _ (hK.1 (d + 1) 66 57 _ _ _ _ (And.intro e0 (And.intro (And.intro (by decide) (by decide)) (And.intro (fun g => hT g) (fun g => hF g)))))
    · exact hK.1 (d + 1) 66 56 [.inr 34, .inr 42, .inl v2, .inl v3, .inl v4] _ _ _ (hK.1 (d + 1) 66 57 _ _ _ _ (And.intro e0 (And.intro (And.intro (by decide) (by decide)) (And.intro (fun g => hT g) (fun g => hF g)))))
  · rcases hq with rfl | rfl | rfl | rfl
    · exact hK.1 (d + 1) 66 56 [.inr 43, .inr 27, .inl v2, .inl v3, .inl v4] _ _ _ (hK.1 (d + 1) 66 57 _ _ _ _ (And.intro e0 (And.intro (And.intro (by decide) (by decide)) (And.intro (fun g => hT g) (fun g => hF g)))))
    · exact hK.1 (d + 1) 66 56 [.inr 43, .inr 28, .inl v2, .inl v3, .inl v4] _ _ _ (hK.1 (d + 1) 66 57 _ _ _ _ (And.intro e0 (And.intro (And.intro (by decide) (by decide)) (And.intro (fun g => hT g) (fun g => hF g)))))
    · exact hK.1 (d + 1) 66 56 [.inr 43, .inr 29, .inl v2, .inl v3, .inl v4] _ _ _ (hK.1 (d + 1) 66 57 _ _ _ _ (And.intro e0 (And.intro (And.intro (by decide) (by decide)) (And.intro (fun g => hT g) (fun g => hF g)))))
    · exact hK.1 (d + 1) 66 56 [.inr 43, .inr 42, .inl v2, .inl v3, .inl v4] _ _ _ (hK.1 (d + 1) 66 57 _ _ _ _ (And.intro e0 (And.intro (And.intro (by decide) (by decide)) (And.intro (fun g => hT g) (fun g => hF g)))))
theorem bW_rise_58 {K : am_KT} (hK : am_C K) {d : Nat} {σ : am_S} {Q : am_Q} {v2 v3 v4 : Int} {r q : Nat} (hr : am_isW r) (hq : am_isD q) (h : Q (some 1) σ) : K (d + 1) 66 58 [.inr r, .inr q, .inl v2, .inl v3, .inl v4] [] σ Q := by
  rcases hr with rfl | rfl
  · rcases hq with rfl | rfl | rfl | rfl
    · exact hK.1 (d + 1) 66 58 [.inr 34, .inr 27, .inl v2, .inl v3, .inl v4] _ _ _ (hK.1 (d + 1) 66 59 _ _ _ _ (And.intro (Or.inr rfl) (h)))
    · exact hK.1 (d + 1) 66 58 [.inr 34, .inr 28, .inl v2, .inl v3, .inl v4] _ _ _ (hK.1 (d + 1) 66 59 _ _ _ _ (And.intro (Or.inr rfl) (h)))
    · exact hK.1 (d + 1) 66 58 [.inr 34, .inr 29, .inl v2, .inl v3, .inl v4] _ _ _ (hK.1 (d + 1) 66 59 _ _ _ _ (And.intro (Or.inr rfl) (h)))
    · exact hK.1 (d + 1) 66 58 [.inr 34, .inr 42, .inl v2, .inl v3, .inl v4] _ _ _ (hK.1 (d + 1) 66 59 _ _ _ _ (And.intro (Or.inr rfl) (h)))
  · rcases hq with rfl | rfl | rfl | rfl
    · exact hK.1 (d + 1) 66 58 [.inr 43, .inr 27, .inl v2, .inl v3, .inl v4] _ _ _ (hK.1 (d + 1) 66 59 _ _ _ _ (And.intro (Or.inr rfl) (h)))
    · exact hK.1 (d + 1) 66 58 [.inr 43, .inr 28, .inl v2, .inl v3, .inl v4] _ _ _ (hK.1 (d + 1) 66 59 _ _ _ _ (And.intro (Or.inr rfl) (h)))
    · exact hK.1 (d + 1) 66 58 [.inr 43, .inr 29, .inl v2, .inl v3, .inl v4] _ _ _ (hK.1 (d + 1) 66 59 _ _ _ _ (And.intro (Or.inr rfl) (h)))
    · exact hK.1 (d + 1) 66 58 [.inr 43, .inr 42, .inl v2, .inl v3, .inl v4] _ _ _ (hK.1 (d + 1) 66 59 _ _ _ _ (And.intro (Or.inr rfl) (h)))
theorem bW_rise_60 {K : am_KT} (hK : am_C K) {d : Nat} {σ : am_S} {Q : am_Q} {v2 v3 v4 : Int} {r q : Nat} (hr : am_isW r) (hq : am_isD q) (h : K (d + 1) 66 2 [.inr r, .inr q, .inl (v2 + 1)] [] σ Q) : K (d + 1) 66 60 [.inr r, .inr q, .inl v2, .inl v3, .inl v4] [] σ Q := by
  rcases hr with rfl | rfl
  · rcases hq with rfl | rfl | rfl | rfl
    · exact hK.1 (d + 1) 66 60 [.inr 34, .inr 27, .inl v2, .inl v3, .inl v4] _ _ _ (hK.1 (d + 1) 66 61 [.inr 34, .inr 27, .inl (v2 + 1), .inl v3, .inl v4] _ _ _ (hK.2.1 (d + 1) 66 2 [.inr 34, .inr 27, .inl (v2 + 1)] [.inl v3, .inl v4] [] σ Q (h)))
    · exact hK.1 (d + 1) 66 60 [.inr 34, .inr 28, .inl v2, .inl v3, .inl v4] _ _ _ (hK.1 (d + 1) 66 61 [.inr 34, .inr 28, .inl (v2 + 1), .inl v3, .inl v4] _ _ _ (hK.2.1 (d + 1) 66 2 [.inr 34, .inr 28, .inl (v2 + 1)] [.inl v3, .inl v4] [] σ Q (h)))
    · exact hK.1 (d + 1) 66 60 [.inr 34, .inr 29, .inl v2, .inl v3, .inl v4] _ _ _ (hK.1 (d + 1) 66 61 [.inr 34, .inr 29, .inl (v2 + 1), .inl v3, .inl v4] _ _ _ (hK.2.1 (d + 1) 66 2 [.inr 34, .inr 29, .inl (v2 + 1)] [.inl v3, .inl v4] [] σ Q (h)))
    · exact hK.1 (d + 1) 66 60 [.inr 34, .inr 42, .inl v2, .inl v3, .inl v4] _ _ _ (hK.1 (d + 1) 66 61 [.inr 34, .inr 42, .inl (v2 + 1), .inl v3, .inl v4] _ _ _ (hK.2.1 (d + 1) 66 2 [.inr 34, .inr 42, .inl (v2 + 1)] [.inl v3, .inl v4] [] σ Q (h)))
  · rcases hq with rfl | rfl | rfl | rfl
    · exact hK.1 (d + 1) 66 60 [.inr 43, .inr 27, .inl v2, .inl v3, .inl v4] _ _ _ (hK.1 (d + 1) 66 61 [.inr 43, .inr 27, .inl (v2 + 1), .inl v3, .inl v4] _ _ _ (hK.2.1 (d + 1) 66 2 [.inr 43, .inr 27, .inl (v2 + 1)] [.inl v3, .inl v4] [] σ Q (h)))
    · exact hK.1 (d + 1) 66 60 [.inr 43, .inr 28, .inl v2, .inl v3, .inl v4] _ _ _ (hK.1 (d + 1) 66 61 [.inr 43, .inr 28, .inl (v2 + 1), .inl v3, .inl v4] _ _ _ (hK.2.1 (d + 1) 66 2 [.inr 43, .inr 28, .inl (v2 + 1)] [.inl v3, .inl v4] [] σ Q (h)))
    · exact hK.1 (d + 1) 66 60 [.inr 43, .inr 29, .inl v2, .inl v3, .inl v4] _ _ _ (hK.1 (d + 1) 66 61 [.inr 43, .inr 29, .inl (v2 + 1), .inl v3, .inl v4] _ _ _ (hK.2.1 (d + 1) 66 2 [.inr 43, .inr 29, .inl (v2 + 1)] [.inl v3, .inl v4] [] σ Q (h)))
    · exact hK.1 (d + 1) 66 60 [.inr 43, .inr 42, .inl v2, .inl v3, .inl v4] _ _ _ (hK.1 (d + 1) 66 61 [.inr 43, .inr 42, .inl (v2 + 1), .inl v3, .inl v4] _ _ _ (hK.2.1 (d + 1) 66 2 [.inr 43, .inr 42, .inl (v2 + 1)] [.inl v3, .inl v4] [] σ Q (h)))
theorem bW_rise_62 {K : am_KT} (hK : am_C K) {d : Nat} {σ : am_S} {Q : am_Q} {v2 : Int} {r q : Nat} (hr : am_isW r) (hq : am_isD q) (h : Q (some 0) σ) : K (d + 1) 66 62 [.inr r, .inr q, .inl v2] [] σ Q := by
  rcases hr with rfl | rfl
  · rcases hq with rfl | rfl | rfl | rfl
    · exact hK.1 (d + 1) 66 62 [.inr 34, .inr 27, .inl v2] _ _ _ (hK.1 (d + 1) 66 63 _ _ _ _ (And.intro (Or.inl rfl) (h)))
    · exact hK.1 (d + 1) 66 62 [.inr 34, .inr 28, .inl v2] _ _ _ (hK.1 (d + 1) 66 63 _ _ _ _ (And.intro (Or.inl rfl) (h)))
    · exact hK.1 (d + 1) 66 62 [.inr 34, .inr 29, .inl v2] _ _ _ (hK.1 (d + 1) 66 63 _ _ _ _ (And.intro (Or.inl rfl) (h)))
    · exact hK.1 (d + 1) 66 62 [.inr 34, .inr 42, .inl v2] _ _ _ (hK.1 (d + 1) 66 63 _ _ _ _ (And.intro (Or.inl rfl) (h)))
  · rcases hq with rfl | rfl | rfl | rfl
    · exact hK.1 (d + 1) 66 62 [.inr 43, .inr 27, .inl v2] _ _ _ (hK.1 (d + 1) 66 63 _ _ _ _ (And.intro (Or.inl rfl) (h)))
    · exact hK.1 (d + 1) 66 62 [.inr 43, .inr 28, .inl v2] _ _ _ (hK.1 (d + 1) 66 63 _ _ _ _ (And.intro (Or.inl rfl) (h)))
    · exact hK.1 (d + 1) 66 62 [.inr 43, .inr 29, .inl v2] _ _ _ (hK.1 (d + 1) 66 63 _ _ _ _ (And.intro (Or.inl rfl) (h)))
    · exact hK.1 (d + 1) 66 62 [.inr 43, .inr 42, .inl v2] _ _ _ (hK.1 (d + 1) 66 63 _ _ _ _ (And.intro (Or.inl rfl) (h)))
-- 67: LetterDays$Web.sink
theorem bW_sink_0 {K : am_KT} (hK : am_C K) {d : Nat} {σ : am_S} {Q : am_Q} {r q : Nat} (hr : am_isW r) (hq : am_isD q) (h : K (d + 1) 67 2 [.inr r, .inr q, .inl 0] [] σ Q) : K (d + 1) 67 0 [.inr r, .inr q] [] σ Q := by
  rcases hr with rfl | rfl
  · rcases hq with rfl | rfl | rfl | rfl
    · exact hK.1 (d + 1) 67 0 [.inr 34, .inr 27] _ _ _ (hK.1 (d + 1) 67 1 _ _ _ _ (h))
    · exact hK.1 (d + 1) 67 0 [.inr 34, .inr 28] _ _ _ (hK.1 (d + 1) 67 1 _ _ _ _ (h))
    · exact hK.1 (d + 1) 67 0 [.inr 34, .inr 29] _ _ _ (hK.1 (d + 1) 67 1 _ _ _ _ (h))
    · exact hK.1 (d + 1) 67 0 [.inr 34, .inr 42] _ _ _ (hK.1 (d + 1) 67 1 _ _ _ _ (h))
  · rcases hq with rfl | rfl | rfl | rfl
    · exact hK.1 (d + 1) 67 0 [.inr 43, .inr 27] _ _ _ (hK.1 (d + 1) 67 1 _ _ _ _ (h))
    · exact hK.1 (d + 1) 67 0 [.inr 43, .inr 28] _ _ _ (hK.1 (d + 1) 67 1 _ _ _ _ (h))
    · exact hK.1 (d + 1) 67 0 [.inr 43, .inr 29] _ _ _ (hK.1 (d + 1) 67 1 _ _ _ _ (h))
    · exact hK.1 (d + 1) 67 0 [.inr 43, .inr 42] _ _ _ (hK.1 (d + 1) 67 1 _ _ _ _ (h))
theorem bW_sink_2 {K : am_KT} (hK : am_C K) {d : Nat} {σ : am_S} {Q : am_Q} {v2 : Int} {r q : Nat} (hr : am_isW r) (hq : am_isD q) (e0 : am_rng v2) (hT : 1601 ≤ v2 → K (d + 1) 67 51 [.inr r, .inr q, .inl v2] [] σ Q) (hF : v2 < 1601 → K (d + 1) 67 5 [.inr r, .inr q, .inl v2] [] σ Q) : K (d + 1) 67 2 [.inr r, .inr q, .inl v2] [] σ Q := by
  rcases hr with rfl | rfl
  · rcases hq with rfl | rfl | rfl | rfl
    · exact hK.1 (d + 1) 67 2 [.inr 34, .inr 27, .inl v2] _ _ _ (hK.1 (d + 1) 67 3 _ _ _ _ (hK.1 (d + 1) 67 4 _ _ _ _ (And.intro e0 (And.intro (And.intro (by decide) (by decide)) (And.intro (fun g => hT g) (fun g => hF g))))))
    · exact hK.1 (d + 1) 67 2 [.inr 34, .inr 28, .inl v2] _ _ _ (hK.1 (d + 1) 67 3 _ _ _ _ (hK.1 (d + 1) 67 4 _ _ _ _ (And.intro e0 (And.intro (And.intro (by decide) (by decide)) (And.intro (fun g => hT g) (fun g => hF g))))))
    · exact hK.1 (d + 1) 67 2 [.inr 34, .inr 29, .inl v2] _ _ _ (hK.1 (d + 1) 67 3 _ _ _ _ (hK.1 (d + 1) 67 4 _ _ _ _ (And.intro e0 (And.intro (And.intro (by decide) (by decide)) (And.intro (fun g => hT g) (fun g => hF g))))))
    · exact hK.1 (d + 1) 67 2 [.inr 34, .inr 42, .inl v2] _ _ _ (hK.1 (d + 1) 67 3 _ _ _ _ (hK.1 (d + 1) 67 4 _ _ _ _ (And.intro e0 (And.intro (And.intro (by decide) (by decide)) (And.intro (fun g => hT g) (fun g => hF g))))))
  · rcases hq with rfl | rfl | rfl | rfl
    · exact hK.1 (d + 1) 67 2 [.inr 43, .inr 27, .inl v2] _ _ _ (hK.1 (d + 1) 67 3 _ _ _ _ (hK.1 (d + 1) 67 4 _ _ _ _ (And.intro e0 (And.intro (And.intro (by decide) (by decide)) (And.intro (fun g => hT g) (fun g => hF g))))))
    · exact hK.1 (d + 1) 67 2 [.inr 43, .inr 28, .inl v2] _ _ _ (hK.1 (d + 1) 67 3 _ _ _ _ (hK.1 (d + 1) 67 4 _ _ _ _ (And.intro e0 (And.intro (And.intro (by decide) (by decide)) (And.intro (fun g => hT g) (fun g => hF g))))))
    · exact hK.1 (d + 1) 67 2 [.inr 43, .inr 29, .inl v2] _ _ _ (hK.1 (d + 1) 67 3 _ _ _ _ (hK.1 (d + 1) 67 4 _ _ _ _ (And.intro e0 (And.intro (And.intro (by decide) (by decide)) (And.intro (fun g => hT g) (fun g => hF g))))))
    · exact hK.1 (d + 1) 67 2 [.inr 43, .inr 42, .inl v2] _ _ _ (hK.1 (d + 1) 67 3 _ _ _ _ (hK.1 (d + 1) 67 4 _ _ _ _ (And.intro e0 (And.intro (And.intro (by decide) (by decide)) (And.intro (fun g => hT g) (fun g => hF g))))))
theorem bW_sink_5 {K : am_KT} (hK : am_C K) {d : Nat} {σ : am_S} {Q : am_Q} {v2 : Int} {r q : Nat} (hr : am_isW r) (hq : am_isD q) (h : K (d + 1) 67 9 [.inr r, .inr q, .inl v2, .inl 0, .inl 0] [] σ Q) : K (d + 1) 67 5 [.inr r, .inr q, .inl v2] [] σ Q := by
  rcases hr with rfl | rfl
  · rcases hq with rfl | rfl | rfl | rfl
    · exact hK.1 (d + 1) 67 5 [.inr 34, .inr 27, .inl v2] _ _ _ (hK.1 (d + 1) 67 6 _ _ _ _ (hK.1 (d + 1) 67 7 [.inr 34, .inr 27, .inl v2, .inl 0] _ _ _ (hK.1 (d + 1) 67 8 _ _ _ _ (h))))
    · exact hK.1 (d + 1) 67 5 [.inr 34, .inr 28, .inl v2] _ _ _ (hK.1 (d + 1) 67 6 _ _ _ _ (hK.1 (d + 1) 67 7 [.inr 34, .inr 28, .inl v2, .inl 0] _ _ _ (hK.1 (d + 1) 67 8 _ _ _ _ (h))))
    · exact hK.1 (d + 1) 67 5 [.inr 34, .inr 29, .inl v2] _ _ _ (hK.1 (d + 1) 67 6 _ _ _ _ (hK.1 (d + 1) 67 7 [.inr 34, .inr 29, .inl v2, .inl 0] _ _ _ (hK.1 (d + 1) 67 8 _ _ _ _ (h))))
    · exact hK.1 (d + 1) 67 5 [.inr 34, .inr 42, .inl v2] _ _ _ (hK.1 (d + 1) 67 6 _ _ _ _ (hK.1 (d + 1) 67 7 [.inr 34, .inr 42, .inl v2, .inl 0] _ _ _ (hK.1 (d + 1) 67 8 _ _ _ _ (h))))
  · rcases hq with rfl | rfl | rfl | rfl
    · exact hK.1 (d + 1) 67 5 [.inr 43, .inr 27, .inl v2] _ _ _ (hK.1 (d + 1) 67 6 _ _ _ _ (hK.1 (d + 1) 67 7 [.inr 43, .inr 27, .inl v2, .inl 0] _ _ _ (hK.1 (d + 1) 67 8 _ _ _ _ (h))))
    · exact hK.1 (d + 1) 67 5 [.inr 43, .inr 28, .inl v2] _ _ _ (hK.1 (d + 1) 67 6 _ _ _ _ (hK.1 (d + 1) 67 7 [.inr 43, .inr 28, .inl v2, .inl 0] _ _ _ (hK.1 (d + 1) 67 8 _ _ _ _ (h))))
    · exact hK.1 (d + 1) 67 5 [.inr 43, .inr 29, .inl v2] _ _ _ (hK.1 (d + 1) 67 6 _ _ _ _ (hK.1 (d + 1) 67 7 [.inr 43, .inr 29, .inl v2, .inl 0] _ _ _ (hK.1 (d + 1) 67 8 _ _ _ _ (h))))
    · exact hK.1 (d + 1) 67 5 [.inr 43, .inr 42, .inl v2] _ _ _ (hK.1 (d + 1) 67 6 _ _ _ _ (hK.1 (d + 1) 67 7 [.inr 43, .inr 42, .inl v2, .inl 0] _ _ _ (hK.1 (d + 1) 67 8 _ _ _ _ (h))))
theorem bW_sink_9 {K : am_KT} (hK : am_C K) {d : Nat} {σ : am_S} {Q : am_Q} {v2 v3 v4 : Int} {r q : Nat} (hr : am_isW r) (hq : am_isD q) (e0 : am_rng v4) (e1 : am_rng (σ r 5)) (hT : σ r 5 ≤ v4 → K (d + 1) 67 46 [.inr r, .inr q, .inl v2, .inl v3, .inl v4] [] σ Q) (hF : v4 < σ r 5 → K (d + 1) 67 13 [.inr r, .inr q, .inl v2, .inl v3, .inl v4] [] σ Q) : K (d + 1) 67 9 [.inr r, .inr q, .inl v2, .inl v3, .inl v4] [] σ Q := by
  rcases hr with rfl | rfl
  · rcases hq with rfl | rfl | rfl | rfl
    · exact hK.1 (d + 1) 67 9 [.inr 34, .inr 27, .inl v2, .inl v3, .inl v4] _ _ _ (hK.1 (d + 1) 67 10 _ _ _ _ (hK.1 (d + 1) 67 11 _ _ _ _ (hK.1 (d + 1) 67 12 _ _ _ _ (And.intro e0 (And.intro e1 (And.intro (fun g => hT g) (fun g => hF g)))))))
    · exact hK.1 (d + 1) 67 9 [.inr 34, .inr 28, .inl v2, .inl v3, .inl v4] _ _ _ (hK.1 (d + 1) 67 10 _ _ _ _ (hK.1 (d + 1) 67 11 _ _ _ _ (hK.1 (d + 1) 67 12 _ _ _ _ (And.intro e0 (And.intro e1 (And.intro (fun g => hT g) (fun g => hF g)))))))
    · exact hK.1 (d + 1) 67 9 [.inr 34, .inr 29, .inl v2, .inl v3, .inl v4] _ _ _ (hK.1 (d + 1) 67 10 _ _ _ _ (hK.1 (d + 1) 67 11 _ _ _ _ (hK.1 (d + 1) 67 12 _ _ _ _ (And.intro e0 (And.intro e1 (And.intro (fun g => hT g) (fun g => hF g)))))))
    · exact hK.1 (d + 1) 67 9 [.inr 34, .inr 42, .inl v2, .inl v3, .inl v4] _ _ _ (hK.1 (d + 1) 67 10 _ _ _ _ (hK.1 (d + 1) 67 11 _ _ _ _ (hK.1 (d + 1) 67 12 _ _ _ _ (And.intro e0 (And.intro e1 (And.intro (fun g => hT g) (fun g => hF g)))))))
  · rcases hq with rfl | rfl | rfl | rfl
    · exact hK.1 (d + 1) 67 9 [.inr 43, .inr 27, .inl v2, .inl v3, .inl v4] _ _ _ (hK.1 (d + 1) 67 10 _ _ _ _ (hK.1 (d + 1) 67 11 _ _ _ _ (hK.1 (d + 1) 67 12 _ _ _ _ (And.intro e0 (And.intro e1 (And.intro (fun g => hT g) (fun g => hF g)))))))
    · exact hK.1 (d + 1) 67 9 [.inr 43, .inr 28, .inl v2, .inl v3, .inl v4] _ _ _ (hK.1 (d + 1) 67 10 _ _ _ _ (hK.1 (d + 1) 67 11 _ _ _ _ (hK.1 (d + 1) 67 12 _ _ _ _ (And.intro e0 (And.intro e1 (And.intro (fun g => hT g) (fun g => hF g)))))))
    · exact hK.1 (d + 1) 67 9 [.inr 43, .inr 29, .inl v2, .inl v3, .inl v4] _ _ _ (hK.1 (d + 1) 67 10 _ _ _ _ (hK.1 (d + 1) 67 11 _ _ _ _ (hK.1 (d + 1) 67 12 _ _ _ _ (And.intro e0 (And.intro e1 (And.intro (fun g => hT g) (fun g => hF g)))))))
    · exact hK.1 (d + 1) 67 9 [.inr 43, .inr 42, .inl v2, .inl v3, .inl v4] _ _ _ (hK.1 (d + 1) 67 10 _ _ _ _ (hK.1 (d + 1) 67 11 _ _ _ _ (hK.1 (d + 1) 67 12 _ _ _ _ (And.intro e0 (And.intro e1 (And.intro (fun g => hT g) (fun g => hF g)))))))
theorem bW_sink_13 {K : am_KT} (hK : am_C K) {d : Nat} {σ : am_S} {Q : am_Q} {v2 v3 v4 : Int} {r q : Nat} (hr : am_isW r) (hq : am_isD q) (e0 : 0 ≤ v4 ∧ v4 < 20) (e1 : 0 ≤ v4 ∧ v4 < 20) (e2 : 0 ≤ σ (r + 5) v4 ∧ σ (r + 5) v4 < 8) (e3 : 0 ≤ v4 ∧ v4 < 20) (e4 : 0 ≤ σ (r + 4) v4 ∧ σ (r + 4) v4 < 8) (e5 : am_rng (σ q (σ (r + 4) v4))) (e6 : am_rng ((σ q (σ (r + 5) v4)) - (σ (r + 6) v4))) (hT : σ q (σ (r + 4) v4) ≤ (σ q (σ (r + 5) v4)) - (σ (r + 6) v4) → K (d + 1) 67 44 [.inr r, .inr q, .inl v2, .inl v3, .inl v4, .inl (σ (r + 4) v4), .inl ((σ q (σ (r + 5) v4)) - (σ (r + 6) v4))] [] σ Q) (hF : (σ q (σ (r + 5) v4)) - (σ (r + 6) v4) < σ q (σ (r + 4) v4) → K (d + 1) 67 35 [.inr r, .inr q, .inl v2, .inl v3, .inl v4, .inl (σ (r + 4) v4), .inl ((σ q (σ (r + 5) v4)) - (σ (r + 6) v4))] [] σ Q) : K (d + 1) 67 13 [.inr r, .inr q, .inl v2, .inl v3, .inl v4] [] σ Q := by
  rcases hr with rfl | rfl
  · rcases hq with rfl | rfl | rfl | rfl
    · exact hK.1 (d + 1) 67 13 [.inr 34, .inr 27, .inl v2, .inl v3, .inl v4] _ _ _ (hK.1 (d + 1) 67 14 _ _ _ _ (hK.1 (d + 1) 67 15 _ _ _ _ (hK.1 (d + 1) 67 16 _ _ _ _ (And.intro e0 (hK.1 (d + 1) 67 17 _ _ _ _ (hK.1 (d + 1) 67 18 [.inr 34, .inr 27, .inl v2, .inl v3, .inl v4, .inl (σ (34 + 4) v4)] _ _ _ (hK.1 (d + 1) 67 19 _ _ _ _ (hK.1 (d + 1) 67 20 _ _ _ _ (hK.1 (d + 1) 67 21 _ _ _ _ (hK.1 (d + 1) 67 22 _ _ _ _ (And.intro e1 (hK.1 (d + 1) 67 23 _ _ _ _ (And.intro e2 (hK.1 (d + 1) 67 24 _ _ _ _ (hK.1 (d + 1) 67 25 _ _ _ _ (hK.1 (d + 1) 67 26 _ _ _ _ (hK.1 (d + 1) 67 27 _ _ _ _ (And.intro e3 (hK.1 (d + 1) 67 28 _ _ _ _ (hK.1 (d + 1) 67 29 _ _ _ _ (hK.1 (d + 1) 67 30 [.inr 34, .inr 27, .inl v2, .inl v3, .inl v4, .inl (σ (34 + 4) v4), .inl ((σ 27 (σ (34 + 5) v4)) - (σ (34 + 6) v4))] _ _ _ (hK.1 (d + 1) 67 31 _ _ _ _ (hK.1 (d + 1) 67 32 _ _ _ _ (And.intro e4 (hK.1 (d + 1) 67 33 _ _ _ _ (hK.1 (d + 1) 67 34 _ _ _ _ (And.intro e5 (And.intro e6 (And.intro (fun g => hT g) (fun g => hF g))))))))))))))))))))))))))))))
    · exact hK.1 (d + 1) 67 13 [.inr 34, .inr 28, .inl v2, .inl v3, .inl v4] _ _ _ (hK.1 (d + 1) 67 14 _ _ _ _ (hK.1 (d + 1) 67 15 _ _ _ _ (hK.1 (d + 1) 67 16 _ _ _ _ (And.intro e0 (hK.1 (d + 1) 67 17 _ _ _ _ (hK.1 (d + 1) 67 18 [.inr 34, .inr 28, .inl v2, .inl v3, .inl v4, .inl (σ (34 + 4) v4)] _ _ _ (hK.1 (d + 1) 67 19 _ _ _ _ (hK.1 (d + 1) 67 20 _ _ _ _ (hK.1 (d + 1) 67 21 _ _ _ _ (hK.1 (d + 1) 67 22 _ _ _ _ (And.intro e1 (hK.1 (d + 1) 67 23 _ _ _ _ (And.intro e2 (hK.1 (d + 1) 67 24 _ _ _ _ (hK.1 (d + 1) 67 25 _ _ _ _ (hK.1 (d + 1) 67 26 _ _ _ _ (hK.1 (d + 1) 67 27 _ _ _ _ (And.intro e3 (hK.1 (d + 1) 67 28 _ _ _ _ (hK.1 (d + 1) 67 29 _ _ _ _ (hK.1 (d + 1) 67 30 [.inr 34, .inr 28, .inl v2, .inl v3, .inl v4, .inl (σ (34 + 4) v4), .inl ((σ 28 (σ (34 + 5) v4)) - (σ (34 + 6) v4))] _ _ _ (hK.1 (d + 1) 67 31 _ _ _ _ (hK.1 (d + 1) 67 32 _ _ _ _ (And.intro e4 (hK.1 (d + 1) 67 33 _ _ _ _ (hK.1 (d + 1) 67 34 _ _ _ _ (And.intro e5 (And.intro e6 (And.intro (fun g => hT g) (fun g => hF g))))))))))))))))))))))))))))))
    · exact hK.1 (d + 1) 67 13 [.inr 34, .inr 29, .inl v2, .inl v3, .inl v4] _ _ _ (hK.1 (d + 1) 67 14 _ _ _ _ (hK.1 (d + 1) 67 15 _ _ _ _ (hK.1 (d + 1) 67 16 _ _ _ _ (And.intro e0 (hK.1 (d + 1) 67 17 _ _ _ _ (hK.1 (d + 1) 67 18 [.inr 34, .inr 29, .inl v2, .inl v3, .inl v4, .inl (σ (34 + 4) v4)] _ _ _ (hK.1 (d + 1) 67 19 _ _ _ _ (hK.1 (d + 1) 67 20 _ _ _ _ (hK.1 (d + 1) 67 21 _ _ _ _ (hK.1 (d + 1) 67 22 _ _ _ _ (And.intro e1 (hK.1 (d + 1) 67 23 _ _ _ _ (And.intro e2 (hK.1 (d + 1) 67 24 _ _ _ _ (hK.1 (d + 1) 67 25 _ _ _ _ (hK.1 (d + 1) 67 26 _ _ _ _ (hK.1 (d + 1) 67 27 _ _ _ _ (And.intro e3 (hK.1 (d + 1) 67 28 _ _ _ _ (hK.1 (d + 1) 67 29 _ _ _ _ (hK.1 (d + 1) 67 30 [.inr 34, .inr 29, .inl v2, .inl v3, .inl v4, .inl (σ (34 + 4) v4), .inl ((σ 29 (σ (34 + 5) v4)) - (σ (34 + 6) v4))] _ _ _ (hK.1 (d + 1) 67 31 _ _ _ _ (hK.1 (d + 1) 67 32 _ _ _ _ (And.intro e4 (hK.1 (d + 1) 67 33 _ _ _ _ (hK.1 (d + 1) 67 34 _ _ _ _ (And.intro e5 (And.intro e6 (And.intro (fun g => hT g) (fun g => hF g))))))))))))))))))))))))))))))
    · exact hK.1 (d + 1) 67 13 [.inr 34, .inr 42, .inl v2, .inl v3, .inl v4] _ _ _ (hK.1 (d + 1) 67 14 _ _ _ _ (hK.1 (d + 1) 67 15 _ _ _ _ (hK.1 (d + 1) 67 16 _ _ _ _ (And.intro e0 (hK.1 (d + 1) 67 17 _ _ _ _ (hK.1 (d + 1) 67 18 [.inr 34, .inr 42, .inl v2, .inl v3, .inl v4, .inl (σ (34 + 4) v4)] _ _ _ (hK.1 (d + 1) 67 19 _ _ _ _ (hK.1 (d + 1) 67 20 _ _ _ _ (hK.1 (d + 1) 67 21 _ _ _ _ (hK.1 (d + 1) 67 22 _ _ _ _ (And.intro e1 (hK.1 (d + 1) 67 23 _ _ _ _ (And.intro e2 (hK.1 (d + 1) 67 24 _ _ _ _ (hK.1 (d + 1) 67 25 _ _ _ _ (hK.1 (d + 1) 67 26 _ _ _ _ (hK.1 (d + 1) 67 27 _ _ _ _ (And.intro e3 (hK.1 (d + 1) 67 28 _ _ _ _ (hK.1 (d + 1) 67 29 _ _ _ _ (hK.1 (d + 1) 67 30 [.inr 34, .inr 42, .inl v2, .inl v3, .inl v4, .inl (σ (34 + 4) v4), .inl ((σ 42 (σ (34 + 5) v4)) - (σ (34 + 6) v4))] _ _ _ (hK.1 (d + 1) 67 31 _ _ _ _ (hK.1 (d + 1) 67 32 _ _ _ _ (And.intro e4 (hK.1 (d + 1) 67 33 _ _ _ _ (hK.1 (d + 1) 67 34 _ _ _ _ (And.intro e5 (And.intro e6 (And.intro (fun g => hT g) (fun g => hF g))))))))))))))))))))))))))))))
  · rcases hq with rfl | rfl | rfl | rfl
    · exact hK.1 (d + 1) 67 13 [.inr 43, .inr 27, .inl v2, .inl v3, .inl v4] _ _ _ (hK.1 (d + 1) 67 14 _ _ _ _ (hK.1 (d + 1) 67 15 _ _ _ _ (hK.1 (d + 1) 67 16 _ _ _ _ (And.intro e0 (hK.1 (d + 1) 67 17 _ _ _ _ (hK.1 (d + 1) 67 18 [.inr 43, .inr 27, .inl v2, .inl v3, .inl v4, .inl (σ (43 + 4) v4)] _ _ _ (hK.1 (d + 1) 67 19 _ _ _ _ (hK.1 (d + 1) 67 20 _ _ _ _ (hK.1 (d + 1) 67 21 _ _ _ _ (hK.1 (d + 1) 67 22 _ _ _ _ (And.intro e1 (hK.1 (d + 1) 67 23 _ _ _ _ (And.intro e2 (hK.1 (d + 1) 67 24 _ _ _ _ (hK.1 (d + 1) 67 25 _ _ _ _ (hK.1 (d + 1) 67 26 _ _ _ _ (hK.1 (d + 1) 67 27 _ _ _ _ (And.intro e3 (hK.1 (d + 1) 67 28 _ _ _ _ (hK.1 (d + 1) 67 29 _ _ _ _ (hK.1 (d + 1) 67 30 [.inr 43, .inr 27, .inl v2, .inl v3, .inl v4, .inl (σ (43 + 4) v4), .inl ((σ 27 (σ (43 + 5) v4)) - (σ (43 + 6) v4))] _ _ _ (hK.1 (d + 1) 67 31 _ _ _ _ (hK.1 (d + 1) 67 32 _ _ _ _ (And.intro e4 (hK.1 (d + 1) 67 33 _ _ _ _ (hK.1 (d + 1) 67 34 _ _ _ _ (And.intro e5 (And.intro e6 (And.intro (fun g => hT g) (fun g => hF g))))))))))))))))))))))))))))))
    · exact hK.1 (d + 1) 67 13 [.inr 43, .inr 28, .inl v2, .inl v3, .inl v4] _ _ _ (hK.1 (d + 1) 67 14 _ _ _ _ (hK.1 (d + 1) 67 15 _ _ _ _ (hK.1 (d + 1) 67 16 _ _ _ _ (And.intro e0 (hK.1 (d + 1) 67 17 _ _ _ _ (hK.1 (d + 1) 67 18 [.inr 43, .inr 28, .inl v2, .inl v3, .inl v4, .inl (σ (43 + 4) v4)] _ _ _ (hK.1 (d + 1) 67 19 _ _ _ _ (hK.1 (d + 1) 67 20 _ _ _ _ (hK.1 (d + 1) 67 21 _ _ _ _ (hK.1 (d + 1) 67 22 _ _ _ _ (And.intro e1 (hK.1 (d + 1) 67 23 _ _ _ _ (And.intro e2 (hK.1 (d + 1) 67 24 _ _ _ _ (hK.1 (d + 1) 67 25 _ _ _ _ (hK.1 (d + 1) 67 26 _ _ _ _ (hK.1 (d + 1) 67 27 _ _ _ _ (And.intro e3 (hK.1 (d + 1) 67 28 _ _ _ _ (hK.1 (d + 1) 67 29 _ _ _ _ (hK.1 (d + 1) 67 30 [.inr 43, .inr 28, .inl v2, .inl v3, .inl v4, .inl (σ (43 + 4) v4), .inl ((σ 28 (σ (43 + 5) v4)) - (σ (43 + 6) v4))] _ _ _ (hK.1 (d + 1) 67 31 _ _ _ _ (hK.1 (d + 1) 67 32 _ _ _ _ (And.intro e4 (hK.1 (d + 1) 67 33 _ _ _ _ (hK.1 (d + 1) 67 34 _ _ _ _ (And.intro e5 (And.intro e6 (And.intro (fun g => hT g) (fun g => hF g))))))))))))))))))))))))))))))
    · exact hK.1 (d + 1) 67 13 [.inr 43, .inr 29, .inl v2, .inl v3, .inl v4] _ _ _ (hK.1 (d + 1) 67 14 _ _ _ _ (hK.1 (d + 1) 67 15 _ _ _ _ (hK.1 (d + 1) 67 16 _ _ _ _ (And.intro e0 (hK.1 (d + 1) 67 17 _ _ _ _ (hK.1 (d + 1) 67 18 [.inr 43, .inr 29, .inl v2, .inl v3, .inl v4, .inl (σ (43 + 4) v4)] _ _ _ (hK.1 (d + 1) 67 19 _ _ _ _ (hK.1 (d + 1) 67 20 _ _ _ _ (hK.1 (d + 1) 67 21 _ _ _ _ (hK.1 (d + 1) 67 22 _ _ _ _ (And.intro e1 (hK.1 (d + 1) 67 23 _ _ _ _ (And.intro e2 (hK.1 (d + 1) 67 24 _ _ _ _ (hK.1 (d + 1) 67 25 _ _ _ _ (hK.1 (d + 1) 67 26 _ _ _ _ (hK.1 (d + 1) 67 27 _ _ _ _ (And.intro e3 (hK.1 (d + 1) 67 28 _ _ _ _ (hK.1 (d + 1) 67 29 _ _ _ _ (hK.1 (d + 1) 67 30 [.inr 43, .inr 29, .inl v2, .inl v3, .inl v4, .inl (σ (43 + 4) v4), .inl ((σ 29 (σ (43 + 5) v4)) - (σ (43 + 6) v4))] _ _ _ (hK.1 (d + 1) 67 31 _ _ _ _ (hK.1 (d + 1) 67 32 _ _ _ _ (And.intro e4 (hK.1 (d + 1) 67 33 _ _ _ _ (hK.1 (d + 1) 67 34 _ _ _ _ (And.intro e5 (And.intro e6 (And.intro (fun g => hT g) (fun g => hF g))))))))))))))))))))))))))))))
    · exact hK.1 (d + 1) 67 13 [.inr 43, .inr 42, .inl v2, .inl v3, .inl v4] _ _ _ (hK.1 (d + 1) 67 14 _ _ _ _ (hK.1 (d + 1) 67 15 _ _ _ _ (hK.1 (d + 1) 67 16 _ _ _ _ (And.intro e0 (hK.1 (d + 1) 67 17 _ _ _ _ (hK.1 (d + 1) 67 18 [.inr 43, .inr 42, .inl v2, .inl v3, .inl v4, .inl (σ (43 + 4) v4)] _ _ _ (hK.1 (d + 1) 67 19 _ _ _ _ (hK.1 (d + 1) 67 20 _ _ _ _ (hK.1 (d + 1) 67 21 _ _ _ _ (hK.1 (d + 1) 67 22 _ _ _ _ (And.intro e1 (hK.1 (d + 1) 67 23 _ _ _ _ (And.intro e2 (hK.1 (d + 1) 67 24 _ _ _ _ (hK.1 (d + 1) 67 25 _ _ _ _ (hK.1 (d + 1) 67 26 _ _ _ _ (hK.1 (d + 1) 67 27 _ _ _ _ (And.intro e3 (hK.1 (d + 1) 67 28 _ _ _ _ (hK.1 (d + 1) 67 29 _ _ _ _ (hK.1 (d + 1) 67 30 [.inr 43, .inr 42, .inl v2, .inl v3, .inl v4, .inl (σ (43 + 4) v4), .inl ((σ 42 (σ (43 + 5) v4)) - (σ (43 + 6) v4))] _ _ _ (hK.1 (d + 1) 67 31 _ _ _ _ (hK.1 (d + 1) 67 32 _ _ _ _ (And.intro e4 (hK.1 (d + 1) 67 33 _ _ _ _ (hK.1 (d + 1) 67 34 _ _ _ _ (And.intro e5 (And.intro e6 (And.intro (fun g => hT g) (fun g => hF g))))))))))))))))))))))))))))))
theorem bW_sink_35 {K : am_KT} (hK : am_C K) {d : Nat} {σ : am_S} {Q : am_Q} {v2 v3 v4 v5 v6 : Int} {r q : Nat} (hr : am_isW r) (hq : am_isD q) (h : K d 69 0 [.inr r, .inl v5, .inl v6] [] σ (fun o σ1 => K (d + 1) 67 41 [.inr r, .inr q, .inl v2, .inl v3, .inl v4, .inl v5, .inl v6] (am_o o ++ [.inl v5, .inr q]) σ1 Q)) : K (d + 1) 67 35 [.inr r, .inr q, .inl v2, .inl v3, .inl v4, .inl v5, .inl v6] [] σ Q := by
  rcases hr with rfl | rfl
  · rcases hq with rfl | rfl | rfl | rfl
    · exact hK.1 (d + 1) 67 35 [.inr 34, .inr 27, .inl v2, .inl v3, .inl v4, .inl v5, .inl v6] _ _ _ (hK.1 (d + 1) 67 36 _ _ _ _ (hK.1 (d + 1) 67 37 _ _ _ _ (hK.1 (d + 1) 67 38 _ _ _ _ (hK.1 (d + 1) 67 39 _ _ _ _ (hK.1 (d + 1) 67 40 _ _ _ _ (h))))))
    · exact hK.1 (d + 1) 67 35 [.inr 34, .inr 28, .inl v2, .inl v3, .inl v4, .inl v5, .inl v6] _ _ _ (hK.1 (d + 1) 67 36 _ _ _ _ (hK.1 (d + 1) 67 37 _ _ _ _ (hK.1 (d + 1) 67 38 _ _ _ _ (hK.1 (d + 1) 67 39 _ _ _ _ (hK.1 (d + 1) 67 40 _ _ _ _ (h))))))
    · exact hK.1 (d + 1) 67 35 [.inr 34, .inr 29, .inl v2, .inl v3, .inl v4, .inl v5, .inl v6] _ _ _ (hK.1 (d + 1) 67 36 _ _ _ _ (hK.1 (d + 1) 67 37 _ _ _ _ (hK.1 (d + 1) 67 38 _ _ _ _ (hK.1 (d + 1) 67 39 _ _ _ _ (hK.1 (d + 1) 67 40 _ _ _ _ (h))))))
    · exact hK.1 (d + 1) 67 35 [.inr 34, .inr 42, .inl v2, .inl v3, .inl v4, .inl v5, .inl v6] _ _ _ (hK.1 (d + 1) 67 36 _ _ _ _ (hK.1 (d + 1) 67 37 _ _ _ _ (hK.1 (d + 1) 67 38 _ _ _ _ (hK.1 (d + 1) 67 39 _ _ _ _ (hK.1 (d + 1) 67 40 _ _ _ _ (h))))))
  · rcases hq with rfl | rfl | rfl | rfl
    · exact hK.1 (d + 1) 67 35 [.inr 43, .inr 27, .inl v2, .inl v3, .inl v4, .inl v5, .inl v6] _ _ _ (hK.1 (d + 1) 67 36 _ _ _ _ (hK.1 (d + 1) 67 37 _ _ _ _ (hK.1 (d + 1) 67 38 _ _ _ _ (hK.1 (d + 1) 67 39 _ _ _ _ (hK.1 (d + 1) 67 40 _ _ _ _ (h))))))
    · exact hK.1 (d + 1) 67 35 [.inr 43, .inr 28, .inl v2, .inl v3, .inl v4, .inl v5, .inl v6] _ _ _ (hK.1 (d + 1) 67 36 _ _ _ _ (hK.1 (d + 1) 67 37 _ _ _ _ (hK.1 (d + 1) 67 38 _ _ _ _ (hK.1 (d + 1) 67 39 _ _ _ _ (hK.1 (d + 1) 67 40 _ _ _ _ (h))))))
    · exact hK.1 (d + 1) 67 35 [.inr 43, .inr 29, .inl v2, .inl v3, .inl v4, .inl v5, .inl v6] _ _ _ (hK.1 (d + 1) 67 36 _ _ _ _ (hK.1 (d + 1) 67 37 _ _ _ _ (hK.1 (d + 1) 67 38 _ _ _ _ (hK.1 (d + 1) 67 39 _ _ _ _ (hK.1 (d + 1) 67 40 _ _ _ _ (h))))))
    · exact hK.1 (d + 1) 67 35 [.inr 43, .inr 42, .inl v2, .inl v3, .inl v4, .inl v5, .inl v6] _ _ _ (hK.1 (d + 1) 67 36 _ _ _ _ (hK.1 (d + 1) 67 37 _ _ _ _ (hK.1 (d + 1) 67 38 _ _ _ _ (hK.1 (d + 1) 67 39 _ _ _ _ (hK.1 (d + 1) 67 40 _ _ _ _ (h))))))
theorem bW_sink_41 {K : am_KT} (hK : am_C K) {d : Nat} {σ : am_S} {Q : am_Q} {v2 v3 v4 v5 v6 s0 s1 : Int} {r q : Nat} (hr : am_isW r) (hq : am_isD q) (e0 : 0 ≤ s1 ∧ s1 < 8) (h : K (d + 1) 67 44 [.inr r, .inr q, .inl v2, .inl 1, .inl v4, .inl v5, .inl v6] [] (am_us σ q s1 s0) Q) : K (d + 1) 67 41 [.inr r, .inr q, .inl v2, .inl v3, .inl v4, .inl v5, .inl v6] [.inl s0, .inl s1, .inr q] σ Q := by
  rcases hr with rfl | rfl
  · rcases hq with rfl | rfl | rfl | rfl
    · exact hK.1 (d + 1) 67 41 [.inr 34, .inr 27, .inl v2, .inl v3, .inl v4, .inl v5, .inl v6] _ _ _ (And.intro e0 (hK.1 (d + 1) 67 42 _ _ _ _ (hK.1 (d + 1) 67 43 _ _ _ _ (h))))
    · exact hK.1 (d + 1) 67 41 [.inr 34, .inr 28, .inl v2, .inl v3, .inl v4, .inl v5, .inl v6] _ _ _ (And.intro e0 (hK.1 (d + 1) 67 42 _ _ _ _ (hK.1 (d + 1) 67 43 _ _ _ _ (h))))
    · exact hK.1 (d + 1) 67 41 [.inr 34, .inr 29, .inl v2, .inl v3, .inl v4, .inl v5, .inl v6] _ _ _ (And.intro e0 (hK.1 (d + 1) 67 42 _ _ _ _ (hK.1 (d + 1) 67 43 _ _ _ _ (h))))
    · exact hK.1 (d + 1) 67 41 [.inr 34, .inr 42, .inl v2, .inl v3, .inl v4, .inl v5, .inl v6] _ _ _ (And.intro e0 (hK.1 (d + 1) 67 42 _ _ _ _ (hK.1 (d + 1) 67 43 _ _ _ _ (h))))
  · rcases hq with rfl | rfl | rfl | rfl
    · exact hK.1 (d + 1) 67 41 [.inr 43, .inr 27, .inl v2, .inl v3, .inl v4, .inl v5, .inl v6] _ _ _ (And.intro e0 (hK.1 (d + 1) 67 42 _ _ _ _ (hK.1 (d + 1) 67 43 _ _ _ _ (h))))
    · exact hK.1 (d + 1) 67 41 [.inr 43, .inr 28, .inl v2, .inl v3, .inl v4, .inl v5, .inl v6] _ _ _ (And.intro e0 (hK.1 (d + 1) 67 42 _ _ _ _ (hK.1 (d + 1) 67 43 _ _ _ _ (h))))
    · exact hK.1 (d + 1) 67 41 [.inr 43, .inr 29, .inl v2, .inl v3, .inl v4, .inl v5, .inl v6] _ _ _ (And.intro e0 (hK.1 (d + 1) 67 42 _ _ _ _ (hK.1 (d + 1) 67 43 _ _ _ _ (h))))
    · exact hK.1 (d + 1) 67 41 [.inr 43, .inr 42, .inl v2, .inl v3, .inl v4, .inl v5, .inl v6] _ _ _ (And.intro e0 (hK.1 (d + 1) 67 42 _ _ _ _ (hK.1 (d + 1) 67 43 _ _ _ _ (h))))
theorem bW_sink_44 {K : am_KT} (hK : am_C K) {d : Nat} {σ : am_S} {Q : am_Q} {v2 v3 v4 v5 v6 : Int} {r q : Nat} (hr : am_isW r) (hq : am_isD q) (h : K (d + 1) 67 9 [.inr r, .inr q, .inl v2, .inl v3, .inl (v4 + 1)] [] σ Q) : K (d + 1) 67 44 [.inr r, .inr q, .inl v2, .inl v3, .inl v4, .inl v5, .inl v6] [] σ Q := by
  rcases hr with rfl | rfl
  · rcases hq with rfl | rfl | rfl | rfl
    · exact hK.1 (d + 1) 67 44 [.inr 34, .inr 27, .inl v2, .inl v3, .inl v4, .inl v5, .inl v6] _ _ _ (hK.1 (d + 1) 67 45 [.inr 34, .inr 27, .inl v2, .inl v3, .inl (v4 + 1), .inl v5, .inl v6] _ _ _ (hK.2.1 (d + 1) 67 9 [.inr 34, .inr 27, .inl v2, .inl v3, .inl (v4 + 1)] [.inl v5, .inl v6] [] σ Q (h)))
    · exact hK.1 (d + 1) 67 44 [.inr 34, .inr 28, .inl v2, .inl v3, .inl v4, .inl v5, .inl v6] _ _ _ (hK.1 (d + 1) 67 45 [.inr 34, .inr 28, .inl v2, .inl v3, .inl (v4 + 1), .inl v5, .inl v6] _ _ _ (hK.2.1 (d + 1) 67 9 [.inr 34, .inr 28, .inl v2, .inl v3, .inl (v4 + 1)] [.inl v5, .inl v6] [] σ Q (h)))
    · exact hK.1 (d + 1) 67 44 [.inr 34, .inr 29, .inl v2, .inl v3, .inl v4, .inl v5, .inl v6] _ _ _ (hK.1 (d + 1) 67 45 [.inr 34, .inr 29, .inl v2, .inl v3, .inl (v4 + 1), .inl v5, .inl v6] _ _ _ (hK.2.1 (d + 1) 67 9 [.inr 34, .inr 29, .inl v2, .inl v3, .inl (v4 + 1)] [.inl v5, .inl v6] [] σ Q (h)))
    · exact hK.1 (d + 1) 67 44 [.inr 34, .inr 42, .inl v2, .inl v3, .inl v4, .inl v5, .inl v6] _ _ _ (hK.1 (d + 1) 67 45 [.inr 34, .inr 42, .inl v2, .inl v3, .inl (v4 + 1), .inl v5, .inl v6] _ _ _ (hK.2.1 (d + 1) 67 9 [.inr 34, .inr 42, .inl v2, .inl v3, .inl (v4 + 1)] [.inl v5, .inl v6] [] σ Q (h)))
  · rcases hq with rfl | rfl | rfl | rfl
    · exact hK.1 (d + 1) 67 44 [.inr 43, .inr 27, .inl v2, .inl v3, .inl v4, .inl v5, .inl v6] _ _ _ (hK.1 (d + 1) 67 45 [.inr 43, .inr 27, .inl v2, .inl v3, .inl (v4 + 1), .inl v5, .inl v6] _ _ _ (hK.2.1 (d + 1) 67 9 [.inr 43, .inr 27, .inl v2, .inl v3, .inl (v4 + 1)] [.inl v5, .inl v6] [] σ Q (h)))
    · exact hK.1 (d + 1) 67 44 [.inr 43, .inr 28, .inl v2, .inl v3, .inl v4, .inl v5, .inl v6] _ _ _ (hK.1 (d + 1) 67 45 [.inr 43, .inr 28, .inl v2, .inl v3, .inl (v4 + 1), .inl v5, .inl v6] _ _ _ (hK.2.1 (d + 1) 67 9 [.inr 43, .inr 28, .inl v2, .inl v3, .inl (v4 + 1)] [.inl v5, .inl v6] [] σ Q (h)))
    · exact hK.1 (d + 1) 67 44 [.inr 43, .inr 29, .inl v2, .inl v3, .inl v4, .inl v5, .inl v6] _ _ _ (hK.1 (d + 1) 67 45 [.inr 43, .inr 29, .inl v2, .inl v3, .inl (v4 + 1), .inl v5, .inl v6] _ _ _ (hK.2.1 (d + 1) 67 9 [.inr 43, .inr 29, .inl v2, .inl v3, .inl (v4 + 1)] [.inl v5, .inl v6] [] σ Q (h)))
    · exact hK.1 (d + 1) 67 44 [.inr 43, .inr 42, .inl v2, .inl v3, .inl v4, .inl v5, .inl v6] _ _ _ (hK.1 (d + 1) 67 45 [.inr 43, .inr 42, .inl v2, .inl v3, .inl (v4 + 1), .inl v5, .inl v6] _ _ _ (hK.2.1 (d + 1) 67 9 [.inr 43, .inr 42, .inl v2, .inl v3, .inl (v4 + 1)] [.inl v5, .inl v6] [] σ Q (h)))
theorem bW_sink_46 {K : am_KT} (hK : am_C K) {d : Nat} {σ : am_S} {Q : am_Q} {v2 v3 v4 : Int} {r q : Nat} (hr : am_isW r) (hq : am_isD q) (e0 : am_rng v3) (hT : v3 ≠ 0 → K (d + 1) 67 49 [.inr r, .inr q, .inl v2, .inl v3, .inl v4] [] σ Q) (hF : v3 = 0 → K (d + 1) 67 48 [.inr r, .inr q, .inl v2, .inl v3, .inl v4] [] σ Q) : K (d + 1) 67 46 [.inr r, .inr q, .inl v2, .inl v3, .inl v4] [] σ Q := by
  rcases hr with rfl | rfl
  · rcases hq with rfl | rfl | rfl | rfl
    · exact hK.1 (d + 1) 67 46 [.inr 34, .inr 27, .inl v2, .inl v3, .inl v4] _ _ _ (hK.1 (d + 1) 67 47 _ _ _ _ (And.intro e0 (And.intro (And.intro (by decide) (by decide)) (And.intro (fun g => hT g) (fun g => hF g)))))
    · exact hK.1 (d + 1) 67 46 [.inr 34, .inr 28, .inl v2, .inl v3, .inl v4] _ _ _ (hK.1 (d + 1) 67 47 _ _ _ _ (And.intro e0 (And.intro (And.intro (by decide) (by decide)) (And.intro (fun g => hT g) (fun g => hF g)))))
    · exact hK.1 (d + 1) 67 46 [.inr 34, .inr 29, .inl v2, .inl v3, .inl v4] _ _ _ (hK.1 (d + 1) 67 47 _ _ _ _ (And.intro e0 (And.intro (And.intro (by decide) (by decide)) (And.intro (fun g => hT g) (fun g => hF g)))))
    · exact hK.1 (d + 1) 67 46 [.inr 34, .inr 42, .inl v2, .inl v3, .inl v4] _ _ _ (hK.1 (d + 1) 67 47 _ _ _ _ (And.intro e0 (And.intro (And.intro (by decide) (by decide)) (And.intro (fun g => hT g) (fun g => hF g)))))
  · rcases hq with rfl | rfl | rfl | rfl
    · exact hK.1 (d + 1) 67 46 [.inr 43, .inr 27, .inl v2, .inl v3, .inl v4] _ _ _ (hK.1 (d + 1) 67 47 _ _ _ _ (And.intro e0 (And.intro (And.intro (by decide) (by decide)) (And.intro (fun g => hT g) (fun g => hF g)))))
    · exact hK.1 (d + 1) 67 46 [.inr 43, .inr 28, .inl v2, .inl v3, .inl v4] _ _ _ (hK.1 (d + 1) 67 47 _ _ _ _ (And.intro e0 (And.intro (And.intro (by decide) (by decide)) (And.intro (fun g => hT g) (fun g => hF g)))))
    · exact hK.1 (d + 1) 67 46 [.inr 43, .inr 29, .inl v2, .inl v3, .inl v4] _ _ _ (hK.1 (d + 1) 67 47 _ _ _ _ (And.intro e0 (And.intro (And.intro (by decide) (by decide)) (And.intro (fun g => hT g) (fun g => hF g)))))
    · exact hK.1 (d + 1) 67 46 [.inr 43, .inr 42, .inl v2, .inl v3, .inl v4] _ _ _ (hK.1 (d + 1) 67 47 _ _ _ _ (And.intro e0 (And.intro (And.intro (by decide) (by decide)) (And.intro (fun g => hT g) (fun g => hF g)))))
theorem bW_sink_48 {K : am_KT} (hK : am_C K) {d : Nat} {σ : am_S} {Q : am_Q} {v2 v3 v4 : Int} {r q : Nat} (hr : am_isW r) (hq : am_isD q) (h : Q none σ) : K (d + 1) 67 48 [.inr r, .inr q, .inl v2, .inl v3, .inl v4] [] σ Q := by
  rcases hr with rfl | rfl
  · rcases hq with rfl | rfl | rfl | rfl
    · exact hK.1 (d + 1) 67 48 [.inr 34, .inr 27, .inl v2, .inl v3, .inl v4] _ _ _ (h)
    · exact hK.1 (d + 1) 67 48 [.inr 34, .inr 28, .inl v2, .inl v3, .inl v4] _ _ _ (h)
    · exact hK.1 (d + 1) 67 48 [.inr 34, .inr 29, .inl v2, .inl v3, .inl v4] _ _ _ (h)
    · exact hK.1 (d + 1) 67 48 [.inr 34, .inr 42, .inl v2, .inl v3, .inl v4] _ _ _ (h)
  · rcases hq with rfl | rfl | rfl | rfl
    · exact hK.1 (d + 1) 67 48 [.inr 43, .inr 27, .inl v2, .inl v3, .inl v4] _ _ _ (h)
    · exact hK.1 (d + 1) 67 48 [.inr 43, .inr 28, .inl v2, .inl v3, .inl v4] _ _ _ (h)
    · exact hK.1 (d + 1) 67 48 [.inr 43, .inr 29, .inl v2, .inl v3, .inl v4] _ _ _ (h)
    · exact hK.1 (d + 1) 67 48 [.inr 43, .inr 42, .inl v2, .inl v3, .inl v4] _ _ _ (h)
theorem bW_sink_49 {K : am_KT} (hK : am_C K) {d : Nat} {σ : am_S} {Q : am_Q} {v2 v3 v4 : Int} {r q : Nat} (hr : am_isW r) (hq : am_isD q) (h : K (d + 1) 67 2 [.inr r, .inr q, .inl (v2 + 1)] [] σ Q) : K (d + 1) 67 49 [.inr r, .inr q, .inl v2, .inl v3, .inl v4] [] σ Q := by
  rcases hr with rfl | rfl
  · rcases hq with rfl | rfl | rfl | rfl
    · exact hK.1 (d + 1) 67 49 [.inr 34, .inr 27, .inl v2, .inl v3, .inl v4] _ _ _ (hK.1 (d + 1) 67 50 [.inr 34, .inr 27, .inl (v2 + 1), .inl v3, .inl v4] _ _ _ (hK.2.1 (d + 1) 67 2 [.inr 34, .inr 27, .inl (v2 + 1)] [.inl v3, .inl v4] [] σ Q (h)))
    · exact hK.1 (d + 1) 67 49 [.inr 34, .inr 28, .inl v2, .inl v3, .inl v4] _ _ _ (hK.1 (d + 1) 67 50 [.inr 34, .inr 28, .inl (v2 + 1), .inl v3, .inl v4] _ _ _ (hK.2.1 (d + 1) 67 2 [.inr 34, .inr 28, .inl (v2 + 1)] [.inl v3, .inl v4] [] σ Q (h)))
    · exact hK.1 (d + 1) 67 49 [.inr 34, .inr 29, .inl v2, .inl v3, .inl v4] _ _ _ (hK.1 (d + 1) 67 50 [.inr 34, .inr 29, .inl (v2 + 1), .inl v3, .inl v4] _ _ _ (hK.2.1 (d + 1) 67 2 [.inr 34, .inr 29, .inl (v2 + 1)] [.inl v3, .inl v4] [] σ Q (h)))
    · exact hK.1 (d + 1) 67 49 [.inr 34, .inr 42, .inl v2, .inl v3, .inl v4] _ _ _ (hK.1 (d + 1) 67 50 [.inr 34, .inr 42, .inl (v2 + 1), .inl v3, .inl v4] _ _ _ (hK.2.1 (d + 1) 67 2 [.inr 34, .inr 42, .inl (v2 + 1)] [.inl v3, .inl v4] [] σ Q (h)))
  · rcases hq with rfl | rfl | rfl | rfl
    · exact hK.1 (d + 1) 67 49 [.inr 43, .inr 27, .inl v2, .inl v3, .inl v4] _ _ _ (hK.1 (d + 1) 67 50 [.inr 43, .inr 27, .inl (v2 + 1), .inl v3, .inl v4] _ _ _ (hK.2.1 (d + 1) 67 2 [.inr 43, .inr 27, .inl (v2 + 1)] [.inl v3, .inl v4] [] σ Q (h)))
    · exact hK.1 (d + 1) 67 49 [.inr 43, .inr 28, .inl v2, .inl v3, .inl v4] _ _ _ (hK.1 (d + 1) 67 50 [.inr 43, .inr 28, .inl (v2 + 1), .inl v3, .inl v4] _ _ _ (hK.2.1 (d + 1) 67 2 [.inr 43, .inr 28, .inl (v2 + 1)] [.inl v3, .inl v4] [] σ Q (h)))
    · exact hK.1 (d + 1) 67 49 [.inr 43, .inr 29, .inl v2, .inl v3, .inl v4] _ _ _ (hK.1 (d + 1) 67 50 [.inr 43, .inr 29, .inl (v2 + 1), .inl v3, .inl v4] _ _ _ (hK.2.1 (d + 1) 67 2 [.inr 43, .inr 29, .inl (v2 + 1)] [.inl v3, .inl v4] [] σ Q (h)))
    · exact hK.1 (d + 1) 67 49 [.inr 43, .inr 42, .inl v2, .inl v3, .inl v4] _ _ _ (hK.1 (d + 1) 67 50 [.inr 43, .inr 42, .inl (v2 + 1), .inl v3, .inl v4] _ _ _ (hK.2.1 (d + 1) 67 2 [.inr 43, .inr 42, .inl (v2 + 1)] [.inl v3, .inl v4] [] σ Q (h)))
theorem bW_sink_51 {K : am_KT} (hK : am_C K) {d : Nat} {σ : am_S} {Q : am_Q} {v2 : Int} {r q : Nat} (hr : am_isW r) (hq : am_isD q) (h : Q none σ) : K (d + 1) 67 51 [.inr r, .inr q, .inl v2] [] σ Q := by
  rcases hr with rfl | rfl
  · rcases hq with rfl | rfl | rfl | rfl
    · exact hK.1 (d + 1) 67 51 [.inr 34, .inr 27, .inl v2] _ _ _ (h)
    · exact hK.1 (d + 1) 67 51 [.inr 34, .inr 28, .inl v2] _ _ _ (h)
    · exact hK.1 (d + 1) 67 51 [.inr 34, .inr 29, .inl v2] _ _ _ (h)
    · exact hK.1 (d + 1) 67 51 [.inr 34, .inr 42, .inl v2] _ _ _ (h)
  · rcases hq with rfl | rfl | rfl | rfl
    · exact hK.1 (d + 1) 67 51 [.inr 43, .inr 27, .inl v2] _ _ _ (h)
    · exact hK.1 (d + 1) 67 51 [.inr 43, .inr 28, .inl v2] _ _ _ (h)
    · exact hK.1 (d + 1) 67 51 [.inr 43, .inr 29, .inl v2] _ _ _ (h)
    · exact hK.1 (d + 1) 67 51 [.inr 43, .inr 42, .inl v2] _ _ _ (h)
-- 68: LetterDays$Web.notBefore
theorem bW_notBefore_0 {K : am_KT} (hK : am_C K) {d : Nat} {σ : am_S} {Q : am_Q} {v1 v2 : Int} {r : Nat} (hr : am_isW r) (e0 : 0 ≤ v1 ∧ v1 < 8) (e1 : am_rng (σ (r + 3) v1)) (hT : σ (r + 3) v1 ≠ (-1) → K d 68 8 [.inr r, .inl v1, .inl v2] [] σ Q) (hF : σ (r + 3) v1 = (-1) → K d 68 6 [.inr r, .inl v1, .inl v2] [] σ Q) : K d 68 0 [.inr r, .inl v1, .inl v2] [] σ Q := by
  rcases hr with rfl | rfl
  · exact hK.1 d 68 0 [.inr 34, .inl v1, .inl v2] _ _ _ (hK.1 d 68 1 _ _ _ _ (hK.1 d 68 2 _ _ _ _ (hK.1 d 68 3 _ _ _ _ (And.intro e0 (hK.1 d 68 4 _ _ _ _ (hK.1 d 68 5 _ _ _ _ (And.intro e1 (And.intro (And.intro (by decide) (by decide)) (And.intro (fun g => hT g) (fun g => hF g))))))))))
  · exact hK.1 d 68 0 [.inr 43, .inl v1, .inl v2] _ _ _ (hK.1 d 68 1 _ _ _ _ (hK.1 d 68 2 _ _ _ _ (hK.1 d 68 3 _ _ _ _ (And.intro e0 (hK.1 d 68 4 _ _ _ _ (hK.1 d 68 5 _ _ _ _ (And.intro e1 (And.intro (And.intro (by decide) (by decide)) (And.intro (fun g => hT g) (fun g => hF g))))))))))
theorem bW_notBefore_6 {K : am_KT} (hK : am_C K) {d : Nat} {σ : am_S} {Q : am_Q} {v1 v2 : Int} {r : Nat} (hr : am_isW r) (h : K d 68 22 [.inr r, .inl v1, .inl v2] [.inl v2] σ Q) : K d 68 6 [.inr r, .inl v1, .inl v2] [] σ Q := by
  rcases hr with rfl | rfl
  · exact hK.1 d 68 6 [.inr 34, .inl v1, .inl v2] _ _ _ (hK.1 d 68 7 _ _ _ _ (h))
  · exact hK.1 d 68 6 [.inr 43, .inl v1, .inl v2] _ _ _ (hK.1 d 68 7 _ _ _ _ (h))
theorem bW_notBefore_8 {K : am_KT} (hK : am_C K) {d : Nat} {σ : am_S} {Q : am_Q} {v1 v2 : Int} {r : Nat} (hr : am_isW r) (e0 : 0 ≤ v1 ∧ v1 < 8) (e1 : am_rng v2) (e2 : am_rng (((σ (r + 3) v1) + 7) - (v2.tmod 7))) (h : K d 68 22 [.inr r, .inl v1, .inl v2] [.inl (v2 + ((((σ (r + 3) v1) + 7) - (v2.tmod 7)).tmod 7))] σ Q) : K d 68 8 [.inr r, .inl v1, .inl v2] [] σ Q := by
  rcases hr with rfl | rfl
  · exact hK.1 d 68 8 [.inr 34, .inl v1, .inl v2] _ _ _ (hK.1 d 68 9 _ _ _ _ (hK.1 d 68 10 _ _ _ _ (hK.1 d 68 11 _ _ _ _ (hK.1 d 68 12 _ _ _ _ (And.intro e0 (hK.1 d 68 13 _ _ _ _ (hK.1 d 68 14 _ _ _ _ (hK.1 d 68 15 _ _ _ _ (hK.1 d 68 16 _ _ _ _ (hK.1 d 68 17 _ _ _ _ (And.intro e1 (And.intro (And.intro (by decide) (by decide)) (And.intro (by decide) (hK.1 d 68 18 _ _ _ _ (hK.1 d 68 19 _ _ _ _ (hK.1 d 68 20 _ _ _ _ (And.intro e2 (And.intro (And.intro (by decide) (by decide)) (And.intro (by decide) (hK.1 d 68 21 _ _ _ _ (h)))))))))))))))))))))
  · exact hK.1 d 68 8 [.inr 43, .inl v1, .inl v2] _ _ _ (hK.1 d 68 9 _ _ _ _ (hK.1 d 68 10 _ _ _ _ (hK.1 d 68 11 _ _ _ _ (hK.1 d 68 12 _ _ _ _ (And.intro e0 (hK.1 d 68 13 _ _ _ _ (hK.1 d 68 14 _ _ _ _ (hK.1 d 68 15 _ _ _ _ (hK.1 d 68 16 _ _ _ _ (hK.1 d 68 17 _ _ _ _ (And.intro e1 (And.intro (And.intro (by decide) (by decide)) (And.intro (by decide) (hK.1 d 68 18 _ _ _ _ (hK.1 d 68 19 _ _ _ _ (hK.1 d 68 20 _ _ _ _ (And.intro e2 (And.intro (And.intro (by decide) (by decide)) (And.intro (by decide) (hK.1 d 68 21 _ _ _ _ (h)))))))))))))))))))))
theorem bW_notBefore_22 {K : am_KT} (hK : am_C K) {d : Nat} {σ : am_S} {Q : am_Q} {v1 v2 s0 : Int} {r : Nat} (hr : am_isW r) (h : Q (some s0) σ) : K d 68 22 [.inr r, .inl v1, .inl v2] [.inl s0] σ Q := by
  rcases hr with rfl | rfl
  · exact hK.1 d 68 22 [.inr 34, .inl v1, .inl v2] _ _ _ (And.intro trivial (h))
  · exact hK.1 d 68 22 [.inr 43, .inl v1, .inl v2] _ _ _ (And.intro trivial (h))
-- 69: LetterDays$Web.notBehind
theorem bW_notBehind_0 {K : am_KT} (hK : am_C K) {d : Nat} {σ : am_S} {Q : am_Q} {v1 v2 : Int} {r : Nat} (hr : am_isW r) (e0 : 0 ≤ v1 ∧ v1 < 8) (e1 : am_rng (σ (r + 3) v1)) (hT : σ (r + 3) v1 ≠ (-1) → K d 69 8 [.inr r, .inl v1, .inl v2] [] σ Q) (hF : σ (r + 3) v1 = (-1) → K d 69 6 [.inr r, .inl v1, .inl v2] [] σ Q) : K d 69 0 [.inr r, .inl v1, .inl v2] [] σ Q := by
  rcases hr with rfl | rfl
  · exact hK.1 d 69 0 [.inr 34, .inl v1, .inl v2] _ _ _ (hK.1 d 69 1 _ _ _ _ (hK.1 d 69 2 _ _ _ _ (hK.1 d 69 3 _ _ _ _ (And.intro e0 (hK.1 d 69 4 _ _ _ _ (hK.1 d 69 5 _ _ _ _ (And.intro e1 (And.intro (And.intro (by decide) (by decide)) (And.intro (fun g => hT g) (fun g => hF g))))))))))
  · exact hK.1 d 69 0 [.inr 43, .inl v1, .inl v2] _ _ _ (hK.1 d 69 1 _ _ _ _ (hK.1 d 69 2 _ _ _ _ (hK.1 d 69 3 _ _ _ _ (And.intro e0 (hK.1 d 69 4 _ _ _ _ (hK.1 d 69 5 _ _ _ _ (And.intro e1 (And.intro (And.intro (by decide) (by decide)) (And.intro (fun g => hT g) (fun g => hF g))))))))))
theorem bW_notBehind_6 {K : am_KT} (hK : am_C K) {d : Nat} {σ : am_S} {Q : am_Q} {v1 v2 : Int} {r : Nat} (hr : am_isW r) (h : K d 69 22 [.inr r, .inl v1, .inl v2] [.inl v2] σ Q) : K d 69 6 [.inr r, .inl v1, .inl v2] [] σ Q := by
  rcases hr with rfl | rfl
  · exact hK.1 d 69 6 [.inr 34, .inl v1, .inl v2] _ _ _ (hK.1 d 69 7 _ _ _ _ (h))
  · exact hK.1 d 69 6 [.inr 43, .inl v1, .inl v2] _ _ _ (hK.1 d 69 7 _ _ _ _ (h))
theorem bW_notBehind_8 {K : am_KT} (hK : am_C K) {d : Nat} {σ : am_S} {Q : am_Q} {v1 v2 : Int} {r : Nat} (hr : am_isW r) (e0 : am_rng v2) (e1 : 0 ≤ v1 ∧ v1 < 8) (e2 : am_rng (((v2.tmod 7) + 7) - (σ (r + 3) v1))) (h : K d 69 22 [.inr r, .inl v1, .inl v2] [.inl (v2 - ((((v2.tmod 7) + 7) - (σ (r + 3) v1)).tmod 7))] σ Q) : K d 69 8 [.inr r, .inl v1, .inl v2] [] σ Q := by
  rcases hr with rfl | rfl
  · exact hK.1 d 69 8 [.inr 34, .inl v1, .inl v2] _ _ _ (hK.1 d 69 9 _ _ _ _ (hK.1 d 69 10 _ _ _ _ (hK.1 d 69 11 _ _ _ _ (And.intro e0 (And.intro (And.intro (by decide) (by decide)) (And.intro (by decide) (hK.1 d 69 12 _ _ _ _ (hK.1 d 69 13 _ _ _ _ (hK.1 d 69 14 _ _ _ _ (hK.1 d 69 15 _ _ _ _ (hK.1 d 69 16 _ _ _ _ (hK.1 d 69 17 _ _ _ _ (And.intro e1 (hK.1 d 69 18 _ _ _ _ (hK.1 d 69 19 _ _ _ _ (hK.1 d 69 20 _ _ _ _ (And.intro e2 (And.intro (And.intro (by decide) (by decide)) (And.intro (by decide) (hK.1 d 69 21 _ _ _ _ (h)))))))))))))))))))))
  · exact hK.1 d 69 8 [.inr 43, .inl v1, .inl v2] _ _ _ (hK.1 d 69 9 _ _ _ _ (hK.1 d 69 10 _ _ _ _ (hK.1 d 69 11 _ _ _ _ (And.intro e0 (And.intro (And.intro (by decide) (by decide)) (And.intro (by decide) (hK.1 d 69 12 _ _ _ _ (hK.1 d 69 13 _ _ _ _ (hK.1 d 69 14 _ _ _ _ (hK.1 d 69 15 _ _ _ _ (hK.1 d 69 16 _ _ _ _ (hK.1 d 69 17 _ _ _ _ (And.intro e1 (hK.1 d 69 18 _ _ _ _ (hK.1 d 69 19 _ _ _ _ (hK.1 d 69 20 _ _ _ _ (And.intro e2 (And.intro (And.intro (by decide) (by decide)) (And.intro (by decide) (hK.1 d 69 21 _ _ _ _ (h)))))))))))))))))))))
theorem bW_notBehind_22 {K : am_KT} (hK : am_C K) {d : Nat} {σ : am_S} {Q : am_Q} {v1 v2 s0 : Int} {r : Nat} (hr : am_isW r) (h : Q (some s0) σ) : K d 69 22 [.inr r, .inl v1, .inl v2] [.inl s0] σ Q := by
  rcases hr with rfl | rfl
  · exact hK.1 d 69 22 [.inr 34, .inl v1, .inl v2] _ _ _ (And.intro trivial (h))
  · exact hK.1 d 69 22 [.inr 43, .inl v1, .inl v2] _ _ _ (And.intro trivial (h))
-- 70: LetterDays$Ways.exist
theorem bY_exist_0 {K : am_KT} (hK : am_C K) {d : Nat} {σ : am_S} {Q : am_Q} (e0 : am_rng (σ 26 0)) (hT : σ 26 0 ≠ 0 → K (d + 1) 70 34 [.inr 26] [] σ Q) (hF : σ 26 0 = 0 → K (d + 1) 70 3 [.inr 26] [] σ Q) : K (d + 1) 70 0 [.inr 26] [] σ Q :=
  hK.1 (d + 1) 70 0 [.inr 26] _ _ _ (hK.1 (d + 1) 70 1 _ _ _ _ (hK.1 (d + 1) 70 2 _ _ _ _ (And.intro e0 (And.intro (And.intro (by decide) (by decide)) (And.intro (fun g => hT g) (fun g => hF g))))))
theorem bY_exist_3 {K : am_KT} (hK : am_C K) {d : Nat} {σ : am_S} {Q : am_Q} (h : K d 61 0 [.inr 34, .inr 17, .inr 20, .inl (σ 20 1)] [] σ (fun o σ1 => K (d + 1) 70 13 [.inr 26] (am_o o ++ []) σ1 Q)) : K (d + 1) 70 3 [.inr 26] [] σ Q :=
  hK.1 (d + 1) 70 3 [.inr 26] _ _ _ (hK.1 (d + 1) 70 4 _ _ _ _ (hK.1 (d + 1) 70 5 _ _ _ _ (hK.1 (d + 1) 70 6 _ _ _ _ (hK.1 (d + 1) 70 7 _ _ _ _ (hK.1 (d + 1) 70 8 _ _ _ _ (hK.1 (d + 1) 70 9 _ _ _ _ (hK.1 (d + 1) 70 10 _ _ _ _ (hK.1 (d + 1) 70 11 _ _ _ _ (hK.1 (d + 1) 70 12 _ _ _ _ (h))))))))))
theorem bY_exist_13 {K : am_KT} (hK : am_C K) {d : Nat} {σ : am_S} {Q : am_Q} (h : K d 64 0 [.inr 34, .inr 27] [] σ (fun o σ1 => K (d + 1) 70 19 [.inr 26] (am_o o ++ [.inr 26]) σ1 Q)) : K (d + 1) 70 13 [.inr 26] [] σ Q :=
  hK.1 (d + 1) 70 13 [.inr 26] _ _ _ (hK.1 (d + 1) 70 14 _ _ _ _ (hK.1 (d + 1) 70 15 _ _ _ _ (hK.1 (d + 1) 70 16 _ _ _ _ (hK.1 (d + 1) 70 17 _ _ _ _ (hK.1 (d + 1) 70 18 _ _ _ _ (h))))))
theorem bY_exist_19 {K : am_KT} (hK : am_C K) {d : Nat} {σ : am_S} {Q : am_Q} {s0 : Int} (e0 : s0 = 0 ∨ s0 = 1) (e1 : am_rng ((am_us σ 26 6 s0) 26 6)) (hT : (am_us σ 26 6 s0) 26 6 = 0 → K (d + 1) 70 28 [.inr 26] [] (am_us σ 26 6 s0) Q) (hF : (am_us σ 26 6 s0) 26 6 ≠ 0 → K (d + 1) 70 23 [.inr 26] [] (am_us σ 26 6 s0) Q) : K (d + 1) 70 19 [.inr 26] [.inl s0, .inr 26] σ Q :=
  hK.1 (d + 1) 70 19 [.inr 26] _ _ _ (And.intro e0 (hK.1 (d + 1) 70 20 _ _ _ _ (hK.1 (d + 1) 70 21 _ _ _ _ (hK.1 (d + 1) 70 22 _ _ _ _ (And.intro e1 (And.intro (And.intro (by decide) (by decide)) (And.intro (fun g => hT g) (fun g => hF g))))))))
theorem bY_exist_23 {K : am_KT} (hK : am_C K) {d : Nat} {σ : am_S} {Q : am_Q} (h : K d 65 0 [.inr 34, .inr 28] [] σ (fun o σ1 => K (d + 1) 70 28 [.inr 26] (am_o o ++ []) σ1 Q)) : K (d + 1) 70 23 [.inr 26] [] σ Q :=
  hK.1 (d + 1) 70 23 [.inr 26] _ _ _ (hK.1 (d + 1) 70 24 _ _ _ _ (hK.1 (d + 1) 70 25 _ _ _ _ (hK.1 (d + 1) 70 26 _ _ _ _ (hK.1 (d + 1) 70 27 _ _ _ _ (h)))))
theorem bY_exist_28 {K : am_KT} (hK : am_C K) {d : Nat} {σ : am_S} {Q : am_Q} (h : K (d + 1) 70 34 [.inr 26] [] (am_us (am_us σ 26 7 0) 26 0 1) Q) : K (d + 1) 70 28 [.inr 26] [] σ Q :=
  hK.1 (d + 1) 70 28 [.inr 26] _ _ _ (hK.1 (d + 1) 70 29 _ _ _ _ (hK.1 (d + 1) 70 30 _ _ _ _ (hK.1 (d + 1) 70 31 _ _ _ _ (hK.1 (d + 1) 70 32 _ _ _ _ (hK.1 (d + 1) 70 33 _ _ _ _ (And.intro (Or.inr rfl) (h)))))))
theorem bY_exist_34 {K : am_KT} (hK : am_C K) {d : Nat} {σ : am_S} {Q : am_Q} (e0 : σ 26 6 = 0 ∨ σ 26 6 = 1) (h : Q (some (σ 26 6)) σ) : K (d + 1) 70 34 [.inr 26] [] σ Q :=
  hK.1 (d + 1) 70 34 [.inr 26] _ _ _ (hK.1 (d + 1) 70 35 _ _ _ _ (hK.1 (d + 1) 70 36 _ _ _ _ (And.intro e0 (h))))
-- 71: LetterDays$Ways.allow
theorem bY_allow_0 {K : am_KT} (hK : am_C K) {d : Nat} {σ : am_S} {Q : am_Q} {v1 v2 : Int} (h : K d 77 0 [.inr 26, .inl v1] [] σ (fun o σ1 => K (d + 1) 71 3 [.inr 26, .inl v1, .inl v2] (am_o o ++ []) σ1 Q)) : K (d + 1) 71 0 [.inr 26, .inl v1, .inl v2] [] σ Q :=
  hK.1 (d + 1) 71 0 [.inr 26, .inl v1, .inl v2] _ _ _ (hK.1 (d + 1) 71 1 _ _ _ _ (hK.1 (d + 1) 71 2 _ _ _ _ (h)))
theorem bY_allow_3 {K : am_KT} (hK : am_C K) {d : Nat} {σ : am_S} {Q : am_Q} {v1 v2 : Int} (e0 : 0 ≤ (v1 * 200) + v2 ∧ (v1 * 200) + v2 < 1600) (e1 : am_rng (σ 30 ((v1 * 200) + v2))) (hT : σ 30 ((v1 * 200) + v2) = (-1) → K (d + 1) 71 15 [.inr 26, .inl v1, .inl v2] [] σ Q) (hF : σ 30 ((v1 * 200) + v2) ≠ (-1) → K (d + 1) 71 13 [.inr 26, .inl v1, .inl v2] [] σ Q) : K (d + 1) 71 3 [.inr 26, .inl v1, .inl v2] [] σ Q :=
  hK.1 (d + 1) 71 3 [.inr 26, .inl v1, .inl v2] _ _ _ (hK.1 (d + 1) 71 4 _ _ _ _ (hK.1 (d + 1) 71 5 _ _ _ _ (hK.1 (d + 1) 71 6 _ _ _ _ (hK.1 (d + 1) 71 7 _ _ _ _ (hK.1 (d + 1) 71 8 _ _ _ _ (hK.1 (d + 1) 71 9 _ _ _ _ (hK.1 (d + 1) 71 10 _ _ _ _ (And.intro e0 (hK.1 (d + 1) 71 11 _ _ _ _ (hK.1 (d + 1) 71 12 _ _ _ _ (And.intro e1 (And.intro (And.intro (by decide) (by decide)) (And.intro (fun g => hT g) (fun g => hF g))))))))))))))
theorem bY_allow_13 {K : am_KT} (hK : am_C K) {d : Nat} {σ : am_S} {Q : am_Q} {v1 v2 : Int} (h : K (d + 1) 71 16 [.inr 26, .inl v1, .inl v2] [.inl 1] σ Q) : K (d + 1) 71 13 [.inr 26, .inl v1, .inl v2] [] σ Q :=
  hK.1 (d + 1) 71 13 [.inr 26, .inl v1, .inl v2] _ _ _ (hK.1 (d + 1) 71 14 _ _ _ _ (h))
theorem bY_allow_15 {K : am_KT} (hK : am_C K) {d : Nat} {σ : am_S} {Q : am_Q} {v1 v2 : Int} (h : K (d + 1) 71 16 [.inr 26, .inl v1, .inl v2] [.inl 0] σ Q) : K (d + 1) 71 15 [.inr 26, .inl v1, .inl v2] [] σ Q :=
  hK.1 (d + 1) 71 15 [.inr 26, .inl v1, .inl v2] _ _ _ (h)
theorem bY_allow_16 {K : am_KT} (hK : am_C K) {d : Nat} {σ : am_S} {Q : am_Q} {v1 v2 s0 : Int} (e0 : s0 = 0 ∨ s0 = 1) (h : Q (some s0) σ) : K (d + 1) 71 16 [.inr 26, .inl v1, .inl v2] [.inl s0] σ Q :=
  hK.1 (d + 1) 71 16 [.inr 26, .inl v1, .inl v2] _ _ _ (And.intro e0 (h))
-- 72: LetterDays$Ways.daysOpenTo
theorem bY_daysOpenTo_0 {K : am_KT} (hK : am_C K) {d : Nat} {σ : am_S} {Q : am_Q} {v1 : Int} (h : K d 77 0 [.inr 26, .inl v1] [] σ (fun o σ1 => K (d + 1) 72 3 [.inr 26, .inl v1] (am_o o ++ []) σ1 Q)) : K (d + 1) 72 0 [.inr 26, .inl v1] [] σ Q :=
  hK.1 (d + 1) 72 0 [.inr 26, .inl v1] _ _ _ (hK.1 (d + 1) 72 1 _ _ _ _ (hK.1 (d + 1) 72 2 _ _ _ _ (h)))
theorem bY_daysOpenTo_3 {K : am_KT} (hK : am_C K) {d : Nat} {σ : am_S} {Q : am_Q} {v1 : Int} (e0 : 0 ≤ v1 ∧ v1 < 8) (h : Q (some (σ 31 v1)) σ) : K (d + 1) 72 3 [.inr 26, .inl v1] [] σ Q :=
  hK.1 (d + 1) 72 3 [.inr 26, .inl v1] _ _ _ (hK.1 (d + 1) 72 4 _ _ _ _ (hK.1 (d + 1) 72 5 _ _ _ _ (hK.1 (d + 1) 72 6 _ _ _ _ (And.intro e0 (hK.1 (d + 1) 72 7 _ _ _ _ (And.intro trivial (h)))))))
-- 73: LetterDays$Ways.leastGap
theorem bY_leastGap_0 {K : am_KT} (hK : am_C K) {d : Nat} {σ : am_S} {Q : am_Q} {v1 v2 : Int} (h : K d 77 0 [.inr 26, .inl v1] [] σ (fun o σ1 => K (d + 1) 73 3 [.inr 26, .inl v1, .inl v2] (am_o o ++ []) σ1 Q)) : K (d + 1) 73 0 [.inr 26, .inl v1, .inl v2] [] σ Q :=
  hK.1 (d + 1) 73 0 [.inr 26, .inl v1, .inl v2] _ _ _ (hK.1 (d + 1) 73 1 _ _ _ _ (hK.1 (d + 1) 73 2 _ _ _ _ (h)))
theorem bY_leastGap_3 {K : am_KT} (hK : am_C K) {d : Nat} {σ : am_S} {Q : am_Q} {v1 v2 : Int} (e0 : 0 ≤ (v1 * 8) + v2 ∧ (v1 * 8) + v2 < 64) (h : Q (some (σ 32 ((v1 * 8) + v2))) σ) : K (d + 1) 73 3 [.inr 26, .inl v1, .inl v2] [] σ Q :=
  hK.1 (d + 1) 73 3 [.inr 26, .inl v1, .inl v2] _ _ _ (hK.1 (d + 1) 73 4 _ _ _ _ (hK.1 (d + 1) 73 5 _ _ _ _ (hK.1 (d + 1) 73 6 _ _ _ _ (hK.1 (d + 1) 73 7 _ _ _ _ (hK.1 (d + 1) 73 8 _ _ _ _ (hK.1 (d + 1) 73 9 _ _ _ _ (hK.1 (d + 1) 73 10 _ _ _ _ (And.intro e0 (hK.1 (d + 1) 73 11 _ _ _ _ (And.intro trivial (h)))))))))))
-- 74: LetterDays$Ways.greatestRest
theorem bY_greatestRest_0 {K : am_KT} (hK : am_C K) {d : Nat} {σ : am_S} {Q : am_Q} {v1 : Int} (h : K d 77 0 [.inr 26, .inl v1] [] σ (fun o σ1 => K (d + 1) 74 3 [.inr 26, .inl v1] (am_o o ++ []) σ1 Q)) : K (d + 1) 74 0 [.inr 26, .inl v1] [] σ Q :=
  hK.1 (d + 1) 74 0 [.inr 26, .inl v1] _ _ _ (hK.1 (d + 1) 74 1 _ _ _ _ (hK.1 (d + 1) 74 2 _ _ _ _ (h)))
theorem bY_greatestRest_3 {K : am_KT} (hK : am_C K) {d : Nat} {σ : am_S} {Q : am_Q} {v1 : Int} (e0 : 0 ≤ v1 ∧ v1 < 8) (h : Q (some (σ 33 v1)) σ) : K (d + 1) 74 3 [.inr 26, .inl v1] [] σ Q :=
  hK.1 (d + 1) 74 3 [.inr 26, .inl v1] _ _ _ (hK.1 (d + 1) 74 4 _ _ _ _ (hK.1 (d + 1) 74 5 _ _ _ _ (hK.1 (d + 1) 74 6 _ _ _ _ (And.intro e0 (hK.1 (d + 1) 74 7 _ _ _ _ (And.intro trivial (h)))))))
-- 75: LetterDays$Ways.thoseAheadOf
theorem bY_thoseAheadOf_0 {K : am_KT} (hK : am_C K) {d : Nat} {σ : am_S} {Q : am_Q} {v1 : Int} (h : K (d + 1) 75 4 [.inr 26, .inl v1, .inl 0, .inl 0] [] σ Q) : K (d + 1) 75 0 [.inr 26, .inl v1] [] σ Q :=
  hK.1 (d + 1) 75 0 [.inr 26, .inl v1] _ _ _ (hK.1 (d + 1) 75 1 _ _ _ _ (hK.1 (d + 1) 75 2 [.inr 26, .inl v1, .inl 0] _ _ _ (hK.1 (d + 1) 75 3 _ _ _ _ (h))))
theorem bY_thoseAheadOf_4 {K : am_KT} (hK : am_C K) {d : Nat} {σ : am_S} {Q : am_Q} {v1 v2 v3 : Int} (e0 : am_rng v3) (e1 : am_rng (σ 17 0)) (hT : σ 17 0 ≤ v3 → K (d + 1) 75 29 [.inr 26, .inl v1, .inl v2, .inl v3] [] σ Q) (hF : v3 < σ 17 0 → K (d + 1) 75 9 [.inr 26, .inl v1, .inl v2, .inl v3] [] σ Q) : K (d + 1) 75 4 [.inr 26, .inl v1, .inl v2, .inl v3] [] σ Q :=
  hK.1 (d + 1) 75 4 [.inr 26, .inl v1, .inl v2, .inl v3] _ _ _ (hK.1 (d + 1) 75 5 _ _ _ _ (hK.1 (d + 1) 75 6 _ _ _ _ (hK.1 (d + 1) 75 7 _ _ _ _ (hK.1 (d + 1) 75 8 _ _ _ _ (And.intro e0 (And.intro e1 (And.intro (fun g => hT g) (fun g => hF g))))))))
theorem bY_thoseAheadOf_9 {K : am_KT} (hK : am_C K) {d : Nat} {σ : am_S} {Q : am_Q} {v1 v2 v3 : Int} (h : K d 77 0 [.inr 26, .inl v3] [] σ (fun o σ1 => K (d + 1) 75 12 [.inr 26, .inl v1, .inl v2, .inl v3] (am_o o ++ []) σ1 Q)) : K (d + 1) 75 9 [.inr 26, .inl v1, .inl v2, .inl v3] [] σ Q :=
  hK.1 (d + 1) 75 9 [.inr 26, .inl v1, .inl v2, .inl v3] _ _ _ (hK.1 (d + 1) 75 10 _ _ _ _ (hK.1 (d + 1) 75 11 _ _ _ _ (h)))
theorem bY_thoseAheadOf_12 {K : am_KT} (hK : am_C K) {d : Nat} {σ : am_S} {Q : am_Q} {v1 v2 v3 : Int} (e0 : 0 ≤ (v3 * 8) + v1 ∧ (v3 * 8) + v1 < 64) (e1 : am_rng (σ 32 ((v3 * 8) + v1))) (hT : σ 32 ((v3 * 8) + v1) ≤ 0 → K (d + 1) 75 27 [.inr 26, .inl v1, .inl v2, .inl v3] [] σ Q) (hF : 0 < σ 32 ((v3 * 8) + v1) → K (d + 1) 75 21 [.inr 26, .inl v1, .inl v2, .inl v3] [] σ Q) : K (d + 1) 75 12 [.inr 26, .inl v1, .inl v2, .inl v3] [] σ Q :=
  hK.1 (d + 1) 75 12 [.inr 26, .inl v1, .inl v2, .inl v3] _ _ _ (hK.1 (d + 1) 75 13 _ _ _ _ (hK.1 (d + 1) 75 14 _ _ _ _ (hK.1 (d + 1) 75 15 _ _ _ _ (hK.1 (d + 1) 75 16 _ _ _ _ (hK.1 (d + 1) 75 17 _ _ _ _ (hK.1 (d + 1) 75 18 _ _ _ _ (hK.1 (d + 1) 75 19 _ _ _ _ (And.intro e0 (hK.1 (d + 1) 75 20 _ _ _ _ (And.intro e1 (And.intro (And.intro (by decide) (by decide)) (And.intro (fun g => hT g) (fun g => hF g)))))))))))))
theorem bY_thoseAheadOf_21 {K : am_KT} (hK : am_C K) {d : Nat} {σ : am_S} {Q : am_Q} {v1 v2 v3 : Int} (h : K (d + 1) 75 27 [.inr 26, .inl v1, .inl (am_or v2 (am_shl 1 v3)), .inl v3] [] σ Q) : K (d + 1) 75 21 [.inr 26, .inl v1, .inl v2, .inl v3] [] σ Q :=
  hK.1 (d + 1) 75 21 [.inr 26, .inl v1, .inl v2, .inl v3] _ _ _ (hK.1 (d + 1) 75 22 _ _ _ _ (hK.1 (d + 1) 75 23 _ _ _ _ (hK.1 (d + 1) 75 24 _ _ _ _ (hK.1 (d + 1) 75 25 _ _ _ _ (hK.1 (d + 1) 75 26 _ _ _ _ (h))))))
theorem bY_thoseAheadOf_27 {K : am_KT} (hK : am_C K) {d : Nat} {σ : am_S} {Q : am_Q} {v1 v2 v3 : Int} (h : K (d + 1) 75 4 [.inr 26, .inl v1, .inl v2, .inl (v3 + 1)] [] σ Q) : K (d + 1) 75 27 [.inr 26, .inl v1, .inl v2, .inl v3] [] σ Q :=
  hK.1 (d + 1) 75 27 [.inr 26, .inl v1, .inl v2, .inl v3] _ _ _ (hK.1 (d + 1) 75 28 [.inr 26, .inl v1, .inl v2, .inl (v3 + 1)] _ _ _ (h))
theorem bY_thoseAheadOf_29 {K : am_KT} (hK : am_C K) {d : Nat} {σ : am_S} {Q : am_Q} {v1 v2 v3 : Int} (h : Q (some v2) σ) : K (d + 1) 75 29 [.inr 26, .inl v1, .inl v2, .inl v3] [] σ Q :=
  hK.1 (d + 1) 75 29 [.inr 26, .inl v1, .inl v2, .inl v3] _ _ _ (hK.1 (d + 1) 75 30 _ _ _ _ (And.intro trivial (h)))
-- 76: LetterDays$Ways.thoseBehind
theorem bY_thoseBehind_0 {K : am_KT} (hK : am_C K) {d : Nat} {σ : am_S} {Q : am_Q} {v1 : Int} (h : K d 77 0 [.inr 26, .inl v1] [] σ (fun o σ1 => K (d + 1) 76 3 [.inr 26, .inl v1] (am_o o ++ []) σ1 Q)) : K (d + 1) 76 0 [.inr 26, .inl v1] [] σ Q :=
  hK.1 (d + 1) 76 0 [.inr 26, .inl v1] _ _ _ (hK.1 (d + 1) 76 1 _ _ _ _ (hK.1 (d + 1) 76 2 _ _ _ _ (h)))
theorem bY_thoseBehind_3 {K : am_KT} (hK : am_C K) {d : Nat} {σ : am_S} {Q : am_Q} {v1 : Int} (h : K (d + 1) 76 7 [.inr 26, .inl v1, .inl 0, .inl 0] [] σ Q) : K (d + 1) 76 3 [.inr 26, .inl v1] [] σ Q :=
  hK.1 (d + 1) 76 3 [.inr 26, .inl v1] _ _ _ (hK.1 (d + 1) 76 4 _ _ _ _ (hK.1 (d + 1) 76 5 [.inr 26, .inl v1, .inl 0] _ _ _ (hK.1 (d + 1) 76 6 _ _ _ _ (h))))
theorem bY_thoseBehind_7 {K : am_KT} (hK : am_C K) {d : Nat} {σ : am_S} {Q : am_Q} {v1 v2 v3 : Int} (e0 : am_rng v3) (e1 : am_rng (σ 17 0)) (hT : σ 17 0 ≤ v3 → K (d + 1) 76 29 [.inr 26, .inl v1, .inl v2, .inl v3] [] σ Q) (hF : v3 < σ 17 0 → K (d + 1) 76 12 [.inr 26, .inl v1, .inl v2, .inl v3] [] σ Q) : K (d + 1) 76 7 [.inr 26, .inl v1, .inl v2, .inl v3] [] σ Q :=
  hK.1 (d + 1) 76 7 [.inr 26, .inl v1, .inl v2, .inl v3] _ _ _ (hK.1 (d + 1) 76 8 _ _ _ _ (hK.1 (d + 1) 76 9 _ _ _ _ (hK.1 (d + 1) 76 10 _ _ _ _ (hK.1 (d + 1) 76 11 _ _ _ _ (And.intro e0 (And.intro e1 (And.intro (fun g => hT g) (fun g => hF g))))))))
theorem bY_thoseBehind_12 {K : am_KT} (hK : am_C K) {d : Nat} {σ : am_S} {Q : am_Q} {v1 v2 v3 : Int} (e0 : 0 ≤ (v1 * 8) + v3 ∧ (v1 * 8) + v3 < 64) (e1 : am_rng (σ 32 ((v1 * 8) + v3))) (hT : σ 32 ((v1 * 8) + v3) ≤ 0 → K (d + 1) 76 27 [.inr 26, .inl v1, .inl v2, .inl v3] [] σ Q) (hF : 0 < σ 32 ((v1 * 8) + v3) → K (d + 1) 76 21 [.inr 26, .inl v1, .inl v2, .inl v3] [] σ Q) : K (d + 1) 76 12 [.inr 26, .inl v1, .inl v2, .inl v3] [] σ Q :=
  hK.1 (d + 1) 76 12 [.inr 26, .inl v1, .inl v2, .inl v3] _ _ _ (hK.1 (d + 1) 76 13 _ _ _ _ (hK.1 (d + 1) 76 14 _ _ _ _ (hK.1 (d + 1) 76 15 _ _ _ _ (hK.1 (d + 1) 76 16 _ _ _ _ (hK.1 (d + 1) 76 17 _ _ _ _ (hK.1 (d + 1) 76 18 _ _ _ _ (hK.1 (d + 1) 76 19 _ _ _ _ (And.intro e0 (hK.1 (d + 1) 76 20 _ _ _ _ (And.intro e1 (And.intro (And.intro (by decide) (by decide)) (And.intro (fun g => hT g) (fun g => hF g)))))))))))))
theorem bY_thoseBehind_21 {K : am_KT} (hK : am_C K) {d : Nat} {σ : am_S} {Q : am_Q} {v1 v2 v3 : Int} (h : K (d + 1) 76 27 [.inr 26, .inl v1, .inl (am_or v2 (am_shl 1 v3)), .inl v3] [] σ Q) : K (d + 1) 76 21 [.inr 26, .inl v1, .inl v2, .inl v3] [] σ Q :=
  hK.1 (d + 1) 76 21 [.inr 26, .inl v1, .inl v2, .inl v3] _ _ _ (hK.1 (d + 1) 76 22 _ _ _ _ (hK.1 (d + 1) 76 23 _ _ _ _ (hK.1 (d + 1) 76 24 _ _ _ _ (hK.1 (d + 1) 76 25 _ _ _ _ (hK.1 (d + 1) 76 26 _ _ _ _ (h))))))
theorem bY_thoseBehind_27 {K : am_KT} (hK : am_C K) {d : Nat} {σ : am_S} {Q : am_Q} {v1 v2 v3 : Int} (h : K (d + 1) 76 7 [.inr 26, .inl v1, .inl v2, .inl (v3 + 1)] [] σ Q) : K (d + 1) 76 27 [.inr 26, .inl v1, .inl v2, .inl v3] [] σ Q :=
  hK.1 (d + 1) 76 27 [.inr 26, .inl v1, .inl v2, .inl v3] _ _ _ (hK.1 (d + 1) 76 28 [.inr 26, .inl v1, .inl v2, .inl (v3 + 1)] _ _ _ (h))
theorem bY_thoseBehind_29 {K : am_KT} (hK : am_C K) {d : Nat} {σ : am_S} {Q : am_Q} {v1 v2 v3 : Int} (h : Q (some v2) σ) : K (d + 1) 76 29 [.inr 26, .inl v1, .inl v2, .inl v3] [] σ Q :=
  hK.1 (d + 1) 76 29 [.inr 26, .inl v1, .inl v2, .inl v3] _ _ _ (hK.1 (d + 1) 76 30 _ _ _ _ (And.intro trivial (h)))
-- 77: LetterDays$Ways.sweep
theorem bY_sweep_0 {K : am_KT} (hK : am_C K) {d : Nat} {σ : am_S} {Q : am_Q} {v1 : Int} (e0 : am_rng (am_and (σ 26 7) (am_shl 1 v1))) (hT : am_and (σ 26 7) (am_shl 1 v1) ≠ 0 → K (d + 1) 77 21 [.inr 26, .inl v1] [] σ Q) (hF : am_and (σ 26 7) (am_shl 1 v1) = 0 → K (d + 1) 77 7 [.inr 26, .inl v1] [] σ Q) : K (d + 1) 77 0 [.inr 26, .inl v1] [] σ Q :=
  hK.1 (d + 1) 77 0 [.inr 26, .inl v1] _ _ _ (hK.1 (d + 1) 77 1 _ _ _ _ (hK.1 (d + 1) 77 2 _ _ _ _ (hK.1 (d + 1) 77 3 _ _ _ _ (hK.1 (d + 1) 77 4 _ _ _ _ (hK.1 (d + 1) 77 5 _ _ _ _ (hK.1 (d + 1) 77 6 _ _ _ _ (And.intro e0 (And.intro (And.intro (by decide) (by decide)) (And.intro (fun g => hT g) (fun g => hF g))))))))))
theorem bY_sweep_7 {K : am_KT} (hK : am_C K) {d : Nat} {σ : am_S} {Q : am_Q} {v1 : Int} (h : K d 78 0 [.inr 26, .inl v1] [] σ (fun o σ1 => K (d + 1) 77 10 [.inr 26, .inl v1] (am_o o ++ []) σ1 Q)) : K (d + 1) 77 7 [.inr 26, .inl v1] [] σ Q :=
  hK.1 (d + 1) 77 7 [.inr 26, .inl v1] _ _ _ (hK.1 (d + 1) 77 8 _ _ _ _ (hK.1 (d + 1) 77 9 _ _ _ _ (h)))
theorem bY_sweep_10 {K : am_KT} (hK : am_C K) {d : Nat} {σ : am_S} {Q : am_Q} {v1 : Int} (h : K d 80 0 [.inr 26, .inl v1] [] σ (fun o σ1 => K (d + 1) 77 13 [.inr 26, .inl v1] (am_o o ++ []) σ1 Q)) : K (d + 1) 77 10 [.inr 26, .inl v1] [] σ Q :=
  hK.1 (d + 1) 77 10 [.inr 26, .inl v1] _ _ _ (hK.1 (d + 1) 77 11 _ _ _ _ (hK.1 (d + 1) 77 12 _ _ _ _ (h)))
theorem bY_sweep_13 {K : am_KT} (hK : am_C K) {d : Nat} {σ : am_S} {Q : am_Q} {v1 : Int} (h : K (d + 1) 77 21 [.inr 26, .inl v1] [] (am_us σ 26 7 (am_or (σ 26 7) (am_shl 1 v1))) Q) : K (d + 1) 77 13 [.inr 26, .inl v1] [] σ Q :=
  hK.1 (d + 1) 77 13 [.inr 26, .inl v1] _ _ _ (hK.1 (d + 1) 77 14 _ _ _ _ (hK.1 (d + 1) 77 15 _ _ _ _ (hK.1 (d + 1) 77 16 _ _ _ _ (hK.1 (d + 1) 77 17 _ _ _ _ (hK.1 (d + 1) 77 18 _ _ _ _ (hK.1 (d + 1) 77 19 _ _ _ _ (hK.1 (d + 1) 77 20 _ _ _ _ (h))))))))
theorem bY_sweep_21 {K : am_KT} (hK : am_C K) {d : Nat} {σ : am_S} {Q : am_Q} {v1 : Int} (h : Q none σ) : K (d + 1) 77 21 [.inr 26, .inl v1] [] σ Q :=
  hK.1 (d + 1) 77 21 [.inr 26, .inl v1] _ _ _ (h)
-- 78: LetterDays$Ways.sweepUp
theorem bY_sweepUp_0 {K : am_KT} (hK : am_C K) {d : Nat} {σ : am_S} {Q : am_Q} {v1 : Int} (e0 : 0 ≤ v1 ∧ v1 < 8) (h : K (d + 1) 78 7 [.inr 26, .inl v1, .inl 0] [] (am_us σ 31 v1 0) Q) : K (d + 1) 78 0 [.inr 26, .inl v1] [] σ Q :=
  hK.1 (d + 1) 78 0 [.inr 26, .inl v1] _ _ _ (hK.1 (d + 1) 78 1 _ _ _ _ (hK.1 (d + 1) 78 2 _ _ _ _ (hK.1 (d + 1) 78 3 _ _ _ _ (hK.1 (d + 1) 78 4 _ _ _ _ (And.intro e0 (hK.1 (d + 1) 78 5 _ _ _ _ (hK.1 (d + 1) 78 6 _ _ _ _ (h))))))))
theorem bY_sweepUp_7 {K : am_KT} (hK : am_C K) {d : Nat} {σ : am_S} {Q : am_Q} {v1 v2 : Int} (e0 : am_rng v2) (e1 : am_rng (σ 17 0)) (hT : σ 17 0 ≤ v2 → K (d + 1) 78 31 [.inr 26, .inl v1, .inl v2] [] σ Q) (hF : v2 < σ 17 0 → K (d + 1) 78 12 [.inr 26, .inl v1, .inl v2] [] σ Q) : K (d + 1) 78 7 [.inr 26, .inl v1, .inl v2] [] σ Q :=
  hK.1 (d + 1) 78 7 [.inr 26, .inl v1, .inl v2] _ _ _ (hK.1 (d + 1) 78 8 _ _ _ _ (hK.1 (d + 1) 78 9 _ _ _ _ (hK.1 (d + 1) 78 10 _ _ _ _ (hK.1 (d + 1) 78 11 _ _ _ _ (And.intro e0 (And.intro e1 (And.intro (fun g => hT g) (fun g => hF g))))))))
theorem bY_sweepUp_12 {K : am_KT} (hK : am_C K) {d : Nat} {σ : am_S} {Q : am_Q} {v1 v2 : Int} (e0 : 0 ≤ (v1 * 8) + v2 ∧ (v1 * 8) + v2 < 64) (e1 : 0 ≤ v2 ∧ v2 < 8) (e2 : 0 ≤ v2 ∧ v2 < 8) (h : K (d + 1) 78 7 [.inr 26, .inl v1, .inl (v2 + 1)] [] (am_us (am_us σ 32 ((v1 * 8) + v2) 200) 29 v2 ((am_us σ 32 ((v1 * 8) + v2) 200) 27 v2)) Q) : K (d + 1) 78 12 [.inr 26, .inl v1, .inl v2] [] σ Q :=
  hK.1 (d + 1) 78 12 [.inr 26, .inl v1, .inl v2] _ _ _ (hK.1 (d + 1) 78 13 _ _ _ _ (hK.1 (d + 1) 78 14 _ _ _ _ (hK.1 (d + 1) 78 15 _ _ _ _ (hK.1 (d + 1) 78 16 _ _ _ _ (hK.1 (d + 1) 78 17 _ _ _ _ (hK.1 (d + 1) 78 18 _ _ _ _ (hK.1 (d + 1) 78 19 _ _ _ _ (hK.1 (d + 1) 78 20 _ _ _ _ (And.intro e0 (hK.1 (d + 1) 78 21 _ _ _ _ (hK.1 (d + 1) 78 22 _ _ _ _ (hK.1 (d + 1) 78 23 _ _ _ _ (hK.1 (d + 1) 78 24 _ _ _ _ (hK.1 (d + 1) 78 25 _ _ _ _ (hK.1 (d + 1) 78 26 _ _ _ _ (hK.1 (d + 1) 78 27 _ _ _ _ (And.intro e1 (hK.1 (d + 1) 78 28 _ _ _ _ (And.intro e2 (hK.1 (d + 1) 78 29 _ _ _ _ (hK.1 (d + 1) 78 30 [.inr 26, .inl v1, .inl (v2 + 1)] _ _ _ (h))))))))))))))))))))))
theorem bY_sweepUp_31 {K : am_KT} (hK : am_C K) {d : Nat} {σ : am_S} {Q : am_Q} {v1 v2 : Int} (h : K (d + 1) 78 35 [.inr 26, .inl v1, .inl 1, .inl 0] [] σ Q) : K (d + 1) 78 31 [.inr 26, .inl v1, .inl v2] [] σ Q :=
  hK.1 (d + 1) 78 31 [.inr 26, .inl v1, .inl v2] _ _ _ (hK.1 (d + 1) 78 32 _ _ _ _ (hK.1 (d + 1) 78 33 [.inr 26, .inl v1, .inl 1] _ _ _ (hK.1 (d + 1) 78 34 _ _ _ _ (h))))
theorem bY_sweepUp_35 {K : am_KT} (hK : am_C K) {d : Nat} {σ : am_S} {Q : am_Q} {v1 v2 v3 : Int} (e0 : am_rng v3) (hT : 200 ≤ v3 → K (d + 1) 78 115 [.inr 26, .inl v1, .inl v2, .inl v3] [] σ Q) (hF : v3 < 200 → K (d + 1) 78 38 [.inr 26, .inl v1, .inl v2, .inl v3] [] σ Q) : K (d + 1) 78 35 [.inr 26, .inl v1, .inl v2, .inl v3] [] σ Q :=
  hK.1 (d + 1) 78 35 [.inr 26, .inl v1, .inl v2, .inl v3] _ _ _ (hK.1 (d + 1) 78 36 _ _ _ _ (hK.1 (d + 1) 78 37 _ _ _ _ (And.intro e0 (And.intro (And.intro (by decide) (by decide)) (And.intro (fun g => hT g) (fun g => hF g))))))
theorem bY_sweepUp_38 {K : am_KT} (hK : am_C K) {d : Nat} {σ : am_S} {Q : am_Q} {v1 v2 v3 : Int} (e0 : am_rng v2) (hT : v2 = 0 → K (d + 1) 78 74 [.inr 26, .inl v1, .inl v2, .inl v3] [] σ Q) (hF : v2 ≠ 0 → K (d + 1) 78 40 [.inr 26, .inl v1, .inl v2, .inl v3] [] σ Q) : K (d + 1) 78 38 [.inr 26, .inl v1, .inl v2, .inl v3] [] σ Q :=
  hK.1 (d + 1) 78 38 [.inr 26, .inl v1, .inl v2, .inl v3] _ _ _ (hK.1 (d + 1) 78 39 _ _ _ _ (And.intro e0 (And.intro (And.intro (by decide) (by decide)) (And.intro (fun g => hT g) (fun g => hF g)))))
theorem bY_sweepUp_40 {K : am_KT} (hK : am_C K) {d : Nat} {σ : am_S} {Q : am_Q} {v1 v2 v3 : Int} (e0 : 0 ≤ v1 ∧ v1 < 8) (e1 : am_rng (σ 29 v1)) (e2 : am_rng v3) (hT : v3 ≤ σ 29 v1 → K (d + 1) 78 74 [.inr 26, .inl v1, .inl v2, .inl v3] [] σ Q) (hF : σ 29 v1 < v3 → K (d + 1) 78 46 [.inr 26, .inl v1, .inl v2, .inl v3] [] σ Q) : K (d + 1) 78 40 [.inr 26, .inl v1, .inl v2, .inl v3] [] σ Q :=
  hK.1 (d + 1) 78 40 [.inr 26, .inl v1, .inl v2, .inl v3] _ _ _ (hK.1 (d + 1) 78 41 _ _ _ _ (hK.1 (d + 1) 78 42 _ _ _ _ (hK.1 (d + 1) 78 43 _ _ _ _ (And.intro e0 (hK.1 (d + 1) 78 44 _ _ _ _ (hK.1 (d + 1) 78 45 _ _ _ _ (And.intro e1 (And.intro e2 (And.intro (fun g => hT g) (fun g => hF g))))))))))
theorem bY_sweepUp_46 {K : am_KT} (hK : am_C K) {d : Nat} {σ : am_S} {Q : am_Q} {v1 v2 v3 : Int} (h : K d 68 0 [.inr 34, .inl v1, .inl v3] [] σ (fun o σ1 => K (d + 1) 78 54 [.inr 26, .inl v1, .inl v2, .inl v3] (am_o o ++ [.inl v1, .inr 29]) σ1 Q)) : K (d + 1) 78 46 [.inr 26, .inl v1, .inl v2, .inl v3] [] σ Q :=
  hK.1 (d + 1) 78 46 [.inr 26, .inl v1, .inl v2, .inl v3] _ _ _ (hK.1 (d + 1) 78 47 _ _ _ _ (hK.1 (d + 1) 78 48 _ _ _ _ (hK.1 (d + 1) 78 49 _ _ _ _ (hK.1 (d + 1) 78 50 _ _ _ _ (hK.1 (d + 1) 78 51 _ _ _ _ (hK.1 (d + 1) 78 52 _ _ _ _ (hK.1 (d + 1) 78 53 _ _ _ _ (h))))))))
theorem bY_sweepUp_54 {K : am_KT} (hK : am_C K) {d : Nat} {σ : am_S} {Q : am_Q} {v1 v2 v3 s0 s1 : Int} (e0 : 0 ≤ s1 ∧ s1 < 8) (e1 : 0 ≤ v1 ∧ v1 < 8) (e2 : 0 ≤ v1 ∧ v1 < 8) (e3 : am_rng ((am_us σ 29 s1 s0) 29 v1)) (e4 : am_rng ((am_us σ 29 s1 s0) 28 v1)) (hT : (am_us σ 29 s1 s0) 28 v1 < (am_us σ 29 s1 s0) 29 v1 → K (d + 1) 78 72 [.inr 26, .inl v1, .inl v2, .inl v3] [] (am_us σ 29 s1 s0) Q) (hF : (am_us σ 29 s1 s0) 29 v1 ≤ (am_us σ 29 s1 s0) 28 v1 → K (d + 1) 78 64 [.inr 26, .inl v1, .inl v2, .inl v3] [] (am_us σ 29 s1 s0) Q) : K (d + 1) 78 54 [.inr 26, .inl v1, .inl v2, .inl v3] [.inl s0, .inl s1, .inr 29] σ Q :=
  hK.1 (d + 1) 78 54 [.inr 26, .inl v1, .inl v2, .inl v3] _ _ _ (And.intro e0 (hK.1 (d + 1) 78 55 _ _ _ _ (hK.1 (d + 1) 78 56 _ _ _ _ (hK.1 (d + 1) 78 57 _ _ _ _ (hK.1 (d + 1) 78 58 _ _ _ _ (And.intro e1 (hK.1 (d + 1) 78 59 _ _ _ _ (hK.1 (d + 1) 78 60 _ _ _ _ (hK.1 (d + 1) 78 61 _ _ _ _ (hK.1 (d + 1) 78 62 _ _ _ _ (And.intro e2 (hK.1 (d + 1) 78 63 _ _ _ _ (And.intro e3 (And.intro e4 (And.intro (fun g => hT g) (fun g => hF g))))))))))))))))
theorem bY_sweepUp_64 {K : am_KT} (hK : am_C K) {d : Nat} {σ : am_S} {Q : am_Q} {v1 v2 v3 : Int} (h : K d 66 0 [.inr 34, .inr 29] [] σ (fun o σ1 => K (d + 1) 78 69 [.inr 26, .inl v1, .inl v2, .inl v3] (am_o o ++ []) σ1 Q)) : K (d + 1) 78 64 [.inr 26, .inl v1, .inl v2, .inl v3] [] σ Q :=
  hK.1 (d + 1) 78 64 [.inr 26, .inl v1, .inl v2, .inl v3] _ _ _ (hK.1 (d + 1) 78 65 _ _ _ _ (hK.1 (d + 1) 78 66 _ _ _ _ (hK.1 (d + 1) 78 67 _ _ _ _ (hK.1 (d + 1) 78 68 _ _ _ _ (h)))))
theorem bY_sweepUp_69 {K : am_KT} (hK : am_C K) {d : Nat} {σ : am_S} {Q : am_Q} {v1 v2 v3 s0 : Int} (e0 : am_rng s0) (hT : s0 = 0 → K (d + 1) 78 72 [.inr 26, .inl v1, .inl v2, .inl v3] [] σ Q) (hF : s0 ≠ 0 → K (d + 1) 78 70 [.inr 26, .inl v1, .inl v2, .inl v3] [] σ Q) : K (d + 1) 78 69 [.inr 26, .inl v1, .inl v2, .inl v3] [.inl s0] σ Q :=
  hK.1 (d + 1) 78 69 [.inr 26, .inl v1, .inl v2, .inl v3] _ _ _ (And.intro e0 (And.intro (And.intro (by decide) (by decide)) (And.intro (fun g => hT g) (fun g => hF g))))
theorem bY_sweepUp_70 {K : am_KT} (hK : am_C K) {d : Nat} {σ : am_S} {Q : am_Q} {v1 v2 v3 : Int} (h : K (d + 1) 78 73 [.inr 26, .inl v1, .inl v2, .inl v3] [.inl 1] σ Q) : K (d + 1) 78 70 [.inr 26, .inl v1, .inl v2, .inl v3] [] σ Q :=
  hK.1 (d + 1) 78 70 [.inr 26, .inl v1, .inl v2, .inl v3] _ _ _ (hK.1 (d + 1) 78 71 _ _ _ _ (h))
theorem bY_sweepUp_72 {K : am_KT} (hK : am_C K) {d : Nat} {σ : am_S} {Q : am_Q} {v1 v2 v3 : Int} (h : K (d + 1) 78 73 [.inr 26, .inl v1, .inl v2, .inl v3] [.inl 0] σ Q) : K (d + 1) 78 72 [.inr 26, .inl v1, .inl v2, .inl v3] [] σ Q :=
  hK.1 (d + 1) 78 72 [.inr 26, .inl v1, .inl v2, .inl v3] _ _ _ (h)
theorem bY_sweepUp_73 {K : am_KT} (hK : am_C K) {d : Nat} {σ : am_S} {Q : am_Q} {v1 v2 v3 s0 : Int} (h : K (d + 1) 78 74 [.inr 26, .inl v1, .inl s0, .inl v3] [] σ Q) : K (d + 1) 78 73 [.inr 26, .inl v1, .inl v2, .inl v3] [.inl s0] σ Q :=
  hK.1 (d + 1) 78 73 [.inr 26, .inl v1, .inl v2, .inl v3] _ _ _ (h)
theorem bY_sweepUp_74 {K : am_KT} (hK : am_C K) {d : Nat} {σ : am_S} {Q : am_Q} {v1 v2 v3 : Int} (e0 : am_rng v2) (hT : v2 = 0 → K (d + 1) 78 104 [.inr 26, .inl v1, .inl v2, .inl v3] [] σ Q) (hF : v2 ≠ 0 → K (d + 1) 78 76 [.inr 26, .inl v1, .inl v2, .inl v3] [] σ Q) : K (d + 1) 78 74 [.inr 26, .inl v1, .inl v2, .inl v3] [] σ Q :=
  hK.1 (d + 1) 78 74 [.inr 26, .inl v1, .inl v2, .inl v3] _ _ _ (hK.1 (d + 1) 78 75 _ _ _ _ (And.intro e0 (And.intro (And.intro (by decide) (by decide)) (And.intro (fun g => hT g) (fun g => hF g)))))
theorem bY_sweepUp_76 {K : am_KT} (hK : am_C K) {d : Nat} {σ : am_S} {Q : am_Q} {v1 v2 v3 : Int} (e0 : 0 ≤ v1 ∧ v1 < 8) (e1 : am_rng (σ 29 v1)) (e2 : am_rng v3) (hT : σ 29 v1 ≠ v3 → K (d + 1) 78 104 [.inr 26, .inl v1, .inl v2, .inl v3] [] σ Q) (hF : σ 29 v1 = v3 → K (d + 1) 78 82 [.inr 26, .inl v1, .inl v2, .inl v3] [] σ Q) : K (d + 1) 78 76 [.inr 26, .inl v1, .inl v2, .inl v3] [] σ Q :=
  hK.1 (d + 1) 78 76 [.inr 26, .inl v1, .inl v2, .inl v3] _ _ _ (hK.1 (d + 1) 78 77 _ _ _ _ (hK.1 (d + 1) 78 78 _ _ _ _ (hK.1 (d + 1) 78 79 _ _ _ _ (And.intro e0 (hK.1 (d + 1) 78 80 _ _ _ _ (hK.1 (d + 1) 78 81 _ _ _ _ (And.intro e1 (And.intro e2 (And.intro (fun g => hT g) (fun g => hF g))))))))))
theorem bY_sweepUp_82 {K : am_KT} (hK : am_C K) {d : Nat} {σ : am_S} {Q : am_Q} {v1 v2 v3 : Int} (e0 : 0 ≤ v1 ∧ v1 < 8) (e1 : 0 ≤ v1 ∧ v1 < 8) (h : K d 81 0 [.inr 26] [] (am_us σ 31 v1 ((σ 31 v1) + 1)) (fun o σ1 => K (d + 1) 78 99 [.inr 26, .inl v1, .inl v2, .inl v3] (am_o o ++ [.inl ((v1 * 200) + v3), .inr 30]) σ1 Q)) : K (d + 1) 78 82 [.inr 26, .inl v1, .inl v2, .inl v3] [] σ Q :=
  hK.1 (d + 1) 78 82 [.inr 26, .inl v1, .inl v2, .inl v3] _ _ _ (hK.1 (d + 1) 78 83 _ _ _ _ (hK.1 (d + 1) 78 84 _ _ _ _ (hK.1 (d + 1) 78 85 _ _ _ _ (hK.1 (d + 1) 78 86 _ _ _ _ (And.intro e0 (hK.1 (d + 1) 78 87 _ _ _ _ (hK.1 (d + 1) 78 88 _ _ _ _ (hK.1 (d + 1) 78 89 _ _ _ _ (And.intro e1 (hK.1 (d + 1) 78 90 _ _ _ _ (hK.1 (d + 1) 78 91 _ _ _ _ (hK.1 (d + 1) 78 92 _ _ _ _ (hK.1 (d + 1) 78 93 _ _ _ _ (hK.1 (d + 1) 78 94 _ _ _ _ (hK.1 (d + 1) 78 95 _ _ _ _ (hK.1 (d + 1) 78 96 _ _ _ _ (hK.1 (d + 1) 78 97 _ _ _ _ (hK.1 (d + 1) 78 98 _ _ _ _ (h)))))))))))))))))))
theorem bY_sweepUp_99 {K : am_KT} (hK : am_C K) {d : Nat} {σ : am_S} {Q : am_Q} {v1 v2 v3 s0 s1 : Int} (e0 : 0 ≤ s1 ∧ s1 < 1600) (h : K d 79 0 [.inr 26, .inl v1] [] (am_us σ 30 s1 s0) (fun o σ1 => K (d + 1) 78 103 [.inr 26, .inl v1, .inl v2, .inl v3] (am_o o ++ []) σ1 Q)) : K (d + 1) 78 99 [.inr 26, .inl v1, .inl v2, .inl v3] [.inl s0, .inl s1, .inr 30] σ Q :=
  hK.1 (d + 1) 78 99 [.inr 26, .inl v1, .inl v2, .inl v3] _ _ _ (And.intro e0 (hK.1 (d + 1) 78 100 _ _ _ _ (hK.1 (d + 1) 78 101 _ _ _ _ (hK.1 (d + 1) 78 102 _ _ _ _ (h)))))
theorem bY_sweepUp_103 {K : am_KT} (hK : am_C K) {d : Nat} {σ : am_S} {Q : am_Q} {v1 v2 v3 : Int} (h : K (d + 1) 78 113 [.inr 26, .inl v1, .inl v2, .inl v3] [] σ Q) : K (d + 1) 78 103 [.inr 26, .inl v1, .inl v2, .inl v3] [] σ Q :=
  hK.1 (d + 1) 78 103 [.inr 26, .inl v1, .inl v2, .inl v3] _ _ _ (h)
theorem bY_sweepUp_104 {K : am_KT} (hK : am_C K) {d : Nat} {σ : am_S} {Q : am_Q} {v1 v2 v3 : Int} (e0 : 0 ≤ (v1 * 200) + v3 ∧ (v1 * 200) + v3 < 1600) (h : K (d + 1) 78 113 [.inr 26, .inl v1, .inl v2, .inl v3] [] (am_us σ 30 ((v1 * 200) + v3) (-1)) Q) : K (d + 1) 78 104 [.inr 26, .inl v1, .inl v2, .inl v3] [] σ Q :=
  hK.1 (d + 1) 78 104 [.inr 26, .inl v1, .inl v2, .inl v3] _ _ _ (hK.1 (d + 1) 78 105 _ _ _ _ (hK.1 (d + 1) 78 106 _ _ _ _ (hK.1 (d + 1) 78 107 _ _ _ _ (hK.1 (d + 1) 78 108 _ _ _ _ (hK.1 (d + 1) 78 109 _ _ _ _ (hK.1 (d + 1) 78 110 _ _ _ _ (hK.1 (d + 1) 78 111 _ _ _ _ (hK.1 (d + 1) 78 112 _ _ _ _ (And.intro e0 (h))))))))))
theorem bY_sweepUp_113 {K : am_KT} (hK : am_C K) {d : Nat} {σ : am_S} {Q : am_Q} {v1 v2 v3 : Int} (h : K (d + 1) 78 35 [.inr 26, .inl v1, .inl v2, .inl (v3 + 1)] [] σ Q) : K (d + 1) 78 113 [.inr 26, .inl v1, .inl v2, .inl v3] [] σ Q :=
  hK.1 (d + 1) 78 113 [.inr 26, .inl v1, .inl v2, .inl v3] _ _ _ (hK.1 (d + 1) 78 114 [.inr 26, .inl v1, .inl v2, .inl (v3 + 1)] _ _ _ (h))
theorem bY_sweepUp_115 {K : am_KT} (hK : am_C K) {d : Nat} {σ : am_S} {Q : am_Q} {v1 v2 v3 : Int} (h : Q none σ) : K (d + 1) 78 115 [.inr 26, .inl v1, .inl v2, .inl v3] [] σ Q :=
  hK.1 (d + 1) 78 115 [.inr 26, .inl v1, .inl v2, .inl v3] _ _ _ (h)
-- 79: LetterDays$Ways.lowerGaps
theorem bY_lowerGaps_0 {K : am_KT} (hK : am_C K) {d : Nat} {σ : am_S} {Q : am_Q} {v1 : Int} (h : K d 79 2 [.inr 26, .inl v1, .inl 0] [] σ Q) : K d 79 0 [.inr 26, .inl v1] [] σ Q :=
  hK.1 d 79 0 [.inr 26, .inl v1] _ _ _ (hK.1 d 79 1 _ _ _ _ (h))
theorem bY_lowerGaps_2 {K : am_KT} (hK : am_C K) {d : Nat} {σ : am_S} {Q : am_Q} {v1 v2 : Int} (e0 : am_rng v2) (e1 : am_rng (σ 17 0)) (hT : σ 17 0 ≤ v2 → K d 79 38 [.inr 26, .inl v1, .inl v2] [] σ Q) (hF : v2 < σ 17 0 → K d 79 7 [.inr 26, .inl v1, .inl v2] [] σ Q) : K d 79 2 [.inr 26, .inl v1, .inl v2] [] σ Q :=
  hK.1 d 79 2 [.inr 26, .inl v1, .inl v2] _ _ _ (hK.1 d 79 3 _ _ _ _ (hK.1 d 79 4 _ _ _ _ (hK.1 d 79 5 _ _ _ _ (hK.1 d 79 6 _ _ _ _ (And.intro e0 (And.intro e1 (And.intro (fun g => hT g) (fun g => hF g))))))))
theorem bY_lowerGaps_7 {K : am_KT} (hK : am_C K) {d : Nat} {σ : am_S} {Q : am_Q} {v1 v2 : Int} (e0 : 0 ≤ v2 ∧ v2 < 8) (e1 : 0 ≤ v1 ∧ v1 < 8) (e2 : 0 ≤ (v1 * 8) + v2 ∧ (v1 * 8) + v2 < 64) (e3 : am_rng ((σ 29 v2) - (σ 29 v1))) (e4 : am_rng (σ 32 ((v1 * 8) + v2))) (hT : σ 32 ((v1 * 8) + v2) ≤ (σ 29 v2) - (σ 29 v1) → K d 79 36 [.inr 26, .inl v1, .inl v2, .inl ((σ 29 v2) - (σ 29 v1))] [] σ Q) (hF : (σ 29 v2) - (σ 29 v1) < σ 32 ((v1 * 8) + v2) → K d 79 27 [.inr 26, .inl v1, .inl v2, .inl ((σ 29 v2) - (σ 29 v1))] [] σ Q) : K d 79 7 [.inr 26, .inl v1, .inl v2] [] σ Q :=
  hK.1 d 79 7 [.inr 26, .inl v1, .inl v2] _ _ _ (hK.1 d 79 8 _ _ _ _ (hK.1 d 79 9 _ _ _ _ (hK.1 d 79 10 _ _ _ _ (And.intro e0 (hK.1 d 79 11 _ _ _ _ (hK.1 d 79 12 _ _ _ _ (hK.1 d 79 13 _ _ _ _ (hK.1 d 79 14 _ _ _ _ (And.intro e1 (hK.1 d 79 15 _ _ _ _ (hK.1 d 79 16 _ _ _ _ (hK.1 d 79 17 [.inr 26, .inl v1, .inl v2, .inl ((σ 29 v2) - (σ 29 v1))] _ _ _ (hK.1 d 79 18 _ _ _ _ (hK.1 d 79 19 _ _ _ _ (hK.1 d 79 20 _ _ _ _ (hK.1 d 79 21 _ _ _ _ (hK.1 d 79 22 _ _ _ _ (hK.1 d 79 23 _ _ _ _ (hK.1 d 79 24 _ _ _ _ (hK.1 d 79 25 _ _ _ _ (And.intro e2 (hK.1 d 79 26 _ _ _ _ (And.intro e3 (And.intro e4 (And.intro (fun g => hT g) (fun g => hF g))))))))))))))))))))))))))
theorem bY_lowerGaps_27 {K : am_KT} (hK : am_C K) {d : Nat} {σ : am_S} {Q : am_Q} {v1 v2 v3 : Int} (e0 : 0 ≤ (v1 * 8) + v2 ∧ (v1 * 8) + v2 < 64) (h : K d 79 36 [.inr 26, .inl v1, .inl v2, .inl v3] [] (am_us σ 32 ((v1 * 8) + v2) v3) Q) : K d 79 27 [.inr 26, .inl v1, .inl v2, .inl v3] [] σ Q :=
  hK.1 d 79 27 [.inr 26, .inl v1, .inl v2, .inl v3] _ _ _ (hK.1 d 79 28 _ _ _ _ (hK.1 d 79 29 _ _ _ _ (hK.1 d 79 30 _ _ _ _ (hK.1 d 79 31 _ _ _ _ (hK.1 d 79 32 _ _ _ _ (hK.1 d 79 33 _ _ _ _ (hK.1 d 79 34 _ _ _ _ (hK.1 d 79 35 _ _ _ _ (And.intro e0 (h))))))))))
theorem bY_lowerGaps_36 {K : am_KT} (hK : am_C K) {d : Nat} {σ : am_S} {Q : am_Q} {v1 v2 v3 : Int} (h : K d 79 2 [.inr 26, .inl v1, .inl (v2 + 1)] [] σ Q) : K d 79 36 [.inr 26, .inl v1, .inl v2, .inl v3] [] σ Q :=
  hK.1 d 79 36 [.inr 26, .inl v1, .inl v2, .inl v3] _ _ _ (hK.1 d 79 37 [.inr 26, .inl v1, .inl (v2 + 1), .inl v3] _ _ _ (hK.2.1 d 79 2 [.inr 26, .inl v1, .inl (v2 + 1)] [.inl v3] [] σ Q (h)))
theorem bY_lowerGaps_38 {K : am_KT} (hK : am_C K) {d : Nat} {σ : am_S} {Q : am_Q} {v1 v2 : Int} (h : Q none σ) : K d 79 38 [.inr 26, .inl v1, .inl v2] [] σ Q :=
  hK.1 d 79 38 [.inr 26, .inl v1, .inl v2] _ _ _ (h)
-- 80: LetterDays$Ways.sweepDown
theorem bY_sweepDown_0 {K : am_KT} (hK : am_C K) {d : Nat} {σ : am_S} {Q : am_Q} {v1 : Int} (e0 : 0 ≤ v1 ∧ v1 < 8) (h : K (d + 1) 80 7 [.inr 26, .inl v1, .inl 0] [] (am_us σ 33 v1 0) Q) : K (d + 1) 80 0 [.inr 26, .inl v1] [] σ Q :=
  hK.1 (d + 1) 80 0 [.inr 26, .inl v1] _ _ _ (hK.1 (d + 1) 80 1 _ _ _ _ (hK.1 (d + 1) 80 2 _ _ _ _ (hK.1 (d + 1) 80 3 _ _ _ _ (hK.1 (d + 1) 80 4 _ _ _ _ (And.intro e0 (hK.1 (d + 1) 80 5 _ _ _ _ (hK.1 (d + 1) 80 6 _ _ _ _ (h))))))))
theorem bY_sweepDown_7 {K : am_KT} (hK : am_C K) {d : Nat} {σ : am_S} {Q : am_Q} {v1 v2 : Int} (e0 : am_rng v2) (e1 : am_rng (σ 17 0)) (hT : σ 17 0 ≤ v2 → K (d + 1) 80 22 [.inr 26, .inl v1, .inl v2] [] σ Q) (hF : v2 < σ 17 0 → K (d + 1) 80 12 [.inr 26, .inl v1, .inl v2] [] σ Q) : K (d + 1) 80 7 [.inr 26, .inl v1, .inl v2] [] σ Q :=
  hK.1 (d + 1) 80 7 [.inr 26, .inl v1, .inl v2] _ _ _ (hK.1 (d + 1) 80 8 _ _ _ _ (hK.1 (d + 1) 80 9 _ _ _ _ (hK.1 (d + 1) 80 10 _ _ _ _ (hK.1 (d + 1) 80 11 _ _ _ _ (And.intro e0 (And.intro e1 (And.intro (fun g => hT g) (fun g => hF g))))))))
theorem bY_sweepDown_12 {K : am_KT} (hK : am_C K) {d : Nat} {σ : am_S} {Q : am_Q} {v1 v2 : Int} (e0 : 0 ≤ v2 ∧ v2 < 8) (e1 : 0 ≤ v2 ∧ v2 < 8) (h : K (d + 1) 80 7 [.inr 26, .inl v1, .inl (v2 + 1)] [] (am_us σ 29 v2 (σ 28 v2)) Q) : K (d + 1) 80 12 [.inr 26, .inl v1, .inl v2] [] σ Q :=
  hK.1 (d + 1) 80 12 [.inr 26, .inl v1, .inl v2] _ _ _ (hK.1 (d + 1) 80 13 _ _ _ _ (hK.1 (d + 1) 80 14 _ _ _ _ (hK.1 (d + 1) 80 15 _ _ _ _ (hK.1 (d + 1) 80 16 _ _ _ _ (hK.1 (d + 1) 80 17 _ _ _ _ (hK.1 (d + 1) 80 18 _ _ _ _ (And.intro e0 (hK.1 (d + 1) 80 19 _ _ _ _ (And.intro e1 (hK.1 (d + 1) 80 20 _ _ _ _ (hK.1 (d + 1) 80 21 [.inr 26, .inl v1, .inl (v2 + 1)] _ _ _ (h))))))))))))
theorem bY_sweepDown_22 {K : am_KT} (hK : am_C K) {d : Nat} {σ : am_S} {Q : am_Q} {v1 v2 : Int} (e0 : 0 ≤ v1 ∧ v1 < 8) (h : K (d + 1) 80 27 [.inr 26, .inl v1, .inl (σ 28 v1)] [] σ Q) : K (d + 1) 80 22 [.inr 26, .inl v1, .inl v2] [] σ Q :=
  hK.1 (d + 1) 80 22 [.inr 26, .inl v1, .inl v2] _ _ _ (hK.1 (d + 1) 80 23 _ _ _ _ (hK.1 (d + 1) 80 24 _ _ _ _ (hK.1 (d + 1) 80 25 _ _ _ _ (And.intro e0 (hK.1 (d + 1) 80 26 _ _ _ _ (h))))))
theorem bY_sweepDown_27 {K : am_KT} (hK : am_C K) {d : Nat} {σ : am_S} {Q : am_Q} {v1 v2 : Int} (e0 : 0 ≤ v1 ∧ v1 < 8) (e1 : am_rng v2) (e2 : am_rng (σ 27 v1)) (hT : v2 < σ 27 v1 → K (d + 1) 80 70 [.inr 26, .inl v1, .inl v2] [] σ Q) (hF : σ 27 v1 ≤ v2 → K (d + 1) 80 33 [.inr 26, .inl v1, .inl v2] [] σ Q) : K (d + 1) 80 27 [.inr 26, .inl v1, .inl v2] [] σ Q :=
  hK.1 (d + 1) 80 27 [.inr 26, .inl v1, .inl v2] _ _ _ (hK.1 (d + 1) 80 28 _ _ _ _ (hK.1 (d + 1) 80 29 _ _ _ _ (hK.1 (d + 1) 80 30 _ _ _ _ (hK.1 (d + 1) 80 31 _ _ _ _ (And.intro e0 (hK.1 (d + 1) 80 32 _ _ _ _ (And.intro e1 (And.intro e2 (And.intro (fun g => hT g) (fun g => hF g))))))))))
theorem bY_sweepDown_33 {K : am_KT} (hK : am_C K) {d : Nat} {σ : am_S} {Q : am_Q} {v1 v2 : Int} (e0 : 0 ≤ (v1 * 200) + v2 ∧ (v1 * 200) + v2 < 1600) (e1 : am_rng (σ 30 ((v1 * 200) + v2))) (hT : σ 30 ((v1 * 200) + v2) = (-1) → K (d + 1) 80 68 [.inr 26, .inl v1, .inl v2, .inl (σ 30 ((v1 * 200) + v2))] [] σ Q) (hF : σ 30 ((v1 * 200) + v2) ≠ (-1) → K (d + 1) 80 45 [.inr 26, .inl v1, .inl v2, .inl (σ 30 ((v1 * 200) + v2))] [] σ Q) : K (d + 1) 80 33 [.inr 26, .inl v1, .inl v2] [] σ Q :=
  hK.1 (d + 1) 80 33 [.inr 26, .inl v1, .inl v2] _ _ _ (hK.1 (d + 1) 80 34 _ _ _ _ (hK.1 (d + 1) 80 35 _ _ _ _ (hK.1 (d + 1) 80 36 _ _ _ _ (hK.1 (d + 1) 80 37 _ _ _ _ (hK.1 (d + 1) 80 38 _ _ _ _ (hK.1 (d + 1) 80 39 _ _ _ _ (hK.1 (d + 1) 80 40 _ _ _ _ (And.intro e0 (hK.1 (d + 1) 80 41 _ _ _ _ (hK.1 (d + 1) 80 42 [.inr 26, .inl v1, .inl v2, .inl (σ 30 ((v1 * 200) + v2))] _ _ _ (hK.1 (d + 1) 80 43 _ _ _ _ (hK.1 (d + 1) 80 44 _ _ _ _ (And.intro e1 (And.intro (And.intro (by decide) (by decide)) (And.intro (fun g => hT g) (fun g => hF g))))))))))))))))
theorem bY_sweepDown_45 {K : am_KT} (hK : am_C K) {d : Nat} {σ : am_S} {Q : am_Q} {v1 v2 v3 : Int} (e0 : 0 ≤ v1 ∧ v1 < 8) (h : K d 67 0 [.inr 34, .inr 29] [] (am_us σ 29 v1 v2) (fun o σ1 => K (d + 1) 80 55 [.inr 26, .inl v1, .inl v2, .inl v3] (am_o o ++ []) σ1 Q)) : K (d + 1) 80 45 [.inr 26, .inl v1, .inl v2, .inl v3] [] σ Q :=
  hK.1 (d + 1) 80 45 [.inr 26, .inl v1, .inl v2, .inl v3] _ _ _ (hK.1 (d + 1) 80 46 _ _ _ _ (hK.1 (d + 1) 80 47 _ _ _ _ (hK.1 (d + 1) 80 48 _ _ _ _ (hK.1 (d + 1) 80 49 _ _ _ _ (And.intro e0 (hK.1 (d + 1) 80 50 _ _ _ _ (hK.1 (d + 1) 80 51 _ _ _ _ (hK.1 (d + 1) 80 52 _ _ _ _ (hK.1 (d + 1) 80 53 _ _ _ _ (hK.1 (d + 1) 80 54 _ _ _ _ (h)))))))))))
theorem bY_sweepDown_55 {K : am_KT} (hK : am_C K) {d : Nat} {σ : am_S} {Q : am_Q} {v1 v2 v3 : Int} (e0 : 0 ≤ v1 ∧ v1 < 8) (h : K d 81 0 [.inr 26] [] σ (fun o σ1 => K (d + 1) 80 64 [.inr 26, .inl v1, .inl v2, .inl v3] (am_o o ++ [.inl (σ 33 v1), .inl v1, .inr 33]) σ1 Q)) : K (d + 1) 80 55 [.inr 26, .inl v1, .inl v2, .inl v3] [] σ Q :=
  hK.1 (d + 1) 80 55 [.inr 26, .inl v1, .inl v2, .inl v3] _ _ _ (hK.1 (d + 1) 80 56 _ _ _ _ (hK.1 (d + 1) 80 57 _ _ _ _ (hK.1 (d + 1) 80 58 _ _ _ _ (hK.1 (d + 1) 80 59 _ _ _ _ (hK.1 (d + 1) 80 60 _ _ _ _ (hK.1 (d + 1) 80 61 _ _ _ _ (And.intro e0 (hK.1 (d + 1) 80 62 _ _ _ _ (hK.1 (d + 1) 80 63 _ _ _ _ (h))))))))))
theorem bY_sweepDown_64 {K : am_KT} (hK : am_C K) {d : Nat} {σ : am_S} {Q : am_Q} {v1 v2 v3 s0 s1 s2 : Int} (e0 : am_rng s1) (e1 : am_rng (s0 - v3)) (e2 : 0 ≤ s2 ∧ s2 < 8) (h : K (d + 1) 80 68 [.inr 26, .inl v1, .inl v2, .inl v3] [] (am_us σ 33 s2 (max s1 (s0 - v3))) Q) : K (d + 1) 80 64 [.inr 26, .inl v1, .inl v2, .inl v3] [.inl s0, .inl s1, .inl s2, .inr 33] σ Q :=
  hK.1 (d + 1) 80 64 [.inr 26, .inl v1, .inl v2, .inl v3] _ _ _ (hK.1 (d + 1) 80 65 _ _ _ _ (hK.1 (d + 1) 80 66 _ _ _ _ (And.intro e0 (And.intro e1 (hK.1 (d + 1) 80 67 _ _ _ _ (And.intro e2 (h)))))))
theorem bY_sweepDown_68 {K : am_KT} (hK : am_C K) {d : Nat} {σ : am_S} {Q : am_Q} {v1 v2 v3 : Int} (h : K (d + 1) 80 27 [.inr 26, .inl v1, .inl (v2 + (-1))] [] σ Q) : K (d + 1) 80 68 [.inr 26, .inl v1, .inl v2, .inl v3] [] σ Q :=
  hK.1 (d + 1) 80 68 [.inr 26, .inl v1, .inl v2, .inl v3] _ _ _ (hK.1 (d + 1) 80 69 [.inr 26, .inl v1, .inl (v2 + (-1)), .inl v3] _ _ _ (hK.2.1 (d + 1) 80 27 [.inr 26, .inl v1, .inl (v2 + (-1))] [.inl v3] [] σ Q (h)))
theorem bY_sweepDown_70 {K : am_KT} (hK : am_C K) {d : Nat} {σ : am_S} {Q : am_Q} {v1 v2 : Int} (h : Q none σ) : K (d + 1) 80 70 [.inr 26, .inl v1, .inl v2] [] σ Q :=
  hK.1 (d + 1) 80 70 [.inr 26, .inl v1, .inl v2] _ _ _ (h)
-- 81: LetterDays$Ways.sumOfDays
theorem bY_sumOfDays_0 {K : am_KT} (hK : am_C K) {d : Nat} {σ : am_S} {Q : am_Q} (h : K d 81 4 [.inr 26, .inl 0, .inl 0] [] σ Q) : K d 81 0 [.inr 26] [] σ Q :=
  hK.1 d 81 0 [.inr 26] _ _ _ (hK.1 d 81 1 _ _ _ _ (hK.1 d 81 2 [.inr 26, .inl 0] _ _ _ (hK.1 d 81 3 _ _ _ _ (h))))
theorem bY_sumOfDays_4 {K : am_KT} (hK : am_C K) {d : Nat} {σ : am_S} {Q : am_Q} {v1 v2 : Int} (e0 : am_rng v2) (e1 : am_rng (σ 17 0)) (hT : σ 17 0 ≤ v2 → K d 81 18 [.inr 26, .inl v1, .inl v2] [] σ Q) (hF : v2 < σ 17 0 → K d 81 9 [.inr 26, .inl v1, .inl v2] [] σ Q) : K d 81 4 [.inr 26, .inl v1, .inl v2] [] σ Q :=
  hK.1 d 81 4 [.inr 26, .inl v1, .inl v2] _ _ _ (hK.1 d 81 5 _ _ _ _ (hK.1 d 81 6 _ _ _ _ (hK.1 d 81 7 _ _ _ _ (hK.1 d 81 8 _ _ _ _ (And.intro e0 (And.intro e1 (And.intro (fun g => hT g) (fun g => hF g))))))))
theorem bY_sumOfDays_9 {K : am_KT} (hK : am_C K) {d : Nat} {σ : am_S} {Q : am_Q} {v1 v2 : Int} (e0 : 0 ≤ v2 ∧ v2 < 8) (h : K d 81 4 [.inr 26, .inl (v1 + (σ 29 v2)), .inl (v2 + 1)] [] σ Q) : K d 81 9 [.inr 26, .inl v1, .inl v2] [] σ Q :=
  hK.1 d 81 9 [.inr 26, .inl v1, .inl v2] _ _ _ (hK.1 d 81 10 _ _ _ _ (hK.1 d 81 11 _ _ _ _ (hK.1 d 81 12 _ _ _ _ (hK.1 d 81 13 _ _ _ _ (And.intro e0 (hK.1 d 81 14 _ _ _ _ (hK.1 d 81 15 _ _ _ _ (hK.1 d 81 16 [.inr 26, .inl (v1 + (σ 29 v2)), .inl v2] _ _ _ (hK.1 d 81 17 [.inr 26, .inl (v1 + (σ 29 v2)), .inl (v2 + 1)] _ _ _ (h))))))))))
theorem bY_sumOfDays_18 {K : am_KT} (hK : am_C K) {d : Nat} {σ : am_S} {Q : am_Q} {v1 v2 : Int} (h : Q (some v1) σ) : K d 81 18 [.inr 26, .inl v1, .inl v2] [] σ Q :=
  hK.1 d 81 18 [.inr 26, .inl v1, .inl v2] _ _ _ (hK.1 d 81 19 _ _ _ _ (And.intro trivial (h)))
-- 82: LetterDays$Knots.lightest
theorem bT_lightest_0 {K : am_KT} (hK : am_C K) {d : Nat} {σ : am_S} {Q : am_Q} (e0 : am_rng (σ 41 0)) (hT : σ 41 0 ≠ 0 → K (d + 1) 82 18 [.inr 41] [] σ Q) (hF : σ 41 0 = 0 → K (d + 1) 82 3 [.inr 41] [] σ Q) : K (d + 1) 82 0 [.inr 41] [] σ Q :=
  hK.1 (d + 1) 82 0 [.inr 41] _ _ _ (hK.1 (d + 1) 82 1 _ _ _ _ (hK.1 (d + 1) 82 2 _ _ _ _ (And.intro e0 (And.intro (And.intro (by decide) (by decide)) (And.intro (fun g => hT g) (fun g => hF g))))))
theorem bT_lightest_3 {K : am_KT} (hK : am_C K) {d : Nat} {σ : am_S} {Q : am_Q} (h : K d 84 0 [.inr 41, .inl (((am_us σ 41 5 0) 20 0) - 1), .inl 0, .inl 0] [] (am_us σ 41 5 0) (fun o σ1 => K (d + 1) 82 15 [.inr 41] (am_o o ++ []) σ1 Q)) : K (d + 1) 82 3 [.inr 41] [] σ Q :=
  hK.1 (d + 1) 82 3 [.inr 41] _ _ _ (hK.1 (d + 1) 82 4 _ _ _ _ (hK.1 (d + 1) 82 5 _ _ _ _ (And.intro (Or.inl rfl) (hK.1 (d + 1) 82 6 _ _ _ _ (hK.1 (d + 1) 82 7 _ _ _ _ (hK.1 (d + 1) 82 8 _ _ _ _ (hK.1 (d + 1) 82 9 _ _ _ _ (hK.1 (d + 1) 82 10 _ _ _ _ (hK.1 (d + 1) 82 11 _ _ _ _ (hK.1 (d + 1) 82 12 _ _ _ _ (hK.1 (d + 1) 82 13 _ _ _ _ (hK.1 (d + 1) 82 14 _ _ _ _ (h)))))))))))))
theorem bT_lightest_15 {K : am_KT} (hK : am_C K) {d : Nat} {σ : am_S} {Q : am_Q} (h : K (d + 1) 82 18 [.inr 41] [] (am_us σ 41 0 1) Q) : K (d + 1) 82 15 [.inr 41] [] σ Q :=
  hK.1 (d + 1) 82 15 [.inr 41] _ _ _ (hK.1 (d + 1) 82 16 _ _ _ _ (hK.1 (d + 1) 82 17 _ _ _ _ (And.intro (Or.inr rfl) (h))))
theorem bT_lightest_18 {K : am_KT} (hK : am_C K) {d : Nat} {σ : am_S} {Q : am_Q} (h : Q (some (σ 41 6)) σ) : K (d + 1) 82 18 [.inr 41] [] σ Q :=
  hK.1 (d + 1) 82 18 [.inr 41] _ _ _ (hK.1 (d + 1) 82 19 _ _ _ _ (hK.1 (d + 1) 82 20 _ _ _ _ (And.intro trivial (h))))
-- 83: LetterDays$Knots.unsparable
theorem bT_unsparable_0 {K : am_KT} (hK : am_C K) {d : Nat} {σ : am_S} {Q : am_Q} (h : K (d + 1) 83 10 [.inr 41, .inl (σ 20 1), .inl ((σ 20 0) - 1)] [] σ Q) : K (d + 1) 83 0 [.inr 41] [] σ Q :=
  hK.1 (d + 1) 83 0 [.inr 41] _ _ _ (hK.1 (d + 1) 83 1 _ _ _ _ (hK.1 (d + 1) 83 2 _ _ _ _ (hK.1 (d + 1) 83 3 _ _ _ _ (hK.1 (d + 1) 83 4 [.inr 41, .inl (σ 20 1)] _ _ _ (hK.1 (d + 1) 83 5 _ _ _ _ (hK.1 (d + 1) 83 6 _ _ _ _ (hK.1 (d + 1) 83 7 _ _ _ _ (hK.1 (d + 1) 83 8 _ _ _ _ (hK.1 (d + 1) 83 9 _ _ _ _ (h))))))))))
theorem bT_unsparable_10 {K : am_KT} (hK : am_C K) {d : Nat} {σ : am_S} {Q : am_Q} {v1 v2 : Int} (e0 : am_rng v2) (hT : v2 < 0 → K (d + 1) 83 31 [.inr 41, .inl v1, .inl v2] [] σ Q) (hF : 0 ≤ v2 → K (d + 1) 83 12 [.inr 41, .inl v1, .inl v2] [] σ Q) : K (d + 1) 83 10 [.inr 41, .inl v1, .inl v2] [] σ Q :=
  hK.1 (d + 1) 83 10 [.inr 41, .inl v1, .inl v2] _ _ _ (hK.1 (d + 1) 83 11 _ _ _ _ (And.intro e0 (And.intro (And.intro (by decide) (by decide)) (And.intro (fun g => hT g) (fun g => hF g)))))
theorem bT_unsparable_12 {K : am_KT} (hK : am_C K) {d : Nat} {σ : am_S} {Q : am_Q} {v1 v2 : Int} (e0 : am_rng (am_and v1 (am_xor (am_shl 1 v2) (-1)))) (e1 : am_rng v1) (hT : am_and v1 (am_xor (am_shl 1 v2) (-1)) = v1 → K (d + 1) 83 29 [.inr 41, .inl v1, .inl v2, .inl (am_and v1 (am_xor (am_shl 1 v2) (-1)))] [] σ Q) (hF : am_and v1 (am_xor (am_shl 1 v2) (-1)) ≠ v1 → K (d + 1) 83 23 [.inr 41, .inl v1, .inl v2, .inl (am_and v1 (am_xor (am_shl 1 v2) (-1)))] [] σ Q) : K (d + 1) 83 12 [.inr 41, .inl v1, .inl v2] [] σ Q :=
  hK.1 (d + 1) 83 12 [.inr 41, .inl v1, .inl v2] _ _ _ (hK.1 (d + 1) 83 13 _ _ _ _ (hK.1 (d + 1) 83 14 _ _ _ _ (hK.1 (d + 1) 83 15 _ _ _ _ (hK.1 (d + 1) 83 16 _ _ _ _ (hK.1 (d + 1) 83 17 _ _ _ _ (hK.1 (d + 1) 83 18 _ _ _ _ (hK.1 (d + 1) 83 19 _ _ _ _ (hK.1 (d + 1) 83 20 [.inr 41, .inl v1, .inl v2, .inl (am_and v1 (am_xor (am_shl 1 v2) (-1)))] _ _ _ (hK.1 (d + 1) 83 21 _ _ _ _ (hK.1 (d + 1) 83 22 _ _ _ _ (And.intro e0 (And.intro e1 (And.intro (fun g => hT g) (fun g => hF g))))))))))))))
theorem bT_unsparable_23 {K : am_KT} (hK : am_C K) {d : Nat} {σ : am_S} {Q : am_Q} {v1 v2 v3 : Int} (h : K d 87 0 [.inr 41, .inl v3] [] σ (fun o σ1 => K (d + 1) 83 26 [.inr 41, .inl v1, .inl v2, .inl v3] (am_o o ++ []) σ1 Q)) : K (d + 1) 83 23 [.inr 41, .inl v1, .inl v2, .inl v3] [] σ Q :=
  hK.1 (d + 1) 83 23 [.inr 41, .inl v1, .inl v2, .inl v3] _ _ _ (hK.1 (d + 1) 83 24 _ _ _ _ (hK.1 (d + 1) 83 25 _ _ _ _ (h)))
theorem bT_unsparable_26 {K : am_KT} (hK : am_C K) {d : Nat} {σ : am_S} {Q : am_Q} {v1 v2 v3 s0 : Int} (e0 : am_rng s0) (hT : s0 ≠ 0 → K (d + 1) 83 29 [.inr 41, .inl v1, .inl v2, .inl v3] [] σ Q) (hF : s0 = 0 → K (d + 1) 83 27 [.inr 41, .inl v1, .inl v2, .inl v3] [] σ Q) : K (d + 1) 83 26 [.inr 41, .inl v1, .inl v2, .inl v3] [.inl s0] σ Q :=
  hK.1 (d + 1) 83 26 [.inr 41, .inl v1, .inl v2, .inl v3] _ _ _ (And.intro e0 (And.intro (And.intro (by decide) (by decide)) (And.intro (fun g => hT g) (fun g => hF g))))
theorem bT_unsparable_27 {K : am_KT} (hK : am_C K) {d : Nat} {σ : am_S} {Q : am_Q} {v1 v2 v3 : Int} (h : K (d + 1) 83 29 [.inr 41, .inl v3, .inl v2, .inl v3] [] σ Q) : K (d + 1) 83 27 [.inr 41, .inl v1, .inl v2, .inl v3] [] σ Q :=
  hK.1 (d + 1) 83 27 [.inr 41, .inl v1, .inl v2, .inl v3] _ _ _ (hK.1 (d + 1) 83 28 _ _ _ _ (h))
theorem bT_unsparable_29 {K : am_KT} (hK : am_C K) {d : Nat} {σ : am_S} {Q : am_Q} {v1 v2 v3 : Int} (h : K (d + 1) 83 10 [.inr 41, .inl v1, .inl (v2 + (-1))] [] σ Q) : K (d + 1) 83 29 [.inr 41, .inl v1, .inl v2, .inl v3] [] σ Q :=
  hK.1 (d + 1) 83 29 [.inr 41, .inl v1, .inl v2, .inl v3] _ _ _ (hK.1 (d + 1) 83 30 [.inr 41, .inl v1, .inl (v2 + (-1)), .inl v3] _ _ _ (hK.2.1 (d + 1) 83 10 [.inr 41, .inl v1, .inl (v2 + (-1))] [.inl v3] [] σ Q (h)))
theorem bT_unsparable_31 {K : am_KT} (hK : am_C K) {d : Nat} {σ : am_S} {Q : am_Q} {v1 v2 : Int} (h : Q (some v1) σ) : K (d + 1) 83 31 [.inr 41, .inl v1, .inl v2] [] σ Q :=
  hK.1 (d + 1) 83 31 [.inr 41, .inl v1, .inl v2] _ _ _ (hK.1 (d + 1) 83 32 _ _ _ _ (And.intro trivial (h)))
-- 84: LetterDays$Knots.seek
theorem bT_seek_0 {K : am_KT} (hK : am_C K) {d : Nat} {σ : am_S} {Q : am_Q} {v1 v2 v3 : Int} (h : K d 85 0 [.inr 41, .inl v3] [] σ (fun o σ1 => K (d + 1) 84 3 [.inr 41, .inl v1, .inl v2, .inl v3] (am_o o ++ []) σ1 Q)) : K (d + 1) 84 0 [.inr 41, .inl v1, .inl v2, .inl v3] [] σ Q :=
  hK.1 (d + 1) 84 0 [.inr 41, .inl v1, .inl v2, .inl v3] _ _ _ (hK.1 (d + 1) 84 1 _ _ _ _ (hK.1 (d + 1) 84 2 _ _ _ _ (h)))
theorem bT_seek_3 {K : am_KT} (hK : am_C K) {d : Nat} {σ : am_S} {Q : am_Q} {v1 v2 v3 s0 : Int} (e0 : am_rng s0) (hT : s0 ≠ 0 → K (d + 1) 84 5 [.inr 41, .inl v1, .inl v2, .inl v3] [] σ Q) (hF : s0 = 0 → K (d + 1) 84 4 [.inr 41, .inl v1, .inl v2, .inl v3] [] σ Q) : K (d + 1) 84 3 [.inr 41, .inl v1, .inl v2, .inl v3] [.inl s0] σ Q :=
  hK.1 (d + 1) 84 3 [.inr 41, .inl v1, .inl v2, .inl v3] _ _ _ (And.intro e0 (And.intro (And.intro (by decide) (by decide)) (And.intro (fun g => hT g) (fun g => hF g))))
theorem bT_seek_4 {K : am_KT} (hK : am_C K) {d : Nat} {σ : am_S} {Q : am_Q} {v1 v2 v3 : Int} (h : Q none σ) : K (d + 1) 84 4 [.inr 41, .inl v1, .inl v2, .inl v3] [] σ Q :=
  hK.1 (d + 1) 84 4 [.inr 41, .inl v1, .inl v2, .inl v3] _ _ _ (h)
theorem bT_seek_5 {K : am_KT} (hK : am_C K) {d : Nat} {σ : am_S} {Q : am_Q} {v1 v2 v3 : Int} (e0 : am_rng v1) (hT : 0 ≤ v1 → K (d + 1) 84 11 [.inr 41, .inl v1, .inl v2, .inl v3] [] σ Q) (hF : v1 < 0 → K (d + 1) 84 7 [.inr 41, .inl v1, .inl v2, .inl v3] [] σ Q) : K (d + 1) 84 5 [.inr 41, .inl v1, .inl v2, .inl v3] [] σ Q :=
  hK.1 (d + 1) 84 5 [.inr 41, .inl v1, .inl v2, .inl v3] _ _ _ (hK.1 (d + 1) 84 6 _ _ _ _ (And.intro e0 (And.intro (And.intro (by decide) (by decide)) (And.intro (fun g => hT g) (fun g => hF g)))))
theorem bT_seek_7 {K : am_KT} (hK : am_C K) {d : Nat} {σ : am_S} {Q : am_Q} {v1 v2 v3 : Int} (h : K d 86 0 [.inr 41, .inl v3] [] σ (fun o σ1 => K (d + 1) 84 10 [.inr 41, .inl v1, .inl v2, .inl v3] (am_o o ++ []) σ1 Q)) : K (d + 1) 84 7 [.inr 41, .inl v1, .inl v2, .inl v3] [] σ Q :=
  hK.1 (d + 1) 84 7 [.inr 41, .inl v1, .inl v2, .inl v3] _ _ _ (hK.1 (d + 1) 84 8 _ _ _ _ (hK.1 (d + 1) 84 9 _ _ _ _ (h)))
theorem bT_seek_10 {K : am_KT} (hK : am_C K) {d : Nat} {σ : am_S} {Q : am_Q} {v1 v2 v3 : Int} (h : Q none σ) : K (d + 1) 84 10 [.inr 41, .inl v1, .inl v2, .inl v3] [] σ Q :=
  hK.1 (d + 1) 84 10 [.inr 41, .inl v1, .inl v2, .inl v3] _ _ _ (h)
theorem bT_seek_11 {K : am_KT} (hK : am_C K) {d : Nat} {σ : am_S} {Q : am_Q} {v1 v2 v3 : Int} (h : K d 56 0 [.inr 20, .inl v1] [] σ (fun o σ1 => K (d + 1) 84 19 [.inr 41, .inl v1, .inl v2, .inl v3, .inl (am_shl 1 v1)] (am_o o ++ []) σ1 Q)) : K (d + 1) 84 11 [.inr 41, .inl v1, .inl v2, .inl v3] [] σ Q :=
  hK.1 (d + 1) 84 11 [.inr 41, .inl v1, .inl v2, .inl v3] _ _ _ (hK.1 (d + 1) 84 12 _ _ _ _ (hK.1 (d + 1) 84 13 _ _ _ _ (hK.1 (d + 1) 84 14 _ _ _ _ (hK.1 (d + 1) 84 15 [.inr 41, .inl v1, .inl v2, .inl v3, .inl (am_shl 1 v1)] _ _ _ (hK.1 (d + 1) 84 16 _ _ _ _ (hK.1 (d + 1) 84 17 _ _ _ _ (hK.1 (d + 1) 84 18 _ _ _ _ (h))))))))
theorem bT_seek_19 {K : am_KT} (hK : am_C K) {d : Nat} {σ : am_S} {Q : am_Q} {v1 v2 v3 v4 s0 : Int} (e0 : am_rng s0) (hT : s0 ≠ 0 → K (d + 1) 84 28 [.inr 41, .inl v1, .inl v2, .inl v3, .inl v4] [] σ Q) (hF : s0 = 0 → K (d + 1) 84 20 [.inr 41, .inl v1, .inl v2, .inl v3, .inl v4] [] σ Q) : K (d + 1) 84 19 [.inr 41, .inl v1, .inl v2, .inl v3, .inl v4] [.inl s0] σ Q :=
  hK.1 (d + 1) 84 19 [.inr 41, .inl v1, .inl v2, .inl v3, .inl v4] _ _ _ (And.intro e0 (And.intro (And.intro (by decide) (by decide)) (And.intro (fun g => hT g) (fun g => hF g))))
theorem bT_seek_20 {K : am_KT} (hK : am_C K) {d : Nat} {σ : am_S} {Q : am_Q} {v1 v2 v3 v4 : Int} (h : K d 84 0 [.inr 41, .inl (v1 - 1), .inl v2, .inl v3] [] σ (fun o σ1 => K (d + 1) 84 27 [.inr 41, .inl v1, .inl v2, .inl v3, .inl v4] (am_o o ++ []) σ1 Q)) : K (d + 1) 84 20 [.inr 41, .inl v1, .inl v2, .inl v3, .inl v4] [] σ Q :=
  hK.1 (d + 1) 84 20 [.inr 41, .inl v1, .inl v2, .inl v3, .inl v4] _ _ _ (hK.1 (d + 1) 84 21 _ _ _ _ (hK.1 (d + 1) 84 22 _ _ _ _ (hK.1 (d + 1) 84 23 _ _ _ _ (hK.1 (d + 1) 84 24 _ _ _ _ (hK.1 (d + 1) 84 25 _ _ _ _ (hK.1 (d + 1) 84 26 _ _ _ _ (h)))))))
theorem bT_seek_27 {K : am_KT} (hK : am_C K) {d : Nat} {σ : am_S} {Q : am_Q} {v1 v2 v3 v4 : Int} (h : Q none σ) : K (d + 1) 84 27 [.inr 41, .inl v1, .inl v2, .inl v3, .inl v4] [] σ Q :=
  hK.1 (d + 1) 84 27 [.inr 41, .inl v1, .inl v2, .inl v3, .inl v4] _ _ _ (h)
theorem bT_seek_28 {K : am_KT} (hK : am_C K) {d : Nat} {σ : am_S} {Q : am_Q} {v1 v2 v3 v4 : Int} (h : K d 87 0 [.inr 41, .inl (am_or v2 v4)] [] σ (fun o σ1 => K (d + 1) 84 33 [.inr 41, .inl v1, .inl v2, .inl v3, .inl v4] (am_o o ++ []) σ1 Q)) : K (d + 1) 84 28 [.inr 41, .inl v1, .inl v2, .inl v3, .inl v4] [] σ Q :=
  hK.1 (d + 1) 84 28 [.inr 41, .inl v1, .inl v2, .inl v3, .inl v4] _ _ _ (hK.1 (d + 1) 84 29 _ _ _ _ (hK.1 (d + 1) 84 30 _ _ _ _ (hK.1 (d + 1) 84 31 _ _ _ _ (hK.1 (d + 1) 84 32 _ _ _ _ (h)))))
theorem bT_seek_33 {K : am_KT} (hK : am_C K) {d : Nat} {σ : am_S} {Q : am_Q} {v1 v2 v3 v4 s0 : Int} (e0 : am_rng s0) (hT : s0 = 0 → K (d + 1) 84 43 [.inr 41, .inl v1, .inl v2, .inl v3, .inl v4] [] σ Q) (hF : s0 ≠ 0 → K (d + 1) 84 34 [.inr 41, .inl v1, .inl v2, .inl v3, .inl v4] [] σ Q) : K (d + 1) 84 33 [.inr 41, .inl v1, .inl v2, .inl v3, .inl v4] [.inl s0] σ Q :=
  hK.1 (d + 1) 84 33 [.inr 41, .inl v1, .inl v2, .inl v3, .inl v4] _ _ _ (And.intro e0 (And.intro (And.intro (by decide) (by decide)) (And.intro (fun g => hT g) (fun g => hF g))))
theorem bT_seek_34 {K : am_KT} (hK : am_C K) {d : Nat} {σ : am_S} {Q : am_Q} {v1 v2 v3 v4 : Int} (h : K d 84 0 [.inr 41, .inl (v1 - 1), .inl (am_or v2 v4), .inl v3] [] σ (fun o σ1 => K (d + 1) 84 43 [.inr 41, .inl v1, .inl v2, .inl v3, .inl v4] (am_o o ++ []) σ1 Q)) : K (d + 1) 84 34 [.inr 41, .inl v1, .inl v2, .inl v3, .inl v4] [] σ Q :=
  hK.1 (d + 1) 84 34 [.inr 41, .inl v1, .inl v2, .inl v3, .inl v4] _ _ _ (hK.1 (d + 1) 84 35 _ _ _ _ (hK.1 (d + 1) 84 36 _ _ _ _ (hK.1 (d + 1) 84 37 _ _ _ _ (hK.1 (d + 1) 84 38 _ _ _ _ (hK.1 (d + 1) 84 39 _ _ _ _ (hK.1 (d + 1) 84 40 _ _ _ _ (hK.1 (d + 1) 84 41 _ _ _ _ (hK.1 (d + 1) 84 42 _ _ _ _ (h)))))))))
theorem bT_seek_43 {K : am_KT} (hK : am_C K) {d : Nat} {σ : am_S} {Q : am_Q} {v1 v2 v3 v4 : Int} (h : K d 84 0 [.inr 41, .inl (v1 - 1), .inl v2, .inl (am_or v3 v4)] [] σ (fun o σ1 => K (d + 1) 84 52 [.inr 41, .inl v1, .inl v2, .inl v3, .inl v4] (am_o o ++ []) σ1 Q)) : K (d + 1) 84 43 [.inr 41, .inl v1, .inl v2, .inl v3, .inl v4] [] σ Q :=
  hK.1 (d + 1) 84 43 [.inr 41, .inl v1, .inl v2, .inl v3, .inl v4] _ _ _ (hK.1 (d + 1) 84 44 _ _ _ _ (hK.1 (d + 1) 84 45 _ _ _ _ (hK.1 (d + 1) 84 46 _ _ _ _ (hK.1 (d + 1) 84 47 _ _ _ _ (hK.1 (d + 1) 84 48 _ _ _ _ (hK.1 (d + 1) 84 49 _ _ _ _ (hK.1 (d + 1) 84 50 _ _ _ _ (hK.1 (d + 1) 84 51 _ _ _ _ (h)))))))))
theorem bT_seek_52 {K : am_KT} (hK : am_C K) {d : Nat} {σ : am_S} {Q : am_Q} {v1 v2 v3 v4 : Int} (h : Q none σ) : K (d + 1) 84 52 [.inr 41, .inl v1, .inl v2, .inl v3, .inl v4] [] σ Q :=
  hK.1 (d + 1) 84 52 [.inr 41, .inl v1, .inl v2, .inl v3, .inl v4] _ _ _ (h)
-- 85: LetterDays$Knots.isBeatenBy
theorem bT_isBeatenBy_0 {K : am_KT} (hK : am_C K) {d : Nat} {σ : am_S} {Q : am_Q} {v1 : Int} (h : K d 60 0 [.inr 20, .inl v1] [] σ (fun o σ1 => K (d + 1) 85 4 [.inr 41, .inl v1] (am_o o ++ []) σ1 Q)) : K (d + 1) 85 0 [.inr 41, .inl v1] [] σ Q :=
  hK.1 (d + 1) 85 0 [.inr 41, .inl v1] _ _ _ (hK.1 (d + 1) 85 1 _ _ _ _ (hK.1 (d + 1) 85 2 _ _ _ _ (hK.1 (d + 1) 85 3 _ _ _ _ (h))))
theorem bT_isBeatenBy_4 {K : am_KT} (hK : am_C K) {d : Nat} {σ : am_S} {Q : am_Q} {v1 s0 : Int} (e0 : am_rng (σ 41 5)) (hT : σ 41 5 = 0 → K (d + 1) 85 21 [.inr 41, .inl v1, .inl s0] [] σ Q) (hF : σ 41 5 ≠ 0 → K (d + 1) 85 8 [.inr 41, .inl v1, .inl s0] [] σ Q) : K (d + 1) 85 4 [.inr 41, .inl v1] [.inl s0] σ Q :=
  hK.1 (d + 1) 85 4 [.inr 41, .inl v1] _ _ _ (hK.1 (d + 1) 85 5 [.inr 41, .inl v1, .inl s0] _ _ _ (hK.1 (d + 1) 85 6 _ _ _ _ (hK.1 (d + 1) 85 7 _ _ _ _ (And.intro e0 (And.intro (And.intro (by decide) (by decide)) (And.intro (fun g => hT g) (fun g => hF g)))))))
theorem bT_isBeatenBy_8 {K : am_KT} (hK : am_C K) {d : Nat} {σ : am_S} {Q : am_Q} {v1 v2 : Int} (e0 : am_rng v2) (e1 : am_rng (σ 41 7)) (hT : v2 < σ 41 7 → K (d + 1) 85 21 [.inr 41, .inl v1, .inl v2] [] σ Q) (hF : σ 41 7 ≤ v2 → K (d + 1) 85 12 [.inr 41, .inl v1, .inl v2] [] σ Q) : K (d + 1) 85 8 [.inr 41, .inl v1, .inl v2] [] σ Q :=
  hK.1 (d + 1) 85 8 [.inr 41, .inl v1, .inl v2] _ _ _ (hK.1 (d + 1) 85 9 _ _ _ _ (hK.1 (d + 1) 85 10 _ _ _ _ (hK.1 (d + 1) 85 11 _ _ _ _ (And.intro e0 (And.intro e1 (And.intro (fun g => hT g) (fun g => hF g)))))))
theorem bT_isBeatenBy_12 {K : am_KT} (hK : am_C K) {d : Nat} {σ : am_S} {Q : am_Q} {v1 v2 : Int} (e0 : am_rng v2) (e1 : am_rng (σ 41 7)) (hT : v2 ≠ σ 41 7 → K (d + 1) 85 23 [.inr 41, .inl v1, .inl v2] [] σ Q) (hF : v2 = σ 41 7 → K (d + 1) 85 16 [.inr 41, .inl v1, .inl v2] [] σ Q) : K (d + 1) 85 12 [.inr 41, .inl v1, .inl v2] [] σ Q :=
  hK.1 (d + 1) 85 12 [.inr 41, .inl v1, .inl v2] _ _ _ (hK.1 (d + 1) 85 13 _ _ _ _ (hK.1 (d + 1) 85 14 _ _ _ _ (hK.1 (d + 1) 85 15 _ _ _ _ (And.intro e0 (And.intro e1 (And.intro (fun g => hT g) (fun g => hF g)))))))
theorem bT_isBeatenBy_16 {K : am_KT} (hK : am_C K) {d : Nat} {σ : am_S} {Q : am_Q} {v1 v2 : Int} (h : K d 53 0 [.inl v1] [] σ (fun o σ1 => K (d + 1) 85 18 [.inr 41, .inl v1, .inl v2] (am_o o ++ []) σ1 Q)) : K (d + 1) 85 16 [.inr 41, .inl v1, .inl v2] [] σ Q :=
  hK.1 (d + 1) 85 16 [.inr 41, .inl v1, .inl v2] _ _ _ (hK.1 (d + 1) 85 17 _ _ _ _ (h))
theorem bT_isBeatenBy_18 {K : am_KT} (hK : am_C K) {d : Nat} {σ : am_S} {Q : am_Q} {v1 v2 s0 : Int} (e0 : am_rng s0) (e1 : am_rng (σ 41 8)) (hT : σ 41 8 ≤ s0 → K (d + 1) 85 23 [.inr 41, .inl v1, .inl v2] [] σ Q) (hF : s0 < σ 41 8 → K (d + 1) 85 21 [.inr 41, .inl v1, .inl v2] [] σ Q) : K (d + 1) 85 18 [.inr 41, .inl v1, .inl v2] [.inl s0] σ Q :=
  hK.1 (d + 1) 85 18 [.inr 41, .inl v1, .inl v2] _ _ _ (hK.1 (d + 1) 85 19 _ _ _ _ (hK.1 (d + 1) 85 20 _ _ _ _ (And.intro e0 (And.intro e1 (And.intro (fun g => hT g) (fun g => hF g))))))
theorem bT_isBeatenBy_21 {K : am_KT} (hK : am_C K) {d : Nat} {σ : am_S} {Q : am_Q} {v1 v2 : Int} (h : K (d + 1) 85 24 [.inr 41, .inl v1, .inl v2] [.inl 1] σ Q) : K (d + 1) 85 21 [.inr 41, .inl v1, .inl v2] [] σ Q :=
  hK.1 (d + 1) 85 21 [.inr 41, .inl v1, .inl v2] _ _ _ (hK.1 (d + 1) 85 22 _ _ _ _ (h))
theorem bT_isBeatenBy_23 {K : am_KT} (hK : am_C K) {d : Nat} {σ : am_S} {Q : am_Q} {v1 v2 : Int} (h : K (d + 1) 85 24 [.inr 41, .inl v1, .inl v2] [.inl 0] σ Q) : K (d + 1) 85 23 [.inr 41, .inl v1, .inl v2] [] σ Q :=
  hK.1 (d + 1) 85 23 [.inr 41, .inl v1, .inl v2] _ _ _ (h)
theorem bT_isBeatenBy_24 {K : am_KT} (hK : am_C K) {d : Nat} {σ : am_S} {Q : am_Q} {v1 v2 s0 : Int} (e0 : s0 = 0 ∨ s0 = 1) (h : Q (some s0) σ) : K (d + 1) 85 24 [.inr 41, .inl v1, .inl v2] [.inl s0] σ Q :=
  hK.1 (d + 1) 85 24 [.inr 41, .inl v1, .inl v2] _ _ _ (And.intro e0 (h))
-- 86: LetterDays$Knots.become
theorem bT_become_0 {K : am_KT} (hK : am_C K) {d : Nat} {σ : am_S} {Q : am_Q} {v1 : Int} (h : K d 60 0 [.inr 20, .inl v1] [] (am_us (am_us σ 41 5 1) 41 6 v1) (fun o σ1 => K (d + 1) 86 11 [.inr 41, .inl v1] (am_o o ++ [.inr 41]) σ1 Q)) : K (d + 1) 86 0 [.inr 41, .inl v1] [] σ Q :=
  hK.1 (d + 1) 86 0 [.inr 41, .inl v1] _ _ _ (hK.1 (d + 1) 86 1 _ _ _ _ (hK.1 (d + 1) 86 2 _ _ _ _ (And.intro (Or.inr rfl) (hK.1 (d + 1) 86 3 _ _ _ _ (hK.1 (d + 1) 86 4 _ _ _ _ (hK.1 (d + 1) 86 5 _ _ _ _ (hK.1 (d + 1) 86 6 _ _ _ _ (hK.1 (d + 1) 86 7 _ _ _ _ (hK.1 (d + 1) 86 8 _ _ _ _ (hK.1 (d + 1) 86 9 _ _ _ _ (hK.1 (d + 1) 86 10 _ _ _ _ (h))))))))))))
theorem bT_become_11 {K : am_KT} (hK : am_C K) {d : Nat} {σ : am_S} {Q : am_Q} {v1 s0 : Int} (h : K d 53 0 [.inl v1] [] (am_us σ 41 7 s0) (fun o σ1 => K (d + 1) 86 15 [.inr 41, .inl v1] (am_o o ++ [.inr 41]) σ1 Q)) : K (d + 1) 86 11 [.inr 41, .inl v1] [.inl s0, .inr 41] σ Q :=
  hK.1 (d + 1) 86 11 [.inr 41, .inl v1] _ _ _ (hK.1 (d + 1) 86 12 _ _ _ _ (hK.1 (d + 1) 86 13 _ _ _ _ (hK.1 (d + 1) 86 14 _ _ _ _ (h))))
theorem bT_become_15 {K : am_KT} (hK : am_C K) {d : Nat} {σ : am_S} {Q : am_Q} {v1 s0 : Int} (h : Q none (am_us σ 41 8 s0)) : K (d + 1) 86 15 [.inr 41, .inl v1] [.inl s0, .inr 41] σ Q :=
  hK.1 (d + 1) 86 15 [.inr 41, .inl v1] _ _ _ (hK.1 (d + 1) 86 16 _ _ _ _ (h))
-- 87: LetterDays$Knots.agreeing
theorem bT_agreeing_0 {K : am_KT} (hK : am_C K) {d : Nat} {σ : am_S} {Q : am_Q} {v1 : Int} (h : K d 61 0 [.inr 43, .inr 17, .inr 20, .inl v1] [] σ (fun o σ1 => K (d + 1) 87 8 [.inr 41, .inl v1] (am_o o ++ []) σ1 Q)) : K (d + 1) 87 0 [.inr 41, .inl v1] [] σ Q :=
  hK.1 (d + 1) 87 0 [.inr 41, .inl v1] _ _ _ (hK.1 (d + 1) 87 1 _ _ _ _ (hK.1 (d + 1) 87 2 _ _ _ _ (hK.1 (d + 1) 87 3 _ _ _ _ (hK.1 (d + 1) 87 4 _ _ _ _ (hK.1 (d + 1) 87 5 _ _ _ _ (hK.1 (d + 1) 87 6 _ _ _ _ (hK.1 (d + 1) 87 7 _ _ _ _ (h))))))))
theorem bT_agreeing_8 {K : am_KT} (hK : am_C K) {d : Nat} {σ : am_S} {Q : am_Q} {v1 : Int} (h : K d 64 0 [.inr 43, .inr 42] [] σ (fun o σ1 => K (d + 1) 87 13 [.inr 41, .inl v1] (am_o o ++ []) σ1 Q)) : K (d + 1) 87 8 [.inr 41, .inl v1] [] σ Q :=
  hK.1 (d + 1) 87 8 [.inr 41, .inl v1] _ _ _ (hK.1 (d + 1) 87 9 _ _ _ _ (hK.1 (d + 1) 87 10 _ _ _ _ (hK.1 (d + 1) 87 11 _ _ _ _ (hK.1 (d + 1) 87 12 _ _ _ _ (h)))))
theorem bT_agreeing_13 {K : am_KT} (hK : am_C K) {d : Nat} {σ : am_S} {Q : am_Q} {v1 s0 : Int} (e0 : s0 = 0 ∨ s0 = 1) (h : Q (some s0) σ) : K (d + 1) 87 13 [.inr 41, .inl v1] [.inl s0] σ Q :=
  hK.1 (d + 1) 87 13 [.inr 41, .inl v1] _ _ _ (And.intro e0 (h))
-- 88: LetterDays$Orders.take
theorem bO_take_0 {K : am_KT} (hK : am_C K) {d : Nat} {σ : am_S} {Q : am_Q} {v2 : Int} (h : K (d + 1) 88 5 [.inr 50, .inr 26, .inl v2, .inl 0] [] (am_us σ 50 0 v2) Q) : K (d + 1) 88 0 [.inr 50, .inr 26, .inl v2] [] σ Q :=
  hK.1 (d + 1) 88 0 [.inr 50, .inr 26, .inl v2] _ _ _ (hK.1 (d + 1) 88 1 _ _ _ _ (hK.1 (d + 1) 88 2 _ _ _ _ (hK.1 (d + 1) 88 3 _ _ _ _ (hK.1 (d + 1) 88 4 _ _ _ _ (h)))))
theorem bO_take_5 {K : am_KT} (hK : am_C K) {d : Nat} {σ : am_S} {Q : am_Q} {v2 v3 : Int} (e0 : am_rng v3) (e1 : am_rng (σ 50 0)) (hT : σ 50 0 ≤ v3 → K (d + 1) 88 18 [.inr 50, .inr 26, .inl v2, .inl v3] [] σ Q) (hF : v3 < σ 50 0 → K (d + 1) 88 9 [.inr 50, .inr 26, .inl v2, .inl v3] [] σ Q) : K (d + 1) 88 5 [.inr 50, .inr 26, .inl v2, .inl v3] [] σ Q :=
  hK.1 (d + 1) 88 5 [.inr 50, .inr 26, .inl v2, .inl v3] _ _ _ (hK.1 (d + 1) 88 6 _ _ _ _ (hK.1 (d + 1) 88 7 _ _ _ _ (hK.1 (d + 1) 88 8 _ _ _ _ (And.intro e0 (And.intro e1 (And.intro (fun g => hT g) (fun g => hF g)))))))
theorem bO_take_9 {K : am_KT} (hK : am_C K) {d : Nat} {σ : am_S} {Q : am_Q} {v2 v3 : Int} (h : K d 75 0 [.inr 26, .inl v3] [] σ (fun o σ1 => K (d + 1) 88 15 [.inr 50, .inr 26, .inl v2, .inl v3] (am_o o ++ [.inl v3, .inr 51]) σ1 Q)) : K (d + 1) 88 9 [.inr 50, .inr 26, .inl v2, .inl v3] [] σ Q :=
  hK.1 (d + 1) 88 9 [.inr 50, .inr 26, .inl v2, .inl v3] _ _ _ (hK.1 (d + 1) 88 10 _ _ _ _ (hK.1 (d + 1) 88 11 _ _ _ _ (hK.1 (d + 1) 88 12 _ _ _ _ (hK.1 (d + 1) 88 13 _ _ _ _ (hK.1 (d + 1) 88 14 _ _ _ _ (h))))))
theorem bO_take_15 {K : am_KT} (hK : am_C K) {d : Nat} {σ : am_S} {Q : am_Q} {v2 v3 s0 s1 : Int} (e0 : 0 ≤ s1 ∧ s1 < 8) (h : K (d + 1) 88 5 [.inr 50, .inr 26, .inl v2, .inl (v3 + 1)] [] (am_us σ 51 s1 s0) Q) : K (d + 1) 88 15 [.inr 50, .inr 26, .inl v2, .inl v3] [.inl s0, .inl s1, .inr 51] σ Q :=
  hK.1 (d + 1) 88 15 [.inr 50, .inr 26, .inl v2, .inl v3] _ _ _ (And.intro e0 (hK.1 (d + 1) 88 16 _ _ _ _ (hK.1 (d + 1) 88 17 [.inr 50, .inr 26, .inl v2, .inl (v3 + 1)] _ _ _ (h))))
theorem bO_take_18 {K : am_KT} (hK : am_C K) {d : Nat} {σ : am_S} {Q : am_Q} {v2 v3 : Int} (h : Q none σ) : K (d + 1) 88 18 [.inr 50, .inr 26, .inl v2, .inl v3] [] σ Q :=
  hK.1 (d + 1) 88 18 [.inr 50, .inr 26, .inl v2, .inl v3] _ _ _ (h)
-- 89: LetterDays$Orders.howMany
theorem bO_howMany_0 {K : am_KT} (hK : am_C K) {d : Nat} {σ : am_S} {Q : am_Q} (h : K (d + 1) 89 9 [.inr 50, .inl ((am_shl 1 (σ 50 0)) - 1), .inl 1] [] σ Q) : K (d + 1) 89 0 [.inr 50] [] σ Q :=
  hK.1 (d + 1) 89 0 [.inr 50] _ _ _ (hK.1 (d + 1) 89 1 _ _ _ _ (hK.1 (d + 1) 89 2 _ _ _ _ (hK.1 (d + 1) 89 3 _ _ _ _ (hK.1 (d + 1) 89 4 _ _ _ _ (hK.1 (d + 1) 89 5 _ _ _ _ (hK.1 (d + 1) 89 6 _ _ _ _ (hK.1 (d + 1) 89 7 [.inr 50, .inl ((am_shl 1 (σ 50 0)) - 1)] _ _ _ (hK.1 (d + 1) 89 8 _ _ _ _ (h)))))))))
theorem bO_howMany_9 {K : am_KT} (hK : am_C K) {d : Nat} {σ : am_S} {Q : am_Q} {v1 v2 : Int} (e0 : am_rng v2) (e1 : am_rng v1) (hT : v1 < v2 → K (d + 1) 89 19 [.inr 50, .inl v1, .inl v2] [] σ Q) (hF : v2 ≤ v1 → K (d + 1) 89 12 [.inr 50, .inl v1, .inl v2] [] σ Q) : K (d + 1) 89 9 [.inr 50, .inl v1, .inl v2] [] σ Q :=
  hK.1 (d + 1) 89 9 [.inr 50, .inl v1, .inl v2] _ _ _ (hK.1 (d + 1) 89 10 _ _ _ _ (hK.1 (d + 1) 89 11 _ _ _ _ (And.intro e0 (And.intro e1 (And.intro (fun g => hT g) (fun g => hF g))))))
theorem bO_howMany_12 {K : am_KT} (hK : am_C K) {d : Nat} {σ : am_S} {Q : am_Q} {v1 v2 : Int} (e0 : 0 ≤ v2 ∧ v2 < 256) (h : K (d + 1) 89 9 [.inr 50, .inl v1, .inl (v2 + 1)] [] (am_us σ 52 v2 0) Q) : K (d + 1) 89 12 [.inr 50, .inl v1, .inl v2] [] σ Q :=
  hK.1 (d + 1) 89 12 [.inr 50, .inl v1, .inl v2] _ _ _ (hK.1 (d + 1) 89 13 _ _ _ _ (hK.1 (d + 1) 89 14 _ _ _ _ (hK.1 (d + 1) 89 15 _ _ _ _ (hK.1 (d + 1) 89 16 _ _ _ _ (And.intro e0 (hK.1 (d + 1) 89 17 _ _ _ _ (hK.1 (d + 1) 89 18 [.inr 50, .inl v1, .inl (v2 + 1)] _ _ _ (h))))))))
theorem bO_howMany_19 {K : am_KT} (hK : am_C K) {d : Nat} {σ : am_S} {Q : am_Q} {v1 v2 : Int} (h : K (d + 1) 89 26 [.inr 50, .inl v1, .inl 0] [] (am_us σ 52 0 1) Q) : K (d + 1) 89 19 [.inr 50, .inl v1, .inl v2] [] σ Q :=
  hK.1 (d + 1) 89 19 [.inr 50, .inl v1, .inl v2] _ _ _ (hK.1 (d + 1) 89 20 _ _ _ _ (hK.1 (d + 1) 89 21 _ _ _ _ (hK.1 (d + 1) 89 22 _ _ _ _ (hK.1 (d + 1) 89 23 _ _ _ _ (And.intro (And.intro (by decide) (by decide)) (hK.1 (d + 1) 89 24 _ _ _ _ (hK.1 (d + 1) 89 25 _ _ _ _ (h))))))))
theorem bO_howMany_26 {K : am_KT} (hK : am_C K) {d : Nat} {σ : am_S} {Q : am_Q} {v1 v2 : Int} (e0 : am_rng v2) (e1 : am_rng v1) (hT : v1 ≤ v2 → K (d + 1) 89 59 [.inr 50, .inl v1, .inl v2] [] σ Q) (hF : v2 < v1 → K (d + 1) 89 29 [.inr 50, .inl v1, .inl v2] [] σ Q) : K (d + 1) 89 26 [.inr 50, .inl v1, .inl v2] [] σ Q :=
  hK.1 (d + 1) 89 26 [.inr 50, .inl v1, .inl v2] _ _ _ (hK.1 (d + 1) 89 27 _ _ _ _ (hK.1 (d + 1) 89 28 _ _ _ _ (And.intro e0 (And.intro e1 (And.intro (fun g => hT g) (fun g => hF g))))))
theorem bO_howMany_29 {K : am_KT} (hK : am_C K) {d : Nat} {σ : am_S} {Q : am_Q} {v1 v2 : Int} (h : K (d + 1) 89 31 [.inr 50, .inl v1, .inl v2, .inl 0] [] σ Q) : K (d + 1) 89 29 [.inr 50, .inl v1, .inl v2] [] σ Q :=
  hK.1 (d + 1) 89 29 [.inr 50, .inl v1, .inl v2] _ _ _ (hK.1 (d + 1) 89 30 _ _ _ _ (h))
theorem bO_howMany_31 {K : am_KT} (hK : am_C K) {d : Nat} {σ : am_S} {Q : am_Q} {v1 v2 v3 : Int} (e0 : am_rng v3) (e1 : am_rng (σ 50 0)) (hT : σ 50 0 ≤ v3 → K (d + 1) 89 57 [.inr 50, .inl v1, .inl v2, .inl v3] [] σ Q) (hF : v3 < σ 50 0 → K (d + 1) 89 35 [.inr 50, .inl v1, .inl v2, .inl v3] [] σ Q) : K (d + 1) 89 31 [.inr 50, .inl v1, .inl v2, .inl v3] [] σ Q :=
  hK.1 (d + 1) 89 31 [.inr 50, .inl v1, .inl v2, .inl v3] _ _ _ (hK.1 (d + 1) 89 32 _ _ _ _ (hK.1 (d + 1) 89 33 _ _ _ _ (hK.1 (d + 1) 89 34 _ _ _ _ (And.intro e0 (And.intro e1 (And.intro (fun g => hT g) (fun g => hF g)))))))
theorem bO_howMany_35 {K : am_KT} (hK : am_C K) {d : Nat} {σ : am_S} {Q : am_Q} {v1 v2 v3 : Int} (h : K d 92 0 [.inr 50, .inl v3, .inl v2] [] σ (fun o σ1 => K (d + 1) 89 39 [.inr 50, .inl v1, .inl v2, .inl v3] (am_o o ++ []) σ1 Q)) : K (d + 1) 89 35 [.inr 50, .inl v1, .inl v2, .inl v3] [] σ Q :=
  hK.1 (d + 1) 89 35 [.inr 50, .inl v1, .inl v2, .inl v3] _ _ _ (hK.1 (d + 1) 89 36 _ _ _ _ (hK.1 (d + 1) 89 37 _ _ _ _ (hK.1 (d + 1) 89 38 _ _ _ _ (h))))
theorem bO_howMany_39 {K : am_KT} (hK : am_C K) {d : Nat} {σ : am_S} {Q : am_Q} {v1 v2 v3 s0 : Int} (e0 : am_rng s0) (hT : s0 = 0 → K (d + 1) 89 55 [.inr 50, .inl v1, .inl v2, .inl v3] [] σ Q) (hF : s0 ≠ 0 → K (d + 1) 89 40 [.inr 50, .inl v1, .inl v2, .inl v3] [] σ Q) : K (d + 1) 89 39 [.inr 50, .inl v1, .inl v2, .inl v3] [.inl s0] σ Q :=
  hK.1 (d + 1) 89 39 [.inr 50, .inl v1, .inl v2, .inl v3] _ _ _ (And.intro e0 (And.intro (And.intro (by decide) (by decide)) (And.intro (fun g => hT g) (fun g => hF g))))
theorem bO_howMany_40 {K : am_KT} (hK : am_C K) {d : Nat} {σ : am_S} {Q : am_Q} {v1 v2 v3 : Int} (e0 : 0 ≤ am_or v2 (am_shl 1 v3) ∧ am_or v2 (am_shl 1 v3) < 256) (e1 : 0 ≤ v2 ∧ v2 < 256) (e2 : 0 ≤ am_or v2 (am_shl 1 v3) ∧ am_or v2 (am_shl 1 v3) < 256) (h : K (d + 1) 89 55 [.inr 50, .inl v1, .inl v2, .inl v3] [] (am_us σ 52 (am_or v2 (am_shl 1 v3)) ((σ 52 (am_or v2 (am_shl 1 v3))) + (σ 52 v2))) Q) : K (d + 1) 89 40 [.inr 50, .inl v1, .inl v2, .inl v3] [] σ Q :=
  hK.1 (d + 1) 89 40 [.inr 50, .inl v1, .inl v2, .inl v3] _ _ _ (hK.1 (d + 1) 89 41 _ _ _ _ (hK.1 (d + 1) 89 42 _ _ _ _ (hK.1 (d + 1) 89 43 _ _ _ _ (hK.1 (d + 1) 89 44 _ _ _ _ (hK.1 (d + 1) 89 45 _ _ _ _ (hK.1 (d + 1) 89 46 _ _ _ _ (hK.1 (d + 1) 89 47 _ _ _ _ (hK.1 (d + 1) 89 48 _ _ _ _ (And.intro e0 (hK.1 (d + 1) 89 49 _ _ _ _ (hK.1 (d + 1) 89 50 _ _ _ _ (hK.1 (d + 1) 89 51 _ _ _ _ (hK.1 (d + 1) 89 52 _ _ _ _ (And.intro e1 (hK.1 (d + 1) 89 53 _ _ _ _ (hK.1 (d + 1) 89 54 _ _ _ _ (And.intro e2 (h))))))))))))))))))
theorem bO_howMany_55 {K : am_KT} (hK : am_C K) {d : Nat} {σ : am_S} {Q : am_Q} {v1 v2 v3 : Int} (h : K (d + 1) 89 31 [.inr 50, .inl v1, .inl v2, .inl (v3 + 1)] [] σ Q) : K (d + 1) 89 55 [.inr 50, .inl v1, .inl v2, .inl v3] [] σ Q :=
  hK.1 (d + 1) 89 55 [.inr 50, .inl v1, .inl v2, .inl v3] _ _ _ (hK.1 (d + 1) 89 56 [.inr 50, .inl v1, .inl v2, .inl (v3 + 1)] _ _ _ (h))
theorem bO_howMany_57 {K : am_KT} (hK : am_C K) {d : Nat} {σ : am_S} {Q : am_Q} {v1 v2 v3 : Int} (h : K (d + 1) 89 26 [.inr 50, .inl v1, .inl (v2 + 1)] [] σ Q) : K (d + 1) 89 57 [.inr 50, .inl v1, .inl v2, .inl v3] [] σ Q :=
  hK.1 (d + 1) 89 57 [.inr 50, .inl v1, .inl v2, .inl v3] _ _ _ (hK.1 (d + 1) 89 58 [.inr 50, .inl v1, .inl (v2 + 1), .inl v3] _ _ _ (hK.2.1 (d + 1) 89 26 [.inr 50, .inl v1, .inl (v2 + 1)] [.inl v3] [] σ Q (h)))
theorem bO_howMany_59 {K : am_KT} (hK : am_C K) {d : Nat} {σ : am_S} {Q : am_Q} {v1 v2 : Int} (e0 : 0 ≤ v1 ∧ v1 < 256) (h : Q (some (σ 52 v1)) σ) : K (d + 1) 89 59 [.inr 50, .inl v1, .inl v2] [] σ Q :=
  hK.1 (d + 1) 89 59 [.inr 50, .inl v1, .inl v2] _ _ _ (hK.1 (d + 1) 89 60 _ _ _ _ (hK.1 (d + 1) 89 61 _ _ _ _ (hK.1 (d + 1) 89 62 _ _ _ _ (And.intro e0 (hK.1 (d + 1) 89 63 _ _ _ _ (And.intro trivial (h)))))))
-- 90: LetterDays$Orders.ofFirst
theorem bO_ofFirst_0 {K : am_KT} (hK : am_C K) {d : Nat} {σ : am_S} {Q : am_Q} {v1 : Int} (h : K (d + 1) 90 6 [.inr 50, .inl v1, .inl 0, .inl (-9), .inl 0] [] σ Q) : K (d + 1) 90 0 [.inr 50, .inl v1] [] σ Q :=
  hK.1 (d + 1) 90 0 [.inr 50, .inl v1] _ _ _ (hK.1 (d + 1) 90 1 _ _ _ _ (hK.1 (d + 1) 90 2 [.inr 50, .inl v1, .inl 0] _ _ _ (hK.1 (d + 1) 90 3 _ _ _ _ (hK.1 (d + 1) 90 4 [.inr 50, .inl v1, .inl 0, .inl (-9)] _ _ _ (hK.1 (d + 1) 90 5 _ _ _ _ (h))))))
theorem bO_ofFirst_6 {K : am_KT} (hK : am_C K) {d : Nat} {σ : am_S} {Q : am_Q} {v1 v2 v3 v4 : Int} (e0 : am_rng v4) (e1 : am_rng v1) (hT : v1 < v4 → K (d + 1) 90 26 [.inr 50, .inl v1, .inl v2, .inl v3, .inl v4] [] σ Q) (hF : v4 ≤ v1 → K (d + 1) 90 9 [.inr 50, .inl v1, .inl v2, .inl v3, .inl v4] [] σ Q) : K (d + 1) 90 6 [.inr 50, .inl v1, .inl v2, .inl v3, .inl v4] [] σ Q :=
  hK.1 (d + 1) 90 6 [.inr 50, .inl v1, .inl v2, .inl v3, .inl v4] _ _ _ (hK.1 (d + 1) 90 7 _ _ _ _ (hK.1 (d + 1) 90 8 _ _ _ _ (And.intro e0 (And.intro e1 (And.intro (fun g => hT g) (fun g => hF g))))))
theorem bO_ofFirst_9 {K : am_KT} (hK : am_C K) {d : Nat} {σ : am_S} {Q : am_Q} {v1 v2 v3 v4 : Int} (h : K d 91 0 [.inr 50, .inl v2] [] σ (fun o σ1 => K (d + 1) 90 12 [.inr 50, .inl v1, .inl v2, .inl v3, .inl v4] (am_o o ++ []) σ1 Q)) : K (d + 1) 90 9 [.inr 50, .inl v1, .inl v2, .inl v3, .inl v4] [] σ Q :=
  hK.1 (d + 1) 90 9 [.inr 50, .inl v1, .inl v2, .inl v3, .inl v4] _ _ _ (hK.1 (d + 1) 90 10 _ _ _ _ (hK.1 (d + 1) 90 11 _ _ _ _ (h)))
theorem bO_ofFirst_12 {K : am_KT} (hK : am_C K) {d : Nat} {σ : am_S} {Q : am_Q} {v1 v2 v3 v4 s0 : Int} (e0 : am_rng s0) (hT : s0 ≠ (-9) → K (d + 1) 90 18 [.inr 50, .inl v1, .inl v2, .inl s0, .inl v4] [] σ Q) (hF : s0 = (-9) → K (d + 1) 90 16 [.inr 50, .inl v1, .inl v2, .inl s0, .inl v4] [] σ Q) : K (d + 1) 90 12 [.inr 50, .inl v1, .inl v2, .inl v3, .inl v4] [.inl s0] σ Q :=
  hK.1 (d + 1) 90 12 [.inr 50, .inl v1, .inl v2, .inl v3, .inl v4] _ _ _ (hK.1 (d + 1) 90 13 [.inr 50, .inl v1, .inl v2, .inl s0, .inl v4] _ _ _ (hK.1 (d + 1) 90 14 _ _ _ _ (hK.1 (d + 1) 90 15 _ _ _ _ (And.intro e0 (And.intro (And.intro (by decide) (by decide)) (And.intro (fun g => hT g) (fun g => hF g)))))))
theorem bO_ofFirst_16 {K : am_KT} (hK : am_C K) {d : Nat} {σ : am_S} {Q : am_Q} {v1 v2 v3 v4 : Int} (h : Q (some (-9)) σ) : K (d + 1) 90 16 [.inr 50, .inl v1, .inl v2, .inl v3, .inl v4] [] σ Q :=
  hK.1 (d + 1) 90 16 [.inr 50, .inl v1, .inl v2, .inl v3, .inl v4] _ _ _ (hK.1 (d + 1) 90 17 _ _ _ _ (And.intro trivial (h)))
theorem bO_ofFirst_18 {K : am_KT} (hK : am_C K) {d : Nat} {σ : am_S} {Q : am_Q} {v1 v2 v3 v4 : Int} (h : K (d + 1) 90 6 [.inr 50, .inl v1, .inl (am_or v2 (am_shl 1 v3)), .inl v3, .inl (v4 + 1)] [] σ Q) : K (d + 1) 90 18 [.inr 50, .inl v1, .inl v2, .inl v3, .inl v4] [] σ Q :=
  hK.1 (d + 1) 90 18 [.inr 50, .inl v1, .inl v2, .inl v3, .inl v4] _ _ _ (hK.1 (d + 1) 90 19 _ _ _ _ (hK.1 (d + 1) 90 20 _ _ _ _ (hK.1 (d + 1) 90 21 _ _ _ _ (hK.1 (d + 1) 90 22 _ _ _ _ (hK.1 (d + 1) 90 23 _ _ _ _ (hK.1 (d + 1) 90 24 [.inr 50, .inl v1, .inl (am_or v2 (am_shl 1 v3)), .inl v3, .inl v4] _ _ _ (hK.1 (d + 1) 90 25 [.inr 50, .inl v1, .inl (am_or v2 (am_shl 1 v3)), .inl v3, .inl (v4 + 1)] _ _ _ (h))))))))
theorem bO_ofFirst_26 {K : am_KT} (hK : am_C K) {d : Nat} {σ : am_S} {Q : am_Q} {v1 v2 v3 v4 : Int} (h : Q (some v3) σ) : K (d + 1) 90 26 [.inr 50, .inl v1, .inl v2, .inl v3, .inl v4] [] σ Q :=
  hK.1 (d + 1) 90 26 [.inr 50, .inl v1, .inl v2, .inl v3, .inl v4] _ _ _ (hK.1 (d + 1) 90 27 _ _ _ _ (And.intro trivial (h)))
-- 91: LetterDays$Orders.firstNext
theorem bO_firstNext_0 {K : am_KT} (hK : am_C K) {d : Nat} {σ : am_S} {Q : am_Q} {v1 : Int} (h : K (d + 1) 91 2 [.inr 50, .inl v1, .inl 0] [] σ Q) : K (d + 1) 91 0 [.inr 50, .inl v1] [] σ Q :=
  hK.1 (d + 1) 91 0 [.inr 50, .inl v1] _ _ _ (hK.1 (d + 1) 91 1 _ _ _ _ (h))
theorem bO_firstNext_2 {K : am_KT} (hK : am_C K) {d : Nat} {σ : am_S} {Q : am_Q} {v1 v2 : Int} (e0 : am_rng v2) (e1 : am_rng (σ 50 0)) (hT : σ 50 0 ≤ v2 → K (d + 1) 91 15 [.inr 50, .inl v1, .inl v2] [] σ Q) (hF : v2 < σ 50 0 → K (d + 1) 91 6 [.inr 50, .inl v1, .inl v2] [] σ Q) : K (d + 1) 91 2 [.inr 50, .inl v1, .inl v2] [] σ Q :=
  hK.1 (d + 1) 91 2 [.inr 50, .inl v1, .inl v2] _ _ _ (hK.1 (d + 1) 91 3 _ _ _ _ (hK.1 (d + 1) 91 4 _ _ _ _ (hK.1 (d + 1) 91 5 _ _ _ _ (And.intro e0 (And.intro e1 (And.intro (fun g => hT g) (fun g => hF g)))))))
theorem bO_firstNext_6 {K : am_KT} (hK : am_C K) {d : Nat} {σ : am_S} {Q : am_Q} {v1 v2 : Int} (h : K d 92 0 [.inr 50, .inl v2, .inl v1] [] σ (fun o σ1 => K (d + 1) 91 10 [.inr 50, .inl v1, .inl v2] (am_o o ++ []) σ1 Q)) : K (d + 1) 91 6 [.inr 50, .inl v1, .inl v2] [] σ Q :=
  hK.1 (d + 1) 91 6 [.inr 50, .inl v1, .inl v2] _ _ _ (hK.1 (d + 1) 91 7 _ _ _ _ (hK.1 (d + 1) 91 8 _ _ _ _ (hK.1 (d + 1) 91 9 _ _ _ _ (h))))
theorem bO_firstNext_10 {K : am_KT} (hK : am_C K) {d : Nat} {σ : am_S} {Q : am_Q} {v1 v2 s0 : Int} (e0 : am_rng s0) (hT : s0 = 0 → K (d + 1) 91 13 [.inr 50, .inl v1, .inl v2] [] σ Q) (hF : s0 ≠ 0 → K (d + 1) 91 11 [.inr 50, .inl v1, .inl v2] [] σ Q) : K (d + 1) 91 10 [.inr 50, .inl v1, .inl v2] [.inl s0] σ Q :=
  hK.1 (d + 1) 91 10 [.inr 50, .inl v1, .inl v2] _ _ _ (And.intro e0 (And.intro (And.intro (by decide) (by decide)) (And.intro (fun g => hT g) (fun g => hF g))))
theorem bO_firstNext_11 {K : am_KT} (hK : am_C K) {d : Nat} {σ : am_S} {Q : am_Q} {v1 v2 : Int} (h : Q (some v2) σ) : K (d + 1) 91 11 [.inr 50, .inl v1, .inl v2] [] σ Q :=
  hK.1 (d + 1) 91 11 [.inr 50, .inl v1, .inl v2] _ _ _ (hK.1 (d + 1) 91 12 _ _ _ _ (And.intro trivial (h)))
theorem bO_firstNext_13 {K : am_KT} (hK : am_C K) {d : Nat} {σ : am_S} {Q : am_Q} {v1 v2 : Int} (h : K (d + 1) 91 2 [.inr 50, .inl v1, .inl (v2 + 1)] [] σ Q) : K (d + 1) 91 13 [.inr 50, .inl v1, .inl v2] [] σ Q :=
  hK.1 (d + 1) 91 13 [.inr 50, .inl v1, .inl v2] _ _ _ (hK.1 (d + 1) 91 14 [.inr 50, .inl v1, .inl (v2 + 1)] _ _ _ (h))
theorem bO_firstNext_15 {K : am_KT} (hK : am_C K) {d : Nat} {σ : am_S} {Q : am_Q} {v1 v2 : Int} (h : Q (some (-9)) σ) : K (d + 1) 91 15 [.inr 50, .inl v1, .inl v2] [] σ Q :=
  hK.1 (d + 1) 91 15 [.inr 50, .inl v1, .inl v2] _ _ _ (hK.1 (d + 1) 91 16 _ _ _ _ (And.intro trivial (h)))
-- 92: LetterDays$Orders.comesNext
theorem bO_comesNext_0 {K : am_KT} (hK : am_C K) {d : Nat} {σ : am_S} {Q : am_Q} {v1 v2 : Int} (e0 : am_rng (am_and v2 (am_shl 1 v1))) (hT : am_and v2 (am_shl 1 v1) ≠ 0 → K d 92 17 [.inr 50, .inl v1, .inl v2] [] σ Q) (hF : am_and v2 (am_shl 1 v1) = 0 → K d 92 6 [.inr 50, .inl v1, .inl v2] [] σ Q) : K d 92 0 [.inr 50, .inl v1, .inl v2] [] σ Q :=
  hK.1 d 92 0 [.inr 50, .inl v1, .inl v2] _ _ _ (hK.1 d 92 1 _ _ _ _ (hK.1 d 92 2 _ _ _ _ (hK.1 d 92 3 _ _ _ _ (hK.1 d 92 4 _ _ _ _ (hK.1 d 92 5 _ _ _ _ (And.intro e0 (And.intro (And.intro (by decide) (by decide)) (And.intro (fun g => hT g) (fun g => hF g)))))))))
theorem bO_comesNext_6 {K : am_KT} (hK : am_C K) {d : Nat} {σ : am_S} {Q : am_Q} {v1 v2 : Int} (e0 : 0 ≤ v1 ∧ v1 < 8) (e1 : am_rng (am_and (σ 51 v1) (am_xor v2 (-1)))) (hT : am_and (σ 51 v1) (am_xor v2 (-1)) ≠ 0 → K d 92 17 [.inr 50, .inl v1, .inl v2] [] σ Q) (hF : am_and (σ 51 v1) (am_xor v2 (-1)) = 0 → K d 92 15 [.inr 50, .inl v1, .inl v2] [] σ Q) : K d 92 6 [.inr 50, .inl v1, .inl v2] [] σ Q :=
  hK.1 d 92 6 [.inr 50, .inl v1, .inl v2] _ _ _ (hK.1 d 92 7 _ _ _ _ (hK.1 d 92 8 _ _ _ _ (hK.1 d 92 9 _ _ _ _ (And.intro e0 (hK.1 d 92 10 _ _ _ _ (hK.1 d 92 11 _ _ _ _ (hK.1 d 92 12 _ _ _ _ (hK.1 d 92 13 _ _ _ _ (hK.1 d 92 14 _ _ _ _ (And.intro e1 (And.intro (And.intro (by decide) (by decide)) (And.intro (fun g => hT g) (fun g => hF g)))))))))))))
theorem bO_comesNext_15 {K : am_KT} (hK : am_C K) {d : Nat} {σ : am_S} {Q : am_Q} {v1 v2 : Int} (h : K d 92 18 [.inr 50, .inl v1, .inl v2] [.inl 1] σ Q) : K d 92 15 [.inr 50, .inl v1, .inl v2] [] σ Q :=
  hK.1 d 92 15 [.inr 50, .inl v1, .inl v2] _ _ _ (hK.1 d 92 16 _ _ _ _ (h))
theorem bO_comesNext_17 {K : am_KT} (hK : am_C K) {d : Nat} {σ : am_S} {Q : am_Q} {v1 v2 : Int} (h : K d 92 18 [.inr 50, .inl v1, .inl v2] [.inl 0] σ Q) : K d 92 17 [.inr 50, .inl v1, .inl v2] [] σ Q :=
  hK.1 d 92 17 [.inr 50, .inl v1, .inl v2] _ _ _ (h)
theorem bO_comesNext_18 {K : am_KT} (hK : am_C K) {d : Nat} {σ : am_S} {Q : am_Q} {v1 v2 s0 : Int} (e0 : s0 = 0 ∨ s0 = 1) (h : Q (some s0) σ) : K d 92 18 [.inr 50, .inl v1, .inl v2] [.inl s0] σ Q :=
  hK.1 d 92 18 [.inr 50, .inl v1, .inl v2] _ _ _ (And.intro e0 (h))
-- 93: LetterDays$Bundle.asSet
theorem bB_asSet_0 {K : am_KT} (hK : am_C K) {d : Nat} {σ : am_S} {Q : am_Q} {r : Nat} (hr : am_isB r) (h : K d 93 4 [.inr r, .inl 0, .inl 0] [] σ Q) : K d 93 0 [.inr r] [] σ Q := by
  rcases hr with rfl | rfl | rfl
  · exact hK.1 d 93 0 [.inr 54] _ _ _ (hK.1 d 93 1 _ _ _ _ (hK.1 d 93 2 [.inr 54, .inl 0] _ _ _ (hK.1 d 93 3 _ _ _ _ (h))))
  · exact hK.1 d 93 0 [.inr 56] _ _ _ (hK.1 d 93 1 _ _ _ _ (hK.1 d 93 2 [.inr 56, .inl 0] _ _ _ (hK.1 d 93 3 _ _ _ _ (h))))
  · exact hK.1 d 93 0 [.inr 58] _ _ _ (hK.1 d 93 1 _ _ _ _ (hK.1 d 93 2 [.inr 58, .inl 0] _ _ _ (hK.1 d 93 3 _ _ _ _ (h))))
theorem bB_asSet_4 {K : am_KT} (hK : am_C K) {d : Nat} {σ : am_S} {Q : am_Q} {v1 v2 : Int} {r : Nat} (hr : am_isB r) (e0 : am_rng v2) (e1 : am_rng (σ r 0)) (hT : σ r 0 ≤ v2 → K d 93 19 [.inr r, .inl v1, .inl v2] [] σ Q) (hF : v2 < σ r 0 → K d 93 8 [.inr r, .inl v1, .inl v2] [] σ Q) : K d 93 4 [.inr r, .inl v1, .inl v2] [] σ Q := by
  rcases hr with rfl | rfl | rfl
  · exact hK.1 d 93 4 [.inr 54, .inl v1, .inl v2] _ _ _ (hK.1 d 93 5 _ _ _ _ (hK.1 d 93 6 _ _ _ _ (hK.1 d 93 7 _ _ _ _ (And.intro e0 (And.intro e1 (And.intro (fun g => hT g) (fun g => hF g)))))))
  · exact hK.1 d 93 4 [.inr 56, .inl v1, .inl v2] _ _ _ (hK.1 d 93 5 _ _ _ _ (hK.1 d 93 6 _ _ _ _ (hK.1 d 93 7 _ _ _ _ (And.intro e0 (And.intro e1 (And.intro (fun g => hT g) (fun g => hF g)))))))
  · exact hK.1 d 93 4 [.inr 58, .inl v1, .inl v2] _ _ _ (hK.1 d 93 5 _ _ _ _ (hK.1 d 93 6 _ _ _ _ (hK.1 d 93 7 _ _ _ _ (And.intro e0 (And.intro e1 (And.intro (fun g => hT g) (fun g => hF g)))))))
theorem bB_asSet_8 {K : am_KT} (hK : am_C K) {d : Nat} {σ : am_S} {Q : am_Q} {v1 v2 : Int} {r : Nat} (hr : am_isB r) (e0 : 0 ≤ v2 ∧ v2 < 8) (h : K d 93 4 [.inr r, .inl (am_or v1 (am_shl 1 (σ (r + 1) v2))), .inl (v2 + 1)] [] σ Q) : K d 93 8 [.inr r, .inl v1, .inl v2] [] σ Q := by
  rcases hr with rfl | rfl | rfl
  · exact hK.1 d 93 8 [.inr 54, .inl v1, .inl v2] _ _ _ (hK.1 d 93 9 _ _ _ _ (hK.1 d 93 10 _ _ _ _ (hK.1 d 93 11 _ _ _ _ (hK.1 d 93 12 _ _ _ _ (hK.1 d 93 13 _ _ _ _ (And.intro e0 (hK.1 d 93 14 _ _ _ _ (hK.1 d 93 15 _ _ _ _ (hK.1 d 93 16 _ _ _ _ (hK.1 d 93 17 [.inr 54, .inl (am_or v1 (am_shl 1 (σ (54 + 1) v2))), .inl v2] _ _ _ (hK.1 d 93 18 [.inr 54, .inl (am_or v1 (am_shl 1 (σ (54 + 1) v2))), .inl (v2 + 1)] _ _ _ (h))))))))))))
  · exact hK.1 d 93 8 [.inr 56, .inl v1, .inl v2] _ _ _ (hK.1 d 93 9 _ _ _ _ (hK.1 d 93 10 _ _ _ _ (hK.1 d 93 11 _ _ _ _ (hK.1 d 93 12 _ _ _ _ (hK.1 d 93 13 _ _ _ _ (And.intro e0 (hK.1 d 93 14 _ _ _ _ (hK.1 d 93 15 _ _ _ _ (hK.1 d 93 16 _ _ _ _ (hK.1 d 93 17 [.inr 56, .inl (am_or v1 (am_shl 1 (σ (56 + 1) v2))), .inl v2] _ _ _ (hK.1 d 93 18 [.inr 56, .inl (am_or v1 (am_shl 1 (σ (56 + 1) v2))), .inl (v2 + 1)] _ _ _ (h))))))))))))
  · exact hK.1 d 93 8 [.inr 58, .inl v1, .inl v2] _ _ _ (hK.1 d 93 9 _ _ _ _ (hK.1 d 93 10 _ _ _ _ (hK.1 d 93 11 _ _ _ _ (hK.1 d 93 12 _ _ _ _ (hK.1 d 93 13 _ _ _ _ (And.intro e0 (hK.1 d 93 14 _ _ _ _ (hK.1 d 93 15 _ _ _ _ (hK.1 d 93 16 _ _ _ _ (hK.1 d 93 17 [.inr 58, .inl (am_or v1 (am_shl 1 (σ (58 + 1) v2))), .inl v2] _ _ _ (hK.1 d 93 18 [.inr 58, .inl (am_or v1 (am_shl 1 (σ (58 + 1) v2))), .inl (v2 + 1)] _ _ _ (h))))))))))))
theorem bB_asSet_19 {K : am_KT} (hK : am_C K) {d : Nat} {σ : am_S} {Q : am_Q} {v1 v2 : Int} {r : Nat} (hr : am_isB r) (h : Q (some v1) σ) : K d 93 19 [.inr r, .inl v1, .inl v2] [] σ Q := by
  rcases hr with rfl | rfl | rfl
  · exact hK.1 d 93 19 [.inr 54, .inl v1, .inl v2] _ _ _ (hK.1 d 93 20 _ _ _ _ (And.intro trivial (h)))
  · exact hK.1 d 93 19 [.inr 56, .inl v1, .inl v2] _ _ _ (hK.1 d 93 20 _ _ _ _ (And.intro trivial (h)))
  · exact hK.1 d 93 19 [.inr 58, .inl v1, .inl v2] _ _ _ (hK.1 d 93 20 _ _ _ _ (And.intro trivial (h)))
-- 94: LetterDays$Bundle.holds
theorem bB_holds_0 {K : am_KT} (hK : am_C K) {d : Nat} {σ : am_S} {Q : am_Q} {v1 : Int} {r : Nat} (hr : am_isB r) (h : K d 93 0 [.inr r] [] σ (fun o σ1 => K (d + 1) 94 2 [.inr r, .inl v1] (am_o o ++ []) σ1 Q)) : K (d + 1) 94 0 [.inr r, .inl v1] [] σ Q := by
  rcases hr with rfl | rfl | rfl
  · exact hK.1 (d + 1) 94 0 [.inr 54, .inl v1] _ _ _ (hK.1 (d + 1) 94 1 _ _ _ _ (h))
  · exact hK.1 (d + 1) 94 0 [.inr 56, .inl v1] _ _ _ (hK.1 (d + 1) 94 1 _ _ _ _ (h))
  · exact hK.1 (d + 1) 94 0 [.inr 58, .inl v1] _ _ _ (hK.1 (d + 1) 94 1 _ _ _ _ (h))
theorem bB_holds_2 {K : am_KT} (hK : am_C K) {d : Nat} {σ : am_S} {Q : am_Q} {v1 s0 : Int} {r : Nat} (hr : am_isB r) (e0 : am_rng (am_and s0 (am_shl 1 v1))) (hT : am_and s0 (am_shl 1 v1) = 0 → K (d + 1) 94 9 [.inr r, .inl v1] [] σ Q) (hF : am_and s0 (am_shl 1 v1) ≠ 0 → K (d + 1) 94 7 [.inr r, .inl v1] [] σ Q) : K (d + 1) 94 2 [.inr r, .inl v1] [.inl s0] σ Q := by
  rcases hr with rfl | rfl | rfl
  · exact hK.1 (d + 1) 94 2 [.inr 54, .inl v1] _ _ _ (hK.1 (d + 1) 94 3 _ _ _ _ (hK.1 (d + 1) 94 4 _ _ _ _ (hK.1 (d + 1) 94 5 _ _ _ _ (hK.1 (d + 1) 94 6 _ _ _ _ (And.intro e0 (And.intro (And.intro (by decide) (by decide)) (And.intro (fun g => hT g) (fun g => hF g))))))))
  · exact hK.1 (d + 1) 94 2 [.inr 56, .inl v1] _ _ _ (hK.1 (d + 1) 94 3 _ _ _ _ (hK.1 (d + 1) 94 4 _ _ _ _ (hK.1 (d + 1) 94 5 _ _ _ _ (hK.1 (d + 1) 94 6 _ _ _ _ (And.intro e0 (And.intro (And.intro (by decide) (by decide)) (And.intro (fun g => hT g) (fun g => hF g))))))))
  · exact hK.1 (d + 1) 94 2 [.inr 58, .inl v1] _ _ _ (hK.1 (d + 1) 94 3 _ _ _ _ (hK.1 (d + 1) 94 4 _ _ _ _ (hK.1 (d + 1) 94 5 _ _ _ _ (hK.1 (d + 1) 94 6 _ _ _ _ (And.intro e0 (And.intro (And.intro (by decide) (by decide)) (And.intro (fun g => hT g) (fun g => hF g))))))))
theorem bB_holds_7 {K : am_KT} (hK : am_C K) {d : Nat} {σ : am_S} {Q : am_Q} {v1 : Int} {r : Nat} (hr : am_isB r) (h : K (d + 1) 94 10 [.inr r, .inl v1] [.inl 1] σ Q) : K (d + 1) 94 7 [.inr r, .inl v1] [] σ Q := by
  rcases hr with rfl | rfl | rfl
  · exact hK.1 (d + 1) 94 7 [.inr 54, .inl v1] _ _ _ (hK.1 (d + 1) 94 8 _ _ _ _ (h))
  · exact hK.1 (d + 1) 94 7 [.inr 56, .inl v1] _ _ _ (hK.1 (d + 1) 94 8 _ _ _ _ (h))
  · exact hK.1 (d + 1) 94 7 [.inr 58, .inl v1] _ _ _ (hK.1 (d + 1) 94 8 _ _ _ _ (h))
theorem bB_holds_9 {K : am_KT} (hK : am_C K) {d : Nat} {σ : am_S} {Q : am_Q} {v1 : Int} {r : Nat} (hr : am_isB r) (h : K (d + 1) 94 10 [.inr r, .inl v1] [.inl 0] σ Q) : K (d + 1) 94 9 [.inr r, .inl v1] [] σ Q := by
  rcases hr with rfl | rfl | rfl
  · exact hK.1 (d + 1) 94 9 [.inr 54, .inl v1] _ _ _ (h)
  · exact hK.1 (d + 1) 94 9 [.inr 56, .inl v1] _ _ _ (h)
  · exact hK.1 (d + 1) 94 9 [.inr 58, .inl v1] _ _ _ (h)
theorem bB_holds_10 {K : am_KT} (hK : am_C K) {d : Nat} {σ : am_S} {Q : am_Q} {v1 s0 : Int} {r : Nat} (hr : am_isB r) (e0 : s0 = 0 ∨ s0 = 1) (h : Q (some s0) σ) : K (d + 1) 94 10 [.inr r, .inl v1] [.inl s0] σ Q := by
  rcases hr with rfl | rfl | rfl
  · exact hK.1 (d + 1) 94 10 [.inr 54, .inl v1] _ _ _ (And.intro e0 (h))
  · exact hK.1 (d + 1) 94 10 [.inr 56, .inl v1] _ _ _ (And.intro e0 (h))
  · exact hK.1 (d + 1) 94 10 [.inr 58, .inl v1] _ _ _ (And.intro e0 (h))
-- 95: LetterDays$Bundle.placeFor
theorem bB_placeFor_0 {K : am_KT} (hK : am_C K) {d : Nat} {σ : am_S} {Q : am_Q} {v1 : Int} {r q : Nat} (hr : am_isB r) (hq : am_isD q) (h : K d 95 3 [.inr r, .inl v1, .inr q, .inl (σ r 0)] [] σ Q) : K d 95 0 [.inr r, .inl v1, .inr q] [] σ Q := by
  rcases hr with rfl | rfl | rfl
  · rcases hq with rfl | rfl | rfl | rfl
    · exact hK.1 d 95 0 [.inr 54, .inl v1, .inr 27] _ _ _ (hK.1 d 95 1 _ _ _ _ (hK.1 d 95 2 _ _ _ _ (h)))
    · exact hK.1 d 95 0 [.inr 54, .inl v1, .inr 28] _ _ _ (hK.1 d 95 1 _ _ _ _ (hK.1 d 95 2 _ _ _ _ (h)))
    · exact hK.1 d 95 0 [.inr 54, .inl v1, .inr 29] _ _ _ (hK.1 d 95 1 _ _ _ _ (hK.1 d 95 2 _ _ _ _ (h)))
    · exact hK.1 d 95 0 [.inr 54, .inl v1, .inr 42] _ _ _ (hK.1 d 95 1 _ _ _ _ (hK.1 d 95 2 _ _ _ _ (h)))
  · rcases hq with rfl | rfl | rfl | rfl
    · exact hK.1 d 95 0 [.inr 56, .inl v1, .inr 27] _ _ _ (hK.1 d 95 1 _ _ _ _ (hK.1 d 95 2 _ _ _ _ (h)))
    · exact hK.1 d 95 0 [.inr 56, .inl v1, .inr 28] _ _ _ (hK.1 d 95 1 _ _ _ _ (hK.1 d 95 2 _ _ _ _ (h)))
    · exact hK.1 d 95 0 [.inr 56, .inl v1, .inr 29] _ _ _ (hK.1 d 95 1 _ _ _ _ (hK.1 d 95 2 _ _ _ _ (h)))
    · exact hK.1 d 95 0 [.inr 56, .inl v1, .inr 42] _ _ _ (hK.1 d 95 1 _ _ _ _ (hK.1 d 95 2 _ _ _ _ (h)))
  · rcases hq with rfl | rfl | rfl | rfl
    · exact hK.1 d 95 0 [.inr 58, .inl v1, .inr 27] _ _ _ (hK.1 d 95 1 _ _ _ _ (hK.1 d 95 2 _ _ _ _ (h)))
    · exact hK.1 d 95 0 [.inr 58, .inl v1, .inr 28] _ _ _ (hK.1 d 95 1 _ _ _ _ (hK.1 d 95 2 _ _ _ _ (h)))
    · exact hK.1 d 95 0 [.inr 58, .inl v1, .inr 29] _ _ _ (hK.1 d 95 1 _ _ _ _ (hK.1 d 95 2 _ _ _ _ (h)))
    · exact hK.1 d 95 0 [.inr 58, .inl v1, .inr 42] _ _ _ (hK.1 d 95 1 _ _ _ _ (hK.1 d 95 2 _ _ _ _ (h)))
theorem bB_placeFor_3 {K : am_KT} (hK : am_C K) {d : Nat} {σ : am_S} {Q : am_Q} {v1 v3 : Int} {r q : Nat} (hr : am_isB r) (hq : am_isD q) (e0 : am_rng v3) (hT : v3 ≤ 0 → K d 95 33 [.inr r, .inl v1, .inr q, .inl v3] [] σ Q) (hF : 0 < v3 → K d 95 5 [.inr r, .inl v1, .inr q, .inl v3] [] σ Q) : K d 95 3 [.inr r, .inl v1, .inr q, .inl v3] [] σ Q := by
  rcases hr with rfl | rfl | rfl
  · rcases hq with rfl | rfl | rfl | rfl
    · exact hK.1 d 95 3 [.inr 54, .inl v1, .inr 27, .inl v3] _ _ _ (hK.1 d 95 4 _ _ _ _ (And.intro e0 (And.intro (And.intro (by decide) (by decide)) (And.intro (fun g => hT g) (fun g => hF g)))))
    · exact hK.1 d 95 3 [.inr 54, .inl v1, .inr 28, .inl v3] _ _ _ (hK.1 d 95 4 _ _ _ _ (And.intro e0 (And.intro (And.intro (by decide) (by decide)) (And.intro (fun g => hT g) (fun g => hF g)))))
    · exact hK.1 d 95 3 [.inr 54, .inl v1, .inr 29, .inl v3] _ _ _ (hK.1 d 95 4 _ _ _ _ (And.intro e0 (And.intro (And.intro (by decide) (by decide)) (And.intro (fun g => hT g) (fun g => hF g)))))
    · exact hK.1 d 95 3 [.inr 54, .inl v1, .inr 42, .inl v3] _ _ _ (hK.1 d 95 4 _ _ _ _ (And.intro e0 (And.intro (And.intro (by decide) (by decide)) (And.intro (fun g => hT g) (fun g => hF g)))))
  · rcases hq with rfl | rfl | rfl | rfl
    · exact hK.1 d 95 3 [.inr 56, .inl v1, .inr 27, .inl v3] _ _ _ (hK.1 d 95 4 _ _ _ _ (And.intro e0 (And.intro (And.intro (by decide) (by decide)) (And.intro (fun g => hT g) (fun g => hF g)))))
    · exact hK.1 d 95 3 [.inr 56, .inl v1, .inr 28, .inl v3] _ _ _ (hK.1 d 95 4 _ _ _ _ (And.intro e0 (And.intro (And.intro (by decide) (by decide)) (And.intro (fun g => hT g) (fun g => hF g)))))
    · exact hK.1 d 95 3 [.inr 56, .inl v1, .inr 29, .inl v3] _ _ _ (hK.1 d 95 4 _ _ _ _ (And.intro e0 (And.intro (And.intro (by decide) (by decide)) (And.intro (fun g => hT g) (fun g => hF g)))))
    · exact hK.1 d 95 3 [.inr 56, .inl v1, .inr 42, .inl v3] _ _ _ (hK.1 d 95 4 _ _ _ _ (And.intro e0 (And.intro (And.intro (by decide) (by decide)) (And.intro (fun g => hT g) (fun g => hF g)))))
  · rcases hq with rfl | rfl | rfl | rfl
    · exact hK.1 d 95 3 [.inr 58, .inl v1, .inr 27, .inl v3] _ _ _ (hK.1 d 95 4 _ _ _ _ (And.intro e0 (And.intro (And.intro (by decide) (by decide)) (And.intro (fun g => hT g) (fun g => hF g)))))
    · exact hK.1 d 95 3 [.inr 58, .inl v1, .inr 28, .inl v3] _ _ _ (hK.1 d 95 4 _ _ _ _ (And.intro e0 (And.intro (And.intro (by decide) (by decide)) (And.intro (fun g => hT g) (fun g => hF g)))))
    · exact hK.1 d 95 3 [.inr 58, .inl v1, .inr 29, .inl v3] _ _ _ (hK.1 d 95 4 _ _ _ _ (And.intro e0 (And.intro (And.intro (by decide) (by decide)) (And.intro (fun g => hT g) (fun g => hF g)))))
    · exact hK.1 d 95 3 [.inr 58, .inl v1, .inr 42, .inl v3] _ _ _ (hK.1 d 95 4 _ _ _ _ (And.intro e0 (And.intro (And.intro (by decide) (by decide)) (And.intro (fun g => hT g) (fun g => hF g)))))
theorem bB_placeFor_5 {K : am_KT} (hK : am_C K) {d : Nat} {σ : am_S} {Q : am_Q} {v1 v3 : Int} {r q : Nat} (hr : am_isB r) (hq : am_isD q) (e0 : 0 ≤ v3 - 1 ∧ v3 - 1 < 8) (e1 : 0 ≤ σ (r + 1) (v3 - 1) ∧ σ (r + 1) (v3 - 1) < 8) (e2 : 0 ≤ v1 ∧ v1 < 8) (e3 : am_rng (σ q (σ (r + 1) (v3 - 1)))) (e4 : am_rng (σ q v1)) (hT : σ q (σ (r + 1) (v3 - 1)) < σ q v1 → K d 95 29 [.inr r, .inl v1, .inr q, .inl v3, .inl (σ (r + 1) (v3 - 1))] [] σ Q) (hF : σ q v1 ≤ σ q (σ (r + 1) (v3 - 1)) → K d 95 19 [.inr r, .inl v1, .inr q, .inl v3, .inl (σ (r + 1) (v3 - 1))] [] σ Q) : K d 95 5 [.inr r, .inl v1, .inr q, .inl v3] [] σ Q := by
  rcases hr with rfl | rfl | rfl
  · rcases hq with rfl | rfl | rfl | rfl
    · exact hK.1 d 95 5 [.inr 54, .inl v1, .inr 27, .inl v3] _ _ _ (hK.1 d 95 6 _ _ _ _ (hK.1 d 95 7 _ _ _ _ (hK.1 d 95 8 _ _ _ _ (hK.1 d 95 9 _ _ _ _ (hK.1 d 95 10 _ _ _ _ (And.intro e0 (hK.1 d 95 11 _ _ _ _ (hK.1 d 95 12 [.inr 54, .inl v1, .inr 27, .inl v3, .inl (σ (54 + 1) (v3 - 1))] _ _ _ (hK.1 d 95 13 _ _ _ _ (hK.1 d 95 14 _ _ _ _ (And.intro e1 (hK.1 d 95 15 _ _ _ _ (hK.1 d 95 16 _ _ _ _ (hK.1 d 95 17 _ _ _ _ (And.intro e2 (hK.1 d 95 18 _ _ _ _ (And.intro e3 (And.intro e4 (And.intro (fun g => hT g) (fun g => hF g))))))))))))))))))))
    · exact hK.1 d 95 5 [.inr 54, .inl v1, .inr 28, .inl v3] _ _ _ (hK.1 d 95 6 _ _ _ _ (hK.1 d 95 7 _ _ _ _ (hK.1 d 95 8 _ _ _ _ (hK.1 d 95 9 _ _ _ _ (hK.1 d 95 10 _ _ _ _ (And.intro e0 (hK.1 d 95 11 _ _ _ _ (hK.1 d 95 12 [.inr 54, .inl v1, .inr 28, .inl v3, .inl (σ (54 + 1) (v3 - 1))] _ _ _ (hK.1 d 95 13 _ _ _ _ (hK.1 d 95 14 _ _ _ _ (And.intro e1 (hK.1 d 95 15 _ _ _ _ (hK.1 d 95 16 _ _ _ _ (hK.1 d 95 17 _ _ _ _ (And.intro e2 (hK.1 d 95 18 _ _ _ _ (And.intro e3 (And.intro e4 (And.intro (fun g => hT g) (fun g => hF g))))))))))))))))))))
    · exact hK.1 d 95 5 [.inr 54, .inl v1, .inr 29, .inl v3] _ _ _ (hK.1 d 95 6 _ _ _ _ (hK.1 d 95 7 _ _ _ _ (hK.1 d 95 8 _ _ _ _ (hK.1 d 95 9 _ _ _ _ (hK.1 d 95 10 _ _ _ _ (And.intro e0 (hK.1 d 95 11 _ _ _ _ (hK.1 d 95 12 [.inr 54, .inl v1, .inr 29, .inl v3, .inl (σ (54 + 1) (v3 - 1))] _ _ _ (hK.1 d 95 13 _ _ _ _ (hK.1 d 95 14 _ _ _ _ (And.intro e1 (hK.1 d 95 15 _ _ _ _ (hK.1 d 95 16 _ _ _ _ (hK.1 d 95 17 _ _ _ _ (And.intro e2 (hK.1 d 95 18 _ _ _ _ (And.intro e3 (And.intro e4 (And.intro (fun g => hT g) (fun g => hF g))))))))))))))))))))
    · exact hK.1 d 95 5 [.inr 54, .inl v1, .inr 42, .inl v3] _ _ _ (hK.1 d 95 6 _ _ _ _ (hK.1 d 95 7 _ _ _ _ (hK.1 d 95 8 _ _ _ _ (hK.1 d 95 9 _ _ _ _ (hK.1 d 95 10 _ _ _ _ (And.intro e0 (hK.1 d 95 11 _ _ _ _ (hK.1 d 95 12 [.inr 54, .inl v1, .inr 42, .inl v3, .inl (σ (54 + 1) (v3 - 1))] _ _ _ (hK.1 d 95 13 _ _ _ _ (hK.1 d 95 14 _ _ _ _ (And.intro e1 (hK.1 d 95 15 _ _ _ _ (hK.1 d 95 16 _ _ _ _ (hK.1 d 95 17 _ _ _ _ (And.intro e2 (hK.1 d 95 18 _ _ _ _ (And.intro e3 (And.intro e4 (And.intro (fun g => hT g) (fun g => hF g))))))))))))))))))))
  · rcases hq with rfl | rfl | rfl | rfl
    · exact hK.1 d 95 5 [.inr 56, .inl v1, .inr 27, .inl v3] _ _ _ (hK.1 d 95 6 _ _ _ _ (hK.1 d 95 7 _ _ _ _ (hK.1 d 95 8 _ _ _ _ (hK.1 d 95 9 _ _ _ _ (hK.1 d 95 10 _ _ _ _ (And.intro e0 (hK.1 d 95 11 _ _ _ _ (hK.1 d 95 12 [.inr 56, .inl v1, .inr 27, .inl v3, .inl (σ (56 + 1) (v3 - 1))] _ _ _ (hK.1 d 95 13 _ _ _ _ (hK.1 d 95 14 _ _ _ _ (And.intro e1 (hK.1 d 95 15 _ _ _ _ (hK.1 d 95 16 _ _ _ _ (hK.1 d 95 17 _ _ _ _ (And.intro e2 (hK.1 d 95 18 _ _ _ _ (And.intro e3 (And.intro e4 (And.intro (fun g => hT g) (fun g => hF g))))))))))))))))))))
    · exact hK.1 d 95 5 [.inr 56, .inl v1, .inr 28, .inl v3] _ _ _ (hK.1 d 95 6 _ _ _ _ (hK.1 d 95 7 _ _ _ _ (hK.1 d 95 8 _ _ _ _ (hK.1 d 95 9 _ _ _ _ (hK.1 d 95 10 _ _ _ _ (And.intro e0 (hK.1 d 95 11 _ _ _ _ (hK.1 d 95 12 [.inr 56, .inl v1, .inr 28, .inl v3, .inl (σ (56 + 1) (v3 - 1))] _ _ _ (hK.1 d 95 13 _ _ _ _ (hK.1 d 95 14 _ _ _ _ (And.intro e1 (hK.1 d 95 15 _ _ _ _ (hK.1 d 95 16 _ _ _ _ (hK.1 d 95 17 _ _ _ _ (And.intro e2 (hK.1 d 95 18 _ _ _ _ (And.intro e3 (And.intro e4 (And.intro (fun g => hT g) (fun g => hF g))))))))))))))))))))
    · exact hK.1 d 95 5 [.inr 56, .inl v1, .inr 29, .inl v3] _ _ _ (hK.1 d 95 6 _ _ _ _ (hK.1 d 95 7 _ _ _ _ (hK.1 d 95 8 _ _ _ _ (hK.1 d 95 9 _ _ _ _ (hK.1 d 95 10 _ _ _ _ (And.intro e0 (hK.1 d 95 11 _ _ _ _ (hK.1 d 95 12 [.inr 56, .inl v1, .inr 29, .inl v3, .inl (σ (56 + 1) (v3 - 1))] _ _ _ (hK.1 d 95 13 _ _ _ _ (hK.1 d 95 14 _ _ _ _ (And.intro e1 (hK.1 d 95 15 _ _ _ _ (hK.1 d 95 16 _ _ _ _ (hK.1 d 95 17 _ _ _ _ (And.intro e2 (hK.1 d 95 18 _ _ _ _ (And.intro e3 (And.intro e4 (And.intro (fun g => hT g) (fun g => hF g))))))))))))))))))))
    · exact hK.1 d 95 5 [.inr 56, .inl v1, .inr 42, .inl v3] _ _ _ (hK.1 d 95 6 _ _ _ _ (hK.1 d 95 7 _ _ _ _ (hK.1 d 95 8 _ _ _ _ (hK.1 d 95 9 _ _ _ _ (hK.1 d 95 10 _ _ _ _ (And.intro e0 (hK.1 d 95 11 _ _ _ _ (hK.1 d 95 12 [.inr 56, .inl v1, .inr 42, .inl v3, .inl (σ (56 + 1) (v3 - 1))] _ _ _ (hK.1 d 95 13 _ _ _ _ (hK.1 d 95 14 _ _ _ _ (And.intro e1 (hK.1 d 95 15 _ _ _ _ (hK.1 d 95 16 _ _ _ _ (hK.1 d 95 17 _ _ _ _ (And.intro e2 (hK.1 d 95 18 _ _ _ _ (And.intro e3 (And.intro e4 (And.intro (fun g => hT g) (fun g => hF g))))))))))))))))))))
  · rcases hq with rfl | rfl | rfl | rfl
    · exact hK.1 d 95 5 [.inr 58, .inl v1, .inr 27, .inl v3] _ _ _ (hK.1 d 95 6 _ _ _ _ (hK.1 d 95 7 _ _ _ _ (hK.1 d 95 8 _ _ _ _ (hK.1 d 95 9 _ _ _ _ (hK.1 d 95 10 _ _ _ _ (And.intro e0 (hK.1 d 95 11 _ _ _ _ (hK.1 d 95 12 [.inr 58, .inl v1, .inr 27, .inl v3, .inl (σ (58 + 1) (v3 - 1))] _ _ _ (hK.1 d 95 13 _ _ _ _ (hK.1 d 95 14 _ _ _ _ (And.intro e1 (hK.1 d 95 15 _ _ _ _ (hK.1 d 95 16 _ _ _ _ (hK.1 d 95 17 _ _ _ _ (And.intro e2 (hK.1 d 95 18 _ _ _ _ (And.intro e3 (And.intro e4 (And.intro (fun g => hT g) (fun g => hF g))))))))))))))))))))
    · exact hK.1 d 95 5 [.inr 58, .inl v1, .inr 28, .inl v3] _ _ _ (hK.1 d 95 6 _ _ _ _ (hK.1 d 95 7 _ _ _ _ (hK.1 d 95 8 _ _ _ _ (hK.1 d 95 9 _ _ _ _ (hK.1 d 95 10 _ _ _ _ (And.intro e0 (hK.1 d 95 11 _ _ _ _ (hK.1 d 95 12 [.inr 58, .inl v1, .inr 28, .inl v3, .inl (σ (58 + 1) (v3 - 1))] _ _ _ (hK.1 d 95 13 _ _ _ _ (hK.1 d 95 14 _ _ _ _ (And.intro e1 (hK.1 d 95 15 _ _ _ _ (hK.1 d 95 16 _ _ _ _ (hK.1 d 95 17 _ _ _ _ (And.intro e2 (hK.1 d 95 18 _ _ _ _ (And.intro e3 (And.intro e4 (And.intro (fun g => hT g) (fun g => hF g))))))))))))))))))))
    · exact hK.1 d 95 5 [.inr 58, .inl v1, .inr 29, .inl v3] _ _ _ (hK.1 d 95 6 _ _ _ _ (hK.1 d 95 7 _ _ _ _ (hK.1 d 95 8 _ _ _ _ (hK.1 d 95 9 _ _ _ _ (hK.1 d 95 10 _ _ _ _ (And.intro e0 (hK.1 d 95 11 _ _ _ _ (hK.1 d 95 12 [.inr 58, .inl v1, .inr 29, .inl v3, .inl (σ (58 + 1) (v3 - 1))] _ _ _ (hK.1 d 95 13 _ _ _ _ (hK.1 d 95 14 _ _ _ _ (And.intro e1 (hK.1 d 95 15 _ _ _ _ (hK.1 d 95 16 _ _ _ _ (hK.1 d 95 17 _ _ _ _ (And.intro e2 (hK.1 d 95 18 _ _ _ _ (And.intro e3 (And.intro e4 (And.intro (fun g => hT g) (fun g => hF g))))))))))))))))))))
    · exact hK.1 d 95 5 [.inr 58, .inl v1, .inr 42, .inl v3] _ _ _ (hK.1 d 95 6 _ _ _ _ (hK.1 d 95 7 _ _ _ _ (hK.1 d 95 8 _ _ _ _ (hK.1 d 95 9 _ _ _ _ (hK.1 d 95 10 _ _ _ _ (And.intro e0 (hK.1 d 95 11 _ _ _ _ (hK.1 d 95 12 [.inr 58, .inl v1, .inr 42, .inl v3, .inl (σ (58 + 1) (v3 - 1))] _ _ _ (hK.1 d 95 13 _ _ _ _ (hK.1 d 95 14 _ _ _ _ (And.intro e1 (hK.1 d 95 15 _ _ _ _ (hK.1 d 95 16 _ _ _ _ (hK.1 d 95 17 _ _ _ _ (And.intro e2 (hK.1 d 95 18 _ _ _ _ (And.intro e3 (And.intro e4 (And.intro (fun g => hT g) (fun g => hF g))))))))))))))))))))
theorem bB_placeFor_19 {K : am_KT} (hK : am_C K) {d : Nat} {σ : am_S} {Q : am_Q} {v1 v3 v4 : Int} {r q : Nat} (hr : am_isB r) (hq : am_isD q) (e0 : 0 ≤ v4 ∧ v4 < 8) (e1 : 0 ≤ v1 ∧ v1 < 8) (e2 : am_rng (σ q v4)) (e3 : am_rng (σ q v1)) (hT : σ q v4 ≠ σ q v1 → K d 95 31 [.inr r, .inl v1, .inr q, .inl v3, .inl v4] [] σ Q) (hF : σ q v4 = σ q v1 → K d 95 26 [.inr r, .inl v1, .inr q, .inl v3, .inl v4] [] σ Q) : K d 95 19 [.inr r, .inl v1, .inr q, .inl v3, .inl v4] [] σ Q := by
  rcases hr with rfl | rfl | rfl
  · rcases hq with rfl | rfl | rfl | rfl
    · exact hK.1 d 95 19 [.inr 54, .inl v1, .inr 27, .inl v3, .inl v4] _ _ _ (hK.1 d 95 20 _ _ _ _ (hK.1 d 95 21 _ _ _ _ (And.intro e0 (hK.1 d 95 22 _ _ _ _ (hK.1 d 95 23 _ _ _ _ (hK.1 d 95 24 _ _ _ _ (And.intro e1 (hK.1 d 95 25 _ _ _ _ (And.intro e2 (And.intro e3 (And.intro (fun g => hT g) (fun g => hF g))))))))))))
    · exact hK.1 d 95 19 [.inr 54, .inl v1, .inr 28, .inl v3, .inl v4] _ _ _ (hK.1 d 95 20 _ _ _ _ (hK.1 d 95 21 _ _ _ _ (And.intro e0 (hK.1 d 95 22 _ _ _ _ (hK.1 d 95 23 _ _ _ _ (hK.1 d 95 24 _ _ _ _ (And.intro e1 (hK.1 d 95 25 _ _ _ _ (And.intro e2 (And.intro e3 (And.intro (fun g => hT g) (fun g => hF g))))))))))))
    · exact hK.1 d 95 19 [.inr 54, .inl v1, .inr 29, .inl v3, .inl v4] _ _ _ (hK.1 d 95 20 _ _ _ _ (hK.1 d 95 21 _ _ _ _ (And.intro e0 (hK.1 d 95 22 _ _ _ _ (hK.1 d 95 23 _ _ _ _ (hK.1 d 95 24 _ _ _ _ (And.intro e1 (hK.1 d 95 25 _ _ _ _ (And.intro e2 (And.intro e3 (And.intro (fun g => hT g) (fun g => hF g))))))))))))
    · exact hK.1 d 95 19 [.inr 54, .inl v1, .inr 42, .inl v3, .inl v4] _ _ _ (hK.1 d 95 20 _ _ _ _ (hK.1 d 95 21 _ _ _ _ (And.intro e0 (hK.1 d 95 22 _ _ _ _ (hK.1 d 95 23 _ _ _ _ (hK.1 d 95 24 _ _ _ _ (And.intro e1 (hK.1 d 95 25 _ _ _ _ (And.intro e2 (And.intro e3 (And.intro (fun g => hT g) (fun g => hF g))))))))))))
  · rcases hq with rfl | rfl | rfl | rfl
    · exact hK.1 d 95 19 [.inr 56, .inl v1, .inr 27, .inl v3, .inl v4] _ _ _ (hK.1 d 95 20 _ _ _ _ (hK.1 d 95 21 _ _ _ _ (And.intro e0 (hK.1 d 95 22 _ _ _ _ (hK.1 d 95 23 _ _ _ _ (hK.1 d 95 24 _ _ _ _ (And.intro e1 (hK.1 d 95 25 _ _ _ _ (And.intro e2 (And.intro e3 (And.intro (fun g => hT g) (fun g => hF g))))))))))))
    · exact hK.1 d 95 19 [.inr 56, .inl v1, .inr 28, .inl v3, .inl v4] _ _ _ (hK.1 d 95 20 _ _ _ _ (hK.1 d 95 21 _ _ _ _ (And.intro e0 (hK.1 d 95 22 _ _ _ _ (hK.1 d 95 23 _ _ _ _ (hK.1 d 95 24 _ _ _ _ (And.intro e1 (hK.1 d 95 25 _ _ _ _ (And.intro e2 (And.intro e3 (And.intro (fun g => hT g) (fun g => hF g))))))))))))
    · exact hK.1 d 95 19 [.inr 56, .inl v1, .inr 29, .inl v3, .inl v4] _ _ _ (hK.1 d 95 20 _ _ _ _ (hK.1 d 95 21 _ _ _ _ (And.intro e0 (hK.1 d 95 22 _ _ _ _ (hK.1 d 95 23 _ _ _ _ (hK.1 d 95 24 _ _ _ _ (And.intro e1 (hK.1 d 95 25 _ _ _ _ (And.intro e2 (And.intro e3 (And.intro (fun g => hT g) (fun g => hF g))))))))))))
    · exact hK.1 d 95 19 [.inr 56, .inl v1, .inr 42, .inl v3, .inl v4] _ _ _ (hK.1 d 95 20 _ _ _ _ (hK.1 d 95 21 _ _ _ _ (And.intro e0 (hK.1 d 95 22 _ _ _ _ (hK.1 d 95 23 _ _ _ _ (hK.1 d 95 24 _ _ _ _ (And.intro e1 (hK.1 d 95 25 _ _ _ _ (And.intro e2 (And.intro e3 (And.intro (fun g => hT g) (fun g => hF g))))))))))))
  · rcases hq with rfl | rfl | rfl | rfl
    · exact hK.1 d 95 19 [.inr 58, .inl v1, .inr 27, .inl v3, .inl v4] _ _ _ (hK.1 d 95 20 _ _ _ _ (hK.1 d 95 21 _ _ _ _ (And.intro e0 (hK.1 d 95 22 _ _ _ _ (hK.1 d 95 23 _ _ _ _ (hK.1 d 95 24 _ _ _ _ (And.intro e1 (hK.1 d 95 25 _ _ _ _ (And.intro e2 (And.intro e3 (And.intro (fun g => hT g) (fun g => hF g))))))))))))
    · exact hK.1 d 95 19 [.inr 58, .inl v1, .inr 28, .inl v3, .inl v4] _ _ _ (hK.1 d 95 20 _ _ _ _ (hK.1 d 95 21 _ _ _ _ (And.intro e0 (hK.1 d 95 22 _ _ _ _ (hK.1 d 95 23 _ _ _ _ (hK.1 d 95 24 _ _ _ _ (And.intro e1 (hK.1 d 95 25 _ _ _ _ (And.intro e2 (And.intro e3 (And.intro (fun g => hT g) (fun g => hF g))))))))))))
    · exact hK.1 d 95 19 [.inr 58, .inl v1, .inr 29, .inl v3, .inl v4] _ _ _ (hK.1 d 95 20 _ _ _ _ (hK.1 d 95 21 _ _ _ _ (And.intro e0 (hK.1 d 95 22 _ _ _ _ (hK.1 d 95 23 _ _ _ _ (hK.1 d 95 24 _ _ _ _ (And.intro e1 (hK.1 d 95 25 _ _ _ _ (And.intro e2 (And.intro e3 (And.intro (fun g => hT g) (fun g => hF g))))))))))))
    · exact hK.1 d 95 19 [.inr 58, .inl v1, .inr 42, .inl v3, .inl v4] _ _ _ (hK.1 d 95 20 _ _ _ _ (hK.1 d 95 21 _ _ _ _ (And.intro e0 (hK.1 d 95 22 _ _ _ _ (hK.1 d 95 23 _ _ _ _ (hK.1 d 95 24 _ _ _ _ (And.intro e1 (hK.1 d 95 25 _ _ _ _ (And.intro e2 (And.intro e3 (And.intro (fun g => hT g) (fun g => hF g))))))))))))
theorem bB_placeFor_26 {K : am_KT} (hK : am_C K) {d : Nat} {σ : am_S} {Q : am_Q} {v1 v3 v4 : Int} {r q : Nat} (hr : am_isB r) (hq : am_isD q) (e0 : am_rng v4) (e1 : am_rng v1) (hT : v1 ≤ v4 → K d 95 31 [.inr r, .inl v1, .inr q, .inl v3, .inl v4] [] σ Q) (hF : v4 < v1 → K d 95 29 [.inr r, .inl v1, .inr q, .inl v3, .inl v4] [] σ Q) : K d 95 26 [.inr r, .inl v1, .inr q, .inl v3, .inl v4] [] σ Q := by
  rcases hr with rfl | rfl | rfl
  · rcases hq with rfl | rfl | rfl | rfl
    · exact hK.1 d 95 26 [.inr 54, .inl v1, .inr 27, .inl v3, .inl v4] _ _ _ (hK.1 d 95 27 _ _ _ _ (hK.1 d 95 28 _ _ _ _ (And.intro e0 (And.intro e1 (And.intro (fun g => hT g) (fun g => hF g))))))
    · exact hK.1 d 95 26 [.inr 54, .inl v1, .inr 28, .inl v3, .inl v4] _ _ _ (hK.1 d 95 27 _ _ _ _ (hK.1 d 95 28 _ _ _ _ (And.intro e0 (And.intro e1 (And.intro (fun g => hT g) (fun g => hF g))))))
    · exact hK.1 d 95 26 [.inr 54, .inl v1, .inr 29, .inl v3, .inl v4] _ _ _ (hK.1 d 95 27 _ _ _ _ (hK.1 d 95 28 _ _ _ _ (And.intro e0 (And.intro e1 (And.intro (fun g => hT g) (fun g => hF g))))))
    · exact hK.1 d 95 26 [.inr 54, .inl v1, .inr 42, .inl v3, .inl v4] _ _ _ (hK.1 d 95 27 _ _ _ _ (hK.1 d 95 28 _ _ _ _ (And.intro e0 (And.intro e1 (And.intro (fun g => hT g) (fun g => hF g))))))
  · rcases hq with rfl | rfl | rfl | rfl
    · exact hK.1 d 95 26 [.inr 56, .inl v1, .inr 27, .inl v3, .inl v4] _ _ _ (hK.1 d 95 27 _ _ _ _ (hK.1 d 95 28 _ _ _ _ (And.intro e0 (And.intro e1 (And.intro (fun g => hT g) (fun g => hF g))))))
    · exact hK.1 d 95 26 [.inr 56, .inl v1, .inr 28, .inl v3, .inl v4] _ _ _ (hK.1 d 95 27 _ _ _ _ (hK.1 d 95 28 _ _ _ _ (And.intro e0 (And.intro e1 (And.intro (fun g => hT g) (fun g => hF g))))))
    · exact hK.1 d 95 26 [.inr 56, .inl v1, .inr 29, .inl v3, .inl v4] _ _ _ (hK.1 d 95 27 _ _ _ _ (hK.1 d 95 28 _ _ _ _ (And.intro e0 (And.intro e1 (And.intro (fun g => hT g) (fun g => hF g))))))
    · exact hK.1 d 95 26 [.inr 56, .inl v1, .inr 42, .inl v3, .inl v4] _ _ _ (hK.1 d 95 27 _ _ _ _ (hK.1 d 95 28 _ _ _ _ (And.intro e0 (And.intro e1 (And.intro (fun g => hT g) (fun g => hF g))))))
  · rcases hq with rfl | rfl | rfl | rfl
    · exact hK.1 d 95 26 [.inr 58, .inl v1, .inr 27, .inl v3, .inl v4] _ _ _ (hK.1 d 95 27 _ _ _ _ (hK.1 d 95 28 _ _ _ _ (And.intro e0 (And.intro e1 (And.intro (fun g => hT g) (fun g => hF g))))))
    · exact hK.1 d 95 26 [.inr 58, .inl v1, .inr 28, .inl v3, .inl v4] _ _ _ (hK.1 d 95 27 _ _ _ _ (hK.1 d 95 28 _ _ _ _ (And.intro e0 (And.intro e1 (And.intro (fun g => hT g) (fun g => hF g))))))
    · exact hK.1 d 95 26 [.inr 58, .inl v1, .inr 29, .inl v3, .inl v4] _ _ _ (hK.1 d 95 27 _ _ _ _ (hK.1 d 95 28 _ _ _ _ (And.intro e0 (And.intro e1 (And.intro (fun g => hT g) (fun g => hF g))))))
    · exact hK.1 d 95 26 [.inr 58, .inl v1, .inr 42, .inl v3, .inl v4] _ _ _ (hK.1 d 95 27 _ _ _ _ (hK.1 d 95 28 _ _ _ _ (And.intro e0 (And.intro e1 (And.intro (fun g => hT g) (fun g => hF g))))))
theorem bB_placeFor_29 {K : am_KT} (hK : am_C K) {d : Nat} {σ : am_S} {Q : am_Q} {v1 v3 v4 : Int} {r q : Nat} (hr : am_isB r) (hq : am_isD q) (h : Q (some v3) σ) : K d 95 29 [.inr r, .inl v1, .inr q, .inl v3, .inl v4] [] σ Q := by
  rcases hr with rfl | rfl | rfl
  · rcases hq with rfl | rfl | rfl | rfl
    · exact hK.1 d 95 29 [.inr 54, .inl v1, .inr 27, .inl v3, .inl v4] _ _ _ (hK.1 d 95 30 _ _ _ _ (And.intro trivial (h)))
    · exact hK.1 d 95 29 [.inr 54, .inl v1, .inr 28, .inl v3, .inl v4] _ _ _ (hK.1 d 95 30 _ _ _ _ (And.intro trivial (h)))
    · exact hK.1 d 95 29 [.inr 54, .inl v1, .inr 29, .inl v3, .inl v4] _ _ _ (hK.1 d 95 30 _ _ _ _ (And.intro trivial (h)))
    · exact hK.1 d 95 29 [.inr 54, .inl v1, .inr 42, .inl v3, .inl v4] _ _ _ (hK.1 d 95 30 _ _ _ _ (And.intro trivial (h)))
  · rcases hq with rfl | rfl | rfl | rfl
    · exact hK.1 d 95 29 [.inr 56, .inl v1, .inr 27, .inl v3, .inl v4] _ _ _ (hK.1 d 95 30 _ _ _ _ (And.intro trivial (h)))
    · exact hK.1 d 95 29 [.inr 56, .inl v1, .inr 28, .inl v3, .inl v4] _ _ _ (hK.1 d 95 30 _ _ _ _ (And.intro trivial (h)))
    · exact hK.1 d 95 29 [.inr 56, .inl v1, .inr 29, .inl v3, .inl v4] _ _ _ (hK.1 d 95 30 _ _ _ _ (And.intro trivial (h)))
    · exact hK.1 d 95 29 [.inr 56, .inl v1, .inr 42, .inl v3, .inl v4] _ _ _ (hK.1 d 95 30 _ _ _ _ (And.intro trivial (h)))
  · rcases hq with rfl | rfl | rfl | rfl
    · exact hK.1 d 95 29 [.inr 58, .inl v1, .inr 27, .inl v3, .inl v4] _ _ _ (hK.1 d 95 30 _ _ _ _ (And.intro trivial (h)))
    · exact hK.1 d 95 29 [.inr 58, .inl v1, .inr 28, .inl v3, .inl v4] _ _ _ (hK.1 d 95 30 _ _ _ _ (And.intro trivial (h)))
    · exact hK.1 d 95 29 [.inr 58, .inl v1, .inr 29, .inl v3, .inl v4] _ _ _ (hK.1 d 95 30 _ _ _ _ (And.intro trivial (h)))
    · exact hK.1 d 95 29 [.inr 58, .inl v1, .inr 42, .inl v3, .inl v4] _ _ _ (hK.1 d 95 30 _ _ _ _ (And.intro trivial (h)))
theorem bB_placeFor_31 {K : am_KT} (hK : am_C K) {d : Nat} {σ : am_S} {Q : am_Q} {v1 v3 v4 : Int} {r q : Nat} (hr : am_isB r) (hq : am_isD q) (h : K d 95 3 [.inr r, .inl v1, .inr q, .inl (v3 + (-1))] [] σ Q) : K d 95 31 [.inr r, .inl v1, .inr q, .inl v3, .inl v4] [] σ Q := by
  rcases hr with rfl | rfl | rfl
  · rcases hq with rfl | rfl | rfl | rfl
    · exact hK.1 d 95 31 [.inr 54, .inl v1, .inr 27, .inl v3, .inl v4] _ _ _ (hK.1 d 95 32 [.inr 54, .inl v1, .inr 27, .inl (v3 + (-1)), .inl v4] _ _ _ (hK.2.1 d 95 3 [.inr 54, .inl v1, .inr 27, .inl (v3 + (-1))] [.inl v4] [] σ Q (h)))
    · exact hK.1 d 95 31 [.inr 54, .inl v1, .inr 28, .inl v3, .inl v4] _ _ _ (hK.1 d 95 32 [.inr 54, .inl v1, .inr 28, .inl (v3 + (-1)), .inl v4] _ _ _ (hK.2.1 d 95 3 [.inr 54, .inl v1, .inr 28, .inl (v3 + (-1))] [.inl v4] [] σ Q (h)))
    · exact hK.1 d 95 31 [.inr 54, .inl v1, .inr 29, .inl v3, .inl v4] _ _ _ (hK.1 d 95 32 [.inr 54, .inl v1, .inr 29, .inl (v3 + (-1)), .inl v4] _ _ _ (hK.2.1 d 95 3 [.inr 54, .inl v1, .inr 29, .inl (v3 + (-1))] [.inl v4] [] σ Q (h)))
    · exact hK.1 d 95 31 [.inr 54, .inl v1, .inr 42, .inl v3, .inl v4] _ _ _ (hK.1 d 95 32 [.inr 54, .inl v1, .inr 42, .inl (v3 + (-1)), .inl v4] _ _ _ (hK.2.1 d 95 3 [.inr 54, .inl v1, .inr 42, .inl (v3 + (-1))] [.inl v4] [] σ Q (h)))
  · rcases hq with rfl | rfl | rfl | rfl
    · exact hK.1 d 95 31 [.inr 56, .inl v1, .inr 27, .inl v3, .inl v4] _ _ _ (hK.1 d 95 32 [.inr 56, .inl v1, .inr 27, .inl (v3 + (-1)), .inl v4] _ _ _ (hK.2.1 d 95 3 [.inr 56, .inl v1, .inr 27, .inl (v3 + (-1))] [.inl v4] [] σ Q (h)))
    · exact hK.1 d 95 31 [.inr 56, .inl v1, .inr 28, .inl v3, .inl v4] _ _ _ (hK.1 d 95 32 [.inr 56, .inl v1, .inr 28, .inl (v3 + (-1)), .inl v4] _ _ _ (hK.2.1 d 95 3 [.inr 56, .inl v1, .inr 28, .inl (v3 + (-1))] [.inl v4] [] σ Q (h)))
    · exact hK.1 d 95 31 [.inr 56, .inl v1, .inr 29, .inl v3, .inl v4] _ _ _ (hK.1 d 95 32 [.inr 56, .inl v1, .inr 29, .inl (v3 + (-1)), .inl v4] _ _ _ (hK.2.1 d 95 3 [.inr 56, .inl v1, .inr 29, .inl (v3 + (-1))] [.inl v4] [] σ Q (h)))
    · exact hK.1 d 95 31 [.inr 56, .inl v1, .inr 42, .inl v3, .inl v4] _ _ _ (hK.1 d 95 32 [.inr 56, .inl v1, .inr 42, .inl (v3 + (-1)), .inl v4] _ _ _ (hK.2.1 d 95 3 [.inr 56, .inl v1, .inr 42, .inl (v3 + (-1))] [.inl v4] [] σ Q (h)))
  · rcases hq with rfl | rfl | rfl | rfl
    · exact hK.1 d 95 31 [.inr 58, .inl v1, .inr 27, .inl v3, .inl v4] _ _ _ (hK.1 d 95 32 [.inr 58, .inl v1, .inr 27, .inl (v3 + (-1)), .inl v4] _ _ _ (hK.2.1 d 95 3 [.inr 58, .inl v1, .inr 27, .inl (v3 + (-1))] [.inl v4] [] σ Q (h)))
    · exact hK.1 d 95 31 [.inr 58, .inl v1, .inr 28, .inl v3, .inl v4] _ _ _ (hK.1 d 95 32 [.inr 58, .inl v1, .inr 28, .inl (v3 + (-1)), .inl v4] _ _ _ (hK.2.1 d 95 3 [.inr 58, .inl v1, .inr 28, .inl (v3 + (-1))] [.inl v4] [] σ Q (h)))
    · exact hK.1 d 95 31 [.inr 58, .inl v1, .inr 29, .inl v3, .inl v4] _ _ _ (hK.1 d 95 32 [.inr 58, .inl v1, .inr 29, .inl (v3 + (-1)), .inl v4] _ _ _ (hK.2.1 d 95 3 [.inr 58, .inl v1, .inr 29, .inl (v3 + (-1))] [.inl v4] [] σ Q (h)))
    · exact hK.1 d 95 31 [.inr 58, .inl v1, .inr 42, .inl v3, .inl v4] _ _ _ (hK.1 d 95 32 [.inr 58, .inl v1, .inr 42, .inl (v3 + (-1)), .inl v4] _ _ _ (hK.2.1 d 95 3 [.inr 58, .inl v1, .inr 42, .inl (v3 + (-1))] [.inl v4] [] σ Q (h)))
theorem bB_placeFor_33 {K : am_KT} (hK : am_C K) {d : Nat} {σ : am_S} {Q : am_Q} {v1 v3 : Int} {r q : Nat} (hr : am_isB r) (hq : am_isD q) (h : Q (some 0) σ) : K d 95 33 [.inr r, .inl v1, .inr q, .inl v3] [] σ Q := by
  rcases hr with rfl | rfl | rfl
  · rcases hq with rfl | rfl | rfl | rfl
    · exact hK.1 d 95 33 [.inr 54, .inl v1, .inr 27, .inl v3] _ _ _ (hK.1 d 95 34 _ _ _ _ (And.intro trivial (h)))
    · exact hK.1 d 95 33 [.inr 54, .inl v1, .inr 28, .inl v3] _ _ _ (hK.1 d 95 34 _ _ _ _ (And.intro trivial (h)))
    · exact hK.1 d 95 33 [.inr 54, .inl v1, .inr 29, .inl v3] _ _ _ (hK.1 d 95 34 _ _ _ _ (And.intro trivial (h)))
    · exact hK.1 d 95 33 [.inr 54, .inl v1, .inr 42, .inl v3] _ _ _ (hK.1 d 95 34 _ _ _ _ (And.intro trivial (h)))
  · rcases hq with rfl | rfl | rfl | rfl
    · exact hK.1 d 95 33 [.inr 56, .inl v1, .inr 27, .inl v3] _ _ _ (hK.1 d 95 34 _ _ _ _ (And.intro trivial (h)))
    · exact hK.1 d 95 33 [.inr 56, .inl v1, .inr 28, .inl v3] _ _ _ (hK.1 d 95 34 _ _ _ _ (And.intro trivial (h)))
    · exact hK.1 d 95 33 [.inr 56, .inl v1, .inr 29, .inl v3] _ _ _ (hK.1 d 95 34 _ _ _ _ (And.intro trivial (h)))
    · exact hK.1 d 95 33 [.inr 56, .inl v1, .inr 42, .inl v3] _ _ _ (hK.1 d 95 34 _ _ _ _ (And.intro trivial (h)))
  · rcases hq with rfl | rfl | rfl | rfl
    · exact hK.1 d 95 33 [.inr 58, .inl v1, .inr 27, .inl v3] _ _ _ (hK.1 d 95 34 _ _ _ _ (And.intro trivial (h)))
    · exact hK.1 d 95 33 [.inr 58, .inl v1, .inr 28, .inl v3] _ _ _ (hK.1 d 95 34 _ _ _ _ (And.intro trivial (h)))
    · exact hK.1 d 95 33 [.inr 58, .inl v1, .inr 29, .inl v3] _ _ _ (hK.1 d 95 34 _ _ _ _ (And.intro trivial (h)))
    · exact hK.1 d 95 33 [.inr 58, .inl v1, .inr 42, .inl v3] _ _ _ (hK.1 d 95 34 _ _ _ _ (And.intro trivial (h)))
-- 96: LetterDays$Bundle.insert
theorem bB_insert_0 {K : am_KT} (hK : am_C K) {d : Nat} {σ : am_S} {Q : am_Q} {v1 v2 : Int} {r : Nat} (hr : am_isB r) (e0 : am_rng (σ r 0)) (hT : 8 ≤ σ r 0 → K d 96 10 [.inr r, .inl v1, .inl v2] [] σ Q) (hF : σ r 0 < 8 → K d 96 4 [.inr r, .inl v1, .inl v2] [] σ Q) : K d 96 0 [.inr r, .inl v1, .inl v2] [] σ Q := by
  rcases hr with rfl | rfl | rfl
  · exact hK.1 d 96 0 [.inr 54, .inl v1, .inl v2] _ _ _ (hK.1 d 96 1 _ _ _ _ (hK.1 d 96 2 _ _ _ _ (hK.1 d 96 3 _ _ _ _ (And.intro e0 (And.intro (And.intro (by decide) (by decide)) (And.intro (fun g => hT g) (fun g => hF g)))))))
  · exact hK.1 d 96 0 [.inr 56, .inl v1, .inl v2] _ _ _ (hK.1 d 96 1 _ _ _ _ (hK.1 d 96 2 _ _ _ _ (hK.1 d 96 3 _ _ _ _ (And.intro e0 (And.intro (And.intro (by decide) (by decide)) (And.intro (fun g => hT g) (fun g => hF g)))))))
  · exact hK.1 d 96 0 [.inr 58, .inl v1, .inl v2] _ _ _ (hK.1 d 96 1 _ _ _ _ (hK.1 d 96 2 _ _ _ _ (hK.1 d 96 3 _ _ _ _ (And.intro e0 (And.intro (And.intro (by decide) (by decide)) (And.intro (fun g => hT g) (fun g => hF g)))))))
theorem bB_insert_4 {K : am_KT} (hK : am_C K) {d : Nat} {σ : am_S} {Q : am_Q} {v1 v2 : Int} {r : Nat} (hr : am_isB r) (e0 : am_rng v1) (hT : v1 < 0 → K d 96 10 [.inr r, .inl v1, .inl v2] [] σ Q) (hF : 0 ≤ v1 → K d 96 6 [.inr r, .inl v1, .inl v2] [] σ Q) : K d 96 4 [.inr r, .inl v1, .inl v2] [] σ Q := by
  rcases hr with rfl | rfl | rfl
  · exact hK.1 d 96 4 [.inr 54, .inl v1, .inl v2] _ _ _ (hK.1 d 96 5 _ _ _ _ (And.intro e0 (And.intro (And.intro (by decide) (by decide)) (And.intro (fun g => hT g) (fun g => hF g)))))
  · exact hK.1 d 96 4 [.inr 56, .inl v1, .inl v2] _ _ _ (hK.1 d 96 5 _ _ _ _ (And.intro e0 (And.intro (And.intro (by decide) (by decide)) (And.intro (fun g => hT g) (fun g => hF g)))))
  · exact hK.1 d 96 4 [.inr 58, .inl v1, .inl v2] _ _ _ (hK.1 d 96 5 _ _ _ _ (And.intro e0 (And.intro (And.intro (by decide) (by decide)) (And.intro (fun g => hT g) (fun g => hF g)))))
theorem bB_insert_6 {K : am_KT} (hK : am_C K) {d : Nat} {σ : am_S} {Q : am_Q} {v1 v2 : Int} {r : Nat} (hr : am_isB r) (e0 : am_rng v1) (e1 : am_rng (σ r 0)) (hT : v1 ≤ σ r 0 → K d 96 11 [.inr r, .inl v1, .inl v2] [] σ Q) (hF : σ r 0 < v1 → K d 96 10 [.inr r, .inl v1, .inl v2] [] σ Q) : K d 96 6 [.inr r, .inl v1, .inl v2] [] σ Q := by
  rcases hr with rfl | rfl | rfl
  · exact hK.1 d 96 6 [.inr 54, .inl v1, .inl v2] _ _ _ (hK.1 d 96 7 _ _ _ _ (hK.1 d 96 8 _ _ _ _ (hK.1 d 96 9 _ _ _ _ (And.intro e0 (And.intro e1 (And.intro (fun g => hT g) (fun g => hF g)))))))
  · exact hK.1 d 96 6 [.inr 56, .inl v1, .inl v2] _ _ _ (hK.1 d 96 7 _ _ _ _ (hK.1 d 96 8 _ _ _ _ (hK.1 d 96 9 _ _ _ _ (And.intro e0 (And.intro e1 (And.intro (fun g => hT g) (fun g => hF g)))))))
  · exact hK.1 d 96 6 [.inr 58, .inl v1, .inl v2] _ _ _ (hK.1 d 96 7 _ _ _ _ (hK.1 d 96 8 _ _ _ _ (hK.1 d 96 9 _ _ _ _ (And.intro e0 (And.intro e1 (And.intro (fun g => hT g) (fun g => hF g)))))))
theorem bB_insert_10 {K : am_KT} (hK : am_C K) {d : Nat} {σ : am_S} {Q : am_Q} {v1 v2 : Int} {r : Nat} (hr : am_isB r) (h : Q none σ) : K d 96 10 [.inr r, .inl v1, .inl v2] [] σ Q := by
  rcases hr with rfl | rfl | rfl
  · exact hK.1 d 96 10 [.inr 54, .inl v1, .inl v2] _ _ _ (h)
  · exact hK.1 d 96 10 [.inr 56, .inl v1, .inl v2] _ _ _ (h)
  · exact hK.1 d 96 10 [.inr 58, .inl v1, .inl v2] _ _ _ (h)
theorem bB_insert_11 {K : am_KT} (hK : am_C K) {d : Nat} {σ : am_S} {Q : am_Q} {v1 v2 : Int} {r : Nat} (hr : am_isB r) (h : K d 96 14 [.inr r, .inl v1, .inl v2, .inl (σ r 0)] [] σ Q) : K d 96 11 [.inr r, .inl v1, .inl v2] [] σ Q := by
  rcases hr with rfl | rfl | rfl
  · exact hK.1 d 96 11 [.inr 54, .inl v1, .inl v2] _ _ _ (hK.1 d 96 12 _ _ _ _ (hK.1 d 96 13 _ _ _ _ (h)))
  · exact hK.1 d 96 11 [.inr 56, .inl v1, .inl v2] _ _ _ (hK.1 d 96 12 _ _ _ _ (hK.1 d 96 13 _ _ _ _ (h)))
  · exact hK.1 d 96 11 [.inr 58, .inl v1, .inl v2] _ _ _ (hK.1 d 96 12 _ _ _ _ (hK.1 d 96 13 _ _ _ _ (h)))
theorem bB_insert_14 {K : am_KT} (hK : am_C K) {d : Nat} {σ : am_S} {Q : am_Q} {v1 v2 v3 : Int} {r : Nat} (hr : am_isB r) (e0 : am_rng v3) (e1 : am_rng v1) (hT : v3 ≤ v1 → K d 96 29 [.inr r, .inl v1, .inl v2, .inl v3] [] σ Q) (hF : v1 < v3 → K d 96 17 [.inr r, .inl v1, .inl v2, .inl v3] [] σ Q) : K d 96 14 [.inr r, .inl v1, .inl v2, .inl v3] [] σ Q := by
  rcases hr with rfl | rfl | rfl
  · exact hK.1 d 96 14 [.inr 54, .inl v1, .inl v2, .inl v3] _ _ _ (hK.1 d 96 15 _ _ _ _ (hK.1 d 96 16 _ _ _ _ (And.intro e0 (And.intro e1 (And.intro (fun g => hT g) (fun g => hF g))))))
  · exact hK.1 d 96 14 [.inr 56, .inl v1, .inl v2, .inl v3] _ _ _ (hK.1 d 96 15 _ _ _ _ (hK.1 d 96 16 _ _ _ _ (And.intro e0 (And.intro e1 (And.intro (fun g => hT g) (fun g => hF g))))))
  · exact hK.1 d 96 14 [.inr 58, .inl v1, .inl v2, .inl v3] _ _ _ (hK.1 d 96 15 _ _ _ _ (hK.1 d 96 16 _ _ _ _ (And.intro e0 (And.intro e1 (And.intro (fun g => hT g) (fun g => hF g))))))
theorem bB_insert_17 {K : am_KT} (hK : am_C K) {d : Nat} {σ : am_S} {Q : am_Q} {v1 v2 v3 : Int} {r : Nat} (hr : am_isB r) (e0 : 0 ≤ v3 - 1 ∧ v3 - 1 < 8) (e1 : 0 ≤ v3 ∧ v3 < 8) (h : K d 96 14 [.inr r, .inl v1, .inl v2, .inl (v3 + (-1))] [] (am_us σ (r + 1) v3 (σ (r + 1) (v3 - 1))) Q) : K d 96 17 [.inr r, .inl v1, .inl v2, .inl v3] [] σ Q := by
  rcases hr with rfl | rfl | rfl
  · exact hK.1 d 96 17 [.inr 54, .inl v1, .inl v2, .inl v3] _ _ _ (hK.1 d 96 18 _ _ _ _ (hK.1 d 96 19 _ _ _ _ (hK.1 d 96 20 _ _ _ _ (hK.1 d 96 21 _ _ _ _ (hK.1 d 96 22 _ _ _ _ (hK.1 d 96 23 _ _ _ _ (hK.1 d 96 24 _ _ _ _ (hK.1 d 96 25 _ _ _ _ (And.intro e0 (hK.1 d 96 26 _ _ _ _ (And.intro e1 (hK.1 d 96 27 _ _ _ _ (hK.1 d 96 28 [.inr 54, .inl v1, .inl v2, .inl (v3 + (-1))] _ _ _ (h))))))))))))))
  · exact hK.1 d 96 17 [.inr 56, .inl v1, .inl v2, .inl v3] _ _ _ (hK.1 d 96 18 _ _ _ _ (hK.1 d 96 19 _ _ _ _ (hK.1 d 96 20 _ _ _ _ (hK.1 d 96 21 _ _ _ _ (hK.1 d 96 22 _ _ _ _ (hK.1 d 96 23 _ _ _ _ (hK.1 d 96 24 _ _ _ _ (hK.1 d 96 25 _ _ _ _ (And.intro e0 (hK.1 d 96 26 _ _ _ _ (And.intro e1 (hK.1 d 96 27 _ _ _ _ (hK.1 d 96 28 [.inr 56, .inl v1, .inl v2, .inl (v3 + (-1))] _ _ _ (h))))))))))))))
  · exact hK.1 d 96 17 [.inr 58, .inl v1, .inl v2, .inl v3] _ _ _ (hK.1 d 96 18 _ _ _ _ (hK.1 d 96 19 _ _ _ _ (hK.1 d 96 20 _ _ _ _ (hK.1 d 96 21 _ _ _ _ (hK.1 d 96 22 _ _ _ _ (hK.1 d 96 23 _ _ _ _ (hK.1 d 96 24 _ _ _ _ (hK.1 d 96 25 _ _ _ _ (And.intro e0 (hK.1 d 96 26 _ _ _ _ (And.intro e1 (hK.1 d 96 27 _ _ _ _ (hK.1 d 96 28 [.inr 58, .inl v1, .inl v2, .inl (v3 + (-1))] _ _ _ (h))))))))))))))
theorem bB_insert_29 {K : am_KT} (hK : am_C K) {d : Nat} {σ : am_S} {Q : am_Q} {v1 v2 v3 : Int} {r : Nat} (hr : am_isB r) (e0 : 0 ≤ v1 ∧ v1 < 8) (h : Q none (am_us (am_us σ (r + 1) v1 v2) r 0 (((am_us σ (r + 1) v1 v2) r 0) + 1))) : K d 96 29 [.inr r, .inl v1, .inl v2, .inl v3] [] σ Q := by
  rcases hr with rfl | rfl | rfl
  · exact hK.1 d 96 29 [.inr 54, .inl v1, .inl v2, .inl v3] _ _ _ (hK.1 d 96 30 _ _ _ _ (hK.1 d 96 31 _ _ _ _ (hK.1 d 96 32 _ _ _ _ (hK.1 d 96 33 _ _ _ _ (And.intro e0 (hK.1 d 96 34 _ _ _ _ (hK.1 d 96 35 _ _ _ _ (hK.1 d 96 36 _ _ _ _ (hK.1 d 96 37 _ _ _ _ (hK.1 d 96 38 _ _ _ _ (hK.1 d 96 39 _ _ _ _ (hK.1 d 96 40 _ _ _ _ (h)))))))))))))
  · exact hK.1 d 96 29 [.inr 56, .inl v1, .inl v2, .inl v3] _ _ _ (hK.1 d 96 30 _ _ _ _ (hK.1 d 96 31 _ _ _ _ (hK.1 d 96 32 _ _ _ _ (hK.1 d 96 33 _ _ _ _ (And.intro e0 (hK.1 d 96 34 _ _ _ _ (hK.1 d 96 35 _ _ _ _ (hK.1 d 96 36 _ _ _ _ (hK.1 d 96 37 _ _ _ _ (hK.1 d 96 38 _ _ _ _ (hK.1 d 96 39 _ _ _ _ (hK.1 d 96 40 _ _ _ _ (h)))))))))))))
  · exact hK.1 d 96 29 [.inr 58, .inl v1, .inl v2, .inl v3] _ _ _ (hK.1 d 96 30 _ _ _ _ (hK.1 d 96 31 _ _ _ _ (hK.1 d 96 32 _ _ _ _ (hK.1 d 96 33 _ _ _ _ (And.intro e0 (hK.1 d 96 34 _ _ _ _ (hK.1 d 96 35 _ _ _ _ (hK.1 d 96 36 _ _ _ _ (hK.1 d 96 37 _ _ _ _ (hK.1 d 96 38 _ _ _ _ (hK.1 d 96 39 _ _ _ _ (hK.1 d 96 40 _ _ _ _ (h)))))))))))))
-- 97: LetterDays$Bundle.remove
theorem bB_remove_0 {K : am_KT} (hK : am_C K) {d : Nat} {σ : am_S} {Q : am_Q} {v1 : Int} {r : Nat} (hr : am_isB r) (h : K d 97 4 [.inr r, .inl v1, .inl 0, .inl 0] [] σ Q) : K d 97 0 [.inr r, .inl v1] [] σ Q := by
  rcases hr with rfl | rfl | rfl
  · exact hK.1 d 97 0 [.inr 54, .inl v1] _ _ _ (hK.1 d 97 1 _ _ _ _ (hK.1 d 97 2 [.inr 54, .inl v1, .inl 0] _ _ _ (hK.1 d 97 3 _ _ _ _ (h))))
  · exact hK.1 d 97 0 [.inr 56, .inl v1] _ _ _ (hK.1 d 97 1 _ _ _ _ (hK.1 d 97 2 [.inr 56, .inl v1, .inl 0] _ _ _ (hK.1 d 97 3 _ _ _ _ (h))))
  · exact hK.1 d 97 0 [.inr 58, .inl v1] _ _ _ (hK.1 d 97 1 _ _ _ _ (hK.1 d 97 2 [.inr 58, .inl v1, .inl 0] _ _ _ (hK.1 d 97 3 _ _ _ _ (h))))
theorem bB_remove_4 {K : am_KT} (hK : am_C K) {d : Nat} {σ : am_S} {Q : am_Q} {v1 v2 v3 : Int} {r : Nat} (hr : am_isB r) (e0 : am_rng v3) (e1 : am_rng (σ r 0)) (hT : σ r 0 ≤ v3 → K d 97 25 [.inr r, .inl v1, .inl v2, .inl v3] [] σ Q) (hF : v3 < σ r 0 → K d 97 8 [.inr r, .inl v1, .inl v2, .inl v3] [] σ Q) : K d 97 4 [.inr r, .inl v1, .inl v2, .inl v3] [] σ Q := by
  rcases hr with rfl | rfl | rfl
  · exact hK.1 d 97 4 [.inr 54, .inl v1, .inl v2, .inl v3] _ _ _ (hK.1 d 97 5 _ _ _ _ (hK.1 d 97 6 _ _ _ _ (hK.1 d 97 7 _ _ _ _ (And.intro e0 (And.intro e1 (And.intro (fun g => hT g) (fun g => hF g)))))))
  · exact hK.1 d 97 4 [.inr 56, .inl v1, .inl v2, .inl v3] _ _ _ (hK.1 d 97 5 _ _ _ _ (hK.1 d 97 6 _ _ _ _ (hK.1 d 97 7 _ _ _ _ (And.intro e0 (And.intro e1 (And.intro (fun g => hT g) (fun g => hF g)))))))
  · exact hK.1 d 97 4 [.inr 58, .inl v1, .inl v2, .inl v3] _ _ _ (hK.1 d 97 5 _ _ _ _ (hK.1 d 97 6 _ _ _ _ (hK.1 d 97 7 _ _ _ _ (And.intro e0 (And.intro e1 (And.intro (fun g => hT g) (fun g => hF g)))))))
theorem bB_remove_8 {K : am_KT} (hK : am_C K) {d : Nat} {σ : am_S} {Q : am_Q} {v1 v2 v3 : Int} {r : Nat} (hr : am_isB r) (e0 : 0 ≤ v3 ∧ v3 < 8) (e1 : am_rng (σ (r + 1) v3)) (e2 : am_rng v1) (hT : σ (r + 1) v3 = v1 → K d 97 23 [.inr r, .inl v1, .inl v2, .inl v3] [] σ Q) (hF : σ (r + 1) v3 ≠ v1 → K d 97 14 [.inr r, .inl v1, .inl v2, .inl v3] [] σ Q) : K d 97 8 [.inr r, .inl v1, .inl v2, .inl v3] [] σ Q := by
  rcases hr with rfl | rfl | rfl
  · exact hK.1 d 97 8 [.inr 54, .inl v1, .inl v2, .inl v3] _ _ _ (hK.1 d 97 9 _ _ _ _ (hK.1 d 97 10 _ _ _ _ (hK.1 d 97 11 _ _ _ _ (And.intro e0 (hK.1 d 97 12 _ _ _ _ (hK.1 d 97 13 _ _ _ _ (And.intro e1 (And.intro e2 (And.intro (fun g => hT g) (fun g => hF g))))))))))
  · exact hK.1 d 97 8 [.inr 56, .inl v1, .inl v2, .inl v3] _ _ _ (hK.1 d 97 9 _ _ _ _ (hK.1 d 97 10 _ _ _ _ (hK.1 d 97 11 _ _ _ _ (And.intro e0 (hK.1 d 97 12 _ _ _ _ (hK.1 d 97 13 _ _ _ _ (And.intro e1 (And.intro e2 (And.intro (fun g => hT g) (fun g => hF g))))))))))
  · exact hK.1 d 97 8 [.inr 58, .inl v1, .inl v2, .inl v3] _ _ _ (hK.1 d 97 9 _ _ _ _ (hK.1 d 97 10 _ _ _ _ (hK.1 d 97 11 _ _ _ _ (And.intro e0 (hK.1 d 97 12 _ _ _ _ (hK.1 d 97 13 _ _ _ _ (And.intro e1 (And.intro e2 (And.intro (fun g => hT g) (fun g => hF g))))))))))
theorem bB_remove_14 {K : am_KT} (hK : am_C K) {d : Nat} {σ : am_S} {Q : am_Q} {v1 v2 v3 : Int} {r : Nat} (hr : am_isB r) (e0 : 0 ≤ v3 ∧ v3 < 8) (e1 : 0 ≤ v2 ∧ v2 < 8) (h : K d 97 23 [.inr r, .inl v1, .inl (v2 + 1), .inl v3] [] (am_us σ (r + 1) v2 (σ (r + 1) v3)) Q) : K d 97 14 [.inr r, .inl v1, .inl v2, .inl v3] [] σ Q := by
  rcases hr with rfl | rfl | rfl
  · exact hK.1 d 97 14 [.inr 54, .inl v1, .inl v2, .inl v3] _ _ _ (hK.1 d 97 15 _ _ _ _ (hK.1 d 97 16 _ _ _ _ (hK.1 d 97 17 _ _ _ _ (hK.1 d 97 18 _ _ _ _ (hK.1 d 97 19 _ _ _ _ (hK.1 d 97 20 _ _ _ _ (And.intro e0 (hK.1 d 97 21 _ _ _ _ (And.intro e1 (hK.1 d 97 22 _ _ _ _ (h)))))))))))
  · exact hK.1 d 97 14 [.inr 56, .inl v1, .inl v2, .inl v3] _ _ _ (hK.1 d 97 15 _ _ _ _ (hK.1 d 97 16 _ _ _ _ (hK.1 d 97 17 _ _ _ _ (hK.1 d 97 18 _ _ _ _ (hK.1 d 97 19 _ _ _ _ (hK.1 d 97 20 _ _ _ _ (And.intro e0 (hK.1 d 97 21 _ _ _ _ (And.intro e1 (hK.1 d 97 22 _ _ _ _ (h)))))))))))
  · exact hK.1 d 97 14 [.inr 58, .inl v1, .inl v2, .inl v3] _ _ _ (hK.1 d 97 15 _ _ _ _ (hK.1 d 97 16 _ _ _ _ (hK.1 d 97 17 _ _ _ _ (hK.1 d 97 18 _ _ _ _ (hK.1 d 97 19 _ _ _ _ (hK.1 d 97 20 _ _ _ _ (And.intro e0 (hK.1 d 97 21 _ _ _ _ (And.intro e1 (hK.1 d 97 22 _ _ _ _ (h)))))))))))
theorem bB_remove_23 {K : am_KT} (hK : am_C K) {d : Nat} {σ : am_S} {Q : am_Q} {v1 v2 v3 : Int} {r : Nat} (hr : am_isB r) (h : K d 97 4 [.inr r, .inl v1, .inl v2, .inl (v3 + 1)] [] σ Q) : K d 97 23 [.inr r, .inl v1, .inl v2, .inl v3] [] σ Q := by
  rcases hr with rfl | rfl | rfl
  · exact hK.1 d 97 23 [.inr 54, .inl v1, .inl v2, .inl v3] _ _ _ (hK.1 d 97 24 [.inr 54, .inl v1, .inl v2, .inl (v3 + 1)] _ _ _ (h))
  · exact hK.1 d 97 23 [.inr 56, .inl v1, .inl v2, .inl v3] _ _ _ (hK.1 d 97 24 [.inr 56, .inl v1, .inl v2, .inl (v3 + 1)] _ _ _ (h))
  · exact hK.1 d 97 23 [.inr 58, .inl v1, .inl v2, .inl v3] _ _ _ (hK.1 d 97 24 [.inr 58, .inl v1, .inl v2, .inl (v3 + 1)] _ _ _ (h))
theorem bB_remove_25 {K : am_KT} (hK : am_C K) {d : Nat} {σ : am_S} {Q : am_Q} {v1 v2 v3 : Int} {r : Nat} (hr : am_isB r) (h : Q none (am_us σ r 0 v2)) : K d 97 25 [.inr r, .inl v1, .inl v2, .inl v3] [] σ Q := by
  rcases hr with rfl | rfl | rfl
  · exact hK.1 d 97 25 [.inr 54, .inl v1, .inl v2, .inl v3] _ _ _ (hK.1 d 97 26 _ _ _ _ (hK.1 d 97 27 _ _ _ _ (hK.1 d 97 28 _ _ _ _ (h))))
  · exact hK.1 d 97 25 [.inr 56, .inl v1, .inl v2, .inl v3] _ _ _ (hK.1 d 97 26 _ _ _ _ (hK.1 d 97 27 _ _ _ _ (hK.1 d 97 28 _ _ _ _ (h))))
  · exact hK.1 d 97 25 [.inr 58, .inl v1, .inl v2, .inl v3] _ _ _ (hK.1 d 97 26 _ _ _ _ (hK.1 d 97 27 _ _ _ _ (hK.1 d 97 28 _ _ _ _ (h))))
-- 98: LetterDays$Bundle.receive
theorem bB_receive_0 {K : am_KT} (hK : am_C K) {d : Nat} {σ : am_S} {Q : am_Q} {v1 : Int} {r : Nat} (hr : am_isB r) (h : K d 94 0 [.inr r, .inl v1] [] σ (fun o σ1 => K (d + 1) 98 3 [.inr r, .inl v1] (am_o o ++ []) σ1 Q)) : K (d + 1) 98 0 [.inr r, .inl v1] [] σ Q := by
  rcases hr with rfl | rfl | rfl
  · exact hK.1 (d + 1) 98 0 [.inr 54, .inl v1] _ _ _ (hK.1 (d + 1) 98 1 _ _ _ _ (hK.1 (d + 1) 98 2 _ _ _ _ (h)))
  · exact hK.1 (d + 1) 98 0 [.inr 56, .inl v1] _ _ _ (hK.1 (d + 1) 98 1 _ _ _ _ (hK.1 (d + 1) 98 2 _ _ _ _ (h)))
  · exact hK.1 (d + 1) 98 0 [.inr 58, .inl v1] _ _ _ (hK.1 (d + 1) 98 1 _ _ _ _ (hK.1 (d + 1) 98 2 _ _ _ _ (h)))
theorem bB_receive_3 {K : am_KT} (hK : am_C K) {d : Nat} {σ : am_S} {Q : am_Q} {v1 s0 : Int} {r : Nat} (hr : am_isB r) (e0 : am_rng s0) (hT : s0 = 0 → K (d + 1) 98 8 [.inr r, .inl v1] [] σ Q) (hF : s0 ≠ 0 → K (d + 1) 98 4 [.inr r, .inl v1] [] σ Q) : K (d + 1) 98 3 [.inr r, .inl v1] [.inl s0] σ Q := by
  rcases hr with rfl | rfl | rfl
  · exact hK.1 (d + 1) 98 3 [.inr 54, .inl v1] _ _ _ (And.intro e0 (And.intro (And.intro (by decide) (by decide)) (And.intro (fun g => hT g) (fun g => hF g))))
  · exact hK.1 (d + 1) 98 3 [.inr 56, .inl v1] _ _ _ (And.intro e0 (And.intro (And.intro (by decide) (by decide)) (And.intro (fun g => hT g) (fun g => hF g))))
  · exact hK.1 (d + 1) 98 3 [.inr 58, .inl v1] _ _ _ (And.intro e0 (And.intro (And.intro (by decide) (by decide)) (And.intro (fun g => hT g) (fun g => hF g))))
theorem bB_receive_4 {K : am_KT} (hK : am_C K) {d : Nat} {σ : am_S} {Q : am_Q} {v1 : Int} {r : Nat} (hr : am_isB r) (h : K d 97 0 [.inr r, .inl v1] [] σ (fun o σ1 => K (d + 1) 98 7 [.inr r, .inl v1] (am_o o ++ []) σ1 Q)) : K (d + 1) 98 4 [.inr r, .inl v1] [] σ Q := by
  rcases hr with rfl | rfl | rfl
  · exact hK.1 (d + 1) 98 4 [.inr 54, .inl v1] _ _ _ (hK.1 (d + 1) 98 5 _ _ _ _ (hK.1 (d + 1) 98 6 _ _ _ _ (h)))
  · exact hK.1 (d + 1) 98 4 [.inr 56, .inl v1] _ _ _ (hK.1 (d + 1) 98 5 _ _ _ _ (hK.1 (d + 1) 98 6 _ _ _ _ (h)))
  · exact hK.1 (d + 1) 98 4 [.inr 58, .inl v1] _ _ _ (hK.1 (d + 1) 98 5 _ _ _ _ (hK.1 (d + 1) 98 6 _ _ _ _ (h)))
theorem bB_receive_7 {K : am_KT} (hK : am_C K) {d : Nat} {σ : am_S} {Q : am_Q} {v1 : Int} {r : Nat} (hr : am_isB r) (h : K (d + 1) 98 13 [.inr r, .inl v1] [] σ Q) : K (d + 1) 98 7 [.inr r, .inl v1] [] σ Q := by
  rcases hr with rfl | rfl | rfl
  · exact hK.1 (d + 1) 98 7 [.inr 54, .inl v1] _ _ _ (h)
  · exact hK.1 (d + 1) 98 7 [.inr 56, .inl v1] _ _ _ (h)
  · exact hK.1 (d + 1) 98 7 [.inr 58, .inl v1] _ _ _ (h)
theorem bB_receive_8 {K : am_KT} (hK : am_C K) {d : Nat} {σ : am_S} {Q : am_Q} {v1 : Int} {r : Nat} (hr : am_isB r) (h : K d 96 0 [.inr r, .inl (σ r 0), .inl v1] [] σ (fun o σ1 => K (d + 1) 98 13 [.inr r, .inl v1] (am_o o ++ []) σ1 Q)) : K (d + 1) 98 8 [.inr r, .inl v1] [] σ Q := by
  rcases hr with rfl | rfl | rfl
  · exact hK.1 (d + 1) 98 8 [.inr 54, .inl v1] _ _ _ (hK.1 (d + 1) 98 9 _ _ _ _ (hK.1 (d + 1) 98 10 _ _ _ _ (hK.1 (d + 1) 98 11 _ _ _ _ (hK.1 (d + 1) 98 12 _ _ _ _ (h)))))
  · exact hK.1 (d + 1) 98 8 [.inr 56, .inl v1] _ _ _ (hK.1 (d + 1) 98 9 _ _ _ _ (hK.1 (d + 1) 98 10 _ _ _ _ (hK.1 (d + 1) 98 11 _ _ _ _ (hK.1 (d + 1) 98 12 _ _ _ _ (h)))))
  · exact hK.1 (d + 1) 98 8 [.inr 58, .inl v1] _ _ _ (hK.1 (d + 1) 98 9 _ _ _ _ (hK.1 (d + 1) 98 10 _ _ _ _ (hK.1 (d + 1) 98 11 _ _ _ _ (hK.1 (d + 1) 98 12 _ _ _ _ (h)))))
theorem bB_receive_13 {K : am_KT} (hK : am_C K) {d : Nat} {σ : am_S} {Q : am_Q} {v1 : Int} {r : Nat} (hr : am_isB r) (h : Q none σ) : K (d + 1) 98 13 [.inr r, .inl v1] [] σ Q := by
  rcases hr with rfl | rfl | rfl
  · exact hK.1 (d + 1) 98 13 [.inr 54, .inl v1] _ _ _ (h)
  · exact hK.1 (d + 1) 98 13 [.inr 56, .inl v1] _ _ _ (h)
  · exact hK.1 (d + 1) 98 13 [.inr 58, .inl v1] _ _ _ (h)
