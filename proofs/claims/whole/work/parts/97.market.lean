/-! market: the reference's and the class's loops -/
theorem ul_for {n : Nat} {b : (Int32 × ul_S) → Option ((Int32 × ul_S) ⊕ (Int32 × ul_S))} (I : Nat → ul_S → Prop) (hn : n < 4096) (h0 : ∀ s, I n s → b (nI n, s) = some (.inl (nI n, s))) (hs : ∀ k s, k < n → I k s → ∃ s', b (nI k, s) = some (.inr (nI (k + 1), s')) ∧ I (k + 1) s') (s0 : ul_S) (h : I 0 s0) : ∃ s', ul_it ul_N b ((0 : Int32), s0) = some (nI n, s') ∧ I n s' := by
  have key := ul_run (b := b) (fun i s => i ≤ n ∧ s.1 = nI (n - i) ∧ I (n - i) s.2) (fun r => r.1 = nI n ∧ I n r.2)
    (by
      rintro ⟨s1, s2⟩ ⟨-, h1, h2⟩
      dsimp only at h1 h2
      rw [Nat.sub_zero] at h1 h2
      exact ⟨(nI n, s2), by rw [h1]; exact h0 s2 h2, rfl, h2⟩)
    (by
      rintro i ⟨s1, s2⟩ ⟨hi, h1, h2⟩
      dsimp only at h1 h2
      left
      obtain ⟨s', e1, e2⟩ := hs (n - (i + 1)) s2 (by omega) h2
      have ek : n - (i + 1) + 1 = n - i := by omega
      rw [ek] at e1 e2
      exact ⟨(nI (n - i), s'), by rw [h1]; exact e1, by omega, rfl, e2⟩)
    ul_N n ((0 : Int32), s0) ⟨Nat.le_refl n, by rw [Nat.sub_self]; rfl, by rw [Nat.sub_self]; exact h⟩ (by rw [ul_N_v]; omega)
  obtain ⟨⟨r1, r2⟩, hr, q1, q2⟩ := key
  dsimp only at q1 q2
  subst q1
  exact ⟨r2, hr, q2⟩
theorem x_m30 (S : ul_S) : ∃ s', ul_it ul_N f_X7_market_L30 ((0 : Int32), S) = some (nI 23, s') ∧ (∀ j, j ≠ 6 → s' j = S j) ∧ ∀ i, i < 23 → s' 6 i = 0 := by
  refine ul_for (n := 23) (b := f_X7_market_L30) (fun k s => (∀ j, j ≠ 6 → s j = S j) ∧ ∀ i, i < k → s 6 i = 0) (by omega) ?_ ?_ S ⟨fun _ _ => rfl, fun i hi => by omega⟩
  · intro s _
    unfold f_X7_market_L30
    dsimp only
    rw [if_pos (by decide)]
  · rintro k s hk ⟨h1, h2⟩
    have hk2 : ¬ (23 : Int32) ≤ nI k := nI_ge (a := k) (b := 23) hk (by omega)
    refine ⟨ul_up s 6 k 0, ?_, ?_, ?_⟩
    · unfold f_X7_market_L30
      dsimp only
      rw [if_neg hk2]
      simp (disch := omega) only [ul_stN, ul_bdE, nI_1]
    · intro j hj
      rw [ul_up_jf hj]
      exact h1 j hj
    · intro i hi
      by_cases e : i = k
      · rw [e, ul_up_s]
      · rw [ul_up_i e]
        exact h2 i (by omega)
theorem x_m51 {S : ul_S} {a : Nat} (ha : a ≤ 4) (h0 : S 0 0 = nI a) : ∃ s', ul_it ul_N f_X7_market_L51 ((0 : Int32), S) = some (nI a, s') ∧ (∀ j, j ≠ 6 → j ≠ 1 → j ≠ 2 → s' j = S j) ∧ (∀ l, l < a → s' 6 l = S 7 (3 * l) ∧ s' 1 l = S 7 (3 * l + 1) ∧ s' 2 l = S 7 (3 * l + 2)) ∧ ∀ i, a ≤ i → s' 6 i = S 6 i := by
  refine ul_for (n := a) (b := f_X7_market_L51) (fun k s => (∀ j, j ≠ 6 → j ≠ 1 → j ≠ 2 → s j = S j) ∧ (∀ l, l < k → s 6 l = S 7 (3 * l) ∧ s 1 l = S 7 (3 * l + 1) ∧ s 2 l = S 7 (3 * l + 2)) ∧ ∀ i, k ≤ i → s 6 i = S 6 i) (by omega) ?_ ?_ S ⟨fun _ _ _ _ => rfl, fun i hi => by omega, fun _ _ => rfl⟩
  · rintro s ⟨h1, -, -⟩
    unfold f_X7_market_L51
    dsimp only
    have hle : s 0 0 ≤ nI a := by
      rw [h1 0 (by decide) (by decide) (by decide), h0]
      exact nI_le (Nat.le_refl a) (by omega)
    rw [if_pos hle]
  · rintro k s hk ⟨h1, h2, h3⟩
    have e3 : (3 : Int32) * nI k = nI (3 * k) := pk_mul 3 k
    have e32 : nI (3 * k) + 2 = nI (3 * k + 2) := nI_add (3 * k) 2
    have h7 : s 7 = S 7 := h1 7 (by decide) (by decide) (by decide)
    refine ⟨ul_up (ul_up (ul_up s 6 k (S 7 (3 * k))) 1 k (S 7 (3 * k + 1))) 2 k (S 7 (3 * k + 2)), ?_, ?_, ?_, ?_⟩
    · unfold f_X7_market_L51
      dsimp only
      have hle : ¬ s 0 0 ≤ nI k := by
        rw [h1 0 (by decide) (by decide) (by decide), h0]
        exact nI_ge hk (by omega)
      rw [if_neg hle]
      simp (disch := omega) only [e3, e32, nI_1, ul_ldN, ul_stN, ul_bdE, ul_up_j, h7]
    · intro j a1 a2 a3
      rw [ul_up_jf a3, ul_up_jf a2, ul_up_jf a1]
      exact h1 j a1 a2 a3
    · intro l hl
      by_cases e : l = k
      · subst e
        refine ⟨?_, ?_, ?_⟩
        · rw [ul_up_j (by decide), ul_up_j (by decide), ul_up_s]
        · rw [ul_up_j (by decide), ul_up_s]
        · rw [ul_up_s]
      · rw [ul_up_i e, ul_up_i e, ul_up_i e, ul_up_i e, ul_up_i e, ul_up_i e, ul_up_i e, ul_up_i e, ul_up_i e]
        exact h2 l (by omega)
    · intro i hi
      rw [ul_up_j (by decide), ul_up_j (by decide), ul_up_i (by omega)]
      exact h3 i (by omega)
theorem x_m113 {S : ul_S} {b : Nat} (hb : b ≤ 5) (h0 : S 0 1 = nI b) : ∃ s', ul_it ul_N f_X7_market_L113 ((0 : Int32), S) = some (nI b, s') ∧ (∀ j, j ≠ 6 → j ≠ 3 → j ≠ 4 → j ≠ 5 → s' j = S j) ∧ (∀ p, p < b → s' 3 p = S 8 (4 * p) ∧ s' 4 p = S 8 (4 * p + 1) ∧ s' 5 p = S 8 (4 * p + 3) ∧ s' 6 (12 + p) = S 8 (4 * p) ∧ s' 6 (17 + p) = S 8 (4 * p + 2)) ∧ ∀ i, i < 12 ∨ i = 22 → s' 6 i = S 6 i := by
  refine ul_for (n := b) (b := f_X7_market_L113) (fun k s => (∀ j, j ≠ 6 → j ≠ 3 → j ≠ 4 → j ≠ 5 → s j = S j) ∧ (∀ p, p < k → s 3 p = S 8 (4 * p) ∧ s 4 p = S 8 (4 * p + 1) ∧ s 5 p = S 8 (4 * p + 3) ∧ s 6 (12 + p) = S 8 (4 * p) ∧ s 6 (17 + p) = S 8 (4 * p + 2)) ∧ ∀ i, i < 12 ∨ i = 22 → s 6 i = S 6 i) (by omega) ?_ ?_ S ⟨fun _ _ _ _ _ => rfl, fun i hi => by omega, fun _ _ => rfl⟩
  · rintro s ⟨h1, -, -⟩
    unfold f_X7_market_L113
    dsimp only
    have hle : s 0 1 ≤ nI b := by
      rw [h1 0 (by decide) (by decide) (by decide) (by decide), h0]
      exact nI_le (Nat.le_refl b) (by omega)
    rw [if_pos hle]
  · rintro k s hk ⟨h1, h2, h3⟩
    have e3 : (4 : Int32) * nI k = nI (4 * k) := pk_mul 4 k
    have e32 : nI (4 * k) + 2 = nI (4 * k + 2) := nI_add (4 * k) 2
    have e33 : nI (4 * k) + 3 = nI (4 * k + 3) := nI_add (4 * k) 3
    have e12 : (12 : Int32) + nI k = nI (12 + k) := nI_add 12 k
    have e17 : (17 : Int32) + nI k = nI (17 + k) := nI_add 17 k
    have h8 : s 8 = S 8 := h1 8 (by decide) (by decide) (by decide) (by decide)
    refine ⟨ul_up (ul_up (ul_up (ul_up (ul_up s 3 k (S 8 (4 * k))) 4 k (S 8 (4 * k + 1))) 5 k (S 8 (4 * k + 3))) 6 (12 + k) (S 8 (4 * k))) 6 (17 + k) (S 8 (4 * k + 2)), ?_, ?_, ?_, ?_⟩
    · unfold f_X7_market_L113
      dsimp only
      have hle : ¬ s 0 1 ≤ nI k := by
        rw [h1 0 (by decide) (by decide) (by decide) (by decide), h0]
        exact nI_ge hk (by omega)
      rw [if_neg hle]
      simp (disch := omega) only [e3, e32, e33, e12, e17, nI_1, ul_ldN, ul_stN, ul_bdE, ul_up_j, ul_up_s, h8]
    · intro j a1 a2 a3 a4
      rw [ul_up_jf a1, ul_up_jf a1, ul_up_jf a4, ul_up_jf a3, ul_up_jf a2]
      exact h1 j a1 a2 a3 a4
    · intro p hp
      by_cases e : p = k
      · subst e
        refine ⟨?_, ?_, ?_, ?_, ?_⟩
        · rw [ul_up_j (by decide), ul_up_j (by decide), ul_up_j (by decide), ul_up_j (by decide), ul_up_s]
        · rw [ul_up_j (by decide), ul_up_j (by decide), ul_up_j (by decide), ul_up_s]
        · rw [ul_up_j (by decide), ul_up_j (by decide), ul_up_s]
        · rw [ul_up_i (by omega), ul_up_s]
        · rw [ul_up_s]
      · obtain ⟨w1, w2, w3, w4, w5⟩ := h2 p (by omega)
        refine ⟨?_, ?_, ?_, ?_, ?_⟩
        · rw [ul_up_j (by decide), ul_up_j (by decide), ul_up_j (by decide), ul_up_j (by decide), ul_up_i e]
          exact w1
        · rw [ul_up_j (by decide), ul_up_j (by decide), ul_up_j (by decide), ul_up_i e, ul_up_j (by decide)]
          exact w2
        · rw [ul_up_j (by decide), ul_up_j (by decide), ul_up_i e, ul_up_j (by decide), ul_up_j (by decide)]
          exact w3
        · rw [ul_up_i (by omega), ul_up_i (by omega), ul_up_j (by decide), ul_up_j (by decide), ul_up_j (by decide)]
          exact w4
        · rw [ul_up_i (by omega), ul_up_i (by omega), ul_up_j (by decide), ul_up_j (by decide), ul_up_j (by decide)]
          exact w5
    · intro i hi
      rw [ul_up_i (by omega), ul_up_i (by omega), ul_up_j (by decide), ul_up_j (by decide), ul_up_j (by decide)]
      exact h3 i hi
/-- the reference, once the text is read -/
theorem x_mmark {a b : Nat} {K M : ul_S} (h : ul_rd a b K M) : ∃ M', (ul_bd (ul_up M 0 0 (M 0 2)) fun M157 => ul_bd (ul_up M157 0 1 (M157 0 3)) fun M158 => (ul_it ul_N (f_X7_market_L30) ((0 : Int32), M158)).bind (fun e30 => f_X7_market_j49 e30.1 e30.2)) = some ((10 : Int32) * nI a + nI b, M') ∧ M' 0 0 = nI a ∧ M' 0 1 = nI b ∧ (∀ l, l < a → M' 6 l = M 7 (3 * l) ∧ M' 1 l = M 7 (3 * l + 1) ∧ M' 2 l = M 7 (3 * l + 2) ∧ M' 6 (4 + l) = 0 ∧ M' 6 (8 + l) = 0) ∧ (∀ p, p < b → M' 3 p = M 8 (4 * p) ∧ M' 4 p = M 8 (4 * p + 1) ∧ M' 5 p = M 8 (4 * p + 3) ∧ M' 6 (12 + p) = M 8 (4 * p) ∧ M' 6 (17 + p) = M 8 (4 * p + 2)) ∧ M' 6 22 = 0 ∧ M' 0 8 = 0 ∧ (∀ i, i ≠ 0 → i ≠ 1 → i ≠ 8 → M' 0 i = M 0 i) ∧ (∀ j, 9 ≤ j → j ≠ 13 → M' j = M j) ∧ ∀ s, s < 2 → M' 13 s = 0 := by
  obtain ⟨⟨q1, q2, q3, q4, q5, q6⟩, -⟩ := h
  simp only [ul_bdE]
  obtain ⟨S, eS⟩ : ∃ z, z = ul_up (ul_up M 0 0 (M 0 2)) 0 1 (ul_up M 0 0 (M 0 2) 0 3) := ⟨_, rfl⟩
  rw [← eS]
  have s00 : S 0 0 = nI a := by
    rw [eS, ul_up_i (by decide), ul_up_s]
    exact q4
  have s01 : S 0 1 = nI b := by
    rw [eS, ul_up_s, ul_up_i (by decide)]
    exact q6
  have s0 : ∀ i, i ≠ 0 → i ≠ 1 → S 0 i = M 0 i := by
    intro i hi hj
    rw [eS, ul_up_i hj, ul_up_i hi]
  have sj : ∀ j, j ≠ 0 → S j = M j := by
    intro j hj
    rw [eS, ul_up_jf hj, ul_up_jf hj]
  obtain ⟨S1, e1, a1, a2⟩ := x_m30 S
  obtain ⟨S2, e2, b1, b2, b3⟩ := x_m51 (S := S1) q1 (by rw [a1 0 (by decide)]; exact s00)
  have t01 : S2 0 1 = nI b := by
    rw [b1 0 (by decide) (by decide) (by decide), a1 0 (by decide)]
    exact s01
  obtain ⟨S3, e3, c1, c2, c3⟩ := x_m113 (S := S2) q2 t01
  have z1 : ∀ j, j ≠ 6 → j ≠ 3 → j ≠ 4 → j ≠ 5 → j ≠ 1 → j ≠ 2 → S3 j = S j := by
    intro j h6 h3 h4 h5 h1 h2
    rw [c1 j h6 h3 h4 h5, b1 j h6 h1 h2, a1 j h6]
  have z00 : S3 0 0 = nI a := by
    rw [z1 0 (by decide) (by decide) (by decide) (by decide) (by decide) (by decide)]
    exact s00
  have z01 : S3 0 1 = nI b := by
    rw [z1 0 (by decide) (by decide) (by decide) (by decide) (by decide) (by decide)]
    exact s01
  have y7 : S1 7 = M 7 := by rw [a1 7 (by decide), sj 7 (by decide)]
  have y8 : S2 8 = M 8 := by rw [b1 8 (by decide) (by decide) (by decide), a1 8 (by decide), sj 8 (by decide)]
  rw [y7] at b2
  rw [y8] at c2
  have hst0 : ∀ {X : ul_S} {k : ul_S → Option (Int32 × ul_S)}, ul_st X 13 2 (0 : Int32) 0 k = k (ul_up X 13 0 0) := fun {X k} => ul_stN (i := 0) (by omega) (by omega)
  have hst1 : ∀ {X : ul_S} {k : ul_S → Option (Int32 × ul_S)}, ul_st X 13 2 (1 : Int32) 0 k = k (ul_up X 13 1 0) := fun {X k} => ul_stN (i := 1) (by omega) (by omega)
  refine ⟨ul_up (ul_up (ul_up S3 0 8 0) 13 0 0) 13 1 0, ?_, ?_, ?_, ?_, ?_, ?_, ?_, ?_, ?_, ?_⟩
  · rw [e1, Option.bind_some]
    unfold f_X7_market_j49
    dsimp only
    rw [e2, Option.bind_some]
    unfold f_X7_market_j111
    dsimp only
    rw [e3, Option.bind_some]
    unfold f_X7_market_j207
    dsimp only
    rw [nar0, ul_bdE, hst0, hst1]
    rw [ul_up_j (by decide), ul_up_j (by decide), ul_up_i (by decide), z00, ul_up_j (by decide), ul_up_j (by decide), ul_up_i (by decide), z01]
  · rw [ul_up_j (by decide), ul_up_j (by decide), ul_up_i (by decide)]
    exact z00
  · rw [ul_up_j (by decide), ul_up_j (by decide), ul_up_i (by decide)]
    exact z01
  · intro l hl
    obtain ⟨w1, w2, w3⟩ := b2 l hl
    refine ⟨?_, ?_, ?_, ?_, ?_⟩
    · rw [ul_up_j (by decide), ul_up_j (by decide), ul_up_j (by decide), c3 l (by omega)]
      exact w1
    · rw [ul_up_j (by decide), ul_up_j (by decide), ul_up_j (by decide), c1 1 (by decide) (by decide) (by decide) (by decide)]
      exact w2
    · rw [ul_up_j (by decide), ul_up_j (by decide), ul_up_j (by decide), c1 2 (by decide) (by decide) (by decide) (by decide)]
      exact w3
    · rw [ul_up_j (by decide), ul_up_j (by decide), ul_up_j (by decide), c3 (4 + l) (by omega), b3 (4 + l) (by omega)]
      exact a2 (4 + l) (by omega)
    · rw [ul_up_j (by decide), ul_up_j (by decide), ul_up_j (by decide), c3 (8 + l) (by omega), b3 (8 + l) (by omega)]
      exact a2 (8 + l) (by omega)
  · intro p hp
    have hz : ∀ j i, j ≠ 0 → j ≠ 13 → ul_up (ul_up (ul_up S3 0 8 0) 13 0 0) 13 1 0 j i = S3 j i := by
      intro j i h0 h13
      rw [ul_up_j h13, ul_up_j h13, ul_up_j h0]
    rw [hz 3 p (by decide) (by decide), hz 4 p (by decide) (by decide), hz 5 p (by decide) (by decide), hz 6 _ (by decide) (by decide), hz 6 _ (by decide) (by decide)]
    exact c2 p hp
  · rw [ul_up_j (by decide), ul_up_j (by decide), ul_up_j (by decide), c3 22 (by omega), b3 22 (by omega)]
    exact a2 22 (by omega)
  · rw [ul_up_j (by decide), ul_up_j (by decide), ul_up_s]
  · intro i h0 h1 h8
    rw [ul_up_j (by decide), ul_up_j (by decide), ul_up_i h8, z1 0 (by decide) (by decide) (by decide) (by decide) (by decide) (by decide)]
    exact s0 i h0 h1
  · intro j h9 h13
    rw [ul_up_jf h13, ul_up_jf h13, ul_up_jf (by omega), z1 j (by omega) (by omega) (by omega) (by omega) (by omega) (by omega)]
    exact sj j (by omega)
  · intro s hs
    by_cases e : s = 1
    · rw [e, ul_up_s]
    · rw [ul_up_i e, show s = 0 by omega, ul_up_s]
/-- the class: all begins -/
theorem x_begin {a b : Nat} {K M N : ul_S} (h : ul_rd a b K M) : ∃ T, f_X4_begin N K = some T ∧ (∀ l, l < a → T 1 l = K 1 l ∧ T 3 l = 0 ∧ T 4 l = 0) ∧ (∀ x, x < 10 → (T 2 x = -9 ∧ ∀ l, l < a → ¬ K 1 l = nI x) ∨ ∃ l, l < a ∧ T 2 x = nI l ∧ K 1 l = nI x) ∧ (∀ p, p < b → T 5 p = K 4 p ∧ T 6 p = K 6 p) ∧ T 0 0 = 0 := by
  obtain ⟨⟨q1, q2, q3, q4, q5, q6⟩, hl, hdis, hp, -⟩ := h
  obtain ⟨S1, e1, a1⟩ := ul_for (n := 10) (b := f_X4_begin_L2 K) (fun k s => ∀ i, i < k → s 2 i = -9) (by omega) (by
      intro s _
      unfold f_X4_begin_L2
      dsimp only
      rw [if_pos (by decide)]) (by
      intro k s hk h1
      have hk2 : ¬ (10 : Int32) ≤ nI k := nI_ge (a := k) (b := 10) hk (by omega)
      refine ⟨ul_up s 2 k (-9), ?_, ?_⟩
      · unfold f_X4_begin_L2
        dsimp only
        rw [if_neg hk2]
        simp (disch := omega) only [ul_stN, ul_bdE, nI_1]
      · intro i hi
        by_cases e : i = k
        · rw [e, ul_up_s]
        · rw [ul_up_i e]
          exact h1 i (by omega)) N (fun i hi => by omega)
  obtain ⟨S2, e2, b1, b2⟩ := ul_for (n := a) (b := f_X4_begin_L24 K) (fun k s => (∀ l, l < k → s 1 l = K 1 l ∧ s 3 l = 0 ∧ s 4 l = 0) ∧ ∀ x, x < 10 → (s 2 x = -9 ∧ ∀ l, l < k → ¬ K 1 l = nI x) ∨ ∃ l, l < k ∧ s 2 x = nI l ∧ K 1 l = nI x) (by omega) (by
      intro s _
      unfold f_X4_begin_L24
      dsimp only
      rw [q3, if_pos (nI_le (Nat.le_refl a) (by omega))]) (by
      rintro k s hk ⟨h1, h2⟩
      obtain ⟨-, -, -, ⟨x, hx, ex⟩, -⟩ := hl k hk
      refine ⟨ul_up (ul_up (ul_up (ul_up s 1 k (nI x)) 2 x (nI k)) 3 k 0) 4 k 0, ?_, ?_, ?_⟩
      · unfold f_X4_begin_L24
        dsimp only
        rw [q3, if_neg (nI_ge hk (by omega))]
        simp (disch := omega) only [ul_ldN, ul_stN, ul_up_s, ex, cp_mark, Option.bind_some]
        rw [cc_down (by omega), Option.bind_some, ul_bdE, nI_1]
      · intro l hlk
        by_cases e : l = k
        · subst e
          refine ⟨?_, ?_, ul_up_s⟩
          · rw [ul_up_j (by decide), ul_up_j (by decide), ul_up_j (by decide), ul_up_s, ex]
          · rw [ul_up_j (by decide), ul_up_s]
        · obtain ⟨w1, w2, w3⟩ := h1 l (by omega)
          refine ⟨?_, ?_, ?_⟩
          · rw [ul_up_j (by decide), ul_up_j (by decide), ul_up_j (by decide), ul_up_i e]
            exact w1
          · rw [ul_up_j (by decide), ul_up_i e, ul_up_j (by decide), ul_up_j (by decide)]
            exact w2
          · rw [ul_up_i e, ul_up_j (by decide), ul_up_j (by decide), ul_up_j (by decide)]
            exact w3
      · intro y hy
        rw [ul_up_j (by decide), ul_up_j (by decide)]
        by_cases e : y = x
        · right
          exact ⟨k, by omega, by rw [e, ul_up_s], by rw [e]; exact ex⟩
        · rw [ul_up_i e, ul_up_j (by decide)]
          rcases h2 y hy with ⟨w1, w2⟩ | ⟨l, w1, w2, w3⟩
          · left
            refine ⟨w1, ?_⟩
            intro l hlk
            by_cases e2 : l = k
            · rw [e2, ex]
              exact nI_ne (by omega) (by omega) (fun q => e q.symm)
            · exact w2 l (by omega)
          · right
            exact ⟨l, by omega, w2, w3⟩) S1 ⟨fun l hl => by omega, fun x hx => Or.inl ⟨a1 x hx, fun l hl => by omega⟩⟩
  obtain ⟨S3, e3, c1, c2⟩ := ul_for (n := b) (b := f_X4_begin_L74 K) (fun k s => (∀ j, j ≤ 4 → s j = S2 j) ∧ ∀ p, p < k → s 5 p = K 4 p ∧ s 6 p = K 6 p) (by omega) (by
      intro s _
      unfold f_X4_begin_L74
      dsimp only
      rw [q5, if_pos (nI_le (Nat.le_refl b) (by omega))]) (by
      rintro k s hk ⟨h1, h2⟩
      refine ⟨ul_up (ul_up s 5 k (K 4 k)) 6 k (K 6 k), ?_, ?_, ?_⟩
      · unfold f_X4_begin_L74
        dsimp only
        rw [q5, if_neg (nI_ge hk (by omega))]
        simp (disch := omega) only [ul_ldN, ul_stN, ul_bdE, nI_1]
      · intro j hj
        rw [ul_up_jf (by omega), ul_up_jf (by omega)]
        exact h1 j hj
      · intro p hpk
        by_cases e : p = k
        · subst e
          exact ⟨by rw [ul_up_j (by decide), ul_up_s], ul_up_s⟩
        · obtain ⟨w1, w2⟩ := h2 p (by omega)
          refine ⟨?_, ?_⟩
          · rw [ul_up_j (by decide), ul_up_i e]
            exact w1
          · rw [ul_up_i e, ul_up_j (by decide)]
            exact w2) S2 ⟨fun _ _ => rfl, fun p hp => by omega⟩
  refine ⟨ul_up S3 0 0 0, ?_, ?_, ?_, ?_, ul_up_s⟩
  · unfold f_X4_begin
    rw [e1, Option.bind_some]
    unfold f_X4_begin_j22
    dsimp only
    rw [e2, Option.bind_some]
    unfold f_X4_begin_j72
    dsimp only
    rw [e3, Option.bind_some]
    rfl
  · intro l hla
    rw [ul_up_j (by decide), ul_up_j (by decide), ul_up_j (by decide), c1 1 (by omega), c1 3 (by omega), c1 4 (by omega)]
    exact b1 l hla
  · intro x hx
    rw [ul_up_j (by decide), c1 2 (by omega)]
    exact b2 x hx
  · intro p hpb
    rw [ul_up_j (by decide), ul_up_j (by decide)]
    exact c2 p hpb
theorem e_market {c : Nat} {U : ul_S} {d : Int64} {L K N J E M : ul_S} {dm : Int64} {P B : ul_F} (h : ul_RR c U d L K N J E M dm P B) (D : ul_S) : ∃ v U' D' K' N' J' M', f_X6_market U L D K N J = some (v, U', D', K', N', J') ∧ f_X7_market M = some (v, M') ∧ ul_RR c U' d L K' N' J' E M' dm P B := by
  have h0 := h
  obtain ⟨nl, np, h1, h2, h3, h4, h5, h6, h7⟩ := h
  obtain ⟨v, D', M1, d1, d2, d3, -⟩ := x_text h3 D
  obtain ⟨v2, K', M2, k1, k2, -, k4⟩ := x_text h3 K
  rw [d2] at k2
  have kk := Option.some.inj k2
  have kv : v = v2 := congrArg Prod.fst kk
  have km : M1 = M2 := congrArg Prod.snd kk
  subst kv
  subst km
  unfold f_X6_market f_X7_market
  rw [d1, d2, Option.bind_some, Option.bind_some]
  dsimp only
  by_cases hv : v = -9
  · rw [if_pos hv, if_pos hv, k1, Option.bind_some]
    dsimp only
    obtain ⟨a, b, hrd⟩ := k4 hv
    obtain ⟨M', m0, m1, m2, m3, m4, m5, m6, m7, m8, m9⟩ := x_mmark hrd
    obtain ⟨T, t0, t1, t2, t3, t4⟩ := x_begin (N := N) hrd
    rw [m0, t0, Option.bind_some]
    unfold f_X0_clear
    rw [ul_bdE, Option.bind_some]
    obtain ⟨U', u0, u1⟩ := ul_for (n := 2) (b := f_X6_market_L47 L D' K' T (ul_up J 0 1 0)) (fun k s => ∀ i, i < k → s 2 i = 0) (by omega) (by
      intro s _
      unfold f_X6_market_L47
      dsimp only
      rw [if_pos (by decide)]) (by
      intro k s hk h1
      have hk2 : ¬ (2 : Int32) ≤ nI k := nI_ge (a := k) (b := 2) hk (by omega)
      refine ⟨ul_up s 2 k 0, ?_, ?_⟩
      · unfold f_X6_market_L47
        dsimp only
        rw [if_neg hk2, nar0]
        simp (disch := omega) only [ul_stN, ul_bdE, nI_1]
      · intro i hi
        by_cases e : i = k
        · rw [e, ul_up_s]
        · rw [ul_up_i e]
          exact h1 i (by omega)) U (fun i hi => by omega)
    rw [u0, Option.bind_some]
    unfold f_X6_market_j65
    obtain ⟨⟨q1, q2, q3, q4, q5, q6⟩, hl, hdis, hp, -⟩ := hrd
    rw [q3, q5]
    refine ⟨_, U', D', K', T, ul_up J 0 1 0, M', rfl, rfl, a, b, ?_, ?_, ?_, ?_, ?_, ?_, h7⟩
    · refine ⟨q1, q2, q3, m1, q5, m2, ?_, ?_⟩
      · intro l hla
        obtain ⟨w1, w2, w3, w4, w5⟩ := m3 l hla
        obtain ⟨x1, x2, x3, x4, x5⟩ := hl l hla
        rw [w2, w3]
        exact ⟨x2, x3, x5⟩
      · intro p hpb
        obtain ⟨w1, w2, w3, w4, w5⟩ := m4 p hpb
        obtain ⟨x1, hh, ww, xx, y1, y2, y3, y4, y5, y6, y7, y8, y9, y10⟩ := hp p hpb
        rw [w1, w2, w3]
        exact ⟨x1, hh, ww, y1, y2, y3, y5, y6, y7, y8⟩
    · refine ⟨⟨?_, ?_⟩, ?_, ?_, ?_, ?_⟩
      · intro l hla
        obtain ⟨w1, w2, w3, w4, w5⟩ := m3 l hla
        obtain ⟨x1, x2, x3, ⟨x, x4, x5⟩, x6⟩ := hl l hla
        refine ⟨x, x4, ?_, ?_⟩
        · rw [(t1 l hla).1]
          exact x5
        · show M' 6 l = nI x
          rw [w1, x1]
          exact x5
      · intro x hx
        have hg : ∀ l, l < a → M' 6 l = K' 1 l := fun l hla => by
          rw [(m3 l hla).1]
          exact (hl l hla).1
        rcases t2 x hx with ⟨w1, w2⟩ | ⟨l, w1, w2, w3⟩
        · left
          refine ⟨w1, fun l hla => ?_⟩
          show ¬ M' 6 l = nI x
          rw [hg l hla]
          exact w2 l hla
        · right
          refine ⟨l, w1, w2, ?_, ?_⟩
          · show M' 6 l = nI x
            rw [hg l w1]
            exact w3
          · intro k hk ek
            have ek2 : M' 6 k = nI x := ek
            rw [hg k hk] at ek2
            exact hdis k l hk w1 (ek2.trans w3.symm)
      · intro l hla
        obtain ⟨w1, w2, w3, w4, w5⟩ := m3 l hla
        obtain ⟨x1, x2, x3⟩ := t1 l hla
        show T 3 l = M' 6 (4 + l) ∧ T 4 l = M' 6 (8 + l) ∧ (∃ x, x ≤ 4 ∧ M' 6 (4 + l) = nI x) ∧ ∃ x, x ≤ 1000 * c ∧ M' 6 (8 + l) = nI x
        rw [w4, w5, x2, x3]
        exact ⟨rfl, rfl, ⟨0, by omega, rfl⟩, 0, by omega, rfl⟩
      · intro p hpb _
        obtain ⟨w1, w2, w3, w4, w5⟩ := m4 p hpb
        obtain ⟨x1, hh, ww, xx, y1, y2, y3, y4, y5, y6, y7, y8, y9, y10⟩ := hp p hpb
        show T 5 p = M' 6 (12 + p) ∧ (T 5 p = K' 4 p ∨ T 5 p = K' 5 p)
        rw [w4, (t3 p hpb).1, y5, y6]
        exact ⟨rfl, Or.inl rfl⟩
      · intro p hpb
        obtain ⟨w1, w2, w3, w4, w5⟩ := m4 p hpb
        obtain ⟨x1, hh, ww, xx, y1, y2, y3, y4, y5, y6, y7, y8, y9, y10⟩ := hp p hpb
        show T 6 p = M' 6 (17 + p) ∧ ∃ x, x ≤ 99 ∧ M' 6 (17 + p) = nI x
        rw [w5, (t3 p hpb).2, y9, y10]
        exact ⟨rfl, xx, by omega, rfl⟩
      · show T 0 0 = M' 6 22
        rw [t4, m5]
    · refine px_cg h3 ?_ ?_
      · rw [m7 5 (by decide) (by decide) (by decide)]
        exact d3.2 5 (by decide) (by decide) (by decide) (by decide) (by decide)
      · rw [m8 9 (by decide) (by decide)]
        exact d3.1 9 (by decide) (by decide) (by decide)
    · obtain ⟨nx, sz, a1, a2, a3, a4, a5, a6, a7⟩ := h4
      refine ⟨nx, 0, a1, by omega, ?_, ?_, ul_up_s, m6, fun k hk => by omega⟩
      · rw [ul_up_i (by decide)]
        exact a3
      · rw [m7 9 (by decide) (by decide) (by decide), d3.2 9 (by decide) (by decide) (by decide) (by decide) (by decide)]
        exact a4
    · refine pe_cg h5 ?_ ?_ ?_
      · rw [m7 10 (by decide) (by decide) (by decide)]
        exact d3.2 10 (by decide) (by decide) (by decide) (by decide) (by decide)
      · rw [m8 11 (by decide) (by decide)]
        exact d3.1 11 (by decide) (by decide) (by decide)
      · rw [m8 12 (by decide) (by decide)]
        exact d3.1 12 (by decide) (by decide) (by decide)
    · intro s hs
      refine ⟨?_, Or.inl (u1 s hs)⟩
      rw [u1 s hs, m9 s hs]
  · rw [if_neg hv, if_neg hv]
    exact ⟨-3, U, D', K, N, J, M1, rfl, rfl, rr_fr h0 d3⟩
