/-! acts: what is kept before an act, and taken back -/
/-- the reference copies its 23 places into its row of acts -/
theorem mm_keep {M : ul_S} {nx sz : Nat} (hx : nx < 14) (hs : sz ≤ 14) (e9 : M 0 9 = nI nx) (e8 : M 0 8 = nI sz) : ∃ M', f_X7_keepAct M = some M' ∧ (∀ j, j ≠ 0 → j ≠ 10 → M' j = M j) ∧ (∀ i, i ≠ 8 → i ≠ 9 → M' 0 i = M 0 i) ∧ M' 0 9 = nI ((nx + 1) % 14) ∧ M' 0 8 = nI (if sz < 14 then sz + 1 else 14) ∧ (∀ i, i < 23 → M' 10 (23 * nx + i) = M 6 i) ∧ ∀ i, (i < 23 * nx ∨ 23 * nx + 23 ≤ i) → M' 10 i = M 10 i := by
  have key := ul_run (b := f_X7_keepAct_L2) (fun k s => k ≤ 23 ∧ s.1 = nI (23 - k) ∧ (∀ j, j ≠ 10 → s.2 j = M j) ∧ (∀ i, i < 23 - k → s.2 10 (23 * nx + i) = M 6 i) ∧ ∀ i, (i < 23 * nx ∨ 23 * nx + 23 ≤ i) → s.2 10 i = M 10 i) (fun r => (∀ j, j ≠ 10 → r.2 j = M j) ∧ (∀ i, i < 23 → r.2 10 (23 * nx + i) = M 6 i) ∧ ∀ i, (i < 23 * nx ∨ 23 * nx + 23 ≤ i) → r.2 10 i = M 10 i)
    (by
      rintro ⟨s1, s2⟩ ⟨-, h1, h2, h3, h4⟩
      dsimp only at h1 h2 h3 h4
      refine ⟨(s1, s2), ?_, h2, h3, h4⟩
      unfold f_X7_keepAct_L2
      dsimp only
      rw [h1, if_pos (by decide)])
    (by
      rintro i ⟨s1, s2⟩ ⟨hi, h1, h2, h3, h4⟩
      dsimp only at h1 h2 h3 h4
      left
      obtain ⟨k, ek⟩ : ∃ k, k = 23 - (i + 1) := ⟨_, rfl⟩
      have ek1 : 23 - i = k + 1 := by omega
      rw [← ek] at h1 h3
      refine ⟨(nI (k + 1), ul_up s2 10 (23 * nx + k) (M 6 k)), ?_, ?_⟩
      · unfold f_X7_keepAct_L2
        dsimp only
        have hk23 : ¬ (23 : Int32) ≤ nI k := nI_ge (a := k) (b := 23) (by omega) (by omega)
        rw [h1, if_neg hk23, h2 6 (by decide), h2 0 (by decide), e9, ix_0']
        simp (disch := omega) only [ul_ldN, ul_stN, ul_bdE, nI_1]
      · dsimp only
        rw [ek1]
        refine ⟨by omega, rfl, ?_, ?_, ?_⟩
        · intro j hj
          rw [ul_up_jf hj]
          exact h2 j hj
        · intro q hq
          by_cases hqk : q = k
          · subst hqk
            rw [ul_up_s]
          · rw [ul_up_i (by omega)]
            exact h3 q (by omega)
        · intro q hq
          rw [ul_up_i (by omega)]
          exact h4 q hq)
    ul_N 23 ((0 : Int32), M) ⟨Nat.le_refl _, rfl, fun _ _ => rfl, fun i hi => by omega, fun _ _ => rfl⟩ (by rw [ul_N_v]; omega)
  obtain ⟨⟨r1, r2⟩, hr, q1, q2, q3⟩ := key
  dsimp only at q1 q2 q3
  unfold f_X7_keepAct
  rw [hr, Option.bind_some]
  unfold f_X7_keepAct_j34 f_X7_keepAct_j68
  dsimp only
  have hmod : nI nx + 1 - (nI nx + 1) / 14 * 14 = nI ((nx + 1) % 14) := by
    rw [nI_1]
    exact pk_rem (a := nx + 1) (d := 14) (by omega) (by decide) (by decide)
  simp only [ul_bdE]
  have e09 : r2 0 9 = nI nx := by rw [q1 0 (by decide)]; exact e9
  rw [e09, hmod]
  have e08 : ul_up r2 0 9 (nI ((nx + 1) % 14)) 0 8 = nI sz := by
    rw [ul_up_i (by decide), q1 0 (by decide)]
    exact e8
  rw [e08]
  have fin : ∀ z : Int32, (∀ j, j ≠ 0 → j ≠ 10 → ul_up (ul_up r2 0 9 (nI ((nx + 1) % 14))) 0 8 z j = M j) ∧ (∀ i, i ≠ 8 → i ≠ 9 → ul_up (ul_up r2 0 9 (nI ((nx + 1) % 14))) 0 8 z 0 i = M 0 i) ∧ ul_up (ul_up r2 0 9 (nI ((nx + 1) % 14))) 0 8 z 0 9 = nI ((nx + 1) % 14) ∧ ul_up (ul_up r2 0 9 (nI ((nx + 1) % 14))) 0 8 z 0 8 = z ∧ (∀ i, i < 23 → ul_up (ul_up r2 0 9 (nI ((nx + 1) % 14))) 0 8 z 10 (23 * nx + i) = M 6 i) ∧ ∀ i, (i < 23 * nx ∨ 23 * nx + 23 ≤ i) → ul_up (ul_up r2 0 9 (nI ((nx + 1) % 14))) 0 8 z 10 i = M 10 i := by
    intro z
    refine ⟨?_, ?_, ?_, ul_up_s, ?_, ?_⟩
    · intro j hj hj2
      rw [ul_up_jf hj, ul_up_jf hj]
      exact q1 j hj2
    · intro i hi hi2
      rw [ul_up_i hi, ul_up_i hi2, q1 0 (by decide)]
    · rw [ul_up_i (by decide), ul_up_s]
    · intro i hi
      rw [ul_up_j (by decide), ul_up_j (by decide)]
      exact q2 i hi
    · intro i hi
      rw [ul_up_j (by decide), ul_up_j (by decide)]
      exact q3 i hi
  by_cases h14 : (14 : Int32) ≤ nI sz
  · rw [if_pos h14]
    have hz : ¬ sz < 14 := by
      have h14' : nI 14 ≤ nI sz := h14
      rw [nI_leI (by omega) (by omega)] at h14'
      omega
    obtain ⟨f1, f2, f3, f4, f5, f6⟩ := fin 14
    refine ⟨_, rfl, f1, f2, f3, ?_, f5, f6⟩
    rw [f4, if_neg hz]
    rfl
  · rw [if_neg h14, nI_1]
    have hz : sz < 14 := by
      have h14' : ¬ nI 14 ≤ nI sz := h14
      rw [nI_leI (by omega) (by omega)] at h14'
      omega
    obtain ⟨f1, f2, f3, f4, f5, f6⟩ := fin (nI (sz + 1))
    refine ⟨_, rfl, f1, f2, f3, ?_, f5, f6⟩
    rw [f4, if_pos hz]
/-- the class does so too -/
theorem cc_rem {J O : ul_S} {B : ul_F} {nx sz : Nat} (hx : nx < 14) (hs : sz ≤ 14) (e0 : J 0 0 = nI nx) (e1 : J 0 1 = nI sz) : ∃ J' B', f_X0_remember J O B = some (J', B') ∧ J' 0 0 = nI ((nx + 1) % 14) ∧ J' 0 1 = nI (if sz < 14 then sz + 1 else 14) ∧ ul_eqs (B' nx) O ∧ ∀ k, k ≠ nx → B' k = B k := by
  unfold f_X0_remember
  rw [e0, ul_ckN hx (by decide)]
  obtain ⟨T', f1, f2⟩ := st_set (B nx) O
  rw [f1, Option.bind_some, ul_bdE, nI_1]
  have hlast : ∀ t : Nat, t = (nx + 1) % 14 → ∃ J' B', f_X0_remember_j35 O (nI t) J (va_up B nx T') = some (J', B') ∧ J' 0 0 = nI ((nx + 1) % 14) ∧ J' 0 1 = nI (if sz < 14 then sz + 1 else 14) ∧ ul_eqs (B' nx) O ∧ ∀ k, k ≠ nx → B' k = B k := by
    intro t ht
    unfold f_X0_remember_j35
    simp only [ul_bdE]
    have e1' : ul_up J 0 0 (nI t) 0 1 = nI sz := by
      rw [ul_up_i (by decide)]
      exact e1
    rw [e1']
    have hB : ul_eqs (va_up B nx T' nx) O := by rw [va_up_self]; exact f2
    by_cases h14 : (14 : Int32) ≤ nI sz
    · rw [if_pos h14]
      have hz : ¬ sz < 14 := by
        have h14' : nI 14 ≤ nI sz := h14
        rw [nI_leI (by omega) (by omega)] at h14'
        omega
      refine ⟨_, _, rfl, by rw [ul_up_s, ht], ?_, hB, fun k hk => va_up_ne B T' hk⟩
      rw [e1', if_neg hz]
      congr 1
      omega
    · rw [if_neg h14, nI_1]
      have hz : sz < 14 := by
        have h14' : ¬ nI 14 ≤ nI sz := h14
        rw [nI_leI (by omega) (by omega)] at h14'
        omega
      refine ⟨_, _, rfl, ?_, ?_, hB, fun k hk => va_up_ne B T' hk⟩
      · rw [ul_up_i (by decide), ul_up_s, ht]
      · rw [ul_up_s, if_pos hz]
  by_cases hle : (14 : Int32) ≤ nI (nx + 1)
  · rw [if_pos hle]
    have h14' : nI 14 ≤ nI (nx + 1) := hle
    rw [nI_leI (by omega) (by omega)] at h14'
    exact hlast 0 (by omega)
  · rw [if_neg hle]
    have h14' : ¬ nI 14 ≤ nI (nx + 1) := hle
    rw [nI_leI (by omega) (by omega)] at h14'
    exact hlast (nx + 1) (by omega)
