/-- one person's part, or a wrong letter -/
theorem x_per {n a b i : Nat} {L K M : ul_S} (hn : n ≤ 48) (hL : L 0 0 = nI n) (ht : ∀ i, i < n → L 1 i = M 9 i) (h5 : M 0 5 = nI n) (h6 : M 0 6 = nI i) (h7 : M 0 7 = -9) (hi : i < n) (h : ul_rd a b K M) (hx : ¬ M 9 i = 76) : (∃ f M', f < 100 ∧ f_X2_readPerson K L (nI i) = some (nI f, K) ∧ f_X7_readPart M (M 9 i) = some M' ∧ M' 0 7 = nI f ∧ ul_fr M M') ∨ ∃ K' M', f_X2_readPerson K L (nI i) = some (-9, K') ∧ f_X7_readPart M (M 9 i) = some M' ∧ M' 0 7 = -9 ∧ M' 0 6 = nI (i + 5) ∧ i + 5 ≤ n ∧ ul_rd a (b + 1) K' M' ∧ ul_fr M M' := by
  have hq := h.1
  obtain ⟨q1, q2, q3, q4, q5, q6⟩ := hq
  have a2 : nI i + 2 = nI (i + 2) := nI_add i 2
  have a3 : nI i + 3 = nI (i + 3) := nI_add i 3
  have a4 : nI i + 4 = nI (i + 4) := nI_add i 4
  have hlet := rd_let hn hL ht hi
  by_cases h80 : M 9 i = 80
  · by_cases hb : b < 5
    · have hK5 : K 0 1 < 5 := by rw [q5]; exact nI_lt (a := b) (b := 5) hb (by omega)
      have hC : f_X2_readPerson K L (nI i) = ((f_X5_figureAt L (nI (i + 1))).bind fun u4 => if 0 ≤ u4 then ((f_X5_figureAt L (nI (i + 2))).bind fun u6 => if u6 < 0 then some (nI (i + 2), K) else (if u6 = u4 then some (nI (i + 2), K) else ((f_X5_figureAt L (nI (i + 3))).bind fun u9 => if 0 ≤ u9 then ((f_X5_figureAt L (nI (i + 4))).bind fun u11 => if u11 < 0 then some (nI (i + 4), K) else (if u11 ≤ (3 : Int32) then some ((-9 : Int32), ul_up (ul_up (ul_up (ul_up (ul_up K 4 b u4) 5 b u6) 6 b u9) 7 b u11) 0 1 (nI (b + 1))) else some (nI (i + 4), K))) else some (nI (i + 3), K)))) else some (nI (i + 1), K)) := by
        unfold f_X2_readPerson f_X2_readPerson_j56 f_X2_readPerson_j98
        rw [hlet, Option.bind_some, if_pos h80, if_pos hK5]
        simp (disch := omega) only [ul_bdE, nI_1, a2, a3, a4, q5, ul_stN, ul_up_j]
      rw [hC, h80, rp_0 hb q6 h6]
      obtain ⟨M1, eM1⟩ : ∃ z, z = ul_up M 0 6 (nI (i + 1)) := ⟨_, rfl⟩
      rw [← eM1]
      have b5 : M1 0 5 = nI n := by rw [eM1, ul_up_i (by decide)]; exact h5
      have b9 : M1 9 = M 9 := by rw [eM1, ul_up_jf (by decide)]
      have b6 : M1 0 6 = nI (i + 1) := by rw [eM1, ul_up_s]
      have b7 : M1 0 7 = -9 := by rw [eM1, ul_up_i (by decide)]; exact h7
      have bf : ul_fr M M1 := by rw [eM1]; exact fr_0 (by omega) (fr_r M)
      have fail1 : ∃ M', ((some ((0 : Int32), ul_up M1 0 7 (nI (i + 1)))).bind fun u => rp_1 b u.1 u.2) = some M' ∧ M' 0 7 = nI (i + 1) ∧ ul_fr M M' := by
        have e7 : ul_up M1 0 7 (nI (i + 1)) 0 7 = nI (i + 1) := ul_up_s
        obtain ⟨M', w1, w2, w3⟩ := rp_1F (b := b) (v := 0) (M := ul_up M1 0 7 (nI (i + 1))) (by rw [e7]; exact nI_ne9 (by omega))
        exact ⟨M', w1, w2.trans e7, fr_t (fr_0 (by omega) bf) w3⟩
      rcases fg_two (i := i + 1) hn hL ht (by omega) with ⟨d1, hd1, hi1, ec1, em1⟩ | ⟨ec1, em1⟩
      · rw [ec1, em1 M1 _ b5 b9 b6 b7, Option.bind_some, if_pos (nI_pos' (by omega)), if_pos (bt_1023 d1 hd1), Option.bind_some]
        unfold rp_1
        dsimp only
        have e8 : ∀ (z : ul_S) (x : Int32), ul_up z 8 (4 * b) x 8 (4 * b) = x := fun z x => ul_up_s
        rw [e8]
        obtain ⟨M2, eM2⟩ : ∃ z, z = ul_up (ul_up M1 0 6 (nI (i + 1 + 1))) 8 (4 * b) (nI d1) := ⟨_, rfl⟩
        rw [← eM2]
        have c5 : M2 0 5 = nI n := by rw [eM2, ul_up_j (by decide), ul_up_i (by decide)]; exact b5
        have c9 : M2 9 = M 9 := by rw [eM2, ul_up_jf (by decide), ul_up_jf (by decide)]; exact b9
        have c6 : M2 0 6 = nI (i + 2) := by rw [eM2, ul_up_j (by decide), ul_up_s]
        have c7 : M2 0 7 = -9 := by rw [eM2, ul_up_j (by decide), ul_up_i (by decide)]; exact b7
        have cf : ul_fr M M2 := by rw [eM2]; exact fr_8 (fr_0 (by omega) bf)
        have fail2 : ∃ M', ((some ((0 : Int32), ul_up M2 0 7 (nI (i + 2)))).bind fun u => rp_2 b u.1 u.2) = some M' ∧ M' 0 7 = nI (i + 2) ∧ ul_fr M M' := by
          have e7 : ul_up M2 0 7 (nI (i + 2)) 0 7 = nI (i + 2) := ul_up_s
          obtain ⟨M', w1, w2, w3⟩ := rp_2F (b := b) (v := 0) (M := ul_up M2 0 7 (nI (i + 2))) (by rw [e7]; exact nI_ne9 (by omega))
          exact ⟨M', w1, w2.trans e7, fr_t (fr_0 (by omega) cf) w3⟩
        rcases fg_two (i := i + 2) hn hL ht (by omega) with ⟨d2, hd2, hi2, ec2, em2⟩ | ⟨ec2, em2⟩
        · rw [ec2, em2 M2 _ c5 c9 c6 c7, Option.bind_some, if_neg (nI_pos (by omega))]
          by_cases h12 : d2 = d1
          · have h12i : nI d2 = nI d1 := by rw [h12]
            left
            rw [if_pos h12i, if_neg (fun q => (bt_ne d1 hd1 d2 hd2).mp q h12)]
            obtain ⟨M', w1, w2, w3⟩ := fail2
            exact ⟨i + 2, M', by omega, rfl, w1, w2, w3⟩
          · have h12i : ¬ nI d2 = nI d1 := nI_ne (by omega) (by omega) h12
            rw [if_neg h12i, if_pos ((bt_ne d1 hd1 d2 hd2).mpr h12), Option.bind_some]
            unfold rp_2
            dsimp only
            obtain ⟨M3, eM3⟩ : ∃ z, z = ul_up (ul_up M2 0 6 (nI (i + 2 + 1))) 8 (4 * b + 1) (nI d2) := ⟨_, rfl⟩
            rw [← eM3]
            have g5 : M3 0 5 = nI n := by rw [eM3, ul_up_j (by decide), ul_up_i (by decide)]; exact c5
            have g9 : M3 9 = M 9 := by rw [eM3, ul_up_jf (by decide), ul_up_jf (by decide)]; exact c9
            have g6 : M3 0 6 = nI (i + 3) := by rw [eM3, ul_up_j (by decide), ul_up_s]
            have g7 : M3 0 7 = -9 := by rw [eM3, ul_up_j (by decide), ul_up_i (by decide)]; exact c7
            have gf : ul_fr M M3 := by rw [eM3]; exact fr_8 (fr_0 (by omega) cf)
            have fail3 : ∃ M', ((some ((0 : Int32), ul_up M3 0 7 (nI (i + 3)))).bind fun u => rp_3 b u.1 u.2) = some M' ∧ M' 0 7 = nI (i + 3) ∧ ul_fr M M' := by
              have e7 : ul_up M3 0 7 (nI (i + 3)) 0 7 = nI (i + 3) := ul_up_s
              obtain ⟨M', w1, w2, w3⟩ := rp_3F (b := b) (v := 0) (M := ul_up M3 0 7 (nI (i + 3))) (by rw [e7]; exact nI_ne9 (by omega))
              exact ⟨M', w1, w2.trans e7, fr_t (fr_0 (by omega) gf) w3⟩
            rcases fg_two (i := i + 3) hn hL ht (by omega) with ⟨d3, hd3, hi3, ec3, em3⟩ | ⟨ec3, em3⟩
            · rw [ec3, em3 M3 _ g5 g9 g6 g7, Option.bind_some, if_pos (nI_pos' (by omega)), if_pos (bt_1023 d3 hd3), Option.bind_some]
              unfold rp_3
              dsimp only
              obtain ⟨M4, eM4⟩ : ∃ z, z = ul_up (ul_up M3 0 6 (nI (i + 3 + 1))) 8 (4 * b + 2) (nI d3) := ⟨_, rfl⟩
              rw [← eM4]
              have j5 : M4 0 5 = nI n := by rw [eM4, ul_up_j (by decide), ul_up_i (by decide)]; exact g5
              have j9 : M4 9 = M 9 := by rw [eM4, ul_up_jf (by decide), ul_up_jf (by decide)]; exact g9
              have j6 : M4 0 6 = nI (i + 4) := by rw [eM4, ul_up_j (by decide), ul_up_s]
              have j7 : M4 0 7 = -9 := by rw [eM4, ul_up_j (by decide), ul_up_i (by decide)]; exact g7
              have jf : ul_fr M M4 := by rw [eM4]; exact fr_8 (fr_0 (by omega) gf)
              have fail4 : ∃ M', ((some ((0 : Int32), ul_up M4 0 7 (nI (i + 4)))).bind fun u => some (rp_4 b u.1 u.2)) = some M' ∧ M' 0 7 = nI (i + 4) ∧ ul_fr M M' := by
                have e7 : ul_up M4 0 7 (nI (i + 4)) 0 7 = nI (i + 4) := ul_up_s
                obtain ⟨w2, w3⟩ := rp_4F b 0 (ul_up M4 0 7 (nI (i + 4)))
                exact ⟨_, rfl, w2.trans e7, fr_t (fr_0 (by omega) jf) w3⟩
              rcases fg_two (i := i + 4) hn hL ht (by omega) with ⟨d4, hd4, hi4, ec4, em4⟩ | ⟨ec4, em4⟩
              · rw [ec4, em4 M4 _ j5 j9 j6 j7, Option.bind_some, if_neg (nI_pos (by omega))]
                by_cases h3d : d4 ≤ 3
                · have h3i : nI d4 ≤ (3 : Int32) := nI_le (a := d4) (b := 3) h3d (by omega)
                  right
                  rw [if_pos h3i, if_pos ((bt_15 d4 hd4).mpr h3d), Option.bind_some]
                  refine ⟨_, _, rfl, rfl, ?_⟩
                  dsimp only
                  obtain ⟨M5, eM5⟩ : ∃ z, z = ul_up M4 0 6 (nI (i + 4 + 1)) := ⟨_, rfl⟩
                  rw [← eM5]
                  obtain ⟨w2, w3⟩ := rp_4F b (nI d4) M5
                  have r8 : ∀ k, M5 8 k = if k = 4 * b + 2 then nI d3 else if k = 4 * b + 1 then nI d2 else if k = 4 * b then nI d1 else M 8 k := by
                    intro k
                    rw [eM5, eM4, eM3, eM2, eM1]
                    simp only [ul_upE]
                    by_cases k0 : k = 4 * b + 2
                    · simp [k0]
                    · by_cases k1 : k = 4 * b + 1
                      · simp [k1]
                      · by_cases k2 : k = 4 * b
                        · simp [k2]
                        · simp [k0, k1, k2]
                  have r4 : M5 0 4 = M 0 4 := by
                    rw [eM5, eM4, eM3, eM2, eM1]
                    simp [ul_upE]
                  have r2 : M5 0 2 = M 0 2 := by
                    rw [eM5, eM4, eM3, eM2, eM1]
                    simp [ul_upE]
                  have r3 : M5 0 3 = nI b := by
                    rw [eM5, eM4, eM3, eM2, eM1]
                    simp [ul_upE]
                    exact q6
                  have r7 : M5 7 = M 7 := by
                    rw [eM5, eM4, eM3, eM2, eM1]
                    rw [ul_up_jf (by decide), ul_up_jf (by decide), ul_up_jf (by decide), ul_up_jf (by decide), ul_up_jf (by decide), ul_up_jf (by decide), ul_up_jf (by decide), ul_up_jf (by decide)]
                  have r6 : M5 0 6 = nI (i + 5) := by rw [eM5, ul_up_s]
                  have r77 : M5 0 7 = -9 := by rw [eM5, ul_up_i (by decide)]; exact j7
                  have rf : ul_fr M M5 := by rw [eM5]; exact fr_0 (by omega) jf
                  refine ⟨w2.trans r77, ?_, by omega, ?_, fr_t rf w3⟩
                  · unfold rp_4
                    rw [ul_up_i (by decide), ul_up_j (by decide)]
                    exact r6
                  · have s8 : ∀ k, rp_4 b (nI d4) M5 8 k = if k = 4 * b + 3 then nI d4 else M5 8 k := by
                      intro k
                      unfold rp_4
                      rw [ul_up_j (by decide), ul_upE]
                      simp
                    refine rd_per (d1 := d1) (d2 := d2) (d3 := d3) (x4 := nI d4) h hb hd1 hd2 (fun q => h12 q.symm) (by omega) ul_up_s ?_ ?_ ?_ ?_ ?_ ?_ ?_ ?_ ?_ ?_ ?_ ?_ ?_ ?_ ?_ ?_
                    · simp [ul_upE]
                    · intro j hj hj3
                      rw [ul_up_jf (by omega), ul_up_jf (by omega), ul_up_jf (by omega), ul_up_jf (by omega), ul_up_jf (by omega)]
                    · intro j l hj hl
                      rw [ul_up_j (by omega), ul_up_i hl, ul_up_i hl, ul_up_i hl, ul_up_i hl]
                    · simp [ul_upE]
                    · simp [ul_upE]
                    · simp [ul_upE]
                    · simp [ul_upE]
                    · unfold rp_4
                      rw [ul_up_s, ul_up_j (by decide), r3, nI_1]
                    · unfold rp_4
                      rw [ul_up_i (by decide), ul_up_j (by decide)]
                      exact r2
                    · unfold rp_4
                      rw [ul_up_i (by decide), ul_up_j (by decide)]
                      exact r4
                    · unfold rp_4
                      rw [ul_up_jf (by decide), ul_up_jf (by decide)]
                      exact r7
                    · intro k hk
                      rw [s8, if_neg (by omega), r8, if_neg (by omega), if_neg (by omega), if_neg (by omega)]
                    · rw [s8, if_neg (by omega), r8, if_neg (by omega), if_neg (by omega), if_pos rfl]
                    · rw [s8, if_neg (by omega), r8, if_neg (by omega), if_pos rfl]
                    · rw [s8, if_neg (by omega), r8, if_pos rfl]
                    · rw [s8, if_pos rfl]
                · have h3i : ¬ nI d4 ≤ (3 : Int32) := nI_ge (a := 3) (b := d4) (by omega) (by omega)
                  left
                  rw [if_neg h3i, if_neg (fun q => h3d ((bt_15 d4 hd4).mp q))]
                  obtain ⟨M', w1, w2, w3⟩ := fail4
                  exact ⟨i + 4, M', by omega, rfl, w1, w2, w3⟩
              · left
                rw [ec4, em4 M4 _ j5 j9 j6 j7, Option.bind_some, if_pos (by decide)]
                obtain ⟨M', w1, w2, w3⟩ := fail4
                exact ⟨i + 4, M', by omega, rfl, w1, w2, w3⟩
            · left
              rw [ec3, em3 M3 _ g5 g9 g6 g7, Option.bind_some, if_neg (by decide)]
              obtain ⟨M', w1, w2, w3⟩ := fail3
              exact ⟨i + 3, M', by omega, rfl, w1, w2, w3⟩
        · left
          rw [ec2, em2 M2 _ c5 c9 c6 c7, Option.bind_some, if_pos (by decide)]
          obtain ⟨M', w1, w2, w3⟩ := fail2
          exact ⟨i + 2, M', by omega, rfl, w1, w2, w3⟩
      · left
        rw [ec1, em1 M1 _ b5 b9 b6 b7, Option.bind_some, if_neg (by decide)]
        obtain ⟨M', w1, w2, w3⟩ := fail1
        exact ⟨i + 1, M', by omega, rfl, w1, w2, w3⟩
    · left
      have hK5 : ¬ K 0 1 < 5 := by rw [q5]; exact nI_nlt (a := b) (b := 5) (by omega) (by omega)
      have hM5 : ¬ M 0 3 < 5 := by rw [q6]; exact nI_nlt (a := b) (b := 5) (by omega) (by omega)
      refine ⟨i, _, by omega, ?_, rp_x (Or.inl hx) (Or.inr hM5) h6, ul_up_s, fr_0 (by omega) (fr_r M)⟩
      unfold f_X2_readPerson
      rw [hlet, Option.bind_some, if_pos h80, if_neg hK5]
  · left
    refine ⟨i, _, by omega, ?_, rp_x (Or.inl hx) (Or.inl h80) h6, ul_up_s, fr_0 (by omega) (fr_r M)⟩
    unfold f_X2_readPerson
    rw [hlet, Option.bind_some, if_neg h80]
/-- one part -/
theorem x_part {n a b i : Nat} {L K M : ul_S} (hn : n ≤ 48) (hL : L 0 0 = nI n) (ht : ∀ i, i < n → L 1 i = M 9 i) (h5 : M 0 5 = nI n) (h6 : M 0 6 = nI i) (h7 : M 0 7 = -9) (hi : i < n) (h : ul_rd a b K M) : (∃ f K' M', f < 100 ∧ f_X2_readFrom_L26 L (nI i, nI (a + b), K) = some (.inl (.inl (nI f, K'))) ∧ f_X7_readText_L51 M = some (.inr M') ∧ M' 0 7 = nI f ∧ ul_fr M M') ∨ ∃ a' b' i' K' M', f_X2_readFrom_L26 L (nI i, nI (a + b), K) = some (.inr (nI i', nI (a' + b'), K')) ∧ f_X7_readText_L51 M = some (.inr M') ∧ M' 0 7 = -9 ∧ M' 0 6 = nI i' ∧ i < i' ∧ i' ≤ n ∧ ul_rd a' b' K' M' ∧ ul_fr M M' := by
  have hq := h.1
  obtain ⟨q1, q2, q3, q4, q5, q6⟩ := hq
  have hlet := rd_let hn hL ht hi
  have h9 : ¬ (9 : Int32) < nI (a + b) := nI_nlt (a := 9) (b := a + b) (by omega) (by omega)
  have hLi : ¬ nI n ≤ nI i := nI_ge hi (by omega)
  have n10 : ¬ (1 : Int32) = 0 := by decide
  have hM : f_X7_readText_L51 M = (f_X7_readPart M (M 9 i)).bind fun u => some (.inr u) := by
    unfold f_X7_readText_L51
    rw [if_pos h7, h5, h6, if_neg hLi]
    simp (disch := omega) only [ul_ldN]
  have a4 : nI i + 4 = nI (i + 4) := nI_add i 4
  have a5 : nI i + 5 = nI (i + 5) := nI_add i 5
  by_cases h76 : M 9 i = 76
  · have hc : f_X2_readFrom_L26 L (nI i, nI (a + b), K) = (f_X2_readLadder K L (nI i)).bind fun u => f_X2_readFrom_j77 L (nI i) (nI (a + b)) 1 u.1 u.2 := by
      unfold f_X2_readFrom_L26
      dsimp only
      rw [if_neg h9, hL, if_neg hLi, hlet, Option.bind_some, if_pos h76]
      unfold f_X2_readFrom_j55
      rw [if_neg n10]
    rcases x_lad hn hL ht h5 h6 h7 hi h with ⟨f, M', hf, e1, e2, e3, e4⟩ | ⟨K', M', e1, e2, e3, e4, e5, e6, e7⟩
    · left
      refine ⟨f, K, M', hf, ?_, ?_, e3, e4⟩
      · rw [hc, e1, Option.bind_some]
        unfold f_X2_readFrom_j77
        rw [if_neg (nI_ne9 (by omega))]
      · rw [hM, h76, e2, Option.bind_some]
    · right
      refine ⟨a + 1, b, i + 4, K', M', ?_, ?_, e3, e4, by omega, e5, e6, e7⟩
      · rw [hc, e1, Option.bind_some]
        unfold f_X2_readFrom_j77 f_X2_readFrom_j100
        rw [if_pos rfl, if_neg n10, a4, nI_1, show a + b + 1 = a + 1 + b by omega]
        rfl
      · rw [hM, h76, e2, Option.bind_some]
  · have hc : f_X2_readFrom_L26 L (nI i, nI (a + b), K) = (f_X2_readPerson K L (nI i)).bind fun u => f_X2_readFrom_j77 L (nI i) (nI (a + b)) 0 u.1 u.2 := by
      unfold f_X2_readFrom_L26
      dsimp only
      rw [if_neg h9, hL, if_neg hLi, hlet, Option.bind_some, if_neg h76]
      unfold f_X2_readFrom_j55
      rw [if_pos rfl]
    rcases x_per hn hL ht h5 h6 h7 hi h h76 with ⟨f, M', hf, e1, e2, e3, e4⟩ | ⟨K', M', e1, e2, e3, e4, e5, e6, e7⟩
    · left
      refine ⟨f, K, M', hf, ?_, ?_, e3, e4⟩
      · rw [hc, e1, Option.bind_some]
        unfold f_X2_readFrom_j77
        rw [if_neg (nI_ne9 (by omega))]
      · rw [hM, e2, Option.bind_some]
    · right
      refine ⟨a, b + 1, i + 5, K', M', ?_, ?_, e3, e4, by omega, e5, e6, e7⟩
      · rw [hc, e1, Option.bind_some]
        unfold f_X2_readFrom_j77 f_X2_readFrom_j100
        rw [if_pos rfl, if_pos rfl, a5, nI_1, show a + b + 1 = a + (b + 1) by omega]
        rfl
      · rw [hM, e2, Option.bind_some]
/-- the end of the text -/
theorem x_rde {n a b : Nat} {L K M : ul_S} (hn : n ≤ 48) (hL : L 0 0 = nI n) (h5 : M 0 5 = nI n) (h6 : M 0 6 = nI n) (h7 : M 0 7 = -9) : f_X2_readFrom_L26 L (nI n, nI (a + b), K) = some (.inl (.inr (nI n, nI (a + b), K))) ∧ f_X7_readText_L51 M = some (.inl M) := by
  have hle : nI n ≤ nI n := nI_le (Nat.le_refl n) (by omega)
  constructor
  · unfold f_X2_readFrom_L26
    dsimp only
    rw [hL, if_pos hle]
    split <;> rfl
  · unfold f_X7_readText_L51
    rw [if_pos h7, h5, h6, if_pos hle]
theorem x_rdl {n : Nat} {L : ul_S} (hn : n ≤ 48) (hL : L 0 0 = nI n) : ∀ (k i a b : Nat) (K M : ul_S) (F1 F2 : Nat), n - i ≤ k → i ≤ n → k < F1 → k + 1 < F2 → (∀ i, i < n → L 1 i = M 9 i) → M 0 5 = nI n → M 0 6 = nI i → M 0 7 = -9 → ul_rd a b K M → ∃ v r K' M', ul_it F1 (f_X2_readFrom_L26 L) (nI i, nI (a + b), K) = some r ∧ Sum.elim (fun z => some z) (fun e26 => f_X2_readFrom_j108 L e26.1 e26.2.1 e26.2.2) r = some (v, K') ∧ ul_it F2 f_X7_readText_L51 M = some M' ∧ M' 0 7 = v ∧ ul_fr M M' ∧ (v = -9 → ∃ a b, ul_rd a b K' M') := by
  intro k
  induction k with
  | zero =>
    intro i a b K M F1 F2 hk hin hF1 hF2 ht h5 h6 h7 h
    obtain ⟨F1', rfl⟩ : ∃ f, F1 = f + 1 := ⟨F1 - 1, by omega⟩
    obtain ⟨F2', rfl⟩ : ∃ f, F2 = f + 1 := ⟨F2 - 1, by omega⟩
    have ei : i = n := by omega
    subst ei
    obtain ⟨e1, e2⟩ := x_rde (a := a) (b := b) (K := K) hn hL h5 h6 h7
    unfold ul_it
    rw [e1, e2]
    exact ⟨-9, _, K, M, rfl, rfl, rfl, h7, fr_r M, fun _ => ⟨a, b, h⟩⟩
  | succ k ih =>
    intro i a b K M F1 F2 hk hin hF1 hF2 ht h5 h6 h7 h
    obtain ⟨F1', rfl⟩ : ∃ f, F1 = f + 1 := ⟨F1 - 1, by omega⟩
    obtain ⟨F2', rfl⟩ : ∃ f, F2 = f + 1 + 1 := ⟨F2 - 2, by omega⟩
    by_cases ei : i = n
    · subst ei
      obtain ⟨e1, e2⟩ := x_rde (a := a) (b := b) (K := K) hn hL h5 h6 h7
      unfold ul_it
      rw [e1, e2]
      exact ⟨-9, _, K, M, rfl, rfl, rfl, h7, fr_r M, fun _ => ⟨a, b, h⟩⟩
    · rcases x_part hn hL ht h5 h6 h7 (by omega) h with ⟨f, K', M', hf, e1, e2, e3, e4⟩ | ⟨a', b', i', K', M', e1, e2, e3, e4, e5, e6, e7, e8⟩
      · refine ⟨nI f, .inl (nI f, K'), K', M', ?_, rfl, ?_, e3, e4, fun q => absurd q (nI_ne9 (by omega))⟩
        · unfold ul_it
          rw [e1]
          rfl
        · show (f_X7_readText_L51 M).bind (Sum.elim some (ul_it (F2' + 1) f_X7_readText_L51)) = _
          rw [e2]
          show (f_X7_readText_L51 M').bind (Sum.elim some (ul_it F2' f_X7_readText_L51)) = _
          have e9 : f_X7_readText_L51 M' = some (.inl M') := by
            unfold f_X7_readText_L51
            rw [if_neg (by rw [e3]; exact nI_ne9 (by omega))]
          rw [e9]
          rfl
      · have ht' : ∀ i, i < n → L 1 i = M' 9 i := by
          rw [e8.1 9 (by decide) (by decide) (by decide)]
          exact ht
        have h5' : M' 0 5 = nI n := by
          rw [e8.2 5 (by decide) (by decide) (by decide) (by decide) (by decide)]
          exact h5
        obtain ⟨v, r, K2, M2, w1, w2, w3, w4, w5, w6⟩ := ih i' a' b' K' M' F1' (F2' + 1) (by omega) e6 (by omega) (by omega) ht' h5' e4 e3 e7
        refine ⟨v, r, K2, M2, ?_, w2, ?_, w4, fr_t e8 w5, w6⟩
        · show (f_X2_readFrom_L26 L (nI i, nI (a + b), K)).bind (Sum.elim some (ul_it F1' (f_X2_readFrom_L26 L))) = _
          rw [e1]
          exact w1
        · show (f_X7_readText_L51 M).bind (Sum.elim some (ul_it (F2' + 1) f_X7_readText_L51)) = _
          rw [e2]
          exact w3
/-- the whole text -/
theorem x_text {L M : ul_S} (h : ul_px L M) (K : ul_S) : ∃ v K' M', f_X2_readFrom K L = some (v, K') ∧ f_X7_readText M = some (v, M') ∧ ul_fr M M' ∧ (v = -9 → ∃ a b, ul_rd a b K' M') := by
  obtain ⟨n, hn, hL, hM, ht⟩ := h
  obtain ⟨K2, eK2⟩ : ∃ z, z = ul_up (ul_up K 0 0 (0 : Int32)) 0 1 (0 : Int32) := ⟨_, rfl⟩
  obtain ⟨M5, eM5⟩ : ∃ z, z = ul_up (ul_up (ul_up (ul_up (ul_up M 0 6 (0 : Int32)) 0 7 (-9 : Int32)) 0 2 (0 : Int32)) 0 3 (0 : Int32)) 0 4 (0 : Int32) := ⟨_, rfl⟩
  have f5 : ul_fr M M5 := by
    rw [eM5]
    exact fr_0 (by omega) (fr_0 (by omega) (fr_0 (by omega) (fr_0 (by omega) (fr_0 (by omega) (fr_r M)))))
  have g5 : M5 0 5 = nI n := by
    rw [f5.2 5 (by decide) (by decide) (by decide) (by decide) (by decide)]
    exact hM
  have g9 : M5 9 = M 9 := f5.1 9 (by decide) (by decide) (by decide)
  have cC : f_X2_readFrom K L = (f_X5_letterAt L (0 : Int32)).bind fun u3 => if u3 = (77 : Int32) then ((ul_it ul_N (f_X2_readFrom_L26 L) ((1 : Int32), (0 : Int32), K2)).bind (Sum.elim (fun z => some z) (fun e26 => f_X2_readFrom_j108 L e26.1 e26.2.1 e26.2.2))) else (some ((0 : Int32), K2)) := by
    rw [eK2]
    rfl
  have cM : f_X7_readText M = if (M5 0 5) = 0 then (some ((0 : Int32), M5)) else (ul_ld (M5 9) 48 (0 : Int32) fun v7 => if v7 = (77 : Int32) then (ul_bd (ul_up M5 0 6 (1 : Int32)) fun M10 => (ul_it ul_N (f_X7_readText_L51) M10).bind (fun e51 => f_X7_readText_j87 e51)) else (some ((0 : Int32), M5))) := by
    rw [eM5]
    rfl
  by_cases h0 : n = 0
  · subst h0
    have e1 : f_X5_letterAt L (0 : Int32) = some (-9) := by
      unfold f_X5_letterAt
      rw [hL, if_neg (by decide), if_pos (by decide)]
    refine ⟨0, K2, M5, ?_, ?_, f5, fun q => absurd q (by decide)⟩
    · rw [cC, e1, Option.bind_some, if_neg (by decide)]
    · rw [cM, g5, if_pos nI_0]
  · have e1 : f_X5_letterAt L (0 : Int32) = some (M 9 0) := rd_let (i := 0) hn hL ht (by omega)
    have l0 : ∀ {k : Int32 → Option (Int32 × ul_S)}, ul_ld (M5 9) 48 (0 : Int32) k = k (M5 9 0) := fun {k} => ul_ldN (i := 0) (by omega) (by omega)
    rw [cC, cM, e1, g5, if_neg (nI_ne0 (by omega) (by omega)), Option.bind_some, l0, g9]
    by_cases h77 : M 9 0 = 77
    · rw [if_pos h77, if_pos h77, ul_bdE]
      have hrd : ul_rd 0 0 K2 (ul_up M5 0 6 1) := by
        refine ⟨⟨by omega, by omega, ?_, ?_, ?_, ?_⟩, fun l hl => by omega, fun l k hl => by omega, fun p hp => by omega, ?_⟩
        · rw [eK2]
          simp [ul_upE]
          rfl
        · rw [eM5]
          simp [ul_upE]
          rfl
        · rw [eK2]
          simp [ul_upE]
          rfl
        · rw [eM5]
          simp [ul_upE]
          rfl
        · intro d hd
          have e4 : ul_up M5 0 6 1 0 4 = 0 := by
            rw [ul_up_i (by decide), eM5, ul_up_s]
          rw [e4]
          exact ⟨fun q => absurd q (bt_z d hd), fun ⟨l, hl, _⟩ => by omega⟩
      obtain ⟨v, r, K', M', w1, w2, w3, w4, w5, w6⟩ := x_rdl hn hL n 1 0 0 K2 (ul_up M5 0 6 1) ul_N ul_N (by omega) (by omega) (by rw [ul_N_v]; omega) (by rw [ul_N_v]; omega) (by rw [ul_up_jf (by decide), g9]; exact ht) (by rw [ul_up_i (by decide)]; exact g5) ul_up_s (by rw [ul_up_i (by decide), eM5]; simp [ul_upE]) hrd
      have w1' : ul_it ul_N (f_X2_readFrom_L26 L) ((1 : Int32), (0 : Int32), K2) = some r := w1
      refine ⟨v, K', M', ?_, ?_, fr_t f5 (fr_t (fr_0 (by omega) (fr_r M5)) w5), w6⟩
      · rw [w1', Option.bind_some, w2]
      · rw [w3, Option.bind_some]
        unfold f_X7_readText_j87
        rw [w4]
    · rw [if_neg h77, if_neg h77]
      exact ⟨0, K2, M5, rfl, rfl, f5, fun q => absurd q (by decide)⟩
theorem rr_fr {c : Nat} {U : ul_S} {d : Int64} {L K N J E M M' : ul_S} {dm : Int64} {P B : ul_F} (h : ul_RR c U d L K N J E M dm P B) (f : ul_fr M M') : ul_RR c U d L K N J E M' dm P B := by
  obtain ⟨nl, np, h1, h2, h3, h4, h5, h6, h7⟩ := h
  have fr : ∀ j, j ≠ 0 → j ≠ 7 → j ≠ 8 → M' j = M j := f.1
  have fi : ∀ i, i ≠ 2 → i ≠ 3 → i ≠ 4 → i ≠ 6 → i ≠ 7 → M' 0 i = M 0 i := f.2
  refine ⟨nl, np, ?_, ?_, ?_, ?_, ?_, ?_, h7⟩
  · exact mk_cg h1 (fi 0 (by decide) (by decide) (by decide) (by decide) (by decide)) (fi 1 (by decide) (by decide) (by decide) (by decide) (by decide)) (fun j a b => fr j (by omega) (by omega) (by omega))
  · rw [fr 6 (by decide) (by decide) (by decide)]
    exact h2
  · exact px_cg h3 (fi 5 (by decide) (by decide) (by decide) (by decide) (by decide)) (fr 9 (by decide) (by decide) (by decide))
  · exact pa_cg h4 (fi 8 (by decide) (by decide) (by decide) (by decide) (by decide)) (fi 9 (by decide) (by decide) (by decide) (by decide) (by decide)) (fr 10 (by decide) (by decide) (by decide))
  · exact pe_cg h5 (fi 10 (by decide) (by decide) (by decide) (by decide) (by decide)) (fr 11 (by decide) (by decide) (by decide)) (fr 12 (by decide) (by decide) (by decide))
  · exact pk_cg h6 (fr 13 (by decide) (by decide) (by decide)) (fr 14 (by decide) (by decide) (by decide))
theorem e_fault {c : Nat} {U : ul_S} {d : Int64} {L K N J E M : ul_S} {dm : Int64} {P B : ul_F} (h : ul_RR c U d L K N J E M dm P B) (D : ul_S) : ∃ v D' M', f_X6_fault L D = some (v, D') ∧ f_X7_fault M = some (v, M') ∧ ul_RR c U d L K N J E M' dm P B := by
  have h0 := h
  obtain ⟨nl, np, h1, h2, h3, h4, h5, h6, h7⟩ := h
  obtain ⟨v, D', M', e1, e2, e3, -⟩ := x_text h3 D
  refine ⟨v, D', M', ?_, ?_, rr_fr h0 e3⟩
  · unfold f_X6_fault
    rw [e1, Option.bind_some]
  · unfold f_X7_fault
    rw [e2, Option.bind_some]
