/-! what is read so far, on both sides -/
def ul_rd (a b : Nat) (K M : ul_S) : Prop := (a ≤ 4 ∧ b ≤ 5 ∧ K 0 0 = nI a ∧ M 0 2 = nI a ∧ K 0 1 = nI b ∧ M 0 3 = nI b) ∧ (∀ l, l < a → M 7 (3 * l) = K 1 l ∧ M 7 (3 * l + 1) = K 2 l ∧ M 7 (3 * l + 2) = K 3 l ∧ (∃ x, x < 10 ∧ K 1 l = nI x) ∧ ∃ t, t ≤ 9 ∧ K 2 l = nI t) ∧ (∀ l k, l < a → k < a → K 1 l = K 1 k → l = k) ∧ (∀ p, p < b → M 8 (4 * p + 3) = K 7 p ∧ ∃ h w x : Nat, h < 10 ∧ w < 10 ∧ h ≠ w ∧ x ≤ 9 ∧ K 4 p = nI h ∧ M 8 (4 * p) = nI h ∧ K 5 p = nI w ∧ M 8 (4 * p + 1) = nI w ∧ K 6 p = nI x ∧ M 8 (4 * p + 2) = nI x) ∧ ∀ d, d < 10 → (ul_bt (M 0 4) d ↔ ∃ l, l < a ∧ K 1 l = nI d)
theorem rd_told {K : ul_S} {a x : Nat} (ha : a ≤ 4) (hK : K 0 0 = nI a) : (f_X2_isTold K (nI x) = some 1 ∧ ∃ l, l < a ∧ K 1 l = nI x) ∨ (f_X2_isTold K (nI x) = some 0 ∧ ∀ l, l < a → ¬ K 1 l = nI x) := by
  unfold f_X2_isTold
  have key := ul_run (b := f_X2_isTold_L2 K (nI x)) (fun k s => k ≤ a ∧ s = nI (a - k) ∧ ∀ l, l < a - k → ¬ K 1 l = nI x) (fun r => (r = .inl 1 ∧ ∃ l, l < a ∧ K 1 l = nI x) ∨ ((∃ z, r = .inr z) ∧ ∀ l, l < a → ¬ K 1 l = nI x))
    (by
      intro s hs
      obtain ⟨-, hs, hn⟩ := hs
      refine ⟨.inr s, ?_, Or.inr ⟨⟨s, rfl⟩, fun l hl => hn l (by omega)⟩⟩
      unfold f_X2_isTold_L2
      rw [hK, hs, if_pos (nI_le (by omega) (by omega))])
    (by
      intro i s hs
      obtain ⟨hi, hs, hn⟩ := hs
      have hlt : a - (i + 1) < a := by omega
      have hb : f_X2_isTold_L2 K (nI x) s = if K 1 (a - (i + 1)) = nI x then some (.inl (.inl 1)) else some (.inr (nI (a - i))) := by
        unfold f_X2_isTold_L2
        rw [hK, hs, if_neg (nI_ge hlt (by omega))]
        have e1 : nI (a - (i + 1)) + 1 = nI (a - i) := by
          rw [nI_1]
          congr 1
          omega
        simp (disch := omega) only [ul_ldN, ul_bdE, e1]
      rw [hb]
      by_cases hg : K 1 (a - (i + 1)) = nI x
      · right
        rw [if_pos hg]
        exact ⟨_, rfl, Or.inl ⟨rfl, _, hlt, hg⟩⟩
      · left
        rw [if_neg hg]
        refine ⟨_, rfl, by omega, rfl, ?_⟩
        intro l hl
        by_cases hl2 : l = a - (i + 1)
        · rw [hl2]
          exact hg
        · exact hn l (by omega))
    ul_N a 0 ⟨Nat.le_refl a, by rw [Nat.sub_self]; rfl, fun l hl => by omega⟩ (by rw [ul_N_v]; omega)
  obtain ⟨r, hr, hq⟩ := key
  rw [hr, Option.bind_some]
  rcases hq with ⟨q1, q2⟩ | ⟨⟨z, q1⟩, q2⟩
  · subst q1
    exact Or.inl ⟨rfl, q2⟩
  · subst q1
    exact Or.inr ⟨rfl, q2⟩
theorem rd_lad {a b d1 d2 : Nat} {x3 : Int32} {K M K' M' : ul_S} (h : ul_rd a b K M) (ha : a < 4) (hd1 : d1 < 10) (hd2 : d2 ≤ 9) (hnew : ∀ l, l < a → ¬ K 1 l = nI d1)
    (k0 : K' 0 0 = nI (a + 1)) (k1 : K' 0 1 = K 0 1) (kr : ∀ j, 4 ≤ j → K' j = K j) (ko : ∀ j l, 1 ≤ j → l ≠ a → K' j l = K j l) (ka : K' 1 a = nI d1) (kb : K' 2 a = nI d2) (kc : K' 3 a = x3)
    (m2 : M' 0 2 = nI (a + 1)) (m3 : M' 0 3 = M 0 3) (m8 : M' 8 = M 8) (mo : ∀ k, k < 3 * a → M' 7 k = M 7 k) (ma : M' 7 (3 * a) = nI d1) (mb : M' 7 (3 * a + 1) = nI d2) (mc : M' 7 (3 * a + 2) = x3) (m4 : M' 0 4 = M 0 4 ||| ((1 : Int32) <<< (nI d1 &&& 31))) : ul_rd (a + 1) b K' M' := by
  obtain ⟨⟨q1, q2, q3, q4, q5, q6⟩, hl, hdis, hp, hbit⟩ := h
  refine ⟨⟨by omega, q2, k0, m2, by rw [k1]; exact q5, by rw [m3]; exact q6⟩, ?_, ?_, ?_, ?_⟩
  · intro l hla
    by_cases e : l = a
    · subst e
      rw [ma, mb, mc, ka, kb, kc]
      exact ⟨rfl, rfl, rfl, ⟨d1, hd1, rfl⟩, d2, hd2, rfl⟩
    · rw [mo (3 * l) (by omega), mo (3 * l + 1) (by omega), mo (3 * l + 2) (by omega), ko 1 l (by omega) e, ko 2 l (by omega) e, ko 3 l (by omega) e]
      exact hl l (by omega)
  · intro l k hla hka
    by_cases e : l = a
    · by_cases e2 : k = a
      · intro _
        rw [e, e2]
      · rw [e, ka, ko 1 k (by omega) e2]
        intro q
        exact absurd q.symm (hnew k (by omega))
    · by_cases e2 : k = a
      · rw [e2, ka, ko 1 l (by omega) e]
        intro q
        exact absurd q (hnew l (by omega))
      · rw [ko 1 k (by omega) e2, ko 1 l (by omega) e]
        exact hdis l k (by omega) (by omega)
  · intro p hpb
    rw [m8, kr 7 (by omega), kr 4 (by omega), kr 5 (by omega), kr 6 (by omega)]
    exact hp p hpb
  · intro d hd
    rw [m4, bt_o1 hd1 hd, hbit d hd]
    constructor
    · rintro (⟨l, hla, el⟩ | e)
      · exact ⟨l, by omega, by rw [ko 1 l (by omega) (by omega)]; exact el⟩
      · exact ⟨a, by omega, by rw [ka, e]⟩
    · rintro ⟨l, hla, el⟩
      by_cases e : l = a
      · right
        rw [e, ka] at el
        exact (nI_inj (by omega) (by omega) el).symm
      · left
        rw [ko 1 l (by omega) e] at el
        exact ⟨l, by omega, el⟩
theorem rd_per {a b d1 d2 d3 : Nat} {x4 : Int32} {K M K' M' : ul_S} (h : ul_rd a b K M) (hb : b < 5) (hd1 : d1 < 10) (hd2 : d2 < 10) (hne : d1 ≠ d2) (hd3 : d3 ≤ 9)
    (k0 : K' 0 1 = nI (b + 1)) (k1 : K' 0 0 = K 0 0) (kr : ∀ j, 1 ≤ j → j ≤ 3 → K' j = K j) (ko : ∀ j l, 1 ≤ j → l ≠ b → K' j l = K j l) (ka : K' 4 b = nI d1) (kb : K' 5 b = nI d2) (kc : K' 6 b = nI d3) (kd : K' 7 b = x4)
    (m3 : M' 0 3 = nI (b + 1)) (m2 : M' 0 2 = M 0 2) (m4 : M' 0 4 = M 0 4) (m7 : M' 7 = M 7) (mo : ∀ k, k < 4 * b → M' 8 k = M 8 k) (ma : M' 8 (4 * b) = nI d1) (mb : M' 8 (4 * b + 1) = nI d2) (mc : M' 8 (4 * b + 2) = nI d3) (md : M' 8 (4 * b + 3) = x4) : ul_rd a (b + 1) K' M' := by
  obtain ⟨⟨q1, q2, q3, q4, q5, q6⟩, hl, hdis, hp, hbit⟩ := h
  have kr1 := kr 1 (by omega) (by omega)
  refine ⟨⟨q1, by omega, by rw [k1]; exact q3, by rw [m2]; exact q4, k0, m3⟩, ?_, ?_, ?_, ?_⟩
  · rw [m7, kr1, kr 2 (by omega) (by omega), kr 3 (by omega) (by omega)]
    exact hl
  · rw [kr1]
    exact hdis
  · intro p hpb
    by_cases e : p = b
    · subst e
      rw [md, kd]
      exact ⟨rfl, d1, d2, d3, hd1, hd2, hne, hd3, ka, ma, kb, mb, kc, mc⟩
    · rw [mo (4 * p) (by omega), mo (4 * p + 1) (by omega), mo (4 * p + 2) (by omega), mo (4 * p + 3) (by omega), ko 4 p (by omega) e, ko 5 p (by omega) e, ko 6 p (by omega) e, ko 7 p (by omega) e]
      exact hp p (by omega)
  · rw [m4, kr1]
    exact hbit
/-- one ladder's part -/
theorem x_lad {n a b i : Nat} {L K M : ul_S} (hn : n ≤ 48) (hL : L 0 0 = nI n) (ht : ∀ i, i < n → L 1 i = M 9 i) (h5 : M 0 5 = nI n) (h6 : M 0 6 = nI i) (h7 : M 0 7 = -9) (hi : i < n) (h : ul_rd a b K M) : (∃ f M', f < 100 ∧ f_X2_readLadder K L (nI i) = some (nI f, K) ∧ f_X7_readPart M 76 = some M' ∧ M' 0 7 = nI f ∧ ul_fr M M') ∨ ∃ K' M', f_X2_readLadder K L (nI i) = some (-9, K') ∧ f_X7_readPart M 76 = some M' ∧ M' 0 7 = -9 ∧ M' 0 6 = nI (i + 4) ∧ i + 4 ≤ n ∧ ul_rd (a + 1) b K' M' ∧ ul_fr M M' := by
  have hq := h.1
  obtain ⟨q1, q2, q3, q4, q5, q6⟩ := hq
  have a2 : nI i + 2 = nI (i + 2) := nI_add i 2
  have a3 : nI i + 3 = nI (i + 3) := nI_add i 3
  by_cases ha : a < 4
  · have hK4 : K 0 0 < 4 := by rw [q3]; exact nI_lt (a := a) (b := 4) ha (by omega)
    have hC : f_X2_readLadder K L (nI i) = ((f_X5_figureAt L (nI (i + 1))).bind fun u2 => if u2 < 0 then some (nI (i + 1), K) else ((f_X2_isTold K u2).bind fun u4 => if u4 = 0 then ((f_X5_figureAt L (nI (i + 2))).bind fun u6 => if (1 : Int32) ≤ u6 then ((f_X5_figureAt L (nI (i + 3))).bind fun u8 => if u8 < 0 then some (nI (i + 3), K) else (if u8 ≤ (3 : Int32) then some ((-9 : Int32), ul_up (ul_up (ul_up (ul_up K 1 a u2) 2 a u6) 3 a u8) 0 0 (nI (a + 1))) else some (nI (i + 3), K))) else (some (nI (i + 2), K))) else some (nI (i + 1), K))) := by
      unfold f_X2_readLadder f_X2_readLadder_j30 f_X2_readLadder_j73
      rw [if_pos hK4]
      simp (disch := omega) only [ul_bdE, nI_1, a2, a3, q3, ul_stN, ul_up_j]
    rw [hC, rl_0 ha q4 h6]
    obtain ⟨M1, eM1⟩ : ∃ z, z = ul_up M 0 6 (nI (i + 1)) := ⟨_, rfl⟩
    rw [← eM1]
    have b5 : M1 0 5 = nI n := by rw [eM1, ul_up_i (by decide)]; exact h5
    have b9 : M1 9 = M 9 := by rw [eM1, ul_up_jf (by decide)]
    have b6 : M1 0 6 = nI (i + 1) := by rw [eM1, ul_up_s]
    have b7 : M1 0 7 = -9 := by rw [eM1, ul_up_i (by decide)]; exact h7
    have bf : ul_fr M M1 := by rw [eM1]; exact fr_0 (by omega) (fr_r M)
    have fail1 : ∃ M', ((some ((0 : Int32), ul_up M1 0 7 (nI (i + 1)))).bind fun u => rl_1 a u.1 u.2) = some M' ∧ M' 0 7 = nI (i + 1) ∧ ul_fr M M' := by
      have e7 : ul_up M1 0 7 (nI (i + 1)) 0 7 = nI (i + 1) := ul_up_s
      obtain ⟨M', w1, w2, w3⟩ := rl_1F (a := a) (v := 0) (M := ul_up M1 0 7 (nI (i + 1))) (by rw [e7]; exact nI_ne9 (by omega))
      exact ⟨M', w1, w2.trans e7, fr_t (fr_0 (by omega) bf) w3⟩
    rcases fg_two (i := i + 1) hn hL ht (by omega) with ⟨d1, hd1, hi1, ec1, em1⟩ | ⟨ec1, em1⟩
    · rw [ec1, em1 M1 _ b5 b9 b6 b7, Option.bind_some, if_neg (nI_pos (by omega))]
      rcases rd_told (x := d1) q1 q3 with ⟨et, l, hla, el⟩ | ⟨et, hnew⟩
      · left
        have hnb : ¬ ul_bt ((1023 : Int32) &&& ((M 0 4) ^^^ (-1 : Int32))) d1 := by
          rw [bt_nd hd1, h.2.2.2.2 d1 hd1]
          exact fun q => q ⟨l, hla, el⟩
        rw [et, Option.bind_some, if_neg (show ¬ (1 : Int32) = 0 by decide), if_neg hnb]
        obtain ⟨M', w1, w2, w3⟩ := fail1
        exact ⟨i + 1, M', by omega, rfl, w1, w2, w3⟩
      · have hb1 : ul_bt ((1023 : Int32) &&& ((M 0 4) ^^^ (-1 : Int32))) d1 := by
          rw [bt_nd hd1, h.2.2.2.2 d1 hd1]
          rintro ⟨l, hla, el⟩
          exact hnew l hla el
        rw [et, Option.bind_some, if_pos rfl, if_pos hb1, Option.bind_some]
        unfold rl_1
        dsimp only
        obtain ⟨M2, eM2⟩ : ∃ z, z = ul_up (ul_up M1 0 6 (nI (i + 1 + 1))) 7 (3 * a) (nI d1) := ⟨_, rfl⟩
        rw [← eM2]
        have c5 : M2 0 5 = nI n := by rw [eM2, ul_up_j (by decide), ul_up_i (by decide)]; exact b5
        have c9 : M2 9 = M 9 := by rw [eM2, ul_up_jf (by decide), ul_up_jf (by decide)]; exact b9
        have c6 : M2 0 6 = nI (i + 2) := by rw [eM2, ul_up_j (by decide), ul_up_s]
        have c7 : M2 0 7 = -9 := by rw [eM2, ul_up_j (by decide), ul_up_i (by decide)]; exact b7
        have cf : ul_fr M M2 := by rw [eM2]; exact fr_7 (fr_0 (by omega) bf)
        have fail2 : ∃ M', ((some ((0 : Int32), ul_up M2 0 7 (nI (i + 2)))).bind fun u => rl_2 a u.1 u.2) = some M' ∧ M' 0 7 = nI (i + 2) ∧ ul_fr M M' := by
          have e7 : ul_up M2 0 7 (nI (i + 2)) 0 7 = nI (i + 2) := ul_up_s
          obtain ⟨M', w1, w2, w3⟩ := rl_2F (a := a) (v := 0) (M := ul_up M2 0 7 (nI (i + 2))) (by rw [e7]; exact nI_ne9 (by omega))
          exact ⟨M', w1, w2.trans e7, fr_t (fr_0 (by omega) cf) w3⟩
        rcases fg_two (i := i + 2) hn hL ht (by omega) with ⟨d2, hd2, hi2, ec2, em2⟩ | ⟨ec2, em2⟩
        · rw [ec2, em2 M2 _ c5 c9 c6 c7, Option.bind_some]
          by_cases h1d : 1 ≤ d2
          · have h1i : (1 : Int32) ≤ nI d2 := nI_le (a := 1) (b := d2) h1d (by omega)
            rw [if_pos h1i, if_pos ((bt_1022 d2 hd2).mpr h1d), Option.bind_some]
            unfold rl_2
            dsimp only
            obtain ⟨M3, eM3⟩ : ∃ z, z = ul_up (ul_up M2 0 6 (nI (i + 2 + 1))) 7 (3 * a + 1) (nI d2) := ⟨_, rfl⟩
            rw [← eM3]
            have g5 : M3 0 5 = nI n := by rw [eM3, ul_up_j (by decide), ul_up_i (by decide)]; exact c5
            have g9 : M3 9 = M 9 := by rw [eM3, ul_up_jf (by decide), ul_up_jf (by decide)]; exact c9
            have g6 : M3 0 6 = nI (i + 3) := by rw [eM3, ul_up_j (by decide), ul_up_s]
            have g7 : M3 0 7 = -9 := by rw [eM3, ul_up_j (by decide), ul_up_i (by decide)]; exact c7
            have gf : ul_fr M M3 := by rw [eM3]; exact fr_7 (fr_0 (by omega) cf)
            have fail3 : ∃ M', ((some ((0 : Int32), ul_up M3 0 7 (nI (i + 3)))).bind fun u => some (rl_3 a u.1 u.2)) = some M' ∧ M' 0 7 = nI (i + 3) ∧ ul_fr M M' := by
              have e7 : ul_up M3 0 7 (nI (i + 3)) 0 7 = nI (i + 3) := ul_up_s
              obtain ⟨w2, w3⟩ := rl_3F a 0 (ul_up M3 0 7 (nI (i + 3)))
              exact ⟨_, rfl, w2.trans e7, fr_t (fr_0 (by omega) gf) w3⟩
            rcases fg_two (i := i + 3) hn hL ht (by omega) with ⟨d3, hd3, hi3, ec3, em3⟩ | ⟨ec3, em3⟩
            · rw [ec3, em3 M3 _ g5 g9 g6 g7, Option.bind_some, if_neg (nI_pos (by omega))]
              by_cases h3d : d3 ≤ 3
              · have h3i : nI d3 ≤ (3 : Int32) := nI_le (a := d3) (b := 3) h3d (by omega)
                right
                rw [if_pos h3i, if_pos ((bt_15 d3 hd3).mpr h3d), Option.bind_some]
                refine ⟨_, _, rfl, rfl, ?_⟩
                dsimp only
                obtain ⟨M4, eM4⟩ : ∃ z, z = ul_up M3 0 6 (nI (i + 3 + 1)) := ⟨_, rfl⟩
                rw [← eM4]
                obtain ⟨w2, w3⟩ := rl_3F a (nI d3) M4
                have r7 : ∀ k, M4 7 k = if k = 3 * a + 1 then nI d2 else if k = 3 * a then nI d1 else M 7 k := by
                  intro k
                  rw [eM4, eM3, eM2, eM1]
                  simp only [ul_upE]
                  by_cases k1 : k = 3 * a + 1
                  · simp [k1]
                  · by_cases k2 : k = 3 * a
                    · simp [k2]
                    · simp [k1, k2]
                have r4 : M4 0 4 = M 0 4 := by
                  rw [eM4, eM3, eM2, eM1]
                  simp [ul_upE]
                have r2 : M4 0 2 = nI a := by
                  rw [eM4, eM3, eM2, eM1]
                  simp [ul_upE]
                  exact q4
                have r3 : M4 0 3 = M 0 3 := by
                  rw [eM4, eM3, eM2, eM1]
                  simp [ul_upE]
                have r8 : M4 8 = M 8 := by
                  rw [eM4, eM3, eM2, eM1]
                  rw [ul_up_jf (by decide), ul_up_jf (by decide), ul_up_jf (by decide), ul_up_jf (by decide), ul_up_jf (by decide), ul_up_jf (by decide)]
                have r6 : M4 0 6 = nI (i + 4) := by rw [eM4, ul_up_s]
                have r77 : M4 0 7 = -9 := by rw [eM4, ul_up_i (by decide)]; exact g7
                have rf : ul_fr M M4 := by rw [eM4]; exact fr_0 (by omega) gf
                refine ⟨w2.trans r77, ?_, by omega, ?_, fr_t rf w3⟩
                · unfold rl_3
                  rw [ul_up_i (by decide), ul_up_i (by decide), ul_up_j (by decide)]
                  exact r6
                · have s7 : ∀ k, rl_3 a (nI d3) M4 7 k = if k = 3 * a + 2 then nI d3 else M4 7 k := by
                    intro k
                    unfold rl_3
                    rw [ul_up_j (by decide), ul_up_j (by decide), ul_upE]
                    simp
                  have t1 : ul_up M4 7 (3 * a + 2) (nI d3) 7 (3 * a) = nI d1 := by
                    rw [ul_up_i (by omega), r7, if_neg (by omega), if_pos rfl]
                  have t2 : ul_up M4 7 (3 * a + 2) (nI d3) 0 4 = M 0 4 := by
                    rw [ul_up_j (by decide)]
                    exact r4
                  refine rd_lad (d1 := d1) (d2 := d2) (x3 := nI d3) h ha hd1 (by omega) hnew ul_up_s ?_ ?_ ?_ ?_ ?_ ?_ ?_ ?_ ?_ ?_ ?_ ?_ ?_ ?_
                  · simp [ul_upE]
                  · intro j hj
                    rw [ul_up_jf (by omega), ul_up_jf (by omega), ul_up_jf (by omega), ul_up_jf (by omega)]
                  · intro j l hj hl
                    rw [ul_up_j (by omega), ul_up_i hl, ul_up_i hl, ul_up_i hl]
                  · simp [ul_upE]
                  · simp [ul_upE]
                  · simp [ul_upE]
                  · unfold rl_3
                    rw [ul_up_s, ul_up_i (by decide), ul_up_j (by decide), r2, nI_1]
                  · unfold rl_3
                    rw [ul_up_i (by decide), ul_up_i (by decide), ul_up_j (by decide)]
                    exact r3
                  · unfold rl_3
                    rw [ul_up_jf (by decide), ul_up_jf (by decide), ul_up_jf (by decide)]
                    exact r8
                  · intro k hk
                    rw [s7, if_neg (by omega), r7, if_neg (by omega), if_neg (by omega)]
                  · rw [s7, if_neg (by omega), r7, if_neg (by omega), if_pos rfl]
                  · rw [s7, if_neg (by omega), r7, if_pos rfl]
                  · rw [s7, if_pos rfl]
                  · unfold rl_3
                    rw [ul_up_i (by decide), ul_up_s, t1, t2]
              · have h3i : ¬ nI d3 ≤ (3 : Int32) := nI_ge (a := 3) (b := d3) (by omega) (by omega)
                left
                rw [if_neg h3i, if_neg (fun q => h3d ((bt_15 d3 hd3).mp q))]
                obtain ⟨M', w1, w2, w3⟩ := fail3
                exact ⟨i + 3, M', by omega, rfl, w1, w2, w3⟩
            · left
              rw [ec3, em3 M3 _ g5 g9 g6 g7, Option.bind_some, if_pos (by decide)]
              obtain ⟨M', w1, w2, w3⟩ := fail3
              exact ⟨i + 3, M', by omega, rfl, w1, w2, w3⟩
          · have h1i : ¬ (1 : Int32) ≤ nI d2 := nI_ge (a := d2) (b := 1) (by omega) (by omega)
            left
            rw [if_neg h1i, if_neg (fun q => h1d ((bt_1022 d2 hd2).mp q))]
            obtain ⟨M', w1, w2, w3⟩ := fail2
            exact ⟨i + 2, M', by omega, rfl, w1, w2, w3⟩
        · left
          rw [ec2, em2 M2 _ c5 c9 c6 c7, Option.bind_some, if_neg (by decide)]
          obtain ⟨M', w1, w2, w3⟩ := fail2
          exact ⟨i + 2, M', by omega, rfl, w1, w2, w3⟩
    · left
      rw [ec1, em1 M1 _ b5 b9 b6 b7, Option.bind_some, if_pos (by decide)]
      obtain ⟨M', w1, w2, w3⟩ := fail1
      exact ⟨i + 1, M', by omega, rfl, w1, w2, w3⟩
  · left
    have hK4 : ¬ K 0 0 < 4 := by rw [q3]; exact nI_nlt (a := a) (b := 4) (by omega) (by omega)
    have hM4 : ¬ M 0 2 < 4 := by rw [q4]; exact nI_nlt (a := a) (b := 4) (by omega) (by omega)
    refine ⟨i, _, by omega, ?_, rp_x (Or.inr hM4) (Or.inl (by decide)) h6, ul_up_s, fr_0 (by omega) (fr_r M)⟩
    unfold f_X2_readLadder
    rw [if_neg hK4]
