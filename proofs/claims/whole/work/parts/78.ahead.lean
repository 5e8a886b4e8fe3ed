/-! days to come: luck, gold, lost -/
theorem e_luck {c : Nat} {U : ul_S} {d : Int64} {L K N J E M : ul_S} {dm : Int64} {P B : ul_F} (hc : c ≤ 600) (h : ul_RR c U d L K N J E M dm P B) (T : ul_S) (p n : Int32) : ∃ v T' M', f_X6_luck K N T p n = some (v, T') ∧ f_X7_luck M p n = some (v, M') ∧ ul_RR c U d L K N J E M' dm P B := by
  have h0 := h
  obtain ⟨nl, np, h1, h2, -⟩ := h
  have h1' := h1
  obtain ⟨q4, q5, -, -, hK1, hM1, -⟩ := h1'
  unfold f_X6_luck f_X7_luck
  rcases q_per (by omega) hK1 hM1 p with ⟨j, hj, rfl, e1, e2⟩ | ⟨e1, e2⟩
  · rw [e1, e2, Option.bind_some, Option.bind_some, if_neg (show ¬ (1 : Int32) = 0 by decide), if_neg (show ¬ (1 : Int32) = 0 by decide)]
    rcases mi_nm (p := n) (a := 0) (b := 20) (y := 0) (z := 20) (by decide) (by decide) (by decide) (by decide) with ⟨k, -, hk, ex, e⟩ | ⟨hr, e⟩
    · have hx0 : ¬ n < 0 := by rw [ex]; exact nI_pos (by omega)
      have hx1 : n ≤ 20 := by rw [ex]; exact nI_le (a := k) (b := 20) hk (by omega)
      obtain ⟨T', g', e3, e4, e5⟩ := sw_ahead (T := T) (n := k) h1 h2 (by omega) (by omega)
      rw [if_neg hx0, if_pos hx1, e, Option.bind_some, if_neg (show ¬ (1 : Int32) = 0 by decide), mm_lay, Option.bind_some, ex, e3, e4, Option.bind_some, Option.bind_some]
      have a40 : (40 : Int32) + nI j = nI (23 + (17 + j)) := by
        have := nI_add 40 j
        rw [show 40 + j = 23 + (17 + j) by omega] at this
        exact this
      rw [a40]
      simp (disch := omega) only [ul_ldN, sg_6]
      rw [(e5.2.2.2.1 j hj).1]
      exact ⟨_, _, _, rfl, rfl, rr_tr h0 g'⟩
    · rw [e, Option.bind_some, if_pos (show (0 : Int32) = 0 from rfl)]
      by_cases hx0 : n < 0
      · rw [if_pos hx0]
        exact ⟨_, _, _, rfl, rfl, h0⟩
      · rw [if_neg hx0, if_neg ?_]
        · exact ⟨_, _, _, rfl, rfl, h0⟩
        · intro q
          rcases hr with hr | hr
          · exact hx0 hr
          · rw [fa_lt, nI_toInt (by omega)] at hr
            rw [fa_le] at q
            have : (20 : Int32).toInt = 20 := by decide
            omega
  · rw [e1, e2, Option.bind_some, Option.bind_some, if_pos rfl, if_pos rfl]
    exact ⟨_, _, _, rfl, rfl, h0⟩
theorem e_gold {c : Nat} {U : ul_S} {d : Int64} {L K N J E M : ul_S} {dm : Int64} {P B : ul_F} (hc : c ≤ 600) (h : ul_RR c U d L K N J E M dm P B) (T : ul_S) (p n : Int32) : ∃ v T' M', f_X6_gold K N T p n = some (v, T') ∧ f_X7_gold M p n = some (v, M') ∧ ul_RR c U d L K N J E M' dm P B := by
  have h0 := h
  obtain ⟨nl, np, h1, h2, -⟩ := h
  have h1' := h1
  obtain ⟨q4, q5, hK0, hM0, -⟩ := h1'
  unfold f_X6_gold f_X7_gold
  rcases q_lad (by omega) hK0 hM0 p with ⟨j, hj, rfl, e1, e2⟩ | ⟨e1, e2⟩
  · rw [e1, e2, Option.bind_some, Option.bind_some, if_neg (show ¬ (1 : Int32) = 0 by decide), if_neg (show ¬ (1 : Int32) = 0 by decide)]
    rcases mi_nm (p := n) (a := 0) (b := 20) (y := 0) (z := 20) (by decide) (by decide) (by decide) (by decide) with ⟨k, -, hk, ex, e⟩ | ⟨hr, e⟩
    · have hx0 : ¬ n < 0 := by rw [ex]; exact nI_pos (by omega)
      have hx1 : n ≤ 20 := by rw [ex]; exact nI_le (a := k) (b := 20) hk (by omega)
      obtain ⟨T', g', e3, e4, e5⟩ := sw_ahead (T := T) (n := k) h1 h2 (by omega) (by omega)
      rw [if_neg hx0, if_pos hx1, e, Option.bind_some, if_neg (show ¬ (1 : Int32) = 0 by decide), mm_lay, Option.bind_some, ex, e3, e4, Option.bind_some, Option.bind_some]
      have a31 : (31 : Int32) + nI j = nI (23 + (8 + j)) := by
        have := nI_add 31 j
        rw [show 31 + j = 23 + (8 + j) by omega] at this
        exact this
      rw [a31]
      simp (disch := omega) only [ul_ldN, sg_6]
      rw [(e5.2.1 j hj).2.1]
      exact ⟨_, _, _, rfl, rfl, rr_tr h0 g'⟩
    · rw [e, Option.bind_some, if_pos (show (0 : Int32) = 0 from rfl)]
      by_cases hx0 : n < 0
      · rw [if_pos hx0]
        exact ⟨_, _, _, rfl, rfl, h0⟩
      · rw [if_neg hx0, if_neg ?_]
        · exact ⟨_, _, _, rfl, rfl, h0⟩
        · intro q
          rcases hr with hr | hr
          · exact hx0 hr
          · rw [fa_lt, nI_toInt (by omega)] at hr
            rw [fa_le] at q
            have : (20 : Int32).toInt = 20 := by decide
            omega
  · rw [e1, e2, Option.bind_some, Option.bind_some, if_pos rfl, if_pos rfl]
    exact ⟨_, _, _, rfl, rfl, h0⟩
