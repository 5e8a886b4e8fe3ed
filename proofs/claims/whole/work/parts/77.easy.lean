/-! calls that need no days -/
theorem ul_same {α : Type} {X : Option α} (h : ∃ v, X = some v) : ∃ v, X = some v ∧ X = some v := by
  obtain ⟨v, hv⟩ := h
  exact ⟨v, hv, hv⟩
theorem px_cg {L M M' : ul_S} (h : ul_px L M) (h0 : M' 0 5 = M 0 5) (h9 : M' 9 = M 9) : ul_px L M' := by
  unfold ul_px at *
  rw [h0, h9]
  exact h
theorem pa_cg {c nl np : Nat} {K J : ul_S} {B : ul_F} {M M' : ul_S} (h : ul_pa c nl np K J B M) (h8 : M' 0 8 = M 0 8) (h9 : M' 0 9 = M 0 9) (hr : M' 10 = M 10) : ul_pa c nl np K J B M' := by
  unfold ul_pa at *
  rw [h8, h9, hr]
  exact h
theorem pe_cg {E M M' : ul_S} (h : ul_pe E M) (h0 : M' 0 10 = M 0 10) (h1 : M' 11 = M 11) (h2 : M' 12 = M 12) : ul_pe E M' := by
  unfold ul_pe at *
  rw [h0, h1, h2]
  exact h
theorem pk_cg {c nl np : Nat} {K U : ul_S} {P : ul_F} {M M' : ul_S} (h : ul_pk c nl np K U P M) (h1 : M' 13 = M 13) (h2 : M' 14 = M 14) : ul_pk c nl np K U P M' := by
  unfold ul_pk at *
  rw [h1, h2]
  exact h
theorem e_write {c : Nat} {U : ul_S} {d : Int64} {L K N J E M : ul_S} {dm : Int64} {P B : ul_F} (h : ul_RR c U d L K N J E M dm P B) (x : Int32) : ∃ v L' M', f_X6_write L x = some (v, L') ∧ f_X7_write M x = some (v, M') ∧ ul_RR c U d L' K N J E M' dm P B := by
  have h0 := h
  obtain ⟨nl, np, h1, h2, ⟨n, hn, eL, eM, eq⟩, h4, h5, h6, h7⟩ := h
  unfold f_X6_write f_X7_write
  rcases mi_nm (p := x) (a := 0) (b := 255) (y := 0) (z := 255) (by decide) (by decide) (by decide) (by decide) with ⟨j, -, hj, ex, e⟩ | ⟨hr, e⟩
  · rw [e, Option.bind_some, if_neg (show ¬ (1 : Int32) = 0 by decide)]
    have hx0 : ¬ x < 0 := by rw [ex]; exact nI_pos (by omega)
    have hx1 : x ≤ 255 := by rw [ex]; exact nI_le (a := j) (b := 255) hj (by omega)
    rw [if_neg hx0, if_pos hx1]
    unfold f_X5_add
    by_cases h48 : n = 48
    · have c1 : ¬ L 0 0 < 48 := by rw [eL, h48]; decide
      have c2 : M 0 5 = 48 := by rw [eM, h48]; rfl
      rw [if_neg c1, if_pos c2]
      exact ⟨-4, L, M, rfl, rfl, h0⟩
    · have c1 : L 0 0 < 48 := by rw [eL]; exact nI_lt (a := n) (b := 48) (by omega) (by omega)
      have c2 : ¬ M 0 5 = 48 := by
        rw [eM]
        exact fun q => h48 (nI_inj (a := n) (b := 48) (by omega) (by omega) q)
      rw [if_pos c1, if_neg c2, eL, eM]
      simp (disch := omega) only [ul_stN, ul_bdE, Option.bind_some]
      rw [ul_up_j (M := L) (show (0 : Nat) ≠ 1 by decide), ul_up_j (M := M) (show (0 : Nat) ≠ 9 by decide), eL, eM, nI_1, ul_up_s, ul_up_s]
      refine ⟨nI (n + 1), _, _, rfl, rfl, nl, np, ?_, ?_, ?_, ?_, ?_, ?_, h7⟩
      · refine mk_cg h1 ?_ ?_ ?_
        · rw [ul_up_i (by decide), ul_up_j (by decide)]
        · rw [ul_up_i (by decide), ul_up_j (by decide)]
        · intro a ha1 ha2
          rw [ul_up_jf (by omega), ul_up_jf (by omega)]
      · rw [ul_up_jf (by decide), ul_up_jf (by decide)]
        exact h2
      · refine ⟨n + 1, by omega, by rw [ul_up_s], by rw [ul_up_s], ?_⟩
        intro i hi
        rw [ul_up_j (j := 0) (j' := 1) (by decide), ul_up_j (j := 0) (j' := 9) (by decide)]
        by_cases hin : i = n
        · subst hin
          rw [ul_up_s, ul_up_s]
        · rw [ul_up_i hin, ul_up_i hin]
          exact eq i (by omega)
      · refine pa_cg h4 ?_ ?_ ?_
        · rw [ul_up_i (by decide), ul_up_j (by decide)]
        · rw [ul_up_i (by decide), ul_up_j (by decide)]
        · rw [ul_up_jf (by decide), ul_up_jf (by decide)]
      · refine pe_cg h5 ?_ ?_ ?_
        · rw [ul_up_i (by decide), ul_up_j (by decide)]
        · rw [ul_up_jf (by decide), ul_up_jf (by decide)]
        · rw [ul_up_jf (by decide), ul_up_jf (by decide)]
      · refine pk_cg h6 ?_ ?_
        · rw [ul_up_jf (by decide), ul_up_jf (by decide)]
        · rw [ul_up_jf (by decide), ul_up_jf (by decide)]
  · rw [e, Option.bind_some, if_pos rfl]
    by_cases hx0 : x < 0
    · rw [if_pos hx0]
      exact ⟨-2, L, M, rfl, rfl, h0⟩
    · rw [if_neg hx0, if_neg ?_]
      · exact ⟨-2, L, M, rfl, rfl, h0⟩
      · intro q
        rcases hr with hr | hr
        · exact hx0 hr
        · rw [fa_lt, nI_toInt (by omega)] at hr
          rw [fa_le] at q
          have : (255 : Int32).toInt = 255 := by decide
          omega
theorem e_wipe {c : Nat} {U : ul_S} {d : Int64} {L K N J E M : ul_S} {dm : Int64} {P B : ul_F} (h : ul_RR c U d L K N J E M dm P B) : ∃ v L' M', f_X6_wipe L = some (v, L') ∧ f_X7_wipe M = some (v, M') ∧ ul_RR c U d L' K N J E M' dm P B := by
  obtain ⟨nl, np, h1, h2, ⟨n, hn, eL, eM, eq⟩, h4, h5, h6, h7⟩ := h
  unfold f_X6_wipe f_X7_wipe f_X5_clear
  simp only [ul_bdE, Option.bind_some]
  rw [eL, eM]
  refine ⟨nI n, _, _, rfl, rfl, nl, np, ?_, ?_, ?_, ?_, ?_, ?_, h7⟩
  · exact mk_cg h1 (ul_up_i (by decide)) (ul_up_i (by decide)) (fun a ha1 ha2 => ul_up_jf (by omega))
  · rw [ul_up_jf (by decide)]
    exact h2
  · exact ⟨0, by omega, ul_up_s, ul_up_s, fun i hi => by omega⟩
  · exact pa_cg h4 (ul_up_i (by decide)) (ul_up_i (by decide)) (ul_up_jf (by decide))
  · exact pe_cg h5 (ul_up_i (by decide)) (ul_up_jf (by decide)) (ul_up_jf (by decide))
  · exact pk_cg h6 (ul_up_jf (by decide)) (ul_up_jf (by decide))
theorem e_unsee {c : Nat} {U : ul_S} {d : Int64} {L K N J E M : ul_S} {dm : Int64} {P B : ul_F} (h : ul_RR c U d L K N J E M dm P B) : ∃ v E' M', f_X6_unsee E = some (v, E') ∧ f_X7_unsee M = some (v, M') ∧ ul_RR c U d L K N J E' M' dm P B := by
  obtain ⟨nl, np, h1, h2, h3, h4, ⟨n, hn, eE, eM, eq⟩, h6, h7⟩ := h
  unfold f_X6_unsee f_X7_unsee f_X3_clear
  simp only [ul_bdE, Option.bind_some]
  rw [eE, eM]
  refine ⟨nI n, _, _, rfl, rfl, nl, np, ?_, ?_, ?_, ?_, ?_, ?_, h7⟩
  · exact mk_cg h1 (ul_up_i (by decide)) (ul_up_i (by decide)) (fun a ha1 ha2 => ul_up_jf (by omega))
  · rw [ul_up_jf (by decide)]
    exact h2
  · exact px_cg h3 (ul_up_i (by decide)) (ul_up_jf (by decide))
  · exact pa_cg h4 (ul_up_i (by decide)) (ul_up_i (by decide)) (ul_up_jf (by decide))
  · exact ⟨0, by omega, ul_up_s, ul_up_s, fun i hi => by omega⟩
  · exact pk_cg h6 (ul_up_jf (by decide)) (ul_up_jf (by decide))
theorem e_seed {c : Nat} {U : ul_S} {d : Int64} {L K N J E M : ul_S} {dm : Int64} {P B : ul_F} (h : ul_RR c U d L K N J E M dm P B) (v : Int64) : ∃ r, f_X6_seed d v = some (r, v) ∧ f_X7_seed M dm v = some (r, v) ∧ ul_RR c U v L K N J E M v P B := by
  obtain ⟨nl, np, h1, h2, h3, h4, h5, h6, h7⟩ := h
  subst h7
  exact ⟨d, rfl, rfl, nl, np, h1, h2, h3, h4, h5, h6, rfl⟩
theorem e_ladder {c : Nat} {U : ul_S} {d : Int64} {L K N J E M : ul_S} {dm : Int64} {P B : ul_F} (h : ul_RR c U d L K N J E M dm P B) (p w : Int32) : ∃ v, f_X6_ladder K N p w = some v ∧ f_X7_ladder M p w = some v := by
  obtain ⟨nl, np, h1, h2, -⟩ := h
  obtain ⟨q4, q5, hK0, hM0, -, -, hL, -⟩ := h1
  unfold f_X6_ladder f_X7_ladder
  rcases q_lad (by omega) hK0 hM0 p with ⟨j, hj, rfl, e1, e2⟩ | ⟨e1, e2⟩
  · rw [e1, e2, Option.bind_some, Option.bind_some, if_neg (show ¬ (1 : Int32) = 0 by decide), if_neg (show ¬ (1 : Int32) = 0 by decide)]
    have a4 : (4 : Int32) + nI j = nI (4 + j) := nI_add 4 j
    have a8 : (8 : Int32) + nI j = nI (8 + j) := nI_add 8 j
    rw [a4, a8]
    simp (disch := omega) only [ul_ldN]
    obtain ⟨x, -, x1, x2⟩ := h2.1.1 j hj
    obtain ⟨y1, y2, -, -⟩ := h2.2.1 j hj
    obtain ⟨z1, z2, -⟩ := hL j hj
    rw [x1, y1, y2, z1, z2]
    have x2' : M 6 j = nI x := x2
    rw [x2']
    refine ul_same ?_
    repeat' split
    all_goals exact ⟨_, rfl⟩
  · rw [e1, e2, Option.bind_some, Option.bind_some, if_pos rfl, if_pos rfl]
    exact ⟨_, rfl, rfl⟩
theorem e_at {c : Nat} {U : ul_S} {d : Int64} {L K N J E M : ul_S} {dm : Int64} {P B : ul_F} (h : ul_RR c U d L K N J E M dm P B) (p : Int32) : ∃ v, f_X6_at N p = some v ∧ f_X7_at M p = some v := by
  obtain ⟨nl, np, h1, h2, -⟩ := h
  obtain ⟨q4, q5, hK0, hM0, -⟩ := h1
  unfold f_X6_at f_X7_at
  rcases q_pl p with ⟨j, hj, rfl, e1, e2⟩ | ⟨e1, e2⟩
  · rw [e1, e2, Option.bind_some, Option.bind_some, if_neg (show ¬ (1 : Int32) = 0 by decide), if_neg (show ¬ (1 : Int32) = 0 by decide)]
    simp (disch := omega) only [ul_ldN]
    have hs := sg_self M 0
    have hat := mm_at (M := M) (lv := 0) (T := N) (g := fun i => M 6 (0 + i)) (by omega) q4 hM0 hj (by
      have e : (fun i => M 6 (0 + i)) = fun i => M 6 i := by
        funext i
        rw [Nat.zero_add]
      rw [e]
      exact h2.1)
    rw [Nat.mul_zero, hs] at hat
    have hat' : f_X7_ladderAt M 0 (nI j) = some (N 2 j) := hat
    rw [hat', Option.bind_some]
    exact ⟨_, rfl, rfl⟩
  · rw [e1, e2, Option.bind_some, Option.bind_some, if_pos rfl, if_pos rfl]
    exact ⟨_, rfl, rfl⟩
