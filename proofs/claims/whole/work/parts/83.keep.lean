/-! keep, again, see, lost -/
theorem mm_out {M : ul_S} {R base : Nat} {b : (Int32 × ul_S) → Option ((Int32 × ul_S) ⊕ (Int32 × ul_S))} (hR : R ≠ 6)
    (hb : ∀ (k : Nat) (s : ul_S), k ≤ 23 → (∀ j, j ≠ R → s j = M j) → b (nI k, s) = if k = 23 then some (.inl (nI k, s)) else some (.inr (nI (k + 1), ul_up s R (base + k) (M 6 k)))) : ∃ r, ul_it ul_N b ((0 : Int32), M) = some r ∧ (∀ j, j ≠ R → r.2 j = M j) ∧ (∀ i, i < 23 → r.2 R (base + i) = M 6 i) ∧ ∀ i, (i < base ∨ base + 23 ≤ i) → r.2 R i = M R i := by
  have key := ul_run (b := b) (fun k s => k ≤ 23 ∧ s.1 = nI (23 - k) ∧ (∀ j, j ≠ R → s.2 j = M j) ∧ (∀ i, i < 23 - k → s.2 R (base + i) = M 6 i) ∧ ∀ i, (i < base ∨ base + 23 ≤ i) → s.2 R i = M R i) (fun r => (∀ j, j ≠ R → r.2 j = M j) ∧ (∀ i, i < 23 → r.2 R (base + i) = M 6 i) ∧ ∀ i, (i < base ∨ base + 23 ≤ i) → r.2 R i = M R i)
    (by
      rintro ⟨s1, s2⟩ ⟨-, h1, h2, h3, h4⟩
      dsimp only at h1 h2 h3 h4
      refine ⟨(s1, s2), ?_, h2, h3, h4⟩
      rw [h1, hb 23 s2 (by omega) h2, if_pos rfl])
    (by
      rintro i ⟨s1, s2⟩ ⟨hi, h1, h2, h3, h4⟩
      dsimp only at h1 h2 h3 h4
      left
      obtain ⟨k, ek⟩ : ∃ k, k = 23 - (i + 1) := ⟨_, rfl⟩
      have ek1 : 23 - i = k + 1 := by omega
      rw [← ek] at h1 h3
      refine ⟨(nI (k + 1), ul_up s2 R (base + k) (M 6 k)), ?_, ?_⟩
      · rw [h1, hb k s2 (by omega) h2, if_neg (by omega)]
      · dsimp only
        rw [ek1]
        refine ⟨by omega, rfl, ?_, ?_, ?_⟩
        · intro j hj
          rw [ul_up_jf hj]
          exact h2 j hj
        · intro q hq
          by_cases hqk : q = k
          · subst hqk
            rw [ul_up_s]
          · rw [ul_up_i (by omega)]
            exact h3 q (by omega)
        · intro q hq
          rw [ul_up_i (by omega)]
          exact h4 q hq)
    ul_N 23 ((0 : Int32), M) ⟨Nat.le_refl _, rfl, fun _ _ => rfl, fun i hi => by omega, fun _ _ => rfl⟩ (by rw [ul_N_v]; omega)
  exact key
theorem nar1 : vp_nar .boolean (1 : Int32) = 1 := by decide
theorem nar0 : vp_nar .boolean (0 : Int32) = 0 := by decide
theorem e_keep {c : Nat} {U : ul_S} {d : Int64} {L K N J E M : ul_S} {dm : Int64} {P B : ul_F} (h : ul_RR c U d L K N J E M dm P B) (p : Int32) : ∃ v U' P' M', f_X6_keep U N P p = some (v, U', P') ∧ f_X7_keep M p = some (v, M') ∧ ul_RR c U' d L K N J E M' dm P' B := by
  have h0 := h
  obtain ⟨nl, np, h1, h2, h3, h4, h5, h6, h7⟩ := h
  unfold f_X6_keep f_X7_keep
  rcases q_sl p with ⟨s, hs, rfl, e1, e2⟩ | ⟨e1, e2⟩
  · rw [e1, e2, Option.bind_some, Option.bind_some, if_neg (show ¬ (1 : Int32) = 0 by decide), if_neg (show ¬ (1 : Int32) = 0 by decide)]
    obtain ⟨T', f1, f2⟩ := st_set (P s) N
    rw [ul_ckN hs (by decide), f1, Option.bind_some, ul_bdE, nar1]
    simp (disch := omega) only [ul_stN]
    obtain ⟨M1, eM1⟩ : ∃ M1, M1 = ul_up M 13 s 1 := ⟨_, rfl⟩
    rw [← eM1]
    have hrow : ∀ j, j ≠ 13 → M1 j = M j := fun j hj => by rw [eM1, ul_up_jf hj]
    obtain ⟨⟨r1, r2⟩, hr, g1, g2, g3⟩ := mm_out (M := M1) (R := 14) (base := 23 * s) (b := f_X7_keep_L21 (nI s)) (by decide) (by
      intro k t hk ht
      unfold f_X7_keep_L21
      dsimp only
      by_cases hk23 : k = 23
      · subst hk23
        rw [if_pos (by decide), if_pos rfl]
      · have hk2 : ¬ (23 : Int32) ≤ nI k := nI_ge (a := k) (b := 23) (by omega) (by omega)
        rw [if_neg hk2, if_neg hk23, ht 6 (by decide), ix_0']
        simp (disch := omega) only [ul_ldN, ul_stN, ul_bdE, nI_1])
    dsimp only at g1 g2 g3
    rw [hr, Option.bind_some]
    unfold f_X7_keep_j50
    dsimp only
    have a22 : (22 : Int32) = nI 22 := rfl
    rw [a22]
    simp (disch := omega) only [ul_ldN]
    have hall : ∀ j, j ≠ 13 → j ≠ 14 → r2 j = M j := fun j hj hj2 => by rw [g1 j hj2, hrow j hj]
    have ed : N 0 0 = M 6 22 := h2.2.2.2.2
    rw [hall 6 (by decide) (by decide), ed]
    refine ⟨_, _, _, _, rfl, rfl, nl, np, ?_, ?_, ?_, ?_, ?_, ?_, h7⟩
    · exact mk_cg h1 (by rw [hall 0 (by decide) (by decide)]) (by rw [hall 0 (by decide) (by decide)]) (fun j ha hb => hall j (by omega) (by omega))
    · rw [hall 6 (by decide) (by decide)]
      exact h2
    · exact px_cg h3 (by rw [hall 0 (by decide) (by decide)]) (hall 9 (by decide) (by decide))
    · exact pa_cg h4 (by rw [hall 0 (by decide) (by decide)]) (by rw [hall 0 (by decide) (by decide)]) (hall 10 (by decide) (by decide))
    · exact pe_cg h5 (by rw [hall 0 (by decide) (by decide)]) (hall 11 (by decide) (by decide)) (hall 12 (by decide) (by decide))
    · intro t ht
      have e13 : r2 13 t = M1 13 t := by rw [g1 13 (by decide)]
      rw [e13, eM1]
      by_cases hts : t = s
      · subst hts
        rw [ul_up_s, ul_up_s, va_up_self]
        refine ⟨rfl, Or.inr ⟨rfl, ?_⟩⟩
        refine ss_gcg h1.1 h1.2.1 (ss_eqs h1.1 h1.2.1 h2 f2) (fun i hi => ?_)
        rw [g2 i hi, hrow 6 (by decide)]
      · rw [ul_up_i hts, ul_up_i hts, va_up_ne P T' hts]
        obtain ⟨k1, k2⟩ := h6 t ht
        refine ⟨k1, ?_⟩
        rcases k2 with k2 | ⟨k2, k3⟩
        · exact Or.inl k2
        · refine Or.inr ⟨k2, ss_gcg h1.1 h1.2.1 k3 (fun i hi => ?_)⟩
          rw [g3 _ (by omega), hrow 14 (by decide)]
  · rw [e1, e2, Option.bind_some, Option.bind_some, if_pos rfl, if_pos rfl]
    exact ⟨_, _, _, _, rfl, rfl, h0⟩
theorem e_again {c : Nat} {U : ul_S} {d : Int64} {L K N J E M : ul_S} {dm : Int64} {P B : ul_F} (h : ul_RR c U d L K N J E M dm P B) (p : Int32) : ∃ v N' J' M', f_X6_again U N J P p = some (v, N', J') ∧ f_X7_again M p = some (v, M') ∧ ul_RR c U d L K N' J' E M' dm P B := by
  have h0 := h
  obtain ⟨nl, np, h1, h2, h3, h4, h5, h6, h7⟩ := h
  unfold f_X6_again f_X7_again
  rcases q_sl p with ⟨s, hs, rfl, e1, e2⟩ | ⟨e1, e2⟩
  · rw [e1, e2, Option.bind_some, Option.bind_some, if_neg (show ¬ (1 : Int32) = 0 by decide), if_neg (show ¬ (1 : Int32) = 0 by decide)]
    simp (disch := omega) only [ul_ldN]
    obtain ⟨k1, k2⟩ := h6 s hs
    rw [← k1]
    rcases k2 with k2 | ⟨k2, k3⟩
    · rw [if_pos k2, if_pos k2]
      exact ⟨_, _, _, _, rfl, rfl, h0⟩
    · have kn : ¬ U 2 s = 0 := by rw [k2]; decide
      rw [if_neg kn, if_neg kn]
      obtain ⟨T', f1, f2⟩ := st_set N (P s)
      rw [ul_ckN hs (by decide), f1, Option.bind_some]
      unfold f_X0_clear
      rw [ul_bdE, Option.bind_some]
      obtain ⟨r, r1, r2⟩ := mm_in (M := M) (R := 14) (base := 23 * s) (n := 0) (b := f_X7_again_L26 (nI s)) (by decide) (by
        intro k t hk ht
        unfold f_X7_again_L26
        dsimp only
        by_cases hk23 : k = 23
        · subst hk23
          rw [if_pos (by decide), if_pos rfl]
        · have hk2 : ¬ (23 : Int32) ≤ nI k := nI_ge (a := k) (b := 23) (by omega) (by omega)
          rw [if_neg hk2, if_neg hk23, ix_0', ht 14 (by decide)]
          simp (disch := omega) only [ul_ldN, ul_stN, ul_bdE, nI_1])
      rw [r1, Option.bind_some]
      unfold f_X7_again_j55
      have a22 : (22 : Int32) = nI 22 := rfl
      rw [r2, ul_bdE, a22]
      simp (disch := omega) only [ul_ldN]
      have hsw : ul_up (ul_sg M 0 (fun i => M 14 (23 * s + i))) 0 8 0 = ul_sg (ul_up M 0 8 0) 0 (fun i => M 14 (23 * s + i)) := by
        funext a b
        rw [ul_upE]
        unfold ul_sg
        by_cases q1 : a = 0 ∧ b = 8
        · rw [if_pos q1, if_neg (by omega), q1.1, q1.2, ul_up_s]
        · rw [if_neg q1]
          by_cases q2 : a = 6 ∧ 0 ≤ b ∧ b < 0 + 23
          · rw [if_pos q2, if_pos q2]
          · rw [if_neg q2, if_neg q2, ul_upE, if_neg q1]
      rw [hsw]
      have ss2 := ss_eqs h1.1 h1.2.1 k3 f2
      have ed : T' 0 0 = M 14 (23 * s + 22) := ss2.2.2.2.2
      have e22 : ul_sg (ul_up M 0 8 0) 0 (fun i => M 14 (23 * s + i)) 6 22 = M 14 (23 * s + 22) := by
        have := sg_6 (M := ul_up M 0 8 0) (b := 0) (i := 22) (g := fun i => M 14 (23 * s + i)) (by omega)
        rw [Nat.zero_add] at this
        exact this
      rw [e22, ed]
      refine ⟨_, _, _, _, rfl, rfl, ?_⟩
      refine rr_nw (mk_cg h1 (ul_up_i (by decide)) (ul_up_i (by decide)) (fun j ha hb => ul_up_jf (by omega))) ss2 ?_ ?_ ?_ ?_ h7
      · exact px_cg h3 (ul_up_i (by decide)) (ul_up_jf (by decide))
      · obtain ⟨nx, sz, a1, a2, a3, a4, a5, a6, a7⟩ := h4
        refine ⟨nx, 0, a1, by omega, ?_, ?_, ul_up_s, ul_up_s, fun k hk => by omega⟩
        · rw [ul_up_i (by decide)]
          exact a3
        · rw [ul_up_i (by decide)]
          exact a4
      · exact pe_cg h5 (ul_up_i (by decide)) (ul_up_jf (by decide)) (ul_up_jf (by decide))
      · exact pk_cg h6 (ul_up_jf (by decide)) (ul_up_jf (by decide))
  · rw [e1, e2, Option.bind_some, Option.bind_some, if_pos rfl, if_pos rfl]
    exact ⟨_, _, _, _, rfl, rfl, h0⟩
theorem e_see {c : Nat} {U : ul_S} {d : Int64} {L K N J E M : ul_S} {dm : Int64} {P B : ul_F} (h : ul_RR c U d L K N J E M dm P B) (x y : Int32) : ∃ v E' M', f_X6_see E x y = some (v, E') ∧ f_X7_see M x y = some (v, M') ∧ ul_RR c U d L K N J E' M' dm P B := by
  have h0 := h
  obtain ⟨nl, np, h1, h2, h3, h4, ⟨n, hn, eE, eM, eq⟩, h6, h7⟩ := h
  unfold f_X6_see f_X7_see
  rcases mi_nm (p := x) (a := 0) (b := 20) (y := 0) (z := 20) (by decide) (by decide) (by decide) (by decide) with ⟨j, -, hj, ex, e⟩ | ⟨hr, e⟩
  · have hx0 : ¬ x < 0 := by rw [ex]; exact nI_pos (by omega)
    have hx1 : ¬ 20 < x := by rw [ex]; exact nI_nlt (a := 20) (b := j) hj (by omega)
    rw [e, Option.bind_some, if_neg (show ¬ (1 : Int32) = 0 by decide), if_neg hx0, if_neg hx1]
    rcases mi_nm (p := y) (a := 0) (b := j) (y := 0) (z := x.toInt64) (by decide) (by rw [ex]) (by decide) (by omega) with ⟨k, -, hk, ey, e'⟩ | ⟨hr, e'⟩
    · have hy0 : ¬ y < 0 := by rw [ey]; exact nI_pos (by omega)
      have hy1 : y ≤ x := by rw [ey, ex]; exact nI_le hk (by omega)
      rw [e', Option.bind_some, if_neg (show ¬ (1 : Int32) = 0 by decide), if_neg hy0, if_pos hy1]
      unfold f_X3_add
      by_cases h48 : n = 6
      · have c1 : ¬ E 0 0 < 6 := by rw [eE, h48]; decide
        have c2 : M 0 10 = 6 := by rw [eM, h48]; rfl
        rw [if_neg c1, if_pos c2]
        exact ⟨-4, E, M, rfl, rfl, h0⟩
      · have c1 : E 0 0 < 6 := by rw [eE]; exact nI_lt (a := n) (b := 6) (by omega) (by omega)
        have c2 : ¬ M 0 10 = 6 := by
          rw [eM]
          exact nI_ne (a := n) (b := 6) (by omega) (by omega) h48
        rw [if_pos c1, if_neg c2, eE, eM]
        simp (disch := omega) only [ul_stN, ul_bdE, Option.bind_some]
        rw [ul_up_j (M := E) (show (0 : Nat) ≠ 1 by decide), ul_up_j (M := M) (show (0 : Nat) ≠ 11 by decide), eE, eM]
        simp (disch := omega) only [ul_stN, ul_bdE, Option.bind_some]
        rw [ul_up_j (j := 2) (j' := 0) (by decide), ul_up_j (M := E) (j := 1) (j' := 0) (by decide), ul_up_j (j := 12) (j' := 0) (by decide), ul_up_j (M := M) (j := 11) (j' := 0) (by decide), eE, eM, nI_1, ul_up_s, ul_up_s]
        refine ⟨nI (n + 1), _, _, rfl, rfl, nl, np, ?_, ?_, ?_, ?_, ?_, ?_, h7⟩
        · refine mk_cg h1 ?_ ?_ ?_
          · rw [ul_up_i (by decide), ul_up_j (by decide), ul_up_j (by decide)]
          · rw [ul_up_i (by decide), ul_up_j (by decide), ul_up_j (by decide)]
          · intro a ha1 ha2
            rw [ul_up_jf (by omega), ul_up_jf (by omega), ul_up_jf (by omega)]
        · rw [ul_up_jf (by decide), ul_up_jf (by decide), ul_up_jf (by decide)]
          exact h2
        · refine px_cg h3 ?_ ?_
          · rw [ul_up_i (by decide), ul_up_j (by decide), ul_up_j (by decide)]
          · rw [ul_up_jf (by decide), ul_up_jf (by decide), ul_up_jf (by decide)]
        · refine pa_cg h4 ?_ ?_ ?_
          · rw [ul_up_i (by decide), ul_up_j (by decide), ul_up_j (by decide)]
          · rw [ul_up_i (by decide), ul_up_j (by decide), ul_up_j (by decide)]
          · rw [ul_up_jf (by decide), ul_up_jf (by decide), ul_up_jf (by decide)]
        · refine ⟨n + 1, by omega, by rw [ul_up_s], by rw [ul_up_s], ?_⟩
          intro i hi
          simp only [ul_upE]
          by_cases hin : i = n
          · subst hin
            simp
          · have := eq i (by omega)
            simp [hin, this]
        · refine pk_cg h6 ?_ ?_
          · rw [ul_up_jf (by decide), ul_up_jf (by decide), ul_up_jf (by decide)]
          · rw [ul_up_jf (by decide), ul_up_jf (by decide), ul_up_jf (by decide)]
    · rw [e', Option.bind_some, if_pos (show (0 : Int32) = 0 from rfl)]
      by_cases hy0 : y < 0
      · rw [if_pos hy0]
        exact ⟨-2, E, M, rfl, rfl, h0⟩
      · rw [if_neg hy0, if_neg ?_]
        · exact ⟨-2, E, M, rfl, rfl, h0⟩
        · intro q
          rcases hr with hr | hr
          · exact hy0 hr
          · rw [ex, fa_le] at q
            rw [fa_lt] at hr
            omega
  · rw [e, Option.bind_some, if_pos (show (0 : Int32) = 0 from rfl)]
    by_cases hx0 : x < 0
    · rw [if_pos hx0]
      exact ⟨-2, E, M, rfl, rfl, h0⟩
    · rw [if_neg hx0, if_pos ?_]
      · exact ⟨-2, E, M, rfl, rfl, h0⟩
      · rcases hr with hr | hr
        · exact absurd hr hx0
        · exact hr
