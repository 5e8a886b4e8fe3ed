/-! day, move, down, give -/
theorem rr_nw {c nl np : Nat} {U : ul_S} {d : Int64} {L K N J E M : ul_S} {dm : Int64} {P B : ul_F} {g : Nat → Int32} (h1 : ul_mk nl np K M) (h2 : ul_ss nl np K N g 4 (1000 * c) np) (h3 : ul_px L M) (h4 : ul_pa c nl np K J B M) (h5 : ul_pe E M) (h6 : ul_pk c nl np K U P M) (h7 : d = dm) : ul_RR c U d L K N J E (ul_sg M 0 g) dm P B := by
  refine ⟨nl, np, mk_sg h1, ss_gcg h1.1 h1.2.1 h2 (fun i hi => ?_), ?_, ?_, ?_, ?_, h7⟩
  · have := sg_6 (M := M) (b := 0) (g := g) hi
    rw [Nat.zero_add] at this
    exact this
  · exact px_cg h3 (by rw [sg_n (by decide)]) (by rw [sg_n (by decide)])
  · exact pa_cg h4 (by rw [sg_n (by decide)]) (by rw [sg_n (by decide)]) (by rw [sg_n (by decide)])
  · exact pe_cg h5 (by rw [sg_n (by decide)]) (by rw [sg_n (by decide)]) (by rw [sg_n (by decide)])
  · exact pk_cg h6 (by rw [sg_n (by decide)]) (by rw [sg_n (by decide)])
theorem sg_now (M : ul_S) : ul_sg M (23 * 0) (fun i => M 6 i) = M := by
  have := sg_self M 0
  have e : (fun i => M 6 (0 + i)) = fun i => M 6 i := by
    funext i
    rw [Nat.zero_add]
  rw [e] at this
  exact this
/-- before an act -/
theorem a_act {c nl np : Nat} {U : ul_S} {L K N J E M : ul_S} {P B : ul_F} (h1 : ul_mk nl np K M) (h2 : ul_ss nl np K N (fun i => M 6 i) 4 (1000 * c) np) (h3 : ul_px L M) (h4 : ul_pa c nl np K J B M) (h5 : ul_pe E M) (h6 : ul_pk c nl np K U P M) : ∃ J' B' M', f_X0_remember J N B = some (J', B') ∧ f_X7_keepAct M = some M' ∧ M' 6 = M 6 ∧ ul_mk nl np K M' ∧ ul_px L M' ∧ ul_pa c nl np K J' B' M' ∧ ul_pe E M' ∧ ul_pk c nl np K U P M' := by
  obtain ⟨nx, sz, a1, a2, a3, a4, a5, a6, a7⟩ := h4
  obtain ⟨M', m1, m2, m3, m4, m5, m6, m7⟩ := mm_keep a1 a2 a4 a6
  obtain ⟨J', B', j1, j2, j3, j4, j5⟩ := cc_rem (O := N) (B := B) a1 a2 a3 a5
  refine ⟨J', B', M', j1, m1, m2 6 (by decide) (by decide), ?_, ?_, ?_, ?_, ?_⟩
  · exact mk_cg h1 (m3 0 (by decide) (by decide)) (m3 1 (by decide) (by decide)) (fun j ha hb => m2 j (by omega) (by omega))
  · exact px_cg h3 (m3 5 (by decide) (by decide)) (m2 9 (by decide) (by decide))
  · refine ⟨(nx + 1) % 14, if sz < 14 then sz + 1 else 14, by omega, by split <;> omega, j2, m4, j3, m5, ?_⟩
    intro k hk
    have hk14 : k < 14 := by
      split at hk <;> omega
    by_cases hk0 : k = 0
    · subst hk0
      have e : ((nx + 1) % 14 + 13 - 0) % 14 = nx := by omega
      rw [e]
      exact ss_gcg h1.1 h1.2.1 (ss_eqs h1.1 h1.2.1 h2 j4) (fun i hi => m6 i hi)
    · have e : ((nx + 1) % 14 + 13 - k) % 14 = (nx + 13 - (k - 1)) % 14 := by omega
      rw [e]
      have hne : (nx + 13 - (k - 1)) % 14 ≠ nx := by omega
      rw [j5 _ hne]
      refine ss_gcg h1.1 h1.2.1 (a7 (k - 1) (by split at hk <;> omega)) (fun i hi => ?_)
      refine m7 _ ?_
      have hlt : (nx + 13 - (k - 1)) % 14 < 14 := Nat.mod_lt _ (by decide)
      rcases Nat.lt_or_gt_of_ne hne with q | q
      · left
        have : 23 * ((nx + 13 - (k - 1)) % 14) + 23 ≤ 23 * nx := by omega
        omega
      · right
        have : 23 * nx + 23 ≤ 23 * ((nx + 13 - (k - 1)) % 14) := by omega
        omega
  · exact pe_cg h5 (m3 10 (by decide) (by decide)) (m2 11 (by decide) (by decide)) (m2 12 (by decide) (by decide))
  · exact pk_cg h6 (m2 13 (by decide) (by decide)) (m2 14 (by decide) (by decide))
theorem e_day {c : Nat} {U : ul_S} {d : Int64} {L K N J E M : ul_S} {dm : Int64} {P B : ul_F} (hc : c ≤ 600) (h : ul_RR c U d L K N J E M dm P B) : ∃ v N' J' B' M', f_X6_day K N J B = some (v, N', J', B') ∧ f_X7_day M = some (v, M') ∧ ul_RR (c + 1) U d L K N' J' E M' dm P B' := by
  obtain ⟨nl, np, h1, h2, h3, h4, h5, h6, h7⟩ := h
  obtain ⟨J', B', M', r1, r2, r3, r4, r5, r6, r7, r8⟩ := a_act h1 h2 h3 h4 h5 h6
  have h2' : ul_ss nl np K N (fun i => M' 6 i) 4 (1000 * c) np := by rw [r3]; exact h2
  have hnp : np ≤ 5 := h1.2.1
  obtain ⟨got, N', g', e1, e2, e3⟩ := sw_day (M := M') (lv := 0) (go := 31) (st := 0) (by omega) r4 h2' (by omega) (fun p hp => ul_bt31 p (by omega))
  rw [sg_now] at e2
  have e2' : f_X7_passOn M' 0 0 = some (got, ul_sg M' 0 g') := e2
  refine ⟨got, N', J', B', ul_sg M' 0 g', ?_, ?_, ?_⟩
  · unfold f_X6_day
    rw [r1, Option.bind_some, e1, Option.bind_some]
  · unfold f_X7_day
    rw [r2, Option.bind_some, e2', Option.bind_some]
  · exact rr_nw r4 (ss_mono e3 (Nat.le_refl _) (by omega)) r5 (pa_mono r6 (by omega)) r7 (pk_mono r8 (by omega)) h7
/-- a man is changed: cells 4 + l and 8 + l -/
theorem ss_man {nl np : Nat} {K T : ul_S} {g : Nat → Int32} {mb gb l : Nat} (hnl : nl ≤ 4) (hnp : np ≤ 5) (h : ul_ss nl np K T g mb gb np) (hl : l < nl) : ul_ss nl np K (ul_up (ul_up T 3 l 0) 4 l 0) (upd (upd g (4 + l) 0) (8 + l) 0) mb gb np := by
  have h1 := ss_gold (gb' := 0) (v := 0) (x := 0) (y := 0) hnl hnp h hl (by omega) (by omega)
  have e1 : ul_up (ul_up T 4 l (nI 0)) 3 l (nI 0) = ul_up (ul_up T 3 l 0) 4 l 0 := by
    funext a b
    simp only [ul_upE]
    by_cases q1 : a = 3 ∧ b = l
    · simp [q1]
      rfl
    · by_cases q2 : a = 4 ∧ b = l
      · simp [q2]
        rfl
      · simp [q1, q2]
  have e2 : upd (upd g (8 + l) (nI 0)) (4 + l) (nI 0) = upd (upd g (4 + l) 0) (8 + l) 0 := by
    funext i
    unfold upd
    by_cases q1 : i = 4 + l
    · rw [if_pos q1, if_neg (by omega), if_pos q1]
      rfl
    · rw [if_neg q1]
      by_cases q2 : i = 8 + l
      · rw [if_pos q2, if_pos q2]
        rfl
      · rw [if_neg q2, if_neg q2, if_neg q1]
  rw [e1, e2] at h1
  exact h1
theorem mm_down {M : ul_S} {g : Nat → Int32} {lv l : Nat} (hv : lv ≤ 1) (hl : l < 4) : f_X7_comeDown (ul_sg M (23 * lv) g) (nI lv) (nI l) = some (ul_sg M (23 * lv) (upd (upd g (4 + l) 0) (8 + l) 0)) := by
  unfold f_X7_comeDown
  simp (disch := omega) only [ix_4, ix_8, ul_stN, sg_up]
theorem cc_down {T : ul_S} {l : Nat} (hl : l < 4) : f_X4_changeMan T (nI l) = some (ul_up (ul_up T 3 l 0) 4 l 0) := by
  unfold f_X4_changeMan
  simp (disch := omega) only [ul_stN]
theorem e_down {c : Nat} {U : ul_S} {d : Int64} {L K N J E M : ul_S} {dm : Int64} {P B : ul_F} (h : ul_RR c U d L K N J E M dm P B) (p : Int32) : ∃ v N' J' B' M', f_X6_down K N J B p = some (v, N', J', B') ∧ f_X7_down M p = some (v, M') ∧ ul_RR c U d L K N' J' E M' dm P B' := by
  have h0 := h
  obtain ⟨nl, np, h1, h2, h3, h4, h5, h6, h7⟩ := h
  have h1' := h1
  obtain ⟨q4, q5, hK0, hM0, -⟩ := h1'
  unfold f_X6_down f_X7_down
  rcases q_lad (by omega) hK0 hM0 p with ⟨j, hj, rfl, e1, e2⟩ | ⟨e1, e2⟩
  · rw [e1, e2, Option.bind_some, Option.bind_some, if_neg (show ¬ (1 : Int32) = 0 by decide), if_neg (show ¬ (1 : Int32) = 0 by decide)]
    obtain ⟨J', B', M', r1, r2, r3, r4, r5, r6, r7, r8⟩ := a_act h1 h2 h3 h4 h5 h6
    have h2' : ul_ss nl np K N (fun i => M' 6 i) 4 (1000 * c) np := by rw [r3]; exact h2
    have hd := mm_down (M := M') (g := fun i => M' 6 i) (lv := 0) (l := j) (by omega) (by omega)
    rw [sg_now] at hd
    have hd' : f_X7_comeDown M' 0 (nI j) = some (ul_sg M' 0 (upd (upd (fun i => M' 6 i) (4 + j) 0) (8 + j) 0)) := hd
    have a8 : (8 : Int32) + nI j = nI (8 + j) := nI_add 8 j
    rw [r1, r2, Option.bind_some, Option.bind_some, a8]
    simp (disch := omega) only [ul_ldN]
    rw [hd', cc_down (by omega), Option.bind_some, Option.bind_some]
    have ey : N 4 j = M' 6 (8 + j) := (h2'.2.1 j hj).2.1
    rw [ey]
    exact ⟨_, _, _, _, _, rfl, rfl, rr_nw r4 (ss_man q4 q5 h2' hj) r5 r6 r7 r8 h7⟩
  · rw [e1, e2, Option.bind_some, Option.bind_some, if_pos rfl, if_pos rfl]
    exact ⟨_, _, _, _, _, rfl, rfl, h0⟩
