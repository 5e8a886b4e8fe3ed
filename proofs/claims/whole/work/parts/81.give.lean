/-! luck given, a ladder moved -/
theorem cc_endow {T : ul_S} {p : Nat} {x : Int32} (hp : p < 5) : f_X4_endow T (nI p) x = some (ul_up T 6 p (sp_99 (T 6 p + x))) := by
  unfold f_X4_endow f_X4_endow_j26 sp_99
  simp (disch := omega) only [ul_ldN, ul_bdE, ul_stN]
  by_cases h : 99 ≤ T 6 p + x
  · rw [if_pos h, if_pos h]
  · rw [if_neg h, if_neg h]
theorem mm_give {M : ul_S} {g : Nat → Int32} {lv p : Nat} {x : Int32} (hv : lv ≤ 1) (hp : p < 5) : f_X7_giveOn (ul_sg M (23 * lv) g) (nI lv) (nI p) x = some (ul_sg M (23 * lv) (upd g (17 + p) (sp_99 (g (17 + p) + x)))) := by
  unfold f_X7_giveOn
  simp (disch := omega) only [ul_bdE, ix_17, ul_ldN, sg_6, sp_les, Option.bind_some, ul_stN, sg_up]
  rfl
theorem ss_luck {nl np : Nat} {K T : ul_S} {g : Nat → Int32} {mb gb e p x : Nat} (hnl : nl ≤ 4) (hnp : np ≤ 5) (h : ul_ss nl np K T g mb gb e) (hp : p < np) (hx : x ≤ 99) : ul_ss nl np K (ul_up T 6 p (nI x)) (upd g (17 + p) (nI x)) mb gb e := by
  obtain ⟨hla, hm, hw, hl, hd⟩ := h
  refine ⟨⟨?_, ?_⟩, ?_, ?_, ?_, ?_⟩
  · intro l hl2
    rw [ul_up_j (by decide), upd_n (by omega)]
    exact hla.1 l hl2
  · intro a ha
    rw [ul_up_j (by decide)]
    rcases hla.2 a ha with ⟨q1, q2⟩ | ⟨k, q1, q2, q3, q4⟩
    · exact Or.inl ⟨q1, fun k hk => by rw [upd_n (by omega)]; exact q2 k hk⟩
    · exact Or.inr ⟨k, q1, q2, by rw [upd_n (by omega)]; exact q3, fun k2 hk e => q4 k2 hk (by rw [upd_n (by omega)] at e; exact e)⟩
  · intro l hl2
    rw [ul_up_j (by decide), ul_up_j (by decide), upd_n (by omega), upd_n (by omega)]
    exact hm l hl2
  · intro q hq hne
    rw [ul_up_j (by decide), upd_n (by omega)]
    exact hw q hq hne
  · intro q hq
    by_cases hqp : q = p
    · subst hqp
      rw [ul_up_s, upd_s]
      exact ⟨rfl, x, hx, rfl⟩
    · rw [ul_up_i hqp, upd_n (by omega)]
      exact hl q hq
  · rw [ul_up_j (by decide), upd_n (by omega)]
    exact hd
theorem ss_endow {nl np : Nat} {K T : ul_S} {g : Nat → Int32} {mb gb e p n : Nat} (hnl : nl ≤ 4) (hnp : np ≤ 5) (h : ul_ss nl np K T g mb gb e) (hp : p < np) (hn : n ≤ 1000) : ul_ss nl np K (ul_up T 6 p (sp_99 (T 6 p + nI n))) (upd g (17 + p) (sp_99 (g (17 + p) + nI n))) mb gb e := by
  obtain ⟨e1, a, ha, e2⟩ := h.2.2.2.1 p hp
  rw [e1, e2, nI_add]
  obtain ⟨x, hx, ex⟩ := sp_99_b (a := a + n) (by omega)
  rw [ex]
  exact ss_luck hnl hnp h hp hx
theorem e_give {c : Nat} {U : ul_S} {d : Int64} {L K N J E M : ul_S} {dm : Int64} {P B : ul_F} (h : ul_RR c U d L K N J E M dm P B) (p n : Int32) : ∃ v N' J' B' M', f_X6_give K N J B p n = some (v, N', J', B') ∧ f_X7_give M p n = some (v, M') ∧ ul_RR c U d L K N' J' E M' dm P B' := by
  have h0 := h
  obtain ⟨nl, np, h1, h2, h3, h4, h5, h6, h7⟩ := h
  have h1' := h1
  obtain ⟨q4, q5, -, -, hK1, hM1, -⟩ := h1'
  unfold f_X6_give f_X7_give
  rcases q_per (by omega) hK1 hM1 p with ⟨j, hj, rfl, e1, e2⟩ | ⟨e1, e2⟩
  · rw [e1, e2, Option.bind_some, Option.bind_some, if_neg (show ¬ (1 : Int32) = 0 by decide), if_neg (show ¬ (1 : Int32) = 0 by decide)]
    rcases mi_nm (p := n) (a := 1) (b := 9) (y := 1) (z := 9) (by decide) (by decide) (by decide) (by decide) with ⟨k, hk1, hk, ex, e⟩ | ⟨hr, e⟩
    · have hx0 : ¬ n < 1 := by rw [ex]; exact nI_nlt (a := k) (b := 1) (by omega) (by omega)
      have hx1 : n ≤ 9 := by rw [ex]; exact nI_le (a := k) (b := 9) hk (by omega)
      obtain ⟨J', B', M', r1, r2, r3, r4, r5, r6, r7, r8⟩ := a_act h1 h2 h3 h4 h5 h6
      have h2' : ul_ss nl np K N (fun i => M' 6 i) 4 (1000 * c) np := by rw [r3]; exact h2
      have hg := mm_give (M := M') (g := fun i => M' 6 i) (lv := 0) (p := j) (x := n) (by omega) (by omega)
      rw [sg_now] at hg
      have hg' : f_X7_giveOn M' 0 (nI j) n = some (ul_sg M' 0 (upd (fun i => M' 6 i) (17 + j) (sp_99 (M' 6 (17 + j) + n)))) := hg
      have a17 : (17 : Int32) + nI j = nI (17 + j) := nI_add 17 j
      have hss := ss_endow (n := k) q4 q5 h2' hj (by omega)
      rw [← ex] at hss
      rw [if_neg hx0, if_pos hx1, e, Option.bind_some, if_neg (show ¬ (1 : Int32) = 0 by decide), r1, r2, Option.bind_some, Option.bind_some, hg', cc_endow (by omega), Option.bind_some, Option.bind_some, a17]
      simp (disch := omega) only [ul_ldN]
      have e3 := (hss.2.2.2.1 j hj).1
      have e4 : ul_sg M' 0 (upd (fun i => M' 6 i) (17 + j) (sp_99 (M' 6 (17 + j) + n))) 6 (17 + j) = upd (fun i => M' 6 i) (17 + j) (sp_99 (M' 6 (17 + j) + n)) (17 + j) := by
        have := sg_6 (M := M') (b := 0) (i := 17 + j) (g := upd (fun i => M' 6 i) (17 + j) (sp_99 (M' 6 (17 + j) + n))) (by omega)
        rw [Nat.zero_add] at this
        exact this
      rw [e4, e3]
      exact ⟨_, _, _, _, _, rfl, rfl, rr_nw r4 hss r5 r6 r7 r8 h7⟩
    · rw [e, Option.bind_some, if_pos (show (0 : Int32) = 0 from rfl)]
      by_cases hx0 : n < 1
      · rw [if_pos hx0]
        exact ⟨_, _, _, _, _, rfl, rfl, h0⟩
      · rw [if_neg hx0, if_neg ?_]
        · exact ⟨_, _, _, _, _, rfl, rfl, h0⟩
        · intro q
          rcases hr with hr | hr
          · exact hx0 hr
          · rw [fa_lt, nI_toInt (by omega)] at hr
            rw [fa_le] at q
            have : (9 : Int32).toInt = 9 := by decide
            omega
  · rw [e1, e2, Option.bind_some, Option.bind_some, if_pos rfl, if_pos rfl]
    exact ⟨_, _, _, _, _, rfl, rfl, h0⟩
/-- a ladder put at a place that is free or its own -/
theorem cc_put {T : ul_S} {l x a : Nat} (hl : l < 4) (hx : x < 10) (ha : a < 10) (e : T 1 l = nI x) : f_X4_put T (nI l) (nI a) = some (ul_up (ul_up (ul_up T 2 x (-9)) 1 l (nI a)) 2 a (nI l)) := by
  unfold f_X4_put
  simp (disch := omega) only [ul_ldN, e, cp_mark, Option.bind_some, ul_stN]
theorem ss_put {nl np : Nat} {K T : ul_S} {g : Nat → Int32} {mb gb e l x a : Nat} (hnl : nl ≤ 4) (hnp : np ≤ 5) (h : ul_ss nl np K T g mb gb e) (hl : l < nl) (hx : x < 10) (ex : g l = nI x) (ha : a < 10) (hf : ∀ k, k < nl → g k = nI a → k = l) : ul_ss nl np K (ul_up (ul_up (ul_up T 2 x (-9)) 1 l (nI a)) 2 a (nI l)) (upd g l (nI a)) mb gb e := by
  obtain ⟨hla, hm, hw, hk, hd⟩ := h
  refine ⟨⟨?_, ?_⟩, ?_, ?_, ?_, ?_⟩
  · intro k hk2
    rw [ul_up_j (by decide)]
    by_cases hkl : k = l
    · subst hkl
      rw [ul_up_s, upd_s]
      exact ⟨a, ha, rfl, rfl⟩
    · rw [ul_up_i hkl, ul_up_j (by decide), upd_n hkl]
      exact hla.1 k hk2
  · intro b hb
    by_cases hba : b = a
    · subst hba
      rw [ul_up_s]
      refine Or.inr ⟨l, hl, rfl, upd_s, ?_⟩
      intro k hk2 hk3
      by_cases hkl : k = l
      · exact hkl
      · rw [upd_n hkl] at hk3
        exact hf k hk2 hk3
    · rw [ul_up_i hba, ul_up_j (by decide)]
      by_cases hbx : b = x
      · subst hbx
        rw [ul_up_s]
        refine Or.inl ⟨rfl, ?_⟩
        intro k hk2 hk3
        by_cases hkl : k = l
        · subst hkl
          rw [upd_s] at hk3
          exact hba (nI_inj (by omega) (by omega) hk3).symm
        · rw [upd_n hkl] at hk3
          rcases hla.2 b hb with ⟨-, q2⟩ | ⟨k2, -, -, -, q4⟩
          · exact q2 k hk2 hk3
          · exact hkl ((q4 k hk2 hk3).trans (q4 l hl ex).symm)
      · rw [ul_up_i hbx]
        rcases hla.2 b hb with ⟨q1, q2⟩ | ⟨k, q1, q2, q3, q4⟩
        · refine Or.inl ⟨q1, ?_⟩
          intro k hk2 hk3
          by_cases hkl : k = l
          · subst hkl
            rw [upd_s] at hk3
            exact hba (nI_inj (by omega) (by omega) hk3).symm
          · rw [upd_n hkl] at hk3
            exact q2 k hk2 hk3
        · have hkl : k ≠ l := by
            intro q
            subst q
            rw [ex] at q3
            exact hbx (nI_inj (by omega) (by omega) q3).symm
          refine Or.inr ⟨k, q1, q2, by rw [upd_n hkl]; exact q3, ?_⟩
          intro k2 hk2 hk3
          by_cases hk2l : k2 = l
          · subst hk2l
            rw [upd_s] at hk3
            exact absurd (nI_inj (by omega) (by omega) hk3).symm hba
          · rw [upd_n hk2l] at hk3
            exact q4 k2 hk2 hk3
  · intro k hk2
    rw [ul_up_j (by decide), ul_up_j (by decide), ul_up_j (by decide), ul_up_j (by decide), ul_up_j (by decide), ul_up_j (by decide), upd_n (by omega), upd_n (by omega)]
    exact hm k hk2
  · intro q hq hne
    rw [ul_up_j (by decide), ul_up_j (by decide), ul_up_j (by decide), upd_n (by omega)]
    exact hw q hq hne
  · intro q hq
    rw [ul_up_j (by decide), ul_up_j (by decide), ul_up_j (by decide), upd_n (by omega)]
    exact hk q hq
  · rw [ul_up_j (by decide), ul_up_j (by decide), ul_up_j (by decide), upd_n (by omega)]
    exact hd
