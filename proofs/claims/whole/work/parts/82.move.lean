/-! move, undo, keep, again, see, lost -/
theorem mm_at0 {nl a : Nat} {M T : ul_S} (hnl : nl ≤ 4) (hM : M 0 0 = nI nl) (ha : a < 10) (h : ul_la nl T (fun i => M 6 i)) : f_X7_ladderAt M 0 (nI a) = some (T 2 a) := by
  have hat := mm_at (M := M) (lv := 0) (T := T) (g := fun i => M 6 i) (by omega) hnl hM ha h
  rw [sg_now] at hat
  exact hat
theorem la_free {nl a : Nat} {T : ul_S} {g : Nat → Int32} (hnl : nl ≤ 4) (ha : a < 10) (h : ul_la nl T g) : (T 2 a = -9 ↔ ∀ k, k < nl → g k ≠ nI a) := by
  rcases h.2 a ha with ⟨q1, q2⟩ | ⟨l, q1, q2, q3, q4⟩
  · exact ⟨fun _ => q2, fun _ => q1⟩
  · refine ⟨fun q => ?_, fun q => absurd q3 (q l q1)⟩
    rw [q2] at q
    have : (nI l).toInt = (-9 : Int32).toInt := by rw [q]
    rw [nI_toInt (by omega)] at this
    have e10 : (-9 : Int32).toInt = -9 := by decide
    omega
theorem e_move {c : Nat} {U : ul_S} {d : Int64} {L K N J E M : ul_S} {dm : Int64} {P B : ul_F} (h : ul_RR c U d L K N J E M dm P B) (p w : Int32) : ∃ v N' J' B' M', f_X6_move K N J B p w = some (v, N', J', B') ∧ f_X7_move M p w = some (v, M') ∧ ul_RR c U d L K N' J' E M' dm P B' := by
  have h0 := h
  obtain ⟨nl, np, h1, h2, h3, h4, h5, h6, h7⟩ := h
  have h1' := h1
  obtain ⟨q4, q5, hK0, hM0, -⟩ := h1'
  unfold f_X6_move f_X7_move
  rcases q_lad (by omega) hK0 hM0 p with ⟨j, hj, rfl, e1, e2⟩ | ⟨e1, e2⟩
  · rw [e1, e2, Option.bind_some, Option.bind_some, if_neg (show ¬ (1 : Int32) = 0 by decide), if_neg (show ¬ (1 : Int32) = 0 by decide)]
    rcases q_pl w with ⟨a, ha, rfl, e3, e4⟩ | ⟨e3, e4⟩
    · rw [e3, e4, Option.bind_some, Option.bind_some, if_neg (show ¬ (1 : Int32) = 0 by decide), if_neg (show ¬ (1 : Int32) = 0 by decide)]
      unfold f_X7_canMove
      rw [cp_free ha, e2, e4, mm_at0 q4 hM0 ha h2.1]
      simp (disch := omega) only [ul_ldN, Option.bind_some]
      rw [if_neg (show ¬ (1 : Int32) = 0 by decide), if_neg (show ¬ (1 : Int32) = 0 by decide)]
      by_cases hf : N 2 a = -9
      · rw [if_pos hf, Option.bind_some, Option.bind_some, if_neg (show ¬ (1 : Int32) = 0 by decide), if_neg (show ¬ (1 : Int32) = 0 by decide)]
        obtain ⟨J', B', M', r1, r2, r3, r4, r5, r6, r7, r8⟩ := a_act h1 h2 h3 h4 h5 h6
        have h2' : ul_ss nl np K N (fun i => M' 6 i) 4 (1000 * c) np := by rw [r3]; exact h2
        obtain ⟨x, hx, x1, x2⟩ := h2'.1.1 j hj
        have hfree := (la_free q4 ha h2'.1).mp hf
        rw [r1, r2, Option.bind_some, Option.bind_some, cc_put (by omega) hx ha x1, Option.bind_some]
        have hst := sg_up (M := M') (b := 0) (i := j) (g := fun i => M' 6 i) (x := nI a) (by omega)
        have e5 : ul_up M' 6 j (nI a) = ul_sg M' 0 (upd (fun i => M' 6 i) j (nI a)) := by
          rw [Nat.zero_add] at hst
          have hs2 := sg_now M'
          rw [Nat.mul_zero] at hs2
          rw [hs2] at hst
          exact hst
        simp (disch := omega) only [ul_ldN, ul_stN]
        have x2' : M' 6 j = nI x := x2
        rw [e5, x1, x2']
        exact ⟨_, _, _, _, _, rfl, rfl, rr_nw r4 (ss_put q4 q5 h2' hj hx x2 ha (fun k hk ek => absurd ek (hfree k hk))) r5 r6 r7 r8 h7⟩
      · rw [if_neg hf, Option.bind_some, Option.bind_some, if_pos rfl, if_pos rfl]
        exact ⟨_, _, _, _, _, rfl, rfl, h0⟩
    · rw [e3, e4, Option.bind_some, Option.bind_some, if_pos rfl, if_pos rfl]
      exact ⟨_, _, _, _, _, rfl, rfl, h0⟩
  · rw [e1, e2, Option.bind_some, Option.bind_some, if_pos rfl, if_pos rfl]
    exact ⟨_, _, _, _, _, rfl, rfl, h0⟩
/-- 23 places from another row of the reference into its first ones -/
theorem mm_in {M : ul_S} {R base : Nat} {n : Nat} {b : (Int32 × ul_S) → Option ((Int32 × ul_S) ⊕ (Int32 × ul_S))} (hR : R ≠ 6)
    (hb : ∀ (k : Nat) (s : ul_S), k ≤ 23 → (∀ j, j ≠ 6 → s j = M j) → b (nI k, s) = if k = 23 then some (.inl (nI k, s)) else some (.inr (nI (k + 1), ul_up s 6 k (M R (base + k))))) : ∃ r, ul_it ul_N b ((0 : Int32), M) = some r ∧ r.2 = ul_sg M 0 (fun i => M R (base + i)) := by
  have key := ul_run (b := b) (fun k s => k ≤ 23 ∧ s.1 = nI (23 - k) ∧ s.2 = ul_sg M 0 (fun i => if i < 23 - k then M R (base + i) else M 6 i)) (fun r => r.2 = ul_sg M 0 (fun i => if i < 23 then M R (base + i) else M 6 i))
    (by
      rintro ⟨s1, s2⟩ ⟨-, h1, h2⟩
      dsimp only at h1 h2
      refine ⟨(s1, s2), ?_, h2⟩
      rw [h1, hb 23 s2 (by omega) (fun j hj => by rw [h2, sg_n hj]), if_pos rfl])
    (by
      rintro i ⟨s1, s2⟩ ⟨hi, h1, h2⟩
      dsimp only at h1 h2
      left
      obtain ⟨k, ek⟩ : ∃ k, k = 23 - (i + 1) := ⟨_, rfl⟩
      have ek1 : 23 - i = k + 1 := by omega
      rw [← ek] at h1 h2
      refine ⟨(nI (k + 1), ul_up s2 6 k (M R (base + k))), ?_, ?_⟩
      · rw [h1, hb k s2 (by omega) (fun j hj => by rw [h2, sg_n hj]), if_neg (by omega)]
      · dsimp only
        rw [ek1]
        refine ⟨by omega, rfl, ?_⟩
        have hst := sg_up (M := M) (b := 0) (i := k) (g := fun i => if i < k then M R (base + i) else M 6 i) (x := M R (base + k)) (by omega)
        rw [Nat.zero_add] at hst
        rw [h2, hst]
        congr 1
        funext j
        unfold upd
        by_cases hj : j = k
        · subst hj
          simp
        · simp only [if_neg hj]
          by_cases hj2 : j < k
          · rw [if_pos hj2, if_pos (by omega)]
          · rw [if_neg hj2, if_neg (by omega)])
    ul_N 23 ((0 : Int32), M) ⟨Nat.le_refl _, rfl, by
      have e : (fun i => if i < 23 - 23 then M R (base + i) else M 6 i) = fun i => M 6 i := by
        funext i
        rw [if_neg (by omega)]
      dsimp only
      rw [e]
      have hs2 := sg_now M
      rw [Nat.mul_zero] at hs2
      exact hs2.symm⟩ (by rw [ul_N_v]; omega)
  obtain ⟨r, hr, hq⟩ := key
  refine ⟨r, hr, ?_⟩
  rw [hq]
  funext j i
  unfold ul_sg
  by_cases h : j = 6 ∧ 0 ≤ i ∧ i < 0 + 23
  · rw [if_pos h, if_pos h]
    dsimp only
    rw [if_pos (by omega)]
  · rw [if_neg h, if_neg h]
theorem nI_ne {a b : Nat} (ha : a < 2147483648) (hb : b < 2147483648) (h : a ≠ b) : ¬ nI a = nI b := fun q => h (nI_inj ha hb q)
theorem e_undo {c : Nat} {U : ul_S} {d : Int64} {L K N J E M : ul_S} {dm : Int64} {P B : ul_F} (h : ul_RR c U d L K N J E M dm P B) : ∃ v N' J' M', f_X6_undo N J B = some (v, N', J') ∧ f_X7_undo M = some (v, M') ∧ ul_RR c U d L K N' J' E M' dm P B := by
  have h0 := h
  obtain ⟨nl, np, h1, h2, h3, h4, h5, h6, h7⟩ := h
  obtain ⟨nx, sz, a1, a2, a3, a4, a5, a6, a7⟩ := h4
  unfold f_X6_undo f_X7_undo f_X0_takeBack
  rw [a5, a6]
  by_cases hz : sz = 0
  · subst hz
    have z0 : nI 0 = (0 : Int32) := rfl
    rw [if_pos z0, if_pos z0, Option.bind_some, if_pos rfl]
    exact ⟨_, _, _, _, rfl, rfl, h0⟩
  · have z0 : ¬ nI sz = (0 : Int32) := nI_ne (a := sz) (b := 0) (by omega) (by omega) hz
    rw [if_neg z0, if_neg z0]
    obtain ⟨pv, epv⟩ : ∃ pv, pv = (nx + 13) % 14 := ⟨_, rfl⟩
    -- the class
    have hcl : ∃ N' J', (if (J 0 0) ≤ 0 then (f_X0_takeBack_j28 B (13 : Int32) J N) else (f_X0_takeBack_j28 B ((J 0 0) - (1 : Int32)) J N)) = some (1, J', N') ∧ J' 0 0 = nI pv ∧ J' 0 1 = nI (sz - 1) ∧ ul_eqs N' (B pv) := by
      have hj : ∃ N' J', f_X0_takeBack_j28 B (nI pv) J N = some (1, J', N') ∧ J' 0 0 = nI pv ∧ J' 0 1 = nI (sz - 1) ∧ ul_eqs N' (B pv) := by
        unfold f_X0_takeBack_j28
        simp only [ul_bdE]
        have e1 : ul_up J 0 0 (nI pv) 0 1 - 1 = nI (sz - 1) := by
          rw [ul_up_i (by decide), a5]
          exact pk_sub (a := sz) (b := 1) (by omega)
        rw [e1]
        have e2 : ul_up (ul_up J 0 0 (nI pv)) 0 1 (nI (sz - 1)) 0 0 = nI pv := by
          rw [ul_up_i (by decide), ul_up_s]
        rw [e2, ul_ckN (by omega) (by decide)]
        obtain ⟨T', f1, f2⟩ := st_set N (B pv)
        rw [f1, Option.bind_some]
        exact ⟨T', _, rfl, e2, ul_up_s, f2⟩
      rw [a3]
      by_cases hx : nx = 0
      · have : nI nx ≤ 0 := by rw [hx]; decide
        rw [if_pos this]
        have e13 : (13 : Int32) = nI pv := by rw [epv, hx]; rfl
        rw [e13]
        exact hj
      · have : ¬ nI nx ≤ 0 := nI_nle (by omega) (by omega)
        rw [if_neg this]
        have e13 : nI nx - 1 = nI pv := by
          have e14 := pk_sub (a := nx) (b := 1) (by omega)
          have e15 : nx - 1 = pv := by omega
          rw [e15] at e14
          exact e14
        rw [e13]
        exact hj
    obtain ⟨N', J', c1, c2, c3, c4⟩ := hcl
    rw [c1, Option.bind_some]
    -- the reference
    simp only [ul_bdE]
    have m1 : nI sz - 1 = nI (sz - 1) := pk_sub (a := sz) (b := 1) (by omega)
    rw [m1]
    have m2 : ul_up M 0 8 (nI (sz - 1)) 0 9 = nI nx := by
      rw [ul_up_i (by decide)]
      exact a4
    rw [m2]
    have m3 : nI nx + 13 - (nI nx + 13) / 14 * 14 = nI pv := by
      have e1 : nI nx + 13 = nI (nx + 13) := nI_add nx 13
      rw [e1, epv]
      exact pk_rem (a := nx + 13) (d := 14) (by omega) (by decide) (by decide)
    rw [m3]
    obtain ⟨M1, eM1⟩ : ∃ M1, M1 = ul_up (ul_up M 0 8 (nI (sz - 1))) 0 9 (nI pv) := ⟨_, rfl⟩
    rw [← eM1]
    have hrow : ∀ j, j ≠ 0 → M1 j = M j := fun j hj => by rw [eM1, ul_up_jf hj, ul_up_jf hj]
    have h9 : M1 0 9 = nI pv := by rw [eM1, ul_up_s]
    have h8 : M1 0 8 = nI (sz - 1) := by rw [eM1, ul_up_i (by decide), ul_up_s]
    have hoth : ∀ i, i ≠ 8 → i ≠ 9 → M1 0 i = M 0 i := fun i hi hi2 => by rw [eM1, ul_up_i hi2, ul_up_i hi]
    obtain ⟨r, r1, r2⟩ := mm_in (M := M1) (R := 10) (base := 23 * pv) (n := 0) (b := f_X7_undo_L36) (by decide) (by
      intro k s hk hs
      unfold f_X7_undo_L36
      dsimp only
      by_cases hk23 : k = 23
      · subst hk23
        rw [if_pos (by decide), if_pos rfl]
      · have hk2 : ¬ (23 : Int32) ≤ nI k := nI_ge (a := k) (b := 23) (by omega) (by omega)
        rw [if_neg hk2, if_neg hk23, hs 0 (by decide), h9, ix_0', hs 10 (by decide)]
        simp (disch := omega) only [ul_ldN, ul_stN, ul_bdE, nI_1])
    rw [r1, Option.bind_some]
    unfold f_X7_undo_j68
    rw [r2, if_neg (show ¬ (1 : Int32) = 0 by decide), c3]
    have e8 : ul_sg M1 0 (fun i => M1 10 (23 * pv + i)) 0 8 = nI (sz - 1) := by rw [sg_n (by decide), h8]
    rw [e8]
    have hidx : (nx + 13 - 0) % 14 = pv := by omega
    have hlast := a7 0 (by omega)
    rw [hidx] at hlast
    refine ⟨_, _, _, _, rfl, rfl, ?_⟩
    have k1 : ul_mk nl np K M1 := mk_cg h1 (hoth 0 (by decide) (by decide)) (hoth 1 (by decide) (by decide)) (fun j ha hb => hrow j (by omega))
    refine rr_nw k1 (ss_gcg h1.1 h1.2.1 (ss_eqs h1.1 h1.2.1 hlast c4) (fun i hi => by rw [hrow 10 (by decide)])) ?_ ?_ ?_ ?_ h7
    · exact px_cg h3 (hoth 5 (by decide) (by decide)) (hrow 9 (by decide))
    · refine ⟨pv, sz - 1, by omega, by omega, c2, h9, c3, h8, ?_⟩
      intro k hk
      have e : (pv + 13 - k) % 14 = (nx + 13 - (k + 1)) % 14 := by omega
      rw [e, hrow 10 (by decide)]
      exact a7 (k + 1) (by omega)
    · exact pe_cg h5 (hoth 10 (by decide) (by decide)) (hrow 11 (by decide)) (hrow 12 (by decide))
    · exact pk_cg h6 (hrow 13 (by decide)) (hrow 14 (by decide))
