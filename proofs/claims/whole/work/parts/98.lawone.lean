/-! the law's pure program: one call, then all (printed by wip/whole/gen/pureLaw.py) -/
def ul_G (k c : Nat) (X : Option ((Int32 ⊕ (Int32 × ul_S × Int64 × ul_S × ul_S × ul_S × ul_S × ul_S × ul_S × ul_S × ul_S × ul_S × Int64 × ul_F × ul_F)) ⊕ (Int32 × ul_S × Int64 × ul_S × ul_S × ul_S × ul_S × ul_S × ul_S × ul_S × ul_S × ul_S × Int64 × ul_F × ul_F))) : Prop := ∃ U d L D K N T J E F M dm P B, X = some (.inr (nI (5 * k + 5), U, d, L, D, K, N, T, J, E, F, M, dm, P, B)) ∧ ul_RR (c + 1) U d L K N J E M dm P B
theorem ul_Gif {k c : Nat} {p : Prop} {dp : Decidable p} {A B : Option ((Int32 ⊕ (Int32 × ul_S × Int64 × ul_S × ul_S × ul_S × ul_S × ul_S × ul_S × ul_S × ul_S × ul_S × Int64 × ul_F × ul_F)) ⊕ (Int32 × ul_S × Int64 × ul_S × ul_S × ul_S × ul_S × ul_S × ul_S × ul_S × ul_S × ul_S × Int64 × ul_F × ul_F))} (h1 : p → ul_G k c A) (h2 : ¬ p → ul_G k c B) : ul_G k c (@ite _ p dp A B) := by
  by_cases h : p
  · rw [if_pos h]
    exact h1 h
  · rw [if_neg h]
    exact h2 h
theorem law_go {k c nS : Nat} {xs : Nat → Int32} {U : ul_S} {d : Int64} {L D K N T J E F M : ul_S} {dm : Int64} {P B : ul_F} (h : ul_RR (c + 1) U d L K N J E M dm P B) : ul_G k c (f_L_law_j1034 xs nS (nI (5 * k)) U d L D K N T J E F M dm P B) := by
  have e5 : nI (5 * k) + 5 = nI (5 * k + 5) := nI_add (5 * k) 5
  unfold f_L_law_j1034
  rw [ul_bdE, e5]
  exact ⟨U, d, L, D, K, N, T, J, E, F, M, dm, P, B, rfl, h⟩
theorem lg_self (x : Int64) : lg_cmp x x = 0 := by
  unfold lg_cmp
  have h1 : ¬ x > x := by
    show ¬ x < x
    rw [fa_lt64]
    omega
  rw [if_neg h1, if_pos rfl]
theorem law_share0 {k c nS : Nat} {xs : Nat → Int32} {U : ul_S} {d : Int64} {L K N J E M : ul_S} {dm : Int64} {P B : ul_F} (hn : nS ≤ 2560) (hk : 5 * k + 5 ≤ nS) (hc : c ≤ 600) (h : ul_RR c U d L K N J E M dm P B) (D T F : ul_S) (hz : xs (5 * k + 3) = 0) : ul_G k c (f_L_law_j741 xs nS (nI (5 * k)) (xs (5 * k + 1)) (xs (5 * k + 2)) (0 : Int32) U d L D K N T J E F M dm P B) := by
  have a1 : nI (5 * k) + 1 = nI (5 * k + 1) := nI_add (5 * k) 1
  have a2 : nI (5 * k) + 2 = nI (5 * k + 2) := nI_add (5 * k) 2
  have a3 : nI (5 * k) + 3 = nI (5 * k + 3) := nI_add (5 * k) 3
  have a4 : nI (5 * k) + 4 = nI (5 * k + 4) := nI_add (5 * k) 4
  obtain ⟨v, T', F', M', e1, e2, e3⟩ := e_share hc h T F (xs (5 * k + 1)) (xs (5 * k + 2)) 0
  unfold f_L_law_j741
  rw [e1, Option.bind_some]
  simp (disch := omega) only [a1, a2, a3, ul_ldN]
  rw [if_pos hz]
  unfold f_L_law_j768
  rw [e2, Option.bind_some, if_pos rfl]
  exact law_go (rr_mono e3 (Nat.le_succ c))
theorem law_stays0 {k c nS : Nat} {xs : Nat → Int32} {U : ul_S} {d : Int64} {L K N J E M : ul_S} {dm : Int64} {P B : ul_F} (hn : nS ≤ 2560) (hk : 5 * k + 5 ≤ nS) (hc : c ≤ 600) (h : ul_RR c U d L K N J E M dm P B) (D T F : ul_S) (hz : xs (5 * k + 4) = 0) : ul_G k c (f_L_law_j848 xs nS (nI (5 * k)) (xs (5 * k + 1)) (xs (5 * k + 2)) (xs (5 * k + 3)) (0 : Int32) U d L D K N T J E F M dm P B) := by
  have a1 : nI (5 * k) + 1 = nI (5 * k + 1) := nI_add (5 * k) 1
  have a2 : nI (5 * k) + 2 = nI (5 * k + 2) := nI_add (5 * k) 2
  have a3 : nI (5 * k) + 3 = nI (5 * k + 3) := nI_add (5 * k) 3
  have a4 : nI (5 * k) + 4 = nI (5 * k + 4) := nI_add (5 * k) 4
  obtain ⟨v, T', M', e1, e2, e3⟩ := e_stays hc h T (xs (5 * k + 1)) (xs (5 * k + 2)) (xs (5 * k + 3)) 0
  unfold f_L_law_j848
  rw [e1, Option.bind_some]
  simp (disch := omega) only [a1, a2, a3, a4, ul_ldN]
  rw [if_pos hz]
  unfold f_L_law_j880
  rw [e2, Option.bind_some, if_pos rfl]
  exact law_go (rr_mono e3 (Nat.le_succ c))
theorem law_share1 {k c nS : Nat} {xs : Nat → Int32} {U : ul_S} {d : Int64} {L K N J E M : ul_S} {dm : Int64} {P B : ul_F} (hn : nS ≤ 2560) (hk : 5 * k + 5 ≤ nS) (hc : c ≤ 600) (h : ul_RR c U d L K N J E M dm P B) (D T F : ul_S) (hz : ¬ xs (5 * k + 3) = 0) : ul_G k c (f_L_law_j741 xs nS (nI (5 * k)) (xs (5 * k + 1)) (xs (5 * k + 2)) (1 : Int32) U d L D K N T J E F M dm P B) := by
  have a1 : nI (5 * k) + 1 = nI (5 * k + 1) := nI_add (5 * k) 1
  have a2 : nI (5 * k) + 2 = nI (5 * k + 2) := nI_add (5 * k) 2
  have a3 : nI (5 * k) + 3 = nI (5 * k + 3) := nI_add (5 * k) 3
  have a4 : nI (5 * k) + 4 = nI (5 * k + 4) := nI_add (5 * k) 4
  obtain ⟨v, T', F', M', e1, e2, e3⟩ := e_share hc h T F (xs (5 * k + 1)) (xs (5 * k + 2)) 1
  unfold f_L_law_j741
  rw [e1, Option.bind_some]
  simp (disch := omega) only [a1, a2, a3, ul_ldN]
  rw [if_neg hz]
  unfold f_L_law_j768
  rw [e2, Option.bind_some, if_pos rfl]
  exact law_go (rr_mono e3 (Nat.le_succ c))
theorem law_stays1 {k c nS : Nat} {xs : Nat → Int32} {U : ul_S} {d : Int64} {L K N J E M : ul_S} {dm : Int64} {P B : ul_F} (hn : nS ≤ 2560) (hk : 5 * k + 5 ≤ nS) (hc : c ≤ 600) (h : ul_RR c U d L K N J E M dm P B) (D T F : ul_S) (hz : ¬ xs (5 * k + 4) = 0) : ul_G k c (f_L_law_j848 xs nS (nI (5 * k)) (xs (5 * k + 1)) (xs (5 * k + 2)) (xs (5 * k + 3)) (1 : Int32) U d L D K N T J E F M dm P B) := by
  have a1 : nI (5 * k) + 1 = nI (5 * k + 1) := nI_add (5 * k) 1
  have a2 : nI (5 * k) + 2 = nI (5 * k + 2) := nI_add (5 * k) 2
  have a3 : nI (5 * k) + 3 = nI (5 * k + 3) := nI_add (5 * k) 3
  have a4 : nI (5 * k) + 4 = nI (5 * k + 4) := nI_add (5 * k) 4
  obtain ⟨v, T', M', e1, e2, e3⟩ := e_stays hc h T (xs (5 * k + 1)) (xs (5 * k + 2)) (xs (5 * k + 3)) 1
  unfold f_L_law_j848
  rw [e1, Option.bind_some]
  simp (disch := omega) only [a1, a2, a3, a4, ul_ldN]
  rw [if_neg hz]
  unfold f_L_law_j880
  rw [e2, Option.bind_some, if_pos rfl]
  exact law_go (rr_mono e3 (Nat.le_succ c))
set_option maxHeartbeats 4000000 in
theorem law_step {k c nS : Nat} {xs : Nat → Int32} {U : ul_S} {d : Int64} {L K N J E M : ul_S} {dm : Int64} {P B : ul_F} (hn : nS ≤ 2560) (hk : 5 * k + 5 ≤ nS) (hc : c ≤ 600) (h : ul_RR c U d L K N J E M dm P B) (D T F : ul_S) : ul_G k c (f_L_law_L18 xs nS (nI (5 * k), U, d, L, D, K, N, T, J, E, F, M, dm, P, B)) := by
  have a1 : nI (5 * k) + 1 = nI (5 * k + 1) := nI_add (5 * k) 1
  have a2 : nI (5 * k) + 2 = nI (5 * k + 2) := nI_add (5 * k) 2
  have a3 : nI (5 * k) + 3 = nI (5 * k + 3) := nI_add (5 * k) 3
  have a4 : nI (5 * k) + 4 = nI (5 * k + 4) := nI_add (5 * k) 4
  have hs : (nI nS - nI 5).toInt = (nS : Int) - 5 := pk_sub_toInt (a := nS) (b := 5) (by omega) (by omega)
  have hlt : ¬ ((Int32.ofNat nS) - (5 : Int32)) < nI (5 * k) := by
    show ¬ (nI nS - nI 5) < nI (5 * k)
    rw [fa_lt, hs, nI_toInt (by omega)]
    omega
  unfold f_L_law_L18
  dsimp only
  rw [if_neg hlt, ul_ldN (f := xs) (n := nS) (i := 5 * k) (by omega) (by omega)]
  refine ul_Gif (fun _ => ?_) (fun _ => ?_)
  · obtain ⟨v, L', M', e1, e2, e3⟩ := e_write h (xs (5 * k + 1))
    simp (disch := omega) only [a1, a2, a3, a4, ul_ldN]
    rw [e1, Option.bind_some, e2, Option.bind_some, if_pos rfl]
    exact law_go (rr_mono e3 (Nat.le_succ c))
  refine ul_Gif (fun _ => ?_) (fun _ => ?_)
  · obtain ⟨v, L', M', e1, e2, e3⟩ := e_wipe h
    rw [e1, Option.bind_some, e2, Option.bind_some, if_pos rfl]
    exact law_go (rr_mono e3 (Nat.le_succ c))
  refine ul_Gif (fun _ => ?_) (fun _ => ?_)
  · obtain ⟨v, D', M', e1, e2, e3⟩ := e_fault h D
    rw [e1, Option.bind_some, e2, Option.bind_some, if_pos rfl]
    exact law_go (rr_mono e3 (Nat.le_succ c))
  refine ul_Gif (fun _ => ?_) (fun _ => ?_)
  · obtain ⟨v, U', D', K', N', J', M', e1, e2, e3⟩ := e_market h D
    rw [e1, Option.bind_some, e2, Option.bind_some, if_pos rfl]
    exact law_go (rr_mono e3 (Nat.le_succ c))
  refine ul_Gif (fun _ => ?_) (fun _ => ?_)
  · obtain ⟨v, e1, e2⟩ := e_ladder h (xs (5 * k + 1)) (xs (5 * k + 2))
    simp (disch := omega) only [a1, a2, a3, a4, ul_ldN]
    rw [e1, Option.bind_some, e2, Option.bind_some, if_pos rfl]
    exact law_go (rr_mono h (Nat.le_succ c))
  refine ul_Gif (fun _ => ?_) (fun _ => ?_)
  · obtain ⟨v, e1, e2⟩ := e_person h (xs (5 * k + 1)) (xs (5 * k + 2))
    simp (disch := omega) only [a1, a2, a3, a4, ul_ldN]
    rw [e1, Option.bind_some, e2, Option.bind_some, if_pos rfl]
    exact law_go (rr_mono h (Nat.le_succ c))
  refine ul_Gif (fun _ => ?_) (fun _ => ?_)
  · obtain ⟨v, e1, e2⟩ := e_at h (xs (5 * k + 1))
    simp (disch := omega) only [a1, a2, a3, a4, ul_ldN]
    rw [e1, Option.bind_some, e2, Option.bind_some, if_pos rfl]
    exact law_go (rr_mono h (Nat.le_succ c))
  refine ul_Gif (fun _ => ?_) (fun _ => ?_)
  · obtain ⟨v, N', J', B', M', e1, e2, e3⟩ := e_day hc h
    rw [e1, Option.bind_some, e2, Option.bind_some, if_pos rfl]
    exact law_go e3
  refine ul_Gif (fun _ => ?_) (fun _ => ?_)
  · obtain ⟨v, N', J', B', M', e1, e2, e3⟩ := e_move h (xs (5 * k + 1)) (xs (5 * k + 2))
    simp (disch := omega) only [a1, a2, a3, a4, ul_ldN]
    rw [e1, Option.bind_some, e2, Option.bind_some, if_pos rfl]
    exact law_go (rr_mono e3 (Nat.le_succ c))
  refine ul_Gif (fun _ => ?_) (fun _ => ?_)
  · obtain ⟨v, N', J', B', M', e1, e2, e3⟩ := e_down h (xs (5 * k + 1))
    simp (disch := omega) only [a1, a2, a3, a4, ul_ldN]
    rw [e1, Option.bind_some, e2, Option.bind_some, if_pos rfl]
    exact law_go (rr_mono e3 (Nat.le_succ c))
  refine ul_Gif (fun _ => ?_) (fun _ => ?_)
  · obtain ⟨v, N', J', B', M', e1, e2, e3⟩ := e_give h (xs (5 * k + 1)) (xs (5 * k + 2))
    simp (disch := omega) only [a1, a2, a3, a4, ul_ldN]
    rw [e1, Option.bind_some, e2, Option.bind_some, if_pos rfl]
    exact law_go (rr_mono e3 (Nat.le_succ c))
  refine ul_Gif (fun _ => ?_) (fun _ => ?_)
  · obtain ⟨v, N', J', M', e1, e2, e3⟩ := e_undo h
    rw [e1, Option.bind_some, e2, Option.bind_some, if_pos rfl]
    exact law_go (rr_mono e3 (Nat.le_succ c))
  refine ul_Gif (fun _ => ?_) (fun _ => ?_)
  · obtain ⟨v, T', M', e1, e2, e3⟩ := e_luck hc h T (xs (5 * k + 1)) (xs (5 * k + 2))
    simp (disch := omega) only [a1, a2, a3, a4, ul_ldN]
    rw [e1, Option.bind_some, e2, Option.bind_some, if_pos rfl]
    exact law_go (rr_mono e3 (Nat.le_succ c))
  refine ul_Gif (fun _ => ?_) (fun _ => ?_)
  · obtain ⟨v, T', M', e1, e2, e3⟩ := e_gold hc h T (xs (5 * k + 1)) (xs (5 * k + 2))
    simp (disch := omega) only [a1, a2, a3, a4, ul_ldN]
    rw [e1, Option.bind_some, e2, Option.bind_some, if_pos rfl]
    exact law_go (rr_mono e3 (Nat.le_succ c))
  refine ul_Gif (fun _ => ?_) (fun _ => ?_)
  · obtain ⟨v, T', M', e1, e2, e3⟩ := e_lost hc h T (xs (5 * k + 1))
    simp (disch := omega) only [a1, a2, a3, a4, ul_ldN]
    rw [e1, Option.bind_some, e2, Option.bind_some, if_pos rfl]
    exact law_go (rr_mono e3 (Nat.le_succ c))
  refine ul_Gif (fun _ => ?_) (fun _ => ?_)
  · obtain ⟨v, T', F', M', e1, e2, e3⟩ := e_spot hc h T F (xs (5 * k + 1)) (xs (5 * k + 2))
    simp (disch := omega) only [a1, a2, a3, a4, ul_ldN]
    rw [e1, Option.bind_some, e2, Option.bind_some, if_pos rfl]
    exact law_go (rr_mono e3 (Nat.le_succ c))
  refine ul_Gif (fun _ => ?_) (fun _ => ?_)
  · obtain ⟨v, F', e1, e2⟩ := e_round h F (xs (5 * k + 1)) (xs (5 * k + 2))
    simp (disch := omega) only [a1, a2, a3, a4, ul_ldN]
    rw [e1, Option.bind_some, e2, Option.bind_some, if_pos rfl]
    exact law_go (rr_mono h (Nat.le_succ c))
  refine ul_Gif (fun _ => ?_) (fun _ => ?_)
  · obtain ⟨v, T', F', M', e1, e2, e3⟩ := e_judge hc h T F (xs (5 * k + 1)) (((xs (5 * k + 2)).toInt64 <<< ((32 : Int32).toInt64 &&& 63)) ||| ((xs (5 * k + 3)).toInt64 &&& (4294967295 : Int64)))
    simp (disch := omega) only [a1, a2, a3, a4, ul_ldN]
    rw [e1, Option.bind_some, e2, Option.bind_some, if_pos rfl]
    exact law_go (rr_mono e3 (Nat.le_succ c))
  refine ul_Gif (fun _ => ?_) (fun _ => ?_)
  · obtain ⟨v, E', M', e1, e2, e3⟩ := e_see h (xs (5 * k + 1)) (xs (5 * k + 2))
    simp (disch := omega) only [a1, a2, a3, a4, ul_ldN]
    rw [e1, Option.bind_some, e2, Option.bind_some, if_pos rfl]
    exact law_go (rr_mono e3 (Nat.le_succ c))
  refine ul_Gif (fun _ => ?_) (fun _ => ?_)
  · obtain ⟨v, E', M', e1, e2, e3⟩ := e_unsee h
    rw [e1, Option.bind_some, e2, Option.bind_some, if_pos rfl]
    exact law_go (rr_mono e3 (Nat.le_succ c))
  refine ul_Gif (fun _ => ?_) (fun _ => ?_)
  · obtain ⟨v, e1, e2⟩ := e_may h (xs (5 * k + 1))
    simp (disch := omega) only [a1, a2, a3, a4, ul_ldN]
    rw [e1, Option.bind_some, e2, Option.bind_some, if_pos rfl]
    exact law_go (rr_mono h (Nat.le_succ c))
  refine ul_Gif (fun _ => ?_) (fun _ => ?_)
  · simp (disch := omega) only [a1, a2, a3, a4, ul_ldN]
    exact ul_Gif (fun hz => law_share0 hn hk hc h D T F hz) (fun hz => law_share1 hn hk hc h D T F hz)
  refine ul_Gif (fun _ => ?_) (fun _ => ?_)
  · obtain ⟨v, T', F', M', e1, e2, e3⟩ := e_rests hc h T F (xs (5 * k + 1)) (xs (5 * k + 2)) (xs (5 * k + 3))
    simp (disch := omega) only [a1, a2, a3, a4, ul_ldN]
    rw [e1, Option.bind_some, e2, Option.bind_some, if_pos rfl]
    exact law_go (rr_mono e3 (Nat.le_succ c))
  refine ul_Gif (fun _ => ?_) (fun _ => ?_)
  · simp (disch := omega) only [a1, a2, a3, a4, ul_ldN]
    exact ul_Gif (fun hz => law_stays0 hn hk hc h D T F hz) (fun hz => law_stays1 hn hk hc h D T F hz)
  refine ul_Gif (fun _ => ?_) (fun _ => ?_)
  · obtain ⟨r, e1, e2, e3⟩ := e_seed h (((xs (5 * k + 1)).toInt64 <<< ((32 : Int32).toInt64 &&& 63)) ||| ((xs (5 * k + 2)).toInt64 &&& (4294967295 : Int64)))
    simp (disch := omega) only [a1, a2, a3, a4, ul_ldN]
    rw [e1, Option.bind_some, e2, Option.bind_some, if_pos (lg_self r)]
    exact law_go (rr_mono e3 (Nat.le_succ c))
  refine ul_Gif (fun _ => ?_) (fun _ => ?_)
  · obtain ⟨v, T', M', d', e1, e2, e3⟩ := e_years hc h T (xs (5 * k + 1))
    simp (disch := omega) only [a1, a2, a3, a4, ul_ldN]
    rw [e1, Option.bind_some, e2, Option.bind_some, if_pos rfl]
    exact law_go (rr_mono e3 (Nat.le_succ c))
  refine ul_Gif (fun _ => ?_) (fun _ => ?_)
  · obtain ⟨v, U', P', M', e1, e2, e3⟩ := e_keep h (xs (5 * k + 1))
    simp (disch := omega) only [a1, a2, a3, a4, ul_ldN]
    rw [e1, Option.bind_some, e2, Option.bind_some, if_pos rfl]
    exact law_go (rr_mono e3 (Nat.le_succ c))
  refine ul_Gif (fun _ => ?_) (fun _ => ?_)
  · obtain ⟨v, N', J', M', e1, e2, e3⟩ := e_again h (xs (5 * k + 1))
    simp (disch := omega) only [a1, a2, a3, a4, ul_ldN]
    rw [e1, Option.bind_some, e2, Option.bind_some, if_pos rfl]
    exact law_go (rr_mono e3 (Nat.le_succ c))
  refine ul_Gif (fun _ => ?_) (fun _ => ?_)
  · obtain ⟨v, e1, e2⟩ := e_count h (xs (5 * k + 1))
    simp (disch := omega) only [a1, a2, a3, a4, ul_ldN]
    rw [e1, Option.bind_some, e2, Option.bind_some, if_pos rfl]
    exact law_go (rr_mono h (Nat.le_succ c))
  exact law_go (rr_mono h (Nat.le_succ c))
theorem law_one {nS : Nat} {xs : Nat → Int32} {U : ul_S} {d : Int64} {L K N J E M : ul_S} {dm : Int64} {P B : ul_F} (hn : nS ≤ 2560) (h : ul_RR 0 U d L K N J E M dm P B) (D T F : ul_S) : f_L_law xs nS U d L D K N T J E F M dm P B 0 = some 1 := by
  have key := ul_run (b := f_L_law_L18 xs nS) (fun i s => i ≤ nS / 5 ∧ ∃ U d L D K N T J E F M dm P B, s = (nI (5 * (nS / 5 - i)), U, d, L, D, K, N, T, J, E, F, M, dm, P, B) ∧ ul_RR (nS / 5 - i) U d L K N J E M dm P B) (fun r => ∃ e, r = .inr e)
    (by
      rintro s ⟨-, U, d, L, D, K, N, T, J, E, F, M, dm, P, B, rfl, -⟩
      have hs : (nI nS - nI 5).toInt = (nS : Int) - 5 := pk_sub_toInt (a := nS) (b := 5) (by omega) (by omega)
      have hlt : ((Int32.ofNat nS) - (5 : Int32)) < nI (5 * (nS / 5 - 0)) := by
        show (nI nS - nI 5) < nI (5 * (nS / 5 - 0))
        rw [fa_lt, hs, nI_toInt (by omega)]
        omega
      refine ⟨.inr (nI (5 * (nS / 5 - 0)), U, d, L, D, K, N, T, J, E, F, M, dm, P, B), ?_, _, rfl⟩
      · unfold f_L_law_L18
        dsimp only
        rw [if_pos hlt])
    (by
      rintro i s ⟨hi, U, d, L, D, K, N, T, J, E, F, M, dm, P, B, rfl, hR⟩
      left
      obtain ⟨U', d', L', D', K', N', T', J', E', F', M', dm', P', B', e1, e2⟩ := law_step (xs := xs) hn (k := nS / 5 - (i + 1)) (by omega) (by omega) hR D T F
      have ek : nS / 5 - (i + 1) + 1 = nS / 5 - i := by omega
      have e5 : 5 * (nS / 5 - (i + 1)) + 5 = 5 * (nS / 5 - i) := by omega
      rw [ek] at e2
      rw [e5] at e1
      exact ⟨_, e1, by omega, U', d', L', D', K', N', T', J', E', F', M', dm', P', B', rfl, e2⟩)
    ul_N (nS / 5) ((0 : Int32), U, d, L, D, K, N, T, J, E, F, M, dm, P, B) ⟨Nat.le_refl _, U, d, L, D, K, N, T, J, E, F, M, dm, P, B, by rw [Nat.sub_self]; rfl, by rw [Nat.sub_self]; exact h⟩ (by rw [ul_N_v]; omega)
  obtain ⟨r, hr, e, rfl⟩ := key
  unfold f_L_law
  rw [hr, Option.bind_some]
  rfl
