/-! who is at home, ladders on the way; count, person -/
theorem ul_or0 (x : Int32) : x ||| 0 = x := by simp
theorem x_home {nl np : Nat} {K M N : ul_S} {mb gb : Nat} (hk : ul_mk nl np K M) (h : ul_ss nl np K N (fun i => M 6 i) mb gb np) : ∃ v, f_X4_peopleAtHome N K = some v ∧ f_X7_atHome M = some v := by
  obtain ⟨h4, h5, hK0, hM0, hK1, hM1, -, hPp⟩ := hk
  have key := ul_run2 (b := f_X4_peopleAtHome_L4 N K) (c := f_X7_atHome_L4 M) (fun i s t => i ≤ np ∧ s = t ∧ s.2 = nI (np - i)) (fun r r' => r = r')
    (by
      rintro ⟨s1, s2⟩ t ⟨-, rfl, h2⟩
      dsimp only at h2
      refine ⟨(s1, s2), (s1, s2), ?_, ?_, rfl⟩
      · unfold f_X4_peopleAtHome_L4
        dsimp only
        rw [h2, hK1, if_pos (nI_le (by omega) (by omega))]
      · unfold f_X7_atHome_L4
        dsimp only
        rw [h2, hM1, if_pos (nI_le (by omega) (by omega))])
    (by
      rintro i ⟨s1, s2⟩ t ⟨hi, rfl, h2⟩
      dsimp only at h2
      left
      obtain ⟨k, ek⟩ : ∃ k, k = np - (i + 1) := ⟨_, rfl⟩
      have ek1 : np - i = k + 1 := by omega
      rw [← ek] at h2
      have hkp : k < np := by omega
      obtain ⟨-, hh, wk, -, -, -, eK4, eM3, -⟩ := hPp k hkp
      obtain ⟨e5, -⟩ := h.2.2.1 k hkp (by omega)
      have e5' : N 5 k = M 6 (12 + k) := e5
      have a12 : (12 : Int32) + nI k = nI (12 + k) := nI_add 12 k
      refine ⟨(if N 5 k = K 4 k then s1 ||| ((1 : Int32) <<< (nI k &&& 31)) else s1, nI (k + 1)), (if N 5 k = K 4 k then s1 ||| ((1 : Int32) <<< (nI k &&& 31)) else s1, nI (k + 1)), ?_, ?_, by omega, rfl, by rw [ek1]⟩
      · unfold f_X4_peopleAtHome_L4 f_X4_peopleAtHome_j39
        dsimp only
        rw [h2, hK1, if_neg (nI_ge (by omega) (by omega))]
        simp (disch := omega) only [ul_ldN, ul_bdE, nI_1]
        by_cases hq : N 5 k = K 4 k
        · rw [if_pos hq, if_pos hq]
        · rw [if_neg hq, if_neg hq]
      · unfold f_X7_atHome_L4 f_X7_atHome_j38
        dsimp only
        rw [h2, hM1, if_neg (nI_ge (by omega) (by omega)), a12]
        simp (disch := omega) only [ul_ldN, ul_bdE, nI_1]
        rw [← e5', eM3, ← eK4, ul_or0]
        by_cases hq : N 5 k = K 4 k
        · rw [if_pos hq, if_pos hq]
        · rw [if_neg hq, if_neg hq])
    ul_N np ((0 : Int32), (0 : Int32)) ((0 : Int32), (0 : Int32)) ⟨Nat.le_refl np, rfl, by rw [Nat.sub_self]; rfl⟩ (by rw [ul_N_v]; omega)
  obtain ⟨⟨v, z⟩, r', hr, hr', e⟩ := key
  subst e
  refine ⟨v, ?_, ?_⟩
  · unfold f_X4_peopleAtHome
    rw [hr, Option.bind_some]
    rfl
  · unfold f_X7_atHome
    rw [hr', Option.bind_some]
    rfl
theorem nI_ne9 {l : Nat} (h : l < 1000) : ¬ nI l = -9 := by
  intro e9
  have : (nI l).toInt = (-9 : Int32).toInt := by rw [e9]
  rw [nI_toInt (by omega)] at this
  have e10 : (-9 : Int32).toInt = -9 := by decide
  omega
/-- where a person is and goes, on both sides -/
theorem x_way {nl np : Nat} {K M N : ul_S} {mb gb p : Nat} (hk : ul_mk nl np K M) (h : ul_ss nl np K N (fun i => M 6 i) mb gb np) (hp : p < np) : ∃ w gl h0 wk, w < 10 ∧ gl < 10 ∧ h0 < 10 ∧ N 5 p = nI w ∧ M 6 (12 + p) = nI w ∧ K 4 p = nI h0 ∧ K 5 p = nI wk ∧ (gl = if w = h0 then wk else h0) ∧ f_X4_stepsAhead N K (nI p) = some (nI (sp_ds w gl)) ∧ f_X7_goalOf M 0 (nI p) = some (nI gl) := by
  obtain ⟨h4, h5, -, -, -, -, -, hPp⟩ := hk
  obtain ⟨-, hh, wk, hh10, hwk10, hhw, eK4, eM3, eK5, eM4⟩ := hPp p hp
  obtain ⟨hTg, hTw⟩ := h.2.2.1 p hp (by omega)
  obtain ⟨w, hw10, eT5⟩ : ∃ w, w < 10 ∧ N 5 p = nI w := by
    rcases hTw with q | q
    · exact ⟨hh, hh10, by rw [q, eK4]⟩
    · exact ⟨wk, hwk10, by rw [q, eK5]⟩
  have eg : M 6 (12 + p) = nI w := by rw [← eT5]; exact hTg.symm
  have hgl : (if w = hh then wk else hh) < 10 := by split <;> omega
  refine ⟨w, if w = hh then wk else hh, hh, wk, hw10, hgl, hh10, eT5, eg, eK4, eK5, rfl, ?_, ?_⟩
  · unfold f_X4_stepsAhead
    rw [cg_goal (by omega) eT5 eK4 eK5 hw10 hh10]
    simp (disch := omega) only [ul_ldN, eT5, Option.bind_some]
    rw [st_abs _ hgl w hw10]
  · have := mg_goal (M := M) (g := fun i => M 6 i) (lv := 0) (p := p) (by omega) (by omega) eg eM3 eM4 hw10 hh10
    rw [sg_now] at this
    exact this
theorem x_dir {w gl k : Nat} (hw : w < 10) (hg : gl < 10) (hk : k < sp_ds w gl) : (if nI gl ≤ nI (sp_ps w gl k) then nI (sp_ps w gl k) + -1 else nI (sp_ps w gl k) + 1) = nI (sp_ps w gl (k + 1)) := by
  have hne := sp_ps_ne hk
  have hd2 := hk
  unfold sp_ds at hd2
  unfold sp_ps at hne ⊢
  by_cases hle : gl ≤ w
  · simp only [if_pos hle] at hne ⊢
    have hkw : k + 1 ≤ w - gl := by split at hd2 <;> omega
    rw [if_pos (nI_le (by omega) (by omega))]
    have e1 : w - k = (w - (k + 1)) + 1 := by omega
    rw [e1, pk_m1]
  · simp only [if_neg hle] at hne ⊢
    have hkw : k + 1 ≤ gl - w := by split at hd2 <;> omega
    rw [if_neg (nI_ge (by omega) (by omega)), nI_1]
    rfl
theorem x_onway {nl np : Nat} {K M N : ul_S} {mb gb p : Nat} (hk : ul_mk nl np K M) (h : ul_ss nl np K N (fun i => M 6 i) mb gb np) (hp : p < np) : ∃ v, f_X4_laddersAhead N K (nI p) = some v ∧ f_X7_onWay M (nI p) = some v := by
  have hk0 := hk
  obtain ⟨h4, h5, hK0, hM0, -⟩ := hk
  obtain ⟨w, gl, h0, wk, hw, hg, hh0, eN, eM, eK4, eK5, egl, est, ego⟩ := x_way hk0 h hp
  obtain ⟨n, en⟩ : ∃ n, n = sp_ds w gl := ⟨_, rfl⟩
  have hn9 : n ≤ 9 := by rw [en]; unfold sp_ds; split <;> omega
  have key := ul_run2 (b := f_X4_laddersAhead_L11 N K (nI p) (nI n)) (c := f_X7_onWay_L20 M (nI p) (nI gl)) (fun i s t => i ≤ n ∧ s.1 = t.1 ∧ s.2 = nI (n - i + 1) ∧ t.2 = nI (sp_ps w gl (n - i))) (fun r r' => r.1 = r'.1)
    (by
      rintro ⟨s1, s2⟩ ⟨t1, t2⟩ ⟨-, e1, e2, e3⟩
      dsimp only at e1 e2 e3
      refine ⟨(s1, s2), (t1, t2), ?_, ?_, e1⟩
      · unfold f_X4_laddersAhead_L11
        dsimp only
        rw [e2, if_pos (nI_lt (by omega) (by omega))]
      · unfold f_X7_onWay_L20
        dsimp only
        rw [e3, Nat.sub_zero, en, sp_ps_n, if_pos rfl])
    (by
      rintro i ⟨s1, s2⟩ ⟨t1, t2⟩ ⟨hi, e1, e2, e3⟩
      dsimp only at e1 e2 e3
      left
      obtain ⟨k, ek⟩ : ∃ k, k = n - (i + 1) := ⟨_, rfl⟩
      have ek1 : n - i = k + 1 := by omega
      rw [← ek] at e2 e3
      have hkn : k < sp_ds w gl := by rw [← en]; omega
      have hps1 := sp_ps_l (k := k + 1) hw hg (by omega)
      have hps := sp_ps_l (k := k) hw hg (by omega)
      subst e1
      refine ⟨(if N 2 (sp_ps w gl (k + 1)) = -9 then s1 else s1 ||| ((1 : Int32) <<< (N 2 (sp_ps w gl (k + 1)) &&& 31)), nI (k + 1 + 1)), (if N 2 (sp_ps w gl (k + 1)) = -9 then s1 else s1 ||| ((1 : Int32) <<< (N 2 (sp_ps w gl (k + 1)) &&& 31)), nI (sp_ps w gl (k + 1))), ?_, ?_, by omega, rfl, by rw [ek1], by rw [ek1]⟩
      · unfold f_X4_laddersAhead_L11 f_X4_laddersAhead_j40
        dsimp only
        rw [e2, if_neg (nI_nlt (by omega) (by omega)), cg_ahead (by omega) eN eK4 eK5 hw hh0 egl hg (by omega), Option.bind_some]
        simp only [ul_bdE, nI_1]
        by_cases hq : N 2 (sp_ps w gl (k + 1)) = -9
        · rw [if_pos hq, if_pos hq]
        · rw [if_neg hq, if_neg hq]
      · unfold f_X7_onWay_L20 f_X7_onWay_j38 f_X7_onWay_j64
        dsimp only
        rw [e3, if_neg (fun q => sp_ps_ne hkn (nI_inj (by omega) (by omega) q))]
        have hdir := x_dir hw hg hkn
        have hat := mm_at0 h4 hM0 hps1 h.1
        have hfin : ∀ z : Int32, z = nI (sp_ps w gl (k + 1)) → (ul_bd z fun v6 => (f_X7_ladderAt M (0 : Int32) v6).bind fun u7 => if u7 = (-9 : Int32) then (ul_bd (s1 ||| (0 : Int32)) fun v4 => (some (.inr (v4, v6)) : Option ((Int32 × Int32) ⊕ (Int32 × Int32)))) else (ul_bd (s1 ||| ((1 : Int32) <<< (u7 &&& 31))) fun v4 => some (.inr (v4, v6)))) = some (.inr (if N 2 (sp_ps w gl (k + 1)) = -9 then s1 else s1 ||| ((1 : Int32) <<< (N 2 (sp_ps w gl (k + 1)) &&& 31)), nI (sp_ps w gl (k + 1)))) := by
          intro z hz
          rw [hz, ul_bdE, hat, Option.bind_some]
          simp only [ul_bdE, ul_or0]
          by_cases hq : N 2 (sp_ps w gl (k + 1)) = -9
          · rw [if_pos hq, if_pos hq]
          · rw [if_neg hq, if_neg hq]
        by_cases hle : nI gl ≤ nI (sp_ps w gl k)
        · rw [if_pos hle] at hdir ⊢
          exact hfin _ hdir
        · rw [if_neg hle] at hdir ⊢
          exact hfin _ hdir)
    ul_N n ((0 : Int32), (1 : Int32)) ((0 : Int32), nI w) ⟨Nat.le_refl n, rfl, by rw [Nat.sub_self]; rfl, by rw [Nat.sub_self, sp_ps_0]⟩ (by rw [ul_N_v]; omega)
  obtain ⟨⟨v, z⟩, ⟨v', z'⟩, hr, hr', e⟩ := key
  dsimp only at e
  subst e
  refine ⟨v, ?_, ?_⟩
  · unfold f_X4_laddersAhead
    rw [est, Option.bind_some, ← en, hr, Option.bind_some]
    rfl
  · unfold f_X7_onWay
    have a12 : (12 : Int32) + nI p = nI (12 + p) := nI_add 12 p
    rw [a12]
    simp (disch := omega) only [ul_ldN]
    rw [ego, Option.bind_some, eM, hr', Option.bind_some]
    rfl
theorem e_person {c : Nat} {U : ul_S} {d : Int64} {L K N J E M : ul_S} {dm : Int64} {P B : ul_F} (h : ul_RR c U d L K N J E M dm P B) (p w : Int32) : ∃ v, f_X6_person K N p w = some v ∧ f_X7_person M p w = some v := by
  obtain ⟨nl, np, h1, h2, -⟩ := h
  have h1' := h1
  obtain ⟨q4, q5, hK0, hM0, hK1, hM1, -, hPp⟩ := h1'
  unfold f_X6_person f_X7_person
  rcases q_per (by omega) hK1 hM1 p with ⟨j, hj, rfl, e1, e2⟩ | ⟨e1, e2⟩
  · rw [e1, e2, Option.bind_some, Option.bind_some, if_neg (show ¬ (1 : Int32) = 0 by decide), if_neg (show ¬ (1 : Int32) = 0 by decide)]
    have a12 : (12 : Int32) + nI j = nI (12 + j) := nI_add 12 j
    have a17 : (17 : Int32) + nI j = nI (17 + j) := nI_add 17 j
    rw [a12, a17]
    simp (disch := omega) only [ul_ldN]
    obtain ⟨z1, hh, wk, -, -, -, eK4, eM3, eK5, eM4⟩ := hPp j hj
    obtain ⟨y1, -⟩ := h2.2.2.1 j hj (by omega)
    obtain ⟨x1, -⟩ := h2.2.2.2.1 j hj
    obtain ⟨v, v1, v2⟩ := x_onway h1 h2 hj
    have y1' : N 5 j = M 6 (12 + j) := y1
    have x1' : N 6 j = M 6 (17 + j) := x1
    rw [v1, v2, eK4, eK5, eM3, eM4, z1, y1', x1']
    refine ul_same ?_
    repeat' split
    all_goals exact ⟨_, rfl⟩
  · rw [e1, e2, Option.bind_some, Option.bind_some, if_pos rfl, if_pos rfl]
    exact ⟨_, rfl, rfl⟩
theorem e_count {c : Nat} {U : ul_S} {d : Int64} {L K N J E M : ul_S} {dm : Int64} {P B : ul_F} (h : ul_RR c U d L K N J E M dm P B) (w : Int32) : ∃ v, f_X6_count L K N J E w = some v ∧ f_X7_count M w = some v := by
  obtain ⟨nl, np, h1, h2, ⟨n, -, eL, eM, -⟩, ⟨nx, sz, -, -, -, -, a5, a6, -⟩, ⟨m, -, eE, eM2, -⟩, -⟩ := h
  have h1' := h1
  obtain ⟨q4, q5, hK0, hM0, hK1, hM1, -⟩ := h1'
  obtain ⟨v1, b1, c1⟩ := x_luckP (lv := 0) (by omega) h1 h2
  obtain ⟨v2, b2, c2⟩ := x_luckM (lv := 0) (by omega) h1 h2
  obtain ⟨v3, b3, c3⟩ := x_goldM (lv := 0) (by omega) h1 h2
  obtain ⟨v4, b4, c4⟩ := x_home h1 h2
  rw [sg_now] at c1 c2 c3
  have c1' : f_X7_sumOf M 0 17 (nI np) = some v1 := c1
  have c2' : f_X7_sumOf M 0 4 (nI nl) = some v2 := c2
  have c3' : f_X7_sumOf M 0 8 (nI nl) = some v3 := c3
  have ed : N 0 0 = M 6 22 := h2.2.2.2.2
  have e22 : (ul_ld (M 6) 46 (22 : Int32) fun v5 => some v5) = some (M 6 22) := ul_ldN (i := 22) (by decide) (by decide)
  unfold f_X6_count f_X7_count
  rw [hK0, hK1, hM0, hM1, eL, eM, a5, a6, eE, eM2, b1, b2, b3, b4, c1', c2', c3', c4, e22]
  rw [ed]
  refine ul_same ?_
  repeat' split
  all_goals exact ⟨_, rfl⟩
