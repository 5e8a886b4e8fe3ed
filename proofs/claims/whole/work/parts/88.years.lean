/-! trial steps by told and drawn things; years, judge -/
theorem ml_y {nl j : Nat} {M : ul_S} (hn : nl ≤ 100) (hM : M 0 0 = nI nl) (hj : j < nl) : f_X7_isLadder M (nI j) = some 1 := by
  rcases q_lad (K := M) hn hM hM (nI j) with ⟨k, -, -, -, e⟩ | ⟨e1, -⟩
  · exact e
  · exfalso
    unfold f_X6_isLadder at e1
    rw [hM, if_neg (nI_pos (by omega)), if_neg (nI_ge hj (by omega))] at e1
    exact absurd e1 (by decide)
theorem ml_n {nl j : Nat} {M : ul_S} (hn : nl ≤ 100) (hM : M 0 0 = nI nl) (hj : nl ≤ j) (hj2 : j < 1000) : f_X7_isLadder M (nI j) = some 0 := by
  rcases q_lad (K := M) hn hM hM (nI j) with ⟨k, hk, ek, -, e⟩ | ⟨-, e⟩
  · exact absurd (nI_inj (by omega) (by omega) ek) (by omega)
  · exact e
theorem mp_y {np j : Nat} {M : ul_S} (hn : np ≤ 100) (hM : M 0 1 = nI np) (hj : j < np) : f_X7_isPerson M (nI j) = some 1 := by
  rcases q_per (K := M) hn hM hM (nI j) with ⟨k, -, -, -, e⟩ | ⟨e1, -⟩
  · exact e
  · exfalso
    unfold f_X6_isPerson at e1
    rw [hM, if_neg (nI_pos (by omega)), if_neg (nI_ge hj (by omega))] at e1
    exact absurd e1 (by decide)
theorem mp_n {np j : Nat} {M : ul_S} (hn : np ≤ 100) (hM : M 0 1 = nI np) (hj : np ≤ j) (hj2 : j < 1000) : f_X7_isPerson M (nI j) = some 0 := by
  rcases q_per (K := M) hn hM hM (nI j) with ⟨k, hk, ek, -, e⟩ | ⟨-, e⟩
  · exact absurd (nI_inj (by omega) (by omega) ek) (by omega)
  · exact e
/-- a ladder moved on the trial street -/
theorem tr_move {nl np : Nat} {K M T : ul_S} {g : Nat → Int32} {gb l a : Nat} (hk : ul_mk nl np K M) (h : ul_ss nl np K T g 4 gb np) (ha : a < 10) (hl : l < nl) : (f_X4_isFree T (nI a) = some 0 ∧ f_X7_canMove (ul_sg M 23 g) 1 (nI l) (nI a) = some 0) ∨ (f_X4_isFree T (nI a) = some 1 ∧ f_X7_canMove (ul_sg M 23 g) 1 (nI l) (nI a) = some 1 ∧ ∃ T', f_X4_put T (nI l) (nI a) = some T' ∧ ul_ss nl np K T' (upd g l (nI a)) 4 gb np) := by
  have hk' := hk
  obtain ⟨q4, q5, hK0, hM0, -⟩ := hk'
  have e1 : f_X7_isLadder (ul_sg M 23 g) (nI l) = some 1 := ml_y (nl := nl) (by omega) (by rw [sg_00]; exact hM0) hl
  have e2 : f_X7_in (nI a).toInt64 0 9 = some 1 := by
    rcases q_pl (nI a) with ⟨j, -, -, -, e⟩ | ⟨e, -⟩
    · exact e
    · exfalso
      unfold f_X6_isPlace at e
      rw [if_neg (nI_pos (by omega)), if_neg (show ¬ (10 : Int32) ≤ nI a from nI_ge (b := 10) (by omega) (by omega))] at e
      exact absurd e (by decide)
  have e3 : f_X7_ladderAt (ul_sg M 23 g) 1 (nI a) = some (T 2 a) := mm_at (lv := 1) (by omega) q4 hM0 ha h.1
  unfold f_X7_canMove
  rw [cp_free ha, e1, Option.bind_some, if_neg (show ¬ (1 : Int32) = 0 by decide), e2, Option.bind_some, if_neg (show ¬ (1 : Int32) = 0 by decide), e3, Option.bind_some]
  by_cases hf : T 2 a = -9
  · right
    rw [if_pos hf]
    obtain ⟨x, hx, x1, x2⟩ := h.1.1 l hl
    have hfree := (la_free q4 ha h.1).mp hf
    exact ⟨rfl, rfl, _, cc_put (by omega) hx ha x1, ss_put q4 q5 h hl hx x2 ha (fun k hk ek => absurd ek (hfree k hk))⟩
  · left
    rw [if_neg hf]
    exact ⟨rfl, rfl⟩
theorem x_drawn {nl np : Nat} {K M T : ul_S} {g : Nat → Int32} {gb : Nat} {p1 y i : Int32} {dd : Int64} (hk : ul_mk nl np K M) (h : ul_ss nl np K T g 4 gb np) (hgb : gb ≤ 1000000000) (v : Int32) : ∃ T' g', f_X4_doDrawn T K v = some T' ∧ (if v ≤ 14 then (if v ≤ 9 then ((f_X7_canMove (ul_sg M 23 g) 1 0 v).bind fun u15 => if u15 = 0 then (f_X7_years_j128 p1 y i v (ul_sg M 23 g) dd) else (ul_st (ul_sg M 23 g) 6 46 23 v fun M17 => f_X7_years_j128 p1 y i v M17 dd)) else ((f_X7_isPerson (ul_sg M 23 g) (v - 10)).bind fun u19 => if u19 = 0 then (f_X7_years_j128 p1 y i v (ul_sg M 23 g) dd) else ((f_X7_giveOn (ul_sg M 23 g) 1 (v - 10) 1).bind fun u21 => f_X7_years_j128 p1 y i v u21 dd))) else ((f_X7_passOn (ul_sg M 23 g) 1 0).bind fun u22 => f_X7_years_j128 p1 y i v u22.2 dd)) = f_X7_years_j128 p1 y i v (ul_sg M 23 g') dd ∧ ul_ss nl np K T' g' 4 (gb + 1000) np := by
  have hk' := hk
  obtain ⟨q4, q5, hK0, hM0, hK1, hM1, -⟩ := hk'
  have hM0' : ul_sg M 23 g 0 0 = nI nl := by rw [sg_00]; exact hM0
  have hM1' : ul_sg M 23 g 0 1 = nI np := by rw [sg_00]; exact hM1
  have hkeep := ss_mono h (Nat.le_refl 4) (show gb ≤ gb + 1000 by omega)
  unfold f_X4_doDrawn f_X4_doDrawn_j44
  rcases pk_ix v (n := 15) (by omega) with hv | hv | ⟨j, hj, rfl⟩
  · rw [fa_lt] at hv
    have z0 : (0 : Int32).toInt = 0 := by decide
    have z9 : (9 : Int32).toInt = 9 := by decide
    have z10 : (10 : Int32).toInt = 10 := by decide
    have z14 : (14 : Int32).toInt = 14 := by decide
    have z15 : (15 : Int32).toInt = 15 := by decide
    have hcan : f_X7_canMove (ul_sg M 23 g) 1 0 v = some 0 := by
      unfold f_X7_canMove
      by_cases hn : nl = 0
      · have e1 : f_X7_isLadder (ul_sg M 23 g) 0 = some 0 := ml_n (nl := nl) (j := 0) (by omega) hM0' (by omega) (by omega)
        rw [e1, Option.bind_some, if_pos rfl]
      · have e1 : f_X7_isLadder (ul_sg M 23 g) 0 = some 1 := ml_y (nl := nl) (j := 0) (by omega) hM0' (by omega)
        rw [e1, Option.bind_some, if_neg (show ¬ (1 : Int32) = 0 by decide)]
        rcases q_pl v with ⟨a, ha, ea, -⟩ | ⟨-, e⟩
        · exfalso
          rw [ea, nI_toInt (by omega)] at hv
          omega
        · rw [e, Option.bind_some, if_pos rfl]
    refine ⟨T, g, ?_, ?_, hkeep⟩
    · rw [if_pos (by rw [fa_lt]; omega), if_pos (by rw [fa_lt]; omega), if_pos (by rw [fa_lt]; omega)]
    · rw [if_pos (by rw [fa_le]; omega), if_pos (by rw [fa_le]; omega), hcan, Option.bind_some, if_pos rfl]
  · have hv' := hv
    rw [fa_le, nI_toInt (by omega)] at hv
    have z14 : (14 : Int32).toInt = 14 := by decide
    have z15 : (15 : Int32).toInt = 15 := by decide
    obtain ⟨got, T', g', y1, y2, y3⟩ := sw_day (lv := 1) (go := 31) (st := 0) (by omega) hk h hgb (fun p hp => ul_bt31 p (by omega))
    have y2' : f_X7_passOn (ul_sg M 23 g) 1 0 = some (got, ul_sg M 23 g') := y2
    refine ⟨T', g', ?_, ?_, y3⟩
    · rw [if_neg (by rw [fa_lt]; omega), y1, Option.bind_some]
    · rw [if_neg (by rw [fa_le]; omega), y2', Option.bind_some]
  · rw [if_pos (show nI j < 15 from nI_lt (b := 15) hj (by omega)), if_pos (show nI j ≤ 14 from nI_le (b := 14) (by omega) (by omega)), hK0, hK1]
    by_cases hj9 : j < 10
    · rw [if_pos (show nI j < 10 from nI_lt (b := 10) hj9 (by omega)), if_pos (show nI j ≤ 9 from nI_le (b := 9) (by omega) (by omega)), if_neg (nI_pos (by omega))]
      by_cases hn : nl = 0
      · have e1 : f_X7_isLadder (ul_sg M 23 g) 0 = some 0 := ml_n (nl := nl) (j := 0) (by omega) hM0' (by omega) (by omega)
        refine ⟨T, g, ?_, ?_, hkeep⟩
        · rw [if_pos (by rw [hn]; decide)]
        · unfold f_X7_canMove
          rw [e1, Option.bind_some, if_pos rfl, Option.bind_some, if_pos rfl]
      · rw [if_neg (nI_nle (by omega) (by omega))]
        rcases tr_move (l := 0) hk h hj9 (by omega) with ⟨e1, e2⟩ | ⟨e1, e2, T', e3, e4⟩
        · have e2' : f_X7_canMove (ul_sg M 23 g) 1 0 (nI j) = some 0 := e2
          refine ⟨T, g, ?_, ?_, hkeep⟩
          · rw [e1, Option.bind_some, if_pos rfl]
          · rw [e2', Option.bind_some, if_pos rfl]
        · have e2' : f_X7_canMove (ul_sg M 23 g) 1 0 (nI j) = some 1 := e2
          have e3' : f_X4_put T 0 (nI j) = some T' := e3
          refine ⟨T', upd g 0 (nI j), ?_, ?_, ss_mono e4 (Nat.le_refl 4) (by omega)⟩
          · rw [e1, Option.bind_some, if_neg (show ¬ (1 : Int32) = 0 by decide), e3', Option.bind_some]
          · rw [e2', Option.bind_some, if_neg (show ¬ (1 : Int32) = 0 by decide), show (23 : Int32) = nI (23 + 0) from rfl, ul_stN (by omega) (by omega), sg_up (by omega)]
    · obtain ⟨p, rfl⟩ : ∃ p, j = 10 + p := ⟨j - 10, by omega⟩
      have es : nI (10 + p) - 10 = nI p := by
        have := pk_sub (a := 10 + p) (b := 10) (by omega)
        rw [show 10 + p - 10 = p by omega] at this
        exact this
      rw [if_neg (show ¬ nI (10 + p) < 10 from nI_nlt (b := 10) (by omega) (by omega)), if_neg (show ¬ nI (10 + p) ≤ 9 from nI_ge (a := 9) (by omega) (by omega)), es, ul_bdE]
      by_cases hpn : p < np
      · rw [if_neg (nI_ge hpn (by omega)), mp_y (np := np) (by omega) hM1' hpn, Option.bind_some, if_neg (show ¬ (1 : Int32) = 0 by decide)]
        have e1 : f_X4_endow T (nI p) 1 = _ := cc_endow (T := T) (p := p) (x := 1) (by omega)
        have e2 : f_X7_giveOn (ul_sg M 23 g) 1 (nI p) 1 = some (ul_sg M 23 (upd g (17 + p) (sp_99 (g (17 + p) + 1)))) := mm_give (lv := 1) (x := 1) (by omega) (by omega)
        rw [e1, Option.bind_some, e2, Option.bind_some]
        exact ⟨_, _, rfl, rfl, ss_mono (ss_endow (n := 1) q4 q5 h hpn (by omega)) (Nat.le_refl 4) (by omega)⟩
      · rw [if_pos (nI_le (by omega) (by omega)), mp_n (np := np) (by omega) hM1' (by omega) (by omega), Option.bind_some, if_pos rfl]
        exact ⟨T, g, rfl, rfl, hkeep⟩
theorem e_years {c : Nat} {U : ul_S} {d : Int64} {L K N J E M : ul_S} {dm : Int64} {P B : ul_F} (hc : c ≤ 600) (h : ul_RR c U d L K N J E M dm P B) (T : ul_S) (n : Int32) : ∃ v T' M' d', f_X6_years d K N T n = some (v, d', T') ∧ f_X7_years M dm n = some (v, M', d') ∧ ul_RR c U d' L K N J E M' d' P B := by
  have h0 := h
  obtain ⟨nl, np, h1, h2, h3, h4, h5, h6, h7⟩ := h
  subst h7
  have h1' := h1
  obtain ⟨q4, q5, hK0, hM0, hK1, hM1, -⟩ := h1'
  unfold f_X6_years f_X7_years
  rcases mi_nm (p := n) (a := 1) (b := 30) (y := 1) (z := 30) rfl rfl (by omega) (by omega) with ⟨k, hk0, hk1, rfl, e3⟩ | ⟨hw, e3⟩
  · rw [e3, Option.bind_some, if_neg (show ¬ (1 : Int32) = 0 by decide), if_neg (show ¬ nI k < 1 from nI_nlt (b := 1) (by omega) (by omega)), if_pos (show nI k ≤ 30 from nI_le (b := 30) hk1 (by omega)), mm_lay, Option.bind_some]
    obtain ⟨T1, f1, f2⟩ := st_set T N
    rw [f1, Option.bind_some]
    have key := ul_run2 (b := f_X6_years_L29 K N (nI k)) (c := f_X7_years_L23 (nI k)) (fun i s t => i ≤ k ∧ s.1 = t.1 ∧ s.2.1 = nI (k - i) ∧ t.2.1 = nI (k - i) ∧ s.2.2.1 = t.2.2.2 ∧ ∃ g, t.2.2.1 = ul_sg M 23 g ∧ ul_ss nl np K s.2.2.2 g 4 (1000 * c + 1000 * (k - i)) np) (fun r r' => r.1 = r'.1 ∧ r.2.2.1 = r'.2.2.2 ∧ ∃ g, r'.2.2.1 = ul_sg M 23 g)
      (by
        rintro ⟨s1, s2, s3, s4⟩ ⟨t1, t2, t3, t4⟩ ⟨-, e1, e2, e3, e4, g, e5, e6⟩
        dsimp only at e1 e2 e3 e4 e5 e6
        refine ⟨(s1, s2, s3, s4), (t1, t2, t3, t4), ?_, ?_, e1, e4, g, e5⟩
        · unfold f_X6_years_L29
          dsimp only
          rw [e2, if_pos (nI_le (by omega) (by omega))]
        · unfold f_X7_years_L23
          dsimp only
          rw [e3, if_pos (nI_le (by omega) (by omega))])
      (by
        rintro i ⟨s1, s2, s3, s4⟩ ⟨t1, t2, t3, t4⟩ ⟨hi, e1, e2, e3, e4, g, e5, e6⟩
        dsimp only at e1 e2 e3 e4 e5 e6
        left
        obtain ⟨a, ea⟩ : ∃ a, a = k - (i + 1) := ⟨_, rfl⟩
        have ea1 : k - i = a + 1 := by omega
        rw [← ea] at e2 e3 e6
        subst e1
        subst e4
        subst e5
        obtain ⟨dd, edd⟩ : ∃ z : Int64, z = s3 * (6364136223846793005 : Int64) + (1442695040888963407 : Int64) := ⟨_, rfl⟩
        obtain ⟨v, ev⟩ : ∃ z : Int32, z = (((dd.toUInt64 >>> ((33 : Int32).toInt64.toUInt64 &&& Int64.toUInt64 63)).toInt64) - ((dd.toUInt64 >>> ((33 : Int32).toInt64.toUInt64 &&& Int64.toUInt64 63)).toInt64) / (30 : Int64) * (30 : Int64)).toInt32 := ⟨_, rfl⟩
        obtain ⟨T', g', y1, y2, y3⟩ := x_drawn (p1 := nI k) (y := s1) (i := nI a) (dd := dd) h1 e6 (by omega) v
        obtain ⟨w, w1, w2⟩ := x_goldM (lv := 1) (by omega) h1 y3
        have w2' : f_X7_sumOf (ul_sg M 23 g') 1 8 (nI nl) = some w := w2
        refine ⟨(s1 + w, nI (a + 1), dd, T'), (s1 + w, nI (a + 1), ul_sg M 23 g', dd), ?_, ?_, by omega, rfl, by rw [ea1], by rw [ea1], rfl, g', rfl, ss_mono y3 (Nat.le_refl 4) (by omega)⟩
        · unfold f_X6_years_L29
          dsimp only
          rw [e2, if_neg (nI_ge (by omega) (by omega)), ← edd, ul_bdE, ← ev, y1, Option.bind_some, w1, Option.bind_some, ul_bdE, ul_bdE, nI_1]
        · unfold f_X7_years_L23
          dsimp only
          rw [e3, if_neg (nI_ge (by omega) (by omega)), ← edd, ul_bdE, ← ev, ul_bdE, y2]
          unfold f_X7_years_j128
          rw [sg_00, hM0, w2', Option.bind_some, ul_bdE, ul_bdE, nI_1])
      ul_N k (0, 0, d, T1) (0, 0, ul_sg M 23 (fun i => M 6 i), d) ⟨Nat.le_refl k, rfl, by rw [Nat.sub_self]; rfl, by rw [Nat.sub_self]; rfl, rfl, _, rfl, ss_mono (ss_eqs q4 q5 h2 f2) (Nat.le_refl 4) (by omega)⟩ (by rw [ul_N_v]; omega)
    obtain ⟨⟨r1, r2, r3, r4⟩, ⟨t1, t2, t3, t4⟩, hr, hr', e1, e2, g, e4⟩ := key
    dsimp only at e1 e2 e4
    subst e1
    subst e2
    subst e4
    rw [hr, hr', Option.bind_some, Option.bind_some]
    refine ⟨r1, r4, ul_sg M 23 g, r3, rfl, rfl, ?_⟩
    obtain ⟨nl2, np2, z1, z2, z3, z4, z5, z6, -⟩ := rr_tr h0 g
    exact ⟨nl2, np2, z1, z2, z3, z4, z5, z6, rfl⟩
  · rw [e3, Option.bind_some, if_pos rfl]
    by_cases hw0 : n < 1
    · rw [if_pos hw0]
      exact ⟨_, _, _, _, rfl, rfl, h0⟩
    · rw [if_neg hw0, if_neg (show ¬ n ≤ 30 from fun q => by
        rcases hw with z | z
        · exact hw0 z
        · exact absurd q (Int32.not_le.mpr z))]
      exact ⟨_, _, _, _, rfl, rfl, h0⟩
