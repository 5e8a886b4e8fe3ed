/-! judge -/
theorem lg_ge (x y : Int64) : (0 ≤ lg_cmp x y) ↔ y ≤ x := by
  have h := lg_lt x y
  rw [fa_lt] at h
  rw [fa_le]
  have z0 : (0 : Int32).toInt = 0 := by decide
  by_cases q : y ≤ x
  · refine ⟨fun _ => q, fun _ => ?_⟩
    by_cases q2 : (lg_cmp x y).toInt < (0 : Int32).toInt
    · exact absurd q (h.mp q2)
    · omega
  · refine ⟨fun z => ?_, fun z => absurd z q⟩
    have := h.mpr q
    omega
theorem lg_eq (x y : Int64) : (lg_cmp x y = 0) ↔ x = y := by
  unfold lg_cmp
  by_cases h1 : x > y
  · rw [if_pos h1]
    refine ⟨fun q => absurd q (by decide), fun q => ?_⟩
    exfalso
    rw [q] at h1
    have h2 : y < y := h1
    rw [fa_lt64] at h2
    omega
  · rw [if_neg h1]
    by_cases h2 : x = y
    · rw [if_pos h2]
      exact ⟨fun _ => h2, fun _ => rfl⟩
    · rw [if_neg h2]
      exact ⟨fun q => absurd q (by decide), fun q => absurd q h2⟩
theorem th_to : ∀ n, n ≤ 4 → f_X7_thousandTo (nI n) = some (lN (1000 ^ n)) := by decide +kernel
theorem th_pw : ∀ n, n ≤ 4 → 1000 ^ n ≤ 1000000000000 ∧ 0 < 1000 ^ n ∧ lN (1000 ^ n) ≠ 0 := by decide +kernel
theorem i_m1 (x : Int32) : x + (-1) = x - 1 := (Int32.sub_eq_add_neg x 1).symm
theorem x_take {F : ul_S} {n x : Nat} (hn : 1 ≤ n) (hn4 : n ≤ 4) (hx : x < 9223372036854775808) : ∃ F', f_X1_takeDoings F (nI n) (lN x) = some (if x < 1000 ^ n then 1 else 0, F') ∧ ∀ k, k < n → F' 1 k = nI (x / 1000 ^ (n - 1 - k) % 1000) := by
  have key := ul_run (b := f_X1_takeDoings_L8 (nI n) (lN x)) (fun i s => i ≤ n ∧ s.1 = lN (x / 1000 ^ (n - i)) ∧ s.2.1 = nI i - 1 ∧ ∀ k, i ≤ k → k < n → s.2.2 1 k = nI (x / 1000 ^ (n - 1 - k) % 1000)) (fun r => r.1 = lN (x / 1000 ^ n) ∧ ∀ k, k < n → r.2.2 1 k = nI (x / 1000 ^ (n - 1 - k) % 1000))
    (by
      rintro ⟨s1, s2, s3⟩ ⟨-, e1, e2, e3⟩
      dsimp only at e1 e2 e3
      refine ⟨(s1, s2, s3), ?_, e1, fun k hk => e3 k (by omega) hk⟩
      unfold f_X1_takeDoings_L8
      dsimp only
      rw [e2, if_pos (by decide)])
    (by
      rintro i ⟨s1, s2, s3⟩ ⟨hi, e1, e2, e3⟩
      dsimp only at e1 e2 e3
      left
      obtain ⟨y, ey⟩ : ∃ y, y = x / 1000 ^ (n - (i + 1)) := ⟨_, rfl⟩
      have hy : y ≤ x := by rw [ey]; exact Nat.div_le_self _ _
      rw [← ey] at e1
      rw [nI_pred] at e2
      have er := pk_lRem (a := y) (b := 1000) (by omega) (by omega) (by omega)
      have ed := pk_lDiv (a := y) (b := 1000) (by omega) (by omega) (by omega)
      have ey2 : y / 1000 = x / 1000 ^ (n - i) := by
        rw [ey, Nat.div_div_eq_div_mul, ← Nat.pow_succ, show (n - (i + 1)).succ = n - i by omega]
      refine ⟨(lN (y / 1000), nI i + (-1), ul_up s3 1 i (nI (y % 1000))), ?_, by omega, by rw [ey2], i_m1 _, ?_⟩
      · unfold f_X1_takeDoings_L8
        dsimp only
        rw [e2, if_neg (nI_pos (by omega)), e1]
        have er' : lN y - lN y / (1000 : Int64) * (1000 : Int64) = lN (y % 1000) := er
        have ed' : lN y / (1000 : Int64) = lN (y / 1000) := ed
        rw [er', ed', lN_i, ul_stN (by omega) (by omega)]
        rfl
      · intro k h1 h2
        dsimp only
        by_cases hki : k = i
        · subst hki
          rw [ul_up_s, ey, show n - 1 - k = n - (k + 1) by omega]
        · rw [ul_up_i hki]
          exact e3 k (by omega) h2)
    ul_N n (lN x, nI n - 1, F) ⟨Nat.le_refl n, by rw [Nat.sub_self, Nat.pow_zero, Nat.div_one], rfl, fun k h1 h2 => by omega⟩ (by rw [ul_N_v]; omega)
  obtain ⟨⟨r1, r2, r3⟩, hr, y1, y2⟩ := key
  dsimp only at y1 y2
  refine ⟨r3, ?_, y2⟩
  unfold f_X1_takeDoings f_X1_takeDoings_j41
  rw [ul_bdE, hr, Option.bind_some]
  dsimp only
  have hz : (lg_cmp r1 0 = 0) ↔ x < 1000 ^ n := by
    rw [lg_eq, y1]
    have : x / 1000 ^ n ≤ x := Nat.div_le_self _ _
    have e0 : (0 : Int64) = lN 0 := rfl
    rw [e0, pk_lEQ (by omega) (by omega)]
    have hp := (th_pw n hn4).2.1
    constructor
    · intro q
      rcases (Nat.div_eq_zero_iff).mp q with z | z
      · omega
      · exact z
    · intro q
      exact Nat.div_eq_of_lt q
  by_cases hq : x < 1000 ^ n
  · rw [if_pos (hz.mpr hq), if_pos hq]
  · rw [if_neg (fun z => hq (hz.mp z)), if_neg hq]
theorem ul_zb1 {β : Type} {k : Option β} : ul_zb (1 : Int32) k = k := rfl
theorem ul_zb0 {β : Type} {k : Option β} : ul_zb (0 : Int32) k = k := rfl
theorem n10 : ¬ (1 : Int32) = 0 := by decide
/-- one told thing on both trial streets -/
theorem x_told {nl np : Nat} {K M T : ul_S} {g : Nat → Int32} {gb a b x : Nat} (hk : ul_mk nl np K M) (h : ul_ss nl np K T g 4 gb np) (hgb : gb ≤ 1000000000) (ha : a < 10) (hb : b < 10) (hx : x < 10) : ∃ r T' g', f_X1_doTold T K (nI a) (nI b) (nI x) = some (r, T') ∧ f_X7_tryThing (ul_sg M 23 g) (nI a) (nI b) (nI x) = some (r, ul_sg M 23 g') ∧ (r = 0 ∨ (r = 1 ∧ ul_ss nl np K T' g' 4 (gb + 1000) np)) := by
  have hk' := hk
  obtain ⟨q4, q5, hK0, hM0, hK1, hM1, -⟩ := hk'
  have hM0' : ul_sg M 23 g 0 0 = nI nl := by rw [sg_00]; exact hM0
  have hM1' : ul_sg M 23 g 0 1 = nI np := by rw [sg_00]; exact hM1
  have hkeep := ss_mono h (Nat.le_refl 4) (show gb ≤ gb + 1000 by omega)
  have h10 : ¬ (1 : Int32) = 0 := by decide
  unfold f_X1_doTold f_X1_canBe f_X7_tryThing
  rw [hK0, hK1]
  by_cases a0 : a = 0
  · subst a0
    obtain ⟨got, T', g', y1, y2, y3⟩ := sw_day (lv := 1) (go := 31) (st := 0) (by omega) hk h hgb (fun p hp => ul_bt31 p (by omega))
    have y2' : f_X7_passOn (ul_sg M 23 g) 1 0 = some (got, ul_sg M 23 g') := y2
    rw [if_pos (show nI 0 = 0 from rfl), if_pos (show nI 0 = 0 from rfl), if_pos (show nI 0 = 0 from rfl), y1, y2', Option.bind_some, Option.bind_some]
    by_cases c1 : nI b = 0
    · rw [if_pos c1, if_pos c1]
      by_cases c2 : nI x = 0
      · rw [if_pos c2, if_pos c2, Option.bind_some, if_neg h10]
        exact ⟨1, T', g', rfl, rfl, Or.inr ⟨rfl, y3⟩⟩
      · rw [if_neg c2, if_neg c2, Option.bind_some, if_pos rfl]
        exact ⟨0, T, g', rfl, rfl, Or.inl rfl⟩
    · rw [if_neg c1, if_neg c1, Option.bind_some, if_pos rfl]
      exact ⟨0, T, g', rfl, rfl, Or.inl rfl⟩
  · have n0 : ¬ nI a = 0 := nI_ne0 (by omega) (by omega)
    rw [if_neg n0, if_neg n0, if_neg n0]
    by_cases a1 : a = 1
    · subst a1
      have p1 : nI 1 = 1 := rfl
      rw [if_pos p1, if_pos p1, if_pos p1]
      by_cases c1 : b < nl
      · rw [if_neg (nI_ge c1 (by omega))]
        rcases tr_move (l := b) hk h hx c1 with ⟨e1, e2⟩ | ⟨e1, e2, T', e3, e4⟩
        · rw [e1, e2, Option.bind_some, if_pos rfl, Option.bind_some, if_pos rfl, Option.bind_some, if_pos rfl, ul_zb0]
          exact ⟨0, T, g, rfl, rfl, Or.inl rfl⟩
        · have i23 : (23 : Int32) + nI b = nI (23 + b) := nI_add 23 b
          rw [e1, e2, Option.bind_some, if_neg h10, Option.bind_some, if_neg h10, Option.bind_some, if_neg h10, e3, Option.bind_some, i23, ul_stN (by omega) (by omega), sg_up (by omega), ul_zb1]
          exact ⟨1, T', upd g b (nI x), rfl, rfl, Or.inr ⟨rfl, ss_mono e4 (Nat.le_refl 4) (by omega)⟩⟩
      · rw [if_pos (nI_le (by omega) (by omega)), Option.bind_some, if_pos rfl]
        have e2 : f_X7_canMove (ul_sg M 23 g) 1 (nI b) (nI x) = some 0 := by
          unfold f_X7_canMove
          rw [ml_n (nl := nl) (by omega) hM0' (by omega) (by omega), Option.bind_some, if_pos rfl]
        rw [e2, Option.bind_some, if_pos rfl, ul_zb0]
        exact ⟨0, T, g, rfl, rfl, Or.inl rfl⟩
    · have n1 : ¬ nI a = 1 := nI_ne (b := 1) (by omega) (by omega) a1
      rw [if_neg n1, if_neg n1, if_neg n1]
      by_cases a2 : a = 2
      · subst a2
        have p2 : nI 2 = 2 := rfl
        rw [if_pos p2, if_pos p2, if_pos p2]
        unfold f_X7_tryThing_j100 f_X7_tryThing_j101
        by_cases c1 : nI b = 0
        · rw [if_pos c1, if_pos c1]
          by_cases c2 : x < nl
          · have e2 : f_X7_comeDown (ul_sg M 23 g) 1 (nI x) = some (ul_sg M 23 (upd (upd g (4 + x) 0) (8 + x) 0)) := mm_down (lv := 1) (by omega) (by omega)
            rw [if_neg (nI_ge c2 (by omega)), Option.bind_some, if_neg h10, ml_y (nl := nl) (by omega) hM0' c2, Option.bind_some, if_neg h10, if_neg h10, cc_down (by omega), Option.bind_some, e2, Option.bind_some, ul_zb1]
            exact ⟨1, _, _, rfl, rfl, Or.inr ⟨rfl, ss_mono (ss_man q4 q5 h c2) (Nat.le_refl 4) (by omega)⟩⟩
          · rw [if_pos (nI_le (by omega) (by omega)), Option.bind_some, if_pos rfl, ml_n (nl := nl) (by omega) hM0' (by omega) (by omega), Option.bind_some, if_pos rfl, if_pos rfl, ul_zb0]
            exact ⟨0, T, g, rfl, rfl, Or.inl rfl⟩
        · rw [if_neg c1, if_neg c1, Option.bind_some, if_pos rfl, if_pos rfl, ul_zb0]
          exact ⟨0, T, g, rfl, rfl, Or.inl rfl⟩
      · have n2 : ¬ nI a = 2 := nI_ne (b := 2) (by omega) (by omega) a2
        rw [if_neg n2, if_neg n2, if_neg n2]
        by_cases a3 : a = 3
        · subst a3
          have p3 : nI 3 = 3 := rfl
          rw [if_pos p3, if_pos p3, if_pos p3]
          unfold f_X7_tryThing_j133 f_X7_tryThing_j134
          by_cases c1 : b < np
          · rw [if_neg (nI_ge c1 (by omega)), mp_y (np := np) (by omega) hM1' c1, Option.bind_some, if_neg h10]
            by_cases c2 : nI x ≤ 0
            · rw [if_pos c2, if_pos c2, Option.bind_some, if_pos rfl, if_pos rfl, ul_zb0]
              exact ⟨0, T, g, rfl, rfl, Or.inl rfl⟩
            · have e2 : f_X7_giveOn (ul_sg M 23 g) 1 (nI b) (nI x) = some (ul_sg M 23 (upd g (17 + b) (sp_99 (g (17 + b) + nI x)))) := mm_give (lv := 1) (x := nI x) (by omega) (by omega)
              rw [if_neg c2, if_neg c2, Option.bind_some, if_neg h10, if_neg h10, cc_endow (by omega), Option.bind_some, e2, Option.bind_some, ul_zb1]
              exact ⟨1, _, _, rfl, rfl, Or.inr ⟨rfl, ss_mono (ss_endow (n := x) q4 q5 h c1 (by omega)) (Nat.le_refl 4) (by omega)⟩⟩
          · rw [if_pos (nI_le (by omega) (by omega)), mp_n (np := np) (by omega) hM1' (by omega) (by omega), Option.bind_some, Option.bind_some, if_pos rfl, if_pos rfl, if_pos rfl, ul_zb0]
            exact ⟨0, T, g, rfl, rfl, Or.inl rfl⟩
        · have n3 : ¬ nI a = 3 := nI_ne (b := 3) (by omega) (by omega) a3
          rw [if_neg n3, if_neg n3, if_neg n3]
          by_cases a4 : a = 4
          · subst a4
            have p4 : nI 4 = 4 := rfl
            rw [if_pos p4, if_pos p4]
            by_cases c1 : b < np
            · have i40 : (40 : Int32) + nI b = nI (23 + (17 + b)) := by rw [show 23 + (17 + b) = 40 + b by omega]; exact nI_add 40 b
              rw [if_neg (nI_ge c1 (by omega)), mp_y (np := np) (by omega) hM1' c1, Option.bind_some, if_neg h10, i40]
              simp (disch := omega) only [ul_ldN, sg_6]
              rw [(h.2.2.2.1 b c1).1]
              by_cases c2 : g (17 + b) < nI x
              · rw [if_pos c2, if_pos c2, Option.bind_some, if_pos rfl]
                exact ⟨0, T, g, rfl, rfl, Or.inl rfl⟩
              · rw [if_neg c2, if_neg c2, Option.bind_some, if_neg h10]
                exact ⟨1, T, g, rfl, rfl, Or.inr ⟨rfl, hkeep⟩⟩
            · rw [if_pos (nI_le (by omega) (by omega)), mp_n (np := np) (by omega) hM1' (by omega) (by omega), Option.bind_some, Option.bind_some, if_pos rfl, if_pos rfl]
              exact ⟨0, T, g, rfl, rfl, Or.inl rfl⟩
          · have n4 : ¬ nI a = 4 := nI_ne (b := 4) (by omega) (by omega) a4
            rw [if_neg n4, if_neg n4, Option.bind_some, if_pos rfl]
            exact ⟨0, T, g, rfl, rfl, Or.inl rfl⟩
theorem e_judge {c : Nat} {U : ul_S} {d : Int64} {L K N J E M : ul_S} {dm : Int64} {P B : ul_F} (hc : c ≤ 600) (h : ul_RR c U d L K N J E M dm P B) (T F : ul_S) (p : Int32) (w : Int64) : ∃ v T' F' M', f_X6_judge K N T F p w = some (v, T', F') ∧ f_X7_judge M p w = some (v, M') ∧ ul_RR c U d L K N J E M' dm P B := by
  have h0 := h
  obtain ⟨nl, np, h1, h2, -⟩ := h
  have h1' := h1
  obtain ⟨q4, q5, hK0, hM0, hK1, hM1, -⟩ := h1'
  unfold f_X6_judge f_X7_judge
  rcases mi_nm (p := p) (a := 1) (b := 4) (y := 1) (z := 4) rfl rfl (by omega) (by omega) with ⟨n, hn1, hn4, rfl, e3⟩ | ⟨hw, e3⟩
  · obtain ⟨tp1, tp2, tp3⟩ := th_pw n hn4
    rw [e3, Option.bind_some, if_neg n10, if_neg (show ¬ nI n < 1 from nI_nlt (b := 1) (by omega) (by omega)), if_neg (show ¬ 4 < nI n from nI_nlt (a := 4) (by omega) (by omega)), th_to n hn4, Option.bind_some, mi_in, Option.bind_some]
    by_cases hp : 0 ≤ w
    · rw [if_pos ((lg_ge w 0).mpr hp)]
      obtain ⟨x, hx, rfl⟩ := pk_lOf (x := w) (by rw [fa_lt64]; rw [fa_le64] at hp; omega)
      obtain ⟨F', f1, f2⟩ := x_take (F := F) hn1 hn4 (show x < 9223372036854775808 by omega)
      rw [f1, Option.bind_some]
      have hb : (lN x ≤ lN (1000 ^ n) - 1) ↔ x < 1000 ^ n := by
        have es : lN (1000 ^ n) - 1 = lN (1000 ^ n - 1) := lN_sub (a := 1000 ^ n) (b := 1) (by omega)
        rw [es, pk_lLE (by omega) (by omega)]
        omega
      by_cases hx2 : x < 1000 ^ n
      · rw [if_pos (show 0 ≤ lN x ∧ lN x ≤ lN (1000 ^ n) - 1 from ⟨hp, hb.mpr hx2⟩), if_neg n10, if_pos hx2]
        dsimp only
        rw [if_neg n10, mm_lay, Option.bind_some]
        unfold f_X1_firstWrong
        obtain ⟨T1, y1, y2⟩ := st_set T N
        rw [y1, Option.bind_some]
        have key := ul_run2 (b := f_X1_firstWrong_L13 F' N K (nI n)) (c := f_X7_judge_L36 (nI n) (lN x)) (fun i s t => i ≤ n ∧ s.1 = nI (n - i) ∧ t.1 = nI (n - i) ∧ ∃ g, t.2 = ul_sg M 23 g ∧ ul_ss nl np K s.2 g 4 (1000 * c + 1000 * (n - i)) np) (fun r r' => ∃ v T' g', (r = .inl (v, T') ∧ r' = .inl (v, ul_sg M 23 g')) ∨ (r = .inr (v, T') ∧ r' = .inr (v, ul_sg M 23 g')))
          (by
            rintro ⟨s1, s2⟩ ⟨t1, t2⟩ ⟨-, e1, e2, g, e4, e5⟩
            dsimp only at e1 e2 e4 e5
            subst e4
            refine ⟨.inr (s1, s2), .inr (t1, ul_sg M 23 g), ?_, ?_, s1, s2, g, Or.inr ⟨rfl, by rw [e1, e2]⟩⟩
            · unfold f_X1_firstWrong_L13
              dsimp only
              rw [e1, if_pos (nI_le (by omega) (by omega))]
            · unfold f_X7_judge_L36
              dsimp only
              rw [e2, if_pos (nI_le (by omega) (by omega))])
          (by
            rintro i ⟨s1, s2⟩ ⟨t1, t2⟩ ⟨hi, e1, e2, g, e4, e5⟩
            dsimp only at e1 e2 e4 e5
            subst e4
            obtain ⟨k, ek⟩ : ∃ k, k = n - (i + 1) := ⟨_, rfl⟩
            have ek1 : n - i = k + 1 := by omega
            rw [← ek] at e1 e2 e5
            have hkn : k < n := by omega
            obtain ⟨y, ey⟩ : ∃ y, y = x / 1000 ^ (n - 1 - k) % 1000 := ⟨_, rfl⟩
            have hy : y < 1000 := by rw [ey]; exact Nat.mod_lt _ (by omega)
            have d1 : nI y / 100 = nI (y / 100) := pk_div (a := y) (d := 100) (by omega) (by omega) (by omega)
            have d2 : nI y / 10 = nI (y / 10) := pk_div (a := y) (d := 10) (by omega) (by omega) (by omega)
            have d3 : nI (y / 10) - nI (y / 10) / 10 * 10 = nI (y / 10 % 10) := pk_rem (a := y / 10) (d := 10) (by omega) (by omega) (by omega)
            have d4 : nI y - nI y / 10 * 10 = nI (y % 10) := pk_rem (a := y) (d := 10) (by omega) (by omega) (by omega)
            obtain ⟨r, T', g', z1, z2, z3⟩ := x_told (a := y / 100) (b := y / 10 % 10) (x := y % 10) h1 e5 (by omega) (by omega) (by omega) (by omega)
            have hC : f_X1_firstWrong_L13 F' N K (nI n) (s1, s2) = if r = 0 then some (.inl (.inl (nI k, T'))) else some (.inr (nI (k + 1), T')) := by
              unfold f_X1_firstWrong_L13
              dsimp only
              rw [e1, if_neg (nI_ge hkn (by omega))]
              simp (disch := omega) only [ul_ldN]
              rw [f2 k hkn, ← ey, d4, d1, d2, d3, z1, Option.bind_some]
              simp only [ul_bdE, nI_1]
            have hMo : f_X7_judge_L36 (nI n) (lN x) (t1, ul_sg M 23 g) = if r = 0 then some (.inl (.inl (nI k, ul_sg M 23 g'))) else some (.inr (nI (k + 1), ul_sg M 23 g')) := by
              have s1' : nI n - 1 - nI k = nI (n - 1 - k) := by
                have a1 : nI n - 1 = nI (n - 1) := pk_sub (a := n) (b := 1) (by omega)
                rw [a1, pk_sub (by omega)]
              obtain ⟨u1, u2, u3⟩ := th_pw (n - 1 - k) (by omega)
              have u4 : x / 1000 ^ (n - 1 - k) ≤ x := Nat.div_le_self _ _
              have u5 : lN (x / 1000 ^ (n - 1 - k)) - lN (x / 1000 ^ (n - 1 - k)) / (1000 : Int64) * (1000 : Int64) = lN (x / 1000 ^ (n - 1 - k) % 1000) := pk_lRem (b := 1000) (by omega) (by omega) (by omega)
              unfold f_X7_judge_L36
              dsimp only
              rw [e2, if_neg (nI_ge hkn (by omega)), s1', th_to _ (by omega), Option.bind_some]
              unfold ul_nzl
              rw [if_neg u3, pk_lDiv (by omega) u2 (by omega), u5, lN_i, ← ey, ul_bdE, d4, d1, d2, d3, z2, Option.bind_some]
              simp only [ul_bdE, nI_1]
            rw [hC, hMo]
            rcases z3 with z3 | ⟨z3, z4⟩
            · right
              rw [if_pos z3, if_pos z3]
              exact ⟨_, _, rfl, rfl, nI k, T', g', Or.inl ⟨rfl, rfl⟩⟩
            · left
              rw [if_neg (by rw [z3]; decide), if_neg (by rw [z3]; decide)]
              exact ⟨_, _, rfl, rfl, by omega, by rw [ek1], by rw [ek1], g', rfl, ss_mono z4 (Nat.le_refl 4) (by omega)⟩)
          ul_N n (0, T1) (0, ul_sg M 23 (fun i => M 6 i)) ⟨Nat.le_refl n, by rw [Nat.sub_self]; rfl, by rw [Nat.sub_self]; rfl, _, rfl, ss_mono (ss_eqs q4 q5 h2 y2) (Nat.le_refl 4) (by omega)⟩ (by rw [ul_N_v]; omega)
        obtain ⟨r, r', hr, hr', v, T', g', z⟩ := key
        rw [hr, hr', Option.bind_some, Option.bind_some]
        rcases z with ⟨rfl, rfl⟩ | ⟨rfl, rfl⟩
        · exact ⟨_, _, _, _, rfl, rfl, rr_tr h0 g'⟩
        · exact ⟨_, _, _, _, rfl, rfl, rr_tr h0 g'⟩
      · rw [if_neg (show ¬ (0 ≤ lN x ∧ lN x ≤ lN (1000 ^ n) - 1) from fun q => hx2 (hb.mp q.2)), if_pos rfl, if_neg hx2]
        exact ⟨_, _, _, _, rfl, rfl, h0⟩
    · rw [if_neg (fun q => hp ((lg_ge w 0).mp q)), if_neg (show ¬ (0 ≤ w ∧ w ≤ lN (1000 ^ n) - 1) from fun q => hp q.1), if_pos rfl]
      exact ⟨_, _, _, _, rfl, rfl, h0⟩
  · rw [e3, Option.bind_some, if_pos rfl]
    by_cases hw0 : p < 1
    · rw [if_pos hw0]
      exact ⟨_, _, _, _, rfl, rfl, h0⟩
    · rw [if_neg hw0, if_pos (show 4 < p by
        rcases hw with z | z
        · exact absurd z hw0
        · exact z)]
      exact ⟨_, _, _, _, rfl, rfl, h0⟩
