/-! spot -/
theorem sg_ext {M : ul_S} {b : Nat} {g g' : Nat → Int32} (h : ∀ i, i < 23 → g i = g' i) : ul_sg M b g = ul_sg M b g' := by
  funext j i
  unfold ul_sg
  by_cases hc : j = 6 ∧ b ≤ i ∧ i < b + 23
  · rw [if_pos hc, if_pos hc, h _ (by omega)]
  · rw [if_neg hc, if_neg hc]
theorem mm_lay2 (M : ul_S) (g : Nat → Int32) : f_X7_layTrial (ul_sg M 23 g) = some (ul_sg M 23 (fun i => M 6 i)) := by
  rw [mm_lay, sg_sg]
  congr 1
  exact sg_ext (fun i hi => sg_lo hi)
theorem mm_at1 {nl a : Nat} {M T : ul_S} {g : Nat → Int32} (hnl : nl ≤ 4) (hM : M 0 0 = nI nl) (ha : a < 10) (h : ul_la nl T (fun i => M 6 i)) : f_X7_ladderAt (ul_sg M 23 g) 0 (nI a) = some (T 2 a) := by
  refine mm_at0 hnl (by rw [sg_00]; exact hM) ha ?_
  refine ⟨fun l hl => ?_, fun b hb => ?_⟩
  · obtain ⟨x, x1, x2, x3⟩ := h.1 l hl
    exact ⟨x, x1, x2, (sg_lo (show l < 23 by omega)).trans x3⟩
  · have e : ∀ l, l < nl → ul_sg M 23 g 6 l = M 6 l := fun l hl => sg_lo (by omega)
    rcases h.2 b hb with ⟨x1, x2⟩ | ⟨l, x1, x2, x3, x4⟩
    · exact Or.inl ⟨x1, fun l hl q => x2 l hl ((e l hl).symm.trans q)⟩
    · exact Or.inr ⟨l, x1, x2, (e l x1).trans x3, fun k hk q => x4 k hk ((e k hk).symm.trans q)⟩
theorem x_own {nl a l : Nat} {T : ul_S} {g : Nat → Int32} (hnl : nl ≤ 4) (ha : a < 10) (hl : l < nl) (h : ul_la nl T g) : (f_X4_isOwnOrFree T (nI l) (nI a) = some 1 ∧ (g l = nI a ∨ T 2 a = -9) ∧ ∀ k, k < nl → g k = nI a → k = l) ∨ (f_X4_isOwnOrFree T (nI l) (nI a) = some 0 ∧ g l ≠ nI a ∧ T 2 a ≠ -9) := by
  rw [cp_own ha]
  rcases h.2 a ha with ⟨x1, x2⟩ | ⟨k, x1, x2, x3, x4⟩
  · left
    rw [x1]
    refine ⟨?_, Or.inr rfl, fun k hk q => absurd q (x2 k hk)⟩
    split
    · rfl
    · rw [if_pos rfl]
  · rw [x2]
    by_cases hkl : k = l
    · subst hkl
      left
      refine ⟨by rw [if_pos rfl], Or.inl x3, x4⟩
    · right
      refine ⟨?_, fun q => hkl (x4 l hl q).symm, nI_ne9 (by omega)⟩
      rw [if_neg (nI_ne (by omega) (by omega) hkl), if_neg (nI_ne9 (by omega))]
/-- one place tried, on both sides -/
theorem x_try {nl np : Nat} {K M N T : ul_S} {gb l a : Nat} (hk : ul_mk nl np K M) (h : ul_ss nl np K N (fun i => M 6 i) 4 gb np) (hgb : gb ≤ 800000000) (hl : l < nl) (ha : a < 10) (hf : ∀ k, k < nl → M 6 k = nI a → k = l) : ∃ T1 T2 T3 g', f_X4_setTo T N = some T1 ∧ f_X4_put T1 (nI l) (nI a) = some T2 ∧ f_X4_passDays T2 K 6 31 = some T3 ∧ f_X7_goOn (ul_sg M 23 (upd (fun i => M 6 i) l (nI a))) 6 0 = some (ul_sg M 23 g') ∧ ul_ss nl np K T3 g' 4 (gb + 6000) np := by
  have hk' := hk
  obtain ⟨q4, q5, -⟩ := hk'
  obtain ⟨T1, f1, f2⟩ := st_set T N
  have s1 := ss_eqs q4 q5 h f2
  obtain ⟨x, hx, x1, x2⟩ := s1.1.1 l hl
  have s2 := ss_put q4 q5 s1 hl hx x2 ha hf
  obtain ⟨T3, g', y1, y2, y3⟩ := sw_days (n := 6) (go := 31) (st := 0) hk s2 (by omega) (by omega) (fun p hp => ul_bt31 p (by omega))
  exact ⟨T1, _, T3, g', f1, cc_put (by omega) hx ha x1, y1, y2, y3⟩
theorem x_spot {nl np : Nat} {K M N F T : ul_S} {gb l : Nat} {w : Int32} (hk : ul_mk nl np K M) (h : ul_ss nl np K N (fun i => M 6 i) 4 gb np) (hgb : gb ≤ 800000000) (hl : l < nl) : ∃ F' T' g' r1 r2 z1 z2, ul_it ul_N (f_X1_findSpot_L17 N K (nI l)) (-9, 0, ul_up (ul_up F 0 0 (-9)) 0 1 (-9), T) = some (r1, r2, F', T') ∧ ul_it ul_N (f_X7_spot_L35 (nI l) w) (-9, 0, 0, 0, M) = some (F' 0 0, F' 0 1, z1, z2, ul_sg M 23 g') := by
  have hk0 := hk
  obtain ⟨q4, q5, hK0, hM0, -⟩ := hk
  obtain ⟨x, hx, -, ex⟩ := h.1.1 l hl
  have key := ul_run2 (b := f_X1_findSpot_L17 N K (nI l)) (c := f_X7_spot_L35 (nI l) w) (fun i s t => i ≤ 10 ∧ s.2.1 = nI (10 - i) ∧ t.2.2.2.1 = nI (10 - i) ∧ (∃ g, t.2.2.2.2 = ul_sg M 23 g) ∧ ((10 - i ≤ x ∧ s.2.2.1 0 0 = -9 ∧ s.2.2.1 0 1 = -9 ∧ s.1 = -9 ∧ t.1 = -9) ∨ ((∃ b, b < 10 ∧ s.2.2.1 0 0 = nI b) ∧ t.1 = s.2.2.1 0 0 ∧ t.2.1 = s.2.2.1 0 1 ∧ t.2.2.1 = s.1))) (fun r r' => (∃ g, r'.2.2.2.2 = ul_sg M 23 g) ∧ r'.1 = r.2.2.1 0 0 ∧ r'.2.1 = r.2.2.1 0 1)
    (by
      rintro ⟨s1, s2, s3, s4⟩ ⟨t1, t2, t3, t4, t5⟩ ⟨-, e1, e2, e3, e4⟩
      dsimp only at e1 e2 e3 e4
      refine ⟨(s1, s2, s3, s4), (t1, t2, t3, t4, t5), ?_, ?_, e3, ?_⟩
      · unfold f_X1_findSpot_L17
        dsimp only
        rw [e1, if_pos (by decide)]
      · unfold f_X7_spot_L35
        dsimp only
        rw [e2, if_pos (by decide)]
      · rcases e4 with ⟨z, -⟩ | ⟨-, z1, z2, -⟩
        · omega
        · exact ⟨z1, z2⟩)
    (by
      rintro i ⟨s1, s2, s3, s4⟩ ⟨t1, t2, t3, t4, t5⟩ ⟨hi, e1, e2, ⟨g, e3⟩, e4⟩
      dsimp only at e1 e2 e3 e4
      left
      obtain ⟨a, ea⟩ : ∃ a, a = 10 - (i + 1) := ⟨_, rfl⟩
      have ea1 : 10 - i = a + 1 := by omega
      rw [← ea] at e1 e2 e4
      have ha : a < 10 := by omega
      subst e3
      have hat := mm_at1 (g := g) q4 hM0 ha h.1
      have hlo : ul_sg M 23 g 6 l = M 6 l := sg_lo (by omega)
      rcases x_own q4 ha hl h.1 with ⟨o1, o2, o3⟩ | ⟨o1, o2, o3⟩
      · obtain ⟨T1, T2, T3, g', f1, f2, f3, f4, f5⟩ := x_try (T := s4) hk0 h hgb hl ha o3
        obtain ⟨w1, w2, ⟨m, hm, em⟩, v, hv, ev⟩ := f5.2.1 l hl
        have hc : f_X1_findSpot_L17 N K (nI l) (s1, s2, s3, s4) = if s3 0 1 < nI v then some (.inr (nI m, nI (a + 1), ul_up (ul_up s3 0 0 (nI a)) 0 1 (nI v), T3)) else if nI v = s3 0 1 then (if nI m ≤ s1 then some (.inr (s1, nI (a + 1), s3, T3)) else some (.inr (nI m, nI (a + 1), ul_up (ul_up s3 0 0 (nI a)) 0 1 (nI v), T3))) else some (.inr (s1, nI (a + 1), s3, T3)) := by
          unfold f_X1_findSpot_L17 f_X1_findSpot_j115 f_X1_findSpot_j129
          dsimp only
          rw [e1, if_neg (show ¬ (10 : Int32) ≤ nI a from nI_ge (b := 10) (by omega) (by omega)), o1, Option.bind_some, if_neg (show ¬ (1 : Int32) = 0 by decide), f1, Option.bind_some, f2, Option.bind_some, f3, Option.bind_some]
          simp (disch := omega) only [ul_ldN, ul_bdE, nI_1]
          rw [w2, w1, em, ev]
        have hm' : f_X7_spot_L35 (nI l) w (t1, t2, t3, t4, ul_sg M 23 g) = if t1 = -9 ∨ t2 < nI v ∨ (nI v = t2 ∧ ¬ nI m ≤ t3) then some (.inr (nI a, nI v, nI m, nI (a + 1), ul_sg M 23 g')) else some (.inr (t1, t2, t3, nI (a + 1), ul_sg M 23 g')) := by
          have hj : f_X7_spot_j65 (nI l) w t1 t2 t3 (nI a) (ul_sg M 23 g) = if t1 = -9 ∨ t2 < nI v ∨ (nI v = t2 ∧ ¬ nI m ≤ t3) then some (.inr (nI a, nI v, nI m, nI (a + 1), ul_sg M 23 g')) else some (.inr (t1, t2, t3, nI (a + 1), ul_sg M 23 g')) := by
            unfold f_X7_spot_j65
            have i23 : (23 : Int32) + nI l = nI (23 + l) := nI_add 23 l
            have i31 : (31 : Int32) + nI l = nI (23 + (8 + l)) := by rw [show 23 + (8 + l) = 31 + l by omega]; exact nI_add 31 l
            have i27 : (27 : Int32) + nI l = nI (23 + (4 + l)) := by rw [show 23 + (4 + l) = 27 + l by omega]; exact nI_add 27 l
            rw [mm_lay2, Option.bind_some, i23, ul_stN (by omega) (by omega), sg_up (by omega), f4, Option.bind_some, i31, i27]
            simp (disch := omega) only [ul_ldN, sg_6]
            rw [em, ev]
            unfold f_X7_spot_j136 f_X7_spot_j140 f_X7_spot_j141 f_X7_spot_j154 f_X7_spot_j167 f_X7_spot_j181 f_X7_spot_j183
            simp only [ul_bdE, nI_1, if_neg (show ¬ (1 : Int32) = 0 by decide), if_true]
            by_cases c1 : t1 = -9
            · rw [if_pos c1, if_pos (Or.inl c1)]
            · rw [if_neg c1]
              by_cases c2 : t2 < nI v
              · rw [if_pos c2, if_pos (Or.inr (Or.inl c2))]
              · rw [if_neg c2]
                by_cases c3 : nI v = t2
                · rw [if_pos c3]
                  by_cases c4 : nI m ≤ t3
                  · rw [if_pos c4, if_neg (by
                      rintro (z | z | ⟨-, z⟩)
                      · exact c1 z
                      · exact c2 z
                      · exact z c4)]
                  · rw [if_neg c4, if_pos (Or.inr (Or.inr ⟨c3, c4⟩))]
                · rw [if_neg c3, if_neg (by
                    rintro (z | z | ⟨z, -⟩)
                    · exact c1 z
                    · exact c2 z
                    · exact c3 z)]
          unfold f_X7_spot_L35
          dsimp only
          rw [e2, if_neg (show ¬ (10 : Int32) ≤ nI a from nI_ge (b := 10) (by omega) (by omega)), ul_ldN (by omega) (by omega), hlo, hat, Option.bind_some, hj]
          by_cases c : M 6 l = nI a
          · rw [if_pos c]
          · rcases o2 with o2 | o2
            · exact absurd o2 c
            · rw [if_neg c, if_pos o2]
        rw [hc, hm', ea1]
        rcases e4 with ⟨z1, z2, z3, z4, z5⟩ | ⟨⟨b, hb, z0⟩, z1, z2, z3⟩
        · refine ⟨(nI m, nI (a + 1), ul_up (ul_up s3 0 0 (nI a)) 0 1 (nI v), T3), (nI a, nI v, nI m, nI (a + 1), ul_sg M 23 g'), ?_, ?_, by omega, rfl, rfl, ⟨g', rfl⟩, Or.inr ⟨⟨a, ha, ?_⟩, ?_, ?_, rfl⟩⟩
          · rw [if_pos (by rw [z3]; exact Int32.lt_iff_toInt_lt.mpr (by rw [nI_toInt (by omega), show (-9 : Int32).toInt = -9 by decide]; omega))]
          · rw [if_pos (Or.inl z5)]
          · dsimp only
            rw [ul_up_i (by decide), ul_up_s]
          · dsimp only
            rw [ul_up_i (by decide), ul_up_s]
          · dsimp only
            rw [ul_up_s]
        · have hne : ¬ t1 = -9 := by rw [z1, z0]; exact nI_ne9 (by omega)
          by_cases c2 : t2 < nI v
          · refine ⟨(nI m, nI (a + 1), ul_up (ul_up s3 0 0 (nI a)) 0 1 (nI v), T3), (nI a, nI v, nI m, nI (a + 1), ul_sg M 23 g'), ?_, ?_, by omega, rfl, rfl, ⟨g', rfl⟩, Or.inr ⟨⟨a, ha, ?_⟩, ?_, ?_, rfl⟩⟩
            · rw [if_pos (by rw [← z2]; exact c2)]
            · rw [if_pos (Or.inr (Or.inl c2))]
            · dsimp only
              rw [ul_up_i (by decide), ul_up_s]
            · dsimp only
              rw [ul_up_i (by decide), ul_up_s]
            · dsimp only
              rw [ul_up_s]
          · by_cases c3 : nI v = t2 ∧ ¬ nI m ≤ t3
            · refine ⟨(nI m, nI (a + 1), ul_up (ul_up s3 0 0 (nI a)) 0 1 (nI v), T3), (nI a, nI v, nI m, nI (a + 1), ul_sg M 23 g'), ?_, ?_, by omega, rfl, rfl, ⟨g', rfl⟩, Or.inr ⟨⟨a, ha, ?_⟩, ?_, ?_, rfl⟩⟩
              · rw [if_neg (by rw [← z2]; exact c2), if_pos (by rw [← z2]; exact c3.1), if_neg (by rw [← z3]; exact c3.2)]
              · rw [if_pos (Or.inr (Or.inr c3))]
              · dsimp only
                rw [ul_up_i (by decide), ul_up_s]
              · dsimp only
                rw [ul_up_i (by decide), ul_up_s]
              · dsimp only
                rw [ul_up_s]
            · refine ⟨(s1, nI (a + 1), s3, T3), (t1, t2, t3, nI (a + 1), ul_sg M 23 g'), ?_, ?_, by omega, rfl, rfl, ⟨g', rfl⟩, Or.inr ⟨⟨b, hb, z0⟩, z1, z2, z3⟩⟩
              · rw [if_neg (by rw [← z2]; exact c2)]
                by_cases c5 : nI v = t2
                · have c6 : nI m ≤ t3 := by
                    by_cases q : nI m ≤ t3
                    · exact q
                    · exact absurd ⟨c5, q⟩ c3
                  rw [if_pos (by rw [← z2]; exact c5), if_pos (by rw [← z3]; exact c6)]
                · rw [if_neg (by rw [← z2]; exact c5)]
              · rw [if_neg (by
                  rintro (z | z | z)
                  · exact hne z
                  · exact c2 z
                  · exact c3 z)]
      · refine ⟨(s1, nI (a + 1), s3, s4), (t1, t2, t3, nI (a + 1), ul_sg M 23 g), ?_, ?_, by omega, by rw [ea1], by rw [ea1], ⟨g, rfl⟩, ?_⟩
        · unfold f_X1_findSpot_L17 f_X1_findSpot_j129
          dsimp only
          rw [e1, if_neg (show ¬ (10 : Int32) ≤ nI a from nI_ge (b := 10) (by omega) (by omega)), o1, Option.bind_some, if_pos rfl]
          simp only [ul_bdE, nI_1]
        · unfold f_X7_spot_L35 f_X7_spot_j183
          dsimp only
          rw [e2, if_neg (show ¬ (10 : Int32) ≤ nI a from nI_ge (b := 10) (by omega) (by omega)), ul_ldN (by omega) (by omega), hlo, hat, Option.bind_some, if_neg o2, if_neg o3]
          simp only [ul_bdE, nI_1]
        · rw [ea1]
          rcases e4 with ⟨z1, z2⟩ | z
          · refine Or.inl ⟨?_, z2⟩
            have : a ≠ x := fun q => o2 (by rw [q]; exact ex)
            omega
          · exact Or.inr z)
    ul_N 10 (-9, 0, ul_up (ul_up F 0 0 (-9)) 0 1 (-9), T) (-9, 0, 0, 0, M) ⟨Nat.le_refl 10, rfl, rfl, ⟨_, (sg_self M 23).symm⟩, Or.inl ⟨by omega, by
      dsimp only
      rw [ul_up_i (by decide), ul_up_s], by
      dsimp only
      rw [ul_up_s], rfl, rfl⟩⟩ (by rw [ul_N_v]; omega)
  obtain ⟨⟨r1, r2, r3, r4⟩, ⟨t1, t2, t3, t4, t5⟩, hr, hr', ⟨g, e1⟩, e2, e3⟩ := key
  dsimp only at e1 e2 e3
  subst e1
  subst e2
  subst e3
  exact ⟨r3, r4, g, r1, r2, t3, t4, hr, hr'⟩
theorem e_spot {c : Nat} {U : ul_S} {d : Int64} {L K N J E M : ul_S} {dm : Int64} {P B : ul_F} (hc : c ≤ 600) (h : ul_RR c U d L K N J E M dm P B) (T F : ul_S) (p w : Int32) : ∃ v T' F' M', f_X6_spot K N T F p w = some (v, T', F') ∧ f_X7_spot M p w = some (v, M') ∧ ul_RR c U d L K N J E M' dm P B := by
  have h0 := h
  obtain ⟨nl, np, h1, h2, -⟩ := h
  have h1' := h1
  obtain ⟨q4, q5, hK0, hM0, hK1, hM1, -⟩ := h1'
  unfold f_X6_spot f_X7_spot
  rcases q_lad (by omega) hK0 hM0 p with ⟨j, hj, rfl, e1, e2⟩ | ⟨e1, e2⟩
  · rw [e1, e2, Option.bind_some, Option.bind_some, if_neg (show ¬ (1 : Int32) = 0 by decide), if_neg (show ¬ (1 : Int32) = 0 by decide)]
    rcases mi_nm (p := w) (a := 0) (b := 1) (y := 0) (z := 1) rfl rfl (by omega) (by omega) with ⟨k, hk0, hk1, rfl, e3⟩ | ⟨hw, e3⟩
    · rw [e3, Option.bind_some, if_neg (show ¬ (1 : Int32) = 0 by decide), if_neg (nI_pos (by omega)), if_pos (show nI k ≤ 1 from nI_le (b := 1) hk1 (by omega))]
      obtain ⟨F', T', g', r1, r2, z1, z2, f1, f2⟩ := x_spot (F := F) (T := T) (w := nI k) h1 h2 (by omega) hj
      unfold f_X1_findSpot
      rw [ul_bdE, ul_bdE, f1, f2, Option.bind_some, Option.bind_some]
      unfold f_X1_findSpot_j135 f_X7_spot_j189
      dsimp only
      rw [Option.bind_some]
      by_cases hk : nI k = 0
      · rw [if_pos hk, if_pos hk]
        exact ⟨_, _, _, _, rfl, rfl, rr_tr h0 g'⟩
      · rw [if_neg hk, if_neg hk]
        exact ⟨_, _, _, _, rfl, rfl, rr_tr h0 g'⟩
    · rw [e3, Option.bind_some, if_pos rfl]
      by_cases hw0 : w < 0
      · rw [if_pos hw0]
        exact ⟨_, _, _, _, rfl, rfl, h0⟩
      · rw [if_neg hw0, if_neg (show ¬ w ≤ 1 from fun q => by
          rcases hw with z | z
          · exact hw0 z
          · exact absurd q (Int32.not_le.mpr z))]
        exact ⟨_, _, _, _, rfl, rfl, h0⟩
  · rw [e1, e2, Option.bind_some, Option.bind_some, if_pos rfl, if_pos rfl]
    exact ⟨_, _, _, _, rfl, rfl, h0⟩
