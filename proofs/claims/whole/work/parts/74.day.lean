/-! a day, on both sides -/
theorem sg_00 {M : ul_S} {b i : Nat} {g : Nat → Int32} : ul_sg M b g 0 i = M 0 i := by rw [sg_n (by decide)]
abbrev ul_bt (s : Int32) (p : Nat) : Prop := ((s >>> (nI p &&& 31)) &&& (1 : Int32)) = (1 : Int32)
theorem ss_gold {nl np : Nat} {K T : ul_S} {g : Nat → Int32} {mb gb gb' l : Nat} {v x y : Nat} (hnl : nl ≤ 4) (hnp : np ≤ 5) (h : ul_ss nl np K T g mb gb np) (hl : l < nl) (hx : x ≤ mb) (hy : y ≤ gb) : ul_ss nl np K (ul_up (ul_up T 4 l (nI y)) 3 l (nI x)) (upd (upd g (8 + l) (nI y)) (4 + l) (nI x)) mb gb np := by
  obtain ⟨hla, hm, hw, hx2, hd⟩ := h
  refine ⟨⟨?_, ?_⟩, ?_, ?_, ?_, ?_⟩
  · intro k hk
    rw [ul_up_j (by decide), ul_up_j (by decide), upd_n (by omega), upd_n (by omega)]
    exact hla.1 k hk
  · intro a ha
    rw [ul_up_j (by decide), ul_up_j (by decide)]
    rcases hla.2 a ha with ⟨q1, q2⟩ | ⟨k, q1, q2, q3, q4⟩
    · exact Or.inl ⟨q1, fun k hk => by rw [upd_n (by omega), upd_n (by omega)]; exact q2 k hk⟩
    · exact Or.inr ⟨k, q1, q2, by rw [upd_n (by omega), upd_n (by omega)]; exact q3, fun k2 hk e => q4 k2 hk (by rw [upd_n (by omega), upd_n (by omega)] at e; exact e)⟩
  · intro k hk
    obtain ⟨q1, q2, ⟨x2, q3, q4⟩, y2, q5, q6⟩ := hm k hk
    by_cases hkl : k = l
    · subst hkl
      rw [ul_up_s, upd_s, ul_up_j (by decide), ul_up_s, upd_n (by omega), upd_s]
      exact ⟨rfl, rfl, ⟨x, hx, rfl⟩, y, hy, rfl⟩
    · rw [ul_up_i hkl, ul_up_i hkl, ul_up_i hkl, ul_up_i hkl, upd_n (by omega), upd_n (by omega), upd_n (by omega), upd_n (by omega)]
      exact ⟨q1, q2, ⟨x2, q3, q4⟩, y2, q5, q6⟩
  · intro q hq hne
    rw [ul_up_j (by decide), ul_up_j (by decide), upd_n (by omega), upd_n (by omega)]
    exact hw q hq hne
  · intro q hq
    rw [ul_up_j (by decide), ul_up_j (by decide), upd_n (by omega), upd_n (by omega)]
    exact hx2 q hq
  · rw [ul_up_j (by decide), ul_up_j (by decide), upd_n (by omega), upd_n (by omega)]
    exact hd
theorem sw_day {nl np : Nat} {K M T : ul_S} {g : Nat → Int32} {gb lv : Nat} {go st : Int32} (hv : lv ≤ 1) (hk : ul_mk nl np K M) (h : ul_ss nl np K T g 4 gb np) (hgb : gb ≤ 1000000000) (hb : ∀ p, p < np → (ul_bt go p ↔ ¬ ul_bt st p)) : ∃ got T' g', f_X4_passDay T K go = some (got, T') ∧ f_X7_passOn (ul_sg M (23 * lv) g) (nI lv) st = some (got, ul_sg M (23 * lv) g') ∧ ul_ss nl np K T' g' 4 (gb + 1000) np := by
  have hk0 := hk
  obtain ⟨h4, h5, hK0, hM0, hK1, hM1, hL, hPp⟩ := hk
  -- the people
  have key := ul_run2 (b := f_X4_passDay_L2 K go) (c := f_X7_passOn_L8 (nI lv) st ((23 : Int32) * nI lv))
    (fun i s t => i ≤ np ∧ s.1 = nI (np - i) ∧ t.1 = nI (np - i) ∧ ∃ g', t.2 = ul_sg M (23 * lv) g' ∧ ul_ss nl np K s.2 g' (4 + 891 * (np - i)) gb np)
    (fun r r' => ∃ g', r'.2 = ul_sg M (23 * lv) g' ∧ ul_ss nl np K r.2 g' (4 + 891 * np) gb np)
    (by
      rintro ⟨s1, s2⟩ ⟨t1, t2⟩ ⟨-, hs1, ht1, g', et, hss⟩
      dsimp only at hs1 ht1 et hss
      refine ⟨(s1, s2), (t1, t2), ?_, ?_, g', et, ?_⟩
      · unfold f_X4_passDay_L2
        dsimp only
        rw [hs1, hK1, if_pos (nI_le (by omega) (by omega))]
      · unfold f_X7_passOn_L8
        dsimp only
        rw [ht1, et, if_pos (by rw [sg_00, hM1]; exact nI_le (by omega) (by omega))]
      · rw [Nat.sub_zero] at hss
        exact hss)
    (by
      rintro i ⟨s1, s2⟩ ⟨t1, t2⟩ ⟨hi, hs1, ht1, g', et, hss⟩
      dsimp only at hs1 ht1 et hss
      left
      obtain ⟨p, ep⟩ : ∃ p, p = np - (i + 1) := ⟨_, rfl⟩
      have ep1 : np - i = p + 1 := by omega
      rw [← ep] at hs1 ht1 hss
      have hp : p < np := by omega
      have hc : f_X4_passDay_L2 K go (s1, s2) = if ul_bt go p then (f_X4_walk s2 K (nI p)).bind (fun u => some (Sum.inr (nI (p + 1), u))) else some (Sum.inr (nI (p + 1), s2)) := by
        unfold f_X4_passDay_L2 f_X4_passDay_j27
        dsimp only
        rw [hs1, hK1, if_neg (nI_ge (by omega) (by omega))]
        simp only [ul_bdE, nI_1]
      have hm : f_X7_passOn_L8 (nI lv) st ((23 : Int32) * nI lv) (t1, t2) = if ul_bt st p then some (Sum.inr (nI (p + 1), ul_sg M (23 * lv) g')) else (f_X7_walk (ul_sg M (23 * lv) g') (nI lv) (nI p)).bind (fun u => some (Sum.inr (nI (p + 1), u))) := by
        unfold f_X7_passOn_L8 f_X7_passOn_j33 f_X7_has
        dsimp only
        rw [ht1, et, if_neg (by rw [sg_00, hM1]; exact nI_ge (by omega) (by omega))]
        simp only [ul_bdE, nI_1]
        by_cases hbp : ul_bt st p
        · rw [if_pos hbp]
          have hbp2 : ((st >>> (nI p &&& 31)) &&& (1 : Int32)) = (1 : Int32) := hbp
          rw [if_pos hbp2]
          rfl
        · rw [if_neg hbp]
          have hbp2 : ¬ ((st >>> (nI p &&& 31)) &&& (1 : Int32)) = (1 : Int32) := hbp
          rw [if_neg hbp2]
          rfl
      by_cases hbp : ul_bt st p
      · have hgo : ¬ ul_bt go p := fun q => (hb p hp).mp q hbp
        refine ⟨_, _, by rw [hc, if_neg hgo], by rw [hm, if_pos hbp], ?_⟩
        dsimp only
        exact ⟨by omega, by rw [ep1], by rw [ep1], g', rfl, ss_mono hss (by omega) (Nat.le_refl _)⟩
      · have hgo : ul_bt go p := (hb p hp).mpr hbp
        obtain ⟨T', g2, e1, e2, e3⟩ := sw_walk hv hk0 hss hp (by omega)
        refine ⟨_, _, by rw [hc, if_pos hgo, e1, Option.bind_some], by rw [hm, if_neg hbp, e2, Option.bind_some], ?_⟩
        dsimp only
        exact ⟨by omega, by rw [ep1], by rw [ep1], g2, rfl, ss_mono e3 (by omega) (Nat.le_refl _)⟩)
    ul_N np ((0 : Int32), T) ((0 : Int32), ul_sg M (23 * lv) g) ⟨Nat.le_refl np, by rw [Nat.sub_self]; rfl, by rw [Nat.sub_self]; rfl, g, rfl, by rw [Nat.sub_self]; exact h⟩ (by rw [ul_N_v]; omega)
  obtain ⟨r, r', hr, hr', g1, er', hss1⟩ := key
  -- the men
  have hss2 := ss_mono hss1 (show 4 + 891 * np ≤ 4459 by omega) (show gb ≤ gb + 900 by omega)
  have hgold : ∀ l, l < nl → ∃ y, y ≤ gb ∧ g1 (8 + l) = nI y := fun l hl => (hss1.2.1 l hl).2.2.2
  have key2 := ul_run2 (b := f_X4_passDay_L37 K go) (c := f_X7_passOn_L45 (nI lv) st ((23 : Int32) * nI lv))
    (fun i s t => i ≤ nl ∧ s.2.1 = nI (nl - i) ∧ t.2.1 = nI (nl - i) ∧ s.1 = t.1 ∧ ∃ g', t.2.2 = ul_sg M (23 * lv) g' ∧ ul_ss nl np K s.2.2 g' 4459 (gb + 900) np ∧ (∀ l, l < nl - i → ∃ x, x ≤ 4 ∧ g' (4 + l) = nI x) ∧ ∀ l, nl - i ≤ l → l < nl → ∃ y, y ≤ gb ∧ g' (8 + l) = nI y)
    (fun q q' => q.1 = q'.1 ∧ ∃ g', q'.2.2 = ul_sg M (23 * lv) g' ∧ ul_ss nl np K q.2.2 g' 4459 (gb + 900) np ∧ ∀ l, l < nl → ∃ x, x ≤ 4 ∧ g' (4 + l) = nI x)
    (by
      rintro ⟨s1, s2, s3⟩ ⟨t1, t2, t3⟩ ⟨-, hs1, ht1, hst, g', et, hss, hlo, -⟩
      dsimp only at hs1 ht1 hst et hss
      refine ⟨(s1, s2, s3), (t1, t2, t3), ?_, ?_, hst, g', et, hss, ?_⟩
      · unfold f_X4_passDay_L37
        dsimp only
        rw [hs1, hK0, if_pos (nI_le (by omega) (by omega))]
      · unfold f_X7_passOn_L45
        dsimp only
        rw [ht1, et, if_pos (by rw [sg_00, hM0]; exact nI_le (by omega) (by omega))]
      · intro l hl
        exact hlo l (by omega))
    (by
      rintro i ⟨s1, s2, s3⟩ ⟨t1, t2, t3⟩ ⟨hi, hs1, ht1, hst, g', et, hss, hlo, hhi⟩
      dsimp only at hs1 ht1 hst et hss
      left
      obtain ⟨l, el⟩ : ∃ l, l = nl - (i + 1) := ⟨_, rfl⟩
      have el1 : nl - i = l + 1 := by omega
      rw [← el] at hs1 ht1 hlo hhi
      have hl : l < nl := by omega
      obtain ⟨q1, q2, ⟨x, hx, ex⟩, -⟩ := hss.2.1 l hl
      obtain ⟨y, hy, ey⟩ := hhi l (Nat.le_refl l) hl
      have hd5 : nI x / 5 = nI (x / 5) := pk_div (d := 5) (by omega) (by decide) (by decide)
      have hm5 : nI (x / 5) * 5 = nI (x / 5 * 5) := pk_mul (x / 5) 5
      have hm5' : 5 * nI (x / 5) = nI (x / 5 * 5) := by
        have := pk_mul 5 (x / 5)
        rw [Nat.mul_comm 5 (x / 5)] at this
        exact this
      have hsub : nI x - nI (x / 5 * 5) = nI (x % 5) := by
        rw [pk_sub (by omega)]
        congr 1
        omega
      refine ⟨(s1 + nI (x / 5), nI (l + 1), ul_up (ul_up s3 4 l (nI (y + x / 5))) 3 l (nI (x % 5))), (t1 + nI (x / 5), nI (l + 1), ul_sg M (23 * lv) (upd (upd g' (8 + l) (nI (y + x / 5))) (4 + l) (nI (x % 5)))), ?_, ?_, ?_⟩
      · unfold f_X4_passDay_L37
        dsimp only
        rw [hs1, hK0, if_neg (nI_ge (by omega) (by omega))]
        simp (disch := omega) only [ul_ldN, ul_bdE, ul_stN, nI_1]
        rw [ul_up_j (by decide), q1, q2, ex, ey, hd5, hm5, nI_add, hsub]
      · unfold f_X7_passOn_L45
        dsimp only
        rw [ht1, et, if_neg (by rw [sg_00, hM0]; exact nI_ge (by omega) (by omega))]
        simp (disch := omega) only [ul_ldN, ul_bdE, ul_stN, nI_1, ix_4, ix_8, sg_6, sg_up, upd_n, ex, ey, hd5, hm5', nI_add, hsub]
      · dsimp only
        refine ⟨by omega, by rw [el1], by rw [el1], by rw [hst], _, rfl, ss_gold (gb' := 0) (v := 0) h4 h5 hss hl (by omega) (by omega), ?_, ?_⟩
        · intro k hk
          by_cases hkl : k = l
          · subst hkl
            exact ⟨x % 5, by omega, by rw [upd_s]⟩
          · rw [upd_n (by omega), upd_n (by omega)]
            exact hlo k (by omega)
        · intro k hk hk2
          rw [upd_n (by omega), upd_n (by omega)]
          exact hhi k (by omega) hk2)
    ul_N nl ((0 : Int32), (0 : Int32), r.2) ((0 : Int32), (0 : Int32), r'.2) ⟨Nat.le_refl nl, by rw [Nat.sub_self]; rfl, by rw [Nat.sub_self]; rfl, rfl, g1, er', hss2, fun l hl => by omega, fun l _ hl => hgold l hl⟩ (by rw [ul_N_v]; omega)
  obtain ⟨⟨a1, a2, a3⟩, ⟨c1, c2, c3⟩, ha, hc, hac, g2, ec, hss3, hlow⟩ := key2
  dsimp only at hac ec hss3
  refine ⟨a1, ul_up a3 0 0 (a3 0 0 + 1), upd g2 22 (g2 22 + 1), ?_, ?_, ?_⟩
  · unfold f_X4_passDay
    rw [hr, Option.bind_some]
    unfold f_X4_passDay_j33
    rw [ha, Option.bind_some]
    unfold f_X4_passDay_j93
    rfl
  · unfold f_X7_passOn
    rw [ul_bdE, hr', Option.bind_some]
    unfold f_X7_passOn_j39
    rw [hc, Option.bind_some]
    unfold f_X7_passOn_j117
    dsimp only
    rw [ec, hac]
    simp (disch := omega) only [ul_bdE, ix_22, ul_ldN, ul_stN, sg_6, sg_up]
  · obtain ⟨hla, hm, hw, hx, hd⟩ := hss3
    refine ⟨⟨?_, ?_⟩, ?_, ?_, ?_, ?_⟩
    · intro l hl
      rw [ul_up_j (by decide), upd_n (by omega)]
      exact hla.1 l hl
    · intro a ha2
      rw [ul_up_j (by decide)]
      rcases hla.2 a ha2 with ⟨q1, q2⟩ | ⟨k, q1, q2, q3, q4⟩
      · exact Or.inl ⟨q1, fun k hk => by rw [upd_n (by omega)]; exact q2 k hk⟩
      · exact Or.inr ⟨k, q1, q2, by rw [upd_n (by omega)]; exact q3, fun k2 hk e => q4 k2 hk (by rw [upd_n (by omega)] at e; exact e)⟩
    · intro l hl
      obtain ⟨q1, q2, -, y, q5, q6⟩ := hm l hl
      rw [ul_up_j (by decide), ul_up_j (by decide), upd_n (by omega), upd_n (by omega)]
      exact ⟨q1, q2, hlow l hl, y, by omega, q6⟩
    · intro q hq hne
      rw [ul_up_j (by decide), upd_n (by omega)]
      exact hw q hq hne
    · intro q hq
      rw [ul_up_j (by decide), upd_n (by omega)]
      exact hx q hq
    · rw [ul_up_s, upd_s, hd]
