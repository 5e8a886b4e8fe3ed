/-! a street copied; days to come -/
theorem ul_bt31 : ∀ p, p < 5 → (ul_bt 31 p ↔ ¬ ul_bt 0 p) := by decide +kernel
def ul_eqs (T O : ul_S) : Prop := (∀ i, i < 4 → T 1 i = O 1 i) ∧ (∀ i, i < 10 → T 2 i = O 2 i) ∧ (∀ i, i < 4 → T 3 i = O 3 i) ∧ (∀ i, i < 4 → T 4 i = O 4 i) ∧ (∀ i, i < 5 → T 5 i = O 5 i) ∧ (∀ i, i < 5 → T 6 i = O 6 i) ∧ T 0 0 = O 0 0
theorem ss_eqs {nl np : Nat} {K T O : ul_S} {g : Nat → Int32} {mb gb e : Nat} (hnl : nl ≤ 4) (hnp : np ≤ 5) (h : ul_ss nl np K O g mb gb e) (he : ul_eqs T O) : ul_ss nl np K T g mb gb e := by
  obtain ⟨e1, e2, e3, e4, e5, e6, e0⟩ := he
  obtain ⟨hla, hm, hw, hx, hd⟩ := h
  refine ⟨⟨?_, ?_⟩, ?_, ?_, ?_, ?_⟩
  · intro l hl
    rw [e1 l (by omega)]
    exact hla.1 l hl
  · intro a ha
    rw [e2 a ha]
    exact hla.2 a ha
  · intro l hl
    rw [e3 l (by omega), e4 l (by omega)]
    exact hm l hl
  · intro p hp hne
    rw [e5 p (by omega)]
    exact hw p hp hne
  · intro p hp
    rw [e6 p (by omega)]
    exact hx p hp
  · rw [e0]
    exact hd
theorem cp_in {M : ul_S} {j n i : Nat} {f : Nat → Int32} (h : i < n) : ul_cp M j f n j i = f i := by
  unfold ul_cp
  rw [va_up_self, sb_cpy0 h]
theorem cp_j {M : ul_S} {j j' n i : Nat} {f : Nat → Int32} (h : j' ≠ j) : ul_cp M j f n j' i = M j' i := by
  unfold ul_cp
  rw [va_up_ne _ _ h]
theorem st_set (T O : ul_S) : ∃ T', f_X4_setTo T O = some T' ∧ ul_eqs T' O := by
  refine ⟨_, rfl, ?_, ?_, ?_, ?_, ?_, ?_, ?_⟩
  · intro i hi
    rw [ul_up_j (by decide), cp_j (by decide), cp_j (by decide), cp_j (by decide), cp_j (by decide), cp_j (by decide), cp_in hi]
  · intro i hi
    rw [ul_up_j (by decide), cp_j (by decide), cp_j (by decide), cp_j (by decide), cp_j (by decide), cp_in hi]
  · intro i hi
    rw [ul_up_j (by decide), cp_j (by decide), cp_j (by decide), cp_j (by decide), cp_in hi]
  · intro i hi
    rw [ul_up_j (by decide), cp_j (by decide), cp_j (by decide), cp_in hi]
  · intro i hi
    rw [ul_up_j (by decide), cp_j (by decide), cp_in hi]
  · intro i hi
    rw [ul_up_j (by decide), cp_in hi]
  · rw [ul_up_s]
theorem sg_lo {M : ul_S} {g : Nat → Int32} {i : Nat} (h : i < 23) : ul_sg M 23 g 6 i = M 6 i := sg_o (Or.inl h)
/-- the reference's copy for trials -/
theorem mm_lay (M : ul_S) : f_X7_layTrial M = some (ul_sg M 23 (fun i => M 6 i)) := by
  unfold f_X7_layTrial
  have key := ul_run (b := f_X7_layTrial_L2) (fun k s => k ≤ 23 ∧ s.1 = nI (23 - k) ∧ s.2 = ul_sg M 23 (fun i => if i < 23 - k then M 6 i else M 6 (23 + i))) (fun r => r.2 = ul_sg M 23 (fun i => if i < 23 then M 6 i else M 6 (23 + i)))
    (by
      rintro ⟨s1, s2⟩ ⟨-, h1, h2⟩
      dsimp only at h1 h2
      refine ⟨(s1, s2), ?_, h2⟩
      unfold f_X7_layTrial_L2
      dsimp only
      rw [h1, if_pos (by decide)])
    (by
      rintro i ⟨s1, s2⟩ ⟨hi, h1, h2⟩
      dsimp only at h1 h2
      left
      obtain ⟨k, ek⟩ : ∃ k, k = 23 - (i + 1) := ⟨_, rfl⟩
      have ek1 : 23 - i = k + 1 := by omega
      rw [← ek] at h1 h2
      refine ⟨(nI (k + 1), ul_sg M 23 (fun i => if i < k + 1 then M 6 i else M 6 (23 + i))), ?_, ?_⟩
      · unfold f_X7_layTrial_L2
        dsimp only
        have hk23 : ¬ (23 : Int32) ≤ nI k := nI_ge (a := k) (b := 23) (by omega) (by omega)
        have e23 : (23 : Int32) + nI k = nI (23 + k) := nI_add 23 k
        rw [h1, h2, if_neg hk23, e23]
        simp (disch := omega) only [ul_ldN, ul_stN, ul_bdE, nI_1, sg_lo, sg_up]
        congr 3
        congr 1
        funext j
        unfold upd
        by_cases hj : j = k
        · subst hj
          simp
        · simp only [if_neg hj]
          by_cases hj2 : j < k
          · rw [if_pos hj2, if_pos (by omega)]
          · rw [if_neg hj2, if_neg (by omega)]
      · dsimp only
        rw [ek1]
        exact ⟨by omega, rfl, rfl⟩)
    ul_N 23 ((0 : Int32), M) ⟨Nat.le_refl _, rfl, by
      have e : (fun i => if i < 23 - 23 then M 6 i else M 6 (23 + i)) = fun i => M 6 (23 + i) := by
        funext i
        rw [if_neg (by omega)]
      dsimp only
      rw [e, sg_self]⟩ (by rw [ul_N_v]; omega)
  obtain ⟨r, hr, hq⟩ := key
  rw [hr, Option.bind_some]
  unfold f_X7_layTrial_j29
  rw [hq]
  refine congrArg some ?_
  funext j i
  unfold ul_sg
  by_cases h : j = 6 ∧ 23 ≤ i ∧ i < 23 + 23
  · rw [if_pos h, if_pos h]
    dsimp only
    rw [if_pos (by omega)]
  · rw [if_neg h, if_neg h]
/-- n days on the trial street -/
theorem sw_days {nl np : Nat} {K M T : ul_S} {g : Nat → Int32} {gb n : Nat} {go st : Int32} (hk : ul_mk nl np K M) (h : ul_ss nl np K T g 4 gb np) (hgb : gb ≤ 900000000) (hn : n ≤ 40) (hb : ∀ p, p < np → (ul_bt go p ↔ ¬ ul_bt st p)) : ∃ T' g', f_X4_passDays T K (nI n) go = some T' ∧ f_X7_goOn (ul_sg M 23 g) (nI n) st = some (ul_sg M 23 g') ∧ ul_ss nl np K T' g' 4 (gb + 1000 * n) np := by
  have key := ul_run2 (b := f_X4_passDays_L2 K (nI n) go) (c := f_X7_goOn_L2 (nI n) st)
    (fun i s t => i ≤ n ∧ s.1 = nI (n - i) ∧ t.1 = nI (n - i) ∧ ∃ g', t.2 = ul_sg M 23 g' ∧ ul_ss nl np K s.2 g' 4 (gb + 1000 * (n - i)) np)
    (fun r r' => ∃ g', r'.2 = ul_sg M 23 g' ∧ ul_ss nl np K r.2 g' 4 (gb + 1000 * n) np)
    (by
      rintro ⟨s1, s2⟩ ⟨t1, t2⟩ ⟨-, hs1, ht1, g', et, hss⟩
      dsimp only at hs1 ht1 et hss
      refine ⟨(s1, s2), (t1, t2), ?_, ?_, g', et, ?_⟩
      · unfold f_X4_passDays_L2
        dsimp only
        rw [hs1, if_pos (nI_le (by omega) (by omega))]
      · unfold f_X7_goOn_L2
        dsimp only
        rw [ht1, if_pos (nI_le (by omega) (by omega))]
      · rw [Nat.sub_zero] at hss
        exact hss)
    (by
      rintro i ⟨s1, s2⟩ ⟨t1, t2⟩ ⟨hi, hs1, ht1, g', et, hss⟩
      dsimp only at hs1 ht1 et hss
      left
      obtain ⟨k, ek⟩ : ∃ k, k = n - (i + 1) := ⟨_, rfl⟩
      have ek1 : n - i = k + 1 := by omega
      rw [← ek] at hs1 ht1 hss
      obtain ⟨got, T', g2, e1, e2, e3⟩ := sw_day (M := M) (lv := 1) (Nat.le_refl 1) hk hss (by omega) hb
      refine ⟨(nI (k + 1), T'), (nI (k + 1), ul_sg M 23 g2), ?_, ?_, ?_⟩
      · unfold f_X4_passDays_L2
        dsimp only
        rw [hs1, if_neg (nI_ge (by omega) (by omega)), e1, Option.bind_some]
        simp only [ul_bdE, nI_1]
      · unfold f_X7_goOn_L2
        dsimp only
        have e2' : f_X7_passOn (ul_sg M 23 g') (1 : Int32) st = some (got, ul_sg M 23 g2) := e2
        rw [ht1, if_neg (nI_ge (by omega) (by omega)), et, e2', Option.bind_some]
        simp only [ul_bdE, nI_1]
      · dsimp only
        exact ⟨by omega, by rw [ek1], by rw [ek1], g2, rfl, ss_mono e3 (Nat.le_refl _) (by omega)⟩)
    ul_N n ((0 : Int32), T) ((0 : Int32), ul_sg M 23 g) ⟨Nat.le_refl n, by rw [Nat.sub_self]; rfl, by rw [Nat.sub_self]; rfl, g, rfl, by rw [Nat.sub_self]; exact h⟩ (by rw [ul_N_v]; omega)
  obtain ⟨r, r', hr, hr', g', e1, e2⟩ := key
  refine ⟨r.2, g', ?_, ?_, e2⟩
  · unfold f_X4_passDays
    rw [hr, Option.bind_some]
    rfl
  · unfold f_X7_goOn
    rw [hr', Option.bind_some]
    unfold f_X7_goOn_j20
    rw [e1]
/-- the class's and the reference's look ahead -/
theorem sw_ahead {nl np : Nat} {K M N T : ul_S} {gb n : Nat} (hk : ul_mk nl np K M) (h : ul_ss nl np K N (fun i => M 6 i) 4 gb np) (hgb : gb ≤ 900000000) (hn : n ≤ 40) : ∃ T' g', f_X1_goAhead N T K (nI n) = some T' ∧ f_X7_goOn (ul_sg M 23 (fun i => M 6 i)) (nI n) 0 = some (ul_sg M 23 g') ∧ ul_ss nl np K T' g' 4 (gb + 1000 * n) np := by
  obtain ⟨T1, e1, e2⟩ := st_set T N
  have h5 : np ≤ 5 := hk.2.1
  obtain ⟨T', g', e3, e4, e5⟩ := sw_days (M := M) (go := 31) (st := 0) hk (ss_eqs hk.1 hk.2.1 h e2) hgb hn (fun p hp => ul_bt31 p (by omega))
  refine ⟨T', g', ?_, e4, e5⟩
  unfold f_X1_goAhead
  rw [e1, Option.bind_some, e3, Option.bind_some]
