/-! lost; sums; count; person -/
theorem x_lost {nl np : Nat} {K M N : ul_S} {p : Nat} (hk : ul_mk nl np K M) (hp : p < np) : ∀ (i : Nat), i ≤ 20 → ∀ (T : ul_S) (g : Nat → Int32) (gb F1 F2 : Nat), ul_ss nl np K T g 4 gb np → gb ≤ 900000000 + 1000 * (20 - i) → i < F1 → i + 1 < F2 → ∃ v T' g', ((ul_it F1 (f_X1_daysToNothing_L13 N K (nI p)) (nI (20 - i), T)).bind (Sum.elim (fun z => some z) (fun e13 => f_X1_daysToNothing_j49 N K (nI p) e13.1 e13.2))) = some (v, T') ∧ ((ul_it F2 (f_X7_lost_L16 (nI p)) (nI (20 - i), ul_sg M 23 g)).bind (Sum.elim (fun z => some z) (fun e16 => f_X7_lost_j49 (nI p) e16.1 e16.2))) = some (v, ul_sg M 23 g') := by
  have h5 : np ≤ 5 := hk.2.1
  have a40 : (40 : Int32) + nI p = nI (23 + (17 + p)) := by
    have := nI_add 40 p
    rw [show 40 + p = 23 + (17 + p) by omega] at this
    exact this
  intro i
  induction i with
  | zero =>
    intro _ T g gb F1 F2 hss hgb hF1 hF2
    obtain ⟨F1', rfl⟩ : ∃ f, F1 = f + 1 := ⟨F1 - 1, by omega⟩
    obtain ⟨F2', rfl⟩ : ∃ f, F2 = f + 1 + 1 := ⟨F2 - 2, by omega⟩
    obtain ⟨e1, -⟩ := hss.2.2.2.1 p hp
    have hc : f_X1_daysToNothing_L13 N K (nI p) (nI (20 - 0), T) = some (.inl (.inr (nI 20, T))) := by
      unfold f_X1_daysToNothing_L13
      dsimp only
      rw [if_pos (by decide)]
    have hm : f_X7_lost_L16 (nI p) (nI (20 - 0), ul_sg M 23 g) = if g (17 + p) = 0 then some (.inl (.inl (nI 20, ul_sg M 23 g))) else ((f_X7_passOn (ul_sg M 23 g) (1 : Int32) (0 : Int32)).bind fun u8 => some (.inr (nI 21, u8.2))) := by
      unfold f_X7_lost_L16
      dsimp only
      rw [if_neg (by decide), a40]
      simp (disch := omega) only [ul_ldN, sg_6, ul_bdE]
      rfl
    unfold ul_it
    rw [hc, hm]
    by_cases h0 : g (17 + p) = 0
    · rw [if_pos h0]
      refine ⟨20, T, g, ?_, rfl⟩
      show f_X1_daysToNothing_j49 N K (nI p) (nI 20) T = _
      unfold f_X1_daysToNothing_j49
      simp (disch := omega) only [ul_ldN]
      rw [e1, if_pos h0]
    · rw [if_neg h0]
      obtain ⟨got, T', g2, f1, f2, f3⟩ := sw_day (M := M) (lv := 1) (go := 31) (st := 0) (Nat.le_refl 1) hk hss (by omega) (fun q hq => ul_bt31 q (by omega))
      have f2' : f_X7_passOn (ul_sg M 23 g) (1 : Int32) (0 : Int32) = some (got, ul_sg M 23 g2) := f2
      rw [f2', Option.bind_some]
      refine ⟨-9, T, g2, ?_, ?_⟩
      · show f_X1_daysToNothing_j49 N K (nI p) (nI 20) T = _
        unfold f_X1_daysToNothing_j49
        simp (disch := omega) only [ul_ldN]
        rw [e1, if_neg h0]
      · show ((ul_it (F2' + 1) (f_X7_lost_L16 (nI p)) (nI 21, ul_sg M 23 g2)).bind _) = _
        unfold ul_it
        have hm2 : f_X7_lost_L16 (nI p) (nI 21, ul_sg M 23 g2) = some (.inl (.inr (nI 21, ul_sg M 23 g2))) := by
          unfold f_X7_lost_L16
          dsimp only
          rw [if_pos (by decide)]
        rw [hm2]
        rfl
  | succ i ih =>
    intro hi T g gb F1 F2 hss hgb hF1 hF2
    obtain ⟨F1', rfl⟩ : ∃ f, F1 = f + 1 := ⟨F1 - 1, by omega⟩
    obtain ⟨F2', rfl⟩ : ∃ f, F2 = f + 1 := ⟨F2 - 1, by omega⟩
    obtain ⟨e1, -⟩ := hss.2.2.2.1 p hp
    obtain ⟨k, ek⟩ : ∃ k, k = 20 - (i + 1) := ⟨_, rfl⟩
    have ek1 : 20 - i = k + 1 := by omega
    rw [← ek]
    have hc : f_X1_daysToNothing_L13 N K (nI p) (nI k, T) = if g (17 + p) = 0 then some (.inl (.inl (nI k, T))) else ((f_X4_passDay T K (31 : Int32)).bind fun u12 => some (.inr (nI (k + 1), u12.2))) := by
      unfold f_X1_daysToNothing_L13
      dsimp only
      have h20 : ¬ (20 : Int32) ≤ nI k := nI_ge (a := k) (b := 20) (by omega) (by omega)
      rw [if_neg h20]
      simp (disch := omega) only [ul_ldN, ul_bdE, nI_1]
      rw [e1]
    have hm : f_X7_lost_L16 (nI p) (nI k, ul_sg M 23 g) = if g (17 + p) = 0 then some (.inl (.inl (nI k, ul_sg M 23 g))) else ((f_X7_passOn (ul_sg M 23 g) (1 : Int32) (0 : Int32)).bind fun u8 => some (.inr (nI (k + 1), u8.2))) := by
      unfold f_X7_lost_L16
      dsimp only
      have h21 : ¬ (21 : Int32) ≤ nI k := nI_ge (a := k) (b := 21) (by omega) (by omega)
      rw [if_neg h21, a40]
      simp (disch := omega) only [ul_ldN, sg_6, ul_bdE, nI_1]
    unfold ul_it
    rw [hc, hm]
    by_cases h0 : g (17 + p) = 0
    · rw [if_pos h0, if_pos h0]
      exact ⟨nI k, T, g, rfl, rfl⟩
    · rw [if_neg h0, if_neg h0]
      obtain ⟨got, T', g2, f1, f2, f3⟩ := sw_day (M := M) (lv := 1) (go := 31) (st := 0) (Nat.le_refl 1) hk hss (by omega) (fun q hq => ul_bt31 q (by omega))
      have f2' : f_X7_passOn (ul_sg M 23 g) (1 : Int32) (0 : Int32) = some (got, ul_sg M 23 g2) := f2
      rw [f1, f2', Option.bind_some, Option.bind_some]
      have := ih (by omega) T' g2 (gb + 1000) F1' F2' f3 (by omega) (by omega) (by omega)
      rw [ek1] at this
      exact this
theorem e_lost {c : Nat} {U : ul_S} {d : Int64} {L K N J E M : ul_S} {dm : Int64} {P B : ul_F} (hc : c ≤ 600) (h : ul_RR c U d L K N J E M dm P B) (T : ul_S) (p : Int32) : ∃ v T' M', f_X6_lost K N T p = some (v, T') ∧ f_X7_lost M p = some (v, M') ∧ ul_RR c U d L K N J E M' dm P B := by
  have h0 := h
  obtain ⟨nl, np, h1, h2, -⟩ := h
  have h1' := h1
  obtain ⟨q4, q5, -, -, hK1, hM1, -⟩ := h1'
  unfold f_X6_lost f_X7_lost
  rcases q_per (by omega) hK1 hM1 p with ⟨j, hj, rfl, e1, e2⟩ | ⟨e1, e2⟩
  · rw [e1, e2, Option.bind_some, Option.bind_some, if_neg (show ¬ (1 : Int32) = 0 by decide), if_neg (show ¬ (1 : Int32) = 0 by decide), mm_lay, Option.bind_some]
    unfold f_X1_daysToNothing
    obtain ⟨T1, f1, f2⟩ := st_set T N
    rw [f1, Option.bind_some]
    obtain ⟨v, T', g', g1, g2⟩ := x_lost (N := N) (M := M) (p := j) h1 hj 20 (by omega) T1 (fun i => M 6 i) (1000 * c) ul_N ul_N (ss_eqs q4 q5 h2 f2) (by omega) (by rw [ul_N_v]; omega) (by rw [ul_N_v]; omega)
    rw [Nat.sub_self] at g1 g2
    have g1' : (ul_it ul_N (f_X1_daysToNothing_L13 N K (nI j)) ((0 : Int32), T1)).bind (Sum.elim (fun z => some z) (fun e13 => f_X1_daysToNothing_j49 N K (nI j) e13.1 e13.2)) = some (v, T') := g1
    have g2' : (ul_it ul_N (f_X7_lost_L16 (nI j)) ((0 : Int32), ul_sg M 23 (fun i => M 6 i))).bind (Sum.elim (fun z => some z) (fun e16 => f_X7_lost_j49 (nI j) e16.1 e16.2)) = some (v, ul_sg M 23 g') := g2
    rw [g1', g2', Option.bind_some]
    exact ⟨_, _, _, rfl, rfl, rr_tr h0 g'⟩
  · rw [e1, e2, Option.bind_some, Option.bind_some, if_pos rfl, if_pos rfl]
    exact ⟨_, _, _, rfl, rfl, h0⟩
/-- sums on both sides -/
theorem x_sum {M : ul_S} {g f : Nat → Int32} {lv from_ n : Nat} {b : (Int32 × Int32) → Option ((Int32 × Int32) ⊕ (Int32 × Int32))} (hv : lv ≤ 1) (hf : from_ + n ≤ 23)
    (hb : ∀ (k : Nat) (s : Int32), k ≤ n → b (s, nI k) = if k = n then some (.inl (s, nI k)) else some (.inr (s + f k, nI (k + 1)))) (he : ∀ k, k < n → f k = g (from_ + k)) : ∃ v z, ul_it ul_N b ((0 : Int32), (0 : Int32)) = some (v, z) ∧ f_X7_sumOf (ul_sg M (23 * lv) g) (nI lv) (nI from_) (nI n) = some v := by
  have key := ul_run2 (b := b) (c := f_X7_sumOf_L6 (ul_sg M (23 * lv) g) (nI lv) (nI from_) (nI n)) (fun i s t => i ≤ n ∧ s = t ∧ s.2 = nI (n - i)) (fun r r' => r = r')
    (by
      rintro ⟨s1, s2⟩ t ⟨-, rfl, h2⟩
      dsimp only at h2
      refine ⟨(s1, s2), (s1, s2), ?_, ?_, rfl⟩
      · rw [h2, Nat.sub_zero, hb n s1 (by omega), if_pos rfl]
      · unfold f_X7_sumOf_L6
        dsimp only
        rw [h2, if_pos (nI_le (by omega) (by omega))])
    (by
      rintro i ⟨s1, s2⟩ t ⟨hi, rfl, h2⟩
      dsimp only at h2
      left
      obtain ⟨k, ek⟩ : ∃ k, k = n - (i + 1) := ⟨_, rfl⟩
      have ek1 : n - i = k + 1 := by omega
      rw [← ek] at h2
      refine ⟨(s1 + f k, nI (k + 1)), (s1 + f k, nI (k + 1)), ?_, ?_, by omega, rfl, by rw [ek1]⟩
      · rw [h2, hb k s1 (by omega), if_neg (by omega)]
      · unfold f_X7_sumOf_L6
        dsimp only
        rw [h2, if_neg (nI_ge (by omega) (by omega))]
        have ix : (23 : Int32) * nI lv + nI from_ + nI k = nI (23 * lv + (from_ + k)) := ix_c lv from_ k
        rw [ix]
        simp (disch := omega) only [ul_ldN, sg_6, ul_bdE, nI_1]
        rw [he k (by omega)])
    ul_N n ((0 : Int32), (0 : Int32)) ((0 : Int32), (0 : Int32)) ⟨Nat.le_refl n, rfl, by rw [Nat.sub_self]; rfl⟩ (by rw [ul_N_v]; omega)
  obtain ⟨⟨v, z⟩, r', hr, hr', e⟩ := key
  subst e
  refine ⟨v, z, hr, ?_⟩
  unfold f_X7_sumOf
  rw [hr', Option.bind_some]
  rfl
theorem x_luckP {nl np : Nat} {K M T : ul_S} {g : Nat → Int32} {mb gb e lv : Nat} (hv : lv ≤ 1) (hk : ul_mk nl np K M) (h : ul_ss nl np K T g mb gb e) : ∃ v, f_X4_luckOfPeople T K = some v ∧ f_X7_sumOf (ul_sg M (23 * lv) g) (nI lv) 17 (nI np) = some v := by
  obtain ⟨h4, h5, hK0, hM0, hK1, hM1, -⟩ := hk
  obtain ⟨v, z, e1, e2⟩ := x_sum (M := M) (g := g) (f := T 6) (lv := lv) (from_ := 17) (n := np) (b := f_X4_luckOfPeople_L4 T K) hv (by omega) (by
    intro k s hk
    unfold f_X4_luckOfPeople_L4
    dsimp only
    rw [hK1]
    by_cases hkn : k = np
    · rw [if_pos (nI_le (by omega) (by omega)), if_pos hkn]
    · rw [if_neg (nI_ge (by omega) (by omega)), if_neg hkn]
      simp (disch := omega) only [ul_ldN, ul_bdE, nI_1]) (fun k hk => (h.2.2.2.1 k hk).1)
  refine ⟨v, ?_, e2⟩
  unfold f_X4_luckOfPeople
  rw [e1, Option.bind_some]
  rfl
theorem x_luckM {nl np : Nat} {K M T : ul_S} {g : Nat → Int32} {mb gb e lv : Nat} (hv : lv ≤ 1) (hk : ul_mk nl np K M) (h : ul_ss nl np K T g mb gb e) : ∃ v, f_X4_luckOfMen T K = some v ∧ f_X7_sumOf (ul_sg M (23 * lv) g) (nI lv) 4 (nI nl) = some v := by
  obtain ⟨h4, h5, hK0, hM0, hK1, hM1, -⟩ := hk
  obtain ⟨v, z, e1, e2⟩ := x_sum (M := M) (g := g) (f := T 3) (lv := lv) (from_ := 4) (n := nl) (b := f_X4_luckOfMen_L4 T K) hv (by omega) (by
    intro k s hk
    unfold f_X4_luckOfMen_L4
    dsimp only
    rw [hK0]
    by_cases hkn : k = nl
    · rw [if_pos (nI_le (by omega) (by omega)), if_pos hkn]
    · rw [if_neg (nI_ge (by omega) (by omega)), if_neg hkn]
      simp (disch := omega) only [ul_ldN, ul_bdE, nI_1]) (fun k hk => (h.2.1 k hk).1)
  refine ⟨v, ?_, e2⟩
  unfold f_X4_luckOfMen
  rw [e1, Option.bind_some]
  rfl
theorem x_goldM {nl np : Nat} {K M T : ul_S} {g : Nat → Int32} {mb gb e lv : Nat} (hv : lv ≤ 1) (hk : ul_mk nl np K M) (h : ul_ss nl np K T g mb gb e) : ∃ v, f_X4_goldOfMen T K = some v ∧ f_X7_sumOf (ul_sg M (23 * lv) g) (nI lv) 8 (nI nl) = some v := by
  obtain ⟨h4, h5, hK0, hM0, hK1, hM1, -⟩ := hk
  obtain ⟨v, z, e1, e2⟩ := x_sum (M := M) (g := g) (f := T 4) (lv := lv) (from_ := 8) (n := nl) (b := f_X4_goldOfMen_L4 T K) hv (by omega) (by
    intro k s hk
    unfold f_X4_goldOfMen_L4
    dsimp only
    rw [hK0]
    by_cases hkn : k = nl
    · rw [if_pos (nI_le (by omega) (by omega)), if_pos hkn]
    · rw [if_neg (nI_ge (by omega) (by omega)), if_neg hkn]
      simp (disch := omega) only [ul_ldN, ul_bdE, nI_1]) (fun k hk => (h.2.1 k hk).2.1)
  refine ⟨v, ?_, e2⟩
  unfold f_X4_goldOfMen
  rw [e1, Option.bind_some]
  rfl
