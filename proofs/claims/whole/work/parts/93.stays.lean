/-! stays -/
def sp_sum (f : Nat → Nat) : Nat → Nat
  | 0 => 0
  | m + 1 => sp_sum f m + f m
theorem sp_sum_s (f : Nat → Nat) (m : Nat) : sp_sum f (m + 1) = sp_sum f m + f m := rfl
theorem sp_sum_e {f g : Nat → Nat} : ∀ n, (∀ i, i < n → f i = g i) → sp_sum f n = sp_sum g n := by
  intro n
  induction n with
  | zero => intro; rfl
  | succ n ih =>
    intro h
    rw [sp_sum_s, sp_sum_s, ih (fun i hi => h i (by omega)), h n (by omega)]
theorem sp_sum_f : ∀ (n : Nat) (f : Nat → Nat), sp_sum f (n + 1) = f 0 + sp_sum (fun i => f (i + 1)) n := by
  intro n
  induction n with
  | zero => intro f; rw [sp_sum_s]; unfold sp_sum; omega
  | succ n ih =>
    intro f
    rw [sp_sum_s, ih f, sp_sum_s]
    omega
theorem sp_sum_r : ∀ (n : Nat) (f : Nat → Nat), sp_sum (fun q => f (n - 1 - q)) n = sp_sum f n := by
  intro n
  induction n with
  | zero => intro f; rfl
  | succ n ih =>
    intro f
    rw [sp_sum_f, sp_sum_s, ← ih f]
    have e : sp_sum (fun i => f (n + 1 - 1 - (i + 1))) n = sp_sum (fun q => f (n - 1 - q)) n := sp_sum_e n (fun i hi => by
      rw [show n + 1 - 1 - (i + 1) = n - 1 - i by omega])
    rw [e, show n + 1 - 1 - 0 = n by omega]
    omega
theorem sp_sum_l {f g : Nat → Nat} (h : ∀ i, f i ≤ g i) : ∀ n, sp_sum f n ≤ sp_sum g n := by
  intro n
  induction n with
  | zero => exact Nat.le_refl 0
  | succ n ih =>
    rw [sp_sum_s, sp_sum_s]
    have := h n
    omega
def sp_W (np x m : Nat) : Nat := x ^ (np - sp_cnt m) * (10 - x) ^ (sp_cnt m)
theorem st_cn : ∀ n, n ≤ 5 → ∀ q, q < 2 ^ n → sp_cnt q ≤ n ∧ sp_cnt (2 ^ n - 1 - q) = n - sp_cnt q := by decide +kernel
theorem st_ws : ∀ n, n ≤ 5 → ∀ x, x ≤ 10 → sp_sum (sp_W n x) (2 ^ n) = 10 ^ n := by decide +kernel
theorem st_bt2 : ∀ n, n ≤ 5 → ∀ q, q < 2 ^ n → ∀ p, p < n → (ul_bt (nI (2 ^ n - 1 - q)) p ↔ ¬ ul_bt (nI q) p) := by decide +kernel
theorem st_po : ∀ x, x ≤ 10 → ∀ e, e ≤ 5 → f_X7_power (nI x) (nI e) = some (nI (x ^ e)) := by decide +kernel
theorem st_wo : ∀ n, n ≤ 5 → ∀ x, x ≤ 10 → ∀ m, m < 2 ^ n → f_X1_weightOf (fun _ _ => nI n) (nI m) (nI x) = some (nI (sp_W n x m)) := by decide +kernel
theorem st_10 : ∀ n, n ≤ 5 → 10 ^ n ≤ 100000 ∧ 1 ≤ 10 ^ n := by decide +kernel
theorem x_wo {K : ul_S} {n x m : Nat} (hK : K 0 1 = nI n) (hn : n ≤ 5) (hx : x ≤ 10) (hm : m < 2 ^ n) : f_X1_weightOf K (nI m) (nI x) = some (nI (sp_W n x m)) := by
  rw [← st_wo n hn x hx m hm]
  unfold f_X1_weightOf
  have e : f_X1_weightOf_L5 K (nI m) (nI x) = f_X1_weightOf_L5 (fun _ _ => nI n) (nI m) (nI x) := by
    funext q
    unfold f_X1_weightOf_L5 f_X1_weightOf_j36
    rw [hK]
  rw [e]
  rfl
theorem x_dayBy {nl np : Nat} {K M N : ul_S} {gb l q : Nat} (hk : ul_mk nl np K M) (h : ul_ss nl np K N (fun i => M 6 i) 4 gb np) (hgb : gb ≤ 800000) (hl : l < nl) (hq : q < 2 ^ np) : ∃ v g', v ≤ 900000 ∧ g' (8 + l) = nI v ∧ (∃ got, f_X7_passOn (ul_sg M 23 (fun i => M 6 i)) 1 (nI q) = some (got, ul_sg M 23 g')) ∧ ∀ T, ∃ T1 T3 got, f_X4_setTo T N = some T1 ∧ f_X4_passDay T1 K (nI (2 ^ np - 1 - q)) = some (got, T3) ∧ T3 4 l = nI v := by
  have hk' := hk
  obtain ⟨q4, q5, -⟩ := hk'
  have run : ∀ T, ∃ T1 T3 g' got, f_X4_setTo T N = some T1 ∧ f_X4_passDay T1 K (nI (2 ^ np - 1 - q)) = some (got, T3) ∧ f_X7_passOn (ul_sg M 23 (fun i => M 6 i)) 1 (nI q) = some (got, ul_sg M 23 g') ∧ ul_ss nl np K T3 g' 4 (gb + 1000) np := by
    intro T
    obtain ⟨T1, f1, f2⟩ := st_set T N
    obtain ⟨got, T3, g', y1, y2, y3⟩ := sw_day (lv := 1) (go := nI (2 ^ np - 1 - q)) (st := nI q) (by omega) hk (ss_eqs q4 q5 h f2) (by omega) (fun p hp => st_bt2 np q5 q hq p hp)
    exact ⟨T1, T3, g', got, f1, y1, y2, y3⟩
  obtain ⟨T1, T3, g', got, r1, r2, r3, r4⟩ := run N
  obtain ⟨-, -, -, v, hv, ev⟩ := r4.2.1 l hl
  refine ⟨v, g', by omega, ev, ⟨got, r3⟩, ?_⟩
  intro T
  obtain ⟨T1, T3, g2, got2, s1, s2, s3, s4⟩ := run T
  refine ⟨T1, T3, got2, s1, s2, ?_⟩
  have e0 : (got2, ul_sg M 23 g2) = (got, ul_sg M 23 g') := Option.some.inj (s3.symm.trans r3)
  have e : ul_sg M 23 g2 = ul_sg M 23 g' := congrArg Prod.snd e0
  rw [(s4.2.1 l hl).2.1, sg_inj e (8 + l) (by omega), ev]
/-- the class's sum -/
theorem x_chance {nl np : Nat} {K N T : ul_S} {l k x : Nat} {V : Nat → Nat} (q4 : l < 4) (q5 : np ≤ 5) (hk : k ≤ 60) (hx : x ≤ 10) (hK : K 0 1 = nI np) (hV : ∀ m, m < 2 ^ np → V m ≤ 900000 ∧ ∀ T, ∃ T1 T3 got, f_X4_setTo T N = some T1 ∧ f_X4_passDay T1 K (nI m) = some (got, T3) ∧ T3 4 l = nI (V m)) : ∃ T', f_X1_chancesOfGold N T K (nI l) (nI k) (nI x) = some (nI (sp_sum (fun m => if V m < k then 0 else sp_W np x m) (2 ^ np)), T') := by
  obtain ⟨hp1, hp2⟩ := st_pw5 np q5
  obtain ⟨n, en⟩ : ∃ n, n = 2 ^ np := ⟨_, rfl⟩
  rw [← en] at hp1 hp2 hV ⊢
  have key := ul_run (b := f_X1_chancesOfGold_L6 N K (nI l) (nI k) (nI x)) (fun i s => i ≤ n ∧ s.1 = nI (sp_sum (fun m => if V m < k then 0 else sp_W np x m) (n - i)) ∧ s.2.1 = nI (n - i)) (fun r => r.1 = nI (sp_sum (fun m => if V m < k then 0 else sp_W np x m) n))
    (by
      rintro ⟨s1, s2, s3⟩ ⟨-, e1, e2⟩
      dsimp only at e1 e2
      refine ⟨(s1, s2, s3), ?_, e1⟩
      unfold f_X1_chancesOfGold_L6
      dsimp only
      rw [if_pos (by rw [hK, hp1, e2]; exact nI_le (by omega) (by omega))])
    (by
      rintro i ⟨s1, s2, s3⟩ ⟨hi, e1, e2⟩
      dsimp only at e1 e2
      left
      obtain ⟨m, em⟩ : ∃ m, m = n - (i + 1) := ⟨_, rfl⟩
      have em1 : n - i = m + 1 := by omega
      rw [← em] at e1 e2
      obtain ⟨hb, hT⟩ := hV m (by omega)
      obtain ⟨T1, T3, got, f1, f2, f3⟩ := hT s3
      refine ⟨(nI (sp_sum (fun m => if V m < k then 0 else sp_W np x m) (m + 1)), nI (m + 1), T3), ?_, by omega, by rw [em1], by rw [em1]⟩
      unfold f_X1_chancesOfGold_L6 f_X1_chancesOfGold_j66
      dsimp only
      rw [if_neg (by rw [hK, hp1, e2]; exact nI_ge (by omega) (by omega)), f1, Option.bind_some, e2, f2, Option.bind_some, x_wo hK q5 hx (show m < 2 ^ np by omega), e1]
      simp (disch := omega) only [ul_ldN, Option.bind_some, ul_bdE, nI_1, nI_add]
      rw [f3, sp_sum_s]
      by_cases c : V m < k
      · rw [if_pos (nI_lt c (by omega)), if_pos c, Nat.add_zero]
        rfl
      · rw [if_neg (nI_nlt (by omega) (by omega)), if_neg c])
    ul_N n (0, 0, T) ⟨Nat.le_refl n, by rw [Nat.sub_self]; rfl, by rw [Nat.sub_self]; rfl⟩ (by rw [ul_N_v]; omega)
  obtain ⟨⟨r1, r2, r3⟩, hr, y⟩ := key
  dsimp only at y
  subst y
  refine ⟨r3, ?_⟩
  unfold f_X1_chancesOfGold
  rw [hr, Option.bind_some]
  rfl
theorem x_mStays {nl np : Nat} {M : ul_S} {l k x : Nat} {w : Int32} {V : Nat → Nat} (q4 : l < 4) (q5 : np ≤ 5) (hk : k ≤ 60) (hx : x ≤ 10) (hM : M 0 1 = nI np) (hV : ∀ q, q < 2 ^ np → V q ≤ 900000 ∧ ∃ g' got, g' (8 + l) = nI (V q) ∧ f_X7_passOn (ul_sg M 23 (fun i => M 6 i)) 1 (nI q) = some (got, ul_sg M 23 g')) : ∃ z g, ul_it ul_N (f_X7_stays_L46 (nI l) (nI k) (nI x) w) (0, 0, 0, M) = some (nI (sp_sum (fun q => if V q < k then 0 else sp_W np x (2 ^ np - 1 - q)) (2 ^ np)), nI (sp_sum (fun q => sp_W np x (2 ^ np - 1 - q)) (2 ^ np)), z, ul_sg M 23 g) := by
  obtain ⟨hp1, hp2⟩ := st_pw5 np q5
  obtain ⟨n, en⟩ : ∃ n, n = 2 ^ np := ⟨_, rfl⟩
  have key := ul_run (b := f_X7_stays_L46 (nI l) (nI k) (nI x) w) (fun i s => i ≤ n ∧ s.1 = nI (sp_sum (fun q => if V q < k then 0 else sp_W np x (2 ^ np - 1 - q)) (n - i)) ∧ s.2.1 = nI (sp_sum (fun q => sp_W np x (2 ^ np - 1 - q)) (n - i)) ∧ s.2.2.1 = nI (n - i) ∧ ∃ g, s.2.2.2 = ul_sg M 23 g) (fun r => r.1 = nI (sp_sum (fun q => if V q < k then 0 else sp_W np x (2 ^ np - 1 - q)) n) ∧ r.2.1 = nI (sp_sum (fun q => sp_W np x (2 ^ np - 1 - q)) n) ∧ ∃ g, r.2.2.2 = ul_sg M 23 g)
    (by
      rintro ⟨s1, s2, s3, s4⟩ ⟨-, e1, e2, e3, ⟨g, e4⟩⟩
      dsimp only at e1 e2 e3 e4
      subst e4
      refine ⟨(s1, s2, s3, ul_sg M 23 g), ?_, e1, e2, ⟨g, rfl⟩⟩
      unfold f_X7_stays_L46
      dsimp only
      rw [if_pos (by rw [sg_00, hM, hp1, e3, ← en]; exact nI_le (by omega) (by omega))])
    (by
      rintro i ⟨s1, s2, s3, s4⟩ ⟨hi, e1, e2, e3, ⟨g, e4⟩⟩
      dsimp only at e1 e2 e3 e4
      subst e4
      left
      obtain ⟨q, eq⟩ : ∃ q, q = n - (i + 1) := ⟨_, rfl⟩
      have eq1 : n - i = q + 1 := by omega
      rw [← eq] at e1 e2 e3
      obtain ⟨hb, g', got, f1, f2⟩ := hV q (by omega)
      obtain ⟨c1, c2⟩ := st_cn np q5 q (by omega)
      have p1 := st_po x hx (sp_cnt q) (by omega)
      have p2 := st_po (10 - x) (by omega) (np - sp_cnt q) (by omega)
      have s10 : (10 : Int32) - nI x = nI (10 - x) := pk_sub (a := 10) hx
      have i31 : (31 : Int32) + nI l = nI (23 + (8 + l)) := by rw [show 23 + (8 + l) = 31 + l by omega]; exact nI_add 31 l
      have eW : nI (x ^ sp_cnt q) * nI ((10 - x) ^ (np - sp_cnt q)) = nI (sp_W np x (2 ^ np - 1 - q)) := by
        unfold sp_W
        rw [pk_mul, c2, show np - (np - sp_cnt q) = sp_cnt q by omega]
      refine ⟨(nI (sp_sum (fun q => if V q < k then 0 else sp_W np x (2 ^ np - 1 - q)) (q + 1)), nI (sp_sum (fun q => sp_W np x (2 ^ np - 1 - q)) (q + 1)), nI (q + 1), ul_sg M 23 g'), ?_, by omega, by rw [eq1], by rw [eq1], by rw [eq1], ⟨g', rfl⟩⟩
      unfold f_X7_stays_L46 f_X7_stays_j126
      dsimp only
      rw [if_neg (by rw [sg_00, hM, hp1, e3]; exact nI_ge (by omega) (by omega)), e3, sp_cnt_m q (by omega), Option.bind_some, p1, Option.bind_some, Option.bind_some, sg_00, hM, s10, pk_sub c1, p2, Option.bind_some, ul_bdE, eW, mm_lay2, Option.bind_some, f2, Option.bind_some, i31]
      simp (disch := omega) only [ul_ldN, sg_6, ul_bdE, nI_1]
      rw [f1, e1, e2, sp_sum_s, sp_sum_s, nI_add]
      by_cases c : V q < k
      · rw [if_pos (nI_lt c (by omega)), if_pos c, Nat.add_zero]
        simp
      · rw [if_neg (nI_nlt (by omega) (by omega)), if_neg c, nI_add])
    ul_N n (0, 0, 0, M) ⟨Nat.le_refl n, by rw [Nat.sub_self]; rfl, by rw [Nat.sub_self]; rfl, by rw [Nat.sub_self]; rfl, ⟨_, (sg_self M 23).symm⟩⟩ (by rw [ul_N_v]; omega)
  obtain ⟨⟨r1, r2, r3, r4⟩, hr, y1, y2, ⟨g, y3⟩⟩ := key
  dsimp only at y1 y2 y3
  subst y1
  subst y2
  subst y3
  rw [← en]
  rw [← en] at hr
  exact ⟨r3, g, hr⟩
theorem x_ten {K N T : ul_S} {np : Nat} {p1 p2 p3 p4 : Int32} (q5 : np ≤ 5) (hK : K 0 1 = nI np) : ∃ z, ul_it ul_N (f_X6_stays_L39 K N p1 p2 p3 p4 T) (1, 0) = some (nI (10 ^ np), z) := by
  have key := ul_run (b := f_X6_stays_L39 K N p1 p2 p3 p4 T) (fun i s => i ≤ np ∧ s.1 = nI (10 ^ (np - i)) ∧ s.2 = nI (np - i)) (fun r => r.1 = nI (10 ^ np))
    (by
      rintro ⟨s1, s2⟩ ⟨-, e1, e2⟩
      dsimp only at e1 e2
      refine ⟨(s1, s2), ?_, e1⟩
      unfold f_X6_stays_L39
      dsimp only
      rw [e2, hK, if_pos (nI_le (by omega) (by omega))])
    (by
      rintro i ⟨s1, s2⟩ ⟨hi, e1, e2⟩
      dsimp only at e1 e2
      left
      obtain ⟨k, ek⟩ : ∃ k, k = np - (i + 1) := ⟨_, rfl⟩
      have ek1 : np - i = k + 1 := by omega
      rw [← ek] at e1 e2
      have em : nI (10 ^ k) * 10 = nI (10 ^ (k + 1)) := by
        rw [Nat.pow_succ, ← pk_mul]
        rfl
      refine ⟨(nI (10 ^ (k + 1)), nI (k + 1)), ?_, by omega, by rw [ek1], by rw [ek1]⟩
      unfold f_X6_stays_L39
      dsimp only
      rw [e2, hK, if_neg (nI_ge (by omega) (by omega)), e1, em, ul_bdE, ul_bdE, nI_1])
    ul_N np (1, 0) ⟨Nat.le_refl np, by rw [Nat.sub_self]; rfl, by rw [Nat.sub_self]; rfl⟩ (by rw [ul_N_v]; omega)
  obtain ⟨⟨r1, r2⟩, hr, y⟩ := key
  dsimp only at y
  subst y
  exact ⟨r2, hr⟩
theorem e_stays {c : Nat} {U : ul_S} {d : Int64} {L K N J E M : ul_S} {dm : Int64} {P B : ul_F} (hc : c ≤ 600) (h : ul_RR c U d L K N J E M dm P B) (T : ul_S) (p k x w : Int32) : ∃ v T' M', f_X6_stays K N T p k x w = some (v, T') ∧ f_X7_stays M p k x w = some (v, M') ∧ ul_RR c U d L K N J E M' dm P B := by
  have h0 := h
  obtain ⟨nl, np, h1, h2, -⟩ := h
  have h1' := h1
  obtain ⟨q4, q5, hK0, hM0, hK1, hM1, -⟩ := h1'
  unfold f_X6_stays f_X7_stays
  rcases q_lad (by omega) hK0 hM0 p with ⟨p, hp, rfl, e1, e2⟩ | ⟨e1, e2⟩
  · rw [e1, e2, Option.bind_some, Option.bind_some, if_neg n10, if_neg n10]
    rcases mi_nm (p := k) (a := 0) (b := 60) (y := 0) (z := 60) rfl rfl (by omega) (by omega) with ⟨k, hk0, hk1, rfl, e3⟩ | ⟨hw, e3⟩
    · rw [e3, Option.bind_some, if_neg n10, if_neg (nI_pos (by omega)), if_neg (show ¬ 60 < nI k from nI_nlt (a := 60) (by omega) (by omega))]
      rcases mi_nm (p := x) (a := 0) (b := 10) (y := 0) (z := 10) rfl rfl (by omega) (by omega) with ⟨x, hx0, hx1, rfl, e4⟩ | ⟨hw, e4⟩
      · rw [e4, Option.bind_some, if_neg n10, if_neg (nI_pos (by omega)), if_pos (show nI x ≤ 10 from nI_le (b := 10) hx1 (by omega))]
        have hxx := fun q : Nat => fun hq : q < 2 ^ np => x_dayBy h1 h2 (show 1000 * c ≤ 800000 by omega) hp hq
        obtain ⟨V, hV⟩ : ∃ V : Nat → Nat, ∀ q, q < 2 ^ np → V q ≤ 900000 ∧ (∃ g' got, g' (8 + p) = nI (V q) ∧ f_X7_passOn (ul_sg M 23 (fun i => M 6 i)) 1 (nI q) = some (got, ul_sg M 23 g')) ∧ ∀ T, ∃ T1 T3 got, f_X4_setTo T N = some T1 ∧ f_X4_passDay T1 K (nI (2 ^ np - 1 - q)) = some (got, T3) ∧ T3 4 p = nI (V q) := by
          refine ⟨fun q => if hq : q < 2 ^ np then Classical.choose (hxx q hq) else 0, fun q hq => ?_⟩
          obtain ⟨g', y1, y2, ⟨got, y3⟩, y4⟩ := Classical.choose_spec (hxx q hq)
          simp only [dif_pos hq]
          exact ⟨y1, ⟨g', got, y2, y3⟩, y4⟩
        have hn := Nat.two_pow_pos np
        obtain ⟨z, t1⟩ := x_ten (K := K) (N := N) (T := T) (p1 := nI p) (p2 := nI k) (p3 := nI x) (p4 := w) q5 hK1
        obtain ⟨T', t2⟩ := x_chance (nl := nl) (T := T) (V := fun m => V (2 ^ np - 1 - m)) (show p < 4 by omega) q5 hk1 hx1 hK1 (fun m hm => by
          obtain ⟨y1, -, y3⟩ := hV (2 ^ np - 1 - m) (by omega)
          rw [show 2 ^ np - 1 - (2 ^ np - 1 - m) = m by omega] at y3
          exact ⟨y1, y3⟩)
        obtain ⟨z2, g, t3⟩ := x_mStays (nl := nl) (w := w) (V := V) (show p < 4 by omega) q5 hk1 hx1 hM1 (fun q hq => ⟨(hV q hq).1, (hV q hq).2.1⟩)
        have er1 : sp_sum (fun q => sp_W np x (2 ^ np - 1 - q)) (2 ^ np) = 10 ^ np := by
          rw [sp_sum_r (2 ^ np) (sp_W np x)]
          exact st_ws np q5 x hx1
        obtain ⟨S, eS⟩ : ∃ S, S = sp_sum (fun q => if V q < k then 0 else sp_W np x (2 ^ np - 1 - q)) (2 ^ np) := ⟨_, rfl⟩
        have er2 : sp_sum (fun m => if V (2 ^ np - 1 - m) < k then 0 else sp_W np x m) (2 ^ np) = S := by
          rw [eS, ← sp_sum_r (2 ^ np) (fun m => if V (2 ^ np - 1 - m) < k then 0 else sp_W np x m)]
          refine sp_sum_e (2 ^ np) (fun q hq => ?_)
          rw [show 2 ^ np - 1 - (2 ^ np - 1 - q) = q by omega]
        have hS : S ≤ 10 ^ np := by
          rw [eS, ← er1]
          refine sp_sum_l (fun q => ?_) (2 ^ np)
          split
          · omega
          · exact Nat.le_refl _
        obtain ⟨ten1, ten2⟩ := st_10 np q5
        rw [er1, ← eS] at t3
        rw [er2] at t2
        obtain ⟨v, u, z3, z4, z5⟩ := x_least (A := nI S) (P := S) (Q := 0) (B := 10 ^ np) (w := w) (by rw [pk_sub (by omega), Nat.sub_zero]) (by omega) (by omega) ten1 ten2
        rw [t1, Option.bind_some, t3, Option.bind_some]
        unfold f_X6_stays_j64 f_X7_stays_j135
        dsimp only
        rw [t2, Option.bind_some]
        dsimp only
        rw [z3, Option.bind_some, z4, Option.bind_some]
        refine ⟨v, T', ul_sg M 23 g, rfl, ?_, rr_tr h0 g⟩
        by_cases hw : w = 0
        · rw [if_pos hw] at z5 ⊢
          unfold ul_nz at z5 ⊢
          by_cases hu : u = 0
          · rw [if_pos hu] at z5
            exact absurd z5 (by simp)
          · rw [if_neg hu] at z5 ⊢
            rw [Option.some.inj z5]
        · rw [if_neg hw] at z5 ⊢
          unfold ul_nz at z5 ⊢
          by_cases hu : u = 0
          · rw [if_pos hu] at z5
            exact absurd z5 (by simp)
          · rw [if_neg hu] at z5 ⊢
            rw [Option.some.inj z5]
      · rw [e4, Option.bind_some, if_pos rfl]
        by_cases hw0 : x < 0
        · rw [if_pos hw0]
          exact ⟨_, _, _, rfl, rfl, h0⟩
        · rw [if_neg hw0, if_neg (show ¬ x ≤ 10 from fun q => by
            rcases hw with z | z
            · exact hw0 z
            · exact absurd q (Int32.not_le.mpr z))]
          exact ⟨_, _, _, rfl, rfl, h0⟩
    · rw [e3, Option.bind_some, if_pos rfl]
      by_cases hw0 : k < 0
      · rw [if_pos hw0]
        exact ⟨_, _, _, rfl, rfl, h0⟩
      · rw [if_neg hw0, if_pos (show 60 < k by
          rcases hw with z | z
          · exact absurd z hw0
          · exact z)]
        exact ⟨_, _, _, rfl, rfl, h0⟩
  · rw [e1, e2, Option.bind_some, Option.bind_some, if_pos rfl, if_pos rfl]
    exact ⟨_, _, _, rfl, rfl, h0⟩
