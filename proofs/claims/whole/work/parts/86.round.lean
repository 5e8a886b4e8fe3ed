/-! luck by stepping round; round -/
theorem sp_mud_b {a : Nat} (ha : a ≤ 99) : ∃ b, b ≤ 99 ∧ sp_mud (nI a) = nI b := by
  unfold sp_mud
  by_cases h : a = 0
  · subst h
    exact ⟨0, by omega, by decide⟩
  · obtain ⟨b, rfl⟩ : ∃ b, a = b + 1 := ⟨a - 1, by omega⟩
    exact ⟨b, by omega, by rw [if_neg (nI_nle (by omega) (by omega)), nI_pred]⟩
theorem x_step {nl np : Nat} {K M N : ul_S} {mb gb p : Nat} (hk : ul_mk nl np K M) (h : ul_ss nl np K N (fun i => M 6 i) mb gb np) (hp : p < np) (x : Int32) : ∃ v, v ≤ 99 ∧ f_X4_luckByStepping N K (nI p) x = some (nI v) ∧ f_X7_luckRound M (nI p) x = some (nI v) := by
  have hk0 := hk
  obtain ⟨h4, h5, hK0, hM0, -, -, hLl, -⟩ := hk
  obtain ⟨w, gl, h0, wk, hw, hg, hh0, eN, eM, eK4, eK5, egl, est, ego⟩ := x_way hk0 h hp
  obtain ⟨eL, a0, ha0, eL2⟩ := h.2.2.2.1 p hp
  obtain ⟨n, en⟩ : ∃ n, n = sp_ds w gl := ⟨_, rfl⟩
  have hn9 : n ≤ 9 := by rw [en]; unfold sp_ds; split <;> omega
  have key := ul_run2 (b := f_X4_luckByStepping_L17 N K (nI p) x (nI n)) (c := f_X7_luckRound_L29 M (nI p) x (nI gl)) (fun i s t => i ≤ n ∧ s.1 = t.1 ∧ (∃ a, a ≤ 99 ∧ s.1 = nI a) ∧ s.2 = nI (n - i + 1) ∧ t.2 = nI (sp_ps w gl (n - i))) (fun r r' => r.1 = r'.1 ∧ ∃ a, a ≤ 99 ∧ r.1 = nI a)
    (by
      rintro ⟨s1, s2⟩ ⟨t1, t2⟩ ⟨-, e1, ea, e2, e3⟩
      dsimp only at e1 e2 e3 ea
      refine ⟨(s1, s2), (t1, t2), ?_, ?_, e1, ea⟩
      · unfold f_X4_luckByStepping_L17
        dsimp only
        rw [e2, if_pos (nI_lt (by omega) (by omega))]
      · unfold f_X7_luckRound_L29
        dsimp only
        rw [e3, Nat.sub_zero, en, sp_ps_n, if_pos rfl])
    (by
      rintro i ⟨s1, s2⟩ ⟨t1, t2⟩ ⟨hi, e1, ⟨a, ha, ea⟩, e2, e3⟩
      dsimp only at e1 e2 e3 ea
      left
      obtain ⟨k, ek⟩ : ∃ k, k = n - (i + 1) := ⟨_, rfl⟩
      have ek1 : n - i = k + 1 := by omega
      rw [← ek] at e2 e3
      have hkn : k < sp_ds w gl := by rw [← en]; omega
      have hps1 := sp_ps_l (k := k + 1) hw hg (by omega)
      have hps := sp_ps_l (k := k) hw hg (by omega)
      subst e1
      subst ea
      obtain ⟨q, eq⟩ : ∃ q, q = N 2 (sp_ps w gl (k + 1)) := ⟨_, rfl⟩
      have hval : ∃ b, b ≤ 99 ∧ (if q = -9 then nI a else if ((x >>> (q &&& 31)) &&& (1 : Int32)) = 1 then sp_mud (nI a) else nI a - sp_t (K 3 q.toNatClampNeg) (K 2 q.toNatClampNeg) (nI a)) = nI b := by
        by_cases hq : q = -9
        · exact ⟨a, ha, by rw [if_pos hq]⟩
        · rw [if_neg hq]
          split
          · exact sp_mud_b ha
          · rcases h.1.2 _ hps1 with ⟨z, -⟩ | ⟨l, hl, z, -⟩
            · exact absurd (eq.trans z) hq
            · have ez : q = nI l := eq.trans z
              rw [ez, nI_clamp (by omega)]
              obtain ⟨-, -, t, ht, et⟩ := hLl l hl
              rw [et]
              obtain ⟨c, hc, ec⟩ := sp_t_b (k := K 3 l) ha ht
              exact ⟨a - c, by omega, by rw [ec, pk_sub hc]⟩
      obtain ⟨b, hb, eb⟩ := hval
      refine ⟨(nI b, nI (k + 1 + 1)), (nI b, nI (sp_ps w gl (k + 1))), ?_, ?_, by omega, rfl, ⟨b, hb, rfl⟩, by rw [ek1], by rw [ek1]⟩
      · unfold f_X4_luckByStepping_L17 f_X4_luckByStepping_j92
        dsimp only
        rw [e2, if_neg (nI_nlt (by omega) (by omega)), cg_ahead (by omega) eN eK4 eK5 hw hh0 egl hg (by omega), Option.bind_some, ← eq]
        simp only [ul_bdE, nI_1, sp_taken, sp_less, Option.bind_some]
        rw [← eb]
        by_cases hq : q = -9
        · rw [if_pos hq, if_pos hq]
        · rw [if_neg hq, if_neg hq]
          rcases h.1.2 _ hps1 with ⟨z, -⟩ | ⟨l, hl, z, -⟩
          · exact absurd (eq.trans z) hq
          · have ez : q = nI l := eq.trans z
            rw [ez, nI_clamp (by omega)]
            split
            · rfl
            · simp (disch := omega) only [ul_ldN]
      · unfold f_X7_luckRound_L29 f_X7_luckRound_j50 f_X7_luckRound_j93 f_X7_luckRound_j88 f_X7_luckRound_j121
        dsimp only
        rw [e3, if_neg (fun q => sp_ps_ne hkn (nI_inj (by omega) (by omega) q))]
        have hdir := x_dir hw hg hkn
        have hat := mm_at0 h4 hM0 hps1 h.1
        rw [← eq] at hat
        have hfin : ∀ z : Int32, z = nI (sp_ps w gl (k + 1)) → (ul_bd z fun v22 => (f_X7_ladderAt M 0 v22).bind fun u23 => if u23 = -9 then (if u23 = -9 then some (Sum.inr (nI a, v22)) else (ul_ld (M 2) 4 u23 fun v7 => ul_ld (M 1) 4 u23 fun v9 => (f_X7_takes v7 v9 (nI a)).bind fun u11 => ul_bd (nI a - u11) fun v12 => some (Sum.inr (v12, v22)))) else ((f_X7_has x u23).bind fun u25 => if u25 = 0 then (if u23 = -9 then some (Sum.inr (nI a, v22)) else (ul_ld (M 2) 4 u23 fun v7 => ul_ld (M 1) 4 u23 fun v9 => (f_X7_takes v7 v9 (nI a)).bind fun u11 => ul_bd (nI a - u11) fun v12 => some (Sum.inr (v12, v22)))) else (if nI a ≤ 0 then (ul_bd (nI a - 0) fun v20 => some (Sum.inr (v20, v22))) else (ul_bd (nI a - 1) fun v20 => (some (Sum.inr (v20, v22)) : Option ((Int32 × Int32) ⊕ (Int32 × Int32))))))) = some (.inr (nI b, nI (sp_ps w gl (k + 1)))) := by
          intro z hz
          rw [hz, ul_bdE, hat, Option.bind_some, ← eb]
          unfold f_X7_has
          simp only [ul_bdE, sp_takes, Option.bind_some]
          by_cases hq : q = -9
          · rw [if_pos hq, if_pos hq, if_pos hq]
          · rw [if_neg hq, if_neg hq, if_neg hq]
            rcases h.1.2 _ hps1 with ⟨z, -⟩ | ⟨l, hl, z, -⟩
            · exact absurd (eq.trans z) hq
            · have ez : q = nI l := eq.trans z
              obtain ⟨y1, y2, -⟩ := hLl l hl
              rw [ez, nI_clamp (by omega)]
              by_cases hx : ((x >>> (nI l &&& 31)) &&& (1 : Int32)) = 1
              · rw [if_pos hx, if_pos hx, Option.bind_some, if_neg (show ¬ (1 : Int32) = 0 by decide)]
                unfold sp_mud
                by_cases hz0 : nI a ≤ 0
                · rw [if_pos hz0, if_pos hz0]
                  have ea0 : nI a = 0 := by
                    by_cases hz1 : a = 0
                    · rw [hz1]; rfl
                    · exact absurd hz0 (nI_nle (by omega) (by omega))
                  rw [ea0]
                  rfl
                · rw [if_neg hz0, if_neg hz0]
              · rw [if_neg hx, if_neg hx, Option.bind_some, if_pos rfl]
                simp (disch := omega) only [ul_ldN]
                rw [y1, y2]
        by_cases hle : nI gl ≤ nI (sp_ps w gl k)
        · rw [if_pos hle] at hdir ⊢
          exact hfin _ hdir
        · rw [if_neg hle] at hdir ⊢
          exact hfin _ hdir)
    ul_N n (nI a0, 1) (nI a0, nI w) ⟨Nat.le_refl n, rfl, ⟨a0, ha0, rfl⟩, by rw [Nat.sub_self]; rfl, by rw [Nat.sub_self, sp_ps_0]⟩ (by rw [ul_N_v]; omega)
  obtain ⟨⟨v, z⟩, ⟨v', z'⟩, hr, hr', e, a, ha, ea⟩ := key
  dsimp only at e ea
  subst e
  subst ea
  refine ⟨a, ha, ?_, ?_⟩
  · unfold f_X4_luckByStepping
    rw [est, Option.bind_some, ← en]
    simp (disch := omega) only [ul_ldN]
    rw [eL, eL2, hr, Option.bind_some]
    rfl
  · unfold f_X7_luckRound
    have a12 : (12 : Int32) + nI p = nI (12 + p) := nI_add 12 p
    have a17 : (17 : Int32) + nI p = nI (17 + p) := nI_add 17 p
    have eL3 : M 6 (17 + p) = nI a0 := eL2
    rw [a12, a17]
    simp (disch := omega) only [ul_ldN]
    rw [ego, Option.bind_some, eM, eL3, hr', Option.bind_some]
    rfl
theorem st_or : ∀ nl, nl ≤ 4 → ∀ a, a < 2 ^ nl → ∀ l, l < nl → (a ||| 2 ^ l) < 2 ^ nl ∧ nI a ||| ((1 : Int32) <<< (nI l &&& 31)) = nI (a ||| 2 ^ l) := by decide +kernel
theorem st_pw : ∀ nl, nl ≤ 4 → ((1 : Int32) <<< (nI nl &&& 31)) = nI (2 ^ nl) ∧ 2 ^ nl ≤ 16 := by decide +kernel
theorem x_onb {nl np : Nat} {K M N : ul_S} {mb gb p : Nat} (hk : ul_mk nl np K M) (h : ul_ss nl np K N (fun i => M 6 i) mb gb np) (hp : p < np) : ∃ a, a < 2 ^ nl ∧ f_X4_laddersAhead N K (nI p) = some (nI a) ∧ f_X7_onWay M (nI p) = some (nI a) := by
  have hk0 := hk
  obtain ⟨v, v1, v2⟩ := x_onway hk h hp
  obtain ⟨h4, h5, hK0, hM0, -⟩ := hk
  obtain ⟨w, gl, h0, wk, hw, hg, hh0, eN, eM, eK4, eK5, egl, est, ego⟩ := x_way hk0 h hp
  obtain ⟨n, en⟩ : ∃ n, n = sp_ds w gl := ⟨_, rfl⟩
  have hn9 : n ≤ 9 := by rw [en]; unfold sp_ds; split <;> omega
  have key := ul_run (b := f_X4_laddersAhead_L11 N K (nI p) (nI n)) (fun i s => i ≤ n ∧ (∃ a, a < 2 ^ nl ∧ s.1 = nI a) ∧ s.2 = nI (n - i + 1)) (fun r => ∃ a, a < 2 ^ nl ∧ r.1 = nI a)
    (by
      rintro ⟨s1, s2⟩ ⟨-, ea, e2⟩
      dsimp only at ea e2
      refine ⟨(s1, s2), ?_, ea⟩
      unfold f_X4_laddersAhead_L11
      dsimp only
      rw [e2, if_pos (nI_lt (by omega) (by omega))])
    (by
      rintro i ⟨s1, s2⟩ ⟨hi, ⟨a, ha, ea⟩, e2⟩
      dsimp only at ea e2
      left
      obtain ⟨k, ek⟩ : ∃ k, k = n - (i + 1) := ⟨_, rfl⟩
      have ek1 : n - i = k + 1 := by omega
      rw [← ek] at e2
      have hkn : k < sp_ds w gl := by rw [← en]; omega
      have hps1 := sp_ps_l (k := k + 1) hw hg (by omega)
      refine ⟨(if N 2 (sp_ps w gl (k + 1)) = -9 then s1 else s1 ||| (1 <<< (N 2 (sp_ps w gl (k + 1)) &&& 31)), nI (k + 1 + 1)), ?_, by omega, ?_, by rw [ek1]⟩
      · unfold f_X4_laddersAhead_L11 f_X4_laddersAhead_j40
        dsimp only
        rw [e2, if_neg (nI_nlt (by omega) (by omega)), cg_ahead (by omega) eN eK4 eK5 hw hh0 egl hg (by omega), Option.bind_some]
        simp only [ul_bdE, nI_1]
        by_cases hq : N 2 (sp_ps w gl (k + 1)) = -9
        · rw [if_pos hq, if_pos hq]
        · rw [if_neg hq, if_neg hq]
      · dsimp only
        rcases h.1.2 _ hps1 with ⟨z, -⟩ | ⟨l, hl, z, -⟩
        · rw [if_pos z]
          exact ⟨a, ha, ea⟩
        · rw [z, if_neg (nI_ne9 (by omega)), ea]
          obtain ⟨y1, y2⟩ := st_or nl h4 a ha l hl
          exact ⟨_, y1, y2⟩)
    ul_N n (0, 1) ⟨Nat.le_refl n, ⟨0, Nat.two_pow_pos nl, rfl⟩, by rw [Nat.sub_self]; rfl⟩ (by rw [ul_N_v]; omega)
  obtain ⟨⟨r1, r2⟩, hr, a, ha, ea⟩ := key
  have v1' := v1
  unfold f_X4_laddersAhead at v1'
  rw [est, Option.bind_some, ← en, hr, Option.bind_some] at v1'
  have e : r1 = v := Option.some.inj v1'
  dsimp only at ea
  have ev : v = nI a := e.symm.trans ea
  subst ev
  exact ⟨a, ha, v1, v2⟩
def sp_cnt (a : Nat) : Nat := a % 2 + a / 2 % 2 + a / 4 % 2 + a / 8 % 2 + a / 16 % 2
theorem sp_cnt_j : ∀ a, a < 32 → f_J6_bitCount_0f7a4 (nI a) = some (nI (sp_cnt a)) := by decide +kernel
theorem sp_cnt_m : ∀ a, a < 32 → f_X7_ones (nI a) = some (nI (sp_cnt a)) := by decide +kernel
theorem sp_cnt_5 : ∀ a, a < 32 → sp_cnt a ≤ 5 := by decide +kernel
theorem st_sub : ∀ a, a < 16 → ∀ b, b < 16 → ((nI a &&& nI b = nI a) ↔ a &&& b = a) ∧ ((nI a &&& (nI b ^^^ -1) = 0) ↔ a &&& b = a) := by decide +kernel
/-- the best set among those below n, among the ladders of on -/
def sp_bb (on : Nat) (R : Nat → Nat) : Nat → Nat
  | 0 => 0
  | r + 1 => if r &&& on = r ∧ (R (sp_bb on R r) < R r ∨ (R r = R (sp_bb on R r) ∧ sp_cnt r < sp_cnt (sp_bb on R r))) then r else sp_bb on R r
theorem sp_bb_l (on : Nat) (R : Nat → Nat) : ∀ n, sp_bb on R (n + 1) ≤ n := by
  intro n
  induction n with
  | zero => unfold sp_bb sp_bb; split <;> omega
  | succ n ih => unfold sp_bb; split <;> omega
theorem sp_bb_s {on nl : Nat} {R : Nat → Nat} (ho : on < 2 ^ nl) (h4 : nl ≤ 4) : ∀ k, sp_bb on R (2 ^ nl + k) = sp_bb on R (2 ^ nl) := by
  intro k
  induction k with
  | zero => rfl
  | succ k ih =>
    rw [← Nat.add_assoc]
    conv => lhs; unfold sp_bb
    rw [if_neg, ih]
    rintro ⟨q, -⟩
    have : (2 ^ nl + k) &&& on ≤ on := Nat.and_le_right
    omega
theorem x_cRound {N K F : ul_S} {p on : Nat} {R : Nat → Nat} (hon : on < 16) (hR : ∀ x, x < 16 → R x ≤ 99 ∧ f_X4_luckByStepping N K (nI p) (nI x) = some (nI (R x))) (ho : f_X4_laddersAhead N K (nI p) = some (nI on)) : ∃ F', f_X1_findRound F N K (nI p) = some F' ∧ F' 0 0 = nI (sp_bb on R 16) ∧ F' 0 1 = nI (R (sp_bb on R 16)) := by
  have key := ul_run (b := f_X1_findRound_L29 N K (nI p) (nI on)) (fun i s => i ≤ 15 ∧ s.1 = nI (16 - i) ∧ s.2 0 0 = nI (sp_bb on R (16 - i)) ∧ s.2 0 1 = nI (R (sp_bb on R (16 - i)))) (fun r => r.2 0 0 = nI (sp_bb on R 16) ∧ r.2 0 1 = nI (R (sp_bb on R 16)))
    (by
      rintro ⟨s1, s2⟩ ⟨-, e1, e2, e3⟩
      dsimp only at e1 e2 e3
      refine ⟨(s1, s2), ?_, e2, e3⟩
      unfold f_X1_findRound_L29
      dsimp only
      rw [e1, if_pos (by decide)])
    (by
      rintro i ⟨s1, s2⟩ ⟨hi, e1, e2, e3⟩
      dsimp only at e1 e2 e3
      left
      obtain ⟨r, er⟩ : ∃ r, r = 16 - (i + 1) := ⟨_, rfl⟩
      have er1 : 16 - i = r + 1 := by omega
      rw [← er] at e1 e2 e3
      have hr16 : r < 16 := by omega
      have hb16 : sp_bb on R r < 16 := by
        obtain ⟨q, rfl⟩ : ∃ q, r = q + 1 := ⟨r - 1, by omega⟩
        have := sp_bb_l on R q
        omega
      obtain ⟨b, eb⟩ : ∃ b, b = sp_bb on R r := ⟨_, rfl⟩
      obtain ⟨hr1, hr2⟩ := hR r hr16
      obtain ⟨hb1, hb2⟩ := hR _ hb16
      have hstep : sp_bb on R (r + 1) = if r &&& on = r ∧ (R b < R r ∨ (R r = R b ∧ sp_cnt r < sp_cnt b)) then r else b := by
        rw [eb]
        conv => lhs; unfold sp_bb
      rw [← eb] at e2 e3 hb16 hb1
      have c1 := sp_cnt_5 r (by omega)
      have c2 := sp_cnt_5 b (by omega)
      rw [er1, hstep]
      refine ⟨(nI (r + 1), if r &&& on = r ∧ (R b < R r ∨ (R r = R b ∧ sp_cnt r < sp_cnt b)) then ul_up (ul_up s2 0 0 (nI r)) 0 1 (nI (R r)) else s2), ?_, by omega, rfl, ?_, ?_⟩
      · unfold f_X1_findRound_L29 f_X1_findRound_j88 f_X1_findRound_j99
        dsimp only
        rw [e1, if_neg (show ¬ (16 : Int32) ≤ nI r from nI_ge (b := 16) (by omega) (by omega)), hr2, Option.bind_some]
        simp only [e3, e2, sp_cnt_j r (show r < 32 by omega), sp_cnt_j b (show b < 32 by omega), Option.bind_some, ul_bdE, nI_1, (st_sub r hr16 on hon).1, nI_ltI (show R b < 2 ^ 31 by omega) (show R r < 2 ^ 31 by omega), nI_eq (show R r < 2 ^ 31 by omega) (show R b < 2 ^ 31 by omega), nI_leI (show sp_cnt b < 2 ^ 31 by omega) (show sp_cnt r < 2 ^ 31 by omega)]
        by_cases g1 : r &&& on = r
        · rw [if_pos g1]
          by_cases g2 : R b < R r
          · rw [if_pos g2, if_pos ⟨g1, Or.inl g2⟩]
          · rw [if_neg g2]
            by_cases g3 : R r = R b
            · rw [if_pos g3]
              by_cases g4 : sp_cnt b ≤ sp_cnt r
              · rw [if_pos g4, if_neg (by omega)]
              · rw [if_neg g4, if_pos ⟨g1, Or.inr ⟨g3, by omega⟩⟩]
            · rw [if_neg g3, if_neg (by omega)]
        · rw [if_neg g1, if_neg (fun q => g1 q.1)]
      · dsimp only
        split
        · rw [ul_up_i (by decide), ul_up_s]
        · exact e2
      · dsimp only
        split
        · rw [ul_up_s]
        · exact e3)
    ul_N 15 (1, ul_up (ul_up F 0 0 0) 0 1 (nI (R 0))) ⟨Nat.le_refl 15, rfl, by
      dsimp only
      rw [ul_up_i (by decide), ul_up_s]
      unfold sp_bb sp_bb
      simp
      rfl, by
      dsimp only
      rw [ul_up_s]
      unfold sp_bb sp_bb
      simp⟩ (by rw [ul_N_v]; omega)
  obtain ⟨⟨r1, r2⟩, hr, y1, y2⟩ := key
  refine ⟨r2, ?_, y1, y2⟩
  unfold f_X1_findRound
  have h0 : f_X4_luckByStepping N K (nI p) 0 = some (nI (R 0)) := (hR 0 (by omega)).2
  rw [ho, Option.bind_some, ul_bdE, h0, Option.bind_some, ul_bdE, hr, Option.bind_some]
  rfl
theorem x_mRound {M : ul_S} {nl p on : Nat} {w : Int32} {R : Nat → Nat} (h4 : nl ≤ 4) (hM : M 0 0 = nI nl) (hon : on < 2 ^ nl) (hR : ∀ x, x < 16 → R x ≤ 99 ∧ f_X7_luckRound M (nI p) (nI x) = some (nI (R x))) : ∃ z, ul_it ul_N (f_X7_round_L35 M (nI p) w (nI on)) (0, 1) = some (nI (sp_bb on R 16), z) := by
  obtain ⟨hp1, hp2⟩ := st_pw nl h4
  have hpos := Nat.two_pow_pos nl
  obtain ⟨n, en⟩ : ∃ n, n = 2 ^ nl := ⟨_, rfl⟩
  rw [← en] at hp1 hp2 hpos
  have hon' : on < n := by rw [en]; exact hon
  have key := ul_run (b := f_X7_round_L35 M (nI p) w (nI on)) (fun i s => i ≤ n - 1 ∧ s.2 = nI (n - i) ∧ s.1 = nI (sp_bb on R (n - i))) (fun r => r.1 = nI (sp_bb on R n))
    (by
      rintro ⟨s1, s2⟩ ⟨-, e1, e2⟩
      dsimp only at e1 e2
      refine ⟨(s1, s2), ?_, e2⟩
      unfold f_X7_round_L35
      dsimp only
      rw [e1, hM, hp1, if_pos (nI_le (by omega) (by omega))])
    (by
      rintro i ⟨s1, s2⟩ ⟨hi, e1, e2⟩
      dsimp only at e1 e2
      left
      obtain ⟨r, er⟩ : ∃ r, r = n - (i + 1) := ⟨_, rfl⟩
      have er1 : n - i = r + 1 := by omega
      rw [← er] at e1 e2
      have hr16 : r < 16 := by omega
      have hb16 : sp_bb on R r < 16 := by
        obtain ⟨q, rfl⟩ : ∃ q, r = q + 1 := ⟨r - 1, by omega⟩
        have := sp_bb_l on R q
        omega
      obtain ⟨b, eb⟩ : ∃ b, b = sp_bb on R r := ⟨_, rfl⟩
      have hstep : sp_bb on R (r + 1) = if r &&& on = r ∧ (R b < R r ∨ (R r = R b ∧ sp_cnt r < sp_cnt b)) then r else b := by
        rw [eb]
        conv => lhs; unfold sp_bb
      rw [← eb] at e2 hb16
      obtain ⟨hr1, hr2⟩ := hR r hr16
      obtain ⟨hb1, hb2⟩ := hR b hb16
      have c1 := sp_cnt_5 r (by omega)
      have c2 := sp_cnt_5 b (by omega)
      rw [er1, hstep]
      refine ⟨(nI (if r &&& on = r ∧ (R b < R r ∨ (R r = R b ∧ sp_cnt r < sp_cnt b)) then r else b), nI (r + 1)), ?_, by omega, rfl, rfl⟩
      unfold f_X7_round_L35 f_X7_round_j86 f_X7_round_j90 f_X7_round_j91 f_X7_round_j112 f_X7_round_j114
      dsimp only
      rw [e1, e2, hM, hp1, if_neg (nI_ge (by omega) (by omega)), hr2, Option.bind_some, hb2, Option.bind_some, ul_bdE, sp_cnt_m r (by omega), sp_cnt_m b (by omega)]
      have hpos : (0 < nI (R r) - nI (R b)) ↔ R b < R r := by
        by_cases g : R b < R r
        · rw [pk_sub (by omega)]
          exact ⟨fun _ => g, fun _ => nI_lt (a := 0) (by omega) (by omega)⟩
        · refine ⟨fun z => ?_, fun z => absurd z g⟩
          exfalso
          by_cases g2 : R r = R b
          · rw [g2, pk_sub (by omega), Nat.sub_self] at z
            exact absurd z (by decide)
          · have := pk_sneg (a := R r) (b := R b) (by omega) (by omega)
            have t1 := Int32.lt_iff_toInt_lt.mp this
            have t2 := Int32.lt_iff_toInt_lt.mp z
            omega
      have hze : (nI (R r) - nI (R b) = 0) ↔ R r = R b := by
        constructor
        · intro z
          have e : nI (R r) = nI (R b) := by
            have := congrArg (fun t => t + nI (R b)) z
            simpa using this
          exact nI_inj (by omega) (by omega) e
        · intro z
          rw [z]
          simp
      simp only [Option.bind_some, ul_bdE, nI_1, (st_sub r hr16 on (by omega)).2, hpos, hze, nI_leI (show sp_cnt b < 2 ^ 31 by omega) (show sp_cnt r < 2 ^ 31 by omega), if_neg (show ¬ (1 : Int32) = 0 by decide)]
      by_cases g1 : r &&& on = r
      · by_cases g2 : R b < R r
        · simp only [if_pos g2, if_pos g1, if_pos (show r &&& on = r ∧ (R b < R r ∨ (R r = R b ∧ sp_cnt r < sp_cnt b)) from ⟨g1, Or.inl g2⟩)]
        · by_cases g3 : R r = R b
          · by_cases g4 : sp_cnt b ≤ sp_cnt r
            · simp only [if_neg g2, if_pos g3, if_pos g4, if_pos g1, if_true, if_neg (show ¬ (r &&& on = r ∧ (R b < R r ∨ (R r = R b ∧ sp_cnt r < sp_cnt b))) by omega)]
            · simp only [if_neg g2, if_pos g3, if_neg g4, if_pos g1, if_pos (show r &&& on = r ∧ (R b < R r ∨ (R r = R b ∧ sp_cnt r < sp_cnt b)) from ⟨g1, Or.inr ⟨g3, by omega⟩⟩)]
          · simp only [if_neg g2, if_neg g3, if_pos g1, if_true, if_neg (show ¬ (r &&& on = r ∧ (R b < R r ∨ (R r = R b ∧ sp_cnt r < sp_cnt b))) by omega)]
      · have g5 : ¬ (r &&& on = r ∧ (R b < R r ∨ (R r = R b ∧ sp_cnt r < sp_cnt b))) := fun q => g1 q.1
        simp only [if_neg g1, if_neg g5]
        repeat' split
        all_goals rfl)
    ul_N (n - 1) (0, 1) ⟨Nat.le_refl _, by dsimp only; rw [show n - (n - 1) = 1 by omega]; rfl, by
      dsimp only
      rw [show n - (n - 1) = 1 by omega]
      unfold sp_bb sp_bb
      simp
      rfl⟩ (by rw [ul_N_v]; omega)
  obtain ⟨⟨r1, r2⟩, hr, y1⟩ := key
  have es : sp_bb on R 16 = sp_bb on R n := by
    have := sp_bb_s (R := R) hon h4 (16 - n)
    rw [← en, show n + (16 - n) = 16 by omega] at this
    exact this
  dsimp only at y1
  rw [← es] at y1
  subst y1
  exact ⟨r2, hr⟩
theorem e_round {c : Nat} {U : ul_S} {d : Int64} {L K N J E M : ul_S} {dm : Int64} {P B : ul_F} (h : ul_RR c U d L K N J E M dm P B) (F : ul_S) (p w : Int32) : ∃ v F', f_X6_round K N F p w = some (v, F') ∧ f_X7_round M p w = some v := by
  obtain ⟨nl, np, h1, h2, -⟩ := h
  have h1' := h1
  obtain ⟨q4, q5, hK0, hM0, hK1, hM1, -⟩ := h1'
  unfold f_X6_round f_X7_round
  rcases q_per (by omega) hK1 hM1 p with ⟨j, hj, rfl, e1, e2⟩ | ⟨e1, e2⟩
  · rw [e1, e2, Option.bind_some, Option.bind_some, if_neg (show ¬ (1 : Int32) = 0 by decide), if_neg (show ¬ (1 : Int32) = 0 by decide)]
    rcases mi_nm (p := w) (a := 0) (b := 1) (y := 0) (z := 1) rfl rfl (by omega) (by omega) with ⟨k, hk0, hk1, rfl, e3⟩ | ⟨hw, e3⟩
    · rw [e3, Option.bind_some, if_neg (show ¬ (1 : Int32) = 0 by decide), if_neg (nI_pos (by omega)), if_pos (show nI k ≤ 1 from nI_le (b := 1) hk1 (by omega))]
      obtain ⟨on, hon, o1, o2⟩ := x_onb h1 h2 hj
      have hon16 : on < 16 := Nat.lt_of_lt_of_le hon (st_pw nl q4).2
      have hx := fun x : Nat => x_step h1 h2 hj (nI x)
      obtain ⟨R, hR⟩ : ∃ R : Nat → Nat, ∀ x, R x ≤ 99 ∧ f_X4_luckByStepping N K (nI j) (nI x) = some (nI (R x)) ∧ f_X7_luckRound M (nI j) (nI x) = some (nI (R x)) := ⟨fun x => Classical.choose (hx x), fun x => Classical.choose_spec (hx x)⟩
      obtain ⟨F', f1, f2, f3⟩ := x_cRound (F := F) hon16 (fun x _ => ⟨(hR x).1, (hR x).2.1⟩) o1
      obtain ⟨z, g1⟩ := x_mRound (w := nI k) q4 hM0 hon (fun x _ => ⟨(hR x).1, (hR x).2.2⟩)
      rw [f1, Option.bind_some, o2, Option.bind_some, g1, Option.bind_some, f2, f3]
      unfold f_X7_round_j122
      dsimp only
      rw [(hR _).2.2, Option.bind_some]
      by_cases hk : nI k = 0
      · rw [if_pos hk, if_pos hk]
        exact ⟨_, _, rfl, rfl⟩
      · rw [if_neg hk, if_neg hk]
        exact ⟨_, _, rfl, rfl⟩
    · rw [e3, Option.bind_some, if_pos rfl]
      by_cases hw0 : w < 0
      · rw [if_pos hw0]
        exact ⟨_, _, rfl, rfl⟩
      · rw [if_neg hw0, if_neg (show ¬ w ≤ 1 from fun q => by
          rcases hw with z | z
          · exact hw0 z
          · exact absurd q (Int32.not_le.mpr z))]
        exact ⟨_, _, rfl, rfl⟩
  · rw [e1, e2, Option.bind_some, Option.bind_some, if_pos rfl, if_pos rfl]
    exact ⟨_, _, rfl, rfl⟩
