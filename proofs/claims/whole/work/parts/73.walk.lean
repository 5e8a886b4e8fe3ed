/-! a person's way, step by step, on both sides -/
def sp_ps (w gl k : Nat) : Nat := if gl ≤ w then w - k else w + k
def sp_ds (w gl : Nat) : Nat := if w ≤ gl then gl - w else w - gl
theorem st_abs : ∀ a, a < 10 → ∀ b, b < 10 → (if 0 ≤ (nI a - nI b) then (nI a - nI b) else 0 - (nI a - nI b)) = nI (sp_ds b a) := by decide +kernel
theorem sp_ps_l {w gl k : Nat} (hw : w < 10) (hg : gl < 10) (hk : k ≤ sp_ds w gl) : sp_ps w gl k < 10 := by
  unfold sp_ps
  unfold sp_ds at hk
  split <;> split at hk <;> omega
theorem sp_ps_0 (w gl : Nat) : sp_ps w gl 0 = w := by unfold sp_ps; split <;> omega
theorem sp_ps_n (w gl : Nat) : sp_ps w gl (sp_ds w gl) = gl := by
  unfold sp_ps sp_ds
  split <;> split <;> omega
theorem sp_ps_ne {w gl k : Nat} (hk : k < sp_ds w gl) : sp_ps w gl k ≠ gl := by
  unfold sp_ps
  unfold sp_ds at hk
  split <;> split at hk <;> omega
theorem cg_goal {T K : ul_S} {p w h wk : Nat} (hp : p < 5) (hT : T 5 p = nI w) (h4 : K 4 p = nI h) (h5 : K 5 p = nI wk) (hw : w < 10) (hh : h < 10) : f_X4_goal T K (nI p) = some (nI (if w = h then wk else h)) := by
  unfold f_X4_goal
  simp (disch := omega) only [ul_ldN, hT, h4, h5]
  by_cases e : w = h
  · rw [if_pos (by rw [e]), if_pos e]
  · rw [if_neg (fun q => e (nI_inj (by omega) (by omega) q)), if_neg e]
theorem mg_goal {M : ul_S} {g : Nat → Int32} {lv p w h wk : Nat} (hv : lv ≤ 1) (hp : p < 5) (hT : g (12 + p) = nI w) (h4 : M 3 p = nI h) (h5 : M 4 p = nI wk) (hw : w < 10) (hh : h < 10) : f_X7_goalOf (ul_sg M (23 * lv) g) (nI lv) (nI p) = some (nI (if w = h then wk else h)) := by
  unfold f_X7_goalOf
  simp (disch := omega) only [ix_12, ul_ldN, sg_6, sg_n, hT, h4, h5]
  by_cases e : w = h
  · rw [if_pos (by rw [e]), if_pos e]
  · rw [if_neg (fun q => e (nI_inj (by omega) (by omega) q)), if_neg e]
theorem cg_ahead {T K : ul_S} {p w h wk gl k : Nat} (hp : p < 5) (hT : T 5 p = nI w) (h4 : K 4 p = nI h) (h5 : K 5 p = nI wk) (hw : w < 10) (hh : h < 10) (hg : gl = if w = h then wk else h) (hg10 : gl < 10) (hk : k ≤ sp_ds w gl) : f_X4_ladderAhead T K (nI p) (nI k) = some (T 2 (sp_ps w gl k)) := by
  unfold f_X4_ladderAhead f_X4_ladderAhead_j25
  rw [cg_goal hp hT h4 h5 hw hh, ← hg]
  simp (disch := omega) only [ul_ldN, hT, Option.bind_some]
  have hl := sp_ps_l hw hg10 hk
  have hd := hk
  unfold sp_ds at hd
  unfold sp_ps at hl ⊢
  by_cases hle : gl ≤ w
  · rw [if_pos (nI_le hle (by omega)), if_pos hle]
    rw [if_pos hle] at hl
    have hkw : k ≤ w := by split at hd <;> omega
    rw [pk_sub hkw, cp_pl hl, Option.bind_some, if_neg (show ¬ (1 : Int32) = 0 by decide)]
    simp (disch := omega) only [ul_ldN]
  · rw [if_neg (nI_ge (by omega) (by omega)), if_neg hle]
    rw [if_neg hle] at hl
    rw [nI_add, cp_pl hl, Option.bind_some, if_neg (show ¬ (1 : Int32) = 0 by decide)]
    simp (disch := omega) only [ul_ldN]
theorem ss_wh {nl np : Nat} {K T : ul_S} {g : Nat → Int32} {mb gb p : Nat} {x : Int32} (hnl : nl ≤ 4) (hp : p < 5) (hnp : np ≤ 5) (h : ul_ss nl np K T g mb gb p) : ul_ss nl np K T (upd g (12 + p) x) mb gb p := by
  obtain ⟨hla, hm, hw, hx, hd⟩ := h
  refine ⟨⟨?_, ?_⟩, ?_, ?_, ?_, ?_⟩
  · intro l hl
    rw [upd_n (by omega)]
    exact hla.1 l hl
  · intro a ha
    rcases hla.2 a ha with ⟨q1, q2⟩ | ⟨l, q1, q2, q3, q4⟩
    · exact Or.inl ⟨q1, fun l hl => by rw [upd_n (by omega)]; exact q2 l hl⟩
    · exact Or.inr ⟨l, q1, q2, by rw [upd_n (by omega)]; exact q3, fun k hk e => q4 k hk (by rw [upd_n (by omega)] at e; exact e)⟩
  · intro l hl
    rw [upd_n (by omega), upd_n (by omega)]
    exact hm l hl
  · intro q hq hne
    rw [upd_n (by omega)]
    exact hw q hq hne
  · intro q hq
    rw [upd_n (by omega)]
    exact hx q hq
  · rw [upd_n (by omega)]
    exact hd
theorem ss_mono {nl np : Nat} {K T : ul_S} {g : Nat → Int32} {mb gb mb' gb' e : Nat} (h : ul_ss nl np K T g mb gb e) (h1 : mb ≤ mb') (h2 : gb ≤ gb') : ul_ss nl np K T g mb' gb' e := by
  obtain ⟨hla, hm, hw, hx, hd⟩ := h
  refine ⟨hla, fun l hl => ?_, hw, hx, hd⟩
  obtain ⟨q1, q2, ⟨x, q3, q4⟩, y, q5, q6⟩ := hm l hl
  exact ⟨q1, q2, ⟨x, by omega, q4⟩, y, by omega, q6⟩
/-- a whole way -/
theorem sw_walk {nl np : Nat} {K M T : ul_S} {g : Nat → Int32} {mb gb lv p : Nat} (hv : lv ≤ 1) (hk : ul_mk nl np K M) (h : ul_ss nl np K T g mb gb np) (hp : p < np) (hmb : mb ≤ 50000) : ∃ T' g', f_X4_walk T K (nI p) = some T' ∧ f_X7_walk (ul_sg M (23 * lv) g) (nI lv) (nI p) = some (ul_sg M (23 * lv) g') ∧ ul_ss nl np K T' g' (mb + 891) gb np := by
  have hk0 := hk
  obtain ⟨h4, h5, hK0, hM0, -, -, hL, hPp⟩ := hk
  obtain ⟨hq7, hh, wk, hh10, hwk10, hhw, eK4, eM3, eK5, eM4⟩ := hPp p hp
  have hp5 : p < 5 := by omega
  obtain ⟨hTg, hTw⟩ := h.2.2.1 p hp (by omega)
  obtain ⟨w, hw10, eT5⟩ : ∃ w, w < 10 ∧ T 5 p = nI w := by
    rcases hTw with q | q
    · exact ⟨hh, hh10, by rw [q, eK4]⟩
    · exact ⟨wk, hwk10, by rw [q, eK5]⟩
  have eg : g (12 + p) = nI w := by rw [← hTg, eT5]
  obtain ⟨gl, egl⟩ : ∃ gl, gl = if w = hh then wk else hh := ⟨_, rfl⟩
  have hgl : gl < 10 := by rw [egl]; split <;> omega
  have hglKW : nI gl = K 4 p ∨ nI gl = K 5 p := by
    rw [egl]
    split
    · exact Or.inr eK5.symm
    · exact Or.inl eK4.symm
  obtain ⟨n, en⟩ : ∃ n, n = sp_ds w gl := ⟨_, rfl⟩
  have hn9 : n ≤ 9 := by rw [en]; unfold sp_ds; split <;> omega
  have hsp : ul_ss nl np K T g mb gb p := ⟨h.1, h.2.1, fun q hq _ => h.2.2.1 q hq (by omega), h.2.2.2⟩
  have hst : f_X4_stepsAhead T K (nI p) = some (nI n) := by
    unfold f_X4_stepsAhead
    rw [cg_goal hp5 eT5 eK4 eK5 hw10 hh10, ← egl]
    simp (disch := omega) only [ul_ldN, eT5, Option.bind_some]
    rw [st_abs gl hgl w hw10, en]
  have key := ul_run2 (b := f_X4_walk_L8 K (nI p) (nI n)) (c := f_X7_walk_L18 (nI lv) (nI p) (nI (23 * lv + (12 + p))) (nI gl))
    (fun i s t => i ≤ n ∧ s.1 = nI (n - i + 1) ∧ s.2 5 p = nI w ∧ ∃ g', t = ul_sg M (23 * lv) g' ∧ g' (12 + p) = nI (sp_ps w gl (n - i)) ∧ ul_ss nl np K s.2 g' (mb + 99 * (n - i)) gb p)
    (fun r r' => r.2 5 p = nI w ∧ ∃ g', r' = ul_sg M (23 * lv) g' ∧ g' (12 + p) = nI gl ∧ ul_ss nl np K r.2 g' (mb + 99 * n) gb p)
    (by
      rintro ⟨s1, s2⟩ t ⟨-, hs1, hs2, g', et, eg', hss⟩
      dsimp only at hs1 hs2 hss
      refine ⟨(s1, s2), t, ?_, ?_, hs2, g', et, ?_, ?_⟩
      · unfold f_X4_walk_L8
        dsimp only
        rw [hs1, if_pos (nI_lt (by omega) (by omega))]
      · unfold f_X7_walk_L18
        rw [et]
        simp (disch := omega) only [ul_ldN, sg_6, eg']
        rw [Nat.sub_zero, en, sp_ps_n, if_pos rfl]
      · rw [eg', Nat.sub_zero, en, sp_ps_n]
      · rw [Nat.sub_zero] at hss
        exact hss)
    (by
      rintro i ⟨s1, s2⟩ t ⟨hi, hs1, hs2, g', et, eg', hss⟩
      dsimp only at hs1 hs2 hss
      left
      obtain ⟨k, ek⟩ : ∃ k, k = n - (i + 1) := ⟨_, rfl⟩
      have ek1 : n - i = k + 1 := by omega
      rw [← ek] at hs1 eg' hss
      have hkn : k < sp_ds w gl := by rw [← en]; omega
      have hps := sp_ps_l (k := k) hw10 hgl (by omega)
      have hps1 := sp_ps_l (k := k + 1) hw10 hgl (by omega)
      have hss1 := ss_wh (x := nI (sp_ps w gl (k + 1))) h4 hp5 h5 hss
      have hat := mm_at (M := M) hv h4 hM0 hps1 hss1.1
      -- the class's step
      have hcl : f_X4_walk_L8 K (nI p) (nI n) (s1, s2) = if s2 2 (sp_ps w gl (k + 1)) = -9 then some (.inr (nI (k + 1 + 1), s2)) else (f_X4_meet s2 K (nI p) (s2 2 (sp_ps w gl (k + 1)))).bind (fun u => some (.inr (nI (k + 1 + 1), u))) := by
        unfold f_X4_walk_L8 f_X4_walk_j35
        dsimp only
        rw [hs1, if_neg (nI_nlt (by omega) (by omega)), cg_ahead hp5 hs2 eK4 eK5 hw10 hh10 egl hgl (by omega)]
        simp only [Option.bind_some, ul_bdE, nI_1]
      -- the reference's step
      have hml : f_X7_walk_L18 (nI lv) (nI p) (nI (23 * lv + (12 + p))) (nI gl) t = if s2 2 (sp_ps w gl (k + 1)) = -9 then some (.inr (ul_sg M (23 * lv) (upd g' (12 + p) (nI (sp_ps w gl (k + 1)))))) else (f_X7_comeTo (ul_sg M (23 * lv) (upd g' (12 + p) (nI (sp_ps w gl (k + 1))))) (nI lv) (nI p) (s2 2 (sp_ps w gl (k + 1)))).bind (fun u => some (.inr u)) := by
        unfold f_X7_walk_L18 f_X7_walk_j52 f_X7_walk_j82
        rw [et]
        simp (disch := omega) only [ul_ldN, sg_6, eg']
        rw [if_neg (fun q => sp_ps_ne hkn (nI_inj (by omega) (by omega) q))]
        have hdir : (if nI gl ≤ nI (sp_ps w gl k) then nI (sp_ps w gl k) + -1 else nI (sp_ps w gl k) + 1) = nI (sp_ps w gl (k + 1)) := by
          have hne := sp_ps_ne hkn
          have hd2 := hkn
          unfold sp_ds at hd2
          unfold sp_ps at hne ⊢
          by_cases hle : gl ≤ w
          · simp only [if_pos hle] at hne ⊢
            have hkw : k + 1 ≤ w - gl := by split at hd2 <;> omega
            rw [if_pos (nI_le (by omega) (by omega))]
            have e1 : w - k = (w - (k + 1)) + 1 := by omega
            rw [e1, pk_m1]
          · simp only [if_neg hle] at hne ⊢
            have hkw : k + 1 ≤ gl - w := by split at hd2 <;> omega
            rw [if_neg (nI_ge (by omega) (by omega)), nI_1]
            rfl
        have hmv : ∀ z : Int32, z = nI (sp_ps w gl (k + 1)) → (ul_st (ul_sg M (23 * lv) g') 6 46 (nI (23 * lv + (12 + p))) z fun M3 => (f_X7_ladderAt M3 (nI lv) (M3 6 (23 * lv + (12 + p)))).bind fun u7 => if u7 = (-9 : Int32) then (some (.inr M3) : Option (ul_S ⊕ ul_S)) else ((f_X7_comeTo M3 (nI lv) (nI p) u7).bind fun u9 => some (.inr u9))) = if s2 2 (sp_ps w gl (k + 1)) = -9 then some (.inr (ul_sg M (23 * lv) (upd g' (12 + p) (nI (sp_ps w gl (k + 1)))))) else (f_X7_comeTo (ul_sg M (23 * lv) (upd g' (12 + p) (nI (sp_ps w gl (k + 1))))) (nI lv) (nI p) (s2 2 (sp_ps w gl (k + 1)))).bind (fun u => some (.inr u)) := by
          intro z hz
          rw [hz]
          simp (disch := omega) only [ul_stN, sg_up, ul_ldN, sg_6, upd_s]
          rw [hat]
          rfl
        by_cases hle : nI gl ≤ nI (sp_ps w gl k)
        · rw [if_pos hle] at hdir ⊢
          exact hmv _ hdir
        · rw [if_neg hle] at hdir ⊢
          exact hmv _ hdir
      rcases hss1.1.2 _ hps1 with ⟨q1, q2⟩ | ⟨l, q1, q2, q3, q4⟩
      · refine ⟨(nI (k + 1 + 1), s2), ul_sg M (23 * lv) (upd g' (12 + p) (nI (sp_ps w gl (k + 1)))), ?_, ?_, ?_⟩
        · rw [hcl, if_pos q1]
        · rw [hml, if_pos q1]
        · dsimp only
          refine ⟨by omega, by rw [ek1], hs2, _, rfl, by rw [upd_s, ek1], ?_⟩
          exact ss_mono hss1 (by omega) (Nat.le_refl _)
      · have hn9' : ¬ s2 2 (sp_ps w gl (k + 1)) = -9 := by
          rw [q2]
          intro e9
          have : (nI l).toInt = (-9 : Int32).toInt := by rw [e9]
          rw [nI_toInt (by omega)] at this
          have e10 : (-9 : Int32).toInt = -9 := by decide
          omega
        obtain ⟨e1, e2, e3⟩ := hL l q1
        obtain ⟨x6, xa, hxa, ea⟩ := hss1.2.2.2.1 p hp
        have hmeet := cm_meet (T := s2) (K := K) (g := upd g' (12 + p) (nI (sp_ps w gl (k + 1)))) (p := p) (l := l) hp5 (by omega) x6 (hss1.2.1 l q1).1
        have hcome := mm_come (M := M) (K := K) (g := upd g' (12 + p) (nI (sp_ps w gl (k + 1)))) (lv := lv) (p := p) (l := l) hv hp5 (by omega) e2 e1 hq7 (by rw [ea]; exact nI_pos (by omega))
        refine ⟨(nI (k + 1 + 1), ul_up (ul_up s2 6 p (sp_meet K (upd g' (12 + p) (nI (sp_ps w gl (k + 1)))) p l (17 + p))) 3 l (sp_meet K (upd g' (12 + p) (nI (sp_ps w gl (k + 1)))) p l (4 + l))), ul_sg M (23 * lv) (sp_meet K (upd g' (12 + p) (nI (sp_ps w gl (k + 1)))) p l), ?_, ?_, ?_⟩
        · rw [hcl, if_neg hn9', q2, hmeet, Option.bind_some]
        · rw [hml, if_neg hn9', q2, hcome, Option.bind_some]
        · dsimp only
          refine ⟨by omega, by rw [ek1], ?_, _, rfl, ?_, ?_⟩
          · rw [ul_up_j (by decide), ul_up_j (by decide)]
            exact hs2
          · rw [sp_meet_o (by omega) (by omega), upd_s, ek1]
          · exact ss_mono (ss_meet hk0 hss1 hp q1 (by omega)) (by omega) (Nat.le_refl _))
    ul_N n ((1 : Int32), T) (ul_sg M (23 * lv) g) ⟨Nat.le_refl n, by rw [Nat.sub_self]; rfl, eT5, g, rfl, by rw [Nat.sub_self, sp_ps_0, eg], by rw [Nat.sub_self]; exact ss_mono hsp (by omega) (Nat.le_refl _)⟩ (by rw [ul_N_v]; omega)
  obtain ⟨r, r', hr, hr', hw5, g', er', eg', hss⟩ := key
  refine ⟨ul_up r.2 5 p (nI gl), g', ?_, ?_, ?_⟩
  · unfold f_X4_walk
    rw [hst, Option.bind_some, hr, Option.bind_some]
    unfold f_X4_walk_j41
    rw [cg_goal hp5 hw5 eK4 eK5 hw10 hh10, ← egl]
    simp (disch := omega) only [Option.bind_some, ul_stN]
  · unfold f_X7_walk
    rw [mg_goal hv hp5 eg eM3 eM4 hw10 hh10, ← egl]
    simp only [ul_bdE, Option.bind_some, ix_12]
    rw [hr', Option.bind_some, er']
    rfl
  · obtain ⟨hla, hm, hwh, hx, hd⟩ := ss_mono hss (show mb + 99 * n ≤ mb + 891 by omega) (Nat.le_refl gb)
    refine ⟨⟨?_, ?_⟩, ?_, ?_, ?_, ?_⟩
    · intro l hl
      rw [ul_up_j (by decide)]
      exact hla.1 l hl
    · intro a ha
      rw [ul_up_j (by decide)]
      exact hla.2 a ha
    · intro l hl
      rw [ul_up_j (by decide), ul_up_j (by decide)]
      exact hm l hl
    · intro q hq hne
      by_cases hqp : q = p
      · subst hqp
        rw [ul_up_s, eg']
        exact ⟨rfl, hglKW⟩
      · rw [ul_up_i hqp]
        exact hwh q hq hqp
    · intro q hq
      rw [ul_up_j (by decide)]
      exact hx q hq
    · rw [ul_up_j (by decide)]
      exact hd
