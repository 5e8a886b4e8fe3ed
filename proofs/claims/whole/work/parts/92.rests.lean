/-! rests -/
theorem x_st {nl np : Nat} {K M N : ul_S} {mb gb l a : Nat} (hk : ul_mk nl np K M) (h : ul_ss nl np K N (fun i => M 6 i) mb gb np) (hl : l < nl) (ha : a < 10) : ∃ b : Bool, f_X4_isOwnOrFree N (nI l) (nI a) = some (if b = true then 1 else 0) ∧ (∀ g, f_X7_mayStand (ul_sg M 23 g) (nI l) (nI a) = some (if b = true then 1 else 0)) ∧ (b = true → ∀ k, k < nl → M 6 k = nI a → k = l) := by
  obtain ⟨q4, q5, hK0, hM0, -⟩ := hk
  have hms : ∀ g, f_X7_mayStand (ul_sg M 23 g) (nI l) (nI a) = if M 6 l = nI a then some 1 else if N 2 a = -9 then some 1 else some 0 := by
    intro g
    unfold f_X7_mayStand f_X7_mayStand_j21
    rw [ul_ldN (by omega) (by omega), sg_lo (by omega), mm_at1 q4 hM0 ha h.1, Option.bind_some]
  rcases x_own q4 ha hl h.1 with ⟨o1, o2, o3⟩ | ⟨o1, o2, o3⟩
  · refine ⟨true, o1, fun g => ?_, fun _ => o3⟩
    rw [hms]
    by_cases c : M 6 l = nI a
    · rw [if_pos c]
      rfl
    · rcases o2 with o2 | o2
      · exact absurd o2 c
      · rw [if_neg c, if_pos o2]
        rfl
  · refine ⟨false, o1, fun g => ?_, fun q => absurd q (by decide)⟩
    rw [hms, if_neg o2, if_neg o3]
    rfl
theorem x_pair {nl np : Nat} {K M N : ul_S} {gb l m x y : Nat} (hk : ul_mk nl np K M) (h : ul_ss nl np K N (fun i => M 6 i) 4 gb np) (hgb : gb ≤ 800000) (hl : l < nl) (hm : m < nl) (hlm : l ≠ m) (hx : x < 10) (hy : y < 10) (hxy : x ≠ y) (f1 : ∀ k, k < nl → M 6 k = nI x → k = l) (f2 : ∀ k, k < nl → M 6 k = nI y → k = m) : ∃ v1 v2 g', v1 ≤ 900000 ∧ v2 ≤ 900000 ∧ (∀ g, f_X7_gain (ul_sg M 23 g) (nI l) (nI m) (nI x) (nI y) (nI l) = some (nI v1, ul_sg M 23 g')) ∧ (∀ g, f_X7_gain (ul_sg M 23 g) (nI l) (nI m) (nI x) (nI y) (nI m) = some (nI v2, ul_sg M 23 g')) ∧ ∀ T, ∃ T1 T2 T3 T4, f_X4_setTo T N = some T1 ∧ f_X4_put T1 (nI l) (nI x) = some T2 ∧ f_X4_put T2 (nI m) (nI y) = some T3 ∧ f_X4_passDays T3 K 6 31 = some T4 ∧ T4 4 l = nI v1 ∧ T4 4 m = nI v2 := by
  have hk' := hk
  obtain ⟨q4, q5, -⟩ := hk'
  have run : ∀ T, ∃ T1 T2 T3 T4 g', f_X4_setTo T N = some T1 ∧ f_X4_put T1 (nI l) (nI x) = some T2 ∧ f_X4_put T2 (nI m) (nI y) = some T3 ∧ f_X4_passDays T3 K 6 31 = some T4 ∧ f_X7_goOn (ul_sg M 23 (upd (upd (fun i => M 6 i) l (nI x)) m (nI y))) 6 0 = some (ul_sg M 23 g') ∧ ul_ss nl np K T4 g' 4 (gb + 6000) np := by
    intro T
    obtain ⟨T1, y1, y2⟩ := st_set T N
    have s1 := ss_eqs q4 q5 h y2
    obtain ⟨a, ha, a1, a2⟩ := s1.1.1 l hl
    have s2 := ss_put q4 q5 s1 hl ha a2 hx f1
    obtain ⟨b, hb, b1, b2⟩ := s2.1.1 m hm
    have s3 := ss_put q4 q5 s2 hm hb b2 hy (by
      intro k hk0 ek
      by_cases hkl : k = l
      · rw [hkl, upd_s] at ek
        exact absurd (nI_inj (by omega) (by omega) ek) hxy
      · rw [upd_n hkl] at ek
        exact f2 k hk0 ek)
    obtain ⟨T4, g', z1, z2, z3⟩ := sw_days (n := 6) (go := 31) (st := 0) hk s3 (by omega) (by omega) (fun p hp => ul_bt31 p (by omega))
    exact ⟨T1, _, _, T4, g', y1, cc_put (by omega) ha hx a1, cc_put (by omega) hb hy b1, z1, z2, z3⟩
  obtain ⟨T1, T2, T3, T4, g', r1, r2, r3, r4, r5, r6⟩ := run N
  obtain ⟨-, -, -, v1, hv1, ev1⟩ := r6.2.1 l hl
  obtain ⟨-, -, -, v2, hv2, ev2⟩ := r6.2.1 m hm
  have hg : ∀ g (j v : Nat), j < 4 → g' (8 + j) = nI v → f_X7_gain (ul_sg M 23 g) (nI l) (nI m) (nI x) (nI y) (nI j) = some (nI v, ul_sg M 23 g') := by
    intro g j v hj ev
    have i31 : (31 : Int32) + nI j = nI (23 + (8 + j)) := by rw [show 23 + (8 + j) = 31 + j by omega]; exact nI_add 31 j
    have i1 : (23 : Int32) + nI l = nI (23 + l) := nI_add 23 l
    have i2 : (23 : Int32) + nI m = nI (23 + m) := nI_add 23 m
    unfold f_X7_gain
    rw [mm_lay2, Option.bind_some, i1, ul_stN (by omega) (by omega), sg_up (by omega), i2, ul_stN (by omega) (by omega), sg_up (by omega), r5, Option.bind_some, i31]
    simp (disch := omega) only [ul_ldN, sg_6]
    rw [ev]
  refine ⟨v1, v2, g', by omega, by omega, fun g => hg g l v1 (by omega) ev1, fun g => hg g m v2 (by omega) ev2, ?_⟩
  intro T
  obtain ⟨T1, T2, T3, T4, g2, s1, s2, s3, s4, s5, s6⟩ := run T
  have e : ul_sg M 23 g2 = ul_sg M 23 g' := Option.some.inj (s5.symm.trans r5)
  refine ⟨T1, T2, T3, T4, s1, s2, s3, s4, ?_, ?_⟩
  · rw [(s6.2.1 l hl).2.1, sg_inj e (8 + l) (by omega), ev1]
  · rw [(s6.2.1 m hm).2.1, sg_inj e (8 + m) (by omega), ev2]
def sp_RP (N K M : ul_S) (l m : Nat) (A B : Nat → Bool) (G1 G2 : Nat → Nat → Nat) : Prop := (∀ a, a < 10 → f_X4_isOwnOrFree N (nI l) (nI a) = some (if A a = true then 1 else 0) ∧ ∀ g, f_X7_mayStand (ul_sg M 23 g) (nI l) (nI a) = some (if A a = true then 1 else 0)) ∧ (∀ a, a < 10 → f_X4_isOwnOrFree N (nI m) (nI a) = some (if B a = true then 1 else 0) ∧ ∀ g, f_X7_mayStand (ul_sg M 23 g) (nI m) (nI a) = some (if B a = true then 1 else 0)) ∧ ∀ x y, x < 10 → y < 10 → (x ≠ y ∧ A x = true ∧ B y = true) → G1 x y ≤ 900000 ∧ G2 x y ≤ 900000 ∧ (∃ g', ∀ g, f_X7_gain (ul_sg M 23 g) (nI l) (nI m) (nI x) (nI y) (nI l) = some (nI (G1 x y), ul_sg M 23 g')) ∧ (∃ g', ∀ g, f_X7_gain (ul_sg M 23 g) (nI l) (nI m) (nI x) (nI y) (nI m) = some (nI (G2 x y), ul_sg M 23 g')) ∧ ∀ T, ∃ T1 T2 T3 T4, f_X4_setTo T N = some T1 ∧ f_X4_put T1 (nI l) (nI x) = some T2 ∧ f_X4_put T2 (nI m) (nI y) = some T3 ∧ f_X4_passDays T3 K 6 31 = some T4 ∧ T4 4 l = nI (G1 x y) ∧ T4 4 m = nI (G2 x y)
theorem x_RP {nl np : Nat} {K M N : ul_S} {gb l m : Nat} (hk : ul_mk nl np K M) (h : ul_ss nl np K N (fun i => M 6 i) 4 gb np) (hgb : gb ≤ 800000) (hl : l < nl) (hm : m < nl) (hlm : l ≠ m) : ∃ A B G1 G2, sp_RP N K M l m A B G1 G2 := by
  obtain ⟨A, hA⟩ : ∃ A : Nat → Bool, ∀ a, a < 10 → f_X4_isOwnOrFree N (nI l) (nI a) = some (if A a = true then 1 else 0) ∧ (∀ g, f_X7_mayStand (ul_sg M 23 g) (nI l) (nI a) = some (if A a = true then 1 else 0)) ∧ (A a = true → ∀ k, k < nl → M 6 k = nI a → k = l) := by
    refine ⟨fun a => if ha : a < 10 then Classical.choose (x_st hk h hl ha) else false, fun a ha => ?_⟩
    have := Classical.choose_spec (x_st hk h hl ha)
    simp only [dif_pos ha]
    exact this
  obtain ⟨B, hB⟩ : ∃ A : Nat → Bool, ∀ a, a < 10 → f_X4_isOwnOrFree N (nI m) (nI a) = some (if A a = true then 1 else 0) ∧ (∀ g, f_X7_mayStand (ul_sg M 23 g) (nI m) (nI a) = some (if A a = true then 1 else 0)) ∧ (A a = true → ∀ k, k < nl → M 6 k = nI a → k = m) := by
    refine ⟨fun a => if ha : a < 10 then Classical.choose (x_st hk h hm ha) else false, fun a ha => ?_⟩
    have := Classical.choose_spec (x_st hk h hm ha)
    simp only [dif_pos ha]
    exact this
  have hp : ∀ x y, ∃ v : Nat × Nat, x < 10 → y < 10 → (x ≠ y ∧ A x = true ∧ B y = true) → v.1 ≤ 900000 ∧ v.2 ≤ 900000 ∧ (∃ g', ∀ g, f_X7_gain (ul_sg M 23 g) (nI l) (nI m) (nI x) (nI y) (nI l) = some (nI v.1, ul_sg M 23 g')) ∧ (∃ g', ∀ g, f_X7_gain (ul_sg M 23 g) (nI l) (nI m) (nI x) (nI y) (nI m) = some (nI v.2, ul_sg M 23 g')) ∧ ∀ T, ∃ T1 T2 T3 T4, f_X4_setTo T N = some T1 ∧ f_X4_put T1 (nI l) (nI x) = some T2 ∧ f_X4_put T2 (nI m) (nI y) = some T3 ∧ f_X4_passDays T3 K 6 31 = some T4 ∧ T4 4 l = nI v.1 ∧ T4 4 m = nI v.2 := by
    intro x y
    by_cases q : x < 10 ∧ y < 10 ∧ (x ≠ y ∧ A x = true ∧ B y = true)
    · obtain ⟨hx, hy, hxy, ax, byy⟩ := q
      obtain ⟨v1, v2, g', z1, z2, z3, z4, z5⟩ := x_pair hk h hgb hl hm hlm hx hy hxy ((hA x hx).2.2 ax) ((hB y hy).2.2 byy)
      exact ⟨(v1, v2), fun _ _ _ => ⟨z1, z2, ⟨g', z3⟩, ⟨g', z4⟩, z5⟩⟩
    · exact ⟨(0, 0), fun a b c => absurd ⟨a, b, c⟩ q⟩
  exact ⟨A, B, fun x y => (Classical.choose (hp x y)).1, fun x y => (Classical.choose (hp x y)).2, fun a ha => ⟨(hA a ha).1, (hA a ha).2.1⟩, fun a ha => ⟨(hB a ha).1, (hB a ha).2.1⟩, fun x y hx hy hv => Classical.choose_spec (hp x y) hx hy hv⟩
def sp_H (A B : Nat → Bool) (G : Nat → Nat → Nat) (x y : Nat) : Int32 := if x ≠ y ∧ A x = true ∧ B y = true then nI (G x y) else -9
theorem x_pairs {N K M F T : ul_S} {l m : Nat} {A B : Nat → Bool} {G1 G2 : Nat → Nat → Nat} (hl : l < 4) (hm : m < 4) (h : sp_RP N K M l m A B G1 G2) : ∃ F' T', f_X1_weighPairs F N T K (nI l) (nI m) = some (F', T') ∧ ∀ z, z < 100 → F' 3 z = sp_H A B G1 (z / 10) (z % 10) ∧ F' 4 z = sp_H A B G2 (z / 10) (z % 10) := by
  obtain ⟨hA, hB, hV⟩ := h
  have key := ul_run (b := f_X1_weighPairs_L2 N K (nI l) (nI m)) (fun i s => i ≤ 100 ∧ s.1 = nI (100 - i) ∧ ∀ z, z < 100 - i → s.2.1 3 z = sp_H A B G1 (z / 10) (z % 10) ∧ s.2.1 4 z = sp_H A B G2 (z / 10) (z % 10)) (fun r => ∀ z, z < 100 → r.2.1 3 z = sp_H A B G1 (z / 10) (z % 10) ∧ r.2.1 4 z = sp_H A B G2 (z / 10) (z % 10))
    (by
      rintro ⟨s1, s2, s3⟩ ⟨-, e1, e2⟩
      dsimp only at e1 e2
      refine ⟨(s1, s2, s3), ?_, fun z hz => e2 z (by omega)⟩
      unfold f_X1_weighPairs_L2
      dsimp only
      rw [e1, if_pos (by decide)])
    (by
      rintro i ⟨s1, s2, s3⟩ ⟨hi, e1, e2⟩
      dsimp only at e1 e2
      left
      obtain ⟨k, ek⟩ : ∃ k, k = 100 - (i + 1) := ⟨_, rfl⟩
      have ek1 : 100 - i = k + 1 := by omega
      rw [← ek] at e1 e2
      have d1 : nI k / 10 = nI (k / 10) := pk_div (a := k) (d := 10) (by omega) (by omega) (by omega)
      have d2 : nI k - nI k / 10 * 10 = nI (k % 10) := pk_rem (a := k) (d := 10) (by omega) (by omega) (by omega)
      have hnx : ∃ F1 T1, f_X1_weighPairs_L2 N K (nI l) (nI m) (s1, s2, s3) = some (.inr (nI (k + 1), F1, T1)) ∧ F1 3 k = sp_H A B G1 (k / 10) (k % 10) ∧ F1 4 k = sp_H A B G2 (k / 10) (k % 10) ∧ ∀ z, z ≠ k → F1 3 z = s2 3 z ∧ F1 4 z = s2 4 z := by
        have hbase : ∀ z, z ≠ k → ul_up (ul_up s2 3 k (-9)) 4 k (-9) 3 z = s2 3 z ∧ ul_up (ul_up s2 3 k (-9)) 4 k (-9) 4 z = s2 4 z := by
          intro z hz
          rw [ul_up_j (j := 4) (j' := 3) (by decide), ul_up_i hz, ul_up_i hz, ul_up_j (by decide)]
          exact ⟨rfl, rfl⟩
        have hno : ¬ (k / 10 ≠ k % 10 ∧ A (k / 10) = true ∧ B (k % 10) = true) → ul_up (ul_up s2 3 k (-9)) 4 k (-9) 3 k = sp_H A B G1 (k / 10) (k % 10) ∧ ul_up (ul_up s2 3 k (-9)) 4 k (-9) 4 k = sp_H A B G2 (k / 10) (k % 10) := by
          intro q
          unfold sp_H
          rw [if_neg q, if_neg q, ul_up_s, ul_up_j (by decide), ul_up_s]
          exact ⟨rfl, rfl⟩
        unfold f_X1_weighPairs_L2 f_X1_weighPairs_j141
        dsimp only
        rw [e1, if_neg (show ¬ 100 ≤ nI k from nI_ge (b := 100) (by omega) (by omega)), d2, d1, ul_bdE, ul_bdE, ul_stN (by omega) (by omega), ul_stN (by omega) (by omega)]
        simp only [ul_bdE, nI_1]
        by_cases c0 : k / 10 = k % 10
        · rw [if_pos (by rw [c0])]
          obtain ⟨y1, y2⟩ := hno (fun q => q.1 c0)
          exact ⟨_, _, rfl, y1, y2, hbase⟩
        · rw [if_neg (nI_ne (by omega) (by omega) c0), (hA (k / 10) (by omega)).1, Option.bind_some]
          by_cases c1 : A (k / 10) = true
          · rw [if_pos c1, if_neg n10, (hB (k % 10) (by omega)).1, Option.bind_some]
            by_cases c2 : B (k % 10) = true
            · rw [if_pos c2, if_neg n10]
              obtain ⟨-, -, -, -, hT⟩ := hV (k / 10) (k % 10) (by omega) (by omega) ⟨c0, c1, c2⟩
              obtain ⟨T1, T2, T3, T4, t1, t2, t3, t4, t5, t6⟩ := hT s3
              rw [t1, Option.bind_some, t2, Option.bind_some, t3, Option.bind_some, t4, Option.bind_some]
              simp (disch := omega) only [ul_ldN, ul_stN]
              rw [t5, t6]
              refine ⟨_, _, rfl, ?_, ?_, ?_⟩
              · unfold sp_H
                rw [if_pos ⟨c0, c1, c2⟩, ul_up_j (by decide), ul_up_s]
              · unfold sp_H
                rw [if_pos ⟨c0, c1, c2⟩, ul_up_s]
              · intro z hz
                obtain ⟨y1, y2⟩ := hbase z hz
                constructor
                · rw [ul_up_j (by decide), ul_up_i hz]
                  exact y1
                · rw [ul_up_i hz, ul_up_j (by decide)]
                  exact y2
            · rw [if_neg c2, if_pos rfl]
              obtain ⟨y1, y2⟩ := hno (fun q => c2 q.2.2)
              exact ⟨_, _, rfl, y1, y2, hbase⟩
          · rw [if_neg c1, if_pos rfl]
            obtain ⟨y1, y2⟩ := hno (fun q => c1 q.2.1)
            exact ⟨_, _, rfl, y1, y2, hbase⟩
      obtain ⟨F1, T1, y0, y1, y2, y3⟩ := hnx
      refine ⟨(nI (k + 1), F1, T1), y0, by omega, by rw [ek1], ?_⟩
      intro z hz
      dsimp only
      by_cases hzk : z = k
      · rw [hzk]
        exact ⟨y1, y2⟩
      · obtain ⟨w1, w2⟩ := y3 z hzk
        rw [w1, w2]
        exact e2 z (by omega))
    ul_N 100 (0, F, T) ⟨Nat.le_refl 100, rfl, fun z hz => by omega⟩ (by rw [ul_N_v]; omega)
  obtain ⟨⟨r1, r2, r3⟩, hr, y⟩ := key
  refine ⟨r2, r3, ?_, y⟩
  unfold f_X1_weighPairs
  rw [hr, Option.bind_some]
  rfl
/-- no better place for either -/
def sp_q (A B : Nat → Bool) (G1 G2 : Nat → Nat → Nat) (x y w : Nat) : Bool := decide (sp_H A B G1 w y ≤ sp_H A B G1 x y ∧ sp_H A B G2 x w ≤ sp_H A B G2 x y)
def sp_al (A B : Nat → Bool) (G1 G2 : Nat → Nat → Nat) (x y : Nat) : Bool := (List.range 10).all (fun w => sp_q A B G1 G2 x y w)
theorem sp_al_t {A B : Nat → Bool} {G1 G2 : Nat → Nat → Nat} {x y : Nat} (h : ∀ w, w < 10 → sp_q A B G1 G2 x y w = true) : sp_al A B G1 G2 x y = true := by
  unfold sp_al
  rw [List.all_eq_true]
  intro w hw
  exact h w (List.mem_range.mp hw)
theorem sp_al_f {A B : Nat → Bool} {G1 G2 : Nat → Nat → Nat} {x y : Nat} (h : ¬ ∀ w, w < 10 → sp_q A B G1 G2 x y w = true) : sp_al A B G1 G2 x y = false := by
  cases hq : sp_al A B G1 G2 x y
  · rfl
  · exfalso
    unfold sp_al at hq
    rw [List.all_eq_true] at hq
    exact h (fun w hw => hq w (List.mem_range.mpr hw))
def sp_R (A B : Nat → Bool) (G1 G2 : Nat → Nat → Nat) (z : Nat) : Bool := decide (z / 10 ≠ z % 10 ∧ A (z / 10) = true ∧ B (z % 10) = true) && sp_al A B G1 G2 (z / 10) (z % 10)
theorem x_cRest {F : ul_S} {A B : Nat → Bool} {G1 G2 : Nat → Nat → Nat} {z : Nat} (hz : z < 100) (hF : ∀ z, z < 100 → F 3 z = sp_H A B G1 (z / 10) (z % 10) ∧ F 4 z = sp_H A B G2 (z / 10) (z % 10)) (hG : ∀ x y, x < 10 → y < 10 → (x ≠ y ∧ A x = true ∧ B y = true) → G1 x y ≤ 900000) : f_X1_isRest F (nI z) = some (if sp_R A B G1 G2 z = true then 1 else 0) := by
  have d1 : nI z / 10 = nI (z / 10) := pk_div (a := z) (d := 10) (by omega) (by omega) (by omega)
  have d2 : nI z - nI z / 10 * 10 = nI (z % 10) := pk_rem (a := z) (d := 10) (by omega) (by omega) (by omega)
  obtain ⟨x, ex⟩ : ∃ x, x = z / 10 := ⟨_, rfl⟩
  obtain ⟨y, ey⟩ : ∃ y, y = z % 10 := ⟨_, rfl⟩
  have hx : x < 10 := by omega
  have hy : y < 10 := by omega
  obtain ⟨f1, f2⟩ := hF z hz
  unfold f_X1_isRest sp_R
  rw [← ex, ← ey] at f1 f2 ⊢
  rw [d2, d1, ← ex, ← ey, ul_ldN (by omega) (by omega), f1]
  by_cases hv : x ≠ y ∧ A x = true ∧ B y = true
  · have hne : ¬ sp_H A B G1 x y = -9 := by
      unfold sp_H
      rw [if_pos hv]
      intro q
      have := congrArg Int32.toInt q
      have hb := hG x y hx hy hv
      rw [nI_toInt (by omega), show (-9 : Int32).toInt = -9 by decide] at this
      omega
    rw [if_neg hne, ul_bdE, ul_bdE, decide_eq_true hv, Bool.true_and]
    have key := ul_run (b := f_X1_isRest_L26 F (nI z) (nI x) (nI y)) (fun i s => i ≤ 10 ∧ s = nI (10 - i) ∧ ∀ w, w < 10 - i → sp_q A B G1 G2 x y w = true) (fun r => (∃ u, r = .inr u ∧ ∀ w, w < 10 → sp_q A B G1 G2 x y w = true) ∨ (r = .inl 0 ∧ ¬ ∀ w, w < 10 → sp_q A B G1 G2 x y w = true))
      (by
        rintro s ⟨-, e1, e2⟩
        refine ⟨.inr s, ?_, Or.inl ⟨s, rfl, fun w hw => e2 w (by omega)⟩⟩
        unfold f_X1_isRest_L26
        rw [e1, if_pos (by decide)])
      (by
        rintro i s ⟨hi, e1, e2⟩
        obtain ⟨w, ew⟩ : ∃ w, w = 10 - (i + 1) := ⟨_, rfl⟩
        have ew1 : 10 - i = w + 1 := by omega
        rw [← ew] at e1 e2
        have j1 : nI w * 10 + nI y = nI (w * 10 + y) := by rw [← nI_add, ← pk_mul]; rfl
        have j2 : nI x * 10 + nI w = nI (x * 10 + w) := by rw [← nI_add, ← pk_mul]; rfl
        obtain ⟨g1, -⟩ := hF (w * 10 + y) (by omega)
        obtain ⟨-, g2⟩ := hF (x * 10 + w) (by omega)
        rw [show (w * 10 + y) / 10 = w by omega, show (w * 10 + y) % 10 = y by omega] at g1
        rw [show (x * 10 + w) / 10 = x by omega, show (x * 10 + w) % 10 = w by omega] at g2
        have hb : f_X1_isRest_L26 F (nI z) (nI x) (nI y) s = if sp_q A B G1 G2 x y w = true then some (.inr (nI (w + 1))) else some (.inl (.inl 0)) := by
          unfold f_X1_isRest_L26 sp_q
          rw [e1, if_neg (show ¬ 10 ≤ nI w from nI_ge (b := 10) (by omega) (by omega)), j1, j2]
          simp (disch := omega) only [ul_ldN, ul_bdE, nI_1]
          rw [g1, g2, f1, f2]
          by_cases c1 : sp_H A B G1 w y ≤ sp_H A B G1 x y
          · rw [if_neg (Int32.not_lt.mpr c1)]
            by_cases c2 : sp_H A B G2 x w ≤ sp_H A B G2 x y
            · rw [if_pos c2, if_pos (by rw [decide_eq_true_iff]; exact ⟨c1, c2⟩)]
            · rw [if_neg c2, if_neg (by rw [decide_eq_true_iff]; exact fun q => c2 q.2)]
          · rw [if_pos (Int32.not_le.mp c1), if_neg (by rw [decide_eq_true_iff]; exact fun q => c1 q.1)]
        rw [hb]
        by_cases c : sp_q A B G1 G2 x y w = true
        · left
          rw [if_pos c]
          refine ⟨_, rfl, by omega, by rw [ew1], fun v hv' => ?_⟩
          by_cases hvw : v = w
          · rw [hvw]; exact c
          · exact e2 v (by omega)
        · right
          rw [if_neg c]
          exact ⟨_, rfl, Or.inr ⟨rfl, fun q => c (q w (by omega))⟩⟩)
      ul_N 10 0 ⟨Nat.le_refl 10, rfl, fun w hw => by omega⟩ (by rw [ul_N_v]; omega)
    obtain ⟨r, hr, q⟩ := key
    rw [hr, Option.bind_some]
    rcases q with ⟨u, rfl, q⟩ | ⟨rfl, q⟩
    · rw [sp_al_t q]
      rfl
    · rw [sp_al_f q]
      rfl
  · have heq : sp_H A B G1 x y = -9 := by
      unfold sp_H
      rw [if_neg hv]
    rw [if_pos heq, decide_eq_false hv, Bool.false_and]
    rfl
theorem sp_H_le {A B : Nat → Bool} {G : Nat → Nat → Nat} {x y u v : Nat} (hv : x ≠ y ∧ A x = true ∧ B y = true) (hG : G x y ≤ 900000) (hn : ¬ (u ≠ v ∧ A u = true ∧ B v = true)) : sp_H A B G u v ≤ sp_H A B G x y := by
  unfold sp_H
  rw [if_pos hv, if_neg hn, fa_le, nI_toInt (by omega), show (-9 : Int32).toInt = -9 by decide]
  omega
theorem x_mRest {N K M : ul_S} {l m x y : Nat} {A B : Nat → Bool} {G1 G2 : Nat → Nat → Nat} {g0 : Nat → Int32} (h : sp_RP N K M l m A B G1 G2) (hx : x < 10) (hy : y < 10) (hv : x ≠ y ∧ A x = true ∧ B y = true) : ∃ g, f_X7_isRest (ul_sg M 23 g0) (nI l) (nI m) (nI x) (nI y) = some (if sp_al A B G1 G2 x y = true then 1 else 0, ul_sg M 23 g) := by
  obtain ⟨hA, hB, hV⟩ := h
  obtain ⟨b1, b2, ⟨g1, k1⟩, ⟨g2, k2⟩, -⟩ := hV x y hx hy hv
  unfold f_X7_isRest
  rw [k1, Option.bind_some]
  dsimp only
  rw [k2, Option.bind_some]
  dsimp only
  have eH1 : sp_H A B G1 x y = nI (G1 x y) := by unfold sp_H; rw [if_pos hv]
  have eH2 : sp_H A B G2 x y = nI (G2 x y) := by unfold sp_H; rw [if_pos hv]
  have key := ul_run (b := f_X7_isRest_L27 (nI l) (nI m) (nI x) (nI y) (nI (G1 x y)) (nI (G2 x y))) (fun i s => i ≤ 10 ∧ s.1 = nI (10 - i) ∧ (∃ g, s.2 = ul_sg M 23 g) ∧ ∀ w, w < 10 - i → sp_q A B G1 G2 x y w = true) (fun r => (∃ u g, r = .inr (u, ul_sg M 23 g) ∧ ∀ w, w < 10 → sp_q A B G1 G2 x y w = true) ∨ (∃ g, r = .inl (0, ul_sg M 23 g) ∧ ¬ ∀ w, w < 10 → sp_q A B G1 G2 x y w = true))
    (by
      rintro ⟨s1, s2⟩ ⟨-, e1, ⟨g, e3⟩, e2⟩
      dsimp only at e1 e2 e3
      subst e3
      refine ⟨.inr (s1, ul_sg M 23 g), ?_, Or.inl ⟨s1, g, rfl, fun w hw => e2 w (by omega)⟩⟩
      unfold f_X7_isRest_L27
      dsimp only
      rw [e1, if_pos (by decide)])
    (by
      rintro i ⟨s1, s2⟩ ⟨hi, e1, ⟨g, e3⟩, e2⟩
      dsimp only at e1 e2 e3
      subst e3
      obtain ⟨w, ew⟩ : ∃ w, w = 10 - (i + 1) := ⟨_, rfl⟩
      have ew1 : 10 - i = w + 1 := by omega
      rw [← ew] at e1 e2
      have hw : w < 10 := by omega
      have h69 : ∀ g, ∃ g', f_X7_isRest_j69 (nI l) (nI m) (nI x) (nI y) (nI (G1 x y)) (nI (G2 x y)) (nI w) (ul_sg M 23 g) = if sp_H A B G2 x w ≤ sp_H A B G2 x y then some (.inr (nI (w + 1), ul_sg M 23 g')) else some (.inl (.inl (0, ul_sg M 23 g'))) := by
        intro g
        unfold f_X7_isRest_j69 f_X7_isRest_j102
        rw [(hB w hw).2 g, Option.bind_some]
        simp only [ul_bdE, nI_1]
        by_cases c1 : B w = true
        · rw [if_pos c1, if_neg n10]
          by_cases c2 : w = x
          · refine ⟨g, ?_⟩
            rw [if_pos (by rw [c2]), if_pos (sp_H_le hv b2 (by rw [c2]; exact fun q => q.1 rfl))]
          · rw [if_neg (nI_ne (by omega) (by omega) c2)]
            have hvw : x ≠ w ∧ A x = true ∧ B w = true := ⟨fun q => c2 q.symm, hv.2.1, c1⟩
            obtain ⟨-, -, -, ⟨g3, k3⟩, -⟩ := hV x w hx hw hvw
            have e3 : sp_H A B G2 x w = nI (G2 x w) := by unfold sp_H; rw [if_pos hvw]
            refine ⟨g3, ?_⟩
            rw [k3, Option.bind_some, e3, eH2]
        · refine ⟨g, ?_⟩
          rw [if_neg c1, if_pos rfl, if_pos (sp_H_le hv b2 (fun q => c1 q.2.2))]
      have hb : ∃ g', f_X7_isRest_L27 (nI l) (nI m) (nI x) (nI y) (nI (G1 x y)) (nI (G2 x y)) (s1, ul_sg M 23 g) = if sp_q A B G1 G2 x y w = true then some (.inr (nI (w + 1), ul_sg M 23 g')) else some (.inl (.inl (0, ul_sg M 23 g'))) := by
        have hq : ∀ g, sp_H A B G1 w y ≤ sp_H A B G1 x y → ∃ g', f_X7_isRest_j69 (nI l) (nI m) (nI x) (nI y) (nI (G1 x y)) (nI (G2 x y)) (nI w) (ul_sg M 23 g) = if sp_q A B G1 G2 x y w = true then some (.inr (nI (w + 1), ul_sg M 23 g')) else some (.inl (.inl (0, ul_sg M 23 g'))) := by
          intro g hle
          obtain ⟨g', e⟩ := h69 g
          refine ⟨g', ?_⟩
          rw [e]
          unfold sp_q
          by_cases c : sp_H A B G2 x w ≤ sp_H A B G2 x y
          · rw [if_pos c, if_pos (by rw [decide_eq_true_iff]; exact ⟨hle, c⟩)]
          · rw [if_neg c, if_neg (by rw [decide_eq_true_iff]; exact fun q => c q.2)]
        unfold f_X7_isRest_L27
        dsimp only
        rw [e1, if_neg (show ¬ 10 ≤ nI w from nI_ge (b := 10) (by omega) (by omega)), (hA w hw).2 g, Option.bind_some]
        by_cases c1 : A w = true
        · rw [if_pos c1, if_neg n10]
          by_cases c2 : w = y
          · rw [if_pos (by rw [c2])]
            exact hq g (sp_H_le hv b1 (by rw [c2]; exact fun q => q.1 rfl))
          · rw [if_neg (nI_ne (by omega) (by omega) c2)]
            have hvw : w ≠ y ∧ A w = true ∧ B y = true := ⟨c2, c1, hv.2.2⟩
            obtain ⟨-, -, ⟨g3, k3⟩, -, -⟩ := hV w y hw hy hvw
            have e3 : sp_H A B G1 w y = nI (G1 w y) := by unfold sp_H; rw [if_pos hvw]
            rw [k3, Option.bind_some]
            dsimp only
            by_cases c3 : nI (G1 w y) ≤ nI (G1 x y)
            · rw [if_pos c3]
              exact hq g3 (by rw [e3, eH1]; exact c3)
            · refine ⟨g3, ?_⟩
              rw [if_neg c3]
              unfold sp_q
              rw [if_neg (by rw [decide_eq_true_iff, e3, eH1]; exact fun q => c3 q.1)]
        · rw [if_neg c1, if_pos rfl]
          exact hq g (sp_H_le hv b1 (fun q => c1 q.2.1))
      obtain ⟨g', e⟩ := hb
      rw [e]
      by_cases c : sp_q A B G1 G2 x y w = true
      · left
        rw [if_pos c]
        refine ⟨_, rfl, by omega, by rw [ew1], ⟨g', rfl⟩, fun v hv' => ?_⟩
        by_cases hvw : v = w
        · rw [hvw]; exact c
        · exact e2 v (by omega)
      · right
        rw [if_neg c]
        exact ⟨_, rfl, Or.inr ⟨g', rfl, fun q => c (q w (by omega))⟩⟩)
    ul_N 10 (0, ul_sg M 23 g2) ⟨Nat.le_refl 10, rfl, ⟨g2, rfl⟩, fun w hw => by omega⟩ (by rw [ul_N_v]; omega)
  obtain ⟨r, hr, q⟩ := key
  rw [hr, Option.bind_some]
  rcases q with ⟨u, g, rfl, q⟩ | ⟨g, rfl, q⟩
  · exact ⟨g, by rw [sp_al_t q]; rfl⟩
  · exact ⟨g, by rw [sp_al_f q]; rfl⟩
def sp_f2 (F : Nat → Bool) : Nat → Int32
  | 0 => -9
  | m + 1 => if F m = true ∧ sp_ct F m = 0 then nI m else sp_f2 F m
theorem sp_f2_s (F : Nat → Bool) (m : Nat) : sp_f2 F (m + 1) = if F m = true ∧ sp_ct F m = 0 then nI m else sp_f2 F m := rfl
theorem sp_f2_k {F : Nat → Bool} {m : Nat} (h : sp_ct F m ≠ 0) : ∀ k, sp_f2 F (m + k) = sp_f2 F m := by
  intro k
  induction k with
  | zero => rfl
  | succ k ih =>
    rw [← Nat.add_assoc, sp_f2_s, if_neg (fun q => (sp_ct_k h k).1 q.2)]
    exact ih
theorem sp_f2_0 {F : Nat → Bool} : ∀ m, sp_ct F m = 0 → sp_f2 F m = -9 := by
  intro m
  induction m with
  | zero => intro; rfl
  | succ m ih =>
    intro h
    rw [sp_ct_s] at h
    by_cases q : F m = true
    · rw [if_pos q] at h
      omega
    · rw [if_neg q] at h
      rw [sp_f2_s, if_neg (fun z => q z.1)]
      exact ih h
theorem x_cRests {F : ul_S} {R : Nat → Bool} (hR : ∀ z, z < 100 → f_X1_isRest F (nI z) = some (if R z = true then 1 else 0)) : f_X1_countRests F = some (nI (sp_ct R 100)) ∧ f_X1_firstRest F = some (sp_f2 R 100) := by
  constructor
  · have key := ul_run (b := f_X1_countRests_L4 F) (fun i s => i ≤ 100 ∧ s.1 = nI (sp_ct R (100 - i)) ∧ s.2 = nI (100 - i)) (fun r => r.1 = nI (sp_ct R 100))
      (by
        rintro ⟨s1, s2⟩ ⟨-, e1, e2⟩
        dsimp only at e1 e2
        refine ⟨(s1, s2), ?_, e1⟩
        unfold f_X1_countRests_L4
        dsimp only
        rw [e2, if_pos (by decide)])
      (by
        rintro i ⟨s1, s2⟩ ⟨hi, e1, e2⟩
        dsimp only at e1 e2
        left
        obtain ⟨k, ek⟩ : ∃ k, k = 100 - (i + 1) := ⟨_, rfl⟩
        have ek1 : 100 - i = k + 1 := by omega
        rw [← ek] at e1 e2
        refine ⟨(nI (sp_ct R (k + 1)), nI (k + 1)), ?_, by omega, by rw [ek1], by rw [ek1]⟩
        unfold f_X1_countRests_L4 f_X1_countRests_j21
        dsimp only
        rw [e1, e2, if_neg (show ¬ 100 ≤ nI k from nI_ge (b := 100) (by omega) (by omega)), hR k (by omega), Option.bind_some, sp_ct_s]
        simp only [ul_bdE, nI_1]
        by_cases q : R k = true
        · rw [if_pos q, if_pos q, if_neg n10]
        · rw [if_neg q, if_neg q, if_pos rfl])
      ul_N 100 (0, 0) ⟨Nat.le_refl 100, rfl, rfl⟩ (by rw [ul_N_v]; omega)
    obtain ⟨⟨r1, r2⟩, hr, y⟩ := key
    dsimp only at y
    subst y
    unfold f_X1_countRests
    rw [hr, Option.bind_some]
    rfl
  · have key := ul_run (b := f_X1_firstRest_L2 F) (fun i s => i ≤ 100 ∧ sp_ct R (100 - i) = 0 ∧ s = nI (100 - i)) (fun r => (r = .inl (sp_f2 R 100)) ∨ (∃ z, r = .inr z ∧ sp_ct R 100 = 0))
      (by
        rintro s ⟨-, e1, e2⟩
        refine ⟨.inr s, ?_, Or.inr ⟨s, rfl, e1⟩⟩
        unfold f_X1_firstRest_L2
        rw [e2, if_pos (by decide)])
      (by
        rintro i s ⟨hi, e1, e2⟩
        obtain ⟨k, ek⟩ : ∃ k, k = 100 - (i + 1) := ⟨_, rfl⟩
        have ek1 : 100 - i = k + 1 := by omega
        rw [← ek] at e1 e2
        unfold f_X1_firstRest_L2
        rw [e2, if_neg (show ¬ 100 ≤ nI k from nI_ge (b := 100) (by omega) (by omega)), hR k (by omega), Option.bind_some]
        simp only [ul_bdE, nI_1]
        by_cases q : R k = true
        · right
          rw [if_pos q, if_neg n10]
          refine ⟨_, rfl, Or.inl ?_⟩
          have hc1 : sp_ct R (k + 1) ≠ 0 := by
            rw [sp_ct_s, if_pos q]
            omega
          have hk := sp_f2_k hc1 (100 - (k + 1))
          rw [show k + 1 + (100 - (k + 1)) = 100 by omega] at hk
          rw [hk, sp_f2_s, if_pos ⟨q, e1⟩]
        · left
          rw [if_neg q, if_pos rfl]
          refine ⟨_, rfl, by omega, ?_, by rw [ek1]⟩
          rw [ek1, sp_ct_s, if_neg q]
          exact e1)
      ul_N 100 0 ⟨Nat.le_refl 100, rfl, rfl⟩ (by rw [ul_N_v]; omega)
    obtain ⟨r, hr, y⟩ := key
    unfold f_X1_firstRest
    rw [hr, Option.bind_some]
    rcases y with rfl | ⟨z, rfl, y⟩
    · rfl
    · rw [sp_f2_0 100 y]
      rfl
theorem x_mRests {N K M : ul_S} {l m : Nat} {w : Int32} {A B : Nat → Bool} {G1 G2 : Nat → Nat → Nat} (h : sp_RP N K M l m A B G1 G2) : ∃ z g, ul_it ul_N (f_X7_rests_L46 (nI l) (nI m) w) (0, -9, 0, M) = some (nI (sp_ct (sp_R A B G1 G2) 100), sp_f2 (sp_R A B G1 G2) 100, z, ul_sg M 23 g) := by
  have h0 := h
  obtain ⟨hA, hB, hV⟩ := h
  obtain ⟨R, eR⟩ : ∃ R, R = sp_R A B G1 G2 := ⟨_, rfl⟩
  rw [← eR]
  have key := ul_run (b := f_X7_rests_L46 (nI l) (nI m) w) (fun i s => i ≤ 100 ∧ s.1 = nI (sp_ct R (100 - i)) ∧ s.2.1 = sp_f2 R (100 - i) ∧ s.2.2.1 = nI (100 - i) ∧ ∃ g, s.2.2.2 = ul_sg M 23 g) (fun r => r.1 = nI (sp_ct R 100) ∧ r.2.1 = sp_f2 R 100 ∧ ∃ g, r.2.2.2 = ul_sg M 23 g)
    (by
      rintro ⟨s1, s2, s3, s4⟩ ⟨-, e1, e2, e3, e4⟩
      dsimp only at e1 e2 e3 e4
      refine ⟨(s1, s2, s3, s4), ?_, e1, e2, e4⟩
      unfold f_X7_rests_L46
      dsimp only
      rw [e3, if_pos (by decide)])
    (by
      rintro i ⟨s1, s2, s3, s4⟩ ⟨hi, e1, e2, e3, ⟨g, e4⟩⟩
      dsimp only at e1 e2 e3 e4
      subst e4
      left
      obtain ⟨k, ek⟩ : ∃ k, k = 100 - (i + 1) := ⟨_, rfl⟩
      have ek1 : 100 - i = k + 1 := by omega
      rw [← ek] at e1 e2 e3
      have hct := sp_ct_l R k
      have d1 : nI k / 10 = nI (k / 10) := pk_div (a := k) (d := 10) (by omega) (by omega) (by omega)
      have d2 : nI k - nI k / 10 * 10 = nI (k % 10) := pk_rem (a := k) (d := 10) (by omega) (by omega) (by omega)
      have hno : ¬ (k / 10 ≠ k % 10 ∧ A (k / 10) = true ∧ B (k % 10) = true) → R k = false := by
        intro q
        rw [eR]
        unfold sp_R
        rw [decide_eq_false q]
        rfl
      have hnx : ∃ g', f_X7_rests_L46 (nI l) (nI m) w (s1, s2, s3, ul_sg M 23 g) = some (.inr (nI (sp_ct R (k + 1)), sp_f2 R (k + 1), nI (k + 1), ul_sg M 23 g')) := by
        have skip : R k = false → ∀ g, f_X7_rests_j124 (nI l) (nI m) w (nI (sp_ct R k)) (sp_f2 R k) (nI k) (nI (k / 10)) (nI (k % 10)) (ul_sg M 23 g) = some (.inr (nI (sp_ct R (k + 1)), sp_f2 R (k + 1), nI (k + 1), ul_sg M 23 g)) := by
          intro q g
          unfold f_X7_rests_j124
          rw [ul_bdE, nI_1, sp_ct_s, sp_f2_s, if_neg (by rw [q]; decide), if_neg (by rw [q]; exact fun z => absurd z.1 (by decide))]
        unfold f_X7_rests_L46
        dsimp only
        rw [e1, e2, e3, if_neg (show ¬ 100 ≤ nI k from nI_ge (b := 100) (by omega) (by omega)), d2, d1, ul_bdE, ul_bdE]
        by_cases c0 : k / 10 = k % 10
        · rw [if_pos (by rw [c0])]
          exact ⟨g, skip (hno (fun q => q.1 c0)) g⟩
        · rw [if_neg (nI_ne (by omega) (by omega) c0), (hA (k / 10) (by omega)).2 g, Option.bind_some]
          by_cases c1 : A (k / 10) = true
          · rw [if_pos c1, if_neg n10, (hB (k % 10) (by omega)).2 g, Option.bind_some]
            by_cases c2 : B (k % 10) = true
            · rw [if_pos c2, if_neg n10]
              obtain ⟨g', e⟩ := x_mRest (g0 := g) h0 (show k / 10 < 10 by omega) (show k % 10 < 10 by omega) ⟨c0, c1, c2⟩
              have eRk : R k = sp_al A B G1 G2 (k / 10) (k % 10) := by
                rw [eR]
                unfold sp_R
                rw [decide_eq_true (show k / 10 ≠ k % 10 ∧ A (k / 10) = true ∧ B (k % 10) = true from ⟨c0, c1, c2⟩), Bool.true_and]
              rw [e, Option.bind_some, ← eRk]
              dsimp only
              refine ⟨g', ?_⟩
              by_cases c3 : R k = true
              · rw [if_pos c3, if_neg n10]
                unfold f_X7_rests_j119 f_X7_rests_j124
                simp only [ul_bdE, nI_1]
                rw [sp_ct_s, sp_f2_s, if_pos c3]
                by_cases c4 : sp_ct R k = 0
                · rw [if_pos (by rw [c4]; rfl), if_pos ⟨c3, c4⟩]
                · rw [if_neg (nI_ne0 (by omega) (by omega)), if_neg (fun z => c4 z.2)]
              · rw [if_neg c3, if_pos rfl]
                exact skip (by
                  cases hq : R k
                  · rfl
                  · exact absurd hq c3) g'
            · rw [if_neg c2, if_pos rfl]
              exact ⟨g, skip (hno (fun q => c2 q.2.2)) g⟩
          · rw [if_neg c1, if_pos rfl]
            exact ⟨g, skip (hno (fun q => c1 q.2.1)) g⟩
      obtain ⟨g', e⟩ := hnx
      exact ⟨_, e, by omega, by rw [ek1], by rw [ek1], by rw [ek1], ⟨g', rfl⟩⟩)
    ul_N 100 (0, -9, 0, M) ⟨Nat.le_refl 100, rfl, rfl, rfl, ⟨_, (sg_self M 23).symm⟩⟩ (by rw [ul_N_v]; omega)
  obtain ⟨⟨r1, r2, r3, r4⟩, hr, y1, y2, ⟨g, y3⟩⟩ := key
  dsimp only at y1 y2 y3
  subst y1
  subst y2
  subst y3
  exact ⟨r3, g, hr⟩
theorem e_rests {c : Nat} {U : ul_S} {d : Int64} {L K N J E M : ul_S} {dm : Int64} {P B : ul_F} (hc : c ≤ 600) (h : ul_RR c U d L K N J E M dm P B) (T F : ul_S) (p l w : Int32) : ∃ v T' F' M', f_X6_rests K N T F p l w = some (v, T', F') ∧ f_X7_rests M p l w = some (v, M') ∧ ul_RR c U d L K N J E M' dm P B := by
  have h0 := h
  obtain ⟨nl, np, h1, h2, -⟩ := h
  have h1' := h1
  obtain ⟨q4, q5, hK0, hM0, hK1, hM1, -⟩ := h1'
  unfold f_X6_rests f_X7_rests
  rcases q_lad (by omega) hK0 hM0 p with ⟨p, hp, rfl, e1, e2⟩ | ⟨e1, e2⟩
  · rw [e1, e2, Option.bind_some, Option.bind_some, if_neg n10, if_neg n10]
    rcases q_lad (by omega) hK0 hM0 l with ⟨l, hl, rfl, e3, e4⟩ | ⟨e3, e4⟩
    · rw [e3, e4, Option.bind_some, Option.bind_some, if_neg n10, if_neg n10]
      by_cases hpl : p = l
      · rw [if_pos (by rw [hpl]), if_pos (by rw [hpl])]
        exact ⟨_, _, _, _, rfl, rfl, h0⟩
      · rw [if_neg (nI_ne (by omega) (by omega) hpl), if_neg (nI_ne (by omega) (by omega) hpl)]
        rcases mi_nm (p := w) (a := 0) (b := 1) (y := 0) (z := 1) rfl rfl (by omega) (by omega) with ⟨k, hk0, hk1, rfl, e5⟩ | ⟨hw, e5⟩
        · rw [e5, Option.bind_some, if_neg n10, if_neg (nI_pos (by omega)), if_pos (show nI k ≤ 1 from nI_le (b := 1) hk1 (by omega))]
          obtain ⟨A, Bq, G1, G2, hR⟩ := x_RP h1 h2 (by omega) hp hl hpl
          obtain ⟨F', T', f1, f2⟩ := x_pairs (F := F) (T := T) (show p < 4 by omega) (show l < 4 by omega) hR
          obtain ⟨z, g, f3⟩ := x_mRests (w := nI k) hR
          obtain ⟨f4, f5⟩ := x_cRests (R := sp_R A Bq G1 G2) (fun z hz => x_cRest hz f2 (fun x y hx hy hv => (hR.2.2 x y hx hy hv).1))
          rw [f1, Option.bind_some, f3, Option.bind_some]
          unfold f_X7_rests_j130
          dsimp only
          rw [f4, f5, Option.bind_some, Option.bind_some]
          by_cases hk : nI k = 0
          · rw [if_pos hk, if_pos hk]
            exact ⟨_, _, _, _, rfl, rfl, rr_tr h0 g⟩
          · rw [if_neg hk, if_neg hk]
            exact ⟨_, _, _, _, rfl, rfl, rr_tr h0 g⟩
        · rw [e5, Option.bind_some, if_pos rfl]
          by_cases hw0 : w < 0
          · rw [if_pos hw0]
            exact ⟨_, _, _, _, rfl, rfl, h0⟩
          · rw [if_neg hw0, if_neg (show ¬ w ≤ 1 from fun q => by
              rcases hw with z | z
              · exact hw0 z
              · exact absurd q (Int32.not_le.mpr z))]
            exact ⟨_, _, _, _, rfl, rfl, h0⟩
    · rw [e3, e4, Option.bind_some, Option.bind_some, if_pos rfl, if_pos rfl]
      exact ⟨_, _, _, _, rfl, rfl, h0⟩
  · rw [e1, e2, Option.bind_some, Option.bind_some, if_pos rfl, if_pos rfl]
    exact ⟨_, _, _, _, rfl, rfl, h0⟩
