/-! the common divisor; share -/
theorem gd_step {a b i : Nat} (h1 : b < a) (h0 : 0 < b) (h2 : a * b < 2 ^ (i + 1)) : a % b < b ∧ b * (a % b) < 2 ^ i := by
  have hm : a % b < b := Nat.mod_lt _ h0
  refine ⟨hm, ?_⟩
  have hq : 1 ≤ a / b := (Nat.one_le_div_iff h0).mpr (by omega)
  have hd := Nat.div_add_mod a b
  have hb : b * 1 ≤ b * (a / b) := Nat.mul_le_mul_left b hq
  have h3 : 2 * (a % b) ≤ a := by omega
  have h4 : b * (2 * (a % b)) ≤ b * a := Nat.mul_le_mul_left b h3
  have h5 : b * (2 * (a % b)) = 2 * (b * (a % b)) := by rw [← Nat.mul_assoc, Nat.mul_comm b 2, Nat.mul_assoc]
  rw [Nat.mul_comm a b] at h2
  rw [Nat.pow_succ] at h2
  omega
theorem gd_run {p0 p1 p2 p3 : Int32} {n a b k : Nat} (hn : 34 < n) (h1 : b < a) (ha : a ≤ 100000) (hk : k ≤ 2) : ∃ g y z w, 1 ≤ g ∧ g ≤ 100000 ∧ ul_it n (f_X6_commonDivisor_L7 p0 p1) (nI a, nI b, nI k) = some (nI g, y, z) ∧ ul_it n (f_X7_common_L13 p2 p3) (nI a, nI b) = some (nI g, w) := by
  have key := ul_run2 (b := f_X6_commonDivisor_L7 p0 p1) (c := f_X7_common_L13 p2 p3) (fun i s t => ∃ a b k, s = (nI a, nI b, nI k) ∧ t = (nI a, nI b) ∧ b < a ∧ a ≤ 100000 ∧ a * b < 2 ^ i ∧ k + i ≤ 40) (fun r r' => ∃ g y z w, 1 ≤ g ∧ g ≤ 100000 ∧ r = (nI g, y, z) ∧ r' = (nI g, w))
    (by
      rintro s t ⟨a, b, k, rfl, rfl, h1, h2, h3, h4⟩
      have hb : b = 0 := by
        by_cases q : b = 0
        · exact q
        · exfalso
          have : 1 * 1 ≤ a * b := Nat.mul_le_mul (by omega) (by omega)
          rw [Nat.pow_zero] at h3
          omega
      subst hb
      refine ⟨(nI a, nI 0, nI k), (nI a, nI 0), ?_, ?_, a, nI 0, nI k, nI 0, by omega, h2, rfl, rfl⟩
      · unfold f_X6_commonDivisor_L7
        dsimp only
        rw [if_neg (show ¬ 64 ≤ nI k from nI_ge (b := 64) (by omega) (by omega)), if_pos (show nI 0 = 0 from rfl)]
      · unfold f_X7_common_L13
        dsimp only
        rw [if_pos (show nI 0 = 0 from rfl)])
    (by
      rintro i s t ⟨a, b, k, rfl, rfl, h1, h2, h3, h4⟩
      by_cases hb : b = 0
      · right
        subst hb
        refine ⟨(nI a, nI 0, nI k), (nI a, nI 0), ?_, ?_, a, nI 0, nI k, nI 0, by omega, h2, rfl, rfl⟩
        · unfold f_X6_commonDivisor_L7
          dsimp only
          rw [if_neg (show ¬ 64 ≤ nI k from nI_ge (b := 64) (by omega) (by omega)), if_pos (show nI 0 = 0 from rfl)]
        · unfold f_X7_common_L13
          dsimp only
          rw [if_pos (show nI 0 = 0 from rfl)]
      · left
        obtain ⟨g1, g2⟩ := gd_step h1 (by omega) h3
        have er := pk_rem (a := a) (d := b) (by omega) (by omega) (by omega)
        have hn : ¬ nI b = 0 := nI_ne0 (by omega) (by omega)
        refine ⟨(nI b, nI (a % b), nI (k + 1)), (nI b, nI (a % b)), ?_, ?_, b, a % b, k + 1, rfl, rfl, g1, by omega, g2, by omega⟩
        · unfold f_X6_commonDivisor_L7 ul_nz
          dsimp only
          rw [if_neg (show ¬ 64 ≤ nI k from nI_ge (b := 64) (by omega) (by omega)), if_neg hn, if_neg hn, er, ul_bdE, ul_bdE, nI_1]
        · unfold f_X7_common_L13 ul_nz
          dsimp only
          rw [if_neg hn, if_neg hn, er, ul_bdE])
    n 34 (nI a, nI b, nI k) (nI a, nI b) ⟨a, b, k, rfl, rfl, h1, ha, by
      have : a * b ≤ 100000 * 100000 := Nat.mul_le_mul ha (by omega)
      omega, by omega⟩ hn
  obtain ⟨r, r', hr, hr', g, y, z, w, z1, z2, rfl, rfl⟩ := key
  exact ⟨g, y, z, w, z1, z2, hr, hr'⟩
theorem x_gcd {p0 p1 p2 p3 : Int32} {a b : Nat} (ha : a < 2147483648) (hb : b ≤ 100000) (h0 : 1 ≤ b) : ∃ g y z w, 1 ≤ g ∧ g ≤ 100000 ∧ ul_it ul_N (f_X6_commonDivisor_L7 p0 p1) (nI a, nI b, 0) = some (nI g, y, z) ∧ ul_it ul_N (f_X7_common_L13 p2 p3) (nI a, nI b) = some (nI g, w) := by
  have hm : a % b < b := Nat.mod_lt _ (by omega)
  obtain ⟨n, en, hn⟩ : ∃ n, ul_N = n + 1 ∧ 34 < n := ⟨4095, rfl, by omega⟩
  obtain ⟨g, y, z, w, z1, z2, z3, z4⟩ := gd_run (n := n) (p0 := p0) (p1 := p1) (p2 := p2) (p3 := p3) (a := b) (b := a % b) (k := 1) hn hm hb (by omega)
  have er := pk_rem (a := a) (d := b) (by omega) (by omega) (by omega)
  have hn0 : ¬ nI b = 0 := nI_ne0 (by omega) (by omega)
  rw [en]
  refine ⟨g, y, z, w, z1, z2, ?_, ?_⟩
  · show ul_it (n + 1) (f_X6_commonDivisor_L7 p0 p1) (nI a, nI b, 0) = _
    have e : f_X6_commonDivisor_L7 p0 p1 (nI a, nI b, 0) = some (.inr (nI b, nI (a % b), nI 1)) := by
      unfold f_X6_commonDivisor_L7 ul_nz
      dsimp only
      rw [if_neg (by decide), if_neg hn0, if_neg hn0, er, ul_bdE, ul_bdE]
      rfl
    show (f_X6_commonDivisor_L7 p0 p1 (nI a, nI b, 0)).bind _ = _
    rw [e]
    exact z3
  · show ul_it (n + 1) (f_X7_common_L13 p2 p3) (nI a, nI b) = _
    have e : f_X7_common_L13 p2 p3 (nI a, nI b) = some (.inr (nI b, nI (a % b))) := by
      unfold f_X7_common_L13 ul_nz
      dsimp only
      rw [if_neg hn0, if_neg hn0, er, ul_bdE]
    show (f_X7_common_L13 p2 p3 (nI a, nI b)).bind _ = _
    rw [e]
    exact z4
theorem x_least {P Q B : Nat} {A w : Int32} (hA : A = nI P - nI Q) (hP : P < 1073741824) (hQ : Q < 1073741824) (hB : B ≤ 100000) (h0 : 1 ≤ B) : ∃ v u, f_X6_inLeastTerms A (nI B) w = some v ∧ f_X7_common A (nI B) = some u ∧ (if w = 0 then ul_nz u (some (nI B / u)) else ul_nz u (some (A / u))) = some v := by
  have hs : A.toInt = (P : Int) - Q := by rw [hA]; exact pk_sub_toInt (by omega) (by omega)
  have main : ∀ t : Nat, t < 2147483648 → ∃ v u, f_X6_inLeastTerms_j10 A (nI B) w (nI t) = some v ∧ f_X7_common_j10 A (nI B) (nI t) = some u ∧ (if w = 0 then ul_nz u (some (nI B / u)) else ul_nz u (some (A / u))) = some v := by
    intro t ht
    obtain ⟨g, y, z, w', g1, g2, g3, g4⟩ := x_gcd (p0 := nI t) (p1 := nI B) (p2 := A) (p3 := nI B) ht hB h0
    have hn : ¬ nI g = 0 := nI_ne0 (by omega) (by omega)
    have hc : f_X6_commonDivisor (nI t) (nI B) = some (nI g) := by
      unfold f_X6_commonDivisor
      rw [g3, Option.bind_some]
      rfl
    unfold f_X6_inLeastTerms_j10 f_X7_common_j10 f_X7_common_j30 ul_nz
    rw [hc, Option.bind_some, if_pos (show 1 ≤ nI g from nI_le (a := 1) (by omega) (by omega)), g4, Option.bind_some, if_neg hn, if_neg hn]
    dsimp only
    refine ⟨if w = 0 then nI B / nI g else A / nI g, nI g, ?_, rfl, ?_⟩
    · split <;> rfl
    · rw [if_neg hn, if_neg hn]
      split <;> rfl
  unfold f_X6_inLeastTerms f_X7_common
  have z0 : (0 : Int32).toInt = 0 := by decide
  by_cases hq : Q ≤ P
  · have e : A = nI (P - Q) := by rw [hA, pk_sub hq]
    have hle : 0 ≤ A := by rw [fa_le, z0, hs]; omega
    rw [if_pos hle, if_pos hle]
    have := main (P - Q) (by omega)
    rw [← e] at this
    exact this
  · have hle : ¬ 0 ≤ A := by rw [fa_le, z0, hs]; omega
    have e : -A = nI (Q - P) := by
      rw [hA, Int32.neg_sub, pk_sub (by omega)]
    rw [if_neg hle, if_neg hle, e]
    exact main (Q - P) (by omega)
theorem st_bt : ∀ m, m < 32 → ∀ p, p < 5 → (ul_bt (nI m) p ↔ ¬ ul_bt (nI m ^^^ -1) p) := by decide +kernel
theorem st_pw5 : ∀ n, n ≤ 5 → ((1 : Int32) <<< (nI n &&& 31)) = nI (2 ^ n) ∧ 2 ^ n ≤ 32 := by decide +kernel
theorem sg_inj {M : ul_S} {b : Nat} {g g' : Nat → Int32} (h : ul_sg M b g = ul_sg M b g') : ∀ i, i < 23 → g i = g' i := by
  intro i hi
  have := congrFun (congrFun h 6) (b + i)
  rw [sg_6 hi, sg_6 hi] at this
  exact this
theorem x_goldBy {nl np : Nat} {K M N : ul_S} {gb l m : Nat} (hk : ul_mk nl np K M) (h : ul_ss nl np K N (fun i => M 6 i) 4 gb np) (hgb : gb ≤ 800000) (hl : l < nl) (hm : m < 32) : ∃ v g', v ≤ 900000 ∧ (∀ g, f_X7_goldBy (ul_sg M 23 g) (nI m) (nI l) = some (nI v, ul_sg M 23 g')) ∧ ∀ T, ∃ T1 T3, f_X4_setTo T N = some T1 ∧ f_X4_passDays T1 K 6 (nI m) = some T3 ∧ T3 4 l = nI v := by
  have hk' := hk
  obtain ⟨q4, q5, -⟩ := hk'
  have run : ∀ T, ∃ T1 T3 g', f_X4_setTo T N = some T1 ∧ f_X4_passDays T1 K 6 (nI m) = some T3 ∧ f_X7_goOn (ul_sg M 23 (fun i => M 6 i)) 6 (nI m ^^^ -1) = some (ul_sg M 23 g') ∧ ul_ss nl np K T3 g' 4 (gb + 6000) np := by
    intro T
    obtain ⟨T1, f1, f2⟩ := st_set T N
    obtain ⟨T3, g', y1, y2, y3⟩ := sw_days (n := 6) (go := nI m) (st := nI m ^^^ -1) hk (ss_eqs q4 q5 h f2) (by omega) (by omega) (fun p hp => st_bt m hm p (by omega))
    exact ⟨T1, T3, g', f1, y1, y2, y3⟩
  obtain ⟨T1, T3, g', r1, r2, r3, r4⟩ := run N
  obtain ⟨-, -, -, v, hv, ev⟩ := r4.2.1 l hl
  refine ⟨v, g', by omega, ?_, ?_⟩
  · intro g
    have i31 : (31 : Int32) + nI l = nI (23 + (8 + l)) := by rw [show 23 + (8 + l) = 31 + l by omega]; exact nI_add 31 l
    unfold f_X7_goldBy
    rw [mm_lay2, Option.bind_some, r3, Option.bind_some, i31]
    simp (disch := omega) only [ul_ldN, sg_6]
    rw [ev]
  · intro T
    obtain ⟨T1, T3, g2, s1, s2, s3, s4⟩ := run T
    refine ⟨T1, T3, s1, s2, ?_⟩
    have e : ul_sg M 23 g2 = ul_sg M 23 g' := Option.some.inj (s3.symm.trans r3)
    rw [(s4.2.1 l hl).2.1, sg_inj e (8 + l) (by omega), ev]
theorem x_weigh {nl np : Nat} {K N F T : ul_S} {l : Nat} {G : Nat → Nat} (q4 : l < 4) (q5 : np ≤ 5) (hK : K 0 1 = nI np) (hG : ∀ m, m < 32 → ∀ T, ∃ T1 T3, f_X4_setTo T N = some T1 ∧ f_X4_passDays T1 K 6 (nI m) = some T3 ∧ T3 4 l = nI (G m)) : ∃ F' T', f_X1_weighCompanies F N T K (nI l) = some (F', T') ∧ ∀ m, m < 2 ^ np → F' 2 m = nI (G m) := by
  obtain ⟨hp1, hp2⟩ := st_pw5 np q5
  obtain ⟨n, en⟩ : ∃ n, n = 2 ^ np := ⟨_, rfl⟩
  rw [← en] at hp1 hp2
  have key := ul_run (b := f_X1_weighCompanies_L2 N K (nI l)) (fun i s => i ≤ n ∧ s.1 = nI (n - i) ∧ ∀ m, m < n - i → s.2.1 2 m = nI (G m)) (fun r => ∀ m, m < n → r.2.1 2 m = nI (G m))
    (by
      rintro ⟨s1, s2, s3⟩ ⟨-, e1, e2⟩
      dsimp only at e1 e2
      refine ⟨(s1, s2, s3), ?_, fun m hm => e2 m (by omega)⟩
      unfold f_X1_weighCompanies_L2
      dsimp only
      rw [e1, hK, hp1, if_pos (nI_le (by omega) (by omega))])
    (by
      rintro i ⟨s1, s2, s3⟩ ⟨hi, e1, e2⟩
      dsimp only at e1 e2
      left
      obtain ⟨k, ek⟩ : ∃ k, k = n - (i + 1) := ⟨_, rfl⟩
      have ek1 : n - i = k + 1 := by omega
      rw [← ek] at e1 e2
      obtain ⟨T1, T3, f1, f2, f3⟩ := hG k (by omega) s3
      refine ⟨(nI (k + 1), ul_up s2 2 k (nI (G k)), T3), ?_, by omega, by rw [ek1], ?_⟩
      · unfold f_X1_weighCompanies_L2
        dsimp only
        rw [e1, hK, hp1, if_neg (nI_ge (by omega) (by omega)), f1, Option.bind_some, f2, Option.bind_some]
        simp (disch := omega) only [ul_ldN, ul_stN, ul_bdE, nI_1]
        rw [f3]
      · intro m hm
        dsimp only
        by_cases hmk : m = k
        · rw [hmk, ul_up_s]
        · rw [ul_up_i hmk]
          exact e2 m (by omega))
    ul_N n (0, F, T) ⟨Nat.le_refl n, by rw [Nat.sub_self]; rfl, fun m hm => by omega⟩ (by rw [ul_N_v]; omega)
  obtain ⟨⟨r1, r2, r3⟩, hr, y⟩ := key
  refine ⟨r2, r3, ?_, fun m hm => y m (by omega)⟩
  unfold f_X1_weighCompanies
  rw [hr, Option.bind_some]
  rfl
theorem st_shr : ∀ n, n ≤ 5 → ∀ p, p < n → ∀ m, m < 2 ^ n → ul_bt (nI m) p ∨ (sp_cnt m ≤ n - 1 ∧ nI m ||| ((1 : Int32) <<< (nI p &&& 31)) = nI (m ||| 2 ^ p) ∧ (m ||| 2 ^ p) < 2 ^ n) := by decide +kernel
theorem st_shb : ∀ n, n ≤ 5 → ∀ p, p < n → ∀ m, m < 2 ^ n → ¬ ul_bt (nI m) p ∨ nI m ||| ((1 : Int32) <<< (nI p &&& 31)) = nI m := by decide +kernel
theorem st_shn : ∀ n, n ≤ 5 → ∀ p, p < n → ∀ m, m < 2 ^ n → ul_bt (nI m) p ∨ (m ||| 2 ^ p) ≠ m := by decide +kernel
theorem st_fac : ∀ c, c ≤ 5 → f_X7_factorial (nI c) = some (ul_or c) := by decide +kernel
def sp_fac (c : Nat) : Nat := match c with | 0 => 1 | 1 => 1 | 2 => 2 | 3 => 6 | 4 => 24 | _ => 120
theorem st_or2 : ∀ c, c ≤ 5 → ul_or c = nI (sp_fac c) ∧ 1 ≤ sp_fac c ∧ sp_fac c ≤ 120 := by decide +kernel
theorem st_or3 : ∀ n, n ≤ 5 → ∀ c, c ≤ n - 1 → sp_fac c * sp_fac (n - 1 - c) ≤ 24 := by decide +kernel
theorem st_rg (P Q f a b : Nat) : nI P - nI Q + nI f * (nI a - nI b) = nI (P + f * a) - nI (Q + f * b) := by
  rw [← nI_add, ← nI_add, ← pk_mul, ← pk_mul]
  generalize nI P = x
  generalize nI Q = y
  generalize nI f = z
  generalize nI a = s
  generalize nI b = t
  grind

theorem e_share {c : Nat} {U : ul_S} {d : Int64} {L K N J E M : ul_S} {dm : Int64} {P B : ul_F} (hc : c ≤ 600) (h : ul_RR c U d L K N J E M dm P B) (T F : ul_S) (p l w : Int32) : ∃ v T' F' M', f_X6_share K N T F p l w = some (v, T', F') ∧ f_X7_share M p l w = some (v, M') ∧ ul_RR c U d L K N J E M' dm P B := by
  have h0 := h
  obtain ⟨nl, np, h1, h2, -⟩ := h
  have h1' := h1
  obtain ⟨q4, q5, hK0, hM0, hK1, hM1, -⟩ := h1'
  unfold f_X6_share f_X7_share
  rcases q_per (by omega) hK1 hM1 p with ⟨p, hp, rfl, e1, e2⟩ | ⟨e1, e2⟩
  · rw [e1, e2, Option.bind_some, Option.bind_some, if_neg n10, if_neg n10]
    rcases q_lad (by omega) hK0 hM0 l with ⟨l, hl, rfl, e3, e4⟩ | ⟨e3, e4⟩
    · rw [e3, e4, Option.bind_some, Option.bind_some, if_neg n10, if_neg n10]
      have hx := fun m : Nat => fun hm : m < 32 => x_goldBy h1 h2 (show 1000 * c ≤ 800000 by omega) hl hm
      obtain ⟨G, hG⟩ : ∃ G : Nat → Nat, ∀ m, m < 32 → G m ≤ 900000 ∧ (∃ g', ∀ g, f_X7_goldBy (ul_sg M 23 g) (nI m) (nI l) = some (nI (G m), ul_sg M 23 g')) ∧ ∀ T, ∃ T1 T3, f_X4_setTo T N = some T1 ∧ f_X4_passDays T1 K 6 (nI m) = some T3 ∧ T3 4 l = nI (G m) := by
        refine ⟨fun m => if hm : m < 32 then Classical.choose (hx m hm) else 0, fun m hm => ?_⟩
        obtain ⟨g', y1, y2, y3⟩ := Classical.choose_spec (hx m hm)
        simp only [dif_pos hm]
        exact ⟨y1, ⟨g', y2⟩, y3⟩
      obtain ⟨F', T', f1, f2⟩ := x_weigh (nl := nl) (F := F) (T := T) (show l < 4 by omega) q5 hK1 (fun m hm => (hG m hm).2.2)
      obtain ⟨hp1, hp2⟩ := st_pw5 np q5
      obtain ⟨n, en⟩ : ∃ n, n = 2 ^ np := ⟨_, rfl⟩
      rw [← en] at hp1 hp2
      have key := ul_run2 (b := f_X1_sumOfGains_L4 F' K (nI p)) (c := f_X7_share_L24 (nI p) (nI l) w) (fun i s t => i ≤ n ∧ s.1 = t.1 ∧ s.2 = nI (n - i) ∧ t.2.1 = nI (n - i) ∧ (∃ g, t.2.2 = ul_sg M 23 g) ∧ ∃ P Q, s.1 = nI P - nI Q ∧ P ≤ 21600000 * (n - i) ∧ Q ≤ 21600000 * (n - i)) (fun r r' => r.1 = r'.1 ∧ (∃ g, r'.2.2 = ul_sg M 23 g) ∧ ∃ P Q, r.1 = nI P - nI Q ∧ P ≤ 21600000 * n ∧ Q ≤ 21600000 * n)
        (by
          rintro ⟨s1, s2⟩ ⟨t1, t2, t3⟩ ⟨-, e1, e2, e3, ⟨g, e4⟩, e5⟩
          dsimp only at e1 e2 e3 e4 e5
          subst e4
          refine ⟨(s1, s2), (t1, t2, ul_sg M 23 g), ?_, ?_, e1, ⟨g, rfl⟩, e5⟩
          · unfold f_X1_sumOfGains_L4
            dsimp only
            rw [e2, hK1, hp1, if_pos (nI_le (by omega) (by omega))]
          · unfold f_X7_share_L24
            dsimp only
            rw [if_pos (by rw [sg_00, hM1, hp1, e3]; exact nI_le (by omega) (by omega))])
        (by
          rintro i ⟨s1, s2⟩ ⟨t1, t2, t3⟩ ⟨hi, e1, e2, e3, ⟨g, e4⟩, P, Q, e5, e6, e7⟩
          dsimp only at e1 e2 e3 e4 e5
          subst e4
          subst e1
          left
          obtain ⟨m, em⟩ : ∃ m, m = n - (i + 1) := ⟨_, rfl⟩
          have em1 : n - i = m + 1 := by omega
          rw [← em] at e2 e3 e6 e7
          have hmn : m < n := by omega
          by_cases hbit : ul_bt (nI m) p
          · refine ⟨(s1, nI (m + 1)), (s1, nI (m + 1), ul_sg M 23 g), ?_, ?_, by omega, rfl, by rw [em1], by rw [em1], ⟨g, rfl⟩, P, Q, e5, by omega, by omega⟩
            · unfold f_X1_sumOfGains_L4 f_X1_sumOfGains_j92
              dsimp only
              rw [e2, hK1, hp1, if_neg (nI_ge (by omega) (by omega)), ul_bdE, (st_shb np q5 p hp m (by omega)).resolve_left (fun q => q hbit), if_pos rfl, ul_bdE, nI_1]
            · unfold f_X7_share_L24 f_X7_share_j97 f_X7_has
              dsimp only
              rw [if_neg (by rw [sg_00, hM1, hp1, e3]; exact nI_ge (by omega) (by omega)), e3, if_pos hbit, Option.bind_some, if_neg n10, ul_bdE, nI_1]
          · obtain ⟨b1, b2, b3⟩ := (st_shr np q5 p hp m (by omega)).resolve_left hbit
            obtain ⟨j, ej⟩ : ∃ j, j = (m ||| 2 ^ p) := ⟨_, rfl⟩
            have hjm := (st_shn np q5 p hp m (by omega)).resolve_left hbit
            rw [← ej] at b2 b3 hjm
            have hj32 : j < 32 := by omega
            have o1 := st_or2 (sp_cnt m) (by omega)
            have o2 := st_or2 (np - 1 - sp_cnt m) (by omega)
            have o3 := st_or3 np q5 (sp_cnt m) b1
            have s0 : nI np - 1 - nI (sp_cnt m) = nI (np - 1 - sp_cnt m) := by
              have a1 : nI np - 1 = nI (np - 1) := pk_sub (a := np) (b := 1) (by omega)
              rw [a1, pk_sub b1]
            obtain ⟨f, ef⟩ : ∃ f, f = sp_fac (sp_cnt m) * sp_fac (np - 1 - sp_cnt m) := ⟨_, rfl⟩
            rw [← ef] at o3
            obtain ⟨k1, ⟨g1, k2⟩, -⟩ := hG m (by omega)
            obtain ⟨k3, ⟨g2, k4⟩, -⟩ := hG j hj32
            have b4 : f * G j ≤ 24 * 900000 := Nat.mul_le_mul o3 k3
            have b5 : f * G m ≤ 24 * 900000 := Nat.mul_le_mul o3 k1
            have efn : ul_or (sp_cnt m) * ul_or (np - 1 - sp_cnt m) = nI f := by rw [o1.1, o2.1, pk_mul, ef]
            refine ⟨(s1 + nI f * (nI (G j) - nI (G m)), nI (m + 1)), (s1 + nI f * (nI (G j) - nI (G m)), nI (m + 1), ul_sg M 23 g1), ?_, ?_, by omega, rfl, by rw [em1], by rw [em1], ⟨g1, rfl⟩, P + f * G j, Q + f * G m, ?_, by omega, by omega⟩
            · unfold f_X1_sumOfGains_L4 f_X1_sumOfGains_j92
              dsimp only
              rw [e2, hK1, hp1, if_neg (nI_ge (by omega) (by omega)), ul_bdE, b2, if_neg (nI_ne (by omega) (by omega) hjm), if_pos (show nI j < 32 from nI_lt (b := 32) hj32 (by omega)), sp_cnt_j m (by omega), Option.bind_some, s0, ul_bdE, cp_ord _ (by omega), Option.bind_some, cp_ord _ (by omega), Option.bind_some]
              simp (disch := omega) only [ul_ldN, ul_bdE, nI_1]
              rw [f2 j (by omega), f2 m (by omega), efn]
            · unfold f_X7_share_L24 f_X7_share_j97 f_X7_has
              dsimp only
              rw [if_neg (by rw [sg_00, hM1, hp1, e3]; exact nI_ge (by omega) (by omega)), e3, sg_00, hM1, if_neg hbit, Option.bind_some, if_pos rfl, sp_cnt_m m (by omega), Option.bind_some, st_fac _ (by omega), Option.bind_some, Option.bind_some, s0, st_fac _ (by omega), Option.bind_some, ul_bdE, b2, k4, Option.bind_some]
              dsimp only
              rw [k2, Option.bind_some]
              dsimp only
              rw [ul_bdE, efn, ul_bdE, nI_1]
            · dsimp only
              rw [e5, st_rg])
        ul_N n (0, 0) (0, 0, M) ⟨Nat.le_refl n, rfl, by rw [Nat.sub_self]; rfl, by rw [Nat.sub_self]; rfl, ⟨_, (sg_self M 23).symm⟩, 0, 0, rfl, by omega, by omega⟩ (by rw [ul_N_v]; omega)
      obtain ⟨⟨r1, r2⟩, ⟨t1, t2, t3⟩, hr, hr', y1, ⟨g, y2⟩, P, Q, y3, y4, y5⟩ := key
      dsimp only at y1 y2 y3
      subst y1
      subst y2
      obtain ⟨o1, o2, o3⟩ := st_or2 np q5
      obtain ⟨v, u, z1, z2, z3⟩ := x_least (B := sp_fac np) (w := w) y3 (by omega) (by omega) (by omega) o2
      have hs : f_X1_sumOfGains F' K (nI p) = some r1 := by
        unfold f_X1_sumOfGains
        rw [hr, Option.bind_some]
        rfl
      rw [f1, Option.bind_some]
      dsimp only
      rw [hs, Option.bind_some, hK1, cp_ord np q5, Option.bind_some, o1, z1, Option.bind_some, hr', Option.bind_some]
      refine ⟨v, T', F', ul_sg M 23 g, rfl, ?_, rr_tr h0 g⟩
      unfold f_X7_share_j103
      dsimp only
      rw [sg_00, hM1, st_fac np q5, Option.bind_some, o1, z2, Option.bind_some]
      by_cases hw : w = 0
      · rw [if_pos hw] at z3 ⊢
        rw [Option.bind_some]
        unfold ul_nz at z3 ⊢
        by_cases hu : u = 0
        · rw [if_pos hu] at z3
          exact absurd z3 (by simp)
        · rw [if_neg hu] at z3 ⊢
          rw [Option.some.inj z3]
      · rw [if_neg hw] at z3 ⊢
        unfold ul_nz at z3 ⊢
        by_cases hu : u = 0
        · rw [if_pos hu] at z3
          exact absurd z3 (by simp)
        · rw [if_neg hu] at z3 ⊢
          rw [Option.some.inj z3]
    · rw [e3, e4, Option.bind_some, Option.bind_some, if_pos rfl, if_pos rfl]
      exact ⟨_, _, _, _, rfl, rfl, h0⟩
  · rw [e1, e2, Option.bind_some, Option.bind_some, if_pos rfl, if_pos rfl]
    exact ⟨_, _, _, _, rfl, rfl, h0⟩
