/-! may -/
def sp_fit (n : Nat) (E : ul_S) (k t : Int32) : Nat → Bool
  | 0 => true
  | m + 1 => sp_fit n E k t m && decide (E 1 m - sp_t k t (E 1 m) = E 2 m)
theorem sp_fit_f {n : Nat} {E : ul_S} {k t : Int32} : ∀ m j, m ≤ j → sp_fit n E k t m = false → sp_fit n E k t j = false := by
  intro m j hmj h
  induction j with
  | zero => rw [show m = 0 by omega] at h; exact h
  | succ j ih =>
    by_cases e : m = j + 1
    · rw [← e]; exact h
    · unfold sp_fit
      rw [ih (by omega)]
      rfl
theorem x_cfit {n : Nat} {E : ul_S} (hn : n ≤ 6) (hE : E 0 0 = nI n) (k t : Int32) : f_X3_fits E k t = some (if sp_fit n E k t n = true then 1 else 0) := by
  have key := ul_run (b := f_X3_fits_L2 E k t) (fun i s => i ≤ n ∧ s = nI (n - i) ∧ sp_fit n E k t (n - i) = true) (fun r => (∃ z, r = .inr z ∧ sp_fit n E k t n = true) ∨ (r = .inl 0 ∧ sp_fit n E k t n = false))
    (by
      rintro s ⟨-, e1, e2⟩
      refine ⟨.inr s, ?_, Or.inl ⟨s, rfl, e2⟩⟩
      unfold f_X3_fits_L2
      rw [e1, hE, if_pos (nI_le (by omega) (by omega))])
    (by
      rintro i s ⟨hi, e1, e2⟩
      obtain ⟨j, ej⟩ : ∃ j, j = n - (i + 1) := ⟨_, rfl⟩
      have ej1 : n - i = j + 1 := by omega
      rw [← ej] at e1 e2
      have hb : f_X3_fits_L2 E k t s = if E 1 j - sp_t k t (E 1 j) = E 2 j then some (.inr (nI (j + 1))) else some (.inl (.inl 0)) := by
        unfold f_X3_fits_L2
        rw [e1, hE, if_neg (nI_ge (by omega) (by omega))]
        simp (disch := omega) only [ul_ldN, sp_taken, Option.bind_some, ul_bdE, nI_1]
      rw [hb]
      by_cases q : E 1 j - sp_t k t (E 1 j) = E 2 j
      · left
        rw [if_pos q]
        refine ⟨_, rfl, by omega, by rw [ej1], ?_⟩
        rw [ej1]
        unfold sp_fit
        rw [e2, decide_eq_true q]
        rfl
      · right
        rw [if_neg q]
        refine ⟨_, rfl, Or.inr ⟨rfl, sp_fit_f (j + 1) n (by omega) ?_⟩⟩
        unfold sp_fit
        rw [decide_eq_false q]
        simp)
    ul_N n 0 ⟨Nat.le_refl n, by rw [Nat.sub_self]; rfl, by rw [Nat.sub_self]; rfl⟩ (by rw [ul_N_v]; omega)
  obtain ⟨r, hr, y⟩ := key
  unfold f_X3_fits
  rw [hr, Option.bind_some]
  rcases y with ⟨z, rfl, y⟩ | ⟨rfl, y⟩
  · rw [y]
    rfl
  · rw [y]
    rfl
theorem x_mfit {n : Nat} {E M : ul_S} (hn : n ≤ 6) (hM : M 0 10 = nI n) (hEM : ∀ i, i < n → E 1 i = M 11 i ∧ E 2 i = M 12 i) (k t : Int32) : f_X7_mayBe M k t = some (if sp_fit n E k t n = true then 1 else 0) := by
  have key := ul_run (b := f_X7_mayBe_L5 M k t) (fun i s => i ≤ n ∧ s.2 = nI (n - i) ∧ s.1 = if sp_fit n E k t (n - i) = true then 1 else 0) (fun r => r.1 = if sp_fit n E k t n = true then 1 else 0)
    (by
      rintro ⟨s1, s2⟩ ⟨-, e1, e2⟩
      dsimp only at e1 e2
      refine ⟨(s1, s2), ?_, e2⟩
      unfold f_X7_mayBe_L5
      dsimp only
      rw [e1, hM, if_pos (nI_le (by omega) (by omega))])
    (by
      rintro i ⟨s1, s2⟩ ⟨hi, e1, e2⟩
      dsimp only at e1 e2
      obtain ⟨j, ej⟩ : ∃ j, j = n - (i + 1) := ⟨_, rfl⟩
      have ej1 : n - i = j + 1 := by omega
      rw [← ej] at e1 e2
      obtain ⟨y1, y2⟩ := hEM j (by omega)
      left
      refine ⟨(if sp_fit n E k t (j + 1) = true then 1 else 0, nI (j + 1)), ?_, by omega, by rw [ej1], by rw [ej1]⟩
      unfold f_X7_mayBe_L5 f_X7_mayBe_j52 f_X7_mayBe_j53
      dsimp only
      rw [e1, hM, if_neg (nI_ge (by omega) (by omega))]
      simp (disch := omega) only [ul_ldN, sp_takes, Option.bind_some, ul_bdE, nI_1]
      rw [← y1, ← y2]
      by_cases q1 : sp_fit n E k t j = true
      · rw [if_pos q1] at e2
        rw [if_neg (by rw [e2]; decide)]
        by_cases q : E 1 j - sp_t k t (E 1 j) = E 2 j
        · rw [if_pos q, if_pos (by unfold sp_fit; rw [q1, decide_eq_true q]; rfl)]
        · rw [if_neg q, if_neg (by unfold sp_fit; rw [decide_eq_false q]; simp)]
      · rw [if_neg q1] at e2
        rw [if_pos e2, if_neg (by
          unfold sp_fit
          intro z
          rw [Bool.and_eq_true] at z
          exact q1 z.1)])
    ul_N n (1, 0) ⟨Nat.le_refl n, by rw [Nat.sub_self]; rfl, by rw [Nat.sub_self]; rfl⟩ (by rw [ul_N_v]; omega)
  obtain ⟨⟨r1, r2⟩, hr, y⟩ := key
  dsimp only at y
  unfold f_X7_mayBe f_X7_mayBe_j60
  rw [hr, Option.bind_some]
  dsimp only
  rw [y]
  split <;> rfl
def sp_kk (z : Nat) : Nat := if z / 9 = 2 then 3 else z / 9
def sp_tt (z : Nat) : Nat := 1 + z % 9
def sp_ct (F : Nat → Bool) : Nat → Nat
  | 0 => 0
  | m + 1 => if F m = true then sp_ct F m + 1 else sp_ct F m
def sp_fo (F : Nat → Bool) : Nat → Int32
  | 0 => -9
  | m + 1 => if F m = true ∧ sp_ct F m = 0 then nI (10 * sp_kk m + sp_tt m) else sp_fo F m
theorem sp_ct_s (F : Nat → Bool) (m : Nat) : sp_ct F (m + 1) = if F m = true then sp_ct F m + 1 else sp_ct F m := rfl
theorem sp_fo_s (F : Nat → Bool) (m : Nat) : sp_fo F (m + 1) = if F m = true ∧ sp_ct F m = 0 then nI (10 * sp_kk m + sp_tt m) else sp_fo F m := rfl
theorem sp_ct_l (F : Nat → Bool) : ∀ m, sp_ct F m ≤ m := by
  intro m
  induction m with
  | zero => unfold sp_ct; omega
  | succ m ih => unfold sp_ct; split <;> omega
theorem sp_ct_k {F : Nat → Bool} {m : Nat} (h : sp_ct F m ≠ 0) : ∀ k, sp_ct F (m + k) ≠ 0 ∧ sp_fo F (m + k) = sp_fo F m := by
  intro k
  induction k with
  | zero => exact ⟨h, rfl⟩
  | succ k ih =>
    rw [← Nat.add_assoc]
    constructor
    · unfold sp_ct
      have := ih.1
      split <;> omega
    · conv => lhs; unfold sp_fo
      rw [if_neg (fun q => ih.1 q.2)]
      exact ih.2
theorem sp_fo_0 {F : Nat → Bool} : ∀ m, sp_ct F m = 0 → sp_fo F m = -9 := by
  intro m
  induction m with
  | zero => intro; rfl
  | succ m ih =>
    intro h
    unfold sp_ct at h
    by_cases q : F m = true
    · rw [if_pos q] at h
      omega
    · rw [if_neg q] at h
      unfold sp_fo
      rw [if_neg (fun z => q z.1)]
      exact ih h
theorem st_ks : ∀ y, y < 3 → ∀ j, j < 9 → ul_ks y = nI (sp_kk (9 * y + j)) ∧ sp_tt (9 * y + j) = 1 + j := by decide +kernel
theorem x_cCount {E : ul_S} {F : Nat → Bool} (hF : ∀ z, z < 27 → f_X3_fits E (nI (sp_kk z)) (nI (sp_tt z)) = some (if F z = true then 1 else 0)) : f_X3_countFitting E = some (nI (sp_ct F 27)) := by
  have inner : ∀ y, y < 3 → ∃ z, ul_it ul_N (f_X3_countFitting_L14 E (nI y)) (nI (sp_ct F (9 * y)), 1) = some (nI (sp_ct F (9 * y + 9)), z) := by
    intro y hy
    have key := ul_run (b := f_X3_countFitting_L14 E (nI y)) (fun i s => i ≤ 9 ∧ s.1 = nI (sp_ct F (9 * y + (9 - i))) ∧ s.2 = nI (1 + (9 - i))) (fun r => r.1 = nI (sp_ct F (9 * y + 9)))
      (by
        rintro ⟨s1, s2⟩ ⟨-, e1, e2⟩
        dsimp only at e1 e2
        refine ⟨(s1, s2), ?_, e1⟩
        unfold f_X3_countFitting_L14
        dsimp only
        rw [e2, if_pos (by decide)])
      (by
        rintro i ⟨s1, s2⟩ ⟨hi, e1, e2⟩
        dsimp only at e1 e2
        obtain ⟨j, ej⟩ : ∃ j, j = 9 - (i + 1) := ⟨_, rfl⟩
        have ej1 : 9 - i = j + 1 := by omega
        rw [← ej] at e1 e2
        obtain ⟨k1, k2⟩ := st_ks y hy j (by omega)
        have hf := hF (9 * y + j) (by omega)
        left
        refine ⟨(nI (sp_ct F (9 * y + (j + 1))), nI (1 + (j + 1))), ?_, by omega, by rw [ej1], by rw [ej1]⟩
        unfold f_X3_countFitting_L14 f_X3_countFitting_j36
        dsimp only
        rw [e1, e2, if_neg (show ¬ 9 < nI (1 + j) from nI_nlt (a := 9) (by omega) (by omega)), ul_ldN (by omega) (by omega), k1, ← k2, hf, Option.bind_some]
        simp only [ul_bdE, nI_1]
        rw [k2, ← Nat.add_assoc, ← Nat.add_assoc]
        conv => rhs; unfold sp_ct
        by_cases q : F (9 * y + j) = true
        · rw [if_pos q, if_pos q, if_neg n10]
        · rw [if_neg q, if_neg q, if_pos rfl])
      ul_N 9 (nI (sp_ct F (9 * y)), 1) ⟨Nat.le_refl 9, rfl, rfl⟩ (by rw [ul_N_v]; omega)
    obtain ⟨⟨r1, r2⟩, hr, y1⟩ := key
    dsimp only at y1
    subst y1
    exact ⟨r2, hr⟩
  have key := ul_run (b := f_X3_countFitting_L4 E) (fun i s => i ≤ 3 ∧ s.1 = nI (sp_ct F (9 * (3 - i))) ∧ s.2 = nI (3 - i)) (fun r => r.1 = nI (sp_ct F 27))
    (by
      rintro ⟨s1, s2⟩ ⟨-, e1, e2⟩
      dsimp only at e1 e2
      refine ⟨(s1, s2), ?_, e1⟩
      unfold f_X3_countFitting_L4
      dsimp only
      rw [e2, if_pos (by decide)])
    (by
      rintro i ⟨s1, s2⟩ ⟨hi, e1, e2⟩
      dsimp only at e1 e2
      obtain ⟨j, ej⟩ : ∃ j, j = 3 - (i + 1) := ⟨_, rfl⟩
      have ej1 : 3 - i = j + 1 := by omega
      rw [← ej] at e1 e2
      obtain ⟨z, hz⟩ := inner j (by omega)
      left
      refine ⟨(nI (sp_ct F (9 * (j + 1))), nI (j + 1)), ?_, by omega, by rw [ej1], by rw [ej1]⟩
      unfold f_X3_countFitting_L4 f_X3_countFitting_j42
      dsimp only
      rw [e1, e2, if_neg (show ¬ 3 ≤ nI j from nI_ge (b := 3) (by omega) (by omega)), hz, Option.bind_some]
      simp only [ul_bdE, nI_1]
      rw [show 9 * j + 9 = 9 * (j + 1) by omega])
    ul_N 3 (0, 0) ⟨Nat.le_refl 3, rfl, rfl⟩ (by rw [ul_N_v]; omega)
  obtain ⟨⟨r1, r2⟩, hr, y1⟩ := key
  dsimp only at y1
  subst y1
  unfold f_X3_countFitting
  rw [hr, Option.bind_some]
  rfl
theorem x_cFirst {E : ul_S} {F : Nat → Bool} (hF : ∀ z, z < 27 → f_X3_fits E (nI (sp_kk z)) (nI (sp_tt z)) = some (if F z = true then 1 else 0)) : f_X3_firstFitting E = some (sp_fo F 27) := by
  have inner : ∀ y, y < 3 → sp_ct F (9 * y) = 0 → ∃ r, ul_it ul_N (f_X3_firstFitting_L12 E (nI y)) 1 = some r ∧ ((r = .inl (sp_fo F 27)) ∨ (∃ z, r = .inr z ∧ sp_ct F (9 * y + 9) = 0)) := by
    intro y hy h0
    refine ul_run (b := f_X3_firstFitting_L12 E (nI y)) (fun i s => i ≤ 9 ∧ sp_ct F (9 * y + (9 - i)) = 0 ∧ s = nI (1 + (9 - i))) (fun r => (r = .inl (sp_fo F 27)) ∨ (∃ z, r = .inr z ∧ sp_ct F (9 * y + 9) = 0))
      (by
        rintro s ⟨-, e1, e2⟩
        refine ⟨.inr s, ?_, Or.inr ⟨s, rfl, e1⟩⟩
        unfold f_X3_firstFitting_L12
        rw [e2, if_pos (by decide)])
      (by
        rintro i s ⟨hi, e1, e2⟩
        obtain ⟨j, ej⟩ : ∃ j, j = 9 - (i + 1) := ⟨_, rfl⟩
        have ej1 : 9 - i = j + 1 := by omega
        rw [← ej] at e1 e2
        obtain ⟨k1, k2⟩ := st_ks y hy j (by omega)
        have hf := hF (9 * y + j) (by omega)
        have hb : f_X3_firstFitting_L12 E (nI y) s = if F (9 * y + j) = true then some (.inl (.inl (nI (10 * sp_kk (9 * y + j) + sp_tt (9 * y + j))))) else some (.inr (nI (1 + (j + 1)))) := by
          have em : (10 : Int32) * nI (sp_kk (9 * y + j)) + nI (sp_tt (9 * y + j)) = nI (10 * sp_kk (9 * y + j) + sp_tt (9 * y + j)) := by
            rw [← nI_add, ← pk_mul]
            rfl
          unfold f_X3_firstFitting_L12
          rw [e2, if_neg (show ¬ 9 < nI (1 + j) from nI_nlt (a := 9) (by omega) (by omega))]
          simp (disch := omega) only [ul_ldN]
          rw [k1, ← k2, hf, Option.bind_some, em]
          simp only [ul_bdE, nI_1]
          rw [k2, ← Nat.add_assoc 1 j 1]
          by_cases q : F (9 * y + j) = true
          · rw [if_pos q, if_pos q, if_neg n10]
          · rw [if_neg q, if_neg q, if_pos rfl]
        rw [hb]
        by_cases q : F (9 * y + j) = true
        · right
          rw [if_pos q]
          refine ⟨_, rfl, Or.inl ?_⟩
          have hc1 : sp_ct F (9 * y + j + 1) ≠ 0 := by
            unfold sp_ct
            rw [if_pos q]
            omega
          have hk := (sp_ct_k hc1 (27 - (9 * y + j + 1))).2
          rw [show 9 * y + j + 1 + (27 - (9 * y + j + 1)) = 27 by omega] at hk
          rw [hk]
          unfold sp_fo
          rw [if_pos ⟨q, e1⟩]
        · left
          rw [if_neg q]
          refine ⟨_, rfl, by omega, ?_, by rw [ej1]⟩
          rw [ej1, ← Nat.add_assoc]
          unfold sp_ct
          rw [if_neg q]
          exact e1)
      ul_N 9 1 ⟨Nat.le_refl 9, h0, rfl⟩ (by rw [ul_N_v]; omega)
  have key := ul_run (b := f_X3_firstFitting_L2 E) (fun i s => i ≤ 3 ∧ sp_ct F (9 * (3 - i)) = 0 ∧ s = nI (3 - i)) (fun r => (r = .inl (sp_fo F 27)) ∨ (∃ z, r = .inr z ∧ sp_ct F 27 = 0))
    (by
      rintro s ⟨-, e1, e2⟩
      refine ⟨.inr s, ?_, Or.inr ⟨s, rfl, e1⟩⟩
      unfold f_X3_firstFitting_L2
      rw [e2, if_pos (by decide)])
    (by
      rintro i s ⟨hi, e1, e2⟩
      obtain ⟨j, ej⟩ : ∃ j, j = 3 - (i + 1) := ⟨_, rfl⟩
      have ej1 : 3 - i = j + 1 := by omega
      rw [← ej] at e1 e2
      obtain ⟨r, hr, y⟩ := inner j (by omega) e1
      unfold f_X3_firstFitting_L2 f_X3_firstFitting_j48
      rw [e2, if_neg (show ¬ 3 ≤ nI j from nI_ge (b := 3) (by omega) (by omega)), hr, Option.bind_some]
      rcases y with rfl | ⟨z, rfl, y⟩
      · right
        exact ⟨_, rfl, Or.inl rfl⟩
      · left
        refine ⟨nI (j + 1), ?_, by omega, by rw [ej1, show 9 * (j + 1) = 9 * j + 9 by omega]; exact y, by rw [ej1]⟩
        show (ul_bd (nI j + 1) fun v1 => some (Sum.inr v1)) = _
        rw [ul_bdE, nI_1])
    ul_N 3 0 ⟨Nat.le_refl 3, rfl, rfl⟩ (by rw [ul_N_v]; omega)
  obtain ⟨r, hr, y⟩ := key
  unfold f_X3_firstFitting
  rw [hr, Option.bind_some]
  rcases y with rfl | ⟨z, rfl, y⟩
  · rfl
  · rw [sp_fo_0 27 y]
    rfl
theorem x_mMay {M : ul_S} {w : Int32} {F : Nat → Bool} (hF : ∀ z, z < 27 → f_X7_mayBe M (nI (sp_kk z)) (nI (sp_tt z)) = some (if F z = true then 1 else 0)) : ∃ z, ul_it ul_N (f_X7_may_L21 M w) (0, -9, 0) = some (nI (sp_ct F 27), sp_fo F 27, z) := by
  have key := ul_run (b := f_X7_may_L21 M w) (fun i s => i ≤ 27 ∧ s.1 = nI (sp_ct F (27 - i)) ∧ s.2.1 = sp_fo F (27 - i) ∧ s.2.2 = nI (27 - i)) (fun r => r.1 = nI (sp_ct F 27) ∧ r.2.1 = sp_fo F 27)
    (by
      rintro ⟨s1, s2, s3⟩ ⟨-, e1, e2, e3⟩
      dsimp only at e1 e2 e3
      refine ⟨(s1, s2, s3), ?_, e1, e2⟩
      unfold f_X7_may_L21
      dsimp only
      rw [e3, if_pos (by decide)])
    (by
      rintro i ⟨s1, s2, s3⟩ ⟨hi, e1, e2, e3⟩
      dsimp only at e1 e2 e3
      obtain ⟨j, ej⟩ : ∃ j, j = 27 - (i + 1) := ⟨_, rfl⟩
      have ej1 : 27 - i = j + 1 := by omega
      rw [← ej] at e1 e2 e3
      have hf := hF j (by omega)
      have hct := sp_ct_l F j
      left
      refine ⟨(nI (sp_ct F (j + 1)), sp_fo F (j + 1), nI (j + 1)), ?_, by omega, by rw [ej1], by rw [ej1], by rw [ej1]⟩
      have d1 : nI j / 9 = nI (j / 9) := pk_div (a := j) (d := 9) (by omega) (by omega) (by omega)
      have d2 : nI j - nI j / 9 * 9 = nI (j % 9) := pk_rem (a := j) (d := 9) (by omega) (by omega) (by omega)
      have d3 : (1 : Int32) + nI (j % 9) = nI (sp_tt j) := nI_add 1 (j % 9)
      have em : (10 : Int32) * nI (sp_kk j) + nI (sp_tt j) = nI (10 * sp_kk j + sp_tt j) := by
        rw [← nI_add, ← pk_mul]
        rfl
      have hj : f_X7_may_j46 M w s1 s2 s3 (nI (sp_kk j)) = some (.inr (nI (sp_ct F (j + 1)), sp_fo F (j + 1), nI (j + 1))) := by
        unfold f_X7_may_j46 f_X7_may_j84 f_X7_may_j88
        rw [e1, e2, e3, d2, d3, ul_bdE, hf, Option.bind_some, em]
        simp only [ul_bdE, nI_1]
        rw [sp_ct_s, sp_fo_s]
        by_cases q : F j = true
        · rw [if_pos q, if_pos q, if_neg n10]
          by_cases q2 : sp_ct F j = 0
          · rw [if_pos (by rw [q2]; rfl), if_pos ⟨q, q2⟩]
          · rw [if_neg (nI_ne0 (by omega) (by omega)), if_neg (fun z => q2 z.2)]
        · rw [if_neg q, if_neg q, if_pos rfl, if_neg (fun z => q z.1)]
      unfold f_X7_may_L21
      dsimp only
      have hkk : (if s3 / 9 = 2 then f_X7_may_j46 M w s1 s2 s3 3 else f_X7_may_j46 M w s1 s2 s3 (s3 / 9)) = f_X7_may_j46 M w s1 s2 s3 (nI (sp_kk j)) := by
        have d1' : s3 / 9 = nI (j / 9) := by rw [e3]; exact d1
        unfold sp_kk
        by_cases q : j / 9 = 2
        · rw [if_pos q, if_pos (by rw [d1', q]; rfl)]
          rfl
        · rw [if_neg q, d1', if_neg (show ¬ nI (j / 9) = 2 from nI_ne (b := 2) (by omega) (by omega) q)]
      rw [hkk, hj, if_neg (by rw [e3]; exact nI_ge (b := 27) (by omega) (by omega))])
    ul_N 27 (0, -9, 0) ⟨Nat.le_refl 27, rfl, rfl, rfl⟩ (by rw [ul_N_v]; omega)
  obtain ⟨⟨r1, r2, r3⟩, hr, y1, y2⟩ := key
  dsimp only at y1 y2
  subst y1
  subst y2
  exact ⟨r3, hr⟩
theorem e_may {c : Nat} {U : ul_S} {d : Int64} {L K N J E M : ul_S} {dm : Int64} {P B : ul_F} (h : ul_RR c U d L K N J E M dm P B) (w : Int32) : ∃ v, f_X6_may E w = some v ∧ f_X7_may M w = some v := by
  obtain ⟨nl, np, -, -, -, -, ⟨n, hn, eE, eM, hEM⟩, -⟩ := h
  unfold f_X6_may f_X7_may
  rcases mi_nm (p := w) (a := 0) (b := 1) (y := 0) (z := 1) rfl rfl (by omega) (by omega) with ⟨k, hk0, hk1, rfl, e3⟩ | ⟨hw, e3⟩
  · rw [e3, Option.bind_some, if_neg n10, if_neg (nI_pos (by omega)), if_pos (show nI k ≤ 1 from nI_le (b := 1) hk1 (by omega))]
    obtain ⟨z, g1⟩ := x_mMay (w := nI k) (F := fun z => sp_fit n E (nI (sp_kk z)) (nI (sp_tt z)) n) (fun z _ => x_mfit hn eM hEM _ _)
    rw [x_cCount (F := fun z => sp_fit n E (nI (sp_kk z)) (nI (sp_tt z)) n) (fun z _ => x_cfit hn eE _ _), x_cFirst (F := fun z => sp_fit n E (nI (sp_kk z)) (nI (sp_tt z)) n) (fun z _ => x_cfit hn eE _ _), g1, Option.bind_some, Option.bind_some, Option.bind_some]
    unfold f_X7_may_j94
    dsimp only
    by_cases hk : nI k = 0
    · rw [if_pos hk]
      exact ⟨_, rfl, rfl⟩
    · rw [if_neg hk]
      exact ⟨_, rfl, rfl⟩
  · rw [e3, Option.bind_some, if_pos rfl]
    by_cases hw0 : w < 0
    · rw [if_pos hw0]
      exact ⟨_, rfl, rfl⟩
    · rw [if_neg hw0, if_neg (show ¬ w ≤ 1 from fun q => by
        rcases hw with z | z
        · exact hw0 z
        · exact absurd q (Int32.not_le.mpr z))]
      exact ⟨_, rfl, rfl⟩
