/-! one person meets one ladder: the class and the reference do the same -/
def sp_t (k t x : Int32) : Int32 := if k = 3 then x else if k = 1 then (if t ≤ x / 2 then t else x / 2) else (if t ≤ x then t else x)
def sp_mud (x : Int32) : Int32 := if x ≤ 0 then 0 else x - 1
def sp_99 (x : Int32) : Int32 := if 99 ≤ x then 99 else x
theorem sp_taken (k t x : Int32) : f_X6_taken k t x = some (sp_t k t x) := by
  unfold f_X6_taken f_X6_taken_j19 sp_t
  by_cases h3 : k = 3
  · simp [h3]
  · by_cases h1 : k = 1
    · simp only [if_neg h3, if_pos h1]
      by_cases h : t ≤ x / 2
      · simp [h]
      · simp [h]
    · simp only [if_neg h3, if_neg h1]
      by_cases h : t ≤ x
      · simp [h]
      · simp [h]
theorem sp_les (t x : Int32) : f_X7_lesser t x = some (if t ≤ x then t else x) := by
  unfold f_X7_lesser
  by_cases h1 : x ≤ t
  · by_cases h2 : t ≤ x
    · have h3 : x = t := by
        rw [fa_le] at h1 h2
        rw [fa_eq]
        omega
      simp [h3]
    · simp [h1, h2]
  · have h2 : t ≤ x := by
      rw [fa_le] at h1 ⊢
      omega
    simp [h1, h2]
theorem sp_takes (k t x : Int32) : f_X7_takes k t x = some (sp_t k t x) := by
  unfold f_X7_takes sp_t
  rw [sp_les, sp_les]
  by_cases h1 : k = 1
  · have h3 : ¬ k = 3 := by rw [h1]; decide
    simp [h1]
  · by_cases h3 : k = 3
    · simp [h3]
    · simp [h1, h3]
theorem sp_less (x : Int32) : f_X6_lessByMud x = some (sp_mud x) := by
  unfold f_X6_lessByMud sp_mud
  by_cases h : x ≤ 0 <;> simp [h]
theorem upd_self (f : Nat → Int32) (i : Nat) : upd f i (f i) = f := by
  funext j
  unfold upd
  by_cases h : j = i
  · rw [if_pos h, h]
  · rw [if_neg h]
theorem ul_up_self (M : ul_S) (j i : Nat) : ul_up M j i (M j i) = M := by
  funext j' i'
  rw [ul_upE]
  by_cases h : j' = j ∧ i' = i
  · rw [if_pos h, h.1, h.2]
  · rw [if_neg h]
def sp_v (K : ul_S) (g : Nat → Int32) (p l : Nat) : Int32 := sp_t (K 3 l) (K 2 l) (g (17 + p))
def sp_m (K : ul_S) (g : Nat → Int32) (p l : Nat) : Int32 := if K 3 l = 2 then (if g (4 + l) + sp_v K g p l ≤ 12 then g (4 + l) + sp_v K g p l else 12) else g (4 + l) + sp_v K g p l
def sp_x (K : ul_S) (g : Nat → Int32) (p l : Nat) : Int32 := if K 7 p = 3 then sp_99 (g (17 + p) - sp_v K g p l + 1) else g (17 + p) - sp_v K g p l
def sp_meet (K : ul_S) (g : Nat → Int32) (p l : Nat) : Nat → Int32 := if K 7 p = 1 ∨ (K 7 p = 0 ∧ ¬ g (17 + p) < 4) then upd g (17 + p) (sp_mud (g (17 + p))) else upd (upd g (4 + l) (sp_m K g p l)) (17 + p) (sp_x K g p l)
theorem sp_meet_o {K : ul_S} {g : Nat → Int32} {p l i : Nat} (h1 : i ≠ 17 + p) (h2 : i ≠ 4 + l) : sp_meet K g p l i = g i := by
  unfold sp_meet
  split
  · rw [upd_n h1]
  · rw [upd_n h1, upd_n h2]
/-- the class -/
theorem cm_meet {T K : ul_S} {g : Nat → Int32} {p l : Nat} (hp : p < 5) (hl : l < 4) (h6 : T 6 p = g (17 + p)) (h3 : T 3 l = g (4 + l)) : f_X4_meet T K (nI p) (nI l) = some (ul_up (ul_up T 6 p (sp_meet K g p l (17 + p))) 3 l (sp_meet K g p l (4 + l))) := by
  unfold f_X4_meet
  simp (disch := omega) only [ul_ldN]
  have hmud : f_X4_meet_j33 K (nI p) (nI l) (K 7 p) (T 6 p) T = some (ul_up (ul_up T 6 p (sp_mud (g (17 + p)))) 3 l (g (4 + l))) := by
    unfold f_X4_meet_j33
    rw [sp_less]
    simp (disch := omega) only [Option.bind_some, ul_stN, h6]
    rw [← h3]
    have e : ul_up (ul_up T 6 p (sp_mud (g (17 + p)))) 3 l (T 3 l) = ul_up T 6 p (sp_mud (g (17 + p))) := by
      have := ul_up_self (ul_up T 6 p (sp_mud (g (17 + p)))) 3 l
      rw [ul_up_j (by decide)] at this
      exact this
    rw [e]
  have hgo : f_X4_meet_j45 K (nI p) (nI l) (K 7 p) (T 6 p) T = some (ul_up (ul_up T 6 p (sp_x K g p l)) 3 l (sp_m K g p l)) := by
    unfold f_X4_meet_j45
    simp (disch := omega) only [ul_ldN, sp_taken, Option.bind_some, ul_stN]
    have e0 : ∀ z : Int32, ul_up T 6 p z 3 l = g (4 + l) := fun z => by rw [ul_up_j (by decide)]; exact h3
    rw [h6]
    simp only [e0, ul_up_s]
    have hend : ∀ y : Int32, f_X4_meet_j121 K (nI p) (nI l) (K 7 p) (g (17 + p)) (K 3 l) (sp_t (K 3 l) (K 2 l) (g (17 + p))) (ul_up (ul_up T 6 p (g (17 + p) - sp_t (K 3 l) (K 2 l) (g (17 + p)))) 3 l y) = some (ul_up (ul_up T 6 p (sp_x K g p l)) 3 l y) := by
      intro y
      unfold f_X4_meet_j121 sp_x
      by_cases hk : K 7 p = 3
      · rw [if_pos hk, if_pos hk]
        unfold f_X4_endow f_X4_endow_j26
        simp (disch := omega) only [ul_ldN, ul_bdE, ul_stN, Option.bind_some]
        rw [ul_up_j (by decide), ul_up_s]
        have e2 : ∀ z : Int32, ul_up (ul_up (ul_up T 6 p (g (17 + p) - sp_t (K 3 l) (K 2 l) (g (17 + p)))) 3 l y) 6 p z = ul_up (ul_up T 6 p z) 3 l y := by
          intro z
          funext a c
          simp only [ul_upE]
          by_cases ha : a = 6 ∧ c = p
          · simp [ha]
          · by_cases hb : a = 3 ∧ c = l
            · simp [hb]
            · simp [ha, hb]
        unfold sp_99 sp_v
        by_cases h9 : 99 ≤ g (17 + p) - sp_t (K 3 l) (K 2 l) (g (17 + p)) + 1
        · simp only [if_pos h9, Option.bind_some]
          rw [e2]
        · simp only [if_neg h9, Option.bind_some]
          rw [e2]
      · rw [if_neg hk, if_neg hk]
        rfl
    unfold sp_m sp_v
    by_cases hb : K 3 l = 2
    · rw [if_pos hb, if_pos hb]
      by_cases h12 : g (4 + l) + sp_t (K 3 l) (K 2 l) (g (17 + p)) ≤ 12
      · rw [if_pos h12, if_pos h12, hend]
      · rw [if_neg h12, if_neg h12]
        have e3 : ul_up (ul_up (ul_up T 6 p (g (17 + p) - sp_t (K 3 l) (K 2 l) (g (17 + p)))) 3 l (g (4 + l) + sp_t (K 3 l) (K 2 l) (g (17 + p)))) 3 l 12 = ul_up (ul_up T 6 p (g (17 + p) - sp_t (K 3 l) (K 2 l) (g (17 + p)))) 3 l 12 := by
          funext a c
          simp only [ul_upE]
          by_cases hb : a = 3 ∧ c = l
          · simp [hb]
          · simp [hb]
        rw [e3, hend]
    · rw [if_neg hb, if_neg hb, hend]
  unfold sp_meet
  have hne : 4 + l ≠ 17 + p := by omega
  by_cases h1 : K 7 p = 1
  · rw [if_pos h1, hmud, if_pos (Or.inl h1), upd_s, upd_n hne]
  · rw [if_neg h1]
    by_cases h0 : K 7 p = 0
    · rw [if_pos h0, h6]
      rw [h6] at hgo hmud
      by_cases h4 : g (17 + p) < 4
      · rw [if_pos h4, hgo, if_neg (by rintro (q | q); exact h1 q; exact q.2 h4), upd_s, upd_n hne, upd_s]
      · rw [if_neg h4, hmud, if_pos (Or.inr ⟨h0, h4⟩), upd_s, upd_n hne]
    · rw [if_neg h0, hgo, if_neg (by rintro (q | q); exact h1 q; exact h0 q.1), upd_s, upd_n hne, upd_s]
/-- the reference -/
theorem mm_come {M K : ul_S} {g : Nat → Int32} {lv p l : Nat} (hv : lv ≤ 1) (hp : p < 5) (hl : l < 4) (hk : M 2 l = K 3 l) (ht : M 1 l = K 2 l) (hq : M 5 p = K 7 p) (hx : ¬ g (17 + p) < 0) : f_X7_comeTo (ul_sg M (23 * lv) g) (nI lv) (nI p) (nI l) = some (ul_sg M (23 * lv) (sp_meet K g p l)) := by
  unfold f_X7_comeTo
  simp (disch := omega) only [ul_bdE, ix_17, ul_ldN, sg_6, sg_n, hq]
  have hmud : f_X7_comeTo_j41 (nI lv) (nI p) (nI l) (nI (23 * lv + (17 + p))) (ul_sg M (23 * lv) g) = some (ul_sg M (23 * lv) (upd g (17 + p) (sp_mud (g (17 + p))))) := by
    unfold f_X7_comeTo_j41 f_X7_comeTo_j64 sp_mud
    simp (disch := omega) only [ul_ldN, sg_6, ul_stN, sg_up]
    by_cases h : g (17 + p) ≤ 0
    · rw [if_pos h, if_pos h]
      have h0 : g (17 + p) = 0 := by
        rw [fa_le] at h
        rw [fa_lt] at hx
        rw [fa_eq]
        omega
      rw [h0]
      rfl
    · rw [if_neg h, if_neg h]
  have hgo : f_X7_comeTo_j69 (nI lv) (nI p) (nI l) (nI (23 * lv + (17 + p))) (ul_sg M (23 * lv) g) = some (ul_sg M (23 * lv) (upd (upd g (4 + l) (sp_m K g p l)) (17 + p) (sp_x K g p l))) := by
    have hne : 4 + l ≠ 17 + p := by omega
    have hne' : 17 + p ≠ 4 + l := by omega
    have hg : f_X7_goUnder (ul_sg M (23 * lv) g) (nI lv) (nI p) (nI l) = some (ul_sg M (23 * lv) (upd (upd g (4 + l) (sp_m K g p l)) (17 + p) (g (17 + p) - sp_v K g p l))) := by
      unfold f_X7_goUnder
      simp (disch := omega) only [ul_bdE, ix_17, ix_4, ul_ldN, sg_6, sg_n, hk, ht, sp_takes, Option.bind_some, ul_stN, sg_up, upd_n, upd_s, sp_les]
      have hc : ∀ a c : Int32, upd (upd g (17 + p) a) (4 + l) c = upd (upd g (4 + l) c) (17 + p) a := by
        intro a c
        funext i
        unfold upd
        by_cases h1 : i = 4 + l
        · rw [if_pos h1, if_neg (by omega), if_pos h1]
        · rw [if_neg h1]
          by_cases h2 : i = 17 + p
          · rw [if_pos h2, if_pos h2]
          · rw [if_neg h2, if_neg h2, if_neg h1]
      have hcc : ∀ a c c' : Int32, upd (upd (upd g (17 + p) a) (4 + l) c) (4 + l) c' = upd (upd g (4 + l) c') (17 + p) a := by
        intro a c c'
        rw [← hc]
        funext i
        unfold upd
        by_cases h1 : i = 4 + l
        · simp [h1]
        · simp [h1]
      unfold sp_m sp_v
      by_cases hb : K 3 l = 2
      · rw [if_pos hb, if_pos hb, hcc]
      · rw [if_neg hb, if_neg hb, hc]
    unfold f_X7_comeTo_j69 f_X7_comeTo_j116
    rw [hg]
    simp (disch := omega) only [Option.bind_some, ul_ldN, sg_6, sg_n, hq, upd_s, ul_stN, sg_up, sp_les]
    have huu : ∀ (a c : Int32), upd (upd (upd g (4 + l) (sp_m K g p l)) (17 + p) a) (17 + p) c = upd (upd g (4 + l) (sp_m K g p l)) (17 + p) c := by
      intro a c
      funext i
      unfold upd
      by_cases h1 : i = 17 + p
      · simp [h1]
      · simp [h1]
    unfold sp_x
    by_cases h3 : K 7 p = 3
    · rw [if_pos h3, if_pos h3, huu]
      rfl
    · rw [if_neg h3, if_neg h3, huu]
  unfold sp_meet
  by_cases h1 : K 7 p = 1
  · rw [if_pos h1, hmud, if_pos (Or.inl h1)]
  · rw [if_neg h1]
    by_cases h0 : K 7 p = 0
    · rw [if_pos h0]
      by_cases h4 : g (17 + p) ≤ 3
      · rw [if_pos h4, hgo, if_neg]
        rintro (q | q)
        · exact h1 q
        · apply q.2
          rw [fa_le] at h4
          rw [fa_lt]
          have e3 : (3 : Int32).toInt = 3 := by decide
          have e4 : (4 : Int32).toInt = 4 := by decide
          omega
      · rw [if_neg h4, hmud, if_pos]
        refine Or.inr ⟨h0, ?_⟩
        rw [fa_le] at h4
        rw [fa_lt]
        have e3 : (3 : Int32).toInt = 3 := by decide
        have e4 : (4 : Int32).toInt = 4 := by decide
        omega
    · rw [if_neg h0, hgo, if_neg (by rintro (q | q); exact h1 q; exact h0 q.1)]
