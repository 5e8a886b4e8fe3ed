/-! the relation of a street and the reference's 23 places; a person's way -/
def ul_mk (nl np : Nat) (K M : ul_S) : Prop := nl ≤ 4 ∧ np ≤ 5 ∧ K 0 0 = nI nl ∧ M 0 0 = nI nl ∧ K 0 1 = nI np ∧ M 0 1 = nI np ∧ (∀ l, l < nl → M 1 l = K 2 l ∧ M 2 l = K 3 l ∧ ∃ t, t ≤ 9 ∧ K 2 l = nI t) ∧ ∀ p, p < np → M 5 p = K 7 p ∧ ∃ h w : Nat, h < 10 ∧ w < 10 ∧ h ≠ w ∧ K 4 p = nI h ∧ M 3 p = nI h ∧ K 5 p = nI w ∧ M 4 p = nI w
def ul_la (nl : Nat) (T : ul_S) (g : Nat → Int32) : Prop := (∀ l, l < nl → ∃ x, x < 10 ∧ T 1 l = nI x ∧ g l = nI x) ∧ ∀ a, a < 10 → (T 2 a = -9 ∧ ∀ l, l < nl → g l ≠ nI a) ∨ ∃ l, l < nl ∧ T 2 a = nI l ∧ g l = nI a ∧ ∀ k, k < nl → g k = nI a → k = l
def ul_ss (nl np : Nat) (K T : ul_S) (g : Nat → Int32) (mb gb e : Nat) : Prop := ul_la nl T g ∧ (∀ l, l < nl → T 3 l = g (4 + l) ∧ T 4 l = g (8 + l) ∧ (∃ x, x ≤ mb ∧ g (4 + l) = nI x) ∧ ∃ x, x ≤ gb ∧ g (8 + l) = nI x) ∧ (∀ p, p < np → p ≠ e → T 5 p = g (12 + p) ∧ (T 5 p = K 4 p ∨ T 5 p = K 5 p)) ∧ (∀ p, p < np → T 6 p = g (17 + p) ∧ ∃ x, x ≤ 99 ∧ g (17 + p) = nI x) ∧ T 0 0 = g 22
theorem mk_sg {nl np : Nat} {K M : ul_S} {b : Nat} {g : Nat → Int32} (h : ul_mk nl np K M) : ul_mk nl np K (ul_sg M b g) := by
  unfold ul_mk at *
  simp only [sg_n (show (0 : Nat) ≠ 6 by decide), sg_n (show (1 : Nat) ≠ 6 by decide), sg_n (show (2 : Nat) ≠ 6 by decide), sg_n (show (3 : Nat) ≠ 6 by decide), sg_n (show (4 : Nat) ≠ 6 by decide), sg_n (show (5 : Nat) ≠ 6 by decide)]
  exact h
theorem nI_inj {a b : Nat} (ha : a < 2147483648) (hb : b < 2147483648) (h : nI a = nI b) : a = b := (nI_eq (by omega) (by omega)).mp h
theorem sp_t_b {k : Int32} {b a : Nat} (ha : a ≤ 99) (hb : b ≤ 9) : ∃ c, c ≤ a ∧ sp_t k (nI b) (nI a) = nI c := by
  unfold sp_t
  by_cases h3 : k = 3
  · exact ⟨a, Nat.le_refl a, by rw [if_pos h3]⟩
  · rw [if_neg h3]
    by_cases h1 : k = 1
    · rw [if_pos h1]
      have hd : nI a / 2 = nI (a / 2) := pk_div (d := 2) (by omega) (by decide) (by decide)
      rw [hd]
      by_cases h : nI b ≤ nI (a / 2)
      · rw [if_pos h]
        rw [nI_leI (by omega) (by omega)] at h
        exact ⟨b, by omega, rfl⟩
      · rw [if_neg h]
        exact ⟨a / 2, by omega, rfl⟩
    · rw [if_neg h1]
      by_cases h : nI b ≤ nI a
      · rw [if_pos h]
        rw [nI_leI (by omega) (by omega)] at h
        exact ⟨b, h, rfl⟩
      · rw [if_neg h]
        exact ⟨a, Nat.le_refl a, rfl⟩
theorem sp_99_b {a : Nat} (ha : a < 2147483648) : ∃ c, c ≤ 99 ∧ sp_99 (nI a) = nI c := by
  unfold sp_99
  by_cases h : (99 : Int32) ≤ nI a
  · exact ⟨99, Nat.le_refl _, by rw [if_pos h]; rfl⟩
  · rw [if_neg h]
    have h2 : ¬ nI 99 ≤ nI a := h
    rw [nI_leI (by omega) (by omega)] at h2
    exact ⟨a, by omega, rfl⟩
theorem sp_meet_b {K : ul_S} {g : Nat → Int32} {p l a b m : Nat} (hx : g (17 + p) = nI a) (ha : a ≤ 99) (ht : K 2 l = nI b) (hb : b ≤ 9) (hm : g (4 + l) = nI m) (hmb : m ≤ 100000) (hne : 4 + l ≠ 17 + p) : (∃ c, c ≤ 99 ∧ sp_meet K g p l (17 + p) = nI c) ∧ ∃ c, c ≤ m + 99 ∧ sp_meet K g p l (4 + l) = nI c := by
  obtain ⟨v, hv, ev⟩ := sp_t_b (k := K 3 l) ha hb
  have hV : sp_v K g p l = nI v := by
    unfold sp_v
    rw [hx, ht, ev]
  unfold sp_meet
  split
  · rw [upd_s, upd_n hne]
    refine ⟨?_, m, by omega, hm⟩
    unfold sp_mud
    rw [hx]
    by_cases h0 : nI a ≤ 0
    · exact ⟨0, by omega, by rw [if_pos h0]; rfl⟩
    · rw [if_neg h0]
      have h1 : ¬ nI a ≤ nI 0 := h0
      rw [nI_leI (by omega) (by omega)] at h1
      refine ⟨a - 1, by omega, ?_⟩
      have := pk_sub (a := a) (b := 1) (by omega)
      exact this
  · rw [upd_s, upd_n hne, upd_s]
    constructor
    · unfold sp_x
      rw [hx, hV, pk_sub hv]
      split
      · have e1 : nI (a - v) + 1 = nI (a - v + 1) := nI_1 _
        rw [e1]
        exact sp_99_b (by omega)
      · exact ⟨a - v, by omega, rfl⟩
    · unfold sp_m
      rw [hm, hV, nI_add]
      split
      · split
        · exact ⟨m + v, by omega, rfl⟩
        · rename_i h12
          have h13 : ¬ nI (m + v) ≤ nI 12 := h12
          rw [nI_leI (by omega) (by omega)] at h13
          exact ⟨12, by omega, rfl⟩
      · exact ⟨m + v, by omega, rfl⟩
theorem ss_meet {nl np : Nat} {K M T : ul_S} {g : Nat → Int32} {mb gb e p l : Nat} (hk : ul_mk nl np K M) (h : ul_ss nl np K T g mb gb e) (hp : p < np) (hl : l < nl) (hmb : mb ≤ 100000) : ul_ss nl np K (ul_up (ul_up T 6 p (sp_meet K g p l (17 + p))) 3 l (sp_meet K g p l (4 + l))) (sp_meet K g p l) (mb + 99) gb e := by
  obtain ⟨h4, h5, -, -, -, -, hL, -⟩ := hk
  obtain ⟨hla, hm, hw, hx, hd⟩ := h
  obtain ⟨-, -, b, hb, eb⟩ := hL l hl
  obtain ⟨-, -, ⟨m, hm1, hm2⟩, -⟩ := hm l hl
  obtain ⟨-, a, ha, ea⟩ := hx p hp
  have hne : 4 + l ≠ 17 + p := by omega
  obtain ⟨⟨c, hc, ec⟩, c', hc', ec'⟩ := sp_meet_b (K := K) ea ha eb hb hm2 (by omega) hne
  refine ⟨⟨?_, ?_⟩, ?_, ?_, ?_, ?_⟩
  · intro k hk2
    obtain ⟨x, hx1, hx2, hx3⟩ := hla.1 k hk2
    refine ⟨x, hx1, ?_, ?_⟩
    · rw [ul_up_j (by decide), ul_up_j (by decide)]
      exact hx2
    · rw [sp_meet_o (by omega) (by omega)]
      exact hx3
  · intro a2 ha2
    rcases hla.2 a2 ha2 with ⟨q1, q2⟩ | ⟨k, q1, q2, q3, q4⟩
    · left
      refine ⟨?_, ?_⟩
      · rw [ul_up_j (by decide), ul_up_j (by decide)]
        exact q1
      · intro k hk2
        rw [sp_meet_o (by omega) (by omega)]
        exact q2 k hk2
    · right
      refine ⟨k, q1, ?_, ?_, ?_⟩
      · rw [ul_up_j (by decide), ul_up_j (by decide)]
        exact q2
      · rw [sp_meet_o (by omega) (by omega)]
        exact q3
      · intro k2 hk2 e2
        rw [sp_meet_o (by omega) (by omega)] at e2
        exact q4 k2 hk2 e2
  · intro k hk2
    obtain ⟨q1, q2, ⟨x, q3, q4⟩, y, q5, q6⟩ := hm k hk2
    refine ⟨?_, ?_, ?_, ?_⟩
    · by_cases hkl : k = l
      · subst hkl
        rw [ul_up_s]
      · rw [ul_up_i hkl, ul_up_j (by decide), sp_meet_o (by omega) (by omega)]
        exact q1
    · rw [ul_up_j (by decide), ul_up_j (by decide), sp_meet_o (by omega) (by omega)]
      exact q2
    · by_cases hkl : k = l
      · subst hkl
        exact ⟨c', by omega, ec'⟩
      · exact ⟨x, by omega, by rw [sp_meet_o (by omega) (by omega)]; exact q4⟩
    · exact ⟨y, q5, by rw [sp_meet_o (by omega) (by omega)]; exact q6⟩
  · intro k hk2 hke
    obtain ⟨q1, q2⟩ := hw k hk2 hke
    rw [ul_up_j (by decide), ul_up_j (by decide), sp_meet_o (by omega) (by omega)]
    exact ⟨q1, q2⟩
  · intro k hk2
    obtain ⟨q1, x, q2, q3⟩ := hx k hk2
    by_cases hkp : k = p
    · subst hkp
      rw [ul_up_j (by decide), ul_up_s]
      exact ⟨rfl, c, hc, ec⟩
    · rw [ul_up_j (by decide), ul_up_i hkp, sp_meet_o (by omega) (by omega)]
      exact ⟨q1, x, q2, q3⟩
  · rw [ul_up_j (by decide), ul_up_j (by decide), sp_meet_o (by omega) (by omega)]
    exact hd
/-- the reference's search for the ladder at a place -/
theorem mm_at {nl lv a : Nat} {M T : ul_S} {g : Nat → Int32} (hv : lv ≤ 1) (hnl : nl ≤ 4) (hM : M 0 0 = nI nl) (ha : a < 10) (h : ul_la nl T g) : f_X7_ladderAt (ul_sg M (23 * lv) g) (nI lv) (nI a) = some (T 2 a) := by
  unfold f_X7_ladderAt
  have key := ul_run (b := f_X7_ladderAt_L2 (ul_sg M (23 * lv) g) (nI lv) (nI a)) (fun k s => k ≤ nl ∧ s = nI (nl - k) ∧ ∀ l, l < nl - k → g l ≠ nI a) (fun r => (∃ z, r = .inl z ∧ z = T 2 a) ∨ ((∃ z, r = .inr z) ∧ T 2 a = -9))
    (by
      intro s hs
      obtain ⟨-, hs, hn⟩ := hs
      refine ⟨.inr s, ?_, Or.inr ⟨⟨s, rfl⟩, ?_⟩⟩
      · unfold f_X7_ladderAt_L2
        rw [sg_n (by decide), hM, hs, if_pos (nI_le (by omega) (by omega))]
      · rcases h.2 a ha with q | ⟨l, q1, q2, q3, q4⟩
        · exact q.1
        · exact absurd q3 (hn l (by omega)))
    (by
      intro i s hs
      obtain ⟨hi, hs, hn⟩ := hs
      have hlt : nl - (i + 1) < nl := by omega
      have hb : f_X7_ladderAt_L2 (ul_sg M (23 * lv) g) (nI lv) (nI a) s = if g (nl - (i + 1)) = nI a then some (.inl (.inl s)) else some (.inr (nI (nl - i))) := by
        unfold f_X7_ladderAt_L2
        rw [sg_n (by decide), hM, hs, if_neg (nI_ge hlt (by omega))]
        have e1 : nI (nl - (i + 1)) + 1 = nI (nl - i) := by
          rw [nI_1]
          congr 1
          omega
        simp (disch := omega) only [ix_0', ul_ldN, sg_6, ul_bdE, e1]
      rw [hb]
      by_cases hg : g (nl - (i + 1)) = nI a
      · right
        rw [if_pos hg]
        refine ⟨_, rfl, Or.inl ⟨s, rfl, ?_⟩⟩
        rcases h.2 a ha with q | ⟨l, q1, q2, q3, q4⟩
        · exact absurd hg (q.2 _ hlt)
        · have := q4 _ hlt hg
          rw [hs, this, q2]
      · left
        rw [if_neg hg]
        refine ⟨_, rfl, by omega, rfl, ?_⟩
        intro l hl
        by_cases hl2 : l = nl - (i + 1)
        · rw [hl2]
          exact hg
        · exact hn l (by omega))
    ul_N nl 0 ⟨Nat.le_refl nl, by rw [Nat.sub_self]; rfl, fun l hl => by omega⟩ (by rw [ul_N_v]; omega)
  obtain ⟨r, hr, hq⟩ := key
  have hr2 : ul_it ul_N (f_X7_ladderAt_L2 (ul_sg M (23 * lv) g) (nI lv) (nI a)) (0 : Int32) = some r := hr
  rw [hr2]
  rcases hq with ⟨z, q1, q2⟩ | ⟨⟨z, q1⟩, q2⟩
  · subst q1
    rw [← q2]
    rfl
  · subst q1
    rw [q2]
    rfl
