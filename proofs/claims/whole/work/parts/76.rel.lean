/-! which arguments are in range, on both sides; the relation of all components -/
theorem lg_lt (x y : Int64) : (lg_cmp x y < 0) ↔ ¬ y ≤ x := by
  unfold lg_cmp
  rcases Int.lt_trichotomy x.toInt y.toInt with h | h | h
  · have h1 : ¬ x > y := by
      show ¬ y < x
      rw [fa_lt64]
      omega
    have h2 : ¬ x = y := by
      rw [fa_eq64]
      omega
    rw [if_neg h1, if_neg h2]
    refine ⟨fun _ => ?_, fun _ => by decide⟩
    rw [fa_le64]
    omega
  · have h2 : x = y := (fa_eq64 x y).mpr h
    have h1 : ¬ x > y := by
      show ¬ y < x
      rw [fa_lt64]
      omega
    rw [if_neg h1, if_pos h2]
    refine ⟨fun q => absurd q (by decide), fun q => absurd ?_ q⟩
    rw [fa_le64]
    omega
  · have h1 : x > y := by
      show y < x
      rw [fa_lt64]
      omega
    rw [if_pos h1]
    refine ⟨fun q => absurd q (by decide), fun q => absurd ?_ q⟩
    rw [fa_le64]
    omega
theorem lg_gt (x y : Int64) : (0 < lg_cmp x y) ↔ ¬ x ≤ y := by
  unfold lg_cmp
  rcases Int.lt_trichotomy x.toInt y.toInt with h | h | h
  · have h1 : ¬ x > y := by
      show ¬ y < x
      rw [fa_lt64]
      omega
    have h2 : ¬ x = y := by
      rw [fa_eq64]
      omega
    rw [if_neg h1, if_neg h2]
    refine ⟨fun q => absurd q (by decide), fun q => absurd ?_ q⟩
    rw [fa_le64]
    omega
  · have h2 : x = y := (fa_eq64 x y).mpr h
    have h1 : ¬ x > y := by
      show ¬ y < x
      rw [fa_lt64]
      omega
    rw [if_neg h1, if_pos h2]
    refine ⟨fun q => absurd q (by decide), fun q => absurd ?_ q⟩
    rw [fa_le64]
    omega
  · have h1 : x > y := by
      show y < x
      rw [fa_lt64]
      omega
    rw [if_pos h1]
    refine ⟨fun _ => ?_, fun _ => by decide⟩
    rw [fa_le64]
    omega
theorem mi_in (x y z : Int64) : f_X7_in x y z = some (if y ≤ x ∧ x ≤ z then 1 else 0) := by
  unfold f_X7_in
  by_cases h1 : y ≤ x
  · rw [if_neg (fun q => (lg_lt x y).mp q h1)]
    by_cases h2 : x ≤ z
    · rw [if_neg (fun q => (lg_gt x z).mp q h2), if_pos ⟨h1, h2⟩]
    · rw [if_pos ((lg_gt x z).mpr h2), if_neg (fun q => h2 q.2)]
  · rw [if_pos ((lg_lt x y).mpr h1), if_neg (fun q => h1 q.1)]
theorem mi_32 (p a b : Int32) : f_X7_in p.toInt64 a.toInt64 b.toInt64 = some (if a ≤ p ∧ p ≤ b then 1 else 0) := by
  rw [mi_in]
  congr 1
  by_cases h : a ≤ p ∧ p ≤ b
  · rw [if_pos h, if_pos ⟨(fa_wide_le a p).mpr h.1, (fa_wide_le p b).mpr h.2⟩]
  · rw [if_neg h, if_neg (fun q => h ⟨(fa_wide_le a p).mp q.1, (fa_wide_le p b).mp q.2⟩)]
/-- least to most, as numbers -/
theorem mi_nm {p : Int32} {a b : Nat} {y z : Int64} (hy : y = (nI a).toInt64) (hz : z = (nI b).toInt64) (ha : a < 1000000) (hb : b < 1000000) : (∃ j, a ≤ j ∧ j ≤ b ∧ p = nI j ∧ f_X7_in p.toInt64 y z = some 1) ∨ ((p < nI a ∨ nI b < p) ∧ f_X7_in p.toInt64 y z = some 0) := by
  subst hy
  subst hz
  rw [mi_32]
  by_cases h : nI a ≤ p ∧ p ≤ nI b
  · left
    have h1 := h.1
    have h2 := h.2
    rw [fa_le, nI_toInt (by omega)] at h1 h2
    refine ⟨p.toInt.toNat, by omega, by omega, ?_, by rw [if_pos h]⟩
    rw [fa_eq, nI_toInt (by omega)]
    omega
  · right
    rw [if_neg h]
    refine ⟨?_, rfl⟩
    rw [fa_lt, fa_lt, nI_toInt (by omega), nI_toInt (by omega)]
    rw [fa_le, fa_le, nI_toInt (by omega), nI_toInt (by omega)] at h
    omega
theorem q_lad {nl : Nat} {K M : ul_S} (hn : nl ≤ 100) (hK : K 0 0 = nI nl) (hM : M 0 0 = nI nl) (p : Int32) : (∃ j, j < nl ∧ p = nI j ∧ f_X6_isLadder K p = some 1 ∧ f_X7_isLadder M p = some 1) ∨ (f_X6_isLadder K p = some 0 ∧ f_X7_isLadder M p = some 0) := by
  unfold f_X6_isLadder f_X7_isLadder
  have e0 : (0 : Int64) = (0 : Int32).toInt64 := by decide
  have hs : (nI nl - 1).toInt = (nl : Int) - 1 := pk_sub_toInt (a := nl) (b := 1) (by omega) (by omega)
  rw [hK, hM, e0, mi_32]
  rcases ul_rg p (n := nl) (by omega) with ⟨j, hj, rfl⟩ | h
  · left
    refine ⟨j, hj, rfl, ?_, ?_⟩
    · rw [if_neg (nI_pos (by omega)), if_neg (nI_ge hj (by omega))]
    · rw [if_pos ⟨nI_pos' (by omega), by rw [fa_le, hs, nI_toInt (by omega)]; omega⟩]
      rfl
  · right
    constructor
    · rcases h with h | h
      · rw [if_pos h]
      · by_cases h0 : p < 0
        · rw [if_pos h0]
        · rw [if_neg h0, if_pos h]
    · rw [if_neg ?_]
      · rfl
      · intro q
        have q1 := q.1
        have q2 := q.2
        rw [fa_le] at q1
        rw [fa_le, hs] at q2
        have z0 : (0 : Int32).toInt = 0 := by decide
        rcases h with h | h
        · rw [fa_lt] at h
          omega
        · rw [fa_le, nI_toInt (by omega)] at h
          omega
theorem q_per {np : Nat} {K M : ul_S} (hn : np ≤ 100) (hK : K 0 1 = nI np) (hM : M 0 1 = nI np) (p : Int32) : (∃ j, j < np ∧ p = nI j ∧ f_X6_isPerson K p = some 1 ∧ f_X7_isPerson M p = some 1) ∨ (f_X6_isPerson K p = some 0 ∧ f_X7_isPerson M p = some 0) := by
  unfold f_X6_isPerson f_X7_isPerson
  have e0 : (0 : Int64) = (0 : Int32).toInt64 := by decide
  have hs : (nI np - 1).toInt = (np : Int) - 1 := pk_sub_toInt (a := np) (b := 1) (by omega) (by omega)
  rw [hK, hM, e0, mi_32]
  rcases ul_rg p (n := np) (by omega) with ⟨j, hj, rfl⟩ | h
  · left
    refine ⟨j, hj, rfl, ?_, ?_⟩
    · rw [if_neg (nI_pos (by omega)), if_neg (nI_ge hj (by omega))]
    · rw [if_pos ⟨nI_pos' (by omega), by rw [fa_le, hs, nI_toInt (by omega)]; omega⟩]
      rfl
  · right
    constructor
    · rcases h with h | h
      · rw [if_pos h]
      · by_cases h0 : p < 0
        · rw [if_pos h0]
        · rw [if_neg h0, if_pos h]
    · rw [if_neg ?_]
      · rfl
      · intro q
        have q1 := q.1
        have q2 := q.2
        rw [fa_le] at q1
        rw [fa_le, hs] at q2
        have z0 : (0 : Int32).toInt = 0 := by decide
        rcases h with h | h
        · rw [fa_lt] at h
          omega
        · rw [fa_le, nI_toInt (by omega)] at h
          omega
theorem q_pl (p : Int32) : (∃ j, j < 10 ∧ p = nI j ∧ f_X6_isPlace p = some 1 ∧ f_X7_in p.toInt64 0 9 = some 1) ∨ (f_X6_isPlace p = some 0 ∧ f_X7_in p.toInt64 0 9 = some 0) := by
  unfold f_X6_isPlace
  rcases mi_nm (p := p) (a := 0) (b := 9) (y := 0) (z := 9) (by decide) (by decide) (by decide) (by decide) with ⟨j, -, hj, rfl, e⟩ | ⟨h, e⟩
  · left
    refine ⟨j, by omega, rfl, ?_, e⟩
    have h10 : ¬ (10 : Int32) ≤ nI j := nI_ge (a := j) (b := 10) (by omega) (by omega)
    rw [if_neg (nI_pos (by omega)), if_neg h10]
  · right
    refine ⟨?_, e⟩
    rcases h with h | h
    · have h' : p < 0 := h
      rw [if_pos h']
    · by_cases h0 : p < 0
      · rw [if_pos h0]
      · rw [if_neg h0, if_pos ?_]
        rw [fa_lt, nI_toInt (by omega)] at h
        rw [fa_le]
        have : (10 : Int32).toInt = 10 := by decide
        omega
theorem q_sl (p : Int32) : (∃ j, j < 2 ∧ p = nI j ∧ f_X6_isSlot p = some 1 ∧ f_X7_in p.toInt64 0 1 = some 1) ∨ (f_X6_isSlot p = some 0 ∧ f_X7_in p.toInt64 0 1 = some 0) := by
  unfold f_X6_isSlot
  rcases mi_nm (p := p) (a := 0) (b := 1) (y := 0) (z := 1) (by decide) (by decide) (by decide) (by decide) with ⟨j, -, hj, rfl, e⟩ | ⟨h, e⟩
  · left
    refine ⟨j, by omega, rfl, ?_, e⟩
    have h10 : ¬ (2 : Int32) ≤ nI j := nI_ge (a := j) (b := 2) (by omega) (by omega)
    rw [if_neg (nI_pos (by omega)), if_neg h10]
  · right
    refine ⟨?_, e⟩
    rcases h with h | h
    · have h' : p < 0 := h
      rw [if_pos h']
    · by_cases h0 : p < 0
      · rw [if_pos h0]
      · rw [if_neg h0, if_pos ?_]
        rw [fa_lt, nI_toInt (by omega)] at h
        rw [fa_le]
        have : (2 : Int32).toInt = 2 := by decide
        omega
/-! the relation -/
def ul_px (L M : ul_S) : Prop := ∃ n, n ≤ 48 ∧ L 0 0 = nI n ∧ M 0 5 = nI n ∧ ∀ i, i < n → L 1 i = M 9 i
def ul_pa (c nl np : Nat) (K J : ul_S) (B : ul_F) (M : ul_S) : Prop := ∃ nx sz, nx < 14 ∧ sz ≤ 14 ∧ J 0 0 = nI nx ∧ M 0 9 = nI nx ∧ J 0 1 = nI sz ∧ M 0 8 = nI sz ∧ ∀ k, k < sz → ul_ss nl np K (B ((nx + 13 - k) % 14)) (fun i => M 10 (23 * ((nx + 13 - k) % 14) + i)) 4 (1000 * c) np
def ul_pe (E M : ul_S) : Prop := ∃ n, n ≤ 6 ∧ E 0 0 = nI n ∧ M 0 10 = nI n ∧ ∀ i, i < n → E 1 i = M 11 i ∧ E 2 i = M 12 i
def ul_pk (c nl np : Nat) (K U : ul_S) (P : ul_F) (M : ul_S) : Prop := ∀ s, s < 2 → U 2 s = M 13 s ∧ (U 2 s = 0 ∨ (U 2 s = 1 ∧ ul_ss nl np K (P s) (fun i => M 14 (23 * s + i)) 4 (1000 * c) np))
def ul_RR (c : Nat) (U : ul_S) (d : Int64) (L K N J E M : ul_S) (dm : Int64) (P B : ul_F) : Prop := ∃ nl np, ul_mk nl np K M ∧ ul_ss nl np K N (fun i => M 6 i) 4 (1000 * c) np ∧ ul_px L M ∧ ul_pa c nl np K J B M ∧ ul_pe E M ∧ ul_pk c nl np K U P M ∧ d = dm
theorem mk_cg {nl np : Nat} {K M M' : ul_S} (h : ul_mk nl np K M) (h0 : M' 0 0 = M 0 0) (h1 : M' 0 1 = M 0 1) (hr : ∀ j, 1 ≤ j → j ≤ 5 → M' j = M j) : ul_mk nl np K M' := by
  unfold ul_mk at *
  rw [h0, h1, hr 1 (by omega) (by omega), hr 2 (by omega) (by omega), hr 3 (by omega) (by omega), hr 4 (by omega) (by omega), hr 5 (by omega) (by omega)]
  exact h
theorem ss_gcg {nl np : Nat} {K T : ul_S} {g g' : Nat → Int32} {mb gb e : Nat} (hnl : nl ≤ 4) (hnp : np ≤ 5) (h : ul_ss nl np K T g mb gb e) (hg : ∀ i, i < 23 → g' i = g i) : ul_ss nl np K T g' mb gb e := by
  obtain ⟨hla, hm, hw, hx, hd⟩ := h
  refine ⟨⟨?_, ?_⟩, ?_, ?_, ?_, ?_⟩
  · intro l hl
    rw [hg l (by omega)]
    exact hla.1 l hl
  · intro a ha
    rcases hla.2 a ha with ⟨q1, q2⟩ | ⟨l, q1, q2, q3, q4⟩
    · exact Or.inl ⟨q1, fun l hl => by rw [hg l (by omega)]; exact q2 l hl⟩
    · exact Or.inr ⟨l, q1, q2, by rw [hg l (by omega)]; exact q3, fun k hk e => q4 k hk (by rw [hg k (by omega)] at e; exact e)⟩
  · intro l hl
    rw [hg (4 + l) (by omega), hg (8 + l) (by omega)]
    exact hm l hl
  · intro p hp hne
    rw [hg (12 + p) (by omega)]
    exact hw p hp hne
  · intro p hp
    rw [hg (17 + p) (by omega)]
    exact hx p hp
  · rw [hg 22 (by omega)]
    exact hd
theorem pa_mono {c c' nl np : Nat} {K J : ul_S} {B : ul_F} {M : ul_S} (h : ul_pa c nl np K J B M) (hc : c ≤ c') : ul_pa c' nl np K J B M := by
  obtain ⟨nx, sz, h1, h2, h3, h4, h5, h6, h7⟩ := h
  exact ⟨nx, sz, h1, h2, h3, h4, h5, h6, fun k hk => ss_mono (h7 k hk) (Nat.le_refl _) (by omega)⟩
theorem pk_mono {c c' nl np : Nat} {K U : ul_S} {P : ul_F} {M : ul_S} (h : ul_pk c nl np K U P M) (hc : c ≤ c') : ul_pk c' nl np K U P M := by
  intro s hs
  obtain ⟨h1, h2⟩ := h s hs
  refine ⟨h1, ?_⟩
  rcases h2 with h2 | ⟨h2, h3⟩
  · exact Or.inl h2
  · exact Or.inr ⟨h2, ss_mono h3 (Nat.le_refl _) (by omega)⟩
theorem rr_mono {c c' : Nat} {U : ul_S} {d : Int64} {L K N J E M : ul_S} {dm : Int64} {P B : ul_F} (h : ul_RR c U d L K N J E M dm P B) (hc : c ≤ c') : ul_RR c' U d L K N J E M dm P B := by
  obtain ⟨nl, np, h1, h2, h3, h4, h5, h6, h7⟩ := h
  exact ⟨nl, np, h1, ss_mono h2 (Nat.le_refl _) (by omega), h3, pa_mono h4 hc, h5, pk_mono h6 hc, h7⟩
/-- the trial's places are free -/
theorem rr_tr {c : Nat} {U : ul_S} {d : Int64} {L K N J E M : ul_S} {dm : Int64} {P B : ul_F} (h : ul_RR c U d L K N J E M dm P B) (g : Nat → Int32) : ul_RR c U d L K N J E (ul_sg M 23 g) dm P B := by
  obtain ⟨nl, np, h1, h2, h3, h4, h5, h6, h7⟩ := h
  refine ⟨nl, np, mk_sg h1, ss_gcg h1.1 h1.2.1 h2 (fun i hi => sg_lo hi), ?_, ?_, ?_, ?_, h7⟩
  · unfold ul_px at *
    rw [sg_n (show (0 : Nat) ≠ 6 by decide), sg_n (show (9 : Nat) ≠ 6 by decide)]
    exact h3
  · unfold ul_pa at *
    rw [sg_n (show (0 : Nat) ≠ 6 by decide), sg_n (show (10 : Nat) ≠ 6 by decide)]
    exact h4
  · unfold ul_pe at *
    rw [sg_n (show (0 : Nat) ≠ 6 by decide), sg_n (show (11 : Nat) ≠ 6 by decide), sg_n (show (12 : Nat) ≠ 6 by decide)]
    exact h5
  · unfold ul_pk at *
    rw [sg_n (show (13 : Nat) ≠ 6 by decide), sg_n (show (14 : Nat) ≠ 6 by decide)]
    exact h6
