/-! the text is read: bits (the first rows are pasted out of the kit's BITS) -/
def bt (x : Int32) (i : Nat) : Bool := x.toBitVec.getLsbD i
theorem b_ext {x y : Int32} (h : ∀ i, i < 32 → bt x i = bt y i) : x = y := Int32.toBitVec_inj.mp (BitVec.eq_of_getLsbD_eq (fun i hi => h i hi))
theorem b_or (x y : Int32) (i : Nat) : bt (x ||| y) i = (bt x i || bt y i) := by unfold bt; rw [Int32.toBitVec_or, BitVec.getLsbD_or]
theorem b_and (x y : Int32) (i : Nat) : bt (x &&& y) i = (bt x i && bt y i) := by unfold bt; rw [Int32.toBitVec_and, BitVec.getLsbD_and]
theorem b_xor (x y : Int32) (i : Nat) : bt (x ^^^ y) i = (bt x i ^^ bt y i) := by unfold bt; rw [Int32.toBitVec_xor, BitVec.getLsbD_xor]
theorem b_m1 : ∀ i, i < 32 → bt (-1) i = true := by decide +kernel
theorem s_l : ∀ n, n < 32 → ((nI n &&& 31).toBitVec.smod 32).toNat = n := by decide +kernel
theorem b_shl (n : Nat) (hn : n < 32) (x : Int32) {i : Nat} (hi : i < 32) : bt (x <<< (nI n &&& 31)) i = (decide (n ≤ i) && bt x (i - n)) := by
  unfold bt
  rw [Int32.toBitVec_shiftLeft]
  show (x.toBitVec <<< ((nI n &&& 31).toBitVec.smod 32).toNat).getLsbD i = _
  rw [s_l n hn, BitVec.getLsbD_shiftLeft]
  rcases Nat.lt_or_ge i n with h | h
  · simp [h, Nat.not_le.mpr h]
  · simp [hi, h, Nat.not_lt.mpr h]
theorem b_sshr (n : Nat) (hn : n < 32) (x : Int32) {i : Nat} (hi : i < 32) : bt (x >>> (nI n &&& 31)) i = if n + i < 32 then bt x (n + i) else bt x 31 := by
  unfold bt
  rw [Int32.toBitVec_shiftRight]
  show (x.toBitVec.sshiftRight ((nI n &&& 31).toBitVec.smod 32).toNat).getLsbD i = _
  rw [s_l n hn, BitVec.getLsbD_sshiftRight, BitVec.msb_eq_getLsbD_last]
  simp [hi]
theorem b_one : ∀ i, i < 32 → bt 1 i = decide (i = 0) := by decide +kernel
theorem b_1023 : ∀ i, i < 10 → bt 1023 i = true := by decide +kernel
theorem bt_b {x : Int32} {d : Nat} (hd : d < 32) : ul_bt x d ↔ bt x d = true := by
  constructor
  · intro h
    have h2 : bt ((x >>> (nI d &&& 31)) &&& (1 : Int32)) 0 = bt 1 0 := congrArg (fun z => bt z 0) h
    rw [b_and, b_sshr d hd x (by omega), if_pos (by omega), Nat.add_zero, b_one 0 (by omega)] at h2
    simpa using h2
  · intro h
    apply b_ext
    intro i hi
    rw [b_and, b_one i hi]
    by_cases h0 : i = 0
    · subst h0
      rw [b_sshr d hd x (by omega), if_pos (by omega), Nat.add_zero, h, Bool.true_and]
    · rw [decide_eq_false h0, Bool.and_false]
theorem bt_nd {s : Int32} {d : Nat} (hd : d < 10) : ul_bt ((1023 : Int32) &&& (s ^^^ (-1 : Int32))) d ↔ ¬ ul_bt s d := by
  rw [bt_b (by omega), bt_b (by omega), b_and, b_xor, b_m1 d (by omega), b_1023 d hd]
  cases bt s d <;> simp
theorem bt_o1 {s : Int32} {x d : Nat} (hx : x < 10) (hd : d < 10) : ul_bt (s ||| ((1 : Int32) <<< (nI x &&& 31))) d ↔ (ul_bt s d ∨ d = x) := by
  rw [bt_b (by omega), bt_b (by omega), b_or, b_shl x (by omega) 1 (by omega), b_one (d - x) (by omega)]
  by_cases e : d = x
  · subst e
    simp
  · have h0 : (decide (x ≤ d) && decide (d - x = 0)) = false := by
      rw [← Bool.decide_and]
      exact decide_eq_false (by omega)
    rw [h0, Bool.or_false]
    exact ⟨fun h => Or.inl h, fun h => h.elim id (fun q => absurd q e)⟩
theorem bt_ne : ∀ h, h < 10 → ∀ d, d < 10 → (ul_bt ((1023 : Int32) &&& (((1 : Int32) <<< (nI h &&& 31)) ^^^ (-1 : Int32))) d ↔ d ≠ h) := by decide +kernel
theorem bt_1023 : ∀ d, d < 10 → ul_bt 1023 d := by decide +kernel
theorem bt_1022 : ∀ d, d < 10 → (ul_bt 1022 d ↔ 1 ≤ d) := by decide +kernel
theorem bt_15 : ∀ d, d < 10 → (ul_bt 15 d ↔ d ≤ 3) := by decide +kernel
theorem bt_z : ∀ d, d < 10 → ¬ ul_bt 0 d := by decide +kernel
/-! one figure -/
theorem rd_let {n i : Nat} {L : ul_S} {t : Nat → Int32} (hn : n ≤ 48) (hL : L 0 0 = nI n) (ht : ∀ i, i < n → L 1 i = t i) (hi : i < n) : f_X5_letterAt L (nI i) = some (t i) := by
  unfold f_X5_letterAt
  rw [hL, if_neg (nI_pos (by omega)), if_neg (nI_ge hi (by omega))]
  simp (disch := omega) only [ul_ldN]
  rw [ht i hi]
theorem fg_two {n i : Nat} {L : ul_S} {t : Nat → Int32} (hn : n ≤ 48) (hL : L 0 0 = nI n) (ht : ∀ i, i < n → L 1 i = t i) (hi : i ≤ 60) : (∃ d, d < 10 ∧ i < n ∧ f_X5_figureAt L (nI i) = some (nI d) ∧ ∀ (M : ul_S) (a : Int32), M 0 5 = nI n → M 9 = t → M 0 6 = nI i → M 0 7 = -9 → f_X7_figureOf M a = if ul_bt a d then some (nI d, ul_up M 0 6 (nI (i + 1))) else some (0, ul_up M 0 7 (nI i))) ∨ (f_X5_figureAt L (nI i) = some (-9) ∧ ∀ (M : ul_S) (a : Int32), M 0 5 = nI n → M 9 = t → M 0 6 = nI i → M 0 7 = -9 → f_X7_figureOf M a = some (0, ul_up M 0 7 (nI i))) := by
  have n10 : ¬ (1 : Int32) = 0 := by decide
  by_cases hin : i < n
  · have hlet := rd_let hn hL ht hin
    have hmm : ∀ (M : ul_S) (a : Int32), M 0 5 = nI n → M 9 = t → M 0 6 = nI i → M 0 7 = -9 → f_X7_figureOf M a = f_X7_figureOf_j46 a 1 (t i - 48) M := by
      intro M a h5 h9 h6 h7
      unfold f_X7_figureOf
      rw [if_pos h7, h5, h6, if_neg (nI_ge hin (by omega))]
      unfold f_X7_figureOf_j25
      rw [if_neg n10, h6]
      simp (disch := omega) only [ul_ldN]
      rw [h9]
    rcases mi_nm (p := t i - 48) (a := 0) (b := 9) (y := 0) (z := 9) (by decide) (by decide) (by decide) (by decide) with ⟨d, -, hd, ed, ein⟩ | ⟨hr, ein⟩
    · left
      have et : t i = nI (d + 48) := by
        have h1 := Int32.sub_add_cancel (t i) 48
        rw [ed] at h1
        rw [← h1]
        exact nI_add d 48
      refine ⟨d, by omega, hin, ?_, ?_⟩
      · have c1 : ¬ t i < 48 := by rw [et]; exact nI_nlt (a := d + 48) (b := 48) (by omega) (by omega)
        have c2 : ¬ 57 < t i := by rw [et]; exact nI_nlt (a := 57) (b := d + 48) (by omega) (by omega)
        unfold f_X5_figureAt
        rw [hlet, Option.bind_some, if_neg c1, if_neg c2, ed]
      · intro M a h5 h9 h6 h7
        rw [hmm M a h5 h9 h6 h7]
        unfold f_X7_figureOf_j46
        rw [if_neg n10, ein, Option.bind_some, if_neg n10, ed]
        unfold f_X7_has
        by_cases hb : ul_bt a d
        · rw [if_pos hb, if_pos hb, Option.bind_some, if_neg n10, h6]
          simp only [ul_bdE, nI_1]
        · rw [if_neg hb, if_neg hb, Option.bind_some, if_pos rfl]
          unfold f_X7_figureOf_j71 f_X7_figureOf_j92
          rw [if_pos h7, h6]
          rfl
    · right
      have hno : t i < 48 ∨ 57 < t i := by
        by_cases c1 : t i < 48
        · exact Or.inl c1
        · by_cases c2 : 57 < t i
          · exact Or.inr c2
          · exfalso
            rw [fa_lt] at c1 c2
            have e48 : (48 : Int32).toInt = 48 := by decide
            have e57 : (57 : Int32).toInt = 57 := by decide
            obtain ⟨k, hk, ek⟩ : ∃ k : Nat, k ≤ 9 ∧ t i = nI (k + 48) := ⟨((t i).toInt - 48).toNat, by omega, by rw [fa_eq, nI_toInt (by omega)]; omega⟩
            have es : t i - 48 = nI k := by
              have h1 := pk_sub (a := k + 48) (b := 48) (by omega)
              rw [Nat.add_sub_cancel] at h1
              rw [ek]
              exact h1
            rw [es] at hr
            rcases hr with hr | hr
            · exact nI_nlt (a := k) (b := 0) (by omega) (by omega) hr
            · exact nI_nlt (a := 9) (b := k) (by omega) (by omega) hr
      refine ⟨?_, ?_⟩
      · unfold f_X5_figureAt
        rw [hlet, Option.bind_some]
        rcases hno with c | c
        · rw [if_pos c]
        · by_cases c1 : t i < 48
          · rw [if_pos c1]
          · rw [if_neg c1, if_pos c]
      · intro M a h5 h9 h6 h7
        rw [hmm M a h5 h9 h6 h7]
        unfold f_X7_figureOf_j46
        rw [if_neg n10, ein, Option.bind_some, if_pos rfl]
        unfold f_X7_figureOf_j71 f_X7_figureOf_j92
        rw [if_pos h7, h6]
        rfl
  · right
    refine ⟨?_, ?_⟩
    · unfold f_X5_figureAt f_X5_letterAt
      rw [hL, if_neg (nI_pos (by omega)), if_pos (nI_le (by omega) (by omega)), Option.bind_some, if_pos (by decide)]
    · intro M a h5 h9 h6 h7
      unfold f_X7_figureOf
      rw [if_pos h7, h5, h6, if_pos (nI_le (by omega) (by omega))]
      unfold f_X7_figureOf_j24 f_X7_figureOf_j25
      rw [if_pos rfl]
      unfold f_X7_figureOf_j46
      rw [if_pos rfl]
      unfold f_X7_figureOf_j71 f_X7_figureOf_j92
      rw [if_pos h7, h6]
      rfl
theorem mf_no {M : ul_S} (a : Int32) (h7 : ¬ M 0 7 = -9) : f_X7_figureOf M a = some (0, M) := by
  unfold f_X7_figureOf
  rw [if_neg h7]
  unfold f_X7_figureOf_j24 f_X7_figureOf_j25
  rw [if_pos rfl]
  unfold f_X7_figureOf_j46
  rw [if_pos rfl]
  unfold f_X7_figureOf_j71 f_X7_figureOf_j92
  rw [if_neg h7, ul_bdE, ul_up_self]
/-! what reading leaves alone -/
def ul_fr (M M' : ul_S) : Prop := (∀ j, j ≠ 0 → j ≠ 7 → j ≠ 8 → M' j = M j) ∧ ∀ i, i ≠ 2 → i ≠ 3 → i ≠ 4 → i ≠ 6 → i ≠ 7 → M' 0 i = M 0 i
theorem fr_r (M : ul_S) : ul_fr M M := ⟨fun _ _ _ _ => rfl, fun _ _ _ _ _ _ => rfl⟩
theorem fr_t {A B C : ul_S} (h : ul_fr A B) (h2 : ul_fr B C) : ul_fr A C := ⟨fun j a b c => (h2.1 j a b c).trans (h.1 j a b c), fun i a b c d e => (h2.2 i a b c d e).trans (h.2 i a b c d e)⟩
theorem fr_7 {A B : ul_S} {k : Nat} {x : Int32} (h : ul_fr A B) : ul_fr A (ul_up B 7 k x) := fr_t h ⟨fun j _ h7 _ => ul_up_jf h7, fun i _ _ _ _ _ => ul_up_j (by decide)⟩
theorem fr_8 {A B : ul_S} {k : Nat} {x : Int32} (h : ul_fr A B) : ul_fr A (ul_up B 8 k x) := fr_t h ⟨fun j _ _ h8 => ul_up_jf h8, fun i _ _ _ _ _ => ul_up_j (by decide)⟩
theorem fr_0 {A B : ul_S} {k : Nat} {x : Int32} (hk : k = 2 ∨ k = 3 ∨ k = 4 ∨ k = 6 ∨ k = 7) (h : ul_fr A B) : ul_fr A (ul_up B 0 k x) := fr_t h ⟨fun j h0 _ _ => ul_up_jf h0, fun i _ _ _ _ _ => ul_up_i (by omega)⟩
/-! a ladder's part, the reference -/
def rl_3 (a : Nat) (v : Int32) (M : ul_S) : ul_S := ul_up (ul_up (ul_up M 7 (3 * a + 2) v) 0 4 (ul_up M 7 (3 * a + 2) v 0 4 ||| ((1 : Int32) <<< (ul_up M 7 (3 * a + 2) v 7 (3 * a) &&& 31)))) 0 2 (ul_up (ul_up M 7 (3 * a + 2) v) 0 4 (ul_up M 7 (3 * a + 2) v 0 4 ||| ((1 : Int32) <<< (ul_up M 7 (3 * a + 2) v 7 (3 * a) &&& 31))) 0 2 + 1)
def rl_2 (a : Nat) (v : Int32) (M : ul_S) : Option ul_S := (f_X7_figureOf (ul_up M 7 (3 * a + 1) v) 15).bind fun u => some (rl_3 a u.1 u.2)
def rl_1 (a : Nat) (v : Int32) (M : ul_S) : Option ul_S := (f_X7_figureOf (ul_up M 7 (3 * a) v) 1022).bind fun u => rl_2 a u.1 u.2
theorem rl_0 {M : ul_S} {a i : Nat} (ha : a < 4) (h2 : M 0 2 = nI a) (h6 : M 0 6 = nI i) : f_X7_readPart M 76 = (f_X7_figureOf (ul_up M 0 6 (nI (i + 1))) ((1023 : Int32) &&& ((M 0 4) ^^^ (-1 : Int32)))).bind fun u => rl_1 a u.1 u.2 := by
  have h4 : ¬ (4 : Int32) ≤ nI a := nI_ge (a := a) (b := 4) ha (by omega)
  have e0 : ul_up M 0 6 (nI (i + 1)) 0 2 = nI a := by rw [ul_up_i (by decide)]; exact h2
  have e4 : ul_up M 0 6 (nI (i + 1)) 0 4 = M 0 4 := ul_up_i (by decide)
  have e3 : (3 : Int32) * nI a = nI (3 * a) := pk_mul 3 a
  have e31 : nI (3 * a) + 2 = nI (3 * a + 2) := nI_add (3 * a) 2
  unfold f_X7_readPart
  rw [if_pos rfl, h2, if_neg h4]
  simp only [ul_bdE, h6, nI_1, e0, e4]
  simp (disch := omega) only [e3, e31, nI_1, ul_stN, ul_ldN]
  rfl
theorem rl_3F (a : Nat) (v : Int32) (M : ul_S) : rl_3 a v M 0 7 = M 0 7 ∧ ul_fr M (rl_3 a v M) := by
  unfold rl_3
  refine ⟨?_, fr_0 (by omega) (fr_0 (by omega) (fr_7 (fr_r M)))⟩
  rw [ul_up_i (by decide), ul_up_i (by decide), ul_up_j (by decide)]
theorem rl_2F {a : Nat} {v : Int32} {M : ul_S} (h : ¬ M 0 7 = -9) : ∃ M', rl_2 a v M = some M' ∧ M' 0 7 = M 0 7 ∧ ul_fr M M' := by
  have e7 : ul_up M 7 (3 * a + 1) v 0 7 = M 0 7 := ul_up_j (by decide)
  unfold rl_2
  rw [mf_no 15 (by rw [e7]; exact h), Option.bind_some]
  obtain ⟨q1, q2⟩ := rl_3F a 0 (ul_up M 7 (3 * a + 1) v)
  exact ⟨_, rfl, q1.trans e7, fr_t (fr_7 (fr_r M)) q2⟩
theorem rl_1F {a : Nat} {v : Int32} {M : ul_S} (h : ¬ M 0 7 = -9) : ∃ M', rl_1 a v M = some M' ∧ M' 0 7 = M 0 7 ∧ ul_fr M M' := by
  have e7 : ul_up M 7 (3 * a) v 0 7 = M 0 7 := ul_up_j (by decide)
  unfold rl_1
  rw [mf_no 1022 (by rw [e7]; exact h), Option.bind_some]
  obtain ⟨M', q0, q1, q2⟩ := rl_2F (a := a) (v := 0) (M := ul_up M 7 (3 * a) v) (by rw [e7]; exact h)
  exact ⟨M', q0, q1.trans e7, fr_t (fr_7 (fr_r M)) q2⟩
/-! a person's part, the reference -/
def rp_4 (b : Nat) (v : Int32) (M : ul_S) : ul_S := ul_up (ul_up M 8 (4 * b + 3) v) 0 3 (ul_up M 8 (4 * b + 3) v 0 3 + 1)
def rp_3 (b : Nat) (v : Int32) (M : ul_S) : Option ul_S := (f_X7_figureOf (ul_up M 8 (4 * b + 2) v) 15).bind fun u => some (rp_4 b u.1 u.2)
def rp_2 (b : Nat) (v : Int32) (M : ul_S) : Option ul_S := (f_X7_figureOf (ul_up M 8 (4 * b + 1) v) 1023).bind fun u => rp_3 b u.1 u.2
def rp_1 (b : Nat) (v : Int32) (M : ul_S) : Option ul_S := (f_X7_figureOf (ul_up M 8 (4 * b) v) ((1023 : Int32) &&& (((1 : Int32) <<< (ul_up M 8 (4 * b) v 8 (4 * b) &&& 31)) ^^^ (-1 : Int32)))).bind fun u => rp_2 b u.1 u.2
theorem rp_0 {M : ul_S} {b i : Nat} (hb : b < 5) (h3 : M 0 3 = nI b) (h6 : M 0 6 = nI i) : f_X7_readPart M 80 = (f_X7_figureOf (ul_up M 0 6 (nI (i + 1))) (1023 : Int32)).bind fun u => rp_1 b u.1 u.2 := by
  have h5 : ¬ (5 : Int32) ≤ nI b := nI_ge (a := b) (b := 5) hb (by omega)
  have e0 : ul_up M 0 6 (nI (i + 1)) 0 3 = nI b := by rw [ul_up_i (by decide)]; exact h3
  have e3 : (4 : Int32) * nI b = nI (4 * b) := pk_mul 4 b
  have e31 : nI (4 * b) + 2 = nI (4 * b + 2) := nI_add (4 * b) 2
  have e32 : nI (4 * b) + 3 = nI (4 * b + 3) := nI_add (4 * b) 3
  unfold f_X7_readPart
  rw [if_neg (show ¬ (80 : Int32) = 76 by decide)]
  unfold f_X7_readPart_j110
  rw [if_pos rfl, h3, if_neg h5]
  simp only [ul_bdE, h6, nI_1, e0]
  simp (disch := omega) only [e3, e31, e32, nI_1, ul_stN, ul_ldN]
  rfl
theorem rp_4F (b : Nat) (v : Int32) (M : ul_S) : rp_4 b v M 0 7 = M 0 7 ∧ ul_fr M (rp_4 b v M) := by
  unfold rp_4
  refine ⟨?_, fr_0 (by omega) (fr_8 (fr_r M))⟩
  rw [ul_up_i (by decide), ul_up_j (by decide)]
theorem rp_3F {b : Nat} {v : Int32} {M : ul_S} (h : ¬ M 0 7 = -9) : ∃ M', rp_3 b v M = some M' ∧ M' 0 7 = M 0 7 ∧ ul_fr M M' := by
  have e7 : ul_up M 8 (4 * b + 2) v 0 7 = M 0 7 := ul_up_j (by decide)
  unfold rp_3
  rw [mf_no 15 (by rw [e7]; exact h), Option.bind_some]
  obtain ⟨q1, q2⟩ := rp_4F b 0 (ul_up M 8 (4 * b + 2) v)
  exact ⟨_, rfl, q1.trans e7, fr_t (fr_8 (fr_r M)) q2⟩
theorem rp_2F {b : Nat} {v : Int32} {M : ul_S} (h : ¬ M 0 7 = -9) : ∃ M', rp_2 b v M = some M' ∧ M' 0 7 = M 0 7 ∧ ul_fr M M' := by
  have e7 : ul_up M 8 (4 * b + 1) v 0 7 = M 0 7 := ul_up_j (by decide)
  unfold rp_2
  rw [mf_no 1023 (by rw [e7]; exact h), Option.bind_some]
  obtain ⟨M', q0, q1, q2⟩ := rp_3F (b := b) (v := 0) (M := ul_up M 8 (4 * b + 1) v) (by rw [e7]; exact h)
  exact ⟨M', q0, q1.trans e7, fr_t (fr_8 (fr_r M)) q2⟩
theorem rp_1F {b : Nat} {v : Int32} {M : ul_S} (h : ¬ M 0 7 = -9) : ∃ M', rp_1 b v M = some M' ∧ M' 0 7 = M 0 7 ∧ ul_fr M M' := by
  have e7 : ul_up M 8 (4 * b) v 0 7 = M 0 7 := ul_up_j (by decide)
  unfold rp_1
  rw [mf_no _ (by rw [e7]; exact h), Option.bind_some]
  obtain ⟨M', q0, q1, q2⟩ := rp_2F (b := b) (v := 0) (M := ul_up M 8 (4 * b) v) (by rw [e7]; exact h)
  exact ⟨M', q0, q1.trans e7, fr_t (fr_8 (fr_r M)) q2⟩
theorem rp_x {M : ul_S} {x : Int32} {i : Nat} (h1 : ¬ x = 76 ∨ ¬ M 0 2 < 4) (h2 : ¬ x = 80 ∨ ¬ M 0 3 < 5) (h6 : M 0 6 = nI i) : f_X7_readPart M x = some (ul_up M 0 7 (nI i)) := by
  have hn : ∀ (y : Int32) (z : Int32), ¬ y < z → z ≤ y := fun y z h => fa_of_nlt h
  have hj : f_X7_readPart_j110 x M = some (ul_up M 0 7 (nI i)) := by
    unfold f_X7_readPart_j110 f_X7_readPart_j222
    by_cases h80 : x = 80
    · rcases h2 with h2 | h2
      · exact absurd h80 h2
      · rw [if_pos h80, if_pos (hn _ _ h2), h6]
        rfl
    · rw [if_neg h80, h6]
      rfl
  unfold f_X7_readPart
  by_cases h76 : x = 76
  · rcases h1 with h1 | h1
    · exact absurd h76 h1
    · rw [if_pos h76, if_pos (hn _ _ h1), hj]
  · rw [if_neg h76, hj]
