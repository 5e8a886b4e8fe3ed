/-! tools for the pure programs (behind the kit's plain facts on numbers) -/
theorem ul_bdE {α β : Type} (e : α) (f : α → Option β) : ul_bd e f = f e := rfl
theorem ul_ldN {β : Type} {f : Nat → Int32} {n i : Nat} {k : Int32 → Option β} (h : i < n) (hn : n < 2147483648) : ul_ld f n (nI i) k = k (f i) := by
  unfold ul_ld
  rw [if_neg (nI_in h hn), nI_clamp (by omega)]
theorem ul_stN {β : Type} {M : ul_S} {j n i : Nat} {x : Int32} {k : ul_S → Option β} (h : i < n) (hn : n < 2147483648) : ul_st M j n (nI i) x k = k (ul_up M j i x) := by
  unfold ul_st
  rw [if_neg (nI_in h hn), nI_clamp (by omega)]
theorem ul_ckN {β : Type} {n i : Nat} {k : Nat → Option β} (h : i < n) (hn : n < 2147483648) : ul_ck n (nI i) k = k i := by
  unfold ul_ck
  rw [if_neg (nI_in h hn), nI_clamp (by omega)]
theorem ul_upE (M : ul_S) (j i : Nat) (x : Int32) (j' i' : Nat) : ul_up M j i x j' i' = if j' = j ∧ i' = i then x else M j' i' := by
  unfold ul_up va_up upd
  by_cases h : j' = j
  · subst h
    simp
  · simp [h]
theorem ul_up_s {M : ul_S} {j i : Nat} {x : Int32} : ul_up M j i x j i = x := by rw [ul_upE]; simp
theorem ul_up_j {M : ul_S} {j j' i i' : Nat} {x : Int32} (h : j' ≠ j) : ul_up M j i x j' i' = M j' i' := by rw [ul_upE]; simp [h]
theorem ul_up_i {M : ul_S} {j j' i i' : Nat} {x : Int32} (h : i' ≠ i) : ul_up M j i x j' i' = M j' i' := by rw [ul_upE]; simp [h]
theorem ul_up_jf {M : ul_S} {j j' i : Nat} {x : Int32} (h : j' ≠ j) : ul_up M j i x j' = M j' := by funext i'; exact ul_up_j h
/-- a loop that counts down what is left, with an early end -/
theorem ul_run {σ ρ : Type} {b : σ → Option (ρ ⊕ σ)} (I : Nat → σ → Prop) (Q : ρ → Prop) (h0 : ∀ s, I 0 s → ∃ r, b s = some (.inl r) ∧ Q r) (hs : ∀ i s, I (i + 1) s → (∃ s', b s = some (.inr s') ∧ I i s') ∨ ∃ r, b s = some (.inl r) ∧ Q r) : ∀ n i s, I i s → i < n → ∃ r, ul_it n b s = some r ∧ Q r := by
  intro n
  induction n with
  | zero => intro i s _ h; omega
  | succ n ih =>
    intro i s hI hn
    cases i with
    | zero =>
      obtain ⟨r, hb, hq⟩ := h0 s hI
      exact ⟨r, by unfold ul_it; rw [hb]; rfl, hq⟩
    | succ i =>
      rcases hs i s hI with ⟨s', hb, hI'⟩ | ⟨r, hb, hq⟩
      · obtain ⟨r, hr, hq⟩ := ih i s' hI' (by omega)
        exact ⟨r, by unfold ul_it; rw [hb]; exact hr, hq⟩
      · exact ⟨r, by unfold ul_it; rw [hb]; rfl, hq⟩
/-- two loops side by side -/
theorem ul_run2 {σ ρ τ π : Type} {b : σ → Option (ρ ⊕ σ)} {c : τ → Option (π ⊕ τ)} (I : Nat → σ → τ → Prop) (Q : ρ → π → Prop) (h0 : ∀ s t, I 0 s t → ∃ r r', b s = some (.inl r) ∧ c t = some (.inl r') ∧ Q r r') (hs : ∀ i s t, I (i + 1) s t → (∃ s' t', b s = some (.inr s') ∧ c t = some (.inr t') ∧ I i s' t') ∨ ∃ r r', b s = some (.inl r) ∧ c t = some (.inl r') ∧ Q r r') : ∀ n i s t, I i s t → i < n → ∃ r r', ul_it n b s = some r ∧ ul_it n c t = some r' ∧ Q r r' := by
  intro n
  induction n with
  | zero => intro i s t _ h; omega
  | succ n ih =>
    intro i s t hI hn
    cases i with
    | zero =>
      obtain ⟨r, r', hb, hc, hq⟩ := h0 s t hI
      exact ⟨r, r', by unfold ul_it; rw [hb]; rfl, by unfold ul_it; rw [hc]; rfl, hq⟩
    | succ i =>
      rcases hs i s t hI with ⟨s', t', hb, hc, hI'⟩ | ⟨r, r', hb, hc, hq⟩
      · obtain ⟨r, r', hr, hr', hq⟩ := ih i s' t' hI' (by omega)
        exact ⟨r, r', by unfold ul_it; rw [hb]; exact hr, by unfold ul_it; rw [hc]; exact hr', hq⟩
      · exact ⟨r, r', by unfold ul_it; rw [hb]; rfl, by unfold ul_it; rw [hc]; rfl, hq⟩
theorem ul_N_v : ul_N = 4096 := rfl
/-- the reference's street at a base: 23 places of its row 6 -/
def ul_sg (M : ul_S) (b : Nat) (g : Nat → Int32) : ul_S := fun j i => if j = 6 ∧ b ≤ i ∧ i < b + 23 then g (i - b) else M j i
theorem sg_6 {M : ul_S} {b i : Nat} {g : Nat → Int32} (h : i < 23) : ul_sg M b g 6 (b + i) = g i := by
  unfold ul_sg
  rw [if_pos ⟨rfl, by omega, by omega⟩, Nat.add_sub_cancel_left]
theorem sg_n {M : ul_S} {b j : Nat} {g : Nat → Int32} (h : j ≠ 6) : ul_sg M b g j = M j := by
  funext i
  unfold ul_sg
  rw [if_neg (fun q => h q.1)]
theorem sg_o {M : ul_S} {b i : Nat} {g : Nat → Int32} (h : i < b ∨ b + 23 ≤ i) : ul_sg M b g 6 i = M 6 i := by
  unfold ul_sg
  rw [if_neg (fun q => by omega)]
theorem sg_up {M : ul_S} {b i : Nat} {g : Nat → Int32} {x : Int32} (h : i < 23) : ul_up (ul_sg M b g) 6 (b + i) x = ul_sg M b (upd g i x) := by
  funext j k
  rw [ul_upE]
  unfold ul_sg upd
  by_cases hj : j = 6
  · subst hj
    by_cases hk : k = b + i
    · subst hk
      rw [if_pos ⟨rfl, rfl⟩, if_pos ⟨rfl, by omega, by omega⟩, if_pos (by omega)]
    · rw [if_neg (fun q => hk q.2)]
      by_cases hb : b ≤ k ∧ k < b + 23
      · rw [if_pos ⟨rfl, hb.1, hb.2⟩, if_pos ⟨rfl, hb.1, hb.2⟩, if_neg (by omega)]
      · rw [if_neg (fun q => hb ⟨q.2.1, q.2.2⟩), if_neg (fun q => hb ⟨q.2.1, q.2.2⟩)]
  · rw [if_neg (fun q => hj q.1), if_neg (fun q => hj q.1), if_neg (fun q => hj q.1)]
theorem sg_self (M : ul_S) (b : Nat) : ul_sg M b (fun i => M 6 (b + i)) = M := by
  funext j k
  unfold ul_sg
  by_cases h : j = 6 ∧ b ≤ k ∧ k < b + 23
  · rw [if_pos h]
    show M 6 (b + (k - b)) = M j k
    rw [h.1, show b + (k - b) = k by omega]
  · rw [if_neg h]
theorem sg_sg (M : ul_S) (b : Nat) (g g' : Nat → Int32) : ul_sg (ul_sg M b g) b g' = ul_sg M b g' := by
  funext j k
  unfold ul_sg
  by_cases h : j = 6 ∧ b ≤ k ∧ k < b + 23
  · rw [if_pos h, if_pos h]
  · rw [if_neg h, if_neg h, if_neg h]
theorem ix_c (lv c p : Nat) : nI 23 * nI lv + nI c + nI p = nI (23 * lv + (c + p)) := by rw [pk_mul, nI_add, nI_add, Nat.add_assoc]
theorem ix_0 (lv p : Nat) : nI 23 * nI lv + nI p = nI (23 * lv + p) := by rw [pk_mul, nI_add]
theorem ix_0' (lv p : Nat) : (23 : Int32) * nI lv + nI p = nI (23 * lv + p) := ix_0 lv p
theorem ix_4 (lv p : Nat) : (23 : Int32) * nI lv + 4 + nI p = nI (23 * lv + (4 + p)) := ix_c lv 4 p
theorem ix_8 (lv p : Nat) : (23 : Int32) * nI lv + 8 + nI p = nI (23 * lv + (8 + p)) := ix_c lv 8 p
theorem ix_12 (lv p : Nat) : (23 : Int32) * nI lv + 12 + nI p = nI (23 * lv + (12 + p)) := ix_c lv 12 p
theorem ix_17 (lv p : Nat) : (23 : Int32) * nI lv + 17 + nI p = nI (23 * lv + (17 + p)) := ix_c lv 17 p
theorem ix_22 (lv : Nat) : (23 : Int32) * nI lv + 22 = nI (23 * lv + 22) := ix_0 lv 22
theorem upd_s {f : Nat → Int32} {i : Nat} {x : Int32} : upd f i x i = x := pk_us
theorem upd_n {f : Nat → Int32} {i j : Nat} {x : Int32} (h : j ≠ i) : upd f i x j = f j := pk_un h
/-- an int among 0 to n - 1, or not -/
theorem ul_rg (x : Int32) {n : Nat} (hn : n < 2147483648) : (∃ j : Nat, j < n ∧ x = nI j) ∨ (x < 0 ∨ nI n ≤ x) := by
  rcases pk_ix x (n := n) (by omega) with h | h | h
  · exact Or.inr (Or.inl h)
  · exact Or.inr (Or.inr h)
  · exact Or.inl h
