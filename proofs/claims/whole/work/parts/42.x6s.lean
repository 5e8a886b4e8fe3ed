def f_X6_taken_j19 (p0 : Int32) (p1 : Int32) (p2 : Int32) (t0 : Int32) : Option Int32 :=
  if p1 ≤ t0 then (some p1) else (some t0)
def f_X6_taken (p0 : Int32) (p1 : Int32) (p2 : Int32) : Option Int32 :=
  if p0 = (3 : Int32) then (some p2) else (if p0 = (1 : Int32) then (f_X6_taken_j19 p0 p1 p2 (p2 / (2 : Int32))) else (f_X6_taken_j19 p0 p1 p2 p2))
set_option maxHeartbeats 4000000 in
set_option maxRecDepth 100000 in
theorem c_X6_taken (l : Launch) (dC : Nat → ClassId) (dI : Nat → Nat → Nat) (sz : Nat) (p0 : Int32) (p1 : Int32) (p2 : Int32) (r : Int32) (h : f_X6_taken p0 p1 p2 = some r) : Met l yX6_taken wsX6_taken ({ frames := 0, cells := 0, slots := 0, locals := 0 }) (va_Pc [.int p0, .int p1, .int p2] (ul_pre (dC, dI) [] ul_N0 sz [])) (va_Qi (fun v (_ : Unit) => v = r) (fun _ => ul_post (dC, dI) [] (va_A [] sz) []) (va_A [] sz)) 0 0 (va_A [] sz) := by
  refine Met.ofW (cc := cX6_taken) (maxL := 4) (ret := (some .int)) (by decide) rfl ?_
  intro p e s m args below meth c s₁ B hml hv
  obtain ⟨rfl, hsz, hP, hK, hD0, hN⟩ := hv
  have hx := B.exec
  have hb := B.bytes
  have hr := B.returns
  have hts := atoms_spec (ws := wsX6_taken) B.pre
  have hown : s.vm.findClass RX6 = some m.cls := findClass_of_methodNamed B.named
  have hlocks := B.notSynchronized
  subst hsz
  have hD := hD0.self (sz := s.heap.size)
  generalize hAe : va_A [] s.heap.size = A at hD hN ⊢
  have hA : ∀ q : Nat, s.heap.size ≤ q → A q := fun q h => by rw [← hAe]; exact Or.inr h
  have hS : va_S A s.heap s.heap [] := va_S.rf
  have hl := lv_entry ([.int p0, .int p1, .int p2]) (n := 4) (Nat.le_of_ble_eq_true rfl)
  rw [lg_entry_eq]
  generalize (lg_sl ([.int p0, .int p1, .int p2]) ++ List.replicate (4 - (lg_sl ([.int p0, .int p1, .int p2])).length) Slot.unset).toArray = ls at hl ⊢
  have hl : lv_has ls 4 [(0, .int p0), (1, .int p1), (2, .int p2)] := hl
  obtain ⟨K0, hK0, h⟩ := ul_top h
  unfold f_X6_taken at h
  refine ul_gen (fun G gi ge => ?_)
  obtain ⟨H, eH⟩ : ∃ z, z = s.heap := ⟨_, rfl⟩
  obtain ⟨locs, eL⟩ : ∃ z : List Loc, z = [] := ⟨_, rfl⟩
  have hP : va_P (dC, dI) classes [] H := by rw [eH]; exact hP
  have hS : va_S A s.heap H locs := by rw [eH, eL]; exact hS
  rw [← eL]
  refine (show G H locs (F0 m 0 ls []) → G s.heap locs (F0 m 0 ls []) from fun z => by rw [← eH]; exact z) ?_
  have J19 : ∀ (t0 : Int32) (H : Heap) (locs : List Loc), ul_H (dC, dI) A s.heap [] H locs → ∀ ls : Array Slot, lv_has ls 4 [(0, .int p0), (1, .int p1), (2, .int p2)] → (f_X6_taken_j19 p0 p1 p2 t0).bind K0 = some r → G H locs (F0 m 19 ls [.int t0]) := by
    intro t0 H locs hw ls hl h
    obtain ⟨hP, hD, hS⟩ := hw
    unfold f_X6_taken_j19 at h
    refine gi _ _ _ ?_
    refine lv_istore_n (lv' := [(3, .int t0), (0, .int p0), (1, .int p1), (2, .int p2)]) hx hb dX6_taken_19 rfl hl (by decide) rfl (fun ls hl => ?_)
    refine lv_iload_n hx hb dX6_taken_20 rfl (lv_at hl 0 rfl) ?_
    refine lv_iload_n hx hb dX6_taken_21 rfl (lv_at hl 2 rfl) ?_
    refine lv_icmp_ge (tgt := 29) hx hb dX6_taken_22 (by decide) (fun hc2 => ?_) (fun hc2 => ?_)
    · have h := ul_if_t hc2 h
      refine lv_iload_n hx hb dX6_taken_29 rfl (lv_at hl 2 rfl) ?_
      have hr9 := hK0 p1 h
      subst hr9
      exact W.iret (v := p1) hx hb hr (fun t ht hW => ⟨⟨p1, (), rfl, rfl, by rw [ht]; exact hP, va_K.moved hW.alike hK, hD⟩, hS.F ht⟩) hS.2.2 dX6_taken_30
    · have h := ul_if_f hc2 h
      refine lv_iload_n hx hb dX6_taken_25 rfl (lv_at hl 0 rfl) ?_
      refine lv_goto (tgt := 30) hx hb dX6_taken_26 (by decide) ?_
      have hr9 := hK0 t0 h
      subst hr9
      exact W.iret (v := t0) hx hb hr (fun t ht hW => ⟨⟨t0, (), rfl, rfl, by rw [ht]; exact hP, va_K.moved hW.alike hK, hD⟩, hS.F ht⟩) hS.2.2 dX6_taken_30
  refine gi _ _ _ ?_
  refine lv_iload_n hx hb dX6_taken_0 rfl (lv_at hl 0 rfl) ?_
  refine lv_iconst (v := 3) hx hb dX6_taken_1 (by decide) ?_
  refine lv_icmp_ne (tgt := 7) hx hb dX6_taken_2 (by decide) (fun hc3 => ?_) (fun hc3 => ?_)
  · have h := ul_if_f hc3 h
    refine lv_iload_n hx hb dX6_taken_7 rfl (lv_at hl 0 rfl) ?_
    refine lv_iconst (v := 1) hx hb dX6_taken_8 (by decide) ?_
    refine lv_icmp_ne (tgt := 18) hx hb dX6_taken_9 (by decide) (fun hc4 => ?_) (fun hc4 => ?_)
    · have h := ul_if_f hc4 h
      refine lv_iload_n hx hb dX6_taken_18 rfl (lv_at hl 2 rfl) ?_
      exact ge _ _ _ (J19 p2 H locs ⟨hP, hD, hS⟩ ls (lv_sub hl [0, 1, 2] rfl) h)
    · have h := ul_if_t hc4 h
      refine lv_iload_n hx hb dX6_taken_12 rfl (lv_at hl 2 rfl) ?_
      refine lv_iconst (v := 2) hx hb dX6_taken_13 (by decide) ?_
      refine lv_idiv hx hb dX6_taken_14 (by decide) ?_
      refine lv_goto (tgt := 19) hx hb dX6_taken_15 (by decide) ?_
      exact ge _ _ _ (J19 (p2 / (2 : Int32)) H locs ⟨hP, hD, hS⟩ ls (lv_sub hl [0, 1, 2] rfl) h)
  · have h := ul_if_t hc3 h
    refine lv_iload_n hx hb dX6_taken_5 rfl (lv_at hl 2 rfl) ?_
    have hr9 := hK0 p2 h
    subst hr9
    exact W.iret (v := p2) hx hb hr (fun t ht hW => ⟨⟨p2, (), rfl, rfl, by rw [ht]; exact hP, va_K.moved hW.alike hK, hD⟩, hS.F ht⟩) hS.2.2 dX6_taken_6
def f_X6_lessByMud (p0 : Int32) : Option Int32 :=
  if p0 ≤ 0 then (some (0 : Int32)) else (some (p0 - (1 : Int32)))
set_option maxHeartbeats 4000000 in
set_option maxRecDepth 100000 in
theorem c_X6_lessByMud (l : Launch) (dC : Nat → ClassId) (dI : Nat → Nat → Nat) (sz : Nat) (p0 : Int32) (r : Int32) (h : f_X6_lessByMud p0 = some r) : Met l yX6_lessByMud wsX6_lessByMud ({ frames := 0, cells := 0, slots := 0, locals := 0 }) (va_Pc [.int p0] (ul_pre (dC, dI) [] ul_N0 sz [])) (va_Qi (fun v (_ : Unit) => v = r) (fun _ => ul_post (dC, dI) [] (va_A [] sz) []) (va_A [] sz)) 0 0 (va_A [] sz) := by
  refine Met.ofW (cc := cX6_lessByMud) (maxL := 1) (ret := (some .int)) (by decide) rfl ?_
  intro p e s m args below meth c s₁ B hml hv
  obtain ⟨rfl, hsz, hP, hK, hD0, hN⟩ := hv
  have hx := B.exec
  have hb := B.bytes
  have hr := B.returns
  have hts := atoms_spec (ws := wsX6_lessByMud) B.pre
  have hown : s.vm.findClass RX6 = some m.cls := findClass_of_methodNamed B.named
  have hlocks := B.notSynchronized
  subst hsz
  have hD := hD0.self (sz := s.heap.size)
  generalize hAe : va_A [] s.heap.size = A at hD hN ⊢
  have hA : ∀ q : Nat, s.heap.size ≤ q → A q := fun q h => by rw [← hAe]; exact Or.inr h
  have hS : va_S A s.heap s.heap [] := va_S.rf
  have hl := lv_entry ([.int p0]) (n := 1) (Nat.le_of_ble_eq_true rfl)
  rw [lg_entry_eq]
  generalize (lg_sl ([.int p0]) ++ List.replicate (1 - (lg_sl ([.int p0])).length) Slot.unset).toArray = ls at hl ⊢
  have hl : lv_has ls 1 [(0, .int p0)] := hl
  obtain ⟨K0, hK0, h⟩ := ul_top h
  unfold f_X6_lessByMud at h
  refine ul_gen (fun G gi ge => ?_)
  obtain ⟨H, eH⟩ : ∃ z, z = s.heap := ⟨_, rfl⟩
  obtain ⟨locs, eL⟩ : ∃ z : List Loc, z = [] := ⟨_, rfl⟩
  have hP : va_P (dC, dI) classes [] H := by rw [eH]; exact hP
  have hS : va_S A s.heap H locs := by rw [eH, eL]; exact hS
  rw [← eL]
  refine (show G H locs (F0 m 0 ls []) → G s.heap locs (F0 m 0 ls []) from fun z => by rw [← eH]; exact z) ?_
  refine gi _ _ _ ?_
  refine lv_iload_n hx hb dX6_lessByMud_0 rfl (lv_at hl 0 rfl) ?_
  refine lv_if_le (tgt := 10) hx hb dX6_lessByMud_1 (by decide) (fun hc1 => ?_) (fun hc1 => ?_)
  · have h := ul_if_t hc1 h
    refine lv_iconst (v := 0) hx hb dX6_lessByMud_10 (by decide) ?_
    have hr9 := hK0 (0 : Int32) h
    subst hr9
    exact W.iret (v := (0 : Int32)) hx hb hr (fun t ht hW => ⟨⟨(0 : Int32), (), rfl, rfl, by rw [ht]; exact hP, va_K.moved hW.alike hK, hD⟩, hS.F ht⟩) hS.2.2 dX6_lessByMud_11
  · have h := ul_if_f hc1 h
    refine lv_iload_n hx hb dX6_lessByMud_4 rfl (lv_at hl 0 rfl) ?_
    refine lv_iconst (v := 1) hx hb dX6_lessByMud_5 (by decide) ?_
    refine lv_isub hx hb dX6_lessByMud_6 ?_
    refine lv_goto (tgt := 11) hx hb dX6_lessByMud_7 (by decide) ?_
    have hr9 := hK0 (p0 - (1 : Int32)) h
    subst hr9
    exact W.iret (v := (p0 - (1 : Int32))) hx hb hr (fun t ht hW => ⟨⟨(p0 - (1 : Int32)), (), rfl, rfl, by rw [ht]; exact hP, va_K.moved hW.alike hK, hD⟩, hS.F ht⟩) hS.2.2 dX6_lessByMud_11
def f_X6_commonDivisor_j34 (p0 : Int32) (p1 : Int32) (x2 : Int32) (x3 : Int32) (x4 : Int32) : Option Int32 :=
  some x2
def f_X6_commonDivisor_L7 (p0 : Int32) (p1 : Int32) (q7 : (Int32 × Int32 × Int32)) : Option ((Int32 × Int32 × Int32) ⊕ (Int32 × Int32 × Int32)) :=
  if (64 : Int32) ≤ q7.2.2 then (some (.inl (q7.1, q7.2.1, q7.2.2))) else (if q7.2.1 = 0 then (some (.inl (q7.1, q7.2.1, q7.2.2))) else (ul_nz q7.2.1 (ul_bd (q7.1 - q7.1 / q7.2.1 * q7.2.1) fun v4 => ul_bd (q7.2.2 + 1) fun v5 => some (.inr (q7.2.1, v4, v5)))))
def f_X6_commonDivisor (p0 : Int32) (p1 : Int32) : Option Int32 :=
  (ul_it ul_N (f_X6_commonDivisor_L7 p0 p1) (p0, p1, (0 : Int32))).bind (fun e7 => f_X6_commonDivisor_j34 p0 p1 e7.1 e7.2.1 e7.2.2)
set_option maxHeartbeats 4000000 in
set_option maxRecDepth 100000 in
theorem c_X6_commonDivisor (l : Launch) (dC : Nat → ClassId) (dI : Nat → Nat → Nat) (sz : Nat) (p0 : Int32) (p1 : Int32) (r : Int32) (h : f_X6_commonDivisor p0 p1 = some r) : Met l yX6_commonDivisor wsX6_commonDivisor ({ frames := 0, cells := 0, slots := 0, locals := 0 }) (va_Pc [.int p0, .int p1] (ul_pre (dC, dI) [] ul_N0 sz [])) (va_Qi (fun v (_ : Unit) => v = r) (fun _ => ul_post (dC, dI) [] (va_A [] sz) []) (va_A [] sz)) 0 0 (va_A [] sz) := by
  refine Met.ofW (cc := cX6_commonDivisor) (maxL := 6) (ret := (some .int)) (by decide) rfl ?_
  intro p e s m args below meth c s₁ B hml hv
  obtain ⟨rfl, hsz, hP, hK, hD0, hN⟩ := hv
  have hx := B.exec
  have hb := B.bytes
  have hr := B.returns
  have hts := atoms_spec (ws := wsX6_commonDivisor) B.pre
  have hown : s.vm.findClass RX6 = some m.cls := findClass_of_methodNamed B.named
  have hlocks := B.notSynchronized
  subst hsz
  have hD := hD0.self (sz := s.heap.size)
  generalize hAe : va_A [] s.heap.size = A at hD hN ⊢
  have hA : ∀ q : Nat, s.heap.size ≤ q → A q := fun q h => by rw [← hAe]; exact Or.inr h
  have hS : va_S A s.heap s.heap [] := va_S.rf
  have hl := lv_entry ([.int p0, .int p1]) (n := 6) (Nat.le_of_ble_eq_true rfl)
  rw [lg_entry_eq]
  generalize (lg_sl ([.int p0, .int p1]) ++ List.replicate (6 - (lg_sl ([.int p0, .int p1])).length) Slot.unset).toArray = ls at hl ⊢
  have hl : lv_has ls 6 [(0, .int p0), (1, .int p1)] := hl
  obtain ⟨K0, hK0, h⟩ := ul_top h
  unfold f_X6_commonDivisor at h
  refine ul_gen (fun G gi ge => ?_)
  obtain ⟨H, eH⟩ : ∃ z, z = s.heap := ⟨_, rfl⟩
  obtain ⟨locs, eL⟩ : ∃ z : List Loc, z = [] := ⟨_, rfl⟩
  have hP : va_P (dC, dI) classes [] H := by rw [eH]; exact hP
  have hS : va_S A s.heap H locs := by rw [eH, eL]; exact hS
  rw [← eL]
  refine (show G H locs (F0 m 0 ls []) → G s.heap locs (F0 m 0 ls []) from fun z => by rw [← eH]; exact z) ?_
  have J34 : ∀ (x2 : Int32) (x3 : Int32) (x4 : Int32) (H : Heap) (locs : List Loc), ul_H (dC, dI) A s.heap [] H locs → ∀ ls : Array Slot, lv_has ls 6 [(0, .int p0), (1, .int p1), (2, .int x2), (3, .int x3), (4, .int x4)] → (f_X6_commonDivisor_j34 p0 p1 x2 x3 x4).bind K0 = some r → G H locs (F0 m 34 ls []) := by
    intro x2 x3 x4 H locs hw ls hl h
    obtain ⟨hP, hD, hS⟩ := hw
    unfold f_X6_commonDivisor_j34 at h
    refine gi _ _ _ ?_
    refine lv_iload_n hx hb dX6_commonDivisor_34 rfl (lv_at hl 2 rfl) ?_
    have hr9 := hK0 x2 h
    subst hr9
    exact W.iret (v := x2) hx hb hr (fun t ht hW => ⟨⟨x2, (), rfl, rfl, by rw [ht]; exact hP, va_K.moved hW.alike hK, hD⟩, hS.F ht⟩) hS.2.2 dX6_commonDivisor_35
  refine gi _ _ _ ?_
  refine lv_iload_n hx hb dX6_commonDivisor_0 rfl (lv_at hl 0 rfl) ?_
  refine lv_istore_n (lv' := [(2, .int p0), (0, .int p0), (1, .int p1)]) hx hb dX6_commonDivisor_1 rfl hl (by decide) rfl (fun ls hl => ?_)
  refine lv_iload_n hx hb dX6_commonDivisor_2 rfl (lv_at hl 2 rfl) ?_
  refine lv_istore_n (lv' := [(3, .int p1), (2, .int p0), (0, .int p0), (1, .int p1)]) hx hb dX6_commonDivisor_3 rfl hl (by decide) rfl (fun ls hl => ?_)
  refine lv_iconst (v := 0) hx hb dX6_commonDivisor_4 (by decide) ?_
  refine lv_istore (lv' := [(4, .int (0 : Int32)), (3, .int p1), (2, .int p0), (0, .int p0), (1, .int p1)]) hx hb dX6_commonDivisor_5 hl (by decide) rfl (fun ls hl => ?_)
  refine ge _ _ _ (ul_loop (P := fun q7 => ∀ (H : Heap) (locs : List Loc), ul_H (dC, dI) A s.heap [] H locs → ∀ ls : Array Slot, lv_has ls 6 [(0, .int p0), (1, .int p1), (2, .int q7.1), (3, .int q7.2.1), (4, .int q7.2.2)] → G H locs (F0 m 7 ls [])) ?_ _ _ (ul_it_h h) H locs ⟨hP, hD, hS⟩ ls (lv_sub hl [3, 4, 2, 1, 0] rfl))
  intro K7 hx7
  intro q7 ih7 h H locs hw ls hl
  obtain ⟨hP, hD, hS⟩ := hw
  unfold f_X6_commonDivisor_L7 at h
  refine gi _ _ _ ?_
  refine lv_iload hx hb dX6_commonDivisor_7 (lv_at hl 4 rfl) ?_
  refine lv_bipush (v := 64) hx hb dX6_commonDivisor_9 (by decide) ?_
  refine lv_icmp_ge (tgt := 34) hx hb dX6_commonDivisor_11 (by decide) (fun hc6 => ?_) (fun hc6 => ?_)
  · have h := ul_if_t hc6 h
    exact ge _ _ _ (J34 q7.1 q7.2.1 q7.2.2 H locs ⟨hP, hD, hS⟩ ls (lv_sub hl [0, 1, 2, 3, 4] rfl) (hx7 (q7.1, q7.2.1, q7.2.2) h))
  · have h := ul_if_f hc6 h
    refine lv_iload_n hx hb dX6_commonDivisor_14 rfl (lv_at hl 3 rfl) ?_
    refine lv_if_eq (tgt := 34) hx hb dX6_commonDivisor_15 (by decide) (fun hc7 => ?_) (fun hc7 => ?_)
    · have h := ul_if_t hc7 h
      exact ge _ _ _ (J34 q7.1 q7.2.1 q7.2.2 H locs ⟨hP, hD, hS⟩ ls (lv_sub hl [0, 1, 2, 3, 4] rfl) (hx7 (q7.1, q7.2.1, q7.2.2) h))
    · have h := ul_if_f hc7 h
      refine lv_iload_n hx hb dX6_commonDivisor_18 rfl (lv_at hl 2 rfl) ?_
      refine lv_iload_n hx hb dX6_commonDivisor_19 rfl (lv_at hl 3 rfl) ?_
      obtain ⟨hz8, h⟩ := ul_nz_h h
      refine lv_irem hx hb dX6_commonDivisor_20 hz8 ?_
      refine lv_topi (fun v9 ev9 => ?_)
      have h := ul_bd_h h v9 ev9
      refine lv_istore (lv' := [(5, .int v9), (0, .int p0), (1, .int p1), (2, .int q7.1), (3, .int q7.2.1), (4, .int q7.2.2)]) hx hb dX6_commonDivisor_21 hl (by decide) rfl (fun ls hl => ?_)
      refine lv_iload_n hx hb dX6_commonDivisor_23 rfl (lv_at hl 4 rfl) ?_
      refine lv_istore_n (lv' := [(2, .int q7.2.1), (5, .int v9), (0, .int p0), (1, .int p1), (3, .int q7.2.1), (4, .int q7.2.2)]) hx hb dX6_commonDivisor_24 rfl hl (by decide) rfl (fun ls hl => ?_)
      refine lv_iload hx hb dX6_commonDivisor_25 (lv_at hl 1 rfl) ?_
      refine lv_istore_n (lv' := [(3, .int v9), (2, .int q7.2.1), (5, .int v9), (0, .int p0), (1, .int p1), (4, .int q7.2.2)]) hx hb dX6_commonDivisor_27 rfl hl (by decide) rfl (fun ls hl => ?_)
      obtain ⟨v10, ev10⟩ : ∃ z : Int32, z = q7.2.2 + 1 := ⟨_, rfl⟩
      have h := ul_bd_h h v10 ev10
      refine lv_iinc (v := v10) (lv' := [(4, .int v10), (3, .int v9), (2, .int q7.2.1), (5, .int v9), (0, .int p0), (1, .int p1)]) hx hb dX6_commonDivisor_28 hl (k := 5) rfl (by rw [ev10]; rfl) (by decide) rfl (fun ls hl => ?_)
      refine lv_goto (tgt := 7) hx hb dX6_commonDivisor_31 (by decide) ?_
      exact ge _ _ _ (ih7 (q7.2.1, v9, v10) h H locs ⟨hP, hD, hS⟩ ls (lv_sub hl [4, 5, 2, 1, 0] rfl))
def f_X6_inLeastTerms_j10 (p0 : Int32) (p1 : Int32) (p2 : Int32) (t0 : Int32) : Option Int32 :=
  (f_X6_commonDivisor t0 p1).bind fun u1 => if (1 : Int32) ≤ u1 then (if p2 = 0 then (ul_nz u1 (some (p1 / u1))) else (ul_nz u1 (some (p0 / u1)))) else (if p2 = 0 then (some p1) else (some p0))
def f_X6_inLeastTerms (p0 : Int32) (p1 : Int32) (p2 : Int32) : Option Int32 :=
  if 0 ≤ p0 then (f_X6_inLeastTerms_j10 p0 p1 p2 p0) else (f_X6_inLeastTerms_j10 p0 p1 p2 (-p0))
set_option maxHeartbeats 4000000 in
set_option maxRecDepth 100000 in
theorem c_X6_inLeastTerms (l : Launch) (dC : Nat → ClassId) (dI : Nat → Nat → Nat) (sz : Nat) (p0 : Int32) (p1 : Int32) (p2 : Int32) (r : Int32) (h : f_X6_inLeastTerms p0 p1 p2 = some r) : Met l yX6_inLeastTerms wsX6_inLeastTerms ({ frames := 1, cells := 0, slots := 0, locals := 25 }) (va_Pc [.int p0, .int p1, .int p2] (ul_pre (dC, dI) [] ul_N0 sz [])) (va_Qi (fun v (_ : Unit) => v = r) (fun _ => ul_post (dC, dI) [] (va_A [] sz) []) (va_A [] sz)) 0 0 (va_A [] sz) := by
  refine Met.ofW (cc := cX6_inLeastTerms) (maxL := 4) (ret := (some .int)) (by decide) rfl ?_
  intro p e s m args below meth c s₁ B hml hv
  obtain ⟨rfl, hsz, hP, hK, hD0, hN⟩ := hv
  have hx := B.exec
  have hb := B.bytes
  have hr := B.returns
  have hts := atoms_spec (ws := wsX6_inLeastTerms) B.pre
  have hown : s.vm.findClass RX6 = some m.cls := findClass_of_methodNamed B.named
  have hlocks := B.notSynchronized
  subst hsz
  have hD := hD0.self (sz := s.heap.size)
  generalize hAe : va_A [] s.heap.size = A at hD hN ⊢
  have hA : ∀ q : Nat, s.heap.size ≤ q → A q := fun q h => by rw [← hAe]; exact Or.inr h
  have hS : va_S A s.heap s.heap [] := va_S.rf
  have hl := lv_entry ([.int p0, .int p1, .int p2]) (n := 4) (Nat.le_of_ble_eq_true rfl)
  rw [lg_entry_eq]
  generalize (lg_sl ([.int p0, .int p1, .int p2]) ++ List.replicate (4 - (lg_sl ([.int p0, .int p1, .int p2])).length) Slot.unset).toArray = ls at hl ⊢
  have hl : lv_has ls 4 [(0, .int p0), (1, .int p1), (2, .int p2)] := hl
  obtain ⟨K0, hK0, h⟩ := ul_top h
  unfold f_X6_inLeastTerms at h
  refine ul_gen (fun G gi ge => ?_)
  obtain ⟨H, eH⟩ : ∃ z, z = s.heap := ⟨_, rfl⟩
  obtain ⟨locs, eL⟩ : ∃ z : List Loc, z = [] := ⟨_, rfl⟩
  have hP : va_P (dC, dI) classes [] H := by rw [eH]; exact hP
  have hS : va_S A s.heap H locs := by rw [eH, eL]; exact hS
  rw [← eL]
  refine (show G H locs (F0 m 0 ls []) → G s.heap locs (F0 m 0 ls []) from fun z => by rw [← eH]; exact z) ?_
  have J10 : ∀ (t0 : Int32) (H : Heap) (locs : List Loc), ul_H (dC, dI) A s.heap [] H locs → ∀ ls : Array Slot, lv_has ls 4 [(0, .int p0), (1, .int p1), (2, .int p2)] → (f_X6_inLeastTerms_j10 p0 p1 p2 t0).bind K0 = some r → G H locs (F0 m 10 ls [.int t0]) := by
    intro t0 H locs hw ls hl h
    obtain ⟨hP, hD, hS⟩ := hw
    unfold f_X6_inLeastTerms_j10 at h
    refine gi _ _ _ ?_
    refine lv_iload_n hx hb dX6_inLeastTerms_10 rfl (lv_at hl 1 rfl) ?_
    obtain ⟨u7, hu7, h⟩ := ul_cl_h h
    refine ul_cSi (As := [.int t0, .int p1]) (rest := []) hP hD hS hK hA (c_X6_commonDivisor l dC dI H.size t0 p1 u7 hu7) ⟨hx, hb, hml, hown, hts⟩ (cwS 2 hts gX6_inLeastTerms_X6_commonDivisor rfl rfl rfl (by decide +kernel) ⟨Nat.le_of_ble_eq_true rfl, Nat.le_of_ble_eq_true rfl⟩) rfl hl.1 rfl (Nat.le_of_ble_eq_true rfl) dX6_inLeastTerms_11 (fun H locs hw => ?_)
    obtain ⟨hP, hD, hS⟩ := hw
    refine lv_istore_n (lv' := [(3, .int u7), (0, .int p0), (1, .int p1), (2, .int p2)]) hx hb dX6_inLeastTerms_14 rfl hl (by decide) rfl (fun ls hl => ?_)
    refine lv_iload_n hx hb dX6_inLeastTerms_15 rfl (lv_at hl 0 rfl) ?_
    refine lv_iconst (v := 1) hx hb dX6_inLeastTerms_16 (by decide) ?_
    refine lv_icmp_ge (tgt := 30) hx hb dX6_inLeastTerms_17 (by decide) (fun hc8 => ?_) (fun hc8 => ?_)
    · have h := ul_if_t hc8 h
      refine lv_iload_n hx hb dX6_inLeastTerms_30 rfl (lv_at hl 3 rfl) ?_
      refine lv_if_eq (tgt := 40) hx hb dX6_inLeastTerms_31 (by decide) (fun hc9 => ?_) (fun hc9 => ?_)
      · have h := ul_if_t hc9 h
        refine lv_iload_n hx hb dX6_inLeastTerms_40 rfl (lv_at hl 2 rfl) ?_
        refine lv_iload_n hx hb dX6_inLeastTerms_41 rfl (lv_at hl 0 rfl) ?_
        obtain ⟨hz10, h⟩ := ul_nz_h h
        refine lv_idiv hx hb dX6_inLeastTerms_42 hz10 ?_
        have hr9 := hK0 (p1 / u7) h
        subst hr9
        exact W.iret (v := (p1 / u7)) hx hb hr (fun t ht hW => ⟨⟨(p1 / u7), (), rfl, rfl, by rw [ht]; exact hP, va_K.moved hW.alike hK, hD⟩, hS.F ht⟩) hS.2.2 dX6_inLeastTerms_43
      · have h := ul_if_f hc9 h
        refine lv_iload_n hx hb dX6_inLeastTerms_34 rfl (lv_at hl 1 rfl) ?_
        refine lv_iload_n hx hb dX6_inLeastTerms_35 rfl (lv_at hl 0 rfl) ?_
        obtain ⟨hz11, h⟩ := ul_nz_h h
        refine lv_idiv hx hb dX6_inLeastTerms_36 hz11 ?_
        refine lv_goto (tgt := 43) hx hb dX6_inLeastTerms_37 (by decide) ?_
        have hr9 := hK0 (p0 / u7) h
        subst hr9
        exact W.iret (v := (p0 / u7)) hx hb hr (fun t ht hW => ⟨⟨(p0 / u7), (), rfl, rfl, by rw [ht]; exact hP, va_K.moved hW.alike hK, hD⟩, hS.F ht⟩) hS.2.2 dX6_inLeastTerms_43
    · have h := ul_if_f hc8 h
      refine lv_iload_n hx hb dX6_inLeastTerms_20 rfl (lv_at hl 3 rfl) ?_
      refine lv_if_eq (tgt := 28) hx hb dX6_inLeastTerms_21 (by decide) (fun hc12 => ?_) (fun hc12 => ?_)
      · have h := ul_if_t hc12 h
        refine lv_iload_n hx hb dX6_inLeastTerms_28 rfl (lv_at hl 2 rfl) ?_
        have hr9 := hK0 p1 h
        subst hr9
        exact W.iret (v := p1) hx hb hr (fun t ht hW => ⟨⟨p1, (), rfl, rfl, by rw [ht]; exact hP, va_K.moved hW.alike hK, hD⟩, hS.F ht⟩) hS.2.2 dX6_inLeastTerms_29
      · have h := ul_if_f hc12 h
        refine lv_iload_n hx hb dX6_inLeastTerms_24 rfl (lv_at hl 1 rfl) ?_
        refine lv_goto (tgt := 29) hx hb dX6_inLeastTerms_25 (by decide) ?_
        have hr9 := hK0 p0 h
        subst hr9
        exact W.iret (v := p0) hx hb hr (fun t ht hW => ⟨⟨p0, (), rfl, rfl, by rw [ht]; exact hP, va_K.moved hW.alike hK, hD⟩, hS.F ht⟩) hS.2.2 dX6_inLeastTerms_29
  refine gi _ _ _ ?_
  refine lv_iload_n hx hb dX6_inLeastTerms_0 rfl (lv_at hl 0 rfl) ?_
  refine lv_if_ge (tgt := 9) hx hb dX6_inLeastTerms_1 (by decide) (fun hc13 => ?_) (fun hc13 => ?_)
  · have h := ul_if_t hc13 h
    refine lv_iload_n hx hb dX6_inLeastTerms_9 rfl (lv_at hl 0 rfl) ?_
    exact ge _ _ _ (J10 p0 H locs ⟨hP, hD, hS⟩ ls (lv_sub hl [0, 1, 2] rfl) h)
  · have h := ul_if_f hc13 h
    refine lv_iload_n hx hb dX6_inLeastTerms_4 rfl (lv_at hl 0 rfl) ?_
    refine lv_ineg hx hb dX6_inLeastTerms_5 ?_
    refine lv_goto (tgt := 10) hx hb dX6_inLeastTerms_6 (by decide) ?_
    exact ge _ _ _ (J10 (-p0) H locs ⟨hP, hD, hS⟩ ls (lv_sub hl [0, 1, 2] rfl) h)
def f_X6_isPlace (p0 : Int32) : Option Int32 :=
  if p0 < 0 then (some (0 : Int32)) else (if (10 : Int32) ≤ p0 then (some (0 : Int32)) else (some (1 : Int32)))
set_option maxHeartbeats 4000000 in
set_option maxRecDepth 100000 in
theorem c_X6_isPlace (l : Launch) (dC : Nat → ClassId) (dI : Nat → Nat → Nat) (sz : Nat) (p0 : Int32) (r : Int32) (h : f_X6_isPlace p0 = some r) : Met l yX6_isPlace wsX6_isPlace ({ frames := 0, cells := 0, slots := 0, locals := 0 }) (va_Pc [.int p0] (ul_pre (dC, dI) [] ul_N0 sz [])) (va_Qi (fun v (_ : Unit) => v = r) (fun _ => ul_post (dC, dI) [] (va_A [] sz) []) (va_A [] sz)) 0 0 (va_A [] sz) := by
  refine Met.ofW (cc := cX6_isPlace) (maxL := 1) (ret := (some .boolean)) (by decide) rfl ?_
  intro p e s m args below meth c s₁ B hml hv
  obtain ⟨rfl, hsz, hP, hK, hD0, hN⟩ := hv
  have hx := B.exec
  have hb := B.bytes
  have hr := B.returns
  have hts := atoms_spec (ws := wsX6_isPlace) B.pre
  have hown : s.vm.findClass RX6 = some m.cls := findClass_of_methodNamed B.named
  have hlocks := B.notSynchronized
  subst hsz
  have hD := hD0.self (sz := s.heap.size)
  generalize hAe : va_A [] s.heap.size = A at hD hN ⊢
  have hA : ∀ q : Nat, s.heap.size ≤ q → A q := fun q h => by rw [← hAe]; exact Or.inr h
  have hS : va_S A s.heap s.heap [] := va_S.rf
  have hl := lv_entry ([.int p0]) (n := 1) (Nat.le_of_ble_eq_true rfl)
  rw [lg_entry_eq]
  generalize (lg_sl ([.int p0]) ++ List.replicate (1 - (lg_sl ([.int p0])).length) Slot.unset).toArray = ls at hl ⊢
  have hl : lv_has ls 1 [(0, .int p0)] := hl
  obtain ⟨K0, hK0, h⟩ := ul_top h
  unfold f_X6_isPlace at h
  refine ul_gen (fun G gi ge => ?_)
  obtain ⟨H, eH⟩ : ∃ z, z = s.heap := ⟨_, rfl⟩
  obtain ⟨locs, eL⟩ : ∃ z : List Loc, z = [] := ⟨_, rfl⟩
  have hP : va_P (dC, dI) classes [] H := by rw [eH]; exact hP
  have hS : va_S A s.heap H locs := by rw [eH, eL]; exact hS
  rw [← eL]
  refine (show G H locs (F0 m 0 ls []) → G s.heap locs (F0 m 0 ls []) from fun z => by rw [← eH]; exact z) ?_
  refine gi _ _ _ ?_
  refine lv_iload_n hx hb dX6_isPlace_0 rfl (lv_at hl 0 rfl) ?_
  refine lv_if_lt (tgt := 14) hx hb dX6_isPlace_1 (by decide) (fun hc1 => ?_) (fun hc1 => ?_)
  · have h := ul_if_t hc1 h
    refine lv_iconst (v := 0) hx hb dX6_isPlace_14 (by decide) ?_
    have hr9 := hK0 (0 : Int32) h
    subst hr9
    exact W.zret (v := (0 : Int32)) hx hb hr (by decide) (fun t ht hW => ⟨⟨(0 : Int32), (), rfl, rfl, by rw [ht]; exact hP, va_K.moved hW.alike hK, hD⟩, hS.F ht⟩) hS.2.2 dX6_isPlace_15
  · have h := ul_if_f hc1 h
    refine lv_iload_n hx hb dX6_isPlace_4 rfl (lv_at hl 0 rfl) ?_
    refine lv_bipush (v := 10) hx hb dX6_isPlace_5 (by decide) ?_
    refine lv_icmp_ge (tgt := 14) hx hb dX6_isPlace_7 (by decide) (fun hc2 => ?_) (fun hc2 => ?_)
    · have h := ul_if_t hc2 h
      refine lv_iconst (v := 0) hx hb dX6_isPlace_14 (by decide) ?_
      have hr9 := hK0 (0 : Int32) h
      subst hr9
      exact W.zret (v := (0 : Int32)) hx hb hr (by decide) (fun t ht hW => ⟨⟨(0 : Int32), (), rfl, rfl, by rw [ht]; exact hP, va_K.moved hW.alike hK, hD⟩, hS.F ht⟩) hS.2.2 dX6_isPlace_15
    · have h := ul_if_f hc2 h
      refine lv_iconst (v := 1) hx hb dX6_isPlace_10 (by decide) ?_
      refine lv_goto (tgt := 15) hx hb dX6_isPlace_11 (by decide) ?_
      have hr9 := hK0 (1 : Int32) h
      subst hr9
      exact W.zret (v := (1 : Int32)) hx hb hr (by decide) (fun t ht hW => ⟨⟨(1 : Int32), (), rfl, rfl, by rw [ht]; exact hP, va_K.moved hW.alike hK, hD⟩, hS.F ht⟩) hS.2.2 dX6_isPlace_15
def f_X6_isSlot (p0 : Int32) : Option Int32 :=
  if p0 < 0 then (some (0 : Int32)) else (if (2 : Int32) ≤ p0 then (some (0 : Int32)) else (some (1 : Int32)))
set_option maxHeartbeats 4000000 in
set_option maxRecDepth 100000 in
theorem c_X6_isSlot (l : Launch) (dC : Nat → ClassId) (dI : Nat → Nat → Nat) (sz : Nat) (p0 : Int32) (r : Int32) (h : f_X6_isSlot p0 = some r) : Met l yX6_isSlot wsX6_isSlot ({ frames := 0, cells := 0, slots := 0, locals := 0 }) (va_Pc [.int p0] (ul_pre (dC, dI) [] ul_N0 sz [])) (va_Qi (fun v (_ : Unit) => v = r) (fun _ => ul_post (dC, dI) [] (va_A [] sz) []) (va_A [] sz)) 0 0 (va_A [] sz) := by
  refine Met.ofW (cc := cX6_isSlot) (maxL := 1) (ret := (some .boolean)) (by decide) rfl ?_
  intro p e s m args below meth c s₁ B hml hv
  obtain ⟨rfl, hsz, hP, hK, hD0, hN⟩ := hv
  have hx := B.exec
  have hb := B.bytes
  have hr := B.returns
  have hts := atoms_spec (ws := wsX6_isSlot) B.pre
  have hown : s.vm.findClass RX6 = some m.cls := findClass_of_methodNamed B.named
  have hlocks := B.notSynchronized
  subst hsz
  have hD := hD0.self (sz := s.heap.size)
  generalize hAe : va_A [] s.heap.size = A at hD hN ⊢
  have hA : ∀ q : Nat, s.heap.size ≤ q → A q := fun q h => by rw [← hAe]; exact Or.inr h
  have hS : va_S A s.heap s.heap [] := va_S.rf
  have hl := lv_entry ([.int p0]) (n := 1) (Nat.le_of_ble_eq_true rfl)
  rw [lg_entry_eq]
  generalize (lg_sl ([.int p0]) ++ List.replicate (1 - (lg_sl ([.int p0])).length) Slot.unset).toArray = ls at hl ⊢
  have hl : lv_has ls 1 [(0, .int p0)] := hl
  obtain ⟨K0, hK0, h⟩ := ul_top h
  unfold f_X6_isSlot at h
  refine ul_gen (fun G gi ge => ?_)
  obtain ⟨H, eH⟩ : ∃ z, z = s.heap := ⟨_, rfl⟩
  obtain ⟨locs, eL⟩ : ∃ z : List Loc, z = [] := ⟨_, rfl⟩
  have hP : va_P (dC, dI) classes [] H := by rw [eH]; exact hP
  have hS : va_S A s.heap H locs := by rw [eH, eL]; exact hS
  rw [← eL]
  refine (show G H locs (F0 m 0 ls []) → G s.heap locs (F0 m 0 ls []) from fun z => by rw [← eH]; exact z) ?_
  refine gi _ _ _ ?_
  refine lv_iload_n hx hb dX6_isSlot_0 rfl (lv_at hl 0 rfl) ?_
  refine lv_if_lt (tgt := 13) hx hb dX6_isSlot_1 (by decide) (fun hc1 => ?_) (fun hc1 => ?_)
  · have h := ul_if_t hc1 h
    refine lv_iconst (v := 0) hx hb dX6_isSlot_13 (by decide) ?_
    have hr9 := hK0 (0 : Int32) h
    subst hr9
    exact W.zret (v := (0 : Int32)) hx hb hr (by decide) (fun t ht hW => ⟨⟨(0 : Int32), (), rfl, rfl, by rw [ht]; exact hP, va_K.moved hW.alike hK, hD⟩, hS.F ht⟩) hS.2.2 dX6_isSlot_14
  · have h := ul_if_f hc1 h
    refine lv_iload_n hx hb dX6_isSlot_4 rfl (lv_at hl 0 rfl) ?_
    refine lv_iconst (v := 2) hx hb dX6_isSlot_5 (by decide) ?_
    refine lv_icmp_ge (tgt := 13) hx hb dX6_isSlot_6 (by decide) (fun hc2 => ?_) (fun hc2 => ?_)
    · have h := ul_if_t hc2 h
      refine lv_iconst (v := 0) hx hb dX6_isSlot_13 (by decide) ?_
      have hr9 := hK0 (0 : Int32) h
      subst hr9
      exact W.zret (v := (0 : Int32)) hx hb hr (by decide) (fun t ht hW => ⟨⟨(0 : Int32), (), rfl, rfl, by rw [ht]; exact hP, va_K.moved hW.alike hK, hD⟩, hS.F ht⟩) hS.2.2 dX6_isSlot_14
    · have h := ul_if_f hc2 h
      refine lv_iconst (v := 1) hx hb dX6_isSlot_9 (by decide) ?_
      refine lv_goto (tgt := 14) hx hb dX6_isSlot_10 (by decide) ?_
      have hr9 := hK0 (1 : Int32) h
      subst hr9
      exact W.zret (v := (1 : Int32)) hx hb hr (by decide) (fun t ht hW => ⟨⟨(1 : Int32), (), rfl, rfl, by rw [ht]; exact hP, va_K.moved hW.alike hK, hD⟩, hS.F ht⟩) hS.2.2 dX6_isSlot_14
def f_X6_ordersOf_j19 (p0 : Int32) (x1 : Int32) (x2 : Int32) : Option Int32 :=
  some x1
def f_X6_ordersOf_L4 (p0 : Int32) (q4 : (Int32 × Int32)) : Option ((Int32 × Int32) ⊕ (Int32 × Int32)) :=
  if p0 < q4.2 then (some (.inl (q4.1, q4.2))) else (ul_bd (q4.1 * q4.2) fun v2 => ul_bd (q4.2 + 1) fun v3 => some (.inr (v2, v3)))
def f_X6_ordersOf (p0 : Int32) : Option Int32 :=
  (ul_it ul_N (f_X6_ordersOf_L4 p0) ((1 : Int32), (2 : Int32))).bind (fun e4 => f_X6_ordersOf_j19 p0 e4.1 e4.2)
set_option maxHeartbeats 4000000 in
set_option maxRecDepth 100000 in
theorem c_X6_ordersOf (l : Launch) (dC : Nat → ClassId) (dI : Nat → Nat → Nat) (sz : Nat) (p0 : Int32) (r : Int32) (h : f_X6_ordersOf p0 = some r) : Met l yX6_ordersOf wsX6_ordersOf ({ frames := 0, cells := 0, slots := 0, locals := 0 }) (va_Pc [.int p0] (ul_pre (dC, dI) [] ul_N0 sz [])) (va_Qi (fun v (_ : Unit) => v = r) (fun _ => ul_post (dC, dI) [] (va_A [] sz) []) (va_A [] sz)) 0 0 (va_A [] sz) := by
  refine Met.ofW (cc := cX6_ordersOf) (maxL := 3) (ret := (some .int)) (by decide) rfl ?_
  intro p e s m args below meth c s₁ B hml hv
  obtain ⟨rfl, hsz, hP, hK, hD0, hN⟩ := hv
  have hx := B.exec
  have hb := B.bytes
  have hr := B.returns
  have hts := atoms_spec (ws := wsX6_ordersOf) B.pre
  have hown : s.vm.findClass RX6 = some m.cls := findClass_of_methodNamed B.named
  have hlocks := B.notSynchronized
  subst hsz
  have hD := hD0.self (sz := s.heap.size)
  generalize hAe : va_A [] s.heap.size = A at hD hN ⊢
  have hA : ∀ q : Nat, s.heap.size ≤ q → A q := fun q h => by rw [← hAe]; exact Or.inr h
  have hS : va_S A s.heap s.heap [] := va_S.rf
  have hl := lv_entry ([.int p0]) (n := 3) (Nat.le_of_ble_eq_true rfl)
  rw [lg_entry_eq]
  generalize (lg_sl ([.int p0]) ++ List.replicate (3 - (lg_sl ([.int p0])).length) Slot.unset).toArray = ls at hl ⊢
  have hl : lv_has ls 3 [(0, .int p0)] := hl
  obtain ⟨K0, hK0, h⟩ := ul_top h
  unfold f_X6_ordersOf at h
  refine ul_gen (fun G gi ge => ?_)
  obtain ⟨H, eH⟩ : ∃ z, z = s.heap := ⟨_, rfl⟩
  obtain ⟨locs, eL⟩ : ∃ z : List Loc, z = [] := ⟨_, rfl⟩
  have hP : va_P (dC, dI) classes [] H := by rw [eH]; exact hP
  have hS : va_S A s.heap H locs := by rw [eH, eL]; exact hS
  rw [← eL]
  refine (show G H locs (F0 m 0 ls []) → G s.heap locs (F0 m 0 ls []) from fun z => by rw [← eH]; exact z) ?_
  have J19 : ∀ (x1 : Int32) (x2 : Int32) (H : Heap) (locs : List Loc), ul_H (dC, dI) A s.heap [] H locs → ∀ ls : Array Slot, lv_has ls 3 [(0, .int p0), (1, .int x1), (2, .int x2)] → (f_X6_ordersOf_j19 p0 x1 x2).bind K0 = some r → G H locs (F0 m 19 ls []) := by
    intro x1 x2 H locs hw ls hl h
    obtain ⟨hP, hD, hS⟩ := hw
    unfold f_X6_ordersOf_j19 at h
    refine gi _ _ _ ?_
    refine lv_iload_n hx hb dX6_ordersOf_19 rfl (lv_at hl 1 rfl) ?_
    have hr9 := hK0 x1 h
    subst hr9
    exact W.iret (v := x1) hx hb hr (fun t ht hW => ⟨⟨x1, (), rfl, rfl, by rw [ht]; exact hP, va_K.moved hW.alike hK, hD⟩, hS.F ht⟩) hS.2.2 dX6_ordersOf_20
  refine gi _ _ _ ?_
  refine lv_iconst (v := 1) hx hb dX6_ordersOf_0 (by decide) ?_
  refine lv_istore_n (lv' := [(1, .int (1 : Int32)), (0, .int p0)]) hx hb dX6_ordersOf_1 rfl hl (by decide) rfl (fun ls hl => ?_)
  refine lv_iconst (v := 2) hx hb dX6_ordersOf_2 (by decide) ?_
  refine lv_istore_n (lv' := [(2, .int (2 : Int32)), (1, .int (1 : Int32)), (0, .int p0)]) hx hb dX6_ordersOf_3 rfl hl (by decide) rfl (fun ls hl => ?_)
  refine ge _ _ _ (ul_loop (P := fun q4 => ∀ (H : Heap) (locs : List Loc), ul_H (dC, dI) A s.heap [] H locs → ∀ ls : Array Slot, lv_has ls 3 [(0, .int p0), (1, .int q4.1), (2, .int q4.2)] → G H locs (F0 m 4 ls [])) ?_ _ _ (ul_it_h h) H locs ⟨hP, hD, hS⟩ ls (lv_sub hl [2, 1, 0] rfl))
  intro K4 hx4
  intro q4 ih4 h H locs hw ls hl
  obtain ⟨hP, hD, hS⟩ := hw
  unfold f_X6_ordersOf_L4 at h
  refine gi _ _ _ ?_
  refine lv_iload_n hx hb dX6_ordersOf_4 rfl (lv_at hl 2 rfl) ?_
  refine lv_iload_n hx hb dX6_ordersOf_5 rfl (lv_at hl 0 rfl) ?_
  refine lv_icmp_gt (tgt := 19) hx hb dX6_ordersOf_6 (by decide) (fun hc4 => ?_) (fun hc4 => ?_)
  · have h := ul_if_t hc4 h
    exact ge _ _ _ (J19 q4.1 q4.2 H locs ⟨hP, hD, hS⟩ ls (lv_sub hl [0, 1, 2] rfl) (hx4 (q4.1, q4.2) h))
  · have h := ul_if_f hc4 h
    refine lv_iload_n hx hb dX6_ordersOf_9 rfl (lv_at hl 1 rfl) ?_
    refine lv_iload_n hx hb dX6_ordersOf_10 rfl (lv_at hl 2 rfl) ?_
    refine lv_imul hx hb dX6_ordersOf_11 ?_
    refine lv_topi (fun v5 ev5 => ?_)
    have h := ul_bd_h h v5 ev5
    refine lv_istore_n (lv' := [(1, .int v5), (0, .int p0), (2, .int q4.2)]) hx hb dX6_ordersOf_12 rfl hl (by decide) rfl (fun ls hl => ?_)
    obtain ⟨v6, ev6⟩ : ∃ z : Int32, z = q4.2 + 1 := ⟨_, rfl⟩
    have h := ul_bd_h h v6 ev6
    refine lv_iinc (v := v6) (lv' := [(2, .int v6), (1, .int v5), (0, .int p0)]) hx hb dX6_ordersOf_13 hl (k := 2) rfl (by rw [ev6]; rfl) (by decide) rfl (fun ls hl => ?_)
    refine lv_goto (tgt := 4) hx hb dX6_ordersOf_16 (by decide) ?_
    exact ge _ _ _ (ih4 (v5, v6) h H locs ⟨hP, hD, hS⟩ ls (lv_sub hl [2, 1, 0] rfl))
