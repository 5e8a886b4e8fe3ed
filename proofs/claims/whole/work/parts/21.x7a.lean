def f_X7_in (p0 : Int64) (p2 : Int64) (p4 : Int64) : Option Int32 :=
  if (lg_cmp p0 p2) < 0 then (some (0 : Int32)) else (if 0 < (lg_cmp p0 p4) then (some (0 : Int32)) else (some (1 : Int32)))
set_option maxHeartbeats 4000000 in
set_option maxRecDepth 100000 in
theorem c_X7_in (l : Launch) (dC : Nat → ClassId) (dI : Nat → Nat → Nat) (sz : Nat) (p0 : Int64) (p2 : Int64) (p4 : Int64) (r : Int32) (h : f_X7_in p0 p2 p4 = some r) : Met l yX7_in wsX7_in ({ frames := 0, cells := 0, slots := 0, locals := 0 }) (va_Pc [.long p0, .long p2, .long p4] (ul_pre (dC, dI) [] ul_N0 sz [])) (va_Qi (fun v (_ : Unit) => v = r) (fun _ => ul_post (dC, dI) [] (va_A [] sz) []) (va_A [] sz)) 0 0 (va_A [] sz) := by
  refine Met.ofW (cc := cX7_in) (maxL := 6) (ret := (some .boolean)) (by decide) rfl ?_
  intro p e s m args below meth c s₁ B hml hv
  obtain ⟨rfl, hsz, hP, hK, hD0, hN⟩ := hv
  have hx := B.exec
  have hb := B.bytes
  have hr := B.returns
  have hts := atoms_spec (ws := wsX7_in) B.pre
  have hown : s.vm.findClass RX7 = some m.cls := findClass_of_methodNamed B.named
  have hlocks := B.notSynchronized
  subst hsz
  have hD := hD0.self (sz := s.heap.size)
  generalize hAe : va_A [] s.heap.size = A at hD ⊢
  have hA : ∀ q : Nat, s.heap.size ≤ q → A q := fun q h => by rw [← hAe]; exact Or.inr h
  have hS : va_S A s.heap s.heap [] := va_S.rf
  have hl := lv_entry ([.long p0, .long p2, .long p4]) (n := 6) (Nat.le_of_ble_eq_true rfl)
  rw [lg_entry_eq]
  generalize (lg_sl ([.long p0, .long p2, .long p4]) ++ List.replicate (6 - (lg_sl ([.long p0, .long p2, .long p4])).length) Slot.unset).toArray = ls at hl ⊢
  have hl : lv_has ls 6 [(0, .long p0), (2, .long p2), (4, .long p4)] := hl
  obtain ⟨K0, hK0, h⟩ := ul_top h
  unfold f_X7_in at h
  refine ul_gen (fun G gi ge => ?_)
  obtain ⟨H, eH⟩ : ∃ z, z = s.heap := ⟨_, rfl⟩
  obtain ⟨locs, eL⟩ : ∃ z : List Loc, z = [] := ⟨_, rfl⟩
  have hP : va_P (dC, dI) classes [] H := by rw [eH]; exact hP
  have hS : va_S A s.heap H locs := by rw [eH, eL]; exact hS
  rw [← eL]
  refine (show G H locs (F0 m 0 ls []) → G s.heap locs (F0 m 0 ls []) from fun z => by rw [← eH]; exact z) ?_
  refine gi _ _ _ ?_
  refine lv_lload_n hx hb dX7_in_0 rfl (lv_at hl 0 rfl) ?_
  refine lv_lload_n hx hb dX7_in_1 rfl (lv_at hl 1 rfl) ?_
  refine W.lcmp hx hb dX7_in_2 ?_
  refine lv_if_lt (tgt := 17) hx hb dX7_in_3 (by decide) (fun hc1 => ?_) (fun hc1 => ?_)
  · have h := ul_if_t hc1 h
    refine lv_iconst (v := 0) hx hb dX7_in_17 (by decide) ?_
    have hr9 := hK0 (0 : Int32) h
    subst hr9
    exact W.zret (v := (0 : Int32)) hx hb hr (by decide) (fun t ht hW => ⟨⟨(0 : Int32), (), rfl, rfl, by rw [ht]; exact hP, va_K.moved hW.alike hK, hD⟩, hS.F ht⟩) hS.2.2 dX7_in_18
  · have h := ul_if_f hc1 h
    refine lv_lload_n hx hb dX7_in_6 rfl (lv_at hl 0 rfl) ?_
    refine lv_lload hx hb dX7_in_7 (lv_at hl 2 rfl) ?_
    refine W.lcmp hx hb dX7_in_9 ?_
    refine lv_if_gt (tgt := 17) hx hb dX7_in_10 (by decide) (fun hc2 => ?_) (fun hc2 => ?_)
    · have h := ul_if_t hc2 h
      refine lv_iconst (v := 0) hx hb dX7_in_17 (by decide) ?_
      have hr9 := hK0 (0 : Int32) h
      subst hr9
      exact W.zret (v := (0 : Int32)) hx hb hr (by decide) (fun t ht hW => ⟨⟨(0 : Int32), (), rfl, rfl, by rw [ht]; exact hP, va_K.moved hW.alike hK, hD⟩, hS.F ht⟩) hS.2.2 dX7_in_18
    · have h := ul_if_f hc2 h
      refine lv_iconst (v := 1) hx hb dX7_in_13 (by decide) ?_
      refine lv_goto (tgt := 18) hx hb dX7_in_14 (by decide) ?_
      have hr9 := hK0 (1 : Int32) h
      subst hr9
      exact W.zret (v := (1 : Int32)) hx hb hr (by decide) (fun t ht hW => ⟨⟨(1 : Int32), (), rfl, rfl, by rw [ht]; exact hP, va_K.moved hW.alike hK, hD⟩, hS.F ht⟩) hS.2.2 dX7_in_18
def f_X7_has (p0 : Int32) (p1 : Int32) : Option Int32 :=
  if ((p0 >>> (p1 &&& 31)) &&& (1 : Int32)) = (1 : Int32) then (some (1 : Int32)) else (some (0 : Int32))
set_option maxHeartbeats 4000000 in
set_option maxRecDepth 100000 in
theorem c_X7_has (l : Launch) (dC : Nat → ClassId) (dI : Nat → Nat → Nat) (sz : Nat) (p0 : Int32) (p1 : Int32) (r : Int32) (h : f_X7_has p0 p1 = some r) : Met l yX7_has wsX7_has ({ frames := 0, cells := 0, slots := 0, locals := 0 }) (va_Pc [.int p0, .int p1] (ul_pre (dC, dI) [] ul_N0 sz [])) (va_Qi (fun v (_ : Unit) => v = r) (fun _ => ul_post (dC, dI) [] (va_A [] sz) []) (va_A [] sz)) 0 0 (va_A [] sz) := by
  refine Met.ofW (cc := cX7_has) (maxL := 2) (ret := (some .boolean)) (by decide) rfl ?_
  intro p e s m args below meth c s₁ B hml hv
  obtain ⟨rfl, hsz, hP, hK, hD0, hN⟩ := hv
  have hx := B.exec
  have hb := B.bytes
  have hr := B.returns
  have hts := atoms_spec (ws := wsX7_has) B.pre
  have hown : s.vm.findClass RX7 = some m.cls := findClass_of_methodNamed B.named
  have hlocks := B.notSynchronized
  subst hsz
  have hD := hD0.self (sz := s.heap.size)
  generalize hAe : va_A [] s.heap.size = A at hD ⊢
  have hA : ∀ q : Nat, s.heap.size ≤ q → A q := fun q h => by rw [← hAe]; exact Or.inr h
  have hS : va_S A s.heap s.heap [] := va_S.rf
  have hl := lv_entry ([.int p0, .int p1]) (n := 2) (Nat.le_of_ble_eq_true rfl)
  rw [lg_entry_eq]
  generalize (lg_sl ([.int p0, .int p1]) ++ List.replicate (2 - (lg_sl ([.int p0, .int p1])).length) Slot.unset).toArray = ls at hl ⊢
  have hl : lv_has ls 2 [(0, .int p0), (1, .int p1)] := hl
  obtain ⟨K0, hK0, h⟩ := ul_top h
  unfold f_X7_has at h
  refine ul_gen (fun G gi ge => ?_)
  obtain ⟨H, eH⟩ : ∃ z, z = s.heap := ⟨_, rfl⟩
  obtain ⟨locs, eL⟩ : ∃ z : List Loc, z = [] := ⟨_, rfl⟩
  have hP : va_P (dC, dI) classes [] H := by rw [eH]; exact hP
  have hS : va_S A s.heap H locs := by rw [eH, eL]; exact hS
  rw [← eL]
  refine (show G H locs (F0 m 0 ls []) → G s.heap locs (F0 m 0 ls []) from fun z => by rw [← eH]; exact z) ?_
  refine gi _ _ _ ?_
  refine lv_iload_n hx hb dX7_has_0 rfl (lv_at hl 0 rfl) ?_
  refine lv_iload_n hx hb dX7_has_1 rfl (lv_at hl 1 rfl) ?_
  refine lv_ishr hx hb dX7_has_2 ?_
  refine lv_iconst (v := 1) hx hb dX7_has_3 (by decide) ?_
  refine lv_iand hx hb dX7_has_4 ?_
  refine lv_iconst (v := 1) hx hb dX7_has_5 (by decide) ?_
  refine lv_icmp_ne (tgt := 13) hx hb dX7_has_6 (by decide) (fun hc1 => ?_) (fun hc1 => ?_)
  · have h := ul_if_f hc1 h
    refine lv_iconst (v := 0) hx hb dX7_has_13 (by decide) ?_
    have hr9 := hK0 (0 : Int32) h
    subst hr9
    exact W.zret (v := (0 : Int32)) hx hb hr (by decide) (fun t ht hW => ⟨⟨(0 : Int32), (), rfl, rfl, by rw [ht]; exact hP, va_K.moved hW.alike hK, hD⟩, hS.F ht⟩) hS.2.2 dX7_has_14
  · have h := ul_if_t hc1 h
    refine lv_iconst (v := 1) hx hb dX7_has_9 (by decide) ?_
    refine lv_goto (tgt := 14) hx hb dX7_has_10 (by decide) ?_
    have hr9 := hK0 (1 : Int32) h
    subst hr9
    exact W.zret (v := (1 : Int32)) hx hb hr (by decide) (fun t ht hW => ⟨⟨(1 : Int32), (), rfl, rfl, by rw [ht]; exact hP, va_K.moved hW.alike hK, hD⟩, hS.F ht⟩) hS.2.2 dX7_has_14
def f_X7_ones_j23 (p0 : Int32) (x1 : Int32) (x2 : Int32) : Option Int32 :=
  some x1
def f_X7_ones_L4 (p0 : Int32) (q4 : (Int32 × Int32)) : Option ((Int32 × Int32) ⊕ (Int32 × Int32)) :=
  if (5 : Int32) ≤ q4.2 then (some (.inl (q4.1, q4.2))) else (ul_bd (q4.1 + ((p0 >>> (q4.2 &&& 31)) &&& (1 : Int32))) fun v2 => ul_bd (q4.2 + 1) fun v3 => some (.inr (v2, v3)))
def f_X7_ones (p0 : Int32) : Option Int32 :=
  (ul_it ul_N (f_X7_ones_L4 p0) ((0 : Int32), (0 : Int32))).bind (fun e4 => f_X7_ones_j23 p0 e4.1 e4.2)
set_option maxHeartbeats 4000000 in
set_option maxRecDepth 100000 in
theorem c_X7_ones (l : Launch) (dC : Nat → ClassId) (dI : Nat → Nat → Nat) (sz : Nat) (p0 : Int32) (r : Int32) (h : f_X7_ones p0 = some r) : Met l yX7_ones wsX7_ones ({ frames := 0, cells := 0, slots := 0, locals := 0 }) (va_Pc [.int p0] (ul_pre (dC, dI) [] ul_N0 sz [])) (va_Qi (fun v (_ : Unit) => v = r) (fun _ => ul_post (dC, dI) [] (va_A [] sz) []) (va_A [] sz)) 0 0 (va_A [] sz) := by
  refine Met.ofW (cc := cX7_ones) (maxL := 3) (ret := (some .int)) (by decide) rfl ?_
  intro p e s m args below meth c s₁ B hml hv
  obtain ⟨rfl, hsz, hP, hK, hD0, hN⟩ := hv
  have hx := B.exec
  have hb := B.bytes
  have hr := B.returns
  have hts := atoms_spec (ws := wsX7_ones) B.pre
  have hown : s.vm.findClass RX7 = some m.cls := findClass_of_methodNamed B.named
  have hlocks := B.notSynchronized
  subst hsz
  have hD := hD0.self (sz := s.heap.size)
  generalize hAe : va_A [] s.heap.size = A at hD ⊢
  have hA : ∀ q : Nat, s.heap.size ≤ q → A q := fun q h => by rw [← hAe]; exact Or.inr h
  have hS : va_S A s.heap s.heap [] := va_S.rf
  have hl := lv_entry ([.int p0]) (n := 3) (Nat.le_of_ble_eq_true rfl)
  rw [lg_entry_eq]
  generalize (lg_sl ([.int p0]) ++ List.replicate (3 - (lg_sl ([.int p0])).length) Slot.unset).toArray = ls at hl ⊢
  have hl : lv_has ls 3 [(0, .int p0)] := hl
  obtain ⟨K0, hK0, h⟩ := ul_top h
  unfold f_X7_ones at h
  refine ul_gen (fun G gi ge => ?_)
  obtain ⟨H, eH⟩ : ∃ z, z = s.heap := ⟨_, rfl⟩
  obtain ⟨locs, eL⟩ : ∃ z : List Loc, z = [] := ⟨_, rfl⟩
  have hP : va_P (dC, dI) classes [] H := by rw [eH]; exact hP
  have hS : va_S A s.heap H locs := by rw [eH, eL]; exact hS
  rw [← eL]
  refine (show G H locs (F0 m 0 ls []) → G s.heap locs (F0 m 0 ls []) from fun z => by rw [← eH]; exact z) ?_
  have J23 : ∀ (x1 : Int32) (x2 : Int32) (H : Heap) (locs : List Loc), ul_H (dC, dI) A s.heap [] H locs → ∀ ls : Array Slot, lv_has ls 3 [(0, .int p0), (1, .int x1), (2, .int x2)] → (f_X7_ones_j23 p0 x1 x2).bind K0 = some r → G H locs (F0 m 23 ls []) := by
    intro x1 x2 H locs hw ls hl h
    obtain ⟨hP, hD, hS⟩ := hw
    unfold f_X7_ones_j23 at h
    refine gi _ _ _ ?_
    refine lv_iload_n hx hb dX7_ones_23 rfl (lv_at hl 1 rfl) ?_
    have hr9 := hK0 x1 h
    subst hr9
    exact W.iret (v := x1) hx hb hr (fun t ht hW => ⟨⟨x1, (), rfl, rfl, by rw [ht]; exact hP, va_K.moved hW.alike hK, hD⟩, hS.F ht⟩) hS.2.2 dX7_ones_24
  refine gi _ _ _ ?_
  refine lv_iconst (v := 0) hx hb dX7_ones_0 (by decide) ?_
  refine lv_istore_n (lv' := [(1, .int (0 : Int32)), (0, .int p0)]) hx hb dX7_ones_1 rfl hl (by decide) rfl (fun ls hl => ?_)
  refine lv_iconst (v := 0) hx hb dX7_ones_2 (by decide) ?_
  refine lv_istore_n (lv' := [(2, .int (0 : Int32)), (1, .int (0 : Int32)), (0, .int p0)]) hx hb dX7_ones_3 rfl hl (by decide) rfl (fun ls hl => ?_)
  refine ge _ _ _ (ul_loop (P := fun q4 => ∀ (H : Heap) (locs : List Loc), ul_H (dC, dI) A s.heap [] H locs → ∀ ls : Array Slot, lv_has ls 3 [(0, .int p0), (1, .int q4.1), (2, .int q4.2)] → G H locs (F0 m 4 ls [])) ?_ _ _ (ul_it_h h) H locs ⟨hP, hD, hS⟩ ls (lv_sub hl [2, 1, 0] rfl))
  intro K4 hx4
  intro q4 ih4 h H locs hw ls hl
  obtain ⟨hP, hD, hS⟩ := hw
  unfold f_X7_ones_L4 at h
  refine gi _ _ _ ?_
  refine lv_iload_n hx hb dX7_ones_4 rfl (lv_at hl 2 rfl) ?_
  refine lv_iconst (v := 5) hx hb dX7_ones_5 (by decide) ?_
  refine lv_icmp_ge (tgt := 23) hx hb dX7_ones_6 (by decide) (fun hc4 => ?_) (fun hc4 => ?_)
  · have h := ul_if_t hc4 h
    exact ge _ _ _ (J23 q4.1 q4.2 H locs ⟨hP, hD, hS⟩ ls (lv_sub hl [0, 1, 2] rfl) (hx4 (q4.1, q4.2) h))
  · have h := ul_if_f hc4 h
    refine lv_iload_n hx hb dX7_ones_9 rfl (lv_at hl 1 rfl) ?_
    refine lv_iload_n hx hb dX7_ones_10 rfl (lv_at hl 0 rfl) ?_
    refine lv_iload_n hx hb dX7_ones_11 rfl (lv_at hl 2 rfl) ?_
    refine lv_ishr hx hb dX7_ones_12 ?_
    refine lv_iconst (v := 1) hx hb dX7_ones_13 (by decide) ?_
    refine lv_iand hx hb dX7_ones_14 ?_
    refine lv_iadd hx hb dX7_ones_15 ?_
    refine lv_topi (fun v5 ev5 => ?_)
    have h := ul_bd_h h v5 ev5
    refine lv_istore_n (lv' := [(1, .int v5), (0, .int p0), (2, .int q4.2)]) hx hb dX7_ones_16 rfl hl (by decide) rfl (fun ls hl => ?_)
    obtain ⟨v6, ev6⟩ : ∃ z : Int32, z = q4.2 + 1 := ⟨_, rfl⟩
    have h := ul_bd_h h v6 ev6
    refine lv_iinc (v := v6) (lv' := [(2, .int v6), (1, .int v5), (0, .int p0)]) hx hb dX7_ones_17 hl (k := 2) rfl (by rw [ev6]; rfl) (by decide) rfl (fun ls hl => ?_)
    refine lv_goto (tgt := 4) hx hb dX7_ones_20 (by decide) ?_
    exact ge _ _ _ (ih4 (v5, v6) h H locs ⟨hP, hD, hS⟩ ls (lv_sub hl [2, 1, 0] rfl))
def f_X7_lesser (p0 : Int32) (p1 : Int32) : Option Int32 :=
  if p1 ≤ p0 then (some p1) else (some p0)
set_option maxHeartbeats 4000000 in
set_option maxRecDepth 100000 in
theorem c_X7_lesser (l : Launch) (dC : Nat → ClassId) (dI : Nat → Nat → Nat) (sz : Nat) (p0 : Int32) (p1 : Int32) (r : Int32) (h : f_X7_lesser p0 p1 = some r) : Met l yX7_lesser wsX7_lesser ({ frames := 0, cells := 0, slots := 0, locals := 0 }) (va_Pc [.int p0, .int p1] (ul_pre (dC, dI) [] ul_N0 sz [])) (va_Qi (fun v (_ : Unit) => v = r) (fun _ => ul_post (dC, dI) [] (va_A [] sz) []) (va_A [] sz)) 0 0 (va_A [] sz) := by
  refine Met.ofW (cc := cX7_lesser) (maxL := 2) (ret := (some .int)) (by decide) rfl ?_
  intro p e s m args below meth c s₁ B hml hv
  obtain ⟨rfl, hsz, hP, hK, hD0, hN⟩ := hv
  have hx := B.exec
  have hb := B.bytes
  have hr := B.returns
  have hts := atoms_spec (ws := wsX7_lesser) B.pre
  have hown : s.vm.findClass RX7 = some m.cls := findClass_of_methodNamed B.named
  have hlocks := B.notSynchronized
  subst hsz
  have hD := hD0.self (sz := s.heap.size)
  generalize hAe : va_A [] s.heap.size = A at hD ⊢
  have hA : ∀ q : Nat, s.heap.size ≤ q → A q := fun q h => by rw [← hAe]; exact Or.inr h
  have hS : va_S A s.heap s.heap [] := va_S.rf
  have hl := lv_entry ([.int p0, .int p1]) (n := 2) (Nat.le_of_ble_eq_true rfl)
  rw [lg_entry_eq]
  generalize (lg_sl ([.int p0, .int p1]) ++ List.replicate (2 - (lg_sl ([.int p0, .int p1])).length) Slot.unset).toArray = ls at hl ⊢
  have hl : lv_has ls 2 [(0, .int p0), (1, .int p1)] := hl
  obtain ⟨K0, hK0, h⟩ := ul_top h
  unfold f_X7_lesser at h
  refine ul_gen (fun G gi ge => ?_)
  obtain ⟨H, eH⟩ : ∃ z, z = s.heap := ⟨_, rfl⟩
  obtain ⟨locs, eL⟩ : ∃ z : List Loc, z = [] := ⟨_, rfl⟩
  have hP : va_P (dC, dI) classes [] H := by rw [eH]; exact hP
  have hS : va_S A s.heap H locs := by rw [eH, eL]; exact hS
  rw [← eL]
  refine (show G H locs (F0 m 0 ls []) → G s.heap locs (F0 m 0 ls []) from fun z => by rw [← eH]; exact z) ?_
  refine gi _ _ _ ?_
  refine lv_iload_n hx hb dX7_lesser_0 rfl (lv_at hl 0 rfl) ?_
  refine lv_iload_n hx hb dX7_lesser_1 rfl (lv_at hl 1 rfl) ?_
  refine lv_icmp_ge (tgt := 9) hx hb dX7_lesser_2 (by decide) (fun hc1 => ?_) (fun hc1 => ?_)
  · have h := ul_if_t hc1 h
    refine lv_iload_n hx hb dX7_lesser_9 rfl (lv_at hl 1 rfl) ?_
    have hr9 := hK0 p1 h
    subst hr9
    exact W.iret (v := p1) hx hb hr (fun t ht hW => ⟨⟨p1, (), rfl, rfl, by rw [ht]; exact hP, va_K.moved hW.alike hK, hD⟩, hS.F ht⟩) hS.2.2 dX7_lesser_10
  · have h := ul_if_f hc1 h
    refine lv_iload_n hx hb dX7_lesser_5 rfl (lv_at hl 0 rfl) ?_
    refine lv_goto (tgt := 10) hx hb dX7_lesser_6 (by decide) ?_
    have hr9 := hK0 p0 h
    subst hr9
    exact W.iret (v := p0) hx hb hr (fun t ht hW => ⟨⟨p0, (), rfl, rfl, by rw [ht]; exact hP, va_K.moved hW.alike hK, hD⟩, hS.F ht⟩) hS.2.2 dX7_lesser_10
def f_X7_write (M : ul_S) (p1 : Int32) : Option (Int32 × ul_S) :=
  (f_X7_in p1.toInt64 (0 : Int64) (255 : Int64)).bind fun u1 => if u1 = 0 then (some ((-2 : Int32), M)) else (if (M 0 5) = (48 : Int32) then (some ((-4 : Int32), M)) else (ul_st M 9 48 (M 0 5) p1 fun M4 => ul_bd ((M4 0 5) + (1 : Int32)) fun v6 => ul_bd (ul_up M4 0 5 v6) fun M7 => some ((M7 0 5), M7)))
set_option maxHeartbeats 4000000 in
set_option maxRecDepth 100000 in
theorem c_X7_write (l : Launch) (dC : Nat → ClassId) (dI : Nat → Nat → Nat) (cI : ClassId) (cZ : ClassId) (aM : Nat → Nat) (sz : Nat) (M : ul_S) (d : Int64) (p1 : Int32) (r : (Int32 × ul_S)) (h : f_X7_write M p1 = some r) : Met l yX7_write wsX7_write ({ frames := 1, cells := 0, slots := 0, locals := 25 }) (va_Pc [.ref (aM 0), .int p1] (ul_pre (dC, dI) [(cI, .int), (cZ, .boolean)] ul_N0 sz (ul_wM cI cZ aM M d))) (va_Qi (fun v (_ : Unit) => v = r.1) (fun _ => ul_post (dC, dI) [(cI, .int), (cZ, .boolean)] (va_A (ul_wM cI cZ aM M d) sz) (ul_wM cI cZ aM r.2 d)) (va_A (ul_wM cI cZ aM M d) sz)) 0 0 (va_A (ul_wM cI cZ aM M d) sz) := by
  refine Met.ofW (cc := cX7_write) (maxL := 2) (ret := (some .int)) (by decide) rfl ?_
  intro p e s m args below meth c s₁ B hml hv
  obtain ⟨rfl, hsz, hP, hK, hD0, hN⟩ := hv
  have hx := B.exec
  have hb := B.bytes
  have hr := B.returns
  have hts := atoms_spec (ws := wsX7_write) B.pre
  have hown : s.vm.findClass RX7 = some m.cls := findClass_of_methodNamed B.named
  have hlocks := B.notSynchronized
  have hin7 : ∀ w ∈ u_ws RX7 TX7 26, w ∈ wsX7_write := by decide +kernel
  subst hsz
  have hD := hD0.self (sz := s.heap.size)
  generalize hAe : va_A (ul_wM cI cZ aM M d) s.heap.size = A at hD ⊢
  have hA : ∀ q : Nat, s.heap.size ≤ q → A q := fun q h => by rw [← hAe]; exact Or.inr h
  have hS : va_S A s.heap s.heap [] := va_S.rf
  have hl := lv_entry ([.ref (aM 0), .int p1]) (n := 2) (Nat.le_of_ble_eq_true rfl)
  rw [lg_entry_eq]
  generalize (lg_sl ([.ref (aM 0), .int p1]) ++ List.replicate (2 - (lg_sl ([.ref (aM 0), .int p1])).length) Slot.unset).toArray = ls at hl ⊢
  have hl : lv_has ls 2 [(0, .ref (aM 0)), (1, .int p1)] := hl
  obtain ⟨K0, hK0, h⟩ := ul_top h
  unfold f_X7_write at h
  refine ul_gen (fun G gi ge => ?_)
  obtain ⟨H, eH⟩ : ∃ z, z = s.heap := ⟨_, rfl⟩
  obtain ⟨locs, eL⟩ : ∃ z : List Loc, z = [] := ⟨_, rfl⟩
  have hP : va_P (dC, dI) classes (ul_wM cI cZ aM M d) H := by rw [eH]; exact hP
  have hS : va_S A s.heap H locs := by rw [eH, eL]; exact hS
  rw [← eL]
  refine (show G H locs (F0 m 0 ls []) → G s.heap locs (F0 m 0 ls []) from fun z => by rw [← eH]; exact z) ?_
  refine gi _ _ _ ?_
  refine lv_iload_n hx hb dX7_write_0 rfl (lv_at hl 1 rfl) ?_
  refine lv_i2l hx hb dX7_write_1 rfl ?_
  refine lv_lconst (v := 0) hx hb dX7_write_2 (by decide) ?_
  refine lv_ldc2 (v := 255) hx hb hown (hts (.constantLong RX7 53 (255)) (by decide +kernel)) dX7_write_3 ?_
  obtain ⟨u1, hu1, h⟩ := ul_cl_h h
  refine ul_cSi (As := [.long p1.toInt64, .long (0 : Int64), .long (255 : Int64)]) (rest := []) hP hD hS hK hA (c_X7_in l dC dI H.size p1.toInt64 (0 : Int64) (255 : Int64) u1 hu1) ⟨hx, hb, hml, hown, hts⟩ (cwS 3 hts gX7_write_X7_in rfl rfl rfl (by decide +kernel) ⟨Nat.le_of_ble_eq_true rfl, Nat.le_of_ble_eq_true rfl⟩) rfl hl.1 rfl (Nat.le_of_ble_eq_true rfl) dX7_write_6 (fun H locs hw => ?_)
  obtain ⟨hP, hD, hS⟩ := hw
  refine lv_if_ne (tgt := 15) hx hb dX7_write_9 (by decide) (fun hc2 => ?_) (fun hc2 => ?_)
  · have h := ul_if_f hc2 h
    refine lv_aload_n hx hb dX7_write_15 rfl (lv_at hl 0 rfl) ?_
    refine va_get (D := (dC, dI)) (ci := 7) (v := .int (M 0 5)) (C := RX7) (T := TX7) (N := 26) hx hb hts hin7 hown hK hP 0 rfl rfl 14 (by decide) (hts (.fieldLink RX7 59 "UnderLaddersModel" "length" "I") (by decide +kernel)) (fun _ h9 => h9) rfl dX7_write_16 ?_
    refine lv_bipush (v := 48) hx hb dX7_write_19 (by decide) ?_
    refine lv_icmp_ne (tgt := 27) hx hb dX7_write_21 (by decide) (fun hc3 => ?_) (fun hc3 => ?_)
    · have h := ul_if_f hc3 h
      refine lv_aload_n hx hb dX7_write_27 rfl (lv_at hl 0 rfl) ?_
      refine va_get (D := (dC, dI)) (ci := 7) (v := .ref (aM 9)) (C := RX7) (T := TX7) (N := 26) hx hb hts hin7 hown hK hP 0 rfl rfl 13 (by decide) (hts (.fieldLink RX7 34 "UnderLaddersModel" "text" "[I") (by decide +kernel)) (fun _ h9 => h9) rfl dX7_write_28 ?_
      refine lv_aload_n hx hb dX7_write_31 rfl (lv_at hl 0 rfl) ?_
      refine va_get (D := (dC, dI)) (ci := 7) (v := .int (M 0 5)) (C := RX7) (T := TX7) (N := 26) hx hb hts hin7 hown hK hP 0 rfl rfl 14 (by decide) (hts (.fieldLink RX7 59 "UnderLaddersModel" "length" "I") (by decide +kernel)) (fun _ h9 => h9) rfl dX7_write_32 ?_
      refine lv_iload_n hx hb dX7_write_35 rfl (lv_at hl 1 rfl) ?_
      obtain ⟨hi5, h⟩ := ul_st_h h
      refine va_iast hx hb hK hP hD hS 9 0 rfl rfl hi5 dX7_write_36 (fun H locs hP hD hS => ?_)
      obtain ⟨M4, eM4⟩ : ∃ z : ul_S, z = ul_up M 9 (M 0 5).toNatClampNeg p1 := ⟨_, rfl⟩
      have h := h M4 eM4
      have hP : va_P (dC, dI) classes (ul_wM cI cZ aM M4 d) H := by rw [eM4]; exact hP
      have hD : va_D A (ul_wM cI cZ aM M4 d) := by rw [eM4]; exact hD
      refine lv_aload_n hx hb dX7_write_37 rfl (lv_at hl 0 rfl) ?_
      refine lv_dup hx hb dX7_write_38 rfl ?_
      refine va_get (D := (dC, dI)) (ci := 7) (v := .int (M4 0 5)) (C := RX7) (T := TX7) (N := 26) hx hb hts hin7 hown hK hP 0 rfl rfl 14 (by decide) (hts (.fieldLink RX7 59 "UnderLaddersModel" "length" "I") (by decide +kernel)) (fun _ h9 => h9) rfl dX7_write_39 ?_
      refine lv_iconst (v := 1) hx hb dX7_write_42 (by decide) ?_
      refine lv_iadd hx hb dX7_write_43 ?_
      refine lv_topi (fun v6 ev6 => ?_)
      have h := ul_bd_h h v6 ev6
      refine va_put (D := (dC, dI)) (ci := 7) (v := .int v6) (ty := .int) (C := RX7) (T := TX7) (N := 26) hx hb hts hin7 tyX7 tyX7_ok nmX7 hown hK hP hD hS 0 rfl rfl 14 (by decide) (hts (.fieldLink RX7 59 "UnderLaddersModel" "length" "I") (by decide +kernel)) (fun _ h9 => h9) rfl (by decide +kernel) rfl rfl (Nat.le_of_ble_eq_true rfl) dX7_write_44 (fun H locs hP hD hS => ?_)
      obtain ⟨M7, eM7⟩ : ∃ z : ul_S, z = ul_up M4 0 5 v6 := ⟨_, rfl⟩
      have h := ul_bd_h h M7 eM7
      have hP : va_P (dC, dI) classes (ul_wM cI cZ aM M7 d) H := by rw [eM7]; exact hP
      have hD : va_D A (ul_wM cI cZ aM M7 d) := by rw [eM7]; exact hD
      refine lv_aload_n hx hb dX7_write_47 rfl (lv_at hl 0 rfl) ?_
      refine va_get (D := (dC, dI)) (ci := 7) (v := .int (M7 0 5)) (C := RX7) (T := TX7) (N := 26) hx hb hts hin7 hown hK hP 0 rfl rfl 14 (by decide) (hts (.fieldLink RX7 59 "UnderLaddersModel" "length" "I") (by decide +kernel)) (fun _ h9 => h9) rfl dX7_write_48 ?_
      have hr9 := hK0 ((M7 0 5), M7) h
      subst hr9
      exact W.iret (v := (M7 0 5)) hx hb hr (fun t ht hW => ⟨⟨(M7 0 5), (), rfl, rfl, by rw [ht]; exact hP, va_K.moved hW.alike hK, hD⟩, hS.F ht⟩) hS.2.2 dX7_write_51
    · have h := ul_if_t hc3 h
      refine lv_bipush (v := -4) hx hb dX7_write_24 (by decide) ?_
      have hr9 := hK0 ((-4 : Int32), M) h
      subst hr9
      exact W.iret (v := (-4 : Int32)) hx hb hr (fun t ht hW => ⟨⟨(-4 : Int32), (), rfl, rfl, by rw [ht]; exact hP, va_K.moved hW.alike hK, hD⟩, hS.F ht⟩) hS.2.2 dX7_write_26
  · have h := ul_if_t hc2 h
    refine lv_bipush (v := -2) hx hb dX7_write_12 (by decide) ?_
    have hr9 := hK0 ((-2 : Int32), M) h
    subst hr9
    exact W.iret (v := (-2 : Int32)) hx hb hr (fun t ht hW => ⟨⟨(-2 : Int32), (), rfl, rfl, by rw [ht]; exact hP, va_K.moved hW.alike hK, hD⟩, hS.F ht⟩) hS.2.2 dX7_write_14
def f_X7_wipe (M : ul_S) : Option (Int32 × ul_S) :=
  ul_bd (M 0 5) fun v1 => ul_bd (ul_up M 0 5 (0 : Int32)) fun M2 => some (v1, M2)
set_option maxHeartbeats 4000000 in
set_option maxRecDepth 100000 in
theorem c_X7_wipe (l : Launch) (dC : Nat → ClassId) (dI : Nat → Nat → Nat) (cI : ClassId) (cZ : ClassId) (aM : Nat → Nat) (sz : Nat) (M : ul_S) (d : Int64) (r : (Int32 × ul_S)) (h : f_X7_wipe M = some r) : Met l yX7_wipe wsX7_wipe ({ frames := 0, cells := 0, slots := 0, locals := 0 }) (va_Pc [.ref (aM 0)] (ul_pre (dC, dI) [(cI, .int), (cZ, .boolean)] ul_N0 sz (ul_wM cI cZ aM M d))) (va_Qi (fun v (_ : Unit) => v = r.1) (fun _ => ul_post (dC, dI) [(cI, .int), (cZ, .boolean)] (va_A (ul_wM cI cZ aM M d) sz) (ul_wM cI cZ aM r.2 d)) (va_A (ul_wM cI cZ aM M d) sz)) 0 0 (va_A (ul_wM cI cZ aM M d) sz) := by
  refine Met.ofW (cc := cX7_wipe) (maxL := 2) (ret := (some .int)) (by decide) rfl ?_
  intro p e s m args below meth c s₁ B hml hv
  obtain ⟨rfl, hsz, hP, hK, hD0, hN⟩ := hv
  have hx := B.exec
  have hb := B.bytes
  have hr := B.returns
  have hts := atoms_spec (ws := wsX7_wipe) B.pre
  have hown : s.vm.findClass RX7 = some m.cls := findClass_of_methodNamed B.named
  have hlocks := B.notSynchronized
  have hin7 : ∀ w ∈ u_ws RX7 TX7 26, w ∈ wsX7_wipe := by decide +kernel
  subst hsz
  have hD := hD0.self (sz := s.heap.size)
  generalize hAe : va_A (ul_wM cI cZ aM M d) s.heap.size = A at hD ⊢
  have hA : ∀ q : Nat, s.heap.size ≤ q → A q := fun q h => by rw [← hAe]; exact Or.inr h
  have hS : va_S A s.heap s.heap [] := va_S.rf
  have hl := lv_entry ([.ref (aM 0)]) (n := 2) (Nat.le_of_ble_eq_true rfl)
  rw [lg_entry_eq]
  generalize (lg_sl ([.ref (aM 0)]) ++ List.replicate (2 - (lg_sl ([.ref (aM 0)])).length) Slot.unset).toArray = ls at hl ⊢
  have hl : lv_has ls 2 [(0, .ref (aM 0))] := hl
  obtain ⟨K0, hK0, h⟩ := ul_top h
  unfold f_X7_wipe at h
  refine ul_gen (fun G gi ge => ?_)
  obtain ⟨H, eH⟩ : ∃ z, z = s.heap := ⟨_, rfl⟩
  obtain ⟨locs, eL⟩ : ∃ z : List Loc, z = [] := ⟨_, rfl⟩
  have hP : va_P (dC, dI) classes (ul_wM cI cZ aM M d) H := by rw [eH]; exact hP
  have hS : va_S A s.heap H locs := by rw [eH, eL]; exact hS
  rw [← eL]
  refine (show G H locs (F0 m 0 ls []) → G s.heap locs (F0 m 0 ls []) from fun z => by rw [← eH]; exact z) ?_
  refine gi _ _ _ ?_
  refine lv_aload_n hx hb dX7_wipe_0 rfl (lv_at hl 0 rfl) ?_
  refine va_get (D := (dC, dI)) (ci := 7) (v := .int (M 0 5)) (C := RX7) (T := TX7) (N := 26) hx hb hts hin7 hown hK hP 0 rfl rfl 14 (by decide) (hts (.fieldLink RX7 59 "UnderLaddersModel" "length" "I") (by decide +kernel)) (fun _ h9 => h9) rfl dX7_wipe_1 ?_
  refine lv_topi (fun v1 ev1 => ?_)
  have h := ul_bd_h h v1 ev1
  refine lv_istore_n (lv' := [(1, .int v1), (0, .ref (aM 0))]) hx hb dX7_wipe_4 rfl hl (by decide) rfl (fun ls hl => ?_)
  refine lv_aload_n hx hb dX7_wipe_5 rfl (lv_at hl 1 rfl) ?_
  refine lv_iconst (v := 0) hx hb dX7_wipe_6 (by decide) ?_
  refine va_put (D := (dC, dI)) (ci := 7) (v := .int (0 : Int32)) (ty := .int) (C := RX7) (T := TX7) (N := 26) hx hb hts hin7 tyX7 tyX7_ok nmX7 hown hK hP hD hS 0 rfl rfl 14 (by decide) (hts (.fieldLink RX7 59 "UnderLaddersModel" "length" "I") (by decide +kernel)) (fun _ h9 => h9) rfl (by decide +kernel) rfl rfl (Nat.le_of_ble_eq_true rfl) dX7_wipe_7 (fun H locs hP hD hS => ?_)
  obtain ⟨M2, eM2⟩ : ∃ z : ul_S, z = ul_up M 0 5 (0 : Int32) := ⟨_, rfl⟩
  have h := ul_bd_h h M2 eM2
  have hP : va_P (dC, dI) classes (ul_wM cI cZ aM M2 d) H := by rw [eM2]; exact hP
  have hD : va_D A (ul_wM cI cZ aM M2 d) := by rw [eM2]; exact hD
  refine lv_iload_n hx hb dX7_wipe_10 rfl (lv_at hl 0 rfl) ?_
  have hr9 := hK0 (v1, M2) h
  subst hr9
  exact W.iret (v := v1) hx hb hr (fun t ht hW => ⟨⟨v1, (), rfl, rfl, by rw [ht]; exact hP, va_K.moved hW.alike hK, hD⟩, hS.F ht⟩) hS.2.2 dX7_wipe_11
def f_X7_figureOf_j92 (p1 : Int32) (x2 : Int32) (x3 : Int32) (t1 : Int32) (M__92 : ul_S) : Option (Int32 × ul_S) :=
  ul_bd (ul_up M__92 0 7 t1) fun M1 => some ((0 : Int32), M1)
def f_X7_figureOf_j71 (p1 : Int32) (x2 : Int32) (x3 : Int32) (M__71 : ul_S) : Option (Int32 × ul_S) :=
  if (M__71 0 7) = (-9 : Int32) then (f_X7_figureOf_j92 p1 x2 x3 (M__71 0 6) M__71) else (f_X7_figureOf_j92 p1 x2 x3 (M__71 0 7) M__71)
def f_X7_figureOf_j46 (p1 : Int32) (x2 : Int32) (t0 : Int32) (M__46 : ul_S) : Option (Int32 × ul_S) :=
  if x2 = 0 then (f_X7_figureOf_j71 p1 x2 t0 M__46) else ((f_X7_in t0.toInt64 (0 : Int64) (9 : Int64)).bind fun u6 => if u6 = 0 then (f_X7_figureOf_j71 p1 x2 t0 M__46) else ((f_X7_has p1 t0).bind fun u8 => if u8 = 0 then (f_X7_figureOf_j71 p1 x2 t0 M__46) else (ul_bd ((M__46 0 6) + (1 : Int32)) fun v10 => ul_bd (ul_up M__46 0 6 v10) fun M11 => some (t0, M11))))
def f_X7_figureOf_j25 (p1 : Int32) (t0 : Int32) (M__25 : ul_S) : Option (Int32 × ul_S) :=
  if t0 = 0 then (f_X7_figureOf_j46 p1 t0 (0 : Int32) M__25) else (ul_ld (M__25 9) 48 (M__25 0 6) fun v20 => f_X7_figureOf_j46 p1 t0 (v20 - (48 : Int32)) M__25)
def f_X7_figureOf_j24 (p1 : Int32) (M__24 : ul_S) : Option (Int32 × ul_S) :=
  f_X7_figureOf_j25 p1 (0 : Int32) M__24
def f_X7_figureOf (M : ul_S) (p1 : Int32) : Option (Int32 × ul_S) :=
  if (M 0 7) = (-9 : Int32) then (if (M 0 5) ≤ (M 0 6) then (f_X7_figureOf_j24 p1 M) else (f_X7_figureOf_j25 p1 (1 : Int32) M)) else (f_X7_figureOf_j24 p1 M)
set_option maxHeartbeats 4000000 in
set_option maxRecDepth 100000 in
theorem c_X7_figureOf (l : Launch) (dC : Nat → ClassId) (dI : Nat → Nat → Nat) (cI : ClassId) (cZ : ClassId) (aM : Nat → Nat) (sz : Nat) (M : ul_S) (d : Int64) (p1 : Int32) (r : (Int32 × ul_S)) (h : f_X7_figureOf M p1 = some r) : Met l yX7_figureOf wsX7_figureOf ({ frames := 1, cells := 0, slots := 0, locals := 25 }) (va_Pc [.ref (aM 0), .int p1] (ul_pre (dC, dI) [(cI, .int), (cZ, .boolean)] ul_N0 sz (ul_wM cI cZ aM M d))) (va_Qi (fun v (_ : Unit) => v = r.1) (fun _ => ul_post (dC, dI) [(cI, .int), (cZ, .boolean)] (va_A (ul_wM cI cZ aM M d) sz) (ul_wM cI cZ aM r.2 d)) (va_A (ul_wM cI cZ aM M d) sz)) 0 0 (va_A (ul_wM cI cZ aM M d) sz) := by
  refine Met.ofW (cc := cX7_figureOf) (maxL := 4) (ret := (some .int)) (by decide) rfl ?_
  intro p e s m args below meth c s₁ B hml hv
  obtain ⟨rfl, hsz, hP, hK, hD0, hN⟩ := hv
  have hx := B.exec
  have hb := B.bytes
  have hr := B.returns
  have hts := atoms_spec (ws := wsX7_figureOf) B.pre
  have hown : s.vm.findClass RX7 = some m.cls := findClass_of_methodNamed B.named
  have hlocks := B.notSynchronized
  have hin7 : ∀ w ∈ u_ws RX7 TX7 26, w ∈ wsX7_figureOf := by decide +kernel
  subst hsz
  have hD := hD0.self (sz := s.heap.size)
  generalize hAe : va_A (ul_wM cI cZ aM M d) s.heap.size = A at hD ⊢
  have hA : ∀ q : Nat, s.heap.size ≤ q → A q := fun q h => by rw [← hAe]; exact Or.inr h
  have hS : va_S A s.heap s.heap [] := va_S.rf
  have hl := lv_entry ([.ref (aM 0), .int p1]) (n := 4) (Nat.le_of_ble_eq_true rfl)
  rw [lg_entry_eq]
  generalize (lg_sl ([.ref (aM 0), .int p1]) ++ List.replicate (4 - (lg_sl ([.ref (aM 0), .int p1])).length) Slot.unset).toArray = ls at hl ⊢
  have hl : lv_has ls 4 [(0, .ref (aM 0)), (1, .int p1)] := hl
  obtain ⟨K0, hK0, h⟩ := ul_top h
  unfold f_X7_figureOf at h
  refine ul_gen (fun G gi ge => ?_)
  obtain ⟨H, eH⟩ : ∃ z, z = s.heap := ⟨_, rfl⟩
  obtain ⟨locs, eL⟩ : ∃ z : List Loc, z = [] := ⟨_, rfl⟩
  have hP : va_P (dC, dI) classes (ul_wM cI cZ aM M d) H := by rw [eH]; exact hP
  have hS : va_S A s.heap H locs := by rw [eH, eL]; exact hS
  rw [← eL]
  refine (show G H locs (F0 m 0 ls []) → G s.heap locs (F0 m 0 ls []) from fun z => by rw [← eH]; exact z) ?_
  have J92 : ∀ (x2 : Int32) (x3 : Int32) (t1 : Int32) (M__92 : ul_S) (H : Heap) (locs : List Loc), ul_H (dC, dI) A s.heap (ul_wM cI cZ aM M__92 d) H locs → ∀ ls : Array Slot, lv_has ls 4 [(0, .ref (aM 0)), (1, .int p1), (2, .int x2), (3, .int x3)] → (f_X7_figureOf_j92 p1 x2 x3 t1 M__92).bind K0 = some r → G H locs (F0 m 92 ls [.int t1, .ref (aM 0)]) := by
    intro x2 x3 t1 M__92 H locs hw ls hl h
    obtain ⟨hP, hD, hS⟩ := hw
    unfold f_X7_figureOf_j92 at h
    refine gi _ _ _ ?_
    refine va_put (D := (dC, dI)) (ci := 7) (v := .int t1) (ty := .int) (C := RX7) (T := TX7) (N := 26) hx hb hts hin7 tyX7 tyX7_ok nmX7 hown hK hP hD hS 0 rfl rfl 16 (by decide) (hts (.fieldLink RX7 63 "UnderLaddersModel" "faultAt" "I") (by decide +kernel)) (fun _ h9 => h9) rfl (by decide +kernel) rfl rfl (Nat.le_of_ble_eq_true rfl) dX7_figureOf_92 (fun H locs hP hD hS => ?_)
    obtain ⟨M2, eM2⟩ : ∃ z : ul_S, z = ul_up M__92 0 7 t1 := ⟨_, rfl⟩
    have h := ul_bd_h h M2 eM2
    have hP : va_P (dC, dI) classes (ul_wM cI cZ aM M2 d) H := by rw [eM2]; exact hP
    have hD : va_D A (ul_wM cI cZ aM M2 d) := by rw [eM2]; exact hD
    refine lv_iconst (v := 0) hx hb dX7_figureOf_95 (by decide) ?_
    have hr9 := hK0 ((0 : Int32), M2) h
    subst hr9
    exact W.iret (v := (0 : Int32)) hx hb hr (fun t ht hW => ⟨⟨(0 : Int32), (), rfl, rfl, by rw [ht]; exact hP, va_K.moved hW.alike hK, hD⟩, hS.F ht⟩) hS.2.2 dX7_figureOf_96
  have J71 : ∀ (x2 : Int32) (x3 : Int32) (M__71 : ul_S) (H : Heap) (locs : List Loc), ul_H (dC, dI) A s.heap (ul_wM cI cZ aM M__71 d) H locs → ∀ ls : Array Slot, lv_has ls 4 [(0, .ref (aM 0)), (1, .int p1), (2, .int x2), (3, .int x3)] → (f_X7_figureOf_j71 p1 x2 x3 M__71).bind K0 = some r → G H locs (F0 m 71 ls []) := by
    intro x2 x3 M__71 H locs hw ls hl h
    obtain ⟨hP, hD, hS⟩ := hw
    unfold f_X7_figureOf_j71 at h
    refine gi _ _ _ ?_
    refine lv_aload_n hx hb dX7_figureOf_71 rfl (lv_at hl 0 rfl) ?_
    refine lv_aload_n hx hb dX7_figureOf_72 rfl (lv_at hl 0 rfl) ?_
    refine va_get (D := (dC, dI)) (ci := 7) (v := .int (M__71 0 7)) (C := RX7) (T := TX7) (N := 26) hx hb hts hin7 hown hK hP 0 rfl rfl 16 (by decide) (hts (.fieldLink RX7 63 "UnderLaddersModel" "faultAt" "I") (by decide +kernel)) (fun _ h9 => h9) rfl dX7_figureOf_73 ?_
    refine lv_bipush (v := -9) hx hb dX7_figureOf_76 (by decide) ?_
    refine lv_icmp_ne (tgt := 88) hx hb dX7_figureOf_78 (by decide) (fun hc4 => ?_) (fun hc4 => ?_)
    · have h := ul_if_f hc4 h
      refine lv_aload_n hx hb dX7_figureOf_88 rfl (lv_at hl 0 rfl) ?_
      refine va_get (D := (dC, dI)) (ci := 7) (v := .int (M__71 0 7)) (C := RX7) (T := TX7) (N := 26) hx hb hts hin7 hown hK hP 0 rfl rfl 16 (by decide) (hts (.fieldLink RX7 63 "UnderLaddersModel" "faultAt" "I") (by decide +kernel)) (fun _ h9 => h9) rfl dX7_figureOf_89 ?_
      exact ge _ _ _ (J92 x2 x3 (M__71 0 7) M__71 H locs ⟨hP, hD, hS⟩ ls (lv_sub hl [0, 1, 2, 3] rfl) h)
    · have h := ul_if_t hc4 h
      refine lv_aload_n hx hb dX7_figureOf_81 rfl (lv_at hl 0 rfl) ?_
      refine va_get (D := (dC, dI)) (ci := 7) (v := .int (M__71 0 6)) (C := RX7) (T := TX7) (N := 26) hx hb hts hin7 hown hK hP 0 rfl rfl 15 (by decide) (hts (.fieldLink RX7 66 "UnderLaddersModel" "place" "I") (by decide +kernel)) (fun _ h9 => h9) rfl dX7_figureOf_82 ?_
      refine lv_goto (tgt := 92) hx hb dX7_figureOf_85 (by decide) ?_
      exact ge _ _ _ (J92 x2 x3 (M__71 0 6) M__71 H locs ⟨hP, hD, hS⟩ ls (lv_sub hl [0, 1, 2, 3] rfl) h)
  have J46 : ∀ (x2 : Int32) (t0 : Int32) (M__46 : ul_S) (H : Heap) (locs : List Loc), ul_H (dC, dI) A s.heap (ul_wM cI cZ aM M__46 d) H locs → ∀ ls : Array Slot, lv_has ls 4 [(0, .ref (aM 0)), (1, .int p1), (2, .int x2)] → (f_X7_figureOf_j46 p1 x2 t0 M__46).bind K0 = some r → G H locs (F0 m 46 ls [.int t0]) := by
    intro x2 t0 M__46 H locs hw ls hl h
    obtain ⟨hP, hD, hS⟩ := hw
    unfold f_X7_figureOf_j46 at h
    refine gi _ _ _ ?_
    refine lv_istore_n (lv' := [(3, .int t0), (0, .ref (aM 0)), (1, .int p1), (2, .int x2)]) hx hb dX7_figureOf_46 rfl hl (by decide) rfl (fun ls hl => ?_)
    refine lv_iload_n hx hb dX7_figureOf_47 rfl (lv_at hl 3 rfl) ?_
    refine lv_if_eq (tgt := 71) hx hb dX7_figureOf_48 (by decide) (fun hc12 => ?_) (fun hc12 => ?_)
    · have h := ul_if_t hc12 h
      exact ge _ _ _ (J71 x2 t0 M__46 H locs ⟨hP, hD, hS⟩ ls (lv_sub hl [1, 2, 3, 0] rfl) h)
    · have h := ul_if_f hc12 h
      refine lv_iload_n hx hb dX7_figureOf_51 rfl (lv_at hl 0 rfl) ?_
      refine lv_i2l hx hb dX7_figureOf_52 rfl ?_
      refine lv_lconst (v := 0) hx hb dX7_figureOf_53 (by decide) ?_
      refine lv_ldc2 (v := 9) hx hb hown (hts (.constantLong RX7 69 (9)) (by decide +kernel)) dX7_figureOf_54 ?_
      obtain ⟨u13, hu13, h⟩ := ul_cl_h h
      refine ul_cSi (As := [.long t0.toInt64, .long (0 : Int64), .long (9 : Int64)]) (rest := []) hP hD hS hK hA (c_X7_in l dC dI H.size t0.toInt64 (0 : Int64) (9 : Int64) u13 hu13) ⟨hx, hb, hml, hown, hts⟩ (cwS 3 hts gX7_figureOf_X7_in rfl rfl rfl (by decide +kernel) ⟨Nat.le_of_ble_eq_true rfl, Nat.le_of_ble_eq_true rfl⟩) rfl hl.1 rfl (Nat.le_of_ble_eq_true rfl) dX7_figureOf_57 (fun H locs hw => ?_)
      obtain ⟨hP, hD, hS⟩ := hw
      refine lv_if_eq (tgt := 71) hx hb dX7_figureOf_60 (by decide) (fun hc14 => ?_) (fun hc14 => ?_)
      · have h := ul_if_t hc14 h
        exact ge _ _ _ (J71 x2 t0 M__46 H locs ⟨hP, hD, hS⟩ ls (lv_sub hl [1, 2, 3, 0] rfl) h)
      · have h := ul_if_f hc14 h
        refine lv_iload_n hx hb dX7_figureOf_63 rfl (lv_at hl 2 rfl) ?_
        refine lv_iload_n hx hb dX7_figureOf_64 rfl (lv_at hl 0 rfl) ?_
        obtain ⟨u15, hu15, h⟩ := ul_cl_h h
        refine ul_cSi (As := [.int p1, .int t0]) (rest := []) hP hD hS hK hA (c_X7_has l dC dI H.size p1 t0 u15 hu15) ⟨hx, hb, hml, hown, hts⟩ (cwS 2 hts gX7_figureOf_X7_has rfl rfl rfl (by decide +kernel) ⟨Nat.le_of_ble_eq_true rfl, Nat.le_of_ble_eq_true rfl⟩) rfl hl.1 rfl (Nat.le_of_ble_eq_true rfl) dX7_figureOf_65 (fun H locs hw => ?_)
        obtain ⟨hP, hD, hS⟩ := hw
        refine lv_if_ne (tgt := 97) hx hb dX7_figureOf_68 (by decide) (fun hc16 => ?_) (fun hc16 => ?_)
        · have h := ul_if_f hc16 h
          refine lv_aload_n hx hb dX7_figureOf_97 rfl (lv_at hl 1 rfl) ?_
          refine lv_dup hx hb dX7_figureOf_98 rfl ?_
          refine va_get (D := (dC, dI)) (ci := 7) (v := .int (M__46 0 6)) (C := RX7) (T := TX7) (N := 26) hx hb hts hin7 hown hK hP 0 rfl rfl 15 (by decide) (hts (.fieldLink RX7 66 "UnderLaddersModel" "place" "I") (by decide +kernel)) (fun _ h9 => h9) rfl dX7_figureOf_99 ?_
          refine lv_iconst (v := 1) hx hb dX7_figureOf_102 (by decide) ?_
          refine lv_iadd hx hb dX7_figureOf_103 ?_
          refine lv_topi (fun v17 ev17 => ?_)
          have h := ul_bd_h h v17 ev17
          refine va_put (D := (dC, dI)) (ci := 7) (v := .int v17) (ty := .int) (C := RX7) (T := TX7) (N := 26) hx hb hts hin7 tyX7 tyX7_ok nmX7 hown hK hP hD hS 0 rfl rfl 15 (by decide) (hts (.fieldLink RX7 66 "UnderLaddersModel" "place" "I") (by decide +kernel)) (fun _ h9 => h9) rfl (by decide +kernel) rfl rfl (Nat.le_of_ble_eq_true rfl) dX7_figureOf_104 (fun H locs hP hD hS => ?_)
          obtain ⟨M18, eM18⟩ : ∃ z : ul_S, z = ul_up M__46 0 6 v17 := ⟨_, rfl⟩
          have h := ul_bd_h h M18 eM18
          have hP : va_P (dC, dI) classes (ul_wM cI cZ aM M18 d) H := by rw [eM18]; exact hP
          have hD : va_D A (ul_wM cI cZ aM M18 d) := by rw [eM18]; exact hD
          refine lv_iload_n hx hb dX7_figureOf_107 rfl (lv_at hl 0 rfl) ?_
          have hr9 := hK0 (t0, M18) h
          subst hr9
          exact W.iret (v := t0) hx hb hr (fun t ht hW => ⟨⟨t0, (), rfl, rfl, by rw [ht]; exact hP, va_K.moved hW.alike hK, hD⟩, hS.F ht⟩) hS.2.2 dX7_figureOf_108
        · have h := ul_if_t hc16 h
          exact ge _ _ _ (J71 x2 t0 M__46 H locs ⟨hP, hD, hS⟩ ls (lv_sub hl [1, 2, 3, 0] rfl) h)
  have J25 : ∀ (t0 : Int32) (M__25 : ul_S) (H : Heap) (locs : List Loc), ul_H (dC, dI) A s.heap (ul_wM cI cZ aM M__25 d) H locs → ∀ ls : Array Slot, lv_has ls 4 [(0, .ref (aM 0)), (1, .int p1)] → (f_X7_figureOf_j25 p1 t0 M__25).bind K0 = some r → G H locs (F0 m 25 ls [.int t0]) := by
    intro t0 M__25 H locs hw ls hl h
    obtain ⟨hP, hD, hS⟩ := hw
    unfold f_X7_figureOf_j25 at h
    refine gi _ _ _ ?_
    refine lv_istore_n (lv' := [(2, .int t0), (0, .ref (aM 0)), (1, .int p1)]) hx hb dX7_figureOf_25 rfl hl (by decide) rfl (fun ls hl => ?_)
    refine lv_iload_n hx hb dX7_figureOf_26 rfl (lv_at hl 0 rfl) ?_
    refine lv_if_eq (tgt := 45) hx hb dX7_figureOf_27 (by decide) (fun hc22 => ?_) (fun hc22 => ?_)
    · have h := ul_if_t hc22 h
      refine lv_iconst (v := 0) hx hb dX7_figureOf_45 (by decide) ?_
      exact ge _ _ _ (J46 t0 (0 : Int32) M__25 H locs ⟨hP, hD, hS⟩ ls (lv_sub hl [1, 2, 0] rfl) h)
    · have h := ul_if_f hc22 h
      refine lv_aload_n hx hb dX7_figureOf_30 rfl (lv_at hl 1 rfl) ?_
      refine va_get (D := (dC, dI)) (ci := 7) (v := .ref (aM 9)) (C := RX7) (T := TX7) (N := 26) hx hb hts hin7 hown hK hP 0 rfl rfl 13 (by decide) (hts (.fieldLink RX7 34 "UnderLaddersModel" "text" "[I") (by decide +kernel)) (fun _ h9 => h9) rfl dX7_figureOf_31 ?_
      refine lv_aload_n hx hb dX7_figureOf_34 rfl (lv_at hl 1 rfl) ?_
      refine va_get (D := (dC, dI)) (ci := 7) (v := .int (M__25 0 6)) (C := RX7) (T := TX7) (N := 26) hx hb hts hin7 hown hK hP 0 rfl rfl 15 (by decide) (hts (.fieldLink RX7 66 "UnderLaddersModel" "place" "I") (by decide +kernel)) (fun _ h9 => h9) rfl dX7_figureOf_35 ?_
      obtain ⟨hi24, h⟩ := ul_ld_h h
      refine va_iald hx hb hK hP 9 0 rfl rfl hi24 dX7_figureOf_38 ?_
      refine lv_topi (fun v23 ev23 => ?_)
      have h := h v23 ev23
      refine lv_bipush (v := 48) hx hb dX7_figureOf_39 (by decide) ?_
      refine lv_isub hx hb dX7_figureOf_41 ?_
      refine lv_goto (tgt := 46) hx hb dX7_figureOf_42 (by decide) ?_
      exact ge _ _ _ (J46 t0 (v23 - (48 : Int32)) M__25 H locs ⟨hP, hD, hS⟩ ls (lv_sub hl [1, 2, 0] rfl) h)
  have J24 : ∀ (M__24 : ul_S) (H : Heap) (locs : List Loc), ul_H (dC, dI) A s.heap (ul_wM cI cZ aM M__24 d) H locs → ∀ ls : Array Slot, lv_has ls 4 [(0, .ref (aM 0)), (1, .int p1)] → (f_X7_figureOf_j24 p1 M__24).bind K0 = some r → G H locs (F0 m 24 ls []) := by
    intro M__24 H locs hw ls hl h
    obtain ⟨hP, hD, hS⟩ := hw
    unfold f_X7_figureOf_j24 at h
    refine gi _ _ _ ?_
    refine lv_iconst (v := 0) hx hb dX7_figureOf_24 (by decide) ?_
    exact ge _ _ _ (J25 (0 : Int32) M__24 H locs ⟨hP, hD, hS⟩ ls (lv_sub hl [0, 1] rfl) h)
  refine gi _ _ _ ?_
  refine lv_aload_n hx hb dX7_figureOf_0 rfl (lv_at hl 0 rfl) ?_
  refine va_get (D := (dC, dI)) (ci := 7) (v := .int (M 0 7)) (C := RX7) (T := TX7) (N := 26) hx hb hts hin7 hown hK hP 0 rfl rfl 16 (by decide) (hts (.fieldLink RX7 63 "UnderLaddersModel" "faultAt" "I") (by decide +kernel)) (fun _ h9 => h9) rfl dX7_figureOf_1 ?_
  refine lv_bipush (v := -9) hx hb dX7_figureOf_4 (by decide) ?_
  refine lv_icmp_ne (tgt := 24) hx hb dX7_figureOf_6 (by decide) (fun hc25 => ?_) (fun hc25 => ?_)
  · have h := ul_if_f hc25 h
    exact ge _ _ _ (J24 M H locs ⟨hP, hD, hS⟩ ls (lv_sub hl [0, 1] rfl) h)
  · have h := ul_if_t hc25 h
    refine lv_aload_n hx hb dX7_figureOf_9 rfl (lv_at hl 0 rfl) ?_
    refine va_get (D := (dC, dI)) (ci := 7) (v := .int (M 0 6)) (C := RX7) (T := TX7) (N := 26) hx hb hts hin7 hown hK hP 0 rfl rfl 15 (by decide) (hts (.fieldLink RX7 66 "UnderLaddersModel" "place" "I") (by decide +kernel)) (fun _ h9 => h9) rfl dX7_figureOf_10 ?_
    refine lv_aload_n hx hb dX7_figureOf_13 rfl (lv_at hl 0 rfl) ?_
    refine va_get (D := (dC, dI)) (ci := 7) (v := .int (M 0 5)) (C := RX7) (T := TX7) (N := 26) hx hb hts hin7 hown hK hP 0 rfl rfl 14 (by decide) (hts (.fieldLink RX7 59 "UnderLaddersModel" "length" "I") (by decide +kernel)) (fun _ h9 => h9) rfl dX7_figureOf_14 ?_
    refine lv_icmp_ge (tgt := 24) hx hb dX7_figureOf_17 (by decide) (fun hc26 => ?_) (fun hc26 => ?_)
    · have h := ul_if_t hc26 h
      exact ge _ _ _ (J24 M H locs ⟨hP, hD, hS⟩ ls (lv_sub hl [0, 1] rfl) h)
    · have h := ul_if_f hc26 h
      refine lv_iconst (v := 1) hx hb dX7_figureOf_20 (by decide) ?_
      refine lv_goto (tgt := 25) hx hb dX7_figureOf_21 (by decide) ?_
      exact ge _ _ _ (J25 (1 : Int32) M H locs ⟨hP, hD, hS⟩ ls (lv_sub hl [0, 1] rfl) h)
def f_X7_readPart_j222 (p1 : Int32) (M__222 : ul_S) : Option ul_S :=
  ul_bd (ul_up M__222 0 7 (M__222 0 6)) fun M1 => some M1
def f_X7_readPart_j110 (p1 : Int32) (M__110 : ul_S) : Option ul_S :=
  if p1 = (80 : Int32) then (if (5 : Int32) ≤ (M__110 0 3) then (f_X7_readPart_j222 p1 M__110) else (ul_bd ((M__110 0 6) + (1 : Int32)) fun v5 => ul_bd (ul_up M__110 0 6 v5) fun M6 => ul_bd ((4 : Int32) * (M6 0 3)) fun v7 => (f_X7_figureOf M6 (1023 : Int32)).bind fun u8 => ul_st u8.2 8 20 v7 u8.1 fun M9 => ul_ld (M9 8) 20 v7 fun v11 => (f_X7_figureOf M9 ((1023 : Int32) &&& (((1 : Int32) <<< (v11 &&& 31)) ^^^ (-1 : Int32)))).bind fun u13 => ul_st u13.2 8 20 (v7 + (1 : Int32)) u13.1 fun M14 => (f_X7_figureOf M14 (1023 : Int32)).bind fun u16 => ul_st u16.2 8 20 (v7 + (2 : Int32)) u16.1 fun M17 => (f_X7_figureOf M17 (15 : Int32)).bind fun u19 => ul_st u19.2 8 20 (v7 + (3 : Int32)) u19.1 fun M20 => ul_bd ((M20 0 3) + (1 : Int32)) fun v22 => ul_bd (ul_up M20 0 3 v22) fun M23 => some M23)) else (f_X7_readPart_j222 p1 M__110)
def f_X7_readPart (M : ul_S) (p1 : Int32) : Option ul_S :=
  if p1 = (76 : Int32) then (if (4 : Int32) ≤ (M 0 2) then (f_X7_readPart_j110 p1 M) else (ul_bd ((M 0 6) + (1 : Int32)) fun v47 => ul_bd (ul_up M 0 6 v47) fun M48 => ul_bd ((3 : Int32) * (M48 0 2)) fun v49 => (f_X7_figureOf M48 ((1023 : Int32) &&& ((M48 0 4) ^^^ (-1 : Int32)))).bind fun u50 => ul_st u50.2 7 12 v49 u50.1 fun M51 => (f_X7_figureOf M51 (1022 : Int32)).bind fun u53 => ul_st u53.2 7 12 (v49 + (1 : Int32)) u53.1 fun M54 => (f_X7_figureOf M54 (15 : Int32)).bind fun u56 => ul_st u56.2 7 12 (v49 + (2 : Int32)) u56.1 fun M57 => ul_ld (M57 7) 12 v49 fun v59 => ul_bd ((M57 0 4) ||| ((1 : Int32) <<< (v59 &&& 31))) fun v61 => ul_bd (ul_up M57 0 4 v61) fun M62 => ul_bd ((M62 0 2) + (1 : Int32)) fun v63 => ul_bd (ul_up M62 0 2 v63) fun M64 => some M64)) else (f_X7_readPart_j110 p1 M)
set_option maxHeartbeats 4000000 in
set_option maxRecDepth 100000 in
theorem c_X7_readPart (l : Launch) (dC : Nat → ClassId) (dI : Nat → Nat → Nat) (cI : ClassId) (cZ : ClassId) (aM : Nat → Nat) (sz : Nat) (M : ul_S) (d : Int64) (p1 : Int32) (r : ul_S) (h : f_X7_readPart M p1 = some r) : Met l yX7_readPart wsX7_readPart ({ frames := 2, cells := 0, slots := 0, locals := 48 }) (va_Pc [.ref (aM 0), .int p1] (ul_pre (dC, dI) [(cI, .int), (cZ, .boolean)] ul_N0 sz (ul_wM cI cZ aM M d))) (va_Qv (fun (_ : Unit) => True) (fun _ => ul_post (dC, dI) [(cI, .int), (cZ, .boolean)] (va_A (ul_wM cI cZ aM M d) sz) (ul_wM cI cZ aM r d)) (va_A (ul_wM cI cZ aM M d) sz)) 0 0 (va_A (ul_wM cI cZ aM M d) sz) := by
  refine Met.ofW (cc := cX7_readPart) (maxL := 3) (ret := none) (by decide) rfl ?_
  intro p e s m args below meth c s₁ B hml hv
  obtain ⟨rfl, hsz, hP, hK, hD0, hN⟩ := hv
  have hx := B.exec
  have hb := B.bytes
  have hr := B.returns
  have hts := atoms_spec (ws := wsX7_readPart) B.pre
  have hown : s.vm.findClass RX7 = some m.cls := findClass_of_methodNamed B.named
  have hlocks := B.notSynchronized
  have hin7 : ∀ w ∈ u_ws RX7 TX7 26, w ∈ wsX7_readPart := by decide +kernel
  subst hsz
  have hD := hD0.self (sz := s.heap.size)
  generalize hAe : va_A (ul_wM cI cZ aM M d) s.heap.size = A at hD ⊢
  have hA : ∀ q : Nat, s.heap.size ≤ q → A q := fun q h => by rw [← hAe]; exact Or.inr h
  have hS : va_S A s.heap s.heap [] := va_S.rf
  have hl := lv_entry ([.ref (aM 0), .int p1]) (n := 3) (Nat.le_of_ble_eq_true rfl)
  rw [lg_entry_eq]
  generalize (lg_sl ([.ref (aM 0), .int p1]) ++ List.replicate (3 - (lg_sl ([.ref (aM 0), .int p1])).length) Slot.unset).toArray = ls at hl ⊢
  have hl : lv_has ls 3 [(0, .ref (aM 0)), (1, .int p1)] := hl
  obtain ⟨K0, hK0, h⟩ := ul_top h
  unfold f_X7_readPart at h
  refine ul_gen (fun G gi ge => ?_)
  obtain ⟨H, eH⟩ : ∃ z, z = s.heap := ⟨_, rfl⟩
  obtain ⟨locs, eL⟩ : ∃ z : List Loc, z = [] := ⟨_, rfl⟩
  have hP : va_P (dC, dI) classes (ul_wM cI cZ aM M d) H := by rw [eH]; exact hP
  have hS : va_S A s.heap H locs := by rw [eH, eL]; exact hS
  rw [← eL]
  refine (show G H locs (F0 m 0 ls []) → G s.heap locs (F0 m 0 ls []) from fun z => by rw [← eH]; exact z) ?_
  have J222 : ∀ (M__222 : ul_S) (H : Heap) (locs : List Loc), ul_H (dC, dI) A s.heap (ul_wM cI cZ aM M__222 d) H locs → ∀ ls : Array Slot, lv_has ls 3 [(0, .ref (aM 0)), (1, .int p1)] → (f_X7_readPart_j222 p1 M__222).bind K0 = some r → G H locs (F0 m 222 ls []) := by
    intro M__222 H locs hw ls hl h
    obtain ⟨hP, hD, hS⟩ := hw
    unfold f_X7_readPart_j222 at h
    refine gi _ _ _ ?_
    refine lv_aload_n hx hb dX7_readPart_222 rfl (lv_at hl 0 rfl) ?_
    refine lv_aload_n hx hb dX7_readPart_223 rfl (lv_at hl 0 rfl) ?_
    refine va_get (D := (dC, dI)) (ci := 7) (v := .int (M__222 0 6)) (C := RX7) (T := TX7) (N := 26) hx hb hts hin7 hown hK hP 0 rfl rfl 15 (by decide) (hts (.fieldLink RX7 66 "UnderLaddersModel" "place" "I") (by decide +kernel)) (fun _ h9 => h9) rfl dX7_readPart_224 ?_
    refine va_put (D := (dC, dI)) (ci := 7) (v := .int (M__222 0 6)) (ty := .int) (C := RX7) (T := TX7) (N := 26) hx hb hts hin7 tyX7 tyX7_ok nmX7 hown hK hP hD hS 0 rfl rfl 16 (by decide) (hts (.fieldLink RX7 63 "UnderLaddersModel" "faultAt" "I") (by decide +kernel)) (fun _ h9 => h9) rfl (by decide +kernel) rfl rfl (Nat.le_of_ble_eq_true rfl) dX7_readPart_227 (fun H locs hP hD hS => ?_)
    obtain ⟨M2, eM2⟩ : ∃ z : ul_S, z = ul_up M__222 0 7 (M__222 0 6) := ⟨_, rfl⟩
    have h := ul_bd_h h M2 eM2
    have hP : va_P (dC, dI) classes (ul_wM cI cZ aM M2 d) H := by rw [eM2]; exact hP
    have hD : va_D A (ul_wM cI cZ aM M2 d) := by rw [eM2]; exact hD
    have hr9 := hK0 M2 h
    subst hr9
    exact W.vret hx hb hr (fun t ht hW => ⟨⟨(), rfl, trivial, by rw [ht]; exact hP, va_K.moved hW.alike hK, hD⟩, hS.F ht⟩) hS.2.2 dX7_readPart_230
  have J110 : ∀ (M__110 : ul_S) (H : Heap) (locs : List Loc), ul_H (dC, dI) A s.heap (ul_wM cI cZ aM M__110 d) H locs → ∀ ls : Array Slot, lv_has ls 3 [(0, .ref (aM 0)), (1, .int p1)] → (f_X7_readPart_j110 p1 M__110).bind K0 = some r → G H locs (F0 m 110 ls []) := by
    intro M__110 H locs hw ls hl h
    obtain ⟨hP, hD, hS⟩ := hw
    unfold f_X7_readPart_j110 at h
    refine gi _ _ _ ?_
    refine lv_iload_n hx hb dX7_readPart_110 rfl (lv_at hl 1 rfl) ?_
    refine lv_bipush (v := 80) hx hb dX7_readPart_111 (by decide) ?_
    refine lv_icmp_ne (tgt := 222) hx hb dX7_readPart_113 (by decide) (fun hc24 => ?_) (fun hc24 => ?_)
    · have h := ul_if_f hc24 h
      exact ge _ _ _ (J222 M__110 H locs ⟨hP, hD, hS⟩ ls (lv_sub hl [0, 1] rfl) h)
    · have h := ul_if_t hc24 h
      refine lv_aload_n hx hb dX7_readPart_116 rfl (lv_at hl 0 rfl) ?_
      refine va_get (D := (dC, dI)) (ci := 7) (v := .int (M__110 0 3)) (C := RX7) (T := TX7) (N := 26) hx hb hts hin7 hown hK hP 0 rfl rfl 11 (by decide) (hts (.fieldLink RX7 78 "UnderLaddersModel" "readPeople" "I") (by decide +kernel)) (fun _ h9 => h9) rfl dX7_readPart_117 ?_
      refine lv_iconst (v := 5) hx hb dX7_readPart_120 (by decide) ?_
      refine lv_icmp_ge (tgt := 222) hx hb dX7_readPart_121 (by decide) (fun hc25 => ?_) (fun hc25 => ?_)
      · have h := ul_if_t hc25 h
        exact ge _ _ _ (J222 M__110 H locs ⟨hP, hD, hS⟩ ls (lv_sub hl [0, 1] rfl) h)
      · have h := ul_if_f hc25 h
        refine lv_aload_n hx hb dX7_readPart_124 rfl (lv_at hl 0 rfl) ?_
        refine lv_dup hx hb dX7_readPart_125 rfl ?_
        refine va_get (D := (dC, dI)) (ci := 7) (v := .int (M__110 0 6)) (C := RX7) (T := TX7) (N := 26) hx hb hts hin7 hown hK hP 0 rfl rfl 15 (by decide) (hts (.fieldLink RX7 66 "UnderLaddersModel" "place" "I") (by decide +kernel)) (fun _ h9 => h9) rfl dX7_readPart_126 ?_
        refine lv_iconst (v := 1) hx hb dX7_readPart_129 (by decide) ?_
        refine lv_iadd hx hb dX7_readPart_130 ?_
        refine lv_topi (fun v26 ev26 => ?_)
        have h := ul_bd_h h v26 ev26
        refine va_put (D := (dC, dI)) (ci := 7) (v := .int v26) (ty := .int) (C := RX7) (T := TX7) (N := 26) hx hb hts hin7 tyX7 tyX7_ok nmX7 hown hK hP hD hS 0 rfl rfl 15 (by decide) (hts (.fieldLink RX7 66 "UnderLaddersModel" "place" "I") (by decide +kernel)) (fun _ h9 => h9) rfl (by decide +kernel) rfl rfl (Nat.le_of_ble_eq_true rfl) dX7_readPart_131 (fun H locs hP hD hS => ?_)
        obtain ⟨M27, eM27⟩ : ∃ z : ul_S, z = ul_up M__110 0 6 v26 := ⟨_, rfl⟩
        have h := ul_bd_h h M27 eM27
        have hP : va_P (dC, dI) classes (ul_wM cI cZ aM M27 d) H := by rw [eM27]; exact hP
        have hD : va_D A (ul_wM cI cZ aM M27 d) := by rw [eM27]; exact hD
        refine lv_iconst (v := 4) hx hb dX7_readPart_134 (by decide) ?_
        refine lv_aload_n hx hb dX7_readPart_135 rfl (lv_at hl 0 rfl) ?_
        refine va_get (D := (dC, dI)) (ci := 7) (v := .int (M27 0 3)) (C := RX7) (T := TX7) (N := 26) hx hb hts hin7 hown hK hP 0 rfl rfl 11 (by decide) (hts (.fieldLink RX7 78 "UnderLaddersModel" "readPeople" "I") (by decide +kernel)) (fun _ h9 => h9) rfl dX7_readPart_136 ?_
        refine lv_imul hx hb dX7_readPart_139 ?_
        refine lv_topi (fun v28 ev28 => ?_)
        have h := ul_bd_h h v28 ev28
        refine lv_istore_n (lv' := [(2, .int v28), (0, .ref (aM 0)), (1, .int p1)]) hx hb dX7_readPart_140 rfl hl (by decide) rfl (fun ls hl => ?_)
        refine lv_aload_n hx hb dX7_readPart_141 rfl (lv_at hl 1 rfl) ?_
        refine va_get (D := (dC, dI)) (ci := 7) (v := .ref (aM 8)) (C := RX7) (T := TX7) (N := 26) hx hb hts hin7 hown hK hP 0 rfl rfl 9 (by decide) (hts (.fieldLink RX7 31 "UnderLaddersModel" "readPerson" "[I") (by decide +kernel)) (fun _ h9 => h9) rfl dX7_readPart_142 ?_
        refine lv_iload_n hx hb dX7_readPart_145 rfl (lv_at hl 0 rfl) ?_
        refine lv_aload_n hx hb dX7_readPart_146 rfl (lv_at hl 1 rfl) ?_
        refine lv_sipush (v := 1023) hx hb dX7_readPart_147 (by decide) ?_
        obtain ⟨u29, hu29, h⟩ := ul_cl_h h
        refine ul_cVi (As := [.int (1023 : Int32)]) (rest := [.int v28, .ref (aM 8)]) (wc' := (ul_wM cI cZ aM u29.2 d)) (wr := []) hP hD hS hK hA [0, 1, 2, 3, 4, 5, 6, 7, 8, 9, 10, 11, 12, 13, 14] [] [0, 1] ul_N0_ok trivial (c_X7_figureOf l dC dI cI cZ aM H.size M27 d (1023 : Int32) u29 hu29) rfl rfl (by decide) rfl (by decide) (by decide) rfl ⟨hx, hb, hml, hown, hts⟩ (cwV 1 hts gX7_readPart_X7_figureOf rfl rfl rfl (by decide +kernel) ⟨Nat.le_of_ble_eq_true rfl, Nat.le_of_ble_eq_true rfl⟩) (va_recv hK hP (ci := 7) (q0 := 0) rfl rfl) rfl hl.1 rfl (Nat.le_of_ble_eq_true rfl) dX7_readPart_150 (fun H locs hw => ?_)
        obtain ⟨hP, hD, hS⟩ := hw
        have hP : va_P (dC, dI) classes (ul_wM cI cZ aM u29.2 d) H := hP
        have hD : va_D A (ul_wM cI cZ aM u29.2 d) := hD
        obtain ⟨hi31, h⟩ := ul_st_h h
        refine va_iast hx hb hK hP hD hS 8 0 rfl rfl hi31 dX7_readPart_153 (fun H locs hP hD hS => ?_)
        obtain ⟨M30, eM30⟩ : ∃ z : ul_S, z = ul_up u29.2 8 v28.toNatClampNeg u29.1 := ⟨_, rfl⟩
        have h := h M30 eM30
        have hP : va_P (dC, dI) classes (ul_wM cI cZ aM M30 d) H := by rw [eM30]; exact hP
        have hD : va_D A (ul_wM cI cZ aM M30 d) := by rw [eM30]; exact hD
        refine lv_aload_n hx hb dX7_readPart_154 rfl (lv_at hl 1 rfl) ?_
        refine va_get (D := (dC, dI)) (ci := 7) (v := .ref (aM 8)) (C := RX7) (T := TX7) (N := 26) hx hb hts hin7 hown hK hP 0 rfl rfl 9 (by decide) (hts (.fieldLink RX7 31 "UnderLaddersModel" "readPerson" "[I") (by decide +kernel)) (fun _ h9 => h9) rfl dX7_readPart_155 ?_
        refine lv_iload_n hx hb dX7_readPart_158 rfl (lv_at hl 0 rfl) ?_
        refine lv_iconst (v := 1) hx hb dX7_readPart_159 (by decide) ?_
        refine lv_iadd hx hb dX7_readPart_160 ?_
        refine lv_aload_n hx hb dX7_readPart_161 rfl (lv_at hl 1 rfl) ?_
        refine lv_sipush (v := 1023) hx hb dX7_readPart_162 (by decide) ?_
        refine lv_iconst (v := 1) hx hb dX7_readPart_165 (by decide) ?_
        refine lv_aload_n hx hb dX7_readPart_166 rfl (lv_at hl 1 rfl) ?_
        refine va_get (D := (dC, dI)) (ci := 7) (v := .ref (aM 8)) (C := RX7) (T := TX7) (N := 26) hx hb hts hin7 hown hK hP 0 rfl rfl 9 (by decide) (hts (.fieldLink RX7 31 "UnderLaddersModel" "readPerson" "[I") (by decide +kernel)) (fun _ h9 => h9) rfl dX7_readPart_167 ?_
        refine lv_iload_n hx hb dX7_readPart_170 rfl (lv_at hl 0 rfl) ?_
        obtain ⟨hi33, h⟩ := ul_ld_h h
        refine va_iald hx hb hK hP 8 0 rfl rfl hi33 dX7_readPart_171 ?_
        refine lv_topi (fun v32 ev32 => ?_)
        have h := h v32 ev32
        refine lv_ishl hx hb dX7_readPart_172 ?_
        refine lv_iconst (v := -1) hx hb dX7_readPart_173 (by decide) ?_
        refine lv_ixor hx hb dX7_readPart_174 ?_
        refine lv_iand hx hb dX7_readPart_175 ?_
        obtain ⟨u34, hu34, h⟩ := ul_cl_h h
        refine ul_cVi (As := [.int ((1023 : Int32) &&& (((1 : Int32) <<< (v32 &&& 31)) ^^^ (-1 : Int32)))]) (rest := [.int (v28 + (1 : Int32)), .ref (aM 8)]) (wc' := (ul_wM cI cZ aM u34.2 d)) (wr := []) hP hD hS hK hA [0, 1, 2, 3, 4, 5, 6, 7, 8, 9, 10, 11, 12, 13, 14] [] [0, 1] ul_N0_ok trivial (c_X7_figureOf l dC dI cI cZ aM H.size M30 d ((1023 : Int32) &&& (((1 : Int32) <<< (v32 &&& 31)) ^^^ (-1 : Int32))) u34 hu34) rfl rfl (by decide) rfl (by decide) (by decide) rfl ⟨hx, hb, hml, hown, hts⟩ (cwV 1 hts gX7_readPart_X7_figureOf rfl rfl rfl (by decide +kernel) ⟨Nat.le_of_ble_eq_true rfl, Nat.le_of_ble_eq_true rfl⟩) (va_recv hK hP (ci := 7) (q0 := 0) rfl rfl) rfl hl.1 rfl (Nat.le_of_ble_eq_true rfl) dX7_readPart_176 (fun H locs hw => ?_)
        obtain ⟨hP, hD, hS⟩ := hw
        have hP : va_P (dC, dI) classes (ul_wM cI cZ aM u34.2 d) H := hP
        have hD : va_D A (ul_wM cI cZ aM u34.2 d) := hD
        obtain ⟨hi36, h⟩ := ul_st_h h
        refine va_iast hx hb hK hP hD hS 8 0 rfl rfl hi36 dX7_readPart_179 (fun H locs hP hD hS => ?_)
        obtain ⟨M35, eM35⟩ : ∃ z : ul_S, z = ul_up u34.2 8 (v28 + (1 : Int32)).toNatClampNeg u34.1 := ⟨_, rfl⟩
        have h := h M35 eM35
        have hP : va_P (dC, dI) classes (ul_wM cI cZ aM M35 d) H := by rw [eM35]; exact hP
        have hD : va_D A (ul_wM cI cZ aM M35 d) := by rw [eM35]; exact hD
        refine lv_aload_n hx hb dX7_readPart_180 rfl (lv_at hl 1 rfl) ?_
        refine va_get (D := (dC, dI)) (ci := 7) (v := .ref (aM 8)) (C := RX7) (T := TX7) (N := 26) hx hb hts hin7 hown hK hP 0 rfl rfl 9 (by decide) (hts (.fieldLink RX7 31 "UnderLaddersModel" "readPerson" "[I") (by decide +kernel)) (fun _ h9 => h9) rfl dX7_readPart_181 ?_
        refine lv_iload_n hx hb dX7_readPart_184 rfl (lv_at hl 0 rfl) ?_
        refine lv_iconst (v := 2) hx hb dX7_readPart_185 (by decide) ?_
        refine lv_iadd hx hb dX7_readPart_186 ?_
        refine lv_aload_n hx hb dX7_readPart_187 rfl (lv_at hl 1 rfl) ?_
        refine lv_sipush (v := 1023) hx hb dX7_readPart_188 (by decide) ?_
        obtain ⟨u37, hu37, h⟩ := ul_cl_h h
        refine ul_cVi (As := [.int (1023 : Int32)]) (rest := [.int (v28 + (2 : Int32)), .ref (aM 8)]) (wc' := (ul_wM cI cZ aM u37.2 d)) (wr := []) hP hD hS hK hA [0, 1, 2, 3, 4, 5, 6, 7, 8, 9, 10, 11, 12, 13, 14] [] [0, 1] ul_N0_ok trivial (c_X7_figureOf l dC dI cI cZ aM H.size M35 d (1023 : Int32) u37 hu37) rfl rfl (by decide) rfl (by decide) (by decide) rfl ⟨hx, hb, hml, hown, hts⟩ (cwV 1 hts gX7_readPart_X7_figureOf rfl rfl rfl (by decide +kernel) ⟨Nat.le_of_ble_eq_true rfl, Nat.le_of_ble_eq_true rfl⟩) (va_recv hK hP (ci := 7) (q0 := 0) rfl rfl) rfl hl.1 rfl (Nat.le_of_ble_eq_true rfl) dX7_readPart_191 (fun H locs hw => ?_)
        obtain ⟨hP, hD, hS⟩ := hw
        have hP : va_P (dC, dI) classes (ul_wM cI cZ aM u37.2 d) H := hP
        have hD : va_D A (ul_wM cI cZ aM u37.2 d) := hD
        obtain ⟨hi39, h⟩ := ul_st_h h
        refine va_iast hx hb hK hP hD hS 8 0 rfl rfl hi39 dX7_readPart_194 (fun H locs hP hD hS => ?_)
        obtain ⟨M38, eM38⟩ : ∃ z : ul_S, z = ul_up u37.2 8 (v28 + (2 : Int32)).toNatClampNeg u37.1 := ⟨_, rfl⟩
        have h := h M38 eM38
        have hP : va_P (dC, dI) classes (ul_wM cI cZ aM M38 d) H := by rw [eM38]; exact hP
        have hD : va_D A (ul_wM cI cZ aM M38 d) := by rw [eM38]; exact hD
        refine lv_aload_n hx hb dX7_readPart_195 rfl (lv_at hl 1 rfl) ?_
        refine va_get (D := (dC, dI)) (ci := 7) (v := .ref (aM 8)) (C := RX7) (T := TX7) (N := 26) hx hb hts hin7 hown hK hP 0 rfl rfl 9 (by decide) (hts (.fieldLink RX7 31 "UnderLaddersModel" "readPerson" "[I") (by decide +kernel)) (fun _ h9 => h9) rfl dX7_readPart_196 ?_
        refine lv_iload_n hx hb dX7_readPart_199 rfl (lv_at hl 0 rfl) ?_
        refine lv_iconst (v := 3) hx hb dX7_readPart_200 (by decide) ?_
        refine lv_iadd hx hb dX7_readPart_201 ?_
        refine lv_aload_n hx hb dX7_readPart_202 rfl (lv_at hl 1 rfl) ?_
        refine lv_bipush (v := 15) hx hb dX7_readPart_203 (by decide) ?_
        obtain ⟨u40, hu40, h⟩ := ul_cl_h h
        refine ul_cVi (As := [.int (15 : Int32)]) (rest := [.int (v28 + (3 : Int32)), .ref (aM 8)]) (wc' := (ul_wM cI cZ aM u40.2 d)) (wr := []) hP hD hS hK hA [0, 1, 2, 3, 4, 5, 6, 7, 8, 9, 10, 11, 12, 13, 14] [] [0, 1] ul_N0_ok trivial (c_X7_figureOf l dC dI cI cZ aM H.size M38 d (15 : Int32) u40 hu40) rfl rfl (by decide) rfl (by decide) (by decide) rfl ⟨hx, hb, hml, hown, hts⟩ (cwV 1 hts gX7_readPart_X7_figureOf rfl rfl rfl (by decide +kernel) ⟨Nat.le_of_ble_eq_true rfl, Nat.le_of_ble_eq_true rfl⟩) (va_recv hK hP (ci := 7) (q0 := 0) rfl rfl) rfl hl.1 rfl (Nat.le_of_ble_eq_true rfl) dX7_readPart_205 (fun H locs hw => ?_)
        obtain ⟨hP, hD, hS⟩ := hw
        have hP : va_P (dC, dI) classes (ul_wM cI cZ aM u40.2 d) H := hP
        have hD : va_D A (ul_wM cI cZ aM u40.2 d) := hD
        obtain ⟨hi42, h⟩ := ul_st_h h
        refine va_iast hx hb hK hP hD hS 8 0 rfl rfl hi42 dX7_readPart_208 (fun H locs hP hD hS => ?_)
        obtain ⟨M41, eM41⟩ : ∃ z : ul_S, z = ul_up u40.2 8 (v28 + (3 : Int32)).toNatClampNeg u40.1 := ⟨_, rfl⟩
        have h := h M41 eM41
        have hP : va_P (dC, dI) classes (ul_wM cI cZ aM M41 d) H := by rw [eM41]; exact hP
        have hD : va_D A (ul_wM cI cZ aM M41 d) := by rw [eM41]; exact hD
        refine lv_aload_n hx hb dX7_readPart_209 rfl (lv_at hl 1 rfl) ?_
        refine lv_dup hx hb dX7_readPart_210 rfl ?_
        refine va_get (D := (dC, dI)) (ci := 7) (v := .int (M41 0 3)) (C := RX7) (T := TX7) (N := 26) hx hb hts hin7 hown hK hP 0 rfl rfl 11 (by decide) (hts (.fieldLink RX7 78 "UnderLaddersModel" "readPeople" "I") (by decide +kernel)) (fun _ h9 => h9) rfl dX7_readPart_211 ?_
        refine lv_iconst (v := 1) hx hb dX7_readPart_214 (by decide) ?_
        refine lv_iadd hx hb dX7_readPart_215 ?_
        refine lv_topi (fun v43 ev43 => ?_)
        have h := ul_bd_h h v43 ev43
        refine va_put (D := (dC, dI)) (ci := 7) (v := .int v43) (ty := .int) (C := RX7) (T := TX7) (N := 26) hx hb hts hin7 tyX7 tyX7_ok nmX7 hown hK hP hD hS 0 rfl rfl 11 (by decide) (hts (.fieldLink RX7 78 "UnderLaddersModel" "readPeople" "I") (by decide +kernel)) (fun _ h9 => h9) rfl (by decide +kernel) rfl rfl (Nat.le_of_ble_eq_true rfl) dX7_readPart_216 (fun H locs hP hD hS => ?_)
        obtain ⟨M44, eM44⟩ : ∃ z : ul_S, z = ul_up M41 0 3 v43 := ⟨_, rfl⟩
        have h := ul_bd_h h M44 eM44
        have hP : va_P (dC, dI) classes (ul_wM cI cZ aM M44 d) H := by rw [eM44]; exact hP
        have hD : va_D A (ul_wM cI cZ aM M44 d) := by rw [eM44]; exact hD
        refine lv_goto (tgt := 230) hx hb dX7_readPart_219 (by decide) ?_
        have hr9 := hK0 M44 h
        subst hr9
        exact W.vret hx hb hr (fun t ht hW => ⟨⟨(), rfl, trivial, by rw [ht]; exact hP, va_K.moved hW.alike hK, hD⟩, hS.F ht⟩) hS.2.2 dX7_readPart_230
  refine gi _ _ _ ?_
  refine lv_iload_n hx hb dX7_readPart_0 rfl (lv_at hl 1 rfl) ?_
  refine lv_bipush (v := 76) hx hb dX7_readPart_1 (by decide) ?_
  refine lv_icmp_ne (tgt := 110) hx hb dX7_readPart_3 (by decide) (fun hc45 => ?_) (fun hc45 => ?_)
  · have h := ul_if_f hc45 h
    exact ge _ _ _ (J110 M H locs ⟨hP, hD, hS⟩ ls (lv_sub hl [0, 1] rfl) h)
  · have h := ul_if_t hc45 h
    refine lv_aload_n hx hb dX7_readPart_6 rfl (lv_at hl 0 rfl) ?_
    refine va_get (D := (dC, dI)) (ci := 7) (v := .int (M 0 2)) (C := RX7) (T := TX7) (N := 26) hx hb hts hin7 hown hK hP 0 rfl rfl 10 (by decide) (hts (.fieldLink RX7 75 "UnderLaddersModel" "readLadders" "I") (by decide +kernel)) (fun _ h9 => h9) rfl dX7_readPart_7 ?_
    refine lv_iconst (v := 4) hx hb dX7_readPart_10 (by decide) ?_
    refine lv_icmp_ge (tgt := 110) hx hb dX7_readPart_11 (by decide) (fun hc46 => ?_) (fun hc46 => ?_)
    · have h := ul_if_t hc46 h
      exact ge _ _ _ (J110 M H locs ⟨hP, hD, hS⟩ ls (lv_sub hl [0, 1] rfl) h)
    · have h := ul_if_f hc46 h
      refine lv_aload_n hx hb dX7_readPart_14 rfl (lv_at hl 0 rfl) ?_
      refine lv_dup hx hb dX7_readPart_15 rfl ?_
      refine va_get (D := (dC, dI)) (ci := 7) (v := .int (M 0 6)) (C := RX7) (T := TX7) (N := 26) hx hb hts hin7 hown hK hP 0 rfl rfl 15 (by decide) (hts (.fieldLink RX7 66 "UnderLaddersModel" "place" "I") (by decide +kernel)) (fun _ h9 => h9) rfl dX7_readPart_16 ?_
      refine lv_iconst (v := 1) hx hb dX7_readPart_19 (by decide) ?_
      refine lv_iadd hx hb dX7_readPart_20 ?_
      refine lv_topi (fun v47 ev47 => ?_)
      have h := ul_bd_h h v47 ev47
      refine va_put (D := (dC, dI)) (ci := 7) (v := .int v47) (ty := .int) (C := RX7) (T := TX7) (N := 26) hx hb hts hin7 tyX7 tyX7_ok nmX7 hown hK hP hD hS 0 rfl rfl 15 (by decide) (hts (.fieldLink RX7 66 "UnderLaddersModel" "place" "I") (by decide +kernel)) (fun _ h9 => h9) rfl (by decide +kernel) rfl rfl (Nat.le_of_ble_eq_true rfl) dX7_readPart_21 (fun H locs hP hD hS => ?_)
      obtain ⟨M48, eM48⟩ : ∃ z : ul_S, z = ul_up M 0 6 v47 := ⟨_, rfl⟩
      have h := ul_bd_h h M48 eM48
      have hP : va_P (dC, dI) classes (ul_wM cI cZ aM M48 d) H := by rw [eM48]; exact hP
      have hD : va_D A (ul_wM cI cZ aM M48 d) := by rw [eM48]; exact hD
      refine lv_iconst (v := 3) hx hb dX7_readPart_24 (by decide) ?_
      refine lv_aload_n hx hb dX7_readPart_25 rfl (lv_at hl 0 rfl) ?_
      refine va_get (D := (dC, dI)) (ci := 7) (v := .int (M48 0 2)) (C := RX7) (T := TX7) (N := 26) hx hb hts hin7 hown hK hP 0 rfl rfl 10 (by decide) (hts (.fieldLink RX7 75 "UnderLaddersModel" "readLadders" "I") (by decide +kernel)) (fun _ h9 => h9) rfl dX7_readPart_26 ?_
      refine lv_imul hx hb dX7_readPart_29 ?_
      refine lv_topi (fun v49 ev49 => ?_)
      have h := ul_bd_h h v49 ev49
      refine lv_istore_n (lv' := [(2, .int v49), (0, .ref (aM 0)), (1, .int p1)]) hx hb dX7_readPart_30 rfl hl (by decide) rfl (fun ls hl => ?_)
      refine lv_aload_n hx hb dX7_readPart_31 rfl (lv_at hl 1 rfl) ?_
      refine va_get (D := (dC, dI)) (ci := 7) (v := .ref (aM 7)) (C := RX7) (T := TX7) (N := 26) hx hb hts hin7 hown hK hP 0 rfl rfl 8 (by decide) (hts (.fieldLink RX7 28 "UnderLaddersModel" "readLadder" "[I") (by decide +kernel)) (fun _ h9 => h9) rfl dX7_readPart_32 ?_
      refine lv_iload_n hx hb dX7_readPart_35 rfl (lv_at hl 0 rfl) ?_
      refine lv_aload_n hx hb dX7_readPart_36 rfl (lv_at hl 1 rfl) ?_
      refine lv_sipush (v := 1023) hx hb dX7_readPart_37 (by decide) ?_
      refine lv_aload_n hx hb dX7_readPart_40 rfl (lv_at hl 1 rfl) ?_
      refine va_get (D := (dC, dI)) (ci := 7) (v := .int (M48 0 4)) (C := RX7) (T := TX7) (N := 26) hx hb hts hin7 hown hK hP 0 rfl rfl 12 (by decide) (hts (.fieldLink RX7 81 "UnderLaddersModel" "readPlaces" "I") (by decide +kernel)) (fun _ h9 => h9) rfl dX7_readPart_41 ?_
      refine lv_iconst (v := -1) hx hb dX7_readPart_44 (by decide) ?_
      refine lv_ixor hx hb dX7_readPart_45 ?_
      refine lv_iand hx hb dX7_readPart_46 ?_
      obtain ⟨u50, hu50, h⟩ := ul_cl_h h
      refine ul_cVi (As := [.int ((1023 : Int32) &&& ((M48 0 4) ^^^ (-1 : Int32)))]) (rest := [.int v49, .ref (aM 7)]) (wc' := (ul_wM cI cZ aM u50.2 d)) (wr := []) hP hD hS hK hA [0, 1, 2, 3, 4, 5, 6, 7, 8, 9, 10, 11, 12, 13, 14] [] [0, 1] ul_N0_ok trivial (c_X7_figureOf l dC dI cI cZ aM H.size M48 d ((1023 : Int32) &&& ((M48 0 4) ^^^ (-1 : Int32))) u50 hu50) rfl rfl (by decide) rfl (by decide) (by decide) rfl ⟨hx, hb, hml, hown, hts⟩ (cwV 1 hts gX7_readPart_X7_figureOf rfl rfl rfl (by decide +kernel) ⟨Nat.le_of_ble_eq_true rfl, Nat.le_of_ble_eq_true rfl⟩) (va_recv hK hP (ci := 7) (q0 := 0) rfl rfl) rfl hl.1 rfl (Nat.le_of_ble_eq_true rfl) dX7_readPart_47 (fun H locs hw => ?_)
      obtain ⟨hP, hD, hS⟩ := hw
      have hP : va_P (dC, dI) classes (ul_wM cI cZ aM u50.2 d) H := hP
      have hD : va_D A (ul_wM cI cZ aM u50.2 d) := hD
      obtain ⟨hi52, h⟩ := ul_st_h h
      refine va_iast hx hb hK hP hD hS 7 0 rfl rfl hi52 dX7_readPart_50 (fun H locs hP hD hS => ?_)
      obtain ⟨M51, eM51⟩ : ∃ z : ul_S, z = ul_up u50.2 7 v49.toNatClampNeg u50.1 := ⟨_, rfl⟩
      have h := h M51 eM51
      have hP : va_P (dC, dI) classes (ul_wM cI cZ aM M51 d) H := by rw [eM51]; exact hP
      have hD : va_D A (ul_wM cI cZ aM M51 d) := by rw [eM51]; exact hD
      refine lv_aload_n hx hb dX7_readPart_51 rfl (lv_at hl 1 rfl) ?_
      refine va_get (D := (dC, dI)) (ci := 7) (v := .ref (aM 7)) (C := RX7) (T := TX7) (N := 26) hx hb hts hin7 hown hK hP 0 rfl rfl 8 (by decide) (hts (.fieldLink RX7 28 "UnderLaddersModel" "readLadder" "[I") (by decide +kernel)) (fun _ h9 => h9) rfl dX7_readPart_52 ?_
      refine lv_iload_n hx hb dX7_readPart_55 rfl (lv_at hl 0 rfl) ?_
      refine lv_iconst (v := 1) hx hb dX7_readPart_56 (by decide) ?_
      refine lv_iadd hx hb dX7_readPart_57 ?_
      refine lv_aload_n hx hb dX7_readPart_58 rfl (lv_at hl 1 rfl) ?_
      refine lv_sipush (v := 1022) hx hb dX7_readPart_59 (by decide) ?_
      obtain ⟨u53, hu53, h⟩ := ul_cl_h h
      refine ul_cVi (As := [.int (1022 : Int32)]) (rest := [.int (v49 + (1 : Int32)), .ref (aM 7)]) (wc' := (ul_wM cI cZ aM u53.2 d)) (wr := []) hP hD hS hK hA [0, 1, 2, 3, 4, 5, 6, 7, 8, 9, 10, 11, 12, 13, 14] [] [0, 1] ul_N0_ok trivial (c_X7_figureOf l dC dI cI cZ aM H.size M51 d (1022 : Int32) u53 hu53) rfl rfl (by decide) rfl (by decide) (by decide) rfl ⟨hx, hb, hml, hown, hts⟩ (cwV 1 hts gX7_readPart_X7_figureOf rfl rfl rfl (by decide +kernel) ⟨Nat.le_of_ble_eq_true rfl, Nat.le_of_ble_eq_true rfl⟩) (va_recv hK hP (ci := 7) (q0 := 0) rfl rfl) rfl hl.1 rfl (Nat.le_of_ble_eq_true rfl) dX7_readPart_62 (fun H locs hw => ?_)
      obtain ⟨hP, hD, hS⟩ := hw
      have hP : va_P (dC, dI) classes (ul_wM cI cZ aM u53.2 d) H := hP
      have hD : va_D A (ul_wM cI cZ aM u53.2 d) := hD
      obtain ⟨hi55, h⟩ := ul_st_h h
      refine va_iast hx hb hK hP hD hS 7 0 rfl rfl hi55 dX7_readPart_65 (fun H locs hP hD hS => ?_)
      obtain ⟨M54, eM54⟩ : ∃ z : ul_S, z = ul_up u53.2 7 (v49 + (1 : Int32)).toNatClampNeg u53.1 := ⟨_, rfl⟩
      have h := h M54 eM54
      have hP : va_P (dC, dI) classes (ul_wM cI cZ aM M54 d) H := by rw [eM54]; exact hP
      have hD : va_D A (ul_wM cI cZ aM M54 d) := by rw [eM54]; exact hD
      refine lv_aload_n hx hb dX7_readPart_66 rfl (lv_at hl 1 rfl) ?_
      refine va_get (D := (dC, dI)) (ci := 7) (v := .ref (aM 7)) (C := RX7) (T := TX7) (N := 26) hx hb hts hin7 hown hK hP 0 rfl rfl 8 (by decide) (hts (.fieldLink RX7 28 "UnderLaddersModel" "readLadder" "[I") (by decide +kernel)) (fun _ h9 => h9) rfl dX7_readPart_67 ?_
      refine lv_iload_n hx hb dX7_readPart_70 rfl (lv_at hl 0 rfl) ?_
      refine lv_iconst (v := 2) hx hb dX7_readPart_71 (by decide) ?_
      refine lv_iadd hx hb dX7_readPart_72 ?_
      refine lv_aload_n hx hb dX7_readPart_73 rfl (lv_at hl 1 rfl) ?_
      refine lv_bipush (v := 15) hx hb dX7_readPart_74 (by decide) ?_
      obtain ⟨u56, hu56, h⟩ := ul_cl_h h
      refine ul_cVi (As := [.int (15 : Int32)]) (rest := [.int (v49 + (2 : Int32)), .ref (aM 7)]) (wc' := (ul_wM cI cZ aM u56.2 d)) (wr := []) hP hD hS hK hA [0, 1, 2, 3, 4, 5, 6, 7, 8, 9, 10, 11, 12, 13, 14] [] [0, 1] ul_N0_ok trivial (c_X7_figureOf l dC dI cI cZ aM H.size M54 d (15 : Int32) u56 hu56) rfl rfl (by decide) rfl (by decide) (by decide) rfl ⟨hx, hb, hml, hown, hts⟩ (cwV 1 hts gX7_readPart_X7_figureOf rfl rfl rfl (by decide +kernel) ⟨Nat.le_of_ble_eq_true rfl, Nat.le_of_ble_eq_true rfl⟩) (va_recv hK hP (ci := 7) (q0 := 0) rfl rfl) rfl hl.1 rfl (Nat.le_of_ble_eq_true rfl) dX7_readPart_76 (fun H locs hw => ?_)
      obtain ⟨hP, hD, hS⟩ := hw
      have hP : va_P (dC, dI) classes (ul_wM cI cZ aM u56.2 d) H := hP
      have hD : va_D A (ul_wM cI cZ aM u56.2 d) := hD
      obtain ⟨hi58, h⟩ := ul_st_h h
      refine va_iast hx hb hK hP hD hS 7 0 rfl rfl hi58 dX7_readPart_79 (fun H locs hP hD hS => ?_)
      obtain ⟨M57, eM57⟩ : ∃ z : ul_S, z = ul_up u56.2 7 (v49 + (2 : Int32)).toNatClampNeg u56.1 := ⟨_, rfl⟩
      have h := h M57 eM57
      have hP : va_P (dC, dI) classes (ul_wM cI cZ aM M57 d) H := by rw [eM57]; exact hP
      have hD : va_D A (ul_wM cI cZ aM M57 d) := by rw [eM57]; exact hD
      refine lv_aload_n hx hb dX7_readPart_80 rfl (lv_at hl 1 rfl) ?_
      refine lv_dup hx hb dX7_readPart_81 rfl ?_
      refine va_get (D := (dC, dI)) (ci := 7) (v := .int (M57 0 4)) (C := RX7) (T := TX7) (N := 26) hx hb hts hin7 hown hK hP 0 rfl rfl 12 (by decide) (hts (.fieldLink RX7 81 "UnderLaddersModel" "readPlaces" "I") (by decide +kernel)) (fun _ h9 => h9) rfl dX7_readPart_82 ?_
      refine lv_iconst (v := 1) hx hb dX7_readPart_85 (by decide) ?_
      refine lv_aload_n hx hb dX7_readPart_86 rfl (lv_at hl 1 rfl) ?_
      refine va_get (D := (dC, dI)) (ci := 7) (v := .ref (aM 7)) (C := RX7) (T := TX7) (N := 26) hx hb hts hin7 hown hK hP 0 rfl rfl 8 (by decide) (hts (.fieldLink RX7 28 "UnderLaddersModel" "readLadder" "[I") (by decide +kernel)) (fun _ h9 => h9) rfl dX7_readPart_87 ?_
      refine lv_iload_n hx hb dX7_readPart_90 rfl (lv_at hl 0 rfl) ?_
      obtain ⟨hi60, h⟩ := ul_ld_h h
      refine va_iald hx hb hK hP 7 0 rfl rfl hi60 dX7_readPart_91 ?_
      refine lv_topi (fun v59 ev59 => ?_)
      have h := h v59 ev59
      refine lv_ishl hx hb dX7_readPart_92 ?_
      refine lv_ior hx hb dX7_readPart_93 ?_
      refine lv_topi (fun v61 ev61 => ?_)
      have h := ul_bd_h h v61 ev61
      refine va_put (D := (dC, dI)) (ci := 7) (v := .int v61) (ty := .int) (C := RX7) (T := TX7) (N := 26) hx hb hts hin7 tyX7 tyX7_ok nmX7 hown hK hP hD hS 0 rfl rfl 12 (by decide) (hts (.fieldLink RX7 81 "UnderLaddersModel" "readPlaces" "I") (by decide +kernel)) (fun _ h9 => h9) rfl (by decide +kernel) rfl rfl (Nat.le_of_ble_eq_true rfl) dX7_readPart_94 (fun H locs hP hD hS => ?_)
      obtain ⟨M62, eM62⟩ : ∃ z : ul_S, z = ul_up M57 0 4 v61 := ⟨_, rfl⟩
      have h := ul_bd_h h M62 eM62
      have hP : va_P (dC, dI) classes (ul_wM cI cZ aM M62 d) H := by rw [eM62]; exact hP
      have hD : va_D A (ul_wM cI cZ aM M62 d) := by rw [eM62]; exact hD
      refine lv_aload_n hx hb dX7_readPart_97 rfl (lv_at hl 1 rfl) ?_
      refine lv_dup hx hb dX7_readPart_98 rfl ?_
      refine va_get (D := (dC, dI)) (ci := 7) (v := .int (M62 0 2)) (C := RX7) (T := TX7) (N := 26) hx hb hts hin7 hown hK hP 0 rfl rfl 10 (by decide) (hts (.fieldLink RX7 75 "UnderLaddersModel" "readLadders" "I") (by decide +kernel)) (fun _ h9 => h9) rfl dX7_readPart_99 ?_
      refine lv_iconst (v := 1) hx hb dX7_readPart_102 (by decide) ?_
      refine lv_iadd hx hb dX7_readPart_103 ?_
      refine lv_topi (fun v63 ev63 => ?_)
      have h := ul_bd_h h v63 ev63
      refine va_put (D := (dC, dI)) (ci := 7) (v := .int v63) (ty := .int) (C := RX7) (T := TX7) (N := 26) hx hb hts hin7 tyX7 tyX7_ok nmX7 hown hK hP hD hS 0 rfl rfl 10 (by decide) (hts (.fieldLink RX7 75 "UnderLaddersModel" "readLadders" "I") (by decide +kernel)) (fun _ h9 => h9) rfl (by decide +kernel) rfl rfl (Nat.le_of_ble_eq_true rfl) dX7_readPart_104 (fun H locs hP hD hS => ?_)
      obtain ⟨M64, eM64⟩ : ∃ z : ul_S, z = ul_up M62 0 2 v63 := ⟨_, rfl⟩
      have h := ul_bd_h h M64 eM64
      have hP : va_P (dC, dI) classes (ul_wM cI cZ aM M64 d) H := by rw [eM64]; exact hP
      have hD : va_D A (ul_wM cI cZ aM M64 d) := by rw [eM64]; exact hD
      refine lv_goto (tgt := 230) hx hb dX7_readPart_107 (by decide) ?_
      have hr9 := hK0 M64 h
      subst hr9
      exact W.vret hx hb hr (fun t ht hW => ⟨⟨(), rfl, trivial, by rw [ht]; exact hP, va_K.moved hW.alike hK, hD⟩, hS.F ht⟩) hS.2.2 dX7_readPart_230
def f_X7_readText_j87 (M__87 : ul_S) : Option (Int32 × ul_S) :=
  some ((M__87 0 7), M__87)
def f_X7_readText_L51 (q51 : ul_S) : Option (ul_S ⊕ ul_S) :=
  if (q51 0 7) = (-9 : Int32) then (if (q51 0 5) ≤ (q51 0 6) then (some (.inl q51)) else (ul_ld (q51 9) 48 (q51 0 6) fun v13 => (f_X7_readPart q51 v13).bind fun u15 => some (.inr u15))) else (some (.inl q51))
def f_X7_readText (M : ul_S) : Option (Int32 × ul_S) :=
  ul_bd (ul_up M 0 6 (0 : Int32)) fun M1 => ul_bd (ul_up M1 0 7 (-9 : Int32)) fun M2 => ul_bd (ul_up M2 0 2 (0 : Int32)) fun M3 => ul_bd (ul_up M3 0 3 (0 : Int32)) fun M4 => ul_bd (ul_up M4 0 4 (0 : Int32)) fun M5 => if (M5 0 5) = 0 then (some ((0 : Int32), M5)) else (ul_ld (M5 9) 48 (0 : Int32) fun v7 => if v7 = (77 : Int32) then (ul_bd (ul_up M5 0 6 (1 : Int32)) fun M10 => (ul_it ul_N (f_X7_readText_L51) M10).bind (fun e51 => f_X7_readText_j87 e51)) else (some ((0 : Int32), M5)))
set_option maxHeartbeats 4000000 in
set_option maxRecDepth 100000 in
theorem c_X7_readText (l : Launch) (dC : Nat → ClassId) (dI : Nat → Nat → Nat) (cI : ClassId) (cZ : ClassId) (aM : Nat → Nat) (sz : Nat) (M : ul_S) (d : Int64) (r : (Int32 × ul_S)) (h : f_X7_readText M = some r) : Met l yX7_readText wsX7_readText ({ frames := 3, cells := 0, slots := 0, locals := 70 }) (va_Pc [.ref (aM 0)] (ul_pre (dC, dI) [(cI, .int), (cZ, .boolean)] ul_N0 sz (ul_wM cI cZ aM M d))) (va_Qi (fun v (_ : Unit) => v = r.1) (fun _ => ul_post (dC, dI) [(cI, .int), (cZ, .boolean)] (va_A (ul_wM cI cZ aM M d) sz) (ul_wM cI cZ aM r.2 d)) (va_A (ul_wM cI cZ aM M d) sz)) 0 0 (va_A (ul_wM cI cZ aM M d) sz) := by
  refine Met.ofW (cc := cX7_readText) (maxL := 1) (ret := (some .int)) (by decide) rfl ?_
  intro p e s m args below meth c s₁ B hml hv
  obtain ⟨rfl, hsz, hP, hK, hD0, hN⟩ := hv
  have hx := B.exec
  have hb := B.bytes
  have hr := B.returns
  have hts := atoms_spec (ws := wsX7_readText) B.pre
  have hown : s.vm.findClass RX7 = some m.cls := findClass_of_methodNamed B.named
  have hlocks := B.notSynchronized
  have hin7 : ∀ w ∈ u_ws RX7 TX7 26, w ∈ wsX7_readText := by decide +kernel
  subst hsz
  have hD := hD0.self (sz := s.heap.size)
  generalize hAe : va_A (ul_wM cI cZ aM M d) s.heap.size = A at hD ⊢
  have hA : ∀ q : Nat, s.heap.size ≤ q → A q := fun q h => by rw [← hAe]; exact Or.inr h
  have hS : va_S A s.heap s.heap [] := va_S.rf
  have hl := lv_entry ([.ref (aM 0)]) (n := 1) (Nat.le_of_ble_eq_true rfl)
  rw [lg_entry_eq]
  generalize (lg_sl ([.ref (aM 0)]) ++ List.replicate (1 - (lg_sl ([.ref (aM 0)])).length) Slot.unset).toArray = ls at hl ⊢
  have hl : lv_has ls 1 [(0, .ref (aM 0))] := hl
  obtain ⟨K0, hK0, h⟩ := ul_top h
  unfold f_X7_readText at h
  refine ul_gen (fun G gi ge => ?_)
  obtain ⟨H, eH⟩ : ∃ z, z = s.heap := ⟨_, rfl⟩
  obtain ⟨locs, eL⟩ : ∃ z : List Loc, z = [] := ⟨_, rfl⟩
  have hP : va_P (dC, dI) classes (ul_wM cI cZ aM M d) H := by rw [eH]; exact hP
  have hS : va_S A s.heap H locs := by rw [eH, eL]; exact hS
  rw [← eL]
  refine (show G H locs (F0 m 0 ls []) → G s.heap locs (F0 m 0 ls []) from fun z => by rw [← eH]; exact z) ?_
  have J87 : ∀ (M__87 : ul_S) (H : Heap) (locs : List Loc), ul_H (dC, dI) A s.heap (ul_wM cI cZ aM M__87 d) H locs → ∀ ls : Array Slot, lv_has ls 1 [(0, .ref (aM 0))] → (f_X7_readText_j87 M__87).bind K0 = some r → G H locs (F0 m 87 ls []) := by
    intro M__87 H locs hw ls hl h
    obtain ⟨hP, hD, hS⟩ := hw
    unfold f_X7_readText_j87 at h
    refine gi _ _ _ ?_
    refine lv_aload_n hx hb dX7_readText_87 rfl (lv_at hl 0 rfl) ?_
    refine va_get (D := (dC, dI)) (ci := 7) (v := .int (M__87 0 7)) (C := RX7) (T := TX7) (N := 26) hx hb hts hin7 hown hK hP 0 rfl rfl 16 (by decide) (hts (.fieldLink RX7 63 "UnderLaddersModel" "faultAt" "I") (by decide +kernel)) (fun _ h9 => h9) rfl dX7_readText_88 ?_
    have hr9 := hK0 ((M__87 0 7), M__87) h
    subst hr9
    exact W.iret (v := (M__87 0 7)) hx hb hr (fun t ht hW => ⟨⟨(M__87 0 7), (), rfl, rfl, by rw [ht]; exact hP, va_K.moved hW.alike hK, hD⟩, hS.F ht⟩) hS.2.2 dX7_readText_91
  refine gi _ _ _ ?_
  refine lv_aload_n hx hb dX7_readText_0 rfl (lv_at hl 0 rfl) ?_
  refine lv_iconst (v := 0) hx hb dX7_readText_1 (by decide) ?_
  refine va_put (D := (dC, dI)) (ci := 7) (v := .int (0 : Int32)) (ty := .int) (C := RX7) (T := TX7) (N := 26) hx hb hts hin7 tyX7 tyX7_ok nmX7 hown hK hP hD hS 0 rfl rfl 15 (by decide) (hts (.fieldLink RX7 66 "UnderLaddersModel" "place" "I") (by decide +kernel)) (fun _ h9 => h9) rfl (by decide +kernel) rfl rfl (Nat.le_of_ble_eq_true rfl) dX7_readText_2 (fun H locs hP hD hS => ?_)
  obtain ⟨M1, eM1⟩ : ∃ z : ul_S, z = ul_up M 0 6 (0 : Int32) := ⟨_, rfl⟩
  have h := ul_bd_h h M1 eM1
  have hP : va_P (dC, dI) classes (ul_wM cI cZ aM M1 d) H := by rw [eM1]; exact hP
  have hD : va_D A (ul_wM cI cZ aM M1 d) := by rw [eM1]; exact hD
  refine lv_aload_n hx hb dX7_readText_5 rfl (lv_at hl 0 rfl) ?_
  refine lv_bipush (v := -9) hx hb dX7_readText_6 (by decide) ?_
  refine va_put (D := (dC, dI)) (ci := 7) (v := .int (-9 : Int32)) (ty := .int) (C := RX7) (T := TX7) (N := 26) hx hb hts hin7 tyX7 tyX7_ok nmX7 hown hK hP hD hS 0 rfl rfl 16 (by decide) (hts (.fieldLink RX7 63 "UnderLaddersModel" "faultAt" "I") (by decide +kernel)) (fun _ h9 => h9) rfl (by decide +kernel) rfl rfl (Nat.le_of_ble_eq_true rfl) dX7_readText_8 (fun H locs hP hD hS => ?_)
  obtain ⟨M2, eM2⟩ : ∃ z : ul_S, z = ul_up M1 0 7 (-9 : Int32) := ⟨_, rfl⟩
  have h := ul_bd_h h M2 eM2
  have hP : va_P (dC, dI) classes (ul_wM cI cZ aM M2 d) H := by rw [eM2]; exact hP
  have hD : va_D A (ul_wM cI cZ aM M2 d) := by rw [eM2]; exact hD
  refine lv_aload_n hx hb dX7_readText_11 rfl (lv_at hl 0 rfl) ?_
  refine lv_iconst (v := 0) hx hb dX7_readText_12 (by decide) ?_
  refine va_put (D := (dC, dI)) (ci := 7) (v := .int (0 : Int32)) (ty := .int) (C := RX7) (T := TX7) (N := 26) hx hb hts hin7 tyX7 tyX7_ok nmX7 hown hK hP hD hS 0 rfl rfl 10 (by decide) (hts (.fieldLink RX7 75 "UnderLaddersModel" "readLadders" "I") (by decide +kernel)) (fun _ h9 => h9) rfl (by decide +kernel) rfl rfl (Nat.le_of_ble_eq_true rfl) dX7_readText_13 (fun H locs hP hD hS => ?_)
  obtain ⟨M3, eM3⟩ : ∃ z : ul_S, z = ul_up M2 0 2 (0 : Int32) := ⟨_, rfl⟩
  have h := ul_bd_h h M3 eM3
  have hP : va_P (dC, dI) classes (ul_wM cI cZ aM M3 d) H := by rw [eM3]; exact hP
  have hD : va_D A (ul_wM cI cZ aM M3 d) := by rw [eM3]; exact hD
  refine lv_aload_n hx hb dX7_readText_16 rfl (lv_at hl 0 rfl) ?_
  refine lv_iconst (v := 0) hx hb dX7_readText_17 (by decide) ?_
  refine va_put (D := (dC, dI)) (ci := 7) (v := .int (0 : Int32)) (ty := .int) (C := RX7) (T := TX7) (N := 26) hx hb hts hin7 tyX7 tyX7_ok nmX7 hown hK hP hD hS 0 rfl rfl 11 (by decide) (hts (.fieldLink RX7 78 "UnderLaddersModel" "readPeople" "I") (by decide +kernel)) (fun _ h9 => h9) rfl (by decide +kernel) rfl rfl (Nat.le_of_ble_eq_true rfl) dX7_readText_18 (fun H locs hP hD hS => ?_)
  obtain ⟨M4, eM4⟩ : ∃ z : ul_S, z = ul_up M3 0 3 (0 : Int32) := ⟨_, rfl⟩
  have h := ul_bd_h h M4 eM4
  have hP : va_P (dC, dI) classes (ul_wM cI cZ aM M4 d) H := by rw [eM4]; exact hP
  have hD : va_D A (ul_wM cI cZ aM M4 d) := by rw [eM4]; exact hD
  refine lv_aload_n hx hb dX7_readText_21 rfl (lv_at hl 0 rfl) ?_
  refine lv_iconst (v := 0) hx hb dX7_readText_22 (by decide) ?_
  refine va_put (D := (dC, dI)) (ci := 7) (v := .int (0 : Int32)) (ty := .int) (C := RX7) (T := TX7) (N := 26) hx hb hts hin7 tyX7 tyX7_ok nmX7 hown hK hP hD hS 0 rfl rfl 12 (by decide) (hts (.fieldLink RX7 81 "UnderLaddersModel" "readPlaces" "I") (by decide +kernel)) (fun _ h9 => h9) rfl (by decide +kernel) rfl rfl (Nat.le_of_ble_eq_true rfl) dX7_readText_23 (fun H locs hP hD hS => ?_)
  obtain ⟨M5, eM5⟩ : ∃ z : ul_S, z = ul_up M4 0 4 (0 : Int32) := ⟨_, rfl⟩
  have h := ul_bd_h h M5 eM5
  have hP : va_P (dC, dI) classes (ul_wM cI cZ aM M5 d) H := by rw [eM5]; exact hP
  have hD : va_D A (ul_wM cI cZ aM M5 d) := by rw [eM5]; exact hD
  refine lv_aload_n hx hb dX7_readText_26 rfl (lv_at hl 0 rfl) ?_
  refine va_get (D := (dC, dI)) (ci := 7) (v := .int (M5 0 5)) (C := RX7) (T := TX7) (N := 26) hx hb hts hin7 hown hK hP 0 rfl rfl 14 (by decide) (hts (.fieldLink RX7 59 "UnderLaddersModel" "length" "I") (by decide +kernel)) (fun _ h9 => h9) rfl dX7_readText_27 ?_
  refine lv_if_eq (tgt := 44) hx hb dX7_readText_30 (by decide) (fun hc6 => ?_) (fun hc6 => ?_)
  · have h := ul_if_t hc6 h
    refine lv_iconst (v := 0) hx hb dX7_readText_44 (by decide) ?_
    have hr9 := hK0 ((0 : Int32), M5) h
    subst hr9
    exact W.iret (v := (0 : Int32)) hx hb hr (fun t ht hW => ⟨⟨(0 : Int32), (), rfl, rfl, by rw [ht]; exact hP, va_K.moved hW.alike hK, hD⟩, hS.F ht⟩) hS.2.2 dX7_readText_45
  · have h := ul_if_f hc6 h
    refine lv_aload_n hx hb dX7_readText_33 rfl (lv_at hl 0 rfl) ?_
    refine va_get (D := (dC, dI)) (ci := 7) (v := .ref (aM 9)) (C := RX7) (T := TX7) (N := 26) hx hb hts hin7 hown hK hP 0 rfl rfl 13 (by decide) (hts (.fieldLink RX7 34 "UnderLaddersModel" "text" "[I") (by decide +kernel)) (fun _ h9 => h9) rfl dX7_readText_34 ?_
    refine lv_iconst (v := 0) hx hb dX7_readText_37 (by decide) ?_
    obtain ⟨hi8, h⟩ := ul_ld_h h
    refine va_iald hx hb hK hP 9 0 rfl rfl hi8 dX7_readText_38 ?_
    refine lv_topi (fun v7 ev7 => ?_)
    have h := h v7 ev7
    refine lv_bipush (v := 77) hx hb dX7_readText_39 (by decide) ?_
    refine lv_icmp_eq (tgt := 46) hx hb dX7_readText_41 (by decide) (fun hc9 => ?_) (fun hc9 => ?_)
    · have h := ul_if_t hc9 h
      refine lv_aload_n hx hb dX7_readText_46 rfl (lv_at hl 0 rfl) ?_
      refine lv_iconst (v := 1) hx hb dX7_readText_47 (by decide) ?_
      refine va_put (D := (dC, dI)) (ci := 7) (v := .int (1 : Int32)) (ty := .int) (C := RX7) (T := TX7) (N := 26) hx hb hts hin7 tyX7 tyX7_ok nmX7 hown hK hP hD hS 0 rfl rfl 15 (by decide) (hts (.fieldLink RX7 66 "UnderLaddersModel" "place" "I") (by decide +kernel)) (fun _ h9 => h9) rfl (by decide +kernel) rfl rfl (Nat.le_of_ble_eq_true rfl) dX7_readText_48 (fun H locs hP hD hS => ?_)
      obtain ⟨M10, eM10⟩ : ∃ z : ul_S, z = ul_up M5 0 6 (1 : Int32) := ⟨_, rfl⟩
      have h := ul_bd_h h M10 eM10
      have hP : va_P (dC, dI) classes (ul_wM cI cZ aM M10 d) H := by rw [eM10]; exact hP
      have hD : va_D A (ul_wM cI cZ aM M10 d) := by rw [eM10]; exact hD
      refine ge _ _ _ (ul_loop (P := fun q51 => ∀ (H : Heap) (locs : List Loc), ul_H (dC, dI) A s.heap (ul_wM cI cZ aM q51 d) H locs → ∀ ls : Array Slot, lv_has ls 1 [(0, .ref (aM 0))] → G H locs (F0 m 51 ls [])) ?_ _ _ (ul_it_h h) H locs ⟨hP, hD, hS⟩ ls (lv_sub hl [0] rfl))
      intro K51 hx51
      intro q51 ih51 h H locs hw ls hl
      obtain ⟨hP, hD, hS⟩ := hw
      unfold f_X7_readText_L51 at h
      refine gi _ _ _ ?_
      refine lv_aload_n hx hb dX7_readText_51 rfl (lv_at hl 0 rfl) ?_
      refine va_get (D := (dC, dI)) (ci := 7) (v := .int (q51 0 7)) (C := RX7) (T := TX7) (N := 26) hx hb hts hin7 hown hK hP 0 rfl rfl 16 (by decide) (hts (.fieldLink RX7 63 "UnderLaddersModel" "faultAt" "I") (by decide +kernel)) (fun _ h9 => h9) rfl dX7_readText_52 ?_
      refine lv_bipush (v := -9) hx hb dX7_readText_55 (by decide) ?_
      refine lv_icmp_ne (tgt := 87) hx hb dX7_readText_57 (by decide) (fun hc16 => ?_) (fun hc16 => ?_)
      · have h := ul_if_f hc16 h
        exact ge _ _ _ (J87 q51 H locs ⟨hP, hD, hS⟩ ls (lv_sub hl [0] rfl) (hx51 q51 h))
      · have h := ul_if_t hc16 h
        refine lv_aload_n hx hb dX7_readText_60 rfl (lv_at hl 0 rfl) ?_
        refine va_get (D := (dC, dI)) (ci := 7) (v := .int (q51 0 6)) (C := RX7) (T := TX7) (N := 26) hx hb hts hin7 hown hK hP 0 rfl rfl 15 (by decide) (hts (.fieldLink RX7 66 "UnderLaddersModel" "place" "I") (by decide +kernel)) (fun _ h9 => h9) rfl dX7_readText_61 ?_
        refine lv_aload_n hx hb dX7_readText_64 rfl (lv_at hl 0 rfl) ?_
        refine va_get (D := (dC, dI)) (ci := 7) (v := .int (q51 0 5)) (C := RX7) (T := TX7) (N := 26) hx hb hts hin7 hown hK hP 0 rfl rfl 14 (by decide) (hts (.fieldLink RX7 59 "UnderLaddersModel" "length" "I") (by decide +kernel)) (fun _ h9 => h9) rfl dX7_readText_65 ?_
        refine lv_icmp_ge (tgt := 87) hx hb dX7_readText_68 (by decide) (fun hc17 => ?_) (fun hc17 => ?_)
        · have h := ul_if_t hc17 h
          exact ge _ _ _ (J87 q51 H locs ⟨hP, hD, hS⟩ ls (lv_sub hl [0] rfl) (hx51 q51 h))
        · have h := ul_if_f hc17 h
          refine lv_aload_n hx hb dX7_readText_71 rfl (lv_at hl 0 rfl) ?_
          refine lv_aload_n hx hb dX7_readText_72 rfl (lv_at hl 0 rfl) ?_
          refine va_get (D := (dC, dI)) (ci := 7) (v := .ref (aM 9)) (C := RX7) (T := TX7) (N := 26) hx hb hts hin7 hown hK hP 0 rfl rfl 13 (by decide) (hts (.fieldLink RX7 34 "UnderLaddersModel" "text" "[I") (by decide +kernel)) (fun _ h9 => h9) rfl dX7_readText_73 ?_
          refine lv_aload_n hx hb dX7_readText_76 rfl (lv_at hl 0 rfl) ?_
          refine va_get (D := (dC, dI)) (ci := 7) (v := .int (q51 0 6)) (C := RX7) (T := TX7) (N := 26) hx hb hts hin7 hown hK hP 0 rfl rfl 15 (by decide) (hts (.fieldLink RX7 66 "UnderLaddersModel" "place" "I") (by decide +kernel)) (fun _ h9 => h9) rfl dX7_readText_77 ?_
          obtain ⟨hi19, h⟩ := ul_ld_h h
          refine va_iald hx hb hK hP 9 0 rfl rfl hi19 dX7_readText_80 ?_
          refine lv_topi (fun v18 ev18 => ?_)
          have h := h v18 ev18
          obtain ⟨u20, hu20, h⟩ := ul_cl_h h
          refine ul_cVv (As := [.int v18]) (rest := []) (wc' := (ul_wM cI cZ aM u20 d)) (wr := []) hP hD hS hK hA [0, 1, 2, 3, 4, 5, 6, 7, 8, 9, 10, 11, 12, 13, 14] [] [0, 1] ul_N0_ok trivial (c_X7_readPart l dC dI cI cZ aM H.size q51 d v18 u20 hu20) rfl rfl (by decide) rfl (by decide) (by decide) rfl ⟨hx, hb, hml, hown, hts⟩ (cwV 1 hts gX7_readText_X7_readPart rfl rfl rfl (by decide +kernel) ⟨Nat.le_of_ble_eq_true rfl, Nat.le_of_ble_eq_true rfl⟩) (va_recv hK hP (ci := 7) (q0 := 0) rfl rfl) rfl hl.1 rfl (Nat.le_of_ble_eq_true rfl) dX7_readText_81 (fun H locs hw => ?_)
          obtain ⟨hP, hD, hS⟩ := hw
          have hP : va_P (dC, dI) classes (ul_wM cI cZ aM u20 d) H := hP
          have hD : va_D A (ul_wM cI cZ aM u20 d) := hD
          refine lv_goto (tgt := 51) hx hb dX7_readText_84 (by decide) ?_
          exact ge _ _ _ (ih51 u20 h H locs ⟨hP, hD, hS⟩ ls (lv_sub hl [0] rfl))
    · have h := ul_if_f hc9 h
      refine lv_iconst (v := 0) hx hb dX7_readText_44 (by decide) ?_
      have hr9 := hK0 ((0 : Int32), M5) h
      subst hr9
      exact W.iret (v := (0 : Int32)) hx hb hr (fun t ht hW => ⟨⟨(0 : Int32), (), rfl, rfl, by rw [ht]; exact hP, va_K.moved hW.alike hK, hD⟩, hS.F ht⟩) hS.2.2 dX7_readText_45
def f_X7_fault (M : ul_S) : Option (Int32 × ul_S) :=
  (f_X7_readText M).bind fun u1 => some (u1.1, u1.2)
set_option maxHeartbeats 4000000 in
set_option maxRecDepth 100000 in
theorem c_X7_fault (l : Launch) (dC : Nat → ClassId) (dI : Nat → Nat → Nat) (cI : ClassId) (cZ : ClassId) (aM : Nat → Nat) (sz : Nat) (M : ul_S) (d : Int64) (r : (Int32 × ul_S)) (h : f_X7_fault M = some r) : Met l yX7_fault wsX7_fault ({ frames := 4, cells := 0, slots := 0, locals := 90 }) (va_Pc [.ref (aM 0)] (ul_pre (dC, dI) [(cI, .int), (cZ, .boolean)] ul_N0 sz (ul_wM cI cZ aM M d))) (va_Qi (fun v (_ : Unit) => v = r.1) (fun _ => ul_post (dC, dI) [(cI, .int), (cZ, .boolean)] (va_A (ul_wM cI cZ aM M d) sz) (ul_wM cI cZ aM r.2 d)) (va_A (ul_wM cI cZ aM M d) sz)) 0 0 (va_A (ul_wM cI cZ aM M d) sz) := by
  refine Met.ofW (cc := cX7_fault) (maxL := 1) (ret := (some .int)) (by decide) rfl ?_
  intro p e s m args below meth c s₁ B hml hv
  obtain ⟨rfl, hsz, hP, hK, hD0, hN⟩ := hv
  have hx := B.exec
  have hb := B.bytes
  have hr := B.returns
  have hts := atoms_spec (ws := wsX7_fault) B.pre
  have hown : s.vm.findClass RX7 = some m.cls := findClass_of_methodNamed B.named
  have hlocks := B.notSynchronized
  have hin7 : ∀ w ∈ u_ws RX7 TX7 26, w ∈ wsX7_fault := by decide +kernel
  subst hsz
  have hD := hD0.self (sz := s.heap.size)
  generalize hAe : va_A (ul_wM cI cZ aM M d) s.heap.size = A at hD ⊢
  have hA : ∀ q : Nat, s.heap.size ≤ q → A q := fun q h => by rw [← hAe]; exact Or.inr h
  have hS : va_S A s.heap s.heap [] := va_S.rf
  have hl := lv_entry ([.ref (aM 0)]) (n := 1) (Nat.le_of_ble_eq_true rfl)
  rw [lg_entry_eq]
  generalize (lg_sl ([.ref (aM 0)]) ++ List.replicate (1 - (lg_sl ([.ref (aM 0)])).length) Slot.unset).toArray = ls at hl ⊢
  have hl : lv_has ls 1 [(0, .ref (aM 0))] := hl
  obtain ⟨K0, hK0, h⟩ := ul_top h
  unfold f_X7_fault at h
  refine ul_gen (fun G gi ge => ?_)
  obtain ⟨H, eH⟩ : ∃ z, z = s.heap := ⟨_, rfl⟩
  obtain ⟨locs, eL⟩ : ∃ z : List Loc, z = [] := ⟨_, rfl⟩
  have hP : va_P (dC, dI) classes (ul_wM cI cZ aM M d) H := by rw [eH]; exact hP
  have hS : va_S A s.heap H locs := by rw [eH, eL]; exact hS
  rw [← eL]
  refine (show G H locs (F0 m 0 ls []) → G s.heap locs (F0 m 0 ls []) from fun z => by rw [← eH]; exact z) ?_
  refine gi _ _ _ ?_
  refine lv_aload_n hx hb dX7_fault_0 rfl (lv_at hl 0 rfl) ?_
  obtain ⟨u1, hu1, h⟩ := ul_cl_h h
  refine ul_cVi (As := []) (rest := []) (wc' := (ul_wM cI cZ aM u1.2 d)) (wr := []) hP hD hS hK hA [0, 1, 2, 3, 4, 5, 6, 7, 8, 9, 10, 11, 12, 13, 14] [] [0, 1] ul_N0_ok trivial (c_X7_readText l dC dI cI cZ aM H.size M d u1 hu1) rfl rfl (by decide) rfl (by decide) (by decide) rfl ⟨hx, hb, hml, hown, hts⟩ (cwV 0 hts gX7_fault_X7_readText rfl rfl rfl (by decide +kernel) ⟨Nat.le_of_ble_eq_true rfl, Nat.le_of_ble_eq_true rfl⟩) (va_recv hK hP (ci := 7) (q0 := 0) rfl rfl) rfl hl.1 rfl (Nat.le_of_ble_eq_true rfl) dX7_fault_1 (fun H locs hw => ?_)
  obtain ⟨hP, hD, hS⟩ := hw
  have hP : va_P (dC, dI) classes (ul_wM cI cZ aM u1.2 d) H := hP
  have hD : va_D A (ul_wM cI cZ aM u1.2 d) := hD
  have hr9 := hK0 (u1.1, u1.2) h
  subst hr9
  exact W.iret (v := u1.1) hx hb hr (fun t ht hW => ⟨⟨u1.1, (), rfl, rfl, by rw [ht]; exact hP, va_K.moved hW.alike hK, hD⟩, hS.F ht⟩) hS.2.2 dX7_fault_4
def f_X7_market_j207 (x1 : Int32) (M__207 : ul_S) : Option (Int32 × ul_S) :=
  ul_bd (ul_up M__207 0 8 (0 : Int32)) fun M1 => ul_st M1 13 2 (0 : Int32) (vp_nar .boolean (0 : Int32)) fun M2 => ul_st M2 13 2 (1 : Int32) (vp_nar .boolean (0 : Int32)) fun M4 => some ((((10 : Int32) * (M4 0 0)) + (M4 0 1)), M4)
def f_X7_market_L113 (q113 : (Int32 × ul_S)) : Option ((Int32 × ul_S) ⊕ (Int32 × ul_S)) :=
  if (q113.2 0 1) ≤ q113.1 then (some (.inl (q113.1, q113.2))) else (ul_ld (q113.2 8) 20 ((4 : Int32) * q113.1) fun v12 => ul_st q113.2 3 5 q113.1 v12 fun M14 => ul_ld (M14 8) 20 (((4 : Int32) * q113.1) + (1 : Int32)) fun v16 => ul_st M14 4 5 q113.1 v16 fun M18 => ul_ld (M18 8) 20 (((4 : Int32) * q113.1) + (3 : Int32)) fun v20 => ul_st M18 5 5 q113.1 v20 fun M22 => ul_ld (M22 3) 5 q113.1 fun v24 => ul_st M22 6 46 ((12 : Int32) + q113.1) v24 fun M26 => ul_ld (M26 8) 20 (((4 : Int32) * q113.1) + (2 : Int32)) fun v28 => ul_st M26 6 46 ((17 : Int32) + q113.1) v28 fun M30 => ul_bd (q113.1 + 1) fun v32 => some (.inr (v32, M30)))
def f_X7_market_j111 (x1 : Int32) (M__111 : ul_S) : Option (Int32 × ul_S) :=
  (ul_it ul_N (f_X7_market_L113) ((0 : Int32), M__111)).bind (fun e113 => f_X7_market_j207 e113.1 e113.2)
def f_X7_market_L51 (q51 : (Int32 × ul_S)) : Option ((Int32 × ul_S) ⊕ (Int32 × ul_S)) :=
  if (q51.2 0 0) ≤ q51.1 then (some (.inl (q51.1, q51.2))) else (ul_ld (q51.2 7) 12 ((3 : Int32) * q51.1) fun v100 => ul_st q51.2 6 46 q51.1 v100 fun M102 => ul_ld (M102 7) 12 (((3 : Int32) * q51.1) + (1 : Int32)) fun v104 => ul_st M102 1 4 q51.1 v104 fun M106 => ul_ld (M106 7) 12 (((3 : Int32) * q51.1) + (2 : Int32)) fun v108 => ul_st M106 2 4 q51.1 v108 fun M110 => ul_bd (q51.1 + 1) fun v112 => some (.inr (v112, M110)))
def f_X7_market_j49 (x1 : Int32) (M__49 : ul_S) : Option (Int32 × ul_S) :=
  (ul_it ul_N (f_X7_market_L51) ((0 : Int32), M__49)).bind (fun e51 => f_X7_market_j111 e51.1 e51.2)
def f_X7_market_L30 (q30 : (Int32 × ul_S)) : Option ((Int32 × ul_S) ⊕ (Int32 × ul_S)) :=
  if (23 : Int32) ≤ q30.1 then (some (.inl (q30.1, q30.2))) else (ul_st q30.2 6 46 q30.1 (0 : Int32) fun M160 => ul_bd (q30.1 + 1) fun v162 => some (.inr (v162, M160)))
def f_X7_market (M : ul_S) : Option (Int32 × ul_S) :=
  (f_X7_readText M).bind fun u155 => if u155.1 = (-9 : Int32) then (ul_bd (ul_up u155.2 0 0 (u155.2 0 2)) fun M157 => ul_bd (ul_up M157 0 1 (M157 0 3)) fun M158 => (ul_it ul_N (f_X7_market_L30) ((0 : Int32), M158)).bind (fun e30 => f_X7_market_j49 e30.1 e30.2)) else (some ((-3 : Int32), u155.2))
set_option maxHeartbeats 4000000 in
set_option maxRecDepth 100000 in
theorem c_X7_market (l : Launch) (dC : Nat → ClassId) (dI : Nat → Nat → Nat) (cI : ClassId) (cZ : ClassId) (aM : Nat → Nat) (sz : Nat) (M : ul_S) (d : Int64) (r : (Int32 × ul_S)) (h : f_X7_market M = some r) : Met l yX7_market wsX7_market ({ frames := 4, cells := 0, slots := 0, locals := 90 }) (va_Pc [.ref (aM 0)] (ul_pre (dC, dI) [(cI, .int), (cZ, .boolean)] ul_N0 sz (ul_wM cI cZ aM M d))) (va_Qi (fun v (_ : Unit) => v = r.1) (fun _ => ul_post (dC, dI) [(cI, .int), (cZ, .boolean)] (va_A (ul_wM cI cZ aM M d) sz) (ul_wM cI cZ aM r.2 d)) (va_A (ul_wM cI cZ aM M d) sz)) 0 0 (va_A (ul_wM cI cZ aM M d) sz) := by
  refine Met.ofW (cc := cX7_market) (maxL := 2) (ret := (some .int)) (by decide) rfl ?_
  intro p e s m args below meth c s₁ B hml hv
  obtain ⟨rfl, hsz, hP, hK, hD0, hN⟩ := hv
  have hx := B.exec
  have hb := B.bytes
  have hr := B.returns
  have hts := atoms_spec (ws := wsX7_market) B.pre
  have hown : s.vm.findClass RX7 = some m.cls := findClass_of_methodNamed B.named
  have hlocks := B.notSynchronized
  have hin7 : ∀ w ∈ u_ws RX7 TX7 26, w ∈ wsX7_market := by decide +kernel
  subst hsz
  have hD := hD0.self (sz := s.heap.size)
  generalize hAe : va_A (ul_wM cI cZ aM M d) s.heap.size = A at hD ⊢
  have hA : ∀ q : Nat, s.heap.size ≤ q → A q := fun q h => by rw [← hAe]; exact Or.inr h
  have hS : va_S A s.heap s.heap [] := va_S.rf
  have hl := lv_entry ([.ref (aM 0)]) (n := 2) (Nat.le_of_ble_eq_true rfl)
  rw [lg_entry_eq]
  generalize (lg_sl ([.ref (aM 0)]) ++ List.replicate (2 - (lg_sl ([.ref (aM 0)])).length) Slot.unset).toArray = ls at hl ⊢
  have hl : lv_has ls 2 [(0, .ref (aM 0))] := hl
  obtain ⟨K0, hK0, h⟩ := ul_top h
  unfold f_X7_market at h
  refine ul_gen (fun G gi ge => ?_)
  obtain ⟨H, eH⟩ : ∃ z, z = s.heap := ⟨_, rfl⟩
  obtain ⟨locs, eL⟩ : ∃ z : List Loc, z = [] := ⟨_, rfl⟩
  have hP : va_P (dC, dI) classes (ul_wM cI cZ aM M d) H := by rw [eH]; exact hP
  have hS : va_S A s.heap H locs := by rw [eH, eL]; exact hS
  rw [← eL]
  refine (show G H locs (F0 m 0 ls []) → G s.heap locs (F0 m 0 ls []) from fun z => by rw [← eH]; exact z) ?_
  have J207 : ∀ (x1 : Int32) (M__207 : ul_S) (H : Heap) (locs : List Loc), ul_H (dC, dI) A s.heap (ul_wM cI cZ aM M__207 d) H locs → ∀ ls : Array Slot, lv_has ls 2 [(0, .ref (aM 0)), (1, .int x1)] → (f_X7_market_j207 x1 M__207).bind K0 = some r → G H locs (F0 m 207 ls []) := by
    intro x1 M__207 H locs hw ls hl h
    obtain ⟨hP, hD, hS⟩ := hw
    unfold f_X7_market_j207 at h
    refine gi _ _ _ ?_
    refine lv_aload_n hx hb dX7_market_207 rfl (lv_at hl 0 rfl) ?_
    refine lv_iconst (v := 0) hx hb dX7_market_208 (by decide) ?_
    refine va_put (D := (dC, dI)) (ci := 7) (v := .int (0 : Int32)) (ty := .int) (C := RX7) (T := TX7) (N := 26) hx hb hts hin7 tyX7 tyX7_ok nmX7 hown hK hP hD hS 0 rfl rfl 17 (by decide) (hts (.fieldLink RX7 102 "UnderLaddersModel" "acts" "I") (by decide +kernel)) (fun _ h9 => h9) rfl (by decide +kernel) rfl rfl (Nat.le_of_ble_eq_true rfl) dX7_market_209 (fun H locs hP hD hS => ?_)
    obtain ⟨M6, eM6⟩ : ∃ z : ul_S, z = ul_up M__207 0 8 (0 : Int32) := ⟨_, rfl⟩
    have h := ul_bd_h h M6 eM6
    have hP : va_P (dC, dI) classes (ul_wM cI cZ aM M6 d) H := by rw [eM6]; exact hP
    have hD : va_D A (ul_wM cI cZ aM M6 d) := by rw [eM6]; exact hD
    refine lv_aload_n hx hb dX7_market_212 rfl (lv_at hl 0 rfl) ?_
    refine va_get (D := (dC, dI)) (ci := 7) (v := .ref (aM 13)) (C := RX7) (T := TX7) (N := 26) hx hb hts hin7 hown hK hP 0 rfl rfl 24 (by decide) (hts (.fieldLink RX7 46 "UnderLaddersModel" "isKept" "[Z") (by decide +kernel)) (fun _ h9 => h9) rfl dX7_market_213 ?_
    refine lv_iconst (v := 0) hx hb dX7_market_216 (by decide) ?_
    refine lv_iconst (v := 0) hx hb dX7_market_217 (by decide) ?_
    obtain ⟨hi8, h⟩ := ul_st_h h
    refine va_zast hx hb hK hP hD hS 13 1 rfl rfl hi8 dX7_market_218 (fun H locs hP hD hS => ?_)
    obtain ⟨M7, eM7⟩ : ∃ z : ul_S, z = ul_up M6 13 (0 : Int32).toNatClampNeg (vp_nar .boolean (0 : Int32)) := ⟨_, rfl⟩
    have h := h M7 eM7
    have hP : va_P (dC, dI) classes (ul_wM cI cZ aM M7 d) H := by rw [eM7]; exact hP
    have hD : va_D A (ul_wM cI cZ aM M7 d) := by rw [eM7]; exact hD
    refine lv_aload_n hx hb dX7_market_219 rfl (lv_at hl 0 rfl) ?_
    refine va_get (D := (dC, dI)) (ci := 7) (v := .ref (aM 13)) (C := RX7) (T := TX7) (N := 26) hx hb hts hin7 hown hK hP 0 rfl rfl 24 (by decide) (hts (.fieldLink RX7 46 "UnderLaddersModel" "isKept" "[Z") (by decide +kernel)) (fun _ h9 => h9) rfl dX7_market_220 ?_
    refine lv_iconst (v := 1) hx hb dX7_market_223 (by decide) ?_
    refine lv_iconst (v := 0) hx hb dX7_market_224 (by decide) ?_
    obtain ⟨hi10, h⟩ := ul_st_h h
    refine va_zast hx hb hK hP hD hS 13 1 rfl rfl hi10 dX7_market_225 (fun H locs hP hD hS => ?_)
    obtain ⟨M9, eM9⟩ : ∃ z : ul_S, z = ul_up M7 13 (1 : Int32).toNatClampNeg (vp_nar .boolean (0 : Int32)) := ⟨_, rfl⟩
    have h := h M9 eM9
    have hP : va_P (dC, dI) classes (ul_wM cI cZ aM M9 d) H := by rw [eM9]; exact hP
    have hD : va_D A (ul_wM cI cZ aM M9 d) := by rw [eM9]; exact hD
    refine lv_bipush (v := 10) hx hb dX7_market_226 (by decide) ?_
    refine lv_aload_n hx hb dX7_market_228 rfl (lv_at hl 0 rfl) ?_
    refine va_get (D := (dC, dI)) (ci := 7) (v := .int (M9 0 0)) (C := RX7) (T := TX7) (N := 26) hx hb hts hin7 hown hK hP 0 rfl rfl 0 (by decide) (hts (.fieldLink RX7 96 "UnderLaddersModel" "ladders" "I") (by decide +kernel)) (fun _ h9 => h9) rfl dX7_market_229 ?_
    refine lv_imul hx hb dX7_market_232 ?_
    refine lv_aload_n hx hb dX7_market_233 rfl (lv_at hl 0 rfl) ?_
    refine va_get (D := (dC, dI)) (ci := 7) (v := .int (M9 0 1)) (C := RX7) (T := TX7) (N := 26) hx hb hts hin7 hown hK hP 0 rfl rfl 1 (by decide) (hts (.fieldLink RX7 99 "UnderLaddersModel" "people" "I") (by decide +kernel)) (fun _ h9 => h9) rfl dX7_market_234 ?_
    refine lv_iadd hx hb dX7_market_237 ?_
    have hr9 := hK0 ((((10 : Int32) * (M9 0 0)) + (M9 0 1)), M9) h
    subst hr9
    exact W.iret (v := (((10 : Int32) * (M9 0 0)) + (M9 0 1))) hx hb hr (fun t ht hW => ⟨⟨(((10 : Int32) * (M9 0 0)) + (M9 0 1)), (), rfl, rfl, by rw [ht]; exact hP, va_K.moved hW.alike hK, hD⟩, hS.F ht⟩) hS.2.2 dX7_market_238
  have J111 : ∀ (x1 : Int32) (M__111 : ul_S) (H : Heap) (locs : List Loc), ul_H (dC, dI) A s.heap (ul_wM cI cZ aM M__111 d) H locs → ∀ ls : Array Slot, lv_has ls 2 [(0, .ref (aM 0)), (1, .int x1)] → (f_X7_market_j111 x1 M__111).bind K0 = some r → G H locs (F0 m 111 ls []) := by
    intro x1 M__111 H locs hw ls hl h
    obtain ⟨hP, hD, hS⟩ := hw
    unfold f_X7_market_j111 at h
    refine gi _ _ _ ?_
    refine lv_iconst (v := 0) hx hb dX7_market_111 (by decide) ?_
    refine lv_istore_n (lv' := [(1, .int (0 : Int32)), (0, .ref (aM 0))]) hx hb dX7_market_112 rfl hl (by decide) rfl (fun ls hl => ?_)
    refine ge _ _ _ (ul_loop (P := fun q113 => ∀ (H : Heap) (locs : List Loc), ul_H (dC, dI) A s.heap (ul_wM cI cZ aM q113.2 d) H locs → ∀ ls : Array Slot, lv_has ls 2 [(0, .ref (aM 0)), (1, .int q113.1)] → G H locs (F0 m 113 ls [])) ?_ _ _ (ul_it_h h) H locs ⟨hP, hD, hS⟩ ls (lv_sub hl [1, 0] rfl))
    intro K113 hx113
    intro q113 ih113 h H locs hw ls hl
    obtain ⟨hP, hD, hS⟩ := hw
    unfold f_X7_market_L113 at h
    refine gi _ _ _ ?_
    refine lv_iload_n hx hb dX7_market_113 rfl (lv_at hl 1 rfl) ?_
    refine lv_aload_n hx hb dX7_market_114 rfl (lv_at hl 0 rfl) ?_
    refine va_get (D := (dC, dI)) (ci := 7) (v := .int (q113.2 0 1)) (C := RX7) (T := TX7) (N := 26) hx hb hts hin7 hown hK hP 0 rfl rfl 1 (by decide) (hts (.fieldLink RX7 99 "UnderLaddersModel" "people" "I") (by decide +kernel)) (fun _ h9 => h9) rfl dX7_market_115 ?_
    refine lv_icmp_ge (tgt := 207) hx hb dX7_market_118 (by decide) (fun hc77 => ?_) (fun hc77 => ?_)
    · have h := ul_if_t hc77 h
      exact ge _ _ _ (J207 q113.1 q113.2 H locs ⟨hP, hD, hS⟩ ls (lv_sub hl [0, 1] rfl) (hx113 (q113.1, q113.2) h))
    · have h := ul_if_f hc77 h
      refine lv_aload_n hx hb dX7_market_121 rfl (lv_at hl 0 rfl) ?_
      refine va_get (D := (dC, dI)) (ci := 7) (v := .ref (aM 3)) (C := RX7) (T := TX7) (N := 26) hx hb hts hin7 hown hK hP 0 rfl rfl 4 (by decide) (hts (.fieldLink RX7 16 "UnderLaddersModel" "home" "[I") (by decide +kernel)) (fun _ h9 => h9) rfl dX7_market_122 ?_
      refine lv_iload_n hx hb dX7_market_125 rfl (lv_at hl 1 rfl) ?_
      refine lv_aload_n hx hb dX7_market_126 rfl (lv_at hl 0 rfl) ?_
      refine va_get (D := (dC, dI)) (ci := 7) (v := .ref (aM 8)) (C := RX7) (T := TX7) (N := 26) hx hb hts hin7 hown hK hP 0 rfl rfl 9 (by decide) (hts (.fieldLink RX7 31 "UnderLaddersModel" "readPerson" "[I") (by decide +kernel)) (fun _ h9 => h9) rfl dX7_market_127 ?_
      refine lv_iconst (v := 4) hx hb dX7_market_130 (by decide) ?_
      refine lv_iload_n hx hb dX7_market_131 rfl (lv_at hl 1 rfl) ?_
      refine lv_imul hx hb dX7_market_132 ?_
      obtain ⟨hi79, h⟩ := ul_ld_h h
      refine va_iald hx hb hK hP 8 0 rfl rfl hi79 dX7_market_133 ?_
      refine lv_topi (fun v78 ev78 => ?_)
      have h := h v78 ev78
      obtain ⟨hi81, h⟩ := ul_st_h h
      refine va_iast hx hb hK hP hD hS 3 0 rfl rfl hi81 dX7_market_134 (fun H locs hP hD hS => ?_)
      obtain ⟨M80, eM80⟩ : ∃ z : ul_S, z = ul_up q113.2 3 q113.1.toNatClampNeg v78 := ⟨_, rfl⟩
      have h := h M80 eM80
      have hP : va_P (dC, dI) classes (ul_wM cI cZ aM M80 d) H := by rw [eM80]; exact hP
      have hD : va_D A (ul_wM cI cZ aM M80 d) := by rw [eM80]; exact hD
      refine lv_aload_n hx hb dX7_market_135 rfl (lv_at hl 0 rfl) ?_
      refine va_get (D := (dC, dI)) (ci := 7) (v := .ref (aM 4)) (C := RX7) (T := TX7) (N := 26) hx hb hts hin7 hown hK hP 0 rfl rfl 5 (by decide) (hts (.fieldLink RX7 19 "UnderLaddersModel" "work" "[I") (by decide +kernel)) (fun _ h9 => h9) rfl dX7_market_136 ?_
      refine lv_iload_n hx hb dX7_market_139 rfl (lv_at hl 1 rfl) ?_
      refine lv_aload_n hx hb dX7_market_140 rfl (lv_at hl 0 rfl) ?_
      refine va_get (D := (dC, dI)) (ci := 7) (v := .ref (aM 8)) (C := RX7) (T := TX7) (N := 26) hx hb hts hin7 hown hK hP 0 rfl rfl 9 (by decide) (hts (.fieldLink RX7 31 "UnderLaddersModel" "readPerson" "[I") (by decide +kernel)) (fun _ h9 => h9) rfl dX7_market_141 ?_
      refine lv_iconst (v := 4) hx hb dX7_market_144 (by decide) ?_
      refine lv_iload_n hx hb dX7_market_145 rfl (lv_at hl 1 rfl) ?_
      refine lv_imul hx hb dX7_market_146 ?_
      refine lv_iconst (v := 1) hx hb dX7_market_147 (by decide) ?_
      refine lv_iadd hx hb dX7_market_148 ?_
      obtain ⟨hi83, h⟩ := ul_ld_h h
      refine va_iald hx hb hK hP 8 0 rfl rfl hi83 dX7_market_149 ?_
      refine lv_topi (fun v82 ev82 => ?_)
      have h := h v82 ev82
      obtain ⟨hi85, h⟩ := ul_st_h h
      refine va_iast hx hb hK hP hD hS 4 0 rfl rfl hi85 dX7_market_150 (fun H locs hP hD hS => ?_)
      obtain ⟨M84, eM84⟩ : ∃ z : ul_S, z = ul_up M80 4 q113.1.toNatClampNeg v82 := ⟨_, rfl⟩
      have h := h M84 eM84
      have hP : va_P (dC, dI) classes (ul_wM cI cZ aM M84 d) H := by rw [eM84]; exact hP
      have hD : va_D A (ul_wM cI cZ aM M84 d) := by rw [eM84]; exact hD
      refine lv_aload_n hx hb dX7_market_151 rfl (lv_at hl 0 rfl) ?_
      refine va_get (D := (dC, dI)) (ci := 7) (v := .ref (aM 5)) (C := RX7) (T := TX7) (N := 26) hx hb hts hin7 hown hK hP 0 rfl rfl 6 (by decide) (hts (.fieldLink RX7 22 "UnderLaddersModel" "kind" "[I") (by decide +kernel)) (fun _ h9 => h9) rfl dX7_market_152 ?_
      refine lv_iload_n hx hb dX7_market_155 rfl (lv_at hl 1 rfl) ?_
      refine lv_aload_n hx hb dX7_market_156 rfl (lv_at hl 0 rfl) ?_
      refine va_get (D := (dC, dI)) (ci := 7) (v := .ref (aM 8)) (C := RX7) (T := TX7) (N := 26) hx hb hts hin7 hown hK hP 0 rfl rfl 9 (by decide) (hts (.fieldLink RX7 31 "UnderLaddersModel" "readPerson" "[I") (by decide +kernel)) (fun _ h9 => h9) rfl dX7_market_157 ?_
      refine lv_iconst (v := 4) hx hb dX7_market_160 (by decide) ?_
      refine lv_iload_n hx hb dX7_market_161 rfl (lv_at hl 1 rfl) ?_
      refine lv_imul hx hb dX7_market_162 ?_
      refine lv_iconst (v := 3) hx hb dX7_market_163 (by decide) ?_
      refine lv_iadd hx hb dX7_market_164 ?_
      obtain ⟨hi87, h⟩ := ul_ld_h h
      refine va_iald hx hb hK hP 8 0 rfl rfl hi87 dX7_market_165 ?_
      refine lv_topi (fun v86 ev86 => ?_)
      have h := h v86 ev86
      obtain ⟨hi89, h⟩ := ul_st_h h
      refine va_iast hx hb hK hP hD hS 5 0 rfl rfl hi89 dX7_market_166 (fun H locs hP hD hS => ?_)
      obtain ⟨M88, eM88⟩ : ∃ z : ul_S, z = ul_up M84 5 q113.1.toNatClampNeg v86 := ⟨_, rfl⟩
      have h := h M88 eM88
      have hP : va_P (dC, dI) classes (ul_wM cI cZ aM M88 d) H := by rw [eM88]; exact hP
      have hD : va_D A (ul_wM cI cZ aM M88 d) := by rw [eM88]; exact hD
      refine lv_aload_n hx hb dX7_market_167 rfl (lv_at hl 0 rfl) ?_
      refine va_get (D := (dC, dI)) (ci := 7) (v := .ref (aM 6)) (C := RX7) (T := TX7) (N := 26) hx hb hts hin7 hown hK hP 0 rfl rfl 7 (by decide) (hts (.fieldLink RX7 25 "UnderLaddersModel" "now" "[I") (by decide +kernel)) (fun _ h9 => h9) rfl dX7_market_168 ?_
      refine lv_bipush (v := 12) hx hb dX7_market_171 (by decide) ?_
      refine lv_iload_n hx hb dX7_market_173 rfl (lv_at hl 1 rfl) ?_
      refine lv_iadd hx hb dX7_market_174 ?_
      refine lv_aload_n hx hb dX7_market_175 rfl (lv_at hl 0 rfl) ?_
      refine va_get (D := (dC, dI)) (ci := 7) (v := .ref (aM 3)) (C := RX7) (T := TX7) (N := 26) hx hb hts hin7 hown hK hP 0 rfl rfl 4 (by decide) (hts (.fieldLink RX7 16 "UnderLaddersModel" "home" "[I") (by decide +kernel)) (fun _ h9 => h9) rfl dX7_market_176 ?_
      refine lv_iload_n hx hb dX7_market_179 rfl (lv_at hl 1 rfl) ?_
      obtain ⟨hi91, h⟩ := ul_ld_h h
      refine va_iald hx hb hK hP 3 0 rfl rfl hi91 dX7_market_180 ?_
      refine lv_topi (fun v90 ev90 => ?_)
      have h := h v90 ev90
      obtain ⟨hi93, h⟩ := ul_st_h h
      refine va_iast hx hb hK hP hD hS 6 0 rfl rfl hi93 dX7_market_181 (fun H locs hP hD hS => ?_)
      obtain ⟨M92, eM92⟩ : ∃ z : ul_S, z = ul_up M88 6 ((12 : Int32) + q113.1).toNatClampNeg v90 := ⟨_, rfl⟩
      have h := h M92 eM92
      have hP : va_P (dC, dI) classes (ul_wM cI cZ aM M92 d) H := by rw [eM92]; exact hP
      have hD : va_D A (ul_wM cI cZ aM M92 d) := by rw [eM92]; exact hD
      refine lv_aload_n hx hb dX7_market_182 rfl (lv_at hl 0 rfl) ?_
      refine va_get (D := (dC, dI)) (ci := 7) (v := .ref (aM 6)) (C := RX7) (T := TX7) (N := 26) hx hb hts hin7 hown hK hP 0 rfl rfl 7 (by decide) (hts (.fieldLink RX7 25 "UnderLaddersModel" "now" "[I") (by decide +kernel)) (fun _ h9 => h9) rfl dX7_market_183 ?_
      refine lv_bipush (v := 17) hx hb dX7_market_186 (by decide) ?_
      refine lv_iload_n hx hb dX7_market_188 rfl (lv_at hl 1 rfl) ?_
      refine lv_iadd hx hb dX7_market_189 ?_
      refine lv_aload_n hx hb dX7_market_190 rfl (lv_at hl 0 rfl) ?_
      refine va_get (D := (dC, dI)) (ci := 7) (v := .ref (aM 8)) (C := RX7) (T := TX7) (N := 26) hx hb hts hin7 hown hK hP 0 rfl rfl 9 (by decide) (hts (.fieldLink RX7 31 "UnderLaddersModel" "readPerson" "[I") (by decide +kernel)) (fun _ h9 => h9) rfl dX7_market_191 ?_
      refine lv_iconst (v := 4) hx hb dX7_market_194 (by decide) ?_
      refine lv_iload_n hx hb dX7_market_195 rfl (lv_at hl 1 rfl) ?_
      refine lv_imul hx hb dX7_market_196 ?_
      refine lv_iconst (v := 2) hx hb dX7_market_197 (by decide) ?_
      refine lv_iadd hx hb dX7_market_198 ?_
      obtain ⟨hi95, h⟩ := ul_ld_h h
      refine va_iald hx hb hK hP 8 0 rfl rfl hi95 dX7_market_199 ?_
      refine lv_topi (fun v94 ev94 => ?_)
      have h := h v94 ev94
      obtain ⟨hi97, h⟩ := ul_st_h h
      refine va_iast hx hb hK hP hD hS 6 0 rfl rfl hi97 dX7_market_200 (fun H locs hP hD hS => ?_)
      obtain ⟨M96, eM96⟩ : ∃ z : ul_S, z = ul_up M92 6 ((17 : Int32) + q113.1).toNatClampNeg v94 := ⟨_, rfl⟩
      have h := h M96 eM96
      have hP : va_P (dC, dI) classes (ul_wM cI cZ aM M96 d) H := by rw [eM96]; exact hP
      have hD : va_D A (ul_wM cI cZ aM M96 d) := by rw [eM96]; exact hD
      obtain ⟨v98, ev98⟩ : ∃ z : Int32, z = q113.1 + 1 := ⟨_, rfl⟩
      have h := ul_bd_h h v98 ev98
      refine lv_iinc (v := v98) (lv' := [(1, .int v98), (0, .ref (aM 0))]) hx hb dX7_market_201 hl (k := 1) rfl (by rw [ev98]; rfl) (by decide) rfl (fun ls hl => ?_)
      refine lv_goto (tgt := 113) hx hb dX7_market_204 (by decide) ?_
      exact ge _ _ _ (ih113 (v98, M96) h H locs ⟨hP, hD, hS⟩ ls (lv_sub hl [1, 0] rfl))
  have J49 : ∀ (x1 : Int32) (M__49 : ul_S) (H : Heap) (locs : List Loc), ul_H (dC, dI) A s.heap (ul_wM cI cZ aM M__49 d) H locs → ∀ ls : Array Slot, lv_has ls 2 [(0, .ref (aM 0)), (1, .int x1)] → (f_X7_market_j49 x1 M__49).bind K0 = some r → G H locs (F0 m 49 ls []) := by
    intro x1 M__49 H locs hw ls hl h
    obtain ⟨hP, hD, hS⟩ := hw
    unfold f_X7_market_j49 at h
    refine gi _ _ _ ?_
    refine lv_iconst (v := 0) hx hb dX7_market_49 (by decide) ?_
    refine lv_istore_n (lv' := [(1, .int (0 : Int32)), (0, .ref (aM 0))]) hx hb dX7_market_50 rfl hl (by decide) rfl (fun ls hl => ?_)
    refine ge _ _ _ (ul_loop (P := fun q51 => ∀ (H : Heap) (locs : List Loc), ul_H (dC, dI) A s.heap (ul_wM cI cZ aM q51.2 d) H locs → ∀ ls : Array Slot, lv_has ls 2 [(0, .ref (aM 0)), (1, .int q51.1)] → G H locs (F0 m 51 ls [])) ?_ _ _ (ul_it_h h) H locs ⟨hP, hD, hS⟩ ls (lv_sub hl [1, 0] rfl))
    intro K51 hx51
    intro q51 ih51 h H locs hw ls hl
    obtain ⟨hP, hD, hS⟩ := hw
    unfold f_X7_market_L51 at h
    refine gi _ _ _ ?_
    refine lv_iload_n hx hb dX7_market_51 rfl (lv_at hl 1 rfl) ?_
    refine lv_aload_n hx hb dX7_market_52 rfl (lv_at hl 0 rfl) ?_
    refine va_get (D := (dC, dI)) (ci := 7) (v := .int (q51.2 0 0)) (C := RX7) (T := TX7) (N := 26) hx hb hts hin7 hown hK hP 0 rfl rfl 0 (by decide) (hts (.fieldLink RX7 96 "UnderLaddersModel" "ladders" "I") (by decide +kernel)) (fun _ h9 => h9) rfl dX7_market_53 ?_
    refine lv_icmp_ge (tgt := 111) hx hb dX7_market_56 (by decide) (fun hc141 => ?_) (fun hc141 => ?_)
    · have h := ul_if_t hc141 h
      exact ge _ _ _ (J111 q51.1 q51.2 H locs ⟨hP, hD, hS⟩ ls (lv_sub hl [0, 1] rfl) (hx51 (q51.1, q51.2) h))
    · have h := ul_if_f hc141 h
      refine lv_aload_n hx hb dX7_market_59 rfl (lv_at hl 0 rfl) ?_
      refine va_get (D := (dC, dI)) (ci := 7) (v := .ref (aM 6)) (C := RX7) (T := TX7) (N := 26) hx hb hts hin7 hown hK hP 0 rfl rfl 7 (by decide) (hts (.fieldLink RX7 25 "UnderLaddersModel" "now" "[I") (by decide +kernel)) (fun _ h9 => h9) rfl dX7_market_60 ?_
      refine lv_iload_n hx hb dX7_market_63 rfl (lv_at hl 1 rfl) ?_
      refine lv_aload_n hx hb dX7_market_64 rfl (lv_at hl 0 rfl) ?_
      refine va_get (D := (dC, dI)) (ci := 7) (v := .ref (aM 7)) (C := RX7) (T := TX7) (N := 26) hx hb hts hin7 hown hK hP 0 rfl rfl 8 (by decide) (hts (.fieldLink RX7 28 "UnderLaddersModel" "readLadder" "[I") (by decide +kernel)) (fun _ h9 => h9) rfl dX7_market_65 ?_
      refine lv_iconst (v := 3) hx hb dX7_market_68 (by decide) ?_
      refine lv_iload_n hx hb dX7_market_69 rfl (lv_at hl 1 rfl) ?_
      refine lv_imul hx hb dX7_market_70 ?_
      obtain ⟨hi143, h⟩ := ul_ld_h h
      refine va_iald hx hb hK hP 7 0 rfl rfl hi143 dX7_market_71 ?_
      refine lv_topi (fun v142 ev142 => ?_)
      have h := h v142 ev142
      obtain ⟨hi145, h⟩ := ul_st_h h
      refine va_iast hx hb hK hP hD hS 6 0 rfl rfl hi145 dX7_market_72 (fun H locs hP hD hS => ?_)
      obtain ⟨M144, eM144⟩ : ∃ z : ul_S, z = ul_up q51.2 6 q51.1.toNatClampNeg v142 := ⟨_, rfl⟩
      have h := h M144 eM144
      have hP : va_P (dC, dI) classes (ul_wM cI cZ aM M144 d) H := by rw [eM144]; exact hP
      have hD : va_D A (ul_wM cI cZ aM M144 d) := by rw [eM144]; exact hD
      refine lv_aload_n hx hb dX7_market_73 rfl (lv_at hl 0 rfl) ?_
      refine va_get (D := (dC, dI)) (ci := 7) (v := .ref (aM 1)) (C := RX7) (T := TX7) (N := 26) hx hb hts hin7 hown hK hP 0 rfl rfl 2 (by decide) (hts (.fieldLink RX7 7 "UnderLaddersModel" "toll" "[I") (by decide +kernel)) (fun _ h9 => h9) rfl dX7_market_74 ?_
      refine lv_iload_n hx hb dX7_market_77 rfl (lv_at hl 1 rfl) ?_
      refine lv_aload_n hx hb dX7_market_78 rfl (lv_at hl 0 rfl) ?_
      refine va_get (D := (dC, dI)) (ci := 7) (v := .ref (aM 7)) (C := RX7) (T := TX7) (N := 26) hx hb hts hin7 hown hK hP 0 rfl rfl 8 (by decide) (hts (.fieldLink RX7 28 "UnderLaddersModel" "readLadder" "[I") (by decide +kernel)) (fun _ h9 => h9) rfl dX7_market_79 ?_
      refine lv_iconst (v := 3) hx hb dX7_market_82 (by decide) ?_
      refine lv_iload_n hx hb dX7_market_83 rfl (lv_at hl 1 rfl) ?_
      refine lv_imul hx hb dX7_market_84 ?_
      refine lv_iconst (v := 1) hx hb dX7_market_85 (by decide) ?_
      refine lv_iadd hx hb dX7_market_86 ?_
      obtain ⟨hi147, h⟩ := ul_ld_h h
      refine va_iald hx hb hK hP 7 0 rfl rfl hi147 dX7_market_87 ?_
      refine lv_topi (fun v146 ev146 => ?_)
      have h := h v146 ev146
      obtain ⟨hi149, h⟩ := ul_st_h h
      refine va_iast hx hb hK hP hD hS 1 0 rfl rfl hi149 dX7_market_88 (fun H locs hP hD hS => ?_)
      obtain ⟨M148, eM148⟩ : ∃ z : ul_S, z = ul_up M144 1 q51.1.toNatClampNeg v146 := ⟨_, rfl⟩
      have h := h M148 eM148
      have hP : va_P (dC, dI) classes (ul_wM cI cZ aM M148 d) H := by rw [eM148]; exact hP
      have hD : va_D A (ul_wM cI cZ aM M148 d) := by rw [eM148]; exact hD
      refine lv_aload_n hx hb dX7_market_89 rfl (lv_at hl 0 rfl) ?_
      refine va_get (D := (dC, dI)) (ci := 7) (v := .ref (aM 2)) (C := RX7) (T := TX7) (N := 26) hx hb hts hin7 hown hK hP 0 rfl rfl 3 (by decide) (hts (.fieldLink RX7 13 "UnderLaddersModel" "ladderKind" "[I") (by decide +kernel)) (fun _ h9 => h9) rfl dX7_market_90 ?_
      refine lv_iload_n hx hb dX7_market_93 rfl (lv_at hl 1 rfl) ?_
      refine lv_aload_n hx hb dX7_market_94 rfl (lv_at hl 0 rfl) ?_
      refine va_get (D := (dC, dI)) (ci := 7) (v := .ref (aM 7)) (C := RX7) (T := TX7) (N := 26) hx hb hts hin7 hown hK hP 0 rfl rfl 8 (by decide) (hts (.fieldLink RX7 28 "UnderLaddersModel" "readLadder" "[I") (by decide +kernel)) (fun _ h9 => h9) rfl dX7_market_95 ?_
      refine lv_iconst (v := 3) hx hb dX7_market_98 (by decide) ?_
      refine lv_iload_n hx hb dX7_market_99 rfl (lv_at hl 1 rfl) ?_
      refine lv_imul hx hb dX7_market_100 ?_
      refine lv_iconst (v := 2) hx hb dX7_market_101 (by decide) ?_
      refine lv_iadd hx hb dX7_market_102 ?_
      obtain ⟨hi151, h⟩ := ul_ld_h h
      refine va_iald hx hb hK hP 7 0 rfl rfl hi151 dX7_market_103 ?_
      refine lv_topi (fun v150 ev150 => ?_)
      have h := h v150 ev150
      obtain ⟨hi153, h⟩ := ul_st_h h
      refine va_iast hx hb hK hP hD hS 2 0 rfl rfl hi153 dX7_market_104 (fun H locs hP hD hS => ?_)
      obtain ⟨M152, eM152⟩ : ∃ z : ul_S, z = ul_up M148 2 q51.1.toNatClampNeg v150 := ⟨_, rfl⟩
      have h := h M152 eM152
      have hP : va_P (dC, dI) classes (ul_wM cI cZ aM M152 d) H := by rw [eM152]; exact hP
      have hD : va_D A (ul_wM cI cZ aM M152 d) := by rw [eM152]; exact hD
      obtain ⟨v154, ev154⟩ : ∃ z : Int32, z = q51.1 + 1 := ⟨_, rfl⟩
      have h := ul_bd_h h v154 ev154
      refine lv_iinc (v := v154) (lv' := [(1, .int v154), (0, .ref (aM 0))]) hx hb dX7_market_105 hl (k := 1) rfl (by rw [ev154]; rfl) (by decide) rfl (fun ls hl => ?_)
      refine lv_goto (tgt := 51) hx hb dX7_market_108 (by decide) ?_
      exact ge _ _ _ (ih51 (v154, M152) h H locs ⟨hP, hD, hS⟩ ls (lv_sub hl [1, 0] rfl))
  refine gi _ _ _ ?_
  refine lv_aload_n hx hb dX7_market_0 rfl (lv_at hl 0 rfl) ?_
  obtain ⟨u155, hu155, h⟩ := ul_cl_h h
  refine ul_cVi (As := []) (rest := []) (wc' := (ul_wM cI cZ aM u155.2 d)) (wr := []) hP hD hS hK hA [0, 1, 2, 3, 4, 5, 6, 7, 8, 9, 10, 11, 12, 13, 14] [] [0, 1] ul_N0_ok trivial (c_X7_readText l dC dI cI cZ aM H.size M d u155 hu155) rfl rfl (by decide) rfl (by decide) (by decide) rfl ⟨hx, hb, hml, hown, hts⟩ (cwV 0 hts gX7_market_X7_readText rfl rfl rfl (by decide +kernel) ⟨Nat.le_of_ble_eq_true rfl, Nat.le_of_ble_eq_true rfl⟩) (va_recv hK hP (ci := 7) (q0 := 0) rfl rfl) rfl hl.1 rfl (Nat.le_of_ble_eq_true rfl) dX7_market_1 (fun H locs hw => ?_)
  obtain ⟨hP, hD, hS⟩ := hw
  have hP : va_P (dC, dI) classes (ul_wM cI cZ aM u155.2 d) H := hP
  have hD : va_D A (ul_wM cI cZ aM u155.2 d) := hD
  refine lv_bipush (v := -9) hx hb dX7_market_4 (by decide) ?_
  refine lv_icmp_eq (tgt := 12) hx hb dX7_market_6 (by decide) (fun hc156 => ?_) (fun hc156 => ?_)
  · have h := ul_if_t hc156 h
    refine lv_aload_n hx hb dX7_market_12 rfl (lv_at hl 0 rfl) ?_
    refine lv_aload_n hx hb dX7_market_13 rfl (lv_at hl 0 rfl) ?_
    refine va_get (D := (dC, dI)) (ci := 7) (v := .int (u155.2 0 2)) (C := RX7) (T := TX7) (N := 26) hx hb hts hin7 hown hK hP 0 rfl rfl 10 (by decide) (hts (.fieldLink RX7 75 "UnderLaddersModel" "readLadders" "I") (by decide +kernel)) (fun _ h9 => h9) rfl dX7_market_14 ?_
    refine va_put (D := (dC, dI)) (ci := 7) (v := .int (u155.2 0 2)) (ty := .int) (C := RX7) (T := TX7) (N := 26) hx hb hts hin7 tyX7 tyX7_ok nmX7 hown hK hP hD hS 0 rfl rfl 0 (by decide) (hts (.fieldLink RX7 96 "UnderLaddersModel" "ladders" "I") (by decide +kernel)) (fun _ h9 => h9) rfl (by decide +kernel) rfl rfl (Nat.le_of_ble_eq_true rfl) dX7_market_17 (fun H locs hP hD hS => ?_)
    obtain ⟨M157, eM157⟩ : ∃ z : ul_S, z = ul_up u155.2 0 0 (u155.2 0 2) := ⟨_, rfl⟩
    have h := ul_bd_h h M157 eM157
    have hP : va_P (dC, dI) classes (ul_wM cI cZ aM M157 d) H := by rw [eM157]; exact hP
    have hD : va_D A (ul_wM cI cZ aM M157 d) := by rw [eM157]; exact hD
    refine lv_aload_n hx hb dX7_market_20 rfl (lv_at hl 0 rfl) ?_
    refine lv_aload_n hx hb dX7_market_21 rfl (lv_at hl 0 rfl) ?_
    refine va_get (D := (dC, dI)) (ci := 7) (v := .int (M157 0 3)) (C := RX7) (T := TX7) (N := 26) hx hb hts hin7 hown hK hP 0 rfl rfl 11 (by decide) (hts (.fieldLink RX7 78 "UnderLaddersModel" "readPeople" "I") (by decide +kernel)) (fun _ h9 => h9) rfl dX7_market_22 ?_
    refine va_put (D := (dC, dI)) (ci := 7) (v := .int (M157 0 3)) (ty := .int) (C := RX7) (T := TX7) (N := 26) hx hb hts hin7 tyX7 tyX7_ok nmX7 hown hK hP hD hS 0 rfl rfl 1 (by decide) (hts (.fieldLink RX7 99 "UnderLaddersModel" "people" "I") (by decide +kernel)) (fun _ h9 => h9) rfl (by decide +kernel) rfl rfl (Nat.le_of_ble_eq_true rfl) dX7_market_25 (fun H locs hP hD hS => ?_)
    obtain ⟨M158, eM158⟩ : ∃ z : ul_S, z = ul_up M157 0 1 (M157 0 3) := ⟨_, rfl⟩
    have h := ul_bd_h h M158 eM158
    have hP : va_P (dC, dI) classes (ul_wM cI cZ aM M158 d) H := by rw [eM158]; exact hP
    have hD : va_D A (ul_wM cI cZ aM M158 d) := by rw [eM158]; exact hD
    refine lv_iconst (v := 0) hx hb dX7_market_28 (by decide) ?_
    refine lv_istore_n (lv' := [(1, .int (0 : Int32)), (0, .ref (aM 0))]) hx hb dX7_market_29 rfl hl (by decide) rfl (fun ls hl => ?_)
    refine ge _ _ _ (ul_loop (P := fun q30 => ∀ (H : Heap) (locs : List Loc), ul_H (dC, dI) A s.heap (ul_wM cI cZ aM q30.2 d) H locs → ∀ ls : Array Slot, lv_has ls 2 [(0, .ref (aM 0)), (1, .int q30.1)] → G H locs (F0 m 30 ls [])) ?_ _ _ (ul_it_h h) H locs ⟨hP, hD, hS⟩ ls (lv_sub hl [1, 0] rfl))
    intro K30 hx30
    intro q30 ih30 h H locs hw ls hl
    obtain ⟨hP, hD, hS⟩ := hw
    unfold f_X7_market_L30 at h
    refine gi _ _ _ ?_
    refine lv_iload_n hx hb dX7_market_30 rfl (lv_at hl 1 rfl) ?_
    refine lv_bipush (v := 23) hx hb dX7_market_31 (by decide) ?_
    refine lv_icmp_ge (tgt := 49) hx hb dX7_market_33 (by decide) (fun hc163 => ?_) (fun hc163 => ?_)
    · have h := ul_if_t hc163 h
      exact ge _ _ _ (J49 q30.1 q30.2 H locs ⟨hP, hD, hS⟩ ls (lv_sub hl [0, 1] rfl) (hx30 (q30.1, q30.2) h))
    · have h := ul_if_f hc163 h
      refine lv_aload_n hx hb dX7_market_36 rfl (lv_at hl 0 rfl) ?_
      refine va_get (D := (dC, dI)) (ci := 7) (v := .ref (aM 6)) (C := RX7) (T := TX7) (N := 26) hx hb hts hin7 hown hK hP 0 rfl rfl 7 (by decide) (hts (.fieldLink RX7 25 "UnderLaddersModel" "now" "[I") (by decide +kernel)) (fun _ h9 => h9) rfl dX7_market_37 ?_
      refine lv_iload_n hx hb dX7_market_40 rfl (lv_at hl 1 rfl) ?_
      refine lv_iconst (v := 0) hx hb dX7_market_41 (by decide) ?_
      obtain ⟨hi165, h⟩ := ul_st_h h
      refine va_iast hx hb hK hP hD hS 6 0 rfl rfl hi165 dX7_market_42 (fun H locs hP hD hS => ?_)
      obtain ⟨M164, eM164⟩ : ∃ z : ul_S, z = ul_up q30.2 6 q30.1.toNatClampNeg (0 : Int32) := ⟨_, rfl⟩
      have h := h M164 eM164
      have hP : va_P (dC, dI) classes (ul_wM cI cZ aM M164 d) H := by rw [eM164]; exact hP
      have hD : va_D A (ul_wM cI cZ aM M164 d) := by rw [eM164]; exact hD
      obtain ⟨v166, ev166⟩ : ∃ z : Int32, z = q30.1 + 1 := ⟨_, rfl⟩
      have h := ul_bd_h h v166 ev166
      refine lv_iinc (v := v166) (lv' := [(1, .int v166), (0, .ref (aM 0))]) hx hb dX7_market_43 hl (k := 1) rfl (by rw [ev166]; rfl) (by decide) rfl (fun ls hl => ?_)
      refine lv_goto (tgt := 30) hx hb dX7_market_46 (by decide) ?_
      exact ge _ _ _ (ih30 (v166, M164) h H locs ⟨hP, hD, hS⟩ ls (lv_sub hl [1, 0] rfl))
  · have h := ul_if_f hc156 h
    refine lv_bipush (v := -3) hx hb dX7_market_9 (by decide) ?_
    have hr9 := hK0 ((-3 : Int32), u155.2) h
    subst hr9
    exact W.iret (v := (-3 : Int32)) hx hb hr (fun t ht hW => ⟨⟨(-3 : Int32), (), rfl, rfl, by rw [ht]; exact hP, va_K.moved hW.alike hK, hD⟩, hS.F ht⟩) hS.2.2 dX7_market_11
def f_X7_isLadder (M : ul_S) (p1 : Int32) : Option Int32 :=
  (f_X7_in p1.toInt64 (0 : Int64) (((M 0 0) - (1 : Int32)).toInt64)).bind fun u1 => ul_zb u1 (some u1)
set_option maxHeartbeats 4000000 in
set_option maxRecDepth 100000 in
theorem c_X7_isLadder (l : Launch) (dC : Nat → ClassId) (dI : Nat → Nat → Nat) (cI : ClassId) (cZ : ClassId) (aM : Nat → Nat) (sz : Nat) (M : ul_S) (d : Int64) (p1 : Int32) (r : Int32) (h : f_X7_isLadder M p1 = some r) : Met l yX7_isLadder wsX7_isLadder ({ frames := 1, cells := 0, slots := 0, locals := 25 }) (va_Pc [.ref (aM 0), .int p1] (ul_pre (dC, dI) [(cI, .int), (cZ, .boolean)] ul_N0 sz (ul_wM cI cZ aM M d))) (va_Qi (fun v (_ : Unit) => v = r) (fun _ => ul_post (dC, dI) [(cI, .int), (cZ, .boolean)] (va_A (ul_wM cI cZ aM M d) sz) (ul_wM cI cZ aM M d)) (va_A (ul_wM cI cZ aM M d) sz)) 0 0 (va_A (ul_wM cI cZ aM M d) sz) := by
  refine Met.ofW (cc := cX7_isLadder) (maxL := 2) (ret := (some .boolean)) (by decide) rfl ?_
  intro p e s m args below meth c s₁ B hml hv
  obtain ⟨rfl, hsz, hP, hK, hD0, hN⟩ := hv
  have hx := B.exec
  have hb := B.bytes
  have hr := B.returns
  have hts := atoms_spec (ws := wsX7_isLadder) B.pre
  have hown : s.vm.findClass RX7 = some m.cls := findClass_of_methodNamed B.named
  have hlocks := B.notSynchronized
  have hin7 : ∀ w ∈ u_ws RX7 TX7 26, w ∈ wsX7_isLadder := by decide +kernel
  subst hsz
  have hD := hD0.self (sz := s.heap.size)
  generalize hAe : va_A (ul_wM cI cZ aM M d) s.heap.size = A at hD ⊢
  have hA : ∀ q : Nat, s.heap.size ≤ q → A q := fun q h => by rw [← hAe]; exact Or.inr h
  have hS : va_S A s.heap s.heap [] := va_S.rf
  have hl := lv_entry ([.ref (aM 0), .int p1]) (n := 2) (Nat.le_of_ble_eq_true rfl)
  rw [lg_entry_eq]
  generalize (lg_sl ([.ref (aM 0), .int p1]) ++ List.replicate (2 - (lg_sl ([.ref (aM 0), .int p1])).length) Slot.unset).toArray = ls at hl ⊢
  have hl : lv_has ls 2 [(0, .ref (aM 0)), (1, .int p1)] := hl
  obtain ⟨K0, hK0, h⟩ := ul_top h
  unfold f_X7_isLadder at h
  refine ul_gen (fun G gi ge => ?_)
  obtain ⟨H, eH⟩ : ∃ z, z = s.heap := ⟨_, rfl⟩
  obtain ⟨locs, eL⟩ : ∃ z : List Loc, z = [] := ⟨_, rfl⟩
  have hP : va_P (dC, dI) classes (ul_wM cI cZ aM M d) H := by rw [eH]; exact hP
  have hS : va_S A s.heap H locs := by rw [eH, eL]; exact hS
  rw [← eL]
  refine (show G H locs (F0 m 0 ls []) → G s.heap locs (F0 m 0 ls []) from fun z => by rw [← eH]; exact z) ?_
  refine gi _ _ _ ?_
  refine lv_iload_n hx hb dX7_isLadder_0 rfl (lv_at hl 1 rfl) ?_
  refine lv_i2l hx hb dX7_isLadder_1 rfl ?_
  refine lv_lconst (v := 0) hx hb dX7_isLadder_2 (by decide) ?_
  refine lv_aload_n hx hb dX7_isLadder_3 rfl (lv_at hl 0 rfl) ?_
  refine va_get (D := (dC, dI)) (ci := 7) (v := .int (M 0 0)) (C := RX7) (T := TX7) (N := 26) hx hb hts hin7 hown hK hP 0 rfl rfl 0 (by decide) (hts (.fieldLink RX7 96 "UnderLaddersModel" "ladders" "I") (by decide +kernel)) (fun _ h9 => h9) rfl dX7_isLadder_4 ?_
  refine lv_iconst (v := 1) hx hb dX7_isLadder_7 (by decide) ?_
  refine lv_isub hx hb dX7_isLadder_8 ?_
  refine lv_i2l hx hb dX7_isLadder_9 rfl ?_
  obtain ⟨u1, hu1, h⟩ := ul_cl_h h
  refine ul_cSi (As := [.long p1.toInt64, .long (0 : Int64), .long (((M 0 0) - (1 : Int32)).toInt64)]) (rest := []) hP hD hS hK hA (c_X7_in l dC dI H.size p1.toInt64 (0 : Int64) (((M 0 0) - (1 : Int32)).toInt64) u1 hu1) ⟨hx, hb, hml, hown, hts⟩ (cwS 3 hts gX7_isLadder_X7_in rfl rfl rfl (by decide +kernel) ⟨Nat.le_of_ble_eq_true rfl, Nat.le_of_ble_eq_true rfl⟩) rfl hl.1 rfl (Nat.le_of_ble_eq_true rfl) dX7_isLadder_10 (fun H locs hw => ?_)
  obtain ⟨hP, hD, hS⟩ := hw
  obtain ⟨hz2, h⟩ := ul_zb_h h
  have hr9 := hK0 u1 h
  subst hr9
  exact W.zret (v := u1) hx hb hr hz2 (fun t ht hW => ⟨⟨u1, (), rfl, rfl, by rw [ht]; exact hP, va_K.moved hW.alike hK, hD⟩, hS.F ht⟩) hS.2.2 dX7_isLadder_13
def f_X7_isPerson (M : ul_S) (p1 : Int32) : Option Int32 :=
  (f_X7_in p1.toInt64 (0 : Int64) (((M 0 1) - (1 : Int32)).toInt64)).bind fun u1 => ul_zb u1 (some u1)
set_option maxHeartbeats 4000000 in
set_option maxRecDepth 100000 in
theorem c_X7_isPerson (l : Launch) (dC : Nat → ClassId) (dI : Nat → Nat → Nat) (cI : ClassId) (cZ : ClassId) (aM : Nat → Nat) (sz : Nat) (M : ul_S) (d : Int64) (p1 : Int32) (r : Int32) (h : f_X7_isPerson M p1 = some r) : Met l yX7_isPerson wsX7_isPerson ({ frames := 1, cells := 0, slots := 0, locals := 25 }) (va_Pc [.ref (aM 0), .int p1] (ul_pre (dC, dI) [(cI, .int), (cZ, .boolean)] ul_N0 sz (ul_wM cI cZ aM M d))) (va_Qi (fun v (_ : Unit) => v = r) (fun _ => ul_post (dC, dI) [(cI, .int), (cZ, .boolean)] (va_A (ul_wM cI cZ aM M d) sz) (ul_wM cI cZ aM M d)) (va_A (ul_wM cI cZ aM M d) sz)) 0 0 (va_A (ul_wM cI cZ aM M d) sz) := by
  refine Met.ofW (cc := cX7_isPerson) (maxL := 2) (ret := (some .boolean)) (by decide) rfl ?_
  intro p e s m args below meth c s₁ B hml hv
  obtain ⟨rfl, hsz, hP, hK, hD0, hN⟩ := hv
  have hx := B.exec
  have hb := B.bytes
  have hr := B.returns
  have hts := atoms_spec (ws := wsX7_isPerson) B.pre
  have hown : s.vm.findClass RX7 = some m.cls := findClass_of_methodNamed B.named
  have hlocks := B.notSynchronized
  have hin7 : ∀ w ∈ u_ws RX7 TX7 26, w ∈ wsX7_isPerson := by decide +kernel
  subst hsz
  have hD := hD0.self (sz := s.heap.size)
  generalize hAe : va_A (ul_wM cI cZ aM M d) s.heap.size = A at hD ⊢
  have hA : ∀ q : Nat, s.heap.size ≤ q → A q := fun q h => by rw [← hAe]; exact Or.inr h
  have hS : va_S A s.heap s.heap [] := va_S.rf
  have hl := lv_entry ([.ref (aM 0), .int p1]) (n := 2) (Nat.le_of_ble_eq_true rfl)
  rw [lg_entry_eq]
  generalize (lg_sl ([.ref (aM 0), .int p1]) ++ List.replicate (2 - (lg_sl ([.ref (aM 0), .int p1])).length) Slot.unset).toArray = ls at hl ⊢
  have hl : lv_has ls 2 [(0, .ref (aM 0)), (1, .int p1)] := hl
  obtain ⟨K0, hK0, h⟩ := ul_top h
  unfold f_X7_isPerson at h
  refine ul_gen (fun G gi ge => ?_)
  obtain ⟨H, eH⟩ : ∃ z, z = s.heap := ⟨_, rfl⟩
  obtain ⟨locs, eL⟩ : ∃ z : List Loc, z = [] := ⟨_, rfl⟩
  have hP : va_P (dC, dI) classes (ul_wM cI cZ aM M d) H := by rw [eH]; exact hP
  have hS : va_S A s.heap H locs := by rw [eH, eL]; exact hS
  rw [← eL]
  refine (show G H locs (F0 m 0 ls []) → G s.heap locs (F0 m 0 ls []) from fun z => by rw [← eH]; exact z) ?_
  refine gi _ _ _ ?_
  refine lv_iload_n hx hb dX7_isPerson_0 rfl (lv_at hl 1 rfl) ?_
  refine lv_i2l hx hb dX7_isPerson_1 rfl ?_
  refine lv_lconst (v := 0) hx hb dX7_isPerson_2 (by decide) ?_
  refine lv_aload_n hx hb dX7_isPerson_3 rfl (lv_at hl 0 rfl) ?_
  refine va_get (D := (dC, dI)) (ci := 7) (v := .int (M 0 1)) (C := RX7) (T := TX7) (N := 26) hx hb hts hin7 hown hK hP 0 rfl rfl 1 (by decide) (hts (.fieldLink RX7 99 "UnderLaddersModel" "people" "I") (by decide +kernel)) (fun _ h9 => h9) rfl dX7_isPerson_4 ?_
  refine lv_iconst (v := 1) hx hb dX7_isPerson_7 (by decide) ?_
  refine lv_isub hx hb dX7_isPerson_8 ?_
  refine lv_i2l hx hb dX7_isPerson_9 rfl ?_
  obtain ⟨u1, hu1, h⟩ := ul_cl_h h
  refine ul_cSi (As := [.long p1.toInt64, .long (0 : Int64), .long (((M 0 1) - (1 : Int32)).toInt64)]) (rest := []) hP hD hS hK hA (c_X7_in l dC dI H.size p1.toInt64 (0 : Int64) (((M 0 1) - (1 : Int32)).toInt64) u1 hu1) ⟨hx, hb, hml, hown, hts⟩ (cwS 3 hts gX7_isPerson_X7_in rfl rfl rfl (by decide +kernel) ⟨Nat.le_of_ble_eq_true rfl, Nat.le_of_ble_eq_true rfl⟩) rfl hl.1 rfl (Nat.le_of_ble_eq_true rfl) dX7_isPerson_10 (fun H locs hw => ?_)
  obtain ⟨hP, hD, hS⟩ := hw
  obtain ⟨hz2, h⟩ := ul_zb_h h
  have hr9 := hK0 u1 h
  subst hr9
  exact W.zret (v := u1) hx hb hr hz2 (fun t ht hW => ⟨⟨u1, (), rfl, rfl, by rw [ht]; exact hP, va_K.moved hW.alike hK, hD⟩, hS.F ht⟩) hS.2.2 dX7_isPerson_13
def f_X7_takes (p0 : Int32) (p1 : Int32) (p2 : Int32) : Option Int32 :=
  if p0 = 1 then ((f_X7_lesser p1 (p2 / (2 : Int32))).bind fun u2 => some u2) else (if p0 = 3 then (some p2) else ((f_X7_lesser p1 p2).bind fun u4 => some u4))
set_option maxHeartbeats 4000000 in
set_option maxRecDepth 100000 in
theorem c_X7_takes (l : Launch) (dC : Nat → ClassId) (dI : Nat → Nat → Nat) (sz : Nat) (p0 : Int32) (p1 : Int32) (p2 : Int32) (r : Int32) (h : f_X7_takes p0 p1 p2 = some r) : Met l yX7_takes wsX7_takes ({ frames := 1, cells := 0, slots := 0, locals := 21 }) (va_Pc [.int p0, .int p1, .int p2] (ul_pre (dC, dI) [] ul_N0 sz [])) (va_Qi (fun v (_ : Unit) => v = r) (fun _ => ul_post (dC, dI) [] (va_A [] sz) []) (va_A [] sz)) 0 0 (va_A [] sz) := by
  refine Met.ofW (cc := cX7_takes) (maxL := 3) (ret := (some .int)) (by decide) rfl ?_
  intro p e s m args below meth c s₁ B hml hv
  obtain ⟨rfl, hsz, hP, hK, hD0, hN⟩ := hv
  have hx := B.exec
  have hb := B.bytes
  have hr := B.returns
  have hts := atoms_spec (ws := wsX7_takes) B.pre
  have hown : s.vm.findClass RX7 = some m.cls := findClass_of_methodNamed B.named
  have hlocks := B.notSynchronized
  subst hsz
  have hD := hD0.self (sz := s.heap.size)
  generalize hAe : va_A [] s.heap.size = A at hD ⊢
  have hA : ∀ q : Nat, s.heap.size ≤ q → A q := fun q h => by rw [← hAe]; exact Or.inr h
  have hS : va_S A s.heap s.heap [] := va_S.rf
  have hl := lv_entry ([.int p0, .int p1, .int p2]) (n := 3) (Nat.le_of_ble_eq_true rfl)
  rw [lg_entry_eq]
  generalize (lg_sl ([.int p0, .int p1, .int p2]) ++ List.replicate (3 - (lg_sl ([.int p0, .int p1, .int p2])).length) Slot.unset).toArray = ls at hl ⊢
  have hl : lv_has ls 3 [(0, .int p0), (1, .int p1), (2, .int p2)] := hl
  obtain ⟨K0, hK0, h⟩ := ul_top h
  unfold f_X7_takes at h
  refine ul_gen (fun G gi ge => ?_)
  obtain ⟨H, eH⟩ : ∃ z, z = s.heap := ⟨_, rfl⟩
  obtain ⟨locs, eL⟩ : ∃ z : List Loc, z = [] := ⟨_, rfl⟩
  have hP : va_P (dC, dI) classes [] H := by rw [eH]; exact hP
  have hS : va_S A s.heap H locs := by rw [eH, eL]; exact hS
  rw [← eL]
  refine (show G H locs (F0 m 0 ls []) → G s.heap locs (F0 m 0 ls []) from fun z => by rw [← eH]; exact z) ?_
  refine gi _ _ _ ?_
  refine lv_iload_n hx hb dX7_takes_0 rfl (lv_at hl 0 rfl) ?_
  by_cases hc1 : p0 = 1
  · have h := ul_if_t hc1 h
    refine lv_lookup (off := 27) (tgt := 28) hx hb dX7_takes_1 (by decide) (by rw [hc1]; decide) (by decide) ?_
    refine lv_iload_n hx hb dX7_takes_28 rfl (lv_at hl 1 rfl) ?_
    refine lv_iload_n hx hb dX7_takes_29 rfl (lv_at hl 2 rfl) ?_
    refine lv_iconst (v := 2) hx hb dX7_takes_30 (by decide) ?_
    refine lv_idiv hx hb dX7_takes_31 (by decide) ?_
    obtain ⟨u2, hu2, h⟩ := ul_cl_h h
    refine ul_cSi (As := [.int p1, .int (p2 / (2 : Int32))]) (rest := []) hP hD hS hK hA (c_X7_lesser l dC dI H.size p1 (p2 / (2 : Int32)) u2 hu2) ⟨hx, hb, hml, hown, hts⟩ (cwS 2 hts gX7_takes_X7_lesser rfl rfl rfl (by decide +kernel) ⟨Nat.le_of_ble_eq_true rfl, Nat.le_of_ble_eq_true rfl⟩) rfl hl.1 rfl (Nat.le_of_ble_eq_true rfl) dX7_takes_32 (fun H locs hw => ?_)
    obtain ⟨hP, hD, hS⟩ := hw
    have hr9 := hK0 u2 h
    subst hr9
    exact W.iret (v := u2) hx hb hr (fun t ht hW => ⟨⟨u2, (), rfl, rfl, by rw [ht]; exact hP, va_K.moved hW.alike hK, hD⟩, hS.F ht⟩) hS.2.2 dX7_takes_35
  · have h := ul_if_f hc1 h
    by_cases hc3 : p0 = 3
    · have h := ul_if_t hc3 h
      refine lv_lookup (off := 35) (tgt := 36) hx hb dX7_takes_1 (by decide) (by rw [hc3]; decide) (by decide) ?_
      refine lv_iload_n hx hb dX7_takes_36 rfl (lv_at hl 2 rfl) ?_
      have hr9 := hK0 p2 h
      subst hr9
      exact W.iret (v := p2) hx hb hr (fun t ht hW => ⟨⟨p2, (), rfl, rfl, by rw [ht]; exact hP, va_K.moved hW.alike hK, hD⟩, hS.F ht⟩) hS.2.2 dX7_takes_37
    · have h := ul_if_f hc3 h
      refine lv_lookup (off := 37) (tgt := 38) hx hb dX7_takes_1 (by decide) (by rw [lv_osw hc1 (by decide), lv_osw hc3 (by decide)]; rfl) (by decide) ?_
      refine lv_iload_n hx hb dX7_takes_38 rfl (lv_at hl 1 rfl) ?_
      refine lv_iload_n hx hb dX7_takes_39 rfl (lv_at hl 2 rfl) ?_
      obtain ⟨u4, hu4, h⟩ := ul_cl_h h
      refine ul_cSi (As := [.int p1, .int p2]) (rest := []) hP hD hS hK hA (c_X7_lesser l dC dI H.size p1 p2 u4 hu4) ⟨hx, hb, hml, hown, hts⟩ (cwS 2 hts gX7_takes_X7_lesser rfl rfl rfl (by decide +kernel) ⟨Nat.le_of_ble_eq_true rfl, Nat.le_of_ble_eq_true rfl⟩) rfl hl.1 rfl (Nat.le_of_ble_eq_true rfl) dX7_takes_40 (fun H locs hw => ?_)
      obtain ⟨hP, hD, hS⟩ := hw
      have hr9 := hK0 u4 h
      subst hr9
      exact W.iret (v := u4) hx hb hr (fun t ht hW => ⟨⟨u4, (), rfl, rfl, by rw [ht]; exact hP, va_K.moved hW.alike hK, hD⟩, hS.F ht⟩) hS.2.2 dX7_takes_43
def f_X7_ladderAt_j33 (M : ul_S) (p1 : Int32) (p2 : Int32) (x3 : Int32) : Option Int32 :=
  some (-9 : Int32)
def f_X7_ladderAt_L2 (M : ul_S) (p1 : Int32) (p2 : Int32) (q2 : Int32) : Option ((Int32 ⊕ Int32) ⊕ Int32) :=
  if (M 0 0) ≤ q2 then (some (.inl (.inr q2))) else (ul_ld (M 6) 46 (((23 : Int32) * p1) + q2) fun v2 => if v2 = p2 then (some (.inl (.inl q2))) else (ul_bd (q2 + 1) fun v5 => some (.inr v5)))
def f_X7_ladderAt (M : ul_S) (p1 : Int32) (p2 : Int32) : Option Int32 :=
  (ul_it ul_N (f_X7_ladderAt_L2 M p1 p2) (0 : Int32)).bind (Sum.elim (fun z => some z) (fun e2 => f_X7_ladderAt_j33 M p1 p2 e2))
set_option maxHeartbeats 4000000 in
set_option maxRecDepth 100000 in
theorem c_X7_ladderAt (l : Launch) (dC : Nat → ClassId) (dI : Nat → Nat → Nat) (cI : ClassId) (cZ : ClassId) (aM : Nat → Nat) (sz : Nat) (M : ul_S) (d : Int64) (p1 : Int32) (p2 : Int32) (r : Int32) (h : f_X7_ladderAt M p1 p2 = some r) : Met l yX7_ladderAt wsX7_ladderAt ({ frames := 0, cells := 0, slots := 0, locals := 0 }) (va_Pc [.ref (aM 0), .int p1, .int p2] (ul_pre (dC, dI) [(cI, .int), (cZ, .boolean)] ul_N0 sz (ul_wM cI cZ aM M d))) (va_Qi (fun v (_ : Unit) => v = r) (fun _ => ul_post (dC, dI) [(cI, .int), (cZ, .boolean)] (va_A (ul_wM cI cZ aM M d) sz) (ul_wM cI cZ aM M d)) (va_A (ul_wM cI cZ aM M d) sz)) 0 0 (va_A (ul_wM cI cZ aM M d) sz) := by
  refine Met.ofW (cc := cX7_ladderAt) (maxL := 4) (ret := (some .int)) (by decide) rfl ?_
  intro p e s m args below meth c s₁ B hml hv
  obtain ⟨rfl, hsz, hP, hK, hD0, hN⟩ := hv
  have hx := B.exec
  have hb := B.bytes
  have hr := B.returns
  have hts := atoms_spec (ws := wsX7_ladderAt) B.pre
  have hown : s.vm.findClass RX7 = some m.cls := findClass_of_methodNamed B.named
  have hlocks := B.notSynchronized
  have hin7 : ∀ w ∈ u_ws RX7 TX7 26, w ∈ wsX7_ladderAt := by decide +kernel
  subst hsz
  have hD := hD0.self (sz := s.heap.size)
  generalize hAe : va_A (ul_wM cI cZ aM M d) s.heap.size = A at hD ⊢
  have hA : ∀ q : Nat, s.heap.size ≤ q → A q := fun q h => by rw [← hAe]; exact Or.inr h
  have hS : va_S A s.heap s.heap [] := va_S.rf
  have hl := lv_entry ([.ref (aM 0), .int p1, .int p2]) (n := 4) (Nat.le_of_ble_eq_true rfl)
  rw [lg_entry_eq]
  generalize (lg_sl ([.ref (aM 0), .int p1, .int p2]) ++ List.replicate (4 - (lg_sl ([.ref (aM 0), .int p1, .int p2])).length) Slot.unset).toArray = ls at hl ⊢
  have hl : lv_has ls 4 [(0, .ref (aM 0)), (1, .int p1), (2, .int p2)] := hl
  obtain ⟨K0, hK0, h⟩ := ul_top h
  unfold f_X7_ladderAt at h
  refine ul_gen (fun G gi ge => ?_)
  obtain ⟨H, eH⟩ : ∃ z, z = s.heap := ⟨_, rfl⟩
  obtain ⟨locs, eL⟩ : ∃ z : List Loc, z = [] := ⟨_, rfl⟩
  have hP : va_P (dC, dI) classes (ul_wM cI cZ aM M d) H := by rw [eH]; exact hP
  have hS : va_S A s.heap H locs := by rw [eH, eL]; exact hS
  rw [← eL]
  refine (show G H locs (F0 m 0 ls []) → G s.heap locs (F0 m 0 ls []) from fun z => by rw [← eH]; exact z) ?_
  have J33 : ∀ (x3 : Int32) (H : Heap) (locs : List Loc), ul_H (dC, dI) A s.heap (ul_wM cI cZ aM M d) H locs → ∀ ls : Array Slot, lv_has ls 4 [(0, .ref (aM 0)), (1, .int p1), (2, .int p2), (3, .int x3)] → (f_X7_ladderAt_j33 M p1 p2 x3).bind K0 = some r → G H locs (F0 m 33 ls []) := by
    intro x3 H locs hw ls hl h
    obtain ⟨hP, hD, hS⟩ := hw
    unfold f_X7_ladderAt_j33 at h
    refine gi _ _ _ ?_
    refine lv_bipush (v := -9) hx hb dX7_ladderAt_33 (by decide) ?_
    have hr9 := hK0 (-9 : Int32) h
    subst hr9
    exact W.iret (v := (-9 : Int32)) hx hb hr (fun t ht hW => ⟨⟨(-9 : Int32), (), rfl, rfl, by rw [ht]; exact hP, va_K.moved hW.alike hK, hD⟩, hS.F ht⟩) hS.2.2 dX7_ladderAt_35
  refine gi _ _ _ ?_
  refine lv_iconst (v := 0) hx hb dX7_ladderAt_0 (by decide) ?_
  refine lv_istore_n (lv' := [(3, .int (0 : Int32)), (0, .ref (aM 0)), (1, .int p1), (2, .int p2)]) hx hb dX7_ladderAt_1 rfl hl (by decide) rfl (fun ls hl => ?_)
  refine ge _ _ _ (ul_loop (P := fun q2 => ∀ (H : Heap) (locs : List Loc), ul_H (dC, dI) A s.heap (ul_wM cI cZ aM M d) H locs → ∀ ls : Array Slot, lv_has ls 4 [(0, .ref (aM 0)), (1, .int p1), (2, .int p2), (3, .int q2)] → G H locs (F0 m 2 ls [])) ?_ _ _ (ul_it_h h) H locs ⟨hP, hD, hS⟩ ls (lv_sub hl [1, 2, 3, 0] rfl))
  intro K2 hx2
  intro q2 ih2 h H locs hw ls hl
  obtain ⟨hP, hD, hS⟩ := hw
  unfold f_X7_ladderAt_L2 at h
  refine gi _ _ _ ?_
  refine lv_iload_n hx hb dX7_ladderAt_2 rfl (lv_at hl 3 rfl) ?_
  refine lv_aload_n hx hb dX7_ladderAt_3 rfl (lv_at hl 0 rfl) ?_
  refine va_get (D := (dC, dI)) (ci := 7) (v := .int (M 0 0)) (C := RX7) (T := TX7) (N := 26) hx hb hts hin7 hown hK hP 0 rfl rfl 0 (by decide) (hts (.fieldLink RX7 96 "UnderLaddersModel" "ladders" "I") (by decide +kernel)) (fun _ h9 => h9) rfl dX7_ladderAt_4 ?_
  refine lv_icmp_ge (tgt := 33) hx hb dX7_ladderAt_7 (by decide) (fun hc6 => ?_) (fun hc6 => ?_)
  · have h := ul_if_t hc6 h
    exact ge _ _ _ (J33 q2 H locs ⟨hP, hD, hS⟩ ls (lv_sub hl [0, 1, 2, 3] rfl) (hx2 (.inr q2) h))
  · have h := ul_if_f hc6 h
    refine lv_aload_n hx hb dX7_ladderAt_10 rfl (lv_at hl 0 rfl) ?_
    refine va_get (D := (dC, dI)) (ci := 7) (v := .ref (aM 6)) (C := RX7) (T := TX7) (N := 26) hx hb hts hin7 hown hK hP 0 rfl rfl 7 (by decide) (hts (.fieldLink RX7 25 "UnderLaddersModel" "now" "[I") (by decide +kernel)) (fun _ h9 => h9) rfl dX7_ladderAt_11 ?_
    refine lv_bipush (v := 23) hx hb dX7_ladderAt_14 (by decide) ?_
    refine lv_iload_n hx hb dX7_ladderAt_16 rfl (lv_at hl 1 rfl) ?_
    refine lv_imul hx hb dX7_ladderAt_17 ?_
    refine lv_iload_n hx hb dX7_ladderAt_18 rfl (lv_at hl 3 rfl) ?_
    refine lv_iadd hx hb dX7_ladderAt_19 ?_
    obtain ⟨hi8, h⟩ := ul_ld_h h
    refine va_iald hx hb hK hP 6 0 rfl rfl hi8 dX7_ladderAt_20 ?_
    refine lv_topi (fun v7 ev7 => ?_)
    have h := h v7 ev7
    refine lv_iload_n hx hb dX7_ladderAt_21 rfl (lv_at hl 2 rfl) ?_
    refine lv_icmp_ne (tgt := 27) hx hb dX7_ladderAt_22 (by decide) (fun hc9 => ?_) (fun hc9 => ?_)
    · have h := ul_if_f hc9 h
      obtain ⟨v10, ev10⟩ : ∃ z : Int32, z = q2 + 1 := ⟨_, rfl⟩
      have h := ul_bd_h h v10 ev10
      refine lv_iinc (v := v10) (lv' := [(3, .int v10), (0, .ref (aM 0)), (1, .int p1), (2, .int p2)]) hx hb dX7_ladderAt_27 hl (k := 3) rfl (by rw [ev10]; rfl) (by decide) rfl (fun ls hl => ?_)
      refine lv_goto (tgt := 2) hx hb dX7_ladderAt_30 (by decide) ?_
      exact ge _ _ _ (ih2 v10 h H locs ⟨hP, hD, hS⟩ ls (lv_sub hl [1, 2, 3, 0] rfl))
    · have h := ul_if_t hc9 h
      refine lv_iload_n hx hb dX7_ladderAt_25 rfl (lv_at hl 3 rfl) ?_
      have hr9 := hK0 q2 (hx2 (.inl q2) h)
      subst hr9
      exact W.iret (v := q2) hx hb hr (fun t ht hW => ⟨⟨q2, (), rfl, rfl, by rw [ht]; exact hP, va_K.moved hW.alike hK, hD⟩, hS.F ht⟩) hS.2.2 dX7_ladderAt_26
def f_X7_goUnder (M : ul_S) (p1 : Int32) (p2 : Int32) (p3 : Int32) : Option ul_S :=
  ul_bd ((23 : Int32) * p1) fun v1 => ul_ld (M 2) 4 p3 fun v2 => ul_ld (M 1) 4 p3 fun v4 => ul_ld (M 6) 46 ((v1 + (17 : Int32)) + p2) fun v6 => (f_X7_takes v2 v4 v6).bind fun u8 => ul_bd ((v1 + (17 : Int32)) + p2) fun v9 => ul_ld (M 6) 46 v9 fun v10 => ul_st M 6 46 v9 (v10 - u8) fun M12 => ul_bd ((v1 + (4 : Int32)) + p3) fun v14 => ul_ld (M12 6) 46 v14 fun v15 => ul_st M12 6 46 v14 (v15 + u8) fun M17 => ul_ld (M17 2) 4 p3 fun v19 => if v19 = (2 : Int32) then (ul_ld (M17 6) 46 ((v1 + (4 : Int32)) + p3) fun v22 => (f_X7_lesser v22 (12 : Int32)).bind fun u24 => ul_st M17 6 46 ((v1 + (4 : Int32)) + p3) u24 fun M25 => some M25) else (some M17)
set_option maxHeartbeats 4000000 in
set_option maxRecDepth 100000 in
theorem c_X7_goUnder (l : Launch) (dC : Nat → ClassId) (dI : Nat → Nat → Nat) (cI : ClassId) (cZ : ClassId) (aM : Nat → Nat) (sz : Nat) (M : ul_S) (d : Int64) (p1 : Int32) (p2 : Int32) (p3 : Int32) (r : ul_S) (h : f_X7_goUnder M p1 p2 p3 = some r) : Met l yX7_goUnder wsX7_goUnder ({ frames := 2, cells := 0, slots := 0, locals := 43 }) (va_Pc [.ref (aM 0), .int p1, .int p2, .int p3] (ul_pre (dC, dI) [(cI, .int), (cZ, .boolean)] ul_N0 sz (ul_wM cI cZ aM M d))) (va_Qv (fun (_ : Unit) => True) (fun _ => ul_post (dC, dI) [(cI, .int), (cZ, .boolean)] (va_A (ul_wM cI cZ aM M d) sz) (ul_wM cI cZ aM r d)) (va_A (ul_wM cI cZ aM M d) sz)) 0 0 (va_A (ul_wM cI cZ aM M d) sz) := by
  refine Met.ofW (cc := cX7_goUnder) (maxL := 6) (ret := none) (by decide) rfl ?_
  intro p e s m args below meth c s₁ B hml hv
  obtain ⟨rfl, hsz, hP, hK, hD0, hN⟩ := hv
  have hx := B.exec
  have hb := B.bytes
  have hr := B.returns
  have hts := atoms_spec (ws := wsX7_goUnder) B.pre
  have hown : s.vm.findClass RX7 = some m.cls := findClass_of_methodNamed B.named
  have hlocks := B.notSynchronized
  have hin7 : ∀ w ∈ u_ws RX7 TX7 26, w ∈ wsX7_goUnder := by decide +kernel
  subst hsz
  have hD := hD0.self (sz := s.heap.size)
  generalize hAe : va_A (ul_wM cI cZ aM M d) s.heap.size = A at hD ⊢
  have hA : ∀ q : Nat, s.heap.size ≤ q → A q := fun q h => by rw [← hAe]; exact Or.inr h
  have hS : va_S A s.heap s.heap [] := va_S.rf
  have hl := lv_entry ([.ref (aM 0), .int p1, .int p2, .int p3]) (n := 6) (Nat.le_of_ble_eq_true rfl)
  rw [lg_entry_eq]
  generalize (lg_sl ([.ref (aM 0), .int p1, .int p2, .int p3]) ++ List.replicate (6 - (lg_sl ([.ref (aM 0), .int p1, .int p2, .int p3])).length) Slot.unset).toArray = ls at hl ⊢
  have hl : lv_has ls 6 [(0, .ref (aM 0)), (1, .int p1), (2, .int p2), (3, .int p3)] := hl
  obtain ⟨K0, hK0, h⟩ := ul_top h
  unfold f_X7_goUnder at h
  refine ul_gen (fun G gi ge => ?_)
  obtain ⟨H, eH⟩ : ∃ z, z = s.heap := ⟨_, rfl⟩
  obtain ⟨locs, eL⟩ : ∃ z : List Loc, z = [] := ⟨_, rfl⟩
  have hP : va_P (dC, dI) classes (ul_wM cI cZ aM M d) H := by rw [eH]; exact hP
  have hS : va_S A s.heap H locs := by rw [eH, eL]; exact hS
  rw [← eL]
  refine (show G H locs (F0 m 0 ls []) → G s.heap locs (F0 m 0 ls []) from fun z => by rw [← eH]; exact z) ?_
  refine gi _ _ _ ?_
  refine lv_bipush (v := 23) hx hb dX7_goUnder_0 (by decide) ?_
  refine lv_iload_n hx hb dX7_goUnder_2 rfl (lv_at hl 1 rfl) ?_
  refine lv_imul hx hb dX7_goUnder_3 ?_
  refine lv_topi (fun v1 ev1 => ?_)
  have h := ul_bd_h h v1 ev1
  refine lv_istore (lv' := [(4, .int v1), (0, .ref (aM 0)), (1, .int p1), (2, .int p2), (3, .int p3)]) hx hb dX7_goUnder_4 hl (by decide) rfl (fun ls hl => ?_)
  refine lv_aload_n hx hb dX7_goUnder_6 rfl (lv_at hl 1 rfl) ?_
  refine va_get (D := (dC, dI)) (ci := 7) (v := .ref (aM 2)) (C := RX7) (T := TX7) (N := 26) hx hb hts hin7 hown hK hP 0 rfl rfl 3 (by decide) (hts (.fieldLink RX7 13 "UnderLaddersModel" "ladderKind" "[I") (by decide +kernel)) (fun _ h9 => h9) rfl dX7_goUnder_7 ?_
  refine lv_iload_n hx hb dX7_goUnder_10 rfl (lv_at hl 4 rfl) ?_
  obtain ⟨hi3, h⟩ := ul_ld_h h
  refine va_iald hx hb hK hP 2 0 rfl rfl hi3 dX7_goUnder_11 ?_
  refine lv_topi (fun v2 ev2 => ?_)
  have h := h v2 ev2
  refine lv_aload_n hx hb dX7_goUnder_12 rfl (lv_at hl 1 rfl) ?_
  refine va_get (D := (dC, dI)) (ci := 7) (v := .ref (aM 1)) (C := RX7) (T := TX7) (N := 26) hx hb hts hin7 hown hK hP 0 rfl rfl 2 (by decide) (hts (.fieldLink RX7 7 "UnderLaddersModel" "toll" "[I") (by decide +kernel)) (fun _ h9 => h9) rfl dX7_goUnder_13 ?_
  refine lv_iload_n hx hb dX7_goUnder_16 rfl (lv_at hl 4 rfl) ?_
  obtain ⟨hi5, h⟩ := ul_ld_h h
  refine va_iald hx hb hK hP 1 0 rfl rfl hi5 dX7_goUnder_17 ?_
  refine lv_topi (fun v4 ev4 => ?_)
  have h := h v4 ev4
  refine lv_aload_n hx hb dX7_goUnder_18 rfl (lv_at hl 1 rfl) ?_
  refine va_get (D := (dC, dI)) (ci := 7) (v := .ref (aM 6)) (C := RX7) (T := TX7) (N := 26) hx hb hts hin7 hown hK hP 0 rfl rfl 7 (by decide) (hts (.fieldLink RX7 25 "UnderLaddersModel" "now" "[I") (by decide +kernel)) (fun _ h9 => h9) rfl dX7_goUnder_19 ?_
  refine lv_iload hx hb dX7_goUnder_22 (lv_at hl 0 rfl) ?_
  refine lv_bipush (v := 17) hx hb dX7_goUnder_24 (by decide) ?_
  refine lv_iadd hx hb dX7_goUnder_26 ?_
  refine lv_iload_n hx hb dX7_goUnder_27 rfl (lv_at hl 3 rfl) ?_
  refine lv_iadd hx hb dX7_goUnder_28 ?_
  obtain ⟨hi7, h⟩ := ul_ld_h h
  refine va_iald hx hb hK hP 6 0 rfl rfl hi7 dX7_goUnder_29 ?_
  refine lv_topi (fun v6 ev6 => ?_)
  have h := h v6 ev6
  obtain ⟨u8, hu8, h⟩ := ul_cl_h h
  refine ul_cSi (As := [.int v2, .int v4, .int v6]) (rest := []) hP hD hS hK hA (c_X7_takes l dC dI H.size v2 v4 v6 u8 hu8) ⟨hx, hb, hml, hown, hts⟩ (cwS 3 hts gX7_goUnder_X7_takes rfl rfl rfl (by decide +kernel) ⟨Nat.le_of_ble_eq_true rfl, Nat.le_of_ble_eq_true rfl⟩) rfl hl.1 rfl (Nat.le_of_ble_eq_true rfl) dX7_goUnder_30 (fun H locs hw => ?_)
  obtain ⟨hP, hD, hS⟩ := hw
  refine lv_istore (lv' := [(5, .int u8), (4, .int v1), (0, .ref (aM 0)), (1, .int p1), (2, .int p2), (3, .int p3)]) hx hb dX7_goUnder_33 hl (by decide) rfl (fun ls hl => ?_)
  refine lv_aload_n hx hb dX7_goUnder_35 rfl (lv_at hl 2 rfl) ?_
  refine va_get (D := (dC, dI)) (ci := 7) (v := .ref (aM 6)) (C := RX7) (T := TX7) (N := 26) hx hb hts hin7 hown hK hP 0 rfl rfl 7 (by decide) (hts (.fieldLink RX7 25 "UnderLaddersModel" "now" "[I") (by decide +kernel)) (fun _ h9 => h9) rfl dX7_goUnder_36 ?_
  refine lv_iload hx hb dX7_goUnder_39 (lv_at hl 1 rfl) ?_
  refine lv_bipush (v := 17) hx hb dX7_goUnder_41 (by decide) ?_
  refine lv_iadd hx hb dX7_goUnder_43 ?_
  refine lv_iload_n hx hb dX7_goUnder_44 rfl (lv_at hl 4 rfl) ?_
  refine lv_iadd hx hb dX7_goUnder_45 ?_
  refine lv_topi (fun v9 ev9 => ?_)
  have h := ul_bd_h h v9 ev9
  refine lv_dup2_11 hx hb dX7_goUnder_46 rfl rfl ?_
  obtain ⟨hi11, h⟩ := ul_ld_h h
  refine va_iald hx hb hK hP 6 0 rfl rfl hi11 dX7_goUnder_47 ?_
  refine lv_topi (fun v10 ev10 => ?_)
  have h := h v10 ev10
  refine lv_iload hx hb dX7_goUnder_48 (lv_at hl 0 rfl) ?_
  refine lv_isub hx hb dX7_goUnder_50 ?_
  obtain ⟨hi13, h⟩ := ul_st_h h
  refine va_iast hx hb hK hP hD hS 6 0 rfl rfl hi13 dX7_goUnder_51 (fun H locs hP hD hS => ?_)
  obtain ⟨M12, eM12⟩ : ∃ z : ul_S, z = ul_up M 6 v9.toNatClampNeg (v10 - u8) := ⟨_, rfl⟩
  have h := h M12 eM12
  have hP : va_P (dC, dI) classes (ul_wM cI cZ aM M12 d) H := by rw [eM12]; exact hP
  have hD : va_D A (ul_wM cI cZ aM M12 d) := by rw [eM12]; exact hD
  refine lv_aload_n hx hb dX7_goUnder_52 rfl (lv_at hl 2 rfl) ?_
  refine va_get (D := (dC, dI)) (ci := 7) (v := .ref (aM 6)) (C := RX7) (T := TX7) (N := 26) hx hb hts hin7 hown hK hP 0 rfl rfl 7 (by decide) (hts (.fieldLink RX7 25 "UnderLaddersModel" "now" "[I") (by decide +kernel)) (fun _ h9 => h9) rfl dX7_goUnder_53 ?_
  refine lv_iload hx hb dX7_goUnder_56 (lv_at hl 1 rfl) ?_
  refine lv_iconst (v := 4) hx hb dX7_goUnder_58 (by decide) ?_
  refine lv_iadd hx hb dX7_goUnder_59 ?_
  refine lv_iload_n hx hb dX7_goUnder_60 rfl (lv_at hl 5 rfl) ?_
  refine lv_iadd hx hb dX7_goUnder_61 ?_
  refine lv_topi (fun v14 ev14 => ?_)
  have h := ul_bd_h h v14 ev14
  refine lv_dup2_11 hx hb dX7_goUnder_62 rfl rfl ?_
  obtain ⟨hi16, h⟩ := ul_ld_h h
  refine va_iald hx hb hK hP 6 0 rfl rfl hi16 dX7_goUnder_63 ?_
  refine lv_topi (fun v15 ev15 => ?_)
  have h := h v15 ev15
  refine lv_iload hx hb dX7_goUnder_64 (lv_at hl 0 rfl) ?_
  refine lv_iadd hx hb dX7_goUnder_66 ?_
  obtain ⟨hi18, h⟩ := ul_st_h h
  refine va_iast hx hb hK hP hD hS 6 0 rfl rfl hi18 dX7_goUnder_67 (fun H locs hP hD hS => ?_)
  obtain ⟨M17, eM17⟩ : ∃ z : ul_S, z = ul_up M12 6 v14.toNatClampNeg (v15 + u8) := ⟨_, rfl⟩
  have h := h M17 eM17
  have hP : va_P (dC, dI) classes (ul_wM cI cZ aM M17 d) H := by rw [eM17]; exact hP
  have hD : va_D A (ul_wM cI cZ aM M17 d) := by rw [eM17]; exact hD
  refine lv_aload_n hx hb dX7_goUnder_68 rfl (lv_at hl 2 rfl) ?_
  refine va_get (D := (dC, dI)) (ci := 7) (v := .ref (aM 2)) (C := RX7) (T := TX7) (N := 26) hx hb hts hin7 hown hK hP 0 rfl rfl 3 (by decide) (hts (.fieldLink RX7 13 "UnderLaddersModel" "ladderKind" "[I") (by decide +kernel)) (fun _ h9 => h9) rfl dX7_goUnder_69 ?_
  refine lv_iload_n hx hb dX7_goUnder_72 rfl (lv_at hl 5 rfl) ?_
  obtain ⟨hi20, h⟩ := ul_ld_h h
  refine va_iald hx hb hK hP 2 0 rfl rfl hi20 dX7_goUnder_73 ?_
  refine lv_topi (fun v19 ev19 => ?_)
  have h := h v19 ev19
  refine lv_iconst (v := 2) hx hb dX7_goUnder_74 (by decide) ?_
  refine lv_icmp_ne (tgt := 105) hx hb dX7_goUnder_75 (by decide) (fun hc21 => ?_) (fun hc21 => ?_)
  · have h := ul_if_f hc21 h
    have hr9 := hK0 M17 h
    subst hr9
    exact W.vret hx hb hr (fun t ht hW => ⟨⟨(), rfl, trivial, by rw [ht]; exact hP, va_K.moved hW.alike hK, hD⟩, hS.F ht⟩) hS.2.2 dX7_goUnder_105
  · have h := ul_if_t hc21 h
    refine lv_aload_n hx hb dX7_goUnder_78 rfl (lv_at hl 2 rfl) ?_
    refine va_get (D := (dC, dI)) (ci := 7) (v := .ref (aM 6)) (C := RX7) (T := TX7) (N := 26) hx hb hts hin7 hown hK hP 0 rfl rfl 7 (by decide) (hts (.fieldLink RX7 25 "UnderLaddersModel" "now" "[I") (by decide +kernel)) (fun _ h9 => h9) rfl dX7_goUnder_79 ?_
    refine lv_iload hx hb dX7_goUnder_82 (lv_at hl 1 rfl) ?_
    refine lv_iconst (v := 4) hx hb dX7_goUnder_84 (by decide) ?_
    refine lv_iadd hx hb dX7_goUnder_85 ?_
    refine lv_iload_n hx hb dX7_goUnder_86 rfl (lv_at hl 5 rfl) ?_
    refine lv_iadd hx hb dX7_goUnder_87 ?_
    refine lv_aload_n hx hb dX7_goUnder_88 rfl (lv_at hl 2 rfl) ?_
    refine va_get (D := (dC, dI)) (ci := 7) (v := .ref (aM 6)) (C := RX7) (T := TX7) (N := 26) hx hb hts hin7 hown hK hP 0 rfl rfl 7 (by decide) (hts (.fieldLink RX7 25 "UnderLaddersModel" "now" "[I") (by decide +kernel)) (fun _ h9 => h9) rfl dX7_goUnder_89 ?_
    refine lv_iload hx hb dX7_goUnder_92 (lv_at hl 1 rfl) ?_
    refine lv_iconst (v := 4) hx hb dX7_goUnder_94 (by decide) ?_
    refine lv_iadd hx hb dX7_goUnder_95 ?_
    refine lv_iload_n hx hb dX7_goUnder_96 rfl (lv_at hl 5 rfl) ?_
    refine lv_iadd hx hb dX7_goUnder_97 ?_
    obtain ⟨hi23, h⟩ := ul_ld_h h
    refine va_iald hx hb hK hP 6 0 rfl rfl hi23 dX7_goUnder_98 ?_
    refine lv_topi (fun v22 ev22 => ?_)
    have h := h v22 ev22
    refine lv_bipush (v := 12) hx hb dX7_goUnder_99 (by decide) ?_
    obtain ⟨u24, hu24, h⟩ := ul_cl_h h
    refine ul_cSi (As := [.int v22, .int (12 : Int32)]) (rest := [.int ((v1 + (4 : Int32)) + p3), .ref (aM 6)]) hP hD hS hK hA (c_X7_lesser l dC dI H.size v22 (12 : Int32) u24 hu24) ⟨hx, hb, hml, hown, hts⟩ (cwS 2 hts gX7_goUnder_X7_lesser rfl rfl rfl (by decide +kernel) ⟨Nat.le_of_ble_eq_true rfl, Nat.le_of_ble_eq_true rfl⟩) rfl hl.1 rfl (Nat.le_of_ble_eq_true rfl) dX7_goUnder_101 (fun H locs hw => ?_)
    obtain ⟨hP, hD, hS⟩ := hw
    obtain ⟨hi26, h⟩ := ul_st_h h
    refine va_iast hx hb hK hP hD hS 6 0 rfl rfl hi26 dX7_goUnder_104 (fun H locs hP hD hS => ?_)
    obtain ⟨M25, eM25⟩ : ∃ z : ul_S, z = ul_up M17 6 ((v1 + (4 : Int32)) + p3).toNatClampNeg u24 := ⟨_, rfl⟩
    have h := h M25 eM25
    have hP : va_P (dC, dI) classes (ul_wM cI cZ aM M25 d) H := by rw [eM25]; exact hP
    have hD : va_D A (ul_wM cI cZ aM M25 d) := by rw [eM25]; exact hD
    have hr9 := hK0 M25 h
    subst hr9
    exact W.vret hx hb hr (fun t ht hW => ⟨⟨(), rfl, trivial, by rw [ht]; exact hP, va_K.moved hW.alike hK, hD⟩, hS.F ht⟩) hS.2.2 dX7_goUnder_105
def f_X7_comeTo_j116 (p1 : Int32) (p2 : Int32) (p3 : Int32) (x4 : Int32) (t1 : Int32) (t2 : Int32) (M__116 : ul_S) : Option ul_S :=
  ul_st M__116 6 46 t1 t2 fun M1 => some M1
def f_X7_comeTo_j69 (p1 : Int32) (p2 : Int32) (p3 : Int32) (x4 : Int32) (M__69 : ul_S) : Option ul_S :=
  (f_X7_goUnder M__69 p1 p2 p3).bind fun u5 => ul_ld (u5 5) 5 p2 fun v6 => if v6 = (3 : Int32) then (ul_ld (u5 6) 46 x4 fun v11 => (f_X7_lesser (99 : Int32) (v11 + (1 : Int32))).bind fun u13 => f_X7_comeTo_j116 p1 p2 p3 x4 x4 u13 u5) else (ul_ld (u5 6) 46 x4 fun v9 => f_X7_comeTo_j116 p1 p2 p3 x4 x4 v9 u5)
def f_X7_comeTo_j64 (p1 : Int32) (p2 : Int32) (p3 : Int32) (x4 : Int32) (t1 : Int32) (t2 : Int32) (t3 : Int32) (M__64 : ul_S) : Option ul_S :=
  ul_st M__64 6 46 t1 (t2 - t3) fun M23 => some M23
def f_X7_comeTo_j41 (p1 : Int32) (p2 : Int32) (p3 : Int32) (x4 : Int32) (M__41 : ul_S) : Option ul_S :=
  ul_ld (M__41 6) 46 x4 fun v27 => ul_ld (M__41 6) 46 x4 fun v29 => if v29 ≤ 0 then (f_X7_comeTo_j64 p1 p2 p3 x4 x4 v27 (0 : Int32) M__41) else (f_X7_comeTo_j64 p1 p2 p3 x4 x4 v27 (1 : Int32) M__41)
def f_X7_comeTo (M : ul_S) (p1 : Int32) (p2 : Int32) (p3 : Int32) : Option ul_S :=
  ul_bd ((((23 : Int32) * p1) + (17 : Int32)) + p2) fun v37 => ul_ld (M 5) 5 p2 fun v38 => if v38 = (1 : Int32) then (f_X7_comeTo_j41 p1 p2 p3 v37 M) else (ul_ld (M 5) 5 p2 fun v41 => if v41 = 0 then (ul_ld (M 6) 46 v37 fun v44 => if v44 ≤ (3 : Int32) then (f_X7_comeTo_j69 p1 p2 p3 v37 M) else (f_X7_comeTo_j41 p1 p2 p3 v37 M)) else (f_X7_comeTo_j69 p1 p2 p3 v37 M))
set_option maxHeartbeats 4000000 in
set_option maxRecDepth 100000 in
theorem c_X7_comeTo (l : Launch) (dC : Nat → ClassId) (dI : Nat → Nat → Nat) (cI : ClassId) (cZ : ClassId) (aM : Nat → Nat) (sz : Nat) (M : ul_S) (d : Int64) (p1 : Int32) (p2 : Int32) (p3 : Int32) (r : ul_S) (h : f_X7_comeTo M p1 p2 p3 = some r) : Met l yX7_comeTo wsX7_comeTo ({ frames := 3, cells := 0, slots := 0, locals := 68 }) (va_Pc [.ref (aM 0), .int p1, .int p2, .int p3] (ul_pre (dC, dI) [(cI, .int), (cZ, .boolean)] ul_N0 sz (ul_wM cI cZ aM M d))) (va_Qv (fun (_ : Unit) => True) (fun _ => ul_post (dC, dI) [(cI, .int), (cZ, .boolean)] (va_A (ul_wM cI cZ aM M d) sz) (ul_wM cI cZ aM r d)) (va_A (ul_wM cI cZ aM M d) sz)) 0 0 (va_A (ul_wM cI cZ aM M d) sz) := by
  refine Met.ofW (cc := cX7_comeTo) (maxL := 5) (ret := none) (by decide) rfl ?_
  intro p e s m args below meth c s₁ B hml hv
  obtain ⟨rfl, hsz, hP, hK, hD0, hN⟩ := hv
  have hx := B.exec
  have hb := B.bytes
  have hr := B.returns
  have hts := atoms_spec (ws := wsX7_comeTo) B.pre
  have hown : s.vm.findClass RX7 = some m.cls := findClass_of_methodNamed B.named
  have hlocks := B.notSynchronized
  have hin7 : ∀ w ∈ u_ws RX7 TX7 26, w ∈ wsX7_comeTo := by decide +kernel
  subst hsz
  have hD := hD0.self (sz := s.heap.size)
  generalize hAe : va_A (ul_wM cI cZ aM M d) s.heap.size = A at hD ⊢
  have hA : ∀ q : Nat, s.heap.size ≤ q → A q := fun q h => by rw [← hAe]; exact Or.inr h
  have hS : va_S A s.heap s.heap [] := va_S.rf
  have hl := lv_entry ([.ref (aM 0), .int p1, .int p2, .int p3]) (n := 5) (Nat.le_of_ble_eq_true rfl)
  rw [lg_entry_eq]
  generalize (lg_sl ([.ref (aM 0), .int p1, .int p2, .int p3]) ++ List.replicate (5 - (lg_sl ([.ref (aM 0), .int p1, .int p2, .int p3])).length) Slot.unset).toArray = ls at hl ⊢
  have hl : lv_has ls 5 [(0, .ref (aM 0)), (1, .int p1), (2, .int p2), (3, .int p3)] := hl
  obtain ⟨K0, hK0, h⟩ := ul_top h
  unfold f_X7_comeTo at h
  refine ul_gen (fun G gi ge => ?_)
  obtain ⟨H, eH⟩ : ∃ z, z = s.heap := ⟨_, rfl⟩
  obtain ⟨locs, eL⟩ : ∃ z : List Loc, z = [] := ⟨_, rfl⟩
  have hP : va_P (dC, dI) classes (ul_wM cI cZ aM M d) H := by rw [eH]; exact hP
  have hS : va_S A s.heap H locs := by rw [eH, eL]; exact hS
  rw [← eL]
  refine (show G H locs (F0 m 0 ls []) → G s.heap locs (F0 m 0 ls []) from fun z => by rw [← eH]; exact z) ?_
  have J116 : ∀ (x4 : Int32) (t1 : Int32) (t2 : Int32) (M__116 : ul_S) (H : Heap) (locs : List Loc), ul_H (dC, dI) A s.heap (ul_wM cI cZ aM M__116 d) H locs → ∀ ls : Array Slot, lv_has ls 5 [(0, .ref (aM 0)), (1, .int p1), (2, .int p2), (3, .int p3), (4, .int x4)] → (f_X7_comeTo_j116 p1 p2 p3 x4 t1 t2 M__116).bind K0 = some r → G H locs (F0 m 116 ls [.int t2, .int t1, .ref (aM 6)]) := by
    intro x4 t1 t2 M__116 H locs hw ls hl h
    obtain ⟨hP, hD, hS⟩ := hw
    unfold f_X7_comeTo_j116 at h
    refine gi _ _ _ ?_
    obtain ⟨hi4, h⟩ := ul_st_h h
    refine va_iast hx hb hK hP hD hS 6 0 rfl rfl hi4 dX7_comeTo_116 (fun H locs hP hD hS => ?_)
    obtain ⟨M3, eM3⟩ : ∃ z : ul_S, z = ul_up M__116 6 t1.toNatClampNeg t2 := ⟨_, rfl⟩
    have h := h M3 eM3
    have hP : va_P (dC, dI) classes (ul_wM cI cZ aM M3 d) H := by rw [eM3]; exact hP
    have hD : va_D A (ul_wM cI cZ aM M3 d) := by rw [eM3]; exact hD
    have hr9 := hK0 M3 h
    subst hr9
    exact W.vret hx hb hr (fun t ht hW => ⟨⟨(), rfl, trivial, by rw [ht]; exact hP, va_K.moved hW.alike hK, hD⟩, hS.F ht⟩) hS.2.2 dX7_comeTo_117
  have J69 : ∀ (x4 : Int32) (M__69 : ul_S) (H : Heap) (locs : List Loc), ul_H (dC, dI) A s.heap (ul_wM cI cZ aM M__69 d) H locs → ∀ ls : Array Slot, lv_has ls 5 [(0, .ref (aM 0)), (1, .int p1), (2, .int p2), (3, .int p3), (4, .int x4)] → (f_X7_comeTo_j69 p1 p2 p3 x4 M__69).bind K0 = some r → G H locs (F0 m 69 ls []) := by
    intro x4 M__69 H locs hw ls hl h
    obtain ⟨hP, hD, hS⟩ := hw
    unfold f_X7_comeTo_j69 at h
    refine gi _ _ _ ?_
    refine lv_aload_n hx hb dX7_comeTo_69 rfl (lv_at hl 0 rfl) ?_
    refine lv_iload_n hx hb dX7_comeTo_70 rfl (lv_at hl 1 rfl) ?_
    refine lv_iload_n hx hb dX7_comeTo_71 rfl (lv_at hl 2 rfl) ?_
    refine lv_iload_n hx hb dX7_comeTo_72 rfl (lv_at hl 3 rfl) ?_
    obtain ⟨u14, hu14, h⟩ := ul_cl_h h
    refine ul_cVv (As := [.int p1, .int p2, .int p3]) (rest := []) (wc' := (ul_wM cI cZ aM u14 d)) (wr := []) hP hD hS hK hA [0, 1, 2, 3, 4, 5, 6, 7, 8, 9, 10, 11, 12, 13, 14] [] [0, 1] ul_N0_ok trivial (c_X7_goUnder l dC dI cI cZ aM H.size M__69 d p1 p2 p3 u14 hu14) rfl rfl (by decide) rfl (by decide) (by decide) rfl ⟨hx, hb, hml, hown, hts⟩ (cwV 3 hts gX7_comeTo_X7_goUnder rfl rfl rfl (by decide +kernel) ⟨Nat.le_of_ble_eq_true rfl, Nat.le_of_ble_eq_true rfl⟩) (va_recv hK hP (ci := 7) (q0 := 0) rfl rfl) rfl hl.1 rfl (Nat.le_of_ble_eq_true rfl) dX7_comeTo_73 (fun H locs hw => ?_)
    obtain ⟨hP, hD, hS⟩ := hw
    have hP : va_P (dC, dI) classes (ul_wM cI cZ aM u14 d) H := hP
    have hD : va_D A (ul_wM cI cZ aM u14 d) := hD
    refine lv_aload_n hx hb dX7_comeTo_76 rfl (lv_at hl 0 rfl) ?_
    refine va_get (D := (dC, dI)) (ci := 7) (v := .ref (aM 6)) (C := RX7) (T := TX7) (N := 26) hx hb hts hin7 hown hK hP 0 rfl rfl 7 (by decide) (hts (.fieldLink RX7 25 "UnderLaddersModel" "now" "[I") (by decide +kernel)) (fun _ h9 => h9) rfl dX7_comeTo_77 ?_
    refine lv_iload hx hb dX7_comeTo_80 (lv_at hl 4 rfl) ?_
    refine lv_aload_n hx hb dX7_comeTo_82 rfl (lv_at hl 0 rfl) ?_
    refine va_get (D := (dC, dI)) (ci := 7) (v := .ref (aM 5)) (C := RX7) (T := TX7) (N := 26) hx hb hts hin7 hown hK hP 0 rfl rfl 6 (by decide) (hts (.fieldLink RX7 22 "UnderLaddersModel" "kind" "[I") (by decide +kernel)) (fun _ h9 => h9) rfl dX7_comeTo_83 ?_
    refine lv_iload_n hx hb dX7_comeTo_86 rfl (lv_at hl 2 rfl) ?_
    obtain ⟨hi16, h⟩ := ul_ld_h h
    refine va_iald hx hb hK hP 5 0 rfl rfl hi16 dX7_comeTo_87 ?_
    refine lv_topi (fun v15 ev15 => ?_)
    have h := h v15 ev15
    refine lv_iconst (v := 3) hx hb dX7_comeTo_88 (by decide) ?_
    refine lv_icmp_ne (tgt := 109) hx hb dX7_comeTo_89 (by decide) (fun hc17 => ?_) (fun hc17 => ?_)
    · have h := ul_if_f hc17 h
      refine lv_aload_n hx hb dX7_comeTo_109 rfl (lv_at hl 0 rfl) ?_
      refine va_get (D := (dC, dI)) (ci := 7) (v := .ref (aM 6)) (C := RX7) (T := TX7) (N := 26) hx hb hts hin7 hown hK hP 0 rfl rfl 7 (by decide) (hts (.fieldLink RX7 25 "UnderLaddersModel" "now" "[I") (by decide +kernel)) (fun _ h9 => h9) rfl dX7_comeTo_110 ?_
      refine lv_iload hx hb dX7_comeTo_113 (lv_at hl 4 rfl) ?_
      obtain ⟨hi19, h⟩ := ul_ld_h h
      refine va_iald hx hb hK hP 6 0 rfl rfl hi19 dX7_comeTo_115 ?_
      refine lv_topi (fun v18 ev18 => ?_)
      have h := h v18 ev18
      exact ge _ _ _ (J116 x4 x4 v18 u14 H locs ⟨hP, hD, hS⟩ ls (lv_sub hl [0, 1, 2, 3, 4] rfl) h)
    · have h := ul_if_t hc17 h
      refine lv_bipush (v := 99) hx hb dX7_comeTo_92 (by decide) ?_
      refine lv_aload_n hx hb dX7_comeTo_94 rfl (lv_at hl 0 rfl) ?_
      refine va_get (D := (dC, dI)) (ci := 7) (v := .ref (aM 6)) (C := RX7) (T := TX7) (N := 26) hx hb hts hin7 hown hK hP 0 rfl rfl 7 (by decide) (hts (.fieldLink RX7 25 "UnderLaddersModel" "now" "[I") (by decide +kernel)) (fun _ h9 => h9) rfl dX7_comeTo_95 ?_
      refine lv_iload hx hb dX7_comeTo_98 (lv_at hl 4 rfl) ?_
      obtain ⟨hi21, h⟩ := ul_ld_h h
      refine va_iald hx hb hK hP 6 0 rfl rfl hi21 dX7_comeTo_100 ?_
      refine lv_topi (fun v20 ev20 => ?_)
      have h := h v20 ev20
      refine lv_iconst (v := 1) hx hb dX7_comeTo_101 (by decide) ?_
      refine lv_iadd hx hb dX7_comeTo_102 ?_
      obtain ⟨u22, hu22, h⟩ := ul_cl_h h
      refine ul_cSi (As := [.int (99 : Int32), .int (v20 + (1 : Int32))]) (rest := [.int x4, .ref (aM 6)]) hP hD hS hK hA (c_X7_lesser l dC dI H.size (99 : Int32) (v20 + (1 : Int32)) u22 hu22) ⟨hx, hb, hml, hown, hts⟩ (cwS 2 hts gX7_comeTo_X7_lesser rfl rfl rfl (by decide +kernel) ⟨Nat.le_of_ble_eq_true rfl, Nat.le_of_ble_eq_true rfl⟩) rfl hl.1 rfl (Nat.le_of_ble_eq_true rfl) dX7_comeTo_103 (fun H locs hw => ?_)
      obtain ⟨hP, hD, hS⟩ := hw
      refine lv_goto (tgt := 116) hx hb dX7_comeTo_106 (by decide) ?_
      exact ge _ _ _ (J116 x4 x4 u22 u14 H locs ⟨hP, hD, hS⟩ ls (lv_sub hl [0, 1, 2, 3, 4] rfl) h)
  have J64 : ∀ (x4 : Int32) (t1 : Int32) (t2 : Int32) (t3 : Int32) (M__64 : ul_S) (H : Heap) (locs : List Loc), ul_H (dC, dI) A s.heap (ul_wM cI cZ aM M__64 d) H locs → ∀ ls : Array Slot, lv_has ls 5 [(0, .ref (aM 0)), (1, .int p1), (2, .int p2), (3, .int p3), (4, .int x4)] → (f_X7_comeTo_j64 p1 p2 p3 x4 t1 t2 t3 M__64).bind K0 = some r → G H locs (F0 m 64 ls [.int t3, .int t2, .int t1, .ref (aM 6)]) := by
    intro x4 t1 t2 t3 M__64 H locs hw ls hl h
    obtain ⟨hP, hD, hS⟩ := hw
    unfold f_X7_comeTo_j64 at h
    refine gi _ _ _ ?_
    refine lv_isub hx hb dX7_comeTo_64 ?_
    obtain ⟨hi26, h⟩ := ul_st_h h
    refine va_iast hx hb hK hP hD hS 6 0 rfl rfl hi26 dX7_comeTo_65 (fun H locs hP hD hS => ?_)
    obtain ⟨M25, eM25⟩ : ∃ z : ul_S, z = ul_up M__64 6 t1.toNatClampNeg (t2 - t3) := ⟨_, rfl⟩
    have h := h M25 eM25
    have hP : va_P (dC, dI) classes (ul_wM cI cZ aM M25 d) H := by rw [eM25]; exact hP
    have hD : va_D A (ul_wM cI cZ aM M25 d) := by rw [eM25]; exact hD
    refine lv_goto (tgt := 117) hx hb dX7_comeTo_66 (by decide) ?_
    have hr9 := hK0 M25 h
    subst hr9
    exact W.vret hx hb hr (fun t ht hW => ⟨⟨(), rfl, trivial, by rw [ht]; exact hP, va_K.moved hW.alike hK, hD⟩, hS.F ht⟩) hS.2.2 dX7_comeTo_117
  have J41 : ∀ (x4 : Int32) (M__41 : ul_S) (H : Heap) (locs : List Loc), ul_H (dC, dI) A s.heap (ul_wM cI cZ aM M__41 d) H locs → ∀ ls : Array Slot, lv_has ls 5 [(0, .ref (aM 0)), (1, .int p1), (2, .int p2), (3, .int p3), (4, .int x4)] → (f_X7_comeTo_j41 p1 p2 p3 x4 M__41).bind K0 = some r → G H locs (F0 m 41 ls []) := by
    intro x4 M__41 H locs hw ls hl h
    obtain ⟨hP, hD, hS⟩ := hw
    unfold f_X7_comeTo_j41 at h
    refine gi _ _ _ ?_
    refine lv_aload_n hx hb dX7_comeTo_41 rfl (lv_at hl 0 rfl) ?_
    refine va_get (D := (dC, dI)) (ci := 7) (v := .ref (aM 6)) (C := RX7) (T := TX7) (N := 26) hx hb hts hin7 hown hK hP 0 rfl rfl 7 (by decide) (hts (.fieldLink RX7 25 "UnderLaddersModel" "now" "[I") (by decide +kernel)) (fun _ h9 => h9) rfl dX7_comeTo_42 ?_
    refine lv_iload hx hb dX7_comeTo_45 (lv_at hl 4 rfl) ?_
    refine lv_dup2_11 hx hb dX7_comeTo_47 rfl rfl ?_
    obtain ⟨hi33, h⟩ := ul_ld_h h
    refine va_iald hx hb hK hP 6 0 rfl rfl hi33 dX7_comeTo_48 ?_
    refine lv_topi (fun v32 ev32 => ?_)
    have h := h v32 ev32
    refine lv_aload_n hx hb dX7_comeTo_49 rfl (lv_at hl 0 rfl) ?_
    refine va_get (D := (dC, dI)) (ci := 7) (v := .ref (aM 6)) (C := RX7) (T := TX7) (N := 26) hx hb hts hin7 hown hK hP 0 rfl rfl 7 (by decide) (hts (.fieldLink RX7 25 "UnderLaddersModel" "now" "[I") (by decide +kernel)) (fun _ h9 => h9) rfl dX7_comeTo_50 ?_
    refine lv_iload hx hb dX7_comeTo_53 (lv_at hl 4 rfl) ?_
    obtain ⟨hi35, h⟩ := ul_ld_h h
    refine va_iald hx hb hK hP 6 0 rfl rfl hi35 dX7_comeTo_55 ?_
    refine lv_topi (fun v34 ev34 => ?_)
    have h := h v34 ev34
    refine lv_if_le (tgt := 63) hx hb dX7_comeTo_56 (by decide) (fun hc36 => ?_) (fun hc36 => ?_)
    · have h := ul_if_t hc36 h
      refine lv_iconst (v := 0) hx hb dX7_comeTo_63 (by decide) ?_
      exact ge _ _ _ (J64 x4 x4 v32 (0 : Int32) M__41 H locs ⟨hP, hD, hS⟩ ls (lv_sub hl [0, 1, 2, 3, 4] rfl) h)
    · have h := ul_if_f hc36 h
      refine lv_iconst (v := 1) hx hb dX7_comeTo_59 (by decide) ?_
      refine lv_goto (tgt := 64) hx hb dX7_comeTo_60 (by decide) ?_
      exact ge _ _ _ (J64 x4 x4 v32 (1 : Int32) M__41 H locs ⟨hP, hD, hS⟩ ls (lv_sub hl [0, 1, 2, 3, 4] rfl) h)
  refine gi _ _ _ ?_
  refine lv_bipush (v := 23) hx hb dX7_comeTo_0 (by decide) ?_
  refine lv_iload_n hx hb dX7_comeTo_2 rfl (lv_at hl 1 rfl) ?_
  refine lv_imul hx hb dX7_comeTo_3 ?_
  refine lv_bipush (v := 17) hx hb dX7_comeTo_4 (by decide) ?_
  refine lv_iadd hx hb dX7_comeTo_6 ?_
  refine lv_iload_n hx hb dX7_comeTo_7 rfl (lv_at hl 2 rfl) ?_
  refine lv_iadd hx hb dX7_comeTo_8 ?_
  refine lv_topi (fun v37 ev37 => ?_)
  have h := ul_bd_h h v37 ev37
  refine lv_istore (lv' := [(4, .int v37), (0, .ref (aM 0)), (1, .int p1), (2, .int p2), (3, .int p3)]) hx hb dX7_comeTo_9 hl (by decide) rfl (fun ls hl => ?_)
  refine lv_aload_n hx hb dX7_comeTo_11 rfl (lv_at hl 1 rfl) ?_
  refine va_get (D := (dC, dI)) (ci := 7) (v := .ref (aM 5)) (C := RX7) (T := TX7) (N := 26) hx hb hts hin7 hown hK hP 0 rfl rfl 6 (by decide) (hts (.fieldLink RX7 22 "UnderLaddersModel" "kind" "[I") (by decide +kernel)) (fun _ h9 => h9) rfl dX7_comeTo_12 ?_
  refine lv_iload_n hx hb dX7_comeTo_15 rfl (lv_at hl 3 rfl) ?_
  obtain ⟨hi39, h⟩ := ul_ld_h h
  refine va_iald hx hb hK hP 5 0 rfl rfl hi39 dX7_comeTo_16 ?_
  refine lv_topi (fun v38 ev38 => ?_)
  have h := h v38 ev38
  refine lv_iconst (v := 1) hx hb dX7_comeTo_17 (by decide) ?_
  refine lv_icmp_eq (tgt := 41) hx hb dX7_comeTo_18 (by decide) (fun hc40 => ?_) (fun hc40 => ?_)
  · have h := ul_if_t hc40 h
    exact ge _ _ _ (J41 v37 M H locs ⟨hP, hD, hS⟩ ls (lv_sub hl [1, 2, 3, 4, 0] rfl) h)
  · have h := ul_if_f hc40 h
    refine lv_aload_n hx hb dX7_comeTo_21 rfl (lv_at hl 1 rfl) ?_
    refine va_get (D := (dC, dI)) (ci := 7) (v := .ref (aM 5)) (C := RX7) (T := TX7) (N := 26) hx hb hts hin7 hown hK hP 0 rfl rfl 6 (by decide) (hts (.fieldLink RX7 22 "UnderLaddersModel" "kind" "[I") (by decide +kernel)) (fun _ h9 => h9) rfl dX7_comeTo_22 ?_
    refine lv_iload_n hx hb dX7_comeTo_25 rfl (lv_at hl 3 rfl) ?_
    obtain ⟨hi42, h⟩ := ul_ld_h h
    refine va_iald hx hb hK hP 5 0 rfl rfl hi42 dX7_comeTo_26 ?_
    refine lv_topi (fun v41 ev41 => ?_)
    have h := h v41 ev41
    refine lv_if_ne (tgt := 69) hx hb dX7_comeTo_27 (by decide) (fun hc43 => ?_) (fun hc43 => ?_)
    · have h := ul_if_f hc43 h
      exact ge _ _ _ (J69 v37 M H locs ⟨hP, hD, hS⟩ ls (lv_sub hl [1, 2, 3, 4, 0] rfl) h)
    · have h := ul_if_t hc43 h
      refine lv_aload_n hx hb dX7_comeTo_30 rfl (lv_at hl 1 rfl) ?_
      refine va_get (D := (dC, dI)) (ci := 7) (v := .ref (aM 6)) (C := RX7) (T := TX7) (N := 26) hx hb hts hin7 hown hK hP 0 rfl rfl 7 (by decide) (hts (.fieldLink RX7 25 "UnderLaddersModel" "now" "[I") (by decide +kernel)) (fun _ h9 => h9) rfl dX7_comeTo_31 ?_
      refine lv_iload hx hb dX7_comeTo_34 (lv_at hl 0 rfl) ?_
      obtain ⟨hi45, h⟩ := ul_ld_h h
      refine va_iald hx hb hK hP 6 0 rfl rfl hi45 dX7_comeTo_36 ?_
      refine lv_topi (fun v44 ev44 => ?_)
      have h := h v44 ev44
      refine lv_iconst (v := 3) hx hb dX7_comeTo_37 (by decide) ?_
      refine lv_icmp_le (tgt := 69) hx hb dX7_comeTo_38 (by decide) (fun hc46 => ?_) (fun hc46 => ?_)
      · have h := ul_if_t hc46 h
        exact ge _ _ _ (J69 v37 M H locs ⟨hP, hD, hS⟩ ls (lv_sub hl [1, 2, 3, 4, 0] rfl) h)
      · have h := ul_if_f hc46 h
        exact ge _ _ _ (J41 v37 M H locs ⟨hP, hD, hS⟩ ls (lv_sub hl [1, 2, 3, 4, 0] rfl) h)
def f_X7_goalOf (M : ul_S) (p1 : Int32) (p2 : Int32) : Option Int32 :=
  ul_ld (M 6) 46 ((((23 : Int32) * p1) + (12 : Int32)) + p2) fun v1 => ul_ld (M 3) 5 p2 fun v3 => if v1 = v3 then (ul_ld (M 4) 5 p2 fun v8 => some v8) else (ul_ld (M 3) 5 p2 fun v6 => some v6)
set_option maxHeartbeats 4000000 in
set_option maxRecDepth 100000 in
theorem c_X7_goalOf (l : Launch) (dC : Nat → ClassId) (dI : Nat → Nat → Nat) (cI : ClassId) (cZ : ClassId) (aM : Nat → Nat) (sz : Nat) (M : ul_S) (d : Int64) (p1 : Int32) (p2 : Int32) (r : Int32) (h : f_X7_goalOf M p1 p2 = some r) : Met l yX7_goalOf wsX7_goalOf ({ frames := 0, cells := 0, slots := 0, locals := 0 }) (va_Pc [.ref (aM 0), .int p1, .int p2] (ul_pre (dC, dI) [(cI, .int), (cZ, .boolean)] ul_N0 sz (ul_wM cI cZ aM M d))) (va_Qi (fun v (_ : Unit) => v = r) (fun _ => ul_post (dC, dI) [(cI, .int), (cZ, .boolean)] (va_A (ul_wM cI cZ aM M d) sz) (ul_wM cI cZ aM M d)) (va_A (ul_wM cI cZ aM M d) sz)) 0 0 (va_A (ul_wM cI cZ aM M d) sz) := by
  refine Met.ofW (cc := cX7_goalOf) (maxL := 3) (ret := (some .int)) (by decide) rfl ?_
  intro p e s m args below meth c s₁ B hml hv
  obtain ⟨rfl, hsz, hP, hK, hD0, hN⟩ := hv
  have hx := B.exec
  have hb := B.bytes
  have hr := B.returns
  have hts := atoms_spec (ws := wsX7_goalOf) B.pre
  have hown : s.vm.findClass RX7 = some m.cls := findClass_of_methodNamed B.named
  have hlocks := B.notSynchronized
  have hin7 : ∀ w ∈ u_ws RX7 TX7 26, w ∈ wsX7_goalOf := by decide +kernel
  subst hsz
  have hD := hD0.self (sz := s.heap.size)
  generalize hAe : va_A (ul_wM cI cZ aM M d) s.heap.size = A at hD ⊢
  have hA : ∀ q : Nat, s.heap.size ≤ q → A q := fun q h => by rw [← hAe]; exact Or.inr h
  have hS : va_S A s.heap s.heap [] := va_S.rf
  have hl := lv_entry ([.ref (aM 0), .int p1, .int p2]) (n := 3) (Nat.le_of_ble_eq_true rfl)
  rw [lg_entry_eq]
  generalize (lg_sl ([.ref (aM 0), .int p1, .int p2]) ++ List.replicate (3 - (lg_sl ([.ref (aM 0), .int p1, .int p2])).length) Slot.unset).toArray = ls at hl ⊢
  have hl : lv_has ls 3 [(0, .ref (aM 0)), (1, .int p1), (2, .int p2)] := hl
  obtain ⟨K0, hK0, h⟩ := ul_top h
  unfold f_X7_goalOf at h
  refine ul_gen (fun G gi ge => ?_)
  obtain ⟨H, eH⟩ : ∃ z, z = s.heap := ⟨_, rfl⟩
  obtain ⟨locs, eL⟩ : ∃ z : List Loc, z = [] := ⟨_, rfl⟩
  have hP : va_P (dC, dI) classes (ul_wM cI cZ aM M d) H := by rw [eH]; exact hP
  have hS : va_S A s.heap H locs := by rw [eH, eL]; exact hS
  rw [← eL]
  refine (show G H locs (F0 m 0 ls []) → G s.heap locs (F0 m 0 ls []) from fun z => by rw [← eH]; exact z) ?_
  refine gi _ _ _ ?_
  refine lv_aload_n hx hb dX7_goalOf_0 rfl (lv_at hl 0 rfl) ?_
  refine va_get (D := (dC, dI)) (ci := 7) (v := .ref (aM 6)) (C := RX7) (T := TX7) (N := 26) hx hb hts hin7 hown hK hP 0 rfl rfl 7 (by decide) (hts (.fieldLink RX7 25 "UnderLaddersModel" "now" "[I") (by decide +kernel)) (fun _ h9 => h9) rfl dX7_goalOf_1 ?_
  refine lv_bipush (v := 23) hx hb dX7_goalOf_4 (by decide) ?_
  refine lv_iload_n hx hb dX7_goalOf_6 rfl (lv_at hl 1 rfl) ?_
  refine lv_imul hx hb dX7_goalOf_7 ?_
  refine lv_bipush (v := 12) hx hb dX7_goalOf_8 (by decide) ?_
  refine lv_iadd hx hb dX7_goalOf_10 ?_
  refine lv_iload_n hx hb dX7_goalOf_11 rfl (lv_at hl 2 rfl) ?_
  refine lv_iadd hx hb dX7_goalOf_12 ?_
  obtain ⟨hi2, h⟩ := ul_ld_h h
  refine va_iald hx hb hK hP 6 0 rfl rfl hi2 dX7_goalOf_13 ?_
  refine lv_topi (fun v1 ev1 => ?_)
  have h := h v1 ev1
  refine lv_aload_n hx hb dX7_goalOf_14 rfl (lv_at hl 0 rfl) ?_
  refine va_get (D := (dC, dI)) (ci := 7) (v := .ref (aM 3)) (C := RX7) (T := TX7) (N := 26) hx hb hts hin7 hown hK hP 0 rfl rfl 4 (by decide) (hts (.fieldLink RX7 16 "UnderLaddersModel" "home" "[I") (by decide +kernel)) (fun _ h9 => h9) rfl dX7_goalOf_15 ?_
  refine lv_iload_n hx hb dX7_goalOf_18 rfl (lv_at hl 2 rfl) ?_
  obtain ⟨hi4, h⟩ := ul_ld_h h
  refine va_iald hx hb hK hP 3 0 rfl rfl hi4 dX7_goalOf_19 ?_
  refine lv_topi (fun v3 ev3 => ?_)
  have h := h v3 ev3
  refine lv_icmp_ne (tgt := 32) hx hb dX7_goalOf_20 (by decide) (fun hc5 => ?_) (fun hc5 => ?_)
  · have h := ul_if_f hc5 h
    refine lv_aload_n hx hb dX7_goalOf_32 rfl (lv_at hl 0 rfl) ?_
    refine va_get (D := (dC, dI)) (ci := 7) (v := .ref (aM 3)) (C := RX7) (T := TX7) (N := 26) hx hb hts hin7 hown hK hP 0 rfl rfl 4 (by decide) (hts (.fieldLink RX7 16 "UnderLaddersModel" "home" "[I") (by decide +kernel)) (fun _ h9 => h9) rfl dX7_goalOf_33 ?_
    refine lv_iload_n hx hb dX7_goalOf_36 rfl (lv_at hl 2 rfl) ?_
    obtain ⟨hi7, h⟩ := ul_ld_h h
    refine va_iald hx hb hK hP 3 0 rfl rfl hi7 dX7_goalOf_37 ?_
    refine lv_topi (fun v6 ev6 => ?_)
    have h := h v6 ev6
    have hr9 := hK0 v6 h
    subst hr9
    exact W.iret (v := v6) hx hb hr (fun t ht hW => ⟨⟨v6, (), rfl, rfl, by rw [ht]; exact hP, va_K.moved hW.alike hK, hD⟩, hS.F ht⟩) hS.2.2 dX7_goalOf_38
  · have h := ul_if_t hc5 h
    refine lv_aload_n hx hb dX7_goalOf_23 rfl (lv_at hl 0 rfl) ?_
    refine va_get (D := (dC, dI)) (ci := 7) (v := .ref (aM 4)) (C := RX7) (T := TX7) (N := 26) hx hb hts hin7 hown hK hP 0 rfl rfl 5 (by decide) (hts (.fieldLink RX7 19 "UnderLaddersModel" "work" "[I") (by decide +kernel)) (fun _ h9 => h9) rfl dX7_goalOf_24 ?_
    refine lv_iload_n hx hb dX7_goalOf_27 rfl (lv_at hl 2 rfl) ?_
    obtain ⟨hi9, h⟩ := ul_ld_h h
    refine va_iald hx hb hK hP 4 0 rfl rfl hi9 dX7_goalOf_28 ?_
    refine lv_topi (fun v8 ev8 => ?_)
    have h := h v8 ev8
    refine lv_goto (tgt := 38) hx hb dX7_goalOf_29 (by decide) ?_
    have hr9 := hK0 v8 h
    subst hr9
    exact W.iret (v := v8) hx hb hr (fun t ht hW => ⟨⟨v8, (), rfl, rfl, by rw [ht]; exact hP, va_K.moved hW.alike hK, hD⟩, hS.F ht⟩) hS.2.2 dX7_goalOf_38
def f_X7_walk_j85 (p1 : Int32) (p2 : Int32) (x3 : Int32) (x4 : Int32) (M__85 : ul_S) : Option ul_S :=
  some M__85
def f_X7_walk_j82 (p1 : Int32) (p2 : Int32) (x3 : Int32) (x4 : Int32) (x5 : Int32) (M__82 : ul_S) : Option (ul_S ⊕ ul_S) :=
  some (.inr M__82)
def f_X7_walk_j52 (p1 : Int32) (p2 : Int32) (x3 : Int32) (x4 : Int32) (t1 : Int32) (t2 : Int32) (t3 : Int32) (M__52 : ul_S) : Option (ul_S ⊕ ul_S) :=
  ul_st M__52 6 46 t1 (t2 + t3) fun M3 => ul_ld (M3 6) 46 x3 fun v5 => (f_X7_ladderAt M3 p1 v5).bind fun u7 => if u7 = (-9 : Int32) then (f_X7_walk_j82 p1 p2 x3 x4 u7 M3) else ((f_X7_comeTo M3 p1 p2 u7).bind fun u9 => f_X7_walk_j82 p1 p2 x3 x4 u7 u9)
def f_X7_walk_L18 (p1 : Int32) (p2 : Int32) (y3 : Int32) (y4 : Int32) (q18 : ul_S) : Option (ul_S ⊕ ul_S) :=
  ul_ld (q18 6) 46 y3 fun v17 => if v17 = y4 then (some (.inl q18)) else (ul_ld (q18 6) 46 y3 fun v20 => ul_ld (q18 6) 46 y3 fun v22 => if y4 ≤ v22 then (f_X7_walk_j52 p1 p2 y3 y4 y3 v20 (-1 : Int32) q18) else (f_X7_walk_j52 p1 p2 y3 y4 y3 v20 (1 : Int32) q18))
def f_X7_walk (M : ul_S) (p1 : Int32) (p2 : Int32) : Option ul_S :=
  ul_bd ((((23 : Int32) * p1) + (12 : Int32)) + p2) fun v1 => (f_X7_goalOf M p1 p2).bind fun u2 => (ul_it ul_N (f_X7_walk_L18 p1 p2 v1 u2) M).bind (fun e18 => f_X7_walk_j85 p1 p2 v1 u2 e18)
set_option maxHeartbeats 4000000 in
set_option maxRecDepth 100000 in
theorem c_X7_walk (l : Launch) (dC : Nat → ClassId) (dI : Nat → Nat → Nat) (cI : ClassId) (cZ : ClassId) (aM : Nat → Nat) (sz : Nat) (M : ul_S) (d : Int64) (p1 : Int32) (p2 : Int32) (r : ul_S) (h : f_X7_walk M p1 p2 = some r) : Met l yX7_walk wsX7_walk ({ frames := 4, cells := 0, slots := 0, locals := 92 }) (va_Pc [.ref (aM 0), .int p1, .int p2] (ul_pre (dC, dI) [(cI, .int), (cZ, .boolean)] ul_N0 sz (ul_wM cI cZ aM M d))) (va_Qv (fun (_ : Unit) => True) (fun _ => ul_post (dC, dI) [(cI, .int), (cZ, .boolean)] (va_A (ul_wM cI cZ aM M d) sz) (ul_wM cI cZ aM r d)) (va_A (ul_wM cI cZ aM M d) sz)) 0 0 (va_A (ul_wM cI cZ aM M d) sz) := by
  refine Met.ofW (cc := cX7_walk) (maxL := 6) (ret := none) (by decide) rfl ?_
  intro p e s m args below meth c s₁ B hml hv
  obtain ⟨rfl, hsz, hP, hK, hD0, hN⟩ := hv
  have hx := B.exec
  have hb := B.bytes
  have hr := B.returns
  have hts := atoms_spec (ws := wsX7_walk) B.pre
  have hown : s.vm.findClass RX7 = some m.cls := findClass_of_methodNamed B.named
  have hlocks := B.notSynchronized
  have hin7 : ∀ w ∈ u_ws RX7 TX7 26, w ∈ wsX7_walk := by decide +kernel
  subst hsz
  have hD := hD0.self (sz := s.heap.size)
  generalize hAe : va_A (ul_wM cI cZ aM M d) s.heap.size = A at hD ⊢
  have hA : ∀ q : Nat, s.heap.size ≤ q → A q := fun q h => by rw [← hAe]; exact Or.inr h
  have hS : va_S A s.heap s.heap [] := va_S.rf
  have hl := lv_entry ([.ref (aM 0), .int p1, .int p2]) (n := 6) (Nat.le_of_ble_eq_true rfl)
  rw [lg_entry_eq]
  generalize (lg_sl ([.ref (aM 0), .int p1, .int p2]) ++ List.replicate (6 - (lg_sl ([.ref (aM 0), .int p1, .int p2])).length) Slot.unset).toArray = ls at hl ⊢
  have hl : lv_has ls 6 [(0, .ref (aM 0)), (1, .int p1), (2, .int p2)] := hl
  obtain ⟨K0, hK0, h⟩ := ul_top h
  unfold f_X7_walk at h
  refine ul_gen (fun G gi ge => ?_)
  obtain ⟨H, eH⟩ : ∃ z, z = s.heap := ⟨_, rfl⟩
  obtain ⟨locs, eL⟩ : ∃ z : List Loc, z = [] := ⟨_, rfl⟩
  have hP : va_P (dC, dI) classes (ul_wM cI cZ aM M d) H := by rw [eH]; exact hP
  have hS : va_S A s.heap H locs := by rw [eH, eL]; exact hS
  rw [← eL]
  refine (show G H locs (F0 m 0 ls []) → G s.heap locs (F0 m 0 ls []) from fun z => by rw [← eH]; exact z) ?_
  have J85 : ∀ (x3 : Int32) (x4 : Int32) (M__85 : ul_S) (H : Heap) (locs : List Loc), ul_H (dC, dI) A s.heap (ul_wM cI cZ aM M__85 d) H locs → ∀ ls : Array Slot, lv_has ls 6 [(0, .ref (aM 0)), (1, .int p1), (2, .int p2), (3, .int x3), (4, .int x4)] → (f_X7_walk_j85 p1 p2 x3 x4 M__85).bind K0 = some r → G H locs (F0 m 85 ls []) := by
    intro x3 x4 M__85 H locs hw ls hl h
    obtain ⟨hP, hD, hS⟩ := hw
    unfold f_X7_walk_j85 at h
    refine gi _ _ _ ?_
    have hr9 := hK0 M__85 h
    subst hr9
    exact W.vret hx hb hr (fun t ht hW => ⟨⟨(), rfl, trivial, by rw [ht]; exact hP, va_K.moved hW.alike hK, hD⟩, hS.F ht⟩) hS.2.2 dX7_walk_85
  refine gi _ _ _ ?_
  refine lv_bipush (v := 23) hx hb dX7_walk_0 (by decide) ?_
  refine lv_iload_n hx hb dX7_walk_2 rfl (lv_at hl 1 rfl) ?_
  refine lv_imul hx hb dX7_walk_3 ?_
  refine lv_bipush (v := 12) hx hb dX7_walk_4 (by decide) ?_
  refine lv_iadd hx hb dX7_walk_6 ?_
  refine lv_iload_n hx hb dX7_walk_7 rfl (lv_at hl 2 rfl) ?_
  refine lv_iadd hx hb dX7_walk_8 ?_
  refine lv_topi (fun v1 ev1 => ?_)
  have h := ul_bd_h h v1 ev1
  refine lv_istore_n (lv' := [(3, .int v1), (0, .ref (aM 0)), (1, .int p1), (2, .int p2)]) hx hb dX7_walk_9 rfl hl (by decide) rfl (fun ls hl => ?_)
  refine lv_aload_n hx hb dX7_walk_10 rfl (lv_at hl 1 rfl) ?_
  refine lv_iload_n hx hb dX7_walk_11 rfl (lv_at hl 2 rfl) ?_
  refine lv_iload_n hx hb dX7_walk_12 rfl (lv_at hl 3 rfl) ?_
  obtain ⟨u2, hu2, h⟩ := ul_cl_h h
  refine ul_cVi (As := [.int p1, .int p2]) (rest := []) (wc' := (ul_wM cI cZ aM M d)) (wr := []) hP hD hS hK hA [0, 1, 2, 3, 4, 5, 6, 7, 8, 9, 10, 11, 12, 13, 14] [] [0, 1] ul_N0_ok trivial (c_X7_goalOf l dC dI cI cZ aM H.size M d p1 p2 u2 hu2) rfl rfl (by decide) rfl (by decide) (by decide) rfl ⟨hx, hb, hml, hown, hts⟩ (cwV 2 hts gX7_walk_X7_goalOf rfl rfl rfl (by decide +kernel) ⟨Nat.le_of_ble_eq_true rfl, Nat.le_of_ble_eq_true rfl⟩) (va_recv hK hP (ci := 7) (q0 := 0) rfl rfl) rfl hl.1 rfl (Nat.le_of_ble_eq_true rfl) dX7_walk_13 (fun H locs hw => ?_)
  obtain ⟨hP, hD, hS⟩ := hw
  have hP : va_P (dC, dI) classes (ul_wM cI cZ aM M d) H := hP
  have hD : va_D A (ul_wM cI cZ aM M d) := hD
  refine lv_istore (lv' := [(4, .int u2), (3, .int v1), (0, .ref (aM 0)), (1, .int p1), (2, .int p2)]) hx hb dX7_walk_16 hl (by decide) rfl (fun ls hl => ?_)
  refine ge _ _ _ (ul_loop (P := fun q18 => ∀ (H : Heap) (locs : List Loc), ul_H (dC, dI) A s.heap (ul_wM cI cZ aM q18 d) H locs → ∀ ls : Array Slot, lv_has ls 6 [(0, .ref (aM 0)), (1, .int p1), (2, .int p2), (3, .int v1), (4, .int u2)] → G H locs (F0 m 18 ls [])) ?_ _ _ (ul_it_h h) H locs ⟨hP, hD, hS⟩ ls (lv_sub hl [2, 3, 4, 1, 0] rfl))
  intro K18 hx18
  intro q18 ih18 h H locs hw ls hl
  have J82 : ∀ (x5 : Int32) (M__82 : ul_S) (H : Heap) (locs : List Loc), ul_H (dC, dI) A s.heap (ul_wM cI cZ aM M__82 d) H locs → ∀ ls : Array Slot, lv_has ls 6 [(0, .ref (aM 0)), (1, .int p1), (2, .int p2), (3, .int v1), (4, .int u2), (5, .int x5)] → (f_X7_walk_j82 p1 p2 v1 u2 x5 M__82).bind K18 = some r → G H locs (F0 m 82 ls []) := by
    intro x5 M__82 H locs hw ls hl h
    obtain ⟨hP, hD, hS⟩ := hw
    unfold f_X7_walk_j82 at h
    refine gi _ _ _ ?_
    refine lv_goto (tgt := 18) hx hb dX7_walk_82 (by decide) ?_
    exact ge _ _ _ (ih18 M__82 h H locs ⟨hP, hD, hS⟩ ls (lv_sub hl [0, 1, 2, 3, 4] rfl))
  have J52 : ∀ (t1 : Int32) (t2 : Int32) (t3 : Int32) (M__52 : ul_S) (H : Heap) (locs : List Loc), ul_H (dC, dI) A s.heap (ul_wM cI cZ aM M__52 d) H locs → ∀ ls : Array Slot, lv_has ls 6 [(0, .ref (aM 0)), (1, .int p1), (2, .int p2), (3, .int v1), (4, .int u2)] → (f_X7_walk_j52 p1 p2 v1 u2 t1 t2 t3 M__52).bind K18 = some r → G H locs (F0 m 52 ls [.int t3, .int t2, .int t1, .ref (aM 6)]) := by
    intro t1 t2 t3 M__52 H locs hw ls hl h
    obtain ⟨hP, hD, hS⟩ := hw
    unfold f_X7_walk_j52 at h
    refine gi _ _ _ ?_
    refine lv_iadd hx hb dX7_walk_52 ?_
    obtain ⟨hi11, h⟩ := ul_st_h h
    refine va_iast hx hb hK hP hD hS 6 0 rfl rfl hi11 dX7_walk_53 (fun H locs hP hD hS => ?_)
    obtain ⟨M10, eM10⟩ : ∃ z : ul_S, z = ul_up M__52 6 t1.toNatClampNeg (t2 + t3) := ⟨_, rfl⟩
    have h := h M10 eM10
    have hP : va_P (dC, dI) classes (ul_wM cI cZ aM M10 d) H := by rw [eM10]; exact hP
    have hD : va_D A (ul_wM cI cZ aM M10 d) := by rw [eM10]; exact hD
    refine lv_aload_n hx hb dX7_walk_54 rfl (lv_at hl 0 rfl) ?_
    refine lv_iload_n hx hb dX7_walk_55 rfl (lv_at hl 1 rfl) ?_
    refine lv_aload_n hx hb dX7_walk_56 rfl (lv_at hl 0 rfl) ?_
    refine va_get (D := (dC, dI)) (ci := 7) (v := .ref (aM 6)) (C := RX7) (T := TX7) (N := 26) hx hb hts hin7 hown hK hP 0 rfl rfl 7 (by decide) (hts (.fieldLink RX7 25 "UnderLaddersModel" "now" "[I") (by decide +kernel)) (fun _ h9 => h9) rfl dX7_walk_57 ?_
    refine lv_iload_n hx hb dX7_walk_60 rfl (lv_at hl 3 rfl) ?_
    obtain ⟨hi13, h⟩ := ul_ld_h h
    refine va_iald hx hb hK hP 6 0 rfl rfl hi13 dX7_walk_61 ?_
    refine lv_topi (fun v12 ev12 => ?_)
    have h := h v12 ev12
    obtain ⟨u14, hu14, h⟩ := ul_cl_h h
    refine ul_cVi (As := [.int p1, .int v12]) (rest := []) (wc' := (ul_wM cI cZ aM M10 d)) (wr := []) hP hD hS hK hA [0, 1, 2, 3, 4, 5, 6, 7, 8, 9, 10, 11, 12, 13, 14] [] [0, 1] ul_N0_ok trivial (c_X7_ladderAt l dC dI cI cZ aM H.size M10 d p1 v12 u14 hu14) rfl rfl (by decide) rfl (by decide) (by decide) rfl ⟨hx, hb, hml, hown, hts⟩ (cwV 2 hts gX7_walk_X7_ladderAt rfl rfl rfl (by decide +kernel) ⟨Nat.le_of_ble_eq_true rfl, Nat.le_of_ble_eq_true rfl⟩) (va_recv hK hP (ci := 7) (q0 := 0) rfl rfl) rfl hl.1 rfl (Nat.le_of_ble_eq_true rfl) dX7_walk_62 (fun H locs hw => ?_)
    obtain ⟨hP, hD, hS⟩ := hw
    have hP : va_P (dC, dI) classes (ul_wM cI cZ aM M10 d) H := hP
    have hD : va_D A (ul_wM cI cZ aM M10 d) := hD
    refine lv_istore (lv' := [(5, .int u14), (0, .ref (aM 0)), (1, .int p1), (2, .int p2), (3, .int v1), (4, .int u2)]) hx hb dX7_walk_65 hl (by decide) rfl (fun ls hl => ?_)
    refine lv_iload hx hb dX7_walk_67 (lv_at hl 0 rfl) ?_
    refine lv_bipush (v := -9) hx hb dX7_walk_69 (by decide) ?_
    refine lv_icmp_eq (tgt := 82) hx hb dX7_walk_71 (by decide) (fun hc15 => ?_) (fun hc15 => ?_)
    · have h := ul_if_t hc15 h
      exact ge _ _ _ (J82 u14 M10 H locs ⟨hP, hD, hS⟩ ls (lv_sub hl [1, 2, 3, 4, 5, 0] rfl) h)
    · have h := ul_if_f hc15 h
      refine lv_aload_n hx hb dX7_walk_74 rfl (lv_at hl 1 rfl) ?_
      refine lv_iload_n hx hb dX7_walk_75 rfl (lv_at hl 2 rfl) ?_
      refine lv_iload_n hx hb dX7_walk_76 rfl (lv_at hl 3 rfl) ?_
      refine lv_iload hx hb dX7_walk_77 (lv_at hl 0 rfl) ?_
      obtain ⟨u16, hu16, h⟩ := ul_cl_h h
      refine ul_cVv (As := [.int p1, .int p2, .int u14]) (rest := []) (wc' := (ul_wM cI cZ aM u16 d)) (wr := []) hP hD hS hK hA [0, 1, 2, 3, 4, 5, 6, 7, 8, 9, 10, 11, 12, 13, 14] [] [0, 1] ul_N0_ok trivial (c_X7_comeTo l dC dI cI cZ aM H.size M10 d p1 p2 u14 u16 hu16) rfl rfl (by decide) rfl (by decide) (by decide) rfl ⟨hx, hb, hml, hown, hts⟩ (cwV 3 hts gX7_walk_X7_comeTo rfl rfl rfl (by decide +kernel) ⟨Nat.le_of_ble_eq_true rfl, Nat.le_of_ble_eq_true rfl⟩) (va_recv hK hP (ci := 7) (q0 := 0) rfl rfl) rfl hl.1 rfl (Nat.le_of_ble_eq_true rfl) dX7_walk_79 (fun H locs hw => ?_)
      obtain ⟨hP, hD, hS⟩ := hw
      have hP : va_P (dC, dI) classes (ul_wM cI cZ aM u16 d) H := hP
      have hD : va_D A (ul_wM cI cZ aM u16 d) := hD
      exact ge _ _ _ (J82 u14 u16 H locs ⟨hP, hD, hS⟩ ls (lv_sub hl [1, 2, 3, 4, 5, 0] rfl) h)
  obtain ⟨hP, hD, hS⟩ := hw
  unfold f_X7_walk_L18 at h
  refine gi _ _ _ ?_
  refine lv_aload_n hx hb dX7_walk_18 rfl (lv_at hl 0 rfl) ?_
  refine va_get (D := (dC, dI)) (ci := 7) (v := .ref (aM 6)) (C := RX7) (T := TX7) (N := 26) hx hb hts hin7 hown hK hP 0 rfl rfl 7 (by decide) (hts (.fieldLink RX7 25 "UnderLaddersModel" "now" "[I") (by decide +kernel)) (fun _ h9 => h9) rfl dX7_walk_19 ?_
  refine lv_iload_n hx hb dX7_walk_22 rfl (lv_at hl 3 rfl) ?_
  obtain ⟨hi26, h⟩ := ul_ld_h h
  refine va_iald hx hb hK hP 6 0 rfl rfl hi26 dX7_walk_23 ?_
  refine lv_topi (fun v25 ev25 => ?_)
  have h := h v25 ev25
  refine lv_iload hx hb dX7_walk_24 (lv_at hl 4 rfl) ?_
  refine lv_icmp_eq (tgt := 85) hx hb dX7_walk_26 (by decide) (fun hc27 => ?_) (fun hc27 => ?_)
  · have h := ul_if_t hc27 h
    exact ge _ _ _ (J85 v1 u2 q18 H locs ⟨hP, hD, hS⟩ ls (lv_sub hl [0, 1, 2, 3, 4] rfl) (hx18 q18 h))
  · have h := ul_if_f hc27 h
    refine lv_aload_n hx hb dX7_walk_29 rfl (lv_at hl 0 rfl) ?_
    refine va_get (D := (dC, dI)) (ci := 7) (v := .ref (aM 6)) (C := RX7) (T := TX7) (N := 26) hx hb hts hin7 hown hK hP 0 rfl rfl 7 (by decide) (hts (.fieldLink RX7 25 "UnderLaddersModel" "now" "[I") (by decide +kernel)) (fun _ h9 => h9) rfl dX7_walk_30 ?_
    refine lv_iload_n hx hb dX7_walk_33 rfl (lv_at hl 3 rfl) ?_
    refine lv_dup2_11 hx hb dX7_walk_34 rfl rfl ?_
    obtain ⟨hi29, h⟩ := ul_ld_h h
    refine va_iald hx hb hK hP 6 0 rfl rfl hi29 dX7_walk_35 ?_
    refine lv_topi (fun v28 ev28 => ?_)
    have h := h v28 ev28
    refine lv_aload_n hx hb dX7_walk_36 rfl (lv_at hl 0 rfl) ?_
    refine va_get (D := (dC, dI)) (ci := 7) (v := .ref (aM 6)) (C := RX7) (T := TX7) (N := 26) hx hb hts hin7 hown hK hP 0 rfl rfl 7 (by decide) (hts (.fieldLink RX7 25 "UnderLaddersModel" "now" "[I") (by decide +kernel)) (fun _ h9 => h9) rfl dX7_walk_37 ?_
    refine lv_iload_n hx hb dX7_walk_40 rfl (lv_at hl 3 rfl) ?_
    obtain ⟨hi31, h⟩ := ul_ld_h h
    refine va_iald hx hb hK hP 6 0 rfl rfl hi31 dX7_walk_41 ?_
    refine lv_topi (fun v30 ev30 => ?_)
    have h := h v30 ev30
    refine lv_iload hx hb dX7_walk_42 (lv_at hl 4 rfl) ?_
    refine lv_icmp_ge (tgt := 51) hx hb dX7_walk_44 (by decide) (fun hc32 => ?_) (fun hc32 => ?_)
    · have h := ul_if_t hc32 h
      refine lv_iconst (v := -1) hx hb dX7_walk_51 (by decide) ?_
      exact ge _ _ _ (J52 v1 v28 (-1 : Int32) q18 H locs ⟨hP, hD, hS⟩ ls (lv_sub hl [0, 1, 2, 3, 4] rfl) h)
    · have h := ul_if_f hc32 h
      refine lv_iconst (v := 1) hx hb dX7_walk_47 (by decide) ?_
      refine lv_goto (tgt := 52) hx hb dX7_walk_48 (by decide) ?_
      exact ge _ _ _ (J52 v1 v28 (1 : Int32) q18 H locs ⟨hP, hD, hS⟩ ls (lv_sub hl [0, 1, 2, 3, 4] rfl) h)
def f_X7_passOn_j117 (p1 : Int32) (p2 : Int32) (x3 : Int32) (x4 : Int32) (x5 : Int32) (M__117 : ul_S) : Option (Int32 × ul_S) :=
  ul_bd (x3 + (22 : Int32)) fun v1 => ul_ld (M__117 6) 46 v1 fun v2 => ul_st M__117 6 46 v1 (v2 + (1 : Int32)) fun M4 => some (x4, M4)
def f_X7_passOn_L45 (p1 : Int32) (p2 : Int32) (y3 : Int32) (q45 : (Int32 × Int32 × ul_S)) : Option ((Int32 × Int32 × ul_S) ⊕ (Int32 × Int32 × ul_S)) :=
  if (q45.2.2 0 0) ≤ q45.2.1 then (some (.inl (q45.1, q45.2.1, q45.2.2))) else (ul_ld (q45.2.2 6) 46 ((y3 + (4 : Int32)) + q45.2.1) fun v12 => ul_bd (v12 / (5 : Int32)) fun v14 => ul_bd ((y3 + (8 : Int32)) + q45.2.1) fun v15 => ul_ld (q45.2.2 6) 46 v15 fun v16 => ul_st q45.2.2 6 46 v15 (v16 + v14) fun M18 => ul_bd ((y3 + (4 : Int32)) + q45.2.1) fun v20 => ul_ld (M18 6) 46 v20 fun v21 => ul_st M18 6 46 v20 (v21 - ((5 : Int32) * v14)) fun M23 => ul_bd (q45.1 + v14) fun v25 => ul_bd (q45.2.1 + 1) fun v26 => some (.inr (v25, v26, M23)))
def f_X7_passOn_j39 (p1 : Int32) (p2 : Int32) (x3 : Int32) (x4 : Int32) (M__39 : ul_S) : Option (Int32 × ul_S) :=
  (ul_it ul_N (f_X7_passOn_L45 p1 p2 x3) ((0 : Int32), (0 : Int32), M__39)).bind (fun e45 => f_X7_passOn_j117 p1 p2 x3 e45.1 e45.2.1 e45.2.2)
def f_X7_passOn_j33 (p1 : Int32) (p2 : Int32) (x3 : Int32) (x4 : Int32) (M__33 : ul_S) : Option ((Int32 × ul_S) ⊕ (Int32 × ul_S)) :=
  ul_bd (x4 + 1) fun v76 => some (.inr (v76, M__33))
def f_X7_passOn_L8 (p1 : Int32) (p2 : Int32) (y3 : Int32) (q8 : (Int32 × ul_S)) : Option ((Int32 × ul_S) ⊕ (Int32 × ul_S)) :=
  if (q8.2 0 1) ≤ q8.1 then (some (.inl (q8.1, q8.2))) else ((f_X7_has p2 q8.1).bind fun u79 => if u79 = 0 then ((f_X7_walk q8.2 p1 q8.1).bind fun u81 => f_X7_passOn_j33 p1 p2 y3 q8.1 u81) else (f_X7_passOn_j33 p1 p2 y3 q8.1 q8.2))
def f_X7_passOn (M : ul_S) (p1 : Int32) (p2 : Int32) : Option (Int32 × ul_S) :=
  ul_bd ((23 : Int32) * p1) fun v75 => (ul_it ul_N (f_X7_passOn_L8 p1 p2 v75) ((0 : Int32), M)).bind (fun e8 => f_X7_passOn_j39 p1 p2 v75 e8.1 e8.2)
set_option maxHeartbeats 4000000 in
set_option maxRecDepth 100000 in
theorem c_X7_passOn (l : Launch) (dC : Nat → ClassId) (dI : Nat → Nat → Nat) (cI : ClassId) (cZ : ClassId) (aM : Nat → Nat) (sz : Nat) (M : ul_S) (d : Int64) (p1 : Int32) (p2 : Int32) (r : (Int32 × ul_S)) (h : f_X7_passOn M p1 p2 = some r) : Met l yX7_passOn wsX7_passOn ({ frames := 5, cells := 0, slots := 0, locals := 117 }) (va_Pc [.ref (aM 0), .int p1, .int p2] (ul_pre (dC, dI) [(cI, .int), (cZ, .boolean)] ul_N0 sz (ul_wM cI cZ aM M d))) (va_Qi (fun v (_ : Unit) => v = r.1) (fun _ => ul_post (dC, dI) [(cI, .int), (cZ, .boolean)] (va_A (ul_wM cI cZ aM M d) sz) (ul_wM cI cZ aM r.2 d)) (va_A (ul_wM cI cZ aM M d) sz)) 0 0 (va_A (ul_wM cI cZ aM M d) sz) := by
  refine Met.ofW (cc := cX7_passOn) (maxL := 7) (ret := (some .int)) (by decide) rfl ?_
  intro p e s m args below meth c s₁ B hml hv
  obtain ⟨rfl, hsz, hP, hK, hD0, hN⟩ := hv
  have hx := B.exec
  have hb := B.bytes
  have hr := B.returns
  have hts := atoms_spec (ws := wsX7_passOn) B.pre
  have hown : s.vm.findClass RX7 = some m.cls := findClass_of_methodNamed B.named
  have hlocks := B.notSynchronized
  have hin7 : ∀ w ∈ u_ws RX7 TX7 26, w ∈ wsX7_passOn := by decide +kernel
  subst hsz
  have hD := hD0.self (sz := s.heap.size)
  generalize hAe : va_A (ul_wM cI cZ aM M d) s.heap.size = A at hD ⊢
  have hA : ∀ q : Nat, s.heap.size ≤ q → A q := fun q h => by rw [← hAe]; exact Or.inr h
  have hS : va_S A s.heap s.heap [] := va_S.rf
  have hl := lv_entry ([.ref (aM 0), .int p1, .int p2]) (n := 7) (Nat.le_of_ble_eq_true rfl)
  rw [lg_entry_eq]
  generalize (lg_sl ([.ref (aM 0), .int p1, .int p2]) ++ List.replicate (7 - (lg_sl ([.ref (aM 0), .int p1, .int p2])).length) Slot.unset).toArray = ls at hl ⊢
  have hl : lv_has ls 7 [(0, .ref (aM 0)), (1, .int p1), (2, .int p2)] := hl
  obtain ⟨K0, hK0, h⟩ := ul_top h
  unfold f_X7_passOn at h
  refine ul_gen (fun G gi ge => ?_)
  obtain ⟨H, eH⟩ : ∃ z, z = s.heap := ⟨_, rfl⟩
  obtain ⟨locs, eL⟩ : ∃ z : List Loc, z = [] := ⟨_, rfl⟩
  have hP : va_P (dC, dI) classes (ul_wM cI cZ aM M d) H := by rw [eH]; exact hP
  have hS : va_S A s.heap H locs := by rw [eH, eL]; exact hS
  rw [← eL]
  refine (show G H locs (F0 m 0 ls []) → G s.heap locs (F0 m 0 ls []) from fun z => by rw [← eH]; exact z) ?_
  have J117 : ∀ (x3 : Int32) (x4 : Int32) (x5 : Int32) (M__117 : ul_S) (H : Heap) (locs : List Loc), ul_H (dC, dI) A s.heap (ul_wM cI cZ aM M__117 d) H locs → ∀ ls : Array Slot, lv_has ls 7 [(0, .ref (aM 0)), (1, .int p1), (2, .int p2), (3, .int x3), (4, .int x4), (5, .int x5)] → (f_X7_passOn_j117 p1 p2 x3 x4 x5 M__117).bind K0 = some r → G H locs (F0 m 117 ls []) := by
    intro x3 x4 x5 M__117 H locs hw ls hl h
    obtain ⟨hP, hD, hS⟩ := hw
    unfold f_X7_passOn_j117 at h
    refine gi _ _ _ ?_
    refine lv_aload_n hx hb dX7_passOn_117 rfl (lv_at hl 0 rfl) ?_
    refine va_get (D := (dC, dI)) (ci := 7) (v := .ref (aM 6)) (C := RX7) (T := TX7) (N := 26) hx hb hts hin7 hown hK hP 0 rfl rfl 7 (by decide) (hts (.fieldLink RX7 25 "UnderLaddersModel" "now" "[I") (by decide +kernel)) (fun _ h9 => h9) rfl dX7_passOn_118 ?_
    refine lv_iload_n hx hb dX7_passOn_121 rfl (lv_at hl 3 rfl) ?_
    refine lv_bipush (v := 22) hx hb dX7_passOn_122 (by decide) ?_
    refine lv_iadd hx hb dX7_passOn_124 ?_
    refine lv_topi (fun v6 ev6 => ?_)
    have h := ul_bd_h h v6 ev6
    refine lv_dup2_11 hx hb dX7_passOn_125 rfl rfl ?_
    obtain ⟨hi8, h⟩ := ul_ld_h h
    refine va_iald hx hb hK hP 6 0 rfl rfl hi8 dX7_passOn_126 ?_
    refine lv_topi (fun v7 ev7 => ?_)
    have h := h v7 ev7
    refine lv_iconst (v := 1) hx hb dX7_passOn_127 (by decide) ?_
    refine lv_iadd hx hb dX7_passOn_128 ?_
    obtain ⟨hi10, h⟩ := ul_st_h h
    refine va_iast hx hb hK hP hD hS 6 0 rfl rfl hi10 dX7_passOn_129 (fun H locs hP hD hS => ?_)
    obtain ⟨M9, eM9⟩ : ∃ z : ul_S, z = ul_up M__117 6 v6.toNatClampNeg (v7 + (1 : Int32)) := ⟨_, rfl⟩
    have h := h M9 eM9
    have hP : va_P (dC, dI) classes (ul_wM cI cZ aM M9 d) H := by rw [eM9]; exact hP
    have hD : va_D A (ul_wM cI cZ aM M9 d) := by rw [eM9]; exact hD
    refine lv_iload hx hb dX7_passOn_130 (lv_at hl 4 rfl) ?_
    have hr9 := hK0 (x4, M9) h
    subst hr9
    exact W.iret (v := x4) hx hb hr (fun t ht hW => ⟨⟨x4, (), rfl, rfl, by rw [ht]; exact hP, va_K.moved hW.alike hK, hD⟩, hS.F ht⟩) hS.2.2 dX7_passOn_132
  have J39 : ∀ (x3 : Int32) (x4 : Int32) (M__39 : ul_S) (H : Heap) (locs : List Loc), ul_H (dC, dI) A s.heap (ul_wM cI cZ aM M__39 d) H locs → ∀ ls : Array Slot, lv_has ls 7 [(0, .ref (aM 0)), (1, .int p1), (2, .int p2), (3, .int x3), (4, .int x4)] → (f_X7_passOn_j39 p1 p2 x3 x4 M__39).bind K0 = some r → G H locs (F0 m 39 ls []) := by
    intro x3 x4 M__39 H locs hw ls hl h
    obtain ⟨hP, hD, hS⟩ := hw
    unfold f_X7_passOn_j39 at h
    refine gi _ _ _ ?_
    refine lv_iconst (v := 0) hx hb dX7_passOn_39 (by decide) ?_
    refine lv_istore (lv' := [(4, .int (0 : Int32)), (0, .ref (aM 0)), (1, .int p1), (2, .int p2), (3, .int x3)]) hx hb dX7_passOn_40 hl (by decide) rfl (fun ls hl => ?_)
    refine lv_iconst (v := 0) hx hb dX7_passOn_42 (by decide) ?_
    refine lv_istore (lv' := [(5, .int (0 : Int32)), (4, .int (0 : Int32)), (0, .ref (aM 0)), (1, .int p1), (2, .int p2), (3, .int x3)]) hx hb dX7_passOn_43 hl (by decide) rfl (fun ls hl => ?_)
    refine ge _ _ _ (ul_loop (P := fun q45 => ∀ (H : Heap) (locs : List Loc), ul_H (dC, dI) A s.heap (ul_wM cI cZ aM q45.2.2 d) H locs → ∀ ls : Array Slot, lv_has ls 7 [(0, .ref (aM 0)), (1, .int p1), (2, .int p2), (3, .int x3), (4, .int q45.1), (5, .int q45.2.1)] → G H locs (F0 m 45 ls [])) ?_ _ _ (ul_it_h h) H locs ⟨hP, hD, hS⟩ ls (lv_sub hl [2, 3, 4, 5, 1, 0] rfl))
    intro K45 hx45
    intro q45 ih45 h H locs hw ls hl
    obtain ⟨hP, hD, hS⟩ := hw
    unfold f_X7_passOn_L45 at h
    refine gi _ _ _ ?_
    refine lv_iload hx hb dX7_passOn_45 (lv_at hl 5 rfl) ?_
    refine lv_aload_n hx hb dX7_passOn_47 rfl (lv_at hl 0 rfl) ?_
    refine va_get (D := (dC, dI)) (ci := 7) (v := .int (q45.2.2 0 0)) (C := RX7) (T := TX7) (N := 26) hx hb hts hin7 hown hK hP 0 rfl rfl 0 (by decide) (hts (.fieldLink RX7 96 "UnderLaddersModel" "ladders" "I") (by decide +kernel)) (fun _ h9 => h9) rfl dX7_passOn_48 ?_
    refine lv_icmp_ge (tgt := 117) hx hb dX7_passOn_51 (by decide) (fun hc59 => ?_) (fun hc59 => ?_)
    · have h := ul_if_t hc59 h
      exact ge _ _ _ (J117 x3 q45.1 q45.2.1 q45.2.2 H locs ⟨hP, hD, hS⟩ ls (lv_sub hl [0, 1, 2, 3, 4, 5] rfl) (hx45 (q45.1, q45.2.1, q45.2.2) h))
    · have h := ul_if_f hc59 h
      refine lv_aload_n hx hb dX7_passOn_54 rfl (lv_at hl 0 rfl) ?_
      refine va_get (D := (dC, dI)) (ci := 7) (v := .ref (aM 6)) (C := RX7) (T := TX7) (N := 26) hx hb hts hin7 hown hK hP 0 rfl rfl 7 (by decide) (hts (.fieldLink RX7 25 "UnderLaddersModel" "now" "[I") (by decide +kernel)) (fun _ h9 => h9) rfl dX7_passOn_55 ?_
      refine lv_iload_n hx hb dX7_passOn_58 rfl (lv_at hl 3 rfl) ?_
      refine lv_iconst (v := 4) hx hb dX7_passOn_59 (by decide) ?_
      refine lv_iadd hx hb dX7_passOn_60 ?_
      refine lv_iload hx hb dX7_passOn_61 (lv_at hl 5 rfl) ?_
      refine lv_iadd hx hb dX7_passOn_63 ?_
      obtain ⟨hi61, h⟩ := ul_ld_h h
      refine va_iald hx hb hK hP 6 0 rfl rfl hi61 dX7_passOn_64 ?_
      refine lv_topi (fun v60 ev60 => ?_)
      have h := h v60 ev60
      refine lv_iconst (v := 5) hx hb dX7_passOn_65 (by decide) ?_
      refine lv_idiv hx hb dX7_passOn_66 (by decide) ?_
      refine lv_topi (fun v62 ev62 => ?_)
      have h := ul_bd_h h v62 ev62
      refine lv_istore (lv' := [(6, .int v62), (0, .ref (aM 0)), (1, .int p1), (2, .int p2), (3, .int x3), (4, .int q45.1), (5, .int q45.2.1)]) hx hb dX7_passOn_67 hl (by decide) rfl (fun ls hl => ?_)
      refine lv_aload_n hx hb dX7_passOn_69 rfl (lv_at hl 1 rfl) ?_
      refine va_get (D := (dC, dI)) (ci := 7) (v := .ref (aM 6)) (C := RX7) (T := TX7) (N := 26) hx hb hts hin7 hown hK hP 0 rfl rfl 7 (by decide) (hts (.fieldLink RX7 25 "UnderLaddersModel" "now" "[I") (by decide +kernel)) (fun _ h9 => h9) rfl dX7_passOn_70 ?_
      refine lv_iload_n hx hb dX7_passOn_73 rfl (lv_at hl 4 rfl) ?_
      refine lv_bipush (v := 8) hx hb dX7_passOn_74 (by decide) ?_
      refine lv_iadd hx hb dX7_passOn_76 ?_
      refine lv_iload hx hb dX7_passOn_77 (lv_at hl 6 rfl) ?_
      refine lv_iadd hx hb dX7_passOn_79 ?_
      refine lv_topi (fun v63 ev63 => ?_)
      have h := ul_bd_h h v63 ev63
      refine lv_dup2_11 hx hb dX7_passOn_80 rfl rfl ?_
      obtain ⟨hi65, h⟩ := ul_ld_h h
      refine va_iald hx hb hK hP 6 0 rfl rfl hi65 dX7_passOn_81 ?_
      refine lv_topi (fun v64 ev64 => ?_)
      have h := h v64 ev64
      refine lv_iload hx hb dX7_passOn_82 (lv_at hl 0 rfl) ?_
      refine lv_iadd hx hb dX7_passOn_84 ?_
      obtain ⟨hi67, h⟩ := ul_st_h h
      refine va_iast hx hb hK hP hD hS 6 0 rfl rfl hi67 dX7_passOn_85 (fun H locs hP hD hS => ?_)
      obtain ⟨M66, eM66⟩ : ∃ z : ul_S, z = ul_up q45.2.2 6 v63.toNatClampNeg (v64 + v62) := ⟨_, rfl⟩
      have h := h M66 eM66
      have hP : va_P (dC, dI) classes (ul_wM cI cZ aM M66 d) H := by rw [eM66]; exact hP
      have hD : va_D A (ul_wM cI cZ aM M66 d) := by rw [eM66]; exact hD
      refine lv_aload_n hx hb dX7_passOn_86 rfl (lv_at hl 1 rfl) ?_
      refine va_get (D := (dC, dI)) (ci := 7) (v := .ref (aM 6)) (C := RX7) (T := TX7) (N := 26) hx hb hts hin7 hown hK hP 0 rfl rfl 7 (by decide) (hts (.fieldLink RX7 25 "UnderLaddersModel" "now" "[I") (by decide +kernel)) (fun _ h9 => h9) rfl dX7_passOn_87 ?_
      refine lv_iload_n hx hb dX7_passOn_90 rfl (lv_at hl 4 rfl) ?_
      refine lv_iconst (v := 4) hx hb dX7_passOn_91 (by decide) ?_
      refine lv_iadd hx hb dX7_passOn_92 ?_
      refine lv_iload hx hb dX7_passOn_93 (lv_at hl 6 rfl) ?_
      refine lv_iadd hx hb dX7_passOn_95 ?_
      refine lv_topi (fun v68 ev68 => ?_)
      have h := ul_bd_h h v68 ev68
      refine lv_dup2_11 hx hb dX7_passOn_96 rfl rfl ?_
      obtain ⟨hi70, h⟩ := ul_ld_h h
      refine va_iald hx hb hK hP 6 0 rfl rfl hi70 dX7_passOn_97 ?_
      refine lv_topi (fun v69 ev69 => ?_)
      have h := h v69 ev69
      refine lv_iconst (v := 5) hx hb dX7_passOn_98 (by decide) ?_
      refine lv_iload hx hb dX7_passOn_99 (lv_at hl 0 rfl) ?_
      refine lv_imul hx hb dX7_passOn_101 ?_
      refine lv_isub hx hb dX7_passOn_102 ?_
      obtain ⟨hi72, h⟩ := ul_st_h h
      refine va_iast hx hb hK hP hD hS 6 0 rfl rfl hi72 dX7_passOn_103 (fun H locs hP hD hS => ?_)
      obtain ⟨M71, eM71⟩ : ∃ z : ul_S, z = ul_up M66 6 v68.toNatClampNeg (v69 - ((5 : Int32) * v62)) := ⟨_, rfl⟩
      have h := h M71 eM71
      have hP : va_P (dC, dI) classes (ul_wM cI cZ aM M71 d) H := by rw [eM71]; exact hP
      have hD : va_D A (ul_wM cI cZ aM M71 d) := by rw [eM71]; exact hD
      refine lv_iload hx hb dX7_passOn_104 (lv_at hl 5 rfl) ?_
      refine lv_iload hx hb dX7_passOn_106 (lv_at hl 0 rfl) ?_
      refine lv_iadd hx hb dX7_passOn_108 ?_
      refine lv_topi (fun v73 ev73 => ?_)
      have h := ul_bd_h h v73 ev73
      refine lv_istore (lv' := [(4, .int v73), (6, .int v62), (0, .ref (aM 0)), (1, .int p1), (2, .int p2), (3, .int x3), (5, .int q45.2.1)]) hx hb dX7_passOn_109 hl (by decide) rfl (fun ls hl => ?_)
      obtain ⟨v74, ev74⟩ : ∃ z : Int32, z = q45.2.1 + 1 := ⟨_, rfl⟩
      have h := ul_bd_h h v74 ev74
      refine lv_iinc (v := v74) (lv' := [(5, .int v74), (4, .int v73), (6, .int v62), (0, .ref (aM 0)), (1, .int p1), (2, .int p2), (3, .int x3)]) hx hb dX7_passOn_111 hl (k := 6) rfl (by rw [ev74]; rfl) (by decide) rfl (fun ls hl => ?_)
      refine lv_goto (tgt := 45) hx hb dX7_passOn_114 (by decide) ?_
      exact ge _ _ _ (ih45 (v73, v74, M71) h H locs ⟨hP, hD, hS⟩ ls (lv_sub hl [3, 4, 5, 6, 1, 0] rfl))
  refine gi _ _ _ ?_
  refine lv_bipush (v := 23) hx hb dX7_passOn_0 (by decide) ?_
  refine lv_iload_n hx hb dX7_passOn_2 rfl (lv_at hl 1 rfl) ?_
  refine lv_imul hx hb dX7_passOn_3 ?_
  refine lv_topi (fun v75 ev75 => ?_)
  have h := ul_bd_h h v75 ev75
  refine lv_istore_n (lv' := [(3, .int v75), (0, .ref (aM 0)), (1, .int p1), (2, .int p2)]) hx hb dX7_passOn_4 rfl hl (by decide) rfl (fun ls hl => ?_)
  refine lv_iconst (v := 0) hx hb dX7_passOn_5 (by decide) ?_
  refine lv_istore (lv' := [(4, .int (0 : Int32)), (3, .int v75), (0, .ref (aM 0)), (1, .int p1), (2, .int p2)]) hx hb dX7_passOn_6 hl (by decide) rfl (fun ls hl => ?_)
  refine ge _ _ _ (ul_loop (P := fun q8 => ∀ (H : Heap) (locs : List Loc), ul_H (dC, dI) A s.heap (ul_wM cI cZ aM q8.2 d) H locs → ∀ ls : Array Slot, lv_has ls 7 [(0, .ref (aM 0)), (1, .int p1), (2, .int p2), (3, .int v75), (4, .int q8.1)] → G H locs (F0 m 8 ls [])) ?_ _ _ (ul_it_h h) H locs ⟨hP, hD, hS⟩ ls (lv_sub hl [2, 3, 4, 1, 0] rfl))
  intro K8 hx8
  intro q8 ih8 h H locs hw ls hl
  have J33 : ∀ (x4 : Int32) (M__33 : ul_S) (H : Heap) (locs : List Loc), ul_H (dC, dI) A s.heap (ul_wM cI cZ aM M__33 d) H locs → ∀ ls : Array Slot, lv_has ls 7 [(0, .ref (aM 0)), (1, .int p1), (2, .int p2), (3, .int v75), (4, .int x4)] → (f_X7_passOn_j33 p1 p2 v75 x4 M__33).bind K8 = some r → G H locs (F0 m 33 ls []) := by
    intro x4 M__33 H locs hw ls hl h
    obtain ⟨hP, hD, hS⟩ := hw
    unfold f_X7_passOn_j33 at h
    refine gi _ _ _ ?_
    obtain ⟨v77, ev77⟩ : ∃ z : Int32, z = x4 + 1 := ⟨_, rfl⟩
    have h := ul_bd_h h v77 ev77
    refine lv_iinc (v := v77) (lv' := [(4, .int v77), (0, .ref (aM 0)), (1, .int p1), (2, .int p2), (3, .int v75)]) hx hb dX7_passOn_33 hl (k := 4) rfl (by rw [ev77]; rfl) (by decide) rfl (fun ls hl => ?_)
    refine lv_goto (tgt := 8) hx hb dX7_passOn_36 (by decide) ?_
    exact ge _ _ _ (ih8 (v77, M__33) h H locs ⟨hP, hD, hS⟩ ls (lv_sub hl [1, 2, 3, 4, 0] rfl))
  obtain ⟨hP, hD, hS⟩ := hw
  unfold f_X7_passOn_L8 at h
  refine gi _ _ _ ?_
  refine lv_iload hx hb dX7_passOn_8 (lv_at hl 4 rfl) ?_
  refine lv_aload_n hx hb dX7_passOn_10 rfl (lv_at hl 0 rfl) ?_
  refine va_get (D := (dC, dI)) (ci := 7) (v := .int (q8.2 0 1)) (C := RX7) (T := TX7) (N := 26) hx hb hts hin7 hown hK hP 0 rfl rfl 1 (by decide) (hts (.fieldLink RX7 99 "UnderLaddersModel" "people" "I") (by decide +kernel)) (fun _ h9 => h9) rfl dX7_passOn_11 ?_
  refine lv_icmp_ge (tgt := 39) hx hb dX7_passOn_14 (by decide) (fun hc82 => ?_) (fun hc82 => ?_)
  · have h := ul_if_t hc82 h
    exact ge _ _ _ (J39 v75 q8.1 q8.2 H locs ⟨hP, hD, hS⟩ ls (lv_sub hl [0, 1, 2, 3, 4] rfl) (hx8 (q8.1, q8.2) h))
  · have h := ul_if_f hc82 h
    refine lv_iload_n hx hb dX7_passOn_17 rfl (lv_at hl 2 rfl) ?_
    refine lv_iload hx hb dX7_passOn_18 (lv_at hl 4 rfl) ?_
    obtain ⟨u83, hu83, h⟩ := ul_cl_h h
    refine ul_cSi (As := [.int p2, .int q8.1]) (rest := []) hP hD hS hK hA (c_X7_has l dC dI H.size p2 q8.1 u83 hu83) ⟨hx, hb, hml, hown, hts⟩ (cwS 2 hts gX7_passOn_X7_has rfl rfl rfl (by decide +kernel) ⟨Nat.le_of_ble_eq_true rfl, Nat.le_of_ble_eq_true rfl⟩) rfl hl.1 rfl (Nat.le_of_ble_eq_true rfl) dX7_passOn_20 (fun H locs hw => ?_)
    obtain ⟨hP, hD, hS⟩ := hw
    refine lv_if_ne (tgt := 33) hx hb dX7_passOn_23 (by decide) (fun hc84 => ?_) (fun hc84 => ?_)
    · have h := ul_if_f hc84 h
      exact ge _ _ _ (J33 q8.1 q8.2 H locs ⟨hP, hD, hS⟩ ls (lv_sub hl [0, 1, 2, 3, 4] rfl) h)
    · have h := ul_if_t hc84 h
      refine lv_aload_n hx hb dX7_passOn_26 rfl (lv_at hl 0 rfl) ?_
      refine lv_iload_n hx hb dX7_passOn_27 rfl (lv_at hl 1 rfl) ?_
      refine lv_iload hx hb dX7_passOn_28 (lv_at hl 4 rfl) ?_
      obtain ⟨u85, hu85, h⟩ := ul_cl_h h
      refine ul_cVv (As := [.int p1, .int q8.1]) (rest := []) (wc' := (ul_wM cI cZ aM u85 d)) (wr := []) hP hD hS hK hA [0, 1, 2, 3, 4, 5, 6, 7, 8, 9, 10, 11, 12, 13, 14] [] [0, 1] ul_N0_ok trivial (c_X7_walk l dC dI cI cZ aM H.size q8.2 d p1 q8.1 u85 hu85) rfl rfl (by decide) rfl (by decide) (by decide) rfl ⟨hx, hb, hml, hown, hts⟩ (cwV 2 hts gX7_passOn_X7_walk rfl rfl rfl (by decide +kernel) ⟨Nat.le_of_ble_eq_true rfl, Nat.le_of_ble_eq_true rfl⟩) (va_recv hK hP (ci := 7) (q0 := 0) rfl rfl) rfl hl.1 rfl (Nat.le_of_ble_eq_true rfl) dX7_passOn_30 (fun H locs hw => ?_)
      obtain ⟨hP, hD, hS⟩ := hw
      have hP : va_P (dC, dI) classes (ul_wM cI cZ aM u85 d) H := hP
      have hD : va_D A (ul_wM cI cZ aM u85 d) := hD
      exact ge _ _ _ (J33 q8.1 u85 H locs ⟨hP, hD, hS⟩ ls (lv_sub hl [0, 1, 2, 3, 4] rfl) h)
def f_X7_sumOf_j37 (M : ul_S) (p1 : Int32) (p2 : Int32) (p3 : Int32) (x4 : Int32) (x5 : Int32) : Option Int32 :=
  some x4
def f_X7_sumOf_L6 (M : ul_S) (p1 : Int32) (p2 : Int32) (p3 : Int32) (q6 : (Int32 × Int32)) : Option ((Int32 × Int32) ⊕ (Int32 × Int32)) :=
  if p3 ≤ q6.2 then (some (.inl (q6.1, q6.2))) else (ul_ld (M 6) 46 ((((23 : Int32) * p1) + p2) + q6.2) fun v2 => ul_bd (q6.1 + v2) fun v4 => ul_bd (q6.2 + 1) fun v5 => some (.inr (v4, v5)))
def f_X7_sumOf (M : ul_S) (p1 : Int32) (p2 : Int32) (p3 : Int32) : Option Int32 :=
  (ul_it ul_N (f_X7_sumOf_L6 M p1 p2 p3) ((0 : Int32), (0 : Int32))).bind (fun e6 => f_X7_sumOf_j37 M p1 p2 p3 e6.1 e6.2)
set_option maxHeartbeats 4000000 in
set_option maxRecDepth 100000 in
theorem c_X7_sumOf (l : Launch) (dC : Nat → ClassId) (dI : Nat → Nat → Nat) (cI : ClassId) (cZ : ClassId) (aM : Nat → Nat) (sz : Nat) (M : ul_S) (d : Int64) (p1 : Int32) (p2 : Int32) (p3 : Int32) (r : Int32) (h : f_X7_sumOf M p1 p2 p3 = some r) : Met l yX7_sumOf wsX7_sumOf ({ frames := 0, cells := 0, slots := 0, locals := 0 }) (va_Pc [.ref (aM 0), .int p1, .int p2, .int p3] (ul_pre (dC, dI) [(cI, .int), (cZ, .boolean)] ul_N0 sz (ul_wM cI cZ aM M d))) (va_Qi (fun v (_ : Unit) => v = r) (fun _ => ul_post (dC, dI) [(cI, .int), (cZ, .boolean)] (va_A (ul_wM cI cZ aM M d) sz) (ul_wM cI cZ aM M d)) (va_A (ul_wM cI cZ aM M d) sz)) 0 0 (va_A (ul_wM cI cZ aM M d) sz) := by
  refine Met.ofW (cc := cX7_sumOf) (maxL := 6) (ret := (some .int)) (by decide) rfl ?_
  intro p e s m args below meth c s₁ B hml hv
  obtain ⟨rfl, hsz, hP, hK, hD0, hN⟩ := hv
  have hx := B.exec
  have hb := B.bytes
  have hr := B.returns
  have hts := atoms_spec (ws := wsX7_sumOf) B.pre
  have hown : s.vm.findClass RX7 = some m.cls := findClass_of_methodNamed B.named
  have hlocks := B.notSynchronized
  have hin7 : ∀ w ∈ u_ws RX7 TX7 26, w ∈ wsX7_sumOf := by decide +kernel
  subst hsz
  have hD := hD0.self (sz := s.heap.size)
  generalize hAe : va_A (ul_wM cI cZ aM M d) s.heap.size = A at hD ⊢
  have hA : ∀ q : Nat, s.heap.size ≤ q → A q := fun q h => by rw [← hAe]; exact Or.inr h
  have hS : va_S A s.heap s.heap [] := va_S.rf
  have hl := lv_entry ([.ref (aM 0), .int p1, .int p2, .int p3]) (n := 6) (Nat.le_of_ble_eq_true rfl)
  rw [lg_entry_eq]
  generalize (lg_sl ([.ref (aM 0), .int p1, .int p2, .int p3]) ++ List.replicate (6 - (lg_sl ([.ref (aM 0), .int p1, .int p2, .int p3])).length) Slot.unset).toArray = ls at hl ⊢
  have hl : lv_has ls 6 [(0, .ref (aM 0)), (1, .int p1), (2, .int p2), (3, .int p3)] := hl
  obtain ⟨K0, hK0, h⟩ := ul_top h
  unfold f_X7_sumOf at h
  refine ul_gen (fun G gi ge => ?_)
  obtain ⟨H, eH⟩ : ∃ z, z = s.heap := ⟨_, rfl⟩
  obtain ⟨locs, eL⟩ : ∃ z : List Loc, z = [] := ⟨_, rfl⟩
  have hP : va_P (dC, dI) classes (ul_wM cI cZ aM M d) H := by rw [eH]; exact hP
  have hS : va_S A s.heap H locs := by rw [eH, eL]; exact hS
  rw [← eL]
  refine (show G H locs (F0 m 0 ls []) → G s.heap locs (F0 m 0 ls []) from fun z => by rw [← eH]; exact z) ?_
  have J37 : ∀ (x4 : Int32) (x5 : Int32) (H : Heap) (locs : List Loc), ul_H (dC, dI) A s.heap (ul_wM cI cZ aM M d) H locs → ∀ ls : Array Slot, lv_has ls 6 [(0, .ref (aM 0)), (1, .int p1), (2, .int p2), (3, .int p3), (4, .int x4), (5, .int x5)] → (f_X7_sumOf_j37 M p1 p2 p3 x4 x5).bind K0 = some r → G H locs (F0 m 37 ls []) := by
    intro x4 x5 H locs hw ls hl h
    obtain ⟨hP, hD, hS⟩ := hw
    unfold f_X7_sumOf_j37 at h
    refine gi _ _ _ ?_
    refine lv_iload hx hb dX7_sumOf_37 (lv_at hl 4 rfl) ?_
    have hr9 := hK0 x4 h
    subst hr9
    exact W.iret (v := x4) hx hb hr (fun t ht hW => ⟨⟨x4, (), rfl, rfl, by rw [ht]; exact hP, va_K.moved hW.alike hK, hD⟩, hS.F ht⟩) hS.2.2 dX7_sumOf_39
  refine gi _ _ _ ?_
  refine lv_iconst (v := 0) hx hb dX7_sumOf_0 (by decide) ?_
  refine lv_istore (lv' := [(4, .int (0 : Int32)), (0, .ref (aM 0)), (1, .int p1), (2, .int p2), (3, .int p3)]) hx hb dX7_sumOf_1 hl (by decide) rfl (fun ls hl => ?_)
  refine lv_iconst (v := 0) hx hb dX7_sumOf_3 (by decide) ?_
  refine lv_istore (lv' := [(5, .int (0 : Int32)), (4, .int (0 : Int32)), (0, .ref (aM 0)), (1, .int p1), (2, .int p2), (3, .int p3)]) hx hb dX7_sumOf_4 hl (by decide) rfl (fun ls hl => ?_)
  refine ge _ _ _ (ul_loop (P := fun q6 => ∀ (H : Heap) (locs : List Loc), ul_H (dC, dI) A s.heap (ul_wM cI cZ aM M d) H locs → ∀ ls : Array Slot, lv_has ls 6 [(0, .ref (aM 0)), (1, .int p1), (2, .int p2), (3, .int p3), (4, .int q6.1), (5, .int q6.2)] → G H locs (F0 m 6 ls [])) ?_ _ _ (ul_it_h h) H locs ⟨hP, hD, hS⟩ ls (lv_sub hl [2, 3, 4, 5, 1, 0] rfl))
  intro K6 hx6
  intro q6 ih6 h H locs hw ls hl
  obtain ⟨hP, hD, hS⟩ := hw
  unfold f_X7_sumOf_L6 at h
  refine gi _ _ _ ?_
  refine lv_iload hx hb dX7_sumOf_6 (lv_at hl 5 rfl) ?_
  refine lv_iload_n hx hb dX7_sumOf_8 rfl (lv_at hl 3 rfl) ?_
  refine lv_icmp_ge (tgt := 37) hx hb dX7_sumOf_9 (by decide) (fun hc6 => ?_) (fun hc6 => ?_)
  · have h := ul_if_t hc6 h
    exact ge _ _ _ (J37 q6.1 q6.2 H locs ⟨hP, hD, hS⟩ ls (lv_sub hl [0, 1, 2, 3, 4, 5] rfl) (hx6 (q6.1, q6.2) h))
  · have h := ul_if_f hc6 h
    refine lv_iload hx hb dX7_sumOf_12 (lv_at hl 4 rfl) ?_
    refine lv_aload_n hx hb dX7_sumOf_14 rfl (lv_at hl 0 rfl) ?_
    refine va_get (D := (dC, dI)) (ci := 7) (v := .ref (aM 6)) (C := RX7) (T := TX7) (N := 26) hx hb hts hin7 hown hK hP 0 rfl rfl 7 (by decide) (hts (.fieldLink RX7 25 "UnderLaddersModel" "now" "[I") (by decide +kernel)) (fun _ h9 => h9) rfl dX7_sumOf_15 ?_
    refine lv_bipush (v := 23) hx hb dX7_sumOf_18 (by decide) ?_
    refine lv_iload_n hx hb dX7_sumOf_20 rfl (lv_at hl 1 rfl) ?_
    refine lv_imul hx hb dX7_sumOf_21 ?_
    refine lv_iload_n hx hb dX7_sumOf_22 rfl (lv_at hl 2 rfl) ?_
    refine lv_iadd hx hb dX7_sumOf_23 ?_
    refine lv_iload hx hb dX7_sumOf_24 (lv_at hl 5 rfl) ?_
    refine lv_iadd hx hb dX7_sumOf_26 ?_
    obtain ⟨hi8, h⟩ := ul_ld_h h
    refine va_iald hx hb hK hP 6 0 rfl rfl hi8 dX7_sumOf_27 ?_
    refine lv_topi (fun v7 ev7 => ?_)
    have h := h v7 ev7
    refine lv_iadd hx hb dX7_sumOf_28 ?_
    refine lv_topi (fun v9 ev9 => ?_)
    have h := ul_bd_h h v9 ev9
    refine lv_istore (lv' := [(4, .int v9), (0, .ref (aM 0)), (1, .int p1), (2, .int p2), (3, .int p3), (5, .int q6.2)]) hx hb dX7_sumOf_29 hl (by decide) rfl (fun ls hl => ?_)
    obtain ⟨v10, ev10⟩ : ∃ z : Int32, z = q6.2 + 1 := ⟨_, rfl⟩
    have h := ul_bd_h h v10 ev10
    refine lv_iinc (v := v10) (lv' := [(5, .int v10), (4, .int v9), (0, .ref (aM 0)), (1, .int p1), (2, .int p2), (3, .int p3)]) hx hb dX7_sumOf_31 hl (k := 5) rfl (by rw [ev10]; rfl) (by decide) rfl (fun ls hl => ?_)
    refine lv_goto (tgt := 6) hx hb dX7_sumOf_34 (by decide) ?_
    exact ge _ _ _ (ih6 (v9, v10) h H locs ⟨hP, hD, hS⟩ ls (lv_sub hl [2, 3, 4, 5, 1, 0] rfl))
def f_X7_onWay_j69 (M : ul_S) (p1 : Int32) (x2 : Int32) (x3 : Int32) (x4 : Int32) : Option Int32 :=
  some x2
def f_X7_onWay_j64 (M : ul_S) (p1 : Int32) (x2 : Int32) (x3 : Int32) (x4 : Int32) (x5 : Int32) (t0 : Int32) (t1 : Int32) : Option ((Int32 × Int32) ⊕ (Int32 × Int32)) :=
  ul_bd (t0 ||| t1) fun v4 => some (.inr (v4, x3))
def f_X7_onWay_j38 (M : ul_S) (p1 : Int32) (x2 : Int32) (x3 : Int32) (x4 : Int32) (t0 : Int32) (t1 : Int32) : Option ((Int32 × Int32) ⊕ (Int32 × Int32)) :=
  ul_bd (t0 + t1) fun v6 => (f_X7_ladderAt M (0 : Int32) v6).bind fun u7 => if u7 = (-9 : Int32) then (f_X7_onWay_j64 M p1 x2 v6 x4 u7 x2 (0 : Int32)) else (f_X7_onWay_j64 M p1 x2 v6 x4 u7 x2 ((1 : Int32) <<< (u7 &&& 31)))
def f_X7_onWay_L20 (M : ul_S) (p1 : Int32) (y4 : Int32) (q20 : (Int32 × Int32)) : Option ((Int32 × Int32) ⊕ (Int32 × Int32)) :=
  if q20.2 = y4 then (some (.inl (q20.1, q20.2))) else (if y4 ≤ q20.2 then (f_X7_onWay_j38 M p1 q20.1 q20.2 y4 q20.2 (-1 : Int32)) else (f_X7_onWay_j38 M p1 q20.1 q20.2 y4 q20.2 (1 : Int32)))
def f_X7_onWay (M : ul_S) (p1 : Int32) : Option Int32 :=
  ul_ld (M 6) 46 ((12 : Int32) + p1) fun v1 => (f_X7_goalOf M (0 : Int32) p1).bind fun u3 => (ul_it ul_N (f_X7_onWay_L20 M p1 u3) ((0 : Int32), v1)).bind (fun e20 => f_X7_onWay_j69 M p1 e20.1 e20.2 u3)
set_option maxHeartbeats 4000000 in
set_option maxRecDepth 100000 in
theorem c_X7_onWay (l : Launch) (dC : Nat → ClassId) (dI : Nat → Nat → Nat) (cI : ClassId) (cZ : ClassId) (aM : Nat → Nat) (sz : Nat) (M : ul_S) (d : Int64) (p1 : Int32) (r : Int32) (h : f_X7_onWay M p1 = some r) : Met l yX7_onWay wsX7_onWay ({ frames := 1, cells := 0, slots := 0, locals := 23 }) (va_Pc [.ref (aM 0), .int p1] (ul_pre (dC, dI) [(cI, .int), (cZ, .boolean)] ul_N0 sz (ul_wM cI cZ aM M d))) (va_Qi (fun v (_ : Unit) => v = r) (fun _ => ul_post (dC, dI) [(cI, .int), (cZ, .boolean)] (va_A (ul_wM cI cZ aM M d) sz) (ul_wM cI cZ aM M d)) (va_A (ul_wM cI cZ aM M d) sz)) 0 0 (va_A (ul_wM cI cZ aM M d) sz) := by
  refine Met.ofW (cc := cX7_onWay) (maxL := 6) (ret := (some .int)) (by decide) rfl ?_
  intro p e s m args below meth c s₁ B hml hv
  obtain ⟨rfl, hsz, hP, hK, hD0, hN⟩ := hv
  have hx := B.exec
  have hb := B.bytes
  have hr := B.returns
  have hts := atoms_spec (ws := wsX7_onWay) B.pre
  have hown : s.vm.findClass RX7 = some m.cls := findClass_of_methodNamed B.named
  have hlocks := B.notSynchronized
  have hin7 : ∀ w ∈ u_ws RX7 TX7 26, w ∈ wsX7_onWay := by decide +kernel
  subst hsz
  have hD := hD0.self (sz := s.heap.size)
  generalize hAe : va_A (ul_wM cI cZ aM M d) s.heap.size = A at hD ⊢
  have hA : ∀ q : Nat, s.heap.size ≤ q → A q := fun q h => by rw [← hAe]; exact Or.inr h
  have hS : va_S A s.heap s.heap [] := va_S.rf
  have hl := lv_entry ([.ref (aM 0), .int p1]) (n := 6) (Nat.le_of_ble_eq_true rfl)
  rw [lg_entry_eq]
  generalize (lg_sl ([.ref (aM 0), .int p1]) ++ List.replicate (6 - (lg_sl ([.ref (aM 0), .int p1])).length) Slot.unset).toArray = ls at hl ⊢
  have hl : lv_has ls 6 [(0, .ref (aM 0)), (1, .int p1)] := hl
  obtain ⟨K0, hK0, h⟩ := ul_top h
  unfold f_X7_onWay at h
  refine ul_gen (fun G gi ge => ?_)
  obtain ⟨H, eH⟩ : ∃ z, z = s.heap := ⟨_, rfl⟩
  obtain ⟨locs, eL⟩ : ∃ z : List Loc, z = [] := ⟨_, rfl⟩
  have hP : va_P (dC, dI) classes (ul_wM cI cZ aM M d) H := by rw [eH]; exact hP
  have hS : va_S A s.heap H locs := by rw [eH, eL]; exact hS
  rw [← eL]
  refine (show G H locs (F0 m 0 ls []) → G s.heap locs (F0 m 0 ls []) from fun z => by rw [← eH]; exact z) ?_
  have J69 : ∀ (x2 : Int32) (x3 : Int32) (x4 : Int32) (H : Heap) (locs : List Loc), ul_H (dC, dI) A s.heap (ul_wM cI cZ aM M d) H locs → ∀ ls : Array Slot, lv_has ls 6 [(0, .ref (aM 0)), (1, .int p1), (2, .int x2), (3, .int x3), (4, .int x4)] → (f_X7_onWay_j69 M p1 x2 x3 x4).bind K0 = some r → G H locs (F0 m 69 ls []) := by
    intro x2 x3 x4 H locs hw ls hl h
    obtain ⟨hP, hD, hS⟩ := hw
    unfold f_X7_onWay_j69 at h
    refine gi _ _ _ ?_
    refine lv_iload_n hx hb dX7_onWay_69 rfl (lv_at hl 2 rfl) ?_
    have hr9 := hK0 x2 h
    subst hr9
    exact W.iret (v := x2) hx hb hr (fun t ht hW => ⟨⟨x2, (), rfl, rfl, by rw [ht]; exact hP, va_K.moved hW.alike hK, hD⟩, hS.F ht⟩) hS.2.2 dX7_onWay_70
  refine gi _ _ _ ?_
  refine lv_iconst (v := 0) hx hb dX7_onWay_0 (by decide) ?_
  refine lv_istore_n (lv' := [(2, .int (0 : Int32)), (0, .ref (aM 0)), (1, .int p1)]) hx hb dX7_onWay_1 rfl hl (by decide) rfl (fun ls hl => ?_)
  refine lv_aload_n hx hb dX7_onWay_2 rfl (lv_at hl 1 rfl) ?_
  refine va_get (D := (dC, dI)) (ci := 7) (v := .ref (aM 6)) (C := RX7) (T := TX7) (N := 26) hx hb hts hin7 hown hK hP 0 rfl rfl 7 (by decide) (hts (.fieldLink RX7 25 "UnderLaddersModel" "now" "[I") (by decide +kernel)) (fun _ h9 => h9) rfl dX7_onWay_3 ?_
  refine lv_bipush (v := 12) hx hb dX7_onWay_6 (by decide) ?_
  refine lv_iload_n hx hb dX7_onWay_8 rfl (lv_at hl 2 rfl) ?_
  refine lv_iadd hx hb dX7_onWay_9 ?_
  obtain ⟨hi2, h⟩ := ul_ld_h h
  refine va_iald hx hb hK hP 6 0 rfl rfl hi2 dX7_onWay_10 ?_
  refine lv_topi (fun v1 ev1 => ?_)
  have h := h v1 ev1
  refine lv_istore_n (lv' := [(3, .int v1), (2, .int (0 : Int32)), (0, .ref (aM 0)), (1, .int p1)]) hx hb dX7_onWay_11 rfl hl (by decide) rfl (fun ls hl => ?_)
  refine lv_aload_n hx hb dX7_onWay_12 rfl (lv_at hl 2 rfl) ?_
  refine lv_iconst (v := 0) hx hb dX7_onWay_13 (by decide) ?_
  refine lv_iload_n hx hb dX7_onWay_14 rfl (lv_at hl 3 rfl) ?_
  obtain ⟨u3, hu3, h⟩ := ul_cl_h h
  refine ul_cVi (As := [.int (0 : Int32), .int p1]) (rest := []) (wc' := (ul_wM cI cZ aM M d)) (wr := []) hP hD hS hK hA [0, 1, 2, 3, 4, 5, 6, 7, 8, 9, 10, 11, 12, 13, 14] [] [0, 1] ul_N0_ok trivial (c_X7_goalOf l dC dI cI cZ aM H.size M d (0 : Int32) p1 u3 hu3) rfl rfl (by decide) rfl (by decide) (by decide) rfl ⟨hx, hb, hml, hown, hts⟩ (cwV 2 hts gX7_onWay_X7_goalOf rfl rfl rfl (by decide +kernel) ⟨Nat.le_of_ble_eq_true rfl, Nat.le_of_ble_eq_true rfl⟩) (va_recv hK hP (ci := 7) (q0 := 0) rfl rfl) rfl hl.1 rfl (Nat.le_of_ble_eq_true rfl) dX7_onWay_15 (fun H locs hw => ?_)
  obtain ⟨hP, hD, hS⟩ := hw
  have hP : va_P (dC, dI) classes (ul_wM cI cZ aM M d) H := hP
  have hD : va_D A (ul_wM cI cZ aM M d) := hD
  refine lv_istore (lv' := [(4, .int u3), (3, .int v1), (2, .int (0 : Int32)), (0, .ref (aM 0)), (1, .int p1)]) hx hb dX7_onWay_18 hl (by decide) rfl (fun ls hl => ?_)
  refine ge _ _ _ (ul_loop (P := fun q20 => ∀ (H : Heap) (locs : List Loc), ul_H (dC, dI) A s.heap (ul_wM cI cZ aM M d) H locs → ∀ ls : Array Slot, lv_has ls 6 [(0, .ref (aM 0)), (1, .int p1), (2, .int q20.1), (3, .int q20.2), (4, .int u3)] → G H locs (F0 m 20 ls [])) ?_ _ _ (ul_it_h h) H locs ⟨hP, hD, hS⟩ ls (lv_sub hl [3, 4, 2, 1, 0] rfl))
  intro K20 hx20
  intro q20 ih20 h H locs hw ls hl
  have J64 : ∀ (x2 : Int32) (x3 : Int32) (x5 : Int32) (t0 : Int32) (t1 : Int32) (H : Heap) (locs : List Loc), ul_H (dC, dI) A s.heap (ul_wM cI cZ aM M d) H locs → ∀ ls : Array Slot, lv_has ls 6 [(0, .ref (aM 0)), (1, .int p1), (2, .int x2), (3, .int x3), (4, .int u3), (5, .int x5)] → (f_X7_onWay_j64 M p1 x2 x3 u3 x5 t0 t1).bind K20 = some r → G H locs (F0 m 64 ls [.int t1, .int t0]) := by
    intro x2 x3 x5 t0 t1 H locs hw ls hl h
    obtain ⟨hP, hD, hS⟩ := hw
    unfold f_X7_onWay_j64 at h
    refine gi _ _ _ ?_
    refine lv_ior hx hb dX7_onWay_64 ?_
    refine lv_topi (fun v5 ev5 => ?_)
    have h := ul_bd_h h v5 ev5
    refine lv_istore_n (lv' := [(2, .int v5), (0, .ref (aM 0)), (1, .int p1), (3, .int x3), (4, .int u3), (5, .int x5)]) hx hb dX7_onWay_65 rfl hl (by decide) rfl (fun ls hl => ?_)
    refine lv_goto (tgt := 20) hx hb dX7_onWay_66 (by decide) ?_
    exact ge _ _ _ (ih20 (v5, x3) h H locs ⟨hP, hD, hS⟩ ls (lv_sub hl [1, 2, 0, 3, 4] rfl))
  have J38 : ∀ (x2 : Int32) (x3 : Int32) (t0 : Int32) (t1 : Int32) (H : Heap) (locs : List Loc), ul_H (dC, dI) A s.heap (ul_wM cI cZ aM M d) H locs → ∀ ls : Array Slot, lv_has ls 6 [(0, .ref (aM 0)), (1, .int p1), (2, .int x2), (3, .int x3), (4, .int u3)] → (f_X7_onWay_j38 M p1 x2 x3 u3 t0 t1).bind K20 = some r → G H locs (F0 m 38 ls [.int t1, .int t0]) := by
    intro x2 x3 t0 t1 H locs hw ls hl h
    obtain ⟨hP, hD, hS⟩ := hw
    unfold f_X7_onWay_j38 at h
    refine gi _ _ _ ?_
    refine lv_iadd hx hb dX7_onWay_38 ?_
    refine lv_topi (fun v9 ev9 => ?_)
    have h := ul_bd_h h v9 ev9
    refine lv_istore_n (lv' := [(3, .int v9), (0, .ref (aM 0)), (1, .int p1), (2, .int x2), (4, .int u3)]) hx hb dX7_onWay_39 rfl hl (by decide) rfl (fun ls hl => ?_)
    refine lv_aload_n hx hb dX7_onWay_40 rfl (lv_at hl 1 rfl) ?_
    refine lv_iconst (v := 0) hx hb dX7_onWay_41 (by decide) ?_
    refine lv_iload_n hx hb dX7_onWay_42 rfl (lv_at hl 0 rfl) ?_
    obtain ⟨u10, hu10, h⟩ := ul_cl_h h
    refine ul_cVi (As := [.int (0 : Int32), .int v9]) (rest := []) (wc' := (ul_wM cI cZ aM M d)) (wr := []) hP hD hS hK hA [0, 1, 2, 3, 4, 5, 6, 7, 8, 9, 10, 11, 12, 13, 14] [] [0, 1] ul_N0_ok trivial (c_X7_ladderAt l dC dI cI cZ aM H.size M d (0 : Int32) v9 u10 hu10) rfl rfl (by decide) rfl (by decide) (by decide) rfl ⟨hx, hb, hml, hown, hts⟩ (cwV 2 hts gX7_onWay_X7_ladderAt rfl rfl rfl (by decide +kernel) ⟨Nat.le_of_ble_eq_true rfl, Nat.le_of_ble_eq_true rfl⟩) (va_recv hK hP (ci := 7) (q0 := 0) rfl rfl) rfl hl.1 rfl (Nat.le_of_ble_eq_true rfl) dX7_onWay_43 (fun H locs hw => ?_)
    obtain ⟨hP, hD, hS⟩ := hw
    have hP : va_P (dC, dI) classes (ul_wM cI cZ aM M d) H := hP
    have hD : va_D A (ul_wM cI cZ aM M d) := hD
    refine lv_istore (lv' := [(5, .int u10), (3, .int v9), (0, .ref (aM 0)), (1, .int p1), (2, .int x2), (4, .int u3)]) hx hb dX7_onWay_46 hl (by decide) rfl (fun ls hl => ?_)
    refine lv_iload_n hx hb dX7_onWay_48 rfl (lv_at hl 4 rfl) ?_
    refine lv_iload hx hb dX7_onWay_49 (lv_at hl 0 rfl) ?_
    refine lv_bipush (v := -9) hx hb dX7_onWay_51 (by decide) ?_
    refine lv_icmp_ne (tgt := 60) hx hb dX7_onWay_53 (by decide) (fun hc11 => ?_) (fun hc11 => ?_)
    · have h := ul_if_f hc11 h
      refine lv_iconst (v := 1) hx hb dX7_onWay_60 (by decide) ?_
      refine lv_iload hx hb dX7_onWay_61 (lv_at hl 0 rfl) ?_
      refine lv_ishl hx hb dX7_onWay_63 ?_
      exact ge _ _ _ (J64 x2 v9 u10 x2 ((1 : Int32) <<< (u10 &&& 31)) H locs ⟨hP, hD, hS⟩ ls (lv_sub hl [2, 3, 4, 1, 5, 0] rfl) h)
    · have h := ul_if_t hc11 h
      refine lv_iconst (v := 0) hx hb dX7_onWay_56 (by decide) ?_
      refine lv_goto (tgt := 64) hx hb dX7_onWay_57 (by decide) ?_
      exact ge _ _ _ (J64 x2 v9 u10 x2 (0 : Int32) H locs ⟨hP, hD, hS⟩ ls (lv_sub hl [2, 3, 4, 1, 5, 0] rfl) h)
  obtain ⟨hP, hD, hS⟩ := hw
  unfold f_X7_onWay_L20 at h
  refine gi _ _ _ ?_
  refine lv_iload_n hx hb dX7_onWay_20 rfl (lv_at hl 3 rfl) ?_
  refine lv_iload hx hb dX7_onWay_21 (lv_at hl 4 rfl) ?_
  refine lv_icmp_eq (tgt := 69) hx hb dX7_onWay_23 (by decide) (fun hc14 => ?_) (fun hc14 => ?_)
  · have h := ul_if_t hc14 h
    exact ge _ _ _ (J69 q20.1 q20.2 u3 H locs ⟨hP, hD, hS⟩ ls (lv_sub hl [0, 1, 2, 3, 4] rfl) (hx20 (q20.1, q20.2) h))
  · have h := ul_if_f hc14 h
    refine lv_iload_n hx hb dX7_onWay_26 rfl (lv_at hl 3 rfl) ?_
    refine lv_iload_n hx hb dX7_onWay_27 rfl (lv_at hl 3 rfl) ?_
    refine lv_iload hx hb dX7_onWay_28 (lv_at hl 4 rfl) ?_
    refine lv_icmp_ge (tgt := 37) hx hb dX7_onWay_30 (by decide) (fun hc15 => ?_) (fun hc15 => ?_)
    · have h := ul_if_t hc15 h
      refine lv_iconst (v := -1) hx hb dX7_onWay_37 (by decide) ?_
      exact ge _ _ _ (J38 q20.1 q20.2 q20.2 (-1 : Int32) H locs ⟨hP, hD, hS⟩ ls (lv_sub hl [0, 1, 2, 3, 4] rfl) h)
    · have h := ul_if_f hc15 h
      refine lv_iconst (v := 1) hx hb dX7_onWay_33 (by decide) ?_
      refine lv_goto (tgt := 38) hx hb dX7_onWay_34 (by decide) ?_
      exact ge _ _ _ (J38 q20.1 q20.2 q20.2 (1 : Int32) H locs ⟨hP, hD, hS⟩ ls (lv_sub hl [0, 1, 2, 3, 4] rfl) h)
def f_X7_ladder (M : ul_S) (p1 : Int32) (p2 : Int32) : Option Int32 :=
  (f_X7_isLadder M p1).bind fun u1 => if u1 = 0 then (some (-1 : Int32)) else (if p2 = 0 then (ul_ld (M 6) 46 p1 fun v4 => some v4) else (if p2 = 1 then (ul_ld (M 1) 4 p1 fun v7 => some v7) else (if p2 = 2 then (ul_ld (M 2) 4 p1 fun v10 => some v10) else (if p2 = 3 then (ul_ld (M 6) 46 ((4 : Int32) + p1) fun v13 => some v13) else (if p2 = 4 then (ul_ld (M 6) 46 ((8 : Int32) + p1) fun v16 => some v16) else (some (-2 : Int32)))))))
set_option maxHeartbeats 4000000 in
set_option maxRecDepth 100000 in
theorem c_X7_ladder (l : Launch) (dC : Nat → ClassId) (dI : Nat → Nat → Nat) (cI : ClassId) (cZ : ClassId) (aM : Nat → Nat) (sz : Nat) (M : ul_S) (d : Int64) (p1 : Int32) (p2 : Int32) (r : Int32) (h : f_X7_ladder M p1 p2 = some r) : Met l yX7_ladder wsX7_ladder ({ frames := 2, cells := 0, slots := 0, locals := 46 }) (va_Pc [.ref (aM 0), .int p1, .int p2] (ul_pre (dC, dI) [(cI, .int), (cZ, .boolean)] ul_N0 sz (ul_wM cI cZ aM M d))) (va_Qi (fun v (_ : Unit) => v = r) (fun _ => ul_post (dC, dI) [(cI, .int), (cZ, .boolean)] (va_A (ul_wM cI cZ aM M d) sz) (ul_wM cI cZ aM M d)) (va_A (ul_wM cI cZ aM M d) sz)) 0 0 (va_A (ul_wM cI cZ aM M d) sz) := by
  refine Met.ofW (cc := cX7_ladder) (maxL := 3) (ret := (some .int)) (by decide) rfl ?_
  intro p e s m args below meth c s₁ B hml hv
  obtain ⟨rfl, hsz, hP, hK, hD0, hN⟩ := hv
  have hx := B.exec
  have hb := B.bytes
  have hr := B.returns
  have hts := atoms_spec (ws := wsX7_ladder) B.pre
  have hown : s.vm.findClass RX7 = some m.cls := findClass_of_methodNamed B.named
  have hlocks := B.notSynchronized
  have hin7 : ∀ w ∈ u_ws RX7 TX7 26, w ∈ wsX7_ladder := by decide +kernel
  subst hsz
  have hD := hD0.self (sz := s.heap.size)
  generalize hAe : va_A (ul_wM cI cZ aM M d) s.heap.size = A at hD ⊢
  have hA : ∀ q : Nat, s.heap.size ≤ q → A q := fun q h => by rw [← hAe]; exact Or.inr h
  have hS : va_S A s.heap s.heap [] := va_S.rf
  have hl := lv_entry ([.ref (aM 0), .int p1, .int p2]) (n := 3) (Nat.le_of_ble_eq_true rfl)
  rw [lg_entry_eq]
  generalize (lg_sl ([.ref (aM 0), .int p1, .int p2]) ++ List.replicate (3 - (lg_sl ([.ref (aM 0), .int p1, .int p2])).length) Slot.unset).toArray = ls at hl ⊢
  have hl : lv_has ls 3 [(0, .ref (aM 0)), (1, .int p1), (2, .int p2)] := hl
  obtain ⟨K0, hK0, h⟩ := ul_top h
  unfold f_X7_ladder at h
  refine ul_gen (fun G gi ge => ?_)
  obtain ⟨H, eH⟩ : ∃ z, z = s.heap := ⟨_, rfl⟩
  obtain ⟨locs, eL⟩ : ∃ z : List Loc, z = [] := ⟨_, rfl⟩
  have hP : va_P (dC, dI) classes (ul_wM cI cZ aM M d) H := by rw [eH]; exact hP
  have hS : va_S A s.heap H locs := by rw [eH, eL]; exact hS
  rw [← eL]
  refine (show G H locs (F0 m 0 ls []) → G s.heap locs (F0 m 0 ls []) from fun z => by rw [← eH]; exact z) ?_
  refine gi _ _ _ ?_
  refine lv_aload_n hx hb dX7_ladder_0 rfl (lv_at hl 0 rfl) ?_
  refine lv_iload_n hx hb dX7_ladder_1 rfl (lv_at hl 1 rfl) ?_
  obtain ⟨u1, hu1, h⟩ := ul_cl_h h
  refine ul_cVi (As := [.int p1]) (rest := []) (wc' := (ul_wM cI cZ aM M d)) (wr := []) hP hD hS hK hA [0, 1, 2, 3, 4, 5, 6, 7, 8, 9, 10, 11, 12, 13, 14] [] [0, 1] ul_N0_ok trivial (c_X7_isLadder l dC dI cI cZ aM H.size M d p1 u1 hu1) rfl rfl (by decide) rfl (by decide) (by decide) rfl ⟨hx, hb, hml, hown, hts⟩ (cwV 1 hts gX7_ladder_X7_isLadder rfl rfl rfl (by decide +kernel) ⟨Nat.le_of_ble_eq_true rfl, Nat.le_of_ble_eq_true rfl⟩) (va_recv hK hP (ci := 7) (q0 := 0) rfl rfl) rfl hl.1 rfl (Nat.le_of_ble_eq_true rfl) dX7_ladder_2 (fun H locs hw => ?_)
  obtain ⟨hP, hD, hS⟩ := hw
  have hP : va_P (dC, dI) classes (ul_wM cI cZ aM M d) H := hP
  have hD : va_D A (ul_wM cI cZ aM M d) := hD
  refine lv_if_ne (tgt := 10) hx hb dX7_ladder_5 (by decide) (fun hc2 => ?_) (fun hc2 => ?_)
  · have h := ul_if_f hc2 h
    refine lv_iload_n hx hb dX7_ladder_10 rfl (lv_at hl 2 rfl) ?_
    by_cases hc3 : p2 = 0
    · have h := ul_if_t hc3 h
      refine lv_tableIn (off := 33) (tgt := 44) hx hb dX7_ladder_11 (by rw [hc3]; decide) (by rw [hc3]; decide) (by rw [hc3]; decide) (by decide) ?_
      refine lv_aload_n hx hb dX7_ladder_44 rfl (lv_at hl 0 rfl) ?_
      refine va_get (D := (dC, dI)) (ci := 7) (v := .ref (aM 6)) (C := RX7) (T := TX7) (N := 26) hx hb hts hin7 hown hK hP 0 rfl rfl 7 (by decide) (hts (.fieldLink RX7 25 "UnderLaddersModel" "now" "[I") (by decide +kernel)) (fun _ h9 => h9) rfl dX7_ladder_45 ?_
      refine lv_iload_n hx hb dX7_ladder_48 rfl (lv_at hl 1 rfl) ?_
      obtain ⟨hi5, h⟩ := ul_ld_h h
      refine va_iald hx hb hK hP 6 0 rfl rfl hi5 dX7_ladder_49 ?_
      refine lv_topi (fun v4 ev4 => ?_)
      have h := h v4 ev4
      have hr9 := hK0 v4 h
      subst hr9
      exact W.iret (v := v4) hx hb hr (fun t ht hW => ⟨⟨v4, (), rfl, rfl, by rw [ht]; exact hP, va_K.moved hW.alike hK, hD⟩, hS.F ht⟩) hS.2.2 dX7_ladder_50
    · have h := ul_if_f hc3 h
      by_cases hc6 : p2 = 1
      · have h := ul_if_t hc6 h
        refine lv_tableIn (off := 40) (tgt := 51) hx hb dX7_ladder_11 (by rw [hc6]; decide) (by rw [hc6]; decide) (by rw [hc6]; decide) (by decide) ?_
        refine lv_aload_n hx hb dX7_ladder_51 rfl (lv_at hl 0 rfl) ?_
        refine va_get (D := (dC, dI)) (ci := 7) (v := .ref (aM 1)) (C := RX7) (T := TX7) (N := 26) hx hb hts hin7 hown hK hP 0 rfl rfl 2 (by decide) (hts (.fieldLink RX7 7 "UnderLaddersModel" "toll" "[I") (by decide +kernel)) (fun _ h9 => h9) rfl dX7_ladder_52 ?_
        refine lv_iload_n hx hb dX7_ladder_55 rfl (lv_at hl 1 rfl) ?_
        obtain ⟨hi8, h⟩ := ul_ld_h h
        refine va_iald hx hb hK hP 1 0 rfl rfl hi8 dX7_ladder_56 ?_
        refine lv_topi (fun v7 ev7 => ?_)
        have h := h v7 ev7
        have hr9 := hK0 v7 h
        subst hr9
        exact W.iret (v := v7) hx hb hr (fun t ht hW => ⟨⟨v7, (), rfl, rfl, by rw [ht]; exact hP, va_K.moved hW.alike hK, hD⟩, hS.F ht⟩) hS.2.2 dX7_ladder_57
      · have h := ul_if_f hc6 h
        by_cases hc9 : p2 = 2
        · have h := ul_if_t hc9 h
          refine lv_tableIn (off := 47) (tgt := 58) hx hb dX7_ladder_11 (by rw [hc9]; decide) (by rw [hc9]; decide) (by rw [hc9]; decide) (by decide) ?_
          refine lv_aload_n hx hb dX7_ladder_58 rfl (lv_at hl 0 rfl) ?_
          refine va_get (D := (dC, dI)) (ci := 7) (v := .ref (aM 2)) (C := RX7) (T := TX7) (N := 26) hx hb hts hin7 hown hK hP 0 rfl rfl 3 (by decide) (hts (.fieldLink RX7 13 "UnderLaddersModel" "ladderKind" "[I") (by decide +kernel)) (fun _ h9 => h9) rfl dX7_ladder_59 ?_
          refine lv_iload_n hx hb dX7_ladder_62 rfl (lv_at hl 1 rfl) ?_
          obtain ⟨hi11, h⟩ := ul_ld_h h
          refine va_iald hx hb hK hP 2 0 rfl rfl hi11 dX7_ladder_63 ?_
          refine lv_topi (fun v10 ev10 => ?_)
          have h := h v10 ev10
          have hr9 := hK0 v10 h
          subst hr9
          exact W.iret (v := v10) hx hb hr (fun t ht hW => ⟨⟨v10, (), rfl, rfl, by rw [ht]; exact hP, va_K.moved hW.alike hK, hD⟩, hS.F ht⟩) hS.2.2 dX7_ladder_64
        · have h := ul_if_f hc9 h
          by_cases hc12 : p2 = 3
          · have h := ul_if_t hc12 h
            refine lv_tableIn (off := 54) (tgt := 65) hx hb dX7_ladder_11 (by rw [hc12]; decide) (by rw [hc12]; decide) (by rw [hc12]; decide) (by decide) ?_
            refine lv_aload_n hx hb dX7_ladder_65 rfl (lv_at hl 0 rfl) ?_
            refine va_get (D := (dC, dI)) (ci := 7) (v := .ref (aM 6)) (C := RX7) (T := TX7) (N := 26) hx hb hts hin7 hown hK hP 0 rfl rfl 7 (by decide) (hts (.fieldLink RX7 25 "UnderLaddersModel" "now" "[I") (by decide +kernel)) (fun _ h9 => h9) rfl dX7_ladder_66 ?_
            refine lv_iconst (v := 4) hx hb dX7_ladder_69 (by decide) ?_
            refine lv_iload_n hx hb dX7_ladder_70 rfl (lv_at hl 1 rfl) ?_
            refine lv_iadd hx hb dX7_ladder_71 ?_
            obtain ⟨hi14, h⟩ := ul_ld_h h
            refine va_iald hx hb hK hP 6 0 rfl rfl hi14 dX7_ladder_72 ?_
            refine lv_topi (fun v13 ev13 => ?_)
            have h := h v13 ev13
            have hr9 := hK0 v13 h
            subst hr9
            exact W.iret (v := v13) hx hb hr (fun t ht hW => ⟨⟨v13, (), rfl, rfl, by rw [ht]; exact hP, va_K.moved hW.alike hK, hD⟩, hS.F ht⟩) hS.2.2 dX7_ladder_73
          · have h := ul_if_f hc12 h
            by_cases hc15 : p2 = 4
            · have h := ul_if_t hc15 h
              refine lv_tableIn (off := 63) (tgt := 74) hx hb dX7_ladder_11 (by rw [hc15]; decide) (by rw [hc15]; decide) (by rw [hc15]; decide) (by decide) ?_
              refine lv_aload_n hx hb dX7_ladder_74 rfl (lv_at hl 0 rfl) ?_
              refine va_get (D := (dC, dI)) (ci := 7) (v := .ref (aM 6)) (C := RX7) (T := TX7) (N := 26) hx hb hts hin7 hown hK hP 0 rfl rfl 7 (by decide) (hts (.fieldLink RX7 25 "UnderLaddersModel" "now" "[I") (by decide +kernel)) (fun _ h9 => h9) rfl dX7_ladder_75 ?_
              refine lv_bipush (v := 8) hx hb dX7_ladder_78 (by decide) ?_
              refine lv_iload_n hx hb dX7_ladder_80 rfl (lv_at hl 1 rfl) ?_
              refine lv_iadd hx hb dX7_ladder_81 ?_
              obtain ⟨hi17, h⟩ := ul_ld_h h
              refine va_iald hx hb hK hP 6 0 rfl rfl hi17 dX7_ladder_82 ?_
              refine lv_topi (fun v16 ev16 => ?_)
              have h := h v16 ev16
              have hr9 := hK0 v16 h
              subst hr9
              exact W.iret (v := v16) hx hb hr (fun t ht hW => ⟨⟨v16, (), rfl, rfl, by rw [ht]; exact hP, va_K.moved hW.alike hK, hD⟩, hS.F ht⟩) hS.2.2 dX7_ladder_83
            · have h := ul_if_f hc15 h
              refine lv_tableOut (tgt := 84) hx hb dX7_ladder_11 (by have z0 := lv_neT (a := 0) hc3 (by decide); have z1 := lv_neT (a := 1) hc6 (by decide); have z2 := lv_neT (a := 2) hc9 (by decide); have z3 := lv_neT (a := 3) hc12 (by decide); have z4 := lv_neT (a := 4) hc15 (by decide); omega) (by decide) ?_
              refine lv_bipush (v := -2) hx hb dX7_ladder_84 (by decide) ?_
              have hr9 := hK0 (-2 : Int32) h
              subst hr9
              exact W.iret (v := (-2 : Int32)) hx hb hr (fun t ht hW => ⟨⟨(-2 : Int32), (), rfl, rfl, by rw [ht]; exact hP, va_K.moved hW.alike hK, hD⟩, hS.F ht⟩) hS.2.2 dX7_ladder_86
  · have h := ul_if_t hc2 h
    refine lv_iconst (v := -1) hx hb dX7_ladder_8 (by decide) ?_
    have hr9 := hK0 (-1 : Int32) h
    subst hr9
    exact W.iret (v := (-1 : Int32)) hx hb hr (fun t ht hW => ⟨⟨(-1 : Int32), (), rfl, rfl, by rw [ht]; exact hP, va_K.moved hW.alike hK, hD⟩, hS.F ht⟩) hS.2.2 dX7_ladder_9
def f_X7_person (M : ul_S) (p1 : Int32) (p2 : Int32) : Option Int32 :=
  (f_X7_isPerson M p1).bind fun u1 => if u1 = 0 then (some (-1 : Int32)) else (if p2 = 0 then (ul_ld (M 3) 5 p1 fun v4 => some v4) else (if p2 = 1 then (ul_ld (M 4) 5 p1 fun v7 => some v7) else (if p2 = 2 then (ul_ld (M 5) 5 p1 fun v10 => some v10) else (if p2 = 3 then (ul_ld (M 6) 46 ((12 : Int32) + p1) fun v13 => some v13) else (if p2 = 4 then (ul_ld (M 6) 46 ((17 : Int32) + p1) fun v16 => some v16) else (if p2 = 5 then ((f_X7_onWay M p1).bind fun u19 => some u19) else (some (-2 : Int32))))))))
set_option maxHeartbeats 4000000 in
set_option maxRecDepth 100000 in
theorem c_X7_person (l : Launch) (dC : Nat → ClassId) (dI : Nat → Nat → Nat) (cI : ClassId) (cZ : ClassId) (aM : Nat → Nat) (sz : Nat) (M : ul_S) (d : Int64) (p1 : Int32) (p2 : Int32) (r : Int32) (h : f_X7_person M p1 p2 = some r) : Met l yX7_person wsX7_person ({ frames := 2, cells := 0, slots := 0, locals := 48 }) (va_Pc [.ref (aM 0), .int p1, .int p2] (ul_pre (dC, dI) [(cI, .int), (cZ, .boolean)] ul_N0 sz (ul_wM cI cZ aM M d))) (va_Qi (fun v (_ : Unit) => v = r) (fun _ => ul_post (dC, dI) [(cI, .int), (cZ, .boolean)] (va_A (ul_wM cI cZ aM M d) sz) (ul_wM cI cZ aM M d)) (va_A (ul_wM cI cZ aM M d) sz)) 0 0 (va_A (ul_wM cI cZ aM M d) sz) := by
  refine Met.ofW (cc := cX7_person) (maxL := 3) (ret := (some .int)) (by decide) rfl ?_
  intro p e s m args below meth c s₁ B hml hv
  obtain ⟨rfl, hsz, hP, hK, hD0, hN⟩ := hv
  have hx := B.exec
  have hb := B.bytes
  have hr := B.returns
  have hts := atoms_spec (ws := wsX7_person) B.pre
  have hown : s.vm.findClass RX7 = some m.cls := findClass_of_methodNamed B.named
  have hlocks := B.notSynchronized
  have hin7 : ∀ w ∈ u_ws RX7 TX7 26, w ∈ wsX7_person := by decide +kernel
  subst hsz
  have hD := hD0.self (sz := s.heap.size)
  generalize hAe : va_A (ul_wM cI cZ aM M d) s.heap.size = A at hD ⊢
  have hA : ∀ q : Nat, s.heap.size ≤ q → A q := fun q h => by rw [← hAe]; exact Or.inr h
  have hS : va_S A s.heap s.heap [] := va_S.rf
  have hl := lv_entry ([.ref (aM 0), .int p1, .int p2]) (n := 3) (Nat.le_of_ble_eq_true rfl)
  rw [lg_entry_eq]
  generalize (lg_sl ([.ref (aM 0), .int p1, .int p2]) ++ List.replicate (3 - (lg_sl ([.ref (aM 0), .int p1, .int p2])).length) Slot.unset).toArray = ls at hl ⊢
  have hl : lv_has ls 3 [(0, .ref (aM 0)), (1, .int p1), (2, .int p2)] := hl
  obtain ⟨K0, hK0, h⟩ := ul_top h
  unfold f_X7_person at h
  refine ul_gen (fun G gi ge => ?_)
  obtain ⟨H, eH⟩ : ∃ z, z = s.heap := ⟨_, rfl⟩
  obtain ⟨locs, eL⟩ : ∃ z : List Loc, z = [] := ⟨_, rfl⟩
  have hP : va_P (dC, dI) classes (ul_wM cI cZ aM M d) H := by rw [eH]; exact hP
  have hS : va_S A s.heap H locs := by rw [eH, eL]; exact hS
  rw [← eL]
  refine (show G H locs (F0 m 0 ls []) → G s.heap locs (F0 m 0 ls []) from fun z => by rw [← eH]; exact z) ?_
  refine gi _ _ _ ?_
  refine lv_aload_n hx hb dX7_person_0 rfl (lv_at hl 0 rfl) ?_
  refine lv_iload_n hx hb dX7_person_1 rfl (lv_at hl 1 rfl) ?_
  obtain ⟨u1, hu1, h⟩ := ul_cl_h h
  refine ul_cVi (As := [.int p1]) (rest := []) (wc' := (ul_wM cI cZ aM M d)) (wr := []) hP hD hS hK hA [0, 1, 2, 3, 4, 5, 6, 7, 8, 9, 10, 11, 12, 13, 14] [] [0, 1] ul_N0_ok trivial (c_X7_isPerson l dC dI cI cZ aM H.size M d p1 u1 hu1) rfl rfl (by decide) rfl (by decide) (by decide) rfl ⟨hx, hb, hml, hown, hts⟩ (cwV 1 hts gX7_person_X7_isPerson rfl rfl rfl (by decide +kernel) ⟨Nat.le_of_ble_eq_true rfl, Nat.le_of_ble_eq_true rfl⟩) (va_recv hK hP (ci := 7) (q0 := 0) rfl rfl) rfl hl.1 rfl (Nat.le_of_ble_eq_true rfl) dX7_person_2 (fun H locs hw => ?_)
  obtain ⟨hP, hD, hS⟩ := hw
  have hP : va_P (dC, dI) classes (ul_wM cI cZ aM M d) H := hP
  have hD : va_D A (ul_wM cI cZ aM M d) := hD
  refine lv_if_ne (tgt := 10) hx hb dX7_person_5 (by decide) (fun hc2 => ?_) (fun hc2 => ?_)
  · have h := ul_if_f hc2 h
    refine lv_iload_n hx hb dX7_person_10 rfl (lv_at hl 2 rfl) ?_
    by_cases hc3 : p2 = 0
    · have h := ul_if_t hc3 h
      refine lv_tableIn (off := 37) (tgt := 48) hx hb dX7_person_11 (by rw [hc3]; decide) (by rw [hc3]; decide) (by rw [hc3]; decide) (by decide) ?_
      refine lv_aload_n hx hb dX7_person_48 rfl (lv_at hl 0 rfl) ?_
      refine va_get (D := (dC, dI)) (ci := 7) (v := .ref (aM 3)) (C := RX7) (T := TX7) (N := 26) hx hb hts hin7 hown hK hP 0 rfl rfl 4 (by decide) (hts (.fieldLink RX7 16 "UnderLaddersModel" "home" "[I") (by decide +kernel)) (fun _ h9 => h9) rfl dX7_person_49 ?_
      refine lv_iload_n hx hb dX7_person_52 rfl (lv_at hl 1 rfl) ?_
      obtain ⟨hi5, h⟩ := ul_ld_h h
      refine va_iald hx hb hK hP 3 0 rfl rfl hi5 dX7_person_53 ?_
      refine lv_topi (fun v4 ev4 => ?_)
      have h := h v4 ev4
      have hr9 := hK0 v4 h
      subst hr9
      exact W.iret (v := v4) hx hb hr (fun t ht hW => ⟨⟨v4, (), rfl, rfl, by rw [ht]; exact hP, va_K.moved hW.alike hK, hD⟩, hS.F ht⟩) hS.2.2 dX7_person_54
    · have h := ul_if_f hc3 h
      by_cases hc6 : p2 = 1
      · have h := ul_if_t hc6 h
        refine lv_tableIn (off := 44) (tgt := 55) hx hb dX7_person_11 (by rw [hc6]; decide) (by rw [hc6]; decide) (by rw [hc6]; decide) (by decide) ?_
        refine lv_aload_n hx hb dX7_person_55 rfl (lv_at hl 0 rfl) ?_
        refine va_get (D := (dC, dI)) (ci := 7) (v := .ref (aM 4)) (C := RX7) (T := TX7) (N := 26) hx hb hts hin7 hown hK hP 0 rfl rfl 5 (by decide) (hts (.fieldLink RX7 19 "UnderLaddersModel" "work" "[I") (by decide +kernel)) (fun _ h9 => h9) rfl dX7_person_56 ?_
        refine lv_iload_n hx hb dX7_person_59 rfl (lv_at hl 1 rfl) ?_
        obtain ⟨hi8, h⟩ := ul_ld_h h
        refine va_iald hx hb hK hP 4 0 rfl rfl hi8 dX7_person_60 ?_
        refine lv_topi (fun v7 ev7 => ?_)
        have h := h v7 ev7
        have hr9 := hK0 v7 h
        subst hr9
        exact W.iret (v := v7) hx hb hr (fun t ht hW => ⟨⟨v7, (), rfl, rfl, by rw [ht]; exact hP, va_K.moved hW.alike hK, hD⟩, hS.F ht⟩) hS.2.2 dX7_person_61
      · have h := ul_if_f hc6 h
        by_cases hc9 : p2 = 2
        · have h := ul_if_t hc9 h
          refine lv_tableIn (off := 51) (tgt := 62) hx hb dX7_person_11 (by rw [hc9]; decide) (by rw [hc9]; decide) (by rw [hc9]; decide) (by decide) ?_
          refine lv_aload_n hx hb dX7_person_62 rfl (lv_at hl 0 rfl) ?_
          refine va_get (D := (dC, dI)) (ci := 7) (v := .ref (aM 5)) (C := RX7) (T := TX7) (N := 26) hx hb hts hin7 hown hK hP 0 rfl rfl 6 (by decide) (hts (.fieldLink RX7 22 "UnderLaddersModel" "kind" "[I") (by decide +kernel)) (fun _ h9 => h9) rfl dX7_person_63 ?_
          refine lv_iload_n hx hb dX7_person_66 rfl (lv_at hl 1 rfl) ?_
          obtain ⟨hi11, h⟩ := ul_ld_h h
          refine va_iald hx hb hK hP 5 0 rfl rfl hi11 dX7_person_67 ?_
          refine lv_topi (fun v10 ev10 => ?_)
          have h := h v10 ev10
          have hr9 := hK0 v10 h
          subst hr9
          exact W.iret (v := v10) hx hb hr (fun t ht hW => ⟨⟨v10, (), rfl, rfl, by rw [ht]; exact hP, va_K.moved hW.alike hK, hD⟩, hS.F ht⟩) hS.2.2 dX7_person_68
        · have h := ul_if_f hc9 h
          by_cases hc12 : p2 = 3
          · have h := ul_if_t hc12 h
            refine lv_tableIn (off := 58) (tgt := 69) hx hb dX7_person_11 (by rw [hc12]; decide) (by rw [hc12]; decide) (by rw [hc12]; decide) (by decide) ?_
            refine lv_aload_n hx hb dX7_person_69 rfl (lv_at hl 0 rfl) ?_
            refine va_get (D := (dC, dI)) (ci := 7) (v := .ref (aM 6)) (C := RX7) (T := TX7) (N := 26) hx hb hts hin7 hown hK hP 0 rfl rfl 7 (by decide) (hts (.fieldLink RX7 25 "UnderLaddersModel" "now" "[I") (by decide +kernel)) (fun _ h9 => h9) rfl dX7_person_70 ?_
            refine lv_bipush (v := 12) hx hb dX7_person_73 (by decide) ?_
            refine lv_iload_n hx hb dX7_person_75 rfl (lv_at hl 1 rfl) ?_
            refine lv_iadd hx hb dX7_person_76 ?_
            obtain ⟨hi14, h⟩ := ul_ld_h h
            refine va_iald hx hb hK hP 6 0 rfl rfl hi14 dX7_person_77 ?_
            refine lv_topi (fun v13 ev13 => ?_)
            have h := h v13 ev13
            have hr9 := hK0 v13 h
            subst hr9
            exact W.iret (v := v13) hx hb hr (fun t ht hW => ⟨⟨v13, (), rfl, rfl, by rw [ht]; exact hP, va_K.moved hW.alike hK, hD⟩, hS.F ht⟩) hS.2.2 dX7_person_78
          · have h := ul_if_f hc12 h
            by_cases hc15 : p2 = 4
            · have h := ul_if_t hc15 h
              refine lv_tableIn (off := 68) (tgt := 79) hx hb dX7_person_11 (by rw [hc15]; decide) (by rw [hc15]; decide) (by rw [hc15]; decide) (by decide) ?_
              refine lv_aload_n hx hb dX7_person_79 rfl (lv_at hl 0 rfl) ?_
              refine va_get (D := (dC, dI)) (ci := 7) (v := .ref (aM 6)) (C := RX7) (T := TX7) (N := 26) hx hb hts hin7 hown hK hP 0 rfl rfl 7 (by decide) (hts (.fieldLink RX7 25 "UnderLaddersModel" "now" "[I") (by decide +kernel)) (fun _ h9 => h9) rfl dX7_person_80 ?_
              refine lv_bipush (v := 17) hx hb dX7_person_83 (by decide) ?_
              refine lv_iload_n hx hb dX7_person_85 rfl (lv_at hl 1 rfl) ?_
              refine lv_iadd hx hb dX7_person_86 ?_
              obtain ⟨hi17, h⟩ := ul_ld_h h
              refine va_iald hx hb hK hP 6 0 rfl rfl hi17 dX7_person_87 ?_
              refine lv_topi (fun v16 ev16 => ?_)
              have h := h v16 ev16
              have hr9 := hK0 v16 h
              subst hr9
              exact W.iret (v := v16) hx hb hr (fun t ht hW => ⟨⟨v16, (), rfl, rfl, by rw [ht]; exact hP, va_K.moved hW.alike hK, hD⟩, hS.F ht⟩) hS.2.2 dX7_person_88
            · have h := ul_if_f hc15 h
              by_cases hc18 : p2 = 5
              · have h := ul_if_t hc18 h
                refine lv_tableIn (off := 78) (tgt := 89) hx hb dX7_person_11 (by rw [hc18]; decide) (by rw [hc18]; decide) (by rw [hc18]; decide) (by decide) ?_
                refine lv_aload_n hx hb dX7_person_89 rfl (lv_at hl 0 rfl) ?_
                refine lv_iload_n hx hb dX7_person_90 rfl (lv_at hl 1 rfl) ?_
                obtain ⟨u19, hu19, h⟩ := ul_cl_h h
                refine ul_cVi (As := [.int p1]) (rest := []) (wc' := (ul_wM cI cZ aM M d)) (wr := []) hP hD hS hK hA [0, 1, 2, 3, 4, 5, 6, 7, 8, 9, 10, 11, 12, 13, 14] [] [0, 1] ul_N0_ok trivial (c_X7_onWay l dC dI cI cZ aM H.size M d p1 u19 hu19) rfl rfl (by decide) rfl (by decide) (by decide) rfl ⟨hx, hb, hml, hown, hts⟩ (cwV 1 hts gX7_person_X7_onWay rfl rfl rfl (by decide +kernel) ⟨Nat.le_of_ble_eq_true rfl, Nat.le_of_ble_eq_true rfl⟩) (va_recv hK hP (ci := 7) (q0 := 0) rfl rfl) rfl hl.1 rfl (Nat.le_of_ble_eq_true rfl) dX7_person_91 (fun H locs hw => ?_)
                obtain ⟨hP, hD, hS⟩ := hw
                have hP : va_P (dC, dI) classes (ul_wM cI cZ aM M d) H := hP
                have hD : va_D A (ul_wM cI cZ aM M d) := hD
                have hr9 := hK0 u19 h
                subst hr9
                exact W.iret (v := u19) hx hb hr (fun t ht hW => ⟨⟨u19, (), rfl, rfl, by rw [ht]; exact hP, va_K.moved hW.alike hK, hD⟩, hS.F ht⟩) hS.2.2 dX7_person_94
              · have h := ul_if_f hc18 h
                refine lv_tableOut (tgt := 95) hx hb dX7_person_11 (by have z0 := lv_neT (a := 0) hc3 (by decide); have z1 := lv_neT (a := 1) hc6 (by decide); have z2 := lv_neT (a := 2) hc9 (by decide); have z3 := lv_neT (a := 3) hc12 (by decide); have z4 := lv_neT (a := 4) hc15 (by decide); have z5 := lv_neT (a := 5) hc18 (by decide); omega) (by decide) ?_
                refine lv_bipush (v := -2) hx hb dX7_person_95 (by decide) ?_
                have hr9 := hK0 (-2 : Int32) h
                subst hr9
                exact W.iret (v := (-2 : Int32)) hx hb hr (fun t ht hW => ⟨⟨(-2 : Int32), (), rfl, rfl, by rw [ht]; exact hP, va_K.moved hW.alike hK, hD⟩, hS.F ht⟩) hS.2.2 dX7_person_97
  · have h := ul_if_t hc2 h
    refine lv_iconst (v := -1) hx hb dX7_person_8 (by decide) ?_
    have hr9 := hK0 (-1 : Int32) h
    subst hr9
    exact W.iret (v := (-1 : Int32)) hx hb hr (fun t ht hW => ⟨⟨(-1 : Int32), (), rfl, rfl, by rw [ht]; exact hP, va_K.moved hW.alike hK, hD⟩, hS.F ht⟩) hS.2.2 dX7_person_9
def f_X7_at (M : ul_S) (p1 : Int32) : Option Int32 :=
  (f_X7_in p1.toInt64 (0 : Int64) (9 : Int64)).bind fun u1 => if u1 = 0 then (some (-1 : Int32)) else ((f_X7_ladderAt M (0 : Int32) p1).bind fun u3 => some u3)
set_option maxHeartbeats 4000000 in
set_option maxRecDepth 100000 in
theorem c_X7_at (l : Launch) (dC : Nat → ClassId) (dI : Nat → Nat → Nat) (cI : ClassId) (cZ : ClassId) (aM : Nat → Nat) (sz : Nat) (M : ul_S) (d : Int64) (p1 : Int32) (r : Int32) (h : f_X7_at M p1 = some r) : Met l yX7_at wsX7_at ({ frames := 1, cells := 0, slots := 0, locals := 25 }) (va_Pc [.ref (aM 0), .int p1] (ul_pre (dC, dI) [(cI, .int), (cZ, .boolean)] ul_N0 sz (ul_wM cI cZ aM M d))) (va_Qi (fun v (_ : Unit) => v = r) (fun _ => ul_post (dC, dI) [(cI, .int), (cZ, .boolean)] (va_A (ul_wM cI cZ aM M d) sz) (ul_wM cI cZ aM M d)) (va_A (ul_wM cI cZ aM M d) sz)) 0 0 (va_A (ul_wM cI cZ aM M d) sz) := by
  refine Met.ofW (cc := cX7_at) (maxL := 2) (ret := (some .int)) (by decide) rfl ?_
  intro p e s m args below meth c s₁ B hml hv
  obtain ⟨rfl, hsz, hP, hK, hD0, hN⟩ := hv
  have hx := B.exec
  have hb := B.bytes
  have hr := B.returns
  have hts := atoms_spec (ws := wsX7_at) B.pre
  have hown : s.vm.findClass RX7 = some m.cls := findClass_of_methodNamed B.named
  have hlocks := B.notSynchronized
  have hin7 : ∀ w ∈ u_ws RX7 TX7 26, w ∈ wsX7_at := by decide +kernel
  subst hsz
  have hD := hD0.self (sz := s.heap.size)
  generalize hAe : va_A (ul_wM cI cZ aM M d) s.heap.size = A at hD ⊢
  have hA : ∀ q : Nat, s.heap.size ≤ q → A q := fun q h => by rw [← hAe]; exact Or.inr h
  have hS : va_S A s.heap s.heap [] := va_S.rf
  have hl := lv_entry ([.ref (aM 0), .int p1]) (n := 2) (Nat.le_of_ble_eq_true rfl)
  rw [lg_entry_eq]
  generalize (lg_sl ([.ref (aM 0), .int p1]) ++ List.replicate (2 - (lg_sl ([.ref (aM 0), .int p1])).length) Slot.unset).toArray = ls at hl ⊢
  have hl : lv_has ls 2 [(0, .ref (aM 0)), (1, .int p1)] := hl
  obtain ⟨K0, hK0, h⟩ := ul_top h
  unfold f_X7_at at h
  refine ul_gen (fun G gi ge => ?_)
  obtain ⟨H, eH⟩ : ∃ z, z = s.heap := ⟨_, rfl⟩
  obtain ⟨locs, eL⟩ : ∃ z : List Loc, z = [] := ⟨_, rfl⟩
  have hP : va_P (dC, dI) classes (ul_wM cI cZ aM M d) H := by rw [eH]; exact hP
  have hS : va_S A s.heap H locs := by rw [eH, eL]; exact hS
  rw [← eL]
  refine (show G H locs (F0 m 0 ls []) → G s.heap locs (F0 m 0 ls []) from fun z => by rw [← eH]; exact z) ?_
  refine gi _ _ _ ?_
  refine lv_iload_n hx hb dX7_at_0 rfl (lv_at hl 1 rfl) ?_
  refine lv_i2l hx hb dX7_at_1 rfl ?_
  refine lv_lconst (v := 0) hx hb dX7_at_2 (by decide) ?_
  refine lv_ldc2 (v := 9) hx hb hown (hts (.constantLong RX7 69 (9)) (by decide +kernel)) dX7_at_3 ?_
  obtain ⟨u1, hu1, h⟩ := ul_cl_h h
  refine ul_cSi (As := [.long p1.toInt64, .long (0 : Int64), .long (9 : Int64)]) (rest := []) hP hD hS hK hA (c_X7_in l dC dI H.size p1.toInt64 (0 : Int64) (9 : Int64) u1 hu1) ⟨hx, hb, hml, hown, hts⟩ (cwS 3 hts gX7_at_X7_in rfl rfl rfl (by decide +kernel) ⟨Nat.le_of_ble_eq_true rfl, Nat.le_of_ble_eq_true rfl⟩) rfl hl.1 rfl (Nat.le_of_ble_eq_true rfl) dX7_at_6 (fun H locs hw => ?_)
  obtain ⟨hP, hD, hS⟩ := hw
  refine lv_if_eq (tgt := 21) hx hb dX7_at_9 (by decide) (fun hc2 => ?_) (fun hc2 => ?_)
  · have h := ul_if_t hc2 h
    refine lv_iconst (v := -1) hx hb dX7_at_21 (by decide) ?_
    have hr9 := hK0 (-1 : Int32) h
    subst hr9
    exact W.iret (v := (-1 : Int32)) hx hb hr (fun t ht hW => ⟨⟨(-1 : Int32), (), rfl, rfl, by rw [ht]; exact hP, va_K.moved hW.alike hK, hD⟩, hS.F ht⟩) hS.2.2 dX7_at_22
  · have h := ul_if_f hc2 h
    refine lv_aload_n hx hb dX7_at_12 rfl (lv_at hl 0 rfl) ?_
    refine lv_iconst (v := 0) hx hb dX7_at_13 (by decide) ?_
    refine lv_iload_n hx hb dX7_at_14 rfl (lv_at hl 1 rfl) ?_
    obtain ⟨u3, hu3, h⟩ := ul_cl_h h
    refine ul_cVi (As := [.int (0 : Int32), .int p1]) (rest := []) (wc' := (ul_wM cI cZ aM M d)) (wr := []) hP hD hS hK hA [0, 1, 2, 3, 4, 5, 6, 7, 8, 9, 10, 11, 12, 13, 14] [] [0, 1] ul_N0_ok trivial (c_X7_ladderAt l dC dI cI cZ aM H.size M d (0 : Int32) p1 u3 hu3) rfl rfl (by decide) rfl (by decide) (by decide) rfl ⟨hx, hb, hml, hown, hts⟩ (cwV 2 hts gX7_at_X7_ladderAt rfl rfl rfl (by decide +kernel) ⟨Nat.le_of_ble_eq_true rfl, Nat.le_of_ble_eq_true rfl⟩) (va_recv hK hP (ci := 7) (q0 := 0) rfl rfl) rfl hl.1 rfl (Nat.le_of_ble_eq_true rfl) dX7_at_15 (fun H locs hw => ?_)
    obtain ⟨hP, hD, hS⟩ := hw
    have hP : va_P (dC, dI) classes (ul_wM cI cZ aM M d) H := hP
    have hD : va_D A (ul_wM cI cZ aM M d) := hD
    refine lv_goto (tgt := 22) hx hb dX7_at_18 (by decide) ?_
    have hr9 := hK0 u3 h
    subst hr9
    exact W.iret (v := u3) hx hb hr (fun t ht hW => ⟨⟨u3, (), rfl, rfl, by rw [ht]; exact hP, va_K.moved hW.alike hK, hD⟩, hS.F ht⟩) hS.2.2 dX7_at_22
def f_X7_keepAct_j68 (x1 : Int32) (t1 : Int32) (M__68 : ul_S) : Option ul_S :=
  ul_bd (ul_up M__68 0 8 t1) fun M1 => some M1
def f_X7_keepAct_j34 (x1 : Int32) (M__34 : ul_S) : Option ul_S :=
  ul_bd (((M__34 0 9) + (1 : Int32)) - ((M__34 0 9) + (1 : Int32)) / (14 : Int32) * (14 : Int32)) fun v3 => ul_bd (ul_up M__34 0 9 v3) fun M4 => if (14 : Int32) ≤ (M4 0 8) then (f_X7_keepAct_j68 x1 (14 : Int32) M4) else (f_X7_keepAct_j68 x1 ((M4 0 8) + (1 : Int32)) M4)
def f_X7_keepAct_L2 (q2 : (Int32 × ul_S)) : Option ((Int32 × ul_S) ⊕ (Int32 × ul_S)) :=
  if (23 : Int32) ≤ q2.1 then (some (.inl (q2.1, q2.2))) else (ul_ld (q2.2 6) 46 q2.1 fun v10 => ul_st q2.2 10 322 (((23 : Int32) * (q2.2 0 9)) + q2.1) v10 fun M12 => ul_bd (q2.1 + 1) fun v14 => some (.inr (v14, M12)))
def f_X7_keepAct (M : ul_S) : Option ul_S :=
  (ul_it ul_N (f_X7_keepAct_L2) ((0 : Int32), M)).bind (fun e2 => f_X7_keepAct_j34 e2.1 e2.2)
set_option maxHeartbeats 4000000 in
set_option maxRecDepth 100000 in
theorem c_X7_keepAct (l : Launch) (dC : Nat → ClassId) (dI : Nat → Nat → Nat) (cI : ClassId) (cZ : ClassId) (aM : Nat → Nat) (sz : Nat) (M : ul_S) (d : Int64) (r : ul_S) (h : f_X7_keepAct M = some r) : Met l yX7_keepAct wsX7_keepAct ({ frames := 0, cells := 0, slots := 0, locals := 0 }) (va_Pc [.ref (aM 0)] (ul_pre (dC, dI) [(cI, .int), (cZ, .boolean)] ul_N0 sz (ul_wM cI cZ aM M d))) (va_Qv (fun (_ : Unit) => True) (fun _ => ul_post (dC, dI) [(cI, .int), (cZ, .boolean)] (va_A (ul_wM cI cZ aM M d) sz) (ul_wM cI cZ aM r d)) (va_A (ul_wM cI cZ aM M d) sz)) 0 0 (va_A (ul_wM cI cZ aM M d) sz) := by
  refine Met.ofW (cc := cX7_keepAct) (maxL := 2) (ret := none) (by decide) rfl ?_
  intro p e s m args below meth c s₁ B hml hv
  obtain ⟨rfl, hsz, hP, hK, hD0, hN⟩ := hv
  have hx := B.exec
  have hb := B.bytes
  have hr := B.returns
  have hts := atoms_spec (ws := wsX7_keepAct) B.pre
  have hown : s.vm.findClass RX7 = some m.cls := findClass_of_methodNamed B.named
  have hlocks := B.notSynchronized
  have hin7 : ∀ w ∈ u_ws RX7 TX7 26, w ∈ wsX7_keepAct := by decide +kernel
  subst hsz
  have hD := hD0.self (sz := s.heap.size)
  generalize hAe : va_A (ul_wM cI cZ aM M d) s.heap.size = A at hD ⊢
  have hA : ∀ q : Nat, s.heap.size ≤ q → A q := fun q h => by rw [← hAe]; exact Or.inr h
  have hS : va_S A s.heap s.heap [] := va_S.rf
  have hl := lv_entry ([.ref (aM 0)]) (n := 2) (Nat.le_of_ble_eq_true rfl)
  rw [lg_entry_eq]
  generalize (lg_sl ([.ref (aM 0)]) ++ List.replicate (2 - (lg_sl ([.ref (aM 0)])).length) Slot.unset).toArray = ls at hl ⊢
  have hl : lv_has ls 2 [(0, .ref (aM 0))] := hl
  obtain ⟨K0, hK0, h⟩ := ul_top h
  unfold f_X7_keepAct at h
  refine ul_gen (fun G gi ge => ?_)
  obtain ⟨H, eH⟩ : ∃ z, z = s.heap := ⟨_, rfl⟩
  obtain ⟨locs, eL⟩ : ∃ z : List Loc, z = [] := ⟨_, rfl⟩
  have hP : va_P (dC, dI) classes (ul_wM cI cZ aM M d) H := by rw [eH]; exact hP
  have hS : va_S A s.heap H locs := by rw [eH, eL]; exact hS
  rw [← eL]
  refine (show G H locs (F0 m 0 ls []) → G s.heap locs (F0 m 0 ls []) from fun z => by rw [← eH]; exact z) ?_
  have J68 : ∀ (x1 : Int32) (t1 : Int32) (M__68 : ul_S) (H : Heap) (locs : List Loc), ul_H (dC, dI) A s.heap (ul_wM cI cZ aM M__68 d) H locs → ∀ ls : Array Slot, lv_has ls 2 [(0, .ref (aM 0)), (1, .int x1)] → (f_X7_keepAct_j68 x1 t1 M__68).bind K0 = some r → G H locs (F0 m 68 ls [.int t1, .ref (aM 0)]) := by
    intro x1 t1 M__68 H locs hw ls hl h
    obtain ⟨hP, hD, hS⟩ := hw
    unfold f_X7_keepAct_j68 at h
    refine gi _ _ _ ?_
    refine va_put (D := (dC, dI)) (ci := 7) (v := .int t1) (ty := .int) (C := RX7) (T := TX7) (N := 26) hx hb hts hin7 tyX7 tyX7_ok nmX7 hown hK hP hD hS 0 rfl rfl 17 (by decide) (hts (.fieldLink RX7 102 "UnderLaddersModel" "acts" "I") (by decide +kernel)) (fun _ h9 => h9) rfl (by decide +kernel) rfl rfl (Nat.le_of_ble_eq_true rfl) dX7_keepAct_68 (fun H locs hP hD hS => ?_)
    obtain ⟨M2, eM2⟩ : ∃ z : ul_S, z = ul_up M__68 0 8 t1 := ⟨_, rfl⟩
    have h := ul_bd_h h M2 eM2
    have hP : va_P (dC, dI) classes (ul_wM cI cZ aM M2 d) H := by rw [eM2]; exact hP
    have hD : va_D A (ul_wM cI cZ aM M2 d) := by rw [eM2]; exact hD
    have hr9 := hK0 M2 h
    subst hr9
    exact W.vret hx hb hr (fun t ht hW => ⟨⟨(), rfl, trivial, by rw [ht]; exact hP, va_K.moved hW.alike hK, hD⟩, hS.F ht⟩) hS.2.2 dX7_keepAct_71
  have J34 : ∀ (x1 : Int32) (M__34 : ul_S) (H : Heap) (locs : List Loc), ul_H (dC, dI) A s.heap (ul_wM cI cZ aM M__34 d) H locs → ∀ ls : Array Slot, lv_has ls 2 [(0, .ref (aM 0)), (1, .int x1)] → (f_X7_keepAct_j34 x1 M__34).bind K0 = some r → G H locs (F0 m 34 ls []) := by
    intro x1 M__34 H locs hw ls hl h
    obtain ⟨hP, hD, hS⟩ := hw
    unfold f_X7_keepAct_j34 at h
    refine gi _ _ _ ?_
    refine lv_aload_n hx hb dX7_keepAct_34 rfl (lv_at hl 0 rfl) ?_
    refine lv_aload_n hx hb dX7_keepAct_35 rfl (lv_at hl 0 rfl) ?_
    refine va_get (D := (dC, dI)) (ci := 7) (v := .int (M__34 0 9)) (C := RX7) (T := TX7) (N := 26) hx hb hts hin7 hown hK hP 0 rfl rfl 18 (by decide) (hts (.fieldLink RX7 140 "UnderLaddersModel" "next" "I") (by decide +kernel)) (fun _ h9 => h9) rfl dX7_keepAct_36 ?_
    refine lv_iconst (v := 1) hx hb dX7_keepAct_39 (by decide) ?_
    refine lv_iadd hx hb dX7_keepAct_40 ?_
    refine lv_bipush (v := 14) hx hb dX7_keepAct_41 (by decide) ?_
    refine lv_irem hx hb dX7_keepAct_43 (by decide) ?_
    refine lv_topi (fun v6 ev6 => ?_)
    have h := ul_bd_h h v6 ev6
    refine va_put (D := (dC, dI)) (ci := 7) (v := .int v6) (ty := .int) (C := RX7) (T := TX7) (N := 26) hx hb hts hin7 tyX7 tyX7_ok nmX7 hown hK hP hD hS 0 rfl rfl 18 (by decide) (hts (.fieldLink RX7 140 "UnderLaddersModel" "next" "I") (by decide +kernel)) (fun _ h9 => h9) rfl (by decide +kernel) rfl rfl (Nat.le_of_ble_eq_true rfl) dX7_keepAct_44 (fun H locs hP hD hS => ?_)
    obtain ⟨M7, eM7⟩ : ∃ z : ul_S, z = ul_up M__34 0 9 v6 := ⟨_, rfl⟩
    have h := ul_bd_h h M7 eM7
    have hP : va_P (dC, dI) classes (ul_wM cI cZ aM M7 d) H := by rw [eM7]; exact hP
    have hD : va_D A (ul_wM cI cZ aM M7 d) := by rw [eM7]; exact hD
    refine lv_aload_n hx hb dX7_keepAct_47 rfl (lv_at hl 0 rfl) ?_
    refine lv_aload_n hx hb dX7_keepAct_48 rfl (lv_at hl 0 rfl) ?_
    refine va_get (D := (dC, dI)) (ci := 7) (v := .int (M7 0 8)) (C := RX7) (T := TX7) (N := 26) hx hb hts hin7 hown hK hP 0 rfl rfl 17 (by decide) (hts (.fieldLink RX7 102 "UnderLaddersModel" "acts" "I") (by decide +kernel)) (fun _ h9 => h9) rfl dX7_keepAct_49 ?_
    refine lv_bipush (v := 14) hx hb dX7_keepAct_52 (by decide) ?_
    refine lv_icmp_ge (tgt := 66) hx hb dX7_keepAct_54 (by decide) (fun hc8 => ?_) (fun hc8 => ?_)
    · have h := ul_if_t hc8 h
      refine lv_bipush (v := 14) hx hb dX7_keepAct_66 (by decide) ?_
      exact ge _ _ _ (J68 x1 (14 : Int32) M7 H locs ⟨hP, hD, hS⟩ ls (lv_sub hl [0, 1] rfl) h)
    · have h := ul_if_f hc8 h
      refine lv_aload_n hx hb dX7_keepAct_57 rfl (lv_at hl 0 rfl) ?_
      refine va_get (D := (dC, dI)) (ci := 7) (v := .int (M7 0 8)) (C := RX7) (T := TX7) (N := 26) hx hb hts hin7 hown hK hP 0 rfl rfl 17 (by decide) (hts (.fieldLink RX7 102 "UnderLaddersModel" "acts" "I") (by decide +kernel)) (fun _ h9 => h9) rfl dX7_keepAct_58 ?_
      refine lv_iconst (v := 1) hx hb dX7_keepAct_61 (by decide) ?_
      refine lv_iadd hx hb dX7_keepAct_62 ?_
      refine lv_goto (tgt := 68) hx hb dX7_keepAct_63 (by decide) ?_
      exact ge _ _ _ (J68 x1 ((M7 0 8) + (1 : Int32)) M7 H locs ⟨hP, hD, hS⟩ ls (lv_sub hl [0, 1] rfl) h)
  refine gi _ _ _ ?_
  refine lv_iconst (v := 0) hx hb dX7_keepAct_0 (by decide) ?_
  refine lv_istore_n (lv' := [(1, .int (0 : Int32)), (0, .ref (aM 0))]) hx hb dX7_keepAct_1 rfl hl (by decide) rfl (fun ls hl => ?_)
  refine ge _ _ _ (ul_loop (P := fun q2 => ∀ (H : Heap) (locs : List Loc), ul_H (dC, dI) A s.heap (ul_wM cI cZ aM q2.2 d) H locs → ∀ ls : Array Slot, lv_has ls 2 [(0, .ref (aM 0)), (1, .int q2.1)] → G H locs (F0 m 2 ls [])) ?_ _ _ (ul_it_h h) H locs ⟨hP, hD, hS⟩ ls (lv_sub hl [1, 0] rfl))
  intro K2 hx2
  intro q2 ih2 h H locs hw ls hl
  obtain ⟨hP, hD, hS⟩ := hw
  unfold f_X7_keepAct_L2 at h
  refine gi _ _ _ ?_
  refine lv_iload_n hx hb dX7_keepAct_2 rfl (lv_at hl 1 rfl) ?_
  refine lv_bipush (v := 23) hx hb dX7_keepAct_3 (by decide) ?_
  refine lv_icmp_ge (tgt := 34) hx hb dX7_keepAct_5 (by decide) (fun hc15 => ?_) (fun hc15 => ?_)
  · have h := ul_if_t hc15 h
    exact ge _ _ _ (J34 q2.1 q2.2 H locs ⟨hP, hD, hS⟩ ls (lv_sub hl [0, 1] rfl) (hx2 (q2.1, q2.2) h))
  · have h := ul_if_f hc15 h
    refine lv_aload_n hx hb dX7_keepAct_8 rfl (lv_at hl 0 rfl) ?_
    refine va_get (D := (dC, dI)) (ci := 7) (v := .ref (aM 10)) (C := RX7) (T := TX7) (N := 26) hx hb hts hin7 hown hK hP 0 rfl rfl 19 (by decide) (hts (.fieldLink RX7 37 "UnderLaddersModel" "row" "[I") (by decide +kernel)) (fun _ h9 => h9) rfl dX7_keepAct_9 ?_
    refine lv_bipush (v := 23) hx hb dX7_keepAct_12 (by decide) ?_
    refine lv_aload_n hx hb dX7_keepAct_14 rfl (lv_at hl 0 rfl) ?_
    refine va_get (D := (dC, dI)) (ci := 7) (v := .int (q2.2 0 9)) (C := RX7) (T := TX7) (N := 26) hx hb hts hin7 hown hK hP 0 rfl rfl 18 (by decide) (hts (.fieldLink RX7 140 "UnderLaddersModel" "next" "I") (by decide +kernel)) (fun _ h9 => h9) rfl dX7_keepAct_15 ?_
    refine lv_imul hx hb dX7_keepAct_18 ?_
    refine lv_iload_n hx hb dX7_keepAct_19 rfl (lv_at hl 1 rfl) ?_
    refine lv_iadd hx hb dX7_keepAct_20 ?_
    refine lv_aload_n hx hb dX7_keepAct_21 rfl (lv_at hl 0 rfl) ?_
    refine va_get (D := (dC, dI)) (ci := 7) (v := .ref (aM 6)) (C := RX7) (T := TX7) (N := 26) hx hb hts hin7 hown hK hP 0 rfl rfl 7 (by decide) (hts (.fieldLink RX7 25 "UnderLaddersModel" "now" "[I") (by decide +kernel)) (fun _ h9 => h9) rfl dX7_keepAct_22 ?_
    refine lv_iload_n hx hb dX7_keepAct_25 rfl (lv_at hl 1 rfl) ?_
    obtain ⟨hi17, h⟩ := ul_ld_h h
    refine va_iald hx hb hK hP 6 0 rfl rfl hi17 dX7_keepAct_26 ?_
    refine lv_topi (fun v16 ev16 => ?_)
    have h := h v16 ev16
    obtain ⟨hi19, h⟩ := ul_st_h h
    refine va_iast hx hb hK hP hD hS 10 0 rfl rfl hi19 dX7_keepAct_27 (fun H locs hP hD hS => ?_)
    obtain ⟨M18, eM18⟩ : ∃ z : ul_S, z = ul_up q2.2 10 (((23 : Int32) * (q2.2 0 9)) + q2.1).toNatClampNeg v16 := ⟨_, rfl⟩
    have h := h M18 eM18
    have hP : va_P (dC, dI) classes (ul_wM cI cZ aM M18 d) H := by rw [eM18]; exact hP
    have hD : va_D A (ul_wM cI cZ aM M18 d) := by rw [eM18]; exact hD
    obtain ⟨v20, ev20⟩ : ∃ z : Int32, z = q2.1 + 1 := ⟨_, rfl⟩
    have h := ul_bd_h h v20 ev20
    refine lv_iinc (v := v20) (lv' := [(1, .int v20), (0, .ref (aM 0))]) hx hb dX7_keepAct_28 hl (k := 1) rfl (by rw [ev20]; rfl) (by decide) rfl (fun ls hl => ?_)
    refine lv_goto (tgt := 2) hx hb dX7_keepAct_31 (by decide) ?_
    exact ge _ _ _ (ih2 (v20, M18) h H locs ⟨hP, hD, hS⟩ ls (lv_sub hl [1, 0] rfl))
def f_X7_day (M : ul_S) : Option (Int32 × ul_S) :=
  (f_X7_keepAct M).bind fun u1 => (f_X7_passOn u1 (0 : Int32) (0 : Int32)).bind fun u2 => some (u2.1, u2.2)
set_option maxHeartbeats 4000000 in
set_option maxRecDepth 100000 in
theorem c_X7_day (l : Launch) (dC : Nat → ClassId) (dI : Nat → Nat → Nat) (cI : ClassId) (cZ : ClassId) (aM : Nat → Nat) (sz : Nat) (M : ul_S) (d : Int64) (r : (Int32 × ul_S)) (h : f_X7_day M = some r) : Met l yX7_day wsX7_day ({ frames := 6, cells := 0, slots := 0, locals := 143 }) (va_Pc [.ref (aM 0)] (ul_pre (dC, dI) [(cI, .int), (cZ, .boolean)] ul_N0 sz (ul_wM cI cZ aM M d))) (va_Qi (fun v (_ : Unit) => v = r.1) (fun _ => ul_post (dC, dI) [(cI, .int), (cZ, .boolean)] (va_A (ul_wM cI cZ aM M d) sz) (ul_wM cI cZ aM r.2 d)) (va_A (ul_wM cI cZ aM M d) sz)) 0 0 (va_A (ul_wM cI cZ aM M d) sz) := by
  refine Met.ofW (cc := cX7_day) (maxL := 1) (ret := (some .int)) (by decide) rfl ?_
  intro p e s m args below meth c s₁ B hml hv
  obtain ⟨rfl, hsz, hP, hK, hD0, hN⟩ := hv
  have hx := B.exec
  have hb := B.bytes
  have hr := B.returns
  have hts := atoms_spec (ws := wsX7_day) B.pre
  have hown : s.vm.findClass RX7 = some m.cls := findClass_of_methodNamed B.named
  have hlocks := B.notSynchronized
  have hin7 : ∀ w ∈ u_ws RX7 TX7 26, w ∈ wsX7_day := by decide +kernel
  subst hsz
  have hD := hD0.self (sz := s.heap.size)
  generalize hAe : va_A (ul_wM cI cZ aM M d) s.heap.size = A at hD ⊢
  have hA : ∀ q : Nat, s.heap.size ≤ q → A q := fun q h => by rw [← hAe]; exact Or.inr h
  have hS : va_S A s.heap s.heap [] := va_S.rf
  have hl := lv_entry ([.ref (aM 0)]) (n := 1) (Nat.le_of_ble_eq_true rfl)
  rw [lg_entry_eq]
  generalize (lg_sl ([.ref (aM 0)]) ++ List.replicate (1 - (lg_sl ([.ref (aM 0)])).length) Slot.unset).toArray = ls at hl ⊢
  have hl : lv_has ls 1 [(0, .ref (aM 0))] := hl
  obtain ⟨K0, hK0, h⟩ := ul_top h
  unfold f_X7_day at h
  refine ul_gen (fun G gi ge => ?_)
  obtain ⟨H, eH⟩ : ∃ z, z = s.heap := ⟨_, rfl⟩
  obtain ⟨locs, eL⟩ : ∃ z : List Loc, z = [] := ⟨_, rfl⟩
  have hP : va_P (dC, dI) classes (ul_wM cI cZ aM M d) H := by rw [eH]; exact hP
  have hS : va_S A s.heap H locs := by rw [eH, eL]; exact hS
  rw [← eL]
  refine (show G H locs (F0 m 0 ls []) → G s.heap locs (F0 m 0 ls []) from fun z => by rw [← eH]; exact z) ?_
  refine gi _ _ _ ?_
  refine lv_aload_n hx hb dX7_day_0 rfl (lv_at hl 0 rfl) ?_
  obtain ⟨u1, hu1, h⟩ := ul_cl_h h
  refine ul_cVv (As := []) (rest := []) (wc' := (ul_wM cI cZ aM u1 d)) (wr := []) hP hD hS hK hA [0, 1, 2, 3, 4, 5, 6, 7, 8, 9, 10, 11, 12, 13, 14] [] [0, 1] ul_N0_ok trivial (c_X7_keepAct l dC dI cI cZ aM H.size M d u1 hu1) rfl rfl (by decide) rfl (by decide) (by decide) rfl ⟨hx, hb, hml, hown, hts⟩ (cwV 0 hts gX7_day_X7_keepAct rfl rfl rfl (by decide +kernel) ⟨Nat.le_of_ble_eq_true rfl, Nat.le_of_ble_eq_true rfl⟩) (va_recv hK hP (ci := 7) (q0 := 0) rfl rfl) rfl hl.1 rfl (Nat.le_of_ble_eq_true rfl) dX7_day_1 (fun H locs hw => ?_)
  obtain ⟨hP, hD, hS⟩ := hw
  have hP : va_P (dC, dI) classes (ul_wM cI cZ aM u1 d) H := hP
  have hD : va_D A (ul_wM cI cZ aM u1 d) := hD
  refine lv_aload_n hx hb dX7_day_4 rfl (lv_at hl 0 rfl) ?_
  refine lv_iconst (v := 0) hx hb dX7_day_5 (by decide) ?_
  refine lv_iconst (v := 0) hx hb dX7_day_6 (by decide) ?_
  obtain ⟨u2, hu2, h⟩ := ul_cl_h h
  refine ul_cVi (As := [.int (0 : Int32), .int (0 : Int32)]) (rest := []) (wc' := (ul_wM cI cZ aM u2.2 d)) (wr := []) hP hD hS hK hA [0, 1, 2, 3, 4, 5, 6, 7, 8, 9, 10, 11, 12, 13, 14] [] [0, 1] ul_N0_ok trivial (c_X7_passOn l dC dI cI cZ aM H.size u1 d (0 : Int32) (0 : Int32) u2 hu2) rfl rfl (by decide) rfl (by decide) (by decide) rfl ⟨hx, hb, hml, hown, hts⟩ (cwV 2 hts gX7_day_X7_passOn rfl rfl rfl (by decide +kernel) ⟨Nat.le_of_ble_eq_true rfl, Nat.le_of_ble_eq_true rfl⟩) (va_recv hK hP (ci := 7) (q0 := 0) rfl rfl) rfl hl.1 rfl (Nat.le_of_ble_eq_true rfl) dX7_day_7 (fun H locs hw => ?_)
  obtain ⟨hP, hD, hS⟩ := hw
  have hP : va_P (dC, dI) classes (ul_wM cI cZ aM u2.2 d) H := hP
  have hD : va_D A (ul_wM cI cZ aM u2.2 d) := hD
  have hr9 := hK0 (u2.1, u2.2) h
  subst hr9
  exact W.iret (v := u2.1) hx hb hr (fun t ht hW => ⟨⟨u2.1, (), rfl, rfl, by rw [ht]; exact hP, va_K.moved hW.alike hK, hD⟩, hS.F ht⟩) hS.2.2 dX7_day_10
def f_X7_canMove (M : ul_S) (p1 : Int32) (p2 : Int32) (p3 : Int32) : Option Int32 :=
  (f_X7_isLadder M p2).bind fun u1 => if u1 = 0 then (some (0 : Int32)) else ((f_X7_in p3.toInt64 (0 : Int64) (9 : Int64)).bind fun u3 => if u3 = 0 then (some (0 : Int32)) else ((f_X7_ladderAt M p1 p3).bind fun u5 => if u5 = (-9 : Int32) then (some (1 : Int32)) else (some (0 : Int32))))
set_option maxHeartbeats 4000000 in
set_option maxRecDepth 100000 in
theorem c_X7_canMove (l : Launch) (dC : Nat → ClassId) (dI : Nat → Nat → Nat) (cI : ClassId) (cZ : ClassId) (aM : Nat → Nat) (sz : Nat) (M : ul_S) (d : Int64) (p1 : Int32) (p2 : Int32) (p3 : Int32) (r : Int32) (h : f_X7_canMove M p1 p2 p3 = some r) : Met l yX7_canMove wsX7_canMove ({ frames := 2, cells := 0, slots := 0, locals := 46 }) (va_Pc [.ref (aM 0), .int p1, .int p2, .int p3] (ul_pre (dC, dI) [(cI, .int), (cZ, .boolean)] ul_N0 sz (ul_wM cI cZ aM M d))) (va_Qi (fun v (_ : Unit) => v = r) (fun _ => ul_post (dC, dI) [(cI, .int), (cZ, .boolean)] (va_A (ul_wM cI cZ aM M d) sz) (ul_wM cI cZ aM M d)) (va_A (ul_wM cI cZ aM M d) sz)) 0 0 (va_A (ul_wM cI cZ aM M d) sz) := by
  refine Met.ofW (cc := cX7_canMove) (maxL := 4) (ret := (some .boolean)) (by decide) rfl ?_
  intro p e s m args below meth c s₁ B hml hv
  obtain ⟨rfl, hsz, hP, hK, hD0, hN⟩ := hv
  have hx := B.exec
  have hb := B.bytes
  have hr := B.returns
  have hts := atoms_spec (ws := wsX7_canMove) B.pre
  have hown : s.vm.findClass RX7 = some m.cls := findClass_of_methodNamed B.named
  have hlocks := B.notSynchronized
  have hin7 : ∀ w ∈ u_ws RX7 TX7 26, w ∈ wsX7_canMove := by decide +kernel
  subst hsz
  have hD := hD0.self (sz := s.heap.size)
  generalize hAe : va_A (ul_wM cI cZ aM M d) s.heap.size = A at hD ⊢
  have hA : ∀ q : Nat, s.heap.size ≤ q → A q := fun q h => by rw [← hAe]; exact Or.inr h
  have hS : va_S A s.heap s.heap [] := va_S.rf
  have hl := lv_entry ([.ref (aM 0), .int p1, .int p2, .int p3]) (n := 4) (Nat.le_of_ble_eq_true rfl)
  rw [lg_entry_eq]
  generalize (lg_sl ([.ref (aM 0), .int p1, .int p2, .int p3]) ++ List.replicate (4 - (lg_sl ([.ref (aM 0), .int p1, .int p2, .int p3])).length) Slot.unset).toArray = ls at hl ⊢
  have hl : lv_has ls 4 [(0, .ref (aM 0)), (1, .int p1), (2, .int p2), (3, .int p3)] := hl
  obtain ⟨K0, hK0, h⟩ := ul_top h
  unfold f_X7_canMove at h
  refine ul_gen (fun G gi ge => ?_)
  obtain ⟨H, eH⟩ : ∃ z, z = s.heap := ⟨_, rfl⟩
  obtain ⟨locs, eL⟩ : ∃ z : List Loc, z = [] := ⟨_, rfl⟩
  have hP : va_P (dC, dI) classes (ul_wM cI cZ aM M d) H := by rw [eH]; exact hP
  have hS : va_S A s.heap H locs := by rw [eH, eL]; exact hS
  rw [← eL]
  refine (show G H locs (F0 m 0 ls []) → G s.heap locs (F0 m 0 ls []) from fun z => by rw [← eH]; exact z) ?_
  refine gi _ _ _ ?_
  refine lv_aload_n hx hb dX7_canMove_0 rfl (lv_at hl 0 rfl) ?_
  refine lv_iload_n hx hb dX7_canMove_1 rfl (lv_at hl 2 rfl) ?_
  obtain ⟨u1, hu1, h⟩ := ul_cl_h h
  refine ul_cVi (As := [.int p2]) (rest := []) (wc' := (ul_wM cI cZ aM M d)) (wr := []) hP hD hS hK hA [0, 1, 2, 3, 4, 5, 6, 7, 8, 9, 10, 11, 12, 13, 14] [] [0, 1] ul_N0_ok trivial (c_X7_isLadder l dC dI cI cZ aM H.size M d p2 u1 hu1) rfl rfl (by decide) rfl (by decide) (by decide) rfl ⟨hx, hb, hml, hown, hts⟩ (cwV 1 hts gX7_canMove_X7_isLadder rfl rfl rfl (by decide +kernel) ⟨Nat.le_of_ble_eq_true rfl, Nat.le_of_ble_eq_true rfl⟩) (va_recv hK hP (ci := 7) (q0 := 0) rfl rfl) rfl hl.1 rfl (Nat.le_of_ble_eq_true rfl) dX7_canMove_2 (fun H locs hw => ?_)
  obtain ⟨hP, hD, hS⟩ := hw
  have hP : va_P (dC, dI) classes (ul_wM cI cZ aM M d) H := hP
  have hD : va_D A (ul_wM cI cZ aM M d) := hD
  refine lv_if_eq (tgt := 35) hx hb dX7_canMove_5 (by decide) (fun hc2 => ?_) (fun hc2 => ?_)
  · have h := ul_if_t hc2 h
    refine lv_iconst (v := 0) hx hb dX7_canMove_35 (by decide) ?_
    have hr9 := hK0 (0 : Int32) h
    subst hr9
    exact W.zret (v := (0 : Int32)) hx hb hr (by decide) (fun t ht hW => ⟨⟨(0 : Int32), (), rfl, rfl, by rw [ht]; exact hP, va_K.moved hW.alike hK, hD⟩, hS.F ht⟩) hS.2.2 dX7_canMove_36
  · have h := ul_if_f hc2 h
    refine lv_iload_n hx hb dX7_canMove_8 rfl (lv_at hl 3 rfl) ?_
    refine lv_i2l hx hb dX7_canMove_9 rfl ?_
    refine lv_lconst (v := 0) hx hb dX7_canMove_10 (by decide) ?_
    refine lv_ldc2 (v := 9) hx hb hown (hts (.constantLong RX7 69 (9)) (by decide +kernel)) dX7_canMove_11 ?_
    obtain ⟨u3, hu3, h⟩ := ul_cl_h h
    refine ul_cSi (As := [.long p3.toInt64, .long (0 : Int64), .long (9 : Int64)]) (rest := []) hP hD hS hK hA (c_X7_in l dC dI H.size p3.toInt64 (0 : Int64) (9 : Int64) u3 hu3) ⟨hx, hb, hml, hown, hts⟩ (cwS 3 hts gX7_canMove_X7_in rfl rfl rfl (by decide +kernel) ⟨Nat.le_of_ble_eq_true rfl, Nat.le_of_ble_eq_true rfl⟩) rfl hl.1 rfl (Nat.le_of_ble_eq_true rfl) dX7_canMove_14 (fun H locs hw => ?_)
    obtain ⟨hP, hD, hS⟩ := hw
    refine lv_if_eq (tgt := 35) hx hb dX7_canMove_17 (by decide) (fun hc4 => ?_) (fun hc4 => ?_)
    · have h := ul_if_t hc4 h
      refine lv_iconst (v := 0) hx hb dX7_canMove_35 (by decide) ?_
      have hr9 := hK0 (0 : Int32) h
      subst hr9
      exact W.zret (v := (0 : Int32)) hx hb hr (by decide) (fun t ht hW => ⟨⟨(0 : Int32), (), rfl, rfl, by rw [ht]; exact hP, va_K.moved hW.alike hK, hD⟩, hS.F ht⟩) hS.2.2 dX7_canMove_36
    · have h := ul_if_f hc4 h
      refine lv_aload_n hx hb dX7_canMove_20 rfl (lv_at hl 0 rfl) ?_
      refine lv_iload_n hx hb dX7_canMove_21 rfl (lv_at hl 1 rfl) ?_
      refine lv_iload_n hx hb dX7_canMove_22 rfl (lv_at hl 3 rfl) ?_
      obtain ⟨u5, hu5, h⟩ := ul_cl_h h
      refine ul_cVi (As := [.int p1, .int p3]) (rest := []) (wc' := (ul_wM cI cZ aM M d)) (wr := []) hP hD hS hK hA [0, 1, 2, 3, 4, 5, 6, 7, 8, 9, 10, 11, 12, 13, 14] [] [0, 1] ul_N0_ok trivial (c_X7_ladderAt l dC dI cI cZ aM H.size M d p1 p3 u5 hu5) rfl rfl (by decide) rfl (by decide) (by decide) rfl ⟨hx, hb, hml, hown, hts⟩ (cwV 2 hts gX7_canMove_X7_ladderAt rfl rfl rfl (by decide +kernel) ⟨Nat.le_of_ble_eq_true rfl, Nat.le_of_ble_eq_true rfl⟩) (va_recv hK hP (ci := 7) (q0 := 0) rfl rfl) rfl hl.1 rfl (Nat.le_of_ble_eq_true rfl) dX7_canMove_23 (fun H locs hw => ?_)
      obtain ⟨hP, hD, hS⟩ := hw
      have hP : va_P (dC, dI) classes (ul_wM cI cZ aM M d) H := hP
      have hD : va_D A (ul_wM cI cZ aM M d) := hD
      refine lv_bipush (v := -9) hx hb dX7_canMove_26 (by decide) ?_
      refine lv_icmp_ne (tgt := 35) hx hb dX7_canMove_28 (by decide) (fun hc6 => ?_) (fun hc6 => ?_)
      · have h := ul_if_f hc6 h
        refine lv_iconst (v := 0) hx hb dX7_canMove_35 (by decide) ?_
        have hr9 := hK0 (0 : Int32) h
        subst hr9
        exact W.zret (v := (0 : Int32)) hx hb hr (by decide) (fun t ht hW => ⟨⟨(0 : Int32), (), rfl, rfl, by rw [ht]; exact hP, va_K.moved hW.alike hK, hD⟩, hS.F ht⟩) hS.2.2 dX7_canMove_36
      · have h := ul_if_t hc6 h
        refine lv_iconst (v := 1) hx hb dX7_canMove_31 (by decide) ?_
        refine lv_goto (tgt := 36) hx hb dX7_canMove_32 (by decide) ?_
        have hr9 := hK0 (1 : Int32) h
        subst hr9
        exact W.zret (v := (1 : Int32)) hx hb hr (by decide) (fun t ht hW => ⟨⟨(1 : Int32), (), rfl, rfl, by rw [ht]; exact hP, va_K.moved hW.alike hK, hD⟩, hS.F ht⟩) hS.2.2 dX7_canMove_36
def f_X7_move (M : ul_S) (p1 : Int32) (p2 : Int32) : Option (Int32 × ul_S) :=
  (f_X7_isLadder M p1).bind fun u1 => if u1 = 0 then (some ((-1 : Int32), M)) else ((f_X7_in p2.toInt64 (0 : Int64) (9 : Int64)).bind fun u3 => if u3 = 0 then (some ((-1 : Int32), M)) else ((f_X7_canMove M (0 : Int32) p1 p2).bind fun u5 => if u5 = 0 then (some ((-3 : Int32), M)) else ((f_X7_keepAct M).bind fun u7 => ul_ld (u7 6) 46 p1 fun v8 => ul_st u7 6 46 p1 p2 fun M10 => some (v8, M10))))
set_option maxHeartbeats 4000000 in
set_option maxRecDepth 100000 in
theorem c_X7_move (l : Launch) (dC : Nat → ClassId) (dI : Nat → Nat → Nat) (cI : ClassId) (cZ : ClassId) (aM : Nat → Nat) (sz : Nat) (M : ul_S) (d : Int64) (p1 : Int32) (p2 : Int32) (r : (Int32 × ul_S)) (h : f_X7_move M p1 p2 = some r) : Met l yX7_move wsX7_move ({ frames := 3, cells := 0, slots := 0, locals := 69 }) (va_Pc [.ref (aM 0), .int p1, .int p2] (ul_pre (dC, dI) [(cI, .int), (cZ, .boolean)] ul_N0 sz (ul_wM cI cZ aM M d))) (va_Qi (fun v (_ : Unit) => v = r.1) (fun _ => ul_post (dC, dI) [(cI, .int), (cZ, .boolean)] (va_A (ul_wM cI cZ aM M d) sz) (ul_wM cI cZ aM r.2 d)) (va_A (ul_wM cI cZ aM M d) sz)) 0 0 (va_A (ul_wM cI cZ aM M d) sz) := by
  refine Met.ofW (cc := cX7_move) (maxL := 4) (ret := (some .int)) (by decide) rfl ?_
  intro p e s m args below meth c s₁ B hml hv
  obtain ⟨rfl, hsz, hP, hK, hD0, hN⟩ := hv
  have hx := B.exec
  have hb := B.bytes
  have hr := B.returns
  have hts := atoms_spec (ws := wsX7_move) B.pre
  have hown : s.vm.findClass RX7 = some m.cls := findClass_of_methodNamed B.named
  have hlocks := B.notSynchronized
  have hin7 : ∀ w ∈ u_ws RX7 TX7 26, w ∈ wsX7_move := by decide +kernel
  subst hsz
  have hD := hD0.self (sz := s.heap.size)
  generalize hAe : va_A (ul_wM cI cZ aM M d) s.heap.size = A at hD ⊢
  have hA : ∀ q : Nat, s.heap.size ≤ q → A q := fun q h => by rw [← hAe]; exact Or.inr h
  have hS : va_S A s.heap s.heap [] := va_S.rf
  have hl := lv_entry ([.ref (aM 0), .int p1, .int p2]) (n := 4) (Nat.le_of_ble_eq_true rfl)
  rw [lg_entry_eq]
  generalize (lg_sl ([.ref (aM 0), .int p1, .int p2]) ++ List.replicate (4 - (lg_sl ([.ref (aM 0), .int p1, .int p2])).length) Slot.unset).toArray = ls at hl ⊢
  have hl : lv_has ls 4 [(0, .ref (aM 0)), (1, .int p1), (2, .int p2)] := hl
  obtain ⟨K0, hK0, h⟩ := ul_top h
  unfold f_X7_move at h
  refine ul_gen (fun G gi ge => ?_)
  obtain ⟨H, eH⟩ : ∃ z, z = s.heap := ⟨_, rfl⟩
  obtain ⟨locs, eL⟩ : ∃ z : List Loc, z = [] := ⟨_, rfl⟩
  have hP : va_P (dC, dI) classes (ul_wM cI cZ aM M d) H := by rw [eH]; exact hP
  have hS : va_S A s.heap H locs := by rw [eH, eL]; exact hS
  rw [← eL]
  refine (show G H locs (F0 m 0 ls []) → G s.heap locs (F0 m 0 ls []) from fun z => by rw [← eH]; exact z) ?_
  refine gi _ _ _ ?_
  refine lv_aload_n hx hb dX7_move_0 rfl (lv_at hl 0 rfl) ?_
  refine lv_iload_n hx hb dX7_move_1 rfl (lv_at hl 1 rfl) ?_
  obtain ⟨u1, hu1, h⟩ := ul_cl_h h
  refine ul_cVi (As := [.int p1]) (rest := []) (wc' := (ul_wM cI cZ aM M d)) (wr := []) hP hD hS hK hA [0, 1, 2, 3, 4, 5, 6, 7, 8, 9, 10, 11, 12, 13, 14] [] [0, 1] ul_N0_ok trivial (c_X7_isLadder l dC dI cI cZ aM H.size M d p1 u1 hu1) rfl rfl (by decide) rfl (by decide) (by decide) rfl ⟨hx, hb, hml, hown, hts⟩ (cwV 1 hts gX7_move_X7_isLadder rfl rfl rfl (by decide +kernel) ⟨Nat.le_of_ble_eq_true rfl, Nat.le_of_ble_eq_true rfl⟩) (va_recv hK hP (ci := 7) (q0 := 0) rfl rfl) rfl hl.1 rfl (Nat.le_of_ble_eq_true rfl) dX7_move_2 (fun H locs hw => ?_)
  obtain ⟨hP, hD, hS⟩ := hw
  have hP : va_P (dC, dI) classes (ul_wM cI cZ aM M d) H := hP
  have hD : va_D A (ul_wM cI cZ aM M d) := hD
  refine lv_if_eq (tgt := 20) hx hb dX7_move_5 (by decide) (fun hc2 => ?_) (fun hc2 => ?_)
  · have h := ul_if_t hc2 h
    refine lv_iconst (v := -1) hx hb dX7_move_20 (by decide) ?_
    have hr9 := hK0 ((-1 : Int32), M) h
    subst hr9
    exact W.iret (v := (-1 : Int32)) hx hb hr (fun t ht hW => ⟨⟨(-1 : Int32), (), rfl, rfl, by rw [ht]; exact hP, va_K.moved hW.alike hK, hD⟩, hS.F ht⟩) hS.2.2 dX7_move_21
  · have h := ul_if_f hc2 h
    refine lv_iload_n hx hb dX7_move_8 rfl (lv_at hl 2 rfl) ?_
    refine lv_i2l hx hb dX7_move_9 rfl ?_
    refine lv_lconst (v := 0) hx hb dX7_move_10 (by decide) ?_
    refine lv_ldc2 (v := 9) hx hb hown (hts (.constantLong RX7 69 (9)) (by decide +kernel)) dX7_move_11 ?_
    obtain ⟨u3, hu3, h⟩ := ul_cl_h h
    refine ul_cSi (As := [.long p2.toInt64, .long (0 : Int64), .long (9 : Int64)]) (rest := []) hP hD hS hK hA (c_X7_in l dC dI H.size p2.toInt64 (0 : Int64) (9 : Int64) u3 hu3) ⟨hx, hb, hml, hown, hts⟩ (cwS 3 hts gX7_move_X7_in rfl rfl rfl (by decide +kernel) ⟨Nat.le_of_ble_eq_true rfl, Nat.le_of_ble_eq_true rfl⟩) rfl hl.1 rfl (Nat.le_of_ble_eq_true rfl) dX7_move_14 (fun H locs hw => ?_)
    obtain ⟨hP, hD, hS⟩ := hw
    refine lv_if_ne (tgt := 22) hx hb dX7_move_17 (by decide) (fun hc4 => ?_) (fun hc4 => ?_)
    · have h := ul_if_f hc4 h
      refine lv_aload_n hx hb dX7_move_22 rfl (lv_at hl 0 rfl) ?_
      refine lv_iconst (v := 0) hx hb dX7_move_23 (by decide) ?_
      refine lv_iload_n hx hb dX7_move_24 rfl (lv_at hl 1 rfl) ?_
      refine lv_iload_n hx hb dX7_move_25 rfl (lv_at hl 2 rfl) ?_
      obtain ⟨u5, hu5, h⟩ := ul_cl_h h
      refine ul_cVi (As := [.int (0 : Int32), .int p1, .int p2]) (rest := []) (wc' := (ul_wM cI cZ aM M d)) (wr := []) hP hD hS hK hA [0, 1, 2, 3, 4, 5, 6, 7, 8, 9, 10, 11, 12, 13, 14] [] [0, 1] ul_N0_ok trivial (c_X7_canMove l dC dI cI cZ aM H.size M d (0 : Int32) p1 p2 u5 hu5) rfl rfl (by decide) rfl (by decide) (by decide) rfl ⟨hx, hb, hml, hown, hts⟩ (cwV 3 hts gX7_move_X7_canMove rfl rfl rfl (by decide +kernel) ⟨Nat.le_of_ble_eq_true rfl, Nat.le_of_ble_eq_true rfl⟩) (va_recv hK hP (ci := 7) (q0 := 0) rfl rfl) rfl hl.1 rfl (Nat.le_of_ble_eq_true rfl) dX7_move_26 (fun H locs hw => ?_)
      obtain ⟨hP, hD, hS⟩ := hw
      have hP : va_P (dC, dI) classes (ul_wM cI cZ aM M d) H := hP
      have hD : va_D A (ul_wM cI cZ aM M d) := hD
      refine lv_if_ne (tgt := 35) hx hb dX7_move_29 (by decide) (fun hc6 => ?_) (fun hc6 => ?_)
      · have h := ul_if_f hc6 h
        refine lv_aload_n hx hb dX7_move_35 rfl (lv_at hl 0 rfl) ?_
        obtain ⟨u7, hu7, h⟩ := ul_cl_h h
        refine ul_cVv (As := []) (rest := []) (wc' := (ul_wM cI cZ aM u7 d)) (wr := []) hP hD hS hK hA [0, 1, 2, 3, 4, 5, 6, 7, 8, 9, 10, 11, 12, 13, 14] [] [0, 1] ul_N0_ok trivial (c_X7_keepAct l dC dI cI cZ aM H.size M d u7 hu7) rfl rfl (by decide) rfl (by decide) (by decide) rfl ⟨hx, hb, hml, hown, hts⟩ (cwV 0 hts gX7_move_X7_keepAct rfl rfl rfl (by decide +kernel) ⟨Nat.le_of_ble_eq_true rfl, Nat.le_of_ble_eq_true rfl⟩) (va_recv hK hP (ci := 7) (q0 := 0) rfl rfl) rfl hl.1 rfl (Nat.le_of_ble_eq_true rfl) dX7_move_36 (fun H locs hw => ?_)
        obtain ⟨hP, hD, hS⟩ := hw
        have hP : va_P (dC, dI) classes (ul_wM cI cZ aM u7 d) H := hP
        have hD : va_D A (ul_wM cI cZ aM u7 d) := hD
        refine lv_aload_n hx hb dX7_move_39 rfl (lv_at hl 0 rfl) ?_
        refine va_get (D := (dC, dI)) (ci := 7) (v := .ref (aM 6)) (C := RX7) (T := TX7) (N := 26) hx hb hts hin7 hown hK hP 0 rfl rfl 7 (by decide) (hts (.fieldLink RX7 25 "UnderLaddersModel" "now" "[I") (by decide +kernel)) (fun _ h9 => h9) rfl dX7_move_40 ?_
        refine lv_iload_n hx hb dX7_move_43 rfl (lv_at hl 1 rfl) ?_
        obtain ⟨hi9, h⟩ := ul_ld_h h
        refine va_iald hx hb hK hP 6 0 rfl rfl hi9 dX7_move_44 ?_
        refine lv_topi (fun v8 ev8 => ?_)
        have h := h v8 ev8
        refine lv_istore_n (lv' := [(3, .int v8), (0, .ref (aM 0)), (1, .int p1), (2, .int p2)]) hx hb dX7_move_45 rfl hl (by decide) rfl (fun ls hl => ?_)
        refine lv_aload_n hx hb dX7_move_46 rfl (lv_at hl 1 rfl) ?_
        refine va_get (D := (dC, dI)) (ci := 7) (v := .ref (aM 6)) (C := RX7) (T := TX7) (N := 26) hx hb hts hin7 hown hK hP 0 rfl rfl 7 (by decide) (hts (.fieldLink RX7 25 "UnderLaddersModel" "now" "[I") (by decide +kernel)) (fun _ h9 => h9) rfl dX7_move_47 ?_
        refine lv_iload_n hx hb dX7_move_50 rfl (lv_at hl 2 rfl) ?_
        refine lv_iload_n hx hb dX7_move_51 rfl (lv_at hl 3 rfl) ?_
        obtain ⟨hi11, h⟩ := ul_st_h h
        refine va_iast hx hb hK hP hD hS 6 0 rfl rfl hi11 dX7_move_52 (fun H locs hP hD hS => ?_)
        obtain ⟨M10, eM10⟩ : ∃ z : ul_S, z = ul_up u7 6 p1.toNatClampNeg p2 := ⟨_, rfl⟩
        have h := h M10 eM10
        have hP : va_P (dC, dI) classes (ul_wM cI cZ aM M10 d) H := by rw [eM10]; exact hP
        have hD : va_D A (ul_wM cI cZ aM M10 d) := by rw [eM10]; exact hD
        refine lv_iload_n hx hb dX7_move_53 rfl (lv_at hl 0 rfl) ?_
        have hr9 := hK0 (v8, M10) h
        subst hr9
        exact W.iret (v := v8) hx hb hr (fun t ht hW => ⟨⟨v8, (), rfl, rfl, by rw [ht]; exact hP, va_K.moved hW.alike hK, hD⟩, hS.F ht⟩) hS.2.2 dX7_move_54
      · have h := ul_if_t hc6 h
        refine lv_bipush (v := -3) hx hb dX7_move_32 (by decide) ?_
        have hr9 := hK0 ((-3 : Int32), M) h
        subst hr9
        exact W.iret (v := (-3 : Int32)) hx hb hr (fun t ht hW => ⟨⟨(-3 : Int32), (), rfl, rfl, by rw [ht]; exact hP, va_K.moved hW.alike hK, hD⟩, hS.F ht⟩) hS.2.2 dX7_move_34
    · have h := ul_if_t hc4 h
      refine lv_iconst (v := -1) hx hb dX7_move_20 (by decide) ?_
      have hr9 := hK0 ((-1 : Int32), M) h
      subst hr9
      exact W.iret (v := (-1 : Int32)) hx hb hr (fun t ht hW => ⟨⟨(-1 : Int32), (), rfl, rfl, by rw [ht]; exact hP, va_K.moved hW.alike hK, hD⟩, hS.F ht⟩) hS.2.2 dX7_move_21
def f_X7_comeDown (M : ul_S) (p1 : Int32) (p2 : Int32) : Option ul_S :=
  ul_st M 6 46 ((((23 : Int32) * p1) + (4 : Int32)) + p2) (0 : Int32) fun M1 => ul_st M1 6 46 ((((23 : Int32) * p1) + (8 : Int32)) + p2) (0 : Int32) fun M3 => some M3
set_option maxHeartbeats 4000000 in
set_option maxRecDepth 100000 in
theorem c_X7_comeDown (l : Launch) (dC : Nat → ClassId) (dI : Nat → Nat → Nat) (cI : ClassId) (cZ : ClassId) (aM : Nat → Nat) (sz : Nat) (M : ul_S) (d : Int64) (p1 : Int32) (p2 : Int32) (r : ul_S) (h : f_X7_comeDown M p1 p2 = some r) : Met l yX7_comeDown wsX7_comeDown ({ frames := 0, cells := 0, slots := 0, locals := 0 }) (va_Pc [.ref (aM 0), .int p1, .int p2] (ul_pre (dC, dI) [(cI, .int), (cZ, .boolean)] ul_N0 sz (ul_wM cI cZ aM M d))) (va_Qv (fun (_ : Unit) => True) (fun _ => ul_post (dC, dI) [(cI, .int), (cZ, .boolean)] (va_A (ul_wM cI cZ aM M d) sz) (ul_wM cI cZ aM r d)) (va_A (ul_wM cI cZ aM M d) sz)) 0 0 (va_A (ul_wM cI cZ aM M d) sz) := by
  refine Met.ofW (cc := cX7_comeDown) (maxL := 3) (ret := none) (by decide) rfl ?_
  intro p e s m args below meth c s₁ B hml hv
  obtain ⟨rfl, hsz, hP, hK, hD0, hN⟩ := hv
  have hx := B.exec
  have hb := B.bytes
  have hr := B.returns
  have hts := atoms_spec (ws := wsX7_comeDown) B.pre
  have hown : s.vm.findClass RX7 = some m.cls := findClass_of_methodNamed B.named
  have hlocks := B.notSynchronized
  have hin7 : ∀ w ∈ u_ws RX7 TX7 26, w ∈ wsX7_comeDown := by decide +kernel
  subst hsz
  have hD := hD0.self (sz := s.heap.size)
  generalize hAe : va_A (ul_wM cI cZ aM M d) s.heap.size = A at hD ⊢
  have hA : ∀ q : Nat, s.heap.size ≤ q → A q := fun q h => by rw [← hAe]; exact Or.inr h
  have hS : va_S A s.heap s.heap [] := va_S.rf
  have hl := lv_entry ([.ref (aM 0), .int p1, .int p2]) (n := 3) (Nat.le_of_ble_eq_true rfl)
  rw [lg_entry_eq]
  generalize (lg_sl ([.ref (aM 0), .int p1, .int p2]) ++ List.replicate (3 - (lg_sl ([.ref (aM 0), .int p1, .int p2])).length) Slot.unset).toArray = ls at hl ⊢
  have hl : lv_has ls 3 [(0, .ref (aM 0)), (1, .int p1), (2, .int p2)] := hl
  obtain ⟨K0, hK0, h⟩ := ul_top h
  unfold f_X7_comeDown at h
  refine ul_gen (fun G gi ge => ?_)
  obtain ⟨H, eH⟩ : ∃ z, z = s.heap := ⟨_, rfl⟩
  obtain ⟨locs, eL⟩ : ∃ z : List Loc, z = [] := ⟨_, rfl⟩
  have hP : va_P (dC, dI) classes (ul_wM cI cZ aM M d) H := by rw [eH]; exact hP
  have hS : va_S A s.heap H locs := by rw [eH, eL]; exact hS
  rw [← eL]
  refine (show G H locs (F0 m 0 ls []) → G s.heap locs (F0 m 0 ls []) from fun z => by rw [← eH]; exact z) ?_
  refine gi _ _ _ ?_
  refine lv_aload_n hx hb dX7_comeDown_0 rfl (lv_at hl 0 rfl) ?_
  refine va_get (D := (dC, dI)) (ci := 7) (v := .ref (aM 6)) (C := RX7) (T := TX7) (N := 26) hx hb hts hin7 hown hK hP 0 rfl rfl 7 (by decide) (hts (.fieldLink RX7 25 "UnderLaddersModel" "now" "[I") (by decide +kernel)) (fun _ h9 => h9) rfl dX7_comeDown_1 ?_
  refine lv_bipush (v := 23) hx hb dX7_comeDown_4 (by decide) ?_
  refine lv_iload_n hx hb dX7_comeDown_6 rfl (lv_at hl 1 rfl) ?_
  refine lv_imul hx hb dX7_comeDown_7 ?_
  refine lv_iconst (v := 4) hx hb dX7_comeDown_8 (by decide) ?_
  refine lv_iadd hx hb dX7_comeDown_9 ?_
  refine lv_iload_n hx hb dX7_comeDown_10 rfl (lv_at hl 2 rfl) ?_
  refine lv_iadd hx hb dX7_comeDown_11 ?_
  refine lv_iconst (v := 0) hx hb dX7_comeDown_12 (by decide) ?_
  obtain ⟨hi2, h⟩ := ul_st_h h
  refine va_iast hx hb hK hP hD hS 6 0 rfl rfl hi2 dX7_comeDown_13 (fun H locs hP hD hS => ?_)
  obtain ⟨M1, eM1⟩ : ∃ z : ul_S, z = ul_up M 6 ((((23 : Int32) * p1) + (4 : Int32)) + p2).toNatClampNeg (0 : Int32) := ⟨_, rfl⟩
  have h := h M1 eM1
  have hP : va_P (dC, dI) classes (ul_wM cI cZ aM M1 d) H := by rw [eM1]; exact hP
  have hD : va_D A (ul_wM cI cZ aM M1 d) := by rw [eM1]; exact hD
  refine lv_aload_n hx hb dX7_comeDown_14 rfl (lv_at hl 0 rfl) ?_
  refine va_get (D := (dC, dI)) (ci := 7) (v := .ref (aM 6)) (C := RX7) (T := TX7) (N := 26) hx hb hts hin7 hown hK hP 0 rfl rfl 7 (by decide) (hts (.fieldLink RX7 25 "UnderLaddersModel" "now" "[I") (by decide +kernel)) (fun _ h9 => h9) rfl dX7_comeDown_15 ?_
  refine lv_bipush (v := 23) hx hb dX7_comeDown_18 (by decide) ?_
  refine lv_iload_n hx hb dX7_comeDown_20 rfl (lv_at hl 1 rfl) ?_
  refine lv_imul hx hb dX7_comeDown_21 ?_
  refine lv_bipush (v := 8) hx hb dX7_comeDown_22 (by decide) ?_
  refine lv_iadd hx hb dX7_comeDown_24 ?_
  refine lv_iload_n hx hb dX7_comeDown_25 rfl (lv_at hl 2 rfl) ?_
  refine lv_iadd hx hb dX7_comeDown_26 ?_
  refine lv_iconst (v := 0) hx hb dX7_comeDown_27 (by decide) ?_
  obtain ⟨hi4, h⟩ := ul_st_h h
  refine va_iast hx hb hK hP hD hS 6 0 rfl rfl hi4 dX7_comeDown_28 (fun H locs hP hD hS => ?_)
  obtain ⟨M3, eM3⟩ : ∃ z : ul_S, z = ul_up M1 6 ((((23 : Int32) * p1) + (8 : Int32)) + p2).toNatClampNeg (0 : Int32) := ⟨_, rfl⟩
  have h := h M3 eM3
  have hP : va_P (dC, dI) classes (ul_wM cI cZ aM M3 d) H := by rw [eM3]; exact hP
  have hD : va_D A (ul_wM cI cZ aM M3 d) := by rw [eM3]; exact hD
  have hr9 := hK0 M3 h
  subst hr9
  exact W.vret hx hb hr (fun t ht hW => ⟨⟨(), rfl, trivial, by rw [ht]; exact hP, va_K.moved hW.alike hK, hD⟩, hS.F ht⟩) hS.2.2 dX7_comeDown_29
def f_X7_down (M : ul_S) (p1 : Int32) : Option (Int32 × ul_S) :=
  (f_X7_isLadder M p1).bind fun u1 => if u1 = 0 then (some ((-1 : Int32), M)) else ((f_X7_keepAct M).bind fun u3 => ul_ld (u3 6) 46 ((8 : Int32) + p1) fun v4 => (f_X7_comeDown u3 (0 : Int32) p1).bind fun u6 => some (v4, u6))
set_option maxHeartbeats 4000000 in
set_option maxRecDepth 100000 in
theorem c_X7_down (l : Launch) (dC : Nat → ClassId) (dI : Nat → Nat → Nat) (cI : ClassId) (cZ : ClassId) (aM : Nat → Nat) (sz : Nat) (M : ul_S) (d : Int64) (p1 : Int32) (r : (Int32 × ul_S)) (h : f_X7_down M p1 = some r) : Met l yX7_down wsX7_down ({ frames := 2, cells := 0, slots := 0, locals := 46 }) (va_Pc [.ref (aM 0), .int p1] (ul_pre (dC, dI) [(cI, .int), (cZ, .boolean)] ul_N0 sz (ul_wM cI cZ aM M d))) (va_Qi (fun v (_ : Unit) => v = r.1) (fun _ => ul_post (dC, dI) [(cI, .int), (cZ, .boolean)] (va_A (ul_wM cI cZ aM M d) sz) (ul_wM cI cZ aM r.2 d)) (va_A (ul_wM cI cZ aM M d) sz)) 0 0 (va_A (ul_wM cI cZ aM M d) sz) := by
  refine Met.ofW (cc := cX7_down) (maxL := 3) (ret := (some .int)) (by decide) rfl ?_
  intro p e s m args below meth c s₁ B hml hv
  obtain ⟨rfl, hsz, hP, hK, hD0, hN⟩ := hv
  have hx := B.exec
  have hb := B.bytes
  have hr := B.returns
  have hts := atoms_spec (ws := wsX7_down) B.pre
  have hown : s.vm.findClass RX7 = some m.cls := findClass_of_methodNamed B.named
  have hlocks := B.notSynchronized
  have hin7 : ∀ w ∈ u_ws RX7 TX7 26, w ∈ wsX7_down := by decide +kernel
  subst hsz
  have hD := hD0.self (sz := s.heap.size)
  generalize hAe : va_A (ul_wM cI cZ aM M d) s.heap.size = A at hD ⊢
  have hA : ∀ q : Nat, s.heap.size ≤ q → A q := fun q h => by rw [← hAe]; exact Or.inr h
  have hS : va_S A s.heap s.heap [] := va_S.rf
  have hl := lv_entry ([.ref (aM 0), .int p1]) (n := 3) (Nat.le_of_ble_eq_true rfl)
  rw [lg_entry_eq]
  generalize (lg_sl ([.ref (aM 0), .int p1]) ++ List.replicate (3 - (lg_sl ([.ref (aM 0), .int p1])).length) Slot.unset).toArray = ls at hl ⊢
  have hl : lv_has ls 3 [(0, .ref (aM 0)), (1, .int p1)] := hl
  obtain ⟨K0, hK0, h⟩ := ul_top h
  unfold f_X7_down at h
  refine ul_gen (fun G gi ge => ?_)
  obtain ⟨H, eH⟩ : ∃ z, z = s.heap := ⟨_, rfl⟩
  obtain ⟨locs, eL⟩ : ∃ z : List Loc, z = [] := ⟨_, rfl⟩
  have hP : va_P (dC, dI) classes (ul_wM cI cZ aM M d) H := by rw [eH]; exact hP
  have hS : va_S A s.heap H locs := by rw [eH, eL]; exact hS
  rw [← eL]
  refine (show G H locs (F0 m 0 ls []) → G s.heap locs (F0 m 0 ls []) from fun z => by rw [← eH]; exact z) ?_
  refine gi _ _ _ ?_
  refine lv_aload_n hx hb dX7_down_0 rfl (lv_at hl 0 rfl) ?_
  refine lv_iload_n hx hb dX7_down_1 rfl (lv_at hl 1 rfl) ?_
  obtain ⟨u1, hu1, h⟩ := ul_cl_h h
  refine ul_cVi (As := [.int p1]) (rest := []) (wc' := (ul_wM cI cZ aM M d)) (wr := []) hP hD hS hK hA [0, 1, 2, 3, 4, 5, 6, 7, 8, 9, 10, 11, 12, 13, 14] [] [0, 1] ul_N0_ok trivial (c_X7_isLadder l dC dI cI cZ aM H.size M d p1 u1 hu1) rfl rfl (by decide) rfl (by decide) (by decide) rfl ⟨hx, hb, hml, hown, hts⟩ (cwV 1 hts gX7_down_X7_isLadder rfl rfl rfl (by decide +kernel) ⟨Nat.le_of_ble_eq_true rfl, Nat.le_of_ble_eq_true rfl⟩) (va_recv hK hP (ci := 7) (q0 := 0) rfl rfl) rfl hl.1 rfl (Nat.le_of_ble_eq_true rfl) dX7_down_2 (fun H locs hw => ?_)
  obtain ⟨hP, hD, hS⟩ := hw
  have hP : va_P (dC, dI) classes (ul_wM cI cZ aM M d) H := hP
  have hD : va_D A (ul_wM cI cZ aM M d) := hD
  refine lv_if_ne (tgt := 10) hx hb dX7_down_5 (by decide) (fun hc2 => ?_) (fun hc2 => ?_)
  · have h := ul_if_f hc2 h
    refine lv_aload_n hx hb dX7_down_10 rfl (lv_at hl 0 rfl) ?_
    obtain ⟨u3, hu3, h⟩ := ul_cl_h h
    refine ul_cVv (As := []) (rest := []) (wc' := (ul_wM cI cZ aM u3 d)) (wr := []) hP hD hS hK hA [0, 1, 2, 3, 4, 5, 6, 7, 8, 9, 10, 11, 12, 13, 14] [] [0, 1] ul_N0_ok trivial (c_X7_keepAct l dC dI cI cZ aM H.size M d u3 hu3) rfl rfl (by decide) rfl (by decide) (by decide) rfl ⟨hx, hb, hml, hown, hts⟩ (cwV 0 hts gX7_down_X7_keepAct rfl rfl rfl (by decide +kernel) ⟨Nat.le_of_ble_eq_true rfl, Nat.le_of_ble_eq_true rfl⟩) (va_recv hK hP (ci := 7) (q0 := 0) rfl rfl) rfl hl.1 rfl (Nat.le_of_ble_eq_true rfl) dX7_down_11 (fun H locs hw => ?_)
    obtain ⟨hP, hD, hS⟩ := hw
    have hP : va_P (dC, dI) classes (ul_wM cI cZ aM u3 d) H := hP
    have hD : va_D A (ul_wM cI cZ aM u3 d) := hD
    refine lv_aload_n hx hb dX7_down_14 rfl (lv_at hl 0 rfl) ?_
    refine va_get (D := (dC, dI)) (ci := 7) (v := .ref (aM 6)) (C := RX7) (T := TX7) (N := 26) hx hb hts hin7 hown hK hP 0 rfl rfl 7 (by decide) (hts (.fieldLink RX7 25 "UnderLaddersModel" "now" "[I") (by decide +kernel)) (fun _ h9 => h9) rfl dX7_down_15 ?_
    refine lv_bipush (v := 8) hx hb dX7_down_18 (by decide) ?_
    refine lv_iload_n hx hb dX7_down_20 rfl (lv_at hl 1 rfl) ?_
    refine lv_iadd hx hb dX7_down_21 ?_
    obtain ⟨hi5, h⟩ := ul_ld_h h
    refine va_iald hx hb hK hP 6 0 rfl rfl hi5 dX7_down_22 ?_
    refine lv_topi (fun v4 ev4 => ?_)
    have h := h v4 ev4
    refine lv_istore_n (lv' := [(2, .int v4), (0, .ref (aM 0)), (1, .int p1)]) hx hb dX7_down_23 rfl hl (by decide) rfl (fun ls hl => ?_)
    refine lv_aload_n hx hb dX7_down_24 rfl (lv_at hl 1 rfl) ?_
    refine lv_iconst (v := 0) hx hb dX7_down_25 (by decide) ?_
    refine lv_iload_n hx hb dX7_down_26 rfl (lv_at hl 2 rfl) ?_
    obtain ⟨u6, hu6, h⟩ := ul_cl_h h
    refine ul_cVv (As := [.int (0 : Int32), .int p1]) (rest := []) (wc' := (ul_wM cI cZ aM u6 d)) (wr := []) hP hD hS hK hA [0, 1, 2, 3, 4, 5, 6, 7, 8, 9, 10, 11, 12, 13, 14] [] [0, 1] ul_N0_ok trivial (c_X7_comeDown l dC dI cI cZ aM H.size u3 d (0 : Int32) p1 u6 hu6) rfl rfl (by decide) rfl (by decide) (by decide) rfl ⟨hx, hb, hml, hown, hts⟩ (cwV 2 hts gX7_down_X7_comeDown rfl rfl rfl (by decide +kernel) ⟨Nat.le_of_ble_eq_true rfl, Nat.le_of_ble_eq_true rfl⟩) (va_recv hK hP (ci := 7) (q0 := 0) rfl rfl) rfl hl.1 rfl (Nat.le_of_ble_eq_true rfl) dX7_down_27 (fun H locs hw => ?_)
    obtain ⟨hP, hD, hS⟩ := hw
    have hP : va_P (dC, dI) classes (ul_wM cI cZ aM u6 d) H := hP
    have hD : va_D A (ul_wM cI cZ aM u6 d) := hD
    refine lv_iload_n hx hb dX7_down_30 rfl (lv_at hl 0 rfl) ?_
    have hr9 := hK0 (v4, u6) h
    subst hr9
    exact W.iret (v := v4) hx hb hr (fun t ht hW => ⟨⟨v4, (), rfl, rfl, by rw [ht]; exact hP, va_K.moved hW.alike hK, hD⟩, hS.F ht⟩) hS.2.2 dX7_down_31
  · have h := ul_if_t hc2 h
    refine lv_iconst (v := -1) hx hb dX7_down_8 (by decide) ?_
    have hr9 := hK0 ((-1 : Int32), M) h
    subst hr9
    exact W.iret (v := (-1 : Int32)) hx hb hr (fun t ht hW => ⟨⟨(-1 : Int32), (), rfl, rfl, by rw [ht]; exact hP, va_K.moved hW.alike hK, hD⟩, hS.F ht⟩) hS.2.2 dX7_down_9
def f_X7_giveOn (M : ul_S) (p1 : Int32) (p2 : Int32) (p3 : Int32) : Option ul_S :=
  ul_bd ((((23 : Int32) * p1) + (17 : Int32)) + p2) fun v1 => ul_ld (M 6) 46 v1 fun v2 => (f_X7_lesser (99 : Int32) (v2 + p3)).bind fun u4 => ul_st M 6 46 v1 u4 fun M5 => some M5
set_option maxHeartbeats 4000000 in
set_option maxRecDepth 100000 in
theorem c_X7_giveOn (l : Launch) (dC : Nat → ClassId) (dI : Nat → Nat → Nat) (cI : ClassId) (cZ : ClassId) (aM : Nat → Nat) (sz : Nat) (M : ul_S) (d : Int64) (p1 : Int32) (p2 : Int32) (p3 : Int32) (r : ul_S) (h : f_X7_giveOn M p1 p2 p3 = some r) : Met l yX7_giveOn wsX7_giveOn ({ frames := 1, cells := 0, slots := 0, locals := 21 }) (va_Pc [.ref (aM 0), .int p1, .int p2, .int p3] (ul_pre (dC, dI) [(cI, .int), (cZ, .boolean)] ul_N0 sz (ul_wM cI cZ aM M d))) (va_Qv (fun (_ : Unit) => True) (fun _ => ul_post (dC, dI) [(cI, .int), (cZ, .boolean)] (va_A (ul_wM cI cZ aM M d) sz) (ul_wM cI cZ aM r d)) (va_A (ul_wM cI cZ aM M d) sz)) 0 0 (va_A (ul_wM cI cZ aM M d) sz) := by
  refine Met.ofW (cc := cX7_giveOn) (maxL := 5) (ret := none) (by decide) rfl ?_
  intro p e s m args below meth c s₁ B hml hv
  obtain ⟨rfl, hsz, hP, hK, hD0, hN⟩ := hv
  have hx := B.exec
  have hb := B.bytes
  have hr := B.returns
  have hts := atoms_spec (ws := wsX7_giveOn) B.pre
  have hown : s.vm.findClass RX7 = some m.cls := findClass_of_methodNamed B.named
  have hlocks := B.notSynchronized
  have hin7 : ∀ w ∈ u_ws RX7 TX7 26, w ∈ wsX7_giveOn := by decide +kernel
  subst hsz
  have hD := hD0.self (sz := s.heap.size)
  generalize hAe : va_A (ul_wM cI cZ aM M d) s.heap.size = A at hD ⊢
  have hA : ∀ q : Nat, s.heap.size ≤ q → A q := fun q h => by rw [← hAe]; exact Or.inr h
  have hS : va_S A s.heap s.heap [] := va_S.rf
  have hl := lv_entry ([.ref (aM 0), .int p1, .int p2, .int p3]) (n := 5) (Nat.le_of_ble_eq_true rfl)
  rw [lg_entry_eq]
  generalize (lg_sl ([.ref (aM 0), .int p1, .int p2, .int p3]) ++ List.replicate (5 - (lg_sl ([.ref (aM 0), .int p1, .int p2, .int p3])).length) Slot.unset).toArray = ls at hl ⊢
  have hl : lv_has ls 5 [(0, .ref (aM 0)), (1, .int p1), (2, .int p2), (3, .int p3)] := hl
  obtain ⟨K0, hK0, h⟩ := ul_top h
  unfold f_X7_giveOn at h
  refine ul_gen (fun G gi ge => ?_)
  obtain ⟨H, eH⟩ : ∃ z, z = s.heap := ⟨_, rfl⟩
  obtain ⟨locs, eL⟩ : ∃ z : List Loc, z = [] := ⟨_, rfl⟩
  have hP : va_P (dC, dI) classes (ul_wM cI cZ aM M d) H := by rw [eH]; exact hP
  have hS : va_S A s.heap H locs := by rw [eH, eL]; exact hS
  rw [← eL]
  refine (show G H locs (F0 m 0 ls []) → G s.heap locs (F0 m 0 ls []) from fun z => by rw [← eH]; exact z) ?_
  refine gi _ _ _ ?_
  refine lv_bipush (v := 23) hx hb dX7_giveOn_0 (by decide) ?_
  refine lv_iload_n hx hb dX7_giveOn_2 rfl (lv_at hl 1 rfl) ?_
  refine lv_imul hx hb dX7_giveOn_3 ?_
  refine lv_bipush (v := 17) hx hb dX7_giveOn_4 (by decide) ?_
  refine lv_iadd hx hb dX7_giveOn_6 ?_
  refine lv_iload_n hx hb dX7_giveOn_7 rfl (lv_at hl 2 rfl) ?_
  refine lv_iadd hx hb dX7_giveOn_8 ?_
  refine lv_topi (fun v1 ev1 => ?_)
  have h := ul_bd_h h v1 ev1
  refine lv_istore (lv' := [(4, .int v1), (0, .ref (aM 0)), (1, .int p1), (2, .int p2), (3, .int p3)]) hx hb dX7_giveOn_9 hl (by decide) rfl (fun ls hl => ?_)
  refine lv_aload_n hx hb dX7_giveOn_11 rfl (lv_at hl 1 rfl) ?_
  refine va_get (D := (dC, dI)) (ci := 7) (v := .ref (aM 6)) (C := RX7) (T := TX7) (N := 26) hx hb hts hin7 hown hK hP 0 rfl rfl 7 (by decide) (hts (.fieldLink RX7 25 "UnderLaddersModel" "now" "[I") (by decide +kernel)) (fun _ h9 => h9) rfl dX7_giveOn_12 ?_
  refine lv_iload hx hb dX7_giveOn_15 (lv_at hl 0 rfl) ?_
  refine lv_bipush (v := 99) hx hb dX7_giveOn_17 (by decide) ?_
  refine lv_aload_n hx hb dX7_giveOn_19 rfl (lv_at hl 1 rfl) ?_
  refine va_get (D := (dC, dI)) (ci := 7) (v := .ref (aM 6)) (C := RX7) (T := TX7) (N := 26) hx hb hts hin7 hown hK hP 0 rfl rfl 7 (by decide) (hts (.fieldLink RX7 25 "UnderLaddersModel" "now" "[I") (by decide +kernel)) (fun _ h9 => h9) rfl dX7_giveOn_20 ?_
  refine lv_iload hx hb dX7_giveOn_23 (lv_at hl 0 rfl) ?_
  obtain ⟨hi3, h⟩ := ul_ld_h h
  refine va_iald hx hb hK hP 6 0 rfl rfl hi3 dX7_giveOn_25 ?_
  refine lv_topi (fun v2 ev2 => ?_)
  have h := h v2 ev2
  refine lv_iload_n hx hb dX7_giveOn_26 rfl (lv_at hl 4 rfl) ?_
  refine lv_iadd hx hb dX7_giveOn_27 ?_
  obtain ⟨u4, hu4, h⟩ := ul_cl_h h
  refine ul_cSi (As := [.int (99 : Int32), .int (v2 + p3)]) (rest := [.int v1, .ref (aM 6)]) hP hD hS hK hA (c_X7_lesser l dC dI H.size (99 : Int32) (v2 + p3) u4 hu4) ⟨hx, hb, hml, hown, hts⟩ (cwS 2 hts gX7_giveOn_X7_lesser rfl rfl rfl (by decide +kernel) ⟨Nat.le_of_ble_eq_true rfl, Nat.le_of_ble_eq_true rfl⟩) rfl hl.1 rfl (Nat.le_of_ble_eq_true rfl) dX7_giveOn_28 (fun H locs hw => ?_)
  obtain ⟨hP, hD, hS⟩ := hw
  obtain ⟨hi6, h⟩ := ul_st_h h
  refine va_iast hx hb hK hP hD hS 6 0 rfl rfl hi6 dX7_giveOn_31 (fun H locs hP hD hS => ?_)
  obtain ⟨M5, eM5⟩ : ∃ z : ul_S, z = ul_up M 6 v1.toNatClampNeg u4 := ⟨_, rfl⟩
  have h := h M5 eM5
  have hP : va_P (dC, dI) classes (ul_wM cI cZ aM M5 d) H := by rw [eM5]; exact hP
  have hD : va_D A (ul_wM cI cZ aM M5 d) := by rw [eM5]; exact hD
  have hr9 := hK0 M5 h
  subst hr9
  exact W.vret hx hb hr (fun t ht hW => ⟨⟨(), rfl, trivial, by rw [ht]; exact hP, va_K.moved hW.alike hK, hD⟩, hS.F ht⟩) hS.2.2 dX7_giveOn_32
def f_X7_give (M : ul_S) (p1 : Int32) (p2 : Int32) : Option (Int32 × ul_S) :=
  (f_X7_isPerson M p1).bind fun u1 => if u1 = 0 then (some ((-1 : Int32), M)) else ((f_X7_in p2.toInt64 (1 : Int64) (9 : Int64)).bind fun u3 => if u3 = 0 then (some ((-2 : Int32), M)) else ((f_X7_keepAct M).bind fun u5 => (f_X7_giveOn u5 (0 : Int32) p1 p2).bind fun u6 => ul_ld (u6 6) 46 ((17 : Int32) + p1) fun v7 => some (v7, u6)))
set_option maxHeartbeats 4000000 in
set_option maxRecDepth 100000 in
theorem c_X7_give (l : Launch) (dC : Nat → ClassId) (dI : Nat → Nat → Nat) (cI : ClassId) (cZ : ClassId) (aM : Nat → Nat) (sz : Nat) (M : ul_S) (d : Int64) (p1 : Int32) (p2 : Int32) (r : (Int32 × ul_S)) (h : f_X7_give M p1 p2 = some r) : Met l yX7_give wsX7_give ({ frames := 2, cells := 0, slots := 0, locals := 46 }) (va_Pc [.ref (aM 0), .int p1, .int p2] (ul_pre (dC, dI) [(cI, .int), (cZ, .boolean)] ul_N0 sz (ul_wM cI cZ aM M d))) (va_Qi (fun v (_ : Unit) => v = r.1) (fun _ => ul_post (dC, dI) [(cI, .int), (cZ, .boolean)] (va_A (ul_wM cI cZ aM M d) sz) (ul_wM cI cZ aM r.2 d)) (va_A (ul_wM cI cZ aM M d) sz)) 0 0 (va_A (ul_wM cI cZ aM M d) sz) := by
  refine Met.ofW (cc := cX7_give) (maxL := 3) (ret := (some .int)) (by decide) rfl ?_
  intro p e s m args below meth c s₁ B hml hv
  obtain ⟨rfl, hsz, hP, hK, hD0, hN⟩ := hv
  have hx := B.exec
  have hb := B.bytes
  have hr := B.returns
  have hts := atoms_spec (ws := wsX7_give) B.pre
  have hown : s.vm.findClass RX7 = some m.cls := findClass_of_methodNamed B.named
  have hlocks := B.notSynchronized
  have hin7 : ∀ w ∈ u_ws RX7 TX7 26, w ∈ wsX7_give := by decide +kernel
  subst hsz
  have hD := hD0.self (sz := s.heap.size)
  generalize hAe : va_A (ul_wM cI cZ aM M d) s.heap.size = A at hD ⊢
  have hA : ∀ q : Nat, s.heap.size ≤ q → A q := fun q h => by rw [← hAe]; exact Or.inr h
  have hS : va_S A s.heap s.heap [] := va_S.rf
  have hl := lv_entry ([.ref (aM 0), .int p1, .int p2]) (n := 3) (Nat.le_of_ble_eq_true rfl)
  rw [lg_entry_eq]
  generalize (lg_sl ([.ref (aM 0), .int p1, .int p2]) ++ List.replicate (3 - (lg_sl ([.ref (aM 0), .int p1, .int p2])).length) Slot.unset).toArray = ls at hl ⊢
  have hl : lv_has ls 3 [(0, .ref (aM 0)), (1, .int p1), (2, .int p2)] := hl
  obtain ⟨K0, hK0, h⟩ := ul_top h
  unfold f_X7_give at h
  refine ul_gen (fun G gi ge => ?_)
  obtain ⟨H, eH⟩ : ∃ z, z = s.heap := ⟨_, rfl⟩
  obtain ⟨locs, eL⟩ : ∃ z : List Loc, z = [] := ⟨_, rfl⟩
  have hP : va_P (dC, dI) classes (ul_wM cI cZ aM M d) H := by rw [eH]; exact hP
  have hS : va_S A s.heap H locs := by rw [eH, eL]; exact hS
  rw [← eL]
  refine (show G H locs (F0 m 0 ls []) → G s.heap locs (F0 m 0 ls []) from fun z => by rw [← eH]; exact z) ?_
  refine gi _ _ _ ?_
  refine lv_aload_n hx hb dX7_give_0 rfl (lv_at hl 0 rfl) ?_
  refine lv_iload_n hx hb dX7_give_1 rfl (lv_at hl 1 rfl) ?_
  obtain ⟨u1, hu1, h⟩ := ul_cl_h h
  refine ul_cVi (As := [.int p1]) (rest := []) (wc' := (ul_wM cI cZ aM M d)) (wr := []) hP hD hS hK hA [0, 1, 2, 3, 4, 5, 6, 7, 8, 9, 10, 11, 12, 13, 14] [] [0, 1] ul_N0_ok trivial (c_X7_isPerson l dC dI cI cZ aM H.size M d p1 u1 hu1) rfl rfl (by decide) rfl (by decide) (by decide) rfl ⟨hx, hb, hml, hown, hts⟩ (cwV 1 hts gX7_give_X7_isPerson rfl rfl rfl (by decide +kernel) ⟨Nat.le_of_ble_eq_true rfl, Nat.le_of_ble_eq_true rfl⟩) (va_recv hK hP (ci := 7) (q0 := 0) rfl rfl) rfl hl.1 rfl (Nat.le_of_ble_eq_true rfl) dX7_give_2 (fun H locs hw => ?_)
  obtain ⟨hP, hD, hS⟩ := hw
  have hP : va_P (dC, dI) classes (ul_wM cI cZ aM M d) H := hP
  have hD : va_D A (ul_wM cI cZ aM M d) := hD
  refine lv_if_ne (tgt := 10) hx hb dX7_give_5 (by decide) (fun hc2 => ?_) (fun hc2 => ?_)
  · have h := ul_if_f hc2 h
    refine lv_iload_n hx hb dX7_give_10 rfl (lv_at hl 2 rfl) ?_
    refine lv_i2l hx hb dX7_give_11 rfl ?_
    refine lv_lconst (v := 1) hx hb dX7_give_12 (by decide) ?_
    refine lv_ldc2 (v := 9) hx hb hown (hts (.constantLong RX7 69 (9)) (by decide +kernel)) dX7_give_13 ?_
    obtain ⟨u3, hu3, h⟩ := ul_cl_h h
    refine ul_cSi (As := [.long p2.toInt64, .long (1 : Int64), .long (9 : Int64)]) (rest := []) hP hD hS hK hA (c_X7_in l dC dI H.size p2.toInt64 (1 : Int64) (9 : Int64) u3 hu3) ⟨hx, hb, hml, hown, hts⟩ (cwS 3 hts gX7_give_X7_in rfl rfl rfl (by decide +kernel) ⟨Nat.le_of_ble_eq_true rfl, Nat.le_of_ble_eq_true rfl⟩) rfl hl.1 rfl (Nat.le_of_ble_eq_true rfl) dX7_give_16 (fun H locs hw => ?_)
    obtain ⟨hP, hD, hS⟩ := hw
    refine lv_if_ne (tgt := 25) hx hb dX7_give_19 (by decide) (fun hc4 => ?_) (fun hc4 => ?_)
    · have h := ul_if_f hc4 h
      refine lv_aload_n hx hb dX7_give_25 rfl (lv_at hl 0 rfl) ?_
      obtain ⟨u5, hu5, h⟩ := ul_cl_h h
      refine ul_cVv (As := []) (rest := []) (wc' := (ul_wM cI cZ aM u5 d)) (wr := []) hP hD hS hK hA [0, 1, 2, 3, 4, 5, 6, 7, 8, 9, 10, 11, 12, 13, 14] [] [0, 1] ul_N0_ok trivial (c_X7_keepAct l dC dI cI cZ aM H.size M d u5 hu5) rfl rfl (by decide) rfl (by decide) (by decide) rfl ⟨hx, hb, hml, hown, hts⟩ (cwV 0 hts gX7_give_X7_keepAct rfl rfl rfl (by decide +kernel) ⟨Nat.le_of_ble_eq_true rfl, Nat.le_of_ble_eq_true rfl⟩) (va_recv hK hP (ci := 7) (q0 := 0) rfl rfl) rfl hl.1 rfl (Nat.le_of_ble_eq_true rfl) dX7_give_26 (fun H locs hw => ?_)
      obtain ⟨hP, hD, hS⟩ := hw
      have hP : va_P (dC, dI) classes (ul_wM cI cZ aM u5 d) H := hP
      have hD : va_D A (ul_wM cI cZ aM u5 d) := hD
      refine lv_aload_n hx hb dX7_give_29 rfl (lv_at hl 0 rfl) ?_
      refine lv_iconst (v := 0) hx hb dX7_give_30 (by decide) ?_
      refine lv_iload_n hx hb dX7_give_31 rfl (lv_at hl 1 rfl) ?_
      refine lv_iload_n hx hb dX7_give_32 rfl (lv_at hl 2 rfl) ?_
      obtain ⟨u6, hu6, h⟩ := ul_cl_h h
      refine ul_cVv (As := [.int (0 : Int32), .int p1, .int p2]) (rest := []) (wc' := (ul_wM cI cZ aM u6 d)) (wr := []) hP hD hS hK hA [0, 1, 2, 3, 4, 5, 6, 7, 8, 9, 10, 11, 12, 13, 14] [] [0, 1] ul_N0_ok trivial (c_X7_giveOn l dC dI cI cZ aM H.size u5 d (0 : Int32) p1 p2 u6 hu6) rfl rfl (by decide) rfl (by decide) (by decide) rfl ⟨hx, hb, hml, hown, hts⟩ (cwV 3 hts gX7_give_X7_giveOn rfl rfl rfl (by decide +kernel) ⟨Nat.le_of_ble_eq_true rfl, Nat.le_of_ble_eq_true rfl⟩) (va_recv hK hP (ci := 7) (q0 := 0) rfl rfl) rfl hl.1 rfl (Nat.le_of_ble_eq_true rfl) dX7_give_33 (fun H locs hw => ?_)
      obtain ⟨hP, hD, hS⟩ := hw
      have hP : va_P (dC, dI) classes (ul_wM cI cZ aM u6 d) H := hP
      have hD : va_D A (ul_wM cI cZ aM u6 d) := hD
      refine lv_aload_n hx hb dX7_give_36 rfl (lv_at hl 0 rfl) ?_
      refine va_get (D := (dC, dI)) (ci := 7) (v := .ref (aM 6)) (C := RX7) (T := TX7) (N := 26) hx hb hts hin7 hown hK hP 0 rfl rfl 7 (by decide) (hts (.fieldLink RX7 25 "UnderLaddersModel" "now" "[I") (by decide +kernel)) (fun _ h9 => h9) rfl dX7_give_37 ?_
      refine lv_bipush (v := 17) hx hb dX7_give_40 (by decide) ?_
      refine lv_iload_n hx hb dX7_give_42 rfl (lv_at hl 1 rfl) ?_
      refine lv_iadd hx hb dX7_give_43 ?_
      obtain ⟨hi8, h⟩ := ul_ld_h h
      refine va_iald hx hb hK hP 6 0 rfl rfl hi8 dX7_give_44 ?_
      refine lv_topi (fun v7 ev7 => ?_)
      have h := h v7 ev7
      have hr9 := hK0 (v7, u6) h
      subst hr9
      exact W.iret (v := v7) hx hb hr (fun t ht hW => ⟨⟨v7, (), rfl, rfl, by rw [ht]; exact hP, va_K.moved hW.alike hK, hD⟩, hS.F ht⟩) hS.2.2 dX7_give_45
    · have h := ul_if_t hc4 h
      refine lv_bipush (v := -2) hx hb dX7_give_22 (by decide) ?_
      have hr9 := hK0 ((-2 : Int32), M) h
      subst hr9
      exact W.iret (v := (-2 : Int32)) hx hb hr (fun t ht hW => ⟨⟨(-2 : Int32), (), rfl, rfl, by rw [ht]; exact hP, va_K.moved hW.alike hK, hD⟩, hS.F ht⟩) hS.2.2 dX7_give_24
  · have h := ul_if_t hc2 h
    refine lv_iconst (v := -1) hx hb dX7_give_8 (by decide) ?_
    have hr9 := hK0 ((-1 : Int32), M) h
    subst hr9
    exact W.iret (v := (-1 : Int32)) hx hb hr (fun t ht hW => ⟨⟨(-1 : Int32), (), rfl, rfl, by rw [ht]; exact hP, va_K.moved hW.alike hK, hD⟩, hS.F ht⟩) hS.2.2 dX7_give_9
def f_X7_undo_j68 (x1 : Int32) (M__68 : ul_S) : Option (Int32 × ul_S) :=
  some ((M__68 0 8), M__68)
def f_X7_undo_L36 (q36 : (Int32 × ul_S)) : Option ((Int32 × ul_S) ⊕ (Int32 × ul_S)) :=
  if (23 : Int32) ≤ q36.1 then (some (.inl (q36.1, q36.2))) else (ul_ld (q36.2 10) 322 (((23 : Int32) * (q36.2 0 9)) + q36.1) fun v7 => ul_st q36.2 6 46 q36.1 v7 fun M9 => ul_bd (q36.1 + 1) fun v11 => some (.inr (v11, M9)))
def f_X7_undo (M : ul_S) : Option (Int32 × ul_S) :=
  if (M 0 8) = 0 then (some ((-3 : Int32), M)) else (ul_bd ((M 0 8) - (1 : Int32)) fun v2 => ul_bd (ul_up M 0 8 v2) fun M3 => ul_bd (((M3 0 9) + (13 : Int32)) - ((M3 0 9) + (13 : Int32)) / (14 : Int32) * (14 : Int32)) fun v4 => ul_bd (ul_up M3 0 9 v4) fun M5 => (ul_it ul_N (f_X7_undo_L36) ((0 : Int32), M5)).bind (fun e36 => f_X7_undo_j68 e36.1 e36.2))
set_option maxHeartbeats 4000000 in
set_option maxRecDepth 100000 in
theorem c_X7_undo (l : Launch) (dC : Nat → ClassId) (dI : Nat → Nat → Nat) (cI : ClassId) (cZ : ClassId) (aM : Nat → Nat) (sz : Nat) (M : ul_S) (d : Int64) (r : (Int32 × ul_S)) (h : f_X7_undo M = some r) : Met l yX7_undo wsX7_undo ({ frames := 0, cells := 0, slots := 0, locals := 0 }) (va_Pc [.ref (aM 0)] (ul_pre (dC, dI) [(cI, .int), (cZ, .boolean)] ul_N0 sz (ul_wM cI cZ aM M d))) (va_Qi (fun v (_ : Unit) => v = r.1) (fun _ => ul_post (dC, dI) [(cI, .int), (cZ, .boolean)] (va_A (ul_wM cI cZ aM M d) sz) (ul_wM cI cZ aM r.2 d)) (va_A (ul_wM cI cZ aM M d) sz)) 0 0 (va_A (ul_wM cI cZ aM M d) sz) := by
  refine Met.ofW (cc := cX7_undo) (maxL := 2) (ret := (some .int)) (by decide) rfl ?_
  intro p e s m args below meth c s₁ B hml hv
  obtain ⟨rfl, hsz, hP, hK, hD0, hN⟩ := hv
  have hx := B.exec
  have hb := B.bytes
  have hr := B.returns
  have hts := atoms_spec (ws := wsX7_undo) B.pre
  have hown : s.vm.findClass RX7 = some m.cls := findClass_of_methodNamed B.named
  have hlocks := B.notSynchronized
  have hin7 : ∀ w ∈ u_ws RX7 TX7 26, w ∈ wsX7_undo := by decide +kernel
  subst hsz
  have hD := hD0.self (sz := s.heap.size)
  generalize hAe : va_A (ul_wM cI cZ aM M d) s.heap.size = A at hD ⊢
  have hA : ∀ q : Nat, s.heap.size ≤ q → A q := fun q h => by rw [← hAe]; exact Or.inr h
  have hS : va_S A s.heap s.heap [] := va_S.rf
  have hl := lv_entry ([.ref (aM 0)]) (n := 2) (Nat.le_of_ble_eq_true rfl)
  rw [lg_entry_eq]
  generalize (lg_sl ([.ref (aM 0)]) ++ List.replicate (2 - (lg_sl ([.ref (aM 0)])).length) Slot.unset).toArray = ls at hl ⊢
  have hl : lv_has ls 2 [(0, .ref (aM 0))] := hl
  obtain ⟨K0, hK0, h⟩ := ul_top h
  unfold f_X7_undo at h
  refine ul_gen (fun G gi ge => ?_)
  obtain ⟨H, eH⟩ : ∃ z, z = s.heap := ⟨_, rfl⟩
  obtain ⟨locs, eL⟩ : ∃ z : List Loc, z = [] := ⟨_, rfl⟩
  have hP : va_P (dC, dI) classes (ul_wM cI cZ aM M d) H := by rw [eH]; exact hP
  have hS : va_S A s.heap H locs := by rw [eH, eL]; exact hS
  rw [← eL]
  refine (show G H locs (F0 m 0 ls []) → G s.heap locs (F0 m 0 ls []) from fun z => by rw [← eH]; exact z) ?_
  have J68 : ∀ (x1 : Int32) (M__68 : ul_S) (H : Heap) (locs : List Loc), ul_H (dC, dI) A s.heap (ul_wM cI cZ aM M__68 d) H locs → ∀ ls : Array Slot, lv_has ls 2 [(0, .ref (aM 0)), (1, .int x1)] → (f_X7_undo_j68 x1 M__68).bind K0 = some r → G H locs (F0 m 68 ls []) := by
    intro x1 M__68 H locs hw ls hl h
    obtain ⟨hP, hD, hS⟩ := hw
    unfold f_X7_undo_j68 at h
    refine gi _ _ _ ?_
    refine lv_aload_n hx hb dX7_undo_68 rfl (lv_at hl 0 rfl) ?_
    refine va_get (D := (dC, dI)) (ci := 7) (v := .int (M__68 0 8)) (C := RX7) (T := TX7) (N := 26) hx hb hts hin7 hown hK hP 0 rfl rfl 17 (by decide) (hts (.fieldLink RX7 102 "UnderLaddersModel" "acts" "I") (by decide +kernel)) (fun _ h9 => h9) rfl dX7_undo_69 ?_
    have hr9 := hK0 ((M__68 0 8), M__68) h
    subst hr9
    exact W.iret (v := (M__68 0 8)) hx hb hr (fun t ht hW => ⟨⟨(M__68 0 8), (), rfl, rfl, by rw [ht]; exact hP, va_K.moved hW.alike hK, hD⟩, hS.F ht⟩) hS.2.2 dX7_undo_72
  refine gi _ _ _ ?_
  refine lv_aload_n hx hb dX7_undo_0 rfl (lv_at hl 0 rfl) ?_
  refine va_get (D := (dC, dI)) (ci := 7) (v := .int (M 0 8)) (C := RX7) (T := TX7) (N := 26) hx hb hts hin7 hown hK hP 0 rfl rfl 17 (by decide) (hts (.fieldLink RX7 102 "UnderLaddersModel" "acts" "I") (by decide +kernel)) (fun _ h9 => h9) rfl dX7_undo_1 ?_
  refine lv_if_ne (tgt := 10) hx hb dX7_undo_4 (by decide) (fun hc1 => ?_) (fun hc1 => ?_)
  · have h := ul_if_f hc1 h
    refine lv_aload_n hx hb dX7_undo_10 rfl (lv_at hl 0 rfl) ?_
    refine lv_dup hx hb dX7_undo_11 rfl ?_
    refine va_get (D := (dC, dI)) (ci := 7) (v := .int (M 0 8)) (C := RX7) (T := TX7) (N := 26) hx hb hts hin7 hown hK hP 0 rfl rfl 17 (by decide) (hts (.fieldLink RX7 102 "UnderLaddersModel" "acts" "I") (by decide +kernel)) (fun _ h9 => h9) rfl dX7_undo_12 ?_
    refine lv_iconst (v := 1) hx hb dX7_undo_15 (by decide) ?_
    refine lv_isub hx hb dX7_undo_16 ?_
    refine lv_topi (fun v2 ev2 => ?_)
    have h := ul_bd_h h v2 ev2
    refine va_put (D := (dC, dI)) (ci := 7) (v := .int v2) (ty := .int) (C := RX7) (T := TX7) (N := 26) hx hb hts hin7 tyX7 tyX7_ok nmX7 hown hK hP hD hS 0 rfl rfl 17 (by decide) (hts (.fieldLink RX7 102 "UnderLaddersModel" "acts" "I") (by decide +kernel)) (fun _ h9 => h9) rfl (by decide +kernel) rfl rfl (Nat.le_of_ble_eq_true rfl) dX7_undo_17 (fun H locs hP hD hS => ?_)
    obtain ⟨M3, eM3⟩ : ∃ z : ul_S, z = ul_up M 0 8 v2 := ⟨_, rfl⟩
    have h := ul_bd_h h M3 eM3
    have hP : va_P (dC, dI) classes (ul_wM cI cZ aM M3 d) H := by rw [eM3]; exact hP
    have hD : va_D A (ul_wM cI cZ aM M3 d) := by rw [eM3]; exact hD
    refine lv_aload_n hx hb dX7_undo_20 rfl (lv_at hl 0 rfl) ?_
    refine lv_aload_n hx hb dX7_undo_21 rfl (lv_at hl 0 rfl) ?_
    refine va_get (D := (dC, dI)) (ci := 7) (v := .int (M3 0 9)) (C := RX7) (T := TX7) (N := 26) hx hb hts hin7 hown hK hP 0 rfl rfl 18 (by decide) (hts (.fieldLink RX7 140 "UnderLaddersModel" "next" "I") (by decide +kernel)) (fun _ h9 => h9) rfl dX7_undo_22 ?_
    refine lv_bipush (v := 13) hx hb dX7_undo_25 (by decide) ?_
    refine lv_iadd hx hb dX7_undo_27 ?_
    refine lv_bipush (v := 14) hx hb dX7_undo_28 (by decide) ?_
    refine lv_irem hx hb dX7_undo_30 (by decide) ?_
    refine lv_topi (fun v4 ev4 => ?_)
    have h := ul_bd_h h v4 ev4
    refine va_put (D := (dC, dI)) (ci := 7) (v := .int v4) (ty := .int) (C := RX7) (T := TX7) (N := 26) hx hb hts hin7 tyX7 tyX7_ok nmX7 hown hK hP hD hS 0 rfl rfl 18 (by decide) (hts (.fieldLink RX7 140 "UnderLaddersModel" "next" "I") (by decide +kernel)) (fun _ h9 => h9) rfl (by decide +kernel) rfl rfl (Nat.le_of_ble_eq_true rfl) dX7_undo_31 (fun H locs hP hD hS => ?_)
    obtain ⟨M5, eM5⟩ : ∃ z : ul_S, z = ul_up M3 0 9 v4 := ⟨_, rfl⟩
    have h := ul_bd_h h M5 eM5
    have hP : va_P (dC, dI) classes (ul_wM cI cZ aM M5 d) H := by rw [eM5]; exact hP
    have hD : va_D A (ul_wM cI cZ aM M5 d) := by rw [eM5]; exact hD
    refine lv_iconst (v := 0) hx hb dX7_undo_34 (by decide) ?_
    refine lv_istore_n (lv' := [(1, .int (0 : Int32)), (0, .ref (aM 0))]) hx hb dX7_undo_35 rfl hl (by decide) rfl (fun ls hl => ?_)
    refine ge _ _ _ (ul_loop (P := fun q36 => ∀ (H : Heap) (locs : List Loc), ul_H (dC, dI) A s.heap (ul_wM cI cZ aM q36.2 d) H locs → ∀ ls : Array Slot, lv_has ls 2 [(0, .ref (aM 0)), (1, .int q36.1)] → G H locs (F0 m 36 ls [])) ?_ _ _ (ul_it_h h) H locs ⟨hP, hD, hS⟩ ls (lv_sub hl [1, 0] rfl))
    intro K36 hx36
    intro q36 ih36 h H locs hw ls hl
    obtain ⟨hP, hD, hS⟩ := hw
    unfold f_X7_undo_L36 at h
    refine gi _ _ _ ?_
    refine lv_iload_n hx hb dX7_undo_36 rfl (lv_at hl 1 rfl) ?_
    refine lv_bipush (v := 23) hx hb dX7_undo_37 (by decide) ?_
    refine lv_icmp_ge (tgt := 68) hx hb dX7_undo_39 (by decide) (fun hc12 => ?_) (fun hc12 => ?_)
    · have h := ul_if_t hc12 h
      exact ge _ _ _ (J68 q36.1 q36.2 H locs ⟨hP, hD, hS⟩ ls (lv_sub hl [0, 1] rfl) (hx36 (q36.1, q36.2) h))
    · have h := ul_if_f hc12 h
      refine lv_aload_n hx hb dX7_undo_42 rfl (lv_at hl 0 rfl) ?_
      refine va_get (D := (dC, dI)) (ci := 7) (v := .ref (aM 6)) (C := RX7) (T := TX7) (N := 26) hx hb hts hin7 hown hK hP 0 rfl rfl 7 (by decide) (hts (.fieldLink RX7 25 "UnderLaddersModel" "now" "[I") (by decide +kernel)) (fun _ h9 => h9) rfl dX7_undo_43 ?_
      refine lv_iload_n hx hb dX7_undo_46 rfl (lv_at hl 1 rfl) ?_
      refine lv_aload_n hx hb dX7_undo_47 rfl (lv_at hl 0 rfl) ?_
      refine va_get (D := (dC, dI)) (ci := 7) (v := .ref (aM 10)) (C := RX7) (T := TX7) (N := 26) hx hb hts hin7 hown hK hP 0 rfl rfl 19 (by decide) (hts (.fieldLink RX7 37 "UnderLaddersModel" "row" "[I") (by decide +kernel)) (fun _ h9 => h9) rfl dX7_undo_48 ?_
      refine lv_bipush (v := 23) hx hb dX7_undo_51 (by decide) ?_
      refine lv_aload_n hx hb dX7_undo_53 rfl (lv_at hl 0 rfl) ?_
      refine va_get (D := (dC, dI)) (ci := 7) (v := .int (q36.2 0 9)) (C := RX7) (T := TX7) (N := 26) hx hb hts hin7 hown hK hP 0 rfl rfl 18 (by decide) (hts (.fieldLink RX7 140 "UnderLaddersModel" "next" "I") (by decide +kernel)) (fun _ h9 => h9) rfl dX7_undo_54 ?_
      refine lv_imul hx hb dX7_undo_57 ?_
      refine lv_iload_n hx hb dX7_undo_58 rfl (lv_at hl 1 rfl) ?_
      refine lv_iadd hx hb dX7_undo_59 ?_
      obtain ⟨hi14, h⟩ := ul_ld_h h
      refine va_iald hx hb hK hP 10 0 rfl rfl hi14 dX7_undo_60 ?_
      refine lv_topi (fun v13 ev13 => ?_)
      have h := h v13 ev13
      obtain ⟨hi16, h⟩ := ul_st_h h
      refine va_iast hx hb hK hP hD hS 6 0 rfl rfl hi16 dX7_undo_61 (fun H locs hP hD hS => ?_)
      obtain ⟨M15, eM15⟩ : ∃ z : ul_S, z = ul_up q36.2 6 q36.1.toNatClampNeg v13 := ⟨_, rfl⟩
      have h := h M15 eM15
      have hP : va_P (dC, dI) classes (ul_wM cI cZ aM M15 d) H := by rw [eM15]; exact hP
      have hD : va_D A (ul_wM cI cZ aM M15 d) := by rw [eM15]; exact hD
      obtain ⟨v17, ev17⟩ : ∃ z : Int32, z = q36.1 + 1 := ⟨_, rfl⟩
      have h := ul_bd_h h v17 ev17
      refine lv_iinc (v := v17) (lv' := [(1, .int v17), (0, .ref (aM 0))]) hx hb dX7_undo_62 hl (k := 1) rfl (by rw [ev17]; rfl) (by decide) rfl (fun ls hl => ?_)
      refine lv_goto (tgt := 36) hx hb dX7_undo_65 (by decide) ?_
      exact ge _ _ _ (ih36 (v17, M15) h H locs ⟨hP, hD, hS⟩ ls (lv_sub hl [1, 0] rfl))
  · have h := ul_if_t hc1 h
    refine lv_bipush (v := -3) hx hb dX7_undo_7 (by decide) ?_
    have hr9 := hK0 ((-3 : Int32), M) h
    subst hr9
    exact W.iret (v := (-3 : Int32)) hx hb hr (fun t ht hW => ⟨⟨(-3 : Int32), (), rfl, rfl, by rw [ht]; exact hP, va_K.moved hW.alike hK, hD⟩, hS.F ht⟩) hS.2.2 dX7_undo_9
def f_X7_layTrial_j29 (x1 : Int32) (M__29 : ul_S) : Option ul_S :=
  some M__29
def f_X7_layTrial_L2 (q2 : (Int32 × ul_S)) : Option ((Int32 × ul_S) ⊕ (Int32 × ul_S)) :=
  if (23 : Int32) ≤ q2.1 then (some (.inl (q2.1, q2.2))) else (ul_ld (q2.2 6) 46 q2.1 fun v2 => ul_st q2.2 6 46 ((23 : Int32) + q2.1) v2 fun M4 => ul_bd (q2.1 + 1) fun v6 => some (.inr (v6, M4)))
def f_X7_layTrial (M : ul_S) : Option ul_S :=
  (ul_it ul_N (f_X7_layTrial_L2) ((0 : Int32), M)).bind (fun e2 => f_X7_layTrial_j29 e2.1 e2.2)
set_option maxHeartbeats 4000000 in
set_option maxRecDepth 100000 in
theorem c_X7_layTrial (l : Launch) (dC : Nat → ClassId) (dI : Nat → Nat → Nat) (cI : ClassId) (cZ : ClassId) (aM : Nat → Nat) (sz : Nat) (M : ul_S) (d : Int64) (r : ul_S) (h : f_X7_layTrial M = some r) : Met l yX7_layTrial wsX7_layTrial ({ frames := 0, cells := 0, slots := 0, locals := 0 }) (va_Pc [.ref (aM 0)] (ul_pre (dC, dI) [(cI, .int), (cZ, .boolean)] ul_N0 sz (ul_wM cI cZ aM M d))) (va_Qv (fun (_ : Unit) => True) (fun _ => ul_post (dC, dI) [(cI, .int), (cZ, .boolean)] (va_A (ul_wM cI cZ aM M d) sz) (ul_wM cI cZ aM r d)) (va_A (ul_wM cI cZ aM M d) sz)) 0 0 (va_A (ul_wM cI cZ aM M d) sz) := by
  refine Met.ofW (cc := cX7_layTrial) (maxL := 2) (ret := none) (by decide) rfl ?_
  intro p e s m args below meth c s₁ B hml hv
  obtain ⟨rfl, hsz, hP, hK, hD0, hN⟩ := hv
  have hx := B.exec
  have hb := B.bytes
  have hr := B.returns
  have hts := atoms_spec (ws := wsX7_layTrial) B.pre
  have hown : s.vm.findClass RX7 = some m.cls := findClass_of_methodNamed B.named
  have hlocks := B.notSynchronized
  have hin7 : ∀ w ∈ u_ws RX7 TX7 26, w ∈ wsX7_layTrial := by decide +kernel
  subst hsz
  have hD := hD0.self (sz := s.heap.size)
  generalize hAe : va_A (ul_wM cI cZ aM M d) s.heap.size = A at hD ⊢
  have hA : ∀ q : Nat, s.heap.size ≤ q → A q := fun q h => by rw [← hAe]; exact Or.inr h
  have hS : va_S A s.heap s.heap [] := va_S.rf
  have hl := lv_entry ([.ref (aM 0)]) (n := 2) (Nat.le_of_ble_eq_true rfl)
  rw [lg_entry_eq]
  generalize (lg_sl ([.ref (aM 0)]) ++ List.replicate (2 - (lg_sl ([.ref (aM 0)])).length) Slot.unset).toArray = ls at hl ⊢
  have hl : lv_has ls 2 [(0, .ref (aM 0))] := hl
  obtain ⟨K0, hK0, h⟩ := ul_top h
  unfold f_X7_layTrial at h
  refine ul_gen (fun G gi ge => ?_)
  obtain ⟨H, eH⟩ : ∃ z, z = s.heap := ⟨_, rfl⟩
  obtain ⟨locs, eL⟩ : ∃ z : List Loc, z = [] := ⟨_, rfl⟩
  have hP : va_P (dC, dI) classes (ul_wM cI cZ aM M d) H := by rw [eH]; exact hP
  have hS : va_S A s.heap H locs := by rw [eH, eL]; exact hS
  rw [← eL]
  refine (show G H locs (F0 m 0 ls []) → G s.heap locs (F0 m 0 ls []) from fun z => by rw [← eH]; exact z) ?_
  have J29 : ∀ (x1 : Int32) (M__29 : ul_S) (H : Heap) (locs : List Loc), ul_H (dC, dI) A s.heap (ul_wM cI cZ aM M__29 d) H locs → ∀ ls : Array Slot, lv_has ls 2 [(0, .ref (aM 0)), (1, .int x1)] → (f_X7_layTrial_j29 x1 M__29).bind K0 = some r → G H locs (F0 m 29 ls []) := by
    intro x1 M__29 H locs hw ls hl h
    obtain ⟨hP, hD, hS⟩ := hw
    unfold f_X7_layTrial_j29 at h
    refine gi _ _ _ ?_
    have hr9 := hK0 M__29 h
    subst hr9
    exact W.vret hx hb hr (fun t ht hW => ⟨⟨(), rfl, trivial, by rw [ht]; exact hP, va_K.moved hW.alike hK, hD⟩, hS.F ht⟩) hS.2.2 dX7_layTrial_29
  refine gi _ _ _ ?_
  refine lv_iconst (v := 0) hx hb dX7_layTrial_0 (by decide) ?_
  refine lv_istore_n (lv' := [(1, .int (0 : Int32)), (0, .ref (aM 0))]) hx hb dX7_layTrial_1 rfl hl (by decide) rfl (fun ls hl => ?_)
  refine ge _ _ _ (ul_loop (P := fun q2 => ∀ (H : Heap) (locs : List Loc), ul_H (dC, dI) A s.heap (ul_wM cI cZ aM q2.2 d) H locs → ∀ ls : Array Slot, lv_has ls 2 [(0, .ref (aM 0)), (1, .int q2.1)] → G H locs (F0 m 2 ls [])) ?_ _ _ (ul_it_h h) H locs ⟨hP, hD, hS⟩ ls (lv_sub hl [1, 0] rfl))
  intro K2 hx2
  intro q2 ih2 h H locs hw ls hl
  obtain ⟨hP, hD, hS⟩ := hw
  unfold f_X7_layTrial_L2 at h
  refine gi _ _ _ ?_
  refine lv_iload_n hx hb dX7_layTrial_2 rfl (lv_at hl 1 rfl) ?_
  refine lv_bipush (v := 23) hx hb dX7_layTrial_3 (by decide) ?_
  refine lv_icmp_ge (tgt := 29) hx hb dX7_layTrial_5 (by decide) (fun hc7 => ?_) (fun hc7 => ?_)
  · have h := ul_if_t hc7 h
    exact ge _ _ _ (J29 q2.1 q2.2 H locs ⟨hP, hD, hS⟩ ls (lv_sub hl [0, 1] rfl) (hx2 (q2.1, q2.2) h))
  · have h := ul_if_f hc7 h
    refine lv_aload_n hx hb dX7_layTrial_8 rfl (lv_at hl 0 rfl) ?_
    refine va_get (D := (dC, dI)) (ci := 7) (v := .ref (aM 6)) (C := RX7) (T := TX7) (N := 26) hx hb hts hin7 hown hK hP 0 rfl rfl 7 (by decide) (hts (.fieldLink RX7 25 "UnderLaddersModel" "now" "[I") (by decide +kernel)) (fun _ h9 => h9) rfl dX7_layTrial_9 ?_
    refine lv_bipush (v := 23) hx hb dX7_layTrial_12 (by decide) ?_
    refine lv_iload_n hx hb dX7_layTrial_14 rfl (lv_at hl 1 rfl) ?_
    refine lv_iadd hx hb dX7_layTrial_15 ?_
    refine lv_aload_n hx hb dX7_layTrial_16 rfl (lv_at hl 0 rfl) ?_
    refine va_get (D := (dC, dI)) (ci := 7) (v := .ref (aM 6)) (C := RX7) (T := TX7) (N := 26) hx hb hts hin7 hown hK hP 0 rfl rfl 7 (by decide) (hts (.fieldLink RX7 25 "UnderLaddersModel" "now" "[I") (by decide +kernel)) (fun _ h9 => h9) rfl dX7_layTrial_17 ?_
    refine lv_iload_n hx hb dX7_layTrial_20 rfl (lv_at hl 1 rfl) ?_
    obtain ⟨hi9, h⟩ := ul_ld_h h
    refine va_iald hx hb hK hP 6 0 rfl rfl hi9 dX7_layTrial_21 ?_
    refine lv_topi (fun v8 ev8 => ?_)
    have h := h v8 ev8
    obtain ⟨hi11, h⟩ := ul_st_h h
    refine va_iast hx hb hK hP hD hS 6 0 rfl rfl hi11 dX7_layTrial_22 (fun H locs hP hD hS => ?_)
    obtain ⟨M10, eM10⟩ : ∃ z : ul_S, z = ul_up q2.2 6 ((23 : Int32) + q2.1).toNatClampNeg v8 := ⟨_, rfl⟩
    have h := h M10 eM10
    have hP : va_P (dC, dI) classes (ul_wM cI cZ aM M10 d) H := by rw [eM10]; exact hP
    have hD : va_D A (ul_wM cI cZ aM M10 d) := by rw [eM10]; exact hD
    obtain ⟨v12, ev12⟩ : ∃ z : Int32, z = q2.1 + 1 := ⟨_, rfl⟩
    have h := ul_bd_h h v12 ev12
    refine lv_iinc (v := v12) (lv' := [(1, .int v12), (0, .ref (aM 0))]) hx hb dX7_layTrial_23 hl (k := 1) rfl (by rw [ev12]; rfl) (by decide) rfl (fun ls hl => ?_)
    refine lv_goto (tgt := 2) hx hb dX7_layTrial_26 (by decide) ?_
    exact ge _ _ _ (ih2 (v12, M10) h H locs ⟨hP, hD, hS⟩ ls (lv_sub hl [1, 0] rfl))
def f_X7_goOn_j20 (p1 : Int32) (p2 : Int32) (x3 : Int32) (M__20 : ul_S) : Option ul_S :=
  some M__20
def f_X7_goOn_L2 (p1 : Int32) (p2 : Int32) (q2 : (Int32 × ul_S)) : Option ((Int32 × ul_S) ⊕ (Int32 × ul_S)) :=
  if p1 ≤ q2.1 then (some (.inl (q2.1, q2.2))) else ((f_X7_passOn q2.2 (1 : Int32) p2).bind fun u2 => ul_bd (q2.1 + 1) fun v3 => some (.inr (v3, u2.2)))
def f_X7_goOn (M : ul_S) (p1 : Int32) (p2 : Int32) : Option ul_S :=
  (ul_it ul_N (f_X7_goOn_L2 p1 p2) ((0 : Int32), M)).bind (fun e2 => f_X7_goOn_j20 p1 p2 e2.1 e2.2)
set_option maxHeartbeats 4000000 in
set_option maxRecDepth 100000 in
theorem c_X7_goOn (l : Launch) (dC : Nat → ClassId) (dI : Nat → Nat → Nat) (cI : ClassId) (cZ : ClassId) (aM : Nat → Nat) (sz : Nat) (M : ul_S) (d : Int64) (p1 : Int32) (p2 : Int32) (r : ul_S) (h : f_X7_goOn M p1 p2 = some r) : Met l yX7_goOn wsX7_goOn ({ frames := 6, cells := 0, slots := 0, locals := 143 }) (va_Pc [.ref (aM 0), .int p1, .int p2] (ul_pre (dC, dI) [(cI, .int), (cZ, .boolean)] ul_N0 sz (ul_wM cI cZ aM M d))) (va_Qv (fun (_ : Unit) => True) (fun _ => ul_post (dC, dI) [(cI, .int), (cZ, .boolean)] (va_A (ul_wM cI cZ aM M d) sz) (ul_wM cI cZ aM r d)) (va_A (ul_wM cI cZ aM M d) sz)) 0 0 (va_A (ul_wM cI cZ aM M d) sz) := by
  refine Met.ofW (cc := cX7_goOn) (maxL := 4) (ret := none) (by decide) rfl ?_
  intro p e s m args below meth c s₁ B hml hv
  obtain ⟨rfl, hsz, hP, hK, hD0, hN⟩ := hv
  have hx := B.exec
  have hb := B.bytes
  have hr := B.returns
  have hts := atoms_spec (ws := wsX7_goOn) B.pre
  have hown : s.vm.findClass RX7 = some m.cls := findClass_of_methodNamed B.named
  have hlocks := B.notSynchronized
  have hin7 : ∀ w ∈ u_ws RX7 TX7 26, w ∈ wsX7_goOn := by decide +kernel
  subst hsz
  have hD := hD0.self (sz := s.heap.size)
  generalize hAe : va_A (ul_wM cI cZ aM M d) s.heap.size = A at hD ⊢
  have hA : ∀ q : Nat, s.heap.size ≤ q → A q := fun q h => by rw [← hAe]; exact Or.inr h
  have hS : va_S A s.heap s.heap [] := va_S.rf
  have hl := lv_entry ([.ref (aM 0), .int p1, .int p2]) (n := 4) (Nat.le_of_ble_eq_true rfl)
  rw [lg_entry_eq]
  generalize (lg_sl ([.ref (aM 0), .int p1, .int p2]) ++ List.replicate (4 - (lg_sl ([.ref (aM 0), .int p1, .int p2])).length) Slot.unset).toArray = ls at hl ⊢
  have hl : lv_has ls 4 [(0, .ref (aM 0)), (1, .int p1), (2, .int p2)] := hl
  obtain ⟨K0, hK0, h⟩ := ul_top h
  unfold f_X7_goOn at h
  refine ul_gen (fun G gi ge => ?_)
  obtain ⟨H, eH⟩ : ∃ z, z = s.heap := ⟨_, rfl⟩
  obtain ⟨locs, eL⟩ : ∃ z : List Loc, z = [] := ⟨_, rfl⟩
  have hP : va_P (dC, dI) classes (ul_wM cI cZ aM M d) H := by rw [eH]; exact hP
  have hS : va_S A s.heap H locs := by rw [eH, eL]; exact hS
  rw [← eL]
  refine (show G H locs (F0 m 0 ls []) → G s.heap locs (F0 m 0 ls []) from fun z => by rw [← eH]; exact z) ?_
  have J20 : ∀ (x3 : Int32) (M__20 : ul_S) (H : Heap) (locs : List Loc), ul_H (dC, dI) A s.heap (ul_wM cI cZ aM M__20 d) H locs → ∀ ls : Array Slot, lv_has ls 4 [(0, .ref (aM 0)), (1, .int p1), (2, .int p2), (3, .int x3)] → (f_X7_goOn_j20 p1 p2 x3 M__20).bind K0 = some r → G H locs (F0 m 20 ls []) := by
    intro x3 M__20 H locs hw ls hl h
    obtain ⟨hP, hD, hS⟩ := hw
    unfold f_X7_goOn_j20 at h
    refine gi _ _ _ ?_
    have hr9 := hK0 M__20 h
    subst hr9
    exact W.vret hx hb hr (fun t ht hW => ⟨⟨(), rfl, trivial, by rw [ht]; exact hP, va_K.moved hW.alike hK, hD⟩, hS.F ht⟩) hS.2.2 dX7_goOn_20
  refine gi _ _ _ ?_
  refine lv_iconst (v := 0) hx hb dX7_goOn_0 (by decide) ?_
  refine lv_istore_n (lv' := [(3, .int (0 : Int32)), (0, .ref (aM 0)), (1, .int p1), (2, .int p2)]) hx hb dX7_goOn_1 rfl hl (by decide) rfl (fun ls hl => ?_)
  refine ge _ _ _ (ul_loop (P := fun q2 => ∀ (H : Heap) (locs : List Loc), ul_H (dC, dI) A s.heap (ul_wM cI cZ aM q2.2 d) H locs → ∀ ls : Array Slot, lv_has ls 4 [(0, .ref (aM 0)), (1, .int p1), (2, .int p2), (3, .int q2.1)] → G H locs (F0 m 2 ls [])) ?_ _ _ (ul_it_h h) H locs ⟨hP, hD, hS⟩ ls (lv_sub hl [1, 2, 3, 0] rfl))
  intro K2 hx2
  intro q2 ih2 h H locs hw ls hl
  obtain ⟨hP, hD, hS⟩ := hw
  unfold f_X7_goOn_L2 at h
  refine gi _ _ _ ?_
  refine lv_iload_n hx hb dX7_goOn_2 rfl (lv_at hl 3 rfl) ?_
  refine lv_iload_n hx hb dX7_goOn_3 rfl (lv_at hl 1 rfl) ?_
  refine lv_icmp_ge (tgt := 20) hx hb dX7_goOn_4 (by decide) (fun hc4 => ?_) (fun hc4 => ?_)
  · have h := ul_if_t hc4 h
    exact ge _ _ _ (J20 q2.1 q2.2 H locs ⟨hP, hD, hS⟩ ls (lv_sub hl [0, 1, 2, 3] rfl) (hx2 (q2.1, q2.2) h))
  · have h := ul_if_f hc4 h
    refine lv_aload_n hx hb dX7_goOn_7 rfl (lv_at hl 0 rfl) ?_
    refine lv_iconst (v := 1) hx hb dX7_goOn_8 (by decide) ?_
    refine lv_iload_n hx hb dX7_goOn_9 rfl (lv_at hl 2 rfl) ?_
    obtain ⟨u5, hu5, h⟩ := ul_cl_h h
    refine ul_cVi (As := [.int (1 : Int32), .int p2]) (rest := []) (wc' := (ul_wM cI cZ aM u5.2 d)) (wr := []) hP hD hS hK hA [0, 1, 2, 3, 4, 5, 6, 7, 8, 9, 10, 11, 12, 13, 14] [] [0, 1] ul_N0_ok trivial (c_X7_passOn l dC dI cI cZ aM H.size q2.2 d (1 : Int32) p2 u5 hu5) rfl rfl (by decide) rfl (by decide) (by decide) rfl ⟨hx, hb, hml, hown, hts⟩ (cwV 2 hts gX7_goOn_X7_passOn rfl rfl rfl (by decide +kernel) ⟨Nat.le_of_ble_eq_true rfl, Nat.le_of_ble_eq_true rfl⟩) (va_recv hK hP (ci := 7) (q0 := 0) rfl rfl) rfl hl.1 rfl (Nat.le_of_ble_eq_true rfl) dX7_goOn_10 (fun H locs hw => ?_)
    obtain ⟨hP, hD, hS⟩ := hw
    have hP : va_P (dC, dI) classes (ul_wM cI cZ aM u5.2 d) H := hP
    have hD : va_D A (ul_wM cI cZ aM u5.2 d) := hD
    refine lv_pop hx hb dX7_goOn_13 rfl ?_
    obtain ⟨v6, ev6⟩ : ∃ z : Int32, z = q2.1 + 1 := ⟨_, rfl⟩
    have h := ul_bd_h h v6 ev6
    refine lv_iinc (v := v6) (lv' := [(3, .int v6), (0, .ref (aM 0)), (1, .int p1), (2, .int p2)]) hx hb dX7_goOn_14 hl (k := 3) rfl (by rw [ev6]; rfl) (by decide) rfl (fun ls hl => ?_)
    refine lv_goto (tgt := 2) hx hb dX7_goOn_17 (by decide) ?_
    exact ge _ _ _ (ih2 (v6, u5.2) h H locs ⟨hP, hD, hS⟩ ls (lv_sub hl [1, 2, 3, 0] rfl))
def f_X7_luck (M : ul_S) (p1 : Int32) (p2 : Int32) : Option (Int32 × ul_S) :=
  (f_X7_isPerson M p1).bind fun u1 => if u1 = 0 then (some ((-1 : Int32), M)) else ((f_X7_in p2.toInt64 (0 : Int64) (20 : Int64)).bind fun u3 => if u3 = 0 then (some ((-2 : Int32), M)) else ((f_X7_layTrial M).bind fun u5 => (f_X7_goOn u5 p2 (0 : Int32)).bind fun u6 => ul_ld (u6 6) 46 ((40 : Int32) + p1) fun v7 => some (v7, u6)))
set_option maxHeartbeats 4000000 in
set_option maxRecDepth 100000 in
theorem c_X7_luck (l : Launch) (dC : Nat → ClassId) (dI : Nat → Nat → Nat) (cI : ClassId) (cZ : ClassId) (aM : Nat → Nat) (sz : Nat) (M : ul_S) (d : Int64) (p1 : Int32) (p2 : Int32) (r : (Int32 × ul_S)) (h : f_X7_luck M p1 p2 = some r) : Met l yX7_luck wsX7_luck ({ frames := 7, cells := 0, slots := 0, locals := 166 }) (va_Pc [.ref (aM 0), .int p1, .int p2] (ul_pre (dC, dI) [(cI, .int), (cZ, .boolean)] ul_N0 sz (ul_wM cI cZ aM M d))) (va_Qi (fun v (_ : Unit) => v = r.1) (fun _ => ul_post (dC, dI) [(cI, .int), (cZ, .boolean)] (va_A (ul_wM cI cZ aM M d) sz) (ul_wM cI cZ aM r.2 d)) (va_A (ul_wM cI cZ aM M d) sz)) 0 0 (va_A (ul_wM cI cZ aM M d) sz) := by
  refine Met.ofW (cc := cX7_luck) (maxL := 3) (ret := (some .int)) (by decide) rfl ?_
  intro p e s m args below meth c s₁ B hml hv
  obtain ⟨rfl, hsz, hP, hK, hD0, hN⟩ := hv
  have hx := B.exec
  have hb := B.bytes
  have hr := B.returns
  have hts := atoms_spec (ws := wsX7_luck) B.pre
  have hown : s.vm.findClass RX7 = some m.cls := findClass_of_methodNamed B.named
  have hlocks := B.notSynchronized
  have hin7 : ∀ w ∈ u_ws RX7 TX7 26, w ∈ wsX7_luck := by decide +kernel
  subst hsz
  have hD := hD0.self (sz := s.heap.size)
  generalize hAe : va_A (ul_wM cI cZ aM M d) s.heap.size = A at hD ⊢
  have hA : ∀ q : Nat, s.heap.size ≤ q → A q := fun q h => by rw [← hAe]; exact Or.inr h
  have hS : va_S A s.heap s.heap [] := va_S.rf
  have hl := lv_entry ([.ref (aM 0), .int p1, .int p2]) (n := 3) (Nat.le_of_ble_eq_true rfl)
  rw [lg_entry_eq]
  generalize (lg_sl ([.ref (aM 0), .int p1, .int p2]) ++ List.replicate (3 - (lg_sl ([.ref (aM 0), .int p1, .int p2])).length) Slot.unset).toArray = ls at hl ⊢
  have hl : lv_has ls 3 [(0, .ref (aM 0)), (1, .int p1), (2, .int p2)] := hl
  obtain ⟨K0, hK0, h⟩ := ul_top h
  unfold f_X7_luck at h
  refine ul_gen (fun G gi ge => ?_)
  obtain ⟨H, eH⟩ : ∃ z, z = s.heap := ⟨_, rfl⟩
  obtain ⟨locs, eL⟩ : ∃ z : List Loc, z = [] := ⟨_, rfl⟩
  have hP : va_P (dC, dI) classes (ul_wM cI cZ aM M d) H := by rw [eH]; exact hP
  have hS : va_S A s.heap H locs := by rw [eH, eL]; exact hS
  rw [← eL]
  refine (show G H locs (F0 m 0 ls []) → G s.heap locs (F0 m 0 ls []) from fun z => by rw [← eH]; exact z) ?_
  refine gi _ _ _ ?_
  refine lv_aload_n hx hb dX7_luck_0 rfl (lv_at hl 0 rfl) ?_
  refine lv_iload_n hx hb dX7_luck_1 rfl (lv_at hl 1 rfl) ?_
  obtain ⟨u1, hu1, h⟩ := ul_cl_h h
  refine ul_cVi (As := [.int p1]) (rest := []) (wc' := (ul_wM cI cZ aM M d)) (wr := []) hP hD hS hK hA [0, 1, 2, 3, 4, 5, 6, 7, 8, 9, 10, 11, 12, 13, 14] [] [0, 1] ul_N0_ok trivial (c_X7_isPerson l dC dI cI cZ aM H.size M d p1 u1 hu1) rfl rfl (by decide) rfl (by decide) (by decide) rfl ⟨hx, hb, hml, hown, hts⟩ (cwV 1 hts gX7_luck_X7_isPerson rfl rfl rfl (by decide +kernel) ⟨Nat.le_of_ble_eq_true rfl, Nat.le_of_ble_eq_true rfl⟩) (va_recv hK hP (ci := 7) (q0 := 0) rfl rfl) rfl hl.1 rfl (Nat.le_of_ble_eq_true rfl) dX7_luck_2 (fun H locs hw => ?_)
  obtain ⟨hP, hD, hS⟩ := hw
  have hP : va_P (dC, dI) classes (ul_wM cI cZ aM M d) H := hP
  have hD : va_D A (ul_wM cI cZ aM M d) := hD
  refine lv_if_ne (tgt := 10) hx hb dX7_luck_5 (by decide) (fun hc2 => ?_) (fun hc2 => ?_)
  · have h := ul_if_f hc2 h
    refine lv_iload_n hx hb dX7_luck_10 rfl (lv_at hl 2 rfl) ?_
    refine lv_i2l hx hb dX7_luck_11 rfl ?_
    refine lv_lconst (v := 0) hx hb dX7_luck_12 (by decide) ?_
    refine lv_ldc2 (v := 20) hx hb hown (hts (.constantLong RX7 159 (20)) (by decide +kernel)) dX7_luck_13 ?_
    obtain ⟨u3, hu3, h⟩ := ul_cl_h h
    refine ul_cSi (As := [.long p2.toInt64, .long (0 : Int64), .long (20 : Int64)]) (rest := []) hP hD hS hK hA (c_X7_in l dC dI H.size p2.toInt64 (0 : Int64) (20 : Int64) u3 hu3) ⟨hx, hb, hml, hown, hts⟩ (cwS 3 hts gX7_luck_X7_in rfl rfl rfl (by decide +kernel) ⟨Nat.le_of_ble_eq_true rfl, Nat.le_of_ble_eq_true rfl⟩) rfl hl.1 rfl (Nat.le_of_ble_eq_true rfl) dX7_luck_16 (fun H locs hw => ?_)
    obtain ⟨hP, hD, hS⟩ := hw
    refine lv_if_ne (tgt := 25) hx hb dX7_luck_19 (by decide) (fun hc4 => ?_) (fun hc4 => ?_)
    · have h := ul_if_f hc4 h
      refine lv_aload_n hx hb dX7_luck_25 rfl (lv_at hl 0 rfl) ?_
      obtain ⟨u5, hu5, h⟩ := ul_cl_h h
      refine ul_cVv (As := []) (rest := []) (wc' := (ul_wM cI cZ aM u5 d)) (wr := []) hP hD hS hK hA [0, 1, 2, 3, 4, 5, 6, 7, 8, 9, 10, 11, 12, 13, 14] [] [0, 1] ul_N0_ok trivial (c_X7_layTrial l dC dI cI cZ aM H.size M d u5 hu5) rfl rfl (by decide) rfl (by decide) (by decide) rfl ⟨hx, hb, hml, hown, hts⟩ (cwV 0 hts gX7_luck_X7_layTrial rfl rfl rfl (by decide +kernel) ⟨Nat.le_of_ble_eq_true rfl, Nat.le_of_ble_eq_true rfl⟩) (va_recv hK hP (ci := 7) (q0 := 0) rfl rfl) rfl hl.1 rfl (Nat.le_of_ble_eq_true rfl) dX7_luck_26 (fun H locs hw => ?_)
      obtain ⟨hP, hD, hS⟩ := hw
      have hP : va_P (dC, dI) classes (ul_wM cI cZ aM u5 d) H := hP
      have hD : va_D A (ul_wM cI cZ aM u5 d) := hD
      refine lv_aload_n hx hb dX7_luck_29 rfl (lv_at hl 0 rfl) ?_
      refine lv_iload_n hx hb dX7_luck_30 rfl (lv_at hl 2 rfl) ?_
      refine lv_iconst (v := 0) hx hb dX7_luck_31 (by decide) ?_
      obtain ⟨u6, hu6, h⟩ := ul_cl_h h
      refine ul_cVv (As := [.int p2, .int (0 : Int32)]) (rest := []) (wc' := (ul_wM cI cZ aM u6 d)) (wr := []) hP hD hS hK hA [0, 1, 2, 3, 4, 5, 6, 7, 8, 9, 10, 11, 12, 13, 14] [] [0, 1] ul_N0_ok trivial (c_X7_goOn l dC dI cI cZ aM H.size u5 d p2 (0 : Int32) u6 hu6) rfl rfl (by decide) rfl (by decide) (by decide) rfl ⟨hx, hb, hml, hown, hts⟩ (cwV 2 hts gX7_luck_X7_goOn rfl rfl rfl (by decide +kernel) ⟨Nat.le_of_ble_eq_true rfl, Nat.le_of_ble_eq_true rfl⟩) (va_recv hK hP (ci := 7) (q0 := 0) rfl rfl) rfl hl.1 rfl (Nat.le_of_ble_eq_true rfl) dX7_luck_32 (fun H locs hw => ?_)
      obtain ⟨hP, hD, hS⟩ := hw
      have hP : va_P (dC, dI) classes (ul_wM cI cZ aM u6 d) H := hP
      have hD : va_D A (ul_wM cI cZ aM u6 d) := hD
      refine lv_aload_n hx hb dX7_luck_35 rfl (lv_at hl 0 rfl) ?_
      refine va_get (D := (dC, dI)) (ci := 7) (v := .ref (aM 6)) (C := RX7) (T := TX7) (N := 26) hx hb hts hin7 hown hK hP 0 rfl rfl 7 (by decide) (hts (.fieldLink RX7 25 "UnderLaddersModel" "now" "[I") (by decide +kernel)) (fun _ h9 => h9) rfl dX7_luck_36 ?_
      refine lv_bipush (v := 40) hx hb dX7_luck_39 (by decide) ?_
      refine lv_iload_n hx hb dX7_luck_41 rfl (lv_at hl 1 rfl) ?_
      refine lv_iadd hx hb dX7_luck_42 ?_
      obtain ⟨hi8, h⟩ := ul_ld_h h
      refine va_iald hx hb hK hP 6 0 rfl rfl hi8 dX7_luck_43 ?_
      refine lv_topi (fun v7 ev7 => ?_)
      have h := h v7 ev7
      have hr9 := hK0 (v7, u6) h
      subst hr9
      exact W.iret (v := v7) hx hb hr (fun t ht hW => ⟨⟨v7, (), rfl, rfl, by rw [ht]; exact hP, va_K.moved hW.alike hK, hD⟩, hS.F ht⟩) hS.2.2 dX7_luck_44
    · have h := ul_if_t hc4 h
      refine lv_bipush (v := -2) hx hb dX7_luck_22 (by decide) ?_
      have hr9 := hK0 ((-2 : Int32), M) h
      subst hr9
      exact W.iret (v := (-2 : Int32)) hx hb hr (fun t ht hW => ⟨⟨(-2 : Int32), (), rfl, rfl, by rw [ht]; exact hP, va_K.moved hW.alike hK, hD⟩, hS.F ht⟩) hS.2.2 dX7_luck_24
  · have h := ul_if_t hc2 h
    refine lv_iconst (v := -1) hx hb dX7_luck_8 (by decide) ?_
    have hr9 := hK0 ((-1 : Int32), M) h
    subst hr9
    exact W.iret (v := (-1 : Int32)) hx hb hr (fun t ht hW => ⟨⟨(-1 : Int32), (), rfl, rfl, by rw [ht]; exact hP, va_K.moved hW.alike hK, hD⟩, hS.F ht⟩) hS.2.2 dX7_luck_9
def f_X7_gold (M : ul_S) (p1 : Int32) (p2 : Int32) : Option (Int32 × ul_S) :=
  (f_X7_isLadder M p1).bind fun u1 => if u1 = 0 then (some ((-1 : Int32), M)) else ((f_X7_in p2.toInt64 (0 : Int64) (20 : Int64)).bind fun u3 => if u3 = 0 then (some ((-2 : Int32), M)) else ((f_X7_layTrial M).bind fun u5 => (f_X7_goOn u5 p2 (0 : Int32)).bind fun u6 => ul_ld (u6 6) 46 ((31 : Int32) + p1) fun v7 => some (v7, u6)))
set_option maxHeartbeats 4000000 in
set_option maxRecDepth 100000 in
theorem c_X7_gold (l : Launch) (dC : Nat → ClassId) (dI : Nat → Nat → Nat) (cI : ClassId) (cZ : ClassId) (aM : Nat → Nat) (sz : Nat) (M : ul_S) (d : Int64) (p1 : Int32) (p2 : Int32) (r : (Int32 × ul_S)) (h : f_X7_gold M p1 p2 = some r) : Met l yX7_gold wsX7_gold ({ frames := 7, cells := 0, slots := 0, locals := 166 }) (va_Pc [.ref (aM 0), .int p1, .int p2] (ul_pre (dC, dI) [(cI, .int), (cZ, .boolean)] ul_N0 sz (ul_wM cI cZ aM M d))) (va_Qi (fun v (_ : Unit) => v = r.1) (fun _ => ul_post (dC, dI) [(cI, .int), (cZ, .boolean)] (va_A (ul_wM cI cZ aM M d) sz) (ul_wM cI cZ aM r.2 d)) (va_A (ul_wM cI cZ aM M d) sz)) 0 0 (va_A (ul_wM cI cZ aM M d) sz) := by
  refine Met.ofW (cc := cX7_gold) (maxL := 3) (ret := (some .int)) (by decide) rfl ?_
  intro p e s m args below meth c s₁ B hml hv
  obtain ⟨rfl, hsz, hP, hK, hD0, hN⟩ := hv
  have hx := B.exec
  have hb := B.bytes
  have hr := B.returns
  have hts := atoms_spec (ws := wsX7_gold) B.pre
  have hown : s.vm.findClass RX7 = some m.cls := findClass_of_methodNamed B.named
  have hlocks := B.notSynchronized
  have hin7 : ∀ w ∈ u_ws RX7 TX7 26, w ∈ wsX7_gold := by decide +kernel
  subst hsz
  have hD := hD0.self (sz := s.heap.size)
  generalize hAe : va_A (ul_wM cI cZ aM M d) s.heap.size = A at hD ⊢
  have hA : ∀ q : Nat, s.heap.size ≤ q → A q := fun q h => by rw [← hAe]; exact Or.inr h
  have hS : va_S A s.heap s.heap [] := va_S.rf
  have hl := lv_entry ([.ref (aM 0), .int p1, .int p2]) (n := 3) (Nat.le_of_ble_eq_true rfl)
  rw [lg_entry_eq]
  generalize (lg_sl ([.ref (aM 0), .int p1, .int p2]) ++ List.replicate (3 - (lg_sl ([.ref (aM 0), .int p1, .int p2])).length) Slot.unset).toArray = ls at hl ⊢
  have hl : lv_has ls 3 [(0, .ref (aM 0)), (1, .int p1), (2, .int p2)] := hl
  obtain ⟨K0, hK0, h⟩ := ul_top h
  unfold f_X7_gold at h
  refine ul_gen (fun G gi ge => ?_)
  obtain ⟨H, eH⟩ : ∃ z, z = s.heap := ⟨_, rfl⟩
  obtain ⟨locs, eL⟩ : ∃ z : List Loc, z = [] := ⟨_, rfl⟩
  have hP : va_P (dC, dI) classes (ul_wM cI cZ aM M d) H := by rw [eH]; exact hP
  have hS : va_S A s.heap H locs := by rw [eH, eL]; exact hS
  rw [← eL]
  refine (show G H locs (F0 m 0 ls []) → G s.heap locs (F0 m 0 ls []) from fun z => by rw [← eH]; exact z) ?_
  refine gi _ _ _ ?_
  refine lv_aload_n hx hb dX7_gold_0 rfl (lv_at hl 0 rfl) ?_
  refine lv_iload_n hx hb dX7_gold_1 rfl (lv_at hl 1 rfl) ?_
  obtain ⟨u1, hu1, h⟩ := ul_cl_h h
  refine ul_cVi (As := [.int p1]) (rest := []) (wc' := (ul_wM cI cZ aM M d)) (wr := []) hP hD hS hK hA [0, 1, 2, 3, 4, 5, 6, 7, 8, 9, 10, 11, 12, 13, 14] [] [0, 1] ul_N0_ok trivial (c_X7_isLadder l dC dI cI cZ aM H.size M d p1 u1 hu1) rfl rfl (by decide) rfl (by decide) (by decide) rfl ⟨hx, hb, hml, hown, hts⟩ (cwV 1 hts gX7_gold_X7_isLadder rfl rfl rfl (by decide +kernel) ⟨Nat.le_of_ble_eq_true rfl, Nat.le_of_ble_eq_true rfl⟩) (va_recv hK hP (ci := 7) (q0 := 0) rfl rfl) rfl hl.1 rfl (Nat.le_of_ble_eq_true rfl) dX7_gold_2 (fun H locs hw => ?_)
  obtain ⟨hP, hD, hS⟩ := hw
  have hP : va_P (dC, dI) classes (ul_wM cI cZ aM M d) H := hP
  have hD : va_D A (ul_wM cI cZ aM M d) := hD
  refine lv_if_ne (tgt := 10) hx hb dX7_gold_5 (by decide) (fun hc2 => ?_) (fun hc2 => ?_)
  · have h := ul_if_f hc2 h
    refine lv_iload_n hx hb dX7_gold_10 rfl (lv_at hl 2 rfl) ?_
    refine lv_i2l hx hb dX7_gold_11 rfl ?_
    refine lv_lconst (v := 0) hx hb dX7_gold_12 (by decide) ?_
    refine lv_ldc2 (v := 20) hx hb hown (hts (.constantLong RX7 159 (20)) (by decide +kernel)) dX7_gold_13 ?_
    obtain ⟨u3, hu3, h⟩ := ul_cl_h h
    refine ul_cSi (As := [.long p2.toInt64, .long (0 : Int64), .long (20 : Int64)]) (rest := []) hP hD hS hK hA (c_X7_in l dC dI H.size p2.toInt64 (0 : Int64) (20 : Int64) u3 hu3) ⟨hx, hb, hml, hown, hts⟩ (cwS 3 hts gX7_gold_X7_in rfl rfl rfl (by decide +kernel) ⟨Nat.le_of_ble_eq_true rfl, Nat.le_of_ble_eq_true rfl⟩) rfl hl.1 rfl (Nat.le_of_ble_eq_true rfl) dX7_gold_16 (fun H locs hw => ?_)
    obtain ⟨hP, hD, hS⟩ := hw
    refine lv_if_ne (tgt := 25) hx hb dX7_gold_19 (by decide) (fun hc4 => ?_) (fun hc4 => ?_)
    · have h := ul_if_f hc4 h
      refine lv_aload_n hx hb dX7_gold_25 rfl (lv_at hl 0 rfl) ?_
      obtain ⟨u5, hu5, h⟩ := ul_cl_h h
      refine ul_cVv (As := []) (rest := []) (wc' := (ul_wM cI cZ aM u5 d)) (wr := []) hP hD hS hK hA [0, 1, 2, 3, 4, 5, 6, 7, 8, 9, 10, 11, 12, 13, 14] [] [0, 1] ul_N0_ok trivial (c_X7_layTrial l dC dI cI cZ aM H.size M d u5 hu5) rfl rfl (by decide) rfl (by decide) (by decide) rfl ⟨hx, hb, hml, hown, hts⟩ (cwV 0 hts gX7_gold_X7_layTrial rfl rfl rfl (by decide +kernel) ⟨Nat.le_of_ble_eq_true rfl, Nat.le_of_ble_eq_true rfl⟩) (va_recv hK hP (ci := 7) (q0 := 0) rfl rfl) rfl hl.1 rfl (Nat.le_of_ble_eq_true rfl) dX7_gold_26 (fun H locs hw => ?_)
      obtain ⟨hP, hD, hS⟩ := hw
      have hP : va_P (dC, dI) classes (ul_wM cI cZ aM u5 d) H := hP
      have hD : va_D A (ul_wM cI cZ aM u5 d) := hD
      refine lv_aload_n hx hb dX7_gold_29 rfl (lv_at hl 0 rfl) ?_
      refine lv_iload_n hx hb dX7_gold_30 rfl (lv_at hl 2 rfl) ?_
      refine lv_iconst (v := 0) hx hb dX7_gold_31 (by decide) ?_
      obtain ⟨u6, hu6, h⟩ := ul_cl_h h
      refine ul_cVv (As := [.int p2, .int (0 : Int32)]) (rest := []) (wc' := (ul_wM cI cZ aM u6 d)) (wr := []) hP hD hS hK hA [0, 1, 2, 3, 4, 5, 6, 7, 8, 9, 10, 11, 12, 13, 14] [] [0, 1] ul_N0_ok trivial (c_X7_goOn l dC dI cI cZ aM H.size u5 d p2 (0 : Int32) u6 hu6) rfl rfl (by decide) rfl (by decide) (by decide) rfl ⟨hx, hb, hml, hown, hts⟩ (cwV 2 hts gX7_gold_X7_goOn rfl rfl rfl (by decide +kernel) ⟨Nat.le_of_ble_eq_true rfl, Nat.le_of_ble_eq_true rfl⟩) (va_recv hK hP (ci := 7) (q0 := 0) rfl rfl) rfl hl.1 rfl (Nat.le_of_ble_eq_true rfl) dX7_gold_32 (fun H locs hw => ?_)
      obtain ⟨hP, hD, hS⟩ := hw
      have hP : va_P (dC, dI) classes (ul_wM cI cZ aM u6 d) H := hP
      have hD : va_D A (ul_wM cI cZ aM u6 d) := hD
      refine lv_aload_n hx hb dX7_gold_35 rfl (lv_at hl 0 rfl) ?_
      refine va_get (D := (dC, dI)) (ci := 7) (v := .ref (aM 6)) (C := RX7) (T := TX7) (N := 26) hx hb hts hin7 hown hK hP 0 rfl rfl 7 (by decide) (hts (.fieldLink RX7 25 "UnderLaddersModel" "now" "[I") (by decide +kernel)) (fun _ h9 => h9) rfl dX7_gold_36 ?_
      refine lv_bipush (v := 31) hx hb dX7_gold_39 (by decide) ?_
      refine lv_iload_n hx hb dX7_gold_41 rfl (lv_at hl 1 rfl) ?_
      refine lv_iadd hx hb dX7_gold_42 ?_
      obtain ⟨hi8, h⟩ := ul_ld_h h
      refine va_iald hx hb hK hP 6 0 rfl rfl hi8 dX7_gold_43 ?_
      refine lv_topi (fun v7 ev7 => ?_)
      have h := h v7 ev7
      have hr9 := hK0 (v7, u6) h
      subst hr9
      exact W.iret (v := v7) hx hb hr (fun t ht hW => ⟨⟨v7, (), rfl, rfl, by rw [ht]; exact hP, va_K.moved hW.alike hK, hD⟩, hS.F ht⟩) hS.2.2 dX7_gold_44
    · have h := ul_if_t hc4 h
      refine lv_bipush (v := -2) hx hb dX7_gold_22 (by decide) ?_
      have hr9 := hK0 ((-2 : Int32), M) h
      subst hr9
      exact W.iret (v := (-2 : Int32)) hx hb hr (fun t ht hW => ⟨⟨(-2 : Int32), (), rfl, rfl, by rw [ht]; exact hP, va_K.moved hW.alike hK, hD⟩, hS.F ht⟩) hS.2.2 dX7_gold_24
  · have h := ul_if_t hc2 h
    refine lv_iconst (v := -1) hx hb dX7_gold_8 (by decide) ?_
    have hr9 := hK0 ((-1 : Int32), M) h
    subst hr9
    exact W.iret (v := (-1 : Int32)) hx hb hr (fun t ht hW => ⟨⟨(-1 : Int32), (), rfl, rfl, by rw [ht]; exact hP, va_K.moved hW.alike hK, hD⟩, hS.F ht⟩) hS.2.2 dX7_gold_9
def f_X7_lost_j49 (p1 : Int32) (x2 : Int32) (M__49 : ul_S) : Option (Int32 × ul_S) :=
  some ((-9 : Int32), M__49)
def f_X7_lost_L16 (p1 : Int32) (q16 : (Int32 × ul_S)) : Option (((Int32 × ul_S) ⊕ (Int32 × ul_S)) ⊕ (Int32 × ul_S)) :=
  if (21 : Int32) ≤ q16.1 then (some (.inl (.inr (q16.1, q16.2)))) else (ul_ld (q16.2 6) 46 ((40 : Int32) + p1) fun v5 => if v5 = 0 then (some (.inl (.inl (q16.1, q16.2)))) else ((f_X7_passOn q16.2 (1 : Int32) (0 : Int32)).bind fun u8 => ul_bd (q16.1 + 1) fun v9 => some (.inr (v9, u8.2))))
def f_X7_lost (M : ul_S) (p1 : Int32) : Option (Int32 × ul_S) :=
  (f_X7_isPerson M p1).bind fun u1 => if u1 = 0 then (some ((-1 : Int32), M)) else ((f_X7_layTrial M).bind fun u3 => (ul_it ul_N (f_X7_lost_L16 p1) ((0 : Int32), u3)).bind (Sum.elim (fun z => some z) (fun e16 => f_X7_lost_j49 p1 e16.1 e16.2)))
set_option maxHeartbeats 4000000 in
set_option maxRecDepth 100000 in
theorem c_X7_lost (l : Launch) (dC : Nat → ClassId) (dI : Nat → Nat → Nat) (cI : ClassId) (cZ : ClassId) (aM : Nat → Nat) (sz : Nat) (M : ul_S) (d : Int64) (p1 : Int32) (r : (Int32 × ul_S)) (h : f_X7_lost M p1 = some r) : Met l yX7_lost wsX7_lost ({ frames := 6, cells := 0, slots := 0, locals := 143 }) (va_Pc [.ref (aM 0), .int p1] (ul_pre (dC, dI) [(cI, .int), (cZ, .boolean)] ul_N0 sz (ul_wM cI cZ aM M d))) (va_Qi (fun v (_ : Unit) => v = r.1) (fun _ => ul_post (dC, dI) [(cI, .int), (cZ, .boolean)] (va_A (ul_wM cI cZ aM M d) sz) (ul_wM cI cZ aM r.2 d)) (va_A (ul_wM cI cZ aM M d) sz)) 0 0 (va_A (ul_wM cI cZ aM M d) sz) := by
  refine Met.ofW (cc := cX7_lost) (maxL := 3) (ret := (some .int)) (by decide) rfl ?_
  intro p e s m args below meth c s₁ B hml hv
  obtain ⟨rfl, hsz, hP, hK, hD0, hN⟩ := hv
  have hx := B.exec
  have hb := B.bytes
  have hr := B.returns
  have hts := atoms_spec (ws := wsX7_lost) B.pre
  have hown : s.vm.findClass RX7 = some m.cls := findClass_of_methodNamed B.named
  have hlocks := B.notSynchronized
  have hin7 : ∀ w ∈ u_ws RX7 TX7 26, w ∈ wsX7_lost := by decide +kernel
  subst hsz
  have hD := hD0.self (sz := s.heap.size)
  generalize hAe : va_A (ul_wM cI cZ aM M d) s.heap.size = A at hD ⊢
  have hA : ∀ q : Nat, s.heap.size ≤ q → A q := fun q h => by rw [← hAe]; exact Or.inr h
  have hS : va_S A s.heap s.heap [] := va_S.rf
  have hl := lv_entry ([.ref (aM 0), .int p1]) (n := 3) (Nat.le_of_ble_eq_true rfl)
  rw [lg_entry_eq]
  generalize (lg_sl ([.ref (aM 0), .int p1]) ++ List.replicate (3 - (lg_sl ([.ref (aM 0), .int p1])).length) Slot.unset).toArray = ls at hl ⊢
  have hl : lv_has ls 3 [(0, .ref (aM 0)), (1, .int p1)] := hl
  obtain ⟨K0, hK0, h⟩ := ul_top h
  unfold f_X7_lost at h
  refine ul_gen (fun G gi ge => ?_)
  obtain ⟨H, eH⟩ : ∃ z, z = s.heap := ⟨_, rfl⟩
  obtain ⟨locs, eL⟩ : ∃ z : List Loc, z = [] := ⟨_, rfl⟩
  have hP : va_P (dC, dI) classes (ul_wM cI cZ aM M d) H := by rw [eH]; exact hP
  have hS : va_S A s.heap H locs := by rw [eH, eL]; exact hS
  rw [← eL]
  refine (show G H locs (F0 m 0 ls []) → G s.heap locs (F0 m 0 ls []) from fun z => by rw [← eH]; exact z) ?_
  have J49 : ∀ (x2 : Int32) (M__49 : ul_S) (H : Heap) (locs : List Loc), ul_H (dC, dI) A s.heap (ul_wM cI cZ aM M__49 d) H locs → ∀ ls : Array Slot, lv_has ls 3 [(0, .ref (aM 0)), (1, .int p1), (2, .int x2)] → (f_X7_lost_j49 p1 x2 M__49).bind K0 = some r → G H locs (F0 m 49 ls []) := by
    intro x2 M__49 H locs hw ls hl h
    obtain ⟨hP, hD, hS⟩ := hw
    unfold f_X7_lost_j49 at h
    refine gi _ _ _ ?_
    refine lv_bipush (v := -9) hx hb dX7_lost_49 (by decide) ?_
    have hr9 := hK0 ((-9 : Int32), M__49) h
    subst hr9
    exact W.iret (v := (-9 : Int32)) hx hb hr (fun t ht hW => ⟨⟨(-9 : Int32), (), rfl, rfl, by rw [ht]; exact hP, va_K.moved hW.alike hK, hD⟩, hS.F ht⟩) hS.2.2 dX7_lost_51
  refine gi _ _ _ ?_
  refine lv_aload_n hx hb dX7_lost_0 rfl (lv_at hl 0 rfl) ?_
  refine lv_iload_n hx hb dX7_lost_1 rfl (lv_at hl 1 rfl) ?_
  obtain ⟨u1, hu1, h⟩ := ul_cl_h h
  refine ul_cVi (As := [.int p1]) (rest := []) (wc' := (ul_wM cI cZ aM M d)) (wr := []) hP hD hS hK hA [0, 1, 2, 3, 4, 5, 6, 7, 8, 9, 10, 11, 12, 13, 14] [] [0, 1] ul_N0_ok trivial (c_X7_isPerson l dC dI cI cZ aM H.size M d p1 u1 hu1) rfl rfl (by decide) rfl (by decide) (by decide) rfl ⟨hx, hb, hml, hown, hts⟩ (cwV 1 hts gX7_lost_X7_isPerson rfl rfl rfl (by decide +kernel) ⟨Nat.le_of_ble_eq_true rfl, Nat.le_of_ble_eq_true rfl⟩) (va_recv hK hP (ci := 7) (q0 := 0) rfl rfl) rfl hl.1 rfl (Nat.le_of_ble_eq_true rfl) dX7_lost_2 (fun H locs hw => ?_)
  obtain ⟨hP, hD, hS⟩ := hw
  have hP : va_P (dC, dI) classes (ul_wM cI cZ aM M d) H := hP
  have hD : va_D A (ul_wM cI cZ aM M d) := hD
  refine lv_if_ne (tgt := 10) hx hb dX7_lost_5 (by decide) (fun hc2 => ?_) (fun hc2 => ?_)
  · have h := ul_if_f hc2 h
    refine lv_aload_n hx hb dX7_lost_10 rfl (lv_at hl 0 rfl) ?_
    obtain ⟨u3, hu3, h⟩ := ul_cl_h h
    refine ul_cVv (As := []) (rest := []) (wc' := (ul_wM cI cZ aM u3 d)) (wr := []) hP hD hS hK hA [0, 1, 2, 3, 4, 5, 6, 7, 8, 9, 10, 11, 12, 13, 14] [] [0, 1] ul_N0_ok trivial (c_X7_layTrial l dC dI cI cZ aM H.size M d u3 hu3) rfl rfl (by decide) rfl (by decide) (by decide) rfl ⟨hx, hb, hml, hown, hts⟩ (cwV 0 hts gX7_lost_X7_layTrial rfl rfl rfl (by decide +kernel) ⟨Nat.le_of_ble_eq_true rfl, Nat.le_of_ble_eq_true rfl⟩) (va_recv hK hP (ci := 7) (q0 := 0) rfl rfl) rfl hl.1 rfl (Nat.le_of_ble_eq_true rfl) dX7_lost_11 (fun H locs hw => ?_)
    obtain ⟨hP, hD, hS⟩ := hw
    have hP : va_P (dC, dI) classes (ul_wM cI cZ aM u3 d) H := hP
    have hD : va_D A (ul_wM cI cZ aM u3 d) := hD
    refine lv_iconst (v := 0) hx hb dX7_lost_14 (by decide) ?_
    refine lv_istore_n (lv' := [(2, .int (0 : Int32)), (0, .ref (aM 0)), (1, .int p1)]) hx hb dX7_lost_15 rfl hl (by decide) rfl (fun ls hl => ?_)
    refine ge _ _ _ (ul_loop (P := fun q16 => ∀ (H : Heap) (locs : List Loc), ul_H (dC, dI) A s.heap (ul_wM cI cZ aM q16.2 d) H locs → ∀ ls : Array Slot, lv_has ls 3 [(0, .ref (aM 0)), (1, .int p1), (2, .int q16.1)] → G H locs (F0 m 16 ls [])) ?_ _ _ (ul_it_h h) H locs ⟨hP, hD, hS⟩ ls (lv_sub hl [1, 2, 0] rfl))
    intro K16 hx16
    intro q16 ih16 h H locs hw ls hl
    obtain ⟨hP, hD, hS⟩ := hw
    unfold f_X7_lost_L16 at h
    refine gi _ _ _ ?_
    refine lv_iload_n hx hb dX7_lost_16 rfl (lv_at hl 2 rfl) ?_
    refine lv_bipush (v := 21) hx hb dX7_lost_17 (by decide) ?_
    refine lv_icmp_ge (tgt := 49) hx hb dX7_lost_19 (by decide) (fun hc10 => ?_) (fun hc10 => ?_)
    · have h := ul_if_t hc10 h
      exact ge _ _ _ (J49 q16.1 q16.2 H locs ⟨hP, hD, hS⟩ ls (lv_sub hl [0, 1, 2] rfl) (hx16 (.inr (q16.1, q16.2)) h))
    · have h := ul_if_f hc10 h
      refine lv_aload_n hx hb dX7_lost_22 rfl (lv_at hl 0 rfl) ?_
      refine va_get (D := (dC, dI)) (ci := 7) (v := .ref (aM 6)) (C := RX7) (T := TX7) (N := 26) hx hb hts hin7 hown hK hP 0 rfl rfl 7 (by decide) (hts (.fieldLink RX7 25 "UnderLaddersModel" "now" "[I") (by decide +kernel)) (fun _ h9 => h9) rfl dX7_lost_23 ?_
      refine lv_bipush (v := 40) hx hb dX7_lost_26 (by decide) ?_
      refine lv_iload_n hx hb dX7_lost_28 rfl (lv_at hl 1 rfl) ?_
      refine lv_iadd hx hb dX7_lost_29 ?_
      obtain ⟨hi12, h⟩ := ul_ld_h h
      refine va_iald hx hb hK hP 6 0 rfl rfl hi12 dX7_lost_30 ?_
      refine lv_topi (fun v11 ev11 => ?_)
      have h := h v11 ev11
      refine lv_if_ne (tgt := 36) hx hb dX7_lost_31 (by decide) (fun hc13 => ?_) (fun hc13 => ?_)
      · have h := ul_if_f hc13 h
        refine lv_aload_n hx hb dX7_lost_36 rfl (lv_at hl 0 rfl) ?_
        refine lv_iconst (v := 1) hx hb dX7_lost_37 (by decide) ?_
        refine lv_iconst (v := 0) hx hb dX7_lost_38 (by decide) ?_
        obtain ⟨u14, hu14, h⟩ := ul_cl_h h
        refine ul_cVi (As := [.int (1 : Int32), .int (0 : Int32)]) (rest := []) (wc' := (ul_wM cI cZ aM u14.2 d)) (wr := []) hP hD hS hK hA [0, 1, 2, 3, 4, 5, 6, 7, 8, 9, 10, 11, 12, 13, 14] [] [0, 1] ul_N0_ok trivial (c_X7_passOn l dC dI cI cZ aM H.size q16.2 d (1 : Int32) (0 : Int32) u14 hu14) rfl rfl (by decide) rfl (by decide) (by decide) rfl ⟨hx, hb, hml, hown, hts⟩ (cwV 2 hts gX7_lost_X7_passOn rfl rfl rfl (by decide +kernel) ⟨Nat.le_of_ble_eq_true rfl, Nat.le_of_ble_eq_true rfl⟩) (va_recv hK hP (ci := 7) (q0 := 0) rfl rfl) rfl hl.1 rfl (Nat.le_of_ble_eq_true rfl) dX7_lost_39 (fun H locs hw => ?_)
        obtain ⟨hP, hD, hS⟩ := hw
        have hP : va_P (dC, dI) classes (ul_wM cI cZ aM u14.2 d) H := hP
        have hD : va_D A (ul_wM cI cZ aM u14.2 d) := hD
        refine lv_pop hx hb dX7_lost_42 rfl ?_
        obtain ⟨v15, ev15⟩ : ∃ z : Int32, z = q16.1 + 1 := ⟨_, rfl⟩
        have h := ul_bd_h h v15 ev15
        refine lv_iinc (v := v15) (lv' := [(2, .int v15), (0, .ref (aM 0)), (1, .int p1)]) hx hb dX7_lost_43 hl (k := 2) rfl (by rw [ev15]; rfl) (by decide) rfl (fun ls hl => ?_)
        refine lv_goto (tgt := 16) hx hb dX7_lost_46 (by decide) ?_
        exact ge _ _ _ (ih16 (v15, u14.2) h H locs ⟨hP, hD, hS⟩ ls (lv_sub hl [1, 2, 0] rfl))
      · have h := ul_if_t hc13 h
        refine lv_iload_n hx hb dX7_lost_34 rfl (lv_at hl 2 rfl) ?_
        have hr9 := hK0 (q16.1, q16.2) (hx16 (.inl (q16.1, q16.2)) h)
        subst hr9
        exact W.iret (v := q16.1) hx hb hr (fun t ht hW => ⟨⟨q16.1, (), rfl, rfl, by rw [ht]; exact hP, va_K.moved hW.alike hK, hD⟩, hS.F ht⟩) hS.2.2 dX7_lost_35
  · have h := ul_if_t hc2 h
    refine lv_iconst (v := -1) hx hb dX7_lost_8 (by decide) ?_
    have hr9 := hK0 ((-1 : Int32), M) h
    subst hr9
    exact W.iret (v := (-1 : Int32)) hx hb hr (fun t ht hW => ⟨⟨(-1 : Int32), (), rfl, rfl, by rw [ht]; exact hP, va_K.moved hW.alike hK, hD⟩, hS.F ht⟩) hS.2.2 dX7_lost_9
def f_X7_spot_j189 (p1 : Int32) (p2 : Int32) (x3 : Int32) (x4 : Int32) (x5 : Int32) (x6 : Int32) (M__189 : ul_S) : Option (Int32 × ul_S) :=
  if p2 = 0 then (some (x3, M__189)) else (some (x4, M__189))
def f_X7_spot_j183 (p1 : Int32) (p2 : Int32) (x3 : Int32) (x4 : Int32) (x5 : Int32) (x6 : Int32) (M__183 : ul_S) : Option ((Int32 × Int32 × Int32 × Int32 × ul_S) ⊕ (Int32 × Int32 × Int32 × Int32 × ul_S)) :=
  ul_bd (x6 + 1) fun v7 => some (.inr (x3, x4, x5, v7, M__183))
def f_X7_spot_j181 (p1 : Int32) (p2 : Int32) (x3 : Int32) (x4 : Int32) (x5 : Int32) (x6 : Int32) (x7 : Int32) (x8 : Int32) (x9 : Int32) (t0 : Int32) (M__181 : ul_S) : Option ((Int32 × Int32 × Int32 × Int32 × ul_S) ⊕ (Int32 × Int32 × Int32 × Int32 × ul_S)) :=
  f_X7_spot_j183 p1 p2 x3 x4 t0 x6 M__181
def f_X7_spot_j167 (p1 : Int32) (p2 : Int32) (x3 : Int32) (x4 : Int32) (x5 : Int32) (x6 : Int32) (x7 : Int32) (x8 : Int32) (x9 : Int32) (t0 : Int32) (M__167 : ul_S) : Option ((Int32 × Int32 × Int32 × Int32 × ul_S) ⊕ (Int32 × Int32 × Int32 × Int32 × ul_S)) :=
  if x9 = 0 then (f_X7_spot_j181 p1 p2 x3 t0 x5 x6 x7 x8 x9 x5 M__167) else (f_X7_spot_j181 p1 p2 x3 t0 x5 x6 x7 x8 x9 x8 M__167)
def f_X7_spot_j154 (p1 : Int32) (p2 : Int32) (x3 : Int32) (x4 : Int32) (x5 : Int32) (x6 : Int32) (x7 : Int32) (x8 : Int32) (x9 : Int32) (t0 : Int32) (M__154 : ul_S) : Option ((Int32 × Int32 × Int32 × Int32 × ul_S) ⊕ (Int32 × Int32 × Int32 × Int32 × ul_S)) :=
  if x9 = 0 then (f_X7_spot_j167 p1 p2 t0 x4 x5 x6 x7 x8 x9 x4 M__154) else (f_X7_spot_j167 p1 p2 t0 x4 x5 x6 x7 x8 x9 x7 M__154)
def f_X7_spot_j141 (p1 : Int32) (p2 : Int32) (x3 : Int32) (x4 : Int32) (x5 : Int32) (x6 : Int32) (x7 : Int32) (x8 : Int32) (t0 : Int32) (M__141 : ul_S) : Option ((Int32 × Int32 × Int32 × Int32 × ul_S) ⊕ (Int32 × Int32 × Int32 × Int32 × ul_S)) :=
  if t0 = 0 then (f_X7_spot_j154 p1 p2 x3 x4 x5 x6 x7 x8 t0 x3 M__141) else (f_X7_spot_j154 p1 p2 x3 x4 x5 x6 x7 x8 t0 x6 M__141)
def f_X7_spot_j140 (p1 : Int32) (p2 : Int32) (x3 : Int32) (x4 : Int32) (x5 : Int32) (x6 : Int32) (x7 : Int32) (x8 : Int32) (M__140 : ul_S) : Option ((Int32 × Int32 × Int32 × Int32 × ul_S) ⊕ (Int32 × Int32 × Int32 × Int32 × ul_S)) :=
  f_X7_spot_j141 p1 p2 x3 x4 x5 x6 x7 x8 (0 : Int32) M__140
def f_X7_spot_j136 (p1 : Int32) (p2 : Int32) (x3 : Int32) (x4 : Int32) (x5 : Int32) (x6 : Int32) (x7 : Int32) (x8 : Int32) (M__136 : ul_S) : Option ((Int32 × Int32 × Int32 × Int32 × ul_S) ⊕ (Int32 × Int32 × Int32 × Int32 × ul_S)) :=
  f_X7_spot_j141 p1 p2 x3 x4 x5 x6 x7 x8 (1 : Int32) M__136
def f_X7_spot_j65 (p1 : Int32) (p2 : Int32) (x3 : Int32) (x4 : Int32) (x5 : Int32) (x6 : Int32) (M__65 : ul_S) : Option ((Int32 × Int32 × Int32 × Int32 × ul_S) ⊕ (Int32 × Int32 × Int32 × Int32 × ul_S)) :=
  (f_X7_layTrial M__65).bind fun u15 => ul_st u15 6 46 ((23 : Int32) + p1) x6 fun M16 => (f_X7_goOn M16 (6 : Int32) (0 : Int32)).bind fun u18 => ul_ld (u18 6) 46 ((31 : Int32) + p1) fun v19 => ul_ld (u18 6) 46 ((27 : Int32) + p1) fun v21 => if x3 = (-9 : Int32) then (f_X7_spot_j136 p1 p2 x3 x4 x5 x6 v19 v21 u18) else (if x4 < v19 then (f_X7_spot_j136 p1 p2 x3 x4 x5 x6 v19 v21 u18) else (if v19 = x4 then (if v21 ≤ x5 then (f_X7_spot_j140 p1 p2 x3 x4 x5 x6 v19 v21 u18) else (f_X7_spot_j136 p1 p2 x3 x4 x5 x6 v19 v21 u18)) else (f_X7_spot_j140 p1 p2 x3 x4 x5 x6 v19 v21 u18)))
def f_X7_spot_L35 (p1 : Int32) (p2 : Int32) (q35 : (Int32 × Int32 × Int32 × Int32 × ul_S)) : Option ((Int32 × Int32 × Int32 × Int32 × ul_S) ⊕ (Int32 × Int32 × Int32 × Int32 × ul_S)) :=
  if (10 : Int32) ≤ q35.2.2.2.1 then (some (.inl (q35.1, q35.2.1, q35.2.2.1, q35.2.2.2.1, q35.2.2.2.2))) else (ul_ld (q35.2.2.2.2 6) 46 p1 fun v40 => if v40 = q35.2.2.2.1 then (f_X7_spot_j65 p1 p2 q35.1 q35.2.1 q35.2.2.1 q35.2.2.2.1 q35.2.2.2.2) else ((f_X7_ladderAt q35.2.2.2.2 (0 : Int32) q35.2.2.2.1).bind fun u43 => if u43 = (-9 : Int32) then (f_X7_spot_j65 p1 p2 q35.1 q35.2.1 q35.2.2.1 q35.2.2.2.1 q35.2.2.2.2) else (f_X7_spot_j183 p1 p2 q35.1 q35.2.1 q35.2.2.1 q35.2.2.2.1 q35.2.2.2.2)))
def f_X7_spot (M : ul_S) (p1 : Int32) (p2 : Int32) : Option (Int32 × ul_S) :=
  (f_X7_isLadder M p1).bind fun u3 => if u3 = 0 then (some ((-1 : Int32), M)) else ((f_X7_in p2.toInt64 (0 : Int64) (1 : Int64)).bind fun u5 => if u5 = 0 then (some ((-2 : Int32), M)) else ((ul_it ul_N (f_X7_spot_L35 p1 p2) ((-9 : Int32), (0 : Int32), (0 : Int32), (0 : Int32), M)).bind (fun e35 => f_X7_spot_j189 p1 p2 e35.1 e35.2.1 e35.2.2.1 e35.2.2.2.1 e35.2.2.2.2)))
set_option maxHeartbeats 4000000 in
set_option maxRecDepth 100000 in
theorem c_X7_spot (l : Launch) (dC : Nat → ClassId) (dI : Nat → Nat → Nat) (cI : ClassId) (cZ : ClassId) (aM : Nat → Nat) (sz : Nat) (M : ul_S) (d : Int64) (p1 : Int32) (p2 : Int32) (r : (Int32 × ul_S)) (h : f_X7_spot M p1 p2 = some r) : Met l yX7_spot wsX7_spot ({ frames := 7, cells := 0, slots := 0, locals := 166 }) (va_Pc [.ref (aM 0), .int p1, .int p2] (ul_pre (dC, dI) [(cI, .int), (cZ, .boolean)] ul_N0 sz (ul_wM cI cZ aM M d))) (va_Qi (fun v (_ : Unit) => v = r.1) (fun _ => ul_post (dC, dI) [(cI, .int), (cZ, .boolean)] (va_A (ul_wM cI cZ aM M d) sz) (ul_wM cI cZ aM r.2 d)) (va_A (ul_wM cI cZ aM M d) sz)) 0 0 (va_A (ul_wM cI cZ aM M d) sz) := by
  refine Met.ofW (cc := cX7_spot) (maxL := 10) (ret := (some .int)) (by decide) rfl ?_
  intro p e s m args below meth c s₁ B hml hv
  obtain ⟨rfl, hsz, hP, hK, hD0, hN⟩ := hv
  have hx := B.exec
  have hb := B.bytes
  have hr := B.returns
  have hts := atoms_spec (ws := wsX7_spot) B.pre
  have hown : s.vm.findClass RX7 = some m.cls := findClass_of_methodNamed B.named
  have hlocks := B.notSynchronized
  have hin7 : ∀ w ∈ u_ws RX7 TX7 26, w ∈ wsX7_spot := by decide +kernel
  subst hsz
  have hD := hD0.self (sz := s.heap.size)
  generalize hAe : va_A (ul_wM cI cZ aM M d) s.heap.size = A at hD ⊢
  have hA : ∀ q : Nat, s.heap.size ≤ q → A q := fun q h => by rw [← hAe]; exact Or.inr h
  have hS : va_S A s.heap s.heap [] := va_S.rf
  have hl := lv_entry ([.ref (aM 0), .int p1, .int p2]) (n := 10) (Nat.le_of_ble_eq_true rfl)
  rw [lg_entry_eq]
  generalize (lg_sl ([.ref (aM 0), .int p1, .int p2]) ++ List.replicate (10 - (lg_sl ([.ref (aM 0), .int p1, .int p2])).length) Slot.unset).toArray = ls at hl ⊢
  have hl : lv_has ls 10 [(0, .ref (aM 0)), (1, .int p1), (2, .int p2)] := hl
  obtain ⟨K0, hK0, h⟩ := ul_top h
  unfold f_X7_spot at h
  refine ul_gen (fun G gi ge => ?_)
  obtain ⟨H, eH⟩ : ∃ z, z = s.heap := ⟨_, rfl⟩
  obtain ⟨locs, eL⟩ : ∃ z : List Loc, z = [] := ⟨_, rfl⟩
  have hP : va_P (dC, dI) classes (ul_wM cI cZ aM M d) H := by rw [eH]; exact hP
  have hS : va_S A s.heap H locs := by rw [eH, eL]; exact hS
  rw [← eL]
  refine (show G H locs (F0 m 0 ls []) → G s.heap locs (F0 m 0 ls []) from fun z => by rw [← eH]; exact z) ?_
  have J189 : ∀ (x3 : Int32) (x4 : Int32) (x5 : Int32) (x6 : Int32) (M__189 : ul_S) (H : Heap) (locs : List Loc), ul_H (dC, dI) A s.heap (ul_wM cI cZ aM M__189 d) H locs → ∀ ls : Array Slot, lv_has ls 10 [(0, .ref (aM 0)), (1, .int p1), (2, .int p2), (3, .int x3), (4, .int x4), (5, .int x5), (6, .int x6)] → (f_X7_spot_j189 p1 p2 x3 x4 x5 x6 M__189).bind K0 = some r → G H locs (F0 m 189 ls []) := by
    intro x3 x4 x5 x6 M__189 H locs hw ls hl h
    obtain ⟨hP, hD, hS⟩ := hw
    unfold f_X7_spot_j189 at h
    refine gi _ _ _ ?_
    refine lv_iload_n hx hb dX7_spot_189 rfl (lv_at hl 2 rfl) ?_
    refine lv_if_ne (tgt := 197) hx hb dX7_spot_190 (by decide) (fun hc2 => ?_) (fun hc2 => ?_)
    · have h := ul_if_f hc2 h
      refine lv_iload hx hb dX7_spot_197 (lv_at hl 4 rfl) ?_
      have hr9 := hK0 (x4, M__189) h
      subst hr9
      exact W.iret (v := x4) hx hb hr (fun t ht hW => ⟨⟨x4, (), rfl, rfl, by rw [ht]; exact hP, va_K.moved hW.alike hK, hD⟩, hS.F ht⟩) hS.2.2 dX7_spot_199
    · have h := ul_if_t hc2 h
      refine lv_iload_n hx hb dX7_spot_193 rfl (lv_at hl 3 rfl) ?_
      refine lv_goto (tgt := 199) hx hb dX7_spot_194 (by decide) ?_
      have hr9 := hK0 (x3, M__189) h
      subst hr9
      exact W.iret (v := x3) hx hb hr (fun t ht hW => ⟨⟨x3, (), rfl, rfl, by rw [ht]; exact hP, va_K.moved hW.alike hK, hD⟩, hS.F ht⟩) hS.2.2 dX7_spot_199
  refine gi _ _ _ ?_
  refine lv_aload_n hx hb dX7_spot_0 rfl (lv_at hl 0 rfl) ?_
  refine lv_iload_n hx hb dX7_spot_1 rfl (lv_at hl 1 rfl) ?_
  obtain ⟨u3, hu3, h⟩ := ul_cl_h h
  refine ul_cVi (As := [.int p1]) (rest := []) (wc' := (ul_wM cI cZ aM M d)) (wr := []) hP hD hS hK hA [0, 1, 2, 3, 4, 5, 6, 7, 8, 9, 10, 11, 12, 13, 14] [] [0, 1] ul_N0_ok trivial (c_X7_isLadder l dC dI cI cZ aM H.size M d p1 u3 hu3) rfl rfl (by decide) rfl (by decide) (by decide) rfl ⟨hx, hb, hml, hown, hts⟩ (cwV 1 hts gX7_spot_X7_isLadder rfl rfl rfl (by decide +kernel) ⟨Nat.le_of_ble_eq_true rfl, Nat.le_of_ble_eq_true rfl⟩) (va_recv hK hP (ci := 7) (q0 := 0) rfl rfl) rfl hl.1 rfl (Nat.le_of_ble_eq_true rfl) dX7_spot_2 (fun H locs hw => ?_)
  obtain ⟨hP, hD, hS⟩ := hw
  have hP : va_P (dC, dI) classes (ul_wM cI cZ aM M d) H := hP
  have hD : va_D A (ul_wM cI cZ aM M d) := hD
  refine lv_if_ne (tgt := 10) hx hb dX7_spot_5 (by decide) (fun hc4 => ?_) (fun hc4 => ?_)
  · have h := ul_if_f hc4 h
    refine lv_iload_n hx hb dX7_spot_10 rfl (lv_at hl 2 rfl) ?_
    refine lv_i2l hx hb dX7_spot_11 rfl ?_
    refine lv_lconst (v := 0) hx hb dX7_spot_12 (by decide) ?_
    refine lv_lconst (v := 1) hx hb dX7_spot_13 (by decide) ?_
    obtain ⟨u5, hu5, h⟩ := ul_cl_h h
    refine ul_cSi (As := [.long p2.toInt64, .long (0 : Int64), .long (1 : Int64)]) (rest := []) hP hD hS hK hA (c_X7_in l dC dI H.size p2.toInt64 (0 : Int64) (1 : Int64) u5 hu5) ⟨hx, hb, hml, hown, hts⟩ (cwS 3 hts gX7_spot_X7_in rfl rfl rfl (by decide +kernel) ⟨Nat.le_of_ble_eq_true rfl, Nat.le_of_ble_eq_true rfl⟩) rfl hl.1 rfl (Nat.le_of_ble_eq_true rfl) dX7_spot_14 (fun H locs hw => ?_)
    obtain ⟨hP, hD, hS⟩ := hw
    refine lv_if_ne (tgt := 23) hx hb dX7_spot_17 (by decide) (fun hc6 => ?_) (fun hc6 => ?_)
    · have h := ul_if_f hc6 h
      refine lv_bipush (v := -9) hx hb dX7_spot_23 (by decide) ?_
      refine lv_istore_n (lv' := [(3, .int (-9 : Int32)), (0, .ref (aM 0)), (1, .int p1), (2, .int p2)]) hx hb dX7_spot_25 rfl hl (by decide) rfl (fun ls hl => ?_)
      refine lv_iconst (v := 0) hx hb dX7_spot_26 (by decide) ?_
      refine lv_istore (lv' := [(4, .int (0 : Int32)), (3, .int (-9 : Int32)), (0, .ref (aM 0)), (1, .int p1), (2, .int p2)]) hx hb dX7_spot_27 hl (by decide) rfl (fun ls hl => ?_)
      refine lv_iconst (v := 0) hx hb dX7_spot_29 (by decide) ?_
      refine lv_istore (lv' := [(5, .int (0 : Int32)), (4, .int (0 : Int32)), (3, .int (-9 : Int32)), (0, .ref (aM 0)), (1, .int p1), (2, .int p2)]) hx hb dX7_spot_30 hl (by decide) rfl (fun ls hl => ?_)
      refine lv_iconst (v := 0) hx hb dX7_spot_32 (by decide) ?_
      refine lv_istore (lv' := [(6, .int (0 : Int32)), (5, .int (0 : Int32)), (4, .int (0 : Int32)), (3, .int (-9 : Int32)), (0, .ref (aM 0)), (1, .int p1), (2, .int p2)]) hx hb dX7_spot_33 hl (by decide) rfl (fun ls hl => ?_)
      refine ge _ _ _ (ul_loop (P := fun q35 => ∀ (H : Heap) (locs : List Loc), ul_H (dC, dI) A s.heap (ul_wM cI cZ aM q35.2.2.2.2 d) H locs → ∀ ls : Array Slot, lv_has ls 10 [(0, .ref (aM 0)), (1, .int p1), (2, .int p2), (3, .int q35.1), (4, .int q35.2.1), (5, .int q35.2.2.1), (6, .int q35.2.2.2.1)] → G H locs (F0 m 35 ls [])) ?_ _ _ (ul_it_h h) H locs ⟨hP, hD, hS⟩ ls (lv_sub hl [4, 5, 6, 3, 2, 1, 0] rfl))
      intro K35 hx35
      intro q35 ih35 h H locs hw ls hl
      have J183 : ∀ (x3 : Int32) (x4 : Int32) (x5 : Int32) (x6 : Int32) (M__183 : ul_S) (H : Heap) (locs : List Loc), ul_H (dC, dI) A s.heap (ul_wM cI cZ aM M__183 d) H locs → ∀ ls : Array Slot, lv_has ls 10 [(0, .ref (aM 0)), (1, .int p1), (2, .int p2), (3, .int x3), (4, .int x4), (5, .int x5), (6, .int x6)] → (f_X7_spot_j183 p1 p2 x3 x4 x5 x6 M__183).bind K35 = some r → G H locs (F0 m 183 ls []) := by
        intro x3 x4 x5 x6 M__183 H locs hw ls hl h
        obtain ⟨hP, hD, hS⟩ := hw
        unfold f_X7_spot_j183 at h
        refine gi _ _ _ ?_
        obtain ⟨v8, ev8⟩ : ∃ z : Int32, z = x6 + 1 := ⟨_, rfl⟩
        have h := ul_bd_h h v8 ev8
        refine lv_iinc (v := v8) (lv' := [(6, .int v8), (0, .ref (aM 0)), (1, .int p1), (2, .int p2), (3, .int x3), (4, .int x4), (5, .int x5)]) hx hb dX7_spot_183 hl (k := 6) rfl (by rw [ev8]; rfl) (by decide) rfl (fun ls hl => ?_)
        refine lv_goto (tgt := 35) hx hb dX7_spot_186 (by decide) ?_
        exact ge _ _ _ (ih35 (x3, x4, x5, v8, M__183) h H locs ⟨hP, hD, hS⟩ ls (lv_sub hl [1, 2, 3, 4, 5, 6, 0] rfl))
      have J181 : ∀ (x3 : Int32) (x4 : Int32) (x5 : Int32) (x6 : Int32) (x7 : Int32) (x8 : Int32) (x9 : Int32) (t0 : Int32) (M__181 : ul_S) (H : Heap) (locs : List Loc), ul_H (dC, dI) A s.heap (ul_wM cI cZ aM M__181 d) H locs → ∀ ls : Array Slot, lv_has ls 10 [(0, .ref (aM 0)), (1, .int p1), (2, .int p2), (3, .int x3), (4, .int x4), (5, .int x5), (6, .int x6), (7, .int x7), (8, .int x8), (9, .int x9)] → (f_X7_spot_j181 p1 p2 x3 x4 x5 x6 x7 x8 x9 t0 M__181).bind K35 = some r → G H locs (F0 m 181 ls [.int t0]) := by
        intro x3 x4 x5 x6 x7 x8 x9 t0 M__181 H locs hw ls hl h
        obtain ⟨hP, hD, hS⟩ := hw
        unfold f_X7_spot_j181 at h
        refine gi _ _ _ ?_
        refine lv_istore (lv' := [(5, .int t0), (0, .ref (aM 0)), (1, .int p1), (2, .int p2), (3, .int x3), (4, .int x4), (6, .int x6), (7, .int x7), (8, .int x8), (9, .int x9)]) hx hb dX7_spot_181 hl (by decide) rfl (fun ls hl => ?_)
        exact ge _ _ _ (J183 x3 x4 t0 x6 M__181 H locs ⟨hP, hD, hS⟩ ls (lv_sub hl [1, 2, 3, 4, 5, 0, 6] rfl) h)
      have J167 : ∀ (x3 : Int32) (x4 : Int32) (x5 : Int32) (x6 : Int32) (x7 : Int32) (x8 : Int32) (x9 : Int32) (t0 : Int32) (M__167 : ul_S) (H : Heap) (locs : List Loc), ul_H (dC, dI) A s.heap (ul_wM cI cZ aM M__167 d) H locs → ∀ ls : Array Slot, lv_has ls 10 [(0, .ref (aM 0)), (1, .int p1), (2, .int p2), (3, .int x3), (4, .int x4), (5, .int x5), (6, .int x6), (7, .int x7), (8, .int x8), (9, .int x9)] → (f_X7_spot_j167 p1 p2 x3 x4 x5 x6 x7 x8 x9 t0 M__167).bind K35 = some r → G H locs (F0 m 167 ls [.int t0]) := by
        intro x3 x4 x5 x6 x7 x8 x9 t0 M__167 H locs hw ls hl h
        obtain ⟨hP, hD, hS⟩ := hw
        unfold f_X7_spot_j167 at h
        refine gi _ _ _ ?_
        refine lv_istore (lv' := [(4, .int t0), (0, .ref (aM 0)), (1, .int p1), (2, .int p2), (3, .int x3), (5, .int x5), (6, .int x6), (7, .int x7), (8, .int x8), (9, .int x9)]) hx hb dX7_spot_167 hl (by decide) rfl (fun ls hl => ?_)
        refine lv_iload hx hb dX7_spot_169 (lv_at hl 9 rfl) ?_
        refine lv_if_eq (tgt := 179) hx hb dX7_spot_171 (by decide) (fun hc10 => ?_) (fun hc10 => ?_)
        · have h := ul_if_t hc10 h
          refine lv_iload hx hb dX7_spot_179 (lv_at hl 5 rfl) ?_
          exact ge _ _ _ (J181 x3 t0 x5 x6 x7 x8 x9 x5 M__167 H locs ⟨hP, hD, hS⟩ ls (lv_sub hl [1, 2, 3, 4, 0, 5, 6, 7, 8, 9] rfl) h)
        · have h := ul_if_f hc10 h
          refine lv_iload hx hb dX7_spot_174 (lv_at hl 8 rfl) ?_
          refine lv_goto (tgt := 181) hx hb dX7_spot_176 (by decide) ?_
          exact ge _ _ _ (J181 x3 t0 x5 x6 x7 x8 x9 x8 M__167 H locs ⟨hP, hD, hS⟩ ls (lv_sub hl [1, 2, 3, 4, 0, 5, 6, 7, 8, 9] rfl) h)
      have J154 : ∀ (x3 : Int32) (x4 : Int32) (x5 : Int32) (x6 : Int32) (x7 : Int32) (x8 : Int32) (x9 : Int32) (t0 : Int32) (M__154 : ul_S) (H : Heap) (locs : List Loc), ul_H (dC, dI) A s.heap (ul_wM cI cZ aM M__154 d) H locs → ∀ ls : Array Slot, lv_has ls 10 [(0, .ref (aM 0)), (1, .int p1), (2, .int p2), (3, .int x3), (4, .int x4), (5, .int x5), (6, .int x6), (7, .int x7), (8, .int x8), (9, .int x9)] → (f_X7_spot_j154 p1 p2 x3 x4 x5 x6 x7 x8 x9 t0 M__154).bind K35 = some r → G H locs (F0 m 154 ls [.int t0]) := by
        intro x3 x4 x5 x6 x7 x8 x9 t0 M__154 H locs hw ls hl h
        obtain ⟨hP, hD, hS⟩ := hw
        unfold f_X7_spot_j154 at h
        refine gi _ _ _ ?_
        refine lv_istore_n (lv' := [(3, .int t0), (0, .ref (aM 0)), (1, .int p1), (2, .int p2), (4, .int x4), (5, .int x5), (6, .int x6), (7, .int x7), (8, .int x8), (9, .int x9)]) hx hb dX7_spot_154 rfl hl (by decide) rfl (fun ls hl => ?_)
        refine lv_iload hx hb dX7_spot_155 (lv_at hl 9 rfl) ?_
        refine lv_if_eq (tgt := 165) hx hb dX7_spot_157 (by decide) (fun hc12 => ?_) (fun hc12 => ?_)
        · have h := ul_if_t hc12 h
          refine lv_iload hx hb dX7_spot_165 (lv_at hl 4 rfl) ?_
          exact ge _ _ _ (J167 t0 x4 x5 x6 x7 x8 x9 x4 M__154 H locs ⟨hP, hD, hS⟩ ls (lv_sub hl [1, 2, 3, 0, 4, 5, 6, 7, 8, 9] rfl) h)
        · have h := ul_if_f hc12 h
          refine lv_iload hx hb dX7_spot_160 (lv_at hl 7 rfl) ?_
          refine lv_goto (tgt := 167) hx hb dX7_spot_162 (by decide) ?_
          exact ge _ _ _ (J167 t0 x4 x5 x6 x7 x8 x9 x7 M__154 H locs ⟨hP, hD, hS⟩ ls (lv_sub hl [1, 2, 3, 0, 4, 5, 6, 7, 8, 9] rfl) h)
      have J141 : ∀ (x3 : Int32) (x4 : Int32) (x5 : Int32) (x6 : Int32) (x7 : Int32) (x8 : Int32) (t0 : Int32) (M__141 : ul_S) (H : Heap) (locs : List Loc), ul_H (dC, dI) A s.heap (ul_wM cI cZ aM M__141 d) H locs → ∀ ls : Array Slot, lv_has ls 10 [(0, .ref (aM 0)), (1, .int p1), (2, .int p2), (3, .int x3), (4, .int x4), (5, .int x5), (6, .int x6), (7, .int x7), (8, .int x8)] → (f_X7_spot_j141 p1 p2 x3 x4 x5 x6 x7 x8 t0 M__141).bind K35 = some r → G H locs (F0 m 141 ls [.int t0]) := by
        intro x3 x4 x5 x6 x7 x8 t0 M__141 H locs hw ls hl h
        obtain ⟨hP, hD, hS⟩ := hw
        unfold f_X7_spot_j141 at h
        refine gi _ _ _ ?_
        refine lv_istore (lv' := [(9, .int t0), (0, .ref (aM 0)), (1, .int p1), (2, .int p2), (3, .int x3), (4, .int x4), (5, .int x5), (6, .int x6), (7, .int x7), (8, .int x8)]) hx hb dX7_spot_141 hl (by decide) rfl (fun ls hl => ?_)
        refine lv_iload hx hb dX7_spot_143 (lv_at hl 0 rfl) ?_
        refine lv_if_eq (tgt := 153) hx hb dX7_spot_145 (by decide) (fun hc14 => ?_) (fun hc14 => ?_)
        · have h := ul_if_t hc14 h
          refine lv_iload_n hx hb dX7_spot_153 rfl (lv_at hl 4 rfl) ?_
          exact ge _ _ _ (J154 x3 x4 x5 x6 x7 x8 t0 x3 M__141 H locs ⟨hP, hD, hS⟩ ls (lv_sub hl [1, 2, 3, 4, 5, 6, 7, 8, 9, 0] rfl) h)
        · have h := ul_if_f hc14 h
          refine lv_iload hx hb dX7_spot_148 (lv_at hl 7 rfl) ?_
          refine lv_goto (tgt := 154) hx hb dX7_spot_150 (by decide) ?_
          exact ge _ _ _ (J154 x3 x4 x5 x6 x7 x8 t0 x6 M__141 H locs ⟨hP, hD, hS⟩ ls (lv_sub hl [1, 2, 3, 4, 5, 6, 7, 8, 9, 0] rfl) h)
      have J140 : ∀ (x3 : Int32) (x4 : Int32) (x5 : Int32) (x6 : Int32) (x7 : Int32) (x8 : Int32) (M__140 : ul_S) (H : Heap) (locs : List Loc), ul_H (dC, dI) A s.heap (ul_wM cI cZ aM M__140 d) H locs → ∀ ls : Array Slot, lv_has ls 10 [(0, .ref (aM 0)), (1, .int p1), (2, .int p2), (3, .int x3), (4, .int x4), (5, .int x5), (6, .int x6), (7, .int x7), (8, .int x8)] → (f_X7_spot_j140 p1 p2 x3 x4 x5 x6 x7 x8 M__140).bind K35 = some r → G H locs (F0 m 140 ls []) := by
        intro x3 x4 x5 x6 x7 x8 M__140 H locs hw ls hl h
        obtain ⟨hP, hD, hS⟩ := hw
        unfold f_X7_spot_j140 at h
        refine gi _ _ _ ?_
        refine lv_iconst (v := 0) hx hb dX7_spot_140 (by decide) ?_
        exact ge _ _ _ (J141 x3 x4 x5 x6 x7 x8 (0 : Int32) M__140 H locs ⟨hP, hD, hS⟩ ls (lv_sub hl [0, 1, 2, 3, 4, 5, 6, 7, 8] rfl) h)
      have J136 : ∀ (x3 : Int32) (x4 : Int32) (x5 : Int32) (x6 : Int32) (x7 : Int32) (x8 : Int32) (M__136 : ul_S) (H : Heap) (locs : List Loc), ul_H (dC, dI) A s.heap (ul_wM cI cZ aM M__136 d) H locs → ∀ ls : Array Slot, lv_has ls 10 [(0, .ref (aM 0)), (1, .int p1), (2, .int p2), (3, .int x3), (4, .int x4), (5, .int x5), (6, .int x6), (7, .int x7), (8, .int x8)] → (f_X7_spot_j136 p1 p2 x3 x4 x5 x6 x7 x8 M__136).bind K35 = some r → G H locs (F0 m 136 ls []) := by
        intro x3 x4 x5 x6 x7 x8 M__136 H locs hw ls hl h
        obtain ⟨hP, hD, hS⟩ := hw
        unfold f_X7_spot_j136 at h
        refine gi _ _ _ ?_
        refine lv_iconst (v := 1) hx hb dX7_spot_136 (by decide) ?_
        refine lv_goto (tgt := 141) hx hb dX7_spot_137 (by decide) ?_
        exact ge _ _ _ (J141 x3 x4 x5 x6 x7 x8 (1 : Int32) M__136 H locs ⟨hP, hD, hS⟩ ls (lv_sub hl [0, 1, 2, 3, 4, 5, 6, 7, 8] rfl) h)
      have J65 : ∀ (x3 : Int32) (x4 : Int32) (x5 : Int32) (x6 : Int32) (M__65 : ul_S) (H : Heap) (locs : List Loc), ul_H (dC, dI) A s.heap (ul_wM cI cZ aM M__65 d) H locs → ∀ ls : Array Slot, lv_has ls 10 [(0, .ref (aM 0)), (1, .int p1), (2, .int p2), (3, .int x3), (4, .int x4), (5, .int x5), (6, .int x6)] → (f_X7_spot_j65 p1 p2 x3 x4 x5 x6 M__65).bind K35 = some r → G H locs (F0 m 65 ls []) := by
        intro x3 x4 x5 x6 M__65 H locs hw ls hl h
        obtain ⟨hP, hD, hS⟩ := hw
        unfold f_X7_spot_j65 at h
        refine gi _ _ _ ?_
        refine lv_aload_n hx hb dX7_spot_65 rfl (lv_at hl 0 rfl) ?_
        obtain ⟨u27, hu27, h⟩ := ul_cl_h h
        refine ul_cVv (As := []) (rest := []) (wc' := (ul_wM cI cZ aM u27 d)) (wr := []) hP hD hS hK hA [0, 1, 2, 3, 4, 5, 6, 7, 8, 9, 10, 11, 12, 13, 14] [] [0, 1] ul_N0_ok trivial (c_X7_layTrial l dC dI cI cZ aM H.size M__65 d u27 hu27) rfl rfl (by decide) rfl (by decide) (by decide) rfl ⟨hx, hb, hml, hown, hts⟩ (cwV 0 hts gX7_spot_X7_layTrial rfl rfl rfl (by decide +kernel) ⟨Nat.le_of_ble_eq_true rfl, Nat.le_of_ble_eq_true rfl⟩) (va_recv hK hP (ci := 7) (q0 := 0) rfl rfl) rfl hl.1 rfl (Nat.le_of_ble_eq_true rfl) dX7_spot_66 (fun H locs hw => ?_)
        obtain ⟨hP, hD, hS⟩ := hw
        have hP : va_P (dC, dI) classes (ul_wM cI cZ aM u27 d) H := hP
        have hD : va_D A (ul_wM cI cZ aM u27 d) := hD
        refine lv_aload_n hx hb dX7_spot_69 rfl (lv_at hl 0 rfl) ?_
        refine va_get (D := (dC, dI)) (ci := 7) (v := .ref (aM 6)) (C := RX7) (T := TX7) (N := 26) hx hb hts hin7 hown hK hP 0 rfl rfl 7 (by decide) (hts (.fieldLink RX7 25 "UnderLaddersModel" "now" "[I") (by decide +kernel)) (fun _ h9 => h9) rfl dX7_spot_70 ?_
        refine lv_bipush (v := 23) hx hb dX7_spot_73 (by decide) ?_
        refine lv_iload_n hx hb dX7_spot_75 rfl (lv_at hl 1 rfl) ?_
        refine lv_iadd hx hb dX7_spot_76 ?_
        refine lv_iload hx hb dX7_spot_77 (lv_at hl 6 rfl) ?_
        obtain ⟨hi29, h⟩ := ul_st_h h
        refine va_iast hx hb hK hP hD hS 6 0 rfl rfl hi29 dX7_spot_79 (fun H locs hP hD hS => ?_)
        obtain ⟨M28, eM28⟩ : ∃ z : ul_S, z = ul_up u27 6 ((23 : Int32) + p1).toNatClampNeg x6 := ⟨_, rfl⟩
        have h := h M28 eM28
        have hP : va_P (dC, dI) classes (ul_wM cI cZ aM M28 d) H := by rw [eM28]; exact hP
        have hD : va_D A (ul_wM cI cZ aM M28 d) := by rw [eM28]; exact hD
        refine lv_aload_n hx hb dX7_spot_80 rfl (lv_at hl 0 rfl) ?_
        refine lv_bipush (v := 6) hx hb dX7_spot_81 (by decide) ?_
        refine lv_iconst (v := 0) hx hb dX7_spot_83 (by decide) ?_
        obtain ⟨u30, hu30, h⟩ := ul_cl_h h
        refine ul_cVv (As := [.int (6 : Int32), .int (0 : Int32)]) (rest := []) (wc' := (ul_wM cI cZ aM u30 d)) (wr := []) hP hD hS hK hA [0, 1, 2, 3, 4, 5, 6, 7, 8, 9, 10, 11, 12, 13, 14] [] [0, 1] ul_N0_ok trivial (c_X7_goOn l dC dI cI cZ aM H.size M28 d (6 : Int32) (0 : Int32) u30 hu30) rfl rfl (by decide) rfl (by decide) (by decide) rfl ⟨hx, hb, hml, hown, hts⟩ (cwV 2 hts gX7_spot_X7_goOn rfl rfl rfl (by decide +kernel) ⟨Nat.le_of_ble_eq_true rfl, Nat.le_of_ble_eq_true rfl⟩) (va_recv hK hP (ci := 7) (q0 := 0) rfl rfl) rfl hl.1 rfl (Nat.le_of_ble_eq_true rfl) dX7_spot_84 (fun H locs hw => ?_)
        obtain ⟨hP, hD, hS⟩ := hw
        have hP : va_P (dC, dI) classes (ul_wM cI cZ aM u30 d) H := hP
        have hD : va_D A (ul_wM cI cZ aM u30 d) := hD
        refine lv_aload_n hx hb dX7_spot_87 rfl (lv_at hl 0 rfl) ?_
        refine va_get (D := (dC, dI)) (ci := 7) (v := .ref (aM 6)) (C := RX7) (T := TX7) (N := 26) hx hb hts hin7 hown hK hP 0 rfl rfl 7 (by decide) (hts (.fieldLink RX7 25 "UnderLaddersModel" "now" "[I") (by decide +kernel)) (fun _ h9 => h9) rfl dX7_spot_88 ?_
        refine lv_bipush (v := 31) hx hb dX7_spot_91 (by decide) ?_
        refine lv_iload_n hx hb dX7_spot_93 rfl (lv_at hl 1 rfl) ?_
        refine lv_iadd hx hb dX7_spot_94 ?_
        obtain ⟨hi32, h⟩ := ul_ld_h h
        refine va_iald hx hb hK hP 6 0 rfl rfl hi32 dX7_spot_95 ?_
        refine lv_topi (fun v31 ev31 => ?_)
        have h := h v31 ev31
        refine lv_istore (lv' := [(7, .int v31), (0, .ref (aM 0)), (1, .int p1), (2, .int p2), (3, .int x3), (4, .int x4), (5, .int x5), (6, .int x6)]) hx hb dX7_spot_96 hl (by decide) rfl (fun ls hl => ?_)
        refine lv_aload_n hx hb dX7_spot_98 rfl (lv_at hl 1 rfl) ?_
        refine va_get (D := (dC, dI)) (ci := 7) (v := .ref (aM 6)) (C := RX7) (T := TX7) (N := 26) hx hb hts hin7 hown hK hP 0 rfl rfl 7 (by decide) (hts (.fieldLink RX7 25 "UnderLaddersModel" "now" "[I") (by decide +kernel)) (fun _ h9 => h9) rfl dX7_spot_99 ?_
        refine lv_bipush (v := 27) hx hb dX7_spot_102 (by decide) ?_
        refine lv_iload_n hx hb dX7_spot_104 rfl (lv_at hl 2 rfl) ?_
        refine lv_iadd hx hb dX7_spot_105 ?_
        obtain ⟨hi34, h⟩ := ul_ld_h h
        refine va_iald hx hb hK hP 6 0 rfl rfl hi34 dX7_spot_106 ?_
        refine lv_topi (fun v33 ev33 => ?_)
        have h := h v33 ev33
        refine lv_istore (lv' := [(8, .int v33), (7, .int v31), (0, .ref (aM 0)), (1, .int p1), (2, .int p2), (3, .int x3), (4, .int x4), (5, .int x5), (6, .int x6)]) hx hb dX7_spot_107 hl (by decide) rfl (fun ls hl => ?_)
        refine lv_iload_n hx hb dX7_spot_109 rfl (lv_at hl 5 rfl) ?_
        refine lv_bipush (v := -9) hx hb dX7_spot_110 (by decide) ?_
        refine lv_icmp_eq (tgt := 136) hx hb dX7_spot_112 (by decide) (fun hc35 => ?_) (fun hc35 => ?_)
        · have h := ul_if_t hc35 h
          exact ge _ _ _ (J136 x3 x4 x5 x6 v31 v33 u30 H locs ⟨hP, hD, hS⟩ ls (lv_sub hl [2, 3, 4, 5, 6, 7, 8, 1, 0] rfl) h)
        · have h := ul_if_f hc35 h
          refine lv_iload hx hb dX7_spot_115 (lv_at hl 1 rfl) ?_
          refine lv_iload hx hb dX7_spot_117 (lv_at hl 6 rfl) ?_
          refine lv_icmp_gt (tgt := 136) hx hb dX7_spot_119 (by decide) (fun hc36 => ?_) (fun hc36 => ?_)
          · have h := ul_if_t hc36 h
            exact ge _ _ _ (J136 x3 x4 x5 x6 v31 v33 u30 H locs ⟨hP, hD, hS⟩ ls (lv_sub hl [2, 3, 4, 5, 6, 7, 8, 1, 0] rfl) h)
          · have h := ul_if_f hc36 h
            refine lv_iload hx hb dX7_spot_122 (lv_at hl 1 rfl) ?_
            refine lv_iload hx hb dX7_spot_124 (lv_at hl 6 rfl) ?_
            refine lv_icmp_ne (tgt := 140) hx hb dX7_spot_126 (by decide) (fun hc37 => ?_) (fun hc37 => ?_)
            · have h := ul_if_f hc37 h
              exact ge _ _ _ (J140 x3 x4 x5 x6 v31 v33 u30 H locs ⟨hP, hD, hS⟩ ls (lv_sub hl [2, 3, 4, 5, 6, 7, 8, 1, 0] rfl) h)
            · have h := ul_if_t hc37 h
              refine lv_iload hx hb dX7_spot_129 (lv_at hl 0 rfl) ?_
              refine lv_iload hx hb dX7_spot_131 (lv_at hl 7 rfl) ?_
              refine lv_icmp_le (tgt := 140) hx hb dX7_spot_133 (by decide) (fun hc38 => ?_) (fun hc38 => ?_)
              · have h := ul_if_t hc38 h
                exact ge _ _ _ (J140 x3 x4 x5 x6 v31 v33 u30 H locs ⟨hP, hD, hS⟩ ls (lv_sub hl [2, 3, 4, 5, 6, 7, 8, 1, 0] rfl) h)
              · have h := ul_if_f hc38 h
                exact ge _ _ _ (J136 x3 x4 x5 x6 v31 v33 u30 H locs ⟨hP, hD, hS⟩ ls (lv_sub hl [2, 3, 4, 5, 6, 7, 8, 1, 0] rfl) h)
      obtain ⟨hP, hD, hS⟩ := hw
      unfold f_X7_spot_L35 at h
      refine gi _ _ _ ?_
      refine lv_iload hx hb dX7_spot_35 (lv_at hl 6 rfl) ?_
      refine lv_bipush (v := 10) hx hb dX7_spot_37 (by decide) ?_
      refine lv_icmp_ge (tgt := 189) hx hb dX7_spot_39 (by decide) (fun hc45 => ?_) (fun hc45 => ?_)
      · have h := ul_if_t hc45 h
        exact ge _ _ _ (J189 q35.1 q35.2.1 q35.2.2.1 q35.2.2.2.1 q35.2.2.2.2 H locs ⟨hP, hD, hS⟩ ls (lv_sub hl [0, 1, 2, 3, 4, 5, 6] rfl) (hx35 (q35.1, q35.2.1, q35.2.2.1, q35.2.2.2.1, q35.2.2.2.2) h))
      · have h := ul_if_f hc45 h
        refine lv_aload_n hx hb dX7_spot_42 rfl (lv_at hl 0 rfl) ?_
        refine va_get (D := (dC, dI)) (ci := 7) (v := .ref (aM 6)) (C := RX7) (T := TX7) (N := 26) hx hb hts hin7 hown hK hP 0 rfl rfl 7 (by decide) (hts (.fieldLink RX7 25 "UnderLaddersModel" "now" "[I") (by decide +kernel)) (fun _ h9 => h9) rfl dX7_spot_43 ?_
        refine lv_iload_n hx hb dX7_spot_46 rfl (lv_at hl 1 rfl) ?_
        obtain ⟨hi47, h⟩ := ul_ld_h h
        refine va_iald hx hb hK hP 6 0 rfl rfl hi47 dX7_spot_47 ?_
        refine lv_topi (fun v46 ev46 => ?_)
        have h := h v46 ev46
        refine lv_iload hx hb dX7_spot_48 (lv_at hl 6 rfl) ?_
        refine lv_icmp_eq (tgt := 65) hx hb dX7_spot_50 (by decide) (fun hc48 => ?_) (fun hc48 => ?_)
        · have h := ul_if_t hc48 h
          exact ge _ _ _ (J65 q35.1 q35.2.1 q35.2.2.1 q35.2.2.2.1 q35.2.2.2.2 H locs ⟨hP, hD, hS⟩ ls (lv_sub hl [0, 1, 2, 3, 4, 5, 6] rfl) h)
        · have h := ul_if_f hc48 h
          refine lv_aload_n hx hb dX7_spot_53 rfl (lv_at hl 0 rfl) ?_
          refine lv_iconst (v := 0) hx hb dX7_spot_54 (by decide) ?_
          refine lv_iload hx hb dX7_spot_55 (lv_at hl 6 rfl) ?_
          obtain ⟨u49, hu49, h⟩ := ul_cl_h h
          refine ul_cVi (As := [.int (0 : Int32), .int q35.2.2.2.1]) (rest := []) (wc' := (ul_wM cI cZ aM q35.2.2.2.2 d)) (wr := []) hP hD hS hK hA [0, 1, 2, 3, 4, 5, 6, 7, 8, 9, 10, 11, 12, 13, 14] [] [0, 1] ul_N0_ok trivial (c_X7_ladderAt l dC dI cI cZ aM H.size q35.2.2.2.2 d (0 : Int32) q35.2.2.2.1 u49 hu49) rfl rfl (by decide) rfl (by decide) (by decide) rfl ⟨hx, hb, hml, hown, hts⟩ (cwV 2 hts gX7_spot_X7_ladderAt rfl rfl rfl (by decide +kernel) ⟨Nat.le_of_ble_eq_true rfl, Nat.le_of_ble_eq_true rfl⟩) (va_recv hK hP (ci := 7) (q0 := 0) rfl rfl) rfl hl.1 rfl (Nat.le_of_ble_eq_true rfl) dX7_spot_57 (fun H locs hw => ?_)
          obtain ⟨hP, hD, hS⟩ := hw
          have hP : va_P (dC, dI) classes (ul_wM cI cZ aM q35.2.2.2.2 d) H := hP
          have hD : va_D A (ul_wM cI cZ aM q35.2.2.2.2 d) := hD
          refine lv_bipush (v := -9) hx hb dX7_spot_60 (by decide) ?_
          refine lv_icmp_ne (tgt := 183) hx hb dX7_spot_62 (by decide) (fun hc50 => ?_) (fun hc50 => ?_)
          · have h := ul_if_f hc50 h
            exact ge _ _ _ (J183 q35.1 q35.2.1 q35.2.2.1 q35.2.2.2.1 q35.2.2.2.2 H locs ⟨hP, hD, hS⟩ ls (lv_sub hl [0, 1, 2, 3, 4, 5, 6] rfl) h)
          · have h := ul_if_t hc50 h
            exact ge _ _ _ (J65 q35.1 q35.2.1 q35.2.2.1 q35.2.2.2.1 q35.2.2.2.2 H locs ⟨hP, hD, hS⟩ ls (lv_sub hl [0, 1, 2, 3, 4, 5, 6] rfl) h)
    · have h := ul_if_t hc6 h
      refine lv_bipush (v := -2) hx hb dX7_spot_20 (by decide) ?_
      have hr9 := hK0 ((-2 : Int32), M) h
      subst hr9
      exact W.iret (v := (-2 : Int32)) hx hb hr (fun t ht hW => ⟨⟨(-2 : Int32), (), rfl, rfl, by rw [ht]; exact hP, va_K.moved hW.alike hK, hD⟩, hS.F ht⟩) hS.2.2 dX7_spot_22
  · have h := ul_if_t hc4 h
    refine lv_iconst (v := -1) hx hb dX7_spot_8 (by decide) ?_
    have hr9 := hK0 ((-1 : Int32), M) h
    subst hr9
    exact W.iret (v := (-1 : Int32)) hx hb hr (fun t ht hW => ⟨⟨(-1 : Int32), (), rfl, rfl, by rw [ht]; exact hP, va_K.moved hW.alike hK, hD⟩, hS.F ht⟩) hS.2.2 dX7_spot_9
def f_X7_luckRound_j124 (M : ul_S) (p1 : Int32) (p2 : Int32) (x3 : Int32) (x4 : Int32) (x5 : Int32) : Option Int32 :=
  some x3
def f_X7_luckRound_j121 (M : ul_S) (p1 : Int32) (p2 : Int32) (x3 : Int32) (x4 : Int32) (x5 : Int32) (x6 : Int32) : Option ((Int32 × Int32) ⊕ (Int32 × Int32)) :=
  some (.inr (x3, x4))
def f_X7_luckRound_j93 (M : ul_S) (p1 : Int32) (p2 : Int32) (x3 : Int32) (x4 : Int32) (x5 : Int32) (x6 : Int32) : Option ((Int32 × Int32) ⊕ (Int32 × Int32)) :=
  if x6 = (-9 : Int32) then (f_X7_luckRound_j121 M p1 p2 x3 x4 x5 x6) else (ul_ld (M 2) 4 x6 fun v7 => ul_ld (M 1) 4 x6 fun v9 => (f_X7_takes v7 v9 x3).bind fun u11 => ul_bd (x3 - u11) fun v12 => f_X7_luckRound_j121 M p1 p2 v12 x4 x5 x6)
def f_X7_luckRound_j88 (M : ul_S) (p1 : Int32) (p2 : Int32) (x3 : Int32) (x4 : Int32) (x5 : Int32) (x6 : Int32) (t0 : Int32) (t1 : Int32) : Option ((Int32 × Int32) ⊕ (Int32 × Int32)) :=
  ul_bd (t0 - t1) fun v20 => f_X7_luckRound_j121 M p1 p2 v20 x4 x5 x6
def f_X7_luckRound_j50 (M : ul_S) (p1 : Int32) (p2 : Int32) (x3 : Int32) (x4 : Int32) (x5 : Int32) (t0 : Int32) (t1 : Int32) : Option ((Int32 × Int32) ⊕ (Int32 × Int32)) :=
  ul_bd (t0 + t1) fun v22 => (f_X7_ladderAt M (0 : Int32) v22).bind fun u23 => if u23 = (-9 : Int32) then (f_X7_luckRound_j93 M p1 p2 x3 v22 x5 u23) else ((f_X7_has p2 u23).bind fun u25 => if u25 = 0 then (f_X7_luckRound_j93 M p1 p2 x3 v22 x5 u23) else (if x3 ≤ 0 then (f_X7_luckRound_j88 M p1 p2 x3 v22 x5 u23 x3 (0 : Int32)) else (f_X7_luckRound_j88 M p1 p2 x3 v22 x5 u23 x3 (1 : Int32))))
def f_X7_luckRound_L29 (M : ul_S) (p1 : Int32) (p2 : Int32) (y5 : Int32) (q29 : (Int32 × Int32)) : Option ((Int32 × Int32) ⊕ (Int32 × Int32)) :=
  if q29.2 = y5 then (some (.inl (q29.1, q29.2))) else (if y5 ≤ q29.2 then (f_X7_luckRound_j50 M p1 p2 q29.1 q29.2 y5 q29.2 (-1 : Int32)) else (f_X7_luckRound_j50 M p1 p2 q29.1 q29.2 y5 q29.2 (1 : Int32)))
def f_X7_luckRound (M : ul_S) (p1 : Int32) (p2 : Int32) : Option Int32 :=
  ul_ld (M 6) 46 ((17 : Int32) + p1) fun v1 => ul_ld (M 6) 46 ((12 : Int32) + p1) fun v3 => (f_X7_goalOf M (0 : Int32) p1).bind fun u5 => (ul_it ul_N (f_X7_luckRound_L29 M p1 p2 u5) (v1, v3)).bind (fun e29 => f_X7_luckRound_j124 M p1 p2 e29.1 e29.2 u5)
set_option maxHeartbeats 4000000 in
set_option maxRecDepth 100000 in
theorem c_X7_luckRound (l : Launch) (dC : Nat → ClassId) (dI : Nat → Nat → Nat) (cI : ClassId) (cZ : ClassId) (aM : Nat → Nat) (sz : Nat) (M : ul_S) (d : Int64) (p1 : Int32) (p2 : Int32) (r : Int32) (h : f_X7_luckRound M p1 p2 = some r) : Met l yX7_luckRound wsX7_luckRound ({ frames := 2, cells := 0, slots := 0, locals := 43 }) (va_Pc [.ref (aM 0), .int p1, .int p2] (ul_pre (dC, dI) [(cI, .int), (cZ, .boolean)] ul_N0 sz (ul_wM cI cZ aM M d))) (va_Qi (fun v (_ : Unit) => v = r) (fun _ => ul_post (dC, dI) [(cI, .int), (cZ, .boolean)] (va_A (ul_wM cI cZ aM M d) sz) (ul_wM cI cZ aM M d)) (va_A (ul_wM cI cZ aM M d) sz)) 0 0 (va_A (ul_wM cI cZ aM M d) sz) := by
  refine Met.ofW (cc := cX7_luckRound) (maxL := 7) (ret := (some .int)) (by decide) rfl ?_
  intro p e s m args below meth c s₁ B hml hv
  obtain ⟨rfl, hsz, hP, hK, hD0, hN⟩ := hv
  have hx := B.exec
  have hb := B.bytes
  have hr := B.returns
  have hts := atoms_spec (ws := wsX7_luckRound) B.pre
  have hown : s.vm.findClass RX7 = some m.cls := findClass_of_methodNamed B.named
  have hlocks := B.notSynchronized
  have hin7 : ∀ w ∈ u_ws RX7 TX7 26, w ∈ wsX7_luckRound := by decide +kernel
  subst hsz
  have hD := hD0.self (sz := s.heap.size)
  generalize hAe : va_A (ul_wM cI cZ aM M d) s.heap.size = A at hD ⊢
  have hA : ∀ q : Nat, s.heap.size ≤ q → A q := fun q h => by rw [← hAe]; exact Or.inr h
  have hS : va_S A s.heap s.heap [] := va_S.rf
  have hl := lv_entry ([.ref (aM 0), .int p1, .int p2]) (n := 7) (Nat.le_of_ble_eq_true rfl)
  rw [lg_entry_eq]
  generalize (lg_sl ([.ref (aM 0), .int p1, .int p2]) ++ List.replicate (7 - (lg_sl ([.ref (aM 0), .int p1, .int p2])).length) Slot.unset).toArray = ls at hl ⊢
  have hl : lv_has ls 7 [(0, .ref (aM 0)), (1, .int p1), (2, .int p2)] := hl
  obtain ⟨K0, hK0, h⟩ := ul_top h
  unfold f_X7_luckRound at h
  refine ul_gen (fun G gi ge => ?_)
  obtain ⟨H, eH⟩ : ∃ z, z = s.heap := ⟨_, rfl⟩
  obtain ⟨locs, eL⟩ : ∃ z : List Loc, z = [] := ⟨_, rfl⟩
  have hP : va_P (dC, dI) classes (ul_wM cI cZ aM M d) H := by rw [eH]; exact hP
  have hS : va_S A s.heap H locs := by rw [eH, eL]; exact hS
  rw [← eL]
  refine (show G H locs (F0 m 0 ls []) → G s.heap locs (F0 m 0 ls []) from fun z => by rw [← eH]; exact z) ?_
  have J124 : ∀ (x3 : Int32) (x4 : Int32) (x5 : Int32) (H : Heap) (locs : List Loc), ul_H (dC, dI) A s.heap (ul_wM cI cZ aM M d) H locs → ∀ ls : Array Slot, lv_has ls 7 [(0, .ref (aM 0)), (1, .int p1), (2, .int p2), (3, .int x3), (4, .int x4), (5, .int x5)] → (f_X7_luckRound_j124 M p1 p2 x3 x4 x5).bind K0 = some r → G H locs (F0 m 124 ls []) := by
    intro x3 x4 x5 H locs hw ls hl h
    obtain ⟨hP, hD, hS⟩ := hw
    unfold f_X7_luckRound_j124 at h
    refine gi _ _ _ ?_
    refine lv_iload_n hx hb dX7_luckRound_124 rfl (lv_at hl 3 rfl) ?_
    have hr9 := hK0 x3 h
    subst hr9
    exact W.iret (v := x3) hx hb hr (fun t ht hW => ⟨⟨x3, (), rfl, rfl, by rw [ht]; exact hP, va_K.moved hW.alike hK, hD⟩, hS.F ht⟩) hS.2.2 dX7_luckRound_125
  refine gi _ _ _ ?_
  refine lv_aload_n hx hb dX7_luckRound_0 rfl (lv_at hl 0 rfl) ?_
  refine va_get (D := (dC, dI)) (ci := 7) (v := .ref (aM 6)) (C := RX7) (T := TX7) (N := 26) hx hb hts hin7 hown hK hP 0 rfl rfl 7 (by decide) (hts (.fieldLink RX7 25 "UnderLaddersModel" "now" "[I") (by decide +kernel)) (fun _ h9 => h9) rfl dX7_luckRound_1 ?_
  refine lv_bipush (v := 17) hx hb dX7_luckRound_4 (by decide) ?_
  refine lv_iload_n hx hb dX7_luckRound_6 rfl (lv_at hl 1 rfl) ?_
  refine lv_iadd hx hb dX7_luckRound_7 ?_
  obtain ⟨hi2, h⟩ := ul_ld_h h
  refine va_iald hx hb hK hP 6 0 rfl rfl hi2 dX7_luckRound_8 ?_
  refine lv_topi (fun v1 ev1 => ?_)
  have h := h v1 ev1
  refine lv_istore_n (lv' := [(3, .int v1), (0, .ref (aM 0)), (1, .int p1), (2, .int p2)]) hx hb dX7_luckRound_9 rfl hl (by decide) rfl (fun ls hl => ?_)
  refine lv_aload_n hx hb dX7_luckRound_10 rfl (lv_at hl 1 rfl) ?_
  refine va_get (D := (dC, dI)) (ci := 7) (v := .ref (aM 6)) (C := RX7) (T := TX7) (N := 26) hx hb hts hin7 hown hK hP 0 rfl rfl 7 (by decide) (hts (.fieldLink RX7 25 "UnderLaddersModel" "now" "[I") (by decide +kernel)) (fun _ h9 => h9) rfl dX7_luckRound_11 ?_
  refine lv_bipush (v := 12) hx hb dX7_luckRound_14 (by decide) ?_
  refine lv_iload_n hx hb dX7_luckRound_16 rfl (lv_at hl 2 rfl) ?_
  refine lv_iadd hx hb dX7_luckRound_17 ?_
  obtain ⟨hi4, h⟩ := ul_ld_h h
  refine va_iald hx hb hK hP 6 0 rfl rfl hi4 dX7_luckRound_18 ?_
  refine lv_topi (fun v3 ev3 => ?_)
  have h := h v3 ev3
  refine lv_istore (lv' := [(4, .int v3), (3, .int v1), (0, .ref (aM 0)), (1, .int p1), (2, .int p2)]) hx hb dX7_luckRound_19 hl (by decide) rfl (fun ls hl => ?_)
  refine lv_aload_n hx hb dX7_luckRound_21 rfl (lv_at hl 2 rfl) ?_
  refine lv_iconst (v := 0) hx hb dX7_luckRound_22 (by decide) ?_
  refine lv_iload_n hx hb dX7_luckRound_23 rfl (lv_at hl 3 rfl) ?_
  obtain ⟨u5, hu5, h⟩ := ul_cl_h h
  refine ul_cVi (As := [.int (0 : Int32), .int p1]) (rest := []) (wc' := (ul_wM cI cZ aM M d)) (wr := []) hP hD hS hK hA [0, 1, 2, 3, 4, 5, 6, 7, 8, 9, 10, 11, 12, 13, 14] [] [0, 1] ul_N0_ok trivial (c_X7_goalOf l dC dI cI cZ aM H.size M d (0 : Int32) p1 u5 hu5) rfl rfl (by decide) rfl (by decide) (by decide) rfl ⟨hx, hb, hml, hown, hts⟩ (cwV 2 hts gX7_luckRound_X7_goalOf rfl rfl rfl (by decide +kernel) ⟨Nat.le_of_ble_eq_true rfl, Nat.le_of_ble_eq_true rfl⟩) (va_recv hK hP (ci := 7) (q0 := 0) rfl rfl) rfl hl.1 rfl (Nat.le_of_ble_eq_true rfl) dX7_luckRound_24 (fun H locs hw => ?_)
  obtain ⟨hP, hD, hS⟩ := hw
  have hP : va_P (dC, dI) classes (ul_wM cI cZ aM M d) H := hP
  have hD : va_D A (ul_wM cI cZ aM M d) := hD
  refine lv_istore (lv' := [(5, .int u5), (4, .int v3), (3, .int v1), (0, .ref (aM 0)), (1, .int p1), (2, .int p2)]) hx hb dX7_luckRound_27 hl (by decide) rfl (fun ls hl => ?_)
  refine ge _ _ _ (ul_loop (P := fun q29 => ∀ (H : Heap) (locs : List Loc), ul_H (dC, dI) A s.heap (ul_wM cI cZ aM M d) H locs → ∀ ls : Array Slot, lv_has ls 7 [(0, .ref (aM 0)), (1, .int p1), (2, .int p2), (3, .int q29.1), (4, .int q29.2), (5, .int u5)] → G H locs (F0 m 29 ls [])) ?_ _ _ (ul_it_h h) H locs ⟨hP, hD, hS⟩ ls (lv_sub hl [3, 4, 5, 2, 1, 0] rfl))
  intro K29 hx29
  intro q29 ih29 h H locs hw ls hl
  have J121 : ∀ (x3 : Int32) (x4 : Int32) (x6 : Int32) (H : Heap) (locs : List Loc), ul_H (dC, dI) A s.heap (ul_wM cI cZ aM M d) H locs → ∀ ls : Array Slot, lv_has ls 7 [(0, .ref (aM 0)), (1, .int p1), (2, .int p2), (3, .int x3), (4, .int x4), (5, .int u5), (6, .int x6)] → (f_X7_luckRound_j121 M p1 p2 x3 x4 u5 x6).bind K29 = some r → G H locs (F0 m 121 ls []) := by
    intro x3 x4 x6 H locs hw ls hl h
    obtain ⟨hP, hD, hS⟩ := hw
    unfold f_X7_luckRound_j121 at h
    refine gi _ _ _ ?_
    refine lv_goto (tgt := 29) hx hb dX7_luckRound_121 (by decide) ?_
    exact ge _ _ _ (ih29 (x3, x4) h H locs ⟨hP, hD, hS⟩ ls (lv_sub hl [0, 1, 2, 3, 4, 5] rfl))
  have J93 : ∀ (x3 : Int32) (x4 : Int32) (x6 : Int32) (H : Heap) (locs : List Loc), ul_H (dC, dI) A s.heap (ul_wM cI cZ aM M d) H locs → ∀ ls : Array Slot, lv_has ls 7 [(0, .ref (aM 0)), (1, .int p1), (2, .int p2), (3, .int x3), (4, .int x4), (5, .int u5), (6, .int x6)] → (f_X7_luckRound_j93 M p1 p2 x3 x4 u5 x6).bind K29 = some r → G H locs (F0 m 93 ls []) := by
    intro x3 x4 x6 H locs hw ls hl h
    obtain ⟨hP, hD, hS⟩ := hw
    unfold f_X7_luckRound_j93 at h
    refine gi _ _ _ ?_
    refine lv_iload hx hb dX7_luckRound_93 (lv_at hl 6 rfl) ?_
    refine lv_bipush (v := -9) hx hb dX7_luckRound_95 (by decide) ?_
    refine lv_icmp_eq (tgt := 121) hx hb dX7_luckRound_97 (by decide) (fun hc13 => ?_) (fun hc13 => ?_)
    · have h := ul_if_t hc13 h
      exact ge _ _ _ (J121 x3 x4 x6 H locs ⟨hP, hD, hS⟩ ls (lv_sub hl [0, 1, 2, 3, 4, 5, 6] rfl) h)
    · have h := ul_if_f hc13 h
      refine lv_iload_n hx hb dX7_luckRound_100 rfl (lv_at hl 3 rfl) ?_
      refine lv_aload_n hx hb dX7_luckRound_101 rfl (lv_at hl 0 rfl) ?_
      refine va_get (D := (dC, dI)) (ci := 7) (v := .ref (aM 2)) (C := RX7) (T := TX7) (N := 26) hx hb hts hin7 hown hK hP 0 rfl rfl 3 (by decide) (hts (.fieldLink RX7 13 "UnderLaddersModel" "ladderKind" "[I") (by decide +kernel)) (fun _ h9 => h9) rfl dX7_luckRound_102 ?_
      refine lv_iload hx hb dX7_luckRound_105 (lv_at hl 6 rfl) ?_
      obtain ⟨hi15, h⟩ := ul_ld_h h
      refine va_iald hx hb hK hP 2 0 rfl rfl hi15 dX7_luckRound_107 ?_
      refine lv_topi (fun v14 ev14 => ?_)
      have h := h v14 ev14
      refine lv_aload_n hx hb dX7_luckRound_108 rfl (lv_at hl 0 rfl) ?_
      refine va_get (D := (dC, dI)) (ci := 7) (v := .ref (aM 1)) (C := RX7) (T := TX7) (N := 26) hx hb hts hin7 hown hK hP 0 rfl rfl 2 (by decide) (hts (.fieldLink RX7 7 "UnderLaddersModel" "toll" "[I") (by decide +kernel)) (fun _ h9 => h9) rfl dX7_luckRound_109 ?_
      refine lv_iload hx hb dX7_luckRound_112 (lv_at hl 6 rfl) ?_
      obtain ⟨hi17, h⟩ := ul_ld_h h
      refine va_iald hx hb hK hP 1 0 rfl rfl hi17 dX7_luckRound_114 ?_
      refine lv_topi (fun v16 ev16 => ?_)
      have h := h v16 ev16
      refine lv_iload_n hx hb dX7_luckRound_115 rfl (lv_at hl 3 rfl) ?_
      obtain ⟨u18, hu18, h⟩ := ul_cl_h h
      refine ul_cSi (As := [.int v14, .int v16, .int x3]) (rest := [.int x3]) hP hD hS hK hA (c_X7_takes l dC dI H.size v14 v16 x3 u18 hu18) ⟨hx, hb, hml, hown, hts⟩ (cwS 3 hts gX7_luckRound_X7_takes rfl rfl rfl (by decide +kernel) ⟨Nat.le_of_ble_eq_true rfl, Nat.le_of_ble_eq_true rfl⟩) rfl hl.1 rfl (Nat.le_of_ble_eq_true rfl) dX7_luckRound_116 (fun H locs hw => ?_)
      obtain ⟨hP, hD, hS⟩ := hw
      refine lv_isub hx hb dX7_luckRound_119 ?_
      refine lv_topi (fun v19 ev19 => ?_)
      have h := ul_bd_h h v19 ev19
      refine lv_istore_n (lv' := [(3, .int v19), (0, .ref (aM 0)), (1, .int p1), (2, .int p2), (4, .int x4), (5, .int u5), (6, .int x6)]) hx hb dX7_luckRound_120 rfl hl (by decide) rfl (fun ls hl => ?_)
      exact ge _ _ _ (J121 v19 x4 x6 H locs ⟨hP, hD, hS⟩ ls (lv_sub hl [1, 2, 3, 0, 4, 5, 6] rfl) h)
  have J88 : ∀ (x3 : Int32) (x4 : Int32) (x6 : Int32) (t0 : Int32) (t1 : Int32) (H : Heap) (locs : List Loc), ul_H (dC, dI) A s.heap (ul_wM cI cZ aM M d) H locs → ∀ ls : Array Slot, lv_has ls 7 [(0, .ref (aM 0)), (1, .int p1), (2, .int p2), (3, .int x3), (4, .int x4), (5, .int u5), (6, .int x6)] → (f_X7_luckRound_j88 M p1 p2 x3 x4 u5 x6 t0 t1).bind K29 = some r → G H locs (F0 m 88 ls [.int t1, .int t0]) := by
    intro x3 x4 x6 t0 t1 H locs hw ls hl h
    obtain ⟨hP, hD, hS⟩ := hw
    unfold f_X7_luckRound_j88 at h
    refine gi _ _ _ ?_
    refine lv_isub hx hb dX7_luckRound_88 ?_
    refine lv_topi (fun v21 ev21 => ?_)
    have h := ul_bd_h h v21 ev21
    refine lv_istore_n (lv' := [(3, .int v21), (0, .ref (aM 0)), (1, .int p1), (2, .int p2), (4, .int x4), (5, .int u5), (6, .int x6)]) hx hb dX7_luckRound_89 rfl hl (by decide) rfl (fun ls hl => ?_)
    refine lv_goto (tgt := 121) hx hb dX7_luckRound_90 (by decide) ?_
    exact ge _ _ _ (J121 v21 x4 x6 H locs ⟨hP, hD, hS⟩ ls (lv_sub hl [1, 2, 3, 0, 4, 5, 6] rfl) h)
  have J50 : ∀ (x3 : Int32) (x4 : Int32) (t0 : Int32) (t1 : Int32) (H : Heap) (locs : List Loc), ul_H (dC, dI) A s.heap (ul_wM cI cZ aM M d) H locs → ∀ ls : Array Slot, lv_has ls 7 [(0, .ref (aM 0)), (1, .int p1), (2, .int p2), (3, .int x3), (4, .int x4), (5, .int u5)] → (f_X7_luckRound_j50 M p1 p2 x3 x4 u5 t0 t1).bind K29 = some r → G H locs (F0 m 50 ls [.int t1, .int t0]) := by
    intro x3 x4 t0 t1 H locs hw ls hl h
    obtain ⟨hP, hD, hS⟩ := hw
    unfold f_X7_luckRound_j50 at h
    refine gi _ _ _ ?_
    refine lv_iadd hx hb dX7_luckRound_50 ?_
    refine lv_topi (fun v28 ev28 => ?_)
    have h := ul_bd_h h v28 ev28
    refine lv_istore (lv' := [(4, .int v28), (0, .ref (aM 0)), (1, .int p1), (2, .int p2), (3, .int x3), (5, .int u5)]) hx hb dX7_luckRound_51 hl (by decide) rfl (fun ls hl => ?_)
    refine lv_aload_n hx hb dX7_luckRound_53 rfl (lv_at hl 1 rfl) ?_
    refine lv_iconst (v := 0) hx hb dX7_luckRound_54 (by decide) ?_
    refine lv_iload hx hb dX7_luckRound_55 (lv_at hl 0 rfl) ?_
    obtain ⟨u29, hu29, h⟩ := ul_cl_h h
    refine ul_cVi (As := [.int (0 : Int32), .int v28]) (rest := []) (wc' := (ul_wM cI cZ aM M d)) (wr := []) hP hD hS hK hA [0, 1, 2, 3, 4, 5, 6, 7, 8, 9, 10, 11, 12, 13, 14] [] [0, 1] ul_N0_ok trivial (c_X7_ladderAt l dC dI cI cZ aM H.size M d (0 : Int32) v28 u29 hu29) rfl rfl (by decide) rfl (by decide) (by decide) rfl ⟨hx, hb, hml, hown, hts⟩ (cwV 2 hts gX7_luckRound_X7_ladderAt rfl rfl rfl (by decide +kernel) ⟨Nat.le_of_ble_eq_true rfl, Nat.le_of_ble_eq_true rfl⟩) (va_recv hK hP (ci := 7) (q0 := 0) rfl rfl) rfl hl.1 rfl (Nat.le_of_ble_eq_true rfl) dX7_luckRound_57 (fun H locs hw => ?_)
    obtain ⟨hP, hD, hS⟩ := hw
    have hP : va_P (dC, dI) classes (ul_wM cI cZ aM M d) H := hP
    have hD : va_D A (ul_wM cI cZ aM M d) := hD
    refine lv_istore (lv' := [(6, .int u29), (4, .int v28), (0, .ref (aM 0)), (1, .int p1), (2, .int p2), (3, .int x3), (5, .int u5)]) hx hb dX7_luckRound_60 hl (by decide) rfl (fun ls hl => ?_)
    refine lv_iload hx hb dX7_luckRound_62 (lv_at hl 0 rfl) ?_
    refine lv_bipush (v := -9) hx hb dX7_luckRound_64 (by decide) ?_
    refine lv_icmp_eq (tgt := 93) hx hb dX7_luckRound_66 (by decide) (fun hc30 => ?_) (fun hc30 => ?_)
    · have h := ul_if_t hc30 h
      exact ge _ _ _ (J93 x3 v28 u29 H locs ⟨hP, hD, hS⟩ ls (lv_sub hl [2, 3, 4, 5, 1, 6, 0] rfl) h)
    · have h := ul_if_f hc30 h
      refine lv_iload_n hx hb dX7_luckRound_69 rfl (lv_at hl 4 rfl) ?_
      refine lv_iload hx hb dX7_luckRound_70 (lv_at hl 0 rfl) ?_
      obtain ⟨u31, hu31, h⟩ := ul_cl_h h
      refine ul_cSi (As := [.int p2, .int u29]) (rest := []) hP hD hS hK hA (c_X7_has l dC dI H.size p2 u29 u31 hu31) ⟨hx, hb, hml, hown, hts⟩ (cwS 2 hts gX7_luckRound_X7_has rfl rfl rfl (by decide +kernel) ⟨Nat.le_of_ble_eq_true rfl, Nat.le_of_ble_eq_true rfl⟩) rfl hl.1 rfl (Nat.le_of_ble_eq_true rfl) dX7_luckRound_72 (fun H locs hw => ?_)
      obtain ⟨hP, hD, hS⟩ := hw
      refine lv_if_eq (tgt := 93) hx hb dX7_luckRound_75 (by decide) (fun hc32 => ?_) (fun hc32 => ?_)
      · have h := ul_if_t hc32 h
        exact ge _ _ _ (J93 x3 v28 u29 H locs ⟨hP, hD, hS⟩ ls (lv_sub hl [2, 3, 4, 5, 1, 6, 0] rfl) h)
      · have h := ul_if_f hc32 h
        refine lv_iload_n hx hb dX7_luckRound_78 rfl (lv_at hl 5 rfl) ?_
        refine lv_iload_n hx hb dX7_luckRound_79 rfl (lv_at hl 5 rfl) ?_
        refine lv_if_le (tgt := 87) hx hb dX7_luckRound_80 (by decide) (fun hc33 => ?_) (fun hc33 => ?_)
        · have h := ul_if_t hc33 h
          refine lv_iconst (v := 0) hx hb dX7_luckRound_87 (by decide) ?_
          exact ge _ _ _ (J88 x3 v28 u29 x3 (0 : Int32) H locs ⟨hP, hD, hS⟩ ls (lv_sub hl [2, 3, 4, 5, 1, 6, 0] rfl) h)
        · have h := ul_if_f hc33 h
          refine lv_iconst (v := 1) hx hb dX7_luckRound_83 (by decide) ?_
          refine lv_goto (tgt := 88) hx hb dX7_luckRound_84 (by decide) ?_
          exact ge _ _ _ (J88 x3 v28 u29 x3 (1 : Int32) H locs ⟨hP, hD, hS⟩ ls (lv_sub hl [2, 3, 4, 5, 1, 6, 0] rfl) h)
  obtain ⟨hP, hD, hS⟩ := hw
  unfold f_X7_luckRound_L29 at h
  refine gi _ _ _ ?_
  refine lv_iload hx hb dX7_luckRound_29 (lv_at hl 4 rfl) ?_
  refine lv_iload hx hb dX7_luckRound_31 (lv_at hl 5 rfl) ?_
  refine lv_icmp_eq (tgt := 124) hx hb dX7_luckRound_33 (by decide) (fun hc36 => ?_) (fun hc36 => ?_)
  · have h := ul_if_t hc36 h
    exact ge _ _ _ (J124 q29.1 q29.2 u5 H locs ⟨hP, hD, hS⟩ ls (lv_sub hl [0, 1, 2, 3, 4, 5] rfl) (hx29 (q29.1, q29.2) h))
  · have h := ul_if_f hc36 h
    refine lv_iload hx hb dX7_luckRound_36 (lv_at hl 4 rfl) ?_
    refine lv_iload hx hb dX7_luckRound_38 (lv_at hl 4 rfl) ?_
    refine lv_iload hx hb dX7_luckRound_40 (lv_at hl 5 rfl) ?_
    refine lv_icmp_ge (tgt := 49) hx hb dX7_luckRound_42 (by decide) (fun hc37 => ?_) (fun hc37 => ?_)
    · have h := ul_if_t hc37 h
      refine lv_iconst (v := -1) hx hb dX7_luckRound_49 (by decide) ?_
      exact ge _ _ _ (J50 q29.1 q29.2 q29.2 (-1 : Int32) H locs ⟨hP, hD, hS⟩ ls (lv_sub hl [0, 1, 2, 3, 4, 5] rfl) h)
    · have h := ul_if_f hc37 h
      refine lv_iconst (v := 1) hx hb dX7_luckRound_45 (by decide) ?_
      refine lv_goto (tgt := 50) hx hb dX7_luckRound_46 (by decide) ?_
      exact ge _ _ _ (J50 q29.1 q29.2 q29.2 (1 : Int32) H locs ⟨hP, hD, hS⟩ ls (lv_sub hl [0, 1, 2, 3, 4, 5] rfl) h)
def f_X7_round_j122 (M : ul_S) (p1 : Int32) (p2 : Int32) (x3 : Int32) (x4 : Int32) (x5 : Int32) : Option Int32 :=
  if p2 = 0 then (some x4) else ((f_X7_luckRound M p1 x4).bind fun u2 => some u2)
def f_X7_round_j114 (M : ul_S) (p1 : Int32) (p2 : Int32) (x3 : Int32) (x4 : Int32) (x5 : Int32) (x6 : Int32) (x7 : Int32) (t0 : Int32) : Option ((Int32 × Int32) ⊕ (Int32 × Int32)) :=
  ul_bd (x5 + 1) fun v10 => some (.inr (t0, v10))
def f_X7_round_j112 (M : ul_S) (p1 : Int32) (p2 : Int32) (x3 : Int32) (x4 : Int32) (x5 : Int32) (x6 : Int32) (x7 : Int32) : Option ((Int32 × Int32) ⊕ (Int32 × Int32)) :=
  f_X7_round_j114 M p1 p2 x3 x4 x5 x6 x7 x4
def f_X7_round_j91 (M : ul_S) (p1 : Int32) (p2 : Int32) (x3 : Int32) (x4 : Int32) (x5 : Int32) (x6 : Int32) (t0 : Int32) : Option ((Int32 × Int32) ⊕ (Int32 × Int32)) :=
  if (x5 &&& (x3 ^^^ (-1 : Int32))) = 0 then (if t0 = 0 then (f_X7_round_j112 M p1 p2 x3 x4 x5 x6 t0) else (f_X7_round_j114 M p1 p2 x3 x4 x5 x6 t0 x5)) else (f_X7_round_j112 M p1 p2 x3 x4 x5 x6 t0)
def f_X7_round_j90 (M : ul_S) (p1 : Int32) (p2 : Int32) (x3 : Int32) (x4 : Int32) (x5 : Int32) (x6 : Int32) : Option ((Int32 × Int32) ⊕ (Int32 × Int32)) :=
  f_X7_round_j91 M p1 p2 x3 x4 x5 x6 (0 : Int32)
def f_X7_round_j86 (M : ul_S) (p1 : Int32) (p2 : Int32) (x3 : Int32) (x4 : Int32) (x5 : Int32) (x6 : Int32) : Option ((Int32 × Int32) ⊕ (Int32 × Int32)) :=
  f_X7_round_j91 M p1 p2 x3 x4 x5 x6 (1 : Int32)
def f_X7_round_L35 (M : ul_S) (p1 : Int32) (p2 : Int32) (y3 : Int32) (q35 : (Int32 × Int32)) : Option ((Int32 × Int32) ⊕ (Int32 × Int32)) :=
  if ((1 : Int32) <<< ((M 0 0) &&& 31)) ≤ q35.2 then (some (.inl (q35.1, q35.2))) else ((f_X7_luckRound M p1 q35.2).bind fun u17 => (f_X7_luckRound M p1 q35.1).bind fun u18 => ul_bd (u17 - u18) fun v19 => if 0 < v19 then (f_X7_round_j86 M p1 p2 y3 q35.1 q35.2 v19) else (if v19 = 0 then ((f_X7_ones q35.2).bind fun u22 => (f_X7_ones q35.1).bind fun u23 => if u23 ≤ u22 then (f_X7_round_j90 M p1 p2 y3 q35.1 q35.2 v19) else (f_X7_round_j86 M p1 p2 y3 q35.1 q35.2 v19)) else (f_X7_round_j90 M p1 p2 y3 q35.1 q35.2 v19)))
def f_X7_round (M : ul_S) (p1 : Int32) (p2 : Int32) : Option Int32 :=
  (f_X7_isPerson M p1).bind fun u5 => if u5 = 0 then (some (-1 : Int32)) else ((f_X7_in p2.toInt64 (0 : Int64) (1 : Int64)).bind fun u7 => if u7 = 0 then (some (-2 : Int32)) else ((f_X7_onWay M p1).bind fun u9 => (ul_it ul_N (f_X7_round_L35 M p1 p2 u9) ((0 : Int32), (1 : Int32))).bind (fun e35 => f_X7_round_j122 M p1 p2 u9 e35.1 e35.2)))
set_option maxHeartbeats 4000000 in
set_option maxRecDepth 100000 in
theorem c_X7_round (l : Launch) (dC : Nat → ClassId) (dI : Nat → Nat → Nat) (cI : ClassId) (cZ : ClassId) (aM : Nat → Nat) (sz : Nat) (M : ul_S) (d : Int64) (p1 : Int32) (p2 : Int32) (r : Int32) (h : f_X7_round M p1 p2 = some r) : Met l yX7_round wsX7_round ({ frames := 3, cells := 0, slots := 0, locals := 69 }) (va_Pc [.ref (aM 0), .int p1, .int p2] (ul_pre (dC, dI) [(cI, .int), (cZ, .boolean)] ul_N0 sz (ul_wM cI cZ aM M d))) (va_Qi (fun v (_ : Unit) => v = r) (fun _ => ul_post (dC, dI) [(cI, .int), (cZ, .boolean)] (va_A (ul_wM cI cZ aM M d) sz) (ul_wM cI cZ aM M d)) (va_A (ul_wM cI cZ aM M d) sz)) 0 0 (va_A (ul_wM cI cZ aM M d) sz) := by
  refine Met.ofW (cc := cX7_round) (maxL := 8) (ret := (some .int)) (by decide) rfl ?_
  intro p e s m args below meth c s₁ B hml hv
  obtain ⟨rfl, hsz, hP, hK, hD0, hN⟩ := hv
  have hx := B.exec
  have hb := B.bytes
  have hr := B.returns
  have hts := atoms_spec (ws := wsX7_round) B.pre
  have hown : s.vm.findClass RX7 = some m.cls := findClass_of_methodNamed B.named
  have hlocks := B.notSynchronized
  have hin7 : ∀ w ∈ u_ws RX7 TX7 26, w ∈ wsX7_round := by decide +kernel
  subst hsz
  have hD := hD0.self (sz := s.heap.size)
  generalize hAe : va_A (ul_wM cI cZ aM M d) s.heap.size = A at hD ⊢
  have hA : ∀ q : Nat, s.heap.size ≤ q → A q := fun q h => by rw [← hAe]; exact Or.inr h
  have hS : va_S A s.heap s.heap [] := va_S.rf
  have hl := lv_entry ([.ref (aM 0), .int p1, .int p2]) (n := 8) (Nat.le_of_ble_eq_true rfl)
  rw [lg_entry_eq]
  generalize (lg_sl ([.ref (aM 0), .int p1, .int p2]) ++ List.replicate (8 - (lg_sl ([.ref (aM 0), .int p1, .int p2])).length) Slot.unset).toArray = ls at hl ⊢
  have hl : lv_has ls 8 [(0, .ref (aM 0)), (1, .int p1), (2, .int p2)] := hl
  obtain ⟨K0, hK0, h⟩ := ul_top h
  unfold f_X7_round at h
  refine ul_gen (fun G gi ge => ?_)
  obtain ⟨H, eH⟩ : ∃ z, z = s.heap := ⟨_, rfl⟩
  obtain ⟨locs, eL⟩ : ∃ z : List Loc, z = [] := ⟨_, rfl⟩
  have hP : va_P (dC, dI) classes (ul_wM cI cZ aM M d) H := by rw [eH]; exact hP
  have hS : va_S A s.heap H locs := by rw [eH, eL]; exact hS
  rw [← eL]
  refine (show G H locs (F0 m 0 ls []) → G s.heap locs (F0 m 0 ls []) from fun z => by rw [← eH]; exact z) ?_
  have J122 : ∀ (x3 : Int32) (x4 : Int32) (x5 : Int32) (H : Heap) (locs : List Loc), ul_H (dC, dI) A s.heap (ul_wM cI cZ aM M d) H locs → ∀ ls : Array Slot, lv_has ls 8 [(0, .ref (aM 0)), (1, .int p1), (2, .int p2), (3, .int x3), (4, .int x4), (5, .int x5)] → (f_X7_round_j122 M p1 p2 x3 x4 x5).bind K0 = some r → G H locs (F0 m 122 ls []) := by
    intro x3 x4 x5 H locs hw ls hl h
    obtain ⟨hP, hD, hS⟩ := hw
    unfold f_X7_round_j122 at h
    refine gi _ _ _ ?_
    refine lv_iload_n hx hb dX7_round_122 rfl (lv_at hl 2 rfl) ?_
    refine lv_if_ne (tgt := 131) hx hb dX7_round_123 (by decide) (fun hc3 => ?_) (fun hc3 => ?_)
    · have h := ul_if_f hc3 h
      refine lv_aload_n hx hb dX7_round_131 rfl (lv_at hl 0 rfl) ?_
      refine lv_iload_n hx hb dX7_round_132 rfl (lv_at hl 1 rfl) ?_
      refine lv_iload hx hb dX7_round_133 (lv_at hl 4 rfl) ?_
      obtain ⟨u4, hu4, h⟩ := ul_cl_h h
      refine ul_cVi (As := [.int p1, .int x4]) (rest := []) (wc' := (ul_wM cI cZ aM M d)) (wr := []) hP hD hS hK hA [0, 1, 2, 3, 4, 5, 6, 7, 8, 9, 10, 11, 12, 13, 14] [] [0, 1] ul_N0_ok trivial (c_X7_luckRound l dC dI cI cZ aM H.size M d p1 x4 u4 hu4) rfl rfl (by decide) rfl (by decide) (by decide) rfl ⟨hx, hb, hml, hown, hts⟩ (cwV 2 hts gX7_round_X7_luckRound rfl rfl rfl (by decide +kernel) ⟨Nat.le_of_ble_eq_true rfl, Nat.le_of_ble_eq_true rfl⟩) (va_recv hK hP (ci := 7) (q0 := 0) rfl rfl) rfl hl.1 rfl (Nat.le_of_ble_eq_true rfl) dX7_round_135 (fun H locs hw => ?_)
      obtain ⟨hP, hD, hS⟩ := hw
      have hP : va_P (dC, dI) classes (ul_wM cI cZ aM M d) H := hP
      have hD : va_D A (ul_wM cI cZ aM M d) := hD
      have hr9 := hK0 u4 h
      subst hr9
      exact W.iret (v := u4) hx hb hr (fun t ht hW => ⟨⟨u4, (), rfl, rfl, by rw [ht]; exact hP, va_K.moved hW.alike hK, hD⟩, hS.F ht⟩) hS.2.2 dX7_round_138
    · have h := ul_if_t hc3 h
      refine lv_iload hx hb dX7_round_126 (lv_at hl 4 rfl) ?_
      refine lv_goto (tgt := 138) hx hb dX7_round_128 (by decide) ?_
      have hr9 := hK0 x4 h
      subst hr9
      exact W.iret (v := x4) hx hb hr (fun t ht hW => ⟨⟨x4, (), rfl, rfl, by rw [ht]; exact hP, va_K.moved hW.alike hK, hD⟩, hS.F ht⟩) hS.2.2 dX7_round_138
  refine gi _ _ _ ?_
  refine lv_aload_n hx hb dX7_round_0 rfl (lv_at hl 0 rfl) ?_
  refine lv_iload_n hx hb dX7_round_1 rfl (lv_at hl 1 rfl) ?_
  obtain ⟨u5, hu5, h⟩ := ul_cl_h h
  refine ul_cVi (As := [.int p1]) (rest := []) (wc' := (ul_wM cI cZ aM M d)) (wr := []) hP hD hS hK hA [0, 1, 2, 3, 4, 5, 6, 7, 8, 9, 10, 11, 12, 13, 14] [] [0, 1] ul_N0_ok trivial (c_X7_isPerson l dC dI cI cZ aM H.size M d p1 u5 hu5) rfl rfl (by decide) rfl (by decide) (by decide) rfl ⟨hx, hb, hml, hown, hts⟩ (cwV 1 hts gX7_round_X7_isPerson rfl rfl rfl (by decide +kernel) ⟨Nat.le_of_ble_eq_true rfl, Nat.le_of_ble_eq_true rfl⟩) (va_recv hK hP (ci := 7) (q0 := 0) rfl rfl) rfl hl.1 rfl (Nat.le_of_ble_eq_true rfl) dX7_round_2 (fun H locs hw => ?_)
  obtain ⟨hP, hD, hS⟩ := hw
  have hP : va_P (dC, dI) classes (ul_wM cI cZ aM M d) H := hP
  have hD : va_D A (ul_wM cI cZ aM M d) := hD
  refine lv_if_ne (tgt := 10) hx hb dX7_round_5 (by decide) (fun hc6 => ?_) (fun hc6 => ?_)
  · have h := ul_if_f hc6 h
    refine lv_iload_n hx hb dX7_round_10 rfl (lv_at hl 2 rfl) ?_
    refine lv_i2l hx hb dX7_round_11 rfl ?_
    refine lv_lconst (v := 0) hx hb dX7_round_12 (by decide) ?_
    refine lv_lconst (v := 1) hx hb dX7_round_13 (by decide) ?_
    obtain ⟨u7, hu7, h⟩ := ul_cl_h h
    refine ul_cSi (As := [.long p2.toInt64, .long (0 : Int64), .long (1 : Int64)]) (rest := []) hP hD hS hK hA (c_X7_in l dC dI H.size p2.toInt64 (0 : Int64) (1 : Int64) u7 hu7) ⟨hx, hb, hml, hown, hts⟩ (cwS 3 hts gX7_round_X7_in rfl rfl rfl (by decide +kernel) ⟨Nat.le_of_ble_eq_true rfl, Nat.le_of_ble_eq_true rfl⟩) rfl hl.1 rfl (Nat.le_of_ble_eq_true rfl) dX7_round_14 (fun H locs hw => ?_)
    obtain ⟨hP, hD, hS⟩ := hw
    refine lv_if_ne (tgt := 23) hx hb dX7_round_17 (by decide) (fun hc8 => ?_) (fun hc8 => ?_)
    · have h := ul_if_f hc8 h
      refine lv_aload_n hx hb dX7_round_23 rfl (lv_at hl 0 rfl) ?_
      refine lv_iload_n hx hb dX7_round_24 rfl (lv_at hl 1 rfl) ?_
      obtain ⟨u9, hu9, h⟩ := ul_cl_h h
      refine ul_cVi (As := [.int p1]) (rest := []) (wc' := (ul_wM cI cZ aM M d)) (wr := []) hP hD hS hK hA [0, 1, 2, 3, 4, 5, 6, 7, 8, 9, 10, 11, 12, 13, 14] [] [0, 1] ul_N0_ok trivial (c_X7_onWay l dC dI cI cZ aM H.size M d p1 u9 hu9) rfl rfl (by decide) rfl (by decide) (by decide) rfl ⟨hx, hb, hml, hown, hts⟩ (cwV 1 hts gX7_round_X7_onWay rfl rfl rfl (by decide +kernel) ⟨Nat.le_of_ble_eq_true rfl, Nat.le_of_ble_eq_true rfl⟩) (va_recv hK hP (ci := 7) (q0 := 0) rfl rfl) rfl hl.1 rfl (Nat.le_of_ble_eq_true rfl) dX7_round_25 (fun H locs hw => ?_)
      obtain ⟨hP, hD, hS⟩ := hw
      have hP : va_P (dC, dI) classes (ul_wM cI cZ aM M d) H := hP
      have hD : va_D A (ul_wM cI cZ aM M d) := hD
      refine lv_istore_n (lv' := [(3, .int u9), (0, .ref (aM 0)), (1, .int p1), (2, .int p2)]) hx hb dX7_round_28 rfl hl (by decide) rfl (fun ls hl => ?_)
      refine lv_iconst (v := 0) hx hb dX7_round_29 (by decide) ?_
      refine lv_istore (lv' := [(4, .int (0 : Int32)), (3, .int u9), (0, .ref (aM 0)), (1, .int p1), (2, .int p2)]) hx hb dX7_round_30 hl (by decide) rfl (fun ls hl => ?_)
      refine lv_iconst (v := 1) hx hb dX7_round_32 (by decide) ?_
      refine lv_istore (lv' := [(5, .int (1 : Int32)), (4, .int (0 : Int32)), (3, .int u9), (0, .ref (aM 0)), (1, .int p1), (2, .int p2)]) hx hb dX7_round_33 hl (by decide) rfl (fun ls hl => ?_)
      refine ge _ _ _ (ul_loop (P := fun q35 => ∀ (H : Heap) (locs : List Loc), ul_H (dC, dI) A s.heap (ul_wM cI cZ aM M d) H locs → ∀ ls : Array Slot, lv_has ls 8 [(0, .ref (aM 0)), (1, .int p1), (2, .int p2), (3, .int u9), (4, .int q35.1), (5, .int q35.2)] → G H locs (F0 m 35 ls [])) ?_ _ _ (ul_it_h h) H locs ⟨hP, hD, hS⟩ ls (lv_sub hl [3, 4, 5, 2, 1, 0] rfl))
      intro K35 hx35
      intro q35 ih35 h H locs hw ls hl
      have J114 : ∀ (x4 : Int32) (x5 : Int32) (x6 : Int32) (x7 : Int32) (t0 : Int32) (H : Heap) (locs : List Loc), ul_H (dC, dI) A s.heap (ul_wM cI cZ aM M d) H locs → ∀ ls : Array Slot, lv_has ls 8 [(0, .ref (aM 0)), (1, .int p1), (2, .int p2), (3, .int u9), (4, .int x4), (5, .int x5), (6, .int x6), (7, .int x7)] → (f_X7_round_j114 M p1 p2 u9 x4 x5 x6 x7 t0).bind K35 = some r → G H locs (F0 m 114 ls [.int t0]) := by
        intro x4 x5 x6 x7 t0 H locs hw ls hl h
        obtain ⟨hP, hD, hS⟩ := hw
        unfold f_X7_round_j114 at h
        refine gi _ _ _ ?_
        refine lv_istore (lv' := [(4, .int t0), (0, .ref (aM 0)), (1, .int p1), (2, .int p2), (3, .int u9), (5, .int x5), (6, .int x6), (7, .int x7)]) hx hb dX7_round_114 hl (by decide) rfl (fun ls hl => ?_)
        obtain ⟨v11, ev11⟩ : ∃ z : Int32, z = x5 + 1 := ⟨_, rfl⟩
        have h := ul_bd_h h v11 ev11
        refine lv_iinc (v := v11) (lv' := [(5, .int v11), (4, .int t0), (0, .ref (aM 0)), (1, .int p1), (2, .int p2), (3, .int u9), (6, .int x6), (7, .int x7)]) hx hb dX7_round_116 hl (k := 5) rfl (by rw [ev11]; rfl) (by decide) rfl (fun ls hl => ?_)
        refine lv_goto (tgt := 35) hx hb dX7_round_119 (by decide) ?_
        exact ge _ _ _ (ih35 (t0, v11) h H locs ⟨hP, hD, hS⟩ ls (lv_sub hl [2, 3, 4, 5, 1, 0] rfl))
      have J112 : ∀ (x4 : Int32) (x5 : Int32) (x6 : Int32) (x7 : Int32) (H : Heap) (locs : List Loc), ul_H (dC, dI) A s.heap (ul_wM cI cZ aM M d) H locs → ∀ ls : Array Slot, lv_has ls 8 [(0, .ref (aM 0)), (1, .int p1), (2, .int p2), (3, .int u9), (4, .int x4), (5, .int x5), (6, .int x6), (7, .int x7)] → (f_X7_round_j112 M p1 p2 u9 x4 x5 x6 x7).bind K35 = some r → G H locs (F0 m 112 ls []) := by
        intro x4 x5 x6 x7 H locs hw ls hl h
        obtain ⟨hP, hD, hS⟩ := hw
        unfold f_X7_round_j112 at h
        refine gi _ _ _ ?_
        refine lv_iload hx hb dX7_round_112 (lv_at hl 4 rfl) ?_
        exact ge _ _ _ (J114 x4 x5 x6 x7 x4 H locs ⟨hP, hD, hS⟩ ls (lv_sub hl [0, 1, 2, 3, 4, 5, 6, 7] rfl) h)
      have J91 : ∀ (x4 : Int32) (x5 : Int32) (x6 : Int32) (t0 : Int32) (H : Heap) (locs : List Loc), ul_H (dC, dI) A s.heap (ul_wM cI cZ aM M d) H locs → ∀ ls : Array Slot, lv_has ls 8 [(0, .ref (aM 0)), (1, .int p1), (2, .int p2), (3, .int u9), (4, .int x4), (5, .int x5), (6, .int x6)] → (f_X7_round_j91 M p1 p2 u9 x4 x5 x6 t0).bind K35 = some r → G H locs (F0 m 91 ls [.int t0]) := by
        intro x4 x5 x6 t0 H locs hw ls hl h
        obtain ⟨hP, hD, hS⟩ := hw
        unfold f_X7_round_j91 at h
        refine gi _ _ _ ?_
        refine lv_istore (lv' := [(7, .int t0), (0, .ref (aM 0)), (1, .int p1), (2, .int p2), (3, .int u9), (4, .int x4), (5, .int x5), (6, .int x6)]) hx hb dX7_round_91 hl (by decide) rfl (fun ls hl => ?_)
        refine lv_iload hx hb dX7_round_93 (lv_at hl 6 rfl) ?_
        refine lv_iload_n hx hb dX7_round_95 rfl (lv_at hl 4 rfl) ?_
        refine lv_iconst (v := -1) hx hb dX7_round_96 (by decide) ?_
        refine lv_ixor hx hb dX7_round_97 ?_
        refine lv_iand hx hb dX7_round_98 ?_
        refine lv_if_ne (tgt := 112) hx hb dX7_round_99 (by decide) (fun hc14 => ?_) (fun hc14 => ?_)
        · have h := ul_if_f hc14 h
          exact ge _ _ _ (J112 x4 x5 x6 t0 H locs ⟨hP, hD, hS⟩ ls (lv_sub hl [1, 2, 3, 4, 5, 6, 7, 0] rfl) h)
        · have h := ul_if_t hc14 h
          refine lv_iload hx hb dX7_round_102 (lv_at hl 0 rfl) ?_
          refine lv_if_eq (tgt := 112) hx hb dX7_round_104 (by decide) (fun hc15 => ?_) (fun hc15 => ?_)
          · have h := ul_if_t hc15 h
            exact ge _ _ _ (J112 x4 x5 x6 t0 H locs ⟨hP, hD, hS⟩ ls (lv_sub hl [1, 2, 3, 4, 5, 6, 7, 0] rfl) h)
          · have h := ul_if_f hc15 h
            refine lv_iload hx hb dX7_round_107 (lv_at hl 6 rfl) ?_
            refine lv_goto (tgt := 114) hx hb dX7_round_109 (by decide) ?_
            exact ge _ _ _ (J114 x4 x5 x6 t0 x5 H locs ⟨hP, hD, hS⟩ ls (lv_sub hl [1, 2, 3, 4, 5, 6, 7, 0] rfl) h)
      have J90 : ∀ (x4 : Int32) (x5 : Int32) (x6 : Int32) (H : Heap) (locs : List Loc), ul_H (dC, dI) A s.heap (ul_wM cI cZ aM M d) H locs → ∀ ls : Array Slot, lv_has ls 8 [(0, .ref (aM 0)), (1, .int p1), (2, .int p2), (3, .int u9), (4, .int x4), (5, .int x5), (6, .int x6)] → (f_X7_round_j90 M p1 p2 u9 x4 x5 x6).bind K35 = some r → G H locs (F0 m 90 ls []) := by
        intro x4 x5 x6 H locs hw ls hl h
        obtain ⟨hP, hD, hS⟩ := hw
        unfold f_X7_round_j90 at h
        refine gi _ _ _ ?_
        refine lv_iconst (v := 0) hx hb dX7_round_90 (by decide) ?_
        exact ge _ _ _ (J91 x4 x5 x6 (0 : Int32) H locs ⟨hP, hD, hS⟩ ls (lv_sub hl [0, 1, 2, 3, 4, 5, 6] rfl) h)
      have J86 : ∀ (x4 : Int32) (x5 : Int32) (x6 : Int32) (H : Heap) (locs : List Loc), ul_H (dC, dI) A s.heap (ul_wM cI cZ aM M d) H locs → ∀ ls : Array Slot, lv_has ls 8 [(0, .ref (aM 0)), (1, .int p1), (2, .int p2), (3, .int u9), (4, .int x4), (5, .int x5), (6, .int x6)] → (f_X7_round_j86 M p1 p2 u9 x4 x5 x6).bind K35 = some r → G H locs (F0 m 86 ls []) := by
        intro x4 x5 x6 H locs hw ls hl h
        obtain ⟨hP, hD, hS⟩ := hw
        unfold f_X7_round_j86 at h
        refine gi _ _ _ ?_
        refine lv_iconst (v := 1) hx hb dX7_round_86 (by decide) ?_
        refine lv_goto (tgt := 91) hx hb dX7_round_87 (by decide) ?_
        exact ge _ _ _ (J91 x4 x5 x6 (1 : Int32) H locs ⟨hP, hD, hS⟩ ls (lv_sub hl [0, 1, 2, 3, 4, 5, 6] rfl) h)
      obtain ⟨hP, hD, hS⟩ := hw
      unfold f_X7_round_L35 at h
      refine gi _ _ _ ?_
      refine lv_iload hx hb dX7_round_35 (lv_at hl 5 rfl) ?_
      refine lv_iconst (v := 1) hx hb dX7_round_37 (by decide) ?_
      refine lv_aload_n hx hb dX7_round_38 rfl (lv_at hl 0 rfl) ?_
      refine va_get (D := (dC, dI)) (ci := 7) (v := .int (M 0 0)) (C := RX7) (T := TX7) (N := 26) hx hb hts hin7 hown hK hP 0 rfl rfl 0 (by decide) (hts (.fieldLink RX7 96 "UnderLaddersModel" "ladders" "I") (by decide +kernel)) (fun _ h9 => h9) rfl dX7_round_39 ?_
      refine lv_ishl hx hb dX7_round_42 ?_
      refine lv_icmp_ge (tgt := 122) hx hb dX7_round_43 (by decide) (fun hc25 => ?_) (fun hc25 => ?_)
      · have h := ul_if_t hc25 h
        exact ge _ _ _ (J122 u9 q35.1 q35.2 H locs ⟨hP, hD, hS⟩ ls (lv_sub hl [0, 1, 2, 3, 4, 5] rfl) (hx35 (q35.1, q35.2) h))
      · have h := ul_if_f hc25 h
        refine lv_aload_n hx hb dX7_round_46 rfl (lv_at hl 0 rfl) ?_
        refine lv_iload_n hx hb dX7_round_47 rfl (lv_at hl 1 rfl) ?_
        refine lv_iload hx hb dX7_round_48 (lv_at hl 5 rfl) ?_
        obtain ⟨u26, hu26, h⟩ := ul_cl_h h
        refine ul_cVi (As := [.int p1, .int q35.2]) (rest := []) (wc' := (ul_wM cI cZ aM M d)) (wr := []) hP hD hS hK hA [0, 1, 2, 3, 4, 5, 6, 7, 8, 9, 10, 11, 12, 13, 14] [] [0, 1] ul_N0_ok trivial (c_X7_luckRound l dC dI cI cZ aM H.size M d p1 q35.2 u26 hu26) rfl rfl (by decide) rfl (by decide) (by decide) rfl ⟨hx, hb, hml, hown, hts⟩ (cwV 2 hts gX7_round_X7_luckRound rfl rfl rfl (by decide +kernel) ⟨Nat.le_of_ble_eq_true rfl, Nat.le_of_ble_eq_true rfl⟩) (va_recv hK hP (ci := 7) (q0 := 0) rfl rfl) rfl hl.1 rfl (Nat.le_of_ble_eq_true rfl) dX7_round_50 (fun H locs hw => ?_)
        obtain ⟨hP, hD, hS⟩ := hw
        have hP : va_P (dC, dI) classes (ul_wM cI cZ aM M d) H := hP
        have hD : va_D A (ul_wM cI cZ aM M d) := hD
        refine lv_aload_n hx hb dX7_round_53 rfl (lv_at hl 0 rfl) ?_
        refine lv_iload_n hx hb dX7_round_54 rfl (lv_at hl 1 rfl) ?_
        refine lv_iload hx hb dX7_round_55 (lv_at hl 4 rfl) ?_
        obtain ⟨u27, hu27, h⟩ := ul_cl_h h
        refine ul_cVi (As := [.int p1, .int q35.1]) (rest := [.int u26]) (wc' := (ul_wM cI cZ aM M d)) (wr := []) hP hD hS hK hA [0, 1, 2, 3, 4, 5, 6, 7, 8, 9, 10, 11, 12, 13, 14] [] [0, 1] ul_N0_ok trivial (c_X7_luckRound l dC dI cI cZ aM H.size M d p1 q35.1 u27 hu27) rfl rfl (by decide) rfl (by decide) (by decide) rfl ⟨hx, hb, hml, hown, hts⟩ (cwV 2 hts gX7_round_X7_luckRound rfl rfl rfl (by decide +kernel) ⟨Nat.le_of_ble_eq_true rfl, Nat.le_of_ble_eq_true rfl⟩) (va_recv hK hP (ci := 7) (q0 := 0) rfl rfl) rfl hl.1 rfl (Nat.le_of_ble_eq_true rfl) dX7_round_57 (fun H locs hw => ?_)
        obtain ⟨hP, hD, hS⟩ := hw
        have hP : va_P (dC, dI) classes (ul_wM cI cZ aM M d) H := hP
        have hD : va_D A (ul_wM cI cZ aM M d) := hD
        refine lv_isub hx hb dX7_round_60 ?_
        refine lv_topi (fun v28 ev28 => ?_)
        have h := ul_bd_h h v28 ev28
        refine lv_istore (lv' := [(6, .int v28), (0, .ref (aM 0)), (1, .int p1), (2, .int p2), (3, .int u9), (4, .int q35.1), (5, .int q35.2)]) hx hb dX7_round_61 hl (by decide) rfl (fun ls hl => ?_)
        refine lv_iload hx hb dX7_round_63 (lv_at hl 0 rfl) ?_
        refine lv_if_gt (tgt := 86) hx hb dX7_round_65 (by decide) (fun hc29 => ?_) (fun hc29 => ?_)
        · have h := ul_if_t hc29 h
          exact ge _ _ _ (J86 q35.1 q35.2 v28 H locs ⟨hP, hD, hS⟩ ls (lv_sub hl [1, 2, 3, 4, 5, 6, 0] rfl) h)
        · have h := ul_if_f hc29 h
          refine lv_iload hx hb dX7_round_68 (lv_at hl 0 rfl) ?_
          refine lv_if_ne (tgt := 90) hx hb dX7_round_70 (by decide) (fun hc30 => ?_) (fun hc30 => ?_)
          · have h := ul_if_f hc30 h
            exact ge _ _ _ (J90 q35.1 q35.2 v28 H locs ⟨hP, hD, hS⟩ ls (lv_sub hl [1, 2, 3, 4, 5, 6, 0] rfl) h)
          · have h := ul_if_t hc30 h
            refine lv_iload hx hb dX7_round_73 (lv_at hl 6 rfl) ?_
            obtain ⟨u31, hu31, h⟩ := ul_cl_h h
            refine ul_cSi (As := [.int q35.2]) (rest := []) hP hD hS hK hA (c_X7_ones l dC dI H.size q35.2 u31 hu31) ⟨hx, hb, hml, hown, hts⟩ (cwS 1 hts gX7_round_X7_ones rfl rfl rfl (by decide +kernel) ⟨Nat.le_of_ble_eq_true rfl, Nat.le_of_ble_eq_true rfl⟩) rfl hl.1 rfl (Nat.le_of_ble_eq_true rfl) dX7_round_75 (fun H locs hw => ?_)
            obtain ⟨hP, hD, hS⟩ := hw
            refine lv_iload hx hb dX7_round_78 (lv_at hl 5 rfl) ?_
            obtain ⟨u32, hu32, h⟩ := ul_cl_h h
            refine ul_cSi (As := [.int q35.1]) (rest := [.int u31]) hP hD hS hK hA (c_X7_ones l dC dI H.size q35.1 u32 hu32) ⟨hx, hb, hml, hown, hts⟩ (cwS 1 hts gX7_round_X7_ones rfl rfl rfl (by decide +kernel) ⟨Nat.le_of_ble_eq_true rfl, Nat.le_of_ble_eq_true rfl⟩) rfl hl.1 rfl (Nat.le_of_ble_eq_true rfl) dX7_round_80 (fun H locs hw => ?_)
            obtain ⟨hP, hD, hS⟩ := hw
            refine lv_icmp_ge (tgt := 90) hx hb dX7_round_83 (by decide) (fun hc33 => ?_) (fun hc33 => ?_)
            · have h := ul_if_t hc33 h
              exact ge _ _ _ (J90 q35.1 q35.2 v28 H locs ⟨hP, hD, hS⟩ ls (lv_sub hl [1, 2, 3, 4, 5, 6, 0] rfl) h)
            · have h := ul_if_f hc33 h
              exact ge _ _ _ (J86 q35.1 q35.2 v28 H locs ⟨hP, hD, hS⟩ ls (lv_sub hl [1, 2, 3, 4, 5, 6, 0] rfl) h)
    · have h := ul_if_t hc8 h
      refine lv_bipush (v := -2) hx hb dX7_round_20 (by decide) ?_
      have hr9 := hK0 (-2 : Int32) h
      subst hr9
      exact W.iret (v := (-2 : Int32)) hx hb hr (fun t ht hW => ⟨⟨(-2 : Int32), (), rfl, rfl, by rw [ht]; exact hP, va_K.moved hW.alike hK, hD⟩, hS.F ht⟩) hS.2.2 dX7_round_22
  · have h := ul_if_t hc6 h
    refine lv_iconst (v := -1) hx hb dX7_round_8 (by decide) ?_
    have hr9 := hK0 (-1 : Int32) h
    subst hr9
    exact W.iret (v := (-1 : Int32)) hx hb hr (fun t ht hW => ⟨⟨(-1 : Int32), (), rfl, rfl, by rw [ht]; exact hP, va_K.moved hW.alike hK, hD⟩, hS.F ht⟩) hS.2.2 dX7_round_9
def f_X7_tryThing_j134 (p1 : Int32) (p2 : Int32) (p3 : Int32) (t0 : Int32) (M__134 : ul_S) : Option (Int32 × ul_S) :=
  if t0 = 0 then (ul_zb t0 (some (t0, M__134))) else ((f_X7_giveOn M__134 (1 : Int32) p2 p3).bind fun u3 => ul_zb t0 (some (t0, u3)))
def f_X7_tryThing_j133 (p1 : Int32) (p2 : Int32) (p3 : Int32) (M__133 : ul_S) : Option (Int32 × ul_S) :=
  f_X7_tryThing_j134 p1 p2 p3 (0 : Int32) M__133
def f_X7_tryThing_j101 (p1 : Int32) (p2 : Int32) (p3 : Int32) (t0 : Int32) (M__101 : ul_S) : Option (Int32 × ul_S) :=
  if t0 = 0 then (ul_zb t0 (some (t0, M__101))) else ((f_X7_comeDown M__101 (1 : Int32) p3).bind fun u11 => ul_zb t0 (some (t0, u11)))
def f_X7_tryThing_j100 (p1 : Int32) (p2 : Int32) (p3 : Int32) (M__100 : ul_S) : Option (Int32 × ul_S) :=
  f_X7_tryThing_j101 p1 p2 p3 (0 : Int32) M__100
def f_X7_tryThing (M : ul_S) (p1 : Int32) (p2 : Int32) (p3 : Int32) : Option (Int32 × ul_S) :=
  if p1 = 0 then ((f_X7_passOn M (1 : Int32) (0 : Int32)).bind fun u18 => if p2 = 0 then (if p3 = 0 then (some ((1 : Int32), u18.2)) else (some ((0 : Int32), u18.2))) else (some ((0 : Int32), u18.2))) else (if p1 = 1 then ((f_X7_canMove M (1 : Int32) p2 p3).bind fun u22 => if u22 = 0 then (ul_zb u22 (some (u22, M))) else (ul_st M 6 46 ((23 : Int32) + p2) p3 fun M25 => ul_zb u22 (some (u22, M25)))) else (if p1 = 2 then (if p2 = 0 then ((f_X7_isLadder M p3).bind fun u30 => if u30 = 0 then (f_X7_tryThing_j100 p1 p2 p3 M) else (f_X7_tryThing_j101 p1 p2 p3 (1 : Int32) M)) else (f_X7_tryThing_j100 p1 p2 p3 M)) else (if p1 = 3 then ((f_X7_isPerson M p2).bind fun u33 => if u33 = 0 then (f_X7_tryThing_j133 p1 p2 p3 M) else (if p3 ≤ 0 then (f_X7_tryThing_j133 p1 p2 p3 M) else (f_X7_tryThing_j134 p1 p2 p3 (1 : Int32) M))) else (if p1 = 4 then ((f_X7_isPerson M p2).bind fun u37 => if u37 = 0 then (some ((0 : Int32), M)) else (ul_ld (M 6) 46 ((40 : Int32) + p2) fun v39 => if v39 < p3 then (some ((0 : Int32), M)) else (some ((1 : Int32), M)))) else (some ((0 : Int32), M))))))
set_option maxHeartbeats 4000000 in
set_option maxRecDepth 100000 in
theorem c_X7_tryThing (l : Launch) (dC : Nat → ClassId) (dI : Nat → Nat → Nat) (cI : ClassId) (cZ : ClassId) (aM : Nat → Nat) (sz : Nat) (M : ul_S) (d : Int64) (p1 : Int32) (p2 : Int32) (p3 : Int32) (r : (Int32 × ul_S)) (h : f_X7_tryThing M p1 p2 p3 = some r) : Met l yX7_tryThing wsX7_tryThing ({ frames := 6, cells := 0, slots := 0, locals := 143 }) (va_Pc [.ref (aM 0), .int p1, .int p2, .int p3] (ul_pre (dC, dI) [(cI, .int), (cZ, .boolean)] ul_N0 sz (ul_wM cI cZ aM M d))) (va_Qi (fun v (_ : Unit) => v = r.1) (fun _ => ul_post (dC, dI) [(cI, .int), (cZ, .boolean)] (va_A (ul_wM cI cZ aM M d) sz) (ul_wM cI cZ aM r.2 d)) (va_A (ul_wM cI cZ aM M d) sz)) 0 0 (va_A (ul_wM cI cZ aM M d) sz) := by
  refine Met.ofW (cc := cX7_tryThing) (maxL := 7) (ret := (some .boolean)) (by decide) rfl ?_
  intro p e s m args below meth c s₁ B hml hv
  obtain ⟨rfl, hsz, hP, hK, hD0, hN⟩ := hv
  have hx := B.exec
  have hb := B.bytes
  have hr := B.returns
  have hts := atoms_spec (ws := wsX7_tryThing) B.pre
  have hown : s.vm.findClass RX7 = some m.cls := findClass_of_methodNamed B.named
  have hlocks := B.notSynchronized
  have hin7 : ∀ w ∈ u_ws RX7 TX7 26, w ∈ wsX7_tryThing := by decide +kernel
  subst hsz
  have hD := hD0.self (sz := s.heap.size)
  generalize hAe : va_A (ul_wM cI cZ aM M d) s.heap.size = A at hD ⊢
  have hA : ∀ q : Nat, s.heap.size ≤ q → A q := fun q h => by rw [← hAe]; exact Or.inr h
  have hS : va_S A s.heap s.heap [] := va_S.rf
  have hl := lv_entry ([.ref (aM 0), .int p1, .int p2, .int p3]) (n := 7) (Nat.le_of_ble_eq_true rfl)
  rw [lg_entry_eq]
  generalize (lg_sl ([.ref (aM 0), .int p1, .int p2, .int p3]) ++ List.replicate (7 - (lg_sl ([.ref (aM 0), .int p1, .int p2, .int p3])).length) Slot.unset).toArray = ls at hl ⊢
  have hl : lv_has ls 7 [(0, .ref (aM 0)), (1, .int p1), (2, .int p2), (3, .int p3)] := hl
  obtain ⟨K0, hK0, h⟩ := ul_top h
  unfold f_X7_tryThing at h
  refine ul_gen (fun G gi ge => ?_)
  obtain ⟨H, eH⟩ : ∃ z, z = s.heap := ⟨_, rfl⟩
  obtain ⟨locs, eL⟩ : ∃ z : List Loc, z = [] := ⟨_, rfl⟩
  have hP : va_P (dC, dI) classes (ul_wM cI cZ aM M d) H := by rw [eH]; exact hP
  have hS : va_S A s.heap H locs := by rw [eH, eL]; exact hS
  rw [← eL]
  refine (show G H locs (F0 m 0 ls []) → G s.heap locs (F0 m 0 ls []) from fun z => by rw [← eH]; exact z) ?_
  have J134 : ∀ (t0 : Int32) (M__134 : ul_S) (H : Heap) (locs : List Loc), ul_H (dC, dI) A s.heap (ul_wM cI cZ aM M__134 d) H locs → ∀ ls : Array Slot, lv_has ls 7 [(0, .ref (aM 0)), (1, .int p1), (2, .int p2), (3, .int p3)] → (f_X7_tryThing_j134 p1 p2 p3 t0 M__134).bind K0 = some r → G H locs (F0 m 134 ls [.int t0]) := by
    intro t0 M__134 H locs hw ls hl h
    obtain ⟨hP, hD, hS⟩ := hw
    unfold f_X7_tryThing_j134 at h
    refine gi _ _ _ ?_
    refine lv_istore (lv' := [(6, .int t0), (0, .ref (aM 0)), (1, .int p1), (2, .int p2), (3, .int p3)]) hx hb dX7_tryThing_134 hl (by decide) rfl (fun ls hl => ?_)
    refine lv_iload hx hb dX7_tryThing_136 (lv_at hl 0 rfl) ?_
    refine lv_if_eq (tgt := 148) hx hb dX7_tryThing_138 (by decide) (fun hc5 => ?_) (fun hc5 => ?_)
    · have h := ul_if_t hc5 h
      refine lv_iload hx hb dX7_tryThing_148 (lv_at hl 0 rfl) ?_
      obtain ⟨hz6, h⟩ := ul_zb_h h
      have hr9 := hK0 (t0, M__134) h
      subst hr9
      exact W.zret (v := t0) hx hb hr hz6 (fun t ht hW => ⟨⟨t0, (), rfl, rfl, by rw [ht]; exact hP, va_K.moved hW.alike hK, hD⟩, hS.F ht⟩) hS.2.2 dX7_tryThing_150
    · have h := ul_if_f hc5 h
      refine lv_aload_n hx hb dX7_tryThing_141 rfl (lv_at hl 1 rfl) ?_
      refine lv_iconst (v := 1) hx hb dX7_tryThing_142 (by decide) ?_
      refine lv_iload_n hx hb dX7_tryThing_143 rfl (lv_at hl 3 rfl) ?_
      refine lv_iload_n hx hb dX7_tryThing_144 rfl (lv_at hl 4 rfl) ?_
      obtain ⟨u7, hu7, h⟩ := ul_cl_h h
      refine ul_cVv (As := [.int (1 : Int32), .int p2, .int p3]) (rest := []) (wc' := (ul_wM cI cZ aM u7 d)) (wr := []) hP hD hS hK hA [0, 1, 2, 3, 4, 5, 6, 7, 8, 9, 10, 11, 12, 13, 14] [] [0, 1] ul_N0_ok trivial (c_X7_giveOn l dC dI cI cZ aM H.size M__134 d (1 : Int32) p2 p3 u7 hu7) rfl rfl (by decide) rfl (by decide) (by decide) rfl ⟨hx, hb, hml, hown, hts⟩ (cwV 3 hts gX7_tryThing_X7_giveOn rfl rfl rfl (by decide +kernel) ⟨Nat.le_of_ble_eq_true rfl, Nat.le_of_ble_eq_true rfl⟩) (va_recv hK hP (ci := 7) (q0 := 0) rfl rfl) rfl hl.1 rfl (Nat.le_of_ble_eq_true rfl) dX7_tryThing_145 (fun H locs hw => ?_)
      obtain ⟨hP, hD, hS⟩ := hw
      have hP : va_P (dC, dI) classes (ul_wM cI cZ aM u7 d) H := hP
      have hD : va_D A (ul_wM cI cZ aM u7 d) := hD
      refine lv_iload hx hb dX7_tryThing_148 (lv_at hl 0 rfl) ?_
      obtain ⟨hz8, h⟩ := ul_zb_h h
      have hr9 := hK0 (t0, u7) h
      subst hr9
      exact W.zret (v := t0) hx hb hr hz8 (fun t ht hW => ⟨⟨t0, (), rfl, rfl, by rw [ht]; exact hP, va_K.moved hW.alike hK, hD⟩, hS.F ht⟩) hS.2.2 dX7_tryThing_150
  have J133 : ∀ (M__133 : ul_S) (H : Heap) (locs : List Loc), ul_H (dC, dI) A s.heap (ul_wM cI cZ aM M__133 d) H locs → ∀ ls : Array Slot, lv_has ls 7 [(0, .ref (aM 0)), (1, .int p1), (2, .int p2), (3, .int p3)] → (f_X7_tryThing_j133 p1 p2 p3 M__133).bind K0 = some r → G H locs (F0 m 133 ls []) := by
    intro M__133 H locs hw ls hl h
    obtain ⟨hP, hD, hS⟩ := hw
    unfold f_X7_tryThing_j133 at h
    refine gi _ _ _ ?_
    refine lv_iconst (v := 0) hx hb dX7_tryThing_133 (by decide) ?_
    exact ge _ _ _ (J134 (0 : Int32) M__133 H locs ⟨hP, hD, hS⟩ ls (lv_sub hl [0, 1, 2, 3] rfl) h)
  have J101 : ∀ (t0 : Int32) (M__101 : ul_S) (H : Heap) (locs : List Loc), ul_H (dC, dI) A s.heap (ul_wM cI cZ aM M__101 d) H locs → ∀ ls : Array Slot, lv_has ls 7 [(0, .ref (aM 0)), (1, .int p1), (2, .int p2), (3, .int p3)] → (f_X7_tryThing_j101 p1 p2 p3 t0 M__101).bind K0 = some r → G H locs (F0 m 101 ls [.int t0]) := by
    intro t0 M__101 H locs hw ls hl h
    obtain ⟨hP, hD, hS⟩ := hw
    unfold f_X7_tryThing_j101 at h
    refine gi _ _ _ ?_
    refine lv_istore (lv' := [(5, .int t0), (0, .ref (aM 0)), (1, .int p1), (2, .int p2), (3, .int p3)]) hx hb dX7_tryThing_101 hl (by decide) rfl (fun ls hl => ?_)
    refine lv_iload hx hb dX7_tryThing_103 (lv_at hl 0 rfl) ?_
    refine lv_if_eq (tgt := 114) hx hb dX7_tryThing_105 (by decide) (fun hc13 => ?_) (fun hc13 => ?_)
    · have h := ul_if_t hc13 h
      refine lv_iload hx hb dX7_tryThing_114 (lv_at hl 0 rfl) ?_
      obtain ⟨hz14, h⟩ := ul_zb_h h
      have hr9 := hK0 (t0, M__101) h
      subst hr9
      exact W.zret (v := t0) hx hb hr hz14 (fun t ht hW => ⟨⟨t0, (), rfl, rfl, by rw [ht]; exact hP, va_K.moved hW.alike hK, hD⟩, hS.F ht⟩) hS.2.2 dX7_tryThing_116
    · have h := ul_if_f hc13 h
      refine lv_aload_n hx hb dX7_tryThing_108 rfl (lv_at hl 1 rfl) ?_
      refine lv_iconst (v := 1) hx hb dX7_tryThing_109 (by decide) ?_
      refine lv_iload_n hx hb dX7_tryThing_110 rfl (lv_at hl 4 rfl) ?_
      obtain ⟨u15, hu15, h⟩ := ul_cl_h h
      refine ul_cVv (As := [.int (1 : Int32), .int p3]) (rest := []) (wc' := (ul_wM cI cZ aM u15 d)) (wr := []) hP hD hS hK hA [0, 1, 2, 3, 4, 5, 6, 7, 8, 9, 10, 11, 12, 13, 14] [] [0, 1] ul_N0_ok trivial (c_X7_comeDown l dC dI cI cZ aM H.size M__101 d (1 : Int32) p3 u15 hu15) rfl rfl (by decide) rfl (by decide) (by decide) rfl ⟨hx, hb, hml, hown, hts⟩ (cwV 2 hts gX7_tryThing_X7_comeDown rfl rfl rfl (by decide +kernel) ⟨Nat.le_of_ble_eq_true rfl, Nat.le_of_ble_eq_true rfl⟩) (va_recv hK hP (ci := 7) (q0 := 0) rfl rfl) rfl hl.1 rfl (Nat.le_of_ble_eq_true rfl) dX7_tryThing_111 (fun H locs hw => ?_)
      obtain ⟨hP, hD, hS⟩ := hw
      have hP : va_P (dC, dI) classes (ul_wM cI cZ aM u15 d) H := hP
      have hD : va_D A (ul_wM cI cZ aM u15 d) := hD
      refine lv_iload hx hb dX7_tryThing_114 (lv_at hl 0 rfl) ?_
      obtain ⟨hz16, h⟩ := ul_zb_h h
      have hr9 := hK0 (t0, u15) h
      subst hr9
      exact W.zret (v := t0) hx hb hr hz16 (fun t ht hW => ⟨⟨t0, (), rfl, rfl, by rw [ht]; exact hP, va_K.moved hW.alike hK, hD⟩, hS.F ht⟩) hS.2.2 dX7_tryThing_116
  have J100 : ∀ (M__100 : ul_S) (H : Heap) (locs : List Loc), ul_H (dC, dI) A s.heap (ul_wM cI cZ aM M__100 d) H locs → ∀ ls : Array Slot, lv_has ls 7 [(0, .ref (aM 0)), (1, .int p1), (2, .int p2), (3, .int p3)] → (f_X7_tryThing_j100 p1 p2 p3 M__100).bind K0 = some r → G H locs (F0 m 100 ls []) := by
    intro M__100 H locs hw ls hl h
    obtain ⟨hP, hD, hS⟩ := hw
    unfold f_X7_tryThing_j100 at h
    refine gi _ _ _ ?_
    refine lv_iconst (v := 0) hx hb dX7_tryThing_100 (by decide) ?_
    exact ge _ _ _ (J101 (0 : Int32) M__100 H locs ⟨hP, hD, hS⟩ ls (lv_sub hl [0, 1, 2, 3] rfl) h)
  refine gi _ _ _ ?_
  refine lv_iload_n hx hb dX7_tryThing_0 rfl (lv_at hl 1 rfl) ?_
  by_cases hc17 : p1 = 0
  · have h := ul_if_t hc17 h
    refine lv_tableIn (off := 35) (tgt := 36) hx hb dX7_tryThing_1 (by rw [hc17]; decide) (by rw [hc17]; decide) (by rw [hc17]; decide) (by decide) ?_
    refine lv_aload_n hx hb dX7_tryThing_36 rfl (lv_at hl 0 rfl) ?_
    refine lv_iconst (v := 1) hx hb dX7_tryThing_37 (by decide) ?_
    refine lv_iconst (v := 0) hx hb dX7_tryThing_38 (by decide) ?_
    obtain ⟨u18, hu18, h⟩ := ul_cl_h h
    refine ul_cVi (As := [.int (1 : Int32), .int (0 : Int32)]) (rest := []) (wc' := (ul_wM cI cZ aM u18.2 d)) (wr := []) hP hD hS hK hA [0, 1, 2, 3, 4, 5, 6, 7, 8, 9, 10, 11, 12, 13, 14] [] [0, 1] ul_N0_ok trivial (c_X7_passOn l dC dI cI cZ aM H.size M d (1 : Int32) (0 : Int32) u18 hu18) rfl rfl (by decide) rfl (by decide) (by decide) rfl ⟨hx, hb, hml, hown, hts⟩ (cwV 2 hts gX7_tryThing_X7_passOn rfl rfl rfl (by decide +kernel) ⟨Nat.le_of_ble_eq_true rfl, Nat.le_of_ble_eq_true rfl⟩) (va_recv hK hP (ci := 7) (q0 := 0) rfl rfl) rfl hl.1 rfl (Nat.le_of_ble_eq_true rfl) dX7_tryThing_39 (fun H locs hw => ?_)
    obtain ⟨hP, hD, hS⟩ := hw
    have hP : va_P (dC, dI) classes (ul_wM cI cZ aM u18.2 d) H := hP
    have hD : va_D A (ul_wM cI cZ aM u18.2 d) := hD
    refine lv_pop hx hb dX7_tryThing_42 rfl ?_
    refine lv_iload_n hx hb dX7_tryThing_43 rfl (lv_at hl 2 rfl) ?_
    refine lv_if_ne (tgt := 55) hx hb dX7_tryThing_44 (by decide) (fun hc19 => ?_) (fun hc19 => ?_)
    · have h := ul_if_f hc19 h
      refine lv_iconst (v := 0) hx hb dX7_tryThing_55 (by decide) ?_
      have hr9 := hK0 ((0 : Int32), u18.2) h
      subst hr9
      exact W.zret (v := (0 : Int32)) hx hb hr (by decide) (fun t ht hW => ⟨⟨(0 : Int32), (), rfl, rfl, by rw [ht]; exact hP, va_K.moved hW.alike hK, hD⟩, hS.F ht⟩) hS.2.2 dX7_tryThing_56
    · have h := ul_if_t hc19 h
      refine lv_iload_n hx hb dX7_tryThing_47 rfl (lv_at hl 3 rfl) ?_
      refine lv_if_ne (tgt := 55) hx hb dX7_tryThing_48 (by decide) (fun hc20 => ?_) (fun hc20 => ?_)
      · have h := ul_if_f hc20 h
        refine lv_iconst (v := 0) hx hb dX7_tryThing_55 (by decide) ?_
        have hr9 := hK0 ((0 : Int32), u18.2) h
        subst hr9
        exact W.zret (v := (0 : Int32)) hx hb hr (by decide) (fun t ht hW => ⟨⟨(0 : Int32), (), rfl, rfl, by rw [ht]; exact hP, va_K.moved hW.alike hK, hD⟩, hS.F ht⟩) hS.2.2 dX7_tryThing_56
      · have h := ul_if_t hc20 h
        refine lv_iconst (v := 1) hx hb dX7_tryThing_51 (by decide) ?_
        refine lv_goto (tgt := 56) hx hb dX7_tryThing_52 (by decide) ?_
        have hr9 := hK0 ((1 : Int32), u18.2) h
        subst hr9
        exact W.zret (v := (1 : Int32)) hx hb hr (by decide) (fun t ht hW => ⟨⟨(1 : Int32), (), rfl, rfl, by rw [ht]; exact hP, va_K.moved hW.alike hK, hD⟩, hS.F ht⟩) hS.2.2 dX7_tryThing_56
  · have h := ul_if_f hc17 h
    by_cases hc21 : p1 = 1
    · have h := ul_if_t hc21 h
      refine lv_tableIn (off := 56) (tgt := 57) hx hb dX7_tryThing_1 (by rw [hc21]; decide) (by rw [hc21]; decide) (by rw [hc21]; decide) (by decide) ?_
      refine lv_aload_n hx hb dX7_tryThing_57 rfl (lv_at hl 0 rfl) ?_
      refine lv_iconst (v := 1) hx hb dX7_tryThing_58 (by decide) ?_
      refine lv_iload_n hx hb dX7_tryThing_59 rfl (lv_at hl 2 rfl) ?_
      refine lv_iload_n hx hb dX7_tryThing_60 rfl (lv_at hl 3 rfl) ?_
      obtain ⟨u22, hu22, h⟩ := ul_cl_h h
      refine ul_cVi (As := [.int (1 : Int32), .int p2, .int p3]) (rest := []) (wc' := (ul_wM cI cZ aM M d)) (wr := []) hP hD hS hK hA [0, 1, 2, 3, 4, 5, 6, 7, 8, 9, 10, 11, 12, 13, 14] [] [0, 1] ul_N0_ok trivial (c_X7_canMove l dC dI cI cZ aM H.size M d (1 : Int32) p2 p3 u22 hu22) rfl rfl (by decide) rfl (by decide) (by decide) rfl ⟨hx, hb, hml, hown, hts⟩ (cwV 3 hts gX7_tryThing_X7_canMove rfl rfl rfl (by decide +kernel) ⟨Nat.le_of_ble_eq_true rfl, Nat.le_of_ble_eq_true rfl⟩) (va_recv hK hP (ci := 7) (q0 := 0) rfl rfl) rfl hl.1 rfl (Nat.le_of_ble_eq_true rfl) dX7_tryThing_61 (fun H locs hw => ?_)
      obtain ⟨hP, hD, hS⟩ := hw
      have hP : va_P (dC, dI) classes (ul_wM cI cZ aM M d) H := hP
      have hD : va_D A (ul_wM cI cZ aM M d) := hD
      refine lv_istore (lv' := [(4, .int u22), (0, .ref (aM 0)), (1, .int p1), (2, .int p2), (3, .int p3)]) hx hb dX7_tryThing_64 hl (by decide) rfl (fun ls hl => ?_)
      refine lv_iload hx hb dX7_tryThing_66 (lv_at hl 0 rfl) ?_
      refine lv_if_eq (tgt := 81) hx hb dX7_tryThing_68 (by decide) (fun hc23 => ?_) (fun hc23 => ?_)
      · have h := ul_if_t hc23 h
        refine lv_iload hx hb dX7_tryThing_81 (lv_at hl 0 rfl) ?_
        obtain ⟨hz24, h⟩ := ul_zb_h h
        have hr9 := hK0 (u22, M) h
        subst hr9
        exact W.zret (v := u22) hx hb hr hz24 (fun t ht hW => ⟨⟨u22, (), rfl, rfl, by rw [ht]; exact hP, va_K.moved hW.alike hK, hD⟩, hS.F ht⟩) hS.2.2 dX7_tryThing_83
      · have h := ul_if_f hc23 h
        refine lv_aload_n hx hb dX7_tryThing_71 rfl (lv_at hl 1 rfl) ?_
        refine va_get (D := (dC, dI)) (ci := 7) (v := .ref (aM 6)) (C := RX7) (T := TX7) (N := 26) hx hb hts hin7 hown hK hP 0 rfl rfl 7 (by decide) (hts (.fieldLink RX7 25 "UnderLaddersModel" "now" "[I") (by decide +kernel)) (fun _ h9 => h9) rfl dX7_tryThing_72 ?_
        refine lv_bipush (v := 23) hx hb dX7_tryThing_75 (by decide) ?_
        refine lv_iload_n hx hb dX7_tryThing_77 rfl (lv_at hl 3 rfl) ?_
        refine lv_iadd hx hb dX7_tryThing_78 ?_
        refine lv_iload_n hx hb dX7_tryThing_79 rfl (lv_at hl 4 rfl) ?_
        obtain ⟨hi26, h⟩ := ul_st_h h
        refine va_iast hx hb hK hP hD hS 6 0 rfl rfl hi26 dX7_tryThing_80 (fun H locs hP hD hS => ?_)
        obtain ⟨M25, eM25⟩ : ∃ z : ul_S, z = ul_up M 6 ((23 : Int32) + p2).toNatClampNeg p3 := ⟨_, rfl⟩
        have h := h M25 eM25
        have hP : va_P (dC, dI) classes (ul_wM cI cZ aM M25 d) H := by rw [eM25]; exact hP
        have hD : va_D A (ul_wM cI cZ aM M25 d) := by rw [eM25]; exact hD
        refine lv_iload hx hb dX7_tryThing_81 (lv_at hl 0 rfl) ?_
        obtain ⟨hz27, h⟩ := ul_zb_h h
        have hr9 := hK0 (u22, M25) h
        subst hr9
        exact W.zret (v := u22) hx hb hr hz27 (fun t ht hW => ⟨⟨u22, (), rfl, rfl, by rw [ht]; exact hP, va_K.moved hW.alike hK, hD⟩, hS.F ht⟩) hS.2.2 dX7_tryThing_83
    · have h := ul_if_f hc21 h
      by_cases hc28 : p1 = 2
      · have h := ul_if_t hc28 h
        refine lv_tableIn (off := 83) (tgt := 84) hx hb dX7_tryThing_1 (by rw [hc28]; decide) (by rw [hc28]; decide) (by rw [hc28]; decide) (by decide) ?_
        refine lv_iload_n hx hb dX7_tryThing_84 rfl (lv_at hl 2 rfl) ?_
        refine lv_if_ne (tgt := 100) hx hb dX7_tryThing_85 (by decide) (fun hc29 => ?_) (fun hc29 => ?_)
        · have h := ul_if_f hc29 h
          exact ge _ _ _ (J100 M H locs ⟨hP, hD, hS⟩ ls (lv_sub hl [0, 1, 2, 3] rfl) h)
        · have h := ul_if_t hc29 h
          refine lv_aload_n hx hb dX7_tryThing_88 rfl (lv_at hl 0 rfl) ?_
          refine lv_iload_n hx hb dX7_tryThing_89 rfl (lv_at hl 3 rfl) ?_
          obtain ⟨u30, hu30, h⟩ := ul_cl_h h
          refine ul_cVi (As := [.int p3]) (rest := []) (wc' := (ul_wM cI cZ aM M d)) (wr := []) hP hD hS hK hA [0, 1, 2, 3, 4, 5, 6, 7, 8, 9, 10, 11, 12, 13, 14] [] [0, 1] ul_N0_ok trivial (c_X7_isLadder l dC dI cI cZ aM H.size M d p3 u30 hu30) rfl rfl (by decide) rfl (by decide) (by decide) rfl ⟨hx, hb, hml, hown, hts⟩ (cwV 1 hts gX7_tryThing_X7_isLadder rfl rfl rfl (by decide +kernel) ⟨Nat.le_of_ble_eq_true rfl, Nat.le_of_ble_eq_true rfl⟩) (va_recv hK hP (ci := 7) (q0 := 0) rfl rfl) rfl hl.1 rfl (Nat.le_of_ble_eq_true rfl) dX7_tryThing_90 (fun H locs hw => ?_)
          obtain ⟨hP, hD, hS⟩ := hw
          have hP : va_P (dC, dI) classes (ul_wM cI cZ aM M d) H := hP
          have hD : va_D A (ul_wM cI cZ aM M d) := hD
          refine lv_if_eq (tgt := 100) hx hb dX7_tryThing_93 (by decide) (fun hc31 => ?_) (fun hc31 => ?_)
          · have h := ul_if_t hc31 h
            exact ge _ _ _ (J100 M H locs ⟨hP, hD, hS⟩ ls (lv_sub hl [0, 1, 2, 3] rfl) h)
          · have h := ul_if_f hc31 h
            refine lv_iconst (v := 1) hx hb dX7_tryThing_96 (by decide) ?_
            refine lv_goto (tgt := 101) hx hb dX7_tryThing_97 (by decide) ?_
            exact ge _ _ _ (J101 (1 : Int32) M H locs ⟨hP, hD, hS⟩ ls (lv_sub hl [0, 1, 2, 3] rfl) h)
      · have h := ul_if_f hc28 h
        by_cases hc32 : p1 = 3
        · have h := ul_if_t hc32 h
          refine lv_tableIn (off := 116) (tgt := 117) hx hb dX7_tryThing_1 (by rw [hc32]; decide) (by rw [hc32]; decide) (by rw [hc32]; decide) (by decide) ?_
          refine lv_aload_n hx hb dX7_tryThing_117 rfl (lv_at hl 0 rfl) ?_
          refine lv_iload_n hx hb dX7_tryThing_118 rfl (lv_at hl 2 rfl) ?_
          obtain ⟨u33, hu33, h⟩ := ul_cl_h h
          refine ul_cVi (As := [.int p2]) (rest := []) (wc' := (ul_wM cI cZ aM M d)) (wr := []) hP hD hS hK hA [0, 1, 2, 3, 4, 5, 6, 7, 8, 9, 10, 11, 12, 13, 14] [] [0, 1] ul_N0_ok trivial (c_X7_isPerson l dC dI cI cZ aM H.size M d p2 u33 hu33) rfl rfl (by decide) rfl (by decide) (by decide) rfl ⟨hx, hb, hml, hown, hts⟩ (cwV 1 hts gX7_tryThing_X7_isPerson rfl rfl rfl (by decide +kernel) ⟨Nat.le_of_ble_eq_true rfl, Nat.le_of_ble_eq_true rfl⟩) (va_recv hK hP (ci := 7) (q0 := 0) rfl rfl) rfl hl.1 rfl (Nat.le_of_ble_eq_true rfl) dX7_tryThing_119 (fun H locs hw => ?_)
          obtain ⟨hP, hD, hS⟩ := hw
          have hP : va_P (dC, dI) classes (ul_wM cI cZ aM M d) H := hP
          have hD : va_D A (ul_wM cI cZ aM M d) := hD
          refine lv_if_eq (tgt := 133) hx hb dX7_tryThing_122 (by decide) (fun hc34 => ?_) (fun hc34 => ?_)
          · have h := ul_if_t hc34 h
            exact ge _ _ _ (J133 M H locs ⟨hP, hD, hS⟩ ls (lv_sub hl [0, 1, 2, 3] rfl) h)
          · have h := ul_if_f hc34 h
            refine lv_iload_n hx hb dX7_tryThing_125 rfl (lv_at hl 3 rfl) ?_
            refine lv_if_le (tgt := 133) hx hb dX7_tryThing_126 (by decide) (fun hc35 => ?_) (fun hc35 => ?_)
            · have h := ul_if_t hc35 h
              exact ge _ _ _ (J133 M H locs ⟨hP, hD, hS⟩ ls (lv_sub hl [0, 1, 2, 3] rfl) h)
            · have h := ul_if_f hc35 h
              refine lv_iconst (v := 1) hx hb dX7_tryThing_129 (by decide) ?_
              refine lv_goto (tgt := 134) hx hb dX7_tryThing_130 (by decide) ?_
              exact ge _ _ _ (J134 (1 : Int32) M H locs ⟨hP, hD, hS⟩ ls (lv_sub hl [0, 1, 2, 3] rfl) h)
        · have h := ul_if_f hc32 h
          by_cases hc36 : p1 = 4
          · have h := ul_if_t hc36 h
            refine lv_tableIn (off := 150) (tgt := 151) hx hb dX7_tryThing_1 (by rw [hc36]; decide) (by rw [hc36]; decide) (by rw [hc36]; decide) (by decide) ?_
            refine lv_aload_n hx hb dX7_tryThing_151 rfl (lv_at hl 0 rfl) ?_
            refine lv_iload_n hx hb dX7_tryThing_152 rfl (lv_at hl 2 rfl) ?_
            obtain ⟨u37, hu37, h⟩ := ul_cl_h h
            refine ul_cVi (As := [.int p2]) (rest := []) (wc' := (ul_wM cI cZ aM M d)) (wr := []) hP hD hS hK hA [0, 1, 2, 3, 4, 5, 6, 7, 8, 9, 10, 11, 12, 13, 14] [] [0, 1] ul_N0_ok trivial (c_X7_isPerson l dC dI cI cZ aM H.size M d p2 u37 hu37) rfl rfl (by decide) rfl (by decide) (by decide) rfl ⟨hx, hb, hml, hown, hts⟩ (cwV 1 hts gX7_tryThing_X7_isPerson rfl rfl rfl (by decide +kernel) ⟨Nat.le_of_ble_eq_true rfl, Nat.le_of_ble_eq_true rfl⟩) (va_recv hK hP (ci := 7) (q0 := 0) rfl rfl) rfl hl.1 rfl (Nat.le_of_ble_eq_true rfl) dX7_tryThing_153 (fun H locs hw => ?_)
            obtain ⟨hP, hD, hS⟩ := hw
            have hP : va_P (dC, dI) classes (ul_wM cI cZ aM M d) H := hP
            have hD : va_D A (ul_wM cI cZ aM M d) := hD
            refine lv_if_eq (tgt := 176) hx hb dX7_tryThing_156 (by decide) (fun hc38 => ?_) (fun hc38 => ?_)
            · have h := ul_if_t hc38 h
              refine lv_iconst (v := 0) hx hb dX7_tryThing_176 (by decide) ?_
              have hr9 := hK0 ((0 : Int32), M) h
              subst hr9
              exact W.zret (v := (0 : Int32)) hx hb hr (by decide) (fun t ht hW => ⟨⟨(0 : Int32), (), rfl, rfl, by rw [ht]; exact hP, va_K.moved hW.alike hK, hD⟩, hS.F ht⟩) hS.2.2 dX7_tryThing_177
            · have h := ul_if_f hc38 h
              refine lv_aload_n hx hb dX7_tryThing_159 rfl (lv_at hl 0 rfl) ?_
              refine va_get (D := (dC, dI)) (ci := 7) (v := .ref (aM 6)) (C := RX7) (T := TX7) (N := 26) hx hb hts hin7 hown hK hP 0 rfl rfl 7 (by decide) (hts (.fieldLink RX7 25 "UnderLaddersModel" "now" "[I") (by decide +kernel)) (fun _ h9 => h9) rfl dX7_tryThing_160 ?_
              refine lv_bipush (v := 40) hx hb dX7_tryThing_163 (by decide) ?_
              refine lv_iload_n hx hb dX7_tryThing_165 rfl (lv_at hl 2 rfl) ?_
              refine lv_iadd hx hb dX7_tryThing_166 ?_
              obtain ⟨hi40, h⟩ := ul_ld_h h
              refine va_iald hx hb hK hP 6 0 rfl rfl hi40 dX7_tryThing_167 ?_
              refine lv_topi (fun v39 ev39 => ?_)
              have h := h v39 ev39
              refine lv_iload_n hx hb dX7_tryThing_168 rfl (lv_at hl 3 rfl) ?_
              refine lv_icmp_lt (tgt := 176) hx hb dX7_tryThing_169 (by decide) (fun hc41 => ?_) (fun hc41 => ?_)
              · have h := ul_if_t hc41 h
                refine lv_iconst (v := 0) hx hb dX7_tryThing_176 (by decide) ?_
                have hr9 := hK0 ((0 : Int32), M) h
                subst hr9
                exact W.zret (v := (0 : Int32)) hx hb hr (by decide) (fun t ht hW => ⟨⟨(0 : Int32), (), rfl, rfl, by rw [ht]; exact hP, va_K.moved hW.alike hK, hD⟩, hS.F ht⟩) hS.2.2 dX7_tryThing_177
              · have h := ul_if_f hc41 h
                refine lv_iconst (v := 1) hx hb dX7_tryThing_172 (by decide) ?_
                refine lv_goto (tgt := 177) hx hb dX7_tryThing_173 (by decide) ?_
                have hr9 := hK0 ((1 : Int32), M) h
                subst hr9
                exact W.zret (v := (1 : Int32)) hx hb hr (by decide) (fun t ht hW => ⟨⟨(1 : Int32), (), rfl, rfl, by rw [ht]; exact hP, va_K.moved hW.alike hK, hD⟩, hS.F ht⟩) hS.2.2 dX7_tryThing_177
          · have h := ul_if_f hc36 h
            refine lv_tableOut (tgt := 178) hx hb dX7_tryThing_1 (by have z0 := lv_neT (a := 0) hc17 (by decide); have z1 := lv_neT (a := 1) hc21 (by decide); have z2 := lv_neT (a := 2) hc28 (by decide); have z3 := lv_neT (a := 3) hc32 (by decide); have z4 := lv_neT (a := 4) hc36 (by decide); omega) (by decide) ?_
            refine lv_iconst (v := 0) hx hb dX7_tryThing_178 (by decide) ?_
            have hr9 := hK0 ((0 : Int32), M) h
            subst hr9
            exact W.zret (v := (0 : Int32)) hx hb hr (by decide) (fun t ht hW => ⟨⟨(0 : Int32), (), rfl, rfl, by rw [ht]; exact hP, va_K.moved hW.alike hK, hD⟩, hS.F ht⟩) hS.2.2 dX7_tryThing_179
def f_X7_thousandTo_j21 (p0 : Int32) (x1 : Int64) (x3 : Int32) : Option Int64 :=
  some x1
def f_X7_thousandTo_L4 (p0 : Int32) (q4 : (Int64 × Int32)) : Option ((Int64 × Int32) ⊕ (Int64 × Int32)) :=
  if p0 ≤ q4.2 then (some (.inl (q4.1, q4.2))) else (ul_bd (q4.1 * (1000 : Int64)) fun v2 => ul_bd (q4.2 + 1) fun v3 => some (.inr (v2, v3)))
def f_X7_thousandTo (p0 : Int32) : Option Int64 :=
  (ul_it ul_N (f_X7_thousandTo_L4 p0) ((1 : Int64), (0 : Int32))).bind (fun e4 => f_X7_thousandTo_j21 p0 e4.1 e4.2)
set_option maxHeartbeats 4000000 in
set_option maxRecDepth 100000 in
theorem c_X7_thousandTo (l : Launch) (dC : Nat → ClassId) (dI : Nat → Nat → Nat) (sz : Nat) (p0 : Int32) (r : Int64) (h : f_X7_thousandTo p0 = some r) : Met l yX7_thousandTo wsX7_thousandTo ({ frames := 0, cells := 0, slots := 0, locals := 0 }) (va_Pc [.int p0] (ul_pre (dC, dI) [] ul_N0 sz [])) (va_Ql (fun v (_ : Unit) => v = r) (fun _ => ul_post (dC, dI) [] (va_A [] sz) []) (va_A [] sz)) 0 0 (va_A [] sz) := by
  refine Met.ofW (cc := cX7_thousandTo) (maxL := 4) (ret := (some .long)) (by decide) rfl ?_
  intro p e s m args below meth c s₁ B hml hv
  obtain ⟨rfl, hsz, hP, hK, hD0, hN⟩ := hv
  have hx := B.exec
  have hb := B.bytes
  have hr := B.returns
  have hts := atoms_spec (ws := wsX7_thousandTo) B.pre
  have hown : s.vm.findClass RX7 = some m.cls := findClass_of_methodNamed B.named
  have hlocks := B.notSynchronized
  subst hsz
  have hD := hD0.self (sz := s.heap.size)
  generalize hAe : va_A [] s.heap.size = A at hD ⊢
  have hA : ∀ q : Nat, s.heap.size ≤ q → A q := fun q h => by rw [← hAe]; exact Or.inr h
  have hS : va_S A s.heap s.heap [] := va_S.rf
  have hl := lv_entry ([.int p0]) (n := 4) (Nat.le_of_ble_eq_true rfl)
  rw [lg_entry_eq]
  generalize (lg_sl ([.int p0]) ++ List.replicate (4 - (lg_sl ([.int p0])).length) Slot.unset).toArray = ls at hl ⊢
  have hl : lv_has ls 4 [(0, .int p0)] := hl
  obtain ⟨K0, hK0, h⟩ := ul_top h
  unfold f_X7_thousandTo at h
  refine ul_gen (fun G gi ge => ?_)
  obtain ⟨H, eH⟩ : ∃ z, z = s.heap := ⟨_, rfl⟩
  obtain ⟨locs, eL⟩ : ∃ z : List Loc, z = [] := ⟨_, rfl⟩
  have hP : va_P (dC, dI) classes [] H := by rw [eH]; exact hP
  have hS : va_S A s.heap H locs := by rw [eH, eL]; exact hS
  rw [← eL]
  refine (show G H locs (F0 m 0 ls []) → G s.heap locs (F0 m 0 ls []) from fun z => by rw [← eH]; exact z) ?_
  have J21 : ∀ (x1 : Int64) (x3 : Int32) (H : Heap) (locs : List Loc), ul_H (dC, dI) A s.heap [] H locs → ∀ ls : Array Slot, lv_has ls 4 [(0, .int p0), (1, .long x1), (3, .int x3)] → (f_X7_thousandTo_j21 p0 x1 x3).bind K0 = some r → G H locs (F0 m 21 ls []) := by
    intro x1 x3 H locs hw ls hl h
    obtain ⟨hP, hD, hS⟩ := hw
    unfold f_X7_thousandTo_j21 at h
    refine gi _ _ _ ?_
    refine lv_lload_n hx hb dX7_thousandTo_21 rfl (lv_at hl 1 rfl) ?_
    have hr9 := hK0 x1 h
    subst hr9
    exact W.lret (v := x1) hx hb hr (fun t ht hW => ⟨⟨x1, (), rfl, rfl, by rw [ht]; exact hP, va_K.moved hW.alike hK, hD⟩, hS.F ht⟩) hS.2.2 dX7_thousandTo_22
  refine gi _ _ _ ?_
  refine lv_lconst (v := 1) hx hb dX7_thousandTo_0 (by decide) ?_
  refine lv_lstore_n (lv' := [(1, .long (1 : Int64)), (0, .int p0)]) hx hb dX7_thousandTo_1 rfl hl (by decide) rfl (fun ls hl => ?_)
  refine lv_iconst (v := 0) hx hb dX7_thousandTo_2 (by decide) ?_
  refine lv_istore_n (lv' := [(3, .int (0 : Int32)), (1, .long (1 : Int64)), (0, .int p0)]) hx hb dX7_thousandTo_3 rfl hl (by decide) rfl (fun ls hl => ?_)
  refine ge _ _ _ (ul_loop (P := fun q4 => ∀ (H : Heap) (locs : List Loc), ul_H (dC, dI) A s.heap [] H locs → ∀ ls : Array Slot, lv_has ls 4 [(0, .int p0), (1, .long q4.1), (3, .int q4.2)] → G H locs (F0 m 4 ls [])) ?_ _ _ (ul_it_h h) H locs ⟨hP, hD, hS⟩ ls (lv_sub hl [2, 1, 0] rfl))
  intro K4 hx4
  intro q4 ih4 h H locs hw ls hl
  obtain ⟨hP, hD, hS⟩ := hw
  unfold f_X7_thousandTo_L4 at h
  refine gi _ _ _ ?_
  refine lv_iload_n hx hb dX7_thousandTo_4 rfl (lv_at hl 2 rfl) ?_
  refine lv_iload_n hx hb dX7_thousandTo_5 rfl (lv_at hl 0 rfl) ?_
  refine lv_icmp_ge (tgt := 21) hx hb dX7_thousandTo_6 (by decide) (fun hc4 => ?_) (fun hc4 => ?_)
  · have h := ul_if_t hc4 h
    exact ge _ _ _ (J21 q4.1 q4.2 H locs ⟨hP, hD, hS⟩ ls (lv_sub hl [0, 1, 2] rfl) (hx4 (q4.1, q4.2) h))
  · have h := ul_if_f hc4 h
    refine lv_lload_n hx hb dX7_thousandTo_9 rfl (lv_at hl 1 rfl) ?_
    refine lv_ldc2 (v := 1000) hx hb hown (hts (.constantLong RX7 173 (1000)) (by decide +kernel)) dX7_thousandTo_10 ?_
    refine lv_lmul hx hb dX7_thousandTo_13 ?_
    refine lv_topl (fun v5 ev5 => ?_)
    have h := ul_bd_h h v5 ev5
    refine lv_lstore_n (lv' := [(1, .long v5), (0, .int p0), (3, .int q4.2)]) hx hb dX7_thousandTo_14 rfl hl (by decide) rfl (fun ls hl => ?_)
    obtain ⟨v6, ev6⟩ : ∃ z : Int32, z = q4.2 + 1 := ⟨_, rfl⟩
    have h := ul_bd_h h v6 ev6
    refine lv_iinc (v := v6) (lv' := [(3, .int v6), (1, .long v5), (0, .int p0)]) hx hb dX7_thousandTo_15 hl (k := 2) rfl (by rw [ev6]; rfl) (by decide) rfl (fun ls hl => ?_)
    refine lv_goto (tgt := 4) hx hb dX7_thousandTo_18 (by decide) ?_
    exact ge _ _ _ (ih4 (v5, v6) h H locs ⟨hP, hD, hS⟩ ls (lv_sub hl [2, 1, 0] rfl))
def f_X7_judge_j94 (p1 : Int32) (p2 : Int64) (x4 : Int32) (M__94 : ul_S) : Option (Int32 × ul_S) :=
  some ((-9 : Int32), M__94)
def f_X7_judge_L36 (p1 : Int32) (p2 : Int64) (q36 : (Int32 × ul_S)) : Option (((Int32 × ul_S) ⊕ (Int32 × ul_S)) ⊕ (Int32 × ul_S)) :=
  if p1 ≤ q36.1 then (some (.inl (.inr (q36.1, q36.2)))) else ((f_X7_thousandTo ((p1 - (1 : Int32)) - q36.1)).bind fun u8 => ul_nzl u8 (ul_bd (((p2 / u8) - (p2 / u8) / (1000 : Int64) * (1000 : Int64)).toInt32) fun v10 => (f_X7_tryThing q36.2 (v10 / (100 : Int32)) ((v10 / (10 : Int32)) - (v10 / (10 : Int32)) / (10 : Int32) * (10 : Int32)) (v10 - v10 / (10 : Int32) * (10 : Int32))).bind fun u11 => if u11.1 = 0 then (some (.inl (.inl (q36.1, u11.2)))) else (ul_bd (q36.1 + 1) fun v13 => some (.inr (v13, u11.2)))))
def f_X7_judge (M : ul_S) (p1 : Int32) (p2 : Int64) : Option (Int32 × ul_S) :=
  (f_X7_in p1.toInt64 (1 : Int64) (4 : Int64)).bind fun u1 => if u1 = 0 then (some ((-2 : Int32), M)) else ((f_X7_thousandTo p1).bind fun u3 => (f_X7_in p2 (0 : Int64) (u3 - (1 : Int64))).bind fun u4 => if u4 = 0 then (some ((-2 : Int32), M)) else ((f_X7_layTrial M).bind fun u6 => (ul_it ul_N (f_X7_judge_L36 p1 p2) ((0 : Int32), u6)).bind (Sum.elim (fun z => some z) (fun e36 => f_X7_judge_j94 p1 p2 e36.1 e36.2))))
set_option maxHeartbeats 4000000 in
set_option maxRecDepth 100000 in
theorem c_X7_judge (l : Launch) (dC : Nat → ClassId) (dI : Nat → Nat → Nat) (cI : ClassId) (cZ : ClassId) (aM : Nat → Nat) (sz : Nat) (M : ul_S) (d : Int64) (p1 : Int32) (p2 : Int64) (r : (Int32 × ul_S)) (h : f_X7_judge M p1 p2 = some r) : Met l yX7_judge wsX7_judge ({ frames := 7, cells := 0, slots := 0, locals := 169 }) (va_Pc [.ref (aM 0), .int p1, .long p2] (ul_pre (dC, dI) [(cI, .int), (cZ, .boolean)] ul_N0 sz (ul_wM cI cZ aM M d))) (va_Qi (fun v (_ : Unit) => v = r.1) (fun _ => ul_post (dC, dI) [(cI, .int), (cZ, .boolean)] (va_A (ul_wM cI cZ aM M d) sz) (ul_wM cI cZ aM r.2 d)) (va_A (ul_wM cI cZ aM M d) sz)) 0 0 (va_A (ul_wM cI cZ aM M d) sz) := by
  refine Met.ofW (cc := cX7_judge) (maxL := 6) (ret := (some .int)) (by decide) rfl ?_
  intro p e s m args below meth c s₁ B hml hv
  obtain ⟨rfl, hsz, hP, hK, hD0, hN⟩ := hv
  have hx := B.exec
  have hb := B.bytes
  have hr := B.returns
  have hts := atoms_spec (ws := wsX7_judge) B.pre
  have hown : s.vm.findClass RX7 = some m.cls := findClass_of_methodNamed B.named
  have hlocks := B.notSynchronized
  have hin7 : ∀ w ∈ u_ws RX7 TX7 26, w ∈ wsX7_judge := by decide +kernel
  subst hsz
  have hD := hD0.self (sz := s.heap.size)
  generalize hAe : va_A (ul_wM cI cZ aM M d) s.heap.size = A at hD ⊢
  have hA : ∀ q : Nat, s.heap.size ≤ q → A q := fun q h => by rw [← hAe]; exact Or.inr h
  have hS : va_S A s.heap s.heap [] := va_S.rf
  have hl := lv_entry ([.ref (aM 0), .int p1, .long p2]) (n := 6) (Nat.le_of_ble_eq_true rfl)
  rw [lg_entry_eq]
  generalize (lg_sl ([.ref (aM 0), .int p1, .long p2]) ++ List.replicate (6 - (lg_sl ([.ref (aM 0), .int p1, .long p2])).length) Slot.unset).toArray = ls at hl ⊢
  have hl : lv_has ls 6 [(0, .ref (aM 0)), (1, .int p1), (2, .long p2)] := hl
  obtain ⟨K0, hK0, h⟩ := ul_top h
  unfold f_X7_judge at h
  refine ul_gen (fun G gi ge => ?_)
  obtain ⟨H, eH⟩ : ∃ z, z = s.heap := ⟨_, rfl⟩
  obtain ⟨locs, eL⟩ : ∃ z : List Loc, z = [] := ⟨_, rfl⟩
  have hP : va_P (dC, dI) classes (ul_wM cI cZ aM M d) H := by rw [eH]; exact hP
  have hS : va_S A s.heap H locs := by rw [eH, eL]; exact hS
  rw [← eL]
  refine (show G H locs (F0 m 0 ls []) → G s.heap locs (F0 m 0 ls []) from fun z => by rw [← eH]; exact z) ?_
  have J94 : ∀ (x4 : Int32) (M__94 : ul_S) (H : Heap) (locs : List Loc), ul_H (dC, dI) A s.heap (ul_wM cI cZ aM M__94 d) H locs → ∀ ls : Array Slot, lv_has ls 6 [(0, .ref (aM 0)), (1, .int p1), (2, .long p2), (4, .int x4)] → (f_X7_judge_j94 p1 p2 x4 M__94).bind K0 = some r → G H locs (F0 m 94 ls []) := by
    intro x4 M__94 H locs hw ls hl h
    obtain ⟨hP, hD, hS⟩ := hw
    unfold f_X7_judge_j94 at h
    refine gi _ _ _ ?_
    refine lv_bipush (v := -9) hx hb dX7_judge_94 (by decide) ?_
    have hr9 := hK0 ((-9 : Int32), M__94) h
    subst hr9
    exact W.iret (v := (-9 : Int32)) hx hb hr (fun t ht hW => ⟨⟨(-9 : Int32), (), rfl, rfl, by rw [ht]; exact hP, va_K.moved hW.alike hK, hD⟩, hS.F ht⟩) hS.2.2 dX7_judge_96
  refine gi _ _ _ ?_
  refine lv_iload_n hx hb dX7_judge_0 rfl (lv_at hl 1 rfl) ?_
  refine lv_i2l hx hb dX7_judge_1 rfl ?_
  refine lv_lconst (v := 1) hx hb dX7_judge_2 (by decide) ?_
  refine lv_ldc2 (v := 4) hx hb hown (hts (.constantLong RX7 175 (4)) (by decide +kernel)) dX7_judge_3 ?_
  obtain ⟨u1, hu1, h⟩ := ul_cl_h h
  refine ul_cSi (As := [.long p1.toInt64, .long (1 : Int64), .long (4 : Int64)]) (rest := []) hP hD hS hK hA (c_X7_in l dC dI H.size p1.toInt64 (1 : Int64) (4 : Int64) u1 hu1) ⟨hx, hb, hml, hown, hts⟩ (cwS 3 hts gX7_judge_X7_in rfl rfl rfl (by decide +kernel) ⟨Nat.le_of_ble_eq_true rfl, Nat.le_of_ble_eq_true rfl⟩) rfl hl.1 rfl (Nat.le_of_ble_eq_true rfl) dX7_judge_6 (fun H locs hw => ?_)
  obtain ⟨hP, hD, hS⟩ := hw
  refine lv_if_eq (tgt := 26) hx hb dX7_judge_9 (by decide) (fun hc2 => ?_) (fun hc2 => ?_)
  · have h := ul_if_t hc2 h
    refine lv_bipush (v := -2) hx hb dX7_judge_26 (by decide) ?_
    have hr9 := hK0 ((-2 : Int32), M) h
    subst hr9
    exact W.iret (v := (-2 : Int32)) hx hb hr (fun t ht hW => ⟨⟨(-2 : Int32), (), rfl, rfl, by rw [ht]; exact hP, va_K.moved hW.alike hK, hD⟩, hS.F ht⟩) hS.2.2 dX7_judge_28
  · have h := ul_if_f hc2 h
    refine lv_lload_n hx hb dX7_judge_12 rfl (lv_at hl 2 rfl) ?_
    refine lv_lconst (v := 0) hx hb dX7_judge_13 (by decide) ?_
    refine lv_iload_n hx hb dX7_judge_14 rfl (lv_at hl 1 rfl) ?_
    obtain ⟨u3, hu3, h⟩ := ul_cl_h h
    refine ul_cSl (As := [.int p1]) (rest := [.long (0 : Int64), .long p2]) hP hD hS hK hA (c_X7_thousandTo l dC dI H.size p1 u3 hu3) ⟨hx, hb, hml, hown, hts⟩ (cwS 1 hts gX7_judge_X7_thousandTo rfl rfl rfl (by decide +kernel) ⟨Nat.le_of_ble_eq_true rfl, Nat.le_of_ble_eq_true rfl⟩) rfl hl.1 rfl (Nat.le_of_ble_eq_true rfl) dX7_judge_15 (fun H locs hw => ?_)
    obtain ⟨hP, hD, hS⟩ := hw
    refine lv_lconst (v := 1) hx hb dX7_judge_18 (by decide) ?_
    refine lv_lsub hx hb dX7_judge_19 ?_
    obtain ⟨u4, hu4, h⟩ := ul_cl_h h
    refine ul_cSi (As := [.long p2, .long (0 : Int64), .long (u3 - (1 : Int64))]) (rest := []) hP hD hS hK hA (c_X7_in l dC dI H.size p2 (0 : Int64) (u3 - (1 : Int64)) u4 hu4) ⟨hx, hb, hml, hown, hts⟩ (cwS 3 hts gX7_judge_X7_in rfl rfl rfl (by decide +kernel) ⟨Nat.le_of_ble_eq_true rfl, Nat.le_of_ble_eq_true rfl⟩) rfl hl.1 rfl (Nat.le_of_ble_eq_true rfl) dX7_judge_20 (fun H locs hw => ?_)
    obtain ⟨hP, hD, hS⟩ := hw
    refine lv_if_ne (tgt := 29) hx hb dX7_judge_23 (by decide) (fun hc5 => ?_) (fun hc5 => ?_)
    · have h := ul_if_f hc5 h
      refine lv_aload_n hx hb dX7_judge_29 rfl (lv_at hl 0 rfl) ?_
      obtain ⟨u6, hu6, h⟩ := ul_cl_h h
      refine ul_cVv (As := []) (rest := []) (wc' := (ul_wM cI cZ aM u6 d)) (wr := []) hP hD hS hK hA [0, 1, 2, 3, 4, 5, 6, 7, 8, 9, 10, 11, 12, 13, 14] [] [0, 1] ul_N0_ok trivial (c_X7_layTrial l dC dI cI cZ aM H.size M d u6 hu6) rfl rfl (by decide) rfl (by decide) (by decide) rfl ⟨hx, hb, hml, hown, hts⟩ (cwV 0 hts gX7_judge_X7_layTrial rfl rfl rfl (by decide +kernel) ⟨Nat.le_of_ble_eq_true rfl, Nat.le_of_ble_eq_true rfl⟩) (va_recv hK hP (ci := 7) (q0 := 0) rfl rfl) rfl hl.1 rfl (Nat.le_of_ble_eq_true rfl) dX7_judge_30 (fun H locs hw => ?_)
      obtain ⟨hP, hD, hS⟩ := hw
      have hP : va_P (dC, dI) classes (ul_wM cI cZ aM u6 d) H := hP
      have hD : va_D A (ul_wM cI cZ aM u6 d) := hD
      refine lv_iconst (v := 0) hx hb dX7_judge_33 (by decide) ?_
      refine lv_istore (lv' := [(4, .int (0 : Int32)), (0, .ref (aM 0)), (1, .int p1), (2, .long p2)]) hx hb dX7_judge_34 hl (by decide) rfl (fun ls hl => ?_)
      refine ge _ _ _ (ul_loop (P := fun q36 => ∀ (H : Heap) (locs : List Loc), ul_H (dC, dI) A s.heap (ul_wM cI cZ aM q36.2 d) H locs → ∀ ls : Array Slot, lv_has ls 6 [(0, .ref (aM 0)), (1, .int p1), (2, .long p2), (4, .int q36.1)] → G H locs (F0 m 36 ls [])) ?_ _ _ (ul_it_h h) H locs ⟨hP, hD, hS⟩ ls (lv_sub hl [1, 2, 3, 0] rfl))
      intro K36 hx36
      intro q36 ih36 h H locs hw ls hl
      obtain ⟨hP, hD, hS⟩ := hw
      unfold f_X7_judge_L36 at h
      refine gi _ _ _ ?_
      refine lv_iload hx hb dX7_judge_36 (lv_at hl 3 rfl) ?_
      refine lv_iload_n hx hb dX7_judge_38 rfl (lv_at hl 1 rfl) ?_
      refine lv_icmp_ge (tgt := 94) hx hb dX7_judge_39 (by decide) (fun hc14 => ?_) (fun hc14 => ?_)
      · have h := ul_if_t hc14 h
        exact ge _ _ _ (J94 q36.1 q36.2 H locs ⟨hP, hD, hS⟩ ls (lv_sub hl [0, 1, 2, 3] rfl) (hx36 (.inr (q36.1, q36.2)) h))
      · have h := ul_if_f hc14 h
        refine lv_lload_n hx hb dX7_judge_42 rfl (lv_at hl 2 rfl) ?_
        refine lv_iload_n hx hb dX7_judge_43 rfl (lv_at hl 1 rfl) ?_
        refine lv_iconst (v := 1) hx hb dX7_judge_44 (by decide) ?_
        refine lv_isub hx hb dX7_judge_45 ?_
        refine lv_iload hx hb dX7_judge_46 (lv_at hl 3 rfl) ?_
        refine lv_isub hx hb dX7_judge_48 ?_
        obtain ⟨u15, hu15, h⟩ := ul_cl_h h
        refine ul_cSl (As := [.int ((p1 - (1 : Int32)) - q36.1)]) (rest := [.long p2]) hP hD hS hK hA (c_X7_thousandTo l dC dI H.size ((p1 - (1 : Int32)) - q36.1) u15 hu15) ⟨hx, hb, hml, hown, hts⟩ (cwS 1 hts gX7_judge_X7_thousandTo rfl rfl rfl (by decide +kernel) ⟨Nat.le_of_ble_eq_true rfl, Nat.le_of_ble_eq_true rfl⟩) rfl hl.1 rfl (Nat.le_of_ble_eq_true rfl) dX7_judge_49 (fun H locs hw => ?_)
        obtain ⟨hP, hD, hS⟩ := hw
        obtain ⟨hz16, h⟩ := ul_nzl_h h
        refine lv_ldiv hx hb dX7_judge_52 hz16 ?_
        refine lv_ldc2 (v := 1000) hx hb hown (hts (.constantLong RX7 173 (1000)) (by decide +kernel)) dX7_judge_53 ?_
        refine lv_lrem hx hb dX7_judge_56 (by decide) ?_
        refine lv_l2i hx hb dX7_judge_57 rfl ?_
        refine lv_topi (fun v17 ev17 => ?_)
        have h := ul_bd_h h v17 ev17
        refine lv_istore (lv' := [(5, .int v17), (0, .ref (aM 0)), (1, .int p1), (2, .long p2), (4, .int q36.1)]) hx hb dX7_judge_58 hl (by decide) rfl (fun ls hl => ?_)
        refine lv_aload_n hx hb dX7_judge_60 rfl (lv_at hl 1 rfl) ?_
        refine lv_iload hx hb dX7_judge_61 (lv_at hl 0 rfl) ?_
        refine lv_bipush (v := 100) hx hb dX7_judge_63 (by decide) ?_
        refine lv_idiv hx hb dX7_judge_65 (by decide) ?_
        refine lv_iload hx hb dX7_judge_66 (lv_at hl 0 rfl) ?_
        refine lv_bipush (v := 10) hx hb dX7_judge_68 (by decide) ?_
        refine lv_idiv hx hb dX7_judge_70 (by decide) ?_
        refine lv_bipush (v := 10) hx hb dX7_judge_71 (by decide) ?_
        refine lv_irem hx hb dX7_judge_73 (by decide) ?_
        refine lv_iload hx hb dX7_judge_74 (lv_at hl 0 rfl) ?_
        refine lv_bipush (v := 10) hx hb dX7_judge_76 (by decide) ?_
        refine lv_irem hx hb dX7_judge_78 (by decide) ?_
        obtain ⟨u18, hu18, h⟩ := ul_cl_h h
        refine ul_cVi (As := [.int (v17 / (100 : Int32)), .int ((v17 / (10 : Int32)) - (v17 / (10 : Int32)) / (10 : Int32) * (10 : Int32)), .int (v17 - v17 / (10 : Int32) * (10 : Int32))]) (rest := []) (wc' := (ul_wM cI cZ aM u18.2 d)) (wr := []) hP hD hS hK hA [0, 1, 2, 3, 4, 5, 6, 7, 8, 9, 10, 11, 12, 13, 14] [] [0, 1] ul_N0_ok trivial (c_X7_tryThing l dC dI cI cZ aM H.size q36.2 d (v17 / (100 : Int32)) ((v17 / (10 : Int32)) - (v17 / (10 : Int32)) / (10 : Int32) * (10 : Int32)) (v17 - v17 / (10 : Int32) * (10 : Int32)) u18 hu18) rfl rfl (by decide) rfl (by decide) (by decide) rfl ⟨hx, hb, hml, hown, hts⟩ (cwV 3 hts gX7_judge_X7_tryThing rfl rfl rfl (by decide +kernel) ⟨Nat.le_of_ble_eq_true rfl, Nat.le_of_ble_eq_true rfl⟩) (va_recv hK hP (ci := 7) (q0 := 0) rfl rfl) rfl hl.1 rfl (Nat.le_of_ble_eq_true rfl) dX7_judge_79 (fun H locs hw => ?_)
        obtain ⟨hP, hD, hS⟩ := hw
        have hP : va_P (dC, dI) classes (ul_wM cI cZ aM u18.2 d) H := hP
        have hD : va_D A (ul_wM cI cZ aM u18.2 d) := hD
        refine lv_if_ne (tgt := 88) hx hb dX7_judge_82 (by decide) (fun hc19 => ?_) (fun hc19 => ?_)
        · have h := ul_if_f hc19 h
          obtain ⟨v20, ev20⟩ : ∃ z : Int32, z = q36.1 + 1 := ⟨_, rfl⟩
          have h := ul_bd_h h v20 ev20
          refine lv_iinc (v := v20) (lv' := [(4, .int v20), (5, .int v17), (0, .ref (aM 0)), (1, .int p1), (2, .long p2)]) hx hb dX7_judge_88 hl (k := 4) rfl (by rw [ev20]; rfl) (by decide) rfl (fun ls hl => ?_)
          refine lv_goto (tgt := 36) hx hb dX7_judge_91 (by decide) ?_
          exact ge _ _ _ (ih36 (v20, u18.2) h H locs ⟨hP, hD, hS⟩ ls (lv_sub hl [2, 3, 4, 0] rfl))
        · have h := ul_if_t hc19 h
          refine lv_iload hx hb dX7_judge_85 (lv_at hl 4 rfl) ?_
          have hr9 := hK0 (q36.1, u18.2) (hx36 (.inl (q36.1, u18.2)) h)
          subst hr9
          exact W.iret (v := q36.1) hx hb hr (fun t ht hW => ⟨⟨q36.1, (), rfl, rfl, by rw [ht]; exact hP, va_K.moved hW.alike hK, hD⟩, hS.F ht⟩) hS.2.2 dX7_judge_87
    · have h := ul_if_t hc5 h
      refine lv_bipush (v := -2) hx hb dX7_judge_26 (by decide) ?_
      have hr9 := hK0 ((-2 : Int32), M) h
      subst hr9
      exact W.iret (v := (-2 : Int32)) hx hb hr (fun t ht hW => ⟨⟨(-2 : Int32), (), rfl, rfl, by rw [ht]; exact hP, va_K.moved hW.alike hK, hD⟩, hS.F ht⟩) hS.2.2 dX7_judge_28
def f_X7_see (M : ul_S) (p1 : Int32) (p2 : Int32) : Option (Int32 × ul_S) :=
  (f_X7_in p1.toInt64 (0 : Int64) (20 : Int64)).bind fun u1 => if u1 = 0 then (some ((-2 : Int32), M)) else ((f_X7_in p2.toInt64 (0 : Int64) p1.toInt64).bind fun u3 => if u3 = 0 then (some ((-2 : Int32), M)) else (if (M 0 10) = (6 : Int32) then (some ((-4 : Int32), M)) else (ul_st M 11 6 (M 0 10) p1 fun M6 => ul_st M6 12 6 (M6 0 10) p2 fun M8 => ul_bd ((M8 0 10) + (1 : Int32)) fun v10 => ul_bd (ul_up M8 0 10 v10) fun M11 => some ((M11 0 10), M11))))
set_option maxHeartbeats 4000000 in
set_option maxRecDepth 100000 in
theorem c_X7_see (l : Launch) (dC : Nat → ClassId) (dI : Nat → Nat → Nat) (cI : ClassId) (cZ : ClassId) (aM : Nat → Nat) (sz : Nat) (M : ul_S) (d : Int64) (p1 : Int32) (p2 : Int32) (r : (Int32 × ul_S)) (h : f_X7_see M p1 p2 = some r) : Met l yX7_see wsX7_see ({ frames := 1, cells := 0, slots := 0, locals := 25 }) (va_Pc [.ref (aM 0), .int p1, .int p2] (ul_pre (dC, dI) [(cI, .int), (cZ, .boolean)] ul_N0 sz (ul_wM cI cZ aM M d))) (va_Qi (fun v (_ : Unit) => v = r.1) (fun _ => ul_post (dC, dI) [(cI, .int), (cZ, .boolean)] (va_A (ul_wM cI cZ aM M d) sz) (ul_wM cI cZ aM r.2 d)) (va_A (ul_wM cI cZ aM M d) sz)) 0 0 (va_A (ul_wM cI cZ aM M d) sz) := by
  refine Met.ofW (cc := cX7_see) (maxL := 3) (ret := (some .int)) (by decide) rfl ?_
  intro p e s m args below meth c s₁ B hml hv
  obtain ⟨rfl, hsz, hP, hK, hD0, hN⟩ := hv
  have hx := B.exec
  have hb := B.bytes
  have hr := B.returns
  have hts := atoms_spec (ws := wsX7_see) B.pre
  have hown : s.vm.findClass RX7 = some m.cls := findClass_of_methodNamed B.named
  have hlocks := B.notSynchronized
  have hin7 : ∀ w ∈ u_ws RX7 TX7 26, w ∈ wsX7_see := by decide +kernel
  subst hsz
  have hD := hD0.self (sz := s.heap.size)
  generalize hAe : va_A (ul_wM cI cZ aM M d) s.heap.size = A at hD ⊢
  have hA : ∀ q : Nat, s.heap.size ≤ q → A q := fun q h => by rw [← hAe]; exact Or.inr h
  have hS : va_S A s.heap s.heap [] := va_S.rf
  have hl := lv_entry ([.ref (aM 0), .int p1, .int p2]) (n := 3) (Nat.le_of_ble_eq_true rfl)
  rw [lg_entry_eq]
  generalize (lg_sl ([.ref (aM 0), .int p1, .int p2]) ++ List.replicate (3 - (lg_sl ([.ref (aM 0), .int p1, .int p2])).length) Slot.unset).toArray = ls at hl ⊢
  have hl : lv_has ls 3 [(0, .ref (aM 0)), (1, .int p1), (2, .int p2)] := hl
  obtain ⟨K0, hK0, h⟩ := ul_top h
  unfold f_X7_see at h
  refine ul_gen (fun G gi ge => ?_)
  obtain ⟨H, eH⟩ : ∃ z, z = s.heap := ⟨_, rfl⟩
  obtain ⟨locs, eL⟩ : ∃ z : List Loc, z = [] := ⟨_, rfl⟩
  have hP : va_P (dC, dI) classes (ul_wM cI cZ aM M d) H := by rw [eH]; exact hP
  have hS : va_S A s.heap H locs := by rw [eH, eL]; exact hS
  rw [← eL]
  refine (show G H locs (F0 m 0 ls []) → G s.heap locs (F0 m 0 ls []) from fun z => by rw [← eH]; exact z) ?_
  refine gi _ _ _ ?_
  refine lv_iload_n hx hb dX7_see_0 rfl (lv_at hl 1 rfl) ?_
  refine lv_i2l hx hb dX7_see_1 rfl ?_
  refine lv_lconst (v := 0) hx hb dX7_see_2 (by decide) ?_
  refine lv_ldc2 (v := 20) hx hb hown (hts (.constantLong RX7 159 (20)) (by decide +kernel)) dX7_see_3 ?_
  obtain ⟨u1, hu1, h⟩ := ul_cl_h h
  refine ul_cSi (As := [.long p1.toInt64, .long (0 : Int64), .long (20 : Int64)]) (rest := []) hP hD hS hK hA (c_X7_in l dC dI H.size p1.toInt64 (0 : Int64) (20 : Int64) u1 hu1) ⟨hx, hb, hml, hown, hts⟩ (cwS 3 hts gX7_see_X7_in rfl rfl rfl (by decide +kernel) ⟨Nat.le_of_ble_eq_true rfl, Nat.le_of_ble_eq_true rfl⟩) rfl hl.1 rfl (Nat.le_of_ble_eq_true rfl) dX7_see_6 (fun H locs hw => ?_)
  obtain ⟨hP, hD, hS⟩ := hw
  refine lv_if_eq (tgt := 23) hx hb dX7_see_9 (by decide) (fun hc2 => ?_) (fun hc2 => ?_)
  · have h := ul_if_t hc2 h
    refine lv_bipush (v := -2) hx hb dX7_see_23 (by decide) ?_
    have hr9 := hK0 ((-2 : Int32), M) h
    subst hr9
    exact W.iret (v := (-2 : Int32)) hx hb hr (fun t ht hW => ⟨⟨(-2 : Int32), (), rfl, rfl, by rw [ht]; exact hP, va_K.moved hW.alike hK, hD⟩, hS.F ht⟩) hS.2.2 dX7_see_25
  · have h := ul_if_f hc2 h
    refine lv_iload_n hx hb dX7_see_12 rfl (lv_at hl 2 rfl) ?_
    refine lv_i2l hx hb dX7_see_13 rfl ?_
    refine lv_lconst (v := 0) hx hb dX7_see_14 (by decide) ?_
    refine lv_iload_n hx hb dX7_see_15 rfl (lv_at hl 1 rfl) ?_
    refine lv_i2l hx hb dX7_see_16 rfl ?_
    obtain ⟨u3, hu3, h⟩ := ul_cl_h h
    refine ul_cSi (As := [.long p2.toInt64, .long (0 : Int64), .long p1.toInt64]) (rest := []) hP hD hS hK hA (c_X7_in l dC dI H.size p2.toInt64 (0 : Int64) p1.toInt64 u3 hu3) ⟨hx, hb, hml, hown, hts⟩ (cwS 3 hts gX7_see_X7_in rfl rfl rfl (by decide +kernel) ⟨Nat.le_of_ble_eq_true rfl, Nat.le_of_ble_eq_true rfl⟩) rfl hl.1 rfl (Nat.le_of_ble_eq_true rfl) dX7_see_17 (fun H locs hw => ?_)
    obtain ⟨hP, hD, hS⟩ := hw
    refine lv_if_ne (tgt := 26) hx hb dX7_see_20 (by decide) (fun hc4 => ?_) (fun hc4 => ?_)
    · have h := ul_if_f hc4 h
      refine lv_aload_n hx hb dX7_see_26 rfl (lv_at hl 0 rfl) ?_
      refine va_get (D := (dC, dI)) (ci := 7) (v := .int (M 0 10)) (C := RX7) (T := TX7) (N := 26) hx hb hts hin7 hown hK hP 0 rfl rfl 20 (by decide) (hts (.fieldLink RX7 184 "UnderLaddersModel" "seen" "I") (by decide +kernel)) (fun _ h9 => h9) rfl dX7_see_27 ?_
      refine lv_bipush (v := 6) hx hb dX7_see_30 (by decide) ?_
      refine lv_icmp_ne (tgt := 38) hx hb dX7_see_32 (by decide) (fun hc5 => ?_) (fun hc5 => ?_)
      · have h := ul_if_f hc5 h
        refine lv_aload_n hx hb dX7_see_38 rfl (lv_at hl 0 rfl) ?_
        refine va_get (D := (dC, dI)) (ci := 7) (v := .ref (aM 11)) (C := RX7) (T := TX7) (N := 26) hx hb hts hin7 hown hK hP 0 rfl rfl 21 (by decide) (hts (.fieldLink RX7 40 "UnderLaddersModel" "seenAhead" "[I") (by decide +kernel)) (fun _ h9 => h9) rfl dX7_see_39 ?_
        refine lv_aload_n hx hb dX7_see_42 rfl (lv_at hl 0 rfl) ?_
        refine va_get (D := (dC, dI)) (ci := 7) (v := .int (M 0 10)) (C := RX7) (T := TX7) (N := 26) hx hb hts hin7 hown hK hP 0 rfl rfl 20 (by decide) (hts (.fieldLink RX7 184 "UnderLaddersModel" "seen" "I") (by decide +kernel)) (fun _ h9 => h9) rfl dX7_see_43 ?_
        refine lv_iload_n hx hb dX7_see_46 rfl (lv_at hl 1 rfl) ?_
        obtain ⟨hi7, h⟩ := ul_st_h h
        refine va_iast hx hb hK hP hD hS 11 0 rfl rfl hi7 dX7_see_47 (fun H locs hP hD hS => ?_)
        obtain ⟨M6, eM6⟩ : ∃ z : ul_S, z = ul_up M 11 (M 0 10).toNatClampNeg p1 := ⟨_, rfl⟩
        have h := h M6 eM6
        have hP : va_P (dC, dI) classes (ul_wM cI cZ aM M6 d) H := by rw [eM6]; exact hP
        have hD : va_D A (ul_wM cI cZ aM M6 d) := by rw [eM6]; exact hD
        refine lv_aload_n hx hb dX7_see_48 rfl (lv_at hl 0 rfl) ?_
        refine va_get (D := (dC, dI)) (ci := 7) (v := .ref (aM 12)) (C := RX7) (T := TX7) (N := 26) hx hb hts hin7 hown hK hP 0 rfl rfl 22 (by decide) (hts (.fieldLink RX7 43 "UnderLaddersModel" "seenBehind" "[I") (by decide +kernel)) (fun _ h9 => h9) rfl dX7_see_49 ?_
        refine lv_aload_n hx hb dX7_see_52 rfl (lv_at hl 0 rfl) ?_
        refine va_get (D := (dC, dI)) (ci := 7) (v := .int (M6 0 10)) (C := RX7) (T := TX7) (N := 26) hx hb hts hin7 hown hK hP 0 rfl rfl 20 (by decide) (hts (.fieldLink RX7 184 "UnderLaddersModel" "seen" "I") (by decide +kernel)) (fun _ h9 => h9) rfl dX7_see_53 ?_
        refine lv_iload_n hx hb dX7_see_56 rfl (lv_at hl 2 rfl) ?_
        obtain ⟨hi9, h⟩ := ul_st_h h
        refine va_iast hx hb hK hP hD hS 12 0 rfl rfl hi9 dX7_see_57 (fun H locs hP hD hS => ?_)
        obtain ⟨M8, eM8⟩ : ∃ z : ul_S, z = ul_up M6 12 (M6 0 10).toNatClampNeg p2 := ⟨_, rfl⟩
        have h := h M8 eM8
        have hP : va_P (dC, dI) classes (ul_wM cI cZ aM M8 d) H := by rw [eM8]; exact hP
        have hD : va_D A (ul_wM cI cZ aM M8 d) := by rw [eM8]; exact hD
        refine lv_aload_n hx hb dX7_see_58 rfl (lv_at hl 0 rfl) ?_
        refine lv_dup hx hb dX7_see_59 rfl ?_
        refine va_get (D := (dC, dI)) (ci := 7) (v := .int (M8 0 10)) (C := RX7) (T := TX7) (N := 26) hx hb hts hin7 hown hK hP 0 rfl rfl 20 (by decide) (hts (.fieldLink RX7 184 "UnderLaddersModel" "seen" "I") (by decide +kernel)) (fun _ h9 => h9) rfl dX7_see_60 ?_
        refine lv_iconst (v := 1) hx hb dX7_see_63 (by decide) ?_
        refine lv_iadd hx hb dX7_see_64 ?_
        refine lv_topi (fun v10 ev10 => ?_)
        have h := ul_bd_h h v10 ev10
        refine va_put (D := (dC, dI)) (ci := 7) (v := .int v10) (ty := .int) (C := RX7) (T := TX7) (N := 26) hx hb hts hin7 tyX7 tyX7_ok nmX7 hown hK hP hD hS 0 rfl rfl 20 (by decide) (hts (.fieldLink RX7 184 "UnderLaddersModel" "seen" "I") (by decide +kernel)) (fun _ h9 => h9) rfl (by decide +kernel) rfl rfl (Nat.le_of_ble_eq_true rfl) dX7_see_65 (fun H locs hP hD hS => ?_)
        obtain ⟨M11, eM11⟩ : ∃ z : ul_S, z = ul_up M8 0 10 v10 := ⟨_, rfl⟩
        have h := ul_bd_h h M11 eM11
        have hP : va_P (dC, dI) classes (ul_wM cI cZ aM M11 d) H := by rw [eM11]; exact hP
        have hD : va_D A (ul_wM cI cZ aM M11 d) := by rw [eM11]; exact hD
        refine lv_aload_n hx hb dX7_see_68 rfl (lv_at hl 0 rfl) ?_
        refine va_get (D := (dC, dI)) (ci := 7) (v := .int (M11 0 10)) (C := RX7) (T := TX7) (N := 26) hx hb hts hin7 hown hK hP 0 rfl rfl 20 (by decide) (hts (.fieldLink RX7 184 "UnderLaddersModel" "seen" "I") (by decide +kernel)) (fun _ h9 => h9) rfl dX7_see_69 ?_
        have hr9 := hK0 ((M11 0 10), M11) h
        subst hr9
        exact W.iret (v := (M11 0 10)) hx hb hr (fun t ht hW => ⟨⟨(M11 0 10), (), rfl, rfl, by rw [ht]; exact hP, va_K.moved hW.alike hK, hD⟩, hS.F ht⟩) hS.2.2 dX7_see_72
      · have h := ul_if_t hc5 h
        refine lv_bipush (v := -4) hx hb dX7_see_35 (by decide) ?_
        have hr9 := hK0 ((-4 : Int32), M) h
        subst hr9
        exact W.iret (v := (-4 : Int32)) hx hb hr (fun t ht hW => ⟨⟨(-4 : Int32), (), rfl, rfl, by rw [ht]; exact hP, va_K.moved hW.alike hK, hD⟩, hS.F ht⟩) hS.2.2 dX7_see_37
    · have h := ul_if_t hc4 h
      refine lv_bipush (v := -2) hx hb dX7_see_23 (by decide) ?_
      have hr9 := hK0 ((-2 : Int32), M) h
      subst hr9
      exact W.iret (v := (-2 : Int32)) hx hb hr (fun t ht hW => ⟨⟨(-2 : Int32), (), rfl, rfl, by rw [ht]; exact hP, va_K.moved hW.alike hK, hD⟩, hS.F ht⟩) hS.2.2 dX7_see_25
def f_X7_unsee (M : ul_S) : Option (Int32 × ul_S) :=
  ul_bd (M 0 10) fun v1 => ul_bd (ul_up M 0 10 (0 : Int32)) fun M2 => some (v1, M2)
set_option maxHeartbeats 4000000 in
set_option maxRecDepth 100000 in
theorem c_X7_unsee (l : Launch) (dC : Nat → ClassId) (dI : Nat → Nat → Nat) (cI : ClassId) (cZ : ClassId) (aM : Nat → Nat) (sz : Nat) (M : ul_S) (d : Int64) (r : (Int32 × ul_S)) (h : f_X7_unsee M = some r) : Met l yX7_unsee wsX7_unsee ({ frames := 0, cells := 0, slots := 0, locals := 0 }) (va_Pc [.ref (aM 0)] (ul_pre (dC, dI) [(cI, .int), (cZ, .boolean)] ul_N0 sz (ul_wM cI cZ aM M d))) (va_Qi (fun v (_ : Unit) => v = r.1) (fun _ => ul_post (dC, dI) [(cI, .int), (cZ, .boolean)] (va_A (ul_wM cI cZ aM M d) sz) (ul_wM cI cZ aM r.2 d)) (va_A (ul_wM cI cZ aM M d) sz)) 0 0 (va_A (ul_wM cI cZ aM M d) sz) := by
  refine Met.ofW (cc := cX7_unsee) (maxL := 2) (ret := (some .int)) (by decide) rfl ?_
  intro p e s m args below meth c s₁ B hml hv
  obtain ⟨rfl, hsz, hP, hK, hD0, hN⟩ := hv
  have hx := B.exec
  have hb := B.bytes
  have hr := B.returns
  have hts := atoms_spec (ws := wsX7_unsee) B.pre
  have hown : s.vm.findClass RX7 = some m.cls := findClass_of_methodNamed B.named
  have hlocks := B.notSynchronized
  have hin7 : ∀ w ∈ u_ws RX7 TX7 26, w ∈ wsX7_unsee := by decide +kernel
  subst hsz
  have hD := hD0.self (sz := s.heap.size)
  generalize hAe : va_A (ul_wM cI cZ aM M d) s.heap.size = A at hD ⊢
  have hA : ∀ q : Nat, s.heap.size ≤ q → A q := fun q h => by rw [← hAe]; exact Or.inr h
  have hS : va_S A s.heap s.heap [] := va_S.rf
  have hl := lv_entry ([.ref (aM 0)]) (n := 2) (Nat.le_of_ble_eq_true rfl)
  rw [lg_entry_eq]
  generalize (lg_sl ([.ref (aM 0)]) ++ List.replicate (2 - (lg_sl ([.ref (aM 0)])).length) Slot.unset).toArray = ls at hl ⊢
  have hl : lv_has ls 2 [(0, .ref (aM 0))] := hl
  obtain ⟨K0, hK0, h⟩ := ul_top h
  unfold f_X7_unsee at h
  refine ul_gen (fun G gi ge => ?_)
  obtain ⟨H, eH⟩ : ∃ z, z = s.heap := ⟨_, rfl⟩
  obtain ⟨locs, eL⟩ : ∃ z : List Loc, z = [] := ⟨_, rfl⟩
  have hP : va_P (dC, dI) classes (ul_wM cI cZ aM M d) H := by rw [eH]; exact hP
  have hS : va_S A s.heap H locs := by rw [eH, eL]; exact hS
  rw [← eL]
  refine (show G H locs (F0 m 0 ls []) → G s.heap locs (F0 m 0 ls []) from fun z => by rw [← eH]; exact z) ?_
  refine gi _ _ _ ?_
  refine lv_aload_n hx hb dX7_unsee_0 rfl (lv_at hl 0 rfl) ?_
  refine va_get (D := (dC, dI)) (ci := 7) (v := .int (M 0 10)) (C := RX7) (T := TX7) (N := 26) hx hb hts hin7 hown hK hP 0 rfl rfl 20 (by decide) (hts (.fieldLink RX7 184 "UnderLaddersModel" "seen" "I") (by decide +kernel)) (fun _ h9 => h9) rfl dX7_unsee_1 ?_
  refine lv_topi (fun v1 ev1 => ?_)
  have h := ul_bd_h h v1 ev1
  refine lv_istore_n (lv' := [(1, .int v1), (0, .ref (aM 0))]) hx hb dX7_unsee_4 rfl hl (by decide) rfl (fun ls hl => ?_)
  refine lv_aload_n hx hb dX7_unsee_5 rfl (lv_at hl 1 rfl) ?_
  refine lv_iconst (v := 0) hx hb dX7_unsee_6 (by decide) ?_
  refine va_put (D := (dC, dI)) (ci := 7) (v := .int (0 : Int32)) (ty := .int) (C := RX7) (T := TX7) (N := 26) hx hb hts hin7 tyX7 tyX7_ok nmX7 hown hK hP hD hS 0 rfl rfl 20 (by decide) (hts (.fieldLink RX7 184 "UnderLaddersModel" "seen" "I") (by decide +kernel)) (fun _ h9 => h9) rfl (by decide +kernel) rfl rfl (Nat.le_of_ble_eq_true rfl) dX7_unsee_7 (fun H locs hP hD hS => ?_)
  obtain ⟨M2, eM2⟩ : ∃ z : ul_S, z = ul_up M 0 10 (0 : Int32) := ⟨_, rfl⟩
  have h := ul_bd_h h M2 eM2
  have hP : va_P (dC, dI) classes (ul_wM cI cZ aM M2 d) H := by rw [eM2]; exact hP
  have hD : va_D A (ul_wM cI cZ aM M2 d) := by rw [eM2]; exact hD
  refine lv_iload_n hx hb dX7_unsee_10 rfl (lv_at hl 0 rfl) ?_
  have hr9 := hK0 (v1, M2) h
  subst hr9
  exact W.iret (v := v1) hx hb hr (fun t ht hW => ⟨⟨v1, (), rfl, rfl, by rw [ht]; exact hP, va_K.moved hW.alike hK, hD⟩, hS.F ht⟩) hS.2.2 dX7_unsee_11
def f_X7_mayBe_j60 (M : ul_S) (p1 : Int32) (p2 : Int32) (x3 : Int32) (x4 : Int32) : Option Int32 :=
  ul_zb x3 (some x3)
def f_X7_mayBe_j53 (M : ul_S) (p1 : Int32) (p2 : Int32) (x3 : Int32) (x4 : Int32) (t0 : Int32) : Option ((Int32 × Int32) ⊕ (Int32 × Int32)) :=
  ul_bd (x4 + 1) fun v3 => some (.inr (t0, v3))
def f_X7_mayBe_j52 (M : ul_S) (p1 : Int32) (p2 : Int32) (x3 : Int32) (x4 : Int32) : Option ((Int32 × Int32) ⊕ (Int32 × Int32)) :=
  f_X7_mayBe_j53 M p1 p2 x3 x4 (0 : Int32)
def f_X7_mayBe_L5 (M : ul_S) (p1 : Int32) (p2 : Int32) (q5 : (Int32 × Int32)) : Option ((Int32 × Int32) ⊕ (Int32 × Int32)) :=
  if (M 0 10) ≤ q5.2 then (some (.inl (q5.1, q5.2))) else (if q5.1 = 0 then (f_X7_mayBe_j52 M p1 p2 q5.1 q5.2) else (ul_ld (M 11) 6 q5.2 fun v7 => ul_ld (M 11) 6 q5.2 fun v9 => (f_X7_takes p1 p2 v9).bind fun u11 => ul_ld (M 12) 6 q5.2 fun v12 => if (v7 - u11) = v12 then (f_X7_mayBe_j53 M p1 p2 q5.1 q5.2 (1 : Int32)) else (f_X7_mayBe_j52 M p1 p2 q5.1 q5.2)))
def f_X7_mayBe (M : ul_S) (p1 : Int32) (p2 : Int32) : Option Int32 :=
  (ul_it ul_N (f_X7_mayBe_L5 M p1 p2) ((1 : Int32), (0 : Int32))).bind (fun e5 => f_X7_mayBe_j60 M p1 p2 e5.1 e5.2)
set_option maxHeartbeats 4000000 in
set_option maxRecDepth 100000 in
theorem c_X7_mayBe (l : Launch) (dC : Nat → ClassId) (dI : Nat → Nat → Nat) (cI : ClassId) (cZ : ClassId) (aM : Nat → Nat) (sz : Nat) (M : ul_S) (d : Int64) (p1 : Int32) (p2 : Int32) (r : Int32) (h : f_X7_mayBe M p1 p2 = some r) : Met l yX7_mayBe wsX7_mayBe ({ frames := 2, cells := 0, slots := 0, locals := 43 }) (va_Pc [.ref (aM 0), .int p1, .int p2] (ul_pre (dC, dI) [(cI, .int), (cZ, .boolean)] ul_N0 sz (ul_wM cI cZ aM M d))) (va_Qi (fun v (_ : Unit) => v = r) (fun _ => ul_post (dC, dI) [(cI, .int), (cZ, .boolean)] (va_A (ul_wM cI cZ aM M d) sz) (ul_wM cI cZ aM M d)) (va_A (ul_wM cI cZ aM M d) sz)) 0 0 (va_A (ul_wM cI cZ aM M d) sz) := by
  refine Met.ofW (cc := cX7_mayBe) (maxL := 5) (ret := (some .boolean)) (by decide) rfl ?_
  intro p e s m args below meth c s₁ B hml hv
  obtain ⟨rfl, hsz, hP, hK, hD0, hN⟩ := hv
  have hx := B.exec
  have hb := B.bytes
  have hr := B.returns
  have hts := atoms_spec (ws := wsX7_mayBe) B.pre
  have hown : s.vm.findClass RX7 = some m.cls := findClass_of_methodNamed B.named
  have hlocks := B.notSynchronized
  have hin7 : ∀ w ∈ u_ws RX7 TX7 26, w ∈ wsX7_mayBe := by decide +kernel
  subst hsz
  have hD := hD0.self (sz := s.heap.size)
  generalize hAe : va_A (ul_wM cI cZ aM M d) s.heap.size = A at hD ⊢
  have hA : ∀ q : Nat, s.heap.size ≤ q → A q := fun q h => by rw [← hAe]; exact Or.inr h
  have hS : va_S A s.heap s.heap [] := va_S.rf
  have hl := lv_entry ([.ref (aM 0), .int p1, .int p2]) (n := 5) (Nat.le_of_ble_eq_true rfl)
  rw [lg_entry_eq]
  generalize (lg_sl ([.ref (aM 0), .int p1, .int p2]) ++ List.replicate (5 - (lg_sl ([.ref (aM 0), .int p1, .int p2])).length) Slot.unset).toArray = ls at hl ⊢
  have hl : lv_has ls 5 [(0, .ref (aM 0)), (1, .int p1), (2, .int p2)] := hl
  obtain ⟨K0, hK0, h⟩ := ul_top h
  unfold f_X7_mayBe at h
  refine ul_gen (fun G gi ge => ?_)
  obtain ⟨H, eH⟩ : ∃ z, z = s.heap := ⟨_, rfl⟩
  obtain ⟨locs, eL⟩ : ∃ z : List Loc, z = [] := ⟨_, rfl⟩
  have hP : va_P (dC, dI) classes (ul_wM cI cZ aM M d) H := by rw [eH]; exact hP
  have hS : va_S A s.heap H locs := by rw [eH, eL]; exact hS
  rw [← eL]
  refine (show G H locs (F0 m 0 ls []) → G s.heap locs (F0 m 0 ls []) from fun z => by rw [← eH]; exact z) ?_
  have J60 : ∀ (x3 : Int32) (x4 : Int32) (H : Heap) (locs : List Loc), ul_H (dC, dI) A s.heap (ul_wM cI cZ aM M d) H locs → ∀ ls : Array Slot, lv_has ls 5 [(0, .ref (aM 0)), (1, .int p1), (2, .int p2), (3, .int x3), (4, .int x4)] → (f_X7_mayBe_j60 M p1 p2 x3 x4).bind K0 = some r → G H locs (F0 m 60 ls []) := by
    intro x3 x4 H locs hw ls hl h
    obtain ⟨hP, hD, hS⟩ := hw
    unfold f_X7_mayBe_j60 at h
    refine gi _ _ _ ?_
    refine lv_iload_n hx hb dX7_mayBe_60 rfl (lv_at hl 3 rfl) ?_
    obtain ⟨hz2, h⟩ := ul_zb_h h
    have hr9 := hK0 x3 h
    subst hr9
    exact W.zret (v := x3) hx hb hr hz2 (fun t ht hW => ⟨⟨x3, (), rfl, rfl, by rw [ht]; exact hP, va_K.moved hW.alike hK, hD⟩, hS.F ht⟩) hS.2.2 dX7_mayBe_61
  refine gi _ _ _ ?_
  refine lv_iconst (v := 1) hx hb dX7_mayBe_0 (by decide) ?_
  refine lv_istore_n (lv' := [(3, .int (1 : Int32)), (0, .ref (aM 0)), (1, .int p1), (2, .int p2)]) hx hb dX7_mayBe_1 rfl hl (by decide) rfl (fun ls hl => ?_)
  refine lv_iconst (v := 0) hx hb dX7_mayBe_2 (by decide) ?_
  refine lv_istore (lv' := [(4, .int (0 : Int32)), (3, .int (1 : Int32)), (0, .ref (aM 0)), (1, .int p1), (2, .int p2)]) hx hb dX7_mayBe_3 hl (by decide) rfl (fun ls hl => ?_)
  refine ge _ _ _ (ul_loop (P := fun q5 => ∀ (H : Heap) (locs : List Loc), ul_H (dC, dI) A s.heap (ul_wM cI cZ aM M d) H locs → ∀ ls : Array Slot, lv_has ls 5 [(0, .ref (aM 0)), (1, .int p1), (2, .int p2), (3, .int q5.1), (4, .int q5.2)] → G H locs (F0 m 5 ls [])) ?_ _ _ (ul_it_h h) H locs ⟨hP, hD, hS⟩ ls (lv_sub hl [2, 3, 4, 1, 0] rfl))
  intro K5 hx5
  intro q5 ih5 h H locs hw ls hl
  have J53 : ∀ (x3 : Int32) (x4 : Int32) (t0 : Int32) (H : Heap) (locs : List Loc), ul_H (dC, dI) A s.heap (ul_wM cI cZ aM M d) H locs → ∀ ls : Array Slot, lv_has ls 5 [(0, .ref (aM 0)), (1, .int p1), (2, .int p2), (3, .int x3), (4, .int x4)] → (f_X7_mayBe_j53 M p1 p2 x3 x4 t0).bind K5 = some r → G H locs (F0 m 53 ls [.int t0]) := by
    intro x3 x4 t0 H locs hw ls hl h
    obtain ⟨hP, hD, hS⟩ := hw
    unfold f_X7_mayBe_j53 at h
    refine gi _ _ _ ?_
    refine lv_istore_n (lv' := [(3, .int t0), (0, .ref (aM 0)), (1, .int p1), (2, .int p2), (4, .int x4)]) hx hb dX7_mayBe_53 rfl hl (by decide) rfl (fun ls hl => ?_)
    obtain ⟨v4, ev4⟩ : ∃ z : Int32, z = x4 + 1 := ⟨_, rfl⟩
    have h := ul_bd_h h v4 ev4
    refine lv_iinc (v := v4) (lv' := [(4, .int v4), (3, .int t0), (0, .ref (aM 0)), (1, .int p1), (2, .int p2)]) hx hb dX7_mayBe_54 hl (k := 4) rfl (by rw [ev4]; rfl) (by decide) rfl (fun ls hl => ?_)
    refine lv_goto (tgt := 5) hx hb dX7_mayBe_57 (by decide) ?_
    exact ge _ _ _ (ih5 (t0, v4) h H locs ⟨hP, hD, hS⟩ ls (lv_sub hl [2, 3, 4, 1, 0] rfl))
  have J52 : ∀ (x3 : Int32) (x4 : Int32) (H : Heap) (locs : List Loc), ul_H (dC, dI) A s.heap (ul_wM cI cZ aM M d) H locs → ∀ ls : Array Slot, lv_has ls 5 [(0, .ref (aM 0)), (1, .int p1), (2, .int p2), (3, .int x3), (4, .int x4)] → (f_X7_mayBe_j52 M p1 p2 x3 x4).bind K5 = some r → G H locs (F0 m 52 ls []) := by
    intro x3 x4 H locs hw ls hl h
    obtain ⟨hP, hD, hS⟩ := hw
    unfold f_X7_mayBe_j52 at h
    refine gi _ _ _ ?_
    refine lv_iconst (v := 0) hx hb dX7_mayBe_52 (by decide) ?_
    exact ge _ _ _ (J53 x3 x4 (0 : Int32) H locs ⟨hP, hD, hS⟩ ls (lv_sub hl [0, 1, 2, 3, 4] rfl) h)
  obtain ⟨hP, hD, hS⟩ := hw
  unfold f_X7_mayBe_L5 at h
  refine gi _ _ _ ?_
  refine lv_iload hx hb dX7_mayBe_5 (lv_at hl 4 rfl) ?_
  refine lv_aload_n hx hb dX7_mayBe_7 rfl (lv_at hl 0 rfl) ?_
  refine va_get (D := (dC, dI)) (ci := 7) (v := .int (M 0 10)) (C := RX7) (T := TX7) (N := 26) hx hb hts hin7 hown hK hP 0 rfl rfl 20 (by decide) (hts (.fieldLink RX7 184 "UnderLaddersModel" "seen" "I") (by decide +kernel)) (fun _ h9 => h9) rfl dX7_mayBe_8 ?_
  refine lv_icmp_ge (tgt := 60) hx hb dX7_mayBe_11 (by decide) (fun hc15 => ?_) (fun hc15 => ?_)
  · have h := ul_if_t hc15 h
    exact ge _ _ _ (J60 q5.1 q5.2 H locs ⟨hP, hD, hS⟩ ls (lv_sub hl [0, 1, 2, 3, 4] rfl) (hx5 (q5.1, q5.2) h))
  · have h := ul_if_f hc15 h
    refine lv_iload_n hx hb dX7_mayBe_14 rfl (lv_at hl 3 rfl) ?_
    refine lv_if_eq (tgt := 52) hx hb dX7_mayBe_15 (by decide) (fun hc16 => ?_) (fun hc16 => ?_)
    · have h := ul_if_t hc16 h
      exact ge _ _ _ (J52 q5.1 q5.2 H locs ⟨hP, hD, hS⟩ ls (lv_sub hl [0, 1, 2, 3, 4] rfl) h)
    · have h := ul_if_f hc16 h
      refine lv_aload_n hx hb dX7_mayBe_18 rfl (lv_at hl 0 rfl) ?_
      refine va_get (D := (dC, dI)) (ci := 7) (v := .ref (aM 11)) (C := RX7) (T := TX7) (N := 26) hx hb hts hin7 hown hK hP 0 rfl rfl 21 (by decide) (hts (.fieldLink RX7 40 "UnderLaddersModel" "seenAhead" "[I") (by decide +kernel)) (fun _ h9 => h9) rfl dX7_mayBe_19 ?_
      refine lv_iload hx hb dX7_mayBe_22 (lv_at hl 4 rfl) ?_
      obtain ⟨hi18, h⟩ := ul_ld_h h
      refine va_iald hx hb hK hP 11 0 rfl rfl hi18 dX7_mayBe_24 ?_
      refine lv_topi (fun v17 ev17 => ?_)
      have h := h v17 ev17
      refine lv_iload_n hx hb dX7_mayBe_25 rfl (lv_at hl 1 rfl) ?_
      refine lv_iload_n hx hb dX7_mayBe_26 rfl (lv_at hl 2 rfl) ?_
      refine lv_aload_n hx hb dX7_mayBe_27 rfl (lv_at hl 0 rfl) ?_
      refine va_get (D := (dC, dI)) (ci := 7) (v := .ref (aM 11)) (C := RX7) (T := TX7) (N := 26) hx hb hts hin7 hown hK hP 0 rfl rfl 21 (by decide) (hts (.fieldLink RX7 40 "UnderLaddersModel" "seenAhead" "[I") (by decide +kernel)) (fun _ h9 => h9) rfl dX7_mayBe_28 ?_
      refine lv_iload hx hb dX7_mayBe_31 (lv_at hl 4 rfl) ?_
      obtain ⟨hi20, h⟩ := ul_ld_h h
      refine va_iald hx hb hK hP 11 0 rfl rfl hi20 dX7_mayBe_33 ?_
      refine lv_topi (fun v19 ev19 => ?_)
      have h := h v19 ev19
      obtain ⟨u21, hu21, h⟩ := ul_cl_h h
      refine ul_cSi (As := [.int p1, .int p2, .int v19]) (rest := [.int v17]) hP hD hS hK hA (c_X7_takes l dC dI H.size p1 p2 v19 u21 hu21) ⟨hx, hb, hml, hown, hts⟩ (cwS 3 hts gX7_mayBe_X7_takes rfl rfl rfl (by decide +kernel) ⟨Nat.le_of_ble_eq_true rfl, Nat.le_of_ble_eq_true rfl⟩) rfl hl.1 rfl (Nat.le_of_ble_eq_true rfl) dX7_mayBe_34 (fun H locs hw => ?_)
      obtain ⟨hP, hD, hS⟩ := hw
      refine lv_isub hx hb dX7_mayBe_37 ?_
      refine lv_aload_n hx hb dX7_mayBe_38 rfl (lv_at hl 0 rfl) ?_
      refine va_get (D := (dC, dI)) (ci := 7) (v := .ref (aM 12)) (C := RX7) (T := TX7) (N := 26) hx hb hts hin7 hown hK hP 0 rfl rfl 22 (by decide) (hts (.fieldLink RX7 43 "UnderLaddersModel" "seenBehind" "[I") (by decide +kernel)) (fun _ h9 => h9) rfl dX7_mayBe_39 ?_
      refine lv_iload hx hb dX7_mayBe_42 (lv_at hl 4 rfl) ?_
      obtain ⟨hi23, h⟩ := ul_ld_h h
      refine va_iald hx hb hK hP 12 0 rfl rfl hi23 dX7_mayBe_44 ?_
      refine lv_topi (fun v22 ev22 => ?_)
      have h := h v22 ev22
      refine lv_icmp_ne (tgt := 52) hx hb dX7_mayBe_45 (by decide) (fun hc24 => ?_) (fun hc24 => ?_)
      · have h := ul_if_f hc24 h
        exact ge _ _ _ (J52 q5.1 q5.2 H locs ⟨hP, hD, hS⟩ ls (lv_sub hl [0, 1, 2, 3, 4] rfl) h)
      · have h := ul_if_t hc24 h
        refine lv_iconst (v := 1) hx hb dX7_mayBe_48 (by decide) ?_
        refine lv_goto (tgt := 53) hx hb dX7_mayBe_49 (by decide) ?_
        exact ge _ _ _ (J53 q5.1 q5.2 (1 : Int32) H locs ⟨hP, hD, hS⟩ ls (lv_sub hl [0, 1, 2, 3, 4] rfl) h)
def f_X7_may_j94 (M : ul_S) (p1 : Int32) (x2 : Int32) (x3 : Int32) (x4 : Int32) : Option Int32 :=
  if p1 = 0 then (some x2) else (some x3)
def f_X7_may_j88 (M : ul_S) (p1 : Int32) (x2 : Int32) (x3 : Int32) (x4 : Int32) (x5 : Int32) (x6 : Int32) : Option ((Int32 × Int32 × Int32) ⊕ (Int32 × Int32 × Int32)) :=
  ul_bd (x4 + 1) fun v5 => some (.inr (x2, x3, v5))
def f_X7_may_j84 (M : ul_S) (p1 : Int32) (x2 : Int32) (x3 : Int32) (x4 : Int32) (x5 : Int32) (x6 : Int32) (t0 : Int32) : Option ((Int32 × Int32 × Int32) ⊕ (Int32 × Int32 × Int32)) :=
  ul_bd (x2 + 1) fun v7 => f_X7_may_j88 M p1 v7 t0 x4 x5 x6
def f_X7_may_j46 (M : ul_S) (p1 : Int32) (x2 : Int32) (x3 : Int32) (x4 : Int32) (t0 : Int32) : Option ((Int32 × Int32 × Int32) ⊕ (Int32 × Int32 × Int32)) :=
  ul_bd ((1 : Int32) + (x4 - x4 / (9 : Int32) * (9 : Int32))) fun v9 => (f_X7_mayBe M t0 v9).bind fun u10 => if u10 = 0 then (f_X7_may_j88 M p1 x2 x3 x4 t0 v9) else (if x2 = 0 then (f_X7_may_j84 M p1 x2 x3 x4 t0 v9 (((10 : Int32) * t0) + v9)) else (f_X7_may_j84 M p1 x2 x3 x4 t0 v9 x3))
def f_X7_may_L21 (M : ul_S) (p1 : Int32) (q21 : (Int32 × Int32 × Int32)) : Option ((Int32 × Int32 × Int32) ⊕ (Int32 × Int32 × Int32)) :=
  if (27 : Int32) ≤ q21.2.2 then (some (.inl (q21.1, q21.2.1, q21.2.2))) else (if (q21.2.2 / (9 : Int32)) = (2 : Int32) then (f_X7_may_j46 M p1 q21.1 q21.2.1 q21.2.2 (3 : Int32)) else (f_X7_may_j46 M p1 q21.1 q21.2.1 q21.2.2 (q21.2.2 / (9 : Int32))))
def f_X7_may (M : ul_S) (p1 : Int32) : Option Int32 :=
  (f_X7_in p1.toInt64 (0 : Int64) (1 : Int64)).bind fun u3 => if u3 = 0 then (some (-2 : Int32)) else ((ul_it ul_N (f_X7_may_L21 M p1) ((0 : Int32), (-9 : Int32), (0 : Int32))).bind (fun e21 => f_X7_may_j94 M p1 e21.1 e21.2.1 e21.2.2))
set_option maxHeartbeats 4000000 in
set_option maxRecDepth 100000 in
theorem c_X7_may (l : Launch) (dC : Nat → ClassId) (dI : Nat → Nat → Nat) (cI : ClassId) (cZ : ClassId) (aM : Nat → Nat) (sz : Nat) (M : ul_S) (d : Int64) (p1 : Int32) (r : Int32) (h : f_X7_may M p1 = some r) : Met l yX7_may wsX7_may ({ frames := 3, cells := 0, slots := 0, locals := 67 }) (va_Pc [.ref (aM 0), .int p1] (ul_pre (dC, dI) [(cI, .int), (cZ, .boolean)] ul_N0 sz (ul_wM cI cZ aM M d))) (va_Qi (fun v (_ : Unit) => v = r) (fun _ => ul_post (dC, dI) [(cI, .int), (cZ, .boolean)] (va_A (ul_wM cI cZ aM M d) sz) (ul_wM cI cZ aM M d)) (va_A (ul_wM cI cZ aM M d) sz)) 0 0 (va_A (ul_wM cI cZ aM M d) sz) := by
  refine Met.ofW (cc := cX7_may) (maxL := 7) (ret := (some .int)) (by decide) rfl ?_
  intro p e s m args below meth c s₁ B hml hv
  obtain ⟨rfl, hsz, hP, hK, hD0, hN⟩ := hv
  have hx := B.exec
  have hb := B.bytes
  have hr := B.returns
  have hts := atoms_spec (ws := wsX7_may) B.pre
  have hown : s.vm.findClass RX7 = some m.cls := findClass_of_methodNamed B.named
  have hlocks := B.notSynchronized
  have hin7 : ∀ w ∈ u_ws RX7 TX7 26, w ∈ wsX7_may := by decide +kernel
  subst hsz
  have hD := hD0.self (sz := s.heap.size)
  generalize hAe : va_A (ul_wM cI cZ aM M d) s.heap.size = A at hD ⊢
  have hA : ∀ q : Nat, s.heap.size ≤ q → A q := fun q h => by rw [← hAe]; exact Or.inr h
  have hS : va_S A s.heap s.heap [] := va_S.rf
  have hl := lv_entry ([.ref (aM 0), .int p1]) (n := 7) (Nat.le_of_ble_eq_true rfl)
  rw [lg_entry_eq]
  generalize (lg_sl ([.ref (aM 0), .int p1]) ++ List.replicate (7 - (lg_sl ([.ref (aM 0), .int p1])).length) Slot.unset).toArray = ls at hl ⊢
  have hl : lv_has ls 7 [(0, .ref (aM 0)), (1, .int p1)] := hl
  obtain ⟨K0, hK0, h⟩ := ul_top h
  unfold f_X7_may at h
  refine ul_gen (fun G gi ge => ?_)
  obtain ⟨H, eH⟩ : ∃ z, z = s.heap := ⟨_, rfl⟩
  obtain ⟨locs, eL⟩ : ∃ z : List Loc, z = [] := ⟨_, rfl⟩
  have hP : va_P (dC, dI) classes (ul_wM cI cZ aM M d) H := by rw [eH]; exact hP
  have hS : va_S A s.heap H locs := by rw [eH, eL]; exact hS
  rw [← eL]
  refine (show G H locs (F0 m 0 ls []) → G s.heap locs (F0 m 0 ls []) from fun z => by rw [← eH]; exact z) ?_
  have J94 : ∀ (x2 : Int32) (x3 : Int32) (x4 : Int32) (H : Heap) (locs : List Loc), ul_H (dC, dI) A s.heap (ul_wM cI cZ aM M d) H locs → ∀ ls : Array Slot, lv_has ls 7 [(0, .ref (aM 0)), (1, .int p1), (2, .int x2), (3, .int x3), (4, .int x4)] → (f_X7_may_j94 M p1 x2 x3 x4).bind K0 = some r → G H locs (F0 m 94 ls []) := by
    intro x2 x3 x4 H locs hw ls hl h
    obtain ⟨hP, hD, hS⟩ := hw
    unfold f_X7_may_j94 at h
    refine gi _ _ _ ?_
    refine lv_iload_n hx hb dX7_may_94 rfl (lv_at hl 1 rfl) ?_
    refine lv_if_ne (tgt := 102) hx hb dX7_may_95 (by decide) (fun hc2 => ?_) (fun hc2 => ?_)
    · have h := ul_if_f hc2 h
      refine lv_iload_n hx hb dX7_may_102 rfl (lv_at hl 3 rfl) ?_
      have hr9 := hK0 x3 h
      subst hr9
      exact W.iret (v := x3) hx hb hr (fun t ht hW => ⟨⟨x3, (), rfl, rfl, by rw [ht]; exact hP, va_K.moved hW.alike hK, hD⟩, hS.F ht⟩) hS.2.2 dX7_may_103
    · have h := ul_if_t hc2 h
      refine lv_iload_n hx hb dX7_may_98 rfl (lv_at hl 2 rfl) ?_
      refine lv_goto (tgt := 103) hx hb dX7_may_99 (by decide) ?_
      have hr9 := hK0 x2 h
      subst hr9
      exact W.iret (v := x2) hx hb hr (fun t ht hW => ⟨⟨x2, (), rfl, rfl, by rw [ht]; exact hP, va_K.moved hW.alike hK, hD⟩, hS.F ht⟩) hS.2.2 dX7_may_103
  refine gi _ _ _ ?_
  refine lv_iload_n hx hb dX7_may_0 rfl (lv_at hl 1 rfl) ?_
  refine lv_i2l hx hb dX7_may_1 rfl ?_
  refine lv_lconst (v := 0) hx hb dX7_may_2 (by decide) ?_
  refine lv_lconst (v := 1) hx hb dX7_may_3 (by decide) ?_
  obtain ⟨u3, hu3, h⟩ := ul_cl_h h
  refine ul_cSi (As := [.long p1.toInt64, .long (0 : Int64), .long (1 : Int64)]) (rest := []) hP hD hS hK hA (c_X7_in l dC dI H.size p1.toInt64 (0 : Int64) (1 : Int64) u3 hu3) ⟨hx, hb, hml, hown, hts⟩ (cwS 3 hts gX7_may_X7_in rfl rfl rfl (by decide +kernel) ⟨Nat.le_of_ble_eq_true rfl, Nat.le_of_ble_eq_true rfl⟩) rfl hl.1 rfl (Nat.le_of_ble_eq_true rfl) dX7_may_4 (fun H locs hw => ?_)
  obtain ⟨hP, hD, hS⟩ := hw
  refine lv_if_ne (tgt := 13) hx hb dX7_may_7 (by decide) (fun hc4 => ?_) (fun hc4 => ?_)
  · have h := ul_if_f hc4 h
    refine lv_iconst (v := 0) hx hb dX7_may_13 (by decide) ?_
    refine lv_istore_n (lv' := [(2, .int (0 : Int32)), (0, .ref (aM 0)), (1, .int p1)]) hx hb dX7_may_14 rfl hl (by decide) rfl (fun ls hl => ?_)
    refine lv_bipush (v := -9) hx hb dX7_may_15 (by decide) ?_
    refine lv_istore_n (lv' := [(3, .int (-9 : Int32)), (2, .int (0 : Int32)), (0, .ref (aM 0)), (1, .int p1)]) hx hb dX7_may_17 rfl hl (by decide) rfl (fun ls hl => ?_)
    refine lv_iconst (v := 0) hx hb dX7_may_18 (by decide) ?_
    refine lv_istore (lv' := [(4, .int (0 : Int32)), (3, .int (-9 : Int32)), (2, .int (0 : Int32)), (0, .ref (aM 0)), (1, .int p1)]) hx hb dX7_may_19 hl (by decide) rfl (fun ls hl => ?_)
    refine ge _ _ _ (ul_loop (P := fun q21 => ∀ (H : Heap) (locs : List Loc), ul_H (dC, dI) A s.heap (ul_wM cI cZ aM M d) H locs → ∀ ls : Array Slot, lv_has ls 7 [(0, .ref (aM 0)), (1, .int p1), (2, .int q21.1), (3, .int q21.2.1), (4, .int q21.2.2)] → G H locs (F0 m 21 ls [])) ?_ _ _ (ul_it_h h) H locs ⟨hP, hD, hS⟩ ls (lv_sub hl [3, 4, 2, 1, 0] rfl))
    intro K21 hx21
    intro q21 ih21 h H locs hw ls hl
    have J88 : ∀ (x2 : Int32) (x3 : Int32) (x4 : Int32) (x5 : Int32) (x6 : Int32) (H : Heap) (locs : List Loc), ul_H (dC, dI) A s.heap (ul_wM cI cZ aM M d) H locs → ∀ ls : Array Slot, lv_has ls 7 [(0, .ref (aM 0)), (1, .int p1), (2, .int x2), (3, .int x3), (4, .int x4), (5, .int x5), (6, .int x6)] → (f_X7_may_j88 M p1 x2 x3 x4 x5 x6).bind K21 = some r → G H locs (F0 m 88 ls []) := by
      intro x2 x3 x4 x5 x6 H locs hw ls hl h
      obtain ⟨hP, hD, hS⟩ := hw
      unfold f_X7_may_j88 at h
      refine gi _ _ _ ?_
      obtain ⟨v6, ev6⟩ : ∃ z : Int32, z = x4 + 1 := ⟨_, rfl⟩
      have h := ul_bd_h h v6 ev6
      refine lv_iinc (v := v6) (lv' := [(4, .int v6), (0, .ref (aM 0)), (1, .int p1), (2, .int x2), (3, .int x3), (5, .int x5), (6, .int x6)]) hx hb dX7_may_88 hl (k := 4) rfl (by rw [ev6]; rfl) (by decide) rfl (fun ls hl => ?_)
      refine lv_goto (tgt := 21) hx hb dX7_may_91 (by decide) ?_
      exact ge _ _ _ (ih21 (x2, x3, v6) h H locs ⟨hP, hD, hS⟩ ls (lv_sub hl [1, 2, 3, 4, 0] rfl))
    have J84 : ∀ (x2 : Int32) (x3 : Int32) (x4 : Int32) (x5 : Int32) (x6 : Int32) (t0 : Int32) (H : Heap) (locs : List Loc), ul_H (dC, dI) A s.heap (ul_wM cI cZ aM M d) H locs → ∀ ls : Array Slot, lv_has ls 7 [(0, .ref (aM 0)), (1, .int p1), (2, .int x2), (3, .int x3), (4, .int x4), (5, .int x5), (6, .int x6)] → (f_X7_may_j84 M p1 x2 x3 x4 x5 x6 t0).bind K21 = some r → G H locs (F0 m 84 ls [.int t0]) := by
      intro x2 x3 x4 x5 x6 t0 H locs hw ls hl h
      obtain ⟨hP, hD, hS⟩ := hw
      unfold f_X7_may_j84 at h
      refine gi _ _ _ ?_
      refine lv_istore_n (lv' := [(3, .int t0), (0, .ref (aM 0)), (1, .int p1), (2, .int x2), (4, .int x4), (5, .int x5), (6, .int x6)]) hx hb dX7_may_84 rfl hl (by decide) rfl (fun ls hl => ?_)
      obtain ⟨v8, ev8⟩ : ∃ z : Int32, z = x2 + 1 := ⟨_, rfl⟩
      have h := ul_bd_h h v8 ev8
      refine lv_iinc (v := v8) (lv' := [(2, .int v8), (3, .int t0), (0, .ref (aM 0)), (1, .int p1), (4, .int x4), (5, .int x5), (6, .int x6)]) hx hb dX7_may_85 hl (k := 3) rfl (by rw [ev8]; rfl) (by decide) rfl (fun ls hl => ?_)
      exact ge _ _ _ (J88 v8 t0 x4 x5 x6 H locs ⟨hP, hD, hS⟩ ls (lv_sub hl [2, 3, 0, 1, 4, 5, 6] rfl) h)
    have J46 : ∀ (x2 : Int32) (x3 : Int32) (x4 : Int32) (t0 : Int32) (H : Heap) (locs : List Loc), ul_H (dC, dI) A s.heap (ul_wM cI cZ aM M d) H locs → ∀ ls : Array Slot, lv_has ls 7 [(0, .ref (aM 0)), (1, .int p1), (2, .int x2), (3, .int x3), (4, .int x4)] → (f_X7_may_j46 M p1 x2 x3 x4 t0).bind K21 = some r → G H locs (F0 m 46 ls [.int t0]) := by
      intro x2 x3 x4 t0 H locs hw ls hl h
      obtain ⟨hP, hD, hS⟩ := hw
      unfold f_X7_may_j46 at h
      refine gi _ _ _ ?_
      refine lv_istore (lv' := [(5, .int t0), (0, .ref (aM 0)), (1, .int p1), (2, .int x2), (3, .int x3), (4, .int x4)]) hx hb dX7_may_46 hl (by decide) rfl (fun ls hl => ?_)
      refine lv_iconst (v := 1) hx hb dX7_may_48 (by decide) ?_
      refine lv_iload hx hb dX7_may_49 (lv_at hl 5 rfl) ?_
      refine lv_bipush (v := 9) hx hb dX7_may_51 (by decide) ?_
      refine lv_irem hx hb dX7_may_53 (by decide) ?_
      refine lv_iadd hx hb dX7_may_54 ?_
      refine lv_topi (fun v13 ev13 => ?_)
      have h := ul_bd_h h v13 ev13
      refine lv_istore (lv' := [(6, .int v13), (5, .int t0), (0, .ref (aM 0)), (1, .int p1), (2, .int x2), (3, .int x3), (4, .int x4)]) hx hb dX7_may_55 hl (by decide) rfl (fun ls hl => ?_)
      refine lv_aload_n hx hb dX7_may_57 rfl (lv_at hl 2 rfl) ?_
      refine lv_iload hx hb dX7_may_58 (lv_at hl 1 rfl) ?_
      refine lv_iload hx hb dX7_may_60 (lv_at hl 0 rfl) ?_
      obtain ⟨u14, hu14, h⟩ := ul_cl_h h
      refine ul_cVi (As := [.int t0, .int v13]) (rest := []) (wc' := (ul_wM cI cZ aM M d)) (wr := []) hP hD hS hK hA [0, 1, 2, 3, 4, 5, 6, 7, 8, 9, 10, 11, 12, 13, 14] [] [0, 1] ul_N0_ok trivial (c_X7_mayBe l dC dI cI cZ aM H.size M d t0 v13 u14 hu14) rfl rfl (by decide) rfl (by decide) (by decide) rfl ⟨hx, hb, hml, hown, hts⟩ (cwV 2 hts gX7_may_X7_mayBe rfl rfl rfl (by decide +kernel) ⟨Nat.le_of_ble_eq_true rfl, Nat.le_of_ble_eq_true rfl⟩) (va_recv hK hP (ci := 7) (q0 := 0) rfl rfl) rfl hl.1 rfl (Nat.le_of_ble_eq_true rfl) dX7_may_62 (fun H locs hw => ?_)
      obtain ⟨hP, hD, hS⟩ := hw
      have hP : va_P (dC, dI) classes (ul_wM cI cZ aM M d) H := hP
      have hD : va_D A (ul_wM cI cZ aM M d) := hD
      refine lv_if_eq (tgt := 88) hx hb dX7_may_65 (by decide) (fun hc15 => ?_) (fun hc15 => ?_)
      · have h := ul_if_t hc15 h
        exact ge _ _ _ (J88 x2 x3 x4 t0 v13 H locs ⟨hP, hD, hS⟩ ls (lv_sub hl [2, 3, 4, 5, 6, 1, 0] rfl) h)
      · have h := ul_if_f hc15 h
        refine lv_iload_n hx hb dX7_may_68 rfl (lv_at hl 4 rfl) ?_
        refine lv_if_ne (tgt := 83) hx hb dX7_may_69 (by decide) (fun hc16 => ?_) (fun hc16 => ?_)
        · have h := ul_if_f hc16 h
          refine lv_iload_n hx hb dX7_may_83 rfl (lv_at hl 5 rfl) ?_
          exact ge _ _ _ (J84 x2 x3 x4 t0 v13 x3 H locs ⟨hP, hD, hS⟩ ls (lv_sub hl [2, 3, 4, 5, 6, 1, 0] rfl) h)
        · have h := ul_if_t hc16 h
          refine lv_bipush (v := 10) hx hb dX7_may_72 (by decide) ?_
          refine lv_iload hx hb dX7_may_74 (lv_at hl 1 rfl) ?_
          refine lv_imul hx hb dX7_may_76 ?_
          refine lv_iload hx hb dX7_may_77 (lv_at hl 0 rfl) ?_
          refine lv_iadd hx hb dX7_may_79 ?_
          refine lv_goto (tgt := 84) hx hb dX7_may_80 (by decide) ?_
          exact ge _ _ _ (J84 x2 x3 x4 t0 v13 (((10 : Int32) * t0) + v13) H locs ⟨hP, hD, hS⟩ ls (lv_sub hl [2, 3, 4, 5, 6, 1, 0] rfl) h)
    obtain ⟨hP, hD, hS⟩ := hw
    unfold f_X7_may_L21 at h
    refine gi _ _ _ ?_
    refine lv_iload hx hb dX7_may_21 (lv_at hl 4 rfl) ?_
    refine lv_bipush (v := 27) hx hb dX7_may_23 (by decide) ?_
    refine lv_icmp_ge (tgt := 94) hx hb dX7_may_25 (by decide) (fun hc19 => ?_) (fun hc19 => ?_)
    · have h := ul_if_t hc19 h
      exact ge _ _ _ (J94 q21.1 q21.2.1 q21.2.2 H locs ⟨hP, hD, hS⟩ ls (lv_sub hl [0, 1, 2, 3, 4] rfl) (hx21 (q21.1, q21.2.1, q21.2.2) h))
    · have h := ul_if_f hc19 h
      refine lv_iload hx hb dX7_may_28 (lv_at hl 4 rfl) ?_
      refine lv_bipush (v := 9) hx hb dX7_may_30 (by decide) ?_
      refine lv_idiv hx hb dX7_may_32 (by decide) ?_
      refine lv_iconst (v := 2) hx hb dX7_may_33 (by decide) ?_
      refine lv_icmp_ne (tgt := 41) hx hb dX7_may_34 (by decide) (fun hc20 => ?_) (fun hc20 => ?_)
      · have h := ul_if_f hc20 h
        refine lv_iload hx hb dX7_may_41 (lv_at hl 4 rfl) ?_
        refine lv_bipush (v := 9) hx hb dX7_may_43 (by decide) ?_
        refine lv_idiv hx hb dX7_may_45 (by decide) ?_
        exact ge _ _ _ (J46 q21.1 q21.2.1 q21.2.2 (q21.2.2 / (9 : Int32)) H locs ⟨hP, hD, hS⟩ ls (lv_sub hl [0, 1, 2, 3, 4] rfl) h)
      · have h := ul_if_t hc20 h
        refine lv_iconst (v := 3) hx hb dX7_may_37 (by decide) ?_
        refine lv_goto (tgt := 46) hx hb dX7_may_38 (by decide) ?_
        exact ge _ _ _ (J46 q21.1 q21.2.1 q21.2.2 (3 : Int32) H locs ⟨hP, hD, hS⟩ ls (lv_sub hl [0, 1, 2, 3, 4] rfl) h)
  · have h := ul_if_t hc4 h
    refine lv_bipush (v := -2) hx hb dX7_may_10 (by decide) ?_
    have hr9 := hK0 (-2 : Int32) h
    subst hr9
    exact W.iret (v := (-2 : Int32)) hx hb hr (fun t ht hW => ⟨⟨(-2 : Int32), (), rfl, rfl, by rw [ht]; exact hP, va_K.moved hW.alike hK, hD⟩, hS.F ht⟩) hS.2.2 dX7_may_12
def f_X7_factorial_j19 (p0 : Int32) (x1 : Int32) (x2 : Int32) : Option Int32 :=
  some x1
def f_X7_factorial_L4 (p0 : Int32) (q4 : (Int32 × Int32)) : Option ((Int32 × Int32) ⊕ (Int32 × Int32)) :=
  if p0 < q4.2 then (some (.inl (q4.1, q4.2))) else (ul_bd (q4.1 * q4.2) fun v2 => ul_bd (q4.2 + 1) fun v3 => some (.inr (v2, v3)))
def f_X7_factorial (p0 : Int32) : Option Int32 :=
  (ul_it ul_N (f_X7_factorial_L4 p0) ((1 : Int32), (2 : Int32))).bind (fun e4 => f_X7_factorial_j19 p0 e4.1 e4.2)
set_option maxHeartbeats 4000000 in
set_option maxRecDepth 100000 in
theorem c_X7_factorial (l : Launch) (dC : Nat → ClassId) (dI : Nat → Nat → Nat) (sz : Nat) (p0 : Int32) (r : Int32) (h : f_X7_factorial p0 = some r) : Met l yX7_factorial wsX7_factorial ({ frames := 0, cells := 0, slots := 0, locals := 0 }) (va_Pc [.int p0] (ul_pre (dC, dI) [] ul_N0 sz [])) (va_Qi (fun v (_ : Unit) => v = r) (fun _ => ul_post (dC, dI) [] (va_A [] sz) []) (va_A [] sz)) 0 0 (va_A [] sz) := by
  refine Met.ofW (cc := cX7_factorial) (maxL := 3) (ret := (some .int)) (by decide) rfl ?_
  intro p e s m args below meth c s₁ B hml hv
  obtain ⟨rfl, hsz, hP, hK, hD0, hN⟩ := hv
  have hx := B.exec
  have hb := B.bytes
  have hr := B.returns
  have hts := atoms_spec (ws := wsX7_factorial) B.pre
  have hown : s.vm.findClass RX7 = some m.cls := findClass_of_methodNamed B.named
  have hlocks := B.notSynchronized
  subst hsz
  have hD := hD0.self (sz := s.heap.size)
  generalize hAe : va_A [] s.heap.size = A at hD ⊢
  have hA : ∀ q : Nat, s.heap.size ≤ q → A q := fun q h => by rw [← hAe]; exact Or.inr h
  have hS : va_S A s.heap s.heap [] := va_S.rf
  have hl := lv_entry ([.int p0]) (n := 3) (Nat.le_of_ble_eq_true rfl)
  rw [lg_entry_eq]
  generalize (lg_sl ([.int p0]) ++ List.replicate (3 - (lg_sl ([.int p0])).length) Slot.unset).toArray = ls at hl ⊢
  have hl : lv_has ls 3 [(0, .int p0)] := hl
  obtain ⟨K0, hK0, h⟩ := ul_top h
  unfold f_X7_factorial at h
  refine ul_gen (fun G gi ge => ?_)
  obtain ⟨H, eH⟩ : ∃ z, z = s.heap := ⟨_, rfl⟩
  obtain ⟨locs, eL⟩ : ∃ z : List Loc, z = [] := ⟨_, rfl⟩
  have hP : va_P (dC, dI) classes [] H := by rw [eH]; exact hP
  have hS : va_S A s.heap H locs := by rw [eH, eL]; exact hS
  rw [← eL]
  refine (show G H locs (F0 m 0 ls []) → G s.heap locs (F0 m 0 ls []) from fun z => by rw [← eH]; exact z) ?_
  have J19 : ∀ (x1 : Int32) (x2 : Int32) (H : Heap) (locs : List Loc), ul_H (dC, dI) A s.heap [] H locs → ∀ ls : Array Slot, lv_has ls 3 [(0, .int p0), (1, .int x1), (2, .int x2)] → (f_X7_factorial_j19 p0 x1 x2).bind K0 = some r → G H locs (F0 m 19 ls []) := by
    intro x1 x2 H locs hw ls hl h
    obtain ⟨hP, hD, hS⟩ := hw
    unfold f_X7_factorial_j19 at h
    refine gi _ _ _ ?_
    refine lv_iload_n hx hb dX7_factorial_19 rfl (lv_at hl 1 rfl) ?_
    have hr9 := hK0 x1 h
    subst hr9
    exact W.iret (v := x1) hx hb hr (fun t ht hW => ⟨⟨x1, (), rfl, rfl, by rw [ht]; exact hP, va_K.moved hW.alike hK, hD⟩, hS.F ht⟩) hS.2.2 dX7_factorial_20
  refine gi _ _ _ ?_
  refine lv_iconst (v := 1) hx hb dX7_factorial_0 (by decide) ?_
  refine lv_istore_n (lv' := [(1, .int (1 : Int32)), (0, .int p0)]) hx hb dX7_factorial_1 rfl hl (by decide) rfl (fun ls hl => ?_)
  refine lv_iconst (v := 2) hx hb dX7_factorial_2 (by decide) ?_
  refine lv_istore_n (lv' := [(2, .int (2 : Int32)), (1, .int (1 : Int32)), (0, .int p0)]) hx hb dX7_factorial_3 rfl hl (by decide) rfl (fun ls hl => ?_)
  refine ge _ _ _ (ul_loop (P := fun q4 => ∀ (H : Heap) (locs : List Loc), ul_H (dC, dI) A s.heap [] H locs → ∀ ls : Array Slot, lv_has ls 3 [(0, .int p0), (1, .int q4.1), (2, .int q4.2)] → G H locs (F0 m 4 ls [])) ?_ _ _ (ul_it_h h) H locs ⟨hP, hD, hS⟩ ls (lv_sub hl [2, 1, 0] rfl))
  intro K4 hx4
  intro q4 ih4 h H locs hw ls hl
  obtain ⟨hP, hD, hS⟩ := hw
  unfold f_X7_factorial_L4 at h
  refine gi _ _ _ ?_
  refine lv_iload_n hx hb dX7_factorial_4 rfl (lv_at hl 2 rfl) ?_
  refine lv_iload_n hx hb dX7_factorial_5 rfl (lv_at hl 0 rfl) ?_
  refine lv_icmp_gt (tgt := 19) hx hb dX7_factorial_6 (by decide) (fun hc4 => ?_) (fun hc4 => ?_)
  · have h := ul_if_t hc4 h
    exact ge _ _ _ (J19 q4.1 q4.2 H locs ⟨hP, hD, hS⟩ ls (lv_sub hl [0, 1, 2] rfl) (hx4 (q4.1, q4.2) h))
  · have h := ul_if_f hc4 h
    refine lv_iload_n hx hb dX7_factorial_9 rfl (lv_at hl 1 rfl) ?_
    refine lv_iload_n hx hb dX7_factorial_10 rfl (lv_at hl 2 rfl) ?_
    refine lv_imul hx hb dX7_factorial_11 ?_
    refine lv_topi (fun v5 ev5 => ?_)
    have h := ul_bd_h h v5 ev5
    refine lv_istore_n (lv' := [(1, .int v5), (0, .int p0), (2, .int q4.2)]) hx hb dX7_factorial_12 rfl hl (by decide) rfl (fun ls hl => ?_)
    obtain ⟨v6, ev6⟩ : ∃ z : Int32, z = q4.2 + 1 := ⟨_, rfl⟩
    have h := ul_bd_h h v6 ev6
    refine lv_iinc (v := v6) (lv' := [(2, .int v6), (1, .int v5), (0, .int p0)]) hx hb dX7_factorial_13 hl (k := 2) rfl (by rw [ev6]; rfl) (by decide) rfl (fun ls hl => ?_)
    refine lv_goto (tgt := 4) hx hb dX7_factorial_16 (by decide) ?_
    exact ge _ _ _ (ih4 (v5, v6) h H locs ⟨hP, hD, hS⟩ ls (lv_sub hl [2, 1, 0] rfl))
def f_X7_common_j30 (p0 : Int32) (p1 : Int32) (x2 : Int32) (x3 : Int32) : Option Int32 :=
  some x2
def f_X7_common_L13 (p0 : Int32) (p1 : Int32) (q13 : (Int32 × Int32)) : Option ((Int32 × Int32) ⊕ (Int32 × Int32)) :=
  if q13.2 = 0 then (some (.inl (q13.1, q13.2))) else (ul_nz q13.2 (ul_bd (q13.1 - q13.1 / q13.2 * q13.2) fun v3 => some (.inr (q13.2, v3))))
def f_X7_common_j10 (p0 : Int32) (p1 : Int32) (t0 : Int32) : Option Int32 :=
  (ul_it ul_N (f_X7_common_L13 p0 p1) (t0, p1)).bind (fun e13 => f_X7_common_j30 p0 p1 e13.1 e13.2)
def f_X7_common (p0 : Int32) (p1 : Int32) : Option Int32 :=
  if 0 ≤ p0 then (f_X7_common_j10 p0 p1 p0) else (f_X7_common_j10 p0 p1 (-p0))
set_option maxHeartbeats 4000000 in
set_option maxRecDepth 100000 in
theorem c_X7_common (l : Launch) (dC : Nat → ClassId) (dI : Nat → Nat → Nat) (sz : Nat) (p0 : Int32) (p1 : Int32) (r : Int32) (h : f_X7_common p0 p1 = some r) : Met l yX7_common wsX7_common ({ frames := 0, cells := 0, slots := 0, locals := 0 }) (va_Pc [.int p0, .int p1] (ul_pre (dC, dI) [] ul_N0 sz [])) (va_Qi (fun v (_ : Unit) => v = r) (fun _ => ul_post (dC, dI) [] (va_A [] sz) []) (va_A [] sz)) 0 0 (va_A [] sz) := by
  refine Met.ofW (cc := cX7_common) (maxL := 5) (ret := (some .int)) (by decide) rfl ?_
  intro p e s m args below meth c s₁ B hml hv
  obtain ⟨rfl, hsz, hP, hK, hD0, hN⟩ := hv
  have hx := B.exec
  have hb := B.bytes
  have hr := B.returns
  have hts := atoms_spec (ws := wsX7_common) B.pre
  have hown : s.vm.findClass RX7 = some m.cls := findClass_of_methodNamed B.named
  have hlocks := B.notSynchronized
  subst hsz
  have hD := hD0.self (sz := s.heap.size)
  generalize hAe : va_A [] s.heap.size = A at hD ⊢
  have hA : ∀ q : Nat, s.heap.size ≤ q → A q := fun q h => by rw [← hAe]; exact Or.inr h
  have hS : va_S A s.heap s.heap [] := va_S.rf
  have hl := lv_entry ([.int p0, .int p1]) (n := 5) (Nat.le_of_ble_eq_true rfl)
  rw [lg_entry_eq]
  generalize (lg_sl ([.int p0, .int p1]) ++ List.replicate (5 - (lg_sl ([.int p0, .int p1])).length) Slot.unset).toArray = ls at hl ⊢
  have hl : lv_has ls 5 [(0, .int p0), (1, .int p1)] := hl
  obtain ⟨K0, hK0, h⟩ := ul_top h
  unfold f_X7_common at h
  refine ul_gen (fun G gi ge => ?_)
  obtain ⟨H, eH⟩ : ∃ z, z = s.heap := ⟨_, rfl⟩
  obtain ⟨locs, eL⟩ : ∃ z : List Loc, z = [] := ⟨_, rfl⟩
  have hP : va_P (dC, dI) classes [] H := by rw [eH]; exact hP
  have hS : va_S A s.heap H locs := by rw [eH, eL]; exact hS
  rw [← eL]
  refine (show G H locs (F0 m 0 ls []) → G s.heap locs (F0 m 0 ls []) from fun z => by rw [← eH]; exact z) ?_
  have J30 : ∀ (x2 : Int32) (x3 : Int32) (H : Heap) (locs : List Loc), ul_H (dC, dI) A s.heap [] H locs → ∀ ls : Array Slot, lv_has ls 5 [(0, .int p0), (1, .int p1), (2, .int x2), (3, .int x3)] → (f_X7_common_j30 p0 p1 x2 x3).bind K0 = some r → G H locs (F0 m 30 ls []) := by
    intro x2 x3 H locs hw ls hl h
    obtain ⟨hP, hD, hS⟩ := hw
    unfold f_X7_common_j30 at h
    refine gi _ _ _ ?_
    refine lv_iload_n hx hb dX7_common_30 rfl (lv_at hl 2 rfl) ?_
    have hr9 := hK0 x2 h
    subst hr9
    exact W.iret (v := x2) hx hb hr (fun t ht hW => ⟨⟨x2, (), rfl, rfl, by rw [ht]; exact hP, va_K.moved hW.alike hK, hD⟩, hS.F ht⟩) hS.2.2 dX7_common_31
  have J10 : ∀ (t0 : Int32) (H : Heap) (locs : List Loc), ul_H (dC, dI) A s.heap [] H locs → ∀ ls : Array Slot, lv_has ls 5 [(0, .int p0), (1, .int p1)] → (f_X7_common_j10 p0 p1 t0).bind K0 = some r → G H locs (F0 m 10 ls [.int t0]) := by
    intro t0 H locs hw ls hl h
    obtain ⟨hP, hD, hS⟩ := hw
    unfold f_X7_common_j10 at h
    refine gi _ _ _ ?_
    refine lv_istore_n (lv' := [(2, .int t0), (0, .int p0), (1, .int p1)]) hx hb dX7_common_10 rfl hl (by decide) rfl (fun ls hl => ?_)
    refine lv_iload_n hx hb dX7_common_11 rfl (lv_at hl 2 rfl) ?_
    refine lv_istore_n (lv' := [(3, .int p1), (2, .int t0), (0, .int p0), (1, .int p1)]) hx hb dX7_common_12 rfl hl (by decide) rfl (fun ls hl => ?_)
    refine ge _ _ _ (ul_loop (P := fun q13 => ∀ (H : Heap) (locs : List Loc), ul_H (dC, dI) A s.heap [] H locs → ∀ ls : Array Slot, lv_has ls 5 [(0, .int p0), (1, .int p1), (2, .int q13.1), (3, .int q13.2)] → G H locs (F0 m 13 ls [])) ?_ _ _ (ul_it_h h) H locs ⟨hP, hD, hS⟩ ls (lv_sub hl [2, 3, 1, 0] rfl))
    intro K13 hx13
    intro q13 ih13 h H locs hw ls hl
    obtain ⟨hP, hD, hS⟩ := hw
    unfold f_X7_common_L13 at h
    refine gi _ _ _ ?_
    refine lv_iload_n hx hb dX7_common_13 rfl (lv_at hl 3 rfl) ?_
    refine lv_if_eq (tgt := 30) hx hb dX7_common_14 (by decide) (fun hc10 => ?_) (fun hc10 => ?_)
    · have h := ul_if_t hc10 h
      exact ge _ _ _ (J30 q13.1 q13.2 H locs ⟨hP, hD, hS⟩ ls (lv_sub hl [0, 1, 2, 3] rfl) (hx13 (q13.1, q13.2) h))
    · have h := ul_if_f hc10 h
      refine lv_iload_n hx hb dX7_common_17 rfl (lv_at hl 2 rfl) ?_
      refine lv_iload_n hx hb dX7_common_18 rfl (lv_at hl 3 rfl) ?_
      obtain ⟨hz11, h⟩ := ul_nz_h h
      refine lv_irem hx hb dX7_common_19 hz11 ?_
      refine lv_topi (fun v12 ev12 => ?_)
      have h := ul_bd_h h v12 ev12
      refine lv_istore (lv' := [(4, .int v12), (0, .int p0), (1, .int p1), (2, .int q13.1), (3, .int q13.2)]) hx hb dX7_common_20 hl (by decide) rfl (fun ls hl => ?_)
      refine lv_iload_n hx hb dX7_common_22 rfl (lv_at hl 4 rfl) ?_
      refine lv_istore_n (lv' := [(2, .int q13.2), (4, .int v12), (0, .int p0), (1, .int p1), (3, .int q13.2)]) hx hb dX7_common_23 rfl hl (by decide) rfl (fun ls hl => ?_)
      refine lv_iload hx hb dX7_common_24 (lv_at hl 1 rfl) ?_
      refine lv_istore_n (lv' := [(3, .int v12), (2, .int q13.2), (4, .int v12), (0, .int p0), (1, .int p1)]) hx hb dX7_common_26 rfl hl (by decide) rfl (fun ls hl => ?_)
      refine lv_goto (tgt := 13) hx hb dX7_common_27 (by decide) ?_
      exact ge _ _ _ (ih13 (q13.2, v12) h H locs ⟨hP, hD, hS⟩ ls (lv_sub hl [3, 4, 1, 0] rfl))
  refine gi _ _ _ ?_
  refine lv_iload_n hx hb dX7_common_0 rfl (lv_at hl 0 rfl) ?_
  refine lv_if_ge (tgt := 9) hx hb dX7_common_1 (by decide) (fun hc13 => ?_) (fun hc13 => ?_)
  · have h := ul_if_t hc13 h
    refine lv_iload_n hx hb dX7_common_9 rfl (lv_at hl 0 rfl) ?_
    exact ge _ _ _ (J10 p0 H locs ⟨hP, hD, hS⟩ ls (lv_sub hl [0, 1] rfl) h)
  · have h := ul_if_f hc13 h
    refine lv_iload_n hx hb dX7_common_4 rfl (lv_at hl 0 rfl) ?_
    refine lv_ineg hx hb dX7_common_5 ?_
    refine lv_goto (tgt := 10) hx hb dX7_common_6 (by decide) ?_
    exact ge _ _ _ (J10 (-p0) H locs ⟨hP, hD, hS⟩ ls (lv_sub hl [0, 1] rfl) h)
def f_X7_goldBy (M : ul_S) (p1 : Int32) (p2 : Int32) : Option (Int32 × ul_S) :=
  (f_X7_layTrial M).bind fun u1 => (f_X7_goOn u1 (6 : Int32) (p1 ^^^ (-1 : Int32))).bind fun u2 => ul_ld (u2 6) 46 ((31 : Int32) + p2) fun v3 => some (v3, u2)
set_option maxHeartbeats 4000000 in
set_option maxRecDepth 100000 in
theorem c_X7_goldBy (l : Launch) (dC : Nat → ClassId) (dI : Nat → Nat → Nat) (cI : ClassId) (cZ : ClassId) (aM : Nat → Nat) (sz : Nat) (M : ul_S) (d : Int64) (p1 : Int32) (p2 : Int32) (r : (Int32 × ul_S)) (h : f_X7_goldBy M p1 p2 = some r) : Met l yX7_goldBy wsX7_goldBy ({ frames := 7, cells := 0, slots := 0, locals := 166 }) (va_Pc [.ref (aM 0), .int p1, .int p2] (ul_pre (dC, dI) [(cI, .int), (cZ, .boolean)] ul_N0 sz (ul_wM cI cZ aM M d))) (va_Qi (fun v (_ : Unit) => v = r.1) (fun _ => ul_post (dC, dI) [(cI, .int), (cZ, .boolean)] (va_A (ul_wM cI cZ aM M d) sz) (ul_wM cI cZ aM r.2 d)) (va_A (ul_wM cI cZ aM M d) sz)) 0 0 (va_A (ul_wM cI cZ aM M d) sz) := by
  refine Met.ofW (cc := cX7_goldBy) (maxL := 3) (ret := (some .int)) (by decide) rfl ?_
  intro p e s m args below meth c s₁ B hml hv
  obtain ⟨rfl, hsz, hP, hK, hD0, hN⟩ := hv
  have hx := B.exec
  have hb := B.bytes
  have hr := B.returns
  have hts := atoms_spec (ws := wsX7_goldBy) B.pre
  have hown : s.vm.findClass RX7 = some m.cls := findClass_of_methodNamed B.named
  have hlocks := B.notSynchronized
  have hin7 : ∀ w ∈ u_ws RX7 TX7 26, w ∈ wsX7_goldBy := by decide +kernel
  subst hsz
  have hD := hD0.self (sz := s.heap.size)
  generalize hAe : va_A (ul_wM cI cZ aM M d) s.heap.size = A at hD ⊢
  have hA : ∀ q : Nat, s.heap.size ≤ q → A q := fun q h => by rw [← hAe]; exact Or.inr h
  have hS : va_S A s.heap s.heap [] := va_S.rf
  have hl := lv_entry ([.ref (aM 0), .int p1, .int p2]) (n := 3) (Nat.le_of_ble_eq_true rfl)
  rw [lg_entry_eq]
  generalize (lg_sl ([.ref (aM 0), .int p1, .int p2]) ++ List.replicate (3 - (lg_sl ([.ref (aM 0), .int p1, .int p2])).length) Slot.unset).toArray = ls at hl ⊢
  have hl : lv_has ls 3 [(0, .ref (aM 0)), (1, .int p1), (2, .int p2)] := hl
  obtain ⟨K0, hK0, h⟩ := ul_top h
  unfold f_X7_goldBy at h
  refine ul_gen (fun G gi ge => ?_)
  obtain ⟨H, eH⟩ : ∃ z, z = s.heap := ⟨_, rfl⟩
  obtain ⟨locs, eL⟩ : ∃ z : List Loc, z = [] := ⟨_, rfl⟩
  have hP : va_P (dC, dI) classes (ul_wM cI cZ aM M d) H := by rw [eH]; exact hP
  have hS : va_S A s.heap H locs := by rw [eH, eL]; exact hS
  rw [← eL]
  refine (show G H locs (F0 m 0 ls []) → G s.heap locs (F0 m 0 ls []) from fun z => by rw [← eH]; exact z) ?_
  refine gi _ _ _ ?_
  refine lv_aload_n hx hb dX7_goldBy_0 rfl (lv_at hl 0 rfl) ?_
  obtain ⟨u1, hu1, h⟩ := ul_cl_h h
  refine ul_cVv (As := []) (rest := []) (wc' := (ul_wM cI cZ aM u1 d)) (wr := []) hP hD hS hK hA [0, 1, 2, 3, 4, 5, 6, 7, 8, 9, 10, 11, 12, 13, 14] [] [0, 1] ul_N0_ok trivial (c_X7_layTrial l dC dI cI cZ aM H.size M d u1 hu1) rfl rfl (by decide) rfl (by decide) (by decide) rfl ⟨hx, hb, hml, hown, hts⟩ (cwV 0 hts gX7_goldBy_X7_layTrial rfl rfl rfl (by decide +kernel) ⟨Nat.le_of_ble_eq_true rfl, Nat.le_of_ble_eq_true rfl⟩) (va_recv hK hP (ci := 7) (q0 := 0) rfl rfl) rfl hl.1 rfl (Nat.le_of_ble_eq_true rfl) dX7_goldBy_1 (fun H locs hw => ?_)
  obtain ⟨hP, hD, hS⟩ := hw
  have hP : va_P (dC, dI) classes (ul_wM cI cZ aM u1 d) H := hP
  have hD : va_D A (ul_wM cI cZ aM u1 d) := hD
  refine lv_aload_n hx hb dX7_goldBy_4 rfl (lv_at hl 0 rfl) ?_
  refine lv_bipush (v := 6) hx hb dX7_goldBy_5 (by decide) ?_
  refine lv_iload_n hx hb dX7_goldBy_7 rfl (lv_at hl 1 rfl) ?_
  refine lv_iconst (v := -1) hx hb dX7_goldBy_8 (by decide) ?_
  refine lv_ixor hx hb dX7_goldBy_9 ?_
  obtain ⟨u2, hu2, h⟩ := ul_cl_h h
  refine ul_cVv (As := [.int (6 : Int32), .int (p1 ^^^ (-1 : Int32))]) (rest := []) (wc' := (ul_wM cI cZ aM u2 d)) (wr := []) hP hD hS hK hA [0, 1, 2, 3, 4, 5, 6, 7, 8, 9, 10, 11, 12, 13, 14] [] [0, 1] ul_N0_ok trivial (c_X7_goOn l dC dI cI cZ aM H.size u1 d (6 : Int32) (p1 ^^^ (-1 : Int32)) u2 hu2) rfl rfl (by decide) rfl (by decide) (by decide) rfl ⟨hx, hb, hml, hown, hts⟩ (cwV 2 hts gX7_goldBy_X7_goOn rfl rfl rfl (by decide +kernel) ⟨Nat.le_of_ble_eq_true rfl, Nat.le_of_ble_eq_true rfl⟩) (va_recv hK hP (ci := 7) (q0 := 0) rfl rfl) rfl hl.1 rfl (Nat.le_of_ble_eq_true rfl) dX7_goldBy_10 (fun H locs hw => ?_)
  obtain ⟨hP, hD, hS⟩ := hw
  have hP : va_P (dC, dI) classes (ul_wM cI cZ aM u2 d) H := hP
  have hD : va_D A (ul_wM cI cZ aM u2 d) := hD
  refine lv_aload_n hx hb dX7_goldBy_13 rfl (lv_at hl 0 rfl) ?_
  refine va_get (D := (dC, dI)) (ci := 7) (v := .ref (aM 6)) (C := RX7) (T := TX7) (N := 26) hx hb hts hin7 hown hK hP 0 rfl rfl 7 (by decide) (hts (.fieldLink RX7 25 "UnderLaddersModel" "now" "[I") (by decide +kernel)) (fun _ h9 => h9) rfl dX7_goldBy_14 ?_
  refine lv_bipush (v := 31) hx hb dX7_goldBy_17 (by decide) ?_
  refine lv_iload_n hx hb dX7_goldBy_19 rfl (lv_at hl 2 rfl) ?_
  refine lv_iadd hx hb dX7_goldBy_20 ?_
  obtain ⟨hi4, h⟩ := ul_ld_h h
  refine va_iald hx hb hK hP 6 0 rfl rfl hi4 dX7_goldBy_21 ?_
  refine lv_topi (fun v3 ev3 => ?_)
  have h := h v3 ev3
  have hr9 := hK0 (v3, u2) h
  subst hr9
  exact W.iret (v := v3) hx hb hr (fun t ht hW => ⟨⟨v3, (), rfl, rfl, by rw [ht]; exact hP, va_K.moved hW.alike hK, hD⟩, hS.F ht⟩) hS.2.2 dX7_goldBy_22
def f_X7_share_j103 (p1 : Int32) (p2 : Int32) (p3 : Int32) (x4 : Int32) (x5 : Int32) (M__103 : ul_S) : Option (Int32 × ul_S) :=
  (f_X7_factorial (M__103 0 1)).bind fun u1 => (f_X7_common x4 u1).bind fun u2 => if p3 = 0 then ((f_X7_factorial (M__103 0 1)).bind fun u4 => ul_nz u2 (some ((u4 / u2), M__103))) else (ul_nz u2 (some ((x4 / u2), M__103)))
def f_X7_share_j97 (p1 : Int32) (p2 : Int32) (p3 : Int32) (x4 : Int32) (x5 : Int32) (M__97 : ul_S) : Option ((Int32 × Int32 × ul_S) ⊕ (Int32 × Int32 × ul_S)) :=
  ul_bd (x5 + 1) fun v17 => some (.inr (x4, v17, M__97))
def f_X7_share_L24 (p1 : Int32) (p2 : Int32) (p3 : Int32) (q24 : (Int32 × Int32 × ul_S)) : Option ((Int32 × Int32 × ul_S) ⊕ (Int32 × Int32 × ul_S)) :=
  if ((1 : Int32) <<< ((q24.2.2 0 1) &&& 31)) ≤ q24.2.1 then (some (.inl (q24.1, q24.2.1, q24.2.2))) else ((f_X7_has q24.2.1 p1).bind fun u20 => if u20 = 0 then ((f_X7_ones q24.2.1).bind fun u22 => (f_X7_factorial u22).bind fun u23 => (f_X7_ones q24.2.1).bind fun u24 => (f_X7_factorial (((q24.2.2 0 1) - (1 : Int32)) - u24)).bind fun u25 => ul_bd (u23 * u25) fun v26 => (f_X7_goldBy q24.2.2 (q24.2.1 ||| ((1 : Int32) <<< (p1 &&& 31))) p2).bind fun u27 => (f_X7_goldBy u27.2 q24.2.1 p2).bind fun u28 => ul_bd (q24.1 + (v26 * (u27.1 - u28.1))) fun v29 => f_X7_share_j97 p1 p2 p3 v29 q24.2.1 u28.2) else (f_X7_share_j97 p1 p2 p3 q24.1 q24.2.1 q24.2.2))
def f_X7_share (M : ul_S) (p1 : Int32) (p2 : Int32) (p3 : Int32) : Option (Int32 × ul_S) :=
  (f_X7_isPerson M p1).bind fun u13 => if u13 = 0 then (some ((-1 : Int32), M)) else ((f_X7_isLadder M p2).bind fun u15 => if u15 = 0 then (some ((-1 : Int32), M)) else ((ul_it ul_N (f_X7_share_L24 p1 p2 p3) ((0 : Int32), (0 : Int32), M)).bind (fun e24 => f_X7_share_j103 p1 p2 p3 e24.1 e24.2.1 e24.2.2)))
set_option maxHeartbeats 4000000 in
set_option maxRecDepth 100000 in
theorem c_X7_share (l : Launch) (dC : Nat → ClassId) (dI : Nat → Nat → Nat) (cI : ClassId) (cZ : ClassId) (aM : Nat → Nat) (sz : Nat) (M : ul_S) (d : Int64) (p1 : Int32) (p2 : Int32) (p3 : Int32) (r : (Int32 × ul_S)) (h : f_X7_share M p1 p2 p3 = some r) : Met l yX7_share wsX7_share ({ frames := 8, cells := 0, slots := 0, locals := 188 }) (va_Pc [.ref (aM 0), .int p1, .int p2, .int p3] (ul_pre (dC, dI) [(cI, .int), (cZ, .boolean)] ul_N0 sz (ul_wM cI cZ aM M d))) (va_Qi (fun v (_ : Unit) => v = r.1) (fun _ => ul_post (dC, dI) [(cI, .int), (cZ, .boolean)] (va_A (ul_wM cI cZ aM M d) sz) (ul_wM cI cZ aM r.2 d)) (va_A (ul_wM cI cZ aM M d) sz)) 0 0 (va_A (ul_wM cI cZ aM M d) sz) := by
  refine Met.ofW (cc := cX7_share) (maxL := 7) (ret := (some .int)) (by decide) rfl ?_
  intro p e s m args below meth c s₁ B hml hv
  obtain ⟨rfl, hsz, hP, hK, hD0, hN⟩ := hv
  have hx := B.exec
  have hb := B.bytes
  have hr := B.returns
  have hts := atoms_spec (ws := wsX7_share) B.pre
  have hown : s.vm.findClass RX7 = some m.cls := findClass_of_methodNamed B.named
  have hlocks := B.notSynchronized
  have hin7 : ∀ w ∈ u_ws RX7 TX7 26, w ∈ wsX7_share := by decide +kernel
  subst hsz
  have hD := hD0.self (sz := s.heap.size)
  generalize hAe : va_A (ul_wM cI cZ aM M d) s.heap.size = A at hD ⊢
  have hA : ∀ q : Nat, s.heap.size ≤ q → A q := fun q h => by rw [← hAe]; exact Or.inr h
  have hS : va_S A s.heap s.heap [] := va_S.rf
  have hl := lv_entry ([.ref (aM 0), .int p1, .int p2, .int p3]) (n := 7) (Nat.le_of_ble_eq_true rfl)
  rw [lg_entry_eq]
  generalize (lg_sl ([.ref (aM 0), .int p1, .int p2, .int p3]) ++ List.replicate (7 - (lg_sl ([.ref (aM 0), .int p1, .int p2, .int p3])).length) Slot.unset).toArray = ls at hl ⊢
  have hl : lv_has ls 7 [(0, .ref (aM 0)), (1, .int p1), (2, .int p2), (3, .int p3)] := hl
  obtain ⟨K0, hK0, h⟩ := ul_top h
  unfold f_X7_share at h
  refine ul_gen (fun G gi ge => ?_)
  obtain ⟨H, eH⟩ : ∃ z, z = s.heap := ⟨_, rfl⟩
  obtain ⟨locs, eL⟩ : ∃ z : List Loc, z = [] := ⟨_, rfl⟩
  have hP : va_P (dC, dI) classes (ul_wM cI cZ aM M d) H := by rw [eH]; exact hP
  have hS : va_S A s.heap H locs := by rw [eH, eL]; exact hS
  rw [← eL]
  refine (show G H locs (F0 m 0 ls []) → G s.heap locs (F0 m 0 ls []) from fun z => by rw [← eH]; exact z) ?_
  have J103 : ∀ (x4 : Int32) (x5 : Int32) (M__103 : ul_S) (H : Heap) (locs : List Loc), ul_H (dC, dI) A s.heap (ul_wM cI cZ aM M__103 d) H locs → ∀ ls : Array Slot, lv_has ls 7 [(0, .ref (aM 0)), (1, .int p1), (2, .int p2), (3, .int p3), (4, .int x4), (5, .int x5)] → (f_X7_share_j103 p1 p2 p3 x4 x5 M__103).bind K0 = some r → G H locs (F0 m 103 ls []) := by
    intro x4 x5 M__103 H locs hw ls hl h
    obtain ⟨hP, hD, hS⟩ := hw
    unfold f_X7_share_j103 at h
    refine gi _ _ _ ?_
    refine lv_iload hx hb dX7_share_103 (lv_at hl 4 rfl) ?_
    refine lv_aload_n hx hb dX7_share_105 rfl (lv_at hl 0 rfl) ?_
    refine va_get (D := (dC, dI)) (ci := 7) (v := .int (M__103 0 1)) (C := RX7) (T := TX7) (N := 26) hx hb hts hin7 hown hK hP 0 rfl rfl 1 (by decide) (hts (.fieldLink RX7 99 "UnderLaddersModel" "people" "I") (by decide +kernel)) (fun _ h9 => h9) rfl dX7_share_106 ?_
    obtain ⟨u7, hu7, h⟩ := ul_cl_h h
    refine ul_cSi (As := [.int (M__103 0 1)]) (rest := [.int x4]) hP hD hS hK hA (c_X7_factorial l dC dI H.size (M__103 0 1) u7 hu7) ⟨hx, hb, hml, hown, hts⟩ (cwS 1 hts gX7_share_X7_factorial rfl rfl rfl (by decide +kernel) ⟨Nat.le_of_ble_eq_true rfl, Nat.le_of_ble_eq_true rfl⟩) rfl hl.1 rfl (Nat.le_of_ble_eq_true rfl) dX7_share_109 (fun H locs hw => ?_)
    obtain ⟨hP, hD, hS⟩ := hw
    obtain ⟨u8, hu8, h⟩ := ul_cl_h h
    refine ul_cSi (As := [.int x4, .int u7]) (rest := []) hP hD hS hK hA (c_X7_common l dC dI H.size x4 u7 u8 hu8) ⟨hx, hb, hml, hown, hts⟩ (cwS 2 hts gX7_share_X7_common rfl rfl rfl (by decide +kernel) ⟨Nat.le_of_ble_eq_true rfl, Nat.le_of_ble_eq_true rfl⟩) rfl hl.1 rfl (Nat.le_of_ble_eq_true rfl) dX7_share_112 (fun H locs hw => ?_)
    obtain ⟨hP, hD, hS⟩ := hw
    refine lv_istore (lv' := [(5, .int u8), (0, .ref (aM 0)), (1, .int p1), (2, .int p2), (3, .int p3), (4, .int x4)]) hx hb dX7_share_115 hl (by decide) rfl (fun ls hl => ?_)
    refine lv_iload_n hx hb dX7_share_117 rfl (lv_at hl 4 rfl) ?_
    refine lv_if_eq (tgt := 129) hx hb dX7_share_118 (by decide) (fun hc9 => ?_) (fun hc9 => ?_)
    · have h := ul_if_t hc9 h
      refine lv_aload_n hx hb dX7_share_129 rfl (lv_at hl 1 rfl) ?_
      refine va_get (D := (dC, dI)) (ci := 7) (v := .int (M__103 0 1)) (C := RX7) (T := TX7) (N := 26) hx hb hts hin7 hown hK hP 0 rfl rfl 1 (by decide) (hts (.fieldLink RX7 99 "UnderLaddersModel" "people" "I") (by decide +kernel)) (fun _ h9 => h9) rfl dX7_share_130 ?_
      obtain ⟨u10, hu10, h⟩ := ul_cl_h h
      refine ul_cSi (As := [.int (M__103 0 1)]) (rest := []) hP hD hS hK hA (c_X7_factorial l dC dI H.size (M__103 0 1) u10 hu10) ⟨hx, hb, hml, hown, hts⟩ (cwS 1 hts gX7_share_X7_factorial rfl rfl rfl (by decide +kernel) ⟨Nat.le_of_ble_eq_true rfl, Nat.le_of_ble_eq_true rfl⟩) rfl hl.1 rfl (Nat.le_of_ble_eq_true rfl) dX7_share_133 (fun H locs hw => ?_)
      obtain ⟨hP, hD, hS⟩ := hw
      refine lv_iload hx hb dX7_share_136 (lv_at hl 0 rfl) ?_
      obtain ⟨hz11, h⟩ := ul_nz_h h
      refine lv_idiv hx hb dX7_share_138 hz11 ?_
      have hr9 := hK0 ((u10 / u8), M__103) h
      subst hr9
      exact W.iret (v := (u10 / u8)) hx hb hr (fun t ht hW => ⟨⟨(u10 / u8), (), rfl, rfl, by rw [ht]; exact hP, va_K.moved hW.alike hK, hD⟩, hS.F ht⟩) hS.2.2 dX7_share_139
    · have h := ul_if_f hc9 h
      refine lv_iload hx hb dX7_share_121 (lv_at hl 5 rfl) ?_
      refine lv_iload hx hb dX7_share_123 (lv_at hl 0 rfl) ?_
      obtain ⟨hz12, h⟩ := ul_nz_h h
      refine lv_idiv hx hb dX7_share_125 hz12 ?_
      refine lv_goto (tgt := 139) hx hb dX7_share_126 (by decide) ?_
      have hr9 := hK0 ((x4 / u8), M__103) h
      subst hr9
      exact W.iret (v := (x4 / u8)) hx hb hr (fun t ht hW => ⟨⟨(x4 / u8), (), rfl, rfl, by rw [ht]; exact hP, va_K.moved hW.alike hK, hD⟩, hS.F ht⟩) hS.2.2 dX7_share_139
  refine gi _ _ _ ?_
  refine lv_aload_n hx hb dX7_share_0 rfl (lv_at hl 0 rfl) ?_
  refine lv_iload_n hx hb dX7_share_1 rfl (lv_at hl 1 rfl) ?_
  obtain ⟨u13, hu13, h⟩ := ul_cl_h h
  refine ul_cVi (As := [.int p1]) (rest := []) (wc' := (ul_wM cI cZ aM M d)) (wr := []) hP hD hS hK hA [0, 1, 2, 3, 4, 5, 6, 7, 8, 9, 10, 11, 12, 13, 14] [] [0, 1] ul_N0_ok trivial (c_X7_isPerson l dC dI cI cZ aM H.size M d p1 u13 hu13) rfl rfl (by decide) rfl (by decide) (by decide) rfl ⟨hx, hb, hml, hown, hts⟩ (cwV 1 hts gX7_share_X7_isPerson rfl rfl rfl (by decide +kernel) ⟨Nat.le_of_ble_eq_true rfl, Nat.le_of_ble_eq_true rfl⟩) (va_recv hK hP (ci := 7) (q0 := 0) rfl rfl) rfl hl.1 rfl (Nat.le_of_ble_eq_true rfl) dX7_share_2 (fun H locs hw => ?_)
  obtain ⟨hP, hD, hS⟩ := hw
  have hP : va_P (dC, dI) classes (ul_wM cI cZ aM M d) H := hP
  have hD : va_D A (ul_wM cI cZ aM M d) := hD
  refine lv_if_eq (tgt := 16) hx hb dX7_share_5 (by decide) (fun hc14 => ?_) (fun hc14 => ?_)
  · have h := ul_if_t hc14 h
    refine lv_iconst (v := -1) hx hb dX7_share_16 (by decide) ?_
    have hr9 := hK0 ((-1 : Int32), M) h
    subst hr9
    exact W.iret (v := (-1 : Int32)) hx hb hr (fun t ht hW => ⟨⟨(-1 : Int32), (), rfl, rfl, by rw [ht]; exact hP, va_K.moved hW.alike hK, hD⟩, hS.F ht⟩) hS.2.2 dX7_share_17
  · have h := ul_if_f hc14 h
    refine lv_aload_n hx hb dX7_share_8 rfl (lv_at hl 0 rfl) ?_
    refine lv_iload_n hx hb dX7_share_9 rfl (lv_at hl 2 rfl) ?_
    obtain ⟨u15, hu15, h⟩ := ul_cl_h h
    refine ul_cVi (As := [.int p2]) (rest := []) (wc' := (ul_wM cI cZ aM M d)) (wr := []) hP hD hS hK hA [0, 1, 2, 3, 4, 5, 6, 7, 8, 9, 10, 11, 12, 13, 14] [] [0, 1] ul_N0_ok trivial (c_X7_isLadder l dC dI cI cZ aM H.size M d p2 u15 hu15) rfl rfl (by decide) rfl (by decide) (by decide) rfl ⟨hx, hb, hml, hown, hts⟩ (cwV 1 hts gX7_share_X7_isLadder rfl rfl rfl (by decide +kernel) ⟨Nat.le_of_ble_eq_true rfl, Nat.le_of_ble_eq_true rfl⟩) (va_recv hK hP (ci := 7) (q0 := 0) rfl rfl) rfl hl.1 rfl (Nat.le_of_ble_eq_true rfl) dX7_share_10 (fun H locs hw => ?_)
    obtain ⟨hP, hD, hS⟩ := hw
    have hP : va_P (dC, dI) classes (ul_wM cI cZ aM M d) H := hP
    have hD : va_D A (ul_wM cI cZ aM M d) := hD
    refine lv_if_ne (tgt := 18) hx hb dX7_share_13 (by decide) (fun hc16 => ?_) (fun hc16 => ?_)
    · have h := ul_if_f hc16 h
      refine lv_iconst (v := 0) hx hb dX7_share_18 (by decide) ?_
      refine lv_istore (lv' := [(4, .int (0 : Int32)), (0, .ref (aM 0)), (1, .int p1), (2, .int p2), (3, .int p3)]) hx hb dX7_share_19 hl (by decide) rfl (fun ls hl => ?_)
      refine lv_iconst (v := 0) hx hb dX7_share_21 (by decide) ?_
      refine lv_istore (lv' := [(5, .int (0 : Int32)), (4, .int (0 : Int32)), (0, .ref (aM 0)), (1, .int p1), (2, .int p2), (3, .int p3)]) hx hb dX7_share_22 hl (by decide) rfl (fun ls hl => ?_)
      refine ge _ _ _ (ul_loop (P := fun q24 => ∀ (H : Heap) (locs : List Loc), ul_H (dC, dI) A s.heap (ul_wM cI cZ aM q24.2.2 d) H locs → ∀ ls : Array Slot, lv_has ls 7 [(0, .ref (aM 0)), (1, .int p1), (2, .int p2), (3, .int p3), (4, .int q24.1), (5, .int q24.2.1)] → G H locs (F0 m 24 ls [])) ?_ _ _ (ul_it_h h) H locs ⟨hP, hD, hS⟩ ls (lv_sub hl [2, 3, 4, 5, 1, 0] rfl))
      intro K24 hx24
      intro q24 ih24 h H locs hw ls hl
      have J97 : ∀ (x4 : Int32) (x5 : Int32) (M__97 : ul_S) (H : Heap) (locs : List Loc), ul_H (dC, dI) A s.heap (ul_wM cI cZ aM M__97 d) H locs → ∀ ls : Array Slot, lv_has ls 7 [(0, .ref (aM 0)), (1, .int p1), (2, .int p2), (3, .int p3), (4, .int x4), (5, .int x5)] → (f_X7_share_j97 p1 p2 p3 x4 x5 M__97).bind K24 = some r → G H locs (F0 m 97 ls []) := by
        intro x4 x5 M__97 H locs hw ls hl h
        obtain ⟨hP, hD, hS⟩ := hw
        unfold f_X7_share_j97 at h
        refine gi _ _ _ ?_
        obtain ⟨v18, ev18⟩ : ∃ z : Int32, z = x5 + 1 := ⟨_, rfl⟩
        have h := ul_bd_h h v18 ev18
        refine lv_iinc (v := v18) (lv' := [(5, .int v18), (0, .ref (aM 0)), (1, .int p1), (2, .int p2), (3, .int p3), (4, .int x4)]) hx hb dX7_share_97 hl (k := 5) rfl (by rw [ev18]; rfl) (by decide) rfl (fun ls hl => ?_)
        refine lv_goto (tgt := 24) hx hb dX7_share_100 (by decide) ?_
        exact ge _ _ _ (ih24 (x4, v18, M__97) h H locs ⟨hP, hD, hS⟩ ls (lv_sub hl [1, 2, 3, 4, 5, 0] rfl))
      obtain ⟨hP, hD, hS⟩ := hw
      unfold f_X7_share_L24 at h
      refine gi _ _ _ ?_
      refine lv_iload hx hb dX7_share_24 (lv_at hl 5 rfl) ?_
      refine lv_iconst (v := 1) hx hb dX7_share_26 (by decide) ?_
      refine lv_aload_n hx hb dX7_share_27 rfl (lv_at hl 0 rfl) ?_
      refine va_get (D := (dC, dI)) (ci := 7) (v := .int (q24.2.2 0 1)) (C := RX7) (T := TX7) (N := 26) hx hb hts hin7 hown hK hP 0 rfl rfl 1 (by decide) (hts (.fieldLink RX7 99 "UnderLaddersModel" "people" "I") (by decide +kernel)) (fun _ h9 => h9) rfl dX7_share_28 ?_
      refine lv_ishl hx hb dX7_share_31 ?_
      refine lv_icmp_ge (tgt := 103) hx hb dX7_share_32 (by decide) (fun hc30 => ?_) (fun hc30 => ?_)
      · have h := ul_if_t hc30 h
        exact ge _ _ _ (J103 q24.1 q24.2.1 q24.2.2 H locs ⟨hP, hD, hS⟩ ls (lv_sub hl [0, 1, 2, 3, 4, 5] rfl) (hx24 (q24.1, q24.2.1, q24.2.2) h))
      · have h := ul_if_f hc30 h
        refine lv_iload hx hb dX7_share_35 (lv_at hl 5 rfl) ?_
        refine lv_iload_n hx hb dX7_share_37 rfl (lv_at hl 1 rfl) ?_
        obtain ⟨u31, hu31, h⟩ := ul_cl_h h
        refine ul_cSi (As := [.int q24.2.1, .int p1]) (rest := []) hP hD hS hK hA (c_X7_has l dC dI H.size q24.2.1 p1 u31 hu31) ⟨hx, hb, hml, hown, hts⟩ (cwS 2 hts gX7_share_X7_has rfl rfl rfl (by decide +kernel) ⟨Nat.le_of_ble_eq_true rfl, Nat.le_of_ble_eq_true rfl⟩) rfl hl.1 rfl (Nat.le_of_ble_eq_true rfl) dX7_share_38 (fun H locs hw => ?_)
        obtain ⟨hP, hD, hS⟩ := hw
        refine lv_if_ne (tgt := 97) hx hb dX7_share_41 (by decide) (fun hc32 => ?_) (fun hc32 => ?_)
        · have h := ul_if_f hc32 h
          exact ge _ _ _ (J97 q24.1 q24.2.1 q24.2.2 H locs ⟨hP, hD, hS⟩ ls (lv_sub hl [0, 1, 2, 3, 4, 5] rfl) h)
        · have h := ul_if_t hc32 h
          refine lv_iload hx hb dX7_share_44 (lv_at hl 5 rfl) ?_
          obtain ⟨u33, hu33, h⟩ := ul_cl_h h
          refine ul_cSi (As := [.int q24.2.1]) (rest := []) hP hD hS hK hA (c_X7_ones l dC dI H.size q24.2.1 u33 hu33) ⟨hx, hb, hml, hown, hts⟩ (cwS 1 hts gX7_share_X7_ones rfl rfl rfl (by decide +kernel) ⟨Nat.le_of_ble_eq_true rfl, Nat.le_of_ble_eq_true rfl⟩) rfl hl.1 rfl (Nat.le_of_ble_eq_true rfl) dX7_share_46 (fun H locs hw => ?_)
          obtain ⟨hP, hD, hS⟩ := hw
          obtain ⟨u34, hu34, h⟩ := ul_cl_h h
          refine ul_cSi (As := [.int u33]) (rest := []) hP hD hS hK hA (c_X7_factorial l dC dI H.size u33 u34 hu34) ⟨hx, hb, hml, hown, hts⟩ (cwS 1 hts gX7_share_X7_factorial rfl rfl rfl (by decide +kernel) ⟨Nat.le_of_ble_eq_true rfl, Nat.le_of_ble_eq_true rfl⟩) rfl hl.1 rfl (Nat.le_of_ble_eq_true rfl) dX7_share_49 (fun H locs hw => ?_)
          obtain ⟨hP, hD, hS⟩ := hw
          refine lv_aload_n hx hb dX7_share_52 rfl (lv_at hl 0 rfl) ?_
          refine va_get (D := (dC, dI)) (ci := 7) (v := .int (q24.2.2 0 1)) (C := RX7) (T := TX7) (N := 26) hx hb hts hin7 hown hK hP 0 rfl rfl 1 (by decide) (hts (.fieldLink RX7 99 "UnderLaddersModel" "people" "I") (by decide +kernel)) (fun _ h9 => h9) rfl dX7_share_53 ?_
          refine lv_iconst (v := 1) hx hb dX7_share_56 (by decide) ?_
          refine lv_isub hx hb dX7_share_57 ?_
          refine lv_iload hx hb dX7_share_58 (lv_at hl 5 rfl) ?_
          obtain ⟨u35, hu35, h⟩ := ul_cl_h h
          refine ul_cSi (As := [.int q24.2.1]) (rest := [.int ((q24.2.2 0 1) - (1 : Int32)), .int u34]) hP hD hS hK hA (c_X7_ones l dC dI H.size q24.2.1 u35 hu35) ⟨hx, hb, hml, hown, hts⟩ (cwS 1 hts gX7_share_X7_ones rfl rfl rfl (by decide +kernel) ⟨Nat.le_of_ble_eq_true rfl, Nat.le_of_ble_eq_true rfl⟩) rfl hl.1 rfl (Nat.le_of_ble_eq_true rfl) dX7_share_60 (fun H locs hw => ?_)
          obtain ⟨hP, hD, hS⟩ := hw
          refine lv_isub hx hb dX7_share_63 ?_
          obtain ⟨u36, hu36, h⟩ := ul_cl_h h
          refine ul_cSi (As := [.int (((q24.2.2 0 1) - (1 : Int32)) - u35)]) (rest := [.int u34]) hP hD hS hK hA (c_X7_factorial l dC dI H.size (((q24.2.2 0 1) - (1 : Int32)) - u35) u36 hu36) ⟨hx, hb, hml, hown, hts⟩ (cwS 1 hts gX7_share_X7_factorial rfl rfl rfl (by decide +kernel) ⟨Nat.le_of_ble_eq_true rfl, Nat.le_of_ble_eq_true rfl⟩) rfl hl.1 rfl (Nat.le_of_ble_eq_true rfl) dX7_share_64 (fun H locs hw => ?_)
          obtain ⟨hP, hD, hS⟩ := hw
          refine lv_imul hx hb dX7_share_67 ?_
          refine lv_topi (fun v37 ev37 => ?_)
          have h := ul_bd_h h v37 ev37
          refine lv_istore (lv' := [(6, .int v37), (0, .ref (aM 0)), (1, .int p1), (2, .int p2), (3, .int p3), (4, .int q24.1), (5, .int q24.2.1)]) hx hb dX7_share_68 hl (by decide) rfl (fun ls hl => ?_)
          refine lv_iload hx hb dX7_share_70 (lv_at hl 5 rfl) ?_
          refine lv_iload hx hb dX7_share_72 (lv_at hl 0 rfl) ?_
          refine lv_aload_n hx hb dX7_share_74 rfl (lv_at hl 1 rfl) ?_
          refine lv_iload hx hb dX7_share_75 (lv_at hl 6 rfl) ?_
          refine lv_iconst (v := 1) hx hb dX7_share_77 (by decide) ?_
          refine lv_iload_n hx hb dX7_share_78 rfl (lv_at hl 2 rfl) ?_
          refine lv_ishl hx hb dX7_share_79 ?_
          refine lv_ior hx hb dX7_share_80 ?_
          refine lv_iload_n hx hb dX7_share_81 rfl (lv_at hl 3 rfl) ?_
          obtain ⟨u38, hu38, h⟩ := ul_cl_h h
          refine ul_cVi (As := [.int (q24.2.1 ||| ((1 : Int32) <<< (p1 &&& 31))), .int p2]) (rest := [.int v37, .int q24.1]) (wc' := (ul_wM cI cZ aM u38.2 d)) (wr := []) hP hD hS hK hA [0, 1, 2, 3, 4, 5, 6, 7, 8, 9, 10, 11, 12, 13, 14] [] [0, 1] ul_N0_ok trivial (c_X7_goldBy l dC dI cI cZ aM H.size q24.2.2 d (q24.2.1 ||| ((1 : Int32) <<< (p1 &&& 31))) p2 u38 hu38) rfl rfl (by decide) rfl (by decide) (by decide) rfl ⟨hx, hb, hml, hown, hts⟩ (cwV 2 hts gX7_share_X7_goldBy rfl rfl rfl (by decide +kernel) ⟨Nat.le_of_ble_eq_true rfl, Nat.le_of_ble_eq_true rfl⟩) (va_recv hK hP (ci := 7) (q0 := 0) rfl rfl) rfl hl.1 rfl (Nat.le_of_ble_eq_true rfl) dX7_share_82 (fun H locs hw => ?_)
          obtain ⟨hP, hD, hS⟩ := hw
          have hP : va_P (dC, dI) classes (ul_wM cI cZ aM u38.2 d) H := hP
          have hD : va_D A (ul_wM cI cZ aM u38.2 d) := hD
          refine lv_aload_n hx hb dX7_share_85 rfl (lv_at hl 1 rfl) ?_
          refine lv_iload hx hb dX7_share_86 (lv_at hl 6 rfl) ?_
          refine lv_iload_n hx hb dX7_share_88 rfl (lv_at hl 3 rfl) ?_
          obtain ⟨u39, hu39, h⟩ := ul_cl_h h
          refine ul_cVi (As := [.int q24.2.1, .int p2]) (rest := [.int u38.1, .int v37, .int q24.1]) (wc' := (ul_wM cI cZ aM u39.2 d)) (wr := []) hP hD hS hK hA [0, 1, 2, 3, 4, 5, 6, 7, 8, 9, 10, 11, 12, 13, 14] [] [0, 1] ul_N0_ok trivial (c_X7_goldBy l dC dI cI cZ aM H.size u38.2 d q24.2.1 p2 u39 hu39) rfl rfl (by decide) rfl (by decide) (by decide) rfl ⟨hx, hb, hml, hown, hts⟩ (cwV 2 hts gX7_share_X7_goldBy rfl rfl rfl (by decide +kernel) ⟨Nat.le_of_ble_eq_true rfl, Nat.le_of_ble_eq_true rfl⟩) (va_recv hK hP (ci := 7) (q0 := 0) rfl rfl) rfl hl.1 rfl (Nat.le_of_ble_eq_true rfl) dX7_share_89 (fun H locs hw => ?_)
          obtain ⟨hP, hD, hS⟩ := hw
          have hP : va_P (dC, dI) classes (ul_wM cI cZ aM u39.2 d) H := hP
          have hD : va_D A (ul_wM cI cZ aM u39.2 d) := hD
          refine lv_isub hx hb dX7_share_92 ?_
          refine lv_imul hx hb dX7_share_93 ?_
          refine lv_iadd hx hb dX7_share_94 ?_
          refine lv_topi (fun v40 ev40 => ?_)
          have h := ul_bd_h h v40 ev40
          refine lv_istore (lv' := [(4, .int v40), (6, .int v37), (0, .ref (aM 0)), (1, .int p1), (2, .int p2), (3, .int p3), (5, .int q24.2.1)]) hx hb dX7_share_95 hl (by decide) rfl (fun ls hl => ?_)
          exact ge _ _ _ (J97 v40 q24.2.1 u39.2 H locs ⟨hP, hD, hS⟩ ls (lv_sub hl [2, 3, 4, 5, 0, 6] rfl) h)
    · have h := ul_if_t hc16 h
      refine lv_iconst (v := -1) hx hb dX7_share_16 (by decide) ?_
      have hr9 := hK0 ((-1 : Int32), M) h
      subst hr9
      exact W.iret (v := (-1 : Int32)) hx hb hr (fun t ht hW => ⟨⟨(-1 : Int32), (), rfl, rfl, by rw [ht]; exact hP, va_K.moved hW.alike hK, hD⟩, hS.F ht⟩) hS.2.2 dX7_share_17
def f_X7_gain (M : ul_S) (p1 : Int32) (p2 : Int32) (p3 : Int32) (p4 : Int32) (p5 : Int32) : Option (Int32 × ul_S) :=
  (f_X7_layTrial M).bind fun u1 => ul_st u1 6 46 ((23 : Int32) + p1) p3 fun M2 => ul_st M2 6 46 ((23 : Int32) + p2) p4 fun M4 => (f_X7_goOn M4 (6 : Int32) (0 : Int32)).bind fun u6 => ul_ld (u6 6) 46 ((31 : Int32) + p5) fun v7 => some (v7, u6)
set_option maxHeartbeats 4000000 in
set_option maxRecDepth 100000 in
theorem c_X7_gain (l : Launch) (dC : Nat → ClassId) (dI : Nat → Nat → Nat) (cI : ClassId) (cZ : ClassId) (aM : Nat → Nat) (sz : Nat) (M : ul_S) (d : Int64) (p1 : Int32) (p2 : Int32) (p3 : Int32) (p4 : Int32) (p5 : Int32) (r : (Int32 × ul_S)) (h : f_X7_gain M p1 p2 p3 p4 p5 = some r) : Met l yX7_gain wsX7_gain ({ frames := 7, cells := 0, slots := 0, locals := 166 }) (va_Pc [.ref (aM 0), .int p1, .int p2, .int p3, .int p4, .int p5] (ul_pre (dC, dI) [(cI, .int), (cZ, .boolean)] ul_N0 sz (ul_wM cI cZ aM M d))) (va_Qi (fun v (_ : Unit) => v = r.1) (fun _ => ul_post (dC, dI) [(cI, .int), (cZ, .boolean)] (va_A (ul_wM cI cZ aM M d) sz) (ul_wM cI cZ aM r.2 d)) (va_A (ul_wM cI cZ aM M d) sz)) 0 0 (va_A (ul_wM cI cZ aM M d) sz) := by
  refine Met.ofW (cc := cX7_gain) (maxL := 6) (ret := (some .int)) (by decide) rfl ?_
  intro p e s m args below meth c s₁ B hml hv
  obtain ⟨rfl, hsz, hP, hK, hD0, hN⟩ := hv
  have hx := B.exec
  have hb := B.bytes
  have hr := B.returns
  have hts := atoms_spec (ws := wsX7_gain) B.pre
  have hown : s.vm.findClass RX7 = some m.cls := findClass_of_methodNamed B.named
  have hlocks := B.notSynchronized
  have hin7 : ∀ w ∈ u_ws RX7 TX7 26, w ∈ wsX7_gain := by decide +kernel
  subst hsz
  have hD := hD0.self (sz := s.heap.size)
  generalize hAe : va_A (ul_wM cI cZ aM M d) s.heap.size = A at hD ⊢
  have hA : ∀ q : Nat, s.heap.size ≤ q → A q := fun q h => by rw [← hAe]; exact Or.inr h
  have hS : va_S A s.heap s.heap [] := va_S.rf
  have hl := lv_entry ([.ref (aM 0), .int p1, .int p2, .int p3, .int p4, .int p5]) (n := 6) (Nat.le_of_ble_eq_true rfl)
  rw [lg_entry_eq]
  generalize (lg_sl ([.ref (aM 0), .int p1, .int p2, .int p3, .int p4, .int p5]) ++ List.replicate (6 - (lg_sl ([.ref (aM 0), .int p1, .int p2, .int p3, .int p4, .int p5])).length) Slot.unset).toArray = ls at hl ⊢
  have hl : lv_has ls 6 [(0, .ref (aM 0)), (1, .int p1), (2, .int p2), (3, .int p3), (4, .int p4), (5, .int p5)] := hl
  obtain ⟨K0, hK0, h⟩ := ul_top h
  unfold f_X7_gain at h
  refine ul_gen (fun G gi ge => ?_)
  obtain ⟨H, eH⟩ : ∃ z, z = s.heap := ⟨_, rfl⟩
  obtain ⟨locs, eL⟩ : ∃ z : List Loc, z = [] := ⟨_, rfl⟩
  have hP : va_P (dC, dI) classes (ul_wM cI cZ aM M d) H := by rw [eH]; exact hP
  have hS : va_S A s.heap H locs := by rw [eH, eL]; exact hS
  rw [← eL]
  refine (show G H locs (F0 m 0 ls []) → G s.heap locs (F0 m 0 ls []) from fun z => by rw [← eH]; exact z) ?_
  refine gi _ _ _ ?_
  refine lv_aload_n hx hb dX7_gain_0 rfl (lv_at hl 0 rfl) ?_
  obtain ⟨u1, hu1, h⟩ := ul_cl_h h
  refine ul_cVv (As := []) (rest := []) (wc' := (ul_wM cI cZ aM u1 d)) (wr := []) hP hD hS hK hA [0, 1, 2, 3, 4, 5, 6, 7, 8, 9, 10, 11, 12, 13, 14] [] [0, 1] ul_N0_ok trivial (c_X7_layTrial l dC dI cI cZ aM H.size M d u1 hu1) rfl rfl (by decide) rfl (by decide) (by decide) rfl ⟨hx, hb, hml, hown, hts⟩ (cwV 0 hts gX7_gain_X7_layTrial rfl rfl rfl (by decide +kernel) ⟨Nat.le_of_ble_eq_true rfl, Nat.le_of_ble_eq_true rfl⟩) (va_recv hK hP (ci := 7) (q0 := 0) rfl rfl) rfl hl.1 rfl (Nat.le_of_ble_eq_true rfl) dX7_gain_1 (fun H locs hw => ?_)
  obtain ⟨hP, hD, hS⟩ := hw
  have hP : va_P (dC, dI) classes (ul_wM cI cZ aM u1 d) H := hP
  have hD : va_D A (ul_wM cI cZ aM u1 d) := hD
  refine lv_aload_n hx hb dX7_gain_4 rfl (lv_at hl 0 rfl) ?_
  refine va_get (D := (dC, dI)) (ci := 7) (v := .ref (aM 6)) (C := RX7) (T := TX7) (N := 26) hx hb hts hin7 hown hK hP 0 rfl rfl 7 (by decide) (hts (.fieldLink RX7 25 "UnderLaddersModel" "now" "[I") (by decide +kernel)) (fun _ h9 => h9) rfl dX7_gain_5 ?_
  refine lv_bipush (v := 23) hx hb dX7_gain_8 (by decide) ?_
  refine lv_iload_n hx hb dX7_gain_10 rfl (lv_at hl 1 rfl) ?_
  refine lv_iadd hx hb dX7_gain_11 ?_
  refine lv_iload_n hx hb dX7_gain_12 rfl (lv_at hl 3 rfl) ?_
  obtain ⟨hi3, h⟩ := ul_st_h h
  refine va_iast hx hb hK hP hD hS 6 0 rfl rfl hi3 dX7_gain_13 (fun H locs hP hD hS => ?_)
  obtain ⟨M2, eM2⟩ : ∃ z : ul_S, z = ul_up u1 6 ((23 : Int32) + p1).toNatClampNeg p3 := ⟨_, rfl⟩
  have h := h M2 eM2
  have hP : va_P (dC, dI) classes (ul_wM cI cZ aM M2 d) H := by rw [eM2]; exact hP
  have hD : va_D A (ul_wM cI cZ aM M2 d) := by rw [eM2]; exact hD
  refine lv_aload_n hx hb dX7_gain_14 rfl (lv_at hl 0 rfl) ?_
  refine va_get (D := (dC, dI)) (ci := 7) (v := .ref (aM 6)) (C := RX7) (T := TX7) (N := 26) hx hb hts hin7 hown hK hP 0 rfl rfl 7 (by decide) (hts (.fieldLink RX7 25 "UnderLaddersModel" "now" "[I") (by decide +kernel)) (fun _ h9 => h9) rfl dX7_gain_15 ?_
  refine lv_bipush (v := 23) hx hb dX7_gain_18 (by decide) ?_
  refine lv_iload_n hx hb dX7_gain_20 rfl (lv_at hl 2 rfl) ?_
  refine lv_iadd hx hb dX7_gain_21 ?_
  refine lv_iload hx hb dX7_gain_22 (lv_at hl 4 rfl) ?_
  obtain ⟨hi5, h⟩ := ul_st_h h
  refine va_iast hx hb hK hP hD hS 6 0 rfl rfl hi5 dX7_gain_24 (fun H locs hP hD hS => ?_)
  obtain ⟨M4, eM4⟩ : ∃ z : ul_S, z = ul_up M2 6 ((23 : Int32) + p2).toNatClampNeg p4 := ⟨_, rfl⟩
  have h := h M4 eM4
  have hP : va_P (dC, dI) classes (ul_wM cI cZ aM M4 d) H := by rw [eM4]; exact hP
  have hD : va_D A (ul_wM cI cZ aM M4 d) := by rw [eM4]; exact hD
  refine lv_aload_n hx hb dX7_gain_25 rfl (lv_at hl 0 rfl) ?_
  refine lv_bipush (v := 6) hx hb dX7_gain_26 (by decide) ?_
  refine lv_iconst (v := 0) hx hb dX7_gain_28 (by decide) ?_
  obtain ⟨u6, hu6, h⟩ := ul_cl_h h
  refine ul_cVv (As := [.int (6 : Int32), .int (0 : Int32)]) (rest := []) (wc' := (ul_wM cI cZ aM u6 d)) (wr := []) hP hD hS hK hA [0, 1, 2, 3, 4, 5, 6, 7, 8, 9, 10, 11, 12, 13, 14] [] [0, 1] ul_N0_ok trivial (c_X7_goOn l dC dI cI cZ aM H.size M4 d (6 : Int32) (0 : Int32) u6 hu6) rfl rfl (by decide) rfl (by decide) (by decide) rfl ⟨hx, hb, hml, hown, hts⟩ (cwV 2 hts gX7_gain_X7_goOn rfl rfl rfl (by decide +kernel) ⟨Nat.le_of_ble_eq_true rfl, Nat.le_of_ble_eq_true rfl⟩) (va_recv hK hP (ci := 7) (q0 := 0) rfl rfl) rfl hl.1 rfl (Nat.le_of_ble_eq_true rfl) dX7_gain_29 (fun H locs hw => ?_)
  obtain ⟨hP, hD, hS⟩ := hw
  have hP : va_P (dC, dI) classes (ul_wM cI cZ aM u6 d) H := hP
  have hD : va_D A (ul_wM cI cZ aM u6 d) := hD
  refine lv_aload_n hx hb dX7_gain_32 rfl (lv_at hl 0 rfl) ?_
  refine va_get (D := (dC, dI)) (ci := 7) (v := .ref (aM 6)) (C := RX7) (T := TX7) (N := 26) hx hb hts hin7 hown hK hP 0 rfl rfl 7 (by decide) (hts (.fieldLink RX7 25 "UnderLaddersModel" "now" "[I") (by decide +kernel)) (fun _ h9 => h9) rfl dX7_gain_33 ?_
  refine lv_bipush (v := 31) hx hb dX7_gain_36 (by decide) ?_
  refine lv_iload hx hb dX7_gain_38 (lv_at hl 5 rfl) ?_
  refine lv_iadd hx hb dX7_gain_40 ?_
  obtain ⟨hi8, h⟩ := ul_ld_h h
  refine va_iald hx hb hK hP 6 0 rfl rfl hi8 dX7_gain_41 ?_
  refine lv_topi (fun v7 ev7 => ?_)
  have h := h v7 ev7
  have hr9 := hK0 (v7, u6) h
  subst hr9
  exact W.iret (v := v7) hx hb hr (fun t ht hW => ⟨⟨v7, (), rfl, rfl, by rw [ht]; exact hP, va_K.moved hW.alike hK, hD⟩, hS.F ht⟩) hS.2.2 dX7_gain_42
def f_X7_mayStand_j21 (M : ul_S) (p1 : Int32) (p2 : Int32) : Option Int32 :=
  some (1 : Int32)
def f_X7_mayStand (M : ul_S) (p1 : Int32) (p2 : Int32) : Option Int32 :=
  ul_ld (M 6) 46 p1 fun v1 => if v1 = p2 then (f_X7_mayStand_j21 M p1 p2) else ((f_X7_ladderAt M (0 : Int32) p2).bind fun u4 => if u4 = (-9 : Int32) then (f_X7_mayStand_j21 M p1 p2) else (some (0 : Int32)))
set_option maxHeartbeats 4000000 in
set_option maxRecDepth 100000 in
theorem c_X7_mayStand (l : Launch) (dC : Nat → ClassId) (dI : Nat → Nat → Nat) (cI : ClassId) (cZ : ClassId) (aM : Nat → Nat) (sz : Nat) (M : ul_S) (d : Int64) (p1 : Int32) (p2 : Int32) (r : Int32) (h : f_X7_mayStand M p1 p2 = some r) : Met l yX7_mayStand wsX7_mayStand ({ frames := 1, cells := 0, slots := 0, locals := 23 }) (va_Pc [.ref (aM 0), .int p1, .int p2] (ul_pre (dC, dI) [(cI, .int), (cZ, .boolean)] ul_N0 sz (ul_wM cI cZ aM M d))) (va_Qi (fun v (_ : Unit) => v = r) (fun _ => ul_post (dC, dI) [(cI, .int), (cZ, .boolean)] (va_A (ul_wM cI cZ aM M d) sz) (ul_wM cI cZ aM M d)) (va_A (ul_wM cI cZ aM M d) sz)) 0 0 (va_A (ul_wM cI cZ aM M d) sz) := by
  refine Met.ofW (cc := cX7_mayStand) (maxL := 3) (ret := (some .boolean)) (by decide) rfl ?_
  intro p e s m args below meth c s₁ B hml hv
  obtain ⟨rfl, hsz, hP, hK, hD0, hN⟩ := hv
  have hx := B.exec
  have hb := B.bytes
  have hr := B.returns
  have hts := atoms_spec (ws := wsX7_mayStand) B.pre
  have hown : s.vm.findClass RX7 = some m.cls := findClass_of_methodNamed B.named
  have hlocks := B.notSynchronized
  have hin7 : ∀ w ∈ u_ws RX7 TX7 26, w ∈ wsX7_mayStand := by decide +kernel
  subst hsz
  have hD := hD0.self (sz := s.heap.size)
  generalize hAe : va_A (ul_wM cI cZ aM M d) s.heap.size = A at hD ⊢
  have hA : ∀ q : Nat, s.heap.size ≤ q → A q := fun q h => by rw [← hAe]; exact Or.inr h
  have hS : va_S A s.heap s.heap [] := va_S.rf
  have hl := lv_entry ([.ref (aM 0), .int p1, .int p2]) (n := 3) (Nat.le_of_ble_eq_true rfl)
  rw [lg_entry_eq]
  generalize (lg_sl ([.ref (aM 0), .int p1, .int p2]) ++ List.replicate (3 - (lg_sl ([.ref (aM 0), .int p1, .int p2])).length) Slot.unset).toArray = ls at hl ⊢
  have hl : lv_has ls 3 [(0, .ref (aM 0)), (1, .int p1), (2, .int p2)] := hl
  obtain ⟨K0, hK0, h⟩ := ul_top h
  unfold f_X7_mayStand at h
  refine ul_gen (fun G gi ge => ?_)
  obtain ⟨H, eH⟩ : ∃ z, z = s.heap := ⟨_, rfl⟩
  obtain ⟨locs, eL⟩ : ∃ z : List Loc, z = [] := ⟨_, rfl⟩
  have hP : va_P (dC, dI) classes (ul_wM cI cZ aM M d) H := by rw [eH]; exact hP
  have hS : va_S A s.heap H locs := by rw [eH, eL]; exact hS
  rw [← eL]
  refine (show G H locs (F0 m 0 ls []) → G s.heap locs (F0 m 0 ls []) from fun z => by rw [← eH]; exact z) ?_
  have J21 : ∀ (H : Heap) (locs : List Loc), ul_H (dC, dI) A s.heap (ul_wM cI cZ aM M d) H locs → ∀ ls : Array Slot, lv_has ls 3 [(0, .ref (aM 0)), (1, .int p1), (2, .int p2)] → (f_X7_mayStand_j21 M p1 p2).bind K0 = some r → G H locs (F0 m 21 ls []) := by
    intro H locs hw ls hl h
    obtain ⟨hP, hD, hS⟩ := hw
    unfold f_X7_mayStand_j21 at h
    refine gi _ _ _ ?_
    refine lv_iconst (v := 1) hx hb dX7_mayStand_21 (by decide) ?_
    refine lv_goto (tgt := 26) hx hb dX7_mayStand_22 (by decide) ?_
    have hr9 := hK0 (1 : Int32) h
    subst hr9
    exact W.zret (v := (1 : Int32)) hx hb hr (by decide) (fun t ht hW => ⟨⟨(1 : Int32), (), rfl, rfl, by rw [ht]; exact hP, va_K.moved hW.alike hK, hD⟩, hS.F ht⟩) hS.2.2 dX7_mayStand_26
  refine gi _ _ _ ?_
  refine lv_aload_n hx hb dX7_mayStand_0 rfl (lv_at hl 0 rfl) ?_
  refine va_get (D := (dC, dI)) (ci := 7) (v := .ref (aM 6)) (C := RX7) (T := TX7) (N := 26) hx hb hts hin7 hown hK hP 0 rfl rfl 7 (by decide) (hts (.fieldLink RX7 25 "UnderLaddersModel" "now" "[I") (by decide +kernel)) (fun _ h9 => h9) rfl dX7_mayStand_1 ?_
  refine lv_iload_n hx hb dX7_mayStand_4 rfl (lv_at hl 1 rfl) ?_
  obtain ⟨hi2, h⟩ := ul_ld_h h
  refine va_iald hx hb hK hP 6 0 rfl rfl hi2 dX7_mayStand_5 ?_
  refine lv_topi (fun v1 ev1 => ?_)
  have h := h v1 ev1
  refine lv_iload_n hx hb dX7_mayStand_6 rfl (lv_at hl 2 rfl) ?_
  refine lv_icmp_eq (tgt := 21) hx hb dX7_mayStand_7 (by decide) (fun hc3 => ?_) (fun hc3 => ?_)
  · have h := ul_if_t hc3 h
    exact ge _ _ _ (J21 H locs ⟨hP, hD, hS⟩ ls (lv_sub hl [0, 1, 2] rfl) h)
  · have h := ul_if_f hc3 h
    refine lv_aload_n hx hb dX7_mayStand_10 rfl (lv_at hl 0 rfl) ?_
    refine lv_iconst (v := 0) hx hb dX7_mayStand_11 (by decide) ?_
    refine lv_iload_n hx hb dX7_mayStand_12 rfl (lv_at hl 2 rfl) ?_
    obtain ⟨u4, hu4, h⟩ := ul_cl_h h
    refine ul_cVi (As := [.int (0 : Int32), .int p2]) (rest := []) (wc' := (ul_wM cI cZ aM M d)) (wr := []) hP hD hS hK hA [0, 1, 2, 3, 4, 5, 6, 7, 8, 9, 10, 11, 12, 13, 14] [] [0, 1] ul_N0_ok trivial (c_X7_ladderAt l dC dI cI cZ aM H.size M d (0 : Int32) p2 u4 hu4) rfl rfl (by decide) rfl (by decide) (by decide) rfl ⟨hx, hb, hml, hown, hts⟩ (cwV 2 hts gX7_mayStand_X7_ladderAt rfl rfl rfl (by decide +kernel) ⟨Nat.le_of_ble_eq_true rfl, Nat.le_of_ble_eq_true rfl⟩) (va_recv hK hP (ci := 7) (q0 := 0) rfl rfl) rfl hl.1 rfl (Nat.le_of_ble_eq_true rfl) dX7_mayStand_13 (fun H locs hw => ?_)
    obtain ⟨hP, hD, hS⟩ := hw
    have hP : va_P (dC, dI) classes (ul_wM cI cZ aM M d) H := hP
    have hD : va_D A (ul_wM cI cZ aM M d) := hD
    refine lv_bipush (v := -9) hx hb dX7_mayStand_16 (by decide) ?_
    refine lv_icmp_ne (tgt := 25) hx hb dX7_mayStand_18 (by decide) (fun hc5 => ?_) (fun hc5 => ?_)
    · have h := ul_if_f hc5 h
      refine lv_iconst (v := 0) hx hb dX7_mayStand_25 (by decide) ?_
      have hr9 := hK0 (0 : Int32) h
      subst hr9
      exact W.zret (v := (0 : Int32)) hx hb hr (by decide) (fun t ht hW => ⟨⟨(0 : Int32), (), rfl, rfl, by rw [ht]; exact hP, va_K.moved hW.alike hK, hD⟩, hS.F ht⟩) hS.2.2 dX7_mayStand_26
    · have h := ul_if_t hc5 h
      exact ge _ _ _ (J21 H locs ⟨hP, hD, hS⟩ ls (lv_sub hl [0, 1, 2] rfl) h)
def f_X7_isRest_j108 (p1 : Int32) (p2 : Int32) (p3 : Int32) (p4 : Int32) (x5 : Int32) (x6 : Int32) (x7 : Int32) (M__108 : ul_S) : Option (Int32 × ul_S) :=
  some ((1 : Int32), M__108)
def f_X7_isRest_j102 (p1 : Int32) (p2 : Int32) (p3 : Int32) (p4 : Int32) (x5 : Int32) (x6 : Int32) (x7 : Int32) (M__102 : ul_S) : Option (((Int32 × ul_S) ⊕ (Int32 × ul_S)) ⊕ (Int32 × ul_S)) :=
  ul_bd (x7 + 1) fun v3 => some (.inr (v3, M__102))
def f_X7_isRest_j69 (p1 : Int32) (p2 : Int32) (p3 : Int32) (p4 : Int32) (x5 : Int32) (x6 : Int32) (x7 : Int32) (M__69 : ul_S) : Option (((Int32 × ul_S) ⊕ (Int32 × ul_S)) ⊕ (Int32 × ul_S)) :=
  (f_X7_mayStand M__69 p2 x7).bind fun u5 => if u5 = 0 then (f_X7_isRest_j102 p1 p2 p3 p4 x5 x6 x7 M__69) else (if x7 = p3 then (f_X7_isRest_j102 p1 p2 p3 p4 x5 x6 x7 M__69) else ((f_X7_gain M__69 p1 p2 p3 x7 p2).bind fun u8 => if u8.1 ≤ x6 then (f_X7_isRest_j102 p1 p2 p3 p4 x5 x6 x7 u8.2) else (some (.inl (.inl ((0 : Int32), u8.2))))))
def f_X7_isRest_L27 (p1 : Int32) (p2 : Int32) (p3 : Int32) (p4 : Int32) (y5 : Int32) (y6 : Int32) (q27 : (Int32 × ul_S)) : Option (((Int32 × ul_S) ⊕ (Int32 × ul_S)) ⊕ (Int32 × ul_S)) :=
  if (10 : Int32) ≤ q27.1 then (some (.inl (.inr (q27.1, q27.2)))) else ((f_X7_mayStand q27.2 p1 q27.1).bind fun u16 => if u16 = 0 then (f_X7_isRest_j69 p1 p2 p3 p4 y5 y6 q27.1 q27.2) else (if q27.1 = p4 then (f_X7_isRest_j69 p1 p2 p3 p4 y5 y6 q27.1 q27.2) else ((f_X7_gain q27.2 p1 p2 q27.1 p4 p1).bind fun u19 => if u19.1 ≤ y5 then (f_X7_isRest_j69 p1 p2 p3 p4 y5 y6 q27.1 u19.2) else (some (.inl (.inl ((0 : Int32), u19.2)))))))
def f_X7_isRest (M : ul_S) (p1 : Int32) (p2 : Int32) (p3 : Int32) (p4 : Int32) : Option (Int32 × ul_S) :=
  (f_X7_gain M p1 p2 p3 p4 p1).bind fun u1 => (f_X7_gain u1.2 p1 p2 p3 p4 p2).bind fun u2 => (ul_it ul_N (f_X7_isRest_L27 p1 p2 p3 p4 u1.1 u2.1) ((0 : Int32), u2.2)).bind (Sum.elim (fun z => some z) (fun e27 => f_X7_isRest_j108 p1 p2 p3 p4 u1.1 u2.1 e27.1 e27.2))
set_option maxHeartbeats 4000000 in
set_option maxRecDepth 100000 in
theorem c_X7_isRest (l : Launch) (dC : Nat → ClassId) (dI : Nat → Nat → Nat) (cI : ClassId) (cZ : ClassId) (aM : Nat → Nat) (sz : Nat) (M : ul_S) (d : Int64) (p1 : Int32) (p2 : Int32) (p3 : Int32) (p4 : Int32) (r : (Int32 × ul_S)) (h : f_X7_isRest M p1 p2 p3 p4 = some r) : Met l yX7_isRest wsX7_isRest ({ frames := 8, cells := 0, slots := 0, locals := 191 }) (va_Pc [.ref (aM 0), .int p1, .int p2, .int p3, .int p4] (ul_pre (dC, dI) [(cI, .int), (cZ, .boolean)] ul_N0 sz (ul_wM cI cZ aM M d))) (va_Qi (fun v (_ : Unit) => v = r.1) (fun _ => ul_post (dC, dI) [(cI, .int), (cZ, .boolean)] (va_A (ul_wM cI cZ aM M d) sz) (ul_wM cI cZ aM r.2 d)) (va_A (ul_wM cI cZ aM M d) sz)) 0 0 (va_A (ul_wM cI cZ aM M d) sz) := by
  refine Met.ofW (cc := cX7_isRest) (maxL := 8) (ret := (some .boolean)) (by decide) rfl ?_
  intro p e s m args below meth c s₁ B hml hv
  obtain ⟨rfl, hsz, hP, hK, hD0, hN⟩ := hv
  have hx := B.exec
  have hb := B.bytes
  have hr := B.returns
  have hts := atoms_spec (ws := wsX7_isRest) B.pre
  have hown : s.vm.findClass RX7 = some m.cls := findClass_of_methodNamed B.named
  have hlocks := B.notSynchronized
  have hin7 : ∀ w ∈ u_ws RX7 TX7 26, w ∈ wsX7_isRest := by decide +kernel
  subst hsz
  have hD := hD0.self (sz := s.heap.size)
  generalize hAe : va_A (ul_wM cI cZ aM M d) s.heap.size = A at hD ⊢
  have hA : ∀ q : Nat, s.heap.size ≤ q → A q := fun q h => by rw [← hAe]; exact Or.inr h
  have hS : va_S A s.heap s.heap [] := va_S.rf
  have hl := lv_entry ([.ref (aM 0), .int p1, .int p2, .int p3, .int p4]) (n := 8) (Nat.le_of_ble_eq_true rfl)
  rw [lg_entry_eq]
  generalize (lg_sl ([.ref (aM 0), .int p1, .int p2, .int p3, .int p4]) ++ List.replicate (8 - (lg_sl ([.ref (aM 0), .int p1, .int p2, .int p3, .int p4])).length) Slot.unset).toArray = ls at hl ⊢
  have hl : lv_has ls 8 [(0, .ref (aM 0)), (1, .int p1), (2, .int p2), (3, .int p3), (4, .int p4)] := hl
  obtain ⟨K0, hK0, h⟩ := ul_top h
  unfold f_X7_isRest at h
  refine ul_gen (fun G gi ge => ?_)
  obtain ⟨H, eH⟩ : ∃ z, z = s.heap := ⟨_, rfl⟩
  obtain ⟨locs, eL⟩ : ∃ z : List Loc, z = [] := ⟨_, rfl⟩
  have hP : va_P (dC, dI) classes (ul_wM cI cZ aM M d) H := by rw [eH]; exact hP
  have hS : va_S A s.heap H locs := by rw [eH, eL]; exact hS
  rw [← eL]
  refine (show G H locs (F0 m 0 ls []) → G s.heap locs (F0 m 0 ls []) from fun z => by rw [← eH]; exact z) ?_
  have J108 : ∀ (x5 : Int32) (x6 : Int32) (x7 : Int32) (M__108 : ul_S) (H : Heap) (locs : List Loc), ul_H (dC, dI) A s.heap (ul_wM cI cZ aM M__108 d) H locs → ∀ ls : Array Slot, lv_has ls 8 [(0, .ref (aM 0)), (1, .int p1), (2, .int p2), (3, .int p3), (4, .int p4), (5, .int x5), (6, .int x6), (7, .int x7)] → (f_X7_isRest_j108 p1 p2 p3 p4 x5 x6 x7 M__108).bind K0 = some r → G H locs (F0 m 108 ls []) := by
    intro x5 x6 x7 M__108 H locs hw ls hl h
    obtain ⟨hP, hD, hS⟩ := hw
    unfold f_X7_isRest_j108 at h
    refine gi _ _ _ ?_
    refine lv_iconst (v := 1) hx hb dX7_isRest_108 (by decide) ?_
    have hr9 := hK0 ((1 : Int32), M__108) h
    subst hr9
    exact W.zret (v := (1 : Int32)) hx hb hr (by decide) (fun t ht hW => ⟨⟨(1 : Int32), (), rfl, rfl, by rw [ht]; exact hP, va_K.moved hW.alike hK, hD⟩, hS.F ht⟩) hS.2.2 dX7_isRest_109
  refine gi _ _ _ ?_
  refine lv_aload_n hx hb dX7_isRest_0 rfl (lv_at hl 0 rfl) ?_
  refine lv_iload_n hx hb dX7_isRest_1 rfl (lv_at hl 1 rfl) ?_
  refine lv_iload_n hx hb dX7_isRest_2 rfl (lv_at hl 2 rfl) ?_
  refine lv_iload_n hx hb dX7_isRest_3 rfl (lv_at hl 3 rfl) ?_
  refine lv_iload hx hb dX7_isRest_4 (lv_at hl 4 rfl) ?_
  refine lv_iload_n hx hb dX7_isRest_6 rfl (lv_at hl 1 rfl) ?_
  obtain ⟨u1, hu1, h⟩ := ul_cl_h h
  refine ul_cVi (As := [.int p1, .int p2, .int p3, .int p4, .int p1]) (rest := []) (wc' := (ul_wM cI cZ aM u1.2 d)) (wr := []) hP hD hS hK hA [0, 1, 2, 3, 4, 5, 6, 7, 8, 9, 10, 11, 12, 13, 14] [] [0, 1] ul_N0_ok trivial (c_X7_gain l dC dI cI cZ aM H.size M d p1 p2 p3 p4 p1 u1 hu1) rfl rfl (by decide) rfl (by decide) (by decide) rfl ⟨hx, hb, hml, hown, hts⟩ (cwV 5 hts gX7_isRest_X7_gain rfl rfl rfl (by decide +kernel) ⟨Nat.le_of_ble_eq_true rfl, Nat.le_of_ble_eq_true rfl⟩) (va_recv hK hP (ci := 7) (q0 := 0) rfl rfl) rfl hl.1 rfl (Nat.le_of_ble_eq_true rfl) dX7_isRest_7 (fun H locs hw => ?_)
  obtain ⟨hP, hD, hS⟩ := hw
  have hP : va_P (dC, dI) classes (ul_wM cI cZ aM u1.2 d) H := hP
  have hD : va_D A (ul_wM cI cZ aM u1.2 d) := hD
  refine lv_istore (lv' := [(5, .int u1.1), (0, .ref (aM 0)), (1, .int p1), (2, .int p2), (3, .int p3), (4, .int p4)]) hx hb dX7_isRest_10 hl (by decide) rfl (fun ls hl => ?_)
  refine lv_aload_n hx hb dX7_isRest_12 rfl (lv_at hl 1 rfl) ?_
  refine lv_iload_n hx hb dX7_isRest_13 rfl (lv_at hl 2 rfl) ?_
  refine lv_iload_n hx hb dX7_isRest_14 rfl (lv_at hl 3 rfl) ?_
  refine lv_iload_n hx hb dX7_isRest_15 rfl (lv_at hl 4 rfl) ?_
  refine lv_iload hx hb dX7_isRest_16 (lv_at hl 5 rfl) ?_
  refine lv_iload_n hx hb dX7_isRest_18 rfl (lv_at hl 3 rfl) ?_
  obtain ⟨u2, hu2, h⟩ := ul_cl_h h
  refine ul_cVi (As := [.int p1, .int p2, .int p3, .int p4, .int p2]) (rest := []) (wc' := (ul_wM cI cZ aM u2.2 d)) (wr := []) hP hD hS hK hA [0, 1, 2, 3, 4, 5, 6, 7, 8, 9, 10, 11, 12, 13, 14] [] [0, 1] ul_N0_ok trivial (c_X7_gain l dC dI cI cZ aM H.size u1.2 d p1 p2 p3 p4 p2 u2 hu2) rfl rfl (by decide) rfl (by decide) (by decide) rfl ⟨hx, hb, hml, hown, hts⟩ (cwV 5 hts gX7_isRest_X7_gain rfl rfl rfl (by decide +kernel) ⟨Nat.le_of_ble_eq_true rfl, Nat.le_of_ble_eq_true rfl⟩) (va_recv hK hP (ci := 7) (q0 := 0) rfl rfl) rfl hl.1 rfl (Nat.le_of_ble_eq_true rfl) dX7_isRest_19 (fun H locs hw => ?_)
  obtain ⟨hP, hD, hS⟩ := hw
  have hP : va_P (dC, dI) classes (ul_wM cI cZ aM u2.2 d) H := hP
  have hD : va_D A (ul_wM cI cZ aM u2.2 d) := hD
  refine lv_istore (lv' := [(6, .int u2.1), (5, .int u1.1), (0, .ref (aM 0)), (1, .int p1), (2, .int p2), (3, .int p3), (4, .int p4)]) hx hb dX7_isRest_22 hl (by decide) rfl (fun ls hl => ?_)
  refine lv_iconst (v := 0) hx hb dX7_isRest_24 (by decide) ?_
  refine lv_istore (lv' := [(7, .int (0 : Int32)), (6, .int u2.1), (5, .int u1.1), (0, .ref (aM 0)), (1, .int p1), (2, .int p2), (3, .int p3), (4, .int p4)]) hx hb dX7_isRest_25 hl (by decide) rfl (fun ls hl => ?_)
  refine ge _ _ _ (ul_loop (P := fun q27 => ∀ (H : Heap) (locs : List Loc), ul_H (dC, dI) A s.heap (ul_wM cI cZ aM q27.2 d) H locs → ∀ ls : Array Slot, lv_has ls 8 [(0, .ref (aM 0)), (1, .int p1), (2, .int p2), (3, .int p3), (4, .int p4), (5, .int u1.1), (6, .int u2.1), (7, .int q27.1)] → G H locs (F0 m 27 ls [])) ?_ _ _ (ul_it_h h) H locs ⟨hP, hD, hS⟩ ls (lv_sub hl [3, 4, 5, 6, 7, 2, 1, 0] rfl))
  intro K27 hx27
  intro q27 ih27 h H locs hw ls hl
  have J102 : ∀ (x7 : Int32) (M__102 : ul_S) (H : Heap) (locs : List Loc), ul_H (dC, dI) A s.heap (ul_wM cI cZ aM M__102 d) H locs → ∀ ls : Array Slot, lv_has ls 8 [(0, .ref (aM 0)), (1, .int p1), (2, .int p2), (3, .int p3), (4, .int p4), (5, .int u1.1), (6, .int u2.1), (7, .int x7)] → (f_X7_isRest_j102 p1 p2 p3 p4 u1.1 u2.1 x7 M__102).bind K27 = some r → G H locs (F0 m 102 ls []) := by
    intro x7 M__102 H locs hw ls hl h
    obtain ⟨hP, hD, hS⟩ := hw
    unfold f_X7_isRest_j102 at h
    refine gi _ _ _ ?_
    obtain ⟨v4, ev4⟩ : ∃ z : Int32, z = x7 + 1 := ⟨_, rfl⟩
    have h := ul_bd_h h v4 ev4
    refine lv_iinc (v := v4) (lv' := [(7, .int v4), (0, .ref (aM 0)), (1, .int p1), (2, .int p2), (3, .int p3), (4, .int p4), (5, .int u1.1), (6, .int u2.1)]) hx hb dX7_isRest_102 hl (k := 7) rfl (by rw [ev4]; rfl) (by decide) rfl (fun ls hl => ?_)
    refine lv_goto (tgt := 27) hx hb dX7_isRest_105 (by decide) ?_
    exact ge _ _ _ (ih27 (v4, M__102) h H locs ⟨hP, hD, hS⟩ ls (lv_sub hl [1, 2, 3, 4, 5, 6, 7, 0] rfl))
  have J69 : ∀ (x7 : Int32) (M__69 : ul_S) (H : Heap) (locs : List Loc), ul_H (dC, dI) A s.heap (ul_wM cI cZ aM M__69 d) H locs → ∀ ls : Array Slot, lv_has ls 8 [(0, .ref (aM 0)), (1, .int p1), (2, .int p2), (3, .int p3), (4, .int p4), (5, .int u1.1), (6, .int u2.1), (7, .int x7)] → (f_X7_isRest_j69 p1 p2 p3 p4 u1.1 u2.1 x7 M__69).bind K27 = some r → G H locs (F0 m 69 ls []) := by
    intro x7 M__69 H locs hw ls hl h
    obtain ⟨hP, hD, hS⟩ := hw
    unfold f_X7_isRest_j69 at h
    refine gi _ _ _ ?_
    refine lv_aload_n hx hb dX7_isRest_69 rfl (lv_at hl 0 rfl) ?_
    refine lv_iload_n hx hb dX7_isRest_70 rfl (lv_at hl 2 rfl) ?_
    refine lv_iload hx hb dX7_isRest_71 (lv_at hl 7 rfl) ?_
    obtain ⟨u10, hu10, h⟩ := ul_cl_h h
    refine ul_cVi (As := [.int p2, .int x7]) (rest := []) (wc' := (ul_wM cI cZ aM M__69 d)) (wr := []) hP hD hS hK hA [0, 1, 2, 3, 4, 5, 6, 7, 8, 9, 10, 11, 12, 13, 14] [] [0, 1] ul_N0_ok trivial (c_X7_mayStand l dC dI cI cZ aM H.size M__69 d p2 x7 u10 hu10) rfl rfl (by decide) rfl (by decide) (by decide) rfl ⟨hx, hb, hml, hown, hts⟩ (cwV 2 hts gX7_isRest_X7_mayStand rfl rfl rfl (by decide +kernel) ⟨Nat.le_of_ble_eq_true rfl, Nat.le_of_ble_eq_true rfl⟩) (va_recv hK hP (ci := 7) (q0 := 0) rfl rfl) rfl hl.1 rfl (Nat.le_of_ble_eq_true rfl) dX7_isRest_73 (fun H locs hw => ?_)
    obtain ⟨hP, hD, hS⟩ := hw
    have hP : va_P (dC, dI) classes (ul_wM cI cZ aM M__69 d) H := hP
    have hD : va_D A (ul_wM cI cZ aM M__69 d) := hD
    refine lv_if_eq (tgt := 102) hx hb dX7_isRest_76 (by decide) (fun hc11 => ?_) (fun hc11 => ?_)
    · have h := ul_if_t hc11 h
      exact ge _ _ _ (J102 x7 M__69 H locs ⟨hP, hD, hS⟩ ls (lv_sub hl [0, 1, 2, 3, 4, 5, 6, 7] rfl) h)
    · have h := ul_if_f hc11 h
      refine lv_iload hx hb dX7_isRest_79 (lv_at hl 7 rfl) ?_
      refine lv_iload_n hx hb dX7_isRest_81 rfl (lv_at hl 3 rfl) ?_
      refine lv_icmp_eq (tgt := 102) hx hb dX7_isRest_82 (by decide) (fun hc12 => ?_) (fun hc12 => ?_)
      · have h := ul_if_t hc12 h
        exact ge _ _ _ (J102 x7 M__69 H locs ⟨hP, hD, hS⟩ ls (lv_sub hl [0, 1, 2, 3, 4, 5, 6, 7] rfl) h)
      · have h := ul_if_f hc12 h
        refine lv_aload_n hx hb dX7_isRest_85 rfl (lv_at hl 0 rfl) ?_
        refine lv_iload_n hx hb dX7_isRest_86 rfl (lv_at hl 1 rfl) ?_
        refine lv_iload_n hx hb dX7_isRest_87 rfl (lv_at hl 2 rfl) ?_
        refine lv_iload_n hx hb dX7_isRest_88 rfl (lv_at hl 3 rfl) ?_
        refine lv_iload hx hb dX7_isRest_89 (lv_at hl 7 rfl) ?_
        refine lv_iload_n hx hb dX7_isRest_91 rfl (lv_at hl 2 rfl) ?_
        obtain ⟨u13, hu13, h⟩ := ul_cl_h h
        refine ul_cVi (As := [.int p1, .int p2, .int p3, .int x7, .int p2]) (rest := []) (wc' := (ul_wM cI cZ aM u13.2 d)) (wr := []) hP hD hS hK hA [0, 1, 2, 3, 4, 5, 6, 7, 8, 9, 10, 11, 12, 13, 14] [] [0, 1] ul_N0_ok trivial (c_X7_gain l dC dI cI cZ aM H.size M__69 d p1 p2 p3 x7 p2 u13 hu13) rfl rfl (by decide) rfl (by decide) (by decide) rfl ⟨hx, hb, hml, hown, hts⟩ (cwV 5 hts gX7_isRest_X7_gain rfl rfl rfl (by decide +kernel) ⟨Nat.le_of_ble_eq_true rfl, Nat.le_of_ble_eq_true rfl⟩) (va_recv hK hP (ci := 7) (q0 := 0) rfl rfl) rfl hl.1 rfl (Nat.le_of_ble_eq_true rfl) dX7_isRest_92 (fun H locs hw => ?_)
        obtain ⟨hP, hD, hS⟩ := hw
        have hP : va_P (dC, dI) classes (ul_wM cI cZ aM u13.2 d) H := hP
        have hD : va_D A (ul_wM cI cZ aM u13.2 d) := hD
        refine lv_iload hx hb dX7_isRest_95 (lv_at hl 6 rfl) ?_
        refine lv_icmp_le (tgt := 102) hx hb dX7_isRest_97 (by decide) (fun hc14 => ?_) (fun hc14 => ?_)
        · have h := ul_if_t hc14 h
          exact ge _ _ _ (J102 x7 u13.2 H locs ⟨hP, hD, hS⟩ ls (lv_sub hl [0, 1, 2, 3, 4, 5, 6, 7] rfl) h)
        · have h := ul_if_f hc14 h
          refine lv_iconst (v := 0) hx hb dX7_isRest_100 (by decide) ?_
          have hr9 := hK0 ((0 : Int32), u13.2) (hx27 (.inl ((0 : Int32), u13.2)) h)
          subst hr9
          exact W.zret (v := (0 : Int32)) hx hb hr (by decide) (fun t ht hW => ⟨⟨(0 : Int32), (), rfl, rfl, by rw [ht]; exact hP, va_K.moved hW.alike hK, hD⟩, hS.F ht⟩) hS.2.2 dX7_isRest_101
  obtain ⟨hP, hD, hS⟩ := hw
  unfold f_X7_isRest_L27 at h
  refine gi _ _ _ ?_
  refine lv_iload hx hb dX7_isRest_27 (lv_at hl 7 rfl) ?_
  refine lv_bipush (v := 10) hx hb dX7_isRest_29 (by decide) ?_
  refine lv_icmp_ge (tgt := 108) hx hb dX7_isRest_31 (by decide) (fun hc21 => ?_) (fun hc21 => ?_)
  · have h := ul_if_t hc21 h
    exact ge _ _ _ (J108 u1.1 u2.1 q27.1 q27.2 H locs ⟨hP, hD, hS⟩ ls (lv_sub hl [0, 1, 2, 3, 4, 5, 6, 7] rfl) (hx27 (.inr (q27.1, q27.2)) h))
  · have h := ul_if_f hc21 h
    refine lv_aload_n hx hb dX7_isRest_34 rfl (lv_at hl 0 rfl) ?_
    refine lv_iload_n hx hb dX7_isRest_35 rfl (lv_at hl 1 rfl) ?_
    refine lv_iload hx hb dX7_isRest_36 (lv_at hl 7 rfl) ?_
    obtain ⟨u22, hu22, h⟩ := ul_cl_h h
    refine ul_cVi (As := [.int p1, .int q27.1]) (rest := []) (wc' := (ul_wM cI cZ aM q27.2 d)) (wr := []) hP hD hS hK hA [0, 1, 2, 3, 4, 5, 6, 7, 8, 9, 10, 11, 12, 13, 14] [] [0, 1] ul_N0_ok trivial (c_X7_mayStand l dC dI cI cZ aM H.size q27.2 d p1 q27.1 u22 hu22) rfl rfl (by decide) rfl (by decide) (by decide) rfl ⟨hx, hb, hml, hown, hts⟩ (cwV 2 hts gX7_isRest_X7_mayStand rfl rfl rfl (by decide +kernel) ⟨Nat.le_of_ble_eq_true rfl, Nat.le_of_ble_eq_true rfl⟩) (va_recv hK hP (ci := 7) (q0 := 0) rfl rfl) rfl hl.1 rfl (Nat.le_of_ble_eq_true rfl) dX7_isRest_38 (fun H locs hw => ?_)
    obtain ⟨hP, hD, hS⟩ := hw
    have hP : va_P (dC, dI) classes (ul_wM cI cZ aM q27.2 d) H := hP
    have hD : va_D A (ul_wM cI cZ aM q27.2 d) := hD
    refine lv_if_eq (tgt := 69) hx hb dX7_isRest_41 (by decide) (fun hc23 => ?_) (fun hc23 => ?_)
    · have h := ul_if_t hc23 h
      exact ge _ _ _ (J69 q27.1 q27.2 H locs ⟨hP, hD, hS⟩ ls (lv_sub hl [0, 1, 2, 3, 4, 5, 6, 7] rfl) h)
    · have h := ul_if_f hc23 h
      refine lv_iload hx hb dX7_isRest_44 (lv_at hl 7 rfl) ?_
      refine lv_iload hx hb dX7_isRest_46 (lv_at hl 4 rfl) ?_
      refine lv_icmp_eq (tgt := 69) hx hb dX7_isRest_48 (by decide) (fun hc24 => ?_) (fun hc24 => ?_)
      · have h := ul_if_t hc24 h
        exact ge _ _ _ (J69 q27.1 q27.2 H locs ⟨hP, hD, hS⟩ ls (lv_sub hl [0, 1, 2, 3, 4, 5, 6, 7] rfl) h)
      · have h := ul_if_f hc24 h
        refine lv_aload_n hx hb dX7_isRest_51 rfl (lv_at hl 0 rfl) ?_
        refine lv_iload_n hx hb dX7_isRest_52 rfl (lv_at hl 1 rfl) ?_
        refine lv_iload_n hx hb dX7_isRest_53 rfl (lv_at hl 2 rfl) ?_
        refine lv_iload hx hb dX7_isRest_54 (lv_at hl 7 rfl) ?_
        refine lv_iload hx hb dX7_isRest_56 (lv_at hl 4 rfl) ?_
        refine lv_iload_n hx hb dX7_isRest_58 rfl (lv_at hl 1 rfl) ?_
        obtain ⟨u25, hu25, h⟩ := ul_cl_h h
        refine ul_cVi (As := [.int p1, .int p2, .int q27.1, .int p4, .int p1]) (rest := []) (wc' := (ul_wM cI cZ aM u25.2 d)) (wr := []) hP hD hS hK hA [0, 1, 2, 3, 4, 5, 6, 7, 8, 9, 10, 11, 12, 13, 14] [] [0, 1] ul_N0_ok trivial (c_X7_gain l dC dI cI cZ aM H.size q27.2 d p1 p2 q27.1 p4 p1 u25 hu25) rfl rfl (by decide) rfl (by decide) (by decide) rfl ⟨hx, hb, hml, hown, hts⟩ (cwV 5 hts gX7_isRest_X7_gain rfl rfl rfl (by decide +kernel) ⟨Nat.le_of_ble_eq_true rfl, Nat.le_of_ble_eq_true rfl⟩) (va_recv hK hP (ci := 7) (q0 := 0) rfl rfl) rfl hl.1 rfl (Nat.le_of_ble_eq_true rfl) dX7_isRest_59 (fun H locs hw => ?_)
        obtain ⟨hP, hD, hS⟩ := hw
        have hP : va_P (dC, dI) classes (ul_wM cI cZ aM u25.2 d) H := hP
        have hD : va_D A (ul_wM cI cZ aM u25.2 d) := hD
        refine lv_iload hx hb dX7_isRest_62 (lv_at hl 5 rfl) ?_
        refine lv_icmp_le (tgt := 69) hx hb dX7_isRest_64 (by decide) (fun hc26 => ?_) (fun hc26 => ?_)
        · have h := ul_if_t hc26 h
          exact ge _ _ _ (J69 q27.1 u25.2 H locs ⟨hP, hD, hS⟩ ls (lv_sub hl [0, 1, 2, 3, 4, 5, 6, 7] rfl) h)
        · have h := ul_if_f hc26 h
          refine lv_iconst (v := 0) hx hb dX7_isRest_67 (by decide) ?_
          have hr9 := hK0 ((0 : Int32), u25.2) (hx27 (.inl ((0 : Int32), u25.2)) h)
          subst hr9
          exact W.zret (v := (0 : Int32)) hx hb hr (by decide) (fun t ht hW => ⟨⟨(0 : Int32), (), rfl, rfl, by rw [ht]; exact hP, va_K.moved hW.alike hK, hD⟩, hS.F ht⟩) hS.2.2 dX7_isRest_68
def f_X7_rests_j130 (p1 : Int32) (p2 : Int32) (p3 : Int32) (x4 : Int32) (x5 : Int32) (x6 : Int32) (M__130 : ul_S) : Option (Int32 × ul_S) :=
  if p3 = 0 then (some (x4, M__130)) else (some (x5, M__130))
def f_X7_rests_j124 (p1 : Int32) (p2 : Int32) (p3 : Int32) (x4 : Int32) (x5 : Int32) (x6 : Int32) (x7 : Int32) (x8 : Int32) (M__124 : ul_S) : Option ((Int32 × Int32 × Int32 × ul_S) ⊕ (Int32 × Int32 × Int32 × ul_S)) :=
  ul_bd (x6 + 1) fun v10 => some (.inr (x4, x5, v10, M__124))
def f_X7_rests_j119 (p1 : Int32) (p2 : Int32) (p3 : Int32) (x4 : Int32) (x5 : Int32) (x6 : Int32) (x7 : Int32) (x8 : Int32) (t0 : Int32) (M__119 : ul_S) : Option ((Int32 × Int32 × Int32 × ul_S) ⊕ (Int32 × Int32 × Int32 × ul_S)) :=
  ul_bd (x4 + 1) fun v12 => f_X7_rests_j124 p1 p2 p3 v12 t0 x6 x7 x8 M__119
def f_X7_rests_L46 (p1 : Int32) (p2 : Int32) (p3 : Int32) (q46 : (Int32 × Int32 × Int32 × ul_S)) : Option ((Int32 × Int32 × Int32 × ul_S) ⊕ (Int32 × Int32 × Int32 × ul_S)) :=
  if (100 : Int32) ≤ q46.2.2.1 then (some (.inl (q46.1, q46.2.1, q46.2.2.1, q46.2.2.2))) else (ul_bd (q46.2.2.1 / (10 : Int32)) fun v15 => ul_bd (q46.2.2.1 - q46.2.2.1 / (10 : Int32) * (10 : Int32)) fun v16 => if v15 = v16 then (f_X7_rests_j124 p1 p2 p3 q46.1 q46.2.1 q46.2.2.1 v15 v16 q46.2.2.2) else ((f_X7_mayStand q46.2.2.2 p1 v15).bind fun u18 => if u18 = 0 then (f_X7_rests_j124 p1 p2 p3 q46.1 q46.2.1 q46.2.2.1 v15 v16 q46.2.2.2) else ((f_X7_mayStand q46.2.2.2 p2 v16).bind fun u20 => if u20 = 0 then (f_X7_rests_j124 p1 p2 p3 q46.1 q46.2.1 q46.2.2.1 v15 v16 q46.2.2.2) else ((f_X7_isRest q46.2.2.2 p1 p2 v15 v16).bind fun u22 => if u22.1 = 0 then (f_X7_rests_j124 p1 p2 p3 q46.1 q46.2.1 q46.2.2.1 v15 v16 u22.2) else (if q46.1 = 0 then (f_X7_rests_j119 p1 p2 p3 q46.1 q46.2.1 q46.2.2.1 v15 v16 q46.2.2.1 u22.2) else (f_X7_rests_j119 p1 p2 p3 q46.1 q46.2.1 q46.2.2.1 v15 v16 q46.2.1 u22.2))))))
def f_X7_rests (M : ul_S) (p1 : Int32) (p2 : Int32) (p3 : Int32) : Option (Int32 × ul_S) :=
  (f_X7_isLadder M p1).bind fun u3 => if u3 = 0 then (some ((-1 : Int32), M)) else ((f_X7_isLadder M p2).bind fun u5 => if u5 = 0 then (some ((-1 : Int32), M)) else (if p1 = p2 then (some ((-2 : Int32), M)) else ((f_X7_in p3.toInt64 (0 : Int64) (1 : Int64)).bind fun u8 => if u8 = 0 then (some ((-2 : Int32), M)) else ((ul_it ul_N (f_X7_rests_L46 p1 p2 p3) ((0 : Int32), (-9 : Int32), (0 : Int32), M)).bind (fun e46 => f_X7_rests_j130 p1 p2 p3 e46.1 e46.2.1 e46.2.2.1 e46.2.2.2)))))
set_option maxHeartbeats 4000000 in
set_option maxRecDepth 100000 in
theorem c_X7_rests (l : Launch) (dC : Nat → ClassId) (dI : Nat → Nat → Nat) (cI : ClassId) (cZ : ClassId) (aM : Nat → Nat) (sz : Nat) (M : ul_S) (d : Int64) (p1 : Int32) (p2 : Int32) (p3 : Int32) (r : (Int32 × ul_S)) (h : f_X7_rests M p1 p2 p3 = some r) : Met l yX7_rests wsX7_rests ({ frames := 9, cells := 0, slots := 0, locals := 218 }) (va_Pc [.ref (aM 0), .int p1, .int p2, .int p3] (ul_pre (dC, dI) [(cI, .int), (cZ, .boolean)] ul_N0 sz (ul_wM cI cZ aM M d))) (va_Qi (fun v (_ : Unit) => v = r.1) (fun _ => ul_post (dC, dI) [(cI, .int), (cZ, .boolean)] (va_A (ul_wM cI cZ aM M d) sz) (ul_wM cI cZ aM r.2 d)) (va_A (ul_wM cI cZ aM M d) sz)) 0 0 (va_A (ul_wM cI cZ aM M d) sz) := by
  refine Met.ofW (cc := cX7_rests) (maxL := 9) (ret := (some .int)) (by decide) rfl ?_
  intro p e s m args below meth c s₁ B hml hv
  obtain ⟨rfl, hsz, hP, hK, hD0, hN⟩ := hv
  have hx := B.exec
  have hb := B.bytes
  have hr := B.returns
  have hts := atoms_spec (ws := wsX7_rests) B.pre
  have hown : s.vm.findClass RX7 = some m.cls := findClass_of_methodNamed B.named
  have hlocks := B.notSynchronized
  have hin7 : ∀ w ∈ u_ws RX7 TX7 26, w ∈ wsX7_rests := by decide +kernel
  subst hsz
  have hD := hD0.self (sz := s.heap.size)
  generalize hAe : va_A (ul_wM cI cZ aM M d) s.heap.size = A at hD ⊢
  have hA : ∀ q : Nat, s.heap.size ≤ q → A q := fun q h => by rw [← hAe]; exact Or.inr h
  have hS : va_S A s.heap s.heap [] := va_S.rf
  have hl := lv_entry ([.ref (aM 0), .int p1, .int p2, .int p3]) (n := 9) (Nat.le_of_ble_eq_true rfl)
  rw [lg_entry_eq]
  generalize (lg_sl ([.ref (aM 0), .int p1, .int p2, .int p3]) ++ List.replicate (9 - (lg_sl ([.ref (aM 0), .int p1, .int p2, .int p3])).length) Slot.unset).toArray = ls at hl ⊢
  have hl : lv_has ls 9 [(0, .ref (aM 0)), (1, .int p1), (2, .int p2), (3, .int p3)] := hl
  obtain ⟨K0, hK0, h⟩ := ul_top h
  unfold f_X7_rests at h
  refine ul_gen (fun G gi ge => ?_)
  obtain ⟨H, eH⟩ : ∃ z, z = s.heap := ⟨_, rfl⟩
  obtain ⟨locs, eL⟩ : ∃ z : List Loc, z = [] := ⟨_, rfl⟩
  have hP : va_P (dC, dI) classes (ul_wM cI cZ aM M d) H := by rw [eH]; exact hP
  have hS : va_S A s.heap H locs := by rw [eH, eL]; exact hS
  rw [← eL]
  refine (show G H locs (F0 m 0 ls []) → G s.heap locs (F0 m 0 ls []) from fun z => by rw [← eH]; exact z) ?_
  have J130 : ∀ (x4 : Int32) (x5 : Int32) (x6 : Int32) (M__130 : ul_S) (H : Heap) (locs : List Loc), ul_H (dC, dI) A s.heap (ul_wM cI cZ aM M__130 d) H locs → ∀ ls : Array Slot, lv_has ls 9 [(0, .ref (aM 0)), (1, .int p1), (2, .int p2), (3, .int p3), (4, .int x4), (5, .int x5), (6, .int x6)] → (f_X7_rests_j130 p1 p2 p3 x4 x5 x6 M__130).bind K0 = some r → G H locs (F0 m 130 ls []) := by
    intro x4 x5 x6 M__130 H locs hw ls hl h
    obtain ⟨hP, hD, hS⟩ := hw
    unfold f_X7_rests_j130 at h
    refine gi _ _ _ ?_
    refine lv_iload_n hx hb dX7_rests_130 rfl (lv_at hl 3 rfl) ?_
    refine lv_if_ne (tgt := 139) hx hb dX7_rests_131 (by decide) (fun hc2 => ?_) (fun hc2 => ?_)
    · have h := ul_if_f hc2 h
      refine lv_iload hx hb dX7_rests_139 (lv_at hl 5 rfl) ?_
      have hr9 := hK0 (x5, M__130) h
      subst hr9
      exact W.iret (v := x5) hx hb hr (fun t ht hW => ⟨⟨x5, (), rfl, rfl, by rw [ht]; exact hP, va_K.moved hW.alike hK, hD⟩, hS.F ht⟩) hS.2.2 dX7_rests_141
    · have h := ul_if_t hc2 h
      refine lv_iload hx hb dX7_rests_134 (lv_at hl 4 rfl) ?_
      refine lv_goto (tgt := 141) hx hb dX7_rests_136 (by decide) ?_
      have hr9 := hK0 (x4, M__130) h
      subst hr9
      exact W.iret (v := x4) hx hb hr (fun t ht hW => ⟨⟨x4, (), rfl, rfl, by rw [ht]; exact hP, va_K.moved hW.alike hK, hD⟩, hS.F ht⟩) hS.2.2 dX7_rests_141
  refine gi _ _ _ ?_
  refine lv_aload_n hx hb dX7_rests_0 rfl (lv_at hl 0 rfl) ?_
  refine lv_iload_n hx hb dX7_rests_1 rfl (lv_at hl 1 rfl) ?_
  obtain ⟨u3, hu3, h⟩ := ul_cl_h h
  refine ul_cVi (As := [.int p1]) (rest := []) (wc' := (ul_wM cI cZ aM M d)) (wr := []) hP hD hS hK hA [0, 1, 2, 3, 4, 5, 6, 7, 8, 9, 10, 11, 12, 13, 14] [] [0, 1] ul_N0_ok trivial (c_X7_isLadder l dC dI cI cZ aM H.size M d p1 u3 hu3) rfl rfl (by decide) rfl (by decide) (by decide) rfl ⟨hx, hb, hml, hown, hts⟩ (cwV 1 hts gX7_rests_X7_isLadder rfl rfl rfl (by decide +kernel) ⟨Nat.le_of_ble_eq_true rfl, Nat.le_of_ble_eq_true rfl⟩) (va_recv hK hP (ci := 7) (q0 := 0) rfl rfl) rfl hl.1 rfl (Nat.le_of_ble_eq_true rfl) dX7_rests_2 (fun H locs hw => ?_)
  obtain ⟨hP, hD, hS⟩ := hw
  have hP : va_P (dC, dI) classes (ul_wM cI cZ aM M d) H := hP
  have hD : va_D A (ul_wM cI cZ aM M d) := hD
  refine lv_if_eq (tgt := 16) hx hb dX7_rests_5 (by decide) (fun hc4 => ?_) (fun hc4 => ?_)
  · have h := ul_if_t hc4 h
    refine lv_iconst (v := -1) hx hb dX7_rests_16 (by decide) ?_
    have hr9 := hK0 ((-1 : Int32), M) h
    subst hr9
    exact W.iret (v := (-1 : Int32)) hx hb hr (fun t ht hW => ⟨⟨(-1 : Int32), (), rfl, rfl, by rw [ht]; exact hP, va_K.moved hW.alike hK, hD⟩, hS.F ht⟩) hS.2.2 dX7_rests_17
  · have h := ul_if_f hc4 h
    refine lv_aload_n hx hb dX7_rests_8 rfl (lv_at hl 0 rfl) ?_
    refine lv_iload_n hx hb dX7_rests_9 rfl (lv_at hl 2 rfl) ?_
    obtain ⟨u5, hu5, h⟩ := ul_cl_h h
    refine ul_cVi (As := [.int p2]) (rest := []) (wc' := (ul_wM cI cZ aM M d)) (wr := []) hP hD hS hK hA [0, 1, 2, 3, 4, 5, 6, 7, 8, 9, 10, 11, 12, 13, 14] [] [0, 1] ul_N0_ok trivial (c_X7_isLadder l dC dI cI cZ aM H.size M d p2 u5 hu5) rfl rfl (by decide) rfl (by decide) (by decide) rfl ⟨hx, hb, hml, hown, hts⟩ (cwV 1 hts gX7_rests_X7_isLadder rfl rfl rfl (by decide +kernel) ⟨Nat.le_of_ble_eq_true rfl, Nat.le_of_ble_eq_true rfl⟩) (va_recv hK hP (ci := 7) (q0 := 0) rfl rfl) rfl hl.1 rfl (Nat.le_of_ble_eq_true rfl) dX7_rests_10 (fun H locs hw => ?_)
    obtain ⟨hP, hD, hS⟩ := hw
    have hP : va_P (dC, dI) classes (ul_wM cI cZ aM M d) H := hP
    have hD : va_D A (ul_wM cI cZ aM M d) := hD
    refine lv_if_ne (tgt := 18) hx hb dX7_rests_13 (by decide) (fun hc6 => ?_) (fun hc6 => ?_)
    · have h := ul_if_f hc6 h
      refine lv_iload_n hx hb dX7_rests_18 rfl (lv_at hl 1 rfl) ?_
      refine lv_iload_n hx hb dX7_rests_19 rfl (lv_at hl 2 rfl) ?_
      refine lv_icmp_eq (tgt := 33) hx hb dX7_rests_20 (by decide) (fun hc7 => ?_) (fun hc7 => ?_)
      · have h := ul_if_t hc7 h
        refine lv_bipush (v := -2) hx hb dX7_rests_33 (by decide) ?_
        have hr9 := hK0 ((-2 : Int32), M) h
        subst hr9
        exact W.iret (v := (-2 : Int32)) hx hb hr (fun t ht hW => ⟨⟨(-2 : Int32), (), rfl, rfl, by rw [ht]; exact hP, va_K.moved hW.alike hK, hD⟩, hS.F ht⟩) hS.2.2 dX7_rests_35
      · have h := ul_if_f hc7 h
        refine lv_iload_n hx hb dX7_rests_23 rfl (lv_at hl 3 rfl) ?_
        refine lv_i2l hx hb dX7_rests_24 rfl ?_
        refine lv_lconst (v := 0) hx hb dX7_rests_25 (by decide) ?_
        refine lv_lconst (v := 1) hx hb dX7_rests_26 (by decide) ?_
        obtain ⟨u8, hu8, h⟩ := ul_cl_h h
        refine ul_cSi (As := [.long p3.toInt64, .long (0 : Int64), .long (1 : Int64)]) (rest := []) hP hD hS hK hA (c_X7_in l dC dI H.size p3.toInt64 (0 : Int64) (1 : Int64) u8 hu8) ⟨hx, hb, hml, hown, hts⟩ (cwS 3 hts gX7_rests_X7_in rfl rfl rfl (by decide +kernel) ⟨Nat.le_of_ble_eq_true rfl, Nat.le_of_ble_eq_true rfl⟩) rfl hl.1 rfl (Nat.le_of_ble_eq_true rfl) dX7_rests_27 (fun H locs hw => ?_)
        obtain ⟨hP, hD, hS⟩ := hw
        refine lv_if_ne (tgt := 36) hx hb dX7_rests_30 (by decide) (fun hc9 => ?_) (fun hc9 => ?_)
        · have h := ul_if_f hc9 h
          refine lv_iconst (v := 0) hx hb dX7_rests_36 (by decide) ?_
          refine lv_istore (lv' := [(4, .int (0 : Int32)), (0, .ref (aM 0)), (1, .int p1), (2, .int p2), (3, .int p3)]) hx hb dX7_rests_37 hl (by decide) rfl (fun ls hl => ?_)
          refine lv_bipush (v := -9) hx hb dX7_rests_39 (by decide) ?_
          refine lv_istore (lv' := [(5, .int (-9 : Int32)), (4, .int (0 : Int32)), (0, .ref (aM 0)), (1, .int p1), (2, .int p2), (3, .int p3)]) hx hb dX7_rests_41 hl (by decide) rfl (fun ls hl => ?_)
          refine lv_iconst (v := 0) hx hb dX7_rests_43 (by decide) ?_
          refine lv_istore (lv' := [(6, .int (0 : Int32)), (5, .int (-9 : Int32)), (4, .int (0 : Int32)), (0, .ref (aM 0)), (1, .int p1), (2, .int p2), (3, .int p3)]) hx hb dX7_rests_44 hl (by decide) rfl (fun ls hl => ?_)
          refine ge _ _ _ (ul_loop (P := fun q46 => ∀ (H : Heap) (locs : List Loc), ul_H (dC, dI) A s.heap (ul_wM cI cZ aM q46.2.2.2 d) H locs → ∀ ls : Array Slot, lv_has ls 9 [(0, .ref (aM 0)), (1, .int p1), (2, .int p2), (3, .int p3), (4, .int q46.1), (5, .int q46.2.1), (6, .int q46.2.2.1)] → G H locs (F0 m 46 ls [])) ?_ _ _ (ul_it_h h) H locs ⟨hP, hD, hS⟩ ls (lv_sub hl [3, 4, 5, 6, 2, 1, 0] rfl))
          intro K46 hx46
          intro q46 ih46 h H locs hw ls hl
          have J124 : ∀ (x4 : Int32) (x5 : Int32) (x6 : Int32) (x7 : Int32) (x8 : Int32) (M__124 : ul_S) (H : Heap) (locs : List Loc), ul_H (dC, dI) A s.heap (ul_wM cI cZ aM M__124 d) H locs → ∀ ls : Array Slot, lv_has ls 9 [(0, .ref (aM 0)), (1, .int p1), (2, .int p2), (3, .int p3), (4, .int x4), (5, .int x5), (6, .int x6), (7, .int x7), (8, .int x8)] → (f_X7_rests_j124 p1 p2 p3 x4 x5 x6 x7 x8 M__124).bind K46 = some r → G H locs (F0 m 124 ls []) := by
            intro x4 x5 x6 x7 x8 M__124 H locs hw ls hl h
            obtain ⟨hP, hD, hS⟩ := hw
            unfold f_X7_rests_j124 at h
            refine gi _ _ _ ?_
            obtain ⟨v11, ev11⟩ : ∃ z : Int32, z = x6 + 1 := ⟨_, rfl⟩
            have h := ul_bd_h h v11 ev11
            refine lv_iinc (v := v11) (lv' := [(6, .int v11), (0, .ref (aM 0)), (1, .int p1), (2, .int p2), (3, .int p3), (4, .int x4), (5, .int x5), (7, .int x7), (8, .int x8)]) hx hb dX7_rests_124 hl (k := 6) rfl (by rw [ev11]; rfl) (by decide) rfl (fun ls hl => ?_)
            refine lv_goto (tgt := 46) hx hb dX7_rests_127 (by decide) ?_
            exact ge _ _ _ (ih46 (x4, x5, v11, M__124) h H locs ⟨hP, hD, hS⟩ ls (lv_sub hl [1, 2, 3, 4, 5, 6, 0] rfl))
          have J119 : ∀ (x4 : Int32) (x5 : Int32) (x6 : Int32) (x7 : Int32) (x8 : Int32) (t0 : Int32) (M__119 : ul_S) (H : Heap) (locs : List Loc), ul_H (dC, dI) A s.heap (ul_wM cI cZ aM M__119 d) H locs → ∀ ls : Array Slot, lv_has ls 9 [(0, .ref (aM 0)), (1, .int p1), (2, .int p2), (3, .int p3), (4, .int x4), (5, .int x5), (6, .int x6), (7, .int x7), (8, .int x8)] → (f_X7_rests_j119 p1 p2 p3 x4 x5 x6 x7 x8 t0 M__119).bind K46 = some r → G H locs (F0 m 119 ls [.int t0]) := by
            intro x4 x5 x6 x7 x8 t0 M__119 H locs hw ls hl h
            obtain ⟨hP, hD, hS⟩ := hw
            unfold f_X7_rests_j119 at h
            refine gi _ _ _ ?_
            refine lv_istore (lv' := [(5, .int t0), (0, .ref (aM 0)), (1, .int p1), (2, .int p2), (3, .int p3), (4, .int x4), (6, .int x6), (7, .int x7), (8, .int x8)]) hx hb dX7_rests_119 hl (by decide) rfl (fun ls hl => ?_)
            obtain ⟨v13, ev13⟩ : ∃ z : Int32, z = x4 + 1 := ⟨_, rfl⟩
            have h := ul_bd_h h v13 ev13
            refine lv_iinc (v := v13) (lv' := [(4, .int v13), (5, .int t0), (0, .ref (aM 0)), (1, .int p1), (2, .int p2), (3, .int p3), (6, .int x6), (7, .int x7), (8, .int x8)]) hx hb dX7_rests_121 hl (k := 5) rfl (by rw [ev13]; rfl) (by decide) rfl (fun ls hl => ?_)
            exact ge _ _ _ (J124 v13 t0 x6 x7 x8 M__119 H locs ⟨hP, hD, hS⟩ ls (lv_sub hl [2, 3, 4, 5, 0, 1, 6, 7, 8] rfl) h)
          obtain ⟨hP, hD, hS⟩ := hw
          unfold f_X7_rests_L46 at h
          refine gi _ _ _ ?_
          refine lv_iload hx hb dX7_rests_46 (lv_at hl 6 rfl) ?_
          refine lv_bipush (v := 100) hx hb dX7_rests_48 (by decide) ?_
          refine lv_icmp_ge (tgt := 130) hx hb dX7_rests_50 (by decide) (fun hc25 => ?_) (fun hc25 => ?_)
          · have h := ul_if_t hc25 h
            exact ge _ _ _ (J130 q46.1 q46.2.1 q46.2.2.1 q46.2.2.2 H locs ⟨hP, hD, hS⟩ ls (lv_sub hl [0, 1, 2, 3, 4, 5, 6] rfl) (hx46 (q46.1, q46.2.1, q46.2.2.1, q46.2.2.2) h))
          · have h := ul_if_f hc25 h
            refine lv_iload hx hb dX7_rests_53 (lv_at hl 6 rfl) ?_
            refine lv_bipush (v := 10) hx hb dX7_rests_55 (by decide) ?_
            refine lv_idiv hx hb dX7_rests_57 (by decide) ?_
            refine lv_topi (fun v26 ev26 => ?_)
            have h := ul_bd_h h v26 ev26
            refine lv_istore (lv' := [(7, .int v26), (0, .ref (aM 0)), (1, .int p1), (2, .int p2), (3, .int p3), (4, .int q46.1), (5, .int q46.2.1), (6, .int q46.2.2.1)]) hx hb dX7_rests_58 hl (by decide) rfl (fun ls hl => ?_)
            refine lv_iload hx hb dX7_rests_60 (lv_at hl 7 rfl) ?_
            refine lv_bipush (v := 10) hx hb dX7_rests_62 (by decide) ?_
            refine lv_irem hx hb dX7_rests_64 (by decide) ?_
            refine lv_topi (fun v27 ev27 => ?_)
            have h := ul_bd_h h v27 ev27
            refine lv_istore (lv' := [(8, .int v27), (7, .int v26), (0, .ref (aM 0)), (1, .int p1), (2, .int p2), (3, .int p3), (4, .int q46.1), (5, .int q46.2.1), (6, .int q46.2.2.1)]) hx hb dX7_rests_65 hl (by decide) rfl (fun ls hl => ?_)
            refine lv_iload hx hb dX7_rests_67 (lv_at hl 1 rfl) ?_
            refine lv_iload hx hb dX7_rests_69 (lv_at hl 0 rfl) ?_
            refine lv_icmp_eq (tgt := 124) hx hb dX7_rests_71 (by decide) (fun hc28 => ?_) (fun hc28 => ?_)
            · have h := ul_if_t hc28 h
              exact ge _ _ _ (J124 q46.1 q46.2.1 q46.2.2.1 v26 v27 q46.2.2.2 H locs ⟨hP, hD, hS⟩ ls (lv_sub hl [2, 3, 4, 5, 6, 7, 8, 1, 0] rfl) h)
            · have h := ul_if_f hc28 h
              refine lv_aload_n hx hb dX7_rests_74 rfl (lv_at hl 2 rfl) ?_
              refine lv_iload_n hx hb dX7_rests_75 rfl (lv_at hl 3 rfl) ?_
              refine lv_iload hx hb dX7_rests_76 (lv_at hl 1 rfl) ?_
              obtain ⟨u29, hu29, h⟩ := ul_cl_h h
              refine ul_cVi (As := [.int p1, .int v26]) (rest := []) (wc' := (ul_wM cI cZ aM q46.2.2.2 d)) (wr := []) hP hD hS hK hA [0, 1, 2, 3, 4, 5, 6, 7, 8, 9, 10, 11, 12, 13, 14] [] [0, 1] ul_N0_ok trivial (c_X7_mayStand l dC dI cI cZ aM H.size q46.2.2.2 d p1 v26 u29 hu29) rfl rfl (by decide) rfl (by decide) (by decide) rfl ⟨hx, hb, hml, hown, hts⟩ (cwV 2 hts gX7_rests_X7_mayStand rfl rfl rfl (by decide +kernel) ⟨Nat.le_of_ble_eq_true rfl, Nat.le_of_ble_eq_true rfl⟩) (va_recv hK hP (ci := 7) (q0 := 0) rfl rfl) rfl hl.1 rfl (Nat.le_of_ble_eq_true rfl) dX7_rests_78 (fun H locs hw => ?_)
              obtain ⟨hP, hD, hS⟩ := hw
              have hP : va_P (dC, dI) classes (ul_wM cI cZ aM q46.2.2.2 d) H := hP
              have hD : va_D A (ul_wM cI cZ aM q46.2.2.2 d) := hD
              refine lv_if_eq (tgt := 124) hx hb dX7_rests_81 (by decide) (fun hc30 => ?_) (fun hc30 => ?_)
              · have h := ul_if_t hc30 h
                exact ge _ _ _ (J124 q46.1 q46.2.1 q46.2.2.1 v26 v27 q46.2.2.2 H locs ⟨hP, hD, hS⟩ ls (lv_sub hl [2, 3, 4, 5, 6, 7, 8, 1, 0] rfl) h)
              · have h := ul_if_f hc30 h
                refine lv_aload_n hx hb dX7_rests_84 rfl (lv_at hl 2 rfl) ?_
                refine lv_iload_n hx hb dX7_rests_85 rfl (lv_at hl 4 rfl) ?_
                refine lv_iload hx hb dX7_rests_86 (lv_at hl 0 rfl) ?_
                obtain ⟨u31, hu31, h⟩ := ul_cl_h h
                refine ul_cVi (As := [.int p2, .int v27]) (rest := []) (wc' := (ul_wM cI cZ aM q46.2.2.2 d)) (wr := []) hP hD hS hK hA [0, 1, 2, 3, 4, 5, 6, 7, 8, 9, 10, 11, 12, 13, 14] [] [0, 1] ul_N0_ok trivial (c_X7_mayStand l dC dI cI cZ aM H.size q46.2.2.2 d p2 v27 u31 hu31) rfl rfl (by decide) rfl (by decide) (by decide) rfl ⟨hx, hb, hml, hown, hts⟩ (cwV 2 hts gX7_rests_X7_mayStand rfl rfl rfl (by decide +kernel) ⟨Nat.le_of_ble_eq_true rfl, Nat.le_of_ble_eq_true rfl⟩) (va_recv hK hP (ci := 7) (q0 := 0) rfl rfl) rfl hl.1 rfl (Nat.le_of_ble_eq_true rfl) dX7_rests_88 (fun H locs hw => ?_)
                obtain ⟨hP, hD, hS⟩ := hw
                have hP : va_P (dC, dI) classes (ul_wM cI cZ aM q46.2.2.2 d) H := hP
                have hD : va_D A (ul_wM cI cZ aM q46.2.2.2 d) := hD
                refine lv_if_eq (tgt := 124) hx hb dX7_rests_91 (by decide) (fun hc32 => ?_) (fun hc32 => ?_)
                · have h := ul_if_t hc32 h
                  exact ge _ _ _ (J124 q46.1 q46.2.1 q46.2.2.1 v26 v27 q46.2.2.2 H locs ⟨hP, hD, hS⟩ ls (lv_sub hl [2, 3, 4, 5, 6, 7, 8, 1, 0] rfl) h)
                · have h := ul_if_f hc32 h
                  refine lv_aload_n hx hb dX7_rests_94 rfl (lv_at hl 2 rfl) ?_
                  refine lv_iload_n hx hb dX7_rests_95 rfl (lv_at hl 3 rfl) ?_
                  refine lv_iload_n hx hb dX7_rests_96 rfl (lv_at hl 4 rfl) ?_
                  refine lv_iload hx hb dX7_rests_97 (lv_at hl 1 rfl) ?_
                  refine lv_iload hx hb dX7_rests_99 (lv_at hl 0 rfl) ?_
                  obtain ⟨u33, hu33, h⟩ := ul_cl_h h
                  refine ul_cVi (As := [.int p1, .int p2, .int v26, .int v27]) (rest := []) (wc' := (ul_wM cI cZ aM u33.2 d)) (wr := []) hP hD hS hK hA [0, 1, 2, 3, 4, 5, 6, 7, 8, 9, 10, 11, 12, 13, 14] [] [0, 1] ul_N0_ok trivial (c_X7_isRest l dC dI cI cZ aM H.size q46.2.2.2 d p1 p2 v26 v27 u33 hu33) rfl rfl (by decide) rfl (by decide) (by decide) rfl ⟨hx, hb, hml, hown, hts⟩ (cwV 4 hts gX7_rests_X7_isRest rfl rfl rfl (by decide +kernel) ⟨Nat.le_of_ble_eq_true rfl, Nat.le_of_ble_eq_true rfl⟩) (va_recv hK hP (ci := 7) (q0 := 0) rfl rfl) rfl hl.1 rfl (Nat.le_of_ble_eq_true rfl) dX7_rests_101 (fun H locs hw => ?_)
                  obtain ⟨hP, hD, hS⟩ := hw
                  have hP : va_P (dC, dI) classes (ul_wM cI cZ aM u33.2 d) H := hP
                  have hD : va_D A (ul_wM cI cZ aM u33.2 d) := hD
                  refine lv_if_eq (tgt := 124) hx hb dX7_rests_104 (by decide) (fun hc34 => ?_) (fun hc34 => ?_)
                  · have h := ul_if_t hc34 h
                    exact ge _ _ _ (J124 q46.1 q46.2.1 q46.2.2.1 v26 v27 u33.2 H locs ⟨hP, hD, hS⟩ ls (lv_sub hl [2, 3, 4, 5, 6, 7, 8, 1, 0] rfl) h)
                  · have h := ul_if_f hc34 h
                    refine lv_iload hx hb dX7_rests_107 (lv_at hl 6 rfl) ?_
                    refine lv_if_ne (tgt := 117) hx hb dX7_rests_109 (by decide) (fun hc35 => ?_) (fun hc35 => ?_)
                    · have h := ul_if_f hc35 h
                      refine lv_iload hx hb dX7_rests_117 (lv_at hl 7 rfl) ?_
                      exact ge _ _ _ (J119 q46.1 q46.2.1 q46.2.2.1 v26 v27 q46.2.1 u33.2 H locs ⟨hP, hD, hS⟩ ls (lv_sub hl [2, 3, 4, 5, 6, 7, 8, 1, 0] rfl) h)
                    · have h := ul_if_t hc35 h
                      refine lv_iload hx hb dX7_rests_112 (lv_at hl 8 rfl) ?_
                      refine lv_goto (tgt := 119) hx hb dX7_rests_114 (by decide) ?_
                      exact ge _ _ _ (J119 q46.1 q46.2.1 q46.2.2.1 v26 v27 q46.2.2.1 u33.2 H locs ⟨hP, hD, hS⟩ ls (lv_sub hl [2, 3, 4, 5, 6, 7, 8, 1, 0] rfl) h)
        · have h := ul_if_t hc9 h
          refine lv_bipush (v := -2) hx hb dX7_rests_33 (by decide) ?_
          have hr9 := hK0 ((-2 : Int32), M) h
          subst hr9
          exact W.iret (v := (-2 : Int32)) hx hb hr (fun t ht hW => ⟨⟨(-2 : Int32), (), rfl, rfl, by rw [ht]; exact hP, va_K.moved hW.alike hK, hD⟩, hS.F ht⟩) hS.2.2 dX7_rests_35
    · have h := ul_if_t hc6 h
      refine lv_iconst (v := -1) hx hb dX7_rests_16 (by decide) ?_
      have hr9 := hK0 ((-1 : Int32), M) h
      subst hr9
      exact W.iret (v := (-1 : Int32)) hx hb hr (fun t ht hW => ⟨⟨(-1 : Int32), (), rfl, rfl, by rw [ht]; exact hP, va_K.moved hW.alike hK, hD⟩, hS.F ht⟩) hS.2.2 dX7_rests_17
def f_X7_power_j19 (p0 : Int32) (p1 : Int32) (x2 : Int32) (x3 : Int32) : Option Int32 :=
  some x2
def f_X7_power_L4 (p0 : Int32) (p1 : Int32) (q4 : (Int32 × Int32)) : Option ((Int32 × Int32) ⊕ (Int32 × Int32)) :=
  if p1 ≤ q4.2 then (some (.inl (q4.1, q4.2))) else (ul_bd (q4.1 * p0) fun v2 => ul_bd (q4.2 + 1) fun v3 => some (.inr (v2, v3)))
def f_X7_power (p0 : Int32) (p1 : Int32) : Option Int32 :=
  (ul_it ul_N (f_X7_power_L4 p0 p1) ((1 : Int32), (0 : Int32))).bind (fun e4 => f_X7_power_j19 p0 p1 e4.1 e4.2)
set_option maxHeartbeats 4000000 in
set_option maxRecDepth 100000 in
theorem c_X7_power (l : Launch) (dC : Nat → ClassId) (dI : Nat → Nat → Nat) (sz : Nat) (p0 : Int32) (p1 : Int32) (r : Int32) (h : f_X7_power p0 p1 = some r) : Met l yX7_power wsX7_power ({ frames := 0, cells := 0, slots := 0, locals := 0 }) (va_Pc [.int p0, .int p1] (ul_pre (dC, dI) [] ul_N0 sz [])) (va_Qi (fun v (_ : Unit) => v = r) (fun _ => ul_post (dC, dI) [] (va_A [] sz) []) (va_A [] sz)) 0 0 (va_A [] sz) := by
  refine Met.ofW (cc := cX7_power) (maxL := 4) (ret := (some .int)) (by decide) rfl ?_
  intro p e s m args below meth c s₁ B hml hv
  obtain ⟨rfl, hsz, hP, hK, hD0, hN⟩ := hv
  have hx := B.exec
  have hb := B.bytes
  have hr := B.returns
  have hts := atoms_spec (ws := wsX7_power) B.pre
  have hown : s.vm.findClass RX7 = some m.cls := findClass_of_methodNamed B.named
  have hlocks := B.notSynchronized
  subst hsz
  have hD := hD0.self (sz := s.heap.size)
  generalize hAe : va_A [] s.heap.size = A at hD ⊢
  have hA : ∀ q : Nat, s.heap.size ≤ q → A q := fun q h => by rw [← hAe]; exact Or.inr h
  have hS : va_S A s.heap s.heap [] := va_S.rf
  have hl := lv_entry ([.int p0, .int p1]) (n := 4) (Nat.le_of_ble_eq_true rfl)
  rw [lg_entry_eq]
  generalize (lg_sl ([.int p0, .int p1]) ++ List.replicate (4 - (lg_sl ([.int p0, .int p1])).length) Slot.unset).toArray = ls at hl ⊢
  have hl : lv_has ls 4 [(0, .int p0), (1, .int p1)] := hl
  obtain ⟨K0, hK0, h⟩ := ul_top h
  unfold f_X7_power at h
  refine ul_gen (fun G gi ge => ?_)
  obtain ⟨H, eH⟩ : ∃ z, z = s.heap := ⟨_, rfl⟩
  obtain ⟨locs, eL⟩ : ∃ z : List Loc, z = [] := ⟨_, rfl⟩
  have hP : va_P (dC, dI) classes [] H := by rw [eH]; exact hP
  have hS : va_S A s.heap H locs := by rw [eH, eL]; exact hS
  rw [← eL]
  refine (show G H locs (F0 m 0 ls []) → G s.heap locs (F0 m 0 ls []) from fun z => by rw [← eH]; exact z) ?_
  have J19 : ∀ (x2 : Int32) (x3 : Int32) (H : Heap) (locs : List Loc), ul_H (dC, dI) A s.heap [] H locs → ∀ ls : Array Slot, lv_has ls 4 [(0, .int p0), (1, .int p1), (2, .int x2), (3, .int x3)] → (f_X7_power_j19 p0 p1 x2 x3).bind K0 = some r → G H locs (F0 m 19 ls []) := by
    intro x2 x3 H locs hw ls hl h
    obtain ⟨hP, hD, hS⟩ := hw
    unfold f_X7_power_j19 at h
    refine gi _ _ _ ?_
    refine lv_iload_n hx hb dX7_power_19 rfl (lv_at hl 2 rfl) ?_
    have hr9 := hK0 x2 h
    subst hr9
    exact W.iret (v := x2) hx hb hr (fun t ht hW => ⟨⟨x2, (), rfl, rfl, by rw [ht]; exact hP, va_K.moved hW.alike hK, hD⟩, hS.F ht⟩) hS.2.2 dX7_power_20
  refine gi _ _ _ ?_
  refine lv_iconst (v := 1) hx hb dX7_power_0 (by decide) ?_
  refine lv_istore_n (lv' := [(2, .int (1 : Int32)), (0, .int p0), (1, .int p1)]) hx hb dX7_power_1 rfl hl (by decide) rfl (fun ls hl => ?_)
  refine lv_iconst (v := 0) hx hb dX7_power_2 (by decide) ?_
  refine lv_istore_n (lv' := [(3, .int (0 : Int32)), (2, .int (1 : Int32)), (0, .int p0), (1, .int p1)]) hx hb dX7_power_3 rfl hl (by decide) rfl (fun ls hl => ?_)
  refine ge _ _ _ (ul_loop (P := fun q4 => ∀ (H : Heap) (locs : List Loc), ul_H (dC, dI) A s.heap [] H locs → ∀ ls : Array Slot, lv_has ls 4 [(0, .int p0), (1, .int p1), (2, .int q4.1), (3, .int q4.2)] → G H locs (F0 m 4 ls [])) ?_ _ _ (ul_it_h h) H locs ⟨hP, hD, hS⟩ ls (lv_sub hl [2, 3, 1, 0] rfl))
  intro K4 hx4
  intro q4 ih4 h H locs hw ls hl
  obtain ⟨hP, hD, hS⟩ := hw
  unfold f_X7_power_L4 at h
  refine gi _ _ _ ?_
  refine lv_iload_n hx hb dX7_power_4 rfl (lv_at hl 3 rfl) ?_
  refine lv_iload_n hx hb dX7_power_5 rfl (lv_at hl 1 rfl) ?_
  refine lv_icmp_ge (tgt := 19) hx hb dX7_power_6 (by decide) (fun hc4 => ?_) (fun hc4 => ?_)
  · have h := ul_if_t hc4 h
    exact ge _ _ _ (J19 q4.1 q4.2 H locs ⟨hP, hD, hS⟩ ls (lv_sub hl [0, 1, 2, 3] rfl) (hx4 (q4.1, q4.2) h))
  · have h := ul_if_f hc4 h
    refine lv_iload_n hx hb dX7_power_9 rfl (lv_at hl 2 rfl) ?_
    refine lv_iload_n hx hb dX7_power_10 rfl (lv_at hl 0 rfl) ?_
    refine lv_imul hx hb dX7_power_11 ?_
    refine lv_topi (fun v5 ev5 => ?_)
    have h := ul_bd_h h v5 ev5
    refine lv_istore_n (lv' := [(2, .int v5), (0, .int p0), (1, .int p1), (3, .int q4.2)]) hx hb dX7_power_12 rfl hl (by decide) rfl (fun ls hl => ?_)
    obtain ⟨v6, ev6⟩ : ∃ z : Int32, z = q4.2 + 1 := ⟨_, rfl⟩
    have h := ul_bd_h h v6 ev6
    refine lv_iinc (v := v6) (lv' := [(3, .int v6), (2, .int v5), (0, .int p0), (1, .int p1)]) hx hb dX7_power_13 hl (k := 3) rfl (by rw [ev6]; rfl) (by decide) rfl (fun ls hl => ?_)
    refine lv_goto (tgt := 4) hx hb dX7_power_16 (by decide) ?_
    exact ge _ _ _ (ih4 (v5, v6) h H locs ⟨hP, hD, hS⟩ ls (lv_sub hl [2, 3, 1, 0] rfl))
def f_X7_stays_j135 (p1 : Int32) (p2 : Int32) (p3 : Int32) (p4 : Int32) (x5 : Int32) (x6 : Int32) (x7 : Int32) (M__135 : ul_S) : Option (Int32 × ul_S) :=
  (f_X7_common x5 x6).bind fun u1 => if p4 = 0 then (ul_nz u1 (some ((x6 / u1), M__135))) else (ul_nz u1 (some ((x5 / u1), M__135)))
def f_X7_stays_j126 (p1 : Int32) (p2 : Int32) (p3 : Int32) (p4 : Int32) (x5 : Int32) (x6 : Int32) (x7 : Int32) (x8 : Int32) (t0 : Int32) (t1 : Int32) (M__126 : ul_S) : Option ((Int32 × Int32 × Int32 × ul_S) ⊕ (Int32 × Int32 × Int32 × ul_S)) :=
  ul_bd (t0 + t1) fun v15 => ul_bd (x7 + 1) fun v16 => some (.inr (v15, x6, v16, M__126))
def f_X7_stays_L46 (p1 : Int32) (p2 : Int32) (p3 : Int32) (p4 : Int32) (q46 : (Int32 × Int32 × Int32 × ul_S)) : Option ((Int32 × Int32 × Int32 × ul_S) ⊕ (Int32 × Int32 × Int32 × ul_S)) :=
  if ((1 : Int32) <<< ((q46.2.2.2 0 1) &&& 31)) ≤ q46.2.2.1 then (some (.inl (q46.1, q46.2.1, q46.2.2.1, q46.2.2.2))) else ((f_X7_ones q46.2.2.1).bind fun u20 => (f_X7_power p3 u20).bind fun u21 => (f_X7_ones q46.2.2.1).bind fun u22 => (f_X7_power ((10 : Int32) - p3) ((q46.2.2.2 0 1) - u22)).bind fun u23 => ul_bd (u21 * u23) fun v24 => (f_X7_layTrial q46.2.2.2).bind fun u25 => (f_X7_passOn u25 (1 : Int32) q46.2.2.1).bind fun u26 => ul_bd (q46.2.1 + v24) fun v27 => ul_ld (u26.2 6) 46 ((31 : Int32) + p1) fun v28 => if v28 < p2 then (f_X7_stays_j126 p1 p2 p3 p4 q46.1 v27 q46.2.2.1 v24 q46.1 (0 : Int32) u26.2) else (f_X7_stays_j126 p1 p2 p3 p4 q46.1 v27 q46.2.2.1 v24 q46.1 v24 u26.2))
def f_X7_stays (M : ul_S) (p1 : Int32) (p2 : Int32) (p3 : Int32) (p4 : Int32) : Option (Int32 × ul_S) :=
  (f_X7_isLadder M p1).bind fun u9 => if u9 = 0 then (some ((-1 : Int32), M)) else ((f_X7_in p2.toInt64 (0 : Int64) (60 : Int64)).bind fun u11 => if u11 = 0 then (some ((-2 : Int32), M)) else ((f_X7_in p3.toInt64 (0 : Int64) (10 : Int64)).bind fun u13 => if u13 = 0 then (some ((-2 : Int32), M)) else ((ul_it ul_N (f_X7_stays_L46 p1 p2 p3 p4) ((0 : Int32), (0 : Int32), (0 : Int32), M)).bind (fun e46 => f_X7_stays_j135 p1 p2 p3 p4 e46.1 e46.2.1 e46.2.2.1 e46.2.2.2))))
set_option maxHeartbeats 4000000 in
set_option maxRecDepth 100000 in
theorem c_X7_stays (l : Launch) (dC : Nat → ClassId) (dI : Nat → Nat → Nat) (cI : ClassId) (cZ : ClassId) (aM : Nat → Nat) (sz : Nat) (M : ul_S) (d : Int64) (p1 : Int32) (p2 : Int32) (p3 : Int32) (p4 : Int32) (r : (Int32 × ul_S)) (h : f_X7_stays M p1 p2 p3 p4 = some r) : Met l yX7_stays wsX7_stays ({ frames := 6, cells := 0, slots := 0, locals := 143 }) (va_Pc [.ref (aM 0), .int p1, .int p2, .int p3, .int p4] (ul_pre (dC, dI) [(cI, .int), (cZ, .boolean)] ul_N0 sz (ul_wM cI cZ aM M d))) (va_Qi (fun v (_ : Unit) => v = r.1) (fun _ => ul_post (dC, dI) [(cI, .int), (cZ, .boolean)] (va_A (ul_wM cI cZ aM M d) sz) (ul_wM cI cZ aM r.2 d)) (va_A (ul_wM cI cZ aM M d) sz)) 0 0 (va_A (ul_wM cI cZ aM M d) sz) := by
  refine Met.ofW (cc := cX7_stays) (maxL := 9) (ret := (some .int)) (by decide) rfl ?_
  intro p e s m args below meth c s₁ B hml hv
  obtain ⟨rfl, hsz, hP, hK, hD0, hN⟩ := hv
  have hx := B.exec
  have hb := B.bytes
  have hr := B.returns
  have hts := atoms_spec (ws := wsX7_stays) B.pre
  have hown : s.vm.findClass RX7 = some m.cls := findClass_of_methodNamed B.named
  have hlocks := B.notSynchronized
  have hin7 : ∀ w ∈ u_ws RX7 TX7 26, w ∈ wsX7_stays := by decide +kernel
  subst hsz
  have hD := hD0.self (sz := s.heap.size)
  generalize hAe : va_A (ul_wM cI cZ aM M d) s.heap.size = A at hD ⊢
  have hA : ∀ q : Nat, s.heap.size ≤ q → A q := fun q h => by rw [← hAe]; exact Or.inr h
  have hS : va_S A s.heap s.heap [] := va_S.rf
  have hl := lv_entry ([.ref (aM 0), .int p1, .int p2, .int p3, .int p4]) (n := 9) (Nat.le_of_ble_eq_true rfl)
  rw [lg_entry_eq]
  generalize (lg_sl ([.ref (aM 0), .int p1, .int p2, .int p3, .int p4]) ++ List.replicate (9 - (lg_sl ([.ref (aM 0), .int p1, .int p2, .int p3, .int p4])).length) Slot.unset).toArray = ls at hl ⊢
  have hl : lv_has ls 9 [(0, .ref (aM 0)), (1, .int p1), (2, .int p2), (3, .int p3), (4, .int p4)] := hl
  obtain ⟨K0, hK0, h⟩ := ul_top h
  unfold f_X7_stays at h
  refine ul_gen (fun G gi ge => ?_)
  obtain ⟨H, eH⟩ : ∃ z, z = s.heap := ⟨_, rfl⟩
  obtain ⟨locs, eL⟩ : ∃ z : List Loc, z = [] := ⟨_, rfl⟩
  have hP : va_P (dC, dI) classes (ul_wM cI cZ aM M d) H := by rw [eH]; exact hP
  have hS : va_S A s.heap H locs := by rw [eH, eL]; exact hS
  rw [← eL]
  refine (show G H locs (F0 m 0 ls []) → G s.heap locs (F0 m 0 ls []) from fun z => by rw [← eH]; exact z) ?_
  have J135 : ∀ (x5 : Int32) (x6 : Int32) (x7 : Int32) (M__135 : ul_S) (H : Heap) (locs : List Loc), ul_H (dC, dI) A s.heap (ul_wM cI cZ aM M__135 d) H locs → ∀ ls : Array Slot, lv_has ls 9 [(0, .ref (aM 0)), (1, .int p1), (2, .int p2), (3, .int p3), (4, .int p4), (5, .int x5), (6, .int x6), (7, .int x7)] → (f_X7_stays_j135 p1 p2 p3 p4 x5 x6 x7 M__135).bind K0 = some r → G H locs (F0 m 135 ls []) := by
    intro x5 x6 x7 M__135 H locs hw ls hl h
    obtain ⟨hP, hD, hS⟩ := hw
    unfold f_X7_stays_j135 at h
    refine gi _ _ _ ?_
    refine lv_iload hx hb dX7_stays_135 (lv_at hl 5 rfl) ?_
    refine lv_iload hx hb dX7_stays_137 (lv_at hl 6 rfl) ?_
    obtain ⟨u5, hu5, h⟩ := ul_cl_h h
    refine ul_cSi (As := [.int x5, .int x6]) (rest := []) hP hD hS hK hA (c_X7_common l dC dI H.size x5 x6 u5 hu5) ⟨hx, hb, hml, hown, hts⟩ (cwS 2 hts gX7_stays_X7_common rfl rfl rfl (by decide +kernel) ⟨Nat.le_of_ble_eq_true rfl, Nat.le_of_ble_eq_true rfl⟩) rfl hl.1 rfl (Nat.le_of_ble_eq_true rfl) dX7_stays_139 (fun H locs hw => ?_)
    obtain ⟨hP, hD, hS⟩ := hw
    refine lv_istore (lv' := [(7, .int u5), (0, .ref (aM 0)), (1, .int p1), (2, .int p2), (3, .int p3), (4, .int p4), (5, .int x5), (6, .int x6)]) hx hb dX7_stays_142 hl (by decide) rfl (fun ls hl => ?_)
    refine lv_iload hx hb dX7_stays_144 (lv_at hl 5 rfl) ?_
    refine lv_if_eq (tgt := 157) hx hb dX7_stays_146 (by decide) (fun hc6 => ?_) (fun hc6 => ?_)
    · have h := ul_if_t hc6 h
      refine lv_iload hx hb dX7_stays_157 (lv_at hl 7 rfl) ?_
      refine lv_iload hx hb dX7_stays_159 (lv_at hl 0 rfl) ?_
      obtain ⟨hz7, h⟩ := ul_nz_h h
      refine lv_idiv hx hb dX7_stays_161 hz7 ?_
      have hr9 := hK0 ((x6 / u5), M__135) h
      subst hr9
      exact W.iret (v := (x6 / u5)) hx hb hr (fun t ht hW => ⟨⟨(x6 / u5), (), rfl, rfl, by rw [ht]; exact hP, va_K.moved hW.alike hK, hD⟩, hS.F ht⟩) hS.2.2 dX7_stays_162
    · have h := ul_if_f hc6 h
      refine lv_iload hx hb dX7_stays_149 (lv_at hl 6 rfl) ?_
      refine lv_iload hx hb dX7_stays_151 (lv_at hl 0 rfl) ?_
      obtain ⟨hz8, h⟩ := ul_nz_h h
      refine lv_idiv hx hb dX7_stays_153 hz8 ?_
      refine lv_goto (tgt := 162) hx hb dX7_stays_154 (by decide) ?_
      have hr9 := hK0 ((x5 / u5), M__135) h
      subst hr9
      exact W.iret (v := (x5 / u5)) hx hb hr (fun t ht hW => ⟨⟨(x5 / u5), (), rfl, rfl, by rw [ht]; exact hP, va_K.moved hW.alike hK, hD⟩, hS.F ht⟩) hS.2.2 dX7_stays_162
  refine gi _ _ _ ?_
  refine lv_aload_n hx hb dX7_stays_0 rfl (lv_at hl 0 rfl) ?_
  refine lv_iload_n hx hb dX7_stays_1 rfl (lv_at hl 1 rfl) ?_
  obtain ⟨u9, hu9, h⟩ := ul_cl_h h
  refine ul_cVi (As := [.int p1]) (rest := []) (wc' := (ul_wM cI cZ aM M d)) (wr := []) hP hD hS hK hA [0, 1, 2, 3, 4, 5, 6, 7, 8, 9, 10, 11, 12, 13, 14] [] [0, 1] ul_N0_ok trivial (c_X7_isLadder l dC dI cI cZ aM H.size M d p1 u9 hu9) rfl rfl (by decide) rfl (by decide) (by decide) rfl ⟨hx, hb, hml, hown, hts⟩ (cwV 1 hts gX7_stays_X7_isLadder rfl rfl rfl (by decide +kernel) ⟨Nat.le_of_ble_eq_true rfl, Nat.le_of_ble_eq_true rfl⟩) (va_recv hK hP (ci := 7) (q0 := 0) rfl rfl) rfl hl.1 rfl (Nat.le_of_ble_eq_true rfl) dX7_stays_2 (fun H locs hw => ?_)
  obtain ⟨hP, hD, hS⟩ := hw
  have hP : va_P (dC, dI) classes (ul_wM cI cZ aM M d) H := hP
  have hD : va_D A (ul_wM cI cZ aM M d) := hD
  refine lv_if_ne (tgt := 10) hx hb dX7_stays_5 (by decide) (fun hc10 => ?_) (fun hc10 => ?_)
  · have h := ul_if_f hc10 h
    refine lv_iload_n hx hb dX7_stays_10 rfl (lv_at hl 2 rfl) ?_
    refine lv_i2l hx hb dX7_stays_11 rfl ?_
    refine lv_lconst (v := 0) hx hb dX7_stays_12 (by decide) ?_
    refine lv_ldc2 (v := 60) hx hb hown (hts (.constantLong RX7 210 (60)) (by decide +kernel)) dX7_stays_13 ?_
    obtain ⟨u11, hu11, h⟩ := ul_cl_h h
    refine ul_cSi (As := [.long p2.toInt64, .long (0 : Int64), .long (60 : Int64)]) (rest := []) hP hD hS hK hA (c_X7_in l dC dI H.size p2.toInt64 (0 : Int64) (60 : Int64) u11 hu11) ⟨hx, hb, hml, hown, hts⟩ (cwS 3 hts gX7_stays_X7_in rfl rfl rfl (by decide +kernel) ⟨Nat.le_of_ble_eq_true rfl, Nat.le_of_ble_eq_true rfl⟩) rfl hl.1 rfl (Nat.le_of_ble_eq_true rfl) dX7_stays_16 (fun H locs hw => ?_)
    obtain ⟨hP, hD, hS⟩ := hw
    refine lv_if_eq (tgt := 34) hx hb dX7_stays_19 (by decide) (fun hc12 => ?_) (fun hc12 => ?_)
    · have h := ul_if_t hc12 h
      refine lv_bipush (v := -2) hx hb dX7_stays_34 (by decide) ?_
      have hr9 := hK0 ((-2 : Int32), M) h
      subst hr9
      exact W.iret (v := (-2 : Int32)) hx hb hr (fun t ht hW => ⟨⟨(-2 : Int32), (), rfl, rfl, by rw [ht]; exact hP, va_K.moved hW.alike hK, hD⟩, hS.F ht⟩) hS.2.2 dX7_stays_36
    · have h := ul_if_f hc12 h
      refine lv_iload_n hx hb dX7_stays_22 rfl (lv_at hl 3 rfl) ?_
      refine lv_i2l hx hb dX7_stays_23 rfl ?_
      refine lv_lconst (v := 0) hx hb dX7_stays_24 (by decide) ?_
      refine lv_ldc2 (v := 10) hx hb hown (hts (.constantLong RX7 212 (10)) (by decide +kernel)) dX7_stays_25 ?_
      obtain ⟨u13, hu13, h⟩ := ul_cl_h h
      refine ul_cSi (As := [.long p3.toInt64, .long (0 : Int64), .long (10 : Int64)]) (rest := []) hP hD hS hK hA (c_X7_in l dC dI H.size p3.toInt64 (0 : Int64) (10 : Int64) u13 hu13) ⟨hx, hb, hml, hown, hts⟩ (cwS 3 hts gX7_stays_X7_in rfl rfl rfl (by decide +kernel) ⟨Nat.le_of_ble_eq_true rfl, Nat.le_of_ble_eq_true rfl⟩) rfl hl.1 rfl (Nat.le_of_ble_eq_true rfl) dX7_stays_28 (fun H locs hw => ?_)
      obtain ⟨hP, hD, hS⟩ := hw
      refine lv_if_ne (tgt := 37) hx hb dX7_stays_31 (by decide) (fun hc14 => ?_) (fun hc14 => ?_)
      · have h := ul_if_f hc14 h
        refine lv_iconst (v := 0) hx hb dX7_stays_37 (by decide) ?_
        refine lv_istore (lv' := [(5, .int (0 : Int32)), (0, .ref (aM 0)), (1, .int p1), (2, .int p2), (3, .int p3), (4, .int p4)]) hx hb dX7_stays_38 hl (by decide) rfl (fun ls hl => ?_)
        refine lv_iconst (v := 0) hx hb dX7_stays_40 (by decide) ?_
        refine lv_istore (lv' := [(6, .int (0 : Int32)), (5, .int (0 : Int32)), (0, .ref (aM 0)), (1, .int p1), (2, .int p2), (3, .int p3), (4, .int p4)]) hx hb dX7_stays_41 hl (by decide) rfl (fun ls hl => ?_)
        refine lv_iconst (v := 0) hx hb dX7_stays_43 (by decide) ?_
        refine lv_istore (lv' := [(7, .int (0 : Int32)), (6, .int (0 : Int32)), (5, .int (0 : Int32)), (0, .ref (aM 0)), (1, .int p1), (2, .int p2), (3, .int p3), (4, .int p4)]) hx hb dX7_stays_44 hl (by decide) rfl (fun ls hl => ?_)
        refine ge _ _ _ (ul_loop (P := fun q46 => ∀ (H : Heap) (locs : List Loc), ul_H (dC, dI) A s.heap (ul_wM cI cZ aM q46.2.2.2 d) H locs → ∀ ls : Array Slot, lv_has ls 9 [(0, .ref (aM 0)), (1, .int p1), (2, .int p2), (3, .int p3), (4, .int p4), (5, .int q46.1), (6, .int q46.2.1), (7, .int q46.2.2.1)] → G H locs (F0 m 46 ls [])) ?_ _ _ (ul_it_h h) H locs ⟨hP, hD, hS⟩ ls (lv_sub hl [3, 4, 5, 6, 7, 2, 1, 0] rfl))
        intro K46 hx46
        intro q46 ih46 h H locs hw ls hl
        have J126 : ∀ (x5 : Int32) (x6 : Int32) (x7 : Int32) (x8 : Int32) (t0 : Int32) (t1 : Int32) (M__126 : ul_S) (H : Heap) (locs : List Loc), ul_H (dC, dI) A s.heap (ul_wM cI cZ aM M__126 d) H locs → ∀ ls : Array Slot, lv_has ls 9 [(0, .ref (aM 0)), (1, .int p1), (2, .int p2), (3, .int p3), (4, .int p4), (5, .int x5), (6, .int x6), (7, .int x7), (8, .int x8)] → (f_X7_stays_j126 p1 p2 p3 p4 x5 x6 x7 x8 t0 t1 M__126).bind K46 = some r → G H locs (F0 m 126 ls [.int t1, .int t0]) := by
          intro x5 x6 x7 x8 t0 t1 M__126 H locs hw ls hl h
          obtain ⟨hP, hD, hS⟩ := hw
          unfold f_X7_stays_j126 at h
          refine gi _ _ _ ?_
          refine lv_iadd hx hb dX7_stays_126 ?_
          refine lv_topi (fun v17 ev17 => ?_)
          have h := ul_bd_h h v17 ev17
          refine lv_istore (lv' := [(5, .int v17), (0, .ref (aM 0)), (1, .int p1), (2, .int p2), (3, .int p3), (4, .int p4), (6, .int x6), (7, .int x7), (8, .int x8)]) hx hb dX7_stays_127 hl (by decide) rfl (fun ls hl => ?_)
          obtain ⟨v18, ev18⟩ : ∃ z : Int32, z = x7 + 1 := ⟨_, rfl⟩
          have h := ul_bd_h h v18 ev18
          refine lv_iinc (v := v18) (lv' := [(7, .int v18), (5, .int v17), (0, .ref (aM 0)), (1, .int p1), (2, .int p2), (3, .int p3), (4, .int p4), (6, .int x6), (8, .int x8)]) hx hb dX7_stays_129 hl (k := 7) rfl (by rw [ev18]; rfl) (by decide) rfl (fun ls hl => ?_)
          refine lv_goto (tgt := 46) hx hb dX7_stays_132 (by decide) ?_
          exact ge _ _ _ (ih46 (v17, x6, v18, M__126) h H locs ⟨hP, hD, hS⟩ ls (lv_sub hl [2, 3, 4, 5, 6, 1, 7, 0] rfl))
        obtain ⟨hP, hD, hS⟩ := hw
        unfold f_X7_stays_L46 at h
        refine gi _ _ _ ?_
        refine lv_iload hx hb dX7_stays_46 (lv_at hl 7 rfl) ?_
        refine lv_iconst (v := 1) hx hb dX7_stays_48 (by decide) ?_
        refine lv_aload_n hx hb dX7_stays_49 rfl (lv_at hl 0 rfl) ?_
        refine va_get (D := (dC, dI)) (ci := 7) (v := .int (q46.2.2.2 0 1)) (C := RX7) (T := TX7) (N := 26) hx hb hts hin7 hown hK hP 0 rfl rfl 1 (by decide) (hts (.fieldLink RX7 99 "UnderLaddersModel" "people" "I") (by decide +kernel)) (fun _ h9 => h9) rfl dX7_stays_50 ?_
        refine lv_ishl hx hb dX7_stays_53 ?_
        refine lv_icmp_ge (tgt := 135) hx hb dX7_stays_54 (by decide) (fun hc31 => ?_) (fun hc31 => ?_)
        · have h := ul_if_t hc31 h
          exact ge _ _ _ (J135 q46.1 q46.2.1 q46.2.2.1 q46.2.2.2 H locs ⟨hP, hD, hS⟩ ls (lv_sub hl [0, 1, 2, 3, 4, 5, 6, 7] rfl) (hx46 (q46.1, q46.2.1, q46.2.2.1, q46.2.2.2) h))
        · have h := ul_if_f hc31 h
          refine lv_iload_n hx hb dX7_stays_57 rfl (lv_at hl 3 rfl) ?_
          refine lv_iload hx hb dX7_stays_58 (lv_at hl 7 rfl) ?_
          obtain ⟨u32, hu32, h⟩ := ul_cl_h h
          refine ul_cSi (As := [.int q46.2.2.1]) (rest := [.int p3]) hP hD hS hK hA (c_X7_ones l dC dI H.size q46.2.2.1 u32 hu32) ⟨hx, hb, hml, hown, hts⟩ (cwS 1 hts gX7_stays_X7_ones rfl rfl rfl (by decide +kernel) ⟨Nat.le_of_ble_eq_true rfl, Nat.le_of_ble_eq_true rfl⟩) rfl hl.1 rfl (Nat.le_of_ble_eq_true rfl) dX7_stays_60 (fun H locs hw => ?_)
          obtain ⟨hP, hD, hS⟩ := hw
          obtain ⟨u33, hu33, h⟩ := ul_cl_h h
          refine ul_cSi (As := [.int p3, .int u32]) (rest := []) hP hD hS hK hA (c_X7_power l dC dI H.size p3 u32 u33 hu33) ⟨hx, hb, hml, hown, hts⟩ (cwS 2 hts gX7_stays_X7_power rfl rfl rfl (by decide +kernel) ⟨Nat.le_of_ble_eq_true rfl, Nat.le_of_ble_eq_true rfl⟩) rfl hl.1 rfl (Nat.le_of_ble_eq_true rfl) dX7_stays_63 (fun H locs hw => ?_)
          obtain ⟨hP, hD, hS⟩ := hw
          refine lv_bipush (v := 10) hx hb dX7_stays_66 (by decide) ?_
          refine lv_iload_n hx hb dX7_stays_68 rfl (lv_at hl 3 rfl) ?_
          refine lv_isub hx hb dX7_stays_69 ?_
          refine lv_aload_n hx hb dX7_stays_70 rfl (lv_at hl 0 rfl) ?_
          refine va_get (D := (dC, dI)) (ci := 7) (v := .int (q46.2.2.2 0 1)) (C := RX7) (T := TX7) (N := 26) hx hb hts hin7 hown hK hP 0 rfl rfl 1 (by decide) (hts (.fieldLink RX7 99 "UnderLaddersModel" "people" "I") (by decide +kernel)) (fun _ h9 => h9) rfl dX7_stays_71 ?_
          refine lv_iload hx hb dX7_stays_74 (lv_at hl 7 rfl) ?_
          obtain ⟨u34, hu34, h⟩ := ul_cl_h h
          refine ul_cSi (As := [.int q46.2.2.1]) (rest := [.int (q46.2.2.2 0 1), .int ((10 : Int32) - p3), .int u33]) hP hD hS hK hA (c_X7_ones l dC dI H.size q46.2.2.1 u34 hu34) ⟨hx, hb, hml, hown, hts⟩ (cwS 1 hts gX7_stays_X7_ones rfl rfl rfl (by decide +kernel) ⟨Nat.le_of_ble_eq_true rfl, Nat.le_of_ble_eq_true rfl⟩) rfl hl.1 rfl (Nat.le_of_ble_eq_true rfl) dX7_stays_76 (fun H locs hw => ?_)
          obtain ⟨hP, hD, hS⟩ := hw
          refine lv_isub hx hb dX7_stays_79 ?_
          obtain ⟨u35, hu35, h⟩ := ul_cl_h h
          refine ul_cSi (As := [.int ((10 : Int32) - p3), .int ((q46.2.2.2 0 1) - u34)]) (rest := [.int u33]) hP hD hS hK hA (c_X7_power l dC dI H.size ((10 : Int32) - p3) ((q46.2.2.2 0 1) - u34) u35 hu35) ⟨hx, hb, hml, hown, hts⟩ (cwS 2 hts gX7_stays_X7_power rfl rfl rfl (by decide +kernel) ⟨Nat.le_of_ble_eq_true rfl, Nat.le_of_ble_eq_true rfl⟩) rfl hl.1 rfl (Nat.le_of_ble_eq_true rfl) dX7_stays_80 (fun H locs hw => ?_)
          obtain ⟨hP, hD, hS⟩ := hw
          refine lv_imul hx hb dX7_stays_83 ?_
          refine lv_topi (fun v36 ev36 => ?_)
          have h := ul_bd_h h v36 ev36
          refine lv_istore (lv' := [(8, .int v36), (0, .ref (aM 0)), (1, .int p1), (2, .int p2), (3, .int p3), (4, .int p4), (5, .int q46.1), (6, .int q46.2.1), (7, .int q46.2.2.1)]) hx hb dX7_stays_84 hl (by decide) rfl (fun ls hl => ?_)
          refine lv_aload_n hx hb dX7_stays_86 rfl (lv_at hl 1 rfl) ?_
          obtain ⟨u37, hu37, h⟩ := ul_cl_h h
          refine ul_cVv (As := []) (rest := []) (wc' := (ul_wM cI cZ aM u37 d)) (wr := []) hP hD hS hK hA [0, 1, 2, 3, 4, 5, 6, 7, 8, 9, 10, 11, 12, 13, 14] [] [0, 1] ul_N0_ok trivial (c_X7_layTrial l dC dI cI cZ aM H.size q46.2.2.2 d u37 hu37) rfl rfl (by decide) rfl (by decide) (by decide) rfl ⟨hx, hb, hml, hown, hts⟩ (cwV 0 hts gX7_stays_X7_layTrial rfl rfl rfl (by decide +kernel) ⟨Nat.le_of_ble_eq_true rfl, Nat.le_of_ble_eq_true rfl⟩) (va_recv hK hP (ci := 7) (q0 := 0) rfl rfl) rfl hl.1 rfl (Nat.le_of_ble_eq_true rfl) dX7_stays_87 (fun H locs hw => ?_)
          obtain ⟨hP, hD, hS⟩ := hw
          have hP : va_P (dC, dI) classes (ul_wM cI cZ aM u37 d) H := hP
          have hD : va_D A (ul_wM cI cZ aM u37 d) := hD
          refine lv_aload_n hx hb dX7_stays_90 rfl (lv_at hl 1 rfl) ?_
          refine lv_iconst (v := 1) hx hb dX7_stays_91 (by decide) ?_
          refine lv_iload hx hb dX7_stays_92 (lv_at hl 8 rfl) ?_
          obtain ⟨u38, hu38, h⟩ := ul_cl_h h
          refine ul_cVi (As := [.int (1 : Int32), .int q46.2.2.1]) (rest := []) (wc' := (ul_wM cI cZ aM u38.2 d)) (wr := []) hP hD hS hK hA [0, 1, 2, 3, 4, 5, 6, 7, 8, 9, 10, 11, 12, 13, 14] [] [0, 1] ul_N0_ok trivial (c_X7_passOn l dC dI cI cZ aM H.size u37 d (1 : Int32) q46.2.2.1 u38 hu38) rfl rfl (by decide) rfl (by decide) (by decide) rfl ⟨hx, hb, hml, hown, hts⟩ (cwV 2 hts gX7_stays_X7_passOn rfl rfl rfl (by decide +kernel) ⟨Nat.le_of_ble_eq_true rfl, Nat.le_of_ble_eq_true rfl⟩) (va_recv hK hP (ci := 7) (q0 := 0) rfl rfl) rfl hl.1 rfl (Nat.le_of_ble_eq_true rfl) dX7_stays_94 (fun H locs hw => ?_)
          obtain ⟨hP, hD, hS⟩ := hw
          have hP : va_P (dC, dI) classes (ul_wM cI cZ aM u38.2 d) H := hP
          have hD : va_D A (ul_wM cI cZ aM u38.2 d) := hD
          refine lv_pop hx hb dX7_stays_97 rfl ?_
          refine lv_iload hx hb dX7_stays_98 (lv_at hl 7 rfl) ?_
          refine lv_iload hx hb dX7_stays_100 (lv_at hl 0 rfl) ?_
          refine lv_iadd hx hb dX7_stays_102 ?_
          refine lv_topi (fun v39 ev39 => ?_)
          have h := ul_bd_h h v39 ev39
          refine lv_istore (lv' := [(6, .int v39), (8, .int v36), (0, .ref (aM 0)), (1, .int p1), (2, .int p2), (3, .int p3), (4, .int p4), (5, .int q46.1), (7, .int q46.2.2.1)]) hx hb dX7_stays_103 hl (by decide) rfl (fun ls hl => ?_)
          refine lv_iload hx hb dX7_stays_105 (lv_at hl 7 rfl) ?_
          refine lv_aload_n hx hb dX7_stays_107 rfl (lv_at hl 2 rfl) ?_
          refine va_get (D := (dC, dI)) (ci := 7) (v := .ref (aM 6)) (C := RX7) (T := TX7) (N := 26) hx hb hts hin7 hown hK hP 0 rfl rfl 7 (by decide) (hts (.fieldLink RX7 25 "UnderLaddersModel" "now" "[I") (by decide +kernel)) (fun _ h9 => h9) rfl dX7_stays_108 ?_
          refine lv_bipush (v := 31) hx hb dX7_stays_111 (by decide) ?_
          refine lv_iload_n hx hb dX7_stays_113 rfl (lv_at hl 3 rfl) ?_
          refine lv_iadd hx hb dX7_stays_114 ?_
          obtain ⟨hi41, h⟩ := ul_ld_h h
          refine va_iald hx hb hK hP 6 0 rfl rfl hi41 dX7_stays_115 ?_
          refine lv_topi (fun v40 ev40 => ?_)
          have h := h v40 ev40
          refine lv_iload_n hx hb dX7_stays_116 rfl (lv_at hl 4 rfl) ?_
          refine lv_icmp_lt (tgt := 125) hx hb dX7_stays_117 (by decide) (fun hc42 => ?_) (fun hc42 => ?_)
          · have h := ul_if_t hc42 h
            refine lv_iconst (v := 0) hx hb dX7_stays_125 (by decide) ?_
            exact ge _ _ _ (J126 q46.1 v39 q46.2.2.1 v36 q46.1 (0 : Int32) u38.2 H locs ⟨hP, hD, hS⟩ ls (lv_sub hl [2, 3, 4, 5, 6, 7, 0, 8, 1] rfl) h)
          · have h := ul_if_f hc42 h
            refine lv_iload hx hb dX7_stays_120 (lv_at hl 1 rfl) ?_
            refine lv_goto (tgt := 126) hx hb dX7_stays_122 (by decide) ?_
            exact ge _ _ _ (J126 q46.1 v39 q46.2.2.1 v36 q46.1 v36 u38.2 H locs ⟨hP, hD, hS⟩ ls (lv_sub hl [2, 3, 4, 5, 6, 7, 0, 8, 1] rfl) h)
      · have h := ul_if_t hc14 h
        refine lv_bipush (v := -2) hx hb dX7_stays_34 (by decide) ?_
        have hr9 := hK0 ((-2 : Int32), M) h
        subst hr9
        exact W.iret (v := (-2 : Int32)) hx hb hr (fun t ht hW => ⟨⟨(-2 : Int32), (), rfl, rfl, by rw [ht]; exact hP, va_K.moved hW.alike hK, hD⟩, hS.F ht⟩) hS.2.2 dX7_stays_36
  · have h := ul_if_t hc10 h
    refine lv_iconst (v := -1) hx hb dX7_stays_8 (by decide) ?_
    have hr9 := hK0 ((-1 : Int32), M) h
    subst hr9
    exact W.iret (v := (-1 : Int32)) hx hb hr (fun t ht hW => ⟨⟨(-1 : Int32), (), rfl, rfl, by rw [ht]; exact hP, va_K.moved hW.alike hK, hD⟩, hS.F ht⟩) hS.2.2 dX7_stays_9
def f_X7_seed (M : ul_S) (d : Int64) (p1 : Int64) : Option (Int64 × Int64) :=
  ul_bd p1 fun d1 => some (d, d1)
set_option maxHeartbeats 4000000 in
set_option maxRecDepth 100000 in
theorem c_X7_seed (l : Launch) (dC : Nat → ClassId) (dI : Nat → Nat → Nat) (cI : ClassId) (cZ : ClassId) (aM : Nat → Nat) (sz : Nat) (M : ul_S) (d : Int64) (p1 : Int64) (r : (Int64 × Int64)) (h : f_X7_seed M d p1 = some r) : Met l yX7_seed wsX7_seed ({ frames := 0, cells := 0, slots := 0, locals := 0 }) (va_Pc [.ref (aM 0), .long p1] (ul_pre (dC, dI) [(cI, .int), (cZ, .boolean)] ul_N0 sz (ul_wM cI cZ aM M d))) (va_Ql (fun v (_ : Unit) => v = r.1) (fun _ => ul_post (dC, dI) [(cI, .int), (cZ, .boolean)] (va_A (ul_wM cI cZ aM M d) sz) (ul_wM cI cZ aM M r.2)) (va_A (ul_wM cI cZ aM M d) sz)) 0 0 (va_A (ul_wM cI cZ aM M d) sz) := by
  refine Met.ofW (cc := cX7_seed) (maxL := 5) (ret := (some .long)) (by decide) rfl ?_
  intro p e s m args below meth c s₁ B hml hv
  obtain ⟨rfl, hsz, hP, hK, hD0, hN⟩ := hv
  have hx := B.exec
  have hb := B.bytes
  have hr := B.returns
  have hts := atoms_spec (ws := wsX7_seed) B.pre
  have hown : s.vm.findClass RX7 = some m.cls := findClass_of_methodNamed B.named
  have hlocks := B.notSynchronized
  have hin7 : ∀ w ∈ u_ws RX7 TX7 26, w ∈ wsX7_seed := by decide +kernel
  subst hsz
  have hD := hD0.self (sz := s.heap.size)
  generalize hAe : va_A (ul_wM cI cZ aM M d) s.heap.size = A at hD ⊢
  have hA : ∀ q : Nat, s.heap.size ≤ q → A q := fun q h => by rw [← hAe]; exact Or.inr h
  have hS : va_S A s.heap s.heap [] := va_S.rf
  have hl := lv_entry ([.ref (aM 0), .long p1]) (n := 5) (Nat.le_of_ble_eq_true rfl)
  rw [lg_entry_eq]
  generalize (lg_sl ([.ref (aM 0), .long p1]) ++ List.replicate (5 - (lg_sl ([.ref (aM 0), .long p1])).length) Slot.unset).toArray = ls at hl ⊢
  have hl : lv_has ls 5 [(0, .ref (aM 0)), (1, .long p1)] := hl
  obtain ⟨K0, hK0, h⟩ := ul_top h
  unfold f_X7_seed at h
  refine ul_gen (fun G gi ge => ?_)
  obtain ⟨H, eH⟩ : ∃ z, z = s.heap := ⟨_, rfl⟩
  obtain ⟨locs, eL⟩ : ∃ z : List Loc, z = [] := ⟨_, rfl⟩
  have hP : va_P (dC, dI) classes (ul_wM cI cZ aM M d) H := by rw [eH]; exact hP
  have hS : va_S A s.heap H locs := by rw [eH, eL]; exact hS
  rw [← eL]
  refine (show G H locs (F0 m 0 ls []) → G s.heap locs (F0 m 0 ls []) from fun z => by rw [← eH]; exact z) ?_
  refine gi _ _ _ ?_
  refine lv_aload_n hx hb dX7_seed_0 rfl (lv_at hl 0 rfl) ?_
  refine va_get (D := (dC, dI)) (ci := 7) (v := .long d) (C := RX7) (T := TX7) (N := 26) hx hb hts hin7 hown hK hP 0 rfl rfl 23 (by decide) (hts (.fieldLink RX7 217 "UnderLaddersModel" "seed" "J") (by decide +kernel)) (fun _ h9 => h9) rfl dX7_seed_1 ?_
  refine lv_lstore_n (lv' := [(3, .long d), (0, .ref (aM 0)), (1, .long p1)]) hx hb dX7_seed_4 rfl hl (by decide) rfl (fun ls hl => ?_)
  refine lv_aload_n hx hb dX7_seed_5 rfl (lv_at hl 1 rfl) ?_
  refine lv_lload_n hx hb dX7_seed_6 rfl (lv_at hl 2 rfl) ?_
  refine va_put (D := (dC, dI)) (ci := 7) (v := .long p1) (ty := .long) (C := RX7) (T := TX7) (N := 26) hx hb hts hin7 tyX7 tyX7_ok nmX7 hown hK hP hD hS 0 rfl rfl 23 (by decide) (hts (.fieldLink RX7 217 "UnderLaddersModel" "seed" "J") (by decide +kernel)) (fun _ h9 => h9) rfl (by decide +kernel) rfl rfl (Nat.le_of_ble_eq_true rfl) dX7_seed_7 (fun H locs hP hD hS => ?_)
  obtain ⟨d1, ed1⟩ : ∃ z : Int64, z = p1 := ⟨_, rfl⟩
  have h := ul_bd_h h d1 ed1
  have hP : va_P (dC, dI) classes (ul_wM cI cZ aM M d1) H := by rw [ed1]; exact hP
  have hD : va_D A (ul_wM cI cZ aM M d1) := by rw [ed1]; exact hD
  refine lv_lload_n hx hb dX7_seed_10 rfl (lv_at hl 0 rfl) ?_
  have hr9 := hK0 (d, d1) h
  subst hr9
  exact W.lret (v := d) hx hb hr (fun t ht hW => ⟨⟨d, (), rfl, rfl, by rw [ht]; exact hP, va_K.moved hW.alike hK, hD⟩, hS.F ht⟩) hS.2.2 dX7_seed_11
def f_X7_years_j148 (p1 : Int32) (x2 : Int32) (x3 : Int32) (M__148 : ul_S) (d__148 : Int64) : Option (Int32 × ul_S × Int64) :=
  some (x2, M__148, d__148)
def f_X7_years_j128 (p1 : Int32) (x2 : Int32) (x3 : Int32) (x4 : Int32) (M__128 : ul_S) (d__128 : Int64) : Option ((Int32 × Int32 × ul_S × Int64) ⊕ (Int32 × Int32 × ul_S × Int64)) :=
  (f_X7_sumOf M__128 (1 : Int32) (8 : Int32) (M__128 0 0)).bind fun u4 => ul_bd (x2 + u4) fun v5 => ul_bd (x3 + 1) fun v6 => some (.inr (v5, v6, M__128, d__128))
def f_X7_years_L23 (p1 : Int32) (q23 : (Int32 × Int32 × ul_S × Int64)) : Option ((Int32 × Int32 × ul_S × Int64) ⊕ (Int32 × Int32 × ul_S × Int64)) :=
  if p1 ≤ q23.2.1 then (some (.inl (q23.1, q23.2.1, q23.2.2.1, q23.2.2.2))) else (ul_bd ((q23.2.2.2 * (6364136223846793005 : Int64)) + (1442695040888963407 : Int64)) fun d11 => ul_bd ((((d11.toUInt64 >>> ((33 : Int32).toInt64.toUInt64 &&& Int64.toUInt64 63)).toInt64) - ((d11.toUInt64 >>> ((33 : Int32).toInt64.toUInt64 &&& Int64.toUInt64 63)).toInt64) / (30 : Int64) * (30 : Int64)).toInt32) fun v12 => if v12 ≤ (14 : Int32) then (if v12 ≤ (9 : Int32) then ((f_X7_canMove q23.2.2.1 (1 : Int32) (0 : Int32) v12).bind fun u15 => if u15 = 0 then (f_X7_years_j128 p1 q23.1 q23.2.1 v12 q23.2.2.1 d11) else (ul_st q23.2.2.1 6 46 (23 : Int32) v12 fun M17 => f_X7_years_j128 p1 q23.1 q23.2.1 v12 M17 d11)) else ((f_X7_isPerson q23.2.2.1 (v12 - (10 : Int32))).bind fun u19 => if u19 = 0 then (f_X7_years_j128 p1 q23.1 q23.2.1 v12 q23.2.2.1 d11) else ((f_X7_giveOn q23.2.2.1 (1 : Int32) (v12 - (10 : Int32)) (1 : Int32)).bind fun u21 => f_X7_years_j128 p1 q23.1 q23.2.1 v12 u21 d11))) else ((f_X7_passOn q23.2.2.1 (1 : Int32) (0 : Int32)).bind fun u22 => f_X7_years_j128 p1 q23.1 q23.2.1 v12 u22.2 d11))
def f_X7_years (M : ul_S) (d : Int64) (p1 : Int32) : Option (Int32 × ul_S × Int64) :=
  (f_X7_in p1.toInt64 (1 : Int64) (30 : Int64)).bind fun u1 => if u1 = 0 then (some ((-2 : Int32), M, d)) else ((f_X7_layTrial M).bind fun u3 => (ul_it ul_N (f_X7_years_L23 p1) ((0 : Int32), (0 : Int32), u3, d)).bind (fun e23 => f_X7_years_j148 p1 e23.1 e23.2.1 e23.2.2.1 e23.2.2.2))
set_option maxHeartbeats 4000000 in
set_option maxRecDepth 100000 in
theorem c_X7_years (l : Launch) (dC : Nat → ClassId) (dI : Nat → Nat → Nat) (cI : ClassId) (cZ : ClassId) (aM : Nat → Nat) (sz : Nat) (M : ul_S) (d : Int64) (p1 : Int32) (r : (Int32 × ul_S × Int64)) (h : f_X7_years M d p1 = some r) : Met l yX7_years wsX7_years ({ frames := 6, cells := 0, slots := 0, locals := 143 }) (va_Pc [.ref (aM 0), .int p1] (ul_pre (dC, dI) [(cI, .int), (cZ, .boolean)] ul_N0 sz (ul_wM cI cZ aM M d))) (va_Qi (fun v (_ : Unit) => v = r.1) (fun _ => ul_post (dC, dI) [(cI, .int), (cZ, .boolean)] (va_A (ul_wM cI cZ aM M d) sz) (ul_wM cI cZ aM r.2.1 r.2.2)) (va_A (ul_wM cI cZ aM M d) sz)) 0 0 (va_A (ul_wM cI cZ aM M d) sz) := by
  refine Met.ofW (cc := cX7_years) (maxL := 5) (ret := (some .int)) (by decide) rfl ?_
  intro p e s m args below meth c s₁ B hml hv
  obtain ⟨rfl, hsz, hP, hK, hD0, hN⟩ := hv
  have hx := B.exec
  have hb := B.bytes
  have hr := B.returns
  have hts := atoms_spec (ws := wsX7_years) B.pre
  have hown : s.vm.findClass RX7 = some m.cls := findClass_of_methodNamed B.named
  have hlocks := B.notSynchronized
  have hin7 : ∀ w ∈ u_ws RX7 TX7 26, w ∈ wsX7_years := by decide +kernel
  subst hsz
  have hD := hD0.self (sz := s.heap.size)
  generalize hAe : va_A (ul_wM cI cZ aM M d) s.heap.size = A at hD ⊢
  have hA : ∀ q : Nat, s.heap.size ≤ q → A q := fun q h => by rw [← hAe]; exact Or.inr h
  have hS : va_S A s.heap s.heap [] := va_S.rf
  have hl := lv_entry ([.ref (aM 0), .int p1]) (n := 5) (Nat.le_of_ble_eq_true rfl)
  rw [lg_entry_eq]
  generalize (lg_sl ([.ref (aM 0), .int p1]) ++ List.replicate (5 - (lg_sl ([.ref (aM 0), .int p1])).length) Slot.unset).toArray = ls at hl ⊢
  have hl : lv_has ls 5 [(0, .ref (aM 0)), (1, .int p1)] := hl
  obtain ⟨K0, hK0, h⟩ := ul_top h
  unfold f_X7_years at h
  refine ul_gen (fun G gi ge => ?_)
  obtain ⟨H, eH⟩ : ∃ z, z = s.heap := ⟨_, rfl⟩
  obtain ⟨locs, eL⟩ : ∃ z : List Loc, z = [] := ⟨_, rfl⟩
  have hP : va_P (dC, dI) classes (ul_wM cI cZ aM M d) H := by rw [eH]; exact hP
  have hS : va_S A s.heap H locs := by rw [eH, eL]; exact hS
  rw [← eL]
  refine (show G H locs (F0 m 0 ls []) → G s.heap locs (F0 m 0 ls []) from fun z => by rw [← eH]; exact z) ?_
  have J148 : ∀ (x2 : Int32) (x3 : Int32) (M__148 : ul_S) (d__148 : Int64) (H : Heap) (locs : List Loc), ul_H (dC, dI) A s.heap (ul_wM cI cZ aM M__148 d__148) H locs → ∀ ls : Array Slot, lv_has ls 5 [(0, .ref (aM 0)), (1, .int p1), (2, .int x2), (3, .int x3)] → (f_X7_years_j148 p1 x2 x3 M__148 d__148).bind K0 = some r → G H locs (F0 m 148 ls []) := by
    intro x2 x3 M__148 d__148 H locs hw ls hl h
    obtain ⟨hP, hD, hS⟩ := hw
    unfold f_X7_years_j148 at h
    refine gi _ _ _ ?_
    refine lv_iload_n hx hb dX7_years_148 rfl (lv_at hl 2 rfl) ?_
    have hr9 := hK0 (x2, M__148, d__148) h
    subst hr9
    exact W.iret (v := x2) hx hb hr (fun t ht hW => ⟨⟨x2, (), rfl, rfl, by rw [ht]; exact hP, va_K.moved hW.alike hK, hD⟩, hS.F ht⟩) hS.2.2 dX7_years_149
  refine gi _ _ _ ?_
  refine lv_iload_n hx hb dX7_years_0 rfl (lv_at hl 1 rfl) ?_
  refine lv_i2l hx hb dX7_years_1 rfl ?_
  refine lv_lconst (v := 1) hx hb dX7_years_2 (by decide) ?_
  refine lv_ldc2 (v := 30) hx hb hown (hts (.constantLong RX7 221 (30)) (by decide +kernel)) dX7_years_3 ?_
  obtain ⟨u1, hu1, h⟩ := ul_cl_h h
  refine ul_cSi (As := [.long p1.toInt64, .long (1 : Int64), .long (30 : Int64)]) (rest := []) hP hD hS hK hA (c_X7_in l dC dI H.size p1.toInt64 (1 : Int64) (30 : Int64) u1 hu1) ⟨hx, hb, hml, hown, hts⟩ (cwS 3 hts gX7_years_X7_in rfl rfl rfl (by decide +kernel) ⟨Nat.le_of_ble_eq_true rfl, Nat.le_of_ble_eq_true rfl⟩) rfl hl.1 rfl (Nat.le_of_ble_eq_true rfl) dX7_years_6 (fun H locs hw => ?_)
  obtain ⟨hP, hD, hS⟩ := hw
  refine lv_if_ne (tgt := 15) hx hb dX7_years_9 (by decide) (fun hc2 => ?_) (fun hc2 => ?_)
  · have h := ul_if_f hc2 h
    refine lv_aload_n hx hb dX7_years_15 rfl (lv_at hl 0 rfl) ?_
    obtain ⟨u3, hu3, h⟩ := ul_cl_h h
    refine ul_cVv (As := []) (rest := []) (wc' := (ul_wM cI cZ aM u3 d)) (wr := []) hP hD hS hK hA [0, 1, 2, 3, 4, 5, 6, 7, 8, 9, 10, 11, 12, 13, 14] [] [0, 1] ul_N0_ok trivial (c_X7_layTrial l dC dI cI cZ aM H.size M d u3 hu3) rfl rfl (by decide) rfl (by decide) (by decide) rfl ⟨hx, hb, hml, hown, hts⟩ (cwV 0 hts gX7_years_X7_layTrial rfl rfl rfl (by decide +kernel) ⟨Nat.le_of_ble_eq_true rfl, Nat.le_of_ble_eq_true rfl⟩) (va_recv hK hP (ci := 7) (q0 := 0) rfl rfl) rfl hl.1 rfl (Nat.le_of_ble_eq_true rfl) dX7_years_16 (fun H locs hw => ?_)
    obtain ⟨hP, hD, hS⟩ := hw
    have hP : va_P (dC, dI) classes (ul_wM cI cZ aM u3 d) H := hP
    have hD : va_D A (ul_wM cI cZ aM u3 d) := hD
    refine lv_iconst (v := 0) hx hb dX7_years_19 (by decide) ?_
    refine lv_istore_n (lv' := [(2, .int (0 : Int32)), (0, .ref (aM 0)), (1, .int p1)]) hx hb dX7_years_20 rfl hl (by decide) rfl (fun ls hl => ?_)
    refine lv_iconst (v := 0) hx hb dX7_years_21 (by decide) ?_
    refine lv_istore_n (lv' := [(3, .int (0 : Int32)), (2, .int (0 : Int32)), (0, .ref (aM 0)), (1, .int p1)]) hx hb dX7_years_22 rfl hl (by decide) rfl (fun ls hl => ?_)
    refine ge _ _ _ (ul_loop (P := fun q23 => ∀ (H : Heap) (locs : List Loc), ul_H (dC, dI) A s.heap (ul_wM cI cZ aM q23.2.2.1 q23.2.2.2) H locs → ∀ ls : Array Slot, lv_has ls 5 [(0, .ref (aM 0)), (1, .int p1), (2, .int q23.1), (3, .int q23.2.1)] → G H locs (F0 m 23 ls [])) ?_ _ _ (ul_it_h h) H locs ⟨hP, hD, hS⟩ ls (lv_sub hl [2, 3, 1, 0] rfl))
    intro K23 hx23
    intro q23 ih23 h H locs hw ls hl
    have J128 : ∀ (x2 : Int32) (x3 : Int32) (x4 : Int32) (M__128 : ul_S) (d__128 : Int64) (H : Heap) (locs : List Loc), ul_H (dC, dI) A s.heap (ul_wM cI cZ aM M__128 d__128) H locs → ∀ ls : Array Slot, lv_has ls 5 [(0, .ref (aM 0)), (1, .int p1), (2, .int x2), (3, .int x3), (4, .int x4)] → (f_X7_years_j128 p1 x2 x3 x4 M__128 d__128).bind K23 = some r → G H locs (F0 m 128 ls []) := by
      intro x2 x3 x4 M__128 d__128 H locs hw ls hl h
      obtain ⟨hP, hD, hS⟩ := hw
      unfold f_X7_years_j128 at h
      refine gi _ _ _ ?_
      refine lv_iload_n hx hb dX7_years_128 rfl (lv_at hl 2 rfl) ?_
      refine lv_aload_n hx hb dX7_years_129 rfl (lv_at hl 0 rfl) ?_
      refine lv_iconst (v := 1) hx hb dX7_years_130 (by decide) ?_
      refine lv_bipush (v := 8) hx hb dX7_years_131 (by decide) ?_
      refine lv_aload_n hx hb dX7_years_133 rfl (lv_at hl 0 rfl) ?_
      refine va_get (D := (dC, dI)) (ci := 7) (v := .int (M__128 0 0)) (C := RX7) (T := TX7) (N := 26) hx hb hts hin7 hown hK hP 0 rfl rfl 0 (by decide) (hts (.fieldLink RX7 96 "UnderLaddersModel" "ladders" "I") (by decide +kernel)) (fun _ h9 => h9) rfl dX7_years_134 ?_
      obtain ⟨u7, hu7, h⟩ := ul_cl_h h
      refine ul_cVi (As := [.int (1 : Int32), .int (8 : Int32), .int (M__128 0 0)]) (rest := [.int x2]) (wc' := (ul_wM cI cZ aM M__128 d__128)) (wr := []) hP hD hS hK hA [0, 1, 2, 3, 4, 5, 6, 7, 8, 9, 10, 11, 12, 13, 14] [] [0, 1] ul_N0_ok trivial (c_X7_sumOf l dC dI cI cZ aM H.size M__128 d__128 (1 : Int32) (8 : Int32) (M__128 0 0) u7 hu7) rfl rfl (by decide) rfl (by decide) (by decide) rfl ⟨hx, hb, hml, hown, hts⟩ (cwV 3 hts gX7_years_X7_sumOf rfl rfl rfl (by decide +kernel) ⟨Nat.le_of_ble_eq_true rfl, Nat.le_of_ble_eq_true rfl⟩) (va_recv hK hP (ci := 7) (q0 := 0) rfl rfl) rfl hl.1 rfl (Nat.le_of_ble_eq_true rfl) dX7_years_137 (fun H locs hw => ?_)
      obtain ⟨hP, hD, hS⟩ := hw
      have hP : va_P (dC, dI) classes (ul_wM cI cZ aM M__128 d__128) H := hP
      have hD : va_D A (ul_wM cI cZ aM M__128 d__128) := hD
      refine lv_iadd hx hb dX7_years_140 ?_
      refine lv_topi (fun v8 ev8 => ?_)
      have h := ul_bd_h h v8 ev8
      refine lv_istore_n (lv' := [(2, .int v8), (0, .ref (aM 0)), (1, .int p1), (3, .int x3), (4, .int x4)]) hx hb dX7_years_141 rfl hl (by decide) rfl (fun ls hl => ?_)
      obtain ⟨v9, ev9⟩ : ∃ z : Int32, z = x3 + 1 := ⟨_, rfl⟩
      have h := ul_bd_h h v9 ev9
      refine lv_iinc (v := v9) (lv' := [(3, .int v9), (2, .int v8), (0, .ref (aM 0)), (1, .int p1), (4, .int x4)]) hx hb dX7_years_142 hl (k := 3) rfl (by rw [ev9]; rfl) (by decide) rfl (fun ls hl => ?_)
      refine lv_goto (tgt := 23) hx hb dX7_years_145 (by decide) ?_
      exact ge _ _ _ (ih23 (v8, v9, M__128, d__128) h H locs ⟨hP, hD, hS⟩ ls (lv_sub hl [2, 3, 1, 0] rfl))
    obtain ⟨hP, hD, hS⟩ := hw
    unfold f_X7_years_L23 at h
    refine gi _ _ _ ?_
    refine lv_iload_n hx hb dX7_years_23 rfl (lv_at hl 3 rfl) ?_
    refine lv_iload_n hx hb dX7_years_24 rfl (lv_at hl 1 rfl) ?_
    refine lv_icmp_ge (tgt := 148) hx hb dX7_years_25 (by decide) (fun hc23 => ?_) (fun hc23 => ?_)
    · have h := ul_if_t hc23 h
      exact ge _ _ _ (J148 q23.1 q23.2.1 q23.2.2.1 q23.2.2.2 H locs ⟨hP, hD, hS⟩ ls (lv_sub hl [0, 1, 2, 3] rfl) (hx23 (q23.1, q23.2.1, q23.2.2.1, q23.2.2.2) h))
    · have h := ul_if_f hc23 h
      refine lv_aload_n hx hb dX7_years_28 rfl (lv_at hl 0 rfl) ?_
      refine lv_aload_n hx hb dX7_years_29 rfl (lv_at hl 0 rfl) ?_
      refine va_get (D := (dC, dI)) (ci := 7) (v := .long q23.2.2.2) (C := RX7) (T := TX7) (N := 26) hx hb hts hin7 hown hK hP 0 rfl rfl 23 (by decide) (hts (.fieldLink RX7 217 "UnderLaddersModel" "seed" "J") (by decide +kernel)) (fun _ h9 => h9) rfl dX7_years_30 ?_
      refine lv_ldc2 (v := 6364136223846793005) hx hb hown (hts (.constantLong RX7 223 (6364136223846793005)) (by decide +kernel)) dX7_years_33 ?_
      refine lv_lmul hx hb dX7_years_36 ?_
      refine lv_ldc2 (v := 1442695040888963407) hx hb hown (hts (.constantLong RX7 225 (1442695040888963407)) (by decide +kernel)) dX7_years_37 ?_
      refine lv_ladd hx hb dX7_years_40 ?_
      refine va_put (D := (dC, dI)) (ci := 7) (v := .long ((q23.2.2.2 * (6364136223846793005 : Int64)) + (1442695040888963407 : Int64))) (ty := .long) (C := RX7) (T := TX7) (N := 26) hx hb hts hin7 tyX7 tyX7_ok nmX7 hown hK hP hD hS 0 rfl rfl 23 (by decide) (hts (.fieldLink RX7 217 "UnderLaddersModel" "seed" "J") (by decide +kernel)) (fun _ h9 => h9) rfl (by decide +kernel) rfl rfl (Nat.le_of_ble_eq_true rfl) dX7_years_41 (fun H locs hP hD hS => ?_)
      obtain ⟨d24, ed24⟩ : ∃ z : Int64, z = ((q23.2.2.2 * (6364136223846793005 : Int64)) + (1442695040888963407 : Int64)) := ⟨_, rfl⟩
      have h := ul_bd_h h d24 ed24
      have hP : va_P (dC, dI) classes (ul_wM cI cZ aM q23.2.2.1 d24) H := by rw [ed24]; exact hP
      have hD : va_D A (ul_wM cI cZ aM q23.2.2.1 d24) := by rw [ed24]; exact hD
      refine lv_aload_n hx hb dX7_years_44 rfl (lv_at hl 0 rfl) ?_
      refine va_get (D := (dC, dI)) (ci := 7) (v := .long d24) (C := RX7) (T := TX7) (N := 26) hx hb hts hin7 hown hK hP 0 rfl rfl 23 (by decide) (hts (.fieldLink RX7 217 "UnderLaddersModel" "seed" "J") (by decide +kernel)) (fun _ h9 => h9) rfl dX7_years_45 ?_
      refine lv_bipush (v := 33) hx hb dX7_years_48 (by decide) ?_
      refine lv_lushr hx hb dX7_years_50 rfl ?_
      refine lv_ldc2 (v := 30) hx hb hown (hts (.constantLong RX7 221 (30)) (by decide +kernel)) dX7_years_51 ?_
      refine lv_lrem hx hb dX7_years_54 (by decide) ?_
      refine lv_l2i hx hb dX7_years_55 rfl ?_
      refine lv_topi (fun v25 ev25 => ?_)
      have h := ul_bd_h h v25 ev25
      refine lv_istore (lv' := [(4, .int v25), (0, .ref (aM 0)), (1, .int p1), (2, .int q23.1), (3, .int q23.2.1)]) hx hb dX7_years_56 hl (by decide) rfl (fun ls hl => ?_)
      refine lv_iload hx hb dX7_years_58 (lv_at hl 0 rfl) ?_
      refine lv_bipush (v := 14) hx hb dX7_years_60 (by decide) ?_
      refine lv_icmp_le (tgt := 75) hx hb dX7_years_62 (by decide) (fun hc26 => ?_) (fun hc26 => ?_)
      · have h := ul_if_t hc26 h
        refine lv_iload hx hb dX7_years_75 (lv_at hl 0 rfl) ?_
        refine lv_bipush (v := 9) hx hb dX7_years_77 (by decide) ?_
        refine lv_icmp_le (tgt := 108) hx hb dX7_years_79 (by decide) (fun hc27 => ?_) (fun hc27 => ?_)
        · have h := ul_if_t hc27 h
          refine lv_aload_n hx hb dX7_years_108 rfl (lv_at hl 1 rfl) ?_
          refine lv_iconst (v := 1) hx hb dX7_years_109 (by decide) ?_
          refine lv_iconst (v := 0) hx hb dX7_years_110 (by decide) ?_
          refine lv_iload hx hb dX7_years_111 (lv_at hl 0 rfl) ?_
          obtain ⟨u28, hu28, h⟩ := ul_cl_h h
          refine ul_cVi (As := [.int (1 : Int32), .int (0 : Int32), .int v25]) (rest := []) (wc' := (ul_wM cI cZ aM q23.2.2.1 d24)) (wr := []) hP hD hS hK hA [0, 1, 2, 3, 4, 5, 6, 7, 8, 9, 10, 11, 12, 13, 14] [] [0, 1] ul_N0_ok trivial (c_X7_canMove l dC dI cI cZ aM H.size q23.2.2.1 d24 (1 : Int32) (0 : Int32) v25 u28 hu28) rfl rfl (by decide) rfl (by decide) (by decide) rfl ⟨hx, hb, hml, hown, hts⟩ (cwV 3 hts gX7_years_X7_canMove rfl rfl rfl (by decide +kernel) ⟨Nat.le_of_ble_eq_true rfl, Nat.le_of_ble_eq_true rfl⟩) (va_recv hK hP (ci := 7) (q0 := 0) rfl rfl) rfl hl.1 rfl (Nat.le_of_ble_eq_true rfl) dX7_years_113 (fun H locs hw => ?_)
          obtain ⟨hP, hD, hS⟩ := hw
          have hP : va_P (dC, dI) classes (ul_wM cI cZ aM q23.2.2.1 d24) H := hP
          have hD : va_D A (ul_wM cI cZ aM q23.2.2.1 d24) := hD
          refine lv_if_eq (tgt := 128) hx hb dX7_years_116 (by decide) (fun hc29 => ?_) (fun hc29 => ?_)
          · have h := ul_if_t hc29 h
            exact ge _ _ _ (J128 q23.1 q23.2.1 v25 q23.2.2.1 d24 H locs ⟨hP, hD, hS⟩ ls (lv_sub hl [1, 2, 3, 4, 0] rfl) h)
          · have h := ul_if_f hc29 h
            refine lv_aload_n hx hb dX7_years_119 rfl (lv_at hl 1 rfl) ?_
            refine va_get (D := (dC, dI)) (ci := 7) (v := .ref (aM 6)) (C := RX7) (T := TX7) (N := 26) hx hb hts hin7 hown hK hP 0 rfl rfl 7 (by decide) (hts (.fieldLink RX7 25 "UnderLaddersModel" "now" "[I") (by decide +kernel)) (fun _ h9 => h9) rfl dX7_years_120 ?_
            refine lv_bipush (v := 23) hx hb dX7_years_123 (by decide) ?_
            refine lv_iload hx hb dX7_years_125 (lv_at hl 0 rfl) ?_
            obtain ⟨hi31, h⟩ := ul_st_h h
            refine va_iast hx hb hK hP hD hS 6 0 rfl rfl hi31 dX7_years_127 (fun H locs hP hD hS => ?_)
            obtain ⟨M30, eM30⟩ : ∃ z : ul_S, z = ul_up q23.2.2.1 6 (23 : Int32).toNatClampNeg v25 := ⟨_, rfl⟩
            have h := h M30 eM30
            have hP : va_P (dC, dI) classes (ul_wM cI cZ aM M30 d24) H := by rw [eM30]; exact hP
            have hD : va_D A (ul_wM cI cZ aM M30 d24) := by rw [eM30]; exact hD
            exact ge _ _ _ (J128 q23.1 q23.2.1 v25 M30 d24 H locs ⟨hP, hD, hS⟩ ls (lv_sub hl [1, 2, 3, 4, 0] rfl) h)
        · have h := ul_if_f hc27 h
          refine lv_aload_n hx hb dX7_years_82 rfl (lv_at hl 1 rfl) ?_
          refine lv_iload hx hb dX7_years_83 (lv_at hl 0 rfl) ?_
          refine lv_bipush (v := 10) hx hb dX7_years_85 (by decide) ?_
          refine lv_isub hx hb dX7_years_87 ?_
          obtain ⟨u32, hu32, h⟩ := ul_cl_h h
          refine ul_cVi (As := [.int (v25 - (10 : Int32))]) (rest := []) (wc' := (ul_wM cI cZ aM q23.2.2.1 d24)) (wr := []) hP hD hS hK hA [0, 1, 2, 3, 4, 5, 6, 7, 8, 9, 10, 11, 12, 13, 14] [] [0, 1] ul_N0_ok trivial (c_X7_isPerson l dC dI cI cZ aM H.size q23.2.2.1 d24 (v25 - (10 : Int32)) u32 hu32) rfl rfl (by decide) rfl (by decide) (by decide) rfl ⟨hx, hb, hml, hown, hts⟩ (cwV 1 hts gX7_years_X7_isPerson rfl rfl rfl (by decide +kernel) ⟨Nat.le_of_ble_eq_true rfl, Nat.le_of_ble_eq_true rfl⟩) (va_recv hK hP (ci := 7) (q0 := 0) rfl rfl) rfl hl.1 rfl (Nat.le_of_ble_eq_true rfl) dX7_years_88 (fun H locs hw => ?_)
          obtain ⟨hP, hD, hS⟩ := hw
          have hP : va_P (dC, dI) classes (ul_wM cI cZ aM q23.2.2.1 d24) H := hP
          have hD : va_D A (ul_wM cI cZ aM q23.2.2.1 d24) := hD
          refine lv_if_eq (tgt := 128) hx hb dX7_years_91 (by decide) (fun hc33 => ?_) (fun hc33 => ?_)
          · have h := ul_if_t hc33 h
            exact ge _ _ _ (J128 q23.1 q23.2.1 v25 q23.2.2.1 d24 H locs ⟨hP, hD, hS⟩ ls (lv_sub hl [1, 2, 3, 4, 0] rfl) h)
          · have h := ul_if_f hc33 h
            refine lv_aload_n hx hb dX7_years_94 rfl (lv_at hl 1 rfl) ?_
            refine lv_iconst (v := 1) hx hb dX7_years_95 (by decide) ?_
            refine lv_iload hx hb dX7_years_96 (lv_at hl 0 rfl) ?_
            refine lv_bipush (v := 10) hx hb dX7_years_98 (by decide) ?_
            refine lv_isub hx hb dX7_years_100 ?_
            refine lv_iconst (v := 1) hx hb dX7_years_101 (by decide) ?_
            obtain ⟨u34, hu34, h⟩ := ul_cl_h h
            refine ul_cVv (As := [.int (1 : Int32), .int (v25 - (10 : Int32)), .int (1 : Int32)]) (rest := []) (wc' := (ul_wM cI cZ aM u34 d24)) (wr := []) hP hD hS hK hA [0, 1, 2, 3, 4, 5, 6, 7, 8, 9, 10, 11, 12, 13, 14] [] [0, 1] ul_N0_ok trivial (c_X7_giveOn l dC dI cI cZ aM H.size q23.2.2.1 d24 (1 : Int32) (v25 - (10 : Int32)) (1 : Int32) u34 hu34) rfl rfl (by decide) rfl (by decide) (by decide) rfl ⟨hx, hb, hml, hown, hts⟩ (cwV 3 hts gX7_years_X7_giveOn rfl rfl rfl (by decide +kernel) ⟨Nat.le_of_ble_eq_true rfl, Nat.le_of_ble_eq_true rfl⟩) (va_recv hK hP (ci := 7) (q0 := 0) rfl rfl) rfl hl.1 rfl (Nat.le_of_ble_eq_true rfl) dX7_years_102 (fun H locs hw => ?_)
            obtain ⟨hP, hD, hS⟩ := hw
            have hP : va_P (dC, dI) classes (ul_wM cI cZ aM u34 d24) H := hP
            have hD : va_D A (ul_wM cI cZ aM u34 d24) := hD
            refine lv_goto (tgt := 128) hx hb dX7_years_105 (by decide) ?_
            exact ge _ _ _ (J128 q23.1 q23.2.1 v25 u34 d24 H locs ⟨hP, hD, hS⟩ ls (lv_sub hl [1, 2, 3, 4, 0] rfl) h)
      · have h := ul_if_f hc26 h
        refine lv_aload_n hx hb dX7_years_65 rfl (lv_at hl 1 rfl) ?_
        refine lv_iconst (v := 1) hx hb dX7_years_66 (by decide) ?_
        refine lv_iconst (v := 0) hx hb dX7_years_67 (by decide) ?_
        obtain ⟨u35, hu35, h⟩ := ul_cl_h h
        refine ul_cVi (As := [.int (1 : Int32), .int (0 : Int32)]) (rest := []) (wc' := (ul_wM cI cZ aM u35.2 d24)) (wr := []) hP hD hS hK hA [0, 1, 2, 3, 4, 5, 6, 7, 8, 9, 10, 11, 12, 13, 14] [] [0, 1] ul_N0_ok trivial (c_X7_passOn l dC dI cI cZ aM H.size q23.2.2.1 d24 (1 : Int32) (0 : Int32) u35 hu35) rfl rfl (by decide) rfl (by decide) (by decide) rfl ⟨hx, hb, hml, hown, hts⟩ (cwV 2 hts gX7_years_X7_passOn rfl rfl rfl (by decide +kernel) ⟨Nat.le_of_ble_eq_true rfl, Nat.le_of_ble_eq_true rfl⟩) (va_recv hK hP (ci := 7) (q0 := 0) rfl rfl) rfl hl.1 rfl (Nat.le_of_ble_eq_true rfl) dX7_years_68 (fun H locs hw => ?_)
        obtain ⟨hP, hD, hS⟩ := hw
        have hP : va_P (dC, dI) classes (ul_wM cI cZ aM u35.2 d24) H := hP
        have hD : va_D A (ul_wM cI cZ aM u35.2 d24) := hD
        refine lv_pop hx hb dX7_years_71 rfl ?_
        refine lv_goto (tgt := 128) hx hb dX7_years_72 (by decide) ?_
        exact ge _ _ _ (J128 q23.1 q23.2.1 v25 u35.2 d24 H locs ⟨hP, hD, hS⟩ ls (lv_sub hl [1, 2, 3, 4, 0] rfl) h)
  · have h := ul_if_t hc2 h
    refine lv_bipush (v := -2) hx hb dX7_years_12 (by decide) ?_
    have hr9 := hK0 ((-2 : Int32), M, d) h
    subst hr9
    exact W.iret (v := (-2 : Int32)) hx hb hr (fun t ht hW => ⟨⟨(-2 : Int32), (), rfl, rfl, by rw [ht]; exact hP, va_K.moved hW.alike hK, hD⟩, hS.F ht⟩) hS.2.2 dX7_years_14
def f_X7_keep_j50 (p1 : Int32) (x2 : Int32) (M__50 : ul_S) : Option (Int32 × ul_S) :=
  ul_ld (M__50 6) 46 (22 : Int32) fun v1 => some (v1, M__50)
def f_X7_keep_L21 (p1 : Int32) (q21 : (Int32 × ul_S)) : Option ((Int32 × ul_S) ⊕ (Int32 × ul_S)) :=
  if (23 : Int32) ≤ q21.1 then (some (.inl (q21.1, q21.2))) else (ul_ld (q21.2 6) 46 q21.1 fun v10 => ul_st q21.2 14 46 (((23 : Int32) * p1) + q21.1) v10 fun M12 => ul_bd (q21.1 + 1) fun v14 => some (.inr (v14, M12)))
def f_X7_keep (M : ul_S) (p1 : Int32) : Option (Int32 × ul_S) :=
  (f_X7_in p1.toInt64 (0 : Int64) (1 : Int64)).bind fun u5 => if u5 = 0 then (some ((-1 : Int32), M)) else (ul_st M 13 2 p1 (vp_nar .boolean (1 : Int32)) fun M7 => (ul_it ul_N (f_X7_keep_L21 p1) ((0 : Int32), M7)).bind (fun e21 => f_X7_keep_j50 p1 e21.1 e21.2))
set_option maxHeartbeats 4000000 in
set_option maxRecDepth 100000 in
theorem c_X7_keep (l : Launch) (dC : Nat → ClassId) (dI : Nat → Nat → Nat) (cI : ClassId) (cZ : ClassId) (aM : Nat → Nat) (sz : Nat) (M : ul_S) (d : Int64) (p1 : Int32) (r : (Int32 × ul_S)) (h : f_X7_keep M p1 = some r) : Met l yX7_keep wsX7_keep ({ frames := 1, cells := 0, slots := 0, locals := 25 }) (va_Pc [.ref (aM 0), .int p1] (ul_pre (dC, dI) [(cI, .int), (cZ, .boolean)] ul_N0 sz (ul_wM cI cZ aM M d))) (va_Qi (fun v (_ : Unit) => v = r.1) (fun _ => ul_post (dC, dI) [(cI, .int), (cZ, .boolean)] (va_A (ul_wM cI cZ aM M d) sz) (ul_wM cI cZ aM r.2 d)) (va_A (ul_wM cI cZ aM M d) sz)) 0 0 (va_A (ul_wM cI cZ aM M d) sz) := by
  refine Met.ofW (cc := cX7_keep) (maxL := 3) (ret := (some .int)) (by decide) rfl ?_
  intro p e s m args below meth c s₁ B hml hv
  obtain ⟨rfl, hsz, hP, hK, hD0, hN⟩ := hv
  have hx := B.exec
  have hb := B.bytes
  have hr := B.returns
  have hts := atoms_spec (ws := wsX7_keep) B.pre
  have hown : s.vm.findClass RX7 = some m.cls := findClass_of_methodNamed B.named
  have hlocks := B.notSynchronized
  have hin7 : ∀ w ∈ u_ws RX7 TX7 26, w ∈ wsX7_keep := by decide +kernel
  subst hsz
  have hD := hD0.self (sz := s.heap.size)
  generalize hAe : va_A (ul_wM cI cZ aM M d) s.heap.size = A at hD ⊢
  have hA : ∀ q : Nat, s.heap.size ≤ q → A q := fun q h => by rw [← hAe]; exact Or.inr h
  have hS : va_S A s.heap s.heap [] := va_S.rf
  have hl := lv_entry ([.ref (aM 0), .int p1]) (n := 3) (Nat.le_of_ble_eq_true rfl)
  rw [lg_entry_eq]
  generalize (lg_sl ([.ref (aM 0), .int p1]) ++ List.replicate (3 - (lg_sl ([.ref (aM 0), .int p1])).length) Slot.unset).toArray = ls at hl ⊢
  have hl : lv_has ls 3 [(0, .ref (aM 0)), (1, .int p1)] := hl
  obtain ⟨K0, hK0, h⟩ := ul_top h
  unfold f_X7_keep at h
  refine ul_gen (fun G gi ge => ?_)
  obtain ⟨H, eH⟩ : ∃ z, z = s.heap := ⟨_, rfl⟩
  obtain ⟨locs, eL⟩ : ∃ z : List Loc, z = [] := ⟨_, rfl⟩
  have hP : va_P (dC, dI) classes (ul_wM cI cZ aM M d) H := by rw [eH]; exact hP
  have hS : va_S A s.heap H locs := by rw [eH, eL]; exact hS
  rw [← eL]
  refine (show G H locs (F0 m 0 ls []) → G s.heap locs (F0 m 0 ls []) from fun z => by rw [← eH]; exact z) ?_
  have J50 : ∀ (x2 : Int32) (M__50 : ul_S) (H : Heap) (locs : List Loc), ul_H (dC, dI) A s.heap (ul_wM cI cZ aM M__50 d) H locs → ∀ ls : Array Slot, lv_has ls 3 [(0, .ref (aM 0)), (1, .int p1), (2, .int x2)] → (f_X7_keep_j50 p1 x2 M__50).bind K0 = some r → G H locs (F0 m 50 ls []) := by
    intro x2 M__50 H locs hw ls hl h
    obtain ⟨hP, hD, hS⟩ := hw
    unfold f_X7_keep_j50 at h
    refine gi _ _ _ ?_
    refine lv_aload_n hx hb dX7_keep_50 rfl (lv_at hl 0 rfl) ?_
    refine va_get (D := (dC, dI)) (ci := 7) (v := .ref (aM 6)) (C := RX7) (T := TX7) (N := 26) hx hb hts hin7 hown hK hP 0 rfl rfl 7 (by decide) (hts (.fieldLink RX7 25 "UnderLaddersModel" "now" "[I") (by decide +kernel)) (fun _ h9 => h9) rfl dX7_keep_51 ?_
    refine lv_bipush (v := 22) hx hb dX7_keep_54 (by decide) ?_
    obtain ⟨hi4, h⟩ := ul_ld_h h
    refine va_iald hx hb hK hP 6 0 rfl rfl hi4 dX7_keep_56 ?_
    refine lv_topi (fun v3 ev3 => ?_)
    have h := h v3 ev3
    have hr9 := hK0 (v3, M__50) h
    subst hr9
    exact W.iret (v := v3) hx hb hr (fun t ht hW => ⟨⟨v3, (), rfl, rfl, by rw [ht]; exact hP, va_K.moved hW.alike hK, hD⟩, hS.F ht⟩) hS.2.2 dX7_keep_57
  refine gi _ _ _ ?_
  refine lv_iload_n hx hb dX7_keep_0 rfl (lv_at hl 1 rfl) ?_
  refine lv_i2l hx hb dX7_keep_1 rfl ?_
  refine lv_lconst (v := 0) hx hb dX7_keep_2 (by decide) ?_
  refine lv_lconst (v := 1) hx hb dX7_keep_3 (by decide) ?_
  obtain ⟨u5, hu5, h⟩ := ul_cl_h h
  refine ul_cSi (As := [.long p1.toInt64, .long (0 : Int64), .long (1 : Int64)]) (rest := []) hP hD hS hK hA (c_X7_in l dC dI H.size p1.toInt64 (0 : Int64) (1 : Int64) u5 hu5) ⟨hx, hb, hml, hown, hts⟩ (cwS 3 hts gX7_keep_X7_in rfl rfl rfl (by decide +kernel) ⟨Nat.le_of_ble_eq_true rfl, Nat.le_of_ble_eq_true rfl⟩) rfl hl.1 rfl (Nat.le_of_ble_eq_true rfl) dX7_keep_4 (fun H locs hw => ?_)
  obtain ⟨hP, hD, hS⟩ := hw
  refine lv_if_ne (tgt := 12) hx hb dX7_keep_7 (by decide) (fun hc6 => ?_) (fun hc6 => ?_)
  · have h := ul_if_f hc6 h
    refine lv_aload_n hx hb dX7_keep_12 rfl (lv_at hl 0 rfl) ?_
    refine va_get (D := (dC, dI)) (ci := 7) (v := .ref (aM 13)) (C := RX7) (T := TX7) (N := 26) hx hb hts hin7 hown hK hP 0 rfl rfl 24 (by decide) (hts (.fieldLink RX7 46 "UnderLaddersModel" "isKept" "[Z") (by decide +kernel)) (fun _ h9 => h9) rfl dX7_keep_13 ?_
    refine lv_iload_n hx hb dX7_keep_16 rfl (lv_at hl 1 rfl) ?_
    refine lv_iconst (v := 1) hx hb dX7_keep_17 (by decide) ?_
    obtain ⟨hi8, h⟩ := ul_st_h h
    refine va_zast hx hb hK hP hD hS 13 1 rfl rfl hi8 dX7_keep_18 (fun H locs hP hD hS => ?_)
    obtain ⟨M7, eM7⟩ : ∃ z : ul_S, z = ul_up M 13 p1.toNatClampNeg (vp_nar .boolean (1 : Int32)) := ⟨_, rfl⟩
    have h := h M7 eM7
    have hP : va_P (dC, dI) classes (ul_wM cI cZ aM M7 d) H := by rw [eM7]; exact hP
    have hD : va_D A (ul_wM cI cZ aM M7 d) := by rw [eM7]; exact hD
    refine lv_iconst (v := 0) hx hb dX7_keep_19 (by decide) ?_
    refine lv_istore_n (lv' := [(2, .int (0 : Int32)), (0, .ref (aM 0)), (1, .int p1)]) hx hb dX7_keep_20 rfl hl (by decide) rfl (fun ls hl => ?_)
    refine ge _ _ _ (ul_loop (P := fun q21 => ∀ (H : Heap) (locs : List Loc), ul_H (dC, dI) A s.heap (ul_wM cI cZ aM q21.2 d) H locs → ∀ ls : Array Slot, lv_has ls 3 [(0, .ref (aM 0)), (1, .int p1), (2, .int q21.1)] → G H locs (F0 m 21 ls [])) ?_ _ _ (ul_it_h h) H locs ⟨hP, hD, hS⟩ ls (lv_sub hl [1, 2, 0] rfl))
    intro K21 hx21
    intro q21 ih21 h H locs hw ls hl
    obtain ⟨hP, hD, hS⟩ := hw
    unfold f_X7_keep_L21 at h
    refine gi _ _ _ ?_
    refine lv_iload_n hx hb dX7_keep_21 rfl (lv_at hl 2 rfl) ?_
    refine lv_bipush (v := 23) hx hb dX7_keep_22 (by decide) ?_
    refine lv_icmp_ge (tgt := 50) hx hb dX7_keep_24 (by decide) (fun hc15 => ?_) (fun hc15 => ?_)
    · have h := ul_if_t hc15 h
      exact ge _ _ _ (J50 q21.1 q21.2 H locs ⟨hP, hD, hS⟩ ls (lv_sub hl [0, 1, 2] rfl) (hx21 (q21.1, q21.2) h))
    · have h := ul_if_f hc15 h
      refine lv_aload_n hx hb dX7_keep_27 rfl (lv_at hl 0 rfl) ?_
      refine va_get (D := (dC, dI)) (ci := 7) (v := .ref (aM 14)) (C := RX7) (T := TX7) (N := 26) hx hb hts hin7 hown hK hP 0 rfl rfl 25 (by decide) (hts (.fieldLink RX7 50 "UnderLaddersModel" "kept" "[I") (by decide +kernel)) (fun _ h9 => h9) rfl dX7_keep_28 ?_
      refine lv_bipush (v := 23) hx hb dX7_keep_31 (by decide) ?_
      refine lv_iload_n hx hb dX7_keep_33 rfl (lv_at hl 1 rfl) ?_
      refine lv_imul hx hb dX7_keep_34 ?_
      refine lv_iload_n hx hb dX7_keep_35 rfl (lv_at hl 2 rfl) ?_
      refine lv_iadd hx hb dX7_keep_36 ?_
      refine lv_aload_n hx hb dX7_keep_37 rfl (lv_at hl 0 rfl) ?_
      refine va_get (D := (dC, dI)) (ci := 7) (v := .ref (aM 6)) (C := RX7) (T := TX7) (N := 26) hx hb hts hin7 hown hK hP 0 rfl rfl 7 (by decide) (hts (.fieldLink RX7 25 "UnderLaddersModel" "now" "[I") (by decide +kernel)) (fun _ h9 => h9) rfl dX7_keep_38 ?_
      refine lv_iload_n hx hb dX7_keep_41 rfl (lv_at hl 2 rfl) ?_
      obtain ⟨hi17, h⟩ := ul_ld_h h
      refine va_iald hx hb hK hP 6 0 rfl rfl hi17 dX7_keep_42 ?_
      refine lv_topi (fun v16 ev16 => ?_)
      have h := h v16 ev16
      obtain ⟨hi19, h⟩ := ul_st_h h
      refine va_iast hx hb hK hP hD hS 14 0 rfl rfl hi19 dX7_keep_43 (fun H locs hP hD hS => ?_)
      obtain ⟨M18, eM18⟩ : ∃ z : ul_S, z = ul_up q21.2 14 (((23 : Int32) * p1) + q21.1).toNatClampNeg v16 := ⟨_, rfl⟩
      have h := h M18 eM18
      have hP : va_P (dC, dI) classes (ul_wM cI cZ aM M18 d) H := by rw [eM18]; exact hP
      have hD : va_D A (ul_wM cI cZ aM M18 d) := by rw [eM18]; exact hD
      obtain ⟨v20, ev20⟩ : ∃ z : Int32, z = q21.1 + 1 := ⟨_, rfl⟩
      have h := ul_bd_h h v20 ev20
      refine lv_iinc (v := v20) (lv' := [(2, .int v20), (0, .ref (aM 0)), (1, .int p1)]) hx hb dX7_keep_44 hl (k := 2) rfl (by rw [ev20]; rfl) (by decide) rfl (fun ls hl => ?_)
      refine lv_goto (tgt := 21) hx hb dX7_keep_47 (by decide) ?_
      exact ge _ _ _ (ih21 (v20, M18) h H locs ⟨hP, hD, hS⟩ ls (lv_sub hl [1, 2, 0] rfl))
  · have h := ul_if_t hc6 h
    refine lv_iconst (v := -1) hx hb dX7_keep_10 (by decide) ?_
    have hr9 := hK0 ((-1 : Int32), M) h
    subst hr9
    exact W.iret (v := (-1 : Int32)) hx hb hr (fun t ht hW => ⟨⟨(-1 : Int32), (), rfl, rfl, by rw [ht]; exact hP, va_K.moved hW.alike hK, hD⟩, hS.F ht⟩) hS.2.2 dX7_keep_11
def f_X7_again_j55 (p1 : Int32) (x2 : Int32) (M__55 : ul_S) : Option (Int32 × ul_S) :=
  ul_bd (ul_up M__55 0 8 (0 : Int32)) fun M1 => ul_ld (M1 6) 46 (22 : Int32) fun v2 => some (v2, M1)
def f_X7_again_L26 (p1 : Int32) (q26 : (Int32 × ul_S)) : Option ((Int32 × ul_S) ⊕ (Int32 × ul_S)) :=
  if (23 : Int32) ≤ q26.1 then (some (.inl (q26.1, q26.2))) else (ul_ld (q26.2 14) 46 (((23 : Int32) * p1) + q26.1) fun v13 => ul_st q26.2 6 46 q26.1 v13 fun M15 => ul_bd (q26.1 + 1) fun v17 => some (.inr (v17, M15)))
def f_X7_again (M : ul_S) (p1 : Int32) : Option (Int32 × ul_S) :=
  (f_X7_in p1.toInt64 (0 : Int64) (1 : Int64)).bind fun u7 => if u7 = 0 then (some ((-1 : Int32), M)) else (ul_ld (M 13) 2 p1 fun v9 => if v9 = 0 then (some ((-3 : Int32), M)) else ((ul_it ul_N (f_X7_again_L26 p1) ((0 : Int32), M)).bind (fun e26 => f_X7_again_j55 p1 e26.1 e26.2)))
set_option maxHeartbeats 4000000 in
set_option maxRecDepth 100000 in
theorem c_X7_again (l : Launch) (dC : Nat → ClassId) (dI : Nat → Nat → Nat) (cI : ClassId) (cZ : ClassId) (aM : Nat → Nat) (sz : Nat) (M : ul_S) (d : Int64) (p1 : Int32) (r : (Int32 × ul_S)) (h : f_X7_again M p1 = some r) : Met l yX7_again wsX7_again ({ frames := 1, cells := 0, slots := 0, locals := 25 }) (va_Pc [.ref (aM 0), .int p1] (ul_pre (dC, dI) [(cI, .int), (cZ, .boolean)] ul_N0 sz (ul_wM cI cZ aM M d))) (va_Qi (fun v (_ : Unit) => v = r.1) (fun _ => ul_post (dC, dI) [(cI, .int), (cZ, .boolean)] (va_A (ul_wM cI cZ aM M d) sz) (ul_wM cI cZ aM r.2 d)) (va_A (ul_wM cI cZ aM M d) sz)) 0 0 (va_A (ul_wM cI cZ aM M d) sz) := by
  refine Met.ofW (cc := cX7_again) (maxL := 3) (ret := (some .int)) (by decide) rfl ?_
  intro p e s m args below meth c s₁ B hml hv
  obtain ⟨rfl, hsz, hP, hK, hD0, hN⟩ := hv
  have hx := B.exec
  have hb := B.bytes
  have hr := B.returns
  have hts := atoms_spec (ws := wsX7_again) B.pre
  have hown : s.vm.findClass RX7 = some m.cls := findClass_of_methodNamed B.named
  have hlocks := B.notSynchronized
  have hin7 : ∀ w ∈ u_ws RX7 TX7 26, w ∈ wsX7_again := by decide +kernel
  subst hsz
  have hD := hD0.self (sz := s.heap.size)
  generalize hAe : va_A (ul_wM cI cZ aM M d) s.heap.size = A at hD ⊢
  have hA : ∀ q : Nat, s.heap.size ≤ q → A q := fun q h => by rw [← hAe]; exact Or.inr h
  have hS : va_S A s.heap s.heap [] := va_S.rf
  have hl := lv_entry ([.ref (aM 0), .int p1]) (n := 3) (Nat.le_of_ble_eq_true rfl)
  rw [lg_entry_eq]
  generalize (lg_sl ([.ref (aM 0), .int p1]) ++ List.replicate (3 - (lg_sl ([.ref (aM 0), .int p1])).length) Slot.unset).toArray = ls at hl ⊢
  have hl : lv_has ls 3 [(0, .ref (aM 0)), (1, .int p1)] := hl
  obtain ⟨K0, hK0, h⟩ := ul_top h
  unfold f_X7_again at h
  refine ul_gen (fun G gi ge => ?_)
  obtain ⟨H, eH⟩ : ∃ z, z = s.heap := ⟨_, rfl⟩
  obtain ⟨locs, eL⟩ : ∃ z : List Loc, z = [] := ⟨_, rfl⟩
  have hP : va_P (dC, dI) classes (ul_wM cI cZ aM M d) H := by rw [eH]; exact hP
  have hS : va_S A s.heap H locs := by rw [eH, eL]; exact hS
  rw [← eL]
  refine (show G H locs (F0 m 0 ls []) → G s.heap locs (F0 m 0 ls []) from fun z => by rw [← eH]; exact z) ?_
  have J55 : ∀ (x2 : Int32) (M__55 : ul_S) (H : Heap) (locs : List Loc), ul_H (dC, dI) A s.heap (ul_wM cI cZ aM M__55 d) H locs → ∀ ls : Array Slot, lv_has ls 3 [(0, .ref (aM 0)), (1, .int p1), (2, .int x2)] → (f_X7_again_j55 p1 x2 M__55).bind K0 = some r → G H locs (F0 m 55 ls []) := by
    intro x2 M__55 H locs hw ls hl h
    obtain ⟨hP, hD, hS⟩ := hw
    unfold f_X7_again_j55 at h
    refine gi _ _ _ ?_
    refine lv_aload_n hx hb dX7_again_55 rfl (lv_at hl 0 rfl) ?_
    refine lv_iconst (v := 0) hx hb dX7_again_56 (by decide) ?_
    refine va_put (D := (dC, dI)) (ci := 7) (v := .int (0 : Int32)) (ty := .int) (C := RX7) (T := TX7) (N := 26) hx hb hts hin7 tyX7 tyX7_ok nmX7 hown hK hP hD hS 0 rfl rfl 17 (by decide) (hts (.fieldLink RX7 102 "UnderLaddersModel" "acts" "I") (by decide +kernel)) (fun _ h9 => h9) rfl (by decide +kernel) rfl rfl (Nat.le_of_ble_eq_true rfl) dX7_again_57 (fun H locs hP hD hS => ?_)
    obtain ⟨M4, eM4⟩ : ∃ z : ul_S, z = ul_up M__55 0 8 (0 : Int32) := ⟨_, rfl⟩
    have h := ul_bd_h h M4 eM4
    have hP : va_P (dC, dI) classes (ul_wM cI cZ aM M4 d) H := by rw [eM4]; exact hP
    have hD : va_D A (ul_wM cI cZ aM M4 d) := by rw [eM4]; exact hD
    refine lv_aload_n hx hb dX7_again_60 rfl (lv_at hl 0 rfl) ?_
    refine va_get (D := (dC, dI)) (ci := 7) (v := .ref (aM 6)) (C := RX7) (T := TX7) (N := 26) hx hb hts hin7 hown hK hP 0 rfl rfl 7 (by decide) (hts (.fieldLink RX7 25 "UnderLaddersModel" "now" "[I") (by decide +kernel)) (fun _ h9 => h9) rfl dX7_again_61 ?_
    refine lv_bipush (v := 22) hx hb dX7_again_64 (by decide) ?_
    obtain ⟨hi6, h⟩ := ul_ld_h h
    refine va_iald hx hb hK hP 6 0 rfl rfl hi6 dX7_again_66 ?_
    refine lv_topi (fun v5 ev5 => ?_)
    have h := h v5 ev5
    have hr9 := hK0 (v5, M4) h
    subst hr9
    exact W.iret (v := v5) hx hb hr (fun t ht hW => ⟨⟨v5, (), rfl, rfl, by rw [ht]; exact hP, va_K.moved hW.alike hK, hD⟩, hS.F ht⟩) hS.2.2 dX7_again_67
  refine gi _ _ _ ?_
  refine lv_iload_n hx hb dX7_again_0 rfl (lv_at hl 1 rfl) ?_
  refine lv_i2l hx hb dX7_again_1 rfl ?_
  refine lv_lconst (v := 0) hx hb dX7_again_2 (by decide) ?_
  refine lv_lconst (v := 1) hx hb dX7_again_3 (by decide) ?_
  obtain ⟨u7, hu7, h⟩ := ul_cl_h h
  refine ul_cSi (As := [.long p1.toInt64, .long (0 : Int64), .long (1 : Int64)]) (rest := []) hP hD hS hK hA (c_X7_in l dC dI H.size p1.toInt64 (0 : Int64) (1 : Int64) u7 hu7) ⟨hx, hb, hml, hown, hts⟩ (cwS 3 hts gX7_again_X7_in rfl rfl rfl (by decide +kernel) ⟨Nat.le_of_ble_eq_true rfl, Nat.le_of_ble_eq_true rfl⟩) rfl hl.1 rfl (Nat.le_of_ble_eq_true rfl) dX7_again_4 (fun H locs hw => ?_)
  obtain ⟨hP, hD, hS⟩ := hw
  refine lv_if_ne (tgt := 12) hx hb dX7_again_7 (by decide) (fun hc8 => ?_) (fun hc8 => ?_)
  · have h := ul_if_f hc8 h
    refine lv_aload_n hx hb dX7_again_12 rfl (lv_at hl 0 rfl) ?_
    refine va_get (D := (dC, dI)) (ci := 7) (v := .ref (aM 13)) (C := RX7) (T := TX7) (N := 26) hx hb hts hin7 hown hK hP 0 rfl rfl 24 (by decide) (hts (.fieldLink RX7 46 "UnderLaddersModel" "isKept" "[Z") (by decide +kernel)) (fun _ h9 => h9) rfl dX7_again_13 ?_
    refine lv_iload_n hx hb dX7_again_16 rfl (lv_at hl 1 rfl) ?_
    obtain ⟨hi10, h⟩ := ul_ld_h h
    refine va_zald hx hb hK hP 13 1 rfl rfl hi10 dX7_again_17 ?_
    refine lv_topi (fun v9 ev9 => ?_)
    have h := h v9 ev9
    refine lv_if_ne (tgt := 24) hx hb dX7_again_18 (by decide) (fun hc11 => ?_) (fun hc11 => ?_)
    · have h := ul_if_f hc11 h
      refine lv_iconst (v := 0) hx hb dX7_again_24 (by decide) ?_
      refine lv_istore_n (lv' := [(2, .int (0 : Int32)), (0, .ref (aM 0)), (1, .int p1)]) hx hb dX7_again_25 rfl hl (by decide) rfl (fun ls hl => ?_)
      refine ge _ _ _ (ul_loop (P := fun q26 => ∀ (H : Heap) (locs : List Loc), ul_H (dC, dI) A s.heap (ul_wM cI cZ aM q26.2 d) H locs → ∀ ls : Array Slot, lv_has ls 3 [(0, .ref (aM 0)), (1, .int p1), (2, .int q26.1)] → G H locs (F0 m 26 ls [])) ?_ _ _ (ul_it_h h) H locs ⟨hP, hD, hS⟩ ls (lv_sub hl [1, 2, 0] rfl))
      intro K26 hx26
      intro q26 ih26 h H locs hw ls hl
      obtain ⟨hP, hD, hS⟩ := hw
      unfold f_X7_again_L26 at h
      refine gi _ _ _ ?_
      refine lv_iload_n hx hb dX7_again_26 rfl (lv_at hl 2 rfl) ?_
      refine lv_bipush (v := 23) hx hb dX7_again_27 (by decide) ?_
      refine lv_icmp_ge (tgt := 55) hx hb dX7_again_29 (by decide) (fun hc18 => ?_) (fun hc18 => ?_)
      · have h := ul_if_t hc18 h
        exact ge _ _ _ (J55 q26.1 q26.2 H locs ⟨hP, hD, hS⟩ ls (lv_sub hl [0, 1, 2] rfl) (hx26 (q26.1, q26.2) h))
      · have h := ul_if_f hc18 h
        refine lv_aload_n hx hb dX7_again_32 rfl (lv_at hl 0 rfl) ?_
        refine va_get (D := (dC, dI)) (ci := 7) (v := .ref (aM 6)) (C := RX7) (T := TX7) (N := 26) hx hb hts hin7 hown hK hP 0 rfl rfl 7 (by decide) (hts (.fieldLink RX7 25 "UnderLaddersModel" "now" "[I") (by decide +kernel)) (fun _ h9 => h9) rfl dX7_again_33 ?_
        refine lv_iload_n hx hb dX7_again_36 rfl (lv_at hl 2 rfl) ?_
        refine lv_aload_n hx hb dX7_again_37 rfl (lv_at hl 0 rfl) ?_
        refine va_get (D := (dC, dI)) (ci := 7) (v := .ref (aM 14)) (C := RX7) (T := TX7) (N := 26) hx hb hts hin7 hown hK hP 0 rfl rfl 25 (by decide) (hts (.fieldLink RX7 50 "UnderLaddersModel" "kept" "[I") (by decide +kernel)) (fun _ h9 => h9) rfl dX7_again_38 ?_
        refine lv_bipush (v := 23) hx hb dX7_again_41 (by decide) ?_
        refine lv_iload_n hx hb dX7_again_43 rfl (lv_at hl 1 rfl) ?_
        refine lv_imul hx hb dX7_again_44 ?_
        refine lv_iload_n hx hb dX7_again_45 rfl (lv_at hl 2 rfl) ?_
        refine lv_iadd hx hb dX7_again_46 ?_
        obtain ⟨hi20, h⟩ := ul_ld_h h
        refine va_iald hx hb hK hP 14 0 rfl rfl hi20 dX7_again_47 ?_
        refine lv_topi (fun v19 ev19 => ?_)
        have h := h v19 ev19
        obtain ⟨hi22, h⟩ := ul_st_h h
        refine va_iast hx hb hK hP hD hS 6 0 rfl rfl hi22 dX7_again_48 (fun H locs hP hD hS => ?_)
        obtain ⟨M21, eM21⟩ : ∃ z : ul_S, z = ul_up q26.2 6 q26.1.toNatClampNeg v19 := ⟨_, rfl⟩
        have h := h M21 eM21
        have hP : va_P (dC, dI) classes (ul_wM cI cZ aM M21 d) H := by rw [eM21]; exact hP
        have hD : va_D A (ul_wM cI cZ aM M21 d) := by rw [eM21]; exact hD
        obtain ⟨v23, ev23⟩ : ∃ z : Int32, z = q26.1 + 1 := ⟨_, rfl⟩
        have h := ul_bd_h h v23 ev23
        refine lv_iinc (v := v23) (lv' := [(2, .int v23), (0, .ref (aM 0)), (1, .int p1)]) hx hb dX7_again_49 hl (k := 2) rfl (by rw [ev23]; rfl) (by decide) rfl (fun ls hl => ?_)
        refine lv_goto (tgt := 26) hx hb dX7_again_52 (by decide) ?_
        exact ge _ _ _ (ih26 (v23, M21) h H locs ⟨hP, hD, hS⟩ ls (lv_sub hl [1, 2, 0] rfl))
    · have h := ul_if_t hc11 h
      refine lv_bipush (v := -3) hx hb dX7_again_21 (by decide) ?_
      have hr9 := hK0 ((-3 : Int32), M) h
      subst hr9
      exact W.iret (v := (-3 : Int32)) hx hb hr (fun t ht hW => ⟨⟨(-3 : Int32), (), rfl, rfl, by rw [ht]; exact hP, va_K.moved hW.alike hK, hD⟩, hS.F ht⟩) hS.2.2 dX7_again_23
  · have h := ul_if_t hc8 h
    refine lv_iconst (v := -1) hx hb dX7_again_10 (by decide) ?_
    have hr9 := hK0 ((-1 : Int32), M) h
    subst hr9
    exact W.iret (v := (-1 : Int32)) hx hb hr (fun t ht hW => ⟨⟨(-1 : Int32), (), rfl, rfl, by rw [ht]; exact hP, va_K.moved hW.alike hK, hD⟩, hS.F ht⟩) hS.2.2 dX7_again_11
def f_X7_atHome_j46 (M : ul_S) (x1 : Int32) (x2 : Int32) : Option Int32 :=
  some x1
def f_X7_atHome_j38 (M : ul_S) (x1 : Int32) (x2 : Int32) (t0 : Int32) (t1 : Int32) : Option ((Int32 × Int32) ⊕ (Int32 × Int32)) :=
  ul_bd (t0 ||| t1) fun v1 => ul_bd (x2 + 1) fun v2 => some (.inr (v1, v2))
def f_X7_atHome_L4 (M : ul_S) (q4 : (Int32 × Int32)) : Option ((Int32 × Int32) ⊕ (Int32 × Int32)) :=
  if (M 0 1) ≤ q4.2 then (some (.inl (q4.1, q4.2))) else (ul_ld (M 6) 46 ((12 : Int32) + q4.2) fun v6 => ul_ld (M 3) 5 q4.2 fun v8 => if v6 = v8 then (f_X7_atHome_j38 M q4.1 q4.2 q4.1 ((1 : Int32) <<< (q4.2 &&& 31))) else (f_X7_atHome_j38 M q4.1 q4.2 q4.1 (0 : Int32)))
def f_X7_atHome (M : ul_S) : Option Int32 :=
  (ul_it ul_N (f_X7_atHome_L4 M) ((0 : Int32), (0 : Int32))).bind (fun e4 => f_X7_atHome_j46 M e4.1 e4.2)
set_option maxHeartbeats 4000000 in
set_option maxRecDepth 100000 in
theorem c_X7_atHome (l : Launch) (dC : Nat → ClassId) (dI : Nat → Nat → Nat) (cI : ClassId) (cZ : ClassId) (aM : Nat → Nat) (sz : Nat) (M : ul_S) (d : Int64) (r : Int32) (h : f_X7_atHome M = some r) : Met l yX7_atHome wsX7_atHome ({ frames := 0, cells := 0, slots := 0, locals := 0 }) (va_Pc [.ref (aM 0)] (ul_pre (dC, dI) [(cI, .int), (cZ, .boolean)] ul_N0 sz (ul_wM cI cZ aM M d))) (va_Qi (fun v (_ : Unit) => v = r) (fun _ => ul_post (dC, dI) [(cI, .int), (cZ, .boolean)] (va_A (ul_wM cI cZ aM M d) sz) (ul_wM cI cZ aM M d)) (va_A (ul_wM cI cZ aM M d) sz)) 0 0 (va_A (ul_wM cI cZ aM M d) sz) := by
  refine Met.ofW (cc := cX7_atHome) (maxL := 3) (ret := (some .int)) (by decide) rfl ?_
  intro p e s m args below meth c s₁ B hml hv
  obtain ⟨rfl, hsz, hP, hK, hD0, hN⟩ := hv
  have hx := B.exec
  have hb := B.bytes
  have hr := B.returns
  have hts := atoms_spec (ws := wsX7_atHome) B.pre
  have hown : s.vm.findClass RX7 = some m.cls := findClass_of_methodNamed B.named
  have hlocks := B.notSynchronized
  have hin7 : ∀ w ∈ u_ws RX7 TX7 26, w ∈ wsX7_atHome := by decide +kernel
  subst hsz
  have hD := hD0.self (sz := s.heap.size)
  generalize hAe : va_A (ul_wM cI cZ aM M d) s.heap.size = A at hD ⊢
  have hA : ∀ q : Nat, s.heap.size ≤ q → A q := fun q h => by rw [← hAe]; exact Or.inr h
  have hS : va_S A s.heap s.heap [] := va_S.rf
  have hl := lv_entry ([.ref (aM 0)]) (n := 3) (Nat.le_of_ble_eq_true rfl)
  rw [lg_entry_eq]
  generalize (lg_sl ([.ref (aM 0)]) ++ List.replicate (3 - (lg_sl ([.ref (aM 0)])).length) Slot.unset).toArray = ls at hl ⊢
  have hl : lv_has ls 3 [(0, .ref (aM 0))] := hl
  obtain ⟨K0, hK0, h⟩ := ul_top h
  unfold f_X7_atHome at h
  refine ul_gen (fun G gi ge => ?_)
  obtain ⟨H, eH⟩ : ∃ z, z = s.heap := ⟨_, rfl⟩
  obtain ⟨locs, eL⟩ : ∃ z : List Loc, z = [] := ⟨_, rfl⟩
  have hP : va_P (dC, dI) classes (ul_wM cI cZ aM M d) H := by rw [eH]; exact hP
  have hS : va_S A s.heap H locs := by rw [eH, eL]; exact hS
  rw [← eL]
  refine (show G H locs (F0 m 0 ls []) → G s.heap locs (F0 m 0 ls []) from fun z => by rw [← eH]; exact z) ?_
  have J46 : ∀ (x1 : Int32) (x2 : Int32) (H : Heap) (locs : List Loc), ul_H (dC, dI) A s.heap (ul_wM cI cZ aM M d) H locs → ∀ ls : Array Slot, lv_has ls 3 [(0, .ref (aM 0)), (1, .int x1), (2, .int x2)] → (f_X7_atHome_j46 M x1 x2).bind K0 = some r → G H locs (F0 m 46 ls []) := by
    intro x1 x2 H locs hw ls hl h
    obtain ⟨hP, hD, hS⟩ := hw
    unfold f_X7_atHome_j46 at h
    refine gi _ _ _ ?_
    refine lv_iload_n hx hb dX7_atHome_46 rfl (lv_at hl 1 rfl) ?_
    have hr9 := hK0 x1 h
    subst hr9
    exact W.iret (v := x1) hx hb hr (fun t ht hW => ⟨⟨x1, (), rfl, rfl, by rw [ht]; exact hP, va_K.moved hW.alike hK, hD⟩, hS.F ht⟩) hS.2.2 dX7_atHome_47
  refine gi _ _ _ ?_
  refine lv_iconst (v := 0) hx hb dX7_atHome_0 (by decide) ?_
  refine lv_istore_n (lv' := [(1, .int (0 : Int32)), (0, .ref (aM 0))]) hx hb dX7_atHome_1 rfl hl (by decide) rfl (fun ls hl => ?_)
  refine lv_iconst (v := 0) hx hb dX7_atHome_2 (by decide) ?_
  refine lv_istore_n (lv' := [(2, .int (0 : Int32)), (1, .int (0 : Int32)), (0, .ref (aM 0))]) hx hb dX7_atHome_3 rfl hl (by decide) rfl (fun ls hl => ?_)
  refine ge _ _ _ (ul_loop (P := fun q4 => ∀ (H : Heap) (locs : List Loc), ul_H (dC, dI) A s.heap (ul_wM cI cZ aM M d) H locs → ∀ ls : Array Slot, lv_has ls 3 [(0, .ref (aM 0)), (1, .int q4.1), (2, .int q4.2)] → G H locs (F0 m 4 ls [])) ?_ _ _ (ul_it_h h) H locs ⟨hP, hD, hS⟩ ls (lv_sub hl [2, 1, 0] rfl))
  intro K4 hx4
  intro q4 ih4 h H locs hw ls hl
  have J38 : ∀ (x1 : Int32) (x2 : Int32) (t0 : Int32) (t1 : Int32) (H : Heap) (locs : List Loc), ul_H (dC, dI) A s.heap (ul_wM cI cZ aM M d) H locs → ∀ ls : Array Slot, lv_has ls 3 [(0, .ref (aM 0)), (1, .int x1), (2, .int x2)] → (f_X7_atHome_j38 M x1 x2 t0 t1).bind K4 = some r → G H locs (F0 m 38 ls [.int t1, .int t0]) := by
    intro x1 x2 t0 t1 H locs hw ls hl h
    obtain ⟨hP, hD, hS⟩ := hw
    unfold f_X7_atHome_j38 at h
    refine gi _ _ _ ?_
    refine lv_ior hx hb dX7_atHome_38 ?_
    refine lv_topi (fun v3 ev3 => ?_)
    have h := ul_bd_h h v3 ev3
    refine lv_istore_n (lv' := [(1, .int v3), (0, .ref (aM 0)), (2, .int x2)]) hx hb dX7_atHome_39 rfl hl (by decide) rfl (fun ls hl => ?_)
    obtain ⟨v4, ev4⟩ : ∃ z : Int32, z = x2 + 1 := ⟨_, rfl⟩
    have h := ul_bd_h h v4 ev4
    refine lv_iinc (v := v4) (lv' := [(2, .int v4), (1, .int v3), (0, .ref (aM 0))]) hx hb dX7_atHome_40 hl (k := 2) rfl (by rw [ev4]; rfl) (by decide) rfl (fun ls hl => ?_)
    refine lv_goto (tgt := 4) hx hb dX7_atHome_43 (by decide) ?_
    exact ge _ _ _ (ih4 (v3, v4) h H locs ⟨hP, hD, hS⟩ ls (lv_sub hl [2, 1, 0] rfl))
  obtain ⟨hP, hD, hS⟩ := hw
  unfold f_X7_atHome_L4 at h
  refine gi _ _ _ ?_
  refine lv_iload_n hx hb dX7_atHome_4 rfl (lv_at hl 2 rfl) ?_
  refine lv_aload_n hx hb dX7_atHome_5 rfl (lv_at hl 0 rfl) ?_
  refine va_get (D := (dC, dI)) (ci := 7) (v := .int (M 0 1)) (C := RX7) (T := TX7) (N := 26) hx hb hts hin7 hown hK hP 0 rfl rfl 1 (by decide) (hts (.fieldLink RX7 99 "UnderLaddersModel" "people" "I") (by decide +kernel)) (fun _ h9 => h9) rfl dX7_atHome_6 ?_
  refine lv_icmp_ge (tgt := 46) hx hb dX7_atHome_9 (by decide) (fun hc11 => ?_) (fun hc11 => ?_)
  · have h := ul_if_t hc11 h
    exact ge _ _ _ (J46 q4.1 q4.2 H locs ⟨hP, hD, hS⟩ ls (lv_sub hl [0, 1, 2] rfl) (hx4 (q4.1, q4.2) h))
  · have h := ul_if_f hc11 h
    refine lv_iload_n hx hb dX7_atHome_12 rfl (lv_at hl 1 rfl) ?_
    refine lv_aload_n hx hb dX7_atHome_13 rfl (lv_at hl 0 rfl) ?_
    refine va_get (D := (dC, dI)) (ci := 7) (v := .ref (aM 6)) (C := RX7) (T := TX7) (N := 26) hx hb hts hin7 hown hK hP 0 rfl rfl 7 (by decide) (hts (.fieldLink RX7 25 "UnderLaddersModel" "now" "[I") (by decide +kernel)) (fun _ h9 => h9) rfl dX7_atHome_14 ?_
    refine lv_bipush (v := 12) hx hb dX7_atHome_17 (by decide) ?_
    refine lv_iload_n hx hb dX7_atHome_19 rfl (lv_at hl 2 rfl) ?_
    refine lv_iadd hx hb dX7_atHome_20 ?_
    obtain ⟨hi13, h⟩ := ul_ld_h h
    refine va_iald hx hb hK hP 6 0 rfl rfl hi13 dX7_atHome_21 ?_
    refine lv_topi (fun v12 ev12 => ?_)
    have h := h v12 ev12
    refine lv_aload_n hx hb dX7_atHome_22 rfl (lv_at hl 0 rfl) ?_
    refine va_get (D := (dC, dI)) (ci := 7) (v := .ref (aM 3)) (C := RX7) (T := TX7) (N := 26) hx hb hts hin7 hown hK hP 0 rfl rfl 4 (by decide) (hts (.fieldLink RX7 16 "UnderLaddersModel" "home" "[I") (by decide +kernel)) (fun _ h9 => h9) rfl dX7_atHome_23 ?_
    refine lv_iload_n hx hb dX7_atHome_26 rfl (lv_at hl 2 rfl) ?_
    obtain ⟨hi15, h⟩ := ul_ld_h h
    refine va_iald hx hb hK hP 3 0 rfl rfl hi15 dX7_atHome_27 ?_
    refine lv_topi (fun v14 ev14 => ?_)
    have h := h v14 ev14
    refine lv_icmp_ne (tgt := 37) hx hb dX7_atHome_28 (by decide) (fun hc16 => ?_) (fun hc16 => ?_)
    · have h := ul_if_f hc16 h
      refine lv_iconst (v := 0) hx hb dX7_atHome_37 (by decide) ?_
      exact ge _ _ _ (J38 q4.1 q4.2 q4.1 (0 : Int32) H locs ⟨hP, hD, hS⟩ ls (lv_sub hl [0, 1, 2] rfl) h)
    · have h := ul_if_t hc16 h
      refine lv_iconst (v := 1) hx hb dX7_atHome_31 (by decide) ?_
      refine lv_iload_n hx hb dX7_atHome_32 rfl (lv_at hl 2 rfl) ?_
      refine lv_ishl hx hb dX7_atHome_33 ?_
      refine lv_goto (tgt := 38) hx hb dX7_atHome_34 (by decide) ?_
      exact ge _ _ _ (J38 q4.1 q4.2 q4.1 ((1 : Int32) <<< (q4.2 &&& 31)) H locs ⟨hP, hD, hS⟩ ls (lv_sub hl [0, 1, 2] rfl) h)
def f_X7_count (M : ul_S) (p1 : Int32) : Option Int32 :=
  if p1 = 0 then (some (M 0 5)) else (if p1 = 1 then (some (M 0 0)) else (if p1 = 2 then (some (M 0 1)) else (if p1 = 3 then (ul_ld (M 6) 46 (22 : Int32) fun v5 => some v5) else (if p1 = 4 then ((f_X7_sumOf M (0 : Int32) (17 : Int32) (M 0 1)).bind fun u8 => some u8) else (if p1 = 5 then ((f_X7_sumOf M (0 : Int32) (4 : Int32) (M 0 0)).bind fun u10 => some u10) else (if p1 = 6 then ((f_X7_sumOf M (0 : Int32) (8 : Int32) (M 0 0)).bind fun u12 => some u12) else (if p1 = 7 then ((f_X7_atHome M).bind fun u14 => some u14) else (if p1 = 8 then (some (M 0 8)) else (if p1 = 9 then (some (M 0 10)) else (some (-2 : Int32)))))))))))
set_option maxHeartbeats 4000000 in
set_option maxRecDepth 100000 in
theorem c_X7_count (l : Launch) (dC : Nat → ClassId) (dI : Nat → Nat → Nat) (cI : ClassId) (cZ : ClassId) (aM : Nat → Nat) (sz : Nat) (M : ul_S) (d : Int64) (p1 : Int32) (r : Int32) (h : f_X7_count M p1 = some r) : Met l yX7_count wsX7_count ({ frames := 1, cells := 0, slots := 0, locals := 25 }) (va_Pc [.ref (aM 0), .int p1] (ul_pre (dC, dI) [(cI, .int), (cZ, .boolean)] ul_N0 sz (ul_wM cI cZ aM M d))) (va_Qi (fun v (_ : Unit) => v = r) (fun _ => ul_post (dC, dI) [(cI, .int), (cZ, .boolean)] (va_A (ul_wM cI cZ aM M d) sz) (ul_wM cI cZ aM M d)) (va_A (ul_wM cI cZ aM M d) sz)) 0 0 (va_A (ul_wM cI cZ aM M d) sz) := by
  refine Met.ofW (cc := cX7_count) (maxL := 2) (ret := (some .int)) (by decide) rfl ?_
  intro p e s m args below meth c s₁ B hml hv
  obtain ⟨rfl, hsz, hP, hK, hD0, hN⟩ := hv
  have hx := B.exec
  have hb := B.bytes
  have hr := B.returns
  have hts := atoms_spec (ws := wsX7_count) B.pre
  have hown : s.vm.findClass RX7 = some m.cls := findClass_of_methodNamed B.named
  have hlocks := B.notSynchronized
  have hin7 : ∀ w ∈ u_ws RX7 TX7 26, w ∈ wsX7_count := by decide +kernel
  subst hsz
  have hD := hD0.self (sz := s.heap.size)
  generalize hAe : va_A (ul_wM cI cZ aM M d) s.heap.size = A at hD ⊢
  have hA : ∀ q : Nat, s.heap.size ≤ q → A q := fun q h => by rw [← hAe]; exact Or.inr h
  have hS : va_S A s.heap s.heap [] := va_S.rf
  have hl := lv_entry ([.ref (aM 0), .int p1]) (n := 2) (Nat.le_of_ble_eq_true rfl)
  rw [lg_entry_eq]
  generalize (lg_sl ([.ref (aM 0), .int p1]) ++ List.replicate (2 - (lg_sl ([.ref (aM 0), .int p1])).length) Slot.unset).toArray = ls at hl ⊢
  have hl : lv_has ls 2 [(0, .ref (aM 0)), (1, .int p1)] := hl
  obtain ⟨K0, hK0, h⟩ := ul_top h
  unfold f_X7_count at h
  refine ul_gen (fun G gi ge => ?_)
  obtain ⟨H, eH⟩ : ∃ z, z = s.heap := ⟨_, rfl⟩
  obtain ⟨locs, eL⟩ : ∃ z : List Loc, z = [] := ⟨_, rfl⟩
  have hP : va_P (dC, dI) classes (ul_wM cI cZ aM M d) H := by rw [eH]; exact hP
  have hS : va_S A s.heap H locs := by rw [eH, eL]; exact hS
  rw [← eL]
  refine (show G H locs (F0 m 0 ls []) → G s.heap locs (F0 m 0 ls []) from fun z => by rw [← eH]; exact z) ?_
  refine gi _ _ _ ?_
  refine lv_iload_n hx hb dX7_count_0 rfl (lv_at hl 1 rfl) ?_
  by_cases hc1 : p1 = 0
  · have h := ul_if_t hc1 h
    refine lv_tableIn (off := 55) (tgt := 56) hx hb dX7_count_1 (by rw [hc1]; decide) (by rw [hc1]; decide) (by rw [hc1]; decide) (by decide) ?_
    refine lv_aload_n hx hb dX7_count_56 rfl (lv_at hl 0 rfl) ?_
    refine va_get (D := (dC, dI)) (ci := 7) (v := .int (M 0 5)) (C := RX7) (T := TX7) (N := 26) hx hb hts hin7 hown hK hP 0 rfl rfl 14 (by decide) (hts (.fieldLink RX7 59 "UnderLaddersModel" "length" "I") (by decide +kernel)) (fun _ h9 => h9) rfl dX7_count_57 ?_
    have hr9 := hK0 (M 0 5) h
    subst hr9
    exact W.iret (v := (M 0 5)) hx hb hr (fun t ht hW => ⟨⟨(M 0 5), (), rfl, rfl, by rw [ht]; exact hP, va_K.moved hW.alike hK, hD⟩, hS.F ht⟩) hS.2.2 dX7_count_60
  · have h := ul_if_f hc1 h
    by_cases hc2 : p1 = 1
    · have h := ul_if_t hc2 h
      refine lv_tableIn (off := 60) (tgt := 61) hx hb dX7_count_1 (by rw [hc2]; decide) (by rw [hc2]; decide) (by rw [hc2]; decide) (by decide) ?_
      refine lv_aload_n hx hb dX7_count_61 rfl (lv_at hl 0 rfl) ?_
      refine va_get (D := (dC, dI)) (ci := 7) (v := .int (M 0 0)) (C := RX7) (T := TX7) (N := 26) hx hb hts hin7 hown hK hP 0 rfl rfl 0 (by decide) (hts (.fieldLink RX7 96 "UnderLaddersModel" "ladders" "I") (by decide +kernel)) (fun _ h9 => h9) rfl dX7_count_62 ?_
      have hr9 := hK0 (M 0 0) h
      subst hr9
      exact W.iret (v := (M 0 0)) hx hb hr (fun t ht hW => ⟨⟨(M 0 0), (), rfl, rfl, by rw [ht]; exact hP, va_K.moved hW.alike hK, hD⟩, hS.F ht⟩) hS.2.2 dX7_count_65
    · have h := ul_if_f hc2 h
      by_cases hc3 : p1 = 2
      · have h := ul_if_t hc3 h
        refine lv_tableIn (off := 65) (tgt := 66) hx hb dX7_count_1 (by rw [hc3]; decide) (by rw [hc3]; decide) (by rw [hc3]; decide) (by decide) ?_
        refine lv_aload_n hx hb dX7_count_66 rfl (lv_at hl 0 rfl) ?_
        refine va_get (D := (dC, dI)) (ci := 7) (v := .int (M 0 1)) (C := RX7) (T := TX7) (N := 26) hx hb hts hin7 hown hK hP 0 rfl rfl 1 (by decide) (hts (.fieldLink RX7 99 "UnderLaddersModel" "people" "I") (by decide +kernel)) (fun _ h9 => h9) rfl dX7_count_67 ?_
        have hr9 := hK0 (M 0 1) h
        subst hr9
        exact W.iret (v := (M 0 1)) hx hb hr (fun t ht hW => ⟨⟨(M 0 1), (), rfl, rfl, by rw [ht]; exact hP, va_K.moved hW.alike hK, hD⟩, hS.F ht⟩) hS.2.2 dX7_count_70
      · have h := ul_if_f hc3 h
        by_cases hc4 : p1 = 3
        · have h := ul_if_t hc4 h
          refine lv_tableIn (off := 70) (tgt := 71) hx hb dX7_count_1 (by rw [hc4]; decide) (by rw [hc4]; decide) (by rw [hc4]; decide) (by decide) ?_
          refine lv_aload_n hx hb dX7_count_71 rfl (lv_at hl 0 rfl) ?_
          refine va_get (D := (dC, dI)) (ci := 7) (v := .ref (aM 6)) (C := RX7) (T := TX7) (N := 26) hx hb hts hin7 hown hK hP 0 rfl rfl 7 (by decide) (hts (.fieldLink RX7 25 "UnderLaddersModel" "now" "[I") (by decide +kernel)) (fun _ h9 => h9) rfl dX7_count_72 ?_
          refine lv_bipush (v := 22) hx hb dX7_count_75 (by decide) ?_
          obtain ⟨hi6, h⟩ := ul_ld_h h
          refine va_iald hx hb hK hP 6 0 rfl rfl hi6 dX7_count_77 ?_
          refine lv_topi (fun v5 ev5 => ?_)
          have h := h v5 ev5
          have hr9 := hK0 v5 h
          subst hr9
          exact W.iret (v := v5) hx hb hr (fun t ht hW => ⟨⟨v5, (), rfl, rfl, by rw [ht]; exact hP, va_K.moved hW.alike hK, hD⟩, hS.F ht⟩) hS.2.2 dX7_count_78
        · have h := ul_if_f hc4 h
          by_cases hc7 : p1 = 4
          · have h := ul_if_t hc7 h
            refine lv_tableIn (off := 78) (tgt := 79) hx hb dX7_count_1 (by rw [hc7]; decide) (by rw [hc7]; decide) (by rw [hc7]; decide) (by decide) ?_
            refine lv_aload_n hx hb dX7_count_79 rfl (lv_at hl 0 rfl) ?_
            refine lv_iconst (v := 0) hx hb dX7_count_80 (by decide) ?_
            refine lv_bipush (v := 17) hx hb dX7_count_81 (by decide) ?_
            refine lv_aload_n hx hb dX7_count_83 rfl (lv_at hl 0 rfl) ?_
            refine va_get (D := (dC, dI)) (ci := 7) (v := .int (M 0 1)) (C := RX7) (T := TX7) (N := 26) hx hb hts hin7 hown hK hP 0 rfl rfl 1 (by decide) (hts (.fieldLink RX7 99 "UnderLaddersModel" "people" "I") (by decide +kernel)) (fun _ h9 => h9) rfl dX7_count_84 ?_
            obtain ⟨u8, hu8, h⟩ := ul_cl_h h
            refine ul_cVi (As := [.int (0 : Int32), .int (17 : Int32), .int (M 0 1)]) (rest := []) (wc' := (ul_wM cI cZ aM M d)) (wr := []) hP hD hS hK hA [0, 1, 2, 3, 4, 5, 6, 7, 8, 9, 10, 11, 12, 13, 14] [] [0, 1] ul_N0_ok trivial (c_X7_sumOf l dC dI cI cZ aM H.size M d (0 : Int32) (17 : Int32) (M 0 1) u8 hu8) rfl rfl (by decide) rfl (by decide) (by decide) rfl ⟨hx, hb, hml, hown, hts⟩ (cwV 3 hts gX7_count_X7_sumOf rfl rfl rfl (by decide +kernel) ⟨Nat.le_of_ble_eq_true rfl, Nat.le_of_ble_eq_true rfl⟩) (va_recv hK hP (ci := 7) (q0 := 0) rfl rfl) rfl hl.1 rfl (Nat.le_of_ble_eq_true rfl) dX7_count_87 (fun H locs hw => ?_)
            obtain ⟨hP, hD, hS⟩ := hw
            have hP : va_P (dC, dI) classes (ul_wM cI cZ aM M d) H := hP
            have hD : va_D A (ul_wM cI cZ aM M d) := hD
            have hr9 := hK0 u8 h
            subst hr9
            exact W.iret (v := u8) hx hb hr (fun t ht hW => ⟨⟨u8, (), rfl, rfl, by rw [ht]; exact hP, va_K.moved hW.alike hK, hD⟩, hS.F ht⟩) hS.2.2 dX7_count_90
          · have h := ul_if_f hc7 h
            by_cases hc9 : p1 = 5
            · have h := ul_if_t hc9 h
              refine lv_tableIn (off := 90) (tgt := 91) hx hb dX7_count_1 (by rw [hc9]; decide) (by rw [hc9]; decide) (by rw [hc9]; decide) (by decide) ?_
              refine lv_aload_n hx hb dX7_count_91 rfl (lv_at hl 0 rfl) ?_
              refine lv_iconst (v := 0) hx hb dX7_count_92 (by decide) ?_
              refine lv_iconst (v := 4) hx hb dX7_count_93 (by decide) ?_
              refine lv_aload_n hx hb dX7_count_94 rfl (lv_at hl 0 rfl) ?_
              refine va_get (D := (dC, dI)) (ci := 7) (v := .int (M 0 0)) (C := RX7) (T := TX7) (N := 26) hx hb hts hin7 hown hK hP 0 rfl rfl 0 (by decide) (hts (.fieldLink RX7 96 "UnderLaddersModel" "ladders" "I") (by decide +kernel)) (fun _ h9 => h9) rfl dX7_count_95 ?_
              obtain ⟨u10, hu10, h⟩ := ul_cl_h h
              refine ul_cVi (As := [.int (0 : Int32), .int (4 : Int32), .int (M 0 0)]) (rest := []) (wc' := (ul_wM cI cZ aM M d)) (wr := []) hP hD hS hK hA [0, 1, 2, 3, 4, 5, 6, 7, 8, 9, 10, 11, 12, 13, 14] [] [0, 1] ul_N0_ok trivial (c_X7_sumOf l dC dI cI cZ aM H.size M d (0 : Int32) (4 : Int32) (M 0 0) u10 hu10) rfl rfl (by decide) rfl (by decide) (by decide) rfl ⟨hx, hb, hml, hown, hts⟩ (cwV 3 hts gX7_count_X7_sumOf rfl rfl rfl (by decide +kernel) ⟨Nat.le_of_ble_eq_true rfl, Nat.le_of_ble_eq_true rfl⟩) (va_recv hK hP (ci := 7) (q0 := 0) rfl rfl) rfl hl.1 rfl (Nat.le_of_ble_eq_true rfl) dX7_count_98 (fun H locs hw => ?_)
              obtain ⟨hP, hD, hS⟩ := hw
              have hP : va_P (dC, dI) classes (ul_wM cI cZ aM M d) H := hP
              have hD : va_D A (ul_wM cI cZ aM M d) := hD
              have hr9 := hK0 u10 h
              subst hr9
              exact W.iret (v := u10) hx hb hr (fun t ht hW => ⟨⟨u10, (), rfl, rfl, by rw [ht]; exact hP, va_K.moved hW.alike hK, hD⟩, hS.F ht⟩) hS.2.2 dX7_count_101
            · have h := ul_if_f hc9 h
              by_cases hc11 : p1 = 6
              · have h := ul_if_t hc11 h
                refine lv_tableIn (off := 101) (tgt := 102) hx hb dX7_count_1 (by rw [hc11]; decide) (by rw [hc11]; decide) (by rw [hc11]; decide) (by decide) ?_
                refine lv_aload_n hx hb dX7_count_102 rfl (lv_at hl 0 rfl) ?_
                refine lv_iconst (v := 0) hx hb dX7_count_103 (by decide) ?_
                refine lv_bipush (v := 8) hx hb dX7_count_104 (by decide) ?_
                refine lv_aload_n hx hb dX7_count_106 rfl (lv_at hl 0 rfl) ?_
                refine va_get (D := (dC, dI)) (ci := 7) (v := .int (M 0 0)) (C := RX7) (T := TX7) (N := 26) hx hb hts hin7 hown hK hP 0 rfl rfl 0 (by decide) (hts (.fieldLink RX7 96 "UnderLaddersModel" "ladders" "I") (by decide +kernel)) (fun _ h9 => h9) rfl dX7_count_107 ?_
                obtain ⟨u12, hu12, h⟩ := ul_cl_h h
                refine ul_cVi (As := [.int (0 : Int32), .int (8 : Int32), .int (M 0 0)]) (rest := []) (wc' := (ul_wM cI cZ aM M d)) (wr := []) hP hD hS hK hA [0, 1, 2, 3, 4, 5, 6, 7, 8, 9, 10, 11, 12, 13, 14] [] [0, 1] ul_N0_ok trivial (c_X7_sumOf l dC dI cI cZ aM H.size M d (0 : Int32) (8 : Int32) (M 0 0) u12 hu12) rfl rfl (by decide) rfl (by decide) (by decide) rfl ⟨hx, hb, hml, hown, hts⟩ (cwV 3 hts gX7_count_X7_sumOf rfl rfl rfl (by decide +kernel) ⟨Nat.le_of_ble_eq_true rfl, Nat.le_of_ble_eq_true rfl⟩) (va_recv hK hP (ci := 7) (q0 := 0) rfl rfl) rfl hl.1 rfl (Nat.le_of_ble_eq_true rfl) dX7_count_110 (fun H locs hw => ?_)
                obtain ⟨hP, hD, hS⟩ := hw
                have hP : va_P (dC, dI) classes (ul_wM cI cZ aM M d) H := hP
                have hD : va_D A (ul_wM cI cZ aM M d) := hD
                have hr9 := hK0 u12 h
                subst hr9
                exact W.iret (v := u12) hx hb hr (fun t ht hW => ⟨⟨u12, (), rfl, rfl, by rw [ht]; exact hP, va_K.moved hW.alike hK, hD⟩, hS.F ht⟩) hS.2.2 dX7_count_113
              · have h := ul_if_f hc11 h
                by_cases hc13 : p1 = 7
                · have h := ul_if_t hc13 h
                  refine lv_tableIn (off := 113) (tgt := 114) hx hb dX7_count_1 (by rw [hc13]; decide) (by rw [hc13]; decide) (by rw [hc13]; decide) (by decide) ?_
                  refine lv_aload_n hx hb dX7_count_114 rfl (lv_at hl 0 rfl) ?_
                  obtain ⟨u14, hu14, h⟩ := ul_cl_h h
                  refine ul_cVi (As := []) (rest := []) (wc' := (ul_wM cI cZ aM M d)) (wr := []) hP hD hS hK hA [0, 1, 2, 3, 4, 5, 6, 7, 8, 9, 10, 11, 12, 13, 14] [] [0, 1] ul_N0_ok trivial (c_X7_atHome l dC dI cI cZ aM H.size M d u14 hu14) rfl rfl (by decide) rfl (by decide) (by decide) rfl ⟨hx, hb, hml, hown, hts⟩ (cwV 0 hts gX7_count_X7_atHome rfl rfl rfl (by decide +kernel) ⟨Nat.le_of_ble_eq_true rfl, Nat.le_of_ble_eq_true rfl⟩) (va_recv hK hP (ci := 7) (q0 := 0) rfl rfl) rfl hl.1 rfl (Nat.le_of_ble_eq_true rfl) dX7_count_115 (fun H locs hw => ?_)
                  obtain ⟨hP, hD, hS⟩ := hw
                  have hP : va_P (dC, dI) classes (ul_wM cI cZ aM M d) H := hP
                  have hD : va_D A (ul_wM cI cZ aM M d) := hD
                  have hr9 := hK0 u14 h
                  subst hr9
                  exact W.iret (v := u14) hx hb hr (fun t ht hW => ⟨⟨u14, (), rfl, rfl, by rw [ht]; exact hP, va_K.moved hW.alike hK, hD⟩, hS.F ht⟩) hS.2.2 dX7_count_118
                · have h := ul_if_f hc13 h
                  by_cases hc15 : p1 = 8
                  · have h := ul_if_t hc15 h
                    refine lv_tableIn (off := 118) (tgt := 119) hx hb dX7_count_1 (by rw [hc15]; decide) (by rw [hc15]; decide) (by rw [hc15]; decide) (by decide) ?_
                    refine lv_aload_n hx hb dX7_count_119 rfl (lv_at hl 0 rfl) ?_
                    refine va_get (D := (dC, dI)) (ci := 7) (v := .int (M 0 8)) (C := RX7) (T := TX7) (N := 26) hx hb hts hin7 hown hK hP 0 rfl rfl 17 (by decide) (hts (.fieldLink RX7 102 "UnderLaddersModel" "acts" "I") (by decide +kernel)) (fun _ h9 => h9) rfl dX7_count_120 ?_
                    have hr9 := hK0 (M 0 8) h
                    subst hr9
                    exact W.iret (v := (M 0 8)) hx hb hr (fun t ht hW => ⟨⟨(M 0 8), (), rfl, rfl, by rw [ht]; exact hP, va_K.moved hW.alike hK, hD⟩, hS.F ht⟩) hS.2.2 dX7_count_123
                  · have h := ul_if_f hc15 h
                    by_cases hc16 : p1 = 9
                    · have h := ul_if_t hc16 h
                      refine lv_tableIn (off := 123) (tgt := 124) hx hb dX7_count_1 (by rw [hc16]; decide) (by rw [hc16]; decide) (by rw [hc16]; decide) (by decide) ?_
                      refine lv_aload_n hx hb dX7_count_124 rfl (lv_at hl 0 rfl) ?_
                      refine va_get (D := (dC, dI)) (ci := 7) (v := .int (M 0 10)) (C := RX7) (T := TX7) (N := 26) hx hb hts hin7 hown hK hP 0 rfl rfl 20 (by decide) (hts (.fieldLink RX7 184 "UnderLaddersModel" "seen" "I") (by decide +kernel)) (fun _ h9 => h9) rfl dX7_count_125 ?_
                      have hr9 := hK0 (M 0 10) h
                      subst hr9
                      exact W.iret (v := (M 0 10)) hx hb hr (fun t ht hW => ⟨⟨(M 0 10), (), rfl, rfl, by rw [ht]; exact hP, va_K.moved hW.alike hK, hD⟩, hS.F ht⟩) hS.2.2 dX7_count_128
                    · have h := ul_if_f hc16 h
                      refine lv_tableOut (tgt := 129) hx hb dX7_count_1 (by have z0 := lv_neT (a := 0) hc1 (by decide); have z1 := lv_neT (a := 1) hc2 (by decide); have z2 := lv_neT (a := 2) hc3 (by decide); have z3 := lv_neT (a := 3) hc4 (by decide); have z4 := lv_neT (a := 4) hc7 (by decide); have z5 := lv_neT (a := 5) hc9 (by decide); have z6 := lv_neT (a := 6) hc11 (by decide); have z7 := lv_neT (a := 7) hc13 (by decide); have z8 := lv_neT (a := 8) hc15 (by decide); have z9 := lv_neT (a := 9) hc16 (by decide); omega) (by decide) ?_
                      refine lv_bipush (v := -2) hx hb dX7_count_129 (by decide) ?_
                      have hr9 := hK0 (-2 : Int32) h
                      subst hr9
                      exact W.iret (v := (-2 : Int32)) hx hb hr (fun t ht hW => ⟨⟨(-2 : Int32), (), rfl, rfl, by rw [ht]; exact hP, va_K.moved hW.alike hK, hD⟩, hS.F ht⟩) hS.2.2 dX7_count_131
