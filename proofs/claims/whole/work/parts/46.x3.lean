def f_X3_add (E : ul_S) (p1 : Int32) (p2 : Int32) : Option (Int32 × ul_S) :=
  if (E 0 0) < (6 : Int32) then (ul_st E 1 6 (E 0 0) p1 fun E2 => ul_st E2 2 6 (E2 0 0) p2 fun E4 => ul_bd ((E4 0 0) + (1 : Int32)) fun v6 => ul_bd (ul_up E4 0 0 v6) fun E7 => some ((E7 0 0), E7)) else (some ((-4 : Int32), E))
set_option maxHeartbeats 4000000 in
set_option maxRecDepth 100000 in
theorem c_X3_add (l : Launch) (dC : Nat → ClassId) (dI : Nat → Nat → Nat) (cI : ClassId) (aE : Nat → Nat) (sz : Nat) (E : ul_S) (p1 : Int32) (p2 : Int32) (r : (Int32 × ul_S)) (h : f_X3_add E p1 p2 = some r) : Met l yX3_add wsX3_add ({ frames := 0, cells := 0, slots := 0, locals := 0 }) (va_Pc [.ref (aE 0), .int p1, .int p2] (ul_pre (dC, dI) [(cI, .int)] ul_NX sz (ul_wE cI aE E))) (va_Qi (fun v (_ : Unit) => v = r.1) (fun _ => ul_post (dC, dI) [(cI, .int)] (va_A (ul_wE cI aE E) sz) (ul_wE cI aE r.2)) (va_A (ul_wE cI aE E) sz)) 0 0 (va_A (ul_wE cI aE E) sz) := by
  refine Met.ofW (cc := cX3_add) (maxL := 3) (ret := (some .int)) (by decide) rfl ?_
  intro p e s m args below meth c s₁ B hml hv
  obtain ⟨rfl, hsz, hP, hK, hD0, hN⟩ := hv
  have hx := B.exec
  have hb := B.bytes
  have hr := B.returns
  have hts := atoms_spec (ws := wsX3_add) B.pre
  have hown : s.vm.findClass RX3 = some m.cls := findClass_of_methodNamed B.named
  have hlocks := B.notSynchronized
  have hin3 : ∀ w ∈ u_ws RX3 TX3 3, w ∈ wsX3_add := by decide +kernel
  subst hsz
  have hD := hD0.self (sz := s.heap.size)
  generalize hAe : va_A (ul_wE cI aE E) s.heap.size = A at hD hN ⊢
  have hA : ∀ q : Nat, s.heap.size ≤ q → A q := fun q h => by rw [← hAe]; exact Or.inr h
  have hS : va_S A s.heap s.heap [] := va_S.rf
  have hl := lv_entry ([.ref (aE 0), .int p1, .int p2]) (n := 3) (Nat.le_of_ble_eq_true rfl)
  rw [lg_entry_eq]
  generalize (lg_sl ([.ref (aE 0), .int p1, .int p2]) ++ List.replicate (3 - (lg_sl ([.ref (aE 0), .int p1, .int p2])).length) Slot.unset).toArray = ls at hl ⊢
  have hl : lv_has ls 3 [(0, .ref (aE 0)), (1, .int p1), (2, .int p2)] := hl
  obtain ⟨K0, hK0, h⟩ := ul_top h
  unfold f_X3_add at h
  refine ul_gen (fun G gi ge => ?_)
  obtain ⟨H, eH⟩ : ∃ z, z = s.heap := ⟨_, rfl⟩
  obtain ⟨locs, eL⟩ : ∃ z : List Loc, z = [] := ⟨_, rfl⟩
  have hP : va_P (dC, dI) classes (ul_wE cI aE E) H := by rw [eH]; exact hP
  have hS : va_S A s.heap H locs := by rw [eH, eL]; exact hS
  rw [← eL]
  refine (show G H locs (F0 m 0 ls []) → G s.heap locs (F0 m 0 ls []) from fun z => by rw [← eH]; exact z) ?_
  refine gi _ _ _ ?_
  refine lv_aload_n hx hb dX3_add_0 rfl (lv_at hl 0 rfl) ?_
  refine va_get (D := (dC, dI)) (ci := 3) (v := .int (E 0 0)) (C := RX3) (T := TX3) (N := 3) hx hb hts hin3 hown hK hP 0 rfl rfl 2 (by decide) (hts (.fieldLink RX3 18 "UnderLadders$Seen" "size" "I") (by decide +kernel)) (fun _ h9 => h9) rfl dX3_add_1 ?_
  refine lv_bipush (v := 6) hx hb dX3_add_4 (by decide) ?_
  refine lv_icmp_lt (tgt := 12) hx hb dX3_add_6 (by decide) (fun hc1 => ?_) (fun hc1 => ?_)
  · have h := ul_if_t hc1 h
    refine lv_aload_n hx hb dX3_add_12 rfl (lv_at hl 0 rfl) ?_
    refine va_get (D := (dC, dI)) (ci := 3) (v := .ref (aE 1)) (C := RX3) (T := TX3) (N := 3) hx hb hts hin3 hown hK hP 0 rfl rfl 0 (by decide) (hts (.fieldLink RX3 9 "UnderLadders$Seen" "ahead" "[I") (by decide +kernel)) (fun _ h9 => h9) rfl dX3_add_13 ?_
    refine lv_aload_n hx hb dX3_add_16 rfl (lv_at hl 0 rfl) ?_
    refine va_get (D := (dC, dI)) (ci := 3) (v := .int (E 0 0)) (C := RX3) (T := TX3) (N := 3) hx hb hts hin3 hown hK hP 0 rfl rfl 2 (by decide) (hts (.fieldLink RX3 18 "UnderLadders$Seen" "size" "I") (by decide +kernel)) (fun _ h9 => h9) rfl dX3_add_17 ?_
    refine lv_iload_n hx hb dX3_add_20 rfl (lv_at hl 1 rfl) ?_
    obtain ⟨hi3, h⟩ := ul_st_h h
    refine va_iast hx hb hK hP hD hS 1 0 rfl rfl hi3 dX3_add_21 (fun H locs hP hD hS => ?_)
    obtain ⟨E2, eE2⟩ : ∃ z : ul_S, z = ul_up E 1 (E 0 0).toNatClampNeg p1 := ⟨_, rfl⟩
    have h := h E2 eE2
    have hP : va_P (dC, dI) classes (ul_wE cI aE E2) H := by rw [eE2]; exact hP
    have hD : va_D A (ul_wE cI aE E2) := by rw [eE2]; exact hD
    refine lv_aload_n hx hb dX3_add_22 rfl (lv_at hl 0 rfl) ?_
    refine va_get (D := (dC, dI)) (ci := 3) (v := .ref (aE 2)) (C := RX3) (T := TX3) (N := 3) hx hb hts hin3 hown hK hP 0 rfl rfl 1 (by decide) (hts (.fieldLink RX3 15 "UnderLadders$Seen" "behind" "[I") (by decide +kernel)) (fun _ h9 => h9) rfl dX3_add_23 ?_
    refine lv_aload_n hx hb dX3_add_26 rfl (lv_at hl 0 rfl) ?_
    refine va_get (D := (dC, dI)) (ci := 3) (v := .int (E2 0 0)) (C := RX3) (T := TX3) (N := 3) hx hb hts hin3 hown hK hP 0 rfl rfl 2 (by decide) (hts (.fieldLink RX3 18 "UnderLadders$Seen" "size" "I") (by decide +kernel)) (fun _ h9 => h9) rfl dX3_add_27 ?_
    refine lv_iload_n hx hb dX3_add_30 rfl (lv_at hl 2 rfl) ?_
    obtain ⟨hi5, h⟩ := ul_st_h h
    refine va_iast hx hb hK hP hD hS 2 0 rfl rfl hi5 dX3_add_31 (fun H locs hP hD hS => ?_)
    obtain ⟨E4, eE4⟩ : ∃ z : ul_S, z = ul_up E2 2 (E2 0 0).toNatClampNeg p2 := ⟨_, rfl⟩
    have h := h E4 eE4
    have hP : va_P (dC, dI) classes (ul_wE cI aE E4) H := by rw [eE4]; exact hP
    have hD : va_D A (ul_wE cI aE E4) := by rw [eE4]; exact hD
    refine lv_aload_n hx hb dX3_add_32 rfl (lv_at hl 0 rfl) ?_
    refine lv_dup hx hb dX3_add_33 rfl ?_
    refine va_get (D := (dC, dI)) (ci := 3) (v := .int (E4 0 0)) (C := RX3) (T := TX3) (N := 3) hx hb hts hin3 hown hK hP 0 rfl rfl 2 (by decide) (hts (.fieldLink RX3 18 "UnderLadders$Seen" "size" "I") (by decide +kernel)) (fun _ h9 => h9) rfl dX3_add_34 ?_
    refine lv_iconst (v := 1) hx hb dX3_add_37 (by decide) ?_
    refine lv_iadd hx hb dX3_add_38 ?_
    refine lv_topi (fun v6 ev6 => ?_)
    have h := ul_bd_h h v6 ev6
    refine va_put (D := (dC, dI)) (ci := 3) (v := .int v6) (ty := .int) (C := RX3) (T := TX3) (N := 3) hx hb hts hin3 tyX3 tyX3_ok nmX3 hown hK hP hD hS 0 rfl rfl 2 (by decide) (hts (.fieldLink RX3 18 "UnderLadders$Seen" "size" "I") (by decide +kernel)) (fun _ h9 => h9) rfl (by decide +kernel) rfl rfl (Nat.le_of_ble_eq_true rfl) dX3_add_39 (fun H locs hP hD hS => ?_)
    obtain ⟨E7, eE7⟩ : ∃ z : ul_S, z = ul_up E4 0 0 v6 := ⟨_, rfl⟩
    have h := ul_bd_h h E7 eE7
    have hP : va_P (dC, dI) classes (ul_wE cI aE E7) H := by rw [eE7]; exact hP
    have hD : va_D A (ul_wE cI aE E7) := by rw [eE7]; exact hD
    refine lv_aload_n hx hb dX3_add_42 rfl (lv_at hl 0 rfl) ?_
    refine va_get (D := (dC, dI)) (ci := 3) (v := .int (E7 0 0)) (C := RX3) (T := TX3) (N := 3) hx hb hts hin3 hown hK hP 0 rfl rfl 2 (by decide) (hts (.fieldLink RX3 18 "UnderLadders$Seen" "size" "I") (by decide +kernel)) (fun _ h9 => h9) rfl dX3_add_43 ?_
    have hr9 := hK0 ((E7 0 0), E7) h
    subst hr9
    exact W.iret (v := (E7 0 0)) hx hb hr (fun t ht hW => ⟨⟨(E7 0 0), (), rfl, rfl, by rw [ht]; exact hP, va_K.moved hW.alike hK, hD⟩, hS.F ht⟩) hS.2.2 dX3_add_46
  · have h := ul_if_f hc1 h
    refine lv_bipush (v := -4) hx hb dX3_add_9 (by decide) ?_
    have hr9 := hK0 ((-4 : Int32), E) h
    subst hr9
    exact W.iret (v := (-4 : Int32)) hx hb hr (fun t ht hW => ⟨⟨(-4 : Int32), (), rfl, rfl, by rw [ht]; exact hP, va_K.moved hW.alike hK, hD⟩, hS.F ht⟩) hS.2.2 dX3_add_11
def f_X3_clear (E : ul_S) : Option (Int32 × ul_S) :=
  ul_bd (E 0 0) fun v1 => ul_bd (ul_up E 0 0 (0 : Int32)) fun E2 => some (v1, E2)
set_option maxHeartbeats 4000000 in
set_option maxRecDepth 100000 in
theorem c_X3_clear (l : Launch) (dC : Nat → ClassId) (dI : Nat → Nat → Nat) (cI : ClassId) (aE : Nat → Nat) (sz : Nat) (E : ul_S) (r : (Int32 × ul_S)) (h : f_X3_clear E = some r) : Met l yX3_clear wsX3_clear ({ frames := 0, cells := 0, slots := 0, locals := 0 }) (va_Pc [.ref (aE 0)] (ul_pre (dC, dI) [(cI, .int)] ul_NX sz (ul_wE cI aE E))) (va_Qi (fun v (_ : Unit) => v = r.1) (fun _ => ul_post (dC, dI) [(cI, .int)] (va_A (ul_wE cI aE E) sz) (ul_wE cI aE r.2)) (va_A (ul_wE cI aE E) sz)) 0 0 (va_A (ul_wE cI aE E) sz) := by
  refine Met.ofW (cc := cX3_clear) (maxL := 2) (ret := (some .int)) (by decide) rfl ?_
  intro p e s m args below meth c s₁ B hml hv
  obtain ⟨rfl, hsz, hP, hK, hD0, hN⟩ := hv
  have hx := B.exec
  have hb := B.bytes
  have hr := B.returns
  have hts := atoms_spec (ws := wsX3_clear) B.pre
  have hown : s.vm.findClass RX3 = some m.cls := findClass_of_methodNamed B.named
  have hlocks := B.notSynchronized
  have hin3 : ∀ w ∈ u_ws RX3 TX3 3, w ∈ wsX3_clear := by decide +kernel
  subst hsz
  have hD := hD0.self (sz := s.heap.size)
  generalize hAe : va_A (ul_wE cI aE E) s.heap.size = A at hD hN ⊢
  have hA : ∀ q : Nat, s.heap.size ≤ q → A q := fun q h => by rw [← hAe]; exact Or.inr h
  have hS : va_S A s.heap s.heap [] := va_S.rf
  have hl := lv_entry ([.ref (aE 0)]) (n := 2) (Nat.le_of_ble_eq_true rfl)
  rw [lg_entry_eq]
  generalize (lg_sl ([.ref (aE 0)]) ++ List.replicate (2 - (lg_sl ([.ref (aE 0)])).length) Slot.unset).toArray = ls at hl ⊢
  have hl : lv_has ls 2 [(0, .ref (aE 0))] := hl
  obtain ⟨K0, hK0, h⟩ := ul_top h
  unfold f_X3_clear at h
  refine ul_gen (fun G gi ge => ?_)
  obtain ⟨H, eH⟩ : ∃ z, z = s.heap := ⟨_, rfl⟩
  obtain ⟨locs, eL⟩ : ∃ z : List Loc, z = [] := ⟨_, rfl⟩
  have hP : va_P (dC, dI) classes (ul_wE cI aE E) H := by rw [eH]; exact hP
  have hS : va_S A s.heap H locs := by rw [eH, eL]; exact hS
  rw [← eL]
  refine (show G H locs (F0 m 0 ls []) → G s.heap locs (F0 m 0 ls []) from fun z => by rw [← eH]; exact z) ?_
  refine gi _ _ _ ?_
  refine lv_aload_n hx hb dX3_clear_0 rfl (lv_at hl 0 rfl) ?_
  refine va_get (D := (dC, dI)) (ci := 3) (v := .int (E 0 0)) (C := RX3) (T := TX3) (N := 3) hx hb hts hin3 hown hK hP 0 rfl rfl 2 (by decide) (hts (.fieldLink RX3 18 "UnderLadders$Seen" "size" "I") (by decide +kernel)) (fun _ h9 => h9) rfl dX3_clear_1 ?_
  refine lv_topi (fun v1 ev1 => ?_)
  have h := ul_bd_h h v1 ev1
  refine lv_istore_n (lv' := [(1, .int v1), (0, .ref (aE 0))]) hx hb dX3_clear_4 rfl hl (by decide) rfl (fun ls hl => ?_)
  refine lv_aload_n hx hb dX3_clear_5 rfl (lv_at hl 1 rfl) ?_
  refine lv_iconst (v := 0) hx hb dX3_clear_6 (by decide) ?_
  refine va_put (D := (dC, dI)) (ci := 3) (v := .int (0 : Int32)) (ty := .int) (C := RX3) (T := TX3) (N := 3) hx hb hts hin3 tyX3 tyX3_ok nmX3 hown hK hP hD hS 0 rfl rfl 2 (by decide) (hts (.fieldLink RX3 18 "UnderLadders$Seen" "size" "I") (by decide +kernel)) (fun _ h9 => h9) rfl (by decide +kernel) rfl rfl (Nat.le_of_ble_eq_true rfl) dX3_clear_7 (fun H locs hP hD hS => ?_)
  obtain ⟨E2, eE2⟩ : ∃ z : ul_S, z = ul_up E 0 0 (0 : Int32) := ⟨_, rfl⟩
  have h := ul_bd_h h E2 eE2
  have hP : va_P (dC, dI) classes (ul_wE cI aE E2) H := by rw [eE2]; exact hP
  have hD : va_D A (ul_wE cI aE E2) := by rw [eE2]; exact hD
  refine lv_iload_n hx hb dX3_clear_10 rfl (lv_at hl 0 rfl) ?_
  have hr9 := hK0 (v1, E2) h
  subst hr9
  exact W.iret (v := v1) hx hb hr (fun t ht hW => ⟨⟨v1, (), rfl, rfl, by rw [ht]; exact hP, va_K.moved hW.alike hK, hD⟩, hS.F ht⟩) hS.2.2 dX3_clear_11
def f_X3_fits_j45 (E : ul_S) (p1 : Int32) (p2 : Int32) (x3 : Int32) : Option Int32 :=
  some (1 : Int32)
def f_X3_fits_L2 (E : ul_S) (p1 : Int32) (p2 : Int32) (q2 : Int32) : Option ((Int32 ⊕ Int32) ⊕ Int32) :=
  if (E 0 0) ≤ q2 then (some (.inl (.inr q2))) else (ul_ld (E 1) 6 q2 fun v2 => ul_ld (E 1) 6 q2 fun v4 => (f_X6_taken p1 p2 v4).bind fun u6 => ul_ld (E 2) 6 q2 fun v7 => if (v2 - u6) = v7 then (ul_bd (q2 + 1) fun v10 => some (.inr v10)) else (some (.inl (.inl (0 : Int32)))))
def f_X3_fits (E : ul_S) (p1 : Int32) (p2 : Int32) : Option Int32 :=
  (ul_it ul_N (f_X3_fits_L2 E p1 p2) (0 : Int32)).bind (Sum.elim (fun z => some z) (fun e2 => f_X3_fits_j45 E p1 p2 e2))
set_option maxHeartbeats 4000000 in
set_option maxRecDepth 100000 in
theorem c_X3_fits (l : Launch) (dC : Nat → ClassId) (dI : Nat → Nat → Nat) (cI : ClassId) (aE : Nat → Nat) (sz : Nat) (E : ul_S) (p1 : Int32) (p2 : Int32) (r : Int32) (h : f_X3_fits E p1 p2 = some r) : Met l yX3_fits wsX3_fits ({ frames := 1, cells := 0, slots := 0, locals := 23 }) (va_Pc [.ref (aE 0), .int p1, .int p2] (ul_pre (dC, dI) [(cI, .int)] ul_NX sz (ul_wE cI aE E))) (va_Qi (fun v (_ : Unit) => v = r) (fun _ => ul_post (dC, dI) [(cI, .int)] (va_A (ul_wE cI aE E) sz) (ul_wE cI aE E)) (va_A (ul_wE cI aE E) sz)) 0 0 (va_A (ul_wE cI aE E) sz) := by
  refine Met.ofW (cc := cX3_fits) (maxL := 4) (ret := (some .boolean)) (by decide) rfl ?_
  intro p e s m args below meth c s₁ B hml hv
  obtain ⟨rfl, hsz, hP, hK, hD0, hN⟩ := hv
  have hx := B.exec
  have hb := B.bytes
  have hr := B.returns
  have hts := atoms_spec (ws := wsX3_fits) B.pre
  have hown : s.vm.findClass RX3 = some m.cls := findClass_of_methodNamed B.named
  have hlocks := B.notSynchronized
  have hin3 : ∀ w ∈ u_ws RX3 TX3 3, w ∈ wsX3_fits := by decide +kernel
  subst hsz
  have hD := hD0.self (sz := s.heap.size)
  generalize hAe : va_A (ul_wE cI aE E) s.heap.size = A at hD hN ⊢
  have hA : ∀ q : Nat, s.heap.size ≤ q → A q := fun q h => by rw [← hAe]; exact Or.inr h
  have hS : va_S A s.heap s.heap [] := va_S.rf
  have hl := lv_entry ([.ref (aE 0), .int p1, .int p2]) (n := 4) (Nat.le_of_ble_eq_true rfl)
  rw [lg_entry_eq]
  generalize (lg_sl ([.ref (aE 0), .int p1, .int p2]) ++ List.replicate (4 - (lg_sl ([.ref (aE 0), .int p1, .int p2])).length) Slot.unset).toArray = ls at hl ⊢
  have hl : lv_has ls 4 [(0, .ref (aE 0)), (1, .int p1), (2, .int p2)] := hl
  obtain ⟨K0, hK0, h⟩ := ul_top h
  unfold f_X3_fits at h
  refine ul_gen (fun G gi ge => ?_)
  obtain ⟨H, eH⟩ : ∃ z, z = s.heap := ⟨_, rfl⟩
  obtain ⟨locs, eL⟩ : ∃ z : List Loc, z = [] := ⟨_, rfl⟩
  have hP : va_P (dC, dI) classes (ul_wE cI aE E) H := by rw [eH]; exact hP
  have hS : va_S A s.heap H locs := by rw [eH, eL]; exact hS
  rw [← eL]
  refine (show G H locs (F0 m 0 ls []) → G s.heap locs (F0 m 0 ls []) from fun z => by rw [← eH]; exact z) ?_
  have J45 : ∀ (x3 : Int32) (H : Heap) (locs : List Loc), ul_H (dC, dI) A s.heap (ul_wE cI aE E) H locs → ∀ ls : Array Slot, lv_has ls 4 [(0, .ref (aE 0)), (1, .int p1), (2, .int p2), (3, .int x3)] → (f_X3_fits_j45 E p1 p2 x3).bind K0 = some r → G H locs (F0 m 45 ls []) := by
    intro x3 H locs hw ls hl h
    obtain ⟨hP, hD, hS⟩ := hw
    unfold f_X3_fits_j45 at h
    refine gi _ _ _ ?_
    refine lv_iconst (v := 1) hx hb dX3_fits_45 (by decide) ?_
    have hr9 := hK0 (1 : Int32) h
    subst hr9
    exact W.zret (v := (1 : Int32)) hx hb hr (by decide) (fun t ht hW => ⟨⟨(1 : Int32), (), rfl, rfl, by rw [ht]; exact hP, va_K.moved hW.alike hK, hD⟩, hS.F ht⟩) hS.2.2 dX3_fits_46
  refine gi _ _ _ ?_
  refine lv_iconst (v := 0) hx hb dX3_fits_0 (by decide) ?_
  refine lv_istore_n (lv' := [(3, .int (0 : Int32)), (0, .ref (aE 0)), (1, .int p1), (2, .int p2)]) hx hb dX3_fits_1 rfl hl (by decide) rfl (fun ls hl => ?_)
  refine ge _ _ _ (ul_loop (P := fun q2 => ∀ (H : Heap) (locs : List Loc), ul_H (dC, dI) A s.heap (ul_wE cI aE E) H locs → ∀ ls : Array Slot, lv_has ls 4 [(0, .ref (aE 0)), (1, .int p1), (2, .int p2), (3, .int q2)] → G H locs (F0 m 2 ls [])) ?_ _ _ (ul_it_h h) H locs ⟨hP, hD, hS⟩ ls (lv_sub hl [1, 2, 3, 0] rfl))
  intro K2 hx2
  intro q2 ih2 h H locs hw ls hl
  obtain ⟨hP, hD, hS⟩ := hw
  unfold f_X3_fits_L2 at h
  refine gi _ _ _ ?_
  refine lv_iload_n hx hb dX3_fits_2 rfl (lv_at hl 3 rfl) ?_
  refine lv_aload_n hx hb dX3_fits_3 rfl (lv_at hl 0 rfl) ?_
  refine va_get (D := (dC, dI)) (ci := 3) (v := .int (E 0 0)) (C := RX3) (T := TX3) (N := 3) hx hb hts hin3 hown hK hP 0 rfl rfl 2 (by decide) (hts (.fieldLink RX3 18 "UnderLadders$Seen" "size" "I") (by decide +kernel)) (fun _ h9 => h9) rfl dX3_fits_4 ?_
  refine lv_icmp_ge (tgt := 45) hx hb dX3_fits_7 (by decide) (fun hc11 => ?_) (fun hc11 => ?_)
  · have h := ul_if_t hc11 h
    exact ge _ _ _ (J45 q2 H locs ⟨hP, hD, hS⟩ ls (lv_sub hl [0, 1, 2, 3] rfl) (hx2 (.inr q2) h))
  · have h := ul_if_f hc11 h
    refine lv_aload_n hx hb dX3_fits_10 rfl (lv_at hl 0 rfl) ?_
    refine va_get (D := (dC, dI)) (ci := 3) (v := .ref (aE 1)) (C := RX3) (T := TX3) (N := 3) hx hb hts hin3 hown hK hP 0 rfl rfl 0 (by decide) (hts (.fieldLink RX3 9 "UnderLadders$Seen" "ahead" "[I") (by decide +kernel)) (fun _ h9 => h9) rfl dX3_fits_11 ?_
    refine lv_iload_n hx hb dX3_fits_14 rfl (lv_at hl 3 rfl) ?_
    obtain ⟨hi13, h⟩ := ul_ld_h h
    refine va_iald hx hb hK hP 1 0 rfl rfl hi13 dX3_fits_15 ?_
    refine lv_topi (fun v12 ev12 => ?_)
    have h := h v12 ev12
    refine lv_iload_n hx hb dX3_fits_16 rfl (lv_at hl 1 rfl) ?_
    refine lv_iload_n hx hb dX3_fits_17 rfl (lv_at hl 2 rfl) ?_
    refine lv_aload_n hx hb dX3_fits_18 rfl (lv_at hl 0 rfl) ?_
    refine va_get (D := (dC, dI)) (ci := 3) (v := .ref (aE 1)) (C := RX3) (T := TX3) (N := 3) hx hb hts hin3 hown hK hP 0 rfl rfl 0 (by decide) (hts (.fieldLink RX3 9 "UnderLadders$Seen" "ahead" "[I") (by decide +kernel)) (fun _ h9 => h9) rfl dX3_fits_19 ?_
    refine lv_iload_n hx hb dX3_fits_22 rfl (lv_at hl 3 rfl) ?_
    obtain ⟨hi15, h⟩ := ul_ld_h h
    refine va_iald hx hb hK hP 1 0 rfl rfl hi15 dX3_fits_23 ?_
    refine lv_topi (fun v14 ev14 => ?_)
    have h := h v14 ev14
    obtain ⟨u16, hu16, h⟩ := ul_cl_h h
    refine ul_cNi (As := [.int p1, .int p2, .int v14]) (rest := [.int v12]) hP hD hS hK hA (c_X6_taken l dC dI H.size p1 p2 v14 u16 hu16) ⟨hx, hb, hml, hown, hts⟩ ⟨va_cnB (host := "UnderLadders") 3 hts gX3_fits_X6_taken_n29 rfl rfl rfl (hN.2.1 (RX3, 29, yX6_taken) (by decide +kernel)) (hts (.initialized RX6) (by decide +kernel)) (by decide +kernel) ⟨Nat.le_of_ble_eq_true rfl, Nat.le_of_ble_eq_true rfl⟩, hts (.static yX6_taken) (by decide +kernel), trivial⟩ rfl hl.1 rfl (Nat.le_of_ble_eq_true rfl) dX3_fits_24 (fun H locs hw => ?_)
    obtain ⟨hP, hD, hS⟩ := hw
    refine lv_isub hx hb dX3_fits_27 ?_
    refine lv_aload_n hx hb dX3_fits_28 rfl (lv_at hl 0 rfl) ?_
    refine va_get (D := (dC, dI)) (ci := 3) (v := .ref (aE 2)) (C := RX3) (T := TX3) (N := 3) hx hb hts hin3 hown hK hP 0 rfl rfl 1 (by decide) (hts (.fieldLink RX3 15 "UnderLadders$Seen" "behind" "[I") (by decide +kernel)) (fun _ h9 => h9) rfl dX3_fits_29 ?_
    refine lv_iload_n hx hb dX3_fits_32 rfl (lv_at hl 3 rfl) ?_
    obtain ⟨hi18, h⟩ := ul_ld_h h
    refine va_iald hx hb hK hP 2 0 rfl rfl hi18 dX3_fits_33 ?_
    refine lv_topi (fun v17 ev17 => ?_)
    have h := h v17 ev17
    refine lv_icmp_eq (tgt := 39) hx hb dX3_fits_34 (by decide) (fun hc19 => ?_) (fun hc19 => ?_)
    · have h := ul_if_t hc19 h
      obtain ⟨v20, ev20⟩ : ∃ z : Int32, z = q2 + 1 := ⟨_, rfl⟩
      have h := ul_bd_h h v20 ev20
      refine lv_iinc (v := v20) (lv' := [(3, .int v20), (0, .ref (aE 0)), (1, .int p1), (2, .int p2)]) hx hb dX3_fits_39 hl (k := 3) rfl (by rw [ev20]; rfl) (by decide) rfl (fun ls hl => ?_)
      refine lv_goto (tgt := 2) hx hb dX3_fits_42 (by decide) ?_
      exact ge _ _ _ (ih2 v20 h H locs ⟨hP, hD, hS⟩ ls (lv_sub hl [1, 2, 3, 0] rfl))
    · have h := ul_if_f hc19 h
      refine lv_iconst (v := 0) hx hb dX3_fits_37 (by decide) ?_
      have hr9 := hK0 (0 : Int32) (hx2 (.inl (0 : Int32)) h)
      subst hr9
      exact W.zret (v := (0 : Int32)) hx hb hr (by decide) (fun t ht hW => ⟨⟨(0 : Int32), (), rfl, rfl, by rw [ht]; exact hP, va_K.moved hW.alike hK, hD⟩, hS.F ht⟩) hS.2.2 dX3_fits_38
def f_X3_countFitting_j48 (E : ul_S) (x1 : Int32) (x2 : Int32) : Option Int32 :=
  some x1
def f_X3_countFitting_j42 (E : ul_S) (x1 : Int32) (x2 : Int32) (x3 : Int32) : Option ((Int32 × Int32) ⊕ (Int32 × Int32)) :=
  ul_bd (x2 + 1) fun v1 => some (.inr (x1, v1))
def f_X3_countFitting_j36 (E : ul_S) (x1 : Int32) (x2 : Int32) (x3 : Int32) : Option ((Int32 × Int32) ⊕ (Int32 × Int32)) :=
  ul_bd (x3 + 1) fun v4 => some (.inr (x1, v4))
def f_X3_countFitting_L14 (E : ul_S) (y2 : Int32) (q14 : (Int32 × Int32)) : Option ((Int32 × Int32) ⊕ (Int32 × Int32)) :=
  if (9 : Int32) < q14.2 then (some (.inl (q14.1, q14.2))) else (ul_ld ul_ks 3 y2 fun v7 => (f_X3_fits E v7 q14.2).bind fun u9 => if u9 = 0 then (f_X3_countFitting_j36 E q14.1 y2 q14.2) else (ul_bd (q14.1 + 1) fun v11 => f_X3_countFitting_j36 E v11 y2 q14.2))
def f_X3_countFitting_L4 (E : ul_S) (q4 : (Int32 × Int32)) : Option ((Int32 × Int32) ⊕ (Int32 × Int32)) :=
  if (3 : Int32) ≤ q4.2 then (some (.inl (q4.1, q4.2))) else ((ul_it ul_N (f_X3_countFitting_L14 E q4.2) (q4.1, (1 : Int32))).bind (fun e14 => f_X3_countFitting_j42 E e14.1 q4.2 e14.2))
def f_X3_countFitting (E : ul_S) : Option Int32 :=
  (ul_it ul_N (f_X3_countFitting_L4 E) ((0 : Int32), (0 : Int32))).bind (fun e4 => f_X3_countFitting_j48 E e4.1 e4.2)
set_option maxHeartbeats 4000000 in
set_option maxRecDepth 100000 in
theorem c_X3_countFitting (l : Launch) (dC : Nat → ClassId) (dI : Nat → Nat → Nat) (cI : ClassId) (aE : Nat → Nat) (sz : Nat) (E : ul_S) (r : Int32) (h : f_X3_countFitting E = some r) : Met l yX3_countFitting wsX3_countFitting ({ frames := 2, cells := 0, slots := 0, locals := 46 }) (va_Pc [.ref (aE 0)] (ul_pre (dC, dI) [(cI, .int)] ul_NX sz (ul_wE cI aE E))) (va_Qi (fun v (_ : Unit) => v = r) (fun _ => ul_post (dC, dI) [(cI, .int)] (va_A (ul_wE cI aE E) sz) (ul_wE cI aE E)) (va_A (ul_wE cI aE E) sz)) 0 0 (va_A (ul_wE cI aE E) sz) := by
  refine Met.ofW (cc := cX3_countFitting) (maxL := 4) (ret := (some .int)) (by decide) rfl ?_
  intro p e s m args below meth c s₁ B hml hv
  obtain ⟨rfl, hsz, hP, hK, hD0, hN⟩ := hv
  have hx := B.exec
  have hb := B.bytes
  have hr := B.returns
  have hts := atoms_spec (ws := wsX3_countFitting) B.pre
  have hown : s.vm.findClass RX3 = some m.cls := findClass_of_methodNamed B.named
  have hlocks := B.notSynchronized
  subst hsz
  have hD := hD0.self (sz := s.heap.size)
  generalize hAe : va_A (ul_wE cI aE E) s.heap.size = A at hD hN ⊢
  have hA : ∀ q : Nat, s.heap.size ≤ q → A q := fun q h => by rw [← hAe]; exact Or.inr h
  have hS : va_S A s.heap s.heap [] := va_S.rf
  obtain ⟨tK, hZK, hTK⟩ := hN.2.2
  have hl := lv_entry ([.ref (aE 0)]) (n := 4) (Nat.le_of_ble_eq_true rfl)
  rw [lg_entry_eq]
  generalize (lg_sl ([.ref (aE 0)]) ++ List.replicate (4 - (lg_sl ([.ref (aE 0)])).length) Slot.unset).toArray = ls at hl ⊢
  have hl : lv_has ls 4 [(0, .ref (aE 0))] := hl
  obtain ⟨K0, hK0, h⟩ := ul_top h
  unfold f_X3_countFitting at h
  refine ul_gen (fun G gi ge => ?_)
  obtain ⟨H, eH⟩ : ∃ z, z = s.heap := ⟨_, rfl⟩
  obtain ⟨locs, eL⟩ : ∃ z : List Loc, z = [] := ⟨_, rfl⟩
  have hP : va_P (dC, dI) classes (ul_wE cI aE E) H := by rw [eH]; exact hP
  have hS : va_S A s.heap H locs := by rw [eH, eL]; exact hS
  rw [← eL]
  refine (show G H locs (F0 m 0 ls []) → G s.heap locs (F0 m 0 ls []) from fun z => by rw [← eH]; exact z) ?_
  have J48 : ∀ (x1 : Int32) (x2 : Int32) (H : Heap) (locs : List Loc), ul_H (dC, dI) A s.heap (ul_wE cI aE E) H locs → ∀ ls : Array Slot, lv_has ls 4 [(0, .ref (aE 0)), (1, .int x1), (2, .int x2)] → (f_X3_countFitting_j48 E x1 x2).bind K0 = some r → G H locs (F0 m 48 ls []) := by
    intro x1 x2 H locs hw ls hl h
    obtain ⟨hP, hD, hS⟩ := hw
    unfold f_X3_countFitting_j48 at h
    refine gi _ _ _ ?_
    refine lv_iload_n hx hb dX3_countFitting_48 rfl (lv_at hl 1 rfl) ?_
    have hr9 := hK0 x1 h
    subst hr9
    exact W.iret (v := x1) hx hb hr (fun t ht hW => ⟨⟨x1, (), rfl, rfl, by rw [ht]; exact hP, va_K.moved hW.alike hK, hD⟩, hS.F ht⟩) hS.2.2 dX3_countFitting_49
  refine gi _ _ _ ?_
  refine lv_iconst (v := 0) hx hb dX3_countFitting_0 (by decide) ?_
  refine lv_istore_n (lv' := [(1, .int (0 : Int32)), (0, .ref (aE 0))]) hx hb dX3_countFitting_1 rfl hl (by decide) rfl (fun ls hl => ?_)
  refine lv_iconst (v := 0) hx hb dX3_countFitting_2 (by decide) ?_
  refine lv_istore_n (lv' := [(2, .int (0 : Int32)), (1, .int (0 : Int32)), (0, .ref (aE 0))]) hx hb dX3_countFitting_3 rfl hl (by decide) rfl (fun ls hl => ?_)
  refine ge _ _ _ (ul_loop (P := fun q4 => ∀ (H : Heap) (locs : List Loc), ul_H (dC, dI) A s.heap (ul_wE cI aE E) H locs → ∀ ls : Array Slot, lv_has ls 4 [(0, .ref (aE 0)), (1, .int q4.1), (2, .int q4.2)] → G H locs (F0 m 4 ls [])) ?_ _ _ (ul_it_h h) H locs ⟨hP, hD, hS⟩ ls (lv_sub hl [2, 1, 0] rfl))
  intro K4 hx4
  intro q4 ih4 h H locs hw ls hl
  have J42 : ∀ (x1 : Int32) (x2 : Int32) (x3 : Int32) (H : Heap) (locs : List Loc), ul_H (dC, dI) A s.heap (ul_wE cI aE E) H locs → ∀ ls : Array Slot, lv_has ls 4 [(0, .ref (aE 0)), (1, .int x1), (2, .int x2), (3, .int x3)] → (f_X3_countFitting_j42 E x1 x2 x3).bind K4 = some r → G H locs (F0 m 42 ls []) := by
    intro x1 x2 x3 H locs hw ls hl h
    obtain ⟨hP, hD, hS⟩ := hw
    unfold f_X3_countFitting_j42 at h
    refine gi _ _ _ ?_
    obtain ⟨v2, ev2⟩ : ∃ z : Int32, z = x2 + 1 := ⟨_, rfl⟩
    have h := ul_bd_h h v2 ev2
    refine lv_iinc (v := v2) (lv' := [(2, .int v2), (0, .ref (aE 0)), (1, .int x1), (3, .int x3)]) hx hb dX3_countFitting_42 hl (k := 2) rfl (by rw [ev2]; rfl) (by decide) rfl (fun ls hl => ?_)
    refine lv_goto (tgt := 4) hx hb dX3_countFitting_45 (by decide) ?_
    exact ge _ _ _ (ih4 (x1, v2) h H locs ⟨hP, hD, hS⟩ ls (lv_sub hl [1, 2, 0] rfl))
  obtain ⟨hP, hD, hS⟩ := hw
  unfold f_X3_countFitting_L4 at h
  refine gi _ _ _ ?_
  refine lv_iload_n hx hb dX3_countFitting_4 rfl (lv_at hl 2 rfl) ?_
  refine va_getsN (C := "UnderLadders") (n := "KINDS_SEEN") (d := "[I") hx hb hZK hS hown (va_Nw.use rfl (hN.1 (RX3, 22, "UnderLadders", "KINDS_SEEN", "[I") (by decide +kernel))) (fun _ h9 => h9) dX3_countFitting_5 ?_
  refine va_tlen (v := 3) hx hb hTK hS (by decide) dX3_countFitting_8 ?_
  refine lv_icmp_ge (tgt := 48) hx hb dX3_countFitting_9 (by decide) (fun hc18 => ?_) (fun hc18 => ?_)
  · have h := ul_if_t hc18 h
    exact ge _ _ _ (J48 q4.1 q4.2 H locs ⟨hP, hD, hS⟩ ls (lv_sub hl [0, 1, 2] rfl) (hx4 (q4.1, q4.2) h))
  · have h := ul_if_f hc18 h
    refine lv_iconst (v := 1) hx hb dX3_countFitting_12 (by decide) ?_
    refine lv_istore_n (lv' := [(3, .int (1 : Int32)), (0, .ref (aE 0)), (1, .int q4.1), (2, .int q4.2)]) hx hb dX3_countFitting_13 rfl hl (by decide) rfl (fun ls hl => ?_)
    refine ge _ _ _ (ul_loop (P := fun q14 => ∀ (H : Heap) (locs : List Loc), ul_H (dC, dI) A s.heap (ul_wE cI aE E) H locs → ∀ ls : Array Slot, lv_has ls 4 [(0, .ref (aE 0)), (1, .int q14.1), (2, .int q4.2), (3, .int q14.2)] → G H locs (F0 m 14 ls [])) ?_ _ _ (ul_it_h h) H locs ⟨hP, hD, hS⟩ ls (lv_sub hl [1, 2, 3, 0] rfl))
    intro K14 hx14
    intro q14 ih14 h H locs hw ls hl
    have J36 : ∀ (x1 : Int32) (x3 : Int32) (H : Heap) (locs : List Loc), ul_H (dC, dI) A s.heap (ul_wE cI aE E) H locs → ∀ ls : Array Slot, lv_has ls 4 [(0, .ref (aE 0)), (1, .int x1), (2, .int q4.2), (3, .int x3)] → (f_X3_countFitting_j36 E x1 q4.2 x3).bind K14 = some r → G H locs (F0 m 36 ls []) := by
      intro x1 x3 H locs hw ls hl h
      obtain ⟨hP, hD, hS⟩ := hw
      unfold f_X3_countFitting_j36 at h
      refine gi _ _ _ ?_
      obtain ⟨v20, ev20⟩ : ∃ z : Int32, z = x3 + 1 := ⟨_, rfl⟩
      have h := ul_bd_h h v20 ev20
      refine lv_iinc (v := v20) (lv' := [(3, .int v20), (0, .ref (aE 0)), (1, .int x1), (2, .int q4.2)]) hx hb dX3_countFitting_36 hl (k := 3) rfl (by rw [ev20]; rfl) (by decide) rfl (fun ls hl => ?_)
      refine lv_goto (tgt := 14) hx hb dX3_countFitting_39 (by decide) ?_
      exact ge _ _ _ (ih14 (x1, v20) h H locs ⟨hP, hD, hS⟩ ls (lv_sub hl [1, 2, 3, 0] rfl))
    obtain ⟨hP, hD, hS⟩ := hw
    unfold f_X3_countFitting_L14 at h
    refine gi _ _ _ ?_
    refine lv_iload_n hx hb dX3_countFitting_14 rfl (lv_at hl 3 rfl) ?_
    refine lv_bipush (v := 9) hx hb dX3_countFitting_15 (by decide) ?_
    refine lv_icmp_gt (tgt := 42) hx hb dX3_countFitting_17 (by decide) (fun hc27 => ?_) (fun hc27 => ?_)
    · have h := ul_if_t hc27 h
      exact ge _ _ _ (J42 q14.1 q4.2 q14.2 H locs ⟨hP, hD, hS⟩ ls (lv_sub hl [0, 1, 2, 3] rfl) (hx14 (q14.1, q14.2) h))
    · have h := ul_if_f hc27 h
      refine lv_aload_n hx hb dX3_countFitting_20 rfl (lv_at hl 0 rfl) ?_
      refine va_getsN (C := "UnderLadders") (n := "KINDS_SEEN") (d := "[I") hx hb hZK hS hown (va_Nw.use rfl (hN.1 (RX3, 22, "UnderLadders", "KINDS_SEEN", "[I") (by decide +kernel))) (fun _ h9 => h9) dX3_countFitting_21 ?_
      refine lv_iload_n hx hb dX3_countFitting_24 rfl (lv_at hl 2 rfl) ?_
      obtain ⟨hi29, h⟩ := ul_ld_h h
      refine va_ti hx hb hTK hS hi29 (v := .int (ul_ks q4.2.toNatClampNeg)) rfl dX3_countFitting_25 ?_
      refine lv_topi (fun v28 ev28 => ?_)
      have h := h v28 ev28
      refine lv_iload_n hx hb dX3_countFitting_26 rfl (lv_at hl 3 rfl) ?_
      obtain ⟨u30, hu30, h⟩ := ul_cl_h h
      refine ul_cVi (As := [.int v28, .int q14.2]) (rest := []) (wc' := (ul_wE cI aE E)) (wr := []) hP hD hS hK hA [0, 1, 2] [] [0] ul_NX_ok hN (c_X3_fits l dC dI cI aE H.size E v28 q14.2 u30 hu30) rfl rfl (by decide) rfl (by decide) (by decide) rfl ⟨hx, hb, hml, hown, hts⟩ (cwV 2 hts gX3_countFitting_X3_fits rfl rfl rfl (by decide +kernel) ⟨Nat.le_of_ble_eq_true rfl, Nat.le_of_ble_eq_true rfl⟩) (va_recv hK hP (ci := 3) (q0 := 0) rfl rfl) rfl hl.1 rfl (Nat.le_of_ble_eq_true rfl) dX3_countFitting_27 (fun H locs hw => ?_)
      obtain ⟨hP, hD, hS⟩ := hw
      have hP : va_P (dC, dI) classes (ul_wE cI aE E) H := hP
      have hD : va_D A (ul_wE cI aE E) := hD
      refine lv_if_eq (tgt := 36) hx hb dX3_countFitting_30 (by decide) (fun hc31 => ?_) (fun hc31 => ?_)
      · have h := ul_if_t hc31 h
        exact ge _ _ _ (J36 q14.1 q14.2 H locs ⟨hP, hD, hS⟩ ls (lv_sub hl [0, 1, 2, 3] rfl) h)
      · have h := ul_if_f hc31 h
        obtain ⟨v32, ev32⟩ : ∃ z : Int32, z = q14.1 + 1 := ⟨_, rfl⟩
        have h := ul_bd_h h v32 ev32
        refine lv_iinc (v := v32) (lv' := [(1, .int v32), (0, .ref (aE 0)), (2, .int q4.2), (3, .int q14.2)]) hx hb dX3_countFitting_33 hl (k := 1) rfl (by rw [ev32]; rfl) (by decide) rfl (fun ls hl => ?_)
        exact ge _ _ _ (J36 v32 q14.2 H locs ⟨hP, hD, hS⟩ ls (lv_sub hl [1, 0, 2, 3] rfl) h)
def f_X3_firstFitting_j54 (E : ul_S) (x1 : Int32) : Option Int32 :=
  some (-9 : Int32)
def f_X3_firstFitting_j48 (E : ul_S) (x1 : Int32) (x2 : Int32) : Option ((Int32 ⊕ Int32) ⊕ Int32) :=
  ul_bd (x1 + 1) fun v1 => some (.inr v1)
def f_X3_firstFitting_L12 (E : ul_S) (y1 : Int32) (q12 : Int32) : Option ((Int32 ⊕ Int32) ⊕ Int32) :=
  if (9 : Int32) < q12 then (some (.inl (.inr q12))) else (ul_ld ul_ks 3 y1 fun v5 => (f_X3_fits E v5 q12).bind fun u7 => if u7 = 0 then (ul_bd (q12 + 1) fun v9 => some (.inr v9)) else (ul_ld ul_ks 3 y1 fun v10 => some (.inl (.inl (((10 : Int32) * v10) + q12)))))
def f_X3_firstFitting_L2 (E : ul_S) (q2 : Int32) : Option ((Int32 ⊕ Int32) ⊕ Int32) :=
  if (3 : Int32) ≤ q2 then (some (.inl (.inr q2))) else ((ul_it ul_N (f_X3_firstFitting_L12 E q2) (1 : Int32)).bind (Sum.elim (fun z => some (.inl (.inl z))) (fun e12 => f_X3_firstFitting_j48 E q2 e12)))
def f_X3_firstFitting (E : ul_S) : Option Int32 :=
  (ul_it ul_N (f_X3_firstFitting_L2 E) (0 : Int32)).bind (Sum.elim (fun z => some z) (fun e2 => f_X3_firstFitting_j54 E e2))
set_option maxHeartbeats 4000000 in
set_option maxRecDepth 100000 in
theorem c_X3_firstFitting (l : Launch) (dC : Nat → ClassId) (dI : Nat → Nat → Nat) (cI : ClassId) (aE : Nat → Nat) (sz : Nat) (E : ul_S) (r : Int32) (h : f_X3_firstFitting E = some r) : Met l yX3_firstFitting wsX3_firstFitting ({ frames := 2, cells := 0, slots := 0, locals := 46 }) (va_Pc [.ref (aE 0)] (ul_pre (dC, dI) [(cI, .int)] ul_NX sz (ul_wE cI aE E))) (va_Qi (fun v (_ : Unit) => v = r) (fun _ => ul_post (dC, dI) [(cI, .int)] (va_A (ul_wE cI aE E) sz) (ul_wE cI aE E)) (va_A (ul_wE cI aE E) sz)) 0 0 (va_A (ul_wE cI aE E) sz) := by
  refine Met.ofW (cc := cX3_firstFitting) (maxL := 3) (ret := (some .int)) (by decide) rfl ?_
  intro p e s m args below meth c s₁ B hml hv
  obtain ⟨rfl, hsz, hP, hK, hD0, hN⟩ := hv
  have hx := B.exec
  have hb := B.bytes
  have hr := B.returns
  have hts := atoms_spec (ws := wsX3_firstFitting) B.pre
  have hown : s.vm.findClass RX3 = some m.cls := findClass_of_methodNamed B.named
  have hlocks := B.notSynchronized
  subst hsz
  have hD := hD0.self (sz := s.heap.size)
  generalize hAe : va_A (ul_wE cI aE E) s.heap.size = A at hD hN ⊢
  have hA : ∀ q : Nat, s.heap.size ≤ q → A q := fun q h => by rw [← hAe]; exact Or.inr h
  have hS : va_S A s.heap s.heap [] := va_S.rf
  obtain ⟨tK, hZK, hTK⟩ := hN.2.2
  have hl := lv_entry ([.ref (aE 0)]) (n := 3) (Nat.le_of_ble_eq_true rfl)
  rw [lg_entry_eq]
  generalize (lg_sl ([.ref (aE 0)]) ++ List.replicate (3 - (lg_sl ([.ref (aE 0)])).length) Slot.unset).toArray = ls at hl ⊢
  have hl : lv_has ls 3 [(0, .ref (aE 0))] := hl
  obtain ⟨K0, hK0, h⟩ := ul_top h
  unfold f_X3_firstFitting at h
  refine ul_gen (fun G gi ge => ?_)
  obtain ⟨H, eH⟩ : ∃ z, z = s.heap := ⟨_, rfl⟩
  obtain ⟨locs, eL⟩ : ∃ z : List Loc, z = [] := ⟨_, rfl⟩
  have hP : va_P (dC, dI) classes (ul_wE cI aE E) H := by rw [eH]; exact hP
  have hS : va_S A s.heap H locs := by rw [eH, eL]; exact hS
  rw [← eL]
  refine (show G H locs (F0 m 0 ls []) → G s.heap locs (F0 m 0 ls []) from fun z => by rw [← eH]; exact z) ?_
  have J54 : ∀ (x1 : Int32) (H : Heap) (locs : List Loc), ul_H (dC, dI) A s.heap (ul_wE cI aE E) H locs → ∀ ls : Array Slot, lv_has ls 3 [(0, .ref (aE 0)), (1, .int x1)] → (f_X3_firstFitting_j54 E x1).bind K0 = some r → G H locs (F0 m 54 ls []) := by
    intro x1 H locs hw ls hl h
    obtain ⟨hP, hD, hS⟩ := hw
    unfold f_X3_firstFitting_j54 at h
    refine gi _ _ _ ?_
    refine lv_bipush (v := -9) hx hb dX3_firstFitting_54 (by decide) ?_
    have hr9 := hK0 (-9 : Int32) h
    subst hr9
    exact W.iret (v := (-9 : Int32)) hx hb hr (fun t ht hW => ⟨⟨(-9 : Int32), (), rfl, rfl, by rw [ht]; exact hP, va_K.moved hW.alike hK, hD⟩, hS.F ht⟩) hS.2.2 dX3_firstFitting_56
  refine gi _ _ _ ?_
  refine lv_iconst (v := 0) hx hb dX3_firstFitting_0 (by decide) ?_
  refine lv_istore_n (lv' := [(1, .int (0 : Int32)), (0, .ref (aE 0))]) hx hb dX3_firstFitting_1 rfl hl (by decide) rfl (fun ls hl => ?_)
  refine ge _ _ _ (ul_loop (P := fun q2 => ∀ (H : Heap) (locs : List Loc), ul_H (dC, dI) A s.heap (ul_wE cI aE E) H locs → ∀ ls : Array Slot, lv_has ls 3 [(0, .ref (aE 0)), (1, .int q2)] → G H locs (F0 m 2 ls [])) ?_ _ _ (ul_it_h h) H locs ⟨hP, hD, hS⟩ ls (lv_sub hl [1, 0] rfl))
  intro K2 hx2
  intro q2 ih2 h H locs hw ls hl
  have J48 : ∀ (x1 : Int32) (x2 : Int32) (H : Heap) (locs : List Loc), ul_H (dC, dI) A s.heap (ul_wE cI aE E) H locs → ∀ ls : Array Slot, lv_has ls 3 [(0, .ref (aE 0)), (1, .int x1), (2, .int x2)] → (f_X3_firstFitting_j48 E x1 x2).bind K2 = some r → G H locs (F0 m 48 ls []) := by
    intro x1 x2 H locs hw ls hl h
    obtain ⟨hP, hD, hS⟩ := hw
    unfold f_X3_firstFitting_j48 at h
    refine gi _ _ _ ?_
    obtain ⟨v2, ev2⟩ : ∃ z : Int32, z = x1 + 1 := ⟨_, rfl⟩
    have h := ul_bd_h h v2 ev2
    refine lv_iinc (v := v2) (lv' := [(1, .int v2), (0, .ref (aE 0)), (2, .int x2)]) hx hb dX3_firstFitting_48 hl (k := 1) rfl (by rw [ev2]; rfl) (by decide) rfl (fun ls hl => ?_)
    refine lv_goto (tgt := 2) hx hb dX3_firstFitting_51 (by decide) ?_
    exact ge _ _ _ (ih2 v2 h H locs ⟨hP, hD, hS⟩ ls (lv_sub hl [1, 0] rfl))
  obtain ⟨hP, hD, hS⟩ := hw
  unfold f_X3_firstFitting_L2 at h
  refine gi _ _ _ ?_
  refine lv_iload_n hx hb dX3_firstFitting_2 rfl (lv_at hl 1 rfl) ?_
  refine va_getsN (C := "UnderLadders") (n := "KINDS_SEEN") (d := "[I") hx hb hZK hS hown (va_Nw.use rfl (hN.1 (RX3, 22, "UnderLadders", "KINDS_SEEN", "[I") (by decide +kernel))) (fun _ h9 => h9) dX3_firstFitting_3 ?_
  refine va_tlen (v := 3) hx hb hTK hS (by decide) dX3_firstFitting_6 ?_
  refine lv_icmp_ge (tgt := 54) hx hb dX3_firstFitting_7 (by decide) (fun hc20 => ?_) (fun hc20 => ?_)
  · have h := ul_if_t hc20 h
    exact ge _ _ _ (J54 q2 H locs ⟨hP, hD, hS⟩ ls (lv_sub hl [0, 1] rfl) (hx2 (.inr q2) h))
  · have h := ul_if_f hc20 h
    refine lv_iconst (v := 1) hx hb dX3_firstFitting_10 (by decide) ?_
    refine lv_istore_n (lv' := [(2, .int (1 : Int32)), (0, .ref (aE 0)), (1, .int q2)]) hx hb dX3_firstFitting_11 rfl hl (by decide) rfl (fun ls hl => ?_)
    refine ge _ _ _ (ul_loop (P := fun q12 => ∀ (H : Heap) (locs : List Loc), ul_H (dC, dI) A s.heap (ul_wE cI aE E) H locs → ∀ ls : Array Slot, lv_has ls 3 [(0, .ref (aE 0)), (1, .int q2), (2, .int q12)] → G H locs (F0 m 12 ls [])) ?_ _ _ (ul_it_h h) H locs ⟨hP, hD, hS⟩ ls (lv_sub hl [1, 2, 0] rfl))
    intro K12 hx12
    intro q12 ih12 h H locs hw ls hl
    obtain ⟨hP, hD, hS⟩ := hw
    unfold f_X3_firstFitting_L12 at h
    refine gi _ _ _ ?_
    refine lv_iload_n hx hb dX3_firstFitting_12 rfl (lv_at hl 2 rfl) ?_
    refine lv_bipush (v := 9) hx hb dX3_firstFitting_13 (by decide) ?_
    refine lv_icmp_gt (tgt := 48) hx hb dX3_firstFitting_15 (by decide) (fun hc29 => ?_) (fun hc29 => ?_)
    · have h := ul_if_t hc29 h
      exact ge _ _ _ (J48 q2 q12 H locs ⟨hP, hD, hS⟩ ls (lv_sub hl [0, 1, 2] rfl) (hx12 (.inr q12) h))
    · have h := ul_if_f hc29 h
      refine lv_aload_n hx hb dX3_firstFitting_18 rfl (lv_at hl 0 rfl) ?_
      refine va_getsN (C := "UnderLadders") (n := "KINDS_SEEN") (d := "[I") hx hb hZK hS hown (va_Nw.use rfl (hN.1 (RX3, 22, "UnderLadders", "KINDS_SEEN", "[I") (by decide +kernel))) (fun _ h9 => h9) dX3_firstFitting_19 ?_
      refine lv_iload_n hx hb dX3_firstFitting_22 rfl (lv_at hl 1 rfl) ?_
      obtain ⟨hi31, h⟩ := ul_ld_h h
      refine va_ti hx hb hTK hS hi31 (v := .int (ul_ks q2.toNatClampNeg)) rfl dX3_firstFitting_23 ?_
      refine lv_topi (fun v30 ev30 => ?_)
      have h := h v30 ev30
      refine lv_iload_n hx hb dX3_firstFitting_24 rfl (lv_at hl 2 rfl) ?_
      obtain ⟨u32, hu32, h⟩ := ul_cl_h h
      refine ul_cVi (As := [.int v30, .int q12]) (rest := []) (wc' := (ul_wE cI aE E)) (wr := []) hP hD hS hK hA [0, 1, 2] [] [0] ul_NX_ok hN (c_X3_fits l dC dI cI aE H.size E v30 q12 u32 hu32) rfl rfl (by decide) rfl (by decide) (by decide) rfl ⟨hx, hb, hml, hown, hts⟩ (cwV 2 hts gX3_firstFitting_X3_fits rfl rfl rfl (by decide +kernel) ⟨Nat.le_of_ble_eq_true rfl, Nat.le_of_ble_eq_true rfl⟩) (va_recv hK hP (ci := 3) (q0 := 0) rfl rfl) rfl hl.1 rfl (Nat.le_of_ble_eq_true rfl) dX3_firstFitting_25 (fun H locs hw => ?_)
      obtain ⟨hP, hD, hS⟩ := hw
      have hP : va_P (dC, dI) classes (ul_wE cI aE E) H := hP
      have hD : va_D A (ul_wE cI aE E) := hD
      refine lv_if_eq (tgt := 42) hx hb dX3_firstFitting_28 (by decide) (fun hc33 => ?_) (fun hc33 => ?_)
      · have h := ul_if_t hc33 h
        obtain ⟨v34, ev34⟩ : ∃ z : Int32, z = q12 + 1 := ⟨_, rfl⟩
        have h := ul_bd_h h v34 ev34
        refine lv_iinc (v := v34) (lv' := [(2, .int v34), (0, .ref (aE 0)), (1, .int q2)]) hx hb dX3_firstFitting_42 hl (k := 2) rfl (by rw [ev34]; rfl) (by decide) rfl (fun ls hl => ?_)
        refine lv_goto (tgt := 12) hx hb dX3_firstFitting_45 (by decide) ?_
        exact ge _ _ _ (ih12 v34 h H locs ⟨hP, hD, hS⟩ ls (lv_sub hl [1, 2, 0] rfl))
      · have h := ul_if_f hc33 h
        refine lv_bipush (v := 10) hx hb dX3_firstFitting_31 (by decide) ?_
        refine va_getsN (C := "UnderLadders") (n := "KINDS_SEEN") (d := "[I") hx hb hZK hS hown (va_Nw.use rfl (hN.1 (RX3, 22, "UnderLadders", "KINDS_SEEN", "[I") (by decide +kernel))) (fun _ h9 => h9) dX3_firstFitting_33 ?_
        refine lv_iload_n hx hb dX3_firstFitting_36 rfl (lv_at hl 1 rfl) ?_
        obtain ⟨hi36, h⟩ := ul_ld_h h
        refine va_ti hx hb hTK hS hi36 (v := .int (ul_ks q2.toNatClampNeg)) rfl dX3_firstFitting_37 ?_
        refine lv_topi (fun v35 ev35 => ?_)
        have h := h v35 ev35
        refine lv_imul hx hb dX3_firstFitting_38 ?_
        refine lv_iload_n hx hb dX3_firstFitting_39 rfl (lv_at hl 2 rfl) ?_
        refine lv_iadd hx hb dX3_firstFitting_40 ?_
        have hr9 := hK0 (((10 : Int32) * v35) + q12) (hx2 (.inl (((10 : Int32) * v35) + q12)) (hx12 (.inl (((10 : Int32) * v35) + q12)) h))
        subst hr9
        exact W.iret (v := (((10 : Int32) * v35) + q12)) hx hb hr (fun t ht hW => ⟨⟨(((10 : Int32) * v35) + q12), (), rfl, rfl, by rw [ht]; exact hP, va_K.moved hW.alike hK, hD⟩, hS.F ht⟩) hS.2.2 dX3_firstFitting_41
