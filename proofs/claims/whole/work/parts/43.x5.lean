def f_X5_letterAt (L : ul_S) (p1 : Int32) : Option Int32 :=
  if p1 < 0 then (some (-9 : Int32)) else (if (L 0 0) ≤ p1 then (some (-9 : Int32)) else (ul_ld (L 1) 48 p1 fun v3 => some v3))
set_option maxHeartbeats 4000000 in
set_option maxRecDepth 100000 in
theorem c_X5_letterAt (l : Launch) (dC : Nat → ClassId) (dI : Nat → Nat → Nat) (cI : ClassId) (aL : Nat → Nat) (sz : Nat) (L : ul_S) (p1 : Int32) (r : Int32) (h : f_X5_letterAt L p1 = some r) : Met l yX5_letterAt wsX5_letterAt ({ frames := 0, cells := 0, slots := 0, locals := 0 }) (va_Pc [.ref (aL 0), .int p1] (ul_pre (dC, dI) [(cI, .int)] ul_NX sz (ul_wL cI aL L))) (va_Qi (fun v (_ : Unit) => v = r) (fun _ => ul_post (dC, dI) [(cI, .int)] (va_A (ul_wL cI aL L) sz) (ul_wL cI aL L)) (va_A (ul_wL cI aL L) sz)) 0 0 (va_A (ul_wL cI aL L) sz) := by
  refine Met.ofW (cc := cX5_letterAt) (maxL := 2) (ret := (some .int)) (by decide) rfl ?_
  intro p e s m args below meth c s₁ B hml hv
  obtain ⟨rfl, hsz, hP, hK, hD0, hN⟩ := hv
  have hx := B.exec
  have hb := B.bytes
  have hr := B.returns
  have hts := atoms_spec (ws := wsX5_letterAt) B.pre
  have hown : s.vm.findClass RX5 = some m.cls := findClass_of_methodNamed B.named
  have hlocks := B.notSynchronized
  have hin5 : ∀ w ∈ u_ws RX5 TX5 2, w ∈ wsX5_letterAt := by decide +kernel
  subst hsz
  have hD := hD0.self (sz := s.heap.size)
  generalize hAe : va_A (ul_wL cI aL L) s.heap.size = A at hD hN ⊢
  have hA : ∀ q : Nat, s.heap.size ≤ q → A q := fun q h => by rw [← hAe]; exact Or.inr h
  have hS : va_S A s.heap s.heap [] := va_S.rf
  have hl := lv_entry ([.ref (aL 0), .int p1]) (n := 2) (Nat.le_of_ble_eq_true rfl)
  rw [lg_entry_eq]
  generalize (lg_sl ([.ref (aL 0), .int p1]) ++ List.replicate (2 - (lg_sl ([.ref (aL 0), .int p1])).length) Slot.unset).toArray = ls at hl ⊢
  have hl : lv_has ls 2 [(0, .ref (aL 0)), (1, .int p1)] := hl
  obtain ⟨K0, hK0, h⟩ := ul_top h
  unfold f_X5_letterAt at h
  refine ul_gen (fun G gi ge => ?_)
  obtain ⟨H, eH⟩ : ∃ z, z = s.heap := ⟨_, rfl⟩
  obtain ⟨locs, eL⟩ : ∃ z : List Loc, z = [] := ⟨_, rfl⟩
  have hP : va_P (dC, dI) classes (ul_wL cI aL L) H := by rw [eH]; exact hP
  have hS : va_S A s.heap H locs := by rw [eH, eL]; exact hS
  rw [← eL]
  refine (show G H locs (F0 m 0 ls []) → G s.heap locs (F0 m 0 ls []) from fun z => by rw [← eH]; exact z) ?_
  refine gi _ _ _ ?_
  refine lv_iload_n hx hb dX5_letterAt_0 rfl (lv_at hl 1 rfl) ?_
  refine lv_if_lt (tgt := 21) hx hb dX5_letterAt_1 (by decide) (fun hc1 => ?_) (fun hc1 => ?_)
  · have h := ul_if_t hc1 h
    refine lv_bipush (v := -9) hx hb dX5_letterAt_21 (by decide) ?_
    have hr9 := hK0 (-9 : Int32) h
    subst hr9
    exact W.iret (v := (-9 : Int32)) hx hb hr (fun t ht hW => ⟨⟨(-9 : Int32), (), rfl, rfl, by rw [ht]; exact hP, va_K.moved hW.alike hK, hD⟩, hS.F ht⟩) hS.2.2 dX5_letterAt_23
  · have h := ul_if_f hc1 h
    refine lv_iload_n hx hb dX5_letterAt_4 rfl (lv_at hl 1 rfl) ?_
    refine lv_aload_n hx hb dX5_letterAt_5 rfl (lv_at hl 0 rfl) ?_
    refine va_get (D := (dC, dI)) (ci := 5) (v := .int (L 0 0)) (C := RX5) (T := TX5) (N := 2) hx hb hts hin5 hown hK hP 0 rfl rfl 1 (by decide) (hts (.fieldLink RX5 15 "UnderLadders$Text" "length" "I") (by decide +kernel)) (fun _ h9 => h9) rfl dX5_letterAt_6 ?_
    refine lv_icmp_ge (tgt := 21) hx hb dX5_letterAt_9 (by decide) (fun hc2 => ?_) (fun hc2 => ?_)
    · have h := ul_if_t hc2 h
      refine lv_bipush (v := -9) hx hb dX5_letterAt_21 (by decide) ?_
      have hr9 := hK0 (-9 : Int32) h
      subst hr9
      exact W.iret (v := (-9 : Int32)) hx hb hr (fun t ht hW => ⟨⟨(-9 : Int32), (), rfl, rfl, by rw [ht]; exact hP, va_K.moved hW.alike hK, hD⟩, hS.F ht⟩) hS.2.2 dX5_letterAt_23
    · have h := ul_if_f hc2 h
      refine lv_aload_n hx hb dX5_letterAt_12 rfl (lv_at hl 0 rfl) ?_
      refine va_get (D := (dC, dI)) (ci := 5) (v := .ref (aL 1)) (C := RX5) (T := TX5) (N := 2) hx hb hts hin5 hown hK hP 0 rfl rfl 0 (by decide) (hts (.fieldLink RX5 9 "UnderLadders$Text" "letters" "[I") (by decide +kernel)) (fun _ h9 => h9) rfl dX5_letterAt_13 ?_
      refine lv_iload_n hx hb dX5_letterAt_16 rfl (lv_at hl 1 rfl) ?_
      obtain ⟨hi4, h⟩ := ul_ld_h h
      refine va_iald hx hb hK hP 1 0 rfl rfl hi4 dX5_letterAt_17 ?_
      refine lv_topi (fun v3 ev3 => ?_)
      have h := h v3 ev3
      refine lv_goto (tgt := 23) hx hb dX5_letterAt_18 (by decide) ?_
      have hr9 := hK0 v3 h
      subst hr9
      exact W.iret (v := v3) hx hb hr (fun t ht hW => ⟨⟨v3, (), rfl, rfl, by rw [ht]; exact hP, va_K.moved hW.alike hK, hD⟩, hS.F ht⟩) hS.2.2 dX5_letterAt_23
def f_X5_figureAt (L : ul_S) (p1 : Int32) : Option Int32 :=
  (f_X5_letterAt L p1).bind fun u1 => if u1 < (48 : Int32) then (some (-9 : Int32)) else (if (57 : Int32) < u1 then (some (-9 : Int32)) else (some (u1 - (48 : Int32))))
set_option maxHeartbeats 4000000 in
set_option maxRecDepth 100000 in
theorem c_X5_figureAt (l : Launch) (dC : Nat → ClassId) (dI : Nat → Nat → Nat) (cI : ClassId) (aL : Nat → Nat) (sz : Nat) (L : ul_S) (p1 : Int32) (r : Int32) (h : f_X5_figureAt L p1 = some r) : Met l yX5_figureAt wsX5_figureAt ({ frames := 1, cells := 0, slots := 0, locals := 21 }) (va_Pc [.ref (aL 0), .int p1] (ul_pre (dC, dI) [(cI, .int)] ul_NX sz (ul_wL cI aL L))) (va_Qi (fun v (_ : Unit) => v = r) (fun _ => ul_post (dC, dI) [(cI, .int)] (va_A (ul_wL cI aL L) sz) (ul_wL cI aL L)) (va_A (ul_wL cI aL L) sz)) 0 0 (va_A (ul_wL cI aL L) sz) := by
  refine Met.ofW (cc := cX5_figureAt) (maxL := 3) (ret := (some .int)) (by decide) rfl ?_
  intro p e s m args below meth c s₁ B hml hv
  obtain ⟨rfl, hsz, hP, hK, hD0, hN⟩ := hv
  have hx := B.exec
  have hb := B.bytes
  have hr := B.returns
  have hts := atoms_spec (ws := wsX5_figureAt) B.pre
  have hown : s.vm.findClass RX5 = some m.cls := findClass_of_methodNamed B.named
  have hlocks := B.notSynchronized
  subst hsz
  have hD := hD0.self (sz := s.heap.size)
  generalize hAe : va_A (ul_wL cI aL L) s.heap.size = A at hD hN ⊢
  have hA : ∀ q : Nat, s.heap.size ≤ q → A q := fun q h => by rw [← hAe]; exact Or.inr h
  have hS : va_S A s.heap s.heap [] := va_S.rf
  have hl := lv_entry ([.ref (aL 0), .int p1]) (n := 3) (Nat.le_of_ble_eq_true rfl)
  rw [lg_entry_eq]
  generalize (lg_sl ([.ref (aL 0), .int p1]) ++ List.replicate (3 - (lg_sl ([.ref (aL 0), .int p1])).length) Slot.unset).toArray = ls at hl ⊢
  have hl : lv_has ls 3 [(0, .ref (aL 0)), (1, .int p1)] := hl
  obtain ⟨K0, hK0, h⟩ := ul_top h
  unfold f_X5_figureAt at h
  refine ul_gen (fun G gi ge => ?_)
  obtain ⟨H, eH⟩ : ∃ z, z = s.heap := ⟨_, rfl⟩
  obtain ⟨locs, eL⟩ : ∃ z : List Loc, z = [] := ⟨_, rfl⟩
  have hP : va_P (dC, dI) classes (ul_wL cI aL L) H := by rw [eH]; exact hP
  have hS : va_S A s.heap H locs := by rw [eH, eL]; exact hS
  rw [← eL]
  refine (show G H locs (F0 m 0 ls []) → G s.heap locs (F0 m 0 ls []) from fun z => by rw [← eH]; exact z) ?_
  refine gi _ _ _ ?_
  refine lv_aload_n hx hb dX5_figureAt_0 rfl (lv_at hl 0 rfl) ?_
  refine lv_iload_n hx hb dX5_figureAt_1 rfl (lv_at hl 1 rfl) ?_
  obtain ⟨u1, hu1, h⟩ := ul_cl_h h
  refine ul_cVi (As := [.int p1]) (rest := []) (wc' := (ul_wL cI aL L)) (wr := []) hP hD hS hK hA [0, 1] [] [0] ul_NX_ok hN (c_X5_letterAt l dC dI cI aL H.size L p1 u1 hu1) rfl rfl (by decide) rfl (by decide) (by decide) rfl ⟨hx, hb, hml, hown, hts⟩ (cwV 1 hts gX5_figureAt_X5_letterAt rfl rfl rfl (by decide +kernel) ⟨Nat.le_of_ble_eq_true rfl, Nat.le_of_ble_eq_true rfl⟩) (va_recv hK hP (ci := 5) (q0 := 0) rfl rfl) rfl hl.1 rfl (Nat.le_of_ble_eq_true rfl) dX5_figureAt_2 (fun H locs hw => ?_)
  obtain ⟨hP, hD, hS⟩ := hw
  have hP : va_P (dC, dI) classes (ul_wL cI aL L) H := hP
  have hD : va_D A (ul_wL cI aL L) := hD
  refine lv_istore_n (lv' := [(2, .int u1), (0, .ref (aL 0)), (1, .int p1)]) hx hb dX5_figureAt_5 rfl hl (by decide) rfl (fun ls hl => ?_)
  refine lv_iload_n hx hb dX5_figureAt_6 rfl (lv_at hl 0 rfl) ?_
  refine lv_bipush (v := 48) hx hb dX5_figureAt_7 (by decide) ?_
  refine lv_icmp_lt (tgt := 25) hx hb dX5_figureAt_9 (by decide) (fun hc2 => ?_) (fun hc2 => ?_)
  · have h := ul_if_t hc2 h
    refine lv_bipush (v := -9) hx hb dX5_figureAt_25 (by decide) ?_
    have hr9 := hK0 (-9 : Int32) h
    subst hr9
    exact W.iret (v := (-9 : Int32)) hx hb hr (fun t ht hW => ⟨⟨(-9 : Int32), (), rfl, rfl, by rw [ht]; exact hP, va_K.moved hW.alike hK, hD⟩, hS.F ht⟩) hS.2.2 dX5_figureAt_27
  · have h := ul_if_f hc2 h
    refine lv_iload_n hx hb dX5_figureAt_12 rfl (lv_at hl 0 rfl) ?_
    refine lv_bipush (v := 57) hx hb dX5_figureAt_13 (by decide) ?_
    refine lv_icmp_gt (tgt := 25) hx hb dX5_figureAt_15 (by decide) (fun hc3 => ?_) (fun hc3 => ?_)
    · have h := ul_if_t hc3 h
      refine lv_bipush (v := -9) hx hb dX5_figureAt_25 (by decide) ?_
      have hr9 := hK0 (-9 : Int32) h
      subst hr9
      exact W.iret (v := (-9 : Int32)) hx hb hr (fun t ht hW => ⟨⟨(-9 : Int32), (), rfl, rfl, by rw [ht]; exact hP, va_K.moved hW.alike hK, hD⟩, hS.F ht⟩) hS.2.2 dX5_figureAt_27
    · have h := ul_if_f hc3 h
      refine lv_iload_n hx hb dX5_figureAt_18 rfl (lv_at hl 0 rfl) ?_
      refine lv_bipush (v := 48) hx hb dX5_figureAt_19 (by decide) ?_
      refine lv_isub hx hb dX5_figureAt_21 ?_
      refine lv_goto (tgt := 27) hx hb dX5_figureAt_22 (by decide) ?_
      have hr9 := hK0 (u1 - (48 : Int32)) h
      subst hr9
      exact W.iret (v := (u1 - (48 : Int32))) hx hb hr (fun t ht hW => ⟨⟨(u1 - (48 : Int32)), (), rfl, rfl, by rw [ht]; exact hP, va_K.moved hW.alike hK, hD⟩, hS.F ht⟩) hS.2.2 dX5_figureAt_27
def f_X5_add (L : ul_S) (p1 : Int32) : Option (Int32 × ul_S) :=
  if (L 0 0) < (48 : Int32) then (ul_st L 1 48 (L 0 0) p1 fun L2 => ul_bd ((L2 0 0) + (1 : Int32)) fun v4 => ul_bd (ul_up L2 0 0 v4) fun L5 => some ((L5 0 0), L5)) else (some ((-4 : Int32), L))
set_option maxHeartbeats 4000000 in
set_option maxRecDepth 100000 in
theorem c_X5_add (l : Launch) (dC : Nat → ClassId) (dI : Nat → Nat → Nat) (cI : ClassId) (aL : Nat → Nat) (sz : Nat) (L : ul_S) (p1 : Int32) (r : (Int32 × ul_S)) (h : f_X5_add L p1 = some r) : Met l yX5_add wsX5_add ({ frames := 0, cells := 0, slots := 0, locals := 0 }) (va_Pc [.ref (aL 0), .int p1] (ul_pre (dC, dI) [(cI, .int)] ul_NX sz (ul_wL cI aL L))) (va_Qi (fun v (_ : Unit) => v = r.1) (fun _ => ul_post (dC, dI) [(cI, .int)] (va_A (ul_wL cI aL L) sz) (ul_wL cI aL r.2)) (va_A (ul_wL cI aL L) sz)) 0 0 (va_A (ul_wL cI aL L) sz) := by
  refine Met.ofW (cc := cX5_add) (maxL := 2) (ret := (some .int)) (by decide) rfl ?_
  intro p e s m args below meth c s₁ B hml hv
  obtain ⟨rfl, hsz, hP, hK, hD0, hN⟩ := hv
  have hx := B.exec
  have hb := B.bytes
  have hr := B.returns
  have hts := atoms_spec (ws := wsX5_add) B.pre
  have hown : s.vm.findClass RX5 = some m.cls := findClass_of_methodNamed B.named
  have hlocks := B.notSynchronized
  have hin5 : ∀ w ∈ u_ws RX5 TX5 2, w ∈ wsX5_add := by decide +kernel
  subst hsz
  have hD := hD0.self (sz := s.heap.size)
  generalize hAe : va_A (ul_wL cI aL L) s.heap.size = A at hD hN ⊢
  have hA : ∀ q : Nat, s.heap.size ≤ q → A q := fun q h => by rw [← hAe]; exact Or.inr h
  have hS : va_S A s.heap s.heap [] := va_S.rf
  have hl := lv_entry ([.ref (aL 0), .int p1]) (n := 2) (Nat.le_of_ble_eq_true rfl)
  rw [lg_entry_eq]
  generalize (lg_sl ([.ref (aL 0), .int p1]) ++ List.replicate (2 - (lg_sl ([.ref (aL 0), .int p1])).length) Slot.unset).toArray = ls at hl ⊢
  have hl : lv_has ls 2 [(0, .ref (aL 0)), (1, .int p1)] := hl
  obtain ⟨K0, hK0, h⟩ := ul_top h
  unfold f_X5_add at h
  refine ul_gen (fun G gi ge => ?_)
  obtain ⟨H, eH⟩ : ∃ z, z = s.heap := ⟨_, rfl⟩
  obtain ⟨locs, eL⟩ : ∃ z : List Loc, z = [] := ⟨_, rfl⟩
  have hP : va_P (dC, dI) classes (ul_wL cI aL L) H := by rw [eH]; exact hP
  have hS : va_S A s.heap H locs := by rw [eH, eL]; exact hS
  rw [← eL]
  refine (show G H locs (F0 m 0 ls []) → G s.heap locs (F0 m 0 ls []) from fun z => by rw [← eH]; exact z) ?_
  refine gi _ _ _ ?_
  refine lv_aload_n hx hb dX5_add_0 rfl (lv_at hl 0 rfl) ?_
  refine va_get (D := (dC, dI)) (ci := 5) (v := .int (L 0 0)) (C := RX5) (T := TX5) (N := 2) hx hb hts hin5 hown hK hP 0 rfl rfl 1 (by decide) (hts (.fieldLink RX5 15 "UnderLadders$Text" "length" "I") (by decide +kernel)) (fun _ h9 => h9) rfl dX5_add_1 ?_
  refine lv_bipush (v := 48) hx hb dX5_add_4 (by decide) ?_
  refine lv_icmp_lt (tgt := 12) hx hb dX5_add_6 (by decide) (fun hc1 => ?_) (fun hc1 => ?_)
  · have h := ul_if_t hc1 h
    refine lv_aload_n hx hb dX5_add_12 rfl (lv_at hl 0 rfl) ?_
    refine va_get (D := (dC, dI)) (ci := 5) (v := .ref (aL 1)) (C := RX5) (T := TX5) (N := 2) hx hb hts hin5 hown hK hP 0 rfl rfl 0 (by decide) (hts (.fieldLink RX5 9 "UnderLadders$Text" "letters" "[I") (by decide +kernel)) (fun _ h9 => h9) rfl dX5_add_13 ?_
    refine lv_aload_n hx hb dX5_add_16 rfl (lv_at hl 0 rfl) ?_
    refine va_get (D := (dC, dI)) (ci := 5) (v := .int (L 0 0)) (C := RX5) (T := TX5) (N := 2) hx hb hts hin5 hown hK hP 0 rfl rfl 1 (by decide) (hts (.fieldLink RX5 15 "UnderLadders$Text" "length" "I") (by decide +kernel)) (fun _ h9 => h9) rfl dX5_add_17 ?_
    refine lv_iload_n hx hb dX5_add_20 rfl (lv_at hl 1 rfl) ?_
    obtain ⟨hi3, h⟩ := ul_st_h h
    refine va_iast hx hb hK hP hD hS 1 0 rfl rfl hi3 dX5_add_21 (fun H locs hP hD hS => ?_)
    obtain ⟨L2, eL2⟩ : ∃ z : ul_S, z = ul_up L 1 (L 0 0).toNatClampNeg p1 := ⟨_, rfl⟩
    have h := h L2 eL2
    have hP : va_P (dC, dI) classes (ul_wL cI aL L2) H := by rw [eL2]; exact hP
    have hD : va_D A (ul_wL cI aL L2) := by rw [eL2]; exact hD
    refine lv_aload_n hx hb dX5_add_22 rfl (lv_at hl 0 rfl) ?_
    refine lv_dup hx hb dX5_add_23 rfl ?_
    refine va_get (D := (dC, dI)) (ci := 5) (v := .int (L2 0 0)) (C := RX5) (T := TX5) (N := 2) hx hb hts hin5 hown hK hP 0 rfl rfl 1 (by decide) (hts (.fieldLink RX5 15 "UnderLadders$Text" "length" "I") (by decide +kernel)) (fun _ h9 => h9) rfl dX5_add_24 ?_
    refine lv_iconst (v := 1) hx hb dX5_add_27 (by decide) ?_
    refine lv_iadd hx hb dX5_add_28 ?_
    refine lv_topi (fun v4 ev4 => ?_)
    have h := ul_bd_h h v4 ev4
    refine va_put (D := (dC, dI)) (ci := 5) (v := .int v4) (ty := .int) (C := RX5) (T := TX5) (N := 2) hx hb hts hin5 tyX5 tyX5_ok nmX5 hown hK hP hD hS 0 rfl rfl 1 (by decide) (hts (.fieldLink RX5 15 "UnderLadders$Text" "length" "I") (by decide +kernel)) (fun _ h9 => h9) rfl (by decide +kernel) rfl rfl (Nat.le_of_ble_eq_true rfl) dX5_add_29 (fun H locs hP hD hS => ?_)
    obtain ⟨L5, eL5⟩ : ∃ z : ul_S, z = ul_up L2 0 0 v4 := ⟨_, rfl⟩
    have h := ul_bd_h h L5 eL5
    have hP : va_P (dC, dI) classes (ul_wL cI aL L5) H := by rw [eL5]; exact hP
    have hD : va_D A (ul_wL cI aL L5) := by rw [eL5]; exact hD
    refine lv_aload_n hx hb dX5_add_32 rfl (lv_at hl 0 rfl) ?_
    refine va_get (D := (dC, dI)) (ci := 5) (v := .int (L5 0 0)) (C := RX5) (T := TX5) (N := 2) hx hb hts hin5 hown hK hP 0 rfl rfl 1 (by decide) (hts (.fieldLink RX5 15 "UnderLadders$Text" "length" "I") (by decide +kernel)) (fun _ h9 => h9) rfl dX5_add_33 ?_
    have hr9 := hK0 ((L5 0 0), L5) h
    subst hr9
    exact W.iret (v := (L5 0 0)) hx hb hr (fun t ht hW => ⟨⟨(L5 0 0), (), rfl, rfl, by rw [ht]; exact hP, va_K.moved hW.alike hK, hD⟩, hS.F ht⟩) hS.2.2 dX5_add_36
  · have h := ul_if_f hc1 h
    refine lv_bipush (v := -4) hx hb dX5_add_9 (by decide) ?_
    have hr9 := hK0 ((-4 : Int32), L) h
    subst hr9
    exact W.iret (v := (-4 : Int32)) hx hb hr (fun t ht hW => ⟨⟨(-4 : Int32), (), rfl, rfl, by rw [ht]; exact hP, va_K.moved hW.alike hK, hD⟩, hS.F ht⟩) hS.2.2 dX5_add_11
def f_X5_clear (L : ul_S) : Option (Int32 × ul_S) :=
  ul_bd (L 0 0) fun v1 => ul_bd (ul_up L 0 0 (0 : Int32)) fun L2 => some (v1, L2)
set_option maxHeartbeats 4000000 in
set_option maxRecDepth 100000 in
theorem c_X5_clear (l : Launch) (dC : Nat → ClassId) (dI : Nat → Nat → Nat) (cI : ClassId) (aL : Nat → Nat) (sz : Nat) (L : ul_S) (r : (Int32 × ul_S)) (h : f_X5_clear L = some r) : Met l yX5_clear wsX5_clear ({ frames := 0, cells := 0, slots := 0, locals := 0 }) (va_Pc [.ref (aL 0)] (ul_pre (dC, dI) [(cI, .int)] ul_NX sz (ul_wL cI aL L))) (va_Qi (fun v (_ : Unit) => v = r.1) (fun _ => ul_post (dC, dI) [(cI, .int)] (va_A (ul_wL cI aL L) sz) (ul_wL cI aL r.2)) (va_A (ul_wL cI aL L) sz)) 0 0 (va_A (ul_wL cI aL L) sz) := by
  refine Met.ofW (cc := cX5_clear) (maxL := 2) (ret := (some .int)) (by decide) rfl ?_
  intro p e s m args below meth c s₁ B hml hv
  obtain ⟨rfl, hsz, hP, hK, hD0, hN⟩ := hv
  have hx := B.exec
  have hb := B.bytes
  have hr := B.returns
  have hts := atoms_spec (ws := wsX5_clear) B.pre
  have hown : s.vm.findClass RX5 = some m.cls := findClass_of_methodNamed B.named
  have hlocks := B.notSynchronized
  have hin5 : ∀ w ∈ u_ws RX5 TX5 2, w ∈ wsX5_clear := by decide +kernel
  subst hsz
  have hD := hD0.self (sz := s.heap.size)
  generalize hAe : va_A (ul_wL cI aL L) s.heap.size = A at hD hN ⊢
  have hA : ∀ q : Nat, s.heap.size ≤ q → A q := fun q h => by rw [← hAe]; exact Or.inr h
  have hS : va_S A s.heap s.heap [] := va_S.rf
  have hl := lv_entry ([.ref (aL 0)]) (n := 2) (Nat.le_of_ble_eq_true rfl)
  rw [lg_entry_eq]
  generalize (lg_sl ([.ref (aL 0)]) ++ List.replicate (2 - (lg_sl ([.ref (aL 0)])).length) Slot.unset).toArray = ls at hl ⊢
  have hl : lv_has ls 2 [(0, .ref (aL 0))] := hl
  obtain ⟨K0, hK0, h⟩ := ul_top h
  unfold f_X5_clear at h
  refine ul_gen (fun G gi ge => ?_)
  obtain ⟨H, eH⟩ : ∃ z, z = s.heap := ⟨_, rfl⟩
  obtain ⟨locs, eL⟩ : ∃ z : List Loc, z = [] := ⟨_, rfl⟩
  have hP : va_P (dC, dI) classes (ul_wL cI aL L) H := by rw [eH]; exact hP
  have hS : va_S A s.heap H locs := by rw [eH, eL]; exact hS
  rw [← eL]
  refine (show G H locs (F0 m 0 ls []) → G s.heap locs (F0 m 0 ls []) from fun z => by rw [← eH]; exact z) ?_
  refine gi _ _ _ ?_
  refine lv_aload_n hx hb dX5_clear_0 rfl (lv_at hl 0 rfl) ?_
  refine va_get (D := (dC, dI)) (ci := 5) (v := .int (L 0 0)) (C := RX5) (T := TX5) (N := 2) hx hb hts hin5 hown hK hP 0 rfl rfl 1 (by decide) (hts (.fieldLink RX5 15 "UnderLadders$Text" "length" "I") (by decide +kernel)) (fun _ h9 => h9) rfl dX5_clear_1 ?_
  refine lv_topi (fun v1 ev1 => ?_)
  have h := ul_bd_h h v1 ev1
  refine lv_istore_n (lv' := [(1, .int v1), (0, .ref (aL 0))]) hx hb dX5_clear_4 rfl hl (by decide) rfl (fun ls hl => ?_)
  refine lv_aload_n hx hb dX5_clear_5 rfl (lv_at hl 1 rfl) ?_
  refine lv_iconst (v := 0) hx hb dX5_clear_6 (by decide) ?_
  refine va_put (D := (dC, dI)) (ci := 5) (v := .int (0 : Int32)) (ty := .int) (C := RX5) (T := TX5) (N := 2) hx hb hts hin5 tyX5 tyX5_ok nmX5 hown hK hP hD hS 0 rfl rfl 1 (by decide) (hts (.fieldLink RX5 15 "UnderLadders$Text" "length" "I") (by decide +kernel)) (fun _ h9 => h9) rfl (by decide +kernel) rfl rfl (Nat.le_of_ble_eq_true rfl) dX5_clear_7 (fun H locs hP hD hS => ?_)
  obtain ⟨L2, eL2⟩ : ∃ z : ul_S, z = ul_up L 0 0 (0 : Int32) := ⟨_, rfl⟩
  have h := ul_bd_h h L2 eL2
  have hP : va_P (dC, dI) classes (ul_wL cI aL L2) H := by rw [eL2]; exact hP
  have hD : va_D A (ul_wL cI aL L2) := by rw [eL2]; exact hD
  refine lv_iload_n hx hb dX5_clear_10 rfl (lv_at hl 0 rfl) ?_
  have hr9 := hK0 (v1, L2) h
  subst hr9
  exact W.iret (v := v1) hx hb hr (fun t ht hW => ⟨⟨v1, (), rfl, rfl, by rw [ht]; exact hP, va_K.moved hW.alike hK, hD⟩, hS.F ht⟩) hS.2.2 dX5_clear_11
