def f_X0_clear (J : ul_S) : Option ul_S :=
  ul_bd (ul_up J 0 1 (0 : Int32)) fun J1 => some J1
set_option maxHeartbeats 4000000 in
set_option maxRecDepth 100000 in
theorem c_X0_clear (l : Launch) (dC : Nat → ClassId) (dI : Nat → Nat → Nat) (cO : ClassId) (aJ : Nat → Nat) (aB : Nat → Nat → Nat) (sz : Nat) (J : ul_S) (r : ul_S) (h : f_X0_clear J = some r) : Met l yX0_clear wsX0_clear ({ frames := 0, cells := 0, slots := 0, locals := 0 }) (va_Pc [.ref (aJ 0)] (ul_pre (dC, dI) [(cO, .object RX4)] ul_NX sz (ul_wJ cO aJ aB J))) (va_Qv (fun (_ : Unit) => True) (fun _ => ul_post (dC, dI) [(cO, .object RX4)] (va_A (ul_wJ cO aJ aB J) sz) (ul_wJ cO aJ aB r)) (va_A (ul_wJ cO aJ aB J) sz)) 0 0 (va_A (ul_wJ cO aJ aB J) sz) := by
  refine Met.ofW (cc := cX0_clear) (maxL := 1) (ret := none) (by decide) rfl ?_
  intro p e s m args below meth c s₁ BB hml hv
  obtain ⟨rfl, hsz, hP, hK, hD0, hN⟩ := hv
  have hx := BB.exec
  have hb := BB.bytes
  have hr := BB.returns
  have hts := atoms_spec (ws := wsX0_clear) BB.pre
  have hown : s.vm.findClass RX0 = some m.cls := findClass_of_methodNamed BB.named
  have hlocks := BB.notSynchronized
  have hin0 : ∀ w ∈ u_ws RX0 TX0 3, w ∈ wsX0_clear := by decide +kernel
  subst hsz
  have hD := hD0.self (sz := s.heap.size)
  generalize hAe : va_A (ul_wJ cO aJ aB J) s.heap.size = A at hD hN ⊢
  have hA : ∀ q : Nat, s.heap.size ≤ q → A q := fun q h => by rw [← hAe]; exact Or.inr h
  have hS : va_S A s.heap s.heap [] := va_S.rf
  have hl := lv_entry ([.ref (aJ 0)]) (n := 1) (Nat.le_of_ble_eq_true rfl)
  rw [lg_entry_eq]
  generalize (lg_sl ([.ref (aJ 0)]) ++ List.replicate (1 - (lg_sl ([.ref (aJ 0)])).length) Slot.unset).toArray = ls at hl ⊢
  have hl : lv_has ls 1 [(0, .ref (aJ 0))] := hl
  obtain ⟨K0, hK0, h⟩ := ul_top h
  unfold f_X0_clear at h
  refine ul_gen (fun G gi ge => ?_)
  obtain ⟨H, eH⟩ : ∃ z, z = s.heap := ⟨_, rfl⟩
  obtain ⟨locs, eL⟩ : ∃ z : List Loc, z = [] := ⟨_, rfl⟩
  have hP : va_P (dC, dI) classes (ul_wJ cO aJ aB J) H := by rw [eH]; exact hP
  have hS : va_S A s.heap H locs := by rw [eH, eL]; exact hS
  rw [← eL]
  refine (show G H locs (F0 m 0 ls []) → G s.heap locs (F0 m 0 ls []) from fun z => by rw [← eH]; exact z) ?_
  refine gi _ _ _ ?_
  refine lv_aload_n hx hb dX0_clear_0 rfl (lv_at hl 0 rfl) ?_
  refine lv_iconst (v := 0) hx hb dX0_clear_1 (by decide) ?_
  refine va_put (D := (dC, dI)) (ci := 0) (v := .int (0 : Int32)) (ty := .int) (C := RX0) (T := TX0) (N := 3) hx hb hts hin0 tyX0 tyX0_ok nmX0 hown hK hP hD hS 0 rfl rfl 2 (by decide) (hts (.fieldLink RX0 20 "UnderLadders$Acts" "size" "I") (by decide +kernel)) (fun _ h9 => h9) rfl (by decide +kernel) rfl rfl (Nat.le_of_ble_eq_true rfl) dX0_clear_2 (fun H locs hP hD hS => ?_)
  obtain ⟨J1, eJ1⟩ : ∃ z : ul_S, z = ul_up J 0 1 (0 : Int32) := ⟨_, rfl⟩
  have h := ul_bd_h h J1 eJ1
  have hP : va_P (dC, dI) classes (ul_wJ cO aJ aB J1) H := by rw [eJ1]; exact hP
  have hD : va_D A (ul_wJ cO aJ aB J1) := by rw [eJ1]; exact hD
  have hr9 := hK0 J1 h
  subst hr9
  exact W.vret hx hb hr (fun t ht hW => ⟨⟨(), rfl, trivial, by rw [ht]; exact hP, va_K.moved hW.alike hK, hD⟩, hS.F ht⟩) hS.2.2 dX0_clear_5
def f_X0_remember_j35 (O : ul_S) (t1 : Int32) (J__35 : ul_S) (B__35 : ul_F) : Option (ul_S × ul_F) :=
  ul_bd (ul_up J__35 0 0 t1) fun J1 => if (14 : Int32) ≤ (J1 0 1) then (some (J1, B__35)) else (ul_bd ((J1 0 1) + (1 : Int32)) fun v3 => ul_bd (ul_up J1 0 1 v3) fun J4 => some (J4, B__35))
def f_X0_remember (J : ul_S) (O : ul_S) (B : ul_F) : Option (ul_S × ul_F) :=
  ul_ck 14 (J 0 0) fun j9 => (f_X4_setTo (B j9) O).bind fun u11 => ul_bd (va_up B j9 u11) fun B12 => if (14 : Int32) ≤ ((J 0 0) + (1 : Int32)) then (f_X0_remember_j35 O (0 : Int32) J B12) else (f_X0_remember_j35 O ((J 0 0) + (1 : Int32)) J B12)
set_option maxHeartbeats 4000000 in
set_option maxRecDepth 100000 in
theorem c_X0_remember (l : Launch) (dC : Nat → ClassId) (dI : Nat → Nat → Nat) (cI : ClassId) (cO : ClassId) (aJ : Nat → Nat) (aO : Nat → Nat) (aB : Nat → Nat → Nat) (aK : Nat → Nat) (sz : Nat) (J : ul_S) (O : ul_S) (B : ul_F) (r : (ul_S × ul_F)) (h : f_X0_remember J O B = some r) : Met l yX0_remember wsX0_remember ({ frames := 2, cells := 0, slots := 0, locals := 61 }) (va_Pc [.ref (aJ 0), .ref (aO 0)] (ul_pre (dC, dI) [(cI, .int), (cO, .object RX4)] ul_NX sz ([ul_wJ cO aJ aB J, ul_wS cI aO (aK 0) O, ul_wB cI aB (aK 0) 14 B] : List va_W).flatten)) (va_Qv (fun (_ : Unit) => True) (fun _ => ul_post (dC, dI) [(cI, .int), (cO, .object RX4)] (va_A ([ul_wJ cO aJ aB J, ul_wS cI aO (aK 0) O, ul_wB cI aB (aK 0) 14 B] : List va_W).flatten sz) ([ul_wJ cO aJ aB r.1, ul_wS cI aO (aK 0) O, ul_wB cI aB (aK 0) 14 r.2] : List va_W).flatten) (va_A ([ul_wJ cO aJ aB J, ul_wS cI aO (aK 0) O, ul_wB cI aB (aK 0) 14 B] : List va_W).flatten sz)) 0 0 (va_A ([ul_wJ cO aJ aB J, ul_wS cI aO (aK 0) O, ul_wB cI aB (aK 0) 14 B] : List va_W).flatten sz) := by
  refine Met.ofW (cc := cX0_remember) (maxL := 2) (ret := none) (by decide) rfl ?_
  intro p e s m args below meth c s₁ BB hml hv
  obtain ⟨rfl, hsz, hP, hK, hD0, hN⟩ := hv
  have hx := BB.exec
  have hb := BB.bytes
  have hr := BB.returns
  have hts := atoms_spec (ws := wsX0_remember) BB.pre
  have hown : s.vm.findClass RX0 = some m.cls := findClass_of_methodNamed BB.named
  have hlocks := BB.notSynchronized
  have hin0 : ∀ w ∈ u_ws RX0 TX0 3, w ∈ wsX0_remember := by decide +kernel
  subst hsz
  have hD := hD0.self (sz := s.heap.size)
  generalize hAe : va_A ([ul_wJ cO aJ aB J, ul_wS cI aO (aK 0) O, ul_wB cI aB (aK 0) 14 B] : List va_W).flatten s.heap.size = A at hD hN ⊢
  have hA : ∀ q : Nat, s.heap.size ≤ q → A q := fun q h => by rw [← hAe]; exact Or.inr h
  have hS : va_S A s.heap s.heap [] := va_S.rf
  have hl := lv_entry ([.ref (aJ 0), .ref (aO 0)]) (n := 2) (Nat.le_of_ble_eq_true rfl)
  rw [lg_entry_eq]
  generalize (lg_sl ([.ref (aJ 0), .ref (aO 0)]) ++ List.replicate (2 - (lg_sl ([.ref (aJ 0), .ref (aO 0)])).length) Slot.unset).toArray = ls at hl ⊢
  have hl : lv_has ls 2 [(0, .ref (aJ 0)), (1, .ref (aO 0))] := hl
  obtain ⟨K0, hK0, h⟩ := ul_top h
  unfold f_X0_remember at h
  refine ul_gen (fun G gi ge => ?_)
  obtain ⟨H, eH⟩ : ∃ z, z = s.heap := ⟨_, rfl⟩
  obtain ⟨locs, eL⟩ : ∃ z : List Loc, z = [] := ⟨_, rfl⟩
  have hP : va_P (dC, dI) classes ([ul_wJ cO aJ aB J, ul_wS cI aO (aK 0) O, ul_wB cI aB (aK 0) 14 B] : List va_W).flatten H := by rw [eH]; exact hP
  have hS : va_S A s.heap H locs := by rw [eH, eL]; exact hS
  rw [← eL]
  refine (show G H locs (F0 m 0 ls []) → G s.heap locs (F0 m 0 ls []) from fun z => by rw [← eH]; exact z) ?_
  have J35 : ∀ (t1 : Int32) (J__35 : ul_S) (B__35 : ul_F) (H : Heap) (locs : List Loc), ul_H (dC, dI) A s.heap ([ul_wJ cO aJ aB J__35, ul_wS cI aO (aK 0) O, ul_wB cI aB (aK 0) 14 B__35] : List va_W).flatten H locs → ∀ ls : Array Slot, lv_has ls 2 [(0, .ref (aJ 0)), (1, .ref (aO 0))] → (f_X0_remember_j35 O t1 J__35 B__35).bind K0 = some r → G H locs (F0 m 35 ls [.int t1, .ref (aJ 0)]) := by
    intro t1 J__35 B__35 H locs hw ls hl h
    obtain ⟨hP, hD, hS⟩ := hw
    unfold f_X0_remember_j35 at h
    refine gi _ _ _ ?_
    refine va_put (D := (dC, dI)) (ci := 0) (v := .int t1) (ty := .int) (C := RX0) (T := TX0) (N := 3) hx hb hts hin0 tyX0 tyX0_ok nmX0 hown hK hP hD hS 0 rfl rfl 1 (by decide) (hts (.fieldLink RX0 24 "UnderLadders$Acts" "next" "I") (by decide +kernel)) (fun _ h9 => h9) rfl (by decide +kernel) rfl rfl (Nat.le_of_ble_eq_true rfl) dX0_remember_35 (fun H locs hP hD hS => ?_)
    obtain ⟨J5, eJ5⟩ : ∃ z : ul_S, z = ul_up J__35 0 0 t1 := ⟨_, rfl⟩
    have h := ul_bd_h h J5 eJ5
    have hP : va_P (dC, dI) classes ([ul_wJ cO aJ aB J5, ul_wS cI aO (aK 0) O, ul_wB cI aB (aK 0) 14 B__35] : List va_W).flatten H := by rw [eJ5]; exact hP
    have hD : va_D A ([ul_wJ cO aJ aB J5, ul_wS cI aO (aK 0) O, ul_wB cI aB (aK 0) 14 B__35] : List va_W).flatten := by rw [eJ5]; exact hD
    refine lv_aload_n hx hb dX0_remember_38 rfl (lv_at hl 0 rfl) ?_
    refine va_get (D := (dC, dI)) (ci := 0) (v := .int (J5 0 1)) (C := RX0) (T := TX0) (N := 3) hx hb hts hin0 hown hK hP 0 rfl rfl 2 (by decide) (hts (.fieldLink RX0 20 "UnderLadders$Acts" "size" "I") (by decide +kernel)) (fun _ h9 => h9) rfl dX0_remember_39 ?_
    refine lv_bipush (v := 14) hx hb dX0_remember_42 (by decide) ?_
    refine lv_icmp_ge (tgt := 57) hx hb dX0_remember_44 (by decide) (fun hc6 => ?_) (fun hc6 => ?_)
    · have h := ul_if_t hc6 h
      have hr9 := hK0 (J5, B__35) h
      subst hr9
      exact W.vret hx hb hr (fun t ht hW => ⟨⟨(), rfl, trivial, by rw [ht]; exact hP, va_K.moved hW.alike hK, hD⟩, hS.F ht⟩) hS.2.2 dX0_remember_57
    · have h := ul_if_f hc6 h
      refine lv_aload_n hx hb dX0_remember_47 rfl (lv_at hl 0 rfl) ?_
      refine lv_dup hx hb dX0_remember_48 rfl ?_
      refine va_get (D := (dC, dI)) (ci := 0) (v := .int (J5 0 1)) (C := RX0) (T := TX0) (N := 3) hx hb hts hin0 hown hK hP 0 rfl rfl 2 (by decide) (hts (.fieldLink RX0 20 "UnderLadders$Acts" "size" "I") (by decide +kernel)) (fun _ h9 => h9) rfl dX0_remember_49 ?_
      refine lv_iconst (v := 1) hx hb dX0_remember_52 (by decide) ?_
      refine lv_iadd hx hb dX0_remember_53 ?_
      refine lv_topi (fun v7 ev7 => ?_)
      have h := ul_bd_h h v7 ev7
      refine va_put (D := (dC, dI)) (ci := 0) (v := .int v7) (ty := .int) (C := RX0) (T := TX0) (N := 3) hx hb hts hin0 tyX0 tyX0_ok nmX0 hown hK hP hD hS 0 rfl rfl 2 (by decide) (hts (.fieldLink RX0 20 "UnderLadders$Acts" "size" "I") (by decide +kernel)) (fun _ h9 => h9) rfl (by decide +kernel) rfl rfl (Nat.le_of_ble_eq_true rfl) dX0_remember_54 (fun H locs hP hD hS => ?_)
      obtain ⟨J8, eJ8⟩ : ∃ z : ul_S, z = ul_up J5 0 1 v7 := ⟨_, rfl⟩
      have h := ul_bd_h h J8 eJ8
      have hP : va_P (dC, dI) classes ([ul_wJ cO aJ aB J8, ul_wS cI aO (aK 0) O, ul_wB cI aB (aK 0) 14 B__35] : List va_W).flatten H := by rw [eJ8]; exact hP
      have hD : va_D A ([ul_wJ cO aJ aB J8, ul_wS cI aO (aK 0) O, ul_wB cI aB (aK 0) 14 B__35] : List va_W).flatten := by rw [eJ8]; exact hD
      have hr9 := hK0 (J8, B__35) h
      subst hr9
      exact W.vret hx hb hr (fun t ht hW => ⟨⟨(), rfl, trivial, by rw [ht]; exact hP, va_K.moved hW.alike hK, hD⟩, hS.F ht⟩) hS.2.2 dX0_remember_57
  refine gi _ _ _ ?_
  refine lv_aload_n hx hb dX0_remember_0 rfl (lv_at hl 0 rfl) ?_
  refine va_get (D := (dC, dI)) (ci := 0) (v := .ref (aJ 1)) (C := RX0) (T := TX0) (N := 3) hx hb hts hin0 hown hK hP 0 rfl rfl 0 (by decide) (hts (.fieldLink RX0 11 "UnderLadders$Acts" "before" "[LUnderLadders$Street;") (by decide +kernel)) (fun _ h9 => h9) rfl dX0_remember_1 ?_
  refine lv_aload_n hx hb dX0_remember_4 rfl (lv_at hl 0 rfl) ?_
  refine va_get (D := (dC, dI)) (ci := 0) (v := .int (J 0 0)) (C := RX0) (T := TX0) (N := 3) hx hb hts hin0 hown hK hP 0 rfl rfl 1 (by decide) (hts (.fieldLink RX0 24 "UnderLadders$Acts" "next" "I") (by decide +kernel)) (fun _ h9 => h9) rfl dX0_remember_5 ?_
  obtain ⟨hi10, h⟩ := ul_ck_h h
  refine ul_aald hx hb hK hP 1 1 rfl rfl hi10 dX0_remember_8 (fun j9 ej9 hj9 => ?_)
  have h := h j9 ej9
  refine lv_aload_n hx hb dX0_remember_9 rfl (lv_at hl 1 rfl) ?_
  have hw := ul_H.pm ⟨hP, hD, hS⟩ (ul_spl [ul_wJ cO aJ aB J, ul_wS cI aO (aK 0) O] [] (ul_wB_sp hj9))
  obtain ⟨hP, hD, hS⟩ := hw
  have hP : va_P (dC, dI) classes ([ul_wJ cO aJ aB J, ul_wS cI aO (aK 0) O, ul_wS cI (aB j9) (aK 0) (B j9), ul_wX cI aB (aK 0) 14 j9 B] : List va_W).flatten H := hP
  have hD : va_D A ([ul_wJ cO aJ aB J, ul_wS cI aO (aK 0) O, ul_wS cI (aB j9) (aK 0) (B j9), ul_wX cI aB (aK 0) 14 j9 B] : List va_W).flatten := hD
  obtain ⟨u11, hu11, h⟩ := ul_cl_h h
  refine ul_cPv (As := [.ref (aO 0)]) (rest := []) (wc := (ul_wS cI (aB j9) (aK 0) (B j9) ++ ul_wS cI aO (aK 0) O)) (wc' := (ul_wS cI (aB j9) (aK 0) u11 ++ ul_wS cI aO (aK 0) O)) (wr := ([ul_wJ cO aJ aB J, ul_wX cI aB (aK 0) 14 j9 B] : List va_W).flatten) hP hD hS hK hA [0] ul_NX_ok hN (c_X4_setTo l dC dI cI (aB j9) aO aK H.size (B j9) O u11 hu11) (ul_pmq (bs := [ul_wJ cO aJ aB J, ul_wS cI aO (aK 0) O, ul_wS cI (aB j9) (aK 0) (B j9), ul_wX cI aB (aK 0) 14 j9 B]) [2, 1, 0, 3] (by show List.Perm _ (List.range 4); decide) (by simp only [List.map_cons, List.map_nil, List.getD_cons_zero, List.getD_cons_succ, List.flatten_cons, List.flatten_nil, List.append_nil, List.nil_append, List.append_assoc])) rfl ⟨hx, hb, hml, hown, hts⟩ (cwV 1 hts gX0_remember_X4_setTo rfl rfl rfl (by decide +kernel) ⟨Nat.le_of_ble_eq_true rfl, Nat.le_of_ble_eq_true rfl⟩) (va_recv hK hP (ci := 4) (q0 := 9) rfl rfl) rfl hl.1 rfl (Nat.le_of_ble_eq_true rfl) dX0_remember_10 (fun H locs hw => ?_)
  have hw := hw.pm (ul_pmq (bs := [ul_wJ cO aJ aB J, ul_wS cI aO (aK 0) O, ul_wS cI (aB j9) (aK 0) u11, ul_wX cI aB (aK 0) 14 j9 B]) [0, 3, 2, 1] (by show List.Perm _ (List.range 4); decide) (by simp only [List.map_cons, List.map_nil, List.getD_cons_zero, List.getD_cons_succ, List.flatten_cons, List.flatten_nil, List.append_nil, List.nil_append, List.append_assoc])).symm
  obtain ⟨hP, hD, hS⟩ := hw
  have hw := ul_H.pm ⟨hP, hD, hS⟩ (ul_spl [ul_wJ cO aJ aB J, ul_wS cI aO (aK 0) O] [] (ul_wB_fd hj9)).symm
  obtain ⟨hP, hD, hS⟩ := hw
  have hP : va_P (dC, dI) classes ([ul_wJ cO aJ aB J, ul_wS cI aO (aK 0) O, ul_wB cI aB (aK 0) 14 (va_up B j9 u11)] : List va_W).flatten H := hP
  have hD : va_D A ([ul_wJ cO aJ aB J, ul_wS cI aO (aK 0) O, ul_wB cI aB (aK 0) 14 (va_up B j9 u11)] : List va_W).flatten := hD
  obtain ⟨B12, eB12⟩ : ∃ z : ul_F, z = va_up B j9 u11 := ⟨_, rfl⟩
  have h := ul_bd_h h B12 eB12
  have hP : va_P (dC, dI) classes ([ul_wJ cO aJ aB J, ul_wS cI aO (aK 0) O, ul_wB cI aB (aK 0) 14 B12] : List va_W).flatten H := by rw [eB12]; exact hP
  have hD : va_D A ([ul_wJ cO aJ aB J, ul_wS cI aO (aK 0) O, ul_wB cI aB (aK 0) 14 B12] : List va_W).flatten := by rw [eB12]; exact hD
  have hP : va_P (dC, dI) classes ([ul_wJ cO aJ aB J, ul_wS cI aO (aK 0) O, ul_wB cI aB (aK 0) 14 B12] : List va_W).flatten H := hP
  have hD : va_D A ([ul_wJ cO aJ aB J, ul_wS cI aO (aK 0) O, ul_wB cI aB (aK 0) 14 B12] : List va_W).flatten := hD
  refine lv_aload_n hx hb dX0_remember_13 rfl (lv_at hl 0 rfl) ?_
  refine lv_aload_n hx hb dX0_remember_14 rfl (lv_at hl 0 rfl) ?_
  refine va_get (D := (dC, dI)) (ci := 0) (v := .int (J 0 0)) (C := RX0) (T := TX0) (N := 3) hx hb hts hin0 hown hK hP 0 rfl rfl 1 (by decide) (hts (.fieldLink RX0 24 "UnderLadders$Acts" "next" "I") (by decide +kernel)) (fun _ h9 => h9) rfl dX0_remember_15 ?_
  refine lv_iconst (v := 1) hx hb dX0_remember_18 (by decide) ?_
  refine lv_iadd hx hb dX0_remember_19 ?_
  refine lv_bipush (v := 14) hx hb dX0_remember_20 (by decide) ?_
  refine lv_icmp_ge (tgt := 34) hx hb dX0_remember_22 (by decide) (fun hc13 => ?_) (fun hc13 => ?_)
  · have h := ul_if_t hc13 h
    refine lv_iconst (v := 0) hx hb dX0_remember_34 (by decide) ?_
    exact ge _ _ _ (J35 (0 : Int32) J B12 H locs ⟨hP, hD, hS⟩ ls (lv_sub hl [0, 1] rfl) h)
  · have h := ul_if_f hc13 h
    refine lv_aload_n hx hb dX0_remember_25 rfl (lv_at hl 0 rfl) ?_
    refine va_get (D := (dC, dI)) (ci := 0) (v := .int (J 0 0)) (C := RX0) (T := TX0) (N := 3) hx hb hts hin0 hown hK hP 0 rfl rfl 1 (by decide) (hts (.fieldLink RX0 24 "UnderLadders$Acts" "next" "I") (by decide +kernel)) (fun _ h9 => h9) rfl dX0_remember_26 ?_
    refine lv_iconst (v := 1) hx hb dX0_remember_29 (by decide) ?_
    refine lv_iadd hx hb dX0_remember_30 ?_
    refine lv_goto (tgt := 35) hx hb dX0_remember_31 (by decide) ?_
    exact ge _ _ _ (J35 ((J 0 0) + (1 : Int32)) J B12 H locs ⟨hP, hD, hS⟩ ls (lv_sub hl [0, 1] rfl) h)
def f_X0_takeBack_j28 (B : ul_F) (t1 : Int32) (J__28 : ul_S) (O__28 : ul_S) : Option (Int32 × ul_S × ul_S) :=
  ul_bd (ul_up J__28 0 0 t1) fun J1 => ul_bd ((J1 0 1) - (1 : Int32)) fun v2 => ul_bd (ul_up J1 0 1 v2) fun J3 => ul_ck 14 (J3 0 0) fun j4 => (f_X4_setTo O__28 (B j4)).bind fun u6 => some ((1 : Int32), J3, u6)
def f_X0_takeBack (J : ul_S) (O : ul_S) (B : ul_F) : Option (Int32 × ul_S × ul_S) :=
  if (J 0 1) = 0 then (some ((0 : Int32), J, O)) else (if (J 0 0) ≤ 0 then (f_X0_takeBack_j28 B (13 : Int32) J O) else (f_X0_takeBack_j28 B ((J 0 0) - (1 : Int32)) J O))
set_option maxHeartbeats 4000000 in
set_option maxRecDepth 100000 in
theorem c_X0_takeBack (l : Launch) (dC : Nat → ClassId) (dI : Nat → Nat → Nat) (cI : ClassId) (cO : ClassId) (aJ : Nat → Nat) (aO : Nat → Nat) (aB : Nat → Nat → Nat) (aK : Nat → Nat) (sz : Nat) (J : ul_S) (O : ul_S) (B : ul_F) (r : (Int32 × ul_S × ul_S)) (h : f_X0_takeBack J O B = some r) : Met l yX0_takeBack wsX0_takeBack ({ frames := 2, cells := 0, slots := 0, locals := 61 }) (va_Pc [.ref (aJ 0), .ref (aO 0)] (ul_pre (dC, dI) [(cI, .int), (cO, .object RX4)] ul_NX sz ([ul_wJ cO aJ aB J, ul_wS cI aO (aK 0) O, ul_wB cI aB (aK 0) 14 B] : List va_W).flatten)) (va_Qi (fun v (_ : Unit) => v = r.1) (fun _ => ul_post (dC, dI) [(cI, .int), (cO, .object RX4)] (va_A ([ul_wJ cO aJ aB J, ul_wS cI aO (aK 0) O, ul_wB cI aB (aK 0) 14 B] : List va_W).flatten sz) ([ul_wJ cO aJ aB r.2.1, ul_wS cI aO (aK 0) r.2.2, ul_wB cI aB (aK 0) 14 B] : List va_W).flatten) (va_A ([ul_wJ cO aJ aB J, ul_wS cI aO (aK 0) O, ul_wB cI aB (aK 0) 14 B] : List va_W).flatten sz)) 0 0 (va_A ([ul_wJ cO aJ aB J, ul_wS cI aO (aK 0) O, ul_wB cI aB (aK 0) 14 B] : List va_W).flatten sz) := by
  refine Met.ofW (cc := cX0_takeBack) (maxL := 2) (ret := (some .boolean)) (by decide) rfl ?_
  intro p e s m args below meth c s₁ BB hml hv
  obtain ⟨rfl, hsz, hP, hK, hD0, hN⟩ := hv
  have hx := BB.exec
  have hb := BB.bytes
  have hr := BB.returns
  have hts := atoms_spec (ws := wsX0_takeBack) BB.pre
  have hown : s.vm.findClass RX0 = some m.cls := findClass_of_methodNamed BB.named
  have hlocks := BB.notSynchronized
  have hin0 : ∀ w ∈ u_ws RX0 TX0 3, w ∈ wsX0_takeBack := by decide +kernel
  subst hsz
  have hD := hD0.self (sz := s.heap.size)
  generalize hAe : va_A ([ul_wJ cO aJ aB J, ul_wS cI aO (aK 0) O, ul_wB cI aB (aK 0) 14 B] : List va_W).flatten s.heap.size = A at hD hN ⊢
  have hA : ∀ q : Nat, s.heap.size ≤ q → A q := fun q h => by rw [← hAe]; exact Or.inr h
  have hS : va_S A s.heap s.heap [] := va_S.rf
  have hl := lv_entry ([.ref (aJ 0), .ref (aO 0)]) (n := 2) (Nat.le_of_ble_eq_true rfl)
  rw [lg_entry_eq]
  generalize (lg_sl ([.ref (aJ 0), .ref (aO 0)]) ++ List.replicate (2 - (lg_sl ([.ref (aJ 0), .ref (aO 0)])).length) Slot.unset).toArray = ls at hl ⊢
  have hl : lv_has ls 2 [(0, .ref (aJ 0)), (1, .ref (aO 0))] := hl
  obtain ⟨K0, hK0, h⟩ := ul_top h
  unfold f_X0_takeBack at h
  refine ul_gen (fun G gi ge => ?_)
  obtain ⟨H, eH⟩ : ∃ z, z = s.heap := ⟨_, rfl⟩
  obtain ⟨locs, eL⟩ : ∃ z : List Loc, z = [] := ⟨_, rfl⟩
  have hP : va_P (dC, dI) classes ([ul_wJ cO aJ aB J, ul_wS cI aO (aK 0) O, ul_wB cI aB (aK 0) 14 B] : List va_W).flatten H := by rw [eH]; exact hP
  have hS : va_S A s.heap H locs := by rw [eH, eL]; exact hS
  rw [← eL]
  refine (show G H locs (F0 m 0 ls []) → G s.heap locs (F0 m 0 ls []) from fun z => by rw [← eH]; exact z) ?_
  have J28 : ∀ (t1 : Int32) (J__28 : ul_S) (O__28 : ul_S) (H : Heap) (locs : List Loc), ul_H (dC, dI) A s.heap ([ul_wJ cO aJ aB J__28, ul_wS cI aO (aK 0) O__28, ul_wB cI aB (aK 0) 14 B] : List va_W).flatten H locs → ∀ ls : Array Slot, lv_has ls 2 [(0, .ref (aJ 0)), (1, .ref (aO 0))] → (f_X0_takeBack_j28 B t1 J__28 O__28).bind K0 = some r → G H locs (F0 m 28 ls [.int t1, .ref (aJ 0)]) := by
    intro t1 J__28 O__28 H locs hw ls hl h
    obtain ⟨hP, hD, hS⟩ := hw
    unfold f_X0_takeBack_j28 at h
    refine gi _ _ _ ?_
    refine va_put (D := (dC, dI)) (ci := 0) (v := .int t1) (ty := .int) (C := RX0) (T := TX0) (N := 3) hx hb hts hin0 tyX0 tyX0_ok nmX0 hown hK hP hD hS 0 rfl rfl 1 (by decide) (hts (.fieldLink RX0 24 "UnderLadders$Acts" "next" "I") (by decide +kernel)) (fun _ h9 => h9) rfl (by decide +kernel) rfl rfl (Nat.le_of_ble_eq_true rfl) dX0_takeBack_28 (fun H locs hP hD hS => ?_)
    obtain ⟨J7, eJ7⟩ : ∃ z : ul_S, z = ul_up J__28 0 0 t1 := ⟨_, rfl⟩
    have h := ul_bd_h h J7 eJ7
    have hP : va_P (dC, dI) classes ([ul_wJ cO aJ aB J7, ul_wS cI aO (aK 0) O__28, ul_wB cI aB (aK 0) 14 B] : List va_W).flatten H := by rw [eJ7]; exact hP
    have hD : va_D A ([ul_wJ cO aJ aB J7, ul_wS cI aO (aK 0) O__28, ul_wB cI aB (aK 0) 14 B] : List va_W).flatten := by rw [eJ7]; exact hD
    refine lv_aload_n hx hb dX0_takeBack_31 rfl (lv_at hl 0 rfl) ?_
    refine lv_dup hx hb dX0_takeBack_32 rfl ?_
    refine va_get (D := (dC, dI)) (ci := 0) (v := .int (J7 0 1)) (C := RX0) (T := TX0) (N := 3) hx hb hts hin0 hown hK hP 0 rfl rfl 2 (by decide) (hts (.fieldLink RX0 20 "UnderLadders$Acts" "size" "I") (by decide +kernel)) (fun _ h9 => h9) rfl dX0_takeBack_33 ?_
    refine lv_iconst (v := 1) hx hb dX0_takeBack_36 (by decide) ?_
    refine lv_isub hx hb dX0_takeBack_37 ?_
    refine lv_topi (fun v8 ev8 => ?_)
    have h := ul_bd_h h v8 ev8
    refine va_put (D := (dC, dI)) (ci := 0) (v := .int v8) (ty := .int) (C := RX0) (T := TX0) (N := 3) hx hb hts hin0 tyX0 tyX0_ok nmX0 hown hK hP hD hS 0 rfl rfl 2 (by decide) (hts (.fieldLink RX0 20 "UnderLadders$Acts" "size" "I") (by decide +kernel)) (fun _ h9 => h9) rfl (by decide +kernel) rfl rfl (Nat.le_of_ble_eq_true rfl) dX0_takeBack_38 (fun H locs hP hD hS => ?_)
    obtain ⟨J9, eJ9⟩ : ∃ z : ul_S, z = ul_up J7 0 1 v8 := ⟨_, rfl⟩
    have h := ul_bd_h h J9 eJ9
    have hP : va_P (dC, dI) classes ([ul_wJ cO aJ aB J9, ul_wS cI aO (aK 0) O__28, ul_wB cI aB (aK 0) 14 B] : List va_W).flatten H := by rw [eJ9]; exact hP
    have hD : va_D A ([ul_wJ cO aJ aB J9, ul_wS cI aO (aK 0) O__28, ul_wB cI aB (aK 0) 14 B] : List va_W).flatten := by rw [eJ9]; exact hD
    refine lv_aload_n hx hb dX0_takeBack_41 rfl (lv_at hl 1 rfl) ?_
    refine lv_aload_n hx hb dX0_takeBack_42 rfl (lv_at hl 0 rfl) ?_
    refine va_get (D := (dC, dI)) (ci := 0) (v := .ref (aJ 1)) (C := RX0) (T := TX0) (N := 3) hx hb hts hin0 hown hK hP 0 rfl rfl 0 (by decide) (hts (.fieldLink RX0 11 "UnderLadders$Acts" "before" "[LUnderLadders$Street;") (by decide +kernel)) (fun _ h9 => h9) rfl dX0_takeBack_43 ?_
    refine lv_aload_n hx hb dX0_takeBack_46 rfl (lv_at hl 0 rfl) ?_
    refine va_get (D := (dC, dI)) (ci := 0) (v := .int (J9 0 0)) (C := RX0) (T := TX0) (N := 3) hx hb hts hin0 hown hK hP 0 rfl rfl 1 (by decide) (hts (.fieldLink RX0 24 "UnderLadders$Acts" "next" "I") (by decide +kernel)) (fun _ h9 => h9) rfl dX0_takeBack_47 ?_
    obtain ⟨hi11, h⟩ := ul_ck_h h
    refine ul_aald hx hb hK hP 1 1 rfl rfl hi11 dX0_takeBack_50 (fun j10 ej10 hj10 => ?_)
    have h := h j10 ej10
    have hw := ul_H.pm ⟨hP, hD, hS⟩ (ul_spl [ul_wJ cO aJ aB J9, ul_wS cI aO (aK 0) O__28] [] (ul_wB_sp hj10))
    obtain ⟨hP, hD, hS⟩ := hw
    have hP : va_P (dC, dI) classes ([ul_wJ cO aJ aB J9, ul_wS cI aO (aK 0) O__28, ul_wS cI (aB j10) (aK 0) (B j10), ul_wX cI aB (aK 0) 14 j10 B] : List va_W).flatten H := hP
    have hD : va_D A ([ul_wJ cO aJ aB J9, ul_wS cI aO (aK 0) O__28, ul_wS cI (aB j10) (aK 0) (B j10), ul_wX cI aB (aK 0) 14 j10 B] : List va_W).flatten := hD
    obtain ⟨u12, hu12, h⟩ := ul_cl_h h
    refine ul_cPv (As := [.ref (aB j10 0)]) (rest := []) (wc := (ul_wS cI aO (aK 0) O__28 ++ ul_wS cI (aB j10) (aK 0) (B j10))) (wc' := (ul_wS cI aO (aK 0) u12 ++ ul_wS cI (aB j10) (aK 0) (B j10))) (wr := ([ul_wJ cO aJ aB J9, ul_wX cI aB (aK 0) 14 j10 B] : List va_W).flatten) hP hD hS hK hA [0] ul_NX_ok hN (c_X4_setTo l dC dI cI aO (aB j10) aK H.size O__28 (B j10) u12 hu12) (ul_pmq (bs := [ul_wJ cO aJ aB J9, ul_wS cI aO (aK 0) O__28, ul_wS cI (aB j10) (aK 0) (B j10), ul_wX cI aB (aK 0) 14 j10 B]) [1, 2, 0, 3] (by show List.Perm _ (List.range 4); decide) (by simp only [List.map_cons, List.map_nil, List.getD_cons_zero, List.getD_cons_succ, List.flatten_cons, List.flatten_nil, List.append_nil, List.nil_append, List.append_assoc])) rfl ⟨hx, hb, hml, hown, hts⟩ (cwV 1 hts gX0_takeBack_X4_setTo rfl rfl rfl (by decide +kernel) ⟨Nat.le_of_ble_eq_true rfl, Nat.le_of_ble_eq_true rfl⟩) (va_recv hK hP (ci := 4) (q0 := 2) rfl rfl) rfl hl.1 rfl (Nat.le_of_ble_eq_true rfl) dX0_takeBack_51 (fun H locs hw => ?_)
    have hw := hw.pm (ul_pmq (bs := [ul_wJ cO aJ aB J9, ul_wS cI aO (aK 0) u12, ul_wS cI (aB j10) (aK 0) (B j10), ul_wX cI aB (aK 0) 14 j10 B]) [0, 3, 1, 2] (by show List.Perm _ (List.range 4); decide) (by simp only [List.map_cons, List.map_nil, List.getD_cons_zero, List.getD_cons_succ, List.flatten_cons, List.flatten_nil, List.append_nil, List.nil_append, List.append_assoc])).symm
    obtain ⟨hP, hD, hS⟩ := hw
    have hw := ul_H.pm ⟨hP, hD, hS⟩ (ul_spl [ul_wJ cO aJ aB J9, ul_wS cI aO (aK 0) u12] [] (ul_wB_sp hj10)).symm
    obtain ⟨hP, hD, hS⟩ := hw
    have hP : va_P (dC, dI) classes ([ul_wJ cO aJ aB J9, ul_wS cI aO (aK 0) u12, ul_wB cI aB (aK 0) 14 B] : List va_W).flatten H := hP
    have hD : va_D A ([ul_wJ cO aJ aB J9, ul_wS cI aO (aK 0) u12, ul_wB cI aB (aK 0) 14 B] : List va_W).flatten := hD
    refine lv_iconst (v := 1) hx hb dX0_takeBack_54 (by decide) ?_
    have hr9 := hK0 ((1 : Int32), J9, u12) h
    subst hr9
    exact W.zret (v := (1 : Int32)) hx hb hr (by decide) (fun t ht hW => ⟨⟨(1 : Int32), (), rfl, rfl, by rw [ht]; exact hP, va_K.moved hW.alike hK, hD⟩, hS.F ht⟩) hS.2.2 dX0_takeBack_55
  refine gi _ _ _ ?_
  refine lv_aload_n hx hb dX0_takeBack_0 rfl (lv_at hl 0 rfl) ?_
  refine va_get (D := (dC, dI)) (ci := 0) (v := .int (J 0 1)) (C := RX0) (T := TX0) (N := 3) hx hb hts hin0 hown hK hP 0 rfl rfl 2 (by decide) (hts (.fieldLink RX0 20 "UnderLadders$Acts" "size" "I") (by decide +kernel)) (fun _ h9 => h9) rfl dX0_takeBack_1 ?_
  refine lv_if_ne (tgt := 9) hx hb dX0_takeBack_4 (by decide) (fun hc13 => ?_) (fun hc13 => ?_)
  · have h := ul_if_f hc13 h
    refine lv_aload_n hx hb dX0_takeBack_9 rfl (lv_at hl 0 rfl) ?_
    refine lv_aload_n hx hb dX0_takeBack_10 rfl (lv_at hl 0 rfl) ?_
    refine va_get (D := (dC, dI)) (ci := 0) (v := .int (J 0 0)) (C := RX0) (T := TX0) (N := 3) hx hb hts hin0 hown hK hP 0 rfl rfl 1 (by decide) (hts (.fieldLink RX0 24 "UnderLadders$Acts" "next" "I") (by decide +kernel)) (fun _ h9 => h9) rfl dX0_takeBack_11 ?_
    refine lv_if_le (tgt := 26) hx hb dX0_takeBack_14 (by decide) (fun hc14 => ?_) (fun hc14 => ?_)
    · have h := ul_if_t hc14 h
      refine lv_bipush (v := 13) hx hb dX0_takeBack_26 (by decide) ?_
      exact ge _ _ _ (J28 (13 : Int32) J O H locs ⟨hP, hD, hS⟩ ls (lv_sub hl [0, 1] rfl) h)
    · have h := ul_if_f hc14 h
      refine lv_aload_n hx hb dX0_takeBack_17 rfl (lv_at hl 0 rfl) ?_
      refine va_get (D := (dC, dI)) (ci := 0) (v := .int (J 0 0)) (C := RX0) (T := TX0) (N := 3) hx hb hts hin0 hown hK hP 0 rfl rfl 1 (by decide) (hts (.fieldLink RX0 24 "UnderLadders$Acts" "next" "I") (by decide +kernel)) (fun _ h9 => h9) rfl dX0_takeBack_18 ?_
      refine lv_iconst (v := 1) hx hb dX0_takeBack_21 (by decide) ?_
      refine lv_isub hx hb dX0_takeBack_22 ?_
      refine lv_goto (tgt := 28) hx hb dX0_takeBack_23 (by decide) ?_
      exact ge _ _ _ (J28 ((J 0 0) - (1 : Int32)) J O H locs ⟨hP, hD, hS⟩ ls (lv_sub hl [0, 1] rfl) h)
  · have h := ul_if_t hc13 h
    refine lv_iconst (v := 0) hx hb dX0_takeBack_7 (by decide) ?_
    have hr9 := hK0 ((0 : Int32), J, O) h
    subst hr9
    exact W.zret (v := (0 : Int32)) hx hb hr (by decide) (fun t ht hW => ⟨⟨(0 : Int32), (), rfl, rfl, by rw [ht]; exact hP, va_K.moved hW.alike hK, hD⟩, hS.F ht⟩) hS.2.2 dX0_takeBack_8
