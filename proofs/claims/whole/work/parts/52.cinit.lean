set_option maxHeartbeats 4000000 in
set_option maxRecDepth 100000 in
theorem c_X5_init (l : Launch) (dC : Nat → ClassId) (dI : Nat → Nat → Nat) (cI : ClassId) (sz h0 : Nat) : Met l yX5_init wsX5_init ({ frames := 1, cells := 1, slots := 48, locals := 12 }) (va_Pc [.ref h0] (ul_pre (dC, dI) [(cI, .int)] ul_N0 sz [(h0, .inr (5, [.null, .int 0]))])) (va_Qv (fun (af : Nat → Nat) => af 0 = h0) (fun af => ul_post (dC, dI) [(cI, .int)] (va_A [(h0, .inr (5, [.null, .int 0]))] sz) (ul_wL cI af ul_Z)) (va_A [(h0, .inr (5, [.null, .int 0]))] sz)) 1 48 (va_A [(h0, .inr (5, [.null, .int 0]))] sz) := by
  refine Met.ofW (cc := cX5_init) (maxL := 1) (ret := none) (by decide) rfl ?_
  intro p e s m args below meth c s₁ BB hml hv
  obtain ⟨rfl, hsz, hP, hK, hD0, hN⟩ := hv
  have hx := BB.exec
  have hb := BB.bytes
  have hr := BB.returns
  have hts := atoms_spec (ws := wsX5_init) BB.pre
  have hown : s.vm.findClass RX5 = some m.cls := findClass_of_methodNamed BB.named
  have hlocks := BB.notSynchronized
  have hin : meth.name = "<init>" := (name_of_methodNamed BB.named BB.method).1
  have hin5 : ∀ w ∈ u_ws RX5 TX5 2, w ∈ wsX5_init := by decide +kernel
  subst hsz
  have hD := hD0.self (sz := s.heap.size)
  generalize hAe : va_A [(h0, .inr (5, [.null, .int 0]))] s.heap.size = A at hD hN ⊢
  have hA : ∀ q : Nat, s.heap.size ≤ q → A q := fun q h => by rw [← hAe]; exact Or.inr h
  have hS : va_S A s.heap s.heap [] := va_S.rf
  have hl := lv_entry ([.ref h0]) (n := 1) (Nat.le_of_ble_eq_true rfl)
  rw [lg_entry_eq]
  generalize (lg_sl ([.ref h0]) ++ List.replicate (1 - (lg_sl ([.ref h0])).length) Slot.unset).toArray = ls at hl ⊢
  have hl : lv_has ls 1 [(0, .ref h0)] := hl
  refine lv_aload_n hx hb dX5_init_0 rfl (lv_at hl 0 rfl) ?_
  refine W.objInit hx hb hown (hts (.methodLink RX5 3 objectInit) (by decide +kernel)) (hts (.instanceMethod objectInit) (by decide +kernel)) (hts _ (List.mem_of_getElem? (i := 3) rfl)) rfl (by rw [hml]; exact hl.1) rfl dX5_init_1 (Nat.le_of_ble_eq_true rfl) (Nat.le_of_ble_eq_true rfl) ?_
  refine W.eq (g2 := F0 m 4 ls []) rfl ?_
  refine lv_aload_n hx hb dX5_init_4 rfl (lv_at hl 0 rfl) ?_
  refine lv_bipush (v := 48) hx hb dX5_init_5 (by decide) ?_
  refine va_newa (atype := .int) (ty := .int) (a0 := (48, .inl (fun _ => 0))) (N' := 48) hx hb (hts (.arrayClass .int) (by decide +kernel)) rfl hK hP hD hS hA (ul_nwi 48) (by decide) (by decide) (Nat.le_of_ble_eq_true rfl) (Nat.le_of_ble_eq_true rfl) (Nat.le_of_ble_eq_true rfl) dX5_init_7 (fun q7 cA H hK2 hP hD hS => ?_)
  have hcA : cI = cA := (ul_cu (fun _ h => by cases h) hK2 (i := 0) (j := 1) rfl rfl).symm
  subst hcA
  have hP : va_P (dC, dI) classes [(h0, .inr (5, [.null, .int 0])), (q7, .inl (cI, 48, .inl (fun _ => 0)))] H := hP
  have hD : va_D A [(h0, .inr (5, [.null, .int 0])), (q7, .inl (cI, 48, .inl (fun _ => 0)))] := hD
  refine W.widen (k := 1) (n := 48) (by decide) (by decide) ?_
  refine va_putF (D := (dC, dI)) (ci := 5) (v := .ref q7) (ty := .array .int) (C := RX5) (T := TX5) (N := 2) hx hb hts hin5 tyX5 tyX5_ok nmX5 hown hK hP hD hS 0 rfl rfl 0 (by decide) (hts (.fieldLink RX5 9 "UnderLadders$Text" "letters" "[I") (by decide +kernel)) (fun _ h9 => h9) rfl hin rfl (by decide +kernel) rfl rfl (Nat.le_of_ble_eq_true rfl) dX5_init_9 (fun H locs hP hD hS => ?_)
  have hP : va_P (dC, dI) classes [(h0, .inr (5, [.ref q7, .int 0])), (q7, .inl (cI, 48, .inl (fun _ => 0)))] H := hP
  have hD : va_D A [(h0, .inr (5, [.ref q7, .int 0])), (q7, .inl (cI, 48, .inl (fun _ => 0)))] := hD
  have hP9 := hP.sub (ws' := ul_wL cI (fun k => match k with | 0 => h0 | 1 => q7 | _ => 0) ul_Z) [0, 1] rfl
  have hD9 := hD.sub (ws' := ul_wL cI (fun k => match k with | 0 => h0 | 1 => q7 | _ => 0) ul_Z) [0, 1] (by decide) rfl
  exact W.vret hx hb hr (fun t ht hW => ⟨⟨(fun k => match k with | 0 => h0 | 1 => q7 | _ => 0), rfl, rfl, by rw [ht]; exact hP9, va_K.moved hW.alike hK, hD9⟩, hS.F ht⟩) hS.2.2 dX5_init_12
set_option maxHeartbeats 4000000 in
set_option maxRecDepth 100000 in
theorem c_X2_init (l : Launch) (dC : Nat → ClassId) (dI : Nat → Nat → Nat) (cI : ClassId) (sz h0 : Nat) : Met l yX2_init wsX2_init ({ frames := 1, cells := 7, slots := 32, locals := 12 }) (va_Pc [.ref h0] (ul_pre (dC, dI) [(cI, .int)] ul_N0 sz [(h0, .inr (2, [.null, .null, .null, .null, .null, .null, .null, .int 0, .int 0]))])) (va_Qv (fun (af : Nat → Nat) => af 0 = h0) (fun af => ul_post (dC, dI) [(cI, .int)] (va_A [(h0, .inr (2, [.null, .null, .null, .null, .null, .null, .null, .int 0, .int 0]))] sz) (ul_wK cI af ul_Z)) (va_A [(h0, .inr (2, [.null, .null, .null, .null, .null, .null, .null, .int 0, .int 0]))] sz)) 7 32 (va_A [(h0, .inr (2, [.null, .null, .null, .null, .null, .null, .null, .int 0, .int 0]))] sz) := by
  refine Met.ofW (cc := cX2_init) (maxL := 1) (ret := none) (by decide) rfl ?_
  intro p e s m args below meth c s₁ BB hml hv
  obtain ⟨rfl, hsz, hP, hK, hD0, hN⟩ := hv
  have hx := BB.exec
  have hb := BB.bytes
  have hr := BB.returns
  have hts := atoms_spec (ws := wsX2_init) BB.pre
  have hown : s.vm.findClass RX2 = some m.cls := findClass_of_methodNamed BB.named
  have hlocks := BB.notSynchronized
  have hin : meth.name = "<init>" := (name_of_methodNamed BB.named BB.method).1
  have hin2 : ∀ w ∈ u_ws RX2 TX2 9, w ∈ wsX2_init := by decide +kernel
  subst hsz
  have hD := hD0.self (sz := s.heap.size)
  generalize hAe : va_A [(h0, .inr (2, [.null, .null, .null, .null, .null, .null, .null, .int 0, .int 0]))] s.heap.size = A at hD hN ⊢
  have hA : ∀ q : Nat, s.heap.size ≤ q → A q := fun q h => by rw [← hAe]; exact Or.inr h
  have hS : va_S A s.heap s.heap [] := va_S.rf
  have hl := lv_entry ([.ref h0]) (n := 1) (Nat.le_of_ble_eq_true rfl)
  rw [lg_entry_eq]
  generalize (lg_sl ([.ref h0]) ++ List.replicate (1 - (lg_sl ([.ref h0])).length) Slot.unset).toArray = ls at hl ⊢
  have hl : lv_has ls 1 [(0, .ref h0)] := hl
  refine lv_aload_n hx hb dX2_init_0 rfl (lv_at hl 0 rfl) ?_
  refine W.objInit hx hb hown (hts (.methodLink RX2 3 objectInit) (by decide +kernel)) (hts (.instanceMethod objectInit) (by decide +kernel)) (hts _ (List.mem_of_getElem? (i := 3) rfl)) rfl (by rw [hml]; exact hl.1) rfl dX2_init_1 (Nat.le_of_ble_eq_true rfl) (Nat.le_of_ble_eq_true rfl) ?_
  refine W.eq (g2 := F0 m 4 ls []) rfl ?_
  refine lv_aload_n hx hb dX2_init_4 rfl (lv_at hl 0 rfl) ?_
  refine lv_iconst (v := 4) hx hb dX2_init_5 (by decide) ?_
  refine va_newa (atype := .int) (ty := .int) (a0 := (4, .inl (fun _ => 0))) (N' := 4) hx hb (hts (.arrayClass .int) (by decide +kernel)) rfl hK hP hD hS hA (ul_nwi 4) (by decide) (by decide) (Nat.le_of_ble_eq_true rfl) (Nat.le_of_ble_eq_true rfl) (Nat.le_of_ble_eq_true rfl) dX2_init_6 (fun q6 cA H hK2 hP hD hS => ?_)
  have hcA : cI = cA := (ul_cu (fun _ h => by cases h) hK2 (i := 0) (j := 1) rfl rfl).symm
  subst hcA
  have hP : va_P (dC, dI) classes [(h0, .inr (2, [.null, .null, .null, .null, .null, .null, .null, .int 0, .int 0])), (q6, .inl (cI, 4, .inl (fun _ => 0)))] H := hP
  have hD : va_D A [(h0, .inr (2, [.null, .null, .null, .null, .null, .null, .null, .int 0, .int 0])), (q6, .inl (cI, 4, .inl (fun _ => 0)))] := hD
  refine W.widen (k := 1) (n := 4) (by decide) (by decide) ?_
  refine va_putF (D := (dC, dI)) (ci := 2) (v := .ref q6) (ty := .array .int) (C := RX2) (T := TX2) (N := 9) hx hb hts hin2 tyX2 tyX2_ok nmX2 hown hK hP hD hS 0 rfl rfl 0 (by decide) (hts (.fieldLink RX2 9 "UnderLadders$Market" "firstStand" "[I") (by decide +kernel)) (fun _ h9 => h9) rfl hin rfl (by decide +kernel) rfl rfl (Nat.le_of_ble_eq_true rfl) dX2_init_8 (fun H locs hP hD hS => ?_)
  have hP : va_P (dC, dI) classes [(h0, .inr (2, [.ref q6, .null, .null, .null, .null, .null, .null, .int 0, .int 0])), (q6, .inl (cI, 4, .inl (fun _ => 0)))] H := hP
  have hD : va_D A [(h0, .inr (2, [.ref q6, .null, .null, .null, .null, .null, .null, .int 0, .int 0])), (q6, .inl (cI, 4, .inl (fun _ => 0)))] := hD
  refine lv_aload_n hx hb dX2_init_11 rfl (lv_at hl 0 rfl) ?_
  refine lv_iconst (v := 4) hx hb dX2_init_12 (by decide) ?_
  refine va_newa (atype := .int) (ty := .int) (a0 := (4, .inl (fun _ => 0))) (N' := 4) hx hb (hts (.arrayClass .int) (by decide +kernel)) rfl hK hP hD hS hA (ul_nwi 4) (by decide) (by decide) (Nat.le_of_ble_eq_true rfl) (Nat.le_of_ble_eq_true rfl) (Nat.le_of_ble_eq_true rfl) dX2_init_13 (fun q13 cA H hK2 hP hD hS => ?_)
  have hcA : cI = cA := (ul_cu (fun _ h => by cases h) hK2 (i := 0) (j := 1) rfl rfl).symm
  subst hcA
  have hP : va_P (dC, dI) classes [(h0, .inr (2, [.ref q6, .null, .null, .null, .null, .null, .null, .int 0, .int 0])), (q6, .inl (cI, 4, .inl (fun _ => 0))), (q13, .inl (cI, 4, .inl (fun _ => 0)))] H := hP
  have hD : va_D A [(h0, .inr (2, [.ref q6, .null, .null, .null, .null, .null, .null, .int 0, .int 0])), (q6, .inl (cI, 4, .inl (fun _ => 0))), (q13, .inl (cI, 4, .inl (fun _ => 0)))] := hD
  refine W.widen (k := 2) (n := 8) (by decide) (by decide) ?_
  refine va_putF (D := (dC, dI)) (ci := 2) (v := .ref q13) (ty := .array .int) (C := RX2) (T := TX2) (N := 9) hx hb hts hin2 tyX2 tyX2_ok nmX2 hown hK hP hD hS 0 rfl rfl 1 (by decide) (hts (.fieldLink RX2 15 "UnderLadders$Market" "take" "[I") (by decide +kernel)) (fun _ h9 => h9) rfl hin rfl (by decide +kernel) rfl rfl (Nat.le_of_ble_eq_true rfl) dX2_init_15 (fun H locs hP hD hS => ?_)
  have hP : va_P (dC, dI) classes [(h0, .inr (2, [.ref q6, .ref q13, .null, .null, .null, .null, .null, .int 0, .int 0])), (q6, .inl (cI, 4, .inl (fun _ => 0))), (q13, .inl (cI, 4, .inl (fun _ => 0)))] H := hP
  have hD : va_D A [(h0, .inr (2, [.ref q6, .ref q13, .null, .null, .null, .null, .null, .int 0, .int 0])), (q6, .inl (cI, 4, .inl (fun _ => 0))), (q13, .inl (cI, 4, .inl (fun _ => 0)))] := hD
  refine lv_aload_n hx hb dX2_init_18 rfl (lv_at hl 0 rfl) ?_
  refine lv_iconst (v := 4) hx hb dX2_init_19 (by decide) ?_
  refine va_newa (atype := .int) (ty := .int) (a0 := (4, .inl (fun _ => 0))) (N' := 4) hx hb (hts (.arrayClass .int) (by decide +kernel)) rfl hK hP hD hS hA (ul_nwi 4) (by decide) (by decide) (Nat.le_of_ble_eq_true rfl) (Nat.le_of_ble_eq_true rfl) (Nat.le_of_ble_eq_true rfl) dX2_init_20 (fun q20 cA H hK2 hP hD hS => ?_)
  have hcA : cI = cA := (ul_cu (fun _ h => by cases h) hK2 (i := 0) (j := 1) rfl rfl).symm
  subst hcA
  have hP : va_P (dC, dI) classes [(h0, .inr (2, [.ref q6, .ref q13, .null, .null, .null, .null, .null, .int 0, .int 0])), (q6, .inl (cI, 4, .inl (fun _ => 0))), (q13, .inl (cI, 4, .inl (fun _ => 0))), (q20, .inl (cI, 4, .inl (fun _ => 0)))] H := hP
  have hD : va_D A [(h0, .inr (2, [.ref q6, .ref q13, .null, .null, .null, .null, .null, .int 0, .int 0])), (q6, .inl (cI, 4, .inl (fun _ => 0))), (q13, .inl (cI, 4, .inl (fun _ => 0))), (q20, .inl (cI, 4, .inl (fun _ => 0)))] := hD
  refine W.widen (k := 3) (n := 12) (by decide) (by decide) ?_
  refine va_putF (D := (dC, dI)) (ci := 2) (v := .ref q20) (ty := .array .int) (C := RX2) (T := TX2) (N := 9) hx hb hts hin2 tyX2 tyX2_ok nmX2 hown hK hP hD hS 0 rfl rfl 2 (by decide) (hts (.fieldLink RX2 18 "UnderLadders$Market" "ladderKind" "[I") (by decide +kernel)) (fun _ h9 => h9) rfl hin rfl (by decide +kernel) rfl rfl (Nat.le_of_ble_eq_true rfl) dX2_init_22 (fun H locs hP hD hS => ?_)
  have hP : va_P (dC, dI) classes [(h0, .inr (2, [.ref q6, .ref q13, .ref q20, .null, .null, .null, .null, .int 0, .int 0])), (q6, .inl (cI, 4, .inl (fun _ => 0))), (q13, .inl (cI, 4, .inl (fun _ => 0))), (q20, .inl (cI, 4, .inl (fun _ => 0)))] H := hP
  have hD : va_D A [(h0, .inr (2, [.ref q6, .ref q13, .ref q20, .null, .null, .null, .null, .int 0, .int 0])), (q6, .inl (cI, 4, .inl (fun _ => 0))), (q13, .inl (cI, 4, .inl (fun _ => 0))), (q20, .inl (cI, 4, .inl (fun _ => 0)))] := hD
  refine lv_aload_n hx hb dX2_init_25 rfl (lv_at hl 0 rfl) ?_
  refine lv_iconst (v := 5) hx hb dX2_init_26 (by decide) ?_
  refine va_newa (atype := .int) (ty := .int) (a0 := (5, .inl (fun _ => 0))) (N' := 5) hx hb (hts (.arrayClass .int) (by decide +kernel)) rfl hK hP hD hS hA (ul_nwi 5) (by decide) (by decide) (Nat.le_of_ble_eq_true rfl) (Nat.le_of_ble_eq_true rfl) (Nat.le_of_ble_eq_true rfl) dX2_init_27 (fun q27 cA H hK2 hP hD hS => ?_)
  have hcA : cI = cA := (ul_cu (fun _ h => by cases h) hK2 (i := 0) (j := 1) rfl rfl).symm
  subst hcA
  have hP : va_P (dC, dI) classes [(h0, .inr (2, [.ref q6, .ref q13, .ref q20, .null, .null, .null, .null, .int 0, .int 0])), (q6, .inl (cI, 4, .inl (fun _ => 0))), (q13, .inl (cI, 4, .inl (fun _ => 0))), (q20, .inl (cI, 4, .inl (fun _ => 0))), (q27, .inl (cI, 5, .inl (fun _ => 0)))] H := hP
  have hD : va_D A [(h0, .inr (2, [.ref q6, .ref q13, .ref q20, .null, .null, .null, .null, .int 0, .int 0])), (q6, .inl (cI, 4, .inl (fun _ => 0))), (q13, .inl (cI, 4, .inl (fun _ => 0))), (q20, .inl (cI, 4, .inl (fun _ => 0))), (q27, .inl (cI, 5, .inl (fun _ => 0)))] := hD
  refine W.widen (k := 4) (n := 17) (by decide) (by decide) ?_
  refine va_putF (D := (dC, dI)) (ci := 2) (v := .ref q27) (ty := .array .int) (C := RX2) (T := TX2) (N := 9) hx hb hts hin2 tyX2 tyX2_ok nmX2 hown hK hP hD hS 0 rfl rfl 3 (by decide) (hts (.fieldLink RX2 21 "UnderLadders$Market" "home" "[I") (by decide +kernel)) (fun _ h9 => h9) rfl hin rfl (by decide +kernel) rfl rfl (Nat.le_of_ble_eq_true rfl) dX2_init_29 (fun H locs hP hD hS => ?_)
  have hP : va_P (dC, dI) classes [(h0, .inr (2, [.ref q6, .ref q13, .ref q20, .ref q27, .null, .null, .null, .int 0, .int 0])), (q6, .inl (cI, 4, .inl (fun _ => 0))), (q13, .inl (cI, 4, .inl (fun _ => 0))), (q20, .inl (cI, 4, .inl (fun _ => 0))), (q27, .inl (cI, 5, .inl (fun _ => 0)))] H := hP
  have hD : va_D A [(h0, .inr (2, [.ref q6, .ref q13, .ref q20, .ref q27, .null, .null, .null, .int 0, .int 0])), (q6, .inl (cI, 4, .inl (fun _ => 0))), (q13, .inl (cI, 4, .inl (fun _ => 0))), (q20, .inl (cI, 4, .inl (fun _ => 0))), (q27, .inl (cI, 5, .inl (fun _ => 0)))] := hD
  refine lv_aload_n hx hb dX2_init_32 rfl (lv_at hl 0 rfl) ?_
  refine lv_iconst (v := 5) hx hb dX2_init_33 (by decide) ?_
  refine va_newa (atype := .int) (ty := .int) (a0 := (5, .inl (fun _ => 0))) (N' := 5) hx hb (hts (.arrayClass .int) (by decide +kernel)) rfl hK hP hD hS hA (ul_nwi 5) (by decide) (by decide) (Nat.le_of_ble_eq_true rfl) (Nat.le_of_ble_eq_true rfl) (Nat.le_of_ble_eq_true rfl) dX2_init_34 (fun q34 cA H hK2 hP hD hS => ?_)
  have hcA : cI = cA := (ul_cu (fun _ h => by cases h) hK2 (i := 0) (j := 1) rfl rfl).symm
  subst hcA
  have hP : va_P (dC, dI) classes [(h0, .inr (2, [.ref q6, .ref q13, .ref q20, .ref q27, .null, .null, .null, .int 0, .int 0])), (q6, .inl (cI, 4, .inl (fun _ => 0))), (q13, .inl (cI, 4, .inl (fun _ => 0))), (q20, .inl (cI, 4, .inl (fun _ => 0))), (q27, .inl (cI, 5, .inl (fun _ => 0))), (q34, .inl (cI, 5, .inl (fun _ => 0)))] H := hP
  have hD : va_D A [(h0, .inr (2, [.ref q6, .ref q13, .ref q20, .ref q27, .null, .null, .null, .int 0, .int 0])), (q6, .inl (cI, 4, .inl (fun _ => 0))), (q13, .inl (cI, 4, .inl (fun _ => 0))), (q20, .inl (cI, 4, .inl (fun _ => 0))), (q27, .inl (cI, 5, .inl (fun _ => 0))), (q34, .inl (cI, 5, .inl (fun _ => 0)))] := hD
  refine W.widen (k := 5) (n := 22) (by decide) (by decide) ?_
  refine va_putF (D := (dC, dI)) (ci := 2) (v := .ref q34) (ty := .array .int) (C := RX2) (T := TX2) (N := 9) hx hb hts hin2 tyX2 tyX2_ok nmX2 hown hK hP hD hS 0 rfl rfl 4 (by decide) (hts (.fieldLink RX2 24 "UnderLadders$Market" "work" "[I") (by decide +kernel)) (fun _ h9 => h9) rfl hin rfl (by decide +kernel) rfl rfl (Nat.le_of_ble_eq_true rfl) dX2_init_36 (fun H locs hP hD hS => ?_)
  have hP : va_P (dC, dI) classes [(h0, .inr (2, [.ref q6, .ref q13, .ref q20, .ref q27, .ref q34, .null, .null, .int 0, .int 0])), (q6, .inl (cI, 4, .inl (fun _ => 0))), (q13, .inl (cI, 4, .inl (fun _ => 0))), (q20, .inl (cI, 4, .inl (fun _ => 0))), (q27, .inl (cI, 5, .inl (fun _ => 0))), (q34, .inl (cI, 5, .inl (fun _ => 0)))] H := hP
  have hD : va_D A [(h0, .inr (2, [.ref q6, .ref q13, .ref q20, .ref q27, .ref q34, .null, .null, .int 0, .int 0])), (q6, .inl (cI, 4, .inl (fun _ => 0))), (q13, .inl (cI, 4, .inl (fun _ => 0))), (q20, .inl (cI, 4, .inl (fun _ => 0))), (q27, .inl (cI, 5, .inl (fun _ => 0))), (q34, .inl (cI, 5, .inl (fun _ => 0)))] := hD
  refine lv_aload_n hx hb dX2_init_39 rfl (lv_at hl 0 rfl) ?_
  refine lv_iconst (v := 5) hx hb dX2_init_40 (by decide) ?_
  refine va_newa (atype := .int) (ty := .int) (a0 := (5, .inl (fun _ => 0))) (N' := 5) hx hb (hts (.arrayClass .int) (by decide +kernel)) rfl hK hP hD hS hA (ul_nwi 5) (by decide) (by decide) (Nat.le_of_ble_eq_true rfl) (Nat.le_of_ble_eq_true rfl) (Nat.le_of_ble_eq_true rfl) dX2_init_41 (fun q41 cA H hK2 hP hD hS => ?_)
  have hcA : cI = cA := (ul_cu (fun _ h => by cases h) hK2 (i := 0) (j := 1) rfl rfl).symm
  subst hcA
  have hP : va_P (dC, dI) classes [(h0, .inr (2, [.ref q6, .ref q13, .ref q20, .ref q27, .ref q34, .null, .null, .int 0, .int 0])), (q6, .inl (cI, 4, .inl (fun _ => 0))), (q13, .inl (cI, 4, .inl (fun _ => 0))), (q20, .inl (cI, 4, .inl (fun _ => 0))), (q27, .inl (cI, 5, .inl (fun _ => 0))), (q34, .inl (cI, 5, .inl (fun _ => 0))), (q41, .inl (cI, 5, .inl (fun _ => 0)))] H := hP
  have hD : va_D A [(h0, .inr (2, [.ref q6, .ref q13, .ref q20, .ref q27, .ref q34, .null, .null, .int 0, .int 0])), (q6, .inl (cI, 4, .inl (fun _ => 0))), (q13, .inl (cI, 4, .inl (fun _ => 0))), (q20, .inl (cI, 4, .inl (fun _ => 0))), (q27, .inl (cI, 5, .inl (fun _ => 0))), (q34, .inl (cI, 5, .inl (fun _ => 0))), (q41, .inl (cI, 5, .inl (fun _ => 0)))] := hD
  refine W.widen (k := 6) (n := 27) (by decide) (by decide) ?_
  refine va_putF (D := (dC, dI)) (ci := 2) (v := .ref q41) (ty := .array .int) (C := RX2) (T := TX2) (N := 9) hx hb hts hin2 tyX2 tyX2_ok nmX2 hown hK hP hD hS 0 rfl rfl 5 (by decide) (hts (.fieldLink RX2 27 "UnderLadders$Market" "firstLuck" "[I") (by decide +kernel)) (fun _ h9 => h9) rfl hin rfl (by decide +kernel) rfl rfl (Nat.le_of_ble_eq_true rfl) dX2_init_43 (fun H locs hP hD hS => ?_)
  have hP : va_P (dC, dI) classes [(h0, .inr (2, [.ref q6, .ref q13, .ref q20, .ref q27, .ref q34, .ref q41, .null, .int 0, .int 0])), (q6, .inl (cI, 4, .inl (fun _ => 0))), (q13, .inl (cI, 4, .inl (fun _ => 0))), (q20, .inl (cI, 4, .inl (fun _ => 0))), (q27, .inl (cI, 5, .inl (fun _ => 0))), (q34, .inl (cI, 5, .inl (fun _ => 0))), (q41, .inl (cI, 5, .inl (fun _ => 0)))] H := hP
  have hD : va_D A [(h0, .inr (2, [.ref q6, .ref q13, .ref q20, .ref q27, .ref q34, .ref q41, .null, .int 0, .int 0])), (q6, .inl (cI, 4, .inl (fun _ => 0))), (q13, .inl (cI, 4, .inl (fun _ => 0))), (q20, .inl (cI, 4, .inl (fun _ => 0))), (q27, .inl (cI, 5, .inl (fun _ => 0))), (q34, .inl (cI, 5, .inl (fun _ => 0))), (q41, .inl (cI, 5, .inl (fun _ => 0)))] := hD
  refine lv_aload_n hx hb dX2_init_46 rfl (lv_at hl 0 rfl) ?_
  refine lv_iconst (v := 5) hx hb dX2_init_47 (by decide) ?_
  refine va_newa (atype := .int) (ty := .int) (a0 := (5, .inl (fun _ => 0))) (N' := 5) hx hb (hts (.arrayClass .int) (by decide +kernel)) rfl hK hP hD hS hA (ul_nwi 5) (by decide) (by decide) (Nat.le_of_ble_eq_true rfl) (Nat.le_of_ble_eq_true rfl) (Nat.le_of_ble_eq_true rfl) dX2_init_48 (fun q48 cA H hK2 hP hD hS => ?_)
  have hcA : cI = cA := (ul_cu (fun _ h => by cases h) hK2 (i := 0) (j := 1) rfl rfl).symm
  subst hcA
  have hP : va_P (dC, dI) classes [(h0, .inr (2, [.ref q6, .ref q13, .ref q20, .ref q27, .ref q34, .ref q41, .null, .int 0, .int 0])), (q6, .inl (cI, 4, .inl (fun _ => 0))), (q13, .inl (cI, 4, .inl (fun _ => 0))), (q20, .inl (cI, 4, .inl (fun _ => 0))), (q27, .inl (cI, 5, .inl (fun _ => 0))), (q34, .inl (cI, 5, .inl (fun _ => 0))), (q41, .inl (cI, 5, .inl (fun _ => 0))), (q48, .inl (cI, 5, .inl (fun _ => 0)))] H := hP
  have hD : va_D A [(h0, .inr (2, [.ref q6, .ref q13, .ref q20, .ref q27, .ref q34, .ref q41, .null, .int 0, .int 0])), (q6, .inl (cI, 4, .inl (fun _ => 0))), (q13, .inl (cI, 4, .inl (fun _ => 0))), (q20, .inl (cI, 4, .inl (fun _ => 0))), (q27, .inl (cI, 5, .inl (fun _ => 0))), (q34, .inl (cI, 5, .inl (fun _ => 0))), (q41, .inl (cI, 5, .inl (fun _ => 0))), (q48, .inl (cI, 5, .inl (fun _ => 0)))] := hD
  refine W.widen (k := 7) (n := 32) (by decide) (by decide) ?_
  refine va_putF (D := (dC, dI)) (ci := 2) (v := .ref q48) (ty := .array .int) (C := RX2) (T := TX2) (N := 9) hx hb hts hin2 tyX2 tyX2_ok nmX2 hown hK hP hD hS 0 rfl rfl 6 (by decide) (hts (.fieldLink RX2 30 "UnderLadders$Market" "personKind" "[I") (by decide +kernel)) (fun _ h9 => h9) rfl hin rfl (by decide +kernel) rfl rfl (Nat.le_of_ble_eq_true rfl) dX2_init_50 (fun H locs hP hD hS => ?_)
  have hP : va_P (dC, dI) classes [(h0, .inr (2, [.ref q6, .ref q13, .ref q20, .ref q27, .ref q34, .ref q41, .ref q48, .int 0, .int 0])), (q6, .inl (cI, 4, .inl (fun _ => 0))), (q13, .inl (cI, 4, .inl (fun _ => 0))), (q20, .inl (cI, 4, .inl (fun _ => 0))), (q27, .inl (cI, 5, .inl (fun _ => 0))), (q34, .inl (cI, 5, .inl (fun _ => 0))), (q41, .inl (cI, 5, .inl (fun _ => 0))), (q48, .inl (cI, 5, .inl (fun _ => 0)))] H := hP
  have hD : va_D A [(h0, .inr (2, [.ref q6, .ref q13, .ref q20, .ref q27, .ref q34, .ref q41, .ref q48, .int 0, .int 0])), (q6, .inl (cI, 4, .inl (fun _ => 0))), (q13, .inl (cI, 4, .inl (fun _ => 0))), (q20, .inl (cI, 4, .inl (fun _ => 0))), (q27, .inl (cI, 5, .inl (fun _ => 0))), (q34, .inl (cI, 5, .inl (fun _ => 0))), (q41, .inl (cI, 5, .inl (fun _ => 0))), (q48, .inl (cI, 5, .inl (fun _ => 0)))] := hD
  have hP9 := hP.sub (ws' := ul_wK cI (fun k => match k with | 0 => h0 | 1 => q6 | 2 => q13 | 3 => q20 | 4 => q27 | 5 => q34 | 6 => q41 | 7 => q48 | _ => 0) ul_Z) [0, 1, 2, 3, 4, 5, 6, 7] rfl
  have hD9 := hD.sub (ws' := ul_wK cI (fun k => match k with | 0 => h0 | 1 => q6 | 2 => q13 | 3 => q20 | 4 => q27 | 5 => q34 | 6 => q41 | 7 => q48 | _ => 0) ul_Z) [0, 1, 2, 3, 4, 5, 6, 7] (by decide) rfl
  exact W.vret hx hb hr (fun t ht hW => ⟨⟨(fun k => match k with | 0 => h0 | 1 => q6 | 2 => q13 | 3 => q20 | 4 => q27 | 5 => q34 | 6 => q41 | 7 => q48 | _ => 0), rfl, rfl, by rw [ht]; exact hP9, va_K.moved hW.alike hK, hD9⟩, hS.F ht⟩) hS.2.2 dX2_init_53
set_option maxHeartbeats 4000000 in
set_option maxRecDepth 100000 in
theorem c_X3_init (l : Launch) (dC : Nat → ClassId) (dI : Nat → Nat → Nat) (cI : ClassId) (sz h0 : Nat) : Met l yX3_init wsX3_init ({ frames := 1, cells := 2, slots := 12, locals := 12 }) (va_Pc [.ref h0] (ul_pre (dC, dI) [(cI, .int)] ul_N0 sz [(h0, .inr (3, [.null, .null, .int 0]))])) (va_Qv (fun (af : Nat → Nat) => af 0 = h0) (fun af => ul_post (dC, dI) [(cI, .int)] (va_A [(h0, .inr (3, [.null, .null, .int 0]))] sz) (ul_wE cI af ul_Z)) (va_A [(h0, .inr (3, [.null, .null, .int 0]))] sz)) 2 12 (va_A [(h0, .inr (3, [.null, .null, .int 0]))] sz) := by
  refine Met.ofW (cc := cX3_init) (maxL := 1) (ret := none) (by decide) rfl ?_
  intro p e s m args below meth c s₁ BB hml hv
  obtain ⟨rfl, hsz, hP, hK, hD0, hN⟩ := hv
  have hx := BB.exec
  have hb := BB.bytes
  have hr := BB.returns
  have hts := atoms_spec (ws := wsX3_init) BB.pre
  have hown : s.vm.findClass RX3 = some m.cls := findClass_of_methodNamed BB.named
  have hlocks := BB.notSynchronized
  have hin : meth.name = "<init>" := (name_of_methodNamed BB.named BB.method).1
  have hin3 : ∀ w ∈ u_ws RX3 TX3 3, w ∈ wsX3_init := by decide +kernel
  subst hsz
  have hD := hD0.self (sz := s.heap.size)
  generalize hAe : va_A [(h0, .inr (3, [.null, .null, .int 0]))] s.heap.size = A at hD hN ⊢
  have hA : ∀ q : Nat, s.heap.size ≤ q → A q := fun q h => by rw [← hAe]; exact Or.inr h
  have hS : va_S A s.heap s.heap [] := va_S.rf
  have hl := lv_entry ([.ref h0]) (n := 1) (Nat.le_of_ble_eq_true rfl)
  rw [lg_entry_eq]
  generalize (lg_sl ([.ref h0]) ++ List.replicate (1 - (lg_sl ([.ref h0])).length) Slot.unset).toArray = ls at hl ⊢
  have hl : lv_has ls 1 [(0, .ref h0)] := hl
  refine lv_aload_n hx hb dX3_init_0 rfl (lv_at hl 0 rfl) ?_
  refine W.objInit hx hb hown (hts (.methodLink RX3 3 objectInit) (by decide +kernel)) (hts (.instanceMethod objectInit) (by decide +kernel)) (hts _ (List.mem_of_getElem? (i := 3) rfl)) rfl (by rw [hml]; exact hl.1) rfl dX3_init_1 (Nat.le_of_ble_eq_true rfl) (Nat.le_of_ble_eq_true rfl) ?_
  refine W.eq (g2 := F0 m 4 ls []) rfl ?_
  refine lv_aload_n hx hb dX3_init_4 rfl (lv_at hl 0 rfl) ?_
  refine lv_bipush (v := 6) hx hb dX3_init_5 (by decide) ?_
  refine va_newa (atype := .int) (ty := .int) (a0 := (6, .inl (fun _ => 0))) (N' := 6) hx hb (hts (.arrayClass .int) (by decide +kernel)) rfl hK hP hD hS hA (ul_nwi 6) (by decide) (by decide) (Nat.le_of_ble_eq_true rfl) (Nat.le_of_ble_eq_true rfl) (Nat.le_of_ble_eq_true rfl) dX3_init_7 (fun q7 cA H hK2 hP hD hS => ?_)
  have hcA : cI = cA := (ul_cu (fun _ h => by cases h) hK2 (i := 0) (j := 1) rfl rfl).symm
  subst hcA
  have hP : va_P (dC, dI) classes [(h0, .inr (3, [.null, .null, .int 0])), (q7, .inl (cI, 6, .inl (fun _ => 0)))] H := hP
  have hD : va_D A [(h0, .inr (3, [.null, .null, .int 0])), (q7, .inl (cI, 6, .inl (fun _ => 0)))] := hD
  refine W.widen (k := 1) (n := 6) (by decide) (by decide) ?_
  refine va_putF (D := (dC, dI)) (ci := 3) (v := .ref q7) (ty := .array .int) (C := RX3) (T := TX3) (N := 3) hx hb hts hin3 tyX3 tyX3_ok nmX3 hown hK hP hD hS 0 rfl rfl 0 (by decide) (hts (.fieldLink RX3 9 "UnderLadders$Seen" "ahead" "[I") (by decide +kernel)) (fun _ h9 => h9) rfl hin rfl (by decide +kernel) rfl rfl (Nat.le_of_ble_eq_true rfl) dX3_init_9 (fun H locs hP hD hS => ?_)
  have hP : va_P (dC, dI) classes [(h0, .inr (3, [.ref q7, .null, .int 0])), (q7, .inl (cI, 6, .inl (fun _ => 0)))] H := hP
  have hD : va_D A [(h0, .inr (3, [.ref q7, .null, .int 0])), (q7, .inl (cI, 6, .inl (fun _ => 0)))] := hD
  refine lv_aload_n hx hb dX3_init_12 rfl (lv_at hl 0 rfl) ?_
  refine lv_bipush (v := 6) hx hb dX3_init_13 (by decide) ?_
  refine va_newa (atype := .int) (ty := .int) (a0 := (6, .inl (fun _ => 0))) (N' := 6) hx hb (hts (.arrayClass .int) (by decide +kernel)) rfl hK hP hD hS hA (ul_nwi 6) (by decide) (by decide) (Nat.le_of_ble_eq_true rfl) (Nat.le_of_ble_eq_true rfl) (Nat.le_of_ble_eq_true rfl) dX3_init_15 (fun q15 cA H hK2 hP hD hS => ?_)
  have hcA : cI = cA := (ul_cu (fun _ h => by cases h) hK2 (i := 0) (j := 1) rfl rfl).symm
  subst hcA
  have hP : va_P (dC, dI) classes [(h0, .inr (3, [.ref q7, .null, .int 0])), (q7, .inl (cI, 6, .inl (fun _ => 0))), (q15, .inl (cI, 6, .inl (fun _ => 0)))] H := hP
  have hD : va_D A [(h0, .inr (3, [.ref q7, .null, .int 0])), (q7, .inl (cI, 6, .inl (fun _ => 0))), (q15, .inl (cI, 6, .inl (fun _ => 0)))] := hD
  refine W.widen (k := 2) (n := 12) (by decide) (by decide) ?_
  refine va_putF (D := (dC, dI)) (ci := 3) (v := .ref q15) (ty := .array .int) (C := RX3) (T := TX3) (N := 3) hx hb hts hin3 tyX3 tyX3_ok nmX3 hown hK hP hD hS 0 rfl rfl 1 (by decide) (hts (.fieldLink RX3 15 "UnderLadders$Seen" "behind" "[I") (by decide +kernel)) (fun _ h9 => h9) rfl hin rfl (by decide +kernel) rfl rfl (Nat.le_of_ble_eq_true rfl) dX3_init_17 (fun H locs hP hD hS => ?_)
  have hP : va_P (dC, dI) classes [(h0, .inr (3, [.ref q7, .ref q15, .int 0])), (q7, .inl (cI, 6, .inl (fun _ => 0))), (q15, .inl (cI, 6, .inl (fun _ => 0)))] H := hP
  have hD : va_D A [(h0, .inr (3, [.ref q7, .ref q15, .int 0])), (q7, .inl (cI, 6, .inl (fun _ => 0))), (q15, .inl (cI, 6, .inl (fun _ => 0)))] := hD
  have hP9 := hP.sub (ws' := ul_wE cI (fun k => match k with | 0 => h0 | 1 => q7 | 2 => q15 | _ => 0) ul_Z) [0, 1, 2] rfl
  have hD9 := hD.sub (ws' := ul_wE cI (fun k => match k with | 0 => h0 | 1 => q7 | 2 => q15 | _ => 0) ul_Z) [0, 1, 2] (by decide) rfl
  exact W.vret hx hb hr (fun t ht hW => ⟨⟨(fun k => match k with | 0 => h0 | 1 => q7 | 2 => q15 | _ => 0), rfl, rfl, by rw [ht]; exact hP9, va_K.moved hW.alike hK, hD9⟩, hS.F ht⟩) hS.2.2 dX3_init_20
set_option maxHeartbeats 4000000 in
set_option maxRecDepth 100000 in
theorem c_X4_init (l : Launch) (dC : Nat → ClassId) (dI : Nat → Nat → Nat) (cI : ClassId) (sz h0 k1 : Nat) : Met l yX4_init wsX4_init ({ frames := 1, cells := 6, slots := 32, locals := 12 }) (va_Pc [.ref h0, .ref k1] (ul_pre (dC, dI) [(cI, .int)] ul_N0 sz [(h0, .inr (4, [.null, .null, .null, .null, .null, .null, .null, .int 0]))])) (va_Qv (fun (af : Nat → Nat) => af 0 = h0) (fun af => ul_post (dC, dI) [(cI, .int)] (va_A [(h0, .inr (4, [.null, .null, .null, .null, .null, .null, .null, .int 0]))] sz) (ul_wS cI af k1 ul_ZS)) (va_A [(h0, .inr (4, [.null, .null, .null, .null, .null, .null, .null, .int 0]))] sz)) 6 32 (va_A [(h0, .inr (4, [.null, .null, .null, .null, .null, .null, .null, .int 0]))] sz) := by
  refine Met.ofW (cc := cX4_init) (maxL := 3) (ret := none) (by decide) rfl ?_
  intro p e s m args below meth c s₁ BB hml hv
  obtain ⟨rfl, hsz, hP, hK, hD0, hN⟩ := hv
  have hx := BB.exec
  have hb := BB.bytes
  have hr := BB.returns
  have hts := atoms_spec (ws := wsX4_init) BB.pre
  have hown : s.vm.findClass RX4 = some m.cls := findClass_of_methodNamed BB.named
  have hlocks := BB.notSynchronized
  have hin : meth.name = "<init>" := (name_of_methodNamed BB.named BB.method).1
  have hin4 : ∀ w ∈ u_ws RX4 TX4 8, w ∈ wsX4_init := by decide +kernel
  subst hsz
  have hD := hD0.self (sz := s.heap.size)
  generalize hAe : va_A [(h0, .inr (4, [.null, .null, .null, .null, .null, .null, .null, .int 0]))] s.heap.size = A at hD hN ⊢
  have hA : ∀ q : Nat, s.heap.size ≤ q → A q := fun q h => by rw [← hAe]; exact Or.inr h
  have hS : va_S A s.heap s.heap [] := va_S.rf
  have hl := lv_entry ([.ref h0, .ref k1]) (n := 3) (Nat.le_of_ble_eq_true rfl)
  rw [lg_entry_eq]
  generalize (lg_sl ([.ref h0, .ref k1]) ++ List.replicate (3 - (lg_sl ([.ref h0, .ref k1])).length) Slot.unset).toArray = ls at hl ⊢
  have hl : lv_has ls 3 [(0, .ref h0), (1, .ref k1)] := hl
  refine lv_aload_n hx hb dX4_init_0 rfl (lv_at hl 0 rfl) ?_
  refine W.objInit hx hb hown (hts (.methodLink RX4 3 objectInit) (by decide +kernel)) (hts (.instanceMethod objectInit) (by decide +kernel)) (hts _ (List.mem_of_getElem? (i := 3) rfl)) rfl (by rw [hml]; exact hl.1) rfl dX4_init_1 (Nat.le_of_ble_eq_true rfl) (Nat.le_of_ble_eq_true rfl) ?_
  refine W.eq (g2 := F0 m 4 ls []) rfl ?_
  refine lv_aload_n hx hb dX4_init_4 rfl (lv_at hl 0 rfl) ?_
  refine lv_aload_n hx hb dX4_init_5 rfl (lv_at hl 1 rfl) ?_
  refine va_putF (D := (dC, dI)) (ci := 4) (v := .ref k1) (ty := .object "UnderLadders$Market") (C := RX4) (T := TX4) (N := 8) hx hb hts hin4 tyX4 tyX4_ok nmX4 hown hK hP hD hS 0 rfl rfl 0 (by decide) (hts (.fieldLink RX4 9 "UnderLadders$Street" "fixed" "LUnderLadders$Market;") (by decide +kernel)) (fun _ h9 => h9) rfl hin rfl (by decide +kernel) rfl rfl (Nat.le_of_ble_eq_true rfl) dX4_init_6 (fun H locs hP hD hS => ?_)
  have hP : va_P (dC, dI) classes [(h0, .inr (4, [.ref k1, .null, .null, .null, .null, .null, .null, .int 0]))] H := hP
  have hD : va_D A [(h0, .inr (4, [.ref k1, .null, .null, .null, .null, .null, .null, .int 0]))] := hD
  refine lv_aload_n hx hb dX4_init_9 rfl (lv_at hl 0 rfl) ?_
  refine lv_iconst (v := 4) hx hb dX4_init_10 (by decide) ?_
  refine va_newa (atype := .int) (ty := .int) (a0 := (4, .inl (fun _ => 0))) (N' := 4) hx hb (hts (.arrayClass .int) (by decide +kernel)) rfl hK hP hD hS hA (ul_nwi 4) (by decide) (by decide) (Nat.le_of_ble_eq_true rfl) (Nat.le_of_ble_eq_true rfl) (Nat.le_of_ble_eq_true rfl) dX4_init_11 (fun q11 cA H hK2 hP hD hS => ?_)
  have hcA : cI = cA := (ul_cu (fun _ h => by cases h) hK2 (i := 0) (j := 1) rfl rfl).symm
  subst hcA
  have hP : va_P (dC, dI) classes [(h0, .inr (4, [.ref k1, .null, .null, .null, .null, .null, .null, .int 0])), (q11, .inl (cI, 4, .inl (fun _ => 0)))] H := hP
  have hD : va_D A [(h0, .inr (4, [.ref k1, .null, .null, .null, .null, .null, .null, .int 0])), (q11, .inl (cI, 4, .inl (fun _ => 0)))] := hD
  refine W.widen (k := 1) (n := 4) (by decide) (by decide) ?_
  refine va_putF (D := (dC, dI)) (ci := 4) (v := .ref q11) (ty := .array .int) (C := RX4) (T := TX4) (N := 8) hx hb hts hin4 tyX4 tyX4_ok nmX4 hown hK hP hD hS 0 rfl rfl 1 (by decide) (hts (.fieldLink RX4 15 "UnderLadders$Street" "stand" "[I") (by decide +kernel)) (fun _ h9 => h9) rfl hin rfl (by decide +kernel) rfl rfl (Nat.le_of_ble_eq_true rfl) dX4_init_13 (fun H locs hP hD hS => ?_)
  have hP : va_P (dC, dI) classes [(h0, .inr (4, [.ref k1, .ref q11, .null, .null, .null, .null, .null, .int 0])), (q11, .inl (cI, 4, .inl (fun _ => 0)))] H := hP
  have hD : va_D A [(h0, .inr (4, [.ref k1, .ref q11, .null, .null, .null, .null, .null, .int 0])), (q11, .inl (cI, 4, .inl (fun _ => 0)))] := hD
  refine lv_aload_n hx hb dX4_init_16 rfl (lv_at hl 0 rfl) ?_
  refine lv_bipush (v := 10) hx hb dX4_init_17 (by decide) ?_
  refine va_newa (atype := .int) (ty := .int) (a0 := (10, .inl (fun _ => 0))) (N' := 10) hx hb (hts (.arrayClass .int) (by decide +kernel)) rfl hK hP hD hS hA (ul_nwi 10) (by decide) (by decide) (Nat.le_of_ble_eq_true rfl) (Nat.le_of_ble_eq_true rfl) (Nat.le_of_ble_eq_true rfl) dX4_init_19 (fun q19 cA H hK2 hP hD hS => ?_)
  have hcA : cI = cA := (ul_cu (fun _ h => by cases h) hK2 (i := 0) (j := 1) rfl rfl).symm
  subst hcA
  have hP : va_P (dC, dI) classes [(h0, .inr (4, [.ref k1, .ref q11, .null, .null, .null, .null, .null, .int 0])), (q11, .inl (cI, 4, .inl (fun _ => 0))), (q19, .inl (cI, 10, .inl (fun _ => 0)))] H := hP
  have hD : va_D A [(h0, .inr (4, [.ref k1, .ref q11, .null, .null, .null, .null, .null, .int 0])), (q11, .inl (cI, 4, .inl (fun _ => 0))), (q19, .inl (cI, 10, .inl (fun _ => 0)))] := hD
  refine W.widen (k := 2) (n := 14) (by decide) (by decide) ?_
  refine va_putF (D := (dC, dI)) (ci := 4) (v := .ref q19) (ty := .array .int) (C := RX4) (T := TX4) (N := 8) hx hb hts hin4 tyX4 tyX4_ok nmX4 hown hK hP hD hS 0 rfl rfl 2 (by decide) (hts (.fieldLink RX4 19 "UnderLadders$Street" "standing" "[I") (by decide +kernel)) (fun _ h9 => h9) rfl hin rfl (by decide +kernel) rfl rfl (Nat.le_of_ble_eq_true rfl) dX4_init_21 (fun H locs hP hD hS => ?_)
  have hP : va_P (dC, dI) classes [(h0, .inr (4, [.ref k1, .ref q11, .ref q19, .null, .null, .null, .null, .int 0])), (q11, .inl (cI, 4, .inl (fun _ => 0))), (q19, .inl (cI, 10, .inl (fun _ => 0)))] H := hP
  have hD : va_D A [(h0, .inr (4, [.ref k1, .ref q11, .ref q19, .null, .null, .null, .null, .int 0])), (q11, .inl (cI, 4, .inl (fun _ => 0))), (q19, .inl (cI, 10, .inl (fun _ => 0)))] := hD
  refine lv_aload_n hx hb dX4_init_24 rfl (lv_at hl 0 rfl) ?_
  refine lv_iconst (v := 4) hx hb dX4_init_25 (by decide) ?_
  refine va_newa (atype := .int) (ty := .int) (a0 := (4, .inl (fun _ => 0))) (N' := 4) hx hb (hts (.arrayClass .int) (by decide +kernel)) rfl hK hP hD hS hA (ul_nwi 4) (by decide) (by decide) (Nat.le_of_ble_eq_true rfl) (Nat.le_of_ble_eq_true rfl) (Nat.le_of_ble_eq_true rfl) dX4_init_26 (fun q26 cA H hK2 hP hD hS => ?_)
  have hcA : cI = cA := (ul_cu (fun _ h => by cases h) hK2 (i := 0) (j := 1) rfl rfl).symm
  subst hcA
  have hP : va_P (dC, dI) classes [(h0, .inr (4, [.ref k1, .ref q11, .ref q19, .null, .null, .null, .null, .int 0])), (q11, .inl (cI, 4, .inl (fun _ => 0))), (q19, .inl (cI, 10, .inl (fun _ => 0))), (q26, .inl (cI, 4, .inl (fun _ => 0)))] H := hP
  have hD : va_D A [(h0, .inr (4, [.ref k1, .ref q11, .ref q19, .null, .null, .null, .null, .int 0])), (q11, .inl (cI, 4, .inl (fun _ => 0))), (q19, .inl (cI, 10, .inl (fun _ => 0))), (q26, .inl (cI, 4, .inl (fun _ => 0)))] := hD
  refine W.widen (k := 3) (n := 18) (by decide) (by decide) ?_
  refine va_putF (D := (dC, dI)) (ci := 4) (v := .ref q26) (ty := .array .int) (C := RX4) (T := TX4) (N := 8) hx hb hts hin4 tyX4 tyX4_ok nmX4 hown hK hP hD hS 0 rfl rfl 3 (by decide) (hts (.fieldLink RX4 22 "UnderLadders$Street" "manLuck" "[I") (by decide +kernel)) (fun _ h9 => h9) rfl hin rfl (by decide +kernel) rfl rfl (Nat.le_of_ble_eq_true rfl) dX4_init_28 (fun H locs hP hD hS => ?_)
  have hP : va_P (dC, dI) classes [(h0, .inr (4, [.ref k1, .ref q11, .ref q19, .ref q26, .null, .null, .null, .int 0])), (q11, .inl (cI, 4, .inl (fun _ => 0))), (q19, .inl (cI, 10, .inl (fun _ => 0))), (q26, .inl (cI, 4, .inl (fun _ => 0)))] H := hP
  have hD : va_D A [(h0, .inr (4, [.ref k1, .ref q11, .ref q19, .ref q26, .null, .null, .null, .int 0])), (q11, .inl (cI, 4, .inl (fun _ => 0))), (q19, .inl (cI, 10, .inl (fun _ => 0))), (q26, .inl (cI, 4, .inl (fun _ => 0)))] := hD
  refine lv_aload_n hx hb dX4_init_31 rfl (lv_at hl 0 rfl) ?_
  refine lv_iconst (v := 4) hx hb dX4_init_32 (by decide) ?_
  refine va_newa (atype := .int) (ty := .int) (a0 := (4, .inl (fun _ => 0))) (N' := 4) hx hb (hts (.arrayClass .int) (by decide +kernel)) rfl hK hP hD hS hA (ul_nwi 4) (by decide) (by decide) (Nat.le_of_ble_eq_true rfl) (Nat.le_of_ble_eq_true rfl) (Nat.le_of_ble_eq_true rfl) dX4_init_33 (fun q33 cA H hK2 hP hD hS => ?_)
  have hcA : cI = cA := (ul_cu (fun _ h => by cases h) hK2 (i := 0) (j := 1) rfl rfl).symm
  subst hcA
  have hP : va_P (dC, dI) classes [(h0, .inr (4, [.ref k1, .ref q11, .ref q19, .ref q26, .null, .null, .null, .int 0])), (q11, .inl (cI, 4, .inl (fun _ => 0))), (q19, .inl (cI, 10, .inl (fun _ => 0))), (q26, .inl (cI, 4, .inl (fun _ => 0))), (q33, .inl (cI, 4, .inl (fun _ => 0)))] H := hP
  have hD : va_D A [(h0, .inr (4, [.ref k1, .ref q11, .ref q19, .ref q26, .null, .null, .null, .int 0])), (q11, .inl (cI, 4, .inl (fun _ => 0))), (q19, .inl (cI, 10, .inl (fun _ => 0))), (q26, .inl (cI, 4, .inl (fun _ => 0))), (q33, .inl (cI, 4, .inl (fun _ => 0)))] := hD
  refine W.widen (k := 4) (n := 22) (by decide) (by decide) ?_
  refine va_putF (D := (dC, dI)) (ci := 4) (v := .ref q33) (ty := .array .int) (C := RX4) (T := TX4) (N := 8) hx hb hts hin4 tyX4 tyX4_ok nmX4 hown hK hP hD hS 0 rfl rfl 4 (by decide) (hts (.fieldLink RX4 25 "UnderLadders$Street" "manGold" "[I") (by decide +kernel)) (fun _ h9 => h9) rfl hin rfl (by decide +kernel) rfl rfl (Nat.le_of_ble_eq_true rfl) dX4_init_35 (fun H locs hP hD hS => ?_)
  have hP : va_P (dC, dI) classes [(h0, .inr (4, [.ref k1, .ref q11, .ref q19, .ref q26, .ref q33, .null, .null, .int 0])), (q11, .inl (cI, 4, .inl (fun _ => 0))), (q19, .inl (cI, 10, .inl (fun _ => 0))), (q26, .inl (cI, 4, .inl (fun _ => 0))), (q33, .inl (cI, 4, .inl (fun _ => 0)))] H := hP
  have hD : va_D A [(h0, .inr (4, [.ref k1, .ref q11, .ref q19, .ref q26, .ref q33, .null, .null, .int 0])), (q11, .inl (cI, 4, .inl (fun _ => 0))), (q19, .inl (cI, 10, .inl (fun _ => 0))), (q26, .inl (cI, 4, .inl (fun _ => 0))), (q33, .inl (cI, 4, .inl (fun _ => 0)))] := hD
  refine lv_aload_n hx hb dX4_init_38 rfl (lv_at hl 0 rfl) ?_
  refine lv_iconst (v := 5) hx hb dX4_init_39 (by decide) ?_
  refine va_newa (atype := .int) (ty := .int) (a0 := (5, .inl (fun _ => 0))) (N' := 5) hx hb (hts (.arrayClass .int) (by decide +kernel)) rfl hK hP hD hS hA (ul_nwi 5) (by decide) (by decide) (Nat.le_of_ble_eq_true rfl) (Nat.le_of_ble_eq_true rfl) (Nat.le_of_ble_eq_true rfl) dX4_init_40 (fun q40 cA H hK2 hP hD hS => ?_)
  have hcA : cI = cA := (ul_cu (fun _ h => by cases h) hK2 (i := 0) (j := 1) rfl rfl).symm
  subst hcA
  have hP : va_P (dC, dI) classes [(h0, .inr (4, [.ref k1, .ref q11, .ref q19, .ref q26, .ref q33, .null, .null, .int 0])), (q11, .inl (cI, 4, .inl (fun _ => 0))), (q19, .inl (cI, 10, .inl (fun _ => 0))), (q26, .inl (cI, 4, .inl (fun _ => 0))), (q33, .inl (cI, 4, .inl (fun _ => 0))), (q40, .inl (cI, 5, .inl (fun _ => 0)))] H := hP
  have hD : va_D A [(h0, .inr (4, [.ref k1, .ref q11, .ref q19, .ref q26, .ref q33, .null, .null, .int 0])), (q11, .inl (cI, 4, .inl (fun _ => 0))), (q19, .inl (cI, 10, .inl (fun _ => 0))), (q26, .inl (cI, 4, .inl (fun _ => 0))), (q33, .inl (cI, 4, .inl (fun _ => 0))), (q40, .inl (cI, 5, .inl (fun _ => 0)))] := hD
  refine W.widen (k := 5) (n := 27) (by decide) (by decide) ?_
  refine va_putF (D := (dC, dI)) (ci := 4) (v := .ref q40) (ty := .array .int) (C := RX4) (T := TX4) (N := 8) hx hb hts hin4 tyX4 tyX4_ok nmX4 hown hK hP hD hS 0 rfl rfl 5 (by decide) (hts (.fieldLink RX4 28 "UnderLadders$Street" "where" "[I") (by decide +kernel)) (fun _ h9 => h9) rfl hin rfl (by decide +kernel) rfl rfl (Nat.le_of_ble_eq_true rfl) dX4_init_42 (fun H locs hP hD hS => ?_)
  have hP : va_P (dC, dI) classes [(h0, .inr (4, [.ref k1, .ref q11, .ref q19, .ref q26, .ref q33, .ref q40, .null, .int 0])), (q11, .inl (cI, 4, .inl (fun _ => 0))), (q19, .inl (cI, 10, .inl (fun _ => 0))), (q26, .inl (cI, 4, .inl (fun _ => 0))), (q33, .inl (cI, 4, .inl (fun _ => 0))), (q40, .inl (cI, 5, .inl (fun _ => 0)))] H := hP
  have hD : va_D A [(h0, .inr (4, [.ref k1, .ref q11, .ref q19, .ref q26, .ref q33, .ref q40, .null, .int 0])), (q11, .inl (cI, 4, .inl (fun _ => 0))), (q19, .inl (cI, 10, .inl (fun _ => 0))), (q26, .inl (cI, 4, .inl (fun _ => 0))), (q33, .inl (cI, 4, .inl (fun _ => 0))), (q40, .inl (cI, 5, .inl (fun _ => 0)))] := hD
  refine lv_aload_n hx hb dX4_init_45 rfl (lv_at hl 0 rfl) ?_
  refine lv_iconst (v := 5) hx hb dX4_init_46 (by decide) ?_
  refine va_newa (atype := .int) (ty := .int) (a0 := (5, .inl (fun _ => 0))) (N' := 5) hx hb (hts (.arrayClass .int) (by decide +kernel)) rfl hK hP hD hS hA (ul_nwi 5) (by decide) (by decide) (Nat.le_of_ble_eq_true rfl) (Nat.le_of_ble_eq_true rfl) (Nat.le_of_ble_eq_true rfl) dX4_init_47 (fun q47 cA H hK2 hP hD hS => ?_)
  have hcA : cI = cA := (ul_cu (fun _ h => by cases h) hK2 (i := 0) (j := 1) rfl rfl).symm
  subst hcA
  have hP : va_P (dC, dI) classes [(h0, .inr (4, [.ref k1, .ref q11, .ref q19, .ref q26, .ref q33, .ref q40, .null, .int 0])), (q11, .inl (cI, 4, .inl (fun _ => 0))), (q19, .inl (cI, 10, .inl (fun _ => 0))), (q26, .inl (cI, 4, .inl (fun _ => 0))), (q33, .inl (cI, 4, .inl (fun _ => 0))), (q40, .inl (cI, 5, .inl (fun _ => 0))), (q47, .inl (cI, 5, .inl (fun _ => 0)))] H := hP
  have hD : va_D A [(h0, .inr (4, [.ref k1, .ref q11, .ref q19, .ref q26, .ref q33, .ref q40, .null, .int 0])), (q11, .inl (cI, 4, .inl (fun _ => 0))), (q19, .inl (cI, 10, .inl (fun _ => 0))), (q26, .inl (cI, 4, .inl (fun _ => 0))), (q33, .inl (cI, 4, .inl (fun _ => 0))), (q40, .inl (cI, 5, .inl (fun _ => 0))), (q47, .inl (cI, 5, .inl (fun _ => 0)))] := hD
  refine W.widen (k := 6) (n := 32) (by decide) (by decide) ?_
  refine va_putF (D := (dC, dI)) (ci := 4) (v := .ref q47) (ty := .array .int) (C := RX4) (T := TX4) (N := 8) hx hb hts hin4 tyX4 tyX4_ok nmX4 hown hK hP hD hS 0 rfl rfl 6 (by decide) (hts (.fieldLink RX4 31 "UnderLadders$Street" "ownLuck" "[I") (by decide +kernel)) (fun _ h9 => h9) rfl hin rfl (by decide +kernel) rfl rfl (Nat.le_of_ble_eq_true rfl) dX4_init_49 (fun H locs hP hD hS => ?_)
  have hP : va_P (dC, dI) classes [(h0, .inr (4, [.ref k1, .ref q11, .ref q19, .ref q26, .ref q33, .ref q40, .ref q47, .int 0])), (q11, .inl (cI, 4, .inl (fun _ => 0))), (q19, .inl (cI, 10, .inl (fun _ => 0))), (q26, .inl (cI, 4, .inl (fun _ => 0))), (q33, .inl (cI, 4, .inl (fun _ => 0))), (q40, .inl (cI, 5, .inl (fun _ => 0))), (q47, .inl (cI, 5, .inl (fun _ => 0)))] H := hP
  have hD : va_D A [(h0, .inr (4, [.ref k1, .ref q11, .ref q19, .ref q26, .ref q33, .ref q40, .ref q47, .int 0])), (q11, .inl (cI, 4, .inl (fun _ => 0))), (q19, .inl (cI, 10, .inl (fun _ => 0))), (q26, .inl (cI, 4, .inl (fun _ => 0))), (q33, .inl (cI, 4, .inl (fun _ => 0))), (q40, .inl (cI, 5, .inl (fun _ => 0))), (q47, .inl (cI, 5, .inl (fun _ => 0)))] := hD
  refine lv_iconst (v := 0) hx hb dX4_init_52 (by decide) ?_
  refine lv_istore_n (lv' := [(2, .int 0), (0, .ref h0), (1, .ref k1)]) hx hb dX4_init_53 rfl hl (by decide) rfl (fun ls hl => ?_)
  refine lv_iload_n hx hb dX4_init_54 rfl (lv_at hl 0 rfl) ?_
  refine lv_bipush (v := 10) hx hb dX4_init_55 (by decide) ?_
  refine lv_icmp_ge (tgt := 74) hx hb dX4_init_57 (by decide) (fun hc => absurd hc (by decide)) (fun _ => ?_)
  refine lv_aload_n hx hb dX4_init_60 rfl (lv_at hl 1 rfl) ?_
  refine va_get (D := (dC, dI)) (ci := 4) (v := .ref q19) (C := RX4) (T := TX4) (N := 8) hx hb hts hin4 hown hK hP 0 rfl rfl 2 (by decide) (hts (.fieldLink RX4 19 "UnderLadders$Street" "standing" "[I") (by decide +kernel)) (fun _ h9 => h9) rfl dX4_init_61 ?_
  refine lv_iload_n hx hb dX4_init_64 rfl (lv_at hl 0 rfl) ?_
  refine lv_bipush (v := -9) hx hb dX4_init_65 (by decide) ?_
  refine va_iast hx hb hK hP hD hS 2 0 rfl rfl (by unfold vp_in; decide) dX4_init_67 (fun H locs hP hD hS => ?_)
  have hP : va_P (dC, dI) classes [(h0, .inr (4, [.ref k1, .ref q11, .ref q19, .ref q26, .ref q33, .ref q40, .ref q47, .int 0])), (q11, .inl (cI, 4, .inl (fun _ => 0))), (q19, .inl (cI, 10, .inl (upd (fun _ => 0) 0 (-9)))), (q26, .inl (cI, 4, .inl (fun _ => 0))), (q33, .inl (cI, 4, .inl (fun _ => 0))), (q40, .inl (cI, 5, .inl (fun _ => 0))), (q47, .inl (cI, 5, .inl (fun _ => 0)))] H := hP
  have hD : va_D A [(h0, .inr (4, [.ref k1, .ref q11, .ref q19, .ref q26, .ref q33, .ref q40, .ref q47, .int 0])), (q11, .inl (cI, 4, .inl (fun _ => 0))), (q19, .inl (cI, 10, .inl (upd (fun _ => 0) 0 (-9)))), (q26, .inl (cI, 4, .inl (fun _ => 0))), (q33, .inl (cI, 4, .inl (fun _ => 0))), (q40, .inl (cI, 5, .inl (fun _ => 0))), (q47, .inl (cI, 5, .inl (fun _ => 0)))] := hD
  refine lv_iinc (v := 1) (lv' := [(2, .int 1), (0, .ref h0), (1, .ref k1)]) hx hb dX4_init_68 hl (k := 0) rfl (by decide) (by decide) rfl (fun ls hl => ?_)
  refine lv_goto (tgt := 54) hx hb dX4_init_71 (by decide) ?_
  refine lv_iload_n hx hb dX4_init_54 rfl (lv_at hl 0 rfl) ?_
  refine lv_bipush (v := 10) hx hb dX4_init_55 (by decide) ?_
  refine lv_icmp_ge (tgt := 74) hx hb dX4_init_57 (by decide) (fun hc => absurd hc (by decide)) (fun _ => ?_)
  refine lv_aload_n hx hb dX4_init_60 rfl (lv_at hl 1 rfl) ?_
  refine va_get (D := (dC, dI)) (ci := 4) (v := .ref q19) (C := RX4) (T := TX4) (N := 8) hx hb hts hin4 hown hK hP 0 rfl rfl 2 (by decide) (hts (.fieldLink RX4 19 "UnderLadders$Street" "standing" "[I") (by decide +kernel)) (fun _ h9 => h9) rfl dX4_init_61 ?_
  refine lv_iload_n hx hb dX4_init_64 rfl (lv_at hl 0 rfl) ?_
  refine lv_bipush (v := -9) hx hb dX4_init_65 (by decide) ?_
  refine va_iast hx hb hK hP hD hS 2 0 rfl rfl (by unfold vp_in; decide) dX4_init_67 (fun H locs hP hD hS => ?_)
  have hP : va_P (dC, dI) classes [(h0, .inr (4, [.ref k1, .ref q11, .ref q19, .ref q26, .ref q33, .ref q40, .ref q47, .int 0])), (q11, .inl (cI, 4, .inl (fun _ => 0))), (q19, .inl (cI, 10, .inl (upd (upd (fun _ => 0) 0 (-9)) 1 (-9)))), (q26, .inl (cI, 4, .inl (fun _ => 0))), (q33, .inl (cI, 4, .inl (fun _ => 0))), (q40, .inl (cI, 5, .inl (fun _ => 0))), (q47, .inl (cI, 5, .inl (fun _ => 0)))] H := hP
  have hD : va_D A [(h0, .inr (4, [.ref k1, .ref q11, .ref q19, .ref q26, .ref q33, .ref q40, .ref q47, .int 0])), (q11, .inl (cI, 4, .inl (fun _ => 0))), (q19, .inl (cI, 10, .inl (upd (upd (fun _ => 0) 0 (-9)) 1 (-9)))), (q26, .inl (cI, 4, .inl (fun _ => 0))), (q33, .inl (cI, 4, .inl (fun _ => 0))), (q40, .inl (cI, 5, .inl (fun _ => 0))), (q47, .inl (cI, 5, .inl (fun _ => 0)))] := hD
  refine lv_iinc (v := 2) (lv' := [(2, .int 2), (0, .ref h0), (1, .ref k1)]) hx hb dX4_init_68 hl (k := 0) rfl (by decide) (by decide) rfl (fun ls hl => ?_)
  refine lv_goto (tgt := 54) hx hb dX4_init_71 (by decide) ?_
  refine lv_iload_n hx hb dX4_init_54 rfl (lv_at hl 0 rfl) ?_
  refine lv_bipush (v := 10) hx hb dX4_init_55 (by decide) ?_
  refine lv_icmp_ge (tgt := 74) hx hb dX4_init_57 (by decide) (fun hc => absurd hc (by decide)) (fun _ => ?_)
  refine lv_aload_n hx hb dX4_init_60 rfl (lv_at hl 1 rfl) ?_
  refine va_get (D := (dC, dI)) (ci := 4) (v := .ref q19) (C := RX4) (T := TX4) (N := 8) hx hb hts hin4 hown hK hP 0 rfl rfl 2 (by decide) (hts (.fieldLink RX4 19 "UnderLadders$Street" "standing" "[I") (by decide +kernel)) (fun _ h9 => h9) rfl dX4_init_61 ?_
  refine lv_iload_n hx hb dX4_init_64 rfl (lv_at hl 0 rfl) ?_
  refine lv_bipush (v := -9) hx hb dX4_init_65 (by decide) ?_
  refine va_iast hx hb hK hP hD hS 2 0 rfl rfl (by unfold vp_in; decide) dX4_init_67 (fun H locs hP hD hS => ?_)
  have hP : va_P (dC, dI) classes [(h0, .inr (4, [.ref k1, .ref q11, .ref q19, .ref q26, .ref q33, .ref q40, .ref q47, .int 0])), (q11, .inl (cI, 4, .inl (fun _ => 0))), (q19, .inl (cI, 10, .inl (upd (upd (upd (fun _ => 0) 0 (-9)) 1 (-9)) 2 (-9)))), (q26, .inl (cI, 4, .inl (fun _ => 0))), (q33, .inl (cI, 4, .inl (fun _ => 0))), (q40, .inl (cI, 5, .inl (fun _ => 0))), (q47, .inl (cI, 5, .inl (fun _ => 0)))] H := hP
  have hD : va_D A [(h0, .inr (4, [.ref k1, .ref q11, .ref q19, .ref q26, .ref q33, .ref q40, .ref q47, .int 0])), (q11, .inl (cI, 4, .inl (fun _ => 0))), (q19, .inl (cI, 10, .inl (upd (upd (upd (fun _ => 0) 0 (-9)) 1 (-9)) 2 (-9)))), (q26, .inl (cI, 4, .inl (fun _ => 0))), (q33, .inl (cI, 4, .inl (fun _ => 0))), (q40, .inl (cI, 5, .inl (fun _ => 0))), (q47, .inl (cI, 5, .inl (fun _ => 0)))] := hD
  refine lv_iinc (v := 3) (lv' := [(2, .int 3), (0, .ref h0), (1, .ref k1)]) hx hb dX4_init_68 hl (k := 0) rfl (by decide) (by decide) rfl (fun ls hl => ?_)
  refine lv_goto (tgt := 54) hx hb dX4_init_71 (by decide) ?_
  refine lv_iload_n hx hb dX4_init_54 rfl (lv_at hl 0 rfl) ?_
  refine lv_bipush (v := 10) hx hb dX4_init_55 (by decide) ?_
  refine lv_icmp_ge (tgt := 74) hx hb dX4_init_57 (by decide) (fun hc => absurd hc (by decide)) (fun _ => ?_)
  refine lv_aload_n hx hb dX4_init_60 rfl (lv_at hl 1 rfl) ?_
  refine va_get (D := (dC, dI)) (ci := 4) (v := .ref q19) (C := RX4) (T := TX4) (N := 8) hx hb hts hin4 hown hK hP 0 rfl rfl 2 (by decide) (hts (.fieldLink RX4 19 "UnderLadders$Street" "standing" "[I") (by decide +kernel)) (fun _ h9 => h9) rfl dX4_init_61 ?_
  refine lv_iload_n hx hb dX4_init_64 rfl (lv_at hl 0 rfl) ?_
  refine lv_bipush (v := -9) hx hb dX4_init_65 (by decide) ?_
  refine va_iast hx hb hK hP hD hS 2 0 rfl rfl (by unfold vp_in; decide) dX4_init_67 (fun H locs hP hD hS => ?_)
  have hP : va_P (dC, dI) classes [(h0, .inr (4, [.ref k1, .ref q11, .ref q19, .ref q26, .ref q33, .ref q40, .ref q47, .int 0])), (q11, .inl (cI, 4, .inl (fun _ => 0))), (q19, .inl (cI, 10, .inl (upd (upd (upd (upd (fun _ => 0) 0 (-9)) 1 (-9)) 2 (-9)) 3 (-9)))), (q26, .inl (cI, 4, .inl (fun _ => 0))), (q33, .inl (cI, 4, .inl (fun _ => 0))), (q40, .inl (cI, 5, .inl (fun _ => 0))), (q47, .inl (cI, 5, .inl (fun _ => 0)))] H := hP
  have hD : va_D A [(h0, .inr (4, [.ref k1, .ref q11, .ref q19, .ref q26, .ref q33, .ref q40, .ref q47, .int 0])), (q11, .inl (cI, 4, .inl (fun _ => 0))), (q19, .inl (cI, 10, .inl (upd (upd (upd (upd (fun _ => 0) 0 (-9)) 1 (-9)) 2 (-9)) 3 (-9)))), (q26, .inl (cI, 4, .inl (fun _ => 0))), (q33, .inl (cI, 4, .inl (fun _ => 0))), (q40, .inl (cI, 5, .inl (fun _ => 0))), (q47, .inl (cI, 5, .inl (fun _ => 0)))] := hD
  refine lv_iinc (v := 4) (lv' := [(2, .int 4), (0, .ref h0), (1, .ref k1)]) hx hb dX4_init_68 hl (k := 0) rfl (by decide) (by decide) rfl (fun ls hl => ?_)
  refine lv_goto (tgt := 54) hx hb dX4_init_71 (by decide) ?_
  refine lv_iload_n hx hb dX4_init_54 rfl (lv_at hl 0 rfl) ?_
  refine lv_bipush (v := 10) hx hb dX4_init_55 (by decide) ?_
  refine lv_icmp_ge (tgt := 74) hx hb dX4_init_57 (by decide) (fun hc => absurd hc (by decide)) (fun _ => ?_)
  refine lv_aload_n hx hb dX4_init_60 rfl (lv_at hl 1 rfl) ?_
  refine va_get (D := (dC, dI)) (ci := 4) (v := .ref q19) (C := RX4) (T := TX4) (N := 8) hx hb hts hin4 hown hK hP 0 rfl rfl 2 (by decide) (hts (.fieldLink RX4 19 "UnderLadders$Street" "standing" "[I") (by decide +kernel)) (fun _ h9 => h9) rfl dX4_init_61 ?_
  refine lv_iload_n hx hb dX4_init_64 rfl (lv_at hl 0 rfl) ?_
  refine lv_bipush (v := -9) hx hb dX4_init_65 (by decide) ?_
  refine va_iast hx hb hK hP hD hS 2 0 rfl rfl (by unfold vp_in; decide) dX4_init_67 (fun H locs hP hD hS => ?_)
  have hP : va_P (dC, dI) classes [(h0, .inr (4, [.ref k1, .ref q11, .ref q19, .ref q26, .ref q33, .ref q40, .ref q47, .int 0])), (q11, .inl (cI, 4, .inl (fun _ => 0))), (q19, .inl (cI, 10, .inl (upd (upd (upd (upd (upd (fun _ => 0) 0 (-9)) 1 (-9)) 2 (-9)) 3 (-9)) 4 (-9)))), (q26, .inl (cI, 4, .inl (fun _ => 0))), (q33, .inl (cI, 4, .inl (fun _ => 0))), (q40, .inl (cI, 5, .inl (fun _ => 0))), (q47, .inl (cI, 5, .inl (fun _ => 0)))] H := hP
  have hD : va_D A [(h0, .inr (4, [.ref k1, .ref q11, .ref q19, .ref q26, .ref q33, .ref q40, .ref q47, .int 0])), (q11, .inl (cI, 4, .inl (fun _ => 0))), (q19, .inl (cI, 10, .inl (upd (upd (upd (upd (upd (fun _ => 0) 0 (-9)) 1 (-9)) 2 (-9)) 3 (-9)) 4 (-9)))), (q26, .inl (cI, 4, .inl (fun _ => 0))), (q33, .inl (cI, 4, .inl (fun _ => 0))), (q40, .inl (cI, 5, .inl (fun _ => 0))), (q47, .inl (cI, 5, .inl (fun _ => 0)))] := hD
  refine lv_iinc (v := 5) (lv' := [(2, .int 5), (0, .ref h0), (1, .ref k1)]) hx hb dX4_init_68 hl (k := 0) rfl (by decide) (by decide) rfl (fun ls hl => ?_)
  refine lv_goto (tgt := 54) hx hb dX4_init_71 (by decide) ?_
  refine lv_iload_n hx hb dX4_init_54 rfl (lv_at hl 0 rfl) ?_
  refine lv_bipush (v := 10) hx hb dX4_init_55 (by decide) ?_
  refine lv_icmp_ge (tgt := 74) hx hb dX4_init_57 (by decide) (fun hc => absurd hc (by decide)) (fun _ => ?_)
  refine lv_aload_n hx hb dX4_init_60 rfl (lv_at hl 1 rfl) ?_
  refine va_get (D := (dC, dI)) (ci := 4) (v := .ref q19) (C := RX4) (T := TX4) (N := 8) hx hb hts hin4 hown hK hP 0 rfl rfl 2 (by decide) (hts (.fieldLink RX4 19 "UnderLadders$Street" "standing" "[I") (by decide +kernel)) (fun _ h9 => h9) rfl dX4_init_61 ?_
  refine lv_iload_n hx hb dX4_init_64 rfl (lv_at hl 0 rfl) ?_
  refine lv_bipush (v := -9) hx hb dX4_init_65 (by decide) ?_
  refine va_iast hx hb hK hP hD hS 2 0 rfl rfl (by unfold vp_in; decide) dX4_init_67 (fun H locs hP hD hS => ?_)
  have hP : va_P (dC, dI) classes [(h0, .inr (4, [.ref k1, .ref q11, .ref q19, .ref q26, .ref q33, .ref q40, .ref q47, .int 0])), (q11, .inl (cI, 4, .inl (fun _ => 0))), (q19, .inl (cI, 10, .inl (upd (upd (upd (upd (upd (upd (fun _ => 0) 0 (-9)) 1 (-9)) 2 (-9)) 3 (-9)) 4 (-9)) 5 (-9)))), (q26, .inl (cI, 4, .inl (fun _ => 0))), (q33, .inl (cI, 4, .inl (fun _ => 0))), (q40, .inl (cI, 5, .inl (fun _ => 0))), (q47, .inl (cI, 5, .inl (fun _ => 0)))] H := hP
  have hD : va_D A [(h0, .inr (4, [.ref k1, .ref q11, .ref q19, .ref q26, .ref q33, .ref q40, .ref q47, .int 0])), (q11, .inl (cI, 4, .inl (fun _ => 0))), (q19, .inl (cI, 10, .inl (upd (upd (upd (upd (upd (upd (fun _ => 0) 0 (-9)) 1 (-9)) 2 (-9)) 3 (-9)) 4 (-9)) 5 (-9)))), (q26, .inl (cI, 4, .inl (fun _ => 0))), (q33, .inl (cI, 4, .inl (fun _ => 0))), (q40, .inl (cI, 5, .inl (fun _ => 0))), (q47, .inl (cI, 5, .inl (fun _ => 0)))] := hD
  refine lv_iinc (v := 6) (lv' := [(2, .int 6), (0, .ref h0), (1, .ref k1)]) hx hb dX4_init_68 hl (k := 0) rfl (by decide) (by decide) rfl (fun ls hl => ?_)
  refine lv_goto (tgt := 54) hx hb dX4_init_71 (by decide) ?_
  refine lv_iload_n hx hb dX4_init_54 rfl (lv_at hl 0 rfl) ?_
  refine lv_bipush (v := 10) hx hb dX4_init_55 (by decide) ?_
  refine lv_icmp_ge (tgt := 74) hx hb dX4_init_57 (by decide) (fun hc => absurd hc (by decide)) (fun _ => ?_)
  refine lv_aload_n hx hb dX4_init_60 rfl (lv_at hl 1 rfl) ?_
  refine va_get (D := (dC, dI)) (ci := 4) (v := .ref q19) (C := RX4) (T := TX4) (N := 8) hx hb hts hin4 hown hK hP 0 rfl rfl 2 (by decide) (hts (.fieldLink RX4 19 "UnderLadders$Street" "standing" "[I") (by decide +kernel)) (fun _ h9 => h9) rfl dX4_init_61 ?_
  refine lv_iload_n hx hb dX4_init_64 rfl (lv_at hl 0 rfl) ?_
  refine lv_bipush (v := -9) hx hb dX4_init_65 (by decide) ?_
  refine va_iast hx hb hK hP hD hS 2 0 rfl rfl (by unfold vp_in; decide) dX4_init_67 (fun H locs hP hD hS => ?_)
  have hP : va_P (dC, dI) classes [(h0, .inr (4, [.ref k1, .ref q11, .ref q19, .ref q26, .ref q33, .ref q40, .ref q47, .int 0])), (q11, .inl (cI, 4, .inl (fun _ => 0))), (q19, .inl (cI, 10, .inl (upd (upd (upd (upd (upd (upd (upd (fun _ => 0) 0 (-9)) 1 (-9)) 2 (-9)) 3 (-9)) 4 (-9)) 5 (-9)) 6 (-9)))), (q26, .inl (cI, 4, .inl (fun _ => 0))), (q33, .inl (cI, 4, .inl (fun _ => 0))), (q40, .inl (cI, 5, .inl (fun _ => 0))), (q47, .inl (cI, 5, .inl (fun _ => 0)))] H := hP
  have hD : va_D A [(h0, .inr (4, [.ref k1, .ref q11, .ref q19, .ref q26, .ref q33, .ref q40, .ref q47, .int 0])), (q11, .inl (cI, 4, .inl (fun _ => 0))), (q19, .inl (cI, 10, .inl (upd (upd (upd (upd (upd (upd (upd (fun _ => 0) 0 (-9)) 1 (-9)) 2 (-9)) 3 (-9)) 4 (-9)) 5 (-9)) 6 (-9)))), (q26, .inl (cI, 4, .inl (fun _ => 0))), (q33, .inl (cI, 4, .inl (fun _ => 0))), (q40, .inl (cI, 5, .inl (fun _ => 0))), (q47, .inl (cI, 5, .inl (fun _ => 0)))] := hD
  refine lv_iinc (v := 7) (lv' := [(2, .int 7), (0, .ref h0), (1, .ref k1)]) hx hb dX4_init_68 hl (k := 0) rfl (by decide) (by decide) rfl (fun ls hl => ?_)
  refine lv_goto (tgt := 54) hx hb dX4_init_71 (by decide) ?_
  refine lv_iload_n hx hb dX4_init_54 rfl (lv_at hl 0 rfl) ?_
  refine lv_bipush (v := 10) hx hb dX4_init_55 (by decide) ?_
  refine lv_icmp_ge (tgt := 74) hx hb dX4_init_57 (by decide) (fun hc => absurd hc (by decide)) (fun _ => ?_)
  refine lv_aload_n hx hb dX4_init_60 rfl (lv_at hl 1 rfl) ?_
  refine va_get (D := (dC, dI)) (ci := 4) (v := .ref q19) (C := RX4) (T := TX4) (N := 8) hx hb hts hin4 hown hK hP 0 rfl rfl 2 (by decide) (hts (.fieldLink RX4 19 "UnderLadders$Street" "standing" "[I") (by decide +kernel)) (fun _ h9 => h9) rfl dX4_init_61 ?_
  refine lv_iload_n hx hb dX4_init_64 rfl (lv_at hl 0 rfl) ?_
  refine lv_bipush (v := -9) hx hb dX4_init_65 (by decide) ?_
  refine va_iast hx hb hK hP hD hS 2 0 rfl rfl (by unfold vp_in; decide) dX4_init_67 (fun H locs hP hD hS => ?_)
  have hP : va_P (dC, dI) classes [(h0, .inr (4, [.ref k1, .ref q11, .ref q19, .ref q26, .ref q33, .ref q40, .ref q47, .int 0])), (q11, .inl (cI, 4, .inl (fun _ => 0))), (q19, .inl (cI, 10, .inl (upd (upd (upd (upd (upd (upd (upd (upd (fun _ => 0) 0 (-9)) 1 (-9)) 2 (-9)) 3 (-9)) 4 (-9)) 5 (-9)) 6 (-9)) 7 (-9)))), (q26, .inl (cI, 4, .inl (fun _ => 0))), (q33, .inl (cI, 4, .inl (fun _ => 0))), (q40, .inl (cI, 5, .inl (fun _ => 0))), (q47, .inl (cI, 5, .inl (fun _ => 0)))] H := hP
  have hD : va_D A [(h0, .inr (4, [.ref k1, .ref q11, .ref q19, .ref q26, .ref q33, .ref q40, .ref q47, .int 0])), (q11, .inl (cI, 4, .inl (fun _ => 0))), (q19, .inl (cI, 10, .inl (upd (upd (upd (upd (upd (upd (upd (upd (fun _ => 0) 0 (-9)) 1 (-9)) 2 (-9)) 3 (-9)) 4 (-9)) 5 (-9)) 6 (-9)) 7 (-9)))), (q26, .inl (cI, 4, .inl (fun _ => 0))), (q33, .inl (cI, 4, .inl (fun _ => 0))), (q40, .inl (cI, 5, .inl (fun _ => 0))), (q47, .inl (cI, 5, .inl (fun _ => 0)))] := hD
  refine lv_iinc (v := 8) (lv' := [(2, .int 8), (0, .ref h0), (1, .ref k1)]) hx hb dX4_init_68 hl (k := 0) rfl (by decide) (by decide) rfl (fun ls hl => ?_)
  refine lv_goto (tgt := 54) hx hb dX4_init_71 (by decide) ?_
  refine lv_iload_n hx hb dX4_init_54 rfl (lv_at hl 0 rfl) ?_
  refine lv_bipush (v := 10) hx hb dX4_init_55 (by decide) ?_
  refine lv_icmp_ge (tgt := 74) hx hb dX4_init_57 (by decide) (fun hc => absurd hc (by decide)) (fun _ => ?_)
  refine lv_aload_n hx hb dX4_init_60 rfl (lv_at hl 1 rfl) ?_
  refine va_get (D := (dC, dI)) (ci := 4) (v := .ref q19) (C := RX4) (T := TX4) (N := 8) hx hb hts hin4 hown hK hP 0 rfl rfl 2 (by decide) (hts (.fieldLink RX4 19 "UnderLadders$Street" "standing" "[I") (by decide +kernel)) (fun _ h9 => h9) rfl dX4_init_61 ?_
  refine lv_iload_n hx hb dX4_init_64 rfl (lv_at hl 0 rfl) ?_
  refine lv_bipush (v := -9) hx hb dX4_init_65 (by decide) ?_
  refine va_iast hx hb hK hP hD hS 2 0 rfl rfl (by unfold vp_in; decide) dX4_init_67 (fun H locs hP hD hS => ?_)
  have hP : va_P (dC, dI) classes [(h0, .inr (4, [.ref k1, .ref q11, .ref q19, .ref q26, .ref q33, .ref q40, .ref q47, .int 0])), (q11, .inl (cI, 4, .inl (fun _ => 0))), (q19, .inl (cI, 10, .inl (upd (upd (upd (upd (upd (upd (upd (upd (upd (fun _ => 0) 0 (-9)) 1 (-9)) 2 (-9)) 3 (-9)) 4 (-9)) 5 (-9)) 6 (-9)) 7 (-9)) 8 (-9)))), (q26, .inl (cI, 4, .inl (fun _ => 0))), (q33, .inl (cI, 4, .inl (fun _ => 0))), (q40, .inl (cI, 5, .inl (fun _ => 0))), (q47, .inl (cI, 5, .inl (fun _ => 0)))] H := hP
  have hD : va_D A [(h0, .inr (4, [.ref k1, .ref q11, .ref q19, .ref q26, .ref q33, .ref q40, .ref q47, .int 0])), (q11, .inl (cI, 4, .inl (fun _ => 0))), (q19, .inl (cI, 10, .inl (upd (upd (upd (upd (upd (upd (upd (upd (upd (fun _ => 0) 0 (-9)) 1 (-9)) 2 (-9)) 3 (-9)) 4 (-9)) 5 (-9)) 6 (-9)) 7 (-9)) 8 (-9)))), (q26, .inl (cI, 4, .inl (fun _ => 0))), (q33, .inl (cI, 4, .inl (fun _ => 0))), (q40, .inl (cI, 5, .inl (fun _ => 0))), (q47, .inl (cI, 5, .inl (fun _ => 0)))] := hD
  refine lv_iinc (v := 9) (lv' := [(2, .int 9), (0, .ref h0), (1, .ref k1)]) hx hb dX4_init_68 hl (k := 0) rfl (by decide) (by decide) rfl (fun ls hl => ?_)
  refine lv_goto (tgt := 54) hx hb dX4_init_71 (by decide) ?_
  refine lv_iload_n hx hb dX4_init_54 rfl (lv_at hl 0 rfl) ?_
  refine lv_bipush (v := 10) hx hb dX4_init_55 (by decide) ?_
  refine lv_icmp_ge (tgt := 74) hx hb dX4_init_57 (by decide) (fun hc => absurd hc (by decide)) (fun _ => ?_)
  refine lv_aload_n hx hb dX4_init_60 rfl (lv_at hl 1 rfl) ?_
  refine va_get (D := (dC, dI)) (ci := 4) (v := .ref q19) (C := RX4) (T := TX4) (N := 8) hx hb hts hin4 hown hK hP 0 rfl rfl 2 (by decide) (hts (.fieldLink RX4 19 "UnderLadders$Street" "standing" "[I") (by decide +kernel)) (fun _ h9 => h9) rfl dX4_init_61 ?_
  refine lv_iload_n hx hb dX4_init_64 rfl (lv_at hl 0 rfl) ?_
  refine lv_bipush (v := -9) hx hb dX4_init_65 (by decide) ?_
  refine va_iast hx hb hK hP hD hS 2 0 rfl rfl (by unfold vp_in; decide) dX4_init_67 (fun H locs hP hD hS => ?_)
  have hP : va_P (dC, dI) classes [(h0, .inr (4, [.ref k1, .ref q11, .ref q19, .ref q26, .ref q33, .ref q40, .ref q47, .int 0])), (q11, .inl (cI, 4, .inl (fun _ => 0))), (q19, .inl (cI, 10, .inl (upd (upd (upd (upd (upd (upd (upd (upd (upd (upd (fun _ => 0) 0 (-9)) 1 (-9)) 2 (-9)) 3 (-9)) 4 (-9)) 5 (-9)) 6 (-9)) 7 (-9)) 8 (-9)) 9 (-9)))), (q26, .inl (cI, 4, .inl (fun _ => 0))), (q33, .inl (cI, 4, .inl (fun _ => 0))), (q40, .inl (cI, 5, .inl (fun _ => 0))), (q47, .inl (cI, 5, .inl (fun _ => 0)))] H := hP
  have hD : va_D A [(h0, .inr (4, [.ref k1, .ref q11, .ref q19, .ref q26, .ref q33, .ref q40, .ref q47, .int 0])), (q11, .inl (cI, 4, .inl (fun _ => 0))), (q19, .inl (cI, 10, .inl (upd (upd (upd (upd (upd (upd (upd (upd (upd (upd (fun _ => 0) 0 (-9)) 1 (-9)) 2 (-9)) 3 (-9)) 4 (-9)) 5 (-9)) 6 (-9)) 7 (-9)) 8 (-9)) 9 (-9)))), (q26, .inl (cI, 4, .inl (fun _ => 0))), (q33, .inl (cI, 4, .inl (fun _ => 0))), (q40, .inl (cI, 5, .inl (fun _ => 0))), (q47, .inl (cI, 5, .inl (fun _ => 0)))] := hD
  refine lv_iinc (v := 10) (lv' := [(2, .int 10), (0, .ref h0), (1, .ref k1)]) hx hb dX4_init_68 hl (k := 0) rfl (by decide) (by decide) rfl (fun ls hl => ?_)
  refine lv_goto (tgt := 54) hx hb dX4_init_71 (by decide) ?_
  refine lv_iload_n hx hb dX4_init_54 rfl (lv_at hl 0 rfl) ?_
  refine lv_bipush (v := 10) hx hb dX4_init_55 (by decide) ?_
  refine lv_icmp_ge (tgt := 74) hx hb dX4_init_57 (by decide) (fun _ => ?_) (fun hc => absurd (by decide) hc)
  have hP9 := hP.sub (ws' := ul_wS cI (fun k => match k with | 0 => h0 | 1 => q11 | 2 => q19 | 3 => q26 | 4 => q33 | 5 => q40 | 6 => q47 | _ => 0) k1 ul_ZS) [0, 1, 2, 3, 4, 5, 6] rfl
  have hD9 := hD.sub (ws' := ul_wS cI (fun k => match k with | 0 => h0 | 1 => q11 | 2 => q19 | 3 => q26 | 4 => q33 | 5 => q40 | 6 => q47 | _ => 0) k1 ul_ZS) [0, 1, 2, 3, 4, 5, 6] (by decide) rfl
  exact W.vret hx hb hr (fun t ht hW => ⟨⟨(fun k => match k with | 0 => h0 | 1 => q11 | 2 => q19 | 3 => q26 | 4 => q33 | 5 => q40 | 6 => q47 | _ => 0), rfl, rfl, by rw [ht]; exact hP9, va_K.moved hW.alike hK, hD9⟩, hS.F ht⟩) hS.2.2 dX4_init_74
set_option maxHeartbeats 4000000 in
set_option maxRecDepth 100000 in
theorem c_X1_init (l : Launch) (dC : Nat → ClassId) (dI : Nat → Nat → Nat) (cI : ClassId) (sz h0 k1 k2 k3 : Nat) : Met l yX1_init wsX1_init ({ frames := 1, cells := 4, slots := 236, locals := 12 }) (va_Pc [.ref h0, .ref k1, .ref k2, .ref k3] (ul_pre (dC, dI) [(cI, .int)] ul_N0 sz [(h0, .inr (1, [.null, .null, .null, .null, .null, .null, .null, .int 0, .int 0]))])) (va_Qv (fun (af : Nat → Nat) => af 0 = h0) (fun af => ul_post (dC, dI) [(cI, .int)] (va_A [(h0, .inr (1, [.null, .null, .null, .null, .null, .null, .null, .int 0, .int 0]))] sz) (ul_wG cI af k1 k2 k3 ul_Z)) (va_A [(h0, .inr (1, [.null, .null, .null, .null, .null, .null, .null, .int 0, .int 0]))] sz)) 4 236 (va_A [(h0, .inr (1, [.null, .null, .null, .null, .null, .null, .null, .int 0, .int 0]))] sz) := by
  refine Met.ofW (cc := cX1_init) (maxL := 4) (ret := none) (by decide) rfl ?_
  intro p e s m args below meth c s₁ BB hml hv
  obtain ⟨rfl, hsz, hP, hK, hD0, hN⟩ := hv
  have hx := BB.exec
  have hb := BB.bytes
  have hr := BB.returns
  have hts := atoms_spec (ws := wsX1_init) BB.pre
  have hown : s.vm.findClass RX1 = some m.cls := findClass_of_methodNamed BB.named
  have hlocks := BB.notSynchronized
  have hin : meth.name = "<init>" := (name_of_methodNamed BB.named BB.method).1
  have hin1 : ∀ w ∈ u_ws RX1 TX1 9, w ∈ wsX1_init := by decide +kernel
  subst hsz
  have hD := hD0.self (sz := s.heap.size)
  generalize hAe : va_A [(h0, .inr (1, [.null, .null, .null, .null, .null, .null, .null, .int 0, .int 0]))] s.heap.size = A at hD hN ⊢
  have hA : ∀ q : Nat, s.heap.size ≤ q → A q := fun q h => by rw [← hAe]; exact Or.inr h
  have hS : va_S A s.heap s.heap [] := va_S.rf
  have hl := lv_entry ([.ref h0, .ref k1, .ref k2, .ref k3]) (n := 4) (Nat.le_of_ble_eq_true rfl)
  rw [lg_entry_eq]
  generalize (lg_sl ([.ref h0, .ref k1, .ref k2, .ref k3]) ++ List.replicate (4 - (lg_sl ([.ref h0, .ref k1, .ref k2, .ref k3])).length) Slot.unset).toArray = ls at hl ⊢
  have hl : lv_has ls 4 [(0, .ref h0), (1, .ref k1), (2, .ref k2), (3, .ref k3)] := hl
  refine lv_aload_n hx hb dX1_init_0 rfl (lv_at hl 0 rfl) ?_
  refine W.objInit hx hb hown (hts (.methodLink RX1 3 objectInit) (by decide +kernel)) (hts (.instanceMethod objectInit) (by decide +kernel)) (hts _ (List.mem_of_getElem? (i := 3) rfl)) rfl (by rw [hml]; exact hl.1) rfl dX1_init_1 (Nat.le_of_ble_eq_true rfl) (Nat.le_of_ble_eq_true rfl) ?_
  refine W.eq (g2 := F0 m 4 ls []) rfl ?_
  refine lv_aload_n hx hb dX1_init_4 rfl (lv_at hl 0 rfl) ?_
  refine lv_aload_n hx hb dX1_init_5 rfl (lv_at hl 1 rfl) ?_
  refine va_putF (D := (dC, dI)) (ci := 1) (v := .ref k1) (ty := .object "UnderLadders$Market") (C := RX1) (T := TX1) (N := 9) hx hb hts hin1 tyX1 tyX1_ok nmX1 hown hK hP hD hS 0 rfl rfl 0 (by decide) (hts (.fieldLink RX1 9 "UnderLadders$Forecast" "fixed" "LUnderLadders$Market;") (by decide +kernel)) (fun _ h9 => h9) rfl hin rfl (by decide +kernel) rfl rfl (Nat.le_of_ble_eq_true rfl) dX1_init_6 (fun H locs hP hD hS => ?_)
  have hP : va_P (dC, dI) classes [(h0, .inr (1, [.ref k1, .null, .null, .null, .null, .null, .null, .int 0, .int 0]))] H := hP
  have hD : va_D A [(h0, .inr (1, [.ref k1, .null, .null, .null, .null, .null, .null, .int 0, .int 0]))] := hD
  refine lv_aload_n hx hb dX1_init_9 rfl (lv_at hl 0 rfl) ?_
  refine lv_aload_n hx hb dX1_init_10 rfl (lv_at hl 2 rfl) ?_
  refine va_putF (D := (dC, dI)) (ci := 1) (v := .ref k2) (ty := .object "UnderLadders$Street") (C := RX1) (T := TX1) (N := 9) hx hb hts hin1 tyX1 tyX1_ok nmX1 hown hK hP hD hS 0 rfl rfl 1 (by decide) (hts (.fieldLink RX1 15 "UnderLadders$Forecast" "now" "LUnderLadders$Street;") (by decide +kernel)) (fun _ h9 => h9) rfl hin rfl (by decide +kernel) rfl rfl (Nat.le_of_ble_eq_true rfl) dX1_init_11 (fun H locs hP hD hS => ?_)
  have hP : va_P (dC, dI) classes [(h0, .inr (1, [.ref k1, .ref k2, .null, .null, .null, .null, .null, .int 0, .int 0]))] H := hP
  have hD : va_D A [(h0, .inr (1, [.ref k1, .ref k2, .null, .null, .null, .null, .null, .int 0, .int 0]))] := hD
  refine lv_aload_n hx hb dX1_init_14 rfl (lv_at hl 0 rfl) ?_
  refine lv_aload_n hx hb dX1_init_15 rfl (lv_at hl 3 rfl) ?_
  refine va_putF (D := (dC, dI)) (ci := 1) (v := .ref k3) (ty := .object "UnderLadders$Street") (C := RX1) (T := TX1) (N := 9) hx hb hts hin1 tyX1 tyX1_ok nmX1 hown hK hP hD hS 0 rfl rfl 2 (by decide) (hts (.fieldLink RX1 19 "UnderLadders$Forecast" "trial" "LUnderLadders$Street;") (by decide +kernel)) (fun _ h9 => h9) rfl hin rfl (by decide +kernel) rfl rfl (Nat.le_of_ble_eq_true rfl) dX1_init_16 (fun H locs hP hD hS => ?_)
  have hP : va_P (dC, dI) classes [(h0, .inr (1, [.ref k1, .ref k2, .ref k3, .null, .null, .null, .null, .int 0, .int 0]))] H := hP
  have hD : va_D A [(h0, .inr (1, [.ref k1, .ref k2, .ref k3, .null, .null, .null, .null, .int 0, .int 0]))] := hD
  refine lv_aload_n hx hb dX1_init_19 rfl (lv_at hl 0 rfl) ?_
  refine lv_iconst (v := 4) hx hb dX1_init_20 (by decide) ?_
  refine va_newa (atype := .int) (ty := .int) (a0 := (4, .inl (fun _ => 0))) (N' := 4) hx hb (hts (.arrayClass .int) (by decide +kernel)) rfl hK hP hD hS hA (ul_nwi 4) (by decide) (by decide) (Nat.le_of_ble_eq_true rfl) (Nat.le_of_ble_eq_true rfl) (Nat.le_of_ble_eq_true rfl) dX1_init_21 (fun q21 cA H hK2 hP hD hS => ?_)
  have hcA : cI = cA := (ul_cu (fun _ h => by cases h) hK2 (i := 0) (j := 1) rfl rfl).symm
  subst hcA
  have hP : va_P (dC, dI) classes [(h0, .inr (1, [.ref k1, .ref k2, .ref k3, .null, .null, .null, .null, .int 0, .int 0])), (q21, .inl (cI, 4, .inl (fun _ => 0)))] H := hP
  have hD : va_D A [(h0, .inr (1, [.ref k1, .ref k2, .ref k3, .null, .null, .null, .null, .int 0, .int 0])), (q21, .inl (cI, 4, .inl (fun _ => 0)))] := hD
  refine W.widen (k := 1) (n := 4) (by decide) (by decide) ?_
  refine va_putF (D := (dC, dI)) (ci := 1) (v := .ref q21) (ty := .array .int) (C := RX1) (T := TX1) (N := 9) hx hb hts hin1 tyX1 tyX1_ok nmX1 hown hK hP hD hS 0 rfl rfl 3 (by decide) (hts (.fieldLink RX1 22 "UnderLadders$Forecast" "doings" "[I") (by decide +kernel)) (fun _ h9 => h9) rfl hin rfl (by decide +kernel) rfl rfl (Nat.le_of_ble_eq_true rfl) dX1_init_23 (fun H locs hP hD hS => ?_)
  have hP : va_P (dC, dI) classes [(h0, .inr (1, [.ref k1, .ref k2, .ref k3, .ref q21, .null, .null, .null, .int 0, .int 0])), (q21, .inl (cI, 4, .inl (fun _ => 0)))] H := hP
  have hD : va_D A [(h0, .inr (1, [.ref k1, .ref k2, .ref k3, .ref q21, .null, .null, .null, .int 0, .int 0])), (q21, .inl (cI, 4, .inl (fun _ => 0)))] := hD
  refine lv_aload_n hx hb dX1_init_26 rfl (lv_at hl 0 rfl) ?_
  refine lv_bipush (v := 32) hx hb dX1_init_27 (by decide) ?_
  refine va_newa (atype := .int) (ty := .int) (a0 := (32, .inl (fun _ => 0))) (N' := 32) hx hb (hts (.arrayClass .int) (by decide +kernel)) rfl hK hP hD hS hA (ul_nwi 32) (by decide) (by decide) (Nat.le_of_ble_eq_true rfl) (Nat.le_of_ble_eq_true rfl) (Nat.le_of_ble_eq_true rfl) dX1_init_29 (fun q29 cA H hK2 hP hD hS => ?_)
  have hcA : cI = cA := (ul_cu (fun _ h => by cases h) hK2 (i := 0) (j := 1) rfl rfl).symm
  subst hcA
  have hP : va_P (dC, dI) classes [(h0, .inr (1, [.ref k1, .ref k2, .ref k3, .ref q21, .null, .null, .null, .int 0, .int 0])), (q21, .inl (cI, 4, .inl (fun _ => 0))), (q29, .inl (cI, 32, .inl (fun _ => 0)))] H := hP
  have hD : va_D A [(h0, .inr (1, [.ref k1, .ref k2, .ref k3, .ref q21, .null, .null, .null, .int 0, .int 0])), (q21, .inl (cI, 4, .inl (fun _ => 0))), (q29, .inl (cI, 32, .inl (fun _ => 0)))] := hD
  refine W.widen (k := 2) (n := 36) (by decide) (by decide) ?_
  refine va_putF (D := (dC, dI)) (ci := 1) (v := .ref q29) (ty := .array .int) (C := RX1) (T := TX1) (N := 9) hx hb hts hin1 tyX1 tyX1_ok nmX1 hown hK hP hD hS 0 rfl rfl 4 (by decide) (hts (.fieldLink RX1 26 "UnderLadders$Forecast" "worth" "[I") (by decide +kernel)) (fun _ h9 => h9) rfl hin rfl (by decide +kernel) rfl rfl (Nat.le_of_ble_eq_true rfl) dX1_init_31 (fun H locs hP hD hS => ?_)
  have hP : va_P (dC, dI) classes [(h0, .inr (1, [.ref k1, .ref k2, .ref k3, .ref q21, .ref q29, .null, .null, .int 0, .int 0])), (q21, .inl (cI, 4, .inl (fun _ => 0))), (q29, .inl (cI, 32, .inl (fun _ => 0)))] H := hP
  have hD : va_D A [(h0, .inr (1, [.ref k1, .ref k2, .ref k3, .ref q21, .ref q29, .null, .null, .int 0, .int 0])), (q21, .inl (cI, 4, .inl (fun _ => 0))), (q29, .inl (cI, 32, .inl (fun _ => 0)))] := hD
  refine lv_aload_n hx hb dX1_init_34 rfl (lv_at hl 0 rfl) ?_
  refine lv_bipush (v := 100) hx hb dX1_init_35 (by decide) ?_
  refine va_newa (atype := .int) (ty := .int) (a0 := (100, .inl (fun _ => 0))) (N' := 100) hx hb (hts (.arrayClass .int) (by decide +kernel)) rfl hK hP hD hS hA (ul_nwi 100) (by decide) (by decide) (Nat.le_of_ble_eq_true rfl) (Nat.le_of_ble_eq_true rfl) (Nat.le_of_ble_eq_true rfl) dX1_init_37 (fun q37 cA H hK2 hP hD hS => ?_)
  have hcA : cI = cA := (ul_cu (fun _ h => by cases h) hK2 (i := 0) (j := 1) rfl rfl).symm
  subst hcA
  have hP : va_P (dC, dI) classes [(h0, .inr (1, [.ref k1, .ref k2, .ref k3, .ref q21, .ref q29, .null, .null, .int 0, .int 0])), (q21, .inl (cI, 4, .inl (fun _ => 0))), (q29, .inl (cI, 32, .inl (fun _ => 0))), (q37, .inl (cI, 100, .inl (fun _ => 0)))] H := hP
  have hD : va_D A [(h0, .inr (1, [.ref k1, .ref k2, .ref k3, .ref q21, .ref q29, .null, .null, .int 0, .int 0])), (q21, .inl (cI, 4, .inl (fun _ => 0))), (q29, .inl (cI, 32, .inl (fun _ => 0))), (q37, .inl (cI, 100, .inl (fun _ => 0)))] := hD
  refine W.widen (k := 3) (n := 136) (by decide) (by decide) ?_
  refine va_putF (D := (dC, dI)) (ci := 1) (v := .ref q37) (ty := .array .int) (C := RX1) (T := TX1) (N := 9) hx hb hts hin1 tyX1 tyX1_ok nmX1 hown hK hP hD hS 0 rfl rfl 5 (by decide) (hts (.fieldLink RX1 29 "UnderLadders$Forecast" "oneGold" "[I") (by decide +kernel)) (fun _ h9 => h9) rfl hin rfl (by decide +kernel) rfl rfl (Nat.le_of_ble_eq_true rfl) dX1_init_39 (fun H locs hP hD hS => ?_)
  have hP : va_P (dC, dI) classes [(h0, .inr (1, [.ref k1, .ref k2, .ref k3, .ref q21, .ref q29, .ref q37, .null, .int 0, .int 0])), (q21, .inl (cI, 4, .inl (fun _ => 0))), (q29, .inl (cI, 32, .inl (fun _ => 0))), (q37, .inl (cI, 100, .inl (fun _ => 0)))] H := hP
  have hD : va_D A [(h0, .inr (1, [.ref k1, .ref k2, .ref k3, .ref q21, .ref q29, .ref q37, .null, .int 0, .int 0])), (q21, .inl (cI, 4, .inl (fun _ => 0))), (q29, .inl (cI, 32, .inl (fun _ => 0))), (q37, .inl (cI, 100, .inl (fun _ => 0)))] := hD
  refine lv_aload_n hx hb dX1_init_42 rfl (lv_at hl 0 rfl) ?_
  refine lv_bipush (v := 100) hx hb dX1_init_43 (by decide) ?_
  refine va_newa (atype := .int) (ty := .int) (a0 := (100, .inl (fun _ => 0))) (N' := 100) hx hb (hts (.arrayClass .int) (by decide +kernel)) rfl hK hP hD hS hA (ul_nwi 100) (by decide) (by decide) (Nat.le_of_ble_eq_true rfl) (Nat.le_of_ble_eq_true rfl) (Nat.le_of_ble_eq_true rfl) dX1_init_45 (fun q45 cA H hK2 hP hD hS => ?_)
  have hcA : cI = cA := (ul_cu (fun _ h => by cases h) hK2 (i := 0) (j := 1) rfl rfl).symm
  subst hcA
  have hP : va_P (dC, dI) classes [(h0, .inr (1, [.ref k1, .ref k2, .ref k3, .ref q21, .ref q29, .ref q37, .null, .int 0, .int 0])), (q21, .inl (cI, 4, .inl (fun _ => 0))), (q29, .inl (cI, 32, .inl (fun _ => 0))), (q37, .inl (cI, 100, .inl (fun _ => 0))), (q45, .inl (cI, 100, .inl (fun _ => 0)))] H := hP
  have hD : va_D A [(h0, .inr (1, [.ref k1, .ref k2, .ref k3, .ref q21, .ref q29, .ref q37, .null, .int 0, .int 0])), (q21, .inl (cI, 4, .inl (fun _ => 0))), (q29, .inl (cI, 32, .inl (fun _ => 0))), (q37, .inl (cI, 100, .inl (fun _ => 0))), (q45, .inl (cI, 100, .inl (fun _ => 0)))] := hD
  refine W.widen (k := 4) (n := 236) (by decide) (by decide) ?_
  refine va_putF (D := (dC, dI)) (ci := 1) (v := .ref q45) (ty := .array .int) (C := RX1) (T := TX1) (N := 9) hx hb hts hin1 tyX1 tyX1_ok nmX1 hown hK hP hD hS 0 rfl rfl 6 (by decide) (hts (.fieldLink RX1 32 "UnderLadders$Forecast" "otherGold" "[I") (by decide +kernel)) (fun _ h9 => h9) rfl hin rfl (by decide +kernel) rfl rfl (Nat.le_of_ble_eq_true rfl) dX1_init_47 (fun H locs hP hD hS => ?_)
  have hP : va_P (dC, dI) classes [(h0, .inr (1, [.ref k1, .ref k2, .ref k3, .ref q21, .ref q29, .ref q37, .ref q45, .int 0, .int 0])), (q21, .inl (cI, 4, .inl (fun _ => 0))), (q29, .inl (cI, 32, .inl (fun _ => 0))), (q37, .inl (cI, 100, .inl (fun _ => 0))), (q45, .inl (cI, 100, .inl (fun _ => 0)))] H := hP
  have hD : va_D A [(h0, .inr (1, [.ref k1, .ref k2, .ref k3, .ref q21, .ref q29, .ref q37, .ref q45, .int 0, .int 0])), (q21, .inl (cI, 4, .inl (fun _ => 0))), (q29, .inl (cI, 32, .inl (fun _ => 0))), (q37, .inl (cI, 100, .inl (fun _ => 0))), (q45, .inl (cI, 100, .inl (fun _ => 0)))] := hD
  have hP9 := hP.sub (ws' := ul_wG cI (fun k => match k with | 0 => h0 | 1 => q21 | 2 => q29 | 3 => q37 | 4 => q45 | _ => 0) k1 k2 k3 ul_Z) [0, 1, 2, 3, 4] rfl
  have hD9 := hD.sub (ws' := ul_wG cI (fun k => match k with | 0 => h0 | 1 => q21 | 2 => q29 | 3 => q37 | 4 => q45 | _ => 0) k1 k2 k3 ul_Z) [0, 1, 2, 3, 4] (by decide) rfl
  exact W.vret hx hb hr (fun t ht hW => ⟨⟨(fun k => match k with | 0 => h0 | 1 => q21 | 2 => q29 | 3 => q37 | 4 => q45 | _ => 0), rfl, rfl, by rw [ht]; exact hP9, va_K.moved hW.alike hK, hD9⟩, hS.F ht⟩) hS.2.2 dX1_init_50
set_option maxHeartbeats 4000000 in
set_option maxRecDepth 100000 in
theorem c_X7_init (l : Launch) (dC : Nat → ClassId) (dI : Nat → Nat → Nat) (cI : ClassId) (cZ : ClassId) (sz h0 : Nat) : Met l yX7_init wsX7_init ({ frames := 1, cells := 14, slots := 531, locals := 12 }) (va_Pc [.ref h0] (ul_pre (dC, dI) [(cI, .int), (cZ, .boolean)] ul_N0 sz [(h0, .inr (7, [.int 0, .int 0, .null, .null, .null, .null, .null, .null, .null, .null, .int 0, .int 0, .int 0, .null, .int 0, .int 0, .int 0, .int 0, .int 0, .null, .int 0, .null, .null, .long 0, .null, .null]))])) (va_Qv (fun (af : Nat → Nat) => af 0 = h0) (fun af => ul_post (dC, dI) [(cI, .int), (cZ, .boolean)] (va_A [(h0, .inr (7, [.int 0, .int 0, .null, .null, .null, .null, .null, .null, .null, .null, .int 0, .int 0, .int 0, .null, .int 0, .int 0, .int 0, .int 0, .int 0, .null, .int 0, .null, .null, .long 0, .null, .null]))] sz) (ul_wM cI cZ af ul_Z 0)) (va_A [(h0, .inr (7, [.int 0, .int 0, .null, .null, .null, .null, .null, .null, .null, .null, .int 0, .int 0, .int 0, .null, .int 0, .int 0, .int 0, .int 0, .int 0, .null, .int 0, .null, .null, .long 0, .null, .null]))] sz)) 14 531 (va_A [(h0, .inr (7, [.int 0, .int 0, .null, .null, .null, .null, .null, .null, .null, .null, .int 0, .int 0, .int 0, .null, .int 0, .int 0, .int 0, .int 0, .int 0, .null, .int 0, .null, .null, .long 0, .null, .null]))] sz) := by
  refine Met.ofW (cc := cX7_init) (maxL := 1) (ret := none) (by decide) rfl ?_
  intro p e s m args below meth c s₁ BB hml hv
  obtain ⟨rfl, hsz, hP, hK, hD0, hN⟩ := hv
  have hx := BB.exec
  have hb := BB.bytes
  have hr := BB.returns
  have hts := atoms_spec (ws := wsX7_init) BB.pre
  have hown : s.vm.findClass RX7 = some m.cls := findClass_of_methodNamed BB.named
  have hlocks := BB.notSynchronized
  have hin : meth.name = "<init>" := (name_of_methodNamed BB.named BB.method).1
  have hin7 : ∀ w ∈ u_ws RX7 TX7 26, w ∈ wsX7_init := by decide +kernel
  subst hsz
  have hD := hD0.self (sz := s.heap.size)
  generalize hAe : va_A [(h0, .inr (7, [.int 0, .int 0, .null, .null, .null, .null, .null, .null, .null, .null, .int 0, .int 0, .int 0, .null, .int 0, .int 0, .int 0, .int 0, .int 0, .null, .int 0, .null, .null, .long 0, .null, .null]))] s.heap.size = A at hD hN ⊢
  have hA : ∀ q : Nat, s.heap.size ≤ q → A q := fun q h => by rw [← hAe]; exact Or.inr h
  have hS : va_S A s.heap s.heap [] := va_S.rf
  have hl := lv_entry ([.ref h0]) (n := 1) (Nat.le_of_ble_eq_true rfl)
  rw [lg_entry_eq]
  generalize (lg_sl ([.ref h0]) ++ List.replicate (1 - (lg_sl ([.ref h0])).length) Slot.unset).toArray = ls at hl ⊢
  have hl : lv_has ls 1 [(0, .ref h0)] := hl
  refine lv_aload_n hx hb dX7_init_0 rfl (lv_at hl 0 rfl) ?_
  refine W.objInit hx hb hown (hts (.methodLink RX7 1 objectInit) (by decide +kernel)) (hts (.instanceMethod objectInit) (by decide +kernel)) (hts _ (List.mem_of_getElem? (i := 3) rfl)) rfl (by rw [hml]; exact hl.1) rfl dX7_init_1 (Nat.le_of_ble_eq_true rfl) (Nat.le_of_ble_eq_true rfl) ?_
  refine W.eq (g2 := F0 m 4 ls []) rfl ?_
  refine lv_aload_n hx hb dX7_init_4 rfl (lv_at hl 0 rfl) ?_
  refine lv_iconst (v := 4) hx hb dX7_init_5 (by decide) ?_
  refine va_newa (atype := .int) (ty := .int) (a0 := (4, .inl (fun _ => 0))) (N' := 4) hx hb (hts (.arrayClass .int) (by decide +kernel)) rfl hK hP hD hS hA (ul_nwi 4) (by decide) (by decide) (Nat.le_of_ble_eq_true rfl) (Nat.le_of_ble_eq_true rfl) (Nat.le_of_ble_eq_true rfl) dX7_init_6 (fun q6 cA H hK2 hP hD hS => ?_)
  have hcA : cI = cA := (ul_cu (fun _ h => by cases h) hK2 (i := 0) (j := 2) rfl rfl).symm
  subst hcA
  have hP : va_P (dC, dI) classes [(h0, .inr (7, [.int 0, .int 0, .null, .null, .null, .null, .null, .null, .null, .null, .int 0, .int 0, .int 0, .null, .int 0, .int 0, .int 0, .int 0, .int 0, .null, .int 0, .null, .null, .long 0, .null, .null])), (q6, .inl (cI, 4, .inl (fun _ => 0)))] H := hP
  have hD : va_D A [(h0, .inr (7, [.int 0, .int 0, .null, .null, .null, .null, .null, .null, .null, .null, .int 0, .int 0, .int 0, .null, .int 0, .int 0, .int 0, .int 0, .int 0, .null, .int 0, .null, .null, .long 0, .null, .null])), (q6, .inl (cI, 4, .inl (fun _ => 0)))] := hD
  refine W.widen (k := 1) (n := 4) (by decide) (by decide) ?_
  refine va_putF (D := (dC, dI)) (ci := 7) (v := .ref q6) (ty := .array .int) (C := RX7) (T := TX7) (N := 26) hx hb hts hin7 tyX7 tyX7_ok nmX7 hown hK hP hD hS 0 rfl rfl 2 (by decide) (hts (.fieldLink RX7 7 "UnderLaddersModel" "toll" "[I") (by decide +kernel)) (fun _ h9 => h9) rfl hin rfl (by decide +kernel) rfl rfl (Nat.le_of_ble_eq_true rfl) dX7_init_8 (fun H locs hP hD hS => ?_)
  have hP : va_P (dC, dI) classes [(h0, .inr (7, [.int 0, .int 0, .ref q6, .null, .null, .null, .null, .null, .null, .null, .int 0, .int 0, .int 0, .null, .int 0, .int 0, .int 0, .int 0, .int 0, .null, .int 0, .null, .null, .long 0, .null, .null])), (q6, .inl (cI, 4, .inl (fun _ => 0)))] H := hP
  have hD : va_D A [(h0, .inr (7, [.int 0, .int 0, .ref q6, .null, .null, .null, .null, .null, .null, .null, .int 0, .int 0, .int 0, .null, .int 0, .int 0, .int 0, .int 0, .int 0, .null, .int 0, .null, .null, .long 0, .null, .null])), (q6, .inl (cI, 4, .inl (fun _ => 0)))] := hD
  refine lv_aload_n hx hb dX7_init_11 rfl (lv_at hl 0 rfl) ?_
  refine lv_iconst (v := 4) hx hb dX7_init_12 (by decide) ?_
  refine va_newa (atype := .int) (ty := .int) (a0 := (4, .inl (fun _ => 0))) (N' := 4) hx hb (hts (.arrayClass .int) (by decide +kernel)) rfl hK hP hD hS hA (ul_nwi 4) (by decide) (by decide) (Nat.le_of_ble_eq_true rfl) (Nat.le_of_ble_eq_true rfl) (Nat.le_of_ble_eq_true rfl) dX7_init_13 (fun q13 cA H hK2 hP hD hS => ?_)
  have hcA : cI = cA := (ul_cu (fun _ h => by cases h) hK2 (i := 0) (j := 2) rfl rfl).symm
  subst hcA
  have hP : va_P (dC, dI) classes [(h0, .inr (7, [.int 0, .int 0, .ref q6, .null, .null, .null, .null, .null, .null, .null, .int 0, .int 0, .int 0, .null, .int 0, .int 0, .int 0, .int 0, .int 0, .null, .int 0, .null, .null, .long 0, .null, .null])), (q6, .inl (cI, 4, .inl (fun _ => 0))), (q13, .inl (cI, 4, .inl (fun _ => 0)))] H := hP
  have hD : va_D A [(h0, .inr (7, [.int 0, .int 0, .ref q6, .null, .null, .null, .null, .null, .null, .null, .int 0, .int 0, .int 0, .null, .int 0, .int 0, .int 0, .int 0, .int 0, .null, .int 0, .null, .null, .long 0, .null, .null])), (q6, .inl (cI, 4, .inl (fun _ => 0))), (q13, .inl (cI, 4, .inl (fun _ => 0)))] := hD
  refine W.widen (k := 2) (n := 8) (by decide) (by decide) ?_
  refine va_putF (D := (dC, dI)) (ci := 7) (v := .ref q13) (ty := .array .int) (C := RX7) (T := TX7) (N := 26) hx hb hts hin7 tyX7 tyX7_ok nmX7 hown hK hP hD hS 0 rfl rfl 3 (by decide) (hts (.fieldLink RX7 13 "UnderLaddersModel" "ladderKind" "[I") (by decide +kernel)) (fun _ h9 => h9) rfl hin rfl (by decide +kernel) rfl rfl (Nat.le_of_ble_eq_true rfl) dX7_init_15 (fun H locs hP hD hS => ?_)
  have hP : va_P (dC, dI) classes [(h0, .inr (7, [.int 0, .int 0, .ref q6, .ref q13, .null, .null, .null, .null, .null, .null, .int 0, .int 0, .int 0, .null, .int 0, .int 0, .int 0, .int 0, .int 0, .null, .int 0, .null, .null, .long 0, .null, .null])), (q6, .inl (cI, 4, .inl (fun _ => 0))), (q13, .inl (cI, 4, .inl (fun _ => 0)))] H := hP
  have hD : va_D A [(h0, .inr (7, [.int 0, .int 0, .ref q6, .ref q13, .null, .null, .null, .null, .null, .null, .int 0, .int 0, .int 0, .null, .int 0, .int 0, .int 0, .int 0, .int 0, .null, .int 0, .null, .null, .long 0, .null, .null])), (q6, .inl (cI, 4, .inl (fun _ => 0))), (q13, .inl (cI, 4, .inl (fun _ => 0)))] := hD
  refine lv_aload_n hx hb dX7_init_18 rfl (lv_at hl 0 rfl) ?_
  refine lv_iconst (v := 5) hx hb dX7_init_19 (by decide) ?_
  refine va_newa (atype := .int) (ty := .int) (a0 := (5, .inl (fun _ => 0))) (N' := 5) hx hb (hts (.arrayClass .int) (by decide +kernel)) rfl hK hP hD hS hA (ul_nwi 5) (by decide) (by decide) (Nat.le_of_ble_eq_true rfl) (Nat.le_of_ble_eq_true rfl) (Nat.le_of_ble_eq_true rfl) dX7_init_20 (fun q20 cA H hK2 hP hD hS => ?_)
  have hcA : cI = cA := (ul_cu (fun _ h => by cases h) hK2 (i := 0) (j := 2) rfl rfl).symm
  subst hcA
  have hP : va_P (dC, dI) classes [(h0, .inr (7, [.int 0, .int 0, .ref q6, .ref q13, .null, .null, .null, .null, .null, .null, .int 0, .int 0, .int 0, .null, .int 0, .int 0, .int 0, .int 0, .int 0, .null, .int 0, .null, .null, .long 0, .null, .null])), (q6, .inl (cI, 4, .inl (fun _ => 0))), (q13, .inl (cI, 4, .inl (fun _ => 0))), (q20, .inl (cI, 5, .inl (fun _ => 0)))] H := hP
  have hD : va_D A [(h0, .inr (7, [.int 0, .int 0, .ref q6, .ref q13, .null, .null, .null, .null, .null, .null, .int 0, .int 0, .int 0, .null, .int 0, .int 0, .int 0, .int 0, .int 0, .null, .int 0, .null, .null, .long 0, .null, .null])), (q6, .inl (cI, 4, .inl (fun _ => 0))), (q13, .inl (cI, 4, .inl (fun _ => 0))), (q20, .inl (cI, 5, .inl (fun _ => 0)))] := hD
  refine W.widen (k := 3) (n := 13) (by decide) (by decide) ?_
  refine va_putF (D := (dC, dI)) (ci := 7) (v := .ref q20) (ty := .array .int) (C := RX7) (T := TX7) (N := 26) hx hb hts hin7 tyX7 tyX7_ok nmX7 hown hK hP hD hS 0 rfl rfl 4 (by decide) (hts (.fieldLink RX7 16 "UnderLaddersModel" "home" "[I") (by decide +kernel)) (fun _ h9 => h9) rfl hin rfl (by decide +kernel) rfl rfl (Nat.le_of_ble_eq_true rfl) dX7_init_22 (fun H locs hP hD hS => ?_)
  have hP : va_P (dC, dI) classes [(h0, .inr (7, [.int 0, .int 0, .ref q6, .ref q13, .ref q20, .null, .null, .null, .null, .null, .int 0, .int 0, .int 0, .null, .int 0, .int 0, .int 0, .int 0, .int 0, .null, .int 0, .null, .null, .long 0, .null, .null])), (q6, .inl (cI, 4, .inl (fun _ => 0))), (q13, .inl (cI, 4, .inl (fun _ => 0))), (q20, .inl (cI, 5, .inl (fun _ => 0)))] H := hP
  have hD : va_D A [(h0, .inr (7, [.int 0, .int 0, .ref q6, .ref q13, .ref q20, .null, .null, .null, .null, .null, .int 0, .int 0, .int 0, .null, .int 0, .int 0, .int 0, .int 0, .int 0, .null, .int 0, .null, .null, .long 0, .null, .null])), (q6, .inl (cI, 4, .inl (fun _ => 0))), (q13, .inl (cI, 4, .inl (fun _ => 0))), (q20, .inl (cI, 5, .inl (fun _ => 0)))] := hD
  refine lv_aload_n hx hb dX7_init_25 rfl (lv_at hl 0 rfl) ?_
  refine lv_iconst (v := 5) hx hb dX7_init_26 (by decide) ?_
  refine va_newa (atype := .int) (ty := .int) (a0 := (5, .inl (fun _ => 0))) (N' := 5) hx hb (hts (.arrayClass .int) (by decide +kernel)) rfl hK hP hD hS hA (ul_nwi 5) (by decide) (by decide) (Nat.le_of_ble_eq_true rfl) (Nat.le_of_ble_eq_true rfl) (Nat.le_of_ble_eq_true rfl) dX7_init_27 (fun q27 cA H hK2 hP hD hS => ?_)
  have hcA : cI = cA := (ul_cu (fun _ h => by cases h) hK2 (i := 0) (j := 2) rfl rfl).symm
  subst hcA
  have hP : va_P (dC, dI) classes [(h0, .inr (7, [.int 0, .int 0, .ref q6, .ref q13, .ref q20, .null, .null, .null, .null, .null, .int 0, .int 0, .int 0, .null, .int 0, .int 0, .int 0, .int 0, .int 0, .null, .int 0, .null, .null, .long 0, .null, .null])), (q6, .inl (cI, 4, .inl (fun _ => 0))), (q13, .inl (cI, 4, .inl (fun _ => 0))), (q20, .inl (cI, 5, .inl (fun _ => 0))), (q27, .inl (cI, 5, .inl (fun _ => 0)))] H := hP
  have hD : va_D A [(h0, .inr (7, [.int 0, .int 0, .ref q6, .ref q13, .ref q20, .null, .null, .null, .null, .null, .int 0, .int 0, .int 0, .null, .int 0, .int 0, .int 0, .int 0, .int 0, .null, .int 0, .null, .null, .long 0, .null, .null])), (q6, .inl (cI, 4, .inl (fun _ => 0))), (q13, .inl (cI, 4, .inl (fun _ => 0))), (q20, .inl (cI, 5, .inl (fun _ => 0))), (q27, .inl (cI, 5, .inl (fun _ => 0)))] := hD
  refine W.widen (k := 4) (n := 18) (by decide) (by decide) ?_
  refine va_putF (D := (dC, dI)) (ci := 7) (v := .ref q27) (ty := .array .int) (C := RX7) (T := TX7) (N := 26) hx hb hts hin7 tyX7 tyX7_ok nmX7 hown hK hP hD hS 0 rfl rfl 5 (by decide) (hts (.fieldLink RX7 19 "UnderLaddersModel" "work" "[I") (by decide +kernel)) (fun _ h9 => h9) rfl hin rfl (by decide +kernel) rfl rfl (Nat.le_of_ble_eq_true rfl) dX7_init_29 (fun H locs hP hD hS => ?_)
  have hP : va_P (dC, dI) classes [(h0, .inr (7, [.int 0, .int 0, .ref q6, .ref q13, .ref q20, .ref q27, .null, .null, .null, .null, .int 0, .int 0, .int 0, .null, .int 0, .int 0, .int 0, .int 0, .int 0, .null, .int 0, .null, .null, .long 0, .null, .null])), (q6, .inl (cI, 4, .inl (fun _ => 0))), (q13, .inl (cI, 4, .inl (fun _ => 0))), (q20, .inl (cI, 5, .inl (fun _ => 0))), (q27, .inl (cI, 5, .inl (fun _ => 0)))] H := hP
  have hD : va_D A [(h0, .inr (7, [.int 0, .int 0, .ref q6, .ref q13, .ref q20, .ref q27, .null, .null, .null, .null, .int 0, .int 0, .int 0, .null, .int 0, .int 0, .int 0, .int 0, .int 0, .null, .int 0, .null, .null, .long 0, .null, .null])), (q6, .inl (cI, 4, .inl (fun _ => 0))), (q13, .inl (cI, 4, .inl (fun _ => 0))), (q20, .inl (cI, 5, .inl (fun _ => 0))), (q27, .inl (cI, 5, .inl (fun _ => 0)))] := hD
  refine lv_aload_n hx hb dX7_init_32 rfl (lv_at hl 0 rfl) ?_
  refine lv_iconst (v := 5) hx hb dX7_init_33 (by decide) ?_
  refine va_newa (atype := .int) (ty := .int) (a0 := (5, .inl (fun _ => 0))) (N' := 5) hx hb (hts (.arrayClass .int) (by decide +kernel)) rfl hK hP hD hS hA (ul_nwi 5) (by decide) (by decide) (Nat.le_of_ble_eq_true rfl) (Nat.le_of_ble_eq_true rfl) (Nat.le_of_ble_eq_true rfl) dX7_init_34 (fun q34 cA H hK2 hP hD hS => ?_)
  have hcA : cI = cA := (ul_cu (fun _ h => by cases h) hK2 (i := 0) (j := 2) rfl rfl).symm
  subst hcA
  have hP : va_P (dC, dI) classes [(h0, .inr (7, [.int 0, .int 0, .ref q6, .ref q13, .ref q20, .ref q27, .null, .null, .null, .null, .int 0, .int 0, .int 0, .null, .int 0, .int 0, .int 0, .int 0, .int 0, .null, .int 0, .null, .null, .long 0, .null, .null])), (q6, .inl (cI, 4, .inl (fun _ => 0))), (q13, .inl (cI, 4, .inl (fun _ => 0))), (q20, .inl (cI, 5, .inl (fun _ => 0))), (q27, .inl (cI, 5, .inl (fun _ => 0))), (q34, .inl (cI, 5, .inl (fun _ => 0)))] H := hP
  have hD : va_D A [(h0, .inr (7, [.int 0, .int 0, .ref q6, .ref q13, .ref q20, .ref q27, .null, .null, .null, .null, .int 0, .int 0, .int 0, .null, .int 0, .int 0, .int 0, .int 0, .int 0, .null, .int 0, .null, .null, .long 0, .null, .null])), (q6, .inl (cI, 4, .inl (fun _ => 0))), (q13, .inl (cI, 4, .inl (fun _ => 0))), (q20, .inl (cI, 5, .inl (fun _ => 0))), (q27, .inl (cI, 5, .inl (fun _ => 0))), (q34, .inl (cI, 5, .inl (fun _ => 0)))] := hD
  refine W.widen (k := 5) (n := 23) (by decide) (by decide) ?_
  refine va_putF (D := (dC, dI)) (ci := 7) (v := .ref q34) (ty := .array .int) (C := RX7) (T := TX7) (N := 26) hx hb hts hin7 tyX7 tyX7_ok nmX7 hown hK hP hD hS 0 rfl rfl 6 (by decide) (hts (.fieldLink RX7 22 "UnderLaddersModel" "kind" "[I") (by decide +kernel)) (fun _ h9 => h9) rfl hin rfl (by decide +kernel) rfl rfl (Nat.le_of_ble_eq_true rfl) dX7_init_36 (fun H locs hP hD hS => ?_)
  have hP : va_P (dC, dI) classes [(h0, .inr (7, [.int 0, .int 0, .ref q6, .ref q13, .ref q20, .ref q27, .ref q34, .null, .null, .null, .int 0, .int 0, .int 0, .null, .int 0, .int 0, .int 0, .int 0, .int 0, .null, .int 0, .null, .null, .long 0, .null, .null])), (q6, .inl (cI, 4, .inl (fun _ => 0))), (q13, .inl (cI, 4, .inl (fun _ => 0))), (q20, .inl (cI, 5, .inl (fun _ => 0))), (q27, .inl (cI, 5, .inl (fun _ => 0))), (q34, .inl (cI, 5, .inl (fun _ => 0)))] H := hP
  have hD : va_D A [(h0, .inr (7, [.int 0, .int 0, .ref q6, .ref q13, .ref q20, .ref q27, .ref q34, .null, .null, .null, .int 0, .int 0, .int 0, .null, .int 0, .int 0, .int 0, .int 0, .int 0, .null, .int 0, .null, .null, .long 0, .null, .null])), (q6, .inl (cI, 4, .inl (fun _ => 0))), (q13, .inl (cI, 4, .inl (fun _ => 0))), (q20, .inl (cI, 5, .inl (fun _ => 0))), (q27, .inl (cI, 5, .inl (fun _ => 0))), (q34, .inl (cI, 5, .inl (fun _ => 0)))] := hD
  refine lv_aload_n hx hb dX7_init_39 rfl (lv_at hl 0 rfl) ?_
  refine lv_bipush (v := 46) hx hb dX7_init_40 (by decide) ?_
  refine va_newa (atype := .int) (ty := .int) (a0 := (46, .inl (fun _ => 0))) (N' := 46) hx hb (hts (.arrayClass .int) (by decide +kernel)) rfl hK hP hD hS hA (ul_nwi 46) (by decide) (by decide) (Nat.le_of_ble_eq_true rfl) (Nat.le_of_ble_eq_true rfl) (Nat.le_of_ble_eq_true rfl) dX7_init_42 (fun q42 cA H hK2 hP hD hS => ?_)
  have hcA : cI = cA := (ul_cu (fun _ h => by cases h) hK2 (i := 0) (j := 2) rfl rfl).symm
  subst hcA
  have hP : va_P (dC, dI) classes [(h0, .inr (7, [.int 0, .int 0, .ref q6, .ref q13, .ref q20, .ref q27, .ref q34, .null, .null, .null, .int 0, .int 0, .int 0, .null, .int 0, .int 0, .int 0, .int 0, .int 0, .null, .int 0, .null, .null, .long 0, .null, .null])), (q6, .inl (cI, 4, .inl (fun _ => 0))), (q13, .inl (cI, 4, .inl (fun _ => 0))), (q20, .inl (cI, 5, .inl (fun _ => 0))), (q27, .inl (cI, 5, .inl (fun _ => 0))), (q34, .inl (cI, 5, .inl (fun _ => 0))), (q42, .inl (cI, 46, .inl (fun _ => 0)))] H := hP
  have hD : va_D A [(h0, .inr (7, [.int 0, .int 0, .ref q6, .ref q13, .ref q20, .ref q27, .ref q34, .null, .null, .null, .int 0, .int 0, .int 0, .null, .int 0, .int 0, .int 0, .int 0, .int 0, .null, .int 0, .null, .null, .long 0, .null, .null])), (q6, .inl (cI, 4, .inl (fun _ => 0))), (q13, .inl (cI, 4, .inl (fun _ => 0))), (q20, .inl (cI, 5, .inl (fun _ => 0))), (q27, .inl (cI, 5, .inl (fun _ => 0))), (q34, .inl (cI, 5, .inl (fun _ => 0))), (q42, .inl (cI, 46, .inl (fun _ => 0)))] := hD
  refine W.widen (k := 6) (n := 69) (by decide) (by decide) ?_
  refine va_putF (D := (dC, dI)) (ci := 7) (v := .ref q42) (ty := .array .int) (C := RX7) (T := TX7) (N := 26) hx hb hts hin7 tyX7 tyX7_ok nmX7 hown hK hP hD hS 0 rfl rfl 7 (by decide) (hts (.fieldLink RX7 25 "UnderLaddersModel" "now" "[I") (by decide +kernel)) (fun _ h9 => h9) rfl hin rfl (by decide +kernel) rfl rfl (Nat.le_of_ble_eq_true rfl) dX7_init_44 (fun H locs hP hD hS => ?_)
  have hP : va_P (dC, dI) classes [(h0, .inr (7, [.int 0, .int 0, .ref q6, .ref q13, .ref q20, .ref q27, .ref q34, .ref q42, .null, .null, .int 0, .int 0, .int 0, .null, .int 0, .int 0, .int 0, .int 0, .int 0, .null, .int 0, .null, .null, .long 0, .null, .null])), (q6, .inl (cI, 4, .inl (fun _ => 0))), (q13, .inl (cI, 4, .inl (fun _ => 0))), (q20, .inl (cI, 5, .inl (fun _ => 0))), (q27, .inl (cI, 5, .inl (fun _ => 0))), (q34, .inl (cI, 5, .inl (fun _ => 0))), (q42, .inl (cI, 46, .inl (fun _ => 0)))] H := hP
  have hD : va_D A [(h0, .inr (7, [.int 0, .int 0, .ref q6, .ref q13, .ref q20, .ref q27, .ref q34, .ref q42, .null, .null, .int 0, .int 0, .int 0, .null, .int 0, .int 0, .int 0, .int 0, .int 0, .null, .int 0, .null, .null, .long 0, .null, .null])), (q6, .inl (cI, 4, .inl (fun _ => 0))), (q13, .inl (cI, 4, .inl (fun _ => 0))), (q20, .inl (cI, 5, .inl (fun _ => 0))), (q27, .inl (cI, 5, .inl (fun _ => 0))), (q34, .inl (cI, 5, .inl (fun _ => 0))), (q42, .inl (cI, 46, .inl (fun _ => 0)))] := hD
  refine lv_aload_n hx hb dX7_init_47 rfl (lv_at hl 0 rfl) ?_
  refine lv_bipush (v := 12) hx hb dX7_init_48 (by decide) ?_
  refine va_newa (atype := .int) (ty := .int) (a0 := (12, .inl (fun _ => 0))) (N' := 12) hx hb (hts (.arrayClass .int) (by decide +kernel)) rfl hK hP hD hS hA (ul_nwi 12) (by decide) (by decide) (Nat.le_of_ble_eq_true rfl) (Nat.le_of_ble_eq_true rfl) (Nat.le_of_ble_eq_true rfl) dX7_init_50 (fun q50 cA H hK2 hP hD hS => ?_)
  have hcA : cI = cA := (ul_cu (fun _ h => by cases h) hK2 (i := 0) (j := 2) rfl rfl).symm
  subst hcA
  have hP : va_P (dC, dI) classes [(h0, .inr (7, [.int 0, .int 0, .ref q6, .ref q13, .ref q20, .ref q27, .ref q34, .ref q42, .null, .null, .int 0, .int 0, .int 0, .null, .int 0, .int 0, .int 0, .int 0, .int 0, .null, .int 0, .null, .null, .long 0, .null, .null])), (q6, .inl (cI, 4, .inl (fun _ => 0))), (q13, .inl (cI, 4, .inl (fun _ => 0))), (q20, .inl (cI, 5, .inl (fun _ => 0))), (q27, .inl (cI, 5, .inl (fun _ => 0))), (q34, .inl (cI, 5, .inl (fun _ => 0))), (q42, .inl (cI, 46, .inl (fun _ => 0))), (q50, .inl (cI, 12, .inl (fun _ => 0)))] H := hP
  have hD : va_D A [(h0, .inr (7, [.int 0, .int 0, .ref q6, .ref q13, .ref q20, .ref q27, .ref q34, .ref q42, .null, .null, .int 0, .int 0, .int 0, .null, .int 0, .int 0, .int 0, .int 0, .int 0, .null, .int 0, .null, .null, .long 0, .null, .null])), (q6, .inl (cI, 4, .inl (fun _ => 0))), (q13, .inl (cI, 4, .inl (fun _ => 0))), (q20, .inl (cI, 5, .inl (fun _ => 0))), (q27, .inl (cI, 5, .inl (fun _ => 0))), (q34, .inl (cI, 5, .inl (fun _ => 0))), (q42, .inl (cI, 46, .inl (fun _ => 0))), (q50, .inl (cI, 12, .inl (fun _ => 0)))] := hD
  refine W.widen (k := 7) (n := 81) (by decide) (by decide) ?_
  refine va_putF (D := (dC, dI)) (ci := 7) (v := .ref q50) (ty := .array .int) (C := RX7) (T := TX7) (N := 26) hx hb hts hin7 tyX7 tyX7_ok nmX7 hown hK hP hD hS 0 rfl rfl 8 (by decide) (hts (.fieldLink RX7 28 "UnderLaddersModel" "readLadder" "[I") (by decide +kernel)) (fun _ h9 => h9) rfl hin rfl (by decide +kernel) rfl rfl (Nat.le_of_ble_eq_true rfl) dX7_init_52 (fun H locs hP hD hS => ?_)
  have hP : va_P (dC, dI) classes [(h0, .inr (7, [.int 0, .int 0, .ref q6, .ref q13, .ref q20, .ref q27, .ref q34, .ref q42, .ref q50, .null, .int 0, .int 0, .int 0, .null, .int 0, .int 0, .int 0, .int 0, .int 0, .null, .int 0, .null, .null, .long 0, .null, .null])), (q6, .inl (cI, 4, .inl (fun _ => 0))), (q13, .inl (cI, 4, .inl (fun _ => 0))), (q20, .inl (cI, 5, .inl (fun _ => 0))), (q27, .inl (cI, 5, .inl (fun _ => 0))), (q34, .inl (cI, 5, .inl (fun _ => 0))), (q42, .inl (cI, 46, .inl (fun _ => 0))), (q50, .inl (cI, 12, .inl (fun _ => 0)))] H := hP
  have hD : va_D A [(h0, .inr (7, [.int 0, .int 0, .ref q6, .ref q13, .ref q20, .ref q27, .ref q34, .ref q42, .ref q50, .null, .int 0, .int 0, .int 0, .null, .int 0, .int 0, .int 0, .int 0, .int 0, .null, .int 0, .null, .null, .long 0, .null, .null])), (q6, .inl (cI, 4, .inl (fun _ => 0))), (q13, .inl (cI, 4, .inl (fun _ => 0))), (q20, .inl (cI, 5, .inl (fun _ => 0))), (q27, .inl (cI, 5, .inl (fun _ => 0))), (q34, .inl (cI, 5, .inl (fun _ => 0))), (q42, .inl (cI, 46, .inl (fun _ => 0))), (q50, .inl (cI, 12, .inl (fun _ => 0)))] := hD
  refine lv_aload_n hx hb dX7_init_55 rfl (lv_at hl 0 rfl) ?_
  refine lv_bipush (v := 20) hx hb dX7_init_56 (by decide) ?_
  refine va_newa (atype := .int) (ty := .int) (a0 := (20, .inl (fun _ => 0))) (N' := 20) hx hb (hts (.arrayClass .int) (by decide +kernel)) rfl hK hP hD hS hA (ul_nwi 20) (by decide) (by decide) (Nat.le_of_ble_eq_true rfl) (Nat.le_of_ble_eq_true rfl) (Nat.le_of_ble_eq_true rfl) dX7_init_58 (fun q58 cA H hK2 hP hD hS => ?_)
  have hcA : cI = cA := (ul_cu (fun _ h => by cases h) hK2 (i := 0) (j := 2) rfl rfl).symm
  subst hcA
  have hP : va_P (dC, dI) classes [(h0, .inr (7, [.int 0, .int 0, .ref q6, .ref q13, .ref q20, .ref q27, .ref q34, .ref q42, .ref q50, .null, .int 0, .int 0, .int 0, .null, .int 0, .int 0, .int 0, .int 0, .int 0, .null, .int 0, .null, .null, .long 0, .null, .null])), (q6, .inl (cI, 4, .inl (fun _ => 0))), (q13, .inl (cI, 4, .inl (fun _ => 0))), (q20, .inl (cI, 5, .inl (fun _ => 0))), (q27, .inl (cI, 5, .inl (fun _ => 0))), (q34, .inl (cI, 5, .inl (fun _ => 0))), (q42, .inl (cI, 46, .inl (fun _ => 0))), (q50, .inl (cI, 12, .inl (fun _ => 0))), (q58, .inl (cI, 20, .inl (fun _ => 0)))] H := hP
  have hD : va_D A [(h0, .inr (7, [.int 0, .int 0, .ref q6, .ref q13, .ref q20, .ref q27, .ref q34, .ref q42, .ref q50, .null, .int 0, .int 0, .int 0, .null, .int 0, .int 0, .int 0, .int 0, .int 0, .null, .int 0, .null, .null, .long 0, .null, .null])), (q6, .inl (cI, 4, .inl (fun _ => 0))), (q13, .inl (cI, 4, .inl (fun _ => 0))), (q20, .inl (cI, 5, .inl (fun _ => 0))), (q27, .inl (cI, 5, .inl (fun _ => 0))), (q34, .inl (cI, 5, .inl (fun _ => 0))), (q42, .inl (cI, 46, .inl (fun _ => 0))), (q50, .inl (cI, 12, .inl (fun _ => 0))), (q58, .inl (cI, 20, .inl (fun _ => 0)))] := hD
  refine W.widen (k := 8) (n := 101) (by decide) (by decide) ?_
  refine va_putF (D := (dC, dI)) (ci := 7) (v := .ref q58) (ty := .array .int) (C := RX7) (T := TX7) (N := 26) hx hb hts hin7 tyX7 tyX7_ok nmX7 hown hK hP hD hS 0 rfl rfl 9 (by decide) (hts (.fieldLink RX7 31 "UnderLaddersModel" "readPerson" "[I") (by decide +kernel)) (fun _ h9 => h9) rfl hin rfl (by decide +kernel) rfl rfl (Nat.le_of_ble_eq_true rfl) dX7_init_60 (fun H locs hP hD hS => ?_)
  have hP : va_P (dC, dI) classes [(h0, .inr (7, [.int 0, .int 0, .ref q6, .ref q13, .ref q20, .ref q27, .ref q34, .ref q42, .ref q50, .ref q58, .int 0, .int 0, .int 0, .null, .int 0, .int 0, .int 0, .int 0, .int 0, .null, .int 0, .null, .null, .long 0, .null, .null])), (q6, .inl (cI, 4, .inl (fun _ => 0))), (q13, .inl (cI, 4, .inl (fun _ => 0))), (q20, .inl (cI, 5, .inl (fun _ => 0))), (q27, .inl (cI, 5, .inl (fun _ => 0))), (q34, .inl (cI, 5, .inl (fun _ => 0))), (q42, .inl (cI, 46, .inl (fun _ => 0))), (q50, .inl (cI, 12, .inl (fun _ => 0))), (q58, .inl (cI, 20, .inl (fun _ => 0)))] H := hP
  have hD : va_D A [(h0, .inr (7, [.int 0, .int 0, .ref q6, .ref q13, .ref q20, .ref q27, .ref q34, .ref q42, .ref q50, .ref q58, .int 0, .int 0, .int 0, .null, .int 0, .int 0, .int 0, .int 0, .int 0, .null, .int 0, .null, .null, .long 0, .null, .null])), (q6, .inl (cI, 4, .inl (fun _ => 0))), (q13, .inl (cI, 4, .inl (fun _ => 0))), (q20, .inl (cI, 5, .inl (fun _ => 0))), (q27, .inl (cI, 5, .inl (fun _ => 0))), (q34, .inl (cI, 5, .inl (fun _ => 0))), (q42, .inl (cI, 46, .inl (fun _ => 0))), (q50, .inl (cI, 12, .inl (fun _ => 0))), (q58, .inl (cI, 20, .inl (fun _ => 0)))] := hD
  refine lv_aload_n hx hb dX7_init_63 rfl (lv_at hl 0 rfl) ?_
  refine lv_bipush (v := 48) hx hb dX7_init_64 (by decide) ?_
  refine va_newa (atype := .int) (ty := .int) (a0 := (48, .inl (fun _ => 0))) (N' := 48) hx hb (hts (.arrayClass .int) (by decide +kernel)) rfl hK hP hD hS hA (ul_nwi 48) (by decide) (by decide) (Nat.le_of_ble_eq_true rfl) (Nat.le_of_ble_eq_true rfl) (Nat.le_of_ble_eq_true rfl) dX7_init_66 (fun q66 cA H hK2 hP hD hS => ?_)
  have hcA : cI = cA := (ul_cu (fun _ h => by cases h) hK2 (i := 0) (j := 2) rfl rfl).symm
  subst hcA
  have hP : va_P (dC, dI) classes [(h0, .inr (7, [.int 0, .int 0, .ref q6, .ref q13, .ref q20, .ref q27, .ref q34, .ref q42, .ref q50, .ref q58, .int 0, .int 0, .int 0, .null, .int 0, .int 0, .int 0, .int 0, .int 0, .null, .int 0, .null, .null, .long 0, .null, .null])), (q6, .inl (cI, 4, .inl (fun _ => 0))), (q13, .inl (cI, 4, .inl (fun _ => 0))), (q20, .inl (cI, 5, .inl (fun _ => 0))), (q27, .inl (cI, 5, .inl (fun _ => 0))), (q34, .inl (cI, 5, .inl (fun _ => 0))), (q42, .inl (cI, 46, .inl (fun _ => 0))), (q50, .inl (cI, 12, .inl (fun _ => 0))), (q58, .inl (cI, 20, .inl (fun _ => 0))), (q66, .inl (cI, 48, .inl (fun _ => 0)))] H := hP
  have hD : va_D A [(h0, .inr (7, [.int 0, .int 0, .ref q6, .ref q13, .ref q20, .ref q27, .ref q34, .ref q42, .ref q50, .ref q58, .int 0, .int 0, .int 0, .null, .int 0, .int 0, .int 0, .int 0, .int 0, .null, .int 0, .null, .null, .long 0, .null, .null])), (q6, .inl (cI, 4, .inl (fun _ => 0))), (q13, .inl (cI, 4, .inl (fun _ => 0))), (q20, .inl (cI, 5, .inl (fun _ => 0))), (q27, .inl (cI, 5, .inl (fun _ => 0))), (q34, .inl (cI, 5, .inl (fun _ => 0))), (q42, .inl (cI, 46, .inl (fun _ => 0))), (q50, .inl (cI, 12, .inl (fun _ => 0))), (q58, .inl (cI, 20, .inl (fun _ => 0))), (q66, .inl (cI, 48, .inl (fun _ => 0)))] := hD
  refine W.widen (k := 9) (n := 149) (by decide) (by decide) ?_
  refine va_putF (D := (dC, dI)) (ci := 7) (v := .ref q66) (ty := .array .int) (C := RX7) (T := TX7) (N := 26) hx hb hts hin7 tyX7 tyX7_ok nmX7 hown hK hP hD hS 0 rfl rfl 13 (by decide) (hts (.fieldLink RX7 34 "UnderLaddersModel" "text" "[I") (by decide +kernel)) (fun _ h9 => h9) rfl hin rfl (by decide +kernel) rfl rfl (Nat.le_of_ble_eq_true rfl) dX7_init_68 (fun H locs hP hD hS => ?_)
  have hP : va_P (dC, dI) classes [(h0, .inr (7, [.int 0, .int 0, .ref q6, .ref q13, .ref q20, .ref q27, .ref q34, .ref q42, .ref q50, .ref q58, .int 0, .int 0, .int 0, .ref q66, .int 0, .int 0, .int 0, .int 0, .int 0, .null, .int 0, .null, .null, .long 0, .null, .null])), (q6, .inl (cI, 4, .inl (fun _ => 0))), (q13, .inl (cI, 4, .inl (fun _ => 0))), (q20, .inl (cI, 5, .inl (fun _ => 0))), (q27, .inl (cI, 5, .inl (fun _ => 0))), (q34, .inl (cI, 5, .inl (fun _ => 0))), (q42, .inl (cI, 46, .inl (fun _ => 0))), (q50, .inl (cI, 12, .inl (fun _ => 0))), (q58, .inl (cI, 20, .inl (fun _ => 0))), (q66, .inl (cI, 48, .inl (fun _ => 0)))] H := hP
  have hD : va_D A [(h0, .inr (7, [.int 0, .int 0, .ref q6, .ref q13, .ref q20, .ref q27, .ref q34, .ref q42, .ref q50, .ref q58, .int 0, .int 0, .int 0, .ref q66, .int 0, .int 0, .int 0, .int 0, .int 0, .null, .int 0, .null, .null, .long 0, .null, .null])), (q6, .inl (cI, 4, .inl (fun _ => 0))), (q13, .inl (cI, 4, .inl (fun _ => 0))), (q20, .inl (cI, 5, .inl (fun _ => 0))), (q27, .inl (cI, 5, .inl (fun _ => 0))), (q34, .inl (cI, 5, .inl (fun _ => 0))), (q42, .inl (cI, 46, .inl (fun _ => 0))), (q50, .inl (cI, 12, .inl (fun _ => 0))), (q58, .inl (cI, 20, .inl (fun _ => 0))), (q66, .inl (cI, 48, .inl (fun _ => 0)))] := hD
  refine lv_aload_n hx hb dX7_init_71 rfl (lv_at hl 0 rfl) ?_
  refine lv_sipush (v := 322) hx hb dX7_init_72 (by decide) ?_
  refine va_newa (atype := .int) (ty := .int) (a0 := (322, .inl (fun _ => 0))) (N' := 322) hx hb (hts (.arrayClass .int) (by decide +kernel)) rfl hK hP hD hS hA (ul_nwi 322) (by decide) (by decide) (Nat.le_of_ble_eq_true rfl) (Nat.le_of_ble_eq_true rfl) (Nat.le_of_ble_eq_true rfl) dX7_init_75 (fun q75 cA H hK2 hP hD hS => ?_)
  have hcA : cI = cA := (ul_cu (fun _ h => by cases h) hK2 (i := 0) (j := 2) rfl rfl).symm
  subst hcA
  have hP : va_P (dC, dI) classes [(h0, .inr (7, [.int 0, .int 0, .ref q6, .ref q13, .ref q20, .ref q27, .ref q34, .ref q42, .ref q50, .ref q58, .int 0, .int 0, .int 0, .ref q66, .int 0, .int 0, .int 0, .int 0, .int 0, .null, .int 0, .null, .null, .long 0, .null, .null])), (q6, .inl (cI, 4, .inl (fun _ => 0))), (q13, .inl (cI, 4, .inl (fun _ => 0))), (q20, .inl (cI, 5, .inl (fun _ => 0))), (q27, .inl (cI, 5, .inl (fun _ => 0))), (q34, .inl (cI, 5, .inl (fun _ => 0))), (q42, .inl (cI, 46, .inl (fun _ => 0))), (q50, .inl (cI, 12, .inl (fun _ => 0))), (q58, .inl (cI, 20, .inl (fun _ => 0))), (q66, .inl (cI, 48, .inl (fun _ => 0))), (q75, .inl (cI, 322, .inl (fun _ => 0)))] H := hP
  have hD : va_D A [(h0, .inr (7, [.int 0, .int 0, .ref q6, .ref q13, .ref q20, .ref q27, .ref q34, .ref q42, .ref q50, .ref q58, .int 0, .int 0, .int 0, .ref q66, .int 0, .int 0, .int 0, .int 0, .int 0, .null, .int 0, .null, .null, .long 0, .null, .null])), (q6, .inl (cI, 4, .inl (fun _ => 0))), (q13, .inl (cI, 4, .inl (fun _ => 0))), (q20, .inl (cI, 5, .inl (fun _ => 0))), (q27, .inl (cI, 5, .inl (fun _ => 0))), (q34, .inl (cI, 5, .inl (fun _ => 0))), (q42, .inl (cI, 46, .inl (fun _ => 0))), (q50, .inl (cI, 12, .inl (fun _ => 0))), (q58, .inl (cI, 20, .inl (fun _ => 0))), (q66, .inl (cI, 48, .inl (fun _ => 0))), (q75, .inl (cI, 322, .inl (fun _ => 0)))] := hD
  refine W.widen (k := 10) (n := 471) (by decide) (by decide) ?_
  refine va_putF (D := (dC, dI)) (ci := 7) (v := .ref q75) (ty := .array .int) (C := RX7) (T := TX7) (N := 26) hx hb hts hin7 tyX7 tyX7_ok nmX7 hown hK hP hD hS 0 rfl rfl 19 (by decide) (hts (.fieldLink RX7 37 "UnderLaddersModel" "row" "[I") (by decide +kernel)) (fun _ h9 => h9) rfl hin rfl (by decide +kernel) rfl rfl (Nat.le_of_ble_eq_true rfl) dX7_init_77 (fun H locs hP hD hS => ?_)
  have hP : va_P (dC, dI) classes [(h0, .inr (7, [.int 0, .int 0, .ref q6, .ref q13, .ref q20, .ref q27, .ref q34, .ref q42, .ref q50, .ref q58, .int 0, .int 0, .int 0, .ref q66, .int 0, .int 0, .int 0, .int 0, .int 0, .ref q75, .int 0, .null, .null, .long 0, .null, .null])), (q6, .inl (cI, 4, .inl (fun _ => 0))), (q13, .inl (cI, 4, .inl (fun _ => 0))), (q20, .inl (cI, 5, .inl (fun _ => 0))), (q27, .inl (cI, 5, .inl (fun _ => 0))), (q34, .inl (cI, 5, .inl (fun _ => 0))), (q42, .inl (cI, 46, .inl (fun _ => 0))), (q50, .inl (cI, 12, .inl (fun _ => 0))), (q58, .inl (cI, 20, .inl (fun _ => 0))), (q66, .inl (cI, 48, .inl (fun _ => 0))), (q75, .inl (cI, 322, .inl (fun _ => 0)))] H := hP
  have hD : va_D A [(h0, .inr (7, [.int 0, .int 0, .ref q6, .ref q13, .ref q20, .ref q27, .ref q34, .ref q42, .ref q50, .ref q58, .int 0, .int 0, .int 0, .ref q66, .int 0, .int 0, .int 0, .int 0, .int 0, .ref q75, .int 0, .null, .null, .long 0, .null, .null])), (q6, .inl (cI, 4, .inl (fun _ => 0))), (q13, .inl (cI, 4, .inl (fun _ => 0))), (q20, .inl (cI, 5, .inl (fun _ => 0))), (q27, .inl (cI, 5, .inl (fun _ => 0))), (q34, .inl (cI, 5, .inl (fun _ => 0))), (q42, .inl (cI, 46, .inl (fun _ => 0))), (q50, .inl (cI, 12, .inl (fun _ => 0))), (q58, .inl (cI, 20, .inl (fun _ => 0))), (q66, .inl (cI, 48, .inl (fun _ => 0))), (q75, .inl (cI, 322, .inl (fun _ => 0)))] := hD
  refine lv_aload_n hx hb dX7_init_80 rfl (lv_at hl 0 rfl) ?_
  refine lv_bipush (v := 6) hx hb dX7_init_81 (by decide) ?_
  refine va_newa (atype := .int) (ty := .int) (a0 := (6, .inl (fun _ => 0))) (N' := 6) hx hb (hts (.arrayClass .int) (by decide +kernel)) rfl hK hP hD hS hA (ul_nwi 6) (by decide) (by decide) (Nat.le_of_ble_eq_true rfl) (Nat.le_of_ble_eq_true rfl) (Nat.le_of_ble_eq_true rfl) dX7_init_83 (fun q83 cA H hK2 hP hD hS => ?_)
  have hcA : cI = cA := (ul_cu (fun _ h => by cases h) hK2 (i := 0) (j := 2) rfl rfl).symm
  subst hcA
  have hP : va_P (dC, dI) classes [(h0, .inr (7, [.int 0, .int 0, .ref q6, .ref q13, .ref q20, .ref q27, .ref q34, .ref q42, .ref q50, .ref q58, .int 0, .int 0, .int 0, .ref q66, .int 0, .int 0, .int 0, .int 0, .int 0, .ref q75, .int 0, .null, .null, .long 0, .null, .null])), (q6, .inl (cI, 4, .inl (fun _ => 0))), (q13, .inl (cI, 4, .inl (fun _ => 0))), (q20, .inl (cI, 5, .inl (fun _ => 0))), (q27, .inl (cI, 5, .inl (fun _ => 0))), (q34, .inl (cI, 5, .inl (fun _ => 0))), (q42, .inl (cI, 46, .inl (fun _ => 0))), (q50, .inl (cI, 12, .inl (fun _ => 0))), (q58, .inl (cI, 20, .inl (fun _ => 0))), (q66, .inl (cI, 48, .inl (fun _ => 0))), (q75, .inl (cI, 322, .inl (fun _ => 0))), (q83, .inl (cI, 6, .inl (fun _ => 0)))] H := hP
  have hD : va_D A [(h0, .inr (7, [.int 0, .int 0, .ref q6, .ref q13, .ref q20, .ref q27, .ref q34, .ref q42, .ref q50, .ref q58, .int 0, .int 0, .int 0, .ref q66, .int 0, .int 0, .int 0, .int 0, .int 0, .ref q75, .int 0, .null, .null, .long 0, .null, .null])), (q6, .inl (cI, 4, .inl (fun _ => 0))), (q13, .inl (cI, 4, .inl (fun _ => 0))), (q20, .inl (cI, 5, .inl (fun _ => 0))), (q27, .inl (cI, 5, .inl (fun _ => 0))), (q34, .inl (cI, 5, .inl (fun _ => 0))), (q42, .inl (cI, 46, .inl (fun _ => 0))), (q50, .inl (cI, 12, .inl (fun _ => 0))), (q58, .inl (cI, 20, .inl (fun _ => 0))), (q66, .inl (cI, 48, .inl (fun _ => 0))), (q75, .inl (cI, 322, .inl (fun _ => 0))), (q83, .inl (cI, 6, .inl (fun _ => 0)))] := hD
  refine W.widen (k := 11) (n := 477) (by decide) (by decide) ?_
  refine va_putF (D := (dC, dI)) (ci := 7) (v := .ref q83) (ty := .array .int) (C := RX7) (T := TX7) (N := 26) hx hb hts hin7 tyX7 tyX7_ok nmX7 hown hK hP hD hS 0 rfl rfl 21 (by decide) (hts (.fieldLink RX7 40 "UnderLaddersModel" "seenAhead" "[I") (by decide +kernel)) (fun _ h9 => h9) rfl hin rfl (by decide +kernel) rfl rfl (Nat.le_of_ble_eq_true rfl) dX7_init_85 (fun H locs hP hD hS => ?_)
  have hP : va_P (dC, dI) classes [(h0, .inr (7, [.int 0, .int 0, .ref q6, .ref q13, .ref q20, .ref q27, .ref q34, .ref q42, .ref q50, .ref q58, .int 0, .int 0, .int 0, .ref q66, .int 0, .int 0, .int 0, .int 0, .int 0, .ref q75, .int 0, .ref q83, .null, .long 0, .null, .null])), (q6, .inl (cI, 4, .inl (fun _ => 0))), (q13, .inl (cI, 4, .inl (fun _ => 0))), (q20, .inl (cI, 5, .inl (fun _ => 0))), (q27, .inl (cI, 5, .inl (fun _ => 0))), (q34, .inl (cI, 5, .inl (fun _ => 0))), (q42, .inl (cI, 46, .inl (fun _ => 0))), (q50, .inl (cI, 12, .inl (fun _ => 0))), (q58, .inl (cI, 20, .inl (fun _ => 0))), (q66, .inl (cI, 48, .inl (fun _ => 0))), (q75, .inl (cI, 322, .inl (fun _ => 0))), (q83, .inl (cI, 6, .inl (fun _ => 0)))] H := hP
  have hD : va_D A [(h0, .inr (7, [.int 0, .int 0, .ref q6, .ref q13, .ref q20, .ref q27, .ref q34, .ref q42, .ref q50, .ref q58, .int 0, .int 0, .int 0, .ref q66, .int 0, .int 0, .int 0, .int 0, .int 0, .ref q75, .int 0, .ref q83, .null, .long 0, .null, .null])), (q6, .inl (cI, 4, .inl (fun _ => 0))), (q13, .inl (cI, 4, .inl (fun _ => 0))), (q20, .inl (cI, 5, .inl (fun _ => 0))), (q27, .inl (cI, 5, .inl (fun _ => 0))), (q34, .inl (cI, 5, .inl (fun _ => 0))), (q42, .inl (cI, 46, .inl (fun _ => 0))), (q50, .inl (cI, 12, .inl (fun _ => 0))), (q58, .inl (cI, 20, .inl (fun _ => 0))), (q66, .inl (cI, 48, .inl (fun _ => 0))), (q75, .inl (cI, 322, .inl (fun _ => 0))), (q83, .inl (cI, 6, .inl (fun _ => 0)))] := hD
  refine lv_aload_n hx hb dX7_init_88 rfl (lv_at hl 0 rfl) ?_
  refine lv_bipush (v := 6) hx hb dX7_init_89 (by decide) ?_
  refine va_newa (atype := .int) (ty := .int) (a0 := (6, .inl (fun _ => 0))) (N' := 6) hx hb (hts (.arrayClass .int) (by decide +kernel)) rfl hK hP hD hS hA (ul_nwi 6) (by decide) (by decide) (Nat.le_of_ble_eq_true rfl) (Nat.le_of_ble_eq_true rfl) (Nat.le_of_ble_eq_true rfl) dX7_init_91 (fun q91 cA H hK2 hP hD hS => ?_)
  have hcA : cI = cA := (ul_cu (fun _ h => by cases h) hK2 (i := 0) (j := 2) rfl rfl).symm
  subst hcA
  have hP : va_P (dC, dI) classes [(h0, .inr (7, [.int 0, .int 0, .ref q6, .ref q13, .ref q20, .ref q27, .ref q34, .ref q42, .ref q50, .ref q58, .int 0, .int 0, .int 0, .ref q66, .int 0, .int 0, .int 0, .int 0, .int 0, .ref q75, .int 0, .ref q83, .null, .long 0, .null, .null])), (q6, .inl (cI, 4, .inl (fun _ => 0))), (q13, .inl (cI, 4, .inl (fun _ => 0))), (q20, .inl (cI, 5, .inl (fun _ => 0))), (q27, .inl (cI, 5, .inl (fun _ => 0))), (q34, .inl (cI, 5, .inl (fun _ => 0))), (q42, .inl (cI, 46, .inl (fun _ => 0))), (q50, .inl (cI, 12, .inl (fun _ => 0))), (q58, .inl (cI, 20, .inl (fun _ => 0))), (q66, .inl (cI, 48, .inl (fun _ => 0))), (q75, .inl (cI, 322, .inl (fun _ => 0))), (q83, .inl (cI, 6, .inl (fun _ => 0))), (q91, .inl (cI, 6, .inl (fun _ => 0)))] H := hP
  have hD : va_D A [(h0, .inr (7, [.int 0, .int 0, .ref q6, .ref q13, .ref q20, .ref q27, .ref q34, .ref q42, .ref q50, .ref q58, .int 0, .int 0, .int 0, .ref q66, .int 0, .int 0, .int 0, .int 0, .int 0, .ref q75, .int 0, .ref q83, .null, .long 0, .null, .null])), (q6, .inl (cI, 4, .inl (fun _ => 0))), (q13, .inl (cI, 4, .inl (fun _ => 0))), (q20, .inl (cI, 5, .inl (fun _ => 0))), (q27, .inl (cI, 5, .inl (fun _ => 0))), (q34, .inl (cI, 5, .inl (fun _ => 0))), (q42, .inl (cI, 46, .inl (fun _ => 0))), (q50, .inl (cI, 12, .inl (fun _ => 0))), (q58, .inl (cI, 20, .inl (fun _ => 0))), (q66, .inl (cI, 48, .inl (fun _ => 0))), (q75, .inl (cI, 322, .inl (fun _ => 0))), (q83, .inl (cI, 6, .inl (fun _ => 0))), (q91, .inl (cI, 6, .inl (fun _ => 0)))] := hD
  refine W.widen (k := 12) (n := 483) (by decide) (by decide) ?_
  refine va_putF (D := (dC, dI)) (ci := 7) (v := .ref q91) (ty := .array .int) (C := RX7) (T := TX7) (N := 26) hx hb hts hin7 tyX7 tyX7_ok nmX7 hown hK hP hD hS 0 rfl rfl 22 (by decide) (hts (.fieldLink RX7 43 "UnderLaddersModel" "seenBehind" "[I") (by decide +kernel)) (fun _ h9 => h9) rfl hin rfl (by decide +kernel) rfl rfl (Nat.le_of_ble_eq_true rfl) dX7_init_93 (fun H locs hP hD hS => ?_)
  have hP : va_P (dC, dI) classes [(h0, .inr (7, [.int 0, .int 0, .ref q6, .ref q13, .ref q20, .ref q27, .ref q34, .ref q42, .ref q50, .ref q58, .int 0, .int 0, .int 0, .ref q66, .int 0, .int 0, .int 0, .int 0, .int 0, .ref q75, .int 0, .ref q83, .ref q91, .long 0, .null, .null])), (q6, .inl (cI, 4, .inl (fun _ => 0))), (q13, .inl (cI, 4, .inl (fun _ => 0))), (q20, .inl (cI, 5, .inl (fun _ => 0))), (q27, .inl (cI, 5, .inl (fun _ => 0))), (q34, .inl (cI, 5, .inl (fun _ => 0))), (q42, .inl (cI, 46, .inl (fun _ => 0))), (q50, .inl (cI, 12, .inl (fun _ => 0))), (q58, .inl (cI, 20, .inl (fun _ => 0))), (q66, .inl (cI, 48, .inl (fun _ => 0))), (q75, .inl (cI, 322, .inl (fun _ => 0))), (q83, .inl (cI, 6, .inl (fun _ => 0))), (q91, .inl (cI, 6, .inl (fun _ => 0)))] H := hP
  have hD : va_D A [(h0, .inr (7, [.int 0, .int 0, .ref q6, .ref q13, .ref q20, .ref q27, .ref q34, .ref q42, .ref q50, .ref q58, .int 0, .int 0, .int 0, .ref q66, .int 0, .int 0, .int 0, .int 0, .int 0, .ref q75, .int 0, .ref q83, .ref q91, .long 0, .null, .null])), (q6, .inl (cI, 4, .inl (fun _ => 0))), (q13, .inl (cI, 4, .inl (fun _ => 0))), (q20, .inl (cI, 5, .inl (fun _ => 0))), (q27, .inl (cI, 5, .inl (fun _ => 0))), (q34, .inl (cI, 5, .inl (fun _ => 0))), (q42, .inl (cI, 46, .inl (fun _ => 0))), (q50, .inl (cI, 12, .inl (fun _ => 0))), (q58, .inl (cI, 20, .inl (fun _ => 0))), (q66, .inl (cI, 48, .inl (fun _ => 0))), (q75, .inl (cI, 322, .inl (fun _ => 0))), (q83, .inl (cI, 6, .inl (fun _ => 0))), (q91, .inl (cI, 6, .inl (fun _ => 0)))] := hD
  refine lv_aload_n hx hb dX7_init_96 rfl (lv_at hl 0 rfl) ?_
  refine lv_iconst (v := 2) hx hb dX7_init_97 (by decide) ?_
  refine va_newa (atype := .boolean) (ty := .boolean) (a0 := (2, .inl (fun _ => 0))) (N' := 2) hx hb (hts (.arrayClass .boolean) (by decide +kernel)) rfl hK hP hD hS hA (ul_nwz 2) (by decide) (by decide) (Nat.le_of_ble_eq_true rfl) (Nat.le_of_ble_eq_true rfl) (Nat.le_of_ble_eq_true rfl) dX7_init_98 (fun q98 cA H hK2 hP hD hS => ?_)
  have hcA : cZ = cA := (ul_cu (fun _ h => by cases h) hK2 (i := 1) (j := 2) rfl rfl).symm
  subst hcA
  have hP : va_P (dC, dI) classes [(h0, .inr (7, [.int 0, .int 0, .ref q6, .ref q13, .ref q20, .ref q27, .ref q34, .ref q42, .ref q50, .ref q58, .int 0, .int 0, .int 0, .ref q66, .int 0, .int 0, .int 0, .int 0, .int 0, .ref q75, .int 0, .ref q83, .ref q91, .long 0, .null, .null])), (q6, .inl (cI, 4, .inl (fun _ => 0))), (q13, .inl (cI, 4, .inl (fun _ => 0))), (q20, .inl (cI, 5, .inl (fun _ => 0))), (q27, .inl (cI, 5, .inl (fun _ => 0))), (q34, .inl (cI, 5, .inl (fun _ => 0))), (q42, .inl (cI, 46, .inl (fun _ => 0))), (q50, .inl (cI, 12, .inl (fun _ => 0))), (q58, .inl (cI, 20, .inl (fun _ => 0))), (q66, .inl (cI, 48, .inl (fun _ => 0))), (q75, .inl (cI, 322, .inl (fun _ => 0))), (q83, .inl (cI, 6, .inl (fun _ => 0))), (q91, .inl (cI, 6, .inl (fun _ => 0))), (q98, .inl (cZ, 2, .inl (fun _ => 0)))] H := hP
  have hD : va_D A [(h0, .inr (7, [.int 0, .int 0, .ref q6, .ref q13, .ref q20, .ref q27, .ref q34, .ref q42, .ref q50, .ref q58, .int 0, .int 0, .int 0, .ref q66, .int 0, .int 0, .int 0, .int 0, .int 0, .ref q75, .int 0, .ref q83, .ref q91, .long 0, .null, .null])), (q6, .inl (cI, 4, .inl (fun _ => 0))), (q13, .inl (cI, 4, .inl (fun _ => 0))), (q20, .inl (cI, 5, .inl (fun _ => 0))), (q27, .inl (cI, 5, .inl (fun _ => 0))), (q34, .inl (cI, 5, .inl (fun _ => 0))), (q42, .inl (cI, 46, .inl (fun _ => 0))), (q50, .inl (cI, 12, .inl (fun _ => 0))), (q58, .inl (cI, 20, .inl (fun _ => 0))), (q66, .inl (cI, 48, .inl (fun _ => 0))), (q75, .inl (cI, 322, .inl (fun _ => 0))), (q83, .inl (cI, 6, .inl (fun _ => 0))), (q91, .inl (cI, 6, .inl (fun _ => 0))), (q98, .inl (cZ, 2, .inl (fun _ => 0)))] := hD
  refine W.widen (k := 13) (n := 485) (by decide) (by decide) ?_
  refine va_putF (D := (dC, dI)) (ci := 7) (v := .ref q98) (ty := .array .boolean) (C := RX7) (T := TX7) (N := 26) hx hb hts hin7 tyX7 tyX7_ok nmX7 hown hK hP hD hS 0 rfl rfl 24 (by decide) (hts (.fieldLink RX7 46 "UnderLaddersModel" "isKept" "[Z") (by decide +kernel)) (fun _ h9 => h9) rfl hin rfl (by decide +kernel) rfl rfl (Nat.le_of_ble_eq_true rfl) dX7_init_100 (fun H locs hP hD hS => ?_)
  have hP : va_P (dC, dI) classes [(h0, .inr (7, [.int 0, .int 0, .ref q6, .ref q13, .ref q20, .ref q27, .ref q34, .ref q42, .ref q50, .ref q58, .int 0, .int 0, .int 0, .ref q66, .int 0, .int 0, .int 0, .int 0, .int 0, .ref q75, .int 0, .ref q83, .ref q91, .long 0, .ref q98, .null])), (q6, .inl (cI, 4, .inl (fun _ => 0))), (q13, .inl (cI, 4, .inl (fun _ => 0))), (q20, .inl (cI, 5, .inl (fun _ => 0))), (q27, .inl (cI, 5, .inl (fun _ => 0))), (q34, .inl (cI, 5, .inl (fun _ => 0))), (q42, .inl (cI, 46, .inl (fun _ => 0))), (q50, .inl (cI, 12, .inl (fun _ => 0))), (q58, .inl (cI, 20, .inl (fun _ => 0))), (q66, .inl (cI, 48, .inl (fun _ => 0))), (q75, .inl (cI, 322, .inl (fun _ => 0))), (q83, .inl (cI, 6, .inl (fun _ => 0))), (q91, .inl (cI, 6, .inl (fun _ => 0))), (q98, .inl (cZ, 2, .inl (fun _ => 0)))] H := hP
  have hD : va_D A [(h0, .inr (7, [.int 0, .int 0, .ref q6, .ref q13, .ref q20, .ref q27, .ref q34, .ref q42, .ref q50, .ref q58, .int 0, .int 0, .int 0, .ref q66, .int 0, .int 0, .int 0, .int 0, .int 0, .ref q75, .int 0, .ref q83, .ref q91, .long 0, .ref q98, .null])), (q6, .inl (cI, 4, .inl (fun _ => 0))), (q13, .inl (cI, 4, .inl (fun _ => 0))), (q20, .inl (cI, 5, .inl (fun _ => 0))), (q27, .inl (cI, 5, .inl (fun _ => 0))), (q34, .inl (cI, 5, .inl (fun _ => 0))), (q42, .inl (cI, 46, .inl (fun _ => 0))), (q50, .inl (cI, 12, .inl (fun _ => 0))), (q58, .inl (cI, 20, .inl (fun _ => 0))), (q66, .inl (cI, 48, .inl (fun _ => 0))), (q75, .inl (cI, 322, .inl (fun _ => 0))), (q83, .inl (cI, 6, .inl (fun _ => 0))), (q91, .inl (cI, 6, .inl (fun _ => 0))), (q98, .inl (cZ, 2, .inl (fun _ => 0)))] := hD
  refine lv_aload_n hx hb dX7_init_103 rfl (lv_at hl 0 rfl) ?_
  refine lv_bipush (v := 46) hx hb dX7_init_104 (by decide) ?_
  refine va_newa (atype := .int) (ty := .int) (a0 := (46, .inl (fun _ => 0))) (N' := 46) hx hb (hts (.arrayClass .int) (by decide +kernel)) rfl hK hP hD hS hA (ul_nwi 46) (by decide) (by decide) (Nat.le_of_ble_eq_true rfl) (Nat.le_of_ble_eq_true rfl) (Nat.le_of_ble_eq_true rfl) dX7_init_106 (fun q106 cA H hK2 hP hD hS => ?_)
  have hcA : cI = cA := (ul_cu (fun _ h => by cases h) hK2 (i := 0) (j := 2) rfl rfl).symm
  subst hcA
  have hP : va_P (dC, dI) classes [(h0, .inr (7, [.int 0, .int 0, .ref q6, .ref q13, .ref q20, .ref q27, .ref q34, .ref q42, .ref q50, .ref q58, .int 0, .int 0, .int 0, .ref q66, .int 0, .int 0, .int 0, .int 0, .int 0, .ref q75, .int 0, .ref q83, .ref q91, .long 0, .ref q98, .null])), (q6, .inl (cI, 4, .inl (fun _ => 0))), (q13, .inl (cI, 4, .inl (fun _ => 0))), (q20, .inl (cI, 5, .inl (fun _ => 0))), (q27, .inl (cI, 5, .inl (fun _ => 0))), (q34, .inl (cI, 5, .inl (fun _ => 0))), (q42, .inl (cI, 46, .inl (fun _ => 0))), (q50, .inl (cI, 12, .inl (fun _ => 0))), (q58, .inl (cI, 20, .inl (fun _ => 0))), (q66, .inl (cI, 48, .inl (fun _ => 0))), (q75, .inl (cI, 322, .inl (fun _ => 0))), (q83, .inl (cI, 6, .inl (fun _ => 0))), (q91, .inl (cI, 6, .inl (fun _ => 0))), (q98, .inl (cZ, 2, .inl (fun _ => 0))), (q106, .inl (cI, 46, .inl (fun _ => 0)))] H := hP
  have hD : va_D A [(h0, .inr (7, [.int 0, .int 0, .ref q6, .ref q13, .ref q20, .ref q27, .ref q34, .ref q42, .ref q50, .ref q58, .int 0, .int 0, .int 0, .ref q66, .int 0, .int 0, .int 0, .int 0, .int 0, .ref q75, .int 0, .ref q83, .ref q91, .long 0, .ref q98, .null])), (q6, .inl (cI, 4, .inl (fun _ => 0))), (q13, .inl (cI, 4, .inl (fun _ => 0))), (q20, .inl (cI, 5, .inl (fun _ => 0))), (q27, .inl (cI, 5, .inl (fun _ => 0))), (q34, .inl (cI, 5, .inl (fun _ => 0))), (q42, .inl (cI, 46, .inl (fun _ => 0))), (q50, .inl (cI, 12, .inl (fun _ => 0))), (q58, .inl (cI, 20, .inl (fun _ => 0))), (q66, .inl (cI, 48, .inl (fun _ => 0))), (q75, .inl (cI, 322, .inl (fun _ => 0))), (q83, .inl (cI, 6, .inl (fun _ => 0))), (q91, .inl (cI, 6, .inl (fun _ => 0))), (q98, .inl (cZ, 2, .inl (fun _ => 0))), (q106, .inl (cI, 46, .inl (fun _ => 0)))] := hD
  refine W.widen (k := 14) (n := 531) (by decide) (by decide) ?_
  refine va_putF (D := (dC, dI)) (ci := 7) (v := .ref q106) (ty := .array .int) (C := RX7) (T := TX7) (N := 26) hx hb hts hin7 tyX7 tyX7_ok nmX7 hown hK hP hD hS 0 rfl rfl 25 (by decide) (hts (.fieldLink RX7 50 "UnderLaddersModel" "kept" "[I") (by decide +kernel)) (fun _ h9 => h9) rfl hin rfl (by decide +kernel) rfl rfl (Nat.le_of_ble_eq_true rfl) dX7_init_108 (fun H locs hP hD hS => ?_)
  have hP : va_P (dC, dI) classes [(h0, .inr (7, [.int 0, .int 0, .ref q6, .ref q13, .ref q20, .ref q27, .ref q34, .ref q42, .ref q50, .ref q58, .int 0, .int 0, .int 0, .ref q66, .int 0, .int 0, .int 0, .int 0, .int 0, .ref q75, .int 0, .ref q83, .ref q91, .long 0, .ref q98, .ref q106])), (q6, .inl (cI, 4, .inl (fun _ => 0))), (q13, .inl (cI, 4, .inl (fun _ => 0))), (q20, .inl (cI, 5, .inl (fun _ => 0))), (q27, .inl (cI, 5, .inl (fun _ => 0))), (q34, .inl (cI, 5, .inl (fun _ => 0))), (q42, .inl (cI, 46, .inl (fun _ => 0))), (q50, .inl (cI, 12, .inl (fun _ => 0))), (q58, .inl (cI, 20, .inl (fun _ => 0))), (q66, .inl (cI, 48, .inl (fun _ => 0))), (q75, .inl (cI, 322, .inl (fun _ => 0))), (q83, .inl (cI, 6, .inl (fun _ => 0))), (q91, .inl (cI, 6, .inl (fun _ => 0))), (q98, .inl (cZ, 2, .inl (fun _ => 0))), (q106, .inl (cI, 46, .inl (fun _ => 0)))] H := hP
  have hD : va_D A [(h0, .inr (7, [.int 0, .int 0, .ref q6, .ref q13, .ref q20, .ref q27, .ref q34, .ref q42, .ref q50, .ref q58, .int 0, .int 0, .int 0, .ref q66, .int 0, .int 0, .int 0, .int 0, .int 0, .ref q75, .int 0, .ref q83, .ref q91, .long 0, .ref q98, .ref q106])), (q6, .inl (cI, 4, .inl (fun _ => 0))), (q13, .inl (cI, 4, .inl (fun _ => 0))), (q20, .inl (cI, 5, .inl (fun _ => 0))), (q27, .inl (cI, 5, .inl (fun _ => 0))), (q34, .inl (cI, 5, .inl (fun _ => 0))), (q42, .inl (cI, 46, .inl (fun _ => 0))), (q50, .inl (cI, 12, .inl (fun _ => 0))), (q58, .inl (cI, 20, .inl (fun _ => 0))), (q66, .inl (cI, 48, .inl (fun _ => 0))), (q75, .inl (cI, 322, .inl (fun _ => 0))), (q83, .inl (cI, 6, .inl (fun _ => 0))), (q91, .inl (cI, 6, .inl (fun _ => 0))), (q98, .inl (cZ, 2, .inl (fun _ => 0))), (q106, .inl (cI, 46, .inl (fun _ => 0)))] := hD
  have hP9 := hP.sub (ws' := ul_wM cI cZ (fun k => match k with | 0 => h0 | 1 => q6 | 2 => q13 | 3 => q20 | 4 => q27 | 5 => q34 | 6 => q42 | 7 => q50 | 8 => q58 | 9 => q66 | 10 => q75 | 11 => q83 | 12 => q91 | 13 => q98 | 14 => q106 | _ => 0) ul_Z 0) [0, 1, 2, 3, 4, 5, 6, 7, 8, 9, 10, 11, 12, 13, 14] rfl
  have hD9 := hD.sub (ws' := ul_wM cI cZ (fun k => match k with | 0 => h0 | 1 => q6 | 2 => q13 | 3 => q20 | 4 => q27 | 5 => q34 | 6 => q42 | 7 => q50 | 8 => q58 | 9 => q66 | 10 => q75 | 11 => q83 | 12 => q91 | 13 => q98 | 14 => q106 | _ => 0) ul_Z 0) [0, 1, 2, 3, 4, 5, 6, 7, 8, 9, 10, 11, 12, 13, 14] (by decide) rfl
  exact W.vret hx hb hr (fun t ht hW => ⟨⟨(fun k => match k with | 0 => h0 | 1 => q6 | 2 => q13 | 3 => q20 | 4 => q27 | 5 => q34 | 6 => q42 | 7 => q50 | 8 => q58 | 9 => q66 | 10 => q75 | 11 => q83 | 12 => q91 | 13 => q98 | 14 => q106 | _ => 0), rfl, rfl, by rw [ht]; exact hP9, va_K.moved hW.alike hK, hD9⟩, hS.F ht⟩) hS.2.2 dX7_init_111
