def f_X4_setTo (T : ul_S) (O : ul_S) : Option ul_S :=
  ul_bd (ul_cp T 1 (O 1) 4) fun T1 => ul_bd (ul_cp T1 2 (O 2) 10) fun T2 => ul_bd (ul_cp T2 3 (O 3) 4) fun T3 => ul_bd (ul_cp T3 4 (O 4) 4) fun T4 => ul_bd (ul_cp T4 5 (O 5) 5) fun T5 => ul_bd (ul_cp T5 6 (O 6) 5) fun T6 => ul_bd (ul_up T6 0 0 (O 0 0)) fun T7 => some T7
set_option maxHeartbeats 4000000 in
set_option maxRecDepth 100000 in
theorem c_X4_setTo (l : Launch) (dC : Nat → ClassId) (dI : Nat → Nat → Nat) (cI : ClassId) (aT : Nat → Nat) (aO : Nat → Nat) (aK : Nat → Nat) (sz : Nat) (T : ul_S) (O : ul_S) (r : ul_S) (h : f_X4_setTo T O = some r) : Met l yX4_setTo wsX4_setTo ({ frames := 1, cells := 0, slots := 0, locals := 40 }) (va_Pc [.ref (aT 0), .ref (aO 0)] (ul_pre (dC, dI) [(cI, .int)] ul_NX sz (ul_wS cI aT (aK 0) T ++ ul_wS cI aO (aK 0) O))) (va_Qv (fun (_ : Unit) => True) (fun _ => ul_post (dC, dI) [(cI, .int)] (va_A (ul_wS cI aT (aK 0) T ++ ul_wS cI aO (aK 0) O) sz) (ul_wS cI aT (aK 0) r ++ ul_wS cI aO (aK 0) O)) (va_A (ul_wS cI aT (aK 0) T ++ ul_wS cI aO (aK 0) O) sz)) 0 0 (va_A (ul_wS cI aT (aK 0) T ++ ul_wS cI aO (aK 0) O) sz) := by
  refine Met.ofW (cc := cX4_setTo) (maxL := 2) (ret := none) (by decide) rfl ?_
  intro p e s m args below meth c s₁ B hml hv
  obtain ⟨rfl, hsz, hP, hK, hD0, hN⟩ := hv
  have hx := B.exec
  have hb := B.bytes
  have hr := B.returns
  have hts := atoms_spec (ws := wsX4_setTo) B.pre
  have hown : s.vm.findClass RX4 = some m.cls := findClass_of_methodNamed B.named
  have hlocks := B.notSynchronized
  have hin4 : ∀ w ∈ u_ws RX4 TX4 8, w ∈ wsX4_setTo := by decide +kernel
  subst hsz
  have hD := hD0.self (sz := s.heap.size)
  generalize hAe : va_A (ul_wS cI aT (aK 0) T ++ ul_wS cI aO (aK 0) O) s.heap.size = A at hD hN ⊢
  have hA : ∀ q : Nat, s.heap.size ≤ q → A q := fun q h => by rw [← hAe]; exact Or.inr h
  have hS : va_S A s.heap s.heap [] := va_S.rf
  have hl := lv_entry ([.ref (aT 0), .ref (aO 0)]) (n := 2) (Nat.le_of_ble_eq_true rfl)
  rw [lg_entry_eq]
  generalize (lg_sl ([.ref (aT 0), .ref (aO 0)]) ++ List.replicate (2 - (lg_sl ([.ref (aT 0), .ref (aO 0)])).length) Slot.unset).toArray = ls at hl ⊢
  have hl : lv_has ls 2 [(0, .ref (aT 0)), (1, .ref (aO 0))] := hl
  obtain ⟨K0, hK0, h⟩ := ul_top h
  unfold f_X4_setTo at h
  refine ul_gen (fun G gi ge => ?_)
  obtain ⟨H, eH⟩ : ∃ z, z = s.heap := ⟨_, rfl⟩
  obtain ⟨locs, eL⟩ : ∃ z : List Loc, z = [] := ⟨_, rfl⟩
  have hP : va_P (dC, dI) classes (ul_wS cI aT (aK 0) T ++ ul_wS cI aO (aK 0) O) H := by rw [eH]; exact hP
  have hS : va_S A s.heap H locs := by rw [eH, eL]; exact hS
  rw [← eL]
  refine (show G H locs (F0 m 0 ls []) → G s.heap locs (F0 m 0 ls []) from fun z => by rw [← eH]; exact z) ?_
  refine gi _ _ _ ?_
  refine lv_aload_n hx hb dX4_setTo_0 rfl (lv_at hl 1 rfl) ?_
  refine va_get (D := (dC, dI)) (ci := 4) (v := .ref (aO 1)) (C := RX4) (T := TX4) (N := 8) hx hb hts hin4 hown hK hP 7 rfl rfl 1 (by decide) (hts (.fieldLink RX4 15 "UnderLadders$Street" "stand" "[I") (by decide +kernel)) (fun _ h9 => h9) rfl dX4_setTo_1 ?_
  refine lv_iconst (v := 0) hx hb dX4_setTo_4 (by decide) ?_
  refine lv_aload_n hx hb dX4_setTo_5 rfl (lv_at hl 0 rfl) ?_
  refine va_get (D := (dC, dI)) (ci := 4) (v := .ref (aT 1)) (C := RX4) (T := TX4) (N := 8) hx hb hts hin4 hown hK hP 0 rfl rfl 1 (by decide) (hts (.fieldLink RX4 15 "UnderLadders$Street" "stand" "[I") (by decide +kernel)) (fun _ h9 => h9) rfl dX4_setTo_6 ?_
  refine lv_iconst (v := 0) hx hb dX4_setTo_9 (by decide) ?_
  refine lv_iconst (v := 4) hx hb dX4_setTo_10 (by decide) ?_
  refine va_copyi hx hb (hml.trans hl.1.symm) hown (hts (.methodLink RX4 63 arraycopyName) (by decide +kernel)) (hts (.native arraycopyName) (by decide +kernel)) (hts (.static arraycopyName) (by decide +kernel)) (hts (.initialized "java/lang/System") (by decide +kernel)) hK hP hD hS 8 1 0 0 rfl rfl rfl rfl rfl (by decide) (by decide) (by decide) (by decide) (by decide) (fun _ _ => rfl) (Nat.le_of_ble_eq_true rfl) (Nat.le_of_ble_eq_true rfl) dX4_setTo_11 (fun H locs hP hD hS => ?_)
  obtain ⟨T1, eT1⟩ : ∃ z : ul_S, z = ul_cp T 1 (O 1) 4 := ⟨_, rfl⟩
  have h := ul_bd_h h T1 eT1
  have hP : va_P (dC, dI) classes (ul_wS cI aT (aK 0) T1 ++ ul_wS cI aO (aK 0) O) H := by rw [eT1]; exact hP
  have hD : va_D A (ul_wS cI aT (aK 0) T1 ++ ul_wS cI aO (aK 0) O) := by rw [eT1]; exact hD
  refine lv_aload_n hx hb dX4_setTo_14 rfl (lv_at hl 1 rfl) ?_
  refine va_get (D := (dC, dI)) (ci := 4) (v := .ref (aO 2)) (C := RX4) (T := TX4) (N := 8) hx hb hts hin4 hown hK hP 7 rfl rfl 2 (by decide) (hts (.fieldLink RX4 19 "UnderLadders$Street" "standing" "[I") (by decide +kernel)) (fun _ h9 => h9) rfl dX4_setTo_15 ?_
  refine lv_iconst (v := 0) hx hb dX4_setTo_18 (by decide) ?_
  refine lv_aload_n hx hb dX4_setTo_19 rfl (lv_at hl 0 rfl) ?_
  refine va_get (D := (dC, dI)) (ci := 4) (v := .ref (aT 2)) (C := RX4) (T := TX4) (N := 8) hx hb hts hin4 hown hK hP 0 rfl rfl 2 (by decide) (hts (.fieldLink RX4 19 "UnderLadders$Street" "standing" "[I") (by decide +kernel)) (fun _ h9 => h9) rfl dX4_setTo_20 ?_
  refine lv_iconst (v := 0) hx hb dX4_setTo_23 (by decide) ?_
  refine lv_bipush (v := 10) hx hb dX4_setTo_24 (by decide) ?_
  refine va_copyi hx hb (hml.trans hl.1.symm) hown (hts (.methodLink RX4 63 arraycopyName) (by decide +kernel)) (hts (.native arraycopyName) (by decide +kernel)) (hts (.static arraycopyName) (by decide +kernel)) (hts (.initialized "java/lang/System") (by decide +kernel)) hK hP hD hS 9 2 0 0 rfl rfl rfl rfl rfl (by decide) (by decide) (by decide) (by decide) (by decide) (fun _ _ => rfl) (Nat.le_of_ble_eq_true rfl) (Nat.le_of_ble_eq_true rfl) dX4_setTo_26 (fun H locs hP hD hS => ?_)
  obtain ⟨T2, eT2⟩ : ∃ z : ul_S, z = ul_cp T1 2 (O 2) 10 := ⟨_, rfl⟩
  have h := ul_bd_h h T2 eT2
  have hP : va_P (dC, dI) classes (ul_wS cI aT (aK 0) T2 ++ ul_wS cI aO (aK 0) O) H := by rw [eT2]; exact hP
  have hD : va_D A (ul_wS cI aT (aK 0) T2 ++ ul_wS cI aO (aK 0) O) := by rw [eT2]; exact hD
  refine lv_aload_n hx hb dX4_setTo_29 rfl (lv_at hl 1 rfl) ?_
  refine va_get (D := (dC, dI)) (ci := 4) (v := .ref (aO 3)) (C := RX4) (T := TX4) (N := 8) hx hb hts hin4 hown hK hP 7 rfl rfl 3 (by decide) (hts (.fieldLink RX4 22 "UnderLadders$Street" "manLuck" "[I") (by decide +kernel)) (fun _ h9 => h9) rfl dX4_setTo_30 ?_
  refine lv_iconst (v := 0) hx hb dX4_setTo_33 (by decide) ?_
  refine lv_aload_n hx hb dX4_setTo_34 rfl (lv_at hl 0 rfl) ?_
  refine va_get (D := (dC, dI)) (ci := 4) (v := .ref (aT 3)) (C := RX4) (T := TX4) (N := 8) hx hb hts hin4 hown hK hP 0 rfl rfl 3 (by decide) (hts (.fieldLink RX4 22 "UnderLadders$Street" "manLuck" "[I") (by decide +kernel)) (fun _ h9 => h9) rfl dX4_setTo_35 ?_
  refine lv_iconst (v := 0) hx hb dX4_setTo_38 (by decide) ?_
  refine lv_iconst (v := 4) hx hb dX4_setTo_39 (by decide) ?_
  refine va_copyi hx hb (hml.trans hl.1.symm) hown (hts (.methodLink RX4 63 arraycopyName) (by decide +kernel)) (hts (.native arraycopyName) (by decide +kernel)) (hts (.static arraycopyName) (by decide +kernel)) (hts (.initialized "java/lang/System") (by decide +kernel)) hK hP hD hS 10 3 0 0 rfl rfl rfl rfl rfl (by decide) (by decide) (by decide) (by decide) (by decide) (fun _ _ => rfl) (Nat.le_of_ble_eq_true rfl) (Nat.le_of_ble_eq_true rfl) dX4_setTo_40 (fun H locs hP hD hS => ?_)
  obtain ⟨T3, eT3⟩ : ∃ z : ul_S, z = ul_cp T2 3 (O 3) 4 := ⟨_, rfl⟩
  have h := ul_bd_h h T3 eT3
  have hP : va_P (dC, dI) classes (ul_wS cI aT (aK 0) T3 ++ ul_wS cI aO (aK 0) O) H := by rw [eT3]; exact hP
  have hD : va_D A (ul_wS cI aT (aK 0) T3 ++ ul_wS cI aO (aK 0) O) := by rw [eT3]; exact hD
  refine lv_aload_n hx hb dX4_setTo_43 rfl (lv_at hl 1 rfl) ?_
  refine va_get (D := (dC, dI)) (ci := 4) (v := .ref (aO 4)) (C := RX4) (T := TX4) (N := 8) hx hb hts hin4 hown hK hP 7 rfl rfl 4 (by decide) (hts (.fieldLink RX4 25 "UnderLadders$Street" "manGold" "[I") (by decide +kernel)) (fun _ h9 => h9) rfl dX4_setTo_44 ?_
  refine lv_iconst (v := 0) hx hb dX4_setTo_47 (by decide) ?_
  refine lv_aload_n hx hb dX4_setTo_48 rfl (lv_at hl 0 rfl) ?_
  refine va_get (D := (dC, dI)) (ci := 4) (v := .ref (aT 4)) (C := RX4) (T := TX4) (N := 8) hx hb hts hin4 hown hK hP 0 rfl rfl 4 (by decide) (hts (.fieldLink RX4 25 "UnderLadders$Street" "manGold" "[I") (by decide +kernel)) (fun _ h9 => h9) rfl dX4_setTo_49 ?_
  refine lv_iconst (v := 0) hx hb dX4_setTo_52 (by decide) ?_
  refine lv_iconst (v := 4) hx hb dX4_setTo_53 (by decide) ?_
  refine va_copyi hx hb (hml.trans hl.1.symm) hown (hts (.methodLink RX4 63 arraycopyName) (by decide +kernel)) (hts (.native arraycopyName) (by decide +kernel)) (hts (.static arraycopyName) (by decide +kernel)) (hts (.initialized "java/lang/System") (by decide +kernel)) hK hP hD hS 11 4 0 0 rfl rfl rfl rfl rfl (by decide) (by decide) (by decide) (by decide) (by decide) (fun _ _ => rfl) (Nat.le_of_ble_eq_true rfl) (Nat.le_of_ble_eq_true rfl) dX4_setTo_54 (fun H locs hP hD hS => ?_)
  obtain ⟨T4, eT4⟩ : ∃ z : ul_S, z = ul_cp T3 4 (O 4) 4 := ⟨_, rfl⟩
  have h := ul_bd_h h T4 eT4
  have hP : va_P (dC, dI) classes (ul_wS cI aT (aK 0) T4 ++ ul_wS cI aO (aK 0) O) H := by rw [eT4]; exact hP
  have hD : va_D A (ul_wS cI aT (aK 0) T4 ++ ul_wS cI aO (aK 0) O) := by rw [eT4]; exact hD
  refine lv_aload_n hx hb dX4_setTo_57 rfl (lv_at hl 1 rfl) ?_
  refine va_get (D := (dC, dI)) (ci := 4) (v := .ref (aO 5)) (C := RX4) (T := TX4) (N := 8) hx hb hts hin4 hown hK hP 7 rfl rfl 5 (by decide) (hts (.fieldLink RX4 28 "UnderLadders$Street" "where" "[I") (by decide +kernel)) (fun _ h9 => h9) rfl dX4_setTo_58 ?_
  refine lv_iconst (v := 0) hx hb dX4_setTo_61 (by decide) ?_
  refine lv_aload_n hx hb dX4_setTo_62 rfl (lv_at hl 0 rfl) ?_
  refine va_get (D := (dC, dI)) (ci := 4) (v := .ref (aT 5)) (C := RX4) (T := TX4) (N := 8) hx hb hts hin4 hown hK hP 0 rfl rfl 5 (by decide) (hts (.fieldLink RX4 28 "UnderLadders$Street" "where" "[I") (by decide +kernel)) (fun _ h9 => h9) rfl dX4_setTo_63 ?_
  refine lv_iconst (v := 0) hx hb dX4_setTo_66 (by decide) ?_
  refine lv_iconst (v := 5) hx hb dX4_setTo_67 (by decide) ?_
  refine va_copyi hx hb (hml.trans hl.1.symm) hown (hts (.methodLink RX4 63 arraycopyName) (by decide +kernel)) (hts (.native arraycopyName) (by decide +kernel)) (hts (.static arraycopyName) (by decide +kernel)) (hts (.initialized "java/lang/System") (by decide +kernel)) hK hP hD hS 12 5 0 0 rfl rfl rfl rfl rfl (by decide) (by decide) (by decide) (by decide) (by decide) (fun _ _ => rfl) (Nat.le_of_ble_eq_true rfl) (Nat.le_of_ble_eq_true rfl) dX4_setTo_68 (fun H locs hP hD hS => ?_)
  obtain ⟨T5, eT5⟩ : ∃ z : ul_S, z = ul_cp T4 5 (O 5) 5 := ⟨_, rfl⟩
  have h := ul_bd_h h T5 eT5
  have hP : va_P (dC, dI) classes (ul_wS cI aT (aK 0) T5 ++ ul_wS cI aO (aK 0) O) H := by rw [eT5]; exact hP
  have hD : va_D A (ul_wS cI aT (aK 0) T5 ++ ul_wS cI aO (aK 0) O) := by rw [eT5]; exact hD
  refine lv_aload_n hx hb dX4_setTo_71 rfl (lv_at hl 1 rfl) ?_
  refine va_get (D := (dC, dI)) (ci := 4) (v := .ref (aO 6)) (C := RX4) (T := TX4) (N := 8) hx hb hts hin4 hown hK hP 7 rfl rfl 6 (by decide) (hts (.fieldLink RX4 31 "UnderLadders$Street" "ownLuck" "[I") (by decide +kernel)) (fun _ h9 => h9) rfl dX4_setTo_72 ?_
  refine lv_iconst (v := 0) hx hb dX4_setTo_75 (by decide) ?_
  refine lv_aload_n hx hb dX4_setTo_76 rfl (lv_at hl 0 rfl) ?_
  refine va_get (D := (dC, dI)) (ci := 4) (v := .ref (aT 6)) (C := RX4) (T := TX4) (N := 8) hx hb hts hin4 hown hK hP 0 rfl rfl 6 (by decide) (hts (.fieldLink RX4 31 "UnderLadders$Street" "ownLuck" "[I") (by decide +kernel)) (fun _ h9 => h9) rfl dX4_setTo_77 ?_
  refine lv_iconst (v := 0) hx hb dX4_setTo_80 (by decide) ?_
  refine lv_iconst (v := 5) hx hb dX4_setTo_81 (by decide) ?_
  refine va_copyi hx hb (hml.trans hl.1.symm) hown (hts (.methodLink RX4 63 arraycopyName) (by decide +kernel)) (hts (.native arraycopyName) (by decide +kernel)) (hts (.static arraycopyName) (by decide +kernel)) (hts (.initialized "java/lang/System") (by decide +kernel)) hK hP hD hS 13 6 0 0 rfl rfl rfl rfl rfl (by decide) (by decide) (by decide) (by decide) (by decide) (fun _ _ => rfl) (Nat.le_of_ble_eq_true rfl) (Nat.le_of_ble_eq_true rfl) dX4_setTo_82 (fun H locs hP hD hS => ?_)
  obtain ⟨T6, eT6⟩ : ∃ z : ul_S, z = ul_cp T5 6 (O 6) 5 := ⟨_, rfl⟩
  have h := ul_bd_h h T6 eT6
  have hP : va_P (dC, dI) classes (ul_wS cI aT (aK 0) T6 ++ ul_wS cI aO (aK 0) O) H := by rw [eT6]; exact hP
  have hD : va_D A (ul_wS cI aT (aK 0) T6 ++ ul_wS cI aO (aK 0) O) := by rw [eT6]; exact hD
  refine lv_aload_n hx hb dX4_setTo_85 rfl (lv_at hl 0 rfl) ?_
  refine lv_aload_n hx hb dX4_setTo_86 rfl (lv_at hl 1 rfl) ?_
  refine va_get (D := (dC, dI)) (ci := 4) (v := .int (O 0 0)) (C := RX4) (T := TX4) (N := 8) hx hb hts hin4 hown hK hP 7 rfl rfl 7 (by decide) (hts (.fieldLink RX4 60 "UnderLadders$Street" "days" "I") (by decide +kernel)) (fun _ h9 => h9) rfl dX4_setTo_87 ?_
  refine va_put (D := (dC, dI)) (ci := 4) (v := .int (O 0 0)) (ty := .int) (C := RX4) (T := TX4) (N := 8) hx hb hts hin4 tyX4 tyX4_ok nmX4 hown hK hP hD hS 0 rfl rfl 7 (by decide) (hts (.fieldLink RX4 60 "UnderLadders$Street" "days" "I") (by decide +kernel)) (fun _ h9 => h9) rfl (by decide +kernel) rfl rfl (Nat.le_of_ble_eq_true rfl) dX4_setTo_90 (fun H locs hP hD hS => ?_)
  obtain ⟨T7, eT7⟩ : ∃ z : ul_S, z = ul_up T6 0 0 (O 0 0) := ⟨_, rfl⟩
  have h := ul_bd_h h T7 eT7
  have hP : va_P (dC, dI) classes (ul_wS cI aT (aK 0) T7 ++ ul_wS cI aO (aK 0) O) H := by rw [eT7]; exact hP
  have hD : va_D A (ul_wS cI aT (aK 0) T7 ++ ul_wS cI aO (aK 0) O) := by rw [eT7]; exact hD
  have hr9 := hK0 T7 h
  subst hr9
  exact W.vret hx hb hr (fun t ht hW => ⟨⟨(), rfl, trivial, by rw [ht]; exact hP, va_K.moved hW.alike hK, hD⟩, hS.F ht⟩) hS.2.2 dX4_setTo_93
def f_X4_goal (T : ul_S) (K : ul_S) (p1 : Int32) : Option Int32 :=
  ul_ld (T 5) 5 p1 fun v1 => ul_ld (K 4) 5 p1 fun v3 => if v1 = v3 then (ul_ld (K 5) 5 p1 fun v8 => some v8) else (ul_ld (K 4) 5 p1 fun v6 => some v6)
set_option maxHeartbeats 4000000 in
set_option maxRecDepth 100000 in
theorem c_X4_goal (l : Launch) (dC : Nat → ClassId) (dI : Nat → Nat → Nat) (cI : ClassId) (aT : Nat → Nat) (aK : Nat → Nat) (sz : Nat) (T : ul_S) (K : ul_S) (p1 : Int32) (r : Int32) (h : f_X4_goal T K p1 = some r) : Met l yX4_goal wsX4_goal ({ frames := 0, cells := 0, slots := 0, locals := 0 }) (va_Pc [.ref (aT 0), .int p1] (ul_pre (dC, dI) [(cI, .int)] ul_NX sz (ul_wS cI aT (aK 0) T ++ ul_wK cI aK K))) (va_Qi (fun v (_ : Unit) => v = r) (fun _ => ul_post (dC, dI) [(cI, .int)] (va_A (ul_wS cI aT (aK 0) T ++ ul_wK cI aK K) sz) (ul_wS cI aT (aK 0) T ++ ul_wK cI aK K)) (va_A (ul_wS cI aT (aK 0) T ++ ul_wK cI aK K) sz)) 0 0 (va_A (ul_wS cI aT (aK 0) T ++ ul_wK cI aK K) sz) := by
  refine Met.ofW (cc := cX4_goal) (maxL := 2) (ret := (some .int)) (by decide) rfl ?_
  intro p e s m args below meth c s₁ B hml hv
  obtain ⟨rfl, hsz, hP, hK, hD0, hN⟩ := hv
  have hx := B.exec
  have hb := B.bytes
  have hr := B.returns
  have hts := atoms_spec (ws := wsX4_goal) B.pre
  have hown : s.vm.findClass RX4 = some m.cls := findClass_of_methodNamed B.named
  have hlocks := B.notSynchronized
  have hin2 : ∀ w ∈ u_ws RX2 TX2 9, w ∈ wsX4_goal := by decide +kernel
  have hin4 : ∀ w ∈ u_ws RX4 TX4 8, w ∈ wsX4_goal := by decide +kernel
  subst hsz
  have hD := hD0.self (sz := s.heap.size)
  generalize hAe : va_A (ul_wS cI aT (aK 0) T ++ ul_wK cI aK K) s.heap.size = A at hD hN ⊢
  have hA : ∀ q : Nat, s.heap.size ≤ q → A q := fun q h => by rw [← hAe]; exact Or.inr h
  have hS : va_S A s.heap s.heap [] := va_S.rf
  have hl := lv_entry ([.ref (aT 0), .int p1]) (n := 2) (Nat.le_of_ble_eq_true rfl)
  rw [lg_entry_eq]
  generalize (lg_sl ([.ref (aT 0), .int p1]) ++ List.replicate (2 - (lg_sl ([.ref (aT 0), .int p1])).length) Slot.unset).toArray = ls at hl ⊢
  have hl : lv_has ls 2 [(0, .ref (aT 0)), (1, .int p1)] := hl
  obtain ⟨K0, hK0, h⟩ := ul_top h
  unfold f_X4_goal at h
  refine ul_gen (fun G gi ge => ?_)
  obtain ⟨H, eH⟩ : ∃ z, z = s.heap := ⟨_, rfl⟩
  obtain ⟨locs, eL⟩ : ∃ z : List Loc, z = [] := ⟨_, rfl⟩
  have hP : va_P (dC, dI) classes (ul_wS cI aT (aK 0) T ++ ul_wK cI aK K) H := by rw [eH]; exact hP
  have hS : va_S A s.heap H locs := by rw [eH, eL]; exact hS
  rw [← eL]
  refine (show G H locs (F0 m 0 ls []) → G s.heap locs (F0 m 0 ls []) from fun z => by rw [← eH]; exact z) ?_
  refine gi _ _ _ ?_
  refine lv_aload_n hx hb dX4_goal_0 rfl (lv_at hl 0 rfl) ?_
  refine va_get (D := (dC, dI)) (ci := 4) (v := .ref (aT 5)) (C := RX4) (T := TX4) (N := 8) hx hb hts hin4 hown hK hP 0 rfl rfl 5 (by decide) (hts (.fieldLink RX4 28 "UnderLadders$Street" "where" "[I") (by decide +kernel)) (fun _ h9 => h9) rfl dX4_goal_1 ?_
  refine lv_iload_n hx hb dX4_goal_4 rfl (lv_at hl 1 rfl) ?_
  obtain ⟨hi2, h⟩ := ul_ld_h h
  refine va_iald hx hb hK hP 5 0 rfl rfl hi2 dX4_goal_5 ?_
  refine lv_topi (fun v1 ev1 => ?_)
  have h := h v1 ev1
  refine lv_aload_n hx hb dX4_goal_6 rfl (lv_at hl 0 rfl) ?_
  refine va_get (D := (dC, dI)) (ci := 4) (v := .ref (aK 0)) (C := RX4) (T := TX4) (N := 8) hx hb hts hin4 hown hK hP 0 rfl rfl 0 (by decide) (hts (.fieldLink RX4 9 "UnderLadders$Street" "fixed" "LUnderLadders$Market;") (by decide +kernel)) (fun _ h9 => h9) rfl dX4_goal_7 ?_
  refine va_getN (D := (dC, dI)) (ci := 2) (v := .ref (aK 4)) (C := RX2) (T := TX2) (N := 9) hx hb hts hin2 hown hK hP 7 rfl rfl 3 (by decide) (va_Nw.use rfl (hN.1 (RX4, 54, "UnderLadders$Market", "home", "[I") (by decide +kernel))) (fun _ h9 => h9) rfl dX4_goal_10 ?_
  refine lv_iload_n hx hb dX4_goal_13 rfl (lv_at hl 1 rfl) ?_
  obtain ⟨hi4, h⟩ := ul_ld_h h
  refine va_iald hx hb hK hP 11 0 rfl rfl hi4 dX4_goal_14 ?_
  refine lv_topi (fun v3 ev3 => ?_)
  have h := h v3 ev3
  refine lv_icmp_ne (tgt := 30) hx hb dX4_goal_15 (by decide) (fun hc5 => ?_) (fun hc5 => ?_)
  · have h := ul_if_f hc5 h
    refine lv_aload_n hx hb dX4_goal_30 rfl (lv_at hl 0 rfl) ?_
    refine va_get (D := (dC, dI)) (ci := 4) (v := .ref (aK 0)) (C := RX4) (T := TX4) (N := 8) hx hb hts hin4 hown hK hP 0 rfl rfl 0 (by decide) (hts (.fieldLink RX4 9 "UnderLadders$Street" "fixed" "LUnderLadders$Market;") (by decide +kernel)) (fun _ h9 => h9) rfl dX4_goal_31 ?_
    refine va_getN (D := (dC, dI)) (ci := 2) (v := .ref (aK 4)) (C := RX2) (T := TX2) (N := 9) hx hb hts hin2 hown hK hP 7 rfl rfl 3 (by decide) (va_Nw.use rfl (hN.1 (RX4, 54, "UnderLadders$Market", "home", "[I") (by decide +kernel))) (fun _ h9 => h9) rfl dX4_goal_34 ?_
    refine lv_iload_n hx hb dX4_goal_37 rfl (lv_at hl 1 rfl) ?_
    obtain ⟨hi7, h⟩ := ul_ld_h h
    refine va_iald hx hb hK hP 11 0 rfl rfl hi7 dX4_goal_38 ?_
    refine lv_topi (fun v6 ev6 => ?_)
    have h := h v6 ev6
    have hr9 := hK0 v6 h
    subst hr9
    exact W.iret (v := v6) hx hb hr (fun t ht hW => ⟨⟨v6, (), rfl, rfl, by rw [ht]; exact hP, va_K.moved hW.alike hK, hD⟩, hS.F ht⟩) hS.2.2 dX4_goal_39
  · have h := ul_if_t hc5 h
    refine lv_aload_n hx hb dX4_goal_18 rfl (lv_at hl 0 rfl) ?_
    refine va_get (D := (dC, dI)) (ci := 4) (v := .ref (aK 0)) (C := RX4) (T := TX4) (N := 8) hx hb hts hin4 hown hK hP 0 rfl rfl 0 (by decide) (hts (.fieldLink RX4 9 "UnderLadders$Street" "fixed" "LUnderLadders$Market;") (by decide +kernel)) (fun _ h9 => h9) rfl dX4_goal_19 ?_
    refine va_getN (D := (dC, dI)) (ci := 2) (v := .ref (aK 5)) (C := RX2) (T := TX2) (N := 9) hx hb hts hin2 hown hK hP 7 rfl rfl 4 (by decide) (va_Nw.use rfl (hN.1 (RX4, 93, "UnderLadders$Market", "work", "[I") (by decide +kernel))) (fun _ h9 => h9) rfl dX4_goal_22 ?_
    refine lv_iload_n hx hb dX4_goal_25 rfl (lv_at hl 1 rfl) ?_
    obtain ⟨hi9, h⟩ := ul_ld_h h
    refine va_iald hx hb hK hP 12 0 rfl rfl hi9 dX4_goal_26 ?_
    refine lv_topi (fun v8 ev8 => ?_)
    have h := h v8 ev8
    refine lv_goto (tgt := 39) hx hb dX4_goal_27 (by decide) ?_
    have hr9 := hK0 v8 h
    subst hr9
    exact W.iret (v := v8) hx hb hr (fun t ht hW => ⟨⟨v8, (), rfl, rfl, by rw [ht]; exact hP, va_K.moved hW.alike hK, hD⟩, hS.F ht⟩) hS.2.2 dX4_goal_39
def f_X4_stepsAhead (T : ul_S) (K : ul_S) (p1 : Int32) : Option Int32 :=
  (f_X4_goal T K p1).bind fun u1 => ul_ld (T 5) 5 p1 fun v2 => some (if 0 ≤ (u1 - v2) then (u1 - v2) else 0 - (u1 - v2))
set_option maxHeartbeats 4000000 in
set_option maxRecDepth 100000 in
theorem c_X4_stepsAhead (l : Launch) (dC : Nat → ClassId) (dI : Nat → Nat → Nat) (cI : ClassId) (aT : Nat → Nat) (aK : Nat → Nat) (sz : Nat) (T : ul_S) (K : ul_S) (p1 : Int32) (r : Int32) (h : f_X4_stepsAhead T K p1 = some r) : Met l yX4_stepsAhead wsX4_stepsAhead ({ frames := 1, cells := 0, slots := 0, locals := 40 }) (va_Pc [.ref (aT 0), .int p1] (ul_pre (dC, dI) [(cI, .int)] ul_NX sz (ul_wS cI aT (aK 0) T ++ ul_wK cI aK K))) (va_Qi (fun v (_ : Unit) => v = r) (fun _ => ul_post (dC, dI) [(cI, .int)] (va_A (ul_wS cI aT (aK 0) T ++ ul_wK cI aK K) sz) (ul_wS cI aT (aK 0) T ++ ul_wK cI aK K)) (va_A (ul_wS cI aT (aK 0) T ++ ul_wK cI aK K) sz)) 0 0 (va_A (ul_wS cI aT (aK 0) T ++ ul_wK cI aK K) sz) := by
  refine Met.ofW (cc := cX4_stepsAhead) (maxL := 2) (ret := (some .int)) (by decide) rfl ?_
  intro p e s m args below meth c s₁ B hml hv
  obtain ⟨rfl, hsz, hP, hK, hD0, hN⟩ := hv
  have hx := B.exec
  have hb := B.bytes
  have hr := B.returns
  have hts := atoms_spec (ws := wsX4_stepsAhead) B.pre
  have hown : s.vm.findClass RX4 = some m.cls := findClass_of_methodNamed B.named
  have hlocks := B.notSynchronized
  have hin4 : ∀ w ∈ u_ws RX4 TX4 8, w ∈ wsX4_stepsAhead := by decide +kernel
  subst hsz
  have hD := hD0.self (sz := s.heap.size)
  generalize hAe : va_A (ul_wS cI aT (aK 0) T ++ ul_wK cI aK K) s.heap.size = A at hD hN ⊢
  have hA : ∀ q : Nat, s.heap.size ≤ q → A q := fun q h => by rw [← hAe]; exact Or.inr h
  have hS : va_S A s.heap s.heap [] := va_S.rf
  have hl := lv_entry ([.ref (aT 0), .int p1]) (n := 2) (Nat.le_of_ble_eq_true rfl)
  rw [lg_entry_eq]
  generalize (lg_sl ([.ref (aT 0), .int p1]) ++ List.replicate (2 - (lg_sl ([.ref (aT 0), .int p1])).length) Slot.unset).toArray = ls at hl ⊢
  have hl : lv_has ls 2 [(0, .ref (aT 0)), (1, .int p1)] := hl
  obtain ⟨K0, hK0, h⟩ := ul_top h
  unfold f_X4_stepsAhead at h
  refine ul_gen (fun G gi ge => ?_)
  obtain ⟨H, eH⟩ : ∃ z, z = s.heap := ⟨_, rfl⟩
  obtain ⟨locs, eL⟩ : ∃ z : List Loc, z = [] := ⟨_, rfl⟩
  have hP : va_P (dC, dI) classes (ul_wS cI aT (aK 0) T ++ ul_wK cI aK K) H := by rw [eH]; exact hP
  have hS : va_S A s.heap H locs := by rw [eH, eL]; exact hS
  rw [← eL]
  refine (show G H locs (F0 m 0 ls []) → G s.heap locs (F0 m 0 ls []) from fun z => by rw [← eH]; exact z) ?_
  refine gi _ _ _ ?_
  refine lv_aload_n hx hb dX4_stepsAhead_0 rfl (lv_at hl 0 rfl) ?_
  refine lv_iload_n hx hb dX4_stepsAhead_1 rfl (lv_at hl 1 rfl) ?_
  obtain ⟨u1, hu1, h⟩ := ul_cl_h h
  refine ul_cVi (As := [.int p1]) (rest := []) (wc' := (ul_wS cI aT (aK 0) T ++ ul_wK cI aK K)) (wr := []) hP hD hS hK hA [0, 1, 2, 3, 4, 5, 6, 7, 8, 9, 10, 11, 12, 13, 14] [] [0] ul_NX_ok hN (c_X4_goal l dC dI cI aT aK H.size T K p1 u1 hu1) rfl rfl (by decide) rfl (by decide) (by decide) rfl ⟨hx, hb, hml, hown, hts⟩ (cwV 1 hts gX4_stepsAhead_X4_goal rfl rfl rfl (by decide +kernel) ⟨Nat.le_of_ble_eq_true rfl, Nat.le_of_ble_eq_true rfl⟩) (va_recv hK hP (ci := 4) (q0 := 0) rfl rfl) rfl hl.1 rfl (Nat.le_of_ble_eq_true rfl) dX4_stepsAhead_2 (fun H locs hw => ?_)
  obtain ⟨hP, hD, hS⟩ := hw
  have hP : va_P (dC, dI) classes (ul_wS cI aT (aK 0) T ++ ul_wK cI aK K) H := hP
  have hD : va_D A (ul_wS cI aT (aK 0) T ++ ul_wK cI aK K) := hD
  refine lv_aload_n hx hb dX4_stepsAhead_5 rfl (lv_at hl 0 rfl) ?_
  refine va_get (D := (dC, dI)) (ci := 4) (v := .ref (aT 5)) (C := RX4) (T := TX4) (N := 8) hx hb hts hin4 hown hK hP 0 rfl rfl 5 (by decide) (hts (.fieldLink RX4 28 "UnderLadders$Street" "where" "[I") (by decide +kernel)) (fun _ h9 => h9) rfl dX4_stepsAhead_6 ?_
  refine lv_iload_n hx hb dX4_stepsAhead_9 rfl (lv_at hl 1 rfl) ?_
  obtain ⟨hi3, h⟩ := ul_ld_h h
  refine va_iald hx hb hK hP 5 0 rfl rfl hi3 dX4_stepsAhead_10 ?_
  refine lv_topi (fun v2 ev2 => ?_)
  have h := h v2 ev2
  refine lv_isub hx hb dX4_stepsAhead_11 ?_
  refine va_mabs hx hb (hml.trans hl.1.symm) hown (hts (.methodLink RX4 96 Lib.Math.abs.name) (by decide +kernel)) (hts (.static Lib.Math.abs.name) (by decide +kernel)) (hts (.initialized "java/lang/Math") (by decide +kernel)) (hts (.code Lib.Math.abs.name Lib.Math.abs.code 1 (some .int)) (List.mem_of_getElem? (i := 5) rfl)) (Nat.le_of_ble_eq_true rfl) (Nat.le_of_ble_eq_true rfl) (Nat.zero_le _) (Nat.zero_le _) dX4_stepsAhead_12 ?_
  have hr9 := hK0 (if 0 ≤ (u1 - v2) then (u1 - v2) else 0 - (u1 - v2)) h
  subst hr9
  exact W.iret (v := (if 0 ≤ (u1 - v2) then (u1 - v2) else 0 - (u1 - v2))) hx hb hr (fun t ht hW => ⟨⟨(if 0 ≤ (u1 - v2) then (u1 - v2) else 0 - (u1 - v2)), (), rfl, rfl, by rw [ht]; exact hP, va_K.moved hW.alike hK, hD⟩, hS.F ht⟩) hS.2.2 dX4_stepsAhead_15
def f_X4_ladderAhead_j25 (T : ul_S) (K : ul_S) (p1 : Int32) (p2 : Int32) (x3 : Int32) (t0 : Int32) : Option Int32 :=
  (f_X6_isPlace t0).bind fun u1 => if u1 = 0 then (some (-9 : Int32)) else (ul_ld (T 2) 10 t0 fun v3 => some v3)
def f_X4_ladderAhead (T : ul_S) (K : ul_S) (p1 : Int32) (p2 : Int32) : Option Int32 :=
  ul_ld (T 5) 5 p1 fun v9 => (f_X4_goal T K p1).bind fun u11 => if u11 ≤ v9 then (f_X4_ladderAhead_j25 T K p1 p2 v9 (v9 - p2)) else (f_X4_ladderAhead_j25 T K p1 p2 v9 (v9 + p2))
set_option maxHeartbeats 4000000 in
set_option maxRecDepth 100000 in
theorem c_X4_ladderAhead (l : Launch) (dC : Nat → ClassId) (dI : Nat → Nat → Nat) (cI : ClassId) (aT : Nat → Nat) (aK : Nat → Nat) (sz : Nat) (T : ul_S) (K : ul_S) (p1 : Int32) (p2 : Int32) (r : Int32) (h : f_X4_ladderAhead T K p1 p2 = some r) : Met l yX4_ladderAhead wsX4_ladderAhead ({ frames := 1, cells := 0, slots := 0, locals := 21 }) (va_Pc [.ref (aT 0), .int p1, .int p2] (ul_pre (dC, dI) [(cI, .int)] ul_NX sz (ul_wS cI aT (aK 0) T ++ ul_wK cI aK K))) (va_Qi (fun v (_ : Unit) => v = r) (fun _ => ul_post (dC, dI) [(cI, .int)] (va_A (ul_wS cI aT (aK 0) T ++ ul_wK cI aK K) sz) (ul_wS cI aT (aK 0) T ++ ul_wK cI aK K)) (va_A (ul_wS cI aT (aK 0) T ++ ul_wK cI aK K) sz)) 0 0 (va_A (ul_wS cI aT (aK 0) T ++ ul_wK cI aK K) sz) := by
  refine Met.ofW (cc := cX4_ladderAhead) (maxL := 5) (ret := (some .int)) (by decide) rfl ?_
  intro p e s m args below meth c s₁ B hml hv
  obtain ⟨rfl, hsz, hP, hK, hD0, hN⟩ := hv
  have hx := B.exec
  have hb := B.bytes
  have hr := B.returns
  have hts := atoms_spec (ws := wsX4_ladderAhead) B.pre
  have hown : s.vm.findClass RX4 = some m.cls := findClass_of_methodNamed B.named
  have hlocks := B.notSynchronized
  have hin4 : ∀ w ∈ u_ws RX4 TX4 8, w ∈ wsX4_ladderAhead := by decide +kernel
  subst hsz
  have hD := hD0.self (sz := s.heap.size)
  generalize hAe : va_A (ul_wS cI aT (aK 0) T ++ ul_wK cI aK K) s.heap.size = A at hD hN ⊢
  have hA : ∀ q : Nat, s.heap.size ≤ q → A q := fun q h => by rw [← hAe]; exact Or.inr h
  have hS : va_S A s.heap s.heap [] := va_S.rf
  have hl := lv_entry ([.ref (aT 0), .int p1, .int p2]) (n := 5) (Nat.le_of_ble_eq_true rfl)
  rw [lg_entry_eq]
  generalize (lg_sl ([.ref (aT 0), .int p1, .int p2]) ++ List.replicate (5 - (lg_sl ([.ref (aT 0), .int p1, .int p2])).length) Slot.unset).toArray = ls at hl ⊢
  have hl : lv_has ls 5 [(0, .ref (aT 0)), (1, .int p1), (2, .int p2)] := hl
  obtain ⟨K0, hK0, h⟩ := ul_top h
  unfold f_X4_ladderAhead at h
  refine ul_gen (fun G gi ge => ?_)
  obtain ⟨H, eH⟩ : ∃ z, z = s.heap := ⟨_, rfl⟩
  obtain ⟨locs, eL⟩ : ∃ z : List Loc, z = [] := ⟨_, rfl⟩
  have hP : va_P (dC, dI) classes (ul_wS cI aT (aK 0) T ++ ul_wK cI aK K) H := by rw [eH]; exact hP
  have hS : va_S A s.heap H locs := by rw [eH, eL]; exact hS
  rw [← eL]
  refine (show G H locs (F0 m 0 ls []) → G s.heap locs (F0 m 0 ls []) from fun z => by rw [← eH]; exact z) ?_
  have J25 : ∀ (x3 : Int32) (t0 : Int32) (H : Heap) (locs : List Loc), ul_H (dC, dI) A s.heap (ul_wS cI aT (aK 0) T ++ ul_wK cI aK K) H locs → ∀ ls : Array Slot, lv_has ls 5 [(0, .ref (aT 0)), (1, .int p1), (2, .int p2), (3, .int x3)] → (f_X4_ladderAhead_j25 T K p1 p2 x3 t0).bind K0 = some r → G H locs (F0 m 25 ls [.int t0]) := by
    intro x3 t0 H locs hw ls hl h
    obtain ⟨hP, hD, hS⟩ := hw
    unfold f_X4_ladderAhead_j25 at h
    refine gi _ _ _ ?_
    refine lv_istore (lv' := [(4, .int t0), (0, .ref (aT 0)), (1, .int p1), (2, .int p2), (3, .int x3)]) hx hb dX4_ladderAhead_25 hl (by decide) rfl (fun ls hl => ?_)
    refine lv_iload hx hb dX4_ladderAhead_27 (lv_at hl 0 rfl) ?_
    obtain ⟨u5, hu5, h⟩ := ul_cl_h h
    refine ul_cNi (As := [.int t0]) (rest := []) hP hD hS hK hA (c_X6_isPlace l dC dI H.size t0 u5 hu5) ⟨hx, hb, hml, hown, hts⟩ ⟨va_cnB (host := "UnderLadders") 1 hts gX4_ladderAhead_X6_isPlace_n69 rfl rfl rfl (hN.2.1 (RX4, 69, yX6_isPlace) (by decide +kernel)) (hts (.initialized RX6) (by decide +kernel)) (by decide +kernel) ⟨Nat.le_of_ble_eq_true rfl, Nat.le_of_ble_eq_true rfl⟩, hts (.static yX6_isPlace) (by decide +kernel), trivial⟩ rfl hl.1 rfl (Nat.le_of_ble_eq_true rfl) dX4_ladderAhead_29 (fun H locs hw => ?_)
    obtain ⟨hP, hD, hS⟩ := hw
    refine lv_if_eq (tgt := 45) hx hb dX4_ladderAhead_32 (by decide) (fun hc6 => ?_) (fun hc6 => ?_)
    · have h := ul_if_t hc6 h
      refine lv_bipush (v := -9) hx hb dX4_ladderAhead_45 (by decide) ?_
      have hr9 := hK0 (-9 : Int32) h
      subst hr9
      exact W.iret (v := (-9 : Int32)) hx hb hr (fun t ht hW => ⟨⟨(-9 : Int32), (), rfl, rfl, by rw [ht]; exact hP, va_K.moved hW.alike hK, hD⟩, hS.F ht⟩) hS.2.2 dX4_ladderAhead_47
    · have h := ul_if_f hc6 h
      refine lv_aload_n hx hb dX4_ladderAhead_35 rfl (lv_at hl 1 rfl) ?_
      refine va_get (D := (dC, dI)) (ci := 4) (v := .ref (aT 2)) (C := RX4) (T := TX4) (N := 8) hx hb hts hin4 hown hK hP 0 rfl rfl 2 (by decide) (hts (.fieldLink RX4 19 "UnderLadders$Street" "standing" "[I") (by decide +kernel)) (fun _ h9 => h9) rfl dX4_ladderAhead_36 ?_
      refine lv_iload hx hb dX4_ladderAhead_39 (lv_at hl 0 rfl) ?_
      obtain ⟨hi8, h⟩ := ul_ld_h h
      refine va_iald hx hb hK hP 2 0 rfl rfl hi8 dX4_ladderAhead_41 ?_
      refine lv_topi (fun v7 ev7 => ?_)
      have h := h v7 ev7
      refine lv_goto (tgt := 47) hx hb dX4_ladderAhead_42 (by decide) ?_
      have hr9 := hK0 v7 h
      subst hr9
      exact W.iret (v := v7) hx hb hr (fun t ht hW => ⟨⟨v7, (), rfl, rfl, by rw [ht]; exact hP, va_K.moved hW.alike hK, hD⟩, hS.F ht⟩) hS.2.2 dX4_ladderAhead_47
  refine gi _ _ _ ?_
  refine lv_aload_n hx hb dX4_ladderAhead_0 rfl (lv_at hl 0 rfl) ?_
  refine va_get (D := (dC, dI)) (ci := 4) (v := .ref (aT 5)) (C := RX4) (T := TX4) (N := 8) hx hb hts hin4 hown hK hP 0 rfl rfl 5 (by decide) (hts (.fieldLink RX4 28 "UnderLadders$Street" "where" "[I") (by decide +kernel)) (fun _ h9 => h9) rfl dX4_ladderAhead_1 ?_
  refine lv_iload_n hx hb dX4_ladderAhead_4 rfl (lv_at hl 1 rfl) ?_
  obtain ⟨hi10, h⟩ := ul_ld_h h
  refine va_iald hx hb hK hP 5 0 rfl rfl hi10 dX4_ladderAhead_5 ?_
  refine lv_topi (fun v9 ev9 => ?_)
  have h := h v9 ev9
  refine lv_istore_n (lv' := [(3, .int v9), (0, .ref (aT 0)), (1, .int p1), (2, .int p2)]) hx hb dX4_ladderAhead_6 rfl hl (by decide) rfl (fun ls hl => ?_)
  refine lv_iload_n hx hb dX4_ladderAhead_7 rfl (lv_at hl 0 rfl) ?_
  refine lv_aload_n hx hb dX4_ladderAhead_8 rfl (lv_at hl 1 rfl) ?_
  refine lv_iload_n hx hb dX4_ladderAhead_9 rfl (lv_at hl 2 rfl) ?_
  obtain ⟨u11, hu11, h⟩ := ul_cl_h h
  refine ul_cVi (As := [.int p1]) (rest := [.int v9]) (wc' := (ul_wS cI aT (aK 0) T ++ ul_wK cI aK K)) (wr := []) hP hD hS hK hA [0, 1, 2, 3, 4, 5, 6, 7, 8, 9, 10, 11, 12, 13, 14] [] [0] ul_NX_ok hN (c_X4_goal l dC dI cI aT aK H.size T K p1 u11 hu11) rfl rfl (by decide) rfl (by decide) (by decide) rfl ⟨hx, hb, hml, hown, hts⟩ (cwV 1 hts gX4_ladderAhead_X4_goal rfl rfl rfl (by decide +kernel) ⟨Nat.le_of_ble_eq_true rfl, Nat.le_of_ble_eq_true rfl⟩) (va_recv hK hP (ci := 4) (q0 := 0) rfl rfl) rfl hl.1 rfl (Nat.le_of_ble_eq_true rfl) dX4_ladderAhead_10 (fun H locs hw => ?_)
  obtain ⟨hP, hD, hS⟩ := hw
  have hP : va_P (dC, dI) classes (ul_wS cI aT (aK 0) T ++ ul_wK cI aK K) H := hP
  have hD : va_D A (ul_wS cI aT (aK 0) T ++ ul_wK cI aK K) := hD
  refine lv_icmp_ge (tgt := 22) hx hb dX4_ladderAhead_13 (by decide) (fun hc12 => ?_) (fun hc12 => ?_)
  · have h := ul_if_t hc12 h
    refine lv_iload_n hx hb dX4_ladderAhead_22 rfl (lv_at hl 0 rfl) ?_
    refine lv_iload_n hx hb dX4_ladderAhead_23 rfl (lv_at hl 3 rfl) ?_
    refine lv_isub hx hb dX4_ladderAhead_24 ?_
    exact ge _ _ _ (J25 v9 (v9 - p2) H locs ⟨hP, hD, hS⟩ ls (lv_sub hl [1, 2, 3, 0] rfl) h)
  · have h := ul_if_f hc12 h
    refine lv_iload_n hx hb dX4_ladderAhead_16 rfl (lv_at hl 0 rfl) ?_
    refine lv_iload_n hx hb dX4_ladderAhead_17 rfl (lv_at hl 3 rfl) ?_
    refine lv_iadd hx hb dX4_ladderAhead_18 ?_
    refine lv_goto (tgt := 25) hx hb dX4_ladderAhead_19 (by decide) ?_
    exact ge _ _ _ (J25 v9 (v9 + p2) H locs ⟨hP, hD, hS⟩ ls (lv_sub hl [1, 2, 3, 0] rfl) h)
def f_X4_endow_j26 (p1 : Int32) (p2 : Int32) (x3 : Int32) (t1 : Int32) (t2 : Int32) (T__26 : ul_S) : Option ul_S :=
  ul_st T__26 6 5 t1 t2 fun T1 => some T1
def f_X4_endow (T : ul_S) (p1 : Int32) (p2 : Int32) : Option ul_S :=
  ul_ld (T 6) 5 p1 fun v5 => ul_bd (v5 + p2) fun v7 => if (99 : Int32) ≤ v7 then (f_X4_endow_j26 p1 p2 v7 p1 (99 : Int32) T) else (f_X4_endow_j26 p1 p2 v7 p1 v7 T)
set_option maxHeartbeats 4000000 in
set_option maxRecDepth 100000 in
theorem c_X4_endow (l : Launch) (dC : Nat → ClassId) (dI : Nat → Nat → Nat) (cI : ClassId) (aT : Nat → Nat) (aK : Nat → Nat) (sz : Nat) (T : ul_S) (K : ul_S) (p1 : Int32) (p2 : Int32) (r : ul_S) (h : f_X4_endow T p1 p2 = some r) : Met l yX4_endow wsX4_endow ({ frames := 0, cells := 0, slots := 0, locals := 0 }) (va_Pc [.ref (aT 0), .int p1, .int p2] (ul_pre (dC, dI) [(cI, .int)] ul_NX sz (ul_wS cI aT (aK 0) T ++ ul_wK cI aK K))) (va_Qv (fun (_ : Unit) => True) (fun _ => ul_post (dC, dI) [(cI, .int)] (va_A (ul_wS cI aT (aK 0) T ++ ul_wK cI aK K) sz) (ul_wS cI aT (aK 0) r ++ ul_wK cI aK K)) (va_A (ul_wS cI aT (aK 0) T ++ ul_wK cI aK K) sz)) 0 0 (va_A (ul_wS cI aT (aK 0) T ++ ul_wK cI aK K) sz) := by
  refine Met.ofW (cc := cX4_endow) (maxL := 4) (ret := none) (by decide) rfl ?_
  intro p e s m args below meth c s₁ B hml hv
  obtain ⟨rfl, hsz, hP, hK, hD0, hN⟩ := hv
  have hx := B.exec
  have hb := B.bytes
  have hr := B.returns
  have hts := atoms_spec (ws := wsX4_endow) B.pre
  have hown : s.vm.findClass RX4 = some m.cls := findClass_of_methodNamed B.named
  have hlocks := B.notSynchronized
  have hin4 : ∀ w ∈ u_ws RX4 TX4 8, w ∈ wsX4_endow := by decide +kernel
  subst hsz
  have hD := hD0.self (sz := s.heap.size)
  generalize hAe : va_A (ul_wS cI aT (aK 0) T ++ ul_wK cI aK K) s.heap.size = A at hD hN ⊢
  have hA : ∀ q : Nat, s.heap.size ≤ q → A q := fun q h => by rw [← hAe]; exact Or.inr h
  have hS : va_S A s.heap s.heap [] := va_S.rf
  have hl := lv_entry ([.ref (aT 0), .int p1, .int p2]) (n := 4) (Nat.le_of_ble_eq_true rfl)
  rw [lg_entry_eq]
  generalize (lg_sl ([.ref (aT 0), .int p1, .int p2]) ++ List.replicate (4 - (lg_sl ([.ref (aT 0), .int p1, .int p2])).length) Slot.unset).toArray = ls at hl ⊢
  have hl : lv_has ls 4 [(0, .ref (aT 0)), (1, .int p1), (2, .int p2)] := hl
  obtain ⟨K0, hK0, h⟩ := ul_top h
  unfold f_X4_endow at h
  refine ul_gen (fun G gi ge => ?_)
  obtain ⟨H, eH⟩ : ∃ z, z = s.heap := ⟨_, rfl⟩
  obtain ⟨locs, eL⟩ : ∃ z : List Loc, z = [] := ⟨_, rfl⟩
  have hP : va_P (dC, dI) classes (ul_wS cI aT (aK 0) T ++ ul_wK cI aK K) H := by rw [eH]; exact hP
  have hS : va_S A s.heap H locs := by rw [eH, eL]; exact hS
  rw [← eL]
  refine (show G H locs (F0 m 0 ls []) → G s.heap locs (F0 m 0 ls []) from fun z => by rw [← eH]; exact z) ?_
  have J26 : ∀ (x3 : Int32) (t1 : Int32) (t2 : Int32) (T__26 : ul_S) (H : Heap) (locs : List Loc), ul_H (dC, dI) A s.heap (ul_wS cI aT (aK 0) T__26 ++ ul_wK cI aK K) H locs → ∀ ls : Array Slot, lv_has ls 4 [(0, .ref (aT 0)), (1, .int p1), (2, .int p2), (3, .int x3)] → (f_X4_endow_j26 p1 p2 x3 t1 t2 T__26).bind K0 = some r → G H locs (F0 m 26 ls [.int t2, .int t1, .ref (aT 6)]) := by
    intro x3 t1 t2 T__26 H locs hw ls hl h
    obtain ⟨hP, hD, hS⟩ := hw
    unfold f_X4_endow_j26 at h
    refine gi _ _ _ ?_
    obtain ⟨hi4, h⟩ := ul_st_h h
    refine va_iast hx hb hK hP hD hS 6 0 rfl rfl hi4 dX4_endow_26 (fun H locs hP hD hS => ?_)
    obtain ⟨T3, eT3⟩ : ∃ z : ul_S, z = ul_up T__26 6 t1.toNatClampNeg t2 := ⟨_, rfl⟩
    have h := h T3 eT3
    have hP : va_P (dC, dI) classes (ul_wS cI aT (aK 0) T3 ++ ul_wK cI aK K) H := by rw [eT3]; exact hP
    have hD : va_D A (ul_wS cI aT (aK 0) T3 ++ ul_wK cI aK K) := by rw [eT3]; exact hD
    have hr9 := hK0 T3 h
    subst hr9
    exact W.vret hx hb hr (fun t ht hW => ⟨⟨(), rfl, trivial, by rw [ht]; exact hP, va_K.moved hW.alike hK, hD⟩, hS.F ht⟩) hS.2.2 dX4_endow_27
  refine gi _ _ _ ?_
  refine lv_aload_n hx hb dX4_endow_0 rfl (lv_at hl 0 rfl) ?_
  refine va_get (D := (dC, dI)) (ci := 4) (v := .ref (aT 6)) (C := RX4) (T := TX4) (N := 8) hx hb hts hin4 hown hK hP 0 rfl rfl 6 (by decide) (hts (.fieldLink RX4 31 "UnderLadders$Street" "ownLuck" "[I") (by decide +kernel)) (fun _ h9 => h9) rfl dX4_endow_1 ?_
  refine lv_iload_n hx hb dX4_endow_4 rfl (lv_at hl 1 rfl) ?_
  obtain ⟨hi6, h⟩ := ul_ld_h h
  refine va_iald hx hb hK hP 6 0 rfl rfl hi6 dX4_endow_5 ?_
  refine lv_topi (fun v5 ev5 => ?_)
  have h := h v5 ev5
  refine lv_iload_n hx hb dX4_endow_6 rfl (lv_at hl 2 rfl) ?_
  refine lv_iadd hx hb dX4_endow_7 ?_
  refine lv_topi (fun v7 ev7 => ?_)
  have h := ul_bd_h h v7 ev7
  refine lv_istore_n (lv' := [(3, .int v7), (0, .ref (aT 0)), (1, .int p1), (2, .int p2)]) hx hb dX4_endow_8 rfl hl (by decide) rfl (fun ls hl => ?_)
  refine lv_aload_n hx hb dX4_endow_9 rfl (lv_at hl 1 rfl) ?_
  refine va_get (D := (dC, dI)) (ci := 4) (v := .ref (aT 6)) (C := RX4) (T := TX4) (N := 8) hx hb hts hin4 hown hK hP 0 rfl rfl 6 (by decide) (hts (.fieldLink RX4 31 "UnderLadders$Street" "ownLuck" "[I") (by decide +kernel)) (fun _ h9 => h9) rfl dX4_endow_10 ?_
  refine lv_iload_n hx hb dX4_endow_13 rfl (lv_at hl 2 rfl) ?_
  refine lv_iload_n hx hb dX4_endow_14 rfl (lv_at hl 0 rfl) ?_
  refine lv_bipush (v := 99) hx hb dX4_endow_15 (by decide) ?_
  refine lv_icmp_ge (tgt := 24) hx hb dX4_endow_17 (by decide) (fun hc8 => ?_) (fun hc8 => ?_)
  · have h := ul_if_t hc8 h
    refine lv_bipush (v := 99) hx hb dX4_endow_24 (by decide) ?_
    exact ge _ _ _ (J26 v7 p1 (99 : Int32) T H locs ⟨hP, hD, hS⟩ ls (lv_sub hl [1, 2, 3, 0] rfl) h)
  · have h := ul_if_f hc8 h
    refine lv_iload_n hx hb dX4_endow_20 rfl (lv_at hl 0 rfl) ?_
    refine lv_goto (tgt := 26) hx hb dX4_endow_21 (by decide) ?_
    exact ge _ _ _ (J26 v7 p1 v7 T H locs ⟨hP, hD, hS⟩ ls (lv_sub hl [1, 2, 3, 0] rfl) h)
def f_X4_meet_j121 (K : ul_S) (p1 : Int32) (p2 : Int32) (x3 : Int32) (x4 : Int32) (x5 : Int32) (x6 : Int32) (T__121 : ul_S) : Option ul_S :=
  if x3 = (3 : Int32) then ((f_X4_endow T__121 p1 (1 : Int32)).bind fun u2 => some u2) else (some T__121)
def f_X4_meet_j45 (K : ul_S) (p1 : Int32) (p2 : Int32) (x3 : Int32) (x4 : Int32) (T__45 : ul_S) : Option ul_S :=
  ul_ld (K 3) 4 p2 fun v5 => ul_ld (K 2) 4 p2 fun v7 => (f_X6_taken v5 v7 x4).bind fun u9 => ul_st T__45 6 5 p1 (x4 - u9) fun T10 => ul_ld (T10 3) 4 p2 fun v12 => ul_st T10 3 4 p2 (v12 + u9) fun T14 => if v5 = (2 : Int32) then (ul_ld (T14 3) 4 p2 fun v17 => if v17 ≤ (12 : Int32) then (f_X4_meet_j121 K p1 p2 x3 x4 v5 u9 T14) else (ul_st T14 3 4 p2 (12 : Int32) fun T20 => f_X4_meet_j121 K p1 p2 x3 x4 v5 u9 T20)) else (f_X4_meet_j121 K p1 p2 x3 x4 v5 u9 T14)
def f_X4_meet_j33 (K : ul_S) (p1 : Int32) (p2 : Int32) (x3 : Int32) (x4 : Int32) (T__33 : ul_S) : Option ul_S :=
  (f_X6_lessByMud x4).bind fun u39 => ul_st T__33 6 5 p1 u39 fun T40 => some T40
def f_X4_meet (T : ul_S) (K : ul_S) (p1 : Int32) (p2 : Int32) : Option ul_S :=
  ul_ld (K 7) 5 p1 fun v45 => ul_ld (T 6) 5 p1 fun v47 => if v45 = (1 : Int32) then (f_X4_meet_j33 K p1 p2 v45 v47 T) else (if v45 = 0 then (if v47 < (4 : Int32) then (f_X4_meet_j45 K p1 p2 v45 v47 T) else (f_X4_meet_j33 K p1 p2 v45 v47 T)) else (f_X4_meet_j45 K p1 p2 v45 v47 T))
set_option maxHeartbeats 4000000 in
set_option maxRecDepth 100000 in
theorem c_X4_meet (l : Launch) (dC : Nat → ClassId) (dI : Nat → Nat → Nat) (cI : ClassId) (aT : Nat → Nat) (aK : Nat → Nat) (sz : Nat) (T : ul_S) (K : ul_S) (p1 : Int32) (p2 : Int32) (r : ul_S) (h : f_X4_meet T K p1 p2 = some r) : Met l yX4_meet wsX4_meet ({ frames := 1, cells := 0, slots := 0, locals := 23 }) (va_Pc [.ref (aT 0), .int p1, .int p2] (ul_pre (dC, dI) [(cI, .int)] ul_NX sz (ul_wS cI aT (aK 0) T ++ ul_wK cI aK K))) (va_Qv (fun (_ : Unit) => True) (fun _ => ul_post (dC, dI) [(cI, .int)] (va_A (ul_wS cI aT (aK 0) T ++ ul_wK cI aK K) sz) (ul_wS cI aT (aK 0) r ++ ul_wK cI aK K)) (va_A (ul_wS cI aT (aK 0) T ++ ul_wK cI aK K) sz)) 0 0 (va_A (ul_wS cI aT (aK 0) T ++ ul_wK cI aK K) sz) := by
  refine Met.ofW (cc := cX4_meet) (maxL := 7) (ret := none) (by decide) rfl ?_
  intro p e s m args below meth c s₁ B hml hv
  obtain ⟨rfl, hsz, hP, hK, hD0, hN⟩ := hv
  have hx := B.exec
  have hb := B.bytes
  have hr := B.returns
  have hts := atoms_spec (ws := wsX4_meet) B.pre
  have hown : s.vm.findClass RX4 = some m.cls := findClass_of_methodNamed B.named
  have hlocks := B.notSynchronized
  have hin2 : ∀ w ∈ u_ws RX2 TX2 9, w ∈ wsX4_meet := by decide +kernel
  have hin4 : ∀ w ∈ u_ws RX4 TX4 8, w ∈ wsX4_meet := by decide +kernel
  subst hsz
  have hD := hD0.self (sz := s.heap.size)
  generalize hAe : va_A (ul_wS cI aT (aK 0) T ++ ul_wK cI aK K) s.heap.size = A at hD hN ⊢
  have hA : ∀ q : Nat, s.heap.size ≤ q → A q := fun q h => by rw [← hAe]; exact Or.inr h
  have hS : va_S A s.heap s.heap [] := va_S.rf
  have hl := lv_entry ([.ref (aT 0), .int p1, .int p2]) (n := 7) (Nat.le_of_ble_eq_true rfl)
  rw [lg_entry_eq]
  generalize (lg_sl ([.ref (aT 0), .int p1, .int p2]) ++ List.replicate (7 - (lg_sl ([.ref (aT 0), .int p1, .int p2])).length) Slot.unset).toArray = ls at hl ⊢
  have hl : lv_has ls 7 [(0, .ref (aT 0)), (1, .int p1), (2, .int p2)] := hl
  obtain ⟨K0, hK0, h⟩ := ul_top h
  unfold f_X4_meet at h
  refine ul_gen (fun G gi ge => ?_)
  obtain ⟨H, eH⟩ : ∃ z, z = s.heap := ⟨_, rfl⟩
  obtain ⟨locs, eL⟩ : ∃ z : List Loc, z = [] := ⟨_, rfl⟩
  have hP : va_P (dC, dI) classes (ul_wS cI aT (aK 0) T ++ ul_wK cI aK K) H := by rw [eH]; exact hP
  have hS : va_S A s.heap H locs := by rw [eH, eL]; exact hS
  rw [← eL]
  refine (show G H locs (F0 m 0 ls []) → G s.heap locs (F0 m 0 ls []) from fun z => by rw [← eH]; exact z) ?_
  have J121 : ∀ (x3 : Int32) (x4 : Int32) (x5 : Int32) (x6 : Int32) (T__121 : ul_S) (H : Heap) (locs : List Loc), ul_H (dC, dI) A s.heap (ul_wS cI aT (aK 0) T__121 ++ ul_wK cI aK K) H locs → ∀ ls : Array Slot, lv_has ls 7 [(0, .ref (aT 0)), (1, .int p1), (2, .int p2), (3, .int x3), (4, .int x4), (5, .int x5), (6, .int x6)] → (f_X4_meet_j121 K p1 p2 x3 x4 x5 x6 T__121).bind K0 = some r → G H locs (F0 m 121 ls []) := by
    intro x3 x4 x5 x6 T__121 H locs hw ls hl h
    obtain ⟨hP, hD, hS⟩ := hw
    unfold f_X4_meet_j121 at h
    refine gi _ _ _ ?_
    refine lv_iload_n hx hb dX4_meet_121 rfl (lv_at hl 3 rfl) ?_
    refine lv_iconst (v := 3) hx hb dX4_meet_122 (by decide) ?_
    refine lv_icmp_ne (tgt := 132) hx hb dX4_meet_123 (by decide) (fun hc3 => ?_) (fun hc3 => ?_)
    · have h := ul_if_f hc3 h
      have hr9 := hK0 T__121 h
      subst hr9
      exact W.vret hx hb hr (fun t ht hW => ⟨⟨(), rfl, trivial, by rw [ht]; exact hP, va_K.moved hW.alike hK, hD⟩, hS.F ht⟩) hS.2.2 dX4_meet_132
    · have h := ul_if_t hc3 h
      refine lv_aload_n hx hb dX4_meet_126 rfl (lv_at hl 0 rfl) ?_
      refine lv_iload_n hx hb dX4_meet_127 rfl (lv_at hl 1 rfl) ?_
      refine lv_iconst (v := 1) hx hb dX4_meet_128 (by decide) ?_
      obtain ⟨u4, hu4, h⟩ := ul_cl_h h
      refine ul_cVv (As := [.int p1, .int (1 : Int32)]) (rest := []) (wc' := (ul_wS cI aT (aK 0) u4 ++ ul_wK cI aK K)) (wr := []) hP hD hS hK hA [0, 1, 2, 3, 4, 5, 6, 7, 8, 9, 10, 11, 12, 13, 14] [] [0] ul_NX_ok hN (c_X4_endow l dC dI cI aT aK H.size T__121 K p1 (1 : Int32) u4 hu4) rfl rfl (by decide) rfl (by decide) (by decide) rfl ⟨hx, hb, hml, hown, hts⟩ (cwV 2 hts gX4_meet_X4_endow rfl rfl rfl (by decide +kernel) ⟨Nat.le_of_ble_eq_true rfl, Nat.le_of_ble_eq_true rfl⟩) (va_recv hK hP (ci := 4) (q0 := 0) rfl rfl) rfl hl.1 rfl (Nat.le_of_ble_eq_true rfl) dX4_meet_129 (fun H locs hw => ?_)
      obtain ⟨hP, hD, hS⟩ := hw
      have hP : va_P (dC, dI) classes (ul_wS cI aT (aK 0) u4 ++ ul_wK cI aK K) H := hP
      have hD : va_D A (ul_wS cI aT (aK 0) u4 ++ ul_wK cI aK K) := hD
      have hr9 := hK0 u4 h
      subst hr9
      exact W.vret hx hb hr (fun t ht hW => ⟨⟨(), rfl, trivial, by rw [ht]; exact hP, va_K.moved hW.alike hK, hD⟩, hS.F ht⟩) hS.2.2 dX4_meet_132
  have J45 : ∀ (x3 : Int32) (x4 : Int32) (T__45 : ul_S) (H : Heap) (locs : List Loc), ul_H (dC, dI) A s.heap (ul_wS cI aT (aK 0) T__45 ++ ul_wK cI aK K) H locs → ∀ ls : Array Slot, lv_has ls 7 [(0, .ref (aT 0)), (1, .int p1), (2, .int p2), (3, .int x3), (4, .int x4)] → (f_X4_meet_j45 K p1 p2 x3 x4 T__45).bind K0 = some r → G H locs (F0 m 45 ls []) := by
    intro x3 x4 T__45 H locs hw ls hl h
    obtain ⟨hP, hD, hS⟩ := hw
    unfold f_X4_meet_j45 at h
    refine gi _ _ _ ?_
    refine lv_aload_n hx hb dX4_meet_45 rfl (lv_at hl 0 rfl) ?_
    refine va_get (D := (dC, dI)) (ci := 4) (v := .ref (aK 0)) (C := RX4) (T := TX4) (N := 8) hx hb hts hin4 hown hK hP 0 rfl rfl 0 (by decide) (hts (.fieldLink RX4 9 "UnderLadders$Street" "fixed" "LUnderLadders$Market;") (by decide +kernel)) (fun _ h9 => h9) rfl dX4_meet_46 ?_
    refine va_getN (D := (dC, dI)) (ci := 2) (v := .ref (aK 3)) (C := RX2) (T := TX2) (N := 9) hx hb hts hin2 hown hK hP 7 rfl rfl 2 (by decide) (va_Nw.use rfl (hN.1 (RX4, 107, "UnderLadders$Market", "ladderKind", "[I") (by decide +kernel))) (fun _ h9 => h9) rfl dX4_meet_49 ?_
    refine lv_iload_n hx hb dX4_meet_52 rfl (lv_at hl 2 rfl) ?_
    obtain ⟨hi23, h⟩ := ul_ld_h h
    refine va_iald hx hb hK hP 10 0 rfl rfl hi23 dX4_meet_53 ?_
    refine lv_topi (fun v22 ev22 => ?_)
    have h := h v22 ev22
    refine lv_istore (lv' := [(5, .int v22), (0, .ref (aT 0)), (1, .int p1), (2, .int p2), (3, .int x3), (4, .int x4)]) hx hb dX4_meet_54 hl (by decide) rfl (fun ls hl => ?_)
    refine lv_iload hx hb dX4_meet_56 (lv_at hl 0 rfl) ?_
    refine lv_aload_n hx hb dX4_meet_58 rfl (lv_at hl 1 rfl) ?_
    refine va_get (D := (dC, dI)) (ci := 4) (v := .ref (aK 0)) (C := RX4) (T := TX4) (N := 8) hx hb hts hin4 hown hK hP 0 rfl rfl 0 (by decide) (hts (.fieldLink RX4 9 "UnderLadders$Street" "fixed" "LUnderLadders$Market;") (by decide +kernel)) (fun _ h9 => h9) rfl dX4_meet_59 ?_
    refine va_getN (D := (dC, dI)) (ci := 2) (v := .ref (aK 2)) (C := RX2) (T := TX2) (N := 9) hx hb hts hin2 hown hK hP 7 rfl rfl 1 (by decide) (va_Nw.use rfl (hN.1 (RX4, 110, "UnderLadders$Market", "take", "[I") (by decide +kernel))) (fun _ h9 => h9) rfl dX4_meet_62 ?_
    refine lv_iload_n hx hb dX4_meet_65 rfl (lv_at hl 3 rfl) ?_
    obtain ⟨hi25, h⟩ := ul_ld_h h
    refine va_iald hx hb hK hP 9 0 rfl rfl hi25 dX4_meet_66 ?_
    refine lv_topi (fun v24 ev24 => ?_)
    have h := h v24 ev24
    refine lv_iload hx hb dX4_meet_67 (lv_at hl 5 rfl) ?_
    obtain ⟨u26, hu26, h⟩ := ul_cl_h h
    refine ul_cNi (As := [.int v22, .int v24, .int x4]) (rest := []) hP hD hS hK hA (c_X6_taken l dC dI H.size v22 v24 x4 u26 hu26) ⟨hx, hb, hml, hown, hts⟩ ⟨va_cnB (host := "UnderLadders") 3 hts gX4_meet_X6_taken_n113 rfl rfl rfl (hN.2.1 (RX4, 113, yX6_taken) (by decide +kernel)) (hts (.initialized RX6) (by decide +kernel)) (by decide +kernel) ⟨Nat.le_of_ble_eq_true rfl, Nat.le_of_ble_eq_true rfl⟩, hts (.static yX6_taken) (by decide +kernel), trivial⟩ rfl hl.1 rfl (Nat.le_of_ble_eq_true rfl) dX4_meet_69 (fun H locs hw => ?_)
    obtain ⟨hP, hD, hS⟩ := hw
    refine lv_istore (lv' := [(6, .int u26), (5, .int v22), (0, .ref (aT 0)), (1, .int p1), (2, .int p2), (3, .int x3), (4, .int x4)]) hx hb dX4_meet_72 hl (by decide) rfl (fun ls hl => ?_)
    refine lv_aload_n hx hb dX4_meet_74 rfl (lv_at hl 2 rfl) ?_
    refine va_get (D := (dC, dI)) (ci := 4) (v := .ref (aT 6)) (C := RX4) (T := TX4) (N := 8) hx hb hts hin4 hown hK hP 0 rfl rfl 6 (by decide) (hts (.fieldLink RX4 31 "UnderLadders$Street" "ownLuck" "[I") (by decide +kernel)) (fun _ h9 => h9) rfl dX4_meet_75 ?_
    refine lv_iload_n hx hb dX4_meet_78 rfl (lv_at hl 3 rfl) ?_
    refine lv_iload hx hb dX4_meet_79 (lv_at hl 6 rfl) ?_
    refine lv_iload hx hb dX4_meet_81 (lv_at hl 0 rfl) ?_
    refine lv_isub hx hb dX4_meet_83 ?_
    obtain ⟨hi28, h⟩ := ul_st_h h
    refine va_iast hx hb hK hP hD hS 6 0 rfl rfl hi28 dX4_meet_84 (fun H locs hP hD hS => ?_)
    obtain ⟨T27, eT27⟩ : ∃ z : ul_S, z = ul_up T__45 6 p1.toNatClampNeg (x4 - u26) := ⟨_, rfl⟩
    have h := h T27 eT27
    have hP : va_P (dC, dI) classes (ul_wS cI aT (aK 0) T27 ++ ul_wK cI aK K) H := by rw [eT27]; exact hP
    have hD : va_D A (ul_wS cI aT (aK 0) T27 ++ ul_wK cI aK K) := by rw [eT27]; exact hD
    refine lv_aload_n hx hb dX4_meet_85 rfl (lv_at hl 2 rfl) ?_
    refine va_get (D := (dC, dI)) (ci := 4) (v := .ref (aT 3)) (C := RX4) (T := TX4) (N := 8) hx hb hts hin4 hown hK hP 0 rfl rfl 3 (by decide) (hts (.fieldLink RX4 22 "UnderLadders$Street" "manLuck" "[I") (by decide +kernel)) (fun _ h9 => h9) rfl dX4_meet_86 ?_
    refine lv_iload_n hx hb dX4_meet_89 rfl (lv_at hl 4 rfl) ?_
    refine lv_dup2_11 hx hb dX4_meet_90 rfl rfl ?_
    obtain ⟨hi30, h⟩ := ul_ld_h h
    refine va_iald hx hb hK hP 3 0 rfl rfl hi30 dX4_meet_91 ?_
    refine lv_topi (fun v29 ev29 => ?_)
    have h := h v29 ev29
    refine lv_iload hx hb dX4_meet_92 (lv_at hl 0 rfl) ?_
    refine lv_iadd hx hb dX4_meet_94 ?_
    obtain ⟨hi32, h⟩ := ul_st_h h
    refine va_iast hx hb hK hP hD hS 3 0 rfl rfl hi32 dX4_meet_95 (fun H locs hP hD hS => ?_)
    obtain ⟨T31, eT31⟩ : ∃ z : ul_S, z = ul_up T27 3 p2.toNatClampNeg (v29 + u26) := ⟨_, rfl⟩
    have h := h T31 eT31
    have hP : va_P (dC, dI) classes (ul_wS cI aT (aK 0) T31 ++ ul_wK cI aK K) H := by rw [eT31]; exact hP
    have hD : va_D A (ul_wS cI aT (aK 0) T31 ++ ul_wK cI aK K) := by rw [eT31]; exact hD
    refine lv_iload hx hb dX4_meet_96 (lv_at hl 1 rfl) ?_
    refine lv_iconst (v := 2) hx hb dX4_meet_98 (by decide) ?_
    refine lv_icmp_ne (tgt := 121) hx hb dX4_meet_99 (by decide) (fun hc33 => ?_) (fun hc33 => ?_)
    · have h := ul_if_f hc33 h
      exact ge _ _ _ (J121 x3 x4 v22 u26 T31 H locs ⟨hP, hD, hS⟩ ls (lv_sub hl [2, 3, 4, 5, 6, 1, 0] rfl) h)
    · have h := ul_if_t hc33 h
      refine lv_aload_n hx hb dX4_meet_102 rfl (lv_at hl 2 rfl) ?_
      refine va_get (D := (dC, dI)) (ci := 4) (v := .ref (aT 3)) (C := RX4) (T := TX4) (N := 8) hx hb hts hin4 hown hK hP 0 rfl rfl 3 (by decide) (hts (.fieldLink RX4 22 "UnderLadders$Street" "manLuck" "[I") (by decide +kernel)) (fun _ h9 => h9) rfl dX4_meet_103 ?_
      refine lv_iload_n hx hb dX4_meet_106 rfl (lv_at hl 4 rfl) ?_
      obtain ⟨hi35, h⟩ := ul_ld_h h
      refine va_iald hx hb hK hP 3 0 rfl rfl hi35 dX4_meet_107 ?_
      refine lv_topi (fun v34 ev34 => ?_)
      have h := h v34 ev34
      refine lv_bipush (v := 12) hx hb dX4_meet_108 (by decide) ?_
      refine lv_icmp_le (tgt := 121) hx hb dX4_meet_110 (by decide) (fun hc36 => ?_) (fun hc36 => ?_)
      · have h := ul_if_t hc36 h
        exact ge _ _ _ (J121 x3 x4 v22 u26 T31 H locs ⟨hP, hD, hS⟩ ls (lv_sub hl [2, 3, 4, 5, 6, 1, 0] rfl) h)
      · have h := ul_if_f hc36 h
        refine lv_aload_n hx hb dX4_meet_113 rfl (lv_at hl 2 rfl) ?_
        refine va_get (D := (dC, dI)) (ci := 4) (v := .ref (aT 3)) (C := RX4) (T := TX4) (N := 8) hx hb hts hin4 hown hK hP 0 rfl rfl 3 (by decide) (hts (.fieldLink RX4 22 "UnderLadders$Street" "manLuck" "[I") (by decide +kernel)) (fun _ h9 => h9) rfl dX4_meet_114 ?_
        refine lv_iload_n hx hb dX4_meet_117 rfl (lv_at hl 4 rfl) ?_
        refine lv_bipush (v := 12) hx hb dX4_meet_118 (by decide) ?_
        obtain ⟨hi38, h⟩ := ul_st_h h
        refine va_iast hx hb hK hP hD hS 3 0 rfl rfl hi38 dX4_meet_120 (fun H locs hP hD hS => ?_)
        obtain ⟨T37, eT37⟩ : ∃ z : ul_S, z = ul_up T31 3 p2.toNatClampNeg (12 : Int32) := ⟨_, rfl⟩
        have h := h T37 eT37
        have hP : va_P (dC, dI) classes (ul_wS cI aT (aK 0) T37 ++ ul_wK cI aK K) H := by rw [eT37]; exact hP
        have hD : va_D A (ul_wS cI aT (aK 0) T37 ++ ul_wK cI aK K) := by rw [eT37]; exact hD
        exact ge _ _ _ (J121 x3 x4 v22 u26 T37 H locs ⟨hP, hD, hS⟩ ls (lv_sub hl [2, 3, 4, 5, 6, 1, 0] rfl) h)
  have J33 : ∀ (x3 : Int32) (x4 : Int32) (T__33 : ul_S) (H : Heap) (locs : List Loc), ul_H (dC, dI) A s.heap (ul_wS cI aT (aK 0) T__33 ++ ul_wK cI aK K) H locs → ∀ ls : Array Slot, lv_has ls 7 [(0, .ref (aT 0)), (1, .int p1), (2, .int p2), (3, .int x3), (4, .int x4)] → (f_X4_meet_j33 K p1 p2 x3 x4 T__33).bind K0 = some r → G H locs (F0 m 33 ls []) := by
    intro x3 x4 T__33 H locs hw ls hl h
    obtain ⟨hP, hD, hS⟩ := hw
    unfold f_X4_meet_j33 at h
    refine gi _ _ _ ?_
    refine lv_aload_n hx hb dX4_meet_33 rfl (lv_at hl 0 rfl) ?_
    refine va_get (D := (dC, dI)) (ci := 4) (v := .ref (aT 6)) (C := RX4) (T := TX4) (N := 8) hx hb hts hin4 hown hK hP 0 rfl rfl 6 (by decide) (hts (.fieldLink RX4 31 "UnderLadders$Street" "ownLuck" "[I") (by decide +kernel)) (fun _ h9 => h9) rfl dX4_meet_34 ?_
    refine lv_iload_n hx hb dX4_meet_37 rfl (lv_at hl 1 rfl) ?_
    refine lv_iload hx hb dX4_meet_38 (lv_at hl 4 rfl) ?_
    obtain ⟨u42, hu42, h⟩ := ul_cl_h h
    refine ul_cNi (As := [.int x4]) (rest := [.int p1, .ref (aT 6)]) hP hD hS hK hA (c_X6_lessByMud l dC dI H.size x4 u42 hu42) ⟨hx, hb, hml, hown, hts⟩ ⟨va_cnB (host := "UnderLadders") 1 hts gX4_meet_X6_lessByMud_n104 rfl rfl rfl (hN.2.1 (RX4, 104, yX6_lessByMud) (by decide +kernel)) (hts (.initialized RX6) (by decide +kernel)) (by decide +kernel) ⟨Nat.le_of_ble_eq_true rfl, Nat.le_of_ble_eq_true rfl⟩, hts (.static yX6_lessByMud) (by decide +kernel), trivial⟩ rfl hl.1 rfl (Nat.le_of_ble_eq_true rfl) dX4_meet_40 (fun H locs hw => ?_)
    obtain ⟨hP, hD, hS⟩ := hw
    obtain ⟨hi44, h⟩ := ul_st_h h
    refine va_iast hx hb hK hP hD hS 6 0 rfl rfl hi44 dX4_meet_43 (fun H locs hP hD hS => ?_)
    obtain ⟨T43, eT43⟩ : ∃ z : ul_S, z = ul_up T__33 6 p1.toNatClampNeg u42 := ⟨_, rfl⟩
    have h := h T43 eT43
    have hP : va_P (dC, dI) classes (ul_wS cI aT (aK 0) T43 ++ ul_wK cI aK K) H := by rw [eT43]; exact hP
    have hD : va_D A (ul_wS cI aT (aK 0) T43 ++ ul_wK cI aK K) := by rw [eT43]; exact hD
    have hr9 := hK0 T43 h
    subst hr9
    exact W.vret hx hb hr (fun t ht hW => ⟨⟨(), rfl, trivial, by rw [ht]; exact hP, va_K.moved hW.alike hK, hD⟩, hS.F ht⟩) hS.2.2 dX4_meet_44
  refine gi _ _ _ ?_
  refine lv_aload_n hx hb dX4_meet_0 rfl (lv_at hl 0 rfl) ?_
  refine va_get (D := (dC, dI)) (ci := 4) (v := .ref (aK 0)) (C := RX4) (T := TX4) (N := 8) hx hb hts hin4 hown hK hP 0 rfl rfl 0 (by decide) (hts (.fieldLink RX4 9 "UnderLadders$Street" "fixed" "LUnderLadders$Market;") (by decide +kernel)) (fun _ h9 => h9) rfl dX4_meet_1 ?_
  refine va_getN (D := (dC, dI)) (ci := 2) (v := .ref (aK 7)) (C := RX2) (T := TX2) (N := 9) hx hb hts hin2 hown hK hP 7 rfl rfl 6 (by decide) (va_Nw.use rfl (hN.1 (RX4, 101, "UnderLadders$Market", "personKind", "[I") (by decide +kernel))) (fun _ h9 => h9) rfl dX4_meet_4 ?_
  refine lv_iload_n hx hb dX4_meet_7 rfl (lv_at hl 1 rfl) ?_
  obtain ⟨hi46, h⟩ := ul_ld_h h
  refine va_iald hx hb hK hP 14 0 rfl rfl hi46 dX4_meet_8 ?_
  refine lv_topi (fun v45 ev45 => ?_)
  have h := h v45 ev45
  refine lv_istore_n (lv' := [(3, .int v45), (0, .ref (aT 0)), (1, .int p1), (2, .int p2)]) hx hb dX4_meet_9 rfl hl (by decide) rfl (fun ls hl => ?_)
  refine lv_aload_n hx hb dX4_meet_10 rfl (lv_at hl 1 rfl) ?_
  refine va_get (D := (dC, dI)) (ci := 4) (v := .ref (aT 6)) (C := RX4) (T := TX4) (N := 8) hx hb hts hin4 hown hK hP 0 rfl rfl 6 (by decide) (hts (.fieldLink RX4 31 "UnderLadders$Street" "ownLuck" "[I") (by decide +kernel)) (fun _ h9 => h9) rfl dX4_meet_11 ?_
  refine lv_iload_n hx hb dX4_meet_14 rfl (lv_at hl 2 rfl) ?_
  obtain ⟨hi48, h⟩ := ul_ld_h h
  refine va_iald hx hb hK hP 6 0 rfl rfl hi48 dX4_meet_15 ?_
  refine lv_topi (fun v47 ev47 => ?_)
  have h := h v47 ev47
  refine lv_istore (lv' := [(4, .int v47), (3, .int v45), (0, .ref (aT 0)), (1, .int p1), (2, .int p2)]) hx hb dX4_meet_16 hl (by decide) rfl (fun ls hl => ?_)
  refine lv_iload_n hx hb dX4_meet_18 rfl (lv_at hl 1 rfl) ?_
  refine lv_iconst (v := 1) hx hb dX4_meet_19 (by decide) ?_
  refine lv_icmp_eq (tgt := 33) hx hb dX4_meet_20 (by decide) (fun hc49 => ?_) (fun hc49 => ?_)
  · have h := ul_if_t hc49 h
    exact ge _ _ _ (J33 v45 v47 T H locs ⟨hP, hD, hS⟩ ls (lv_sub hl [2, 3, 4, 1, 0] rfl) h)
  · have h := ul_if_f hc49 h
    refine lv_iload_n hx hb dX4_meet_23 rfl (lv_at hl 1 rfl) ?_
    refine lv_if_ne (tgt := 45) hx hb dX4_meet_24 (by decide) (fun hc50 => ?_) (fun hc50 => ?_)
    · have h := ul_if_f hc50 h
      exact ge _ _ _ (J45 v45 v47 T H locs ⟨hP, hD, hS⟩ ls (lv_sub hl [2, 3, 4, 1, 0] rfl) h)
    · have h := ul_if_t hc50 h
      refine lv_iload hx hb dX4_meet_27 (lv_at hl 0 rfl) ?_
      refine lv_iconst (v := 4) hx hb dX4_meet_29 (by decide) ?_
      refine lv_icmp_lt (tgt := 45) hx hb dX4_meet_30 (by decide) (fun hc51 => ?_) (fun hc51 => ?_)
      · have h := ul_if_t hc51 h
        exact ge _ _ _ (J45 v45 v47 T H locs ⟨hP, hD, hS⟩ ls (lv_sub hl [2, 3, 4, 1, 0] rfl) h)
      · have h := ul_if_f hc51 h
        exact ge _ _ _ (J33 v45 v47 T H locs ⟨hP, hD, hS⟩ ls (lv_sub hl [2, 3, 4, 1, 0] rfl) h)
def f_X4_walk_j41 (K : ul_S) (p1 : Int32) (x2 : Int32) (x3 : Int32) (T__41 : ul_S) : Option ul_S :=
  (f_X4_goal T__41 K p1).bind fun u1 => ul_st T__41 5 5 p1 u1 fun T2 => some T2
def f_X4_walk_j35 (K : ul_S) (p1 : Int32) (x2 : Int32) (x3 : Int32) (x4 : Int32) (T__35 : ul_S) : Option ((Int32 × ul_S) ⊕ (Int32 × ul_S)) :=
  ul_bd (x3 + 1) fun v8 => some (.inr (v8, T__35))
def f_X4_walk_L8 (K : ul_S) (p1 : Int32) (y2 : Int32) (q8 : (Int32 × ul_S)) : Option ((Int32 × ul_S) ⊕ (Int32 × ul_S)) :=
  if y2 < q8.1 then (some (.inl (q8.1, q8.2))) else ((f_X4_ladderAhead q8.2 K p1 q8.1).bind fun u11 => if u11 = (-9 : Int32) then (f_X4_walk_j35 K p1 y2 q8.1 u11 q8.2) else ((f_X4_meet q8.2 K p1 u11).bind fun u13 => f_X4_walk_j35 K p1 y2 q8.1 u11 u13))
def f_X4_walk (T : ul_S) (K : ul_S) (p1 : Int32) : Option ul_S :=
  (f_X4_stepsAhead T K p1).bind fun u7 => (ul_it ul_N (f_X4_walk_L8 K p1 u7) ((1 : Int32), T)).bind (fun e8 => f_X4_walk_j41 K p1 u7 e8.1 e8.2)
set_option maxHeartbeats 4000000 in
set_option maxRecDepth 100000 in
theorem c_X4_walk (l : Launch) (dC : Nat → ClassId) (dI : Nat → Nat → Nat) (cI : ClassId) (aT : Nat → Nat) (aK : Nat → Nat) (sz : Nat) (T : ul_S) (K : ul_S) (p1 : Int32) (r : ul_S) (h : f_X4_walk T K p1 = some r) : Met l yX4_walk wsX4_walk ({ frames := 2, cells := 0, slots := 0, locals := 61 }) (va_Pc [.ref (aT 0), .int p1] (ul_pre (dC, dI) [(cI, .int)] ul_NX sz (ul_wS cI aT (aK 0) T ++ ul_wK cI aK K))) (va_Qv (fun (_ : Unit) => True) (fun _ => ul_post (dC, dI) [(cI, .int)] (va_A (ul_wS cI aT (aK 0) T ++ ul_wK cI aK K) sz) (ul_wS cI aT (aK 0) r ++ ul_wK cI aK K)) (va_A (ul_wS cI aT (aK 0) T ++ ul_wK cI aK K) sz)) 0 0 (va_A (ul_wS cI aT (aK 0) T ++ ul_wK cI aK K) sz) := by
  refine Met.ofW (cc := cX4_walk) (maxL := 5) (ret := none) (by decide) rfl ?_
  intro p e s m args below meth c s₁ B hml hv
  obtain ⟨rfl, hsz, hP, hK, hD0, hN⟩ := hv
  have hx := B.exec
  have hb := B.bytes
  have hr := B.returns
  have hts := atoms_spec (ws := wsX4_walk) B.pre
  have hown : s.vm.findClass RX4 = some m.cls := findClass_of_methodNamed B.named
  have hlocks := B.notSynchronized
  have hin4 : ∀ w ∈ u_ws RX4 TX4 8, w ∈ wsX4_walk := by decide +kernel
  subst hsz
  have hD := hD0.self (sz := s.heap.size)
  generalize hAe : va_A (ul_wS cI aT (aK 0) T ++ ul_wK cI aK K) s.heap.size = A at hD hN ⊢
  have hA : ∀ q : Nat, s.heap.size ≤ q → A q := fun q h => by rw [← hAe]; exact Or.inr h
  have hS : va_S A s.heap s.heap [] := va_S.rf
  have hl := lv_entry ([.ref (aT 0), .int p1]) (n := 5) (Nat.le_of_ble_eq_true rfl)
  rw [lg_entry_eq]
  generalize (lg_sl ([.ref (aT 0), .int p1]) ++ List.replicate (5 - (lg_sl ([.ref (aT 0), .int p1])).length) Slot.unset).toArray = ls at hl ⊢
  have hl : lv_has ls 5 [(0, .ref (aT 0)), (1, .int p1)] := hl
  obtain ⟨K0, hK0, h⟩ := ul_top h
  unfold f_X4_walk at h
  refine ul_gen (fun G gi ge => ?_)
  obtain ⟨H, eH⟩ : ∃ z, z = s.heap := ⟨_, rfl⟩
  obtain ⟨locs, eL⟩ : ∃ z : List Loc, z = [] := ⟨_, rfl⟩
  have hP : va_P (dC, dI) classes (ul_wS cI aT (aK 0) T ++ ul_wK cI aK K) H := by rw [eH]; exact hP
  have hS : va_S A s.heap H locs := by rw [eH, eL]; exact hS
  rw [← eL]
  refine (show G H locs (F0 m 0 ls []) → G s.heap locs (F0 m 0 ls []) from fun z => by rw [← eH]; exact z) ?_
  have J41 : ∀ (x2 : Int32) (x3 : Int32) (T__41 : ul_S) (H : Heap) (locs : List Loc), ul_H (dC, dI) A s.heap (ul_wS cI aT (aK 0) T__41 ++ ul_wK cI aK K) H locs → ∀ ls : Array Slot, lv_has ls 5 [(0, .ref (aT 0)), (1, .int p1), (2, .int x2), (3, .int x3)] → (f_X4_walk_j41 K p1 x2 x3 T__41).bind K0 = some r → G H locs (F0 m 41 ls []) := by
    intro x2 x3 T__41 H locs hw ls hl h
    obtain ⟨hP, hD, hS⟩ := hw
    unfold f_X4_walk_j41 at h
    refine gi _ _ _ ?_
    refine lv_aload_n hx hb dX4_walk_41 rfl (lv_at hl 0 rfl) ?_
    refine va_get (D := (dC, dI)) (ci := 4) (v := .ref (aT 5)) (C := RX4) (T := TX4) (N := 8) hx hb hts hin4 hown hK hP 0 rfl rfl 5 (by decide) (hts (.fieldLink RX4 28 "UnderLadders$Street" "where" "[I") (by decide +kernel)) (fun _ h9 => h9) rfl dX4_walk_42 ?_
    refine lv_iload_n hx hb dX4_walk_45 rfl (lv_at hl 1 rfl) ?_
    refine lv_aload_n hx hb dX4_walk_46 rfl (lv_at hl 0 rfl) ?_
    refine lv_iload_n hx hb dX4_walk_47 rfl (lv_at hl 1 rfl) ?_
    obtain ⟨u4, hu4, h⟩ := ul_cl_h h
    refine ul_cVi (As := [.int p1]) (rest := [.int p1, .ref (aT 5)]) (wc' := (ul_wS cI aT (aK 0) T__41 ++ ul_wK cI aK K)) (wr := []) hP hD hS hK hA [0, 1, 2, 3, 4, 5, 6, 7, 8, 9, 10, 11, 12, 13, 14] [] [0] ul_NX_ok hN (c_X4_goal l dC dI cI aT aK H.size T__41 K p1 u4 hu4) rfl rfl (by decide) rfl (by decide) (by decide) rfl ⟨hx, hb, hml, hown, hts⟩ (cwV 1 hts gX4_walk_X4_goal rfl rfl rfl (by decide +kernel) ⟨Nat.le_of_ble_eq_true rfl, Nat.le_of_ble_eq_true rfl⟩) (va_recv hK hP (ci := 4) (q0 := 0) rfl rfl) rfl hl.1 rfl (Nat.le_of_ble_eq_true rfl) dX4_walk_48 (fun H locs hw => ?_)
    obtain ⟨hP, hD, hS⟩ := hw
    have hP : va_P (dC, dI) classes (ul_wS cI aT (aK 0) T__41 ++ ul_wK cI aK K) H := hP
    have hD : va_D A (ul_wS cI aT (aK 0) T__41 ++ ul_wK cI aK K) := hD
    obtain ⟨hi6, h⟩ := ul_st_h h
    refine va_iast hx hb hK hP hD hS 5 0 rfl rfl hi6 dX4_walk_51 (fun H locs hP hD hS => ?_)
    obtain ⟨T5, eT5⟩ : ∃ z : ul_S, z = ul_up T__41 5 p1.toNatClampNeg u4 := ⟨_, rfl⟩
    have h := h T5 eT5
    have hP : va_P (dC, dI) classes (ul_wS cI aT (aK 0) T5 ++ ul_wK cI aK K) H := by rw [eT5]; exact hP
    have hD : va_D A (ul_wS cI aT (aK 0) T5 ++ ul_wK cI aK K) := by rw [eT5]; exact hD
    have hr9 := hK0 T5 h
    subst hr9
    exact W.vret hx hb hr (fun t ht hW => ⟨⟨(), rfl, trivial, by rw [ht]; exact hP, va_K.moved hW.alike hK, hD⟩, hS.F ht⟩) hS.2.2 dX4_walk_52
  refine gi _ _ _ ?_
  refine lv_aload_n hx hb dX4_walk_0 rfl (lv_at hl 0 rfl) ?_
  refine lv_iload_n hx hb dX4_walk_1 rfl (lv_at hl 1 rfl) ?_
  obtain ⟨u7, hu7, h⟩ := ul_cl_h h
  refine ul_cVi (As := [.int p1]) (rest := []) (wc' := (ul_wS cI aT (aK 0) T ++ ul_wK cI aK K)) (wr := []) hP hD hS hK hA [0, 1, 2, 3, 4, 5, 6, 7, 8, 9, 10, 11, 12, 13, 14] [] [0] ul_NX_ok hN (c_X4_stepsAhead l dC dI cI aT aK H.size T K p1 u7 hu7) rfl rfl (by decide) rfl (by decide) (by decide) rfl ⟨hx, hb, hml, hown, hts⟩ (cwV 1 hts gX4_walk_X4_stepsAhead rfl rfl rfl (by decide +kernel) ⟨Nat.le_of_ble_eq_true rfl, Nat.le_of_ble_eq_true rfl⟩) (va_recv hK hP (ci := 4) (q0 := 0) rfl rfl) rfl hl.1 rfl (Nat.le_of_ble_eq_true rfl) dX4_walk_2 (fun H locs hw => ?_)
  obtain ⟨hP, hD, hS⟩ := hw
  have hP : va_P (dC, dI) classes (ul_wS cI aT (aK 0) T ++ ul_wK cI aK K) H := hP
  have hD : va_D A (ul_wS cI aT (aK 0) T ++ ul_wK cI aK K) := hD
  refine lv_istore_n (lv' := [(2, .int u7), (0, .ref (aT 0)), (1, .int p1)]) hx hb dX4_walk_5 rfl hl (by decide) rfl (fun ls hl => ?_)
  refine lv_iconst (v := 1) hx hb dX4_walk_6 (by decide) ?_
  refine lv_istore_n (lv' := [(3, .int (1 : Int32)), (2, .int u7), (0, .ref (aT 0)), (1, .int p1)]) hx hb dX4_walk_7 rfl hl (by decide) rfl (fun ls hl => ?_)
  refine ge _ _ _ (ul_loop (P := fun q8 => ∀ (H : Heap) (locs : List Loc), ul_H (dC, dI) A s.heap (ul_wS cI aT (aK 0) q8.2 ++ ul_wK cI aK K) H locs → ∀ ls : Array Slot, lv_has ls 5 [(0, .ref (aT 0)), (1, .int p1), (2, .int u7), (3, .int q8.1)] → G H locs (F0 m 8 ls [])) ?_ _ _ (ul_it_h h) H locs ⟨hP, hD, hS⟩ ls (lv_sub hl [2, 3, 1, 0] rfl))
  intro K8 hx8
  intro q8 ih8 h H locs hw ls hl
  have J35 : ∀ (x3 : Int32) (x4 : Int32) (T__35 : ul_S) (H : Heap) (locs : List Loc), ul_H (dC, dI) A s.heap (ul_wS cI aT (aK 0) T__35 ++ ul_wK cI aK K) H locs → ∀ ls : Array Slot, lv_has ls 5 [(0, .ref (aT 0)), (1, .int p1), (2, .int u7), (3, .int x3), (4, .int x4)] → (f_X4_walk_j35 K p1 u7 x3 x4 T__35).bind K8 = some r → G H locs (F0 m 35 ls []) := by
    intro x3 x4 T__35 H locs hw ls hl h
    obtain ⟨hP, hD, hS⟩ := hw
    unfold f_X4_walk_j35 at h
    refine gi _ _ _ ?_
    obtain ⟨v9, ev9⟩ : ∃ z : Int32, z = x3 + 1 := ⟨_, rfl⟩
    have h := ul_bd_h h v9 ev9
    refine lv_iinc (v := v9) (lv' := [(3, .int v9), (0, .ref (aT 0)), (1, .int p1), (2, .int u7), (4, .int x4)]) hx hb dX4_walk_35 hl (k := 3) rfl (by rw [ev9]; rfl) (by decide) rfl (fun ls hl => ?_)
    refine lv_goto (tgt := 8) hx hb dX4_walk_38 (by decide) ?_
    exact ge _ _ _ (ih8 (v9, T__35) h H locs ⟨hP, hD, hS⟩ ls (lv_sub hl [1, 2, 3, 0] rfl))
  obtain ⟨hP, hD, hS⟩ := hw
  unfold f_X4_walk_L8 at h
  refine gi _ _ _ ?_
  refine lv_iload_n hx hb dX4_walk_8 rfl (lv_at hl 3 rfl) ?_
  refine lv_iload_n hx hb dX4_walk_9 rfl (lv_at hl 2 rfl) ?_
  refine lv_icmp_gt (tgt := 41) hx hb dX4_walk_10 (by decide) (fun hc14 => ?_) (fun hc14 => ?_)
  · have h := ul_if_t hc14 h
    exact ge _ _ _ (J41 u7 q8.1 q8.2 H locs ⟨hP, hD, hS⟩ ls (lv_sub hl [0, 1, 2, 3] rfl) (hx8 (q8.1, q8.2) h))
  · have h := ul_if_f hc14 h
    refine lv_aload_n hx hb dX4_walk_13 rfl (lv_at hl 0 rfl) ?_
    refine lv_iload_n hx hb dX4_walk_14 rfl (lv_at hl 1 rfl) ?_
    refine lv_iload_n hx hb dX4_walk_15 rfl (lv_at hl 3 rfl) ?_
    obtain ⟨u15, hu15, h⟩ := ul_cl_h h
    refine ul_cVi (As := [.int p1, .int q8.1]) (rest := []) (wc' := (ul_wS cI aT (aK 0) q8.2 ++ ul_wK cI aK K)) (wr := []) hP hD hS hK hA [0, 1, 2, 3, 4, 5, 6, 7, 8, 9, 10, 11, 12, 13, 14] [] [0] ul_NX_ok hN (c_X4_ladderAhead l dC dI cI aT aK H.size q8.2 K p1 q8.1 u15 hu15) rfl rfl (by decide) rfl (by decide) (by decide) rfl ⟨hx, hb, hml, hown, hts⟩ (cwV 2 hts gX4_walk_X4_ladderAhead rfl rfl rfl (by decide +kernel) ⟨Nat.le_of_ble_eq_true rfl, Nat.le_of_ble_eq_true rfl⟩) (va_recv hK hP (ci := 4) (q0 := 0) rfl rfl) rfl hl.1 rfl (Nat.le_of_ble_eq_true rfl) dX4_walk_16 (fun H locs hw => ?_)
    obtain ⟨hP, hD, hS⟩ := hw
    have hP : va_P (dC, dI) classes (ul_wS cI aT (aK 0) q8.2 ++ ul_wK cI aK K) H := hP
    have hD : va_D A (ul_wS cI aT (aK 0) q8.2 ++ ul_wK cI aK K) := hD
    refine lv_istore (lv' := [(4, .int u15), (0, .ref (aT 0)), (1, .int p1), (2, .int u7), (3, .int q8.1)]) hx hb dX4_walk_19 hl (by decide) rfl (fun ls hl => ?_)
    refine lv_iload hx hb dX4_walk_21 (lv_at hl 0 rfl) ?_
    refine lv_bipush (v := -9) hx hb dX4_walk_23 (by decide) ?_
    refine lv_icmp_eq (tgt := 35) hx hb dX4_walk_25 (by decide) (fun hc16 => ?_) (fun hc16 => ?_)
    · have h := ul_if_t hc16 h
      exact ge _ _ _ (J35 q8.1 u15 q8.2 H locs ⟨hP, hD, hS⟩ ls (lv_sub hl [1, 2, 3, 4, 0] rfl) h)
    · have h := ul_if_f hc16 h
      refine lv_aload_n hx hb dX4_walk_28 rfl (lv_at hl 1 rfl) ?_
      refine lv_iload_n hx hb dX4_walk_29 rfl (lv_at hl 2 rfl) ?_
      refine lv_iload hx hb dX4_walk_30 (lv_at hl 0 rfl) ?_
      obtain ⟨u17, hu17, h⟩ := ul_cl_h h
      refine ul_cVv (As := [.int p1, .int u15]) (rest := []) (wc' := (ul_wS cI aT (aK 0) u17 ++ ul_wK cI aK K)) (wr := []) hP hD hS hK hA [0, 1, 2, 3, 4, 5, 6, 7, 8, 9, 10, 11, 12, 13, 14] [] [0] ul_NX_ok hN (c_X4_meet l dC dI cI aT aK H.size q8.2 K p1 u15 u17 hu17) rfl rfl (by decide) rfl (by decide) (by decide) rfl ⟨hx, hb, hml, hown, hts⟩ (cwV 2 hts gX4_walk_X4_meet rfl rfl rfl (by decide +kernel) ⟨Nat.le_of_ble_eq_true rfl, Nat.le_of_ble_eq_true rfl⟩) (va_recv hK hP (ci := 4) (q0 := 0) rfl rfl) rfl hl.1 rfl (Nat.le_of_ble_eq_true rfl) dX4_walk_32 (fun H locs hw => ?_)
      obtain ⟨hP, hD, hS⟩ := hw
      have hP : va_P (dC, dI) classes (ul_wS cI aT (aK 0) u17 ++ ul_wK cI aK K) H := hP
      have hD : va_D A (ul_wS cI aT (aK 0) u17 ++ ul_wK cI aK K) := hD
      exact ge _ _ _ (J35 q8.1 u15 u17 H locs ⟨hP, hD, hS⟩ ls (lv_sub hl [1, 2, 3, 4, 0] rfl) h)
def f_X4_passDay_j93 (K : ul_S) (p1 : Int32) (x2 : Int32) (x3 : Int32) (T__93 : ul_S) : Option (Int32 × ul_S) :=
  ul_bd ((T__93 0 0) + (1 : Int32)) fun v1 => ul_bd (ul_up T__93 0 0 v1) fun T2 => some (x2, T2)
def f_X4_passDay_L37 (K : ul_S) (p1 : Int32) (q37 : (Int32 × Int32 × ul_S)) : Option ((Int32 × Int32 × ul_S) ⊕ (Int32 × Int32 × ul_S)) :=
  if (K 0 0) ≤ q37.2.1 then (some (.inl (q37.1, q37.2.1, q37.2.2))) else (ul_ld (q37.2.2 3) 4 q37.2.1 fun v6 => ul_bd (v6 / (5 : Int32)) fun v8 => ul_ld (q37.2.2 4) 4 q37.2.1 fun v9 => ul_st q37.2.2 4 4 q37.2.1 (v9 + v8) fun T11 => ul_ld (T11 3) 4 q37.2.1 fun v13 => ul_st T11 3 4 q37.2.1 (v13 - (v8 * (5 : Int32))) fun T15 => ul_bd (q37.1 + v8) fun v17 => ul_bd (q37.2.1 + 1) fun v18 => some (.inr (v17, v18, T15)))
def f_X4_passDay_j33 (K : ul_S) (p1 : Int32) (x2 : Int32) (T__33 : ul_S) : Option (Int32 × ul_S) :=
  (ul_it ul_N (f_X4_passDay_L37 K p1) ((0 : Int32), (0 : Int32), T__33)).bind (fun e37 => f_X4_passDay_j93 K p1 e37.1 e37.2.1 e37.2.2)
def f_X4_passDay_j27 (K : ul_S) (p1 : Int32) (x2 : Int32) (T__27 : ul_S) : Option ((Int32 × ul_S) ⊕ (Int32 × ul_S)) :=
  ul_bd (x2 + 1) fun v61 => some (.inr (v61, T__27))
def f_X4_passDay_L2 (K : ul_S) (p1 : Int32) (q2 : (Int32 × ul_S)) : Option ((Int32 × ul_S) ⊕ (Int32 × ul_S)) :=
  if (K 0 1) ≤ q2.1 then (some (.inl (q2.1, q2.2))) else (if ((p1 >>> (q2.1 &&& 31)) &&& (1 : Int32)) = (1 : Int32) then ((f_X4_walk q2.2 K q2.1).bind fun u65 => f_X4_passDay_j27 K p1 q2.1 u65) else (f_X4_passDay_j27 K p1 q2.1 q2.2))
def f_X4_passDay (T : ul_S) (K : ul_S) (p1 : Int32) : Option (Int32 × ul_S) :=
  (ul_it ul_N (f_X4_passDay_L2 K p1) ((0 : Int32), T)).bind (fun e2 => f_X4_passDay_j33 K p1 e2.1 e2.2)
set_option maxHeartbeats 4000000 in
set_option maxRecDepth 100000 in
theorem c_X4_passDay (l : Launch) (dC : Nat → ClassId) (dI : Nat → Nat → Nat) (cI : ClassId) (aT : Nat → Nat) (aK : Nat → Nat) (sz : Nat) (T : ul_S) (K : ul_S) (p1 : Int32) (r : (Int32 × ul_S)) (h : f_X4_passDay T K p1 = some r) : Met l yX4_passDay wsX4_passDay ({ frames := 3, cells := 0, slots := 0, locals := 85 }) (va_Pc [.ref (aT 0), .int p1] (ul_pre (dC, dI) [(cI, .int)] ul_NX sz (ul_wS cI aT (aK 0) T ++ ul_wK cI aK K))) (va_Qi (fun v (_ : Unit) => v = r.1) (fun _ => ul_post (dC, dI) [(cI, .int)] (va_A (ul_wS cI aT (aK 0) T ++ ul_wK cI aK K) sz) (ul_wS cI aT (aK 0) r.2 ++ ul_wK cI aK K)) (va_A (ul_wS cI aT (aK 0) T ++ ul_wK cI aK K) sz)) 0 0 (va_A (ul_wS cI aT (aK 0) T ++ ul_wK cI aK K) sz) := by
  refine Met.ofW (cc := cX4_passDay) (maxL := 5) (ret := (some .int)) (by decide) rfl ?_
  intro p e s m args below meth c s₁ B hml hv
  obtain ⟨rfl, hsz, hP, hK, hD0, hN⟩ := hv
  have hx := B.exec
  have hb := B.bytes
  have hr := B.returns
  have hts := atoms_spec (ws := wsX4_passDay) B.pre
  have hown : s.vm.findClass RX4 = some m.cls := findClass_of_methodNamed B.named
  have hlocks := B.notSynchronized
  have hin2 : ∀ w ∈ u_ws RX2 TX2 9, w ∈ wsX4_passDay := by decide +kernel
  have hin4 : ∀ w ∈ u_ws RX4 TX4 8, w ∈ wsX4_passDay := by decide +kernel
  subst hsz
  have hD := hD0.self (sz := s.heap.size)
  generalize hAe : va_A (ul_wS cI aT (aK 0) T ++ ul_wK cI aK K) s.heap.size = A at hD hN ⊢
  have hA : ∀ q : Nat, s.heap.size ≤ q → A q := fun q h => by rw [← hAe]; exact Or.inr h
  have hS : va_S A s.heap s.heap [] := va_S.rf
  have hl := lv_entry ([.ref (aT 0), .int p1]) (n := 5) (Nat.le_of_ble_eq_true rfl)
  rw [lg_entry_eq]
  generalize (lg_sl ([.ref (aT 0), .int p1]) ++ List.replicate (5 - (lg_sl ([.ref (aT 0), .int p1])).length) Slot.unset).toArray = ls at hl ⊢
  have hl : lv_has ls 5 [(0, .ref (aT 0)), (1, .int p1)] := hl
  obtain ⟨K0, hK0, h⟩ := ul_top h
  unfold f_X4_passDay at h
  refine ul_gen (fun G gi ge => ?_)
  obtain ⟨H, eH⟩ : ∃ z, z = s.heap := ⟨_, rfl⟩
  obtain ⟨locs, eL⟩ : ∃ z : List Loc, z = [] := ⟨_, rfl⟩
  have hP : va_P (dC, dI) classes (ul_wS cI aT (aK 0) T ++ ul_wK cI aK K) H := by rw [eH]; exact hP
  have hS : va_S A s.heap H locs := by rw [eH, eL]; exact hS
  rw [← eL]
  refine (show G H locs (F0 m 0 ls []) → G s.heap locs (F0 m 0 ls []) from fun z => by rw [← eH]; exact z) ?_
  have J93 : ∀ (x2 : Int32) (x3 : Int32) (T__93 : ul_S) (H : Heap) (locs : List Loc), ul_H (dC, dI) A s.heap (ul_wS cI aT (aK 0) T__93 ++ ul_wK cI aK K) H locs → ∀ ls : Array Slot, lv_has ls 5 [(0, .ref (aT 0)), (1, .int p1), (2, .int x2), (3, .int x3)] → (f_X4_passDay_j93 K p1 x2 x3 T__93).bind K0 = some r → G H locs (F0 m 93 ls []) := by
    intro x2 x3 T__93 H locs hw ls hl h
    obtain ⟨hP, hD, hS⟩ := hw
    unfold f_X4_passDay_j93 at h
    refine gi _ _ _ ?_
    refine lv_aload_n hx hb dX4_passDay_93 rfl (lv_at hl 0 rfl) ?_
    refine lv_dup hx hb dX4_passDay_94 rfl ?_
    refine va_get (D := (dC, dI)) (ci := 4) (v := .int (T__93 0 0)) (C := RX4) (T := TX4) (N := 8) hx hb hts hin4 hown hK hP 0 rfl rfl 7 (by decide) (hts (.fieldLink RX4 60 "UnderLadders$Street" "days" "I") (by decide +kernel)) (fun _ h9 => h9) rfl dX4_passDay_95 ?_
    refine lv_iconst (v := 1) hx hb dX4_passDay_98 (by decide) ?_
    refine lv_iadd hx hb dX4_passDay_99 ?_
    refine lv_topi (fun v3 ev3 => ?_)
    have h := ul_bd_h h v3 ev3
    refine va_put (D := (dC, dI)) (ci := 4) (v := .int v3) (ty := .int) (C := RX4) (T := TX4) (N := 8) hx hb hts hin4 tyX4 tyX4_ok nmX4 hown hK hP hD hS 0 rfl rfl 7 (by decide) (hts (.fieldLink RX4 60 "UnderLadders$Street" "days" "I") (by decide +kernel)) (fun _ h9 => h9) rfl (by decide +kernel) rfl rfl (Nat.le_of_ble_eq_true rfl) dX4_passDay_100 (fun H locs hP hD hS => ?_)
    obtain ⟨T4, eT4⟩ : ∃ z : ul_S, z = ul_up T__93 0 0 v3 := ⟨_, rfl⟩
    have h := ul_bd_h h T4 eT4
    have hP : va_P (dC, dI) classes (ul_wS cI aT (aK 0) T4 ++ ul_wK cI aK K) H := by rw [eT4]; exact hP
    have hD : va_D A (ul_wS cI aT (aK 0) T4 ++ ul_wK cI aK K) := by rw [eT4]; exact hD
    refine lv_iload_n hx hb dX4_passDay_103 rfl (lv_at hl 2 rfl) ?_
    have hr9 := hK0 (x2, T4) h
    subst hr9
    exact W.iret (v := x2) hx hb hr (fun t ht hW => ⟨⟨x2, (), rfl, rfl, by rw [ht]; exact hP, va_K.moved hW.alike hK, hD⟩, hS.F ht⟩) hS.2.2 dX4_passDay_104
  have J33 : ∀ (x2 : Int32) (T__33 : ul_S) (H : Heap) (locs : List Loc), ul_H (dC, dI) A s.heap (ul_wS cI aT (aK 0) T__33 ++ ul_wK cI aK K) H locs → ∀ ls : Array Slot, lv_has ls 5 [(0, .ref (aT 0)), (1, .int p1), (2, .int x2)] → (f_X4_passDay_j33 K p1 x2 T__33).bind K0 = some r → G H locs (F0 m 33 ls []) := by
    intro x2 T__33 H locs hw ls hl h
    obtain ⟨hP, hD, hS⟩ := hw
    unfold f_X4_passDay_j33 at h
    refine gi _ _ _ ?_
    refine lv_iconst (v := 0) hx hb dX4_passDay_33 (by decide) ?_
    refine lv_istore_n (lv' := [(2, .int (0 : Int32)), (0, .ref (aT 0)), (1, .int p1)]) hx hb dX4_passDay_34 rfl hl (by decide) rfl (fun ls hl => ?_)
    refine lv_iconst (v := 0) hx hb dX4_passDay_35 (by decide) ?_
    refine lv_istore_n (lv' := [(3, .int (0 : Int32)), (2, .int (0 : Int32)), (0, .ref (aT 0)), (1, .int p1)]) hx hb dX4_passDay_36 rfl hl (by decide) rfl (fun ls hl => ?_)
    refine ge _ _ _ (ul_loop (P := fun q37 => ∀ (H : Heap) (locs : List Loc), ul_H (dC, dI) A s.heap (ul_wS cI aT (aK 0) q37.2.2 ++ ul_wK cI aK K) H locs → ∀ ls : Array Slot, lv_has ls 5 [(0, .ref (aT 0)), (1, .int p1), (2, .int q37.1), (3, .int q37.2.1)] → G H locs (F0 m 37 ls [])) ?_ _ _ (ul_it_h h) H locs ⟨hP, hD, hS⟩ ls (lv_sub hl [2, 3, 1, 0] rfl))
    intro K37 hx37
    intro q37 ih37 h H locs hw ls hl
    obtain ⟨hP, hD, hS⟩ := hw
    unfold f_X4_passDay_L37 at h
    refine gi _ _ _ ?_
    refine lv_iload_n hx hb dX4_passDay_37 rfl (lv_at hl 3 rfl) ?_
    refine lv_aload_n hx hb dX4_passDay_38 rfl (lv_at hl 0 rfl) ?_
    refine va_get (D := (dC, dI)) (ci := 4) (v := .ref (aK 0)) (C := RX4) (T := TX4) (N := 8) hx hb hts hin4 hown hK hP 0 rfl rfl 0 (by decide) (hts (.fieldLink RX4 9 "UnderLadders$Street" "fixed" "LUnderLadders$Market;") (by decide +kernel)) (fun _ h9 => h9) rfl dX4_passDay_39 ?_
    refine va_getN (D := (dC, dI)) (ci := 2) (v := .int (K 0 0)) (C := RX2) (T := TX2) (N := 9) hx hb hts hin2 hown hK hP 7 rfl rfl 7 (by decide) (va_Nw.use rfl (hN.1 (RX4, 34, "UnderLadders$Market", "ladders", "I") (by decide +kernel))) (fun _ h9 => h9) rfl dX4_passDay_42 ?_
    refine lv_icmp_ge (tgt := 93) hx hb dX4_passDay_45 (by decide) (fun hc47 => ?_) (fun hc47 => ?_)
    · have h := ul_if_t hc47 h
      exact ge _ _ _ (J93 q37.1 q37.2.1 q37.2.2 H locs ⟨hP, hD, hS⟩ ls (lv_sub hl [0, 1, 2, 3] rfl) (hx37 (q37.1, q37.2.1, q37.2.2) h))
    · have h := ul_if_f hc47 h
      refine lv_aload_n hx hb dX4_passDay_48 rfl (lv_at hl 0 rfl) ?_
      refine va_get (D := (dC, dI)) (ci := 4) (v := .ref (aT 3)) (C := RX4) (T := TX4) (N := 8) hx hb hts hin4 hown hK hP 0 rfl rfl 3 (by decide) (hts (.fieldLink RX4 22 "UnderLadders$Street" "manLuck" "[I") (by decide +kernel)) (fun _ h9 => h9) rfl dX4_passDay_49 ?_
      refine lv_iload_n hx hb dX4_passDay_52 rfl (lv_at hl 3 rfl) ?_
      obtain ⟨hi49, h⟩ := ul_ld_h h
      refine va_iald hx hb hK hP 3 0 rfl rfl hi49 dX4_passDay_53 ?_
      refine lv_topi (fun v48 ev48 => ?_)
      have h := h v48 ev48
      refine lv_iconst (v := 5) hx hb dX4_passDay_54 (by decide) ?_
      refine lv_idiv hx hb dX4_passDay_55 (by decide) ?_
      refine lv_topi (fun v50 ev50 => ?_)
      have h := ul_bd_h h v50 ev50
      refine lv_istore (lv' := [(4, .int v50), (0, .ref (aT 0)), (1, .int p1), (2, .int q37.1), (3, .int q37.2.1)]) hx hb dX4_passDay_56 hl (by decide) rfl (fun ls hl => ?_)
      refine lv_aload_n hx hb dX4_passDay_58 rfl (lv_at hl 1 rfl) ?_
      refine va_get (D := (dC, dI)) (ci := 4) (v := .ref (aT 4)) (C := RX4) (T := TX4) (N := 8) hx hb hts hin4 hown hK hP 0 rfl rfl 4 (by decide) (hts (.fieldLink RX4 25 "UnderLadders$Street" "manGold" "[I") (by decide +kernel)) (fun _ h9 => h9) rfl dX4_passDay_59 ?_
      refine lv_iload_n hx hb dX4_passDay_62 rfl (lv_at hl 4 rfl) ?_
      refine lv_dup2_11 hx hb dX4_passDay_63 rfl rfl ?_
      obtain ⟨hi52, h⟩ := ul_ld_h h
      refine va_iald hx hb hK hP 4 0 rfl rfl hi52 dX4_passDay_64 ?_
      refine lv_topi (fun v51 ev51 => ?_)
      have h := h v51 ev51
      refine lv_iload hx hb dX4_passDay_65 (lv_at hl 0 rfl) ?_
      refine lv_iadd hx hb dX4_passDay_67 ?_
      obtain ⟨hi54, h⟩ := ul_st_h h
      refine va_iast hx hb hK hP hD hS 4 0 rfl rfl hi54 dX4_passDay_68 (fun H locs hP hD hS => ?_)
      obtain ⟨T53, eT53⟩ : ∃ z : ul_S, z = ul_up q37.2.2 4 q37.2.1.toNatClampNeg (v51 + v50) := ⟨_, rfl⟩
      have h := h T53 eT53
      have hP : va_P (dC, dI) classes (ul_wS cI aT (aK 0) T53 ++ ul_wK cI aK K) H := by rw [eT53]; exact hP
      have hD : va_D A (ul_wS cI aT (aK 0) T53 ++ ul_wK cI aK K) := by rw [eT53]; exact hD
      refine lv_aload_n hx hb dX4_passDay_69 rfl (lv_at hl 1 rfl) ?_
      refine va_get (D := (dC, dI)) (ci := 4) (v := .ref (aT 3)) (C := RX4) (T := TX4) (N := 8) hx hb hts hin4 hown hK hP 0 rfl rfl 3 (by decide) (hts (.fieldLink RX4 22 "UnderLadders$Street" "manLuck" "[I") (by decide +kernel)) (fun _ h9 => h9) rfl dX4_passDay_70 ?_
      refine lv_iload_n hx hb dX4_passDay_73 rfl (lv_at hl 4 rfl) ?_
      refine lv_dup2_11 hx hb dX4_passDay_74 rfl rfl ?_
      obtain ⟨hi56, h⟩ := ul_ld_h h
      refine va_iald hx hb hK hP 3 0 rfl rfl hi56 dX4_passDay_75 ?_
      refine lv_topi (fun v55 ev55 => ?_)
      have h := h v55 ev55
      refine lv_iload hx hb dX4_passDay_76 (lv_at hl 0 rfl) ?_
      refine lv_iconst (v := 5) hx hb dX4_passDay_78 (by decide) ?_
      refine lv_imul hx hb dX4_passDay_79 ?_
      refine lv_isub hx hb dX4_passDay_80 ?_
      obtain ⟨hi58, h⟩ := ul_st_h h
      refine va_iast hx hb hK hP hD hS 3 0 rfl rfl hi58 dX4_passDay_81 (fun H locs hP hD hS => ?_)
      obtain ⟨T57, eT57⟩ : ∃ z : ul_S, z = ul_up T53 3 q37.2.1.toNatClampNeg (v55 - (v50 * (5 : Int32))) := ⟨_, rfl⟩
      have h := h T57 eT57
      have hP : va_P (dC, dI) classes (ul_wS cI aT (aK 0) T57 ++ ul_wK cI aK K) H := by rw [eT57]; exact hP
      have hD : va_D A (ul_wS cI aT (aK 0) T57 ++ ul_wK cI aK K) := by rw [eT57]; exact hD
      refine lv_iload_n hx hb dX4_passDay_82 rfl (lv_at hl 3 rfl) ?_
      refine lv_iload hx hb dX4_passDay_83 (lv_at hl 0 rfl) ?_
      refine lv_iadd hx hb dX4_passDay_85 ?_
      refine lv_topi (fun v59 ev59 => ?_)
      have h := ul_bd_h h v59 ev59
      refine lv_istore_n (lv' := [(2, .int v59), (4, .int v50), (0, .ref (aT 0)), (1, .int p1), (3, .int q37.2.1)]) hx hb dX4_passDay_86 rfl hl (by decide) rfl (fun ls hl => ?_)
      obtain ⟨v60, ev60⟩ : ∃ z : Int32, z = q37.2.1 + 1 := ⟨_, rfl⟩
      have h := ul_bd_h h v60 ev60
      refine lv_iinc (v := v60) (lv' := [(3, .int v60), (2, .int v59), (4, .int v50), (0, .ref (aT 0)), (1, .int p1)]) hx hb dX4_passDay_87 hl (k := 4) rfl (by rw [ev60]; rfl) (by decide) rfl (fun ls hl => ?_)
      refine lv_goto (tgt := 37) hx hb dX4_passDay_90 (by decide) ?_
      exact ge _ _ _ (ih37 (v59, v60, T57) h H locs ⟨hP, hD, hS⟩ ls (lv_sub hl [3, 4, 1, 0] rfl))
  refine gi _ _ _ ?_
  refine lv_iconst (v := 0) hx hb dX4_passDay_0 (by decide) ?_
  refine lv_istore_n (lv' := [(2, .int (0 : Int32)), (0, .ref (aT 0)), (1, .int p1)]) hx hb dX4_passDay_1 rfl hl (by decide) rfl (fun ls hl => ?_)
  refine ge _ _ _ (ul_loop (P := fun q2 => ∀ (H : Heap) (locs : List Loc), ul_H (dC, dI) A s.heap (ul_wS cI aT (aK 0) q2.2 ++ ul_wK cI aK K) H locs → ∀ ls : Array Slot, lv_has ls 5 [(0, .ref (aT 0)), (1, .int p1), (2, .int q2.1)] → G H locs (F0 m 2 ls [])) ?_ _ _ (ul_it_h h) H locs ⟨hP, hD, hS⟩ ls (lv_sub hl [1, 2, 0] rfl))
  intro K2 hx2
  intro q2 ih2 h H locs hw ls hl
  have J27 : ∀ (x2 : Int32) (T__27 : ul_S) (H : Heap) (locs : List Loc), ul_H (dC, dI) A s.heap (ul_wS cI aT (aK 0) T__27 ++ ul_wK cI aK K) H locs → ∀ ls : Array Slot, lv_has ls 5 [(0, .ref (aT 0)), (1, .int p1), (2, .int x2)] → (f_X4_passDay_j27 K p1 x2 T__27).bind K2 = some r → G H locs (F0 m 27 ls []) := by
    intro x2 T__27 H locs hw ls hl h
    obtain ⟨hP, hD, hS⟩ := hw
    unfold f_X4_passDay_j27 at h
    refine gi _ _ _ ?_
    obtain ⟨v62, ev62⟩ : ∃ z : Int32, z = x2 + 1 := ⟨_, rfl⟩
    have h := ul_bd_h h v62 ev62
    refine lv_iinc (v := v62) (lv' := [(2, .int v62), (0, .ref (aT 0)), (1, .int p1)]) hx hb dX4_passDay_27 hl (k := 2) rfl (by rw [ev62]; rfl) (by decide) rfl (fun ls hl => ?_)
    refine lv_goto (tgt := 2) hx hb dX4_passDay_30 (by decide) ?_
    exact ge _ _ _ (ih2 (v62, T__27) h H locs ⟨hP, hD, hS⟩ ls (lv_sub hl [1, 2, 0] rfl))
  obtain ⟨hP, hD, hS⟩ := hw
  unfold f_X4_passDay_L2 at h
  refine gi _ _ _ ?_
  refine lv_iload_n hx hb dX4_passDay_2 rfl (lv_at hl 2 rfl) ?_
  refine lv_aload_n hx hb dX4_passDay_3 rfl (lv_at hl 0 rfl) ?_
  refine va_get (D := (dC, dI)) (ci := 4) (v := .ref (aK 0)) (C := RX4) (T := TX4) (N := 8) hx hb hts hin4 hown hK hP 0 rfl rfl 0 (by decide) (hts (.fieldLink RX4 9 "UnderLadders$Street" "fixed" "LUnderLadders$Market;") (by decide +kernel)) (fun _ h9 => h9) rfl dX4_passDay_4 ?_
  refine va_getN (D := (dC, dI)) (ci := 2) (v := .int (K 0 1)) (C := RX2) (T := TX2) (N := 9) hx hb hts hin2 hown hK hP 7 rfl rfl 8 (by decide) (va_Nw.use rfl (hN.1 (RX4, 51, "UnderLadders$Market", "people", "I") (by decide +kernel))) (fun _ h9 => h9) rfl dX4_passDay_7 ?_
  refine lv_icmp_ge (tgt := 33) hx hb dX4_passDay_10 (by decide) (fun hc66 => ?_) (fun hc66 => ?_)
  · have h := ul_if_t hc66 h
    exact ge _ _ _ (J33 q2.1 q2.2 H locs ⟨hP, hD, hS⟩ ls (lv_sub hl [0, 1, 2] rfl) (hx2 (q2.1, q2.2) h))
  · have h := ul_if_f hc66 h
    refine lv_iload_n hx hb dX4_passDay_13 rfl (lv_at hl 1 rfl) ?_
    refine lv_iload_n hx hb dX4_passDay_14 rfl (lv_at hl 2 rfl) ?_
    refine lv_ishr hx hb dX4_passDay_15 ?_
    refine lv_iconst (v := 1) hx hb dX4_passDay_16 (by decide) ?_
    refine lv_iand hx hb dX4_passDay_17 ?_
    refine lv_iconst (v := 1) hx hb dX4_passDay_18 (by decide) ?_
    refine lv_icmp_ne (tgt := 27) hx hb dX4_passDay_19 (by decide) (fun hc67 => ?_) (fun hc67 => ?_)
    · have h := ul_if_f hc67 h
      exact ge _ _ _ (J27 q2.1 q2.2 H locs ⟨hP, hD, hS⟩ ls (lv_sub hl [0, 1, 2] rfl) h)
    · have h := ul_if_t hc67 h
      refine lv_aload_n hx hb dX4_passDay_22 rfl (lv_at hl 0 rfl) ?_
      refine lv_iload_n hx hb dX4_passDay_23 rfl (lv_at hl 2 rfl) ?_
      obtain ⟨u68, hu68, h⟩ := ul_cl_h h
      refine ul_cVv (As := [.int q2.1]) (rest := []) (wc' := (ul_wS cI aT (aK 0) u68 ++ ul_wK cI aK K)) (wr := []) hP hD hS hK hA [0, 1, 2, 3, 4, 5, 6, 7, 8, 9, 10, 11, 12, 13, 14] [] [0] ul_NX_ok hN (c_X4_walk l dC dI cI aT aK H.size q2.2 K q2.1 u68 hu68) rfl rfl (by decide) rfl (by decide) (by decide) rfl ⟨hx, hb, hml, hown, hts⟩ (cwV 1 hts gX4_passDay_X4_walk rfl rfl rfl (by decide +kernel) ⟨Nat.le_of_ble_eq_true rfl, Nat.le_of_ble_eq_true rfl⟩) (va_recv hK hP (ci := 4) (q0 := 0) rfl rfl) rfl hl.1 rfl (Nat.le_of_ble_eq_true rfl) dX4_passDay_24 (fun H locs hw => ?_)
      obtain ⟨hP, hD, hS⟩ := hw
      have hP : va_P (dC, dI) classes (ul_wS cI aT (aK 0) u68 ++ ul_wK cI aK K) H := hP
      have hD : va_D A (ul_wS cI aT (aK 0) u68 ++ ul_wK cI aK K) := hD
      exact ge _ _ _ (J27 q2.1 u68 H locs ⟨hP, hD, hS⟩ ls (lv_sub hl [0, 1, 2] rfl) h)
def f_X4_passDays_j19 (K : ul_S) (p1 : Int32) (p2 : Int32) (x3 : Int32) (T__19 : ul_S) : Option ul_S :=
  some T__19
def f_X4_passDays_L2 (K : ul_S) (p1 : Int32) (p2 : Int32) (q2 : (Int32 × ul_S)) : Option ((Int32 × ul_S) ⊕ (Int32 × ul_S)) :=
  if p1 ≤ q2.1 then (some (.inl (q2.1, q2.2))) else ((f_X4_passDay q2.2 K p2).bind fun u2 => ul_bd (q2.1 + 1) fun v3 => some (.inr (v3, u2.2)))
def f_X4_passDays (T : ul_S) (K : ul_S) (p1 : Int32) (p2 : Int32) : Option ul_S :=
  (ul_it ul_N (f_X4_passDays_L2 K p1 p2) ((0 : Int32), T)).bind (fun e2 => f_X4_passDays_j19 K p1 p2 e2.1 e2.2)
set_option maxHeartbeats 4000000 in
set_option maxRecDepth 100000 in
theorem c_X4_passDays (l : Launch) (dC : Nat → ClassId) (dI : Nat → Nat → Nat) (cI : ClassId) (aT : Nat → Nat) (aK : Nat → Nat) (sz : Nat) (T : ul_S) (K : ul_S) (p1 : Int32) (p2 : Int32) (r : ul_S) (h : f_X4_passDays T K p1 p2 = some r) : Met l yX4_passDays wsX4_passDays ({ frames := 4, cells := 0, slots := 0, locals := 109 }) (va_Pc [.ref (aT 0), .int p1, .int p2] (ul_pre (dC, dI) [(cI, .int)] ul_NX sz (ul_wS cI aT (aK 0) T ++ ul_wK cI aK K))) (va_Qv (fun (_ : Unit) => True) (fun _ => ul_post (dC, dI) [(cI, .int)] (va_A (ul_wS cI aT (aK 0) T ++ ul_wK cI aK K) sz) (ul_wS cI aT (aK 0) r ++ ul_wK cI aK K)) (va_A (ul_wS cI aT (aK 0) T ++ ul_wK cI aK K) sz)) 0 0 (va_A (ul_wS cI aT (aK 0) T ++ ul_wK cI aK K) sz) := by
  refine Met.ofW (cc := cX4_passDays) (maxL := 4) (ret := none) (by decide) rfl ?_
  intro p e s m args below meth c s₁ B hml hv
  obtain ⟨rfl, hsz, hP, hK, hD0, hN⟩ := hv
  have hx := B.exec
  have hb := B.bytes
  have hr := B.returns
  have hts := atoms_spec (ws := wsX4_passDays) B.pre
  have hown : s.vm.findClass RX4 = some m.cls := findClass_of_methodNamed B.named
  have hlocks := B.notSynchronized
  subst hsz
  have hD := hD0.self (sz := s.heap.size)
  generalize hAe : va_A (ul_wS cI aT (aK 0) T ++ ul_wK cI aK K) s.heap.size = A at hD hN ⊢
  have hA : ∀ q : Nat, s.heap.size ≤ q → A q := fun q h => by rw [← hAe]; exact Or.inr h
  have hS : va_S A s.heap s.heap [] := va_S.rf
  have hl := lv_entry ([.ref (aT 0), .int p1, .int p2]) (n := 4) (Nat.le_of_ble_eq_true rfl)
  rw [lg_entry_eq]
  generalize (lg_sl ([.ref (aT 0), .int p1, .int p2]) ++ List.replicate (4 - (lg_sl ([.ref (aT 0), .int p1, .int p2])).length) Slot.unset).toArray = ls at hl ⊢
  have hl : lv_has ls 4 [(0, .ref (aT 0)), (1, .int p1), (2, .int p2)] := hl
  obtain ⟨K0, hK0, h⟩ := ul_top h
  unfold f_X4_passDays at h
  refine ul_gen (fun G gi ge => ?_)
  obtain ⟨H, eH⟩ : ∃ z, z = s.heap := ⟨_, rfl⟩
  obtain ⟨locs, eL⟩ : ∃ z : List Loc, z = [] := ⟨_, rfl⟩
  have hP : va_P (dC, dI) classes (ul_wS cI aT (aK 0) T ++ ul_wK cI aK K) H := by rw [eH]; exact hP
  have hS : va_S A s.heap H locs := by rw [eH, eL]; exact hS
  rw [← eL]
  refine (show G H locs (F0 m 0 ls []) → G s.heap locs (F0 m 0 ls []) from fun z => by rw [← eH]; exact z) ?_
  have J19 : ∀ (x3 : Int32) (T__19 : ul_S) (H : Heap) (locs : List Loc), ul_H (dC, dI) A s.heap (ul_wS cI aT (aK 0) T__19 ++ ul_wK cI aK K) H locs → ∀ ls : Array Slot, lv_has ls 4 [(0, .ref (aT 0)), (1, .int p1), (2, .int p2), (3, .int x3)] → (f_X4_passDays_j19 K p1 p2 x3 T__19).bind K0 = some r → G H locs (F0 m 19 ls []) := by
    intro x3 T__19 H locs hw ls hl h
    obtain ⟨hP, hD, hS⟩ := hw
    unfold f_X4_passDays_j19 at h
    refine gi _ _ _ ?_
    have hr9 := hK0 T__19 h
    subst hr9
    exact W.vret hx hb hr (fun t ht hW => ⟨⟨(), rfl, trivial, by rw [ht]; exact hP, va_K.moved hW.alike hK, hD⟩, hS.F ht⟩) hS.2.2 dX4_passDays_19
  refine gi _ _ _ ?_
  refine lv_iconst (v := 0) hx hb dX4_passDays_0 (by decide) ?_
  refine lv_istore_n (lv' := [(3, .int (0 : Int32)), (0, .ref (aT 0)), (1, .int p1), (2, .int p2)]) hx hb dX4_passDays_1 rfl hl (by decide) rfl (fun ls hl => ?_)
  refine ge _ _ _ (ul_loop (P := fun q2 => ∀ (H : Heap) (locs : List Loc), ul_H (dC, dI) A s.heap (ul_wS cI aT (aK 0) q2.2 ++ ul_wK cI aK K) H locs → ∀ ls : Array Slot, lv_has ls 4 [(0, .ref (aT 0)), (1, .int p1), (2, .int p2), (3, .int q2.1)] → G H locs (F0 m 2 ls [])) ?_ _ _ (ul_it_h h) H locs ⟨hP, hD, hS⟩ ls (lv_sub hl [1, 2, 3, 0] rfl))
  intro K2 hx2
  intro q2 ih2 h H locs hw ls hl
  obtain ⟨hP, hD, hS⟩ := hw
  unfold f_X4_passDays_L2 at h
  refine gi _ _ _ ?_
  refine lv_iload_n hx hb dX4_passDays_2 rfl (lv_at hl 3 rfl) ?_
  refine lv_iload_n hx hb dX4_passDays_3 rfl (lv_at hl 1 rfl) ?_
  refine lv_icmp_ge (tgt := 19) hx hb dX4_passDays_4 (by decide) (fun hc4 => ?_) (fun hc4 => ?_)
  · have h := ul_if_t hc4 h
    exact ge _ _ _ (J19 q2.1 q2.2 H locs ⟨hP, hD, hS⟩ ls (lv_sub hl [0, 1, 2, 3] rfl) (hx2 (q2.1, q2.2) h))
  · have h := ul_if_f hc4 h
    refine lv_aload_n hx hb dX4_passDays_7 rfl (lv_at hl 0 rfl) ?_
    refine lv_iload_n hx hb dX4_passDays_8 rfl (lv_at hl 2 rfl) ?_
    obtain ⟨u5, hu5, h⟩ := ul_cl_h h
    refine ul_cVi (As := [.int p2]) (rest := []) (wc' := (ul_wS cI aT (aK 0) u5.2 ++ ul_wK cI aK K)) (wr := []) hP hD hS hK hA [0, 1, 2, 3, 4, 5, 6, 7, 8, 9, 10, 11, 12, 13, 14] [] [0] ul_NX_ok hN (c_X4_passDay l dC dI cI aT aK H.size q2.2 K p2 u5 hu5) rfl rfl (by decide) rfl (by decide) (by decide) rfl ⟨hx, hb, hml, hown, hts⟩ (cwV 1 hts gX4_passDays_X4_passDay rfl rfl rfl (by decide +kernel) ⟨Nat.le_of_ble_eq_true rfl, Nat.le_of_ble_eq_true rfl⟩) (va_recv hK hP (ci := 4) (q0 := 0) rfl rfl) rfl hl.1 rfl (Nat.le_of_ble_eq_true rfl) dX4_passDays_9 (fun H locs hw => ?_)
    obtain ⟨hP, hD, hS⟩ := hw
    have hP : va_P (dC, dI) classes (ul_wS cI aT (aK 0) u5.2 ++ ul_wK cI aK K) H := hP
    have hD : va_D A (ul_wS cI aT (aK 0) u5.2 ++ ul_wK cI aK K) := hD
    refine lv_pop hx hb dX4_passDays_12 rfl ?_
    obtain ⟨v6, ev6⟩ : ∃ z : Int32, z = q2.1 + 1 := ⟨_, rfl⟩
    have h := ul_bd_h h v6 ev6
    refine lv_iinc (v := v6) (lv' := [(3, .int v6), (0, .ref (aT 0)), (1, .int p1), (2, .int p2)]) hx hb dX4_passDays_13 hl (k := 3) rfl (by rw [ev6]; rfl) (by decide) rfl (fun ls hl => ?_)
    refine lv_goto (tgt := 2) hx hb dX4_passDays_16 (by decide) ?_
    exact ge _ _ _ (ih2 (v6, u5.2) h H locs ⟨hP, hD, hS⟩ ls (lv_sub hl [1, 2, 3, 0] rfl))
def f_X4_isOwnOrFree_j28 (T : ul_S) (p1 : Int32) (p2 : Int32) : Option Int32 :=
  some (1 : Int32)
def f_X4_isOwnOrFree (T : ul_S) (p1 : Int32) (p2 : Int32) : Option Int32 :=
  (f_X6_isPlace p2).bind fun u1 => if u1 = 0 then (some (0 : Int32)) else (ul_ld (T 2) 10 p2 fun v3 => if v3 = p1 then (f_X4_isOwnOrFree_j28 T p1 p2) else (ul_ld (T 2) 10 p2 fun v6 => if v6 = (-9 : Int32) then (f_X4_isOwnOrFree_j28 T p1 p2) else (some (0 : Int32))))
set_option maxHeartbeats 4000000 in
set_option maxRecDepth 100000 in
theorem c_X4_isOwnOrFree (l : Launch) (dC : Nat → ClassId) (dI : Nat → Nat → Nat) (cI : ClassId) (aT : Nat → Nat) (aK : Nat → Nat) (sz : Nat) (T : ul_S) (K : ul_S) (p1 : Int32) (p2 : Int32) (r : Int32) (h : f_X4_isOwnOrFree T p1 p2 = some r) : Met l yX4_isOwnOrFree wsX4_isOwnOrFree ({ frames := 1, cells := 0, slots := 0, locals := 20 }) (va_Pc [.ref (aT 0), .int p1, .int p2] (ul_pre (dC, dI) [(cI, .int)] ul_NX sz (ul_wS cI aT (aK 0) T ++ ul_wK cI aK K))) (va_Qi (fun v (_ : Unit) => v = r) (fun _ => ul_post (dC, dI) [(cI, .int)] (va_A (ul_wS cI aT (aK 0) T ++ ul_wK cI aK K) sz) (ul_wS cI aT (aK 0) T ++ ul_wK cI aK K)) (va_A (ul_wS cI aT (aK 0) T ++ ul_wK cI aK K) sz)) 0 0 (va_A (ul_wS cI aT (aK 0) T ++ ul_wK cI aK K) sz) := by
  refine Met.ofW (cc := cX4_isOwnOrFree) (maxL := 3) (ret := (some .boolean)) (by decide) rfl ?_
  intro p e s m args below meth c s₁ B hml hv
  obtain ⟨rfl, hsz, hP, hK, hD0, hN⟩ := hv
  have hx := B.exec
  have hb := B.bytes
  have hr := B.returns
  have hts := atoms_spec (ws := wsX4_isOwnOrFree) B.pre
  have hown : s.vm.findClass RX4 = some m.cls := findClass_of_methodNamed B.named
  have hlocks := B.notSynchronized
  have hin4 : ∀ w ∈ u_ws RX4 TX4 8, w ∈ wsX4_isOwnOrFree := by decide +kernel
  subst hsz
  have hD := hD0.self (sz := s.heap.size)
  generalize hAe : va_A (ul_wS cI aT (aK 0) T ++ ul_wK cI aK K) s.heap.size = A at hD hN ⊢
  have hA : ∀ q : Nat, s.heap.size ≤ q → A q := fun q h => by rw [← hAe]; exact Or.inr h
  have hS : va_S A s.heap s.heap [] := va_S.rf
  have hl := lv_entry ([.ref (aT 0), .int p1, .int p2]) (n := 3) (Nat.le_of_ble_eq_true rfl)
  rw [lg_entry_eq]
  generalize (lg_sl ([.ref (aT 0), .int p1, .int p2]) ++ List.replicate (3 - (lg_sl ([.ref (aT 0), .int p1, .int p2])).length) Slot.unset).toArray = ls at hl ⊢
  have hl : lv_has ls 3 [(0, .ref (aT 0)), (1, .int p1), (2, .int p2)] := hl
  obtain ⟨K0, hK0, h⟩ := ul_top h
  unfold f_X4_isOwnOrFree at h
  refine ul_gen (fun G gi ge => ?_)
  obtain ⟨H, eH⟩ : ∃ z, z = s.heap := ⟨_, rfl⟩
  obtain ⟨locs, eL⟩ : ∃ z : List Loc, z = [] := ⟨_, rfl⟩
  have hP : va_P (dC, dI) classes (ul_wS cI aT (aK 0) T ++ ul_wK cI aK K) H := by rw [eH]; exact hP
  have hS : va_S A s.heap H locs := by rw [eH, eL]; exact hS
  rw [← eL]
  refine (show G H locs (F0 m 0 ls []) → G s.heap locs (F0 m 0 ls []) from fun z => by rw [← eH]; exact z) ?_
  have J28 : ∀ (H : Heap) (locs : List Loc), ul_H (dC, dI) A s.heap (ul_wS cI aT (aK 0) T ++ ul_wK cI aK K) H locs → ∀ ls : Array Slot, lv_has ls 3 [(0, .ref (aT 0)), (1, .int p1), (2, .int p2)] → (f_X4_isOwnOrFree_j28 T p1 p2).bind K0 = some r → G H locs (F0 m 28 ls []) := by
    intro H locs hw ls hl h
    obtain ⟨hP, hD, hS⟩ := hw
    unfold f_X4_isOwnOrFree_j28 at h
    refine gi _ _ _ ?_
    refine lv_iconst (v := 1) hx hb dX4_isOwnOrFree_28 (by decide) ?_
    refine lv_goto (tgt := 33) hx hb dX4_isOwnOrFree_29 (by decide) ?_
    have hr9 := hK0 (1 : Int32) h
    subst hr9
    exact W.zret (v := (1 : Int32)) hx hb hr (by decide) (fun t ht hW => ⟨⟨(1 : Int32), (), rfl, rfl, by rw [ht]; exact hP, va_K.moved hW.alike hK, hD⟩, hS.F ht⟩) hS.2.2 dX4_isOwnOrFree_33
  refine gi _ _ _ ?_
  refine lv_iload_n hx hb dX4_isOwnOrFree_0 rfl (lv_at hl 2 rfl) ?_
  obtain ⟨u1, hu1, h⟩ := ul_cl_h h
  refine ul_cNi (As := [.int p2]) (rest := []) hP hD hS hK hA (c_X6_isPlace l dC dI H.size p2 u1 hu1) ⟨hx, hb, hml, hown, hts⟩ ⟨va_cnB (host := "UnderLadders") 1 hts gX4_isOwnOrFree_X6_isPlace_n69 rfl rfl rfl (hN.2.1 (RX4, 69, yX6_isPlace) (by decide +kernel)) (hts (.initialized RX6) (by decide +kernel)) (by decide +kernel) ⟨Nat.le_of_ble_eq_true rfl, Nat.le_of_ble_eq_true rfl⟩, hts (.static yX6_isPlace) (by decide +kernel), trivial⟩ rfl hl.1 rfl (Nat.le_of_ble_eq_true rfl) dX4_isOwnOrFree_1 (fun H locs hw => ?_)
  obtain ⟨hP, hD, hS⟩ := hw
  refine lv_if_eq (tgt := 32) hx hb dX4_isOwnOrFree_4 (by decide) (fun hc2 => ?_) (fun hc2 => ?_)
  · have h := ul_if_t hc2 h
    refine lv_iconst (v := 0) hx hb dX4_isOwnOrFree_32 (by decide) ?_
    have hr9 := hK0 (0 : Int32) h
    subst hr9
    exact W.zret (v := (0 : Int32)) hx hb hr (by decide) (fun t ht hW => ⟨⟨(0 : Int32), (), rfl, rfl, by rw [ht]; exact hP, va_K.moved hW.alike hK, hD⟩, hS.F ht⟩) hS.2.2 dX4_isOwnOrFree_33
  · have h := ul_if_f hc2 h
    refine lv_aload_n hx hb dX4_isOwnOrFree_7 rfl (lv_at hl 0 rfl) ?_
    refine va_get (D := (dC, dI)) (ci := 4) (v := .ref (aT 2)) (C := RX4) (T := TX4) (N := 8) hx hb hts hin4 hown hK hP 0 rfl rfl 2 (by decide) (hts (.fieldLink RX4 19 "UnderLadders$Street" "standing" "[I") (by decide +kernel)) (fun _ h9 => h9) rfl dX4_isOwnOrFree_8 ?_
    refine lv_iload_n hx hb dX4_isOwnOrFree_11 rfl (lv_at hl 2 rfl) ?_
    obtain ⟨hi4, h⟩ := ul_ld_h h
    refine va_iald hx hb hK hP 2 0 rfl rfl hi4 dX4_isOwnOrFree_12 ?_
    refine lv_topi (fun v3 ev3 => ?_)
    have h := h v3 ev3
    refine lv_iload_n hx hb dX4_isOwnOrFree_13 rfl (lv_at hl 1 rfl) ?_
    refine lv_icmp_eq (tgt := 28) hx hb dX4_isOwnOrFree_14 (by decide) (fun hc5 => ?_) (fun hc5 => ?_)
    · have h := ul_if_t hc5 h
      exact ge _ _ _ (J28 H locs ⟨hP, hD, hS⟩ ls (lv_sub hl [0, 1, 2] rfl) h)
    · have h := ul_if_f hc5 h
      refine lv_aload_n hx hb dX4_isOwnOrFree_17 rfl (lv_at hl 0 rfl) ?_
      refine va_get (D := (dC, dI)) (ci := 4) (v := .ref (aT 2)) (C := RX4) (T := TX4) (N := 8) hx hb hts hin4 hown hK hP 0 rfl rfl 2 (by decide) (hts (.fieldLink RX4 19 "UnderLadders$Street" "standing" "[I") (by decide +kernel)) (fun _ h9 => h9) rfl dX4_isOwnOrFree_18 ?_
      refine lv_iload_n hx hb dX4_isOwnOrFree_21 rfl (lv_at hl 2 rfl) ?_
      obtain ⟨hi7, h⟩ := ul_ld_h h
      refine va_iald hx hb hK hP 2 0 rfl rfl hi7 dX4_isOwnOrFree_22 ?_
      refine lv_topi (fun v6 ev6 => ?_)
      have h := h v6 ev6
      refine lv_bipush (v := -9) hx hb dX4_isOwnOrFree_23 (by decide) ?_
      refine lv_icmp_ne (tgt := 32) hx hb dX4_isOwnOrFree_25 (by decide) (fun hc8 => ?_) (fun hc8 => ?_)
      · have h := ul_if_f hc8 h
        refine lv_iconst (v := 0) hx hb dX4_isOwnOrFree_32 (by decide) ?_
        have hr9 := hK0 (0 : Int32) h
        subst hr9
        exact W.zret (v := (0 : Int32)) hx hb hr (by decide) (fun t ht hW => ⟨⟨(0 : Int32), (), rfl, rfl, by rw [ht]; exact hP, va_K.moved hW.alike hK, hD⟩, hS.F ht⟩) hS.2.2 dX4_isOwnOrFree_33
      · have h := ul_if_t hc8 h
        exact ge _ _ _ (J28 H locs ⟨hP, hD, hS⟩ ls (lv_sub hl [0, 1, 2] rfl) h)
def f_X4_mark (T : ul_S) (p1 : Int32) (p2 : Int32) : Option ul_S :=
  (f_X6_isPlace p1).bind fun u1 => if u1 = 0 then (some T) else (ul_st T 2 10 p1 p2 fun T3 => some T3)
set_option maxHeartbeats 4000000 in
set_option maxRecDepth 100000 in
theorem c_X4_mark (l : Launch) (dC : Nat → ClassId) (dI : Nat → Nat → Nat) (cI : ClassId) (aT : Nat → Nat) (aK : Nat → Nat) (sz : Nat) (T : ul_S) (K : ul_S) (p1 : Int32) (p2 : Int32) (r : ul_S) (h : f_X4_mark T p1 p2 = some r) : Met l yX4_mark wsX4_mark ({ frames := 1, cells := 0, slots := 0, locals := 20 }) (va_Pc [.ref (aT 0), .int p1, .int p2] (ul_pre (dC, dI) [(cI, .int)] ul_NX sz (ul_wS cI aT (aK 0) T ++ ul_wK cI aK K))) (va_Qv (fun (_ : Unit) => True) (fun _ => ul_post (dC, dI) [(cI, .int)] (va_A (ul_wS cI aT (aK 0) T ++ ul_wK cI aK K) sz) (ul_wS cI aT (aK 0) r ++ ul_wK cI aK K)) (va_A (ul_wS cI aT (aK 0) T ++ ul_wK cI aK K) sz)) 0 0 (va_A (ul_wS cI aT (aK 0) T ++ ul_wK cI aK K) sz) := by
  refine Met.ofW (cc := cX4_mark) (maxL := 3) (ret := none) (by decide) rfl ?_
  intro p e s m args below meth c s₁ B hml hv
  obtain ⟨rfl, hsz, hP, hK, hD0, hN⟩ := hv
  have hx := B.exec
  have hb := B.bytes
  have hr := B.returns
  have hts := atoms_spec (ws := wsX4_mark) B.pre
  have hown : s.vm.findClass RX4 = some m.cls := findClass_of_methodNamed B.named
  have hlocks := B.notSynchronized
  have hin4 : ∀ w ∈ u_ws RX4 TX4 8, w ∈ wsX4_mark := by decide +kernel
  subst hsz
  have hD := hD0.self (sz := s.heap.size)
  generalize hAe : va_A (ul_wS cI aT (aK 0) T ++ ul_wK cI aK K) s.heap.size = A at hD hN ⊢
  have hA : ∀ q : Nat, s.heap.size ≤ q → A q := fun q h => by rw [← hAe]; exact Or.inr h
  have hS : va_S A s.heap s.heap [] := va_S.rf
  have hl := lv_entry ([.ref (aT 0), .int p1, .int p2]) (n := 3) (Nat.le_of_ble_eq_true rfl)
  rw [lg_entry_eq]
  generalize (lg_sl ([.ref (aT 0), .int p1, .int p2]) ++ List.replicate (3 - (lg_sl ([.ref (aT 0), .int p1, .int p2])).length) Slot.unset).toArray = ls at hl ⊢
  have hl : lv_has ls 3 [(0, .ref (aT 0)), (1, .int p1), (2, .int p2)] := hl
  obtain ⟨K0, hK0, h⟩ := ul_top h
  unfold f_X4_mark at h
  refine ul_gen (fun G gi ge => ?_)
  obtain ⟨H, eH⟩ : ∃ z, z = s.heap := ⟨_, rfl⟩
  obtain ⟨locs, eL⟩ : ∃ z : List Loc, z = [] := ⟨_, rfl⟩
  have hP : va_P (dC, dI) classes (ul_wS cI aT (aK 0) T ++ ul_wK cI aK K) H := by rw [eH]; exact hP
  have hS : va_S A s.heap H locs := by rw [eH, eL]; exact hS
  rw [← eL]
  refine (show G H locs (F0 m 0 ls []) → G s.heap locs (F0 m 0 ls []) from fun z => by rw [← eH]; exact z) ?_
  refine gi _ _ _ ?_
  refine lv_iload_n hx hb dX4_mark_0 rfl (lv_at hl 1 rfl) ?_
  obtain ⟨u1, hu1, h⟩ := ul_cl_h h
  refine ul_cNi (As := [.int p1]) (rest := []) hP hD hS hK hA (c_X6_isPlace l dC dI H.size p1 u1 hu1) ⟨hx, hb, hml, hown, hts⟩ ⟨va_cnB (host := "UnderLadders") 1 hts gX4_mark_X6_isPlace_n69 rfl rfl rfl (hN.2.1 (RX4, 69, yX6_isPlace) (by decide +kernel)) (hts (.initialized RX6) (by decide +kernel)) (by decide +kernel) ⟨Nat.le_of_ble_eq_true rfl, Nat.le_of_ble_eq_true rfl⟩, hts (.static yX6_isPlace) (by decide +kernel), trivial⟩ rfl hl.1 rfl (Nat.le_of_ble_eq_true rfl) dX4_mark_1 (fun H locs hw => ?_)
  obtain ⟨hP, hD, hS⟩ := hw
  refine lv_if_eq (tgt := 14) hx hb dX4_mark_4 (by decide) (fun hc2 => ?_) (fun hc2 => ?_)
  · have h := ul_if_t hc2 h
    have hr9 := hK0 T h
    subst hr9
    exact W.vret hx hb hr (fun t ht hW => ⟨⟨(), rfl, trivial, by rw [ht]; exact hP, va_K.moved hW.alike hK, hD⟩, hS.F ht⟩) hS.2.2 dX4_mark_14
  · have h := ul_if_f hc2 h
    refine lv_aload_n hx hb dX4_mark_7 rfl (lv_at hl 0 rfl) ?_
    refine va_get (D := (dC, dI)) (ci := 4) (v := .ref (aT 2)) (C := RX4) (T := TX4) (N := 8) hx hb hts hin4 hown hK hP 0 rfl rfl 2 (by decide) (hts (.fieldLink RX4 19 "UnderLadders$Street" "standing" "[I") (by decide +kernel)) (fun _ h9 => h9) rfl dX4_mark_8 ?_
    refine lv_iload_n hx hb dX4_mark_11 rfl (lv_at hl 1 rfl) ?_
    refine lv_iload_n hx hb dX4_mark_12 rfl (lv_at hl 2 rfl) ?_
    obtain ⟨hi4, h⟩ := ul_st_h h
    refine va_iast hx hb hK hP hD hS 2 0 rfl rfl hi4 dX4_mark_13 (fun H locs hP hD hS => ?_)
    obtain ⟨T3, eT3⟩ : ∃ z : ul_S, z = ul_up T 2 p1.toNatClampNeg p2 := ⟨_, rfl⟩
    have h := h T3 eT3
    have hP : va_P (dC, dI) classes (ul_wS cI aT (aK 0) T3 ++ ul_wK cI aK K) H := by rw [eT3]; exact hP
    have hD : va_D A (ul_wS cI aT (aK 0) T3 ++ ul_wK cI aK K) := by rw [eT3]; exact hD
    have hr9 := hK0 T3 h
    subst hr9
    exact W.vret hx hb hr (fun t ht hW => ⟨⟨(), rfl, trivial, by rw [ht]; exact hP, va_K.moved hW.alike hK, hD⟩, hS.F ht⟩) hS.2.2 dX4_mark_14
def f_X4_put (T : ul_S) (p1 : Int32) (p2 : Int32) : Option ul_S :=
  ul_ld (T 1) 4 p1 fun v1 => (f_X4_mark T v1 (-9 : Int32)).bind fun u3 => ul_st u3 1 4 p1 p2 fun T4 => (f_X4_mark T4 p2 p1).bind fun u6 => some u6
set_option maxHeartbeats 4000000 in
set_option maxRecDepth 100000 in
theorem c_X4_put (l : Launch) (dC : Nat → ClassId) (dI : Nat → Nat → Nat) (cI : ClassId) (aT : Nat → Nat) (aK : Nat → Nat) (sz : Nat) (T : ul_S) (K : ul_S) (p1 : Int32) (p2 : Int32) (r : ul_S) (h : f_X4_put T p1 p2 = some r) : Met l yX4_put wsX4_put ({ frames := 2, cells := 0, slots := 0, locals := 42 }) (va_Pc [.ref (aT 0), .int p1, .int p2] (ul_pre (dC, dI) [(cI, .int)] ul_NX sz (ul_wS cI aT (aK 0) T ++ ul_wK cI aK K))) (va_Qv (fun (_ : Unit) => True) (fun _ => ul_post (dC, dI) [(cI, .int)] (va_A (ul_wS cI aT (aK 0) T ++ ul_wK cI aK K) sz) (ul_wS cI aT (aK 0) r ++ ul_wK cI aK K)) (va_A (ul_wS cI aT (aK 0) T ++ ul_wK cI aK K) sz)) 0 0 (va_A (ul_wS cI aT (aK 0) T ++ ul_wK cI aK K) sz) := by
  refine Met.ofW (cc := cX4_put) (maxL := 3) (ret := none) (by decide) rfl ?_
  intro p e s m args below meth c s₁ B hml hv
  obtain ⟨rfl, hsz, hP, hK, hD0, hN⟩ := hv
  have hx := B.exec
  have hb := B.bytes
  have hr := B.returns
  have hts := atoms_spec (ws := wsX4_put) B.pre
  have hown : s.vm.findClass RX4 = some m.cls := findClass_of_methodNamed B.named
  have hlocks := B.notSynchronized
  have hin4 : ∀ w ∈ u_ws RX4 TX4 8, w ∈ wsX4_put := by decide +kernel
  subst hsz
  have hD := hD0.self (sz := s.heap.size)
  generalize hAe : va_A (ul_wS cI aT (aK 0) T ++ ul_wK cI aK K) s.heap.size = A at hD hN ⊢
  have hA : ∀ q : Nat, s.heap.size ≤ q → A q := fun q h => by rw [← hAe]; exact Or.inr h
  have hS : va_S A s.heap s.heap [] := va_S.rf
  have hl := lv_entry ([.ref (aT 0), .int p1, .int p2]) (n := 3) (Nat.le_of_ble_eq_true rfl)
  rw [lg_entry_eq]
  generalize (lg_sl ([.ref (aT 0), .int p1, .int p2]) ++ List.replicate (3 - (lg_sl ([.ref (aT 0), .int p1, .int p2])).length) Slot.unset).toArray = ls at hl ⊢
  have hl : lv_has ls 3 [(0, .ref (aT 0)), (1, .int p1), (2, .int p2)] := hl
  obtain ⟨K0, hK0, h⟩ := ul_top h
  unfold f_X4_put at h
  refine ul_gen (fun G gi ge => ?_)
  obtain ⟨H, eH⟩ : ∃ z, z = s.heap := ⟨_, rfl⟩
  obtain ⟨locs, eL⟩ : ∃ z : List Loc, z = [] := ⟨_, rfl⟩
  have hP : va_P (dC, dI) classes (ul_wS cI aT (aK 0) T ++ ul_wK cI aK K) H := by rw [eH]; exact hP
  have hS : va_S A s.heap H locs := by rw [eH, eL]; exact hS
  rw [← eL]
  refine (show G H locs (F0 m 0 ls []) → G s.heap locs (F0 m 0 ls []) from fun z => by rw [← eH]; exact z) ?_
  refine gi _ _ _ ?_
  refine lv_aload_n hx hb dX4_put_0 rfl (lv_at hl 0 rfl) ?_
  refine lv_aload_n hx hb dX4_put_1 rfl (lv_at hl 0 rfl) ?_
  refine va_get (D := (dC, dI)) (ci := 4) (v := .ref (aT 1)) (C := RX4) (T := TX4) (N := 8) hx hb hts hin4 hown hK hP 0 rfl rfl 1 (by decide) (hts (.fieldLink RX4 15 "UnderLadders$Street" "stand" "[I") (by decide +kernel)) (fun _ h9 => h9) rfl dX4_put_2 ?_
  refine lv_iload_n hx hb dX4_put_5 rfl (lv_at hl 1 rfl) ?_
  obtain ⟨hi2, h⟩ := ul_ld_h h
  refine va_iald hx hb hK hP 1 0 rfl rfl hi2 dX4_put_6 ?_
  refine lv_topi (fun v1 ev1 => ?_)
  have h := h v1 ev1
  refine lv_bipush (v := -9) hx hb dX4_put_7 (by decide) ?_
  obtain ⟨u3, hu3, h⟩ := ul_cl_h h
  refine ul_cVv (As := [.int v1, .int (-9 : Int32)]) (rest := []) (wc' := (ul_wS cI aT (aK 0) u3 ++ ul_wK cI aK K)) (wr := []) hP hD hS hK hA [0, 1, 2, 3, 4, 5, 6, 7, 8, 9, 10, 11, 12, 13, 14] [] [0] ul_NX_ok hN (c_X4_mark l dC dI cI aT aK H.size T K v1 (-9 : Int32) u3 hu3) rfl rfl (by decide) rfl (by decide) (by decide) rfl ⟨hx, hb, hml, hown, hts⟩ (cwV 2 hts gX4_put_X4_mark rfl rfl rfl (by decide +kernel) ⟨Nat.le_of_ble_eq_true rfl, Nat.le_of_ble_eq_true rfl⟩) (va_recv hK hP (ci := 4) (q0 := 0) rfl rfl) rfl hl.1 rfl (Nat.le_of_ble_eq_true rfl) dX4_put_9 (fun H locs hw => ?_)
  obtain ⟨hP, hD, hS⟩ := hw
  have hP : va_P (dC, dI) classes (ul_wS cI aT (aK 0) u3 ++ ul_wK cI aK K) H := hP
  have hD : va_D A (ul_wS cI aT (aK 0) u3 ++ ul_wK cI aK K) := hD
  refine lv_aload_n hx hb dX4_put_12 rfl (lv_at hl 0 rfl) ?_
  refine va_get (D := (dC, dI)) (ci := 4) (v := .ref (aT 1)) (C := RX4) (T := TX4) (N := 8) hx hb hts hin4 hown hK hP 0 rfl rfl 1 (by decide) (hts (.fieldLink RX4 15 "UnderLadders$Street" "stand" "[I") (by decide +kernel)) (fun _ h9 => h9) rfl dX4_put_13 ?_
  refine lv_iload_n hx hb dX4_put_16 rfl (lv_at hl 1 rfl) ?_
  refine lv_iload_n hx hb dX4_put_17 rfl (lv_at hl 2 rfl) ?_
  obtain ⟨hi5, h⟩ := ul_st_h h
  refine va_iast hx hb hK hP hD hS 1 0 rfl rfl hi5 dX4_put_18 (fun H locs hP hD hS => ?_)
  obtain ⟨T4, eT4⟩ : ∃ z : ul_S, z = ul_up u3 1 p1.toNatClampNeg p2 := ⟨_, rfl⟩
  have h := h T4 eT4
  have hP : va_P (dC, dI) classes (ul_wS cI aT (aK 0) T4 ++ ul_wK cI aK K) H := by rw [eT4]; exact hP
  have hD : va_D A (ul_wS cI aT (aK 0) T4 ++ ul_wK cI aK K) := by rw [eT4]; exact hD
  refine lv_aload_n hx hb dX4_put_19 rfl (lv_at hl 0 rfl) ?_
  refine lv_iload_n hx hb dX4_put_20 rfl (lv_at hl 2 rfl) ?_
  refine lv_iload_n hx hb dX4_put_21 rfl (lv_at hl 1 rfl) ?_
  obtain ⟨u6, hu6, h⟩ := ul_cl_h h
  refine ul_cVv (As := [.int p2, .int p1]) (rest := []) (wc' := (ul_wS cI aT (aK 0) u6 ++ ul_wK cI aK K)) (wr := []) hP hD hS hK hA [0, 1, 2, 3, 4, 5, 6, 7, 8, 9, 10, 11, 12, 13, 14] [] [0] ul_NX_ok hN (c_X4_mark l dC dI cI aT aK H.size T4 K p2 p1 u6 hu6) rfl rfl (by decide) rfl (by decide) (by decide) rfl ⟨hx, hb, hml, hown, hts⟩ (cwV 2 hts gX4_put_X4_mark rfl rfl rfl (by decide +kernel) ⟨Nat.le_of_ble_eq_true rfl, Nat.le_of_ble_eq_true rfl⟩) (va_recv hK hP (ci := 4) (q0 := 0) rfl rfl) rfl hl.1 rfl (Nat.le_of_ble_eq_true rfl) dX4_put_22 (fun H locs hw => ?_)
  obtain ⟨hP, hD, hS⟩ := hw
  have hP : va_P (dC, dI) classes (ul_wS cI aT (aK 0) u6 ++ ul_wK cI aK K) H := hP
  have hD : va_D A (ul_wS cI aT (aK 0) u6 ++ ul_wK cI aK K) := hD
  have hr9 := hK0 u6 h
  subst hr9
  exact W.vret hx hb hr (fun t ht hW => ⟨⟨(), rfl, trivial, by rw [ht]; exact hP, va_K.moved hW.alike hK, hD⟩, hS.F ht⟩) hS.2.2 dX4_put_25
def f_X4_laddersAhead_j46 (T : ul_S) (K : ul_S) (p1 : Int32) (x2 : Int32) (x3 : Int32) (x4 : Int32) : Option Int32 :=
  some x3
def f_X4_laddersAhead_j40 (T : ul_S) (K : ul_S) (p1 : Int32) (x2 : Int32) (x3 : Int32) (x4 : Int32) (x5 : Int32) : Option ((Int32 × Int32) ⊕ (Int32 × Int32)) :=
  ul_bd (x4 + 1) fun v2 => some (.inr (x3, v2))
def f_X4_laddersAhead_L11 (T : ul_S) (K : ul_S) (p1 : Int32) (y2 : Int32) (q11 : (Int32 × Int32)) : Option ((Int32 × Int32) ⊕ (Int32 × Int32)) :=
  if y2 < q11.2 then (some (.inl (q11.1, q11.2))) else ((f_X4_ladderAhead T K p1 q11.2).bind fun u5 => if u5 = (-9 : Int32) then (f_X4_laddersAhead_j40 T K p1 y2 q11.1 q11.2 u5) else (ul_bd (q11.1 ||| ((1 : Int32) <<< (u5 &&& 31))) fun v7 => f_X4_laddersAhead_j40 T K p1 y2 v7 q11.2 u5))
def f_X4_laddersAhead (T : ul_S) (K : ul_S) (p1 : Int32) : Option Int32 :=
  (f_X4_stepsAhead T K p1).bind fun u1 => (ul_it ul_N (f_X4_laddersAhead_L11 T K p1 u1) ((0 : Int32), (1 : Int32))).bind (fun e11 => f_X4_laddersAhead_j46 T K p1 u1 e11.1 e11.2)
set_option maxHeartbeats 4000000 in
set_option maxRecDepth 100000 in
theorem c_X4_laddersAhead (l : Launch) (dC : Nat → ClassId) (dI : Nat → Nat → Nat) (cI : ClassId) (aT : Nat → Nat) (aK : Nat → Nat) (sz : Nat) (T : ul_S) (K : ul_S) (p1 : Int32) (r : Int32) (h : f_X4_laddersAhead T K p1 = some r) : Met l yX4_laddersAhead wsX4_laddersAhead ({ frames := 2, cells := 0, slots := 0, locals := 61 }) (va_Pc [.ref (aT 0), .int p1] (ul_pre (dC, dI) [(cI, .int)] ul_NX sz (ul_wS cI aT (aK 0) T ++ ul_wK cI aK K))) (va_Qi (fun v (_ : Unit) => v = r) (fun _ => ul_post (dC, dI) [(cI, .int)] (va_A (ul_wS cI aT (aK 0) T ++ ul_wK cI aK K) sz) (ul_wS cI aT (aK 0) T ++ ul_wK cI aK K)) (va_A (ul_wS cI aT (aK 0) T ++ ul_wK cI aK K) sz)) 0 0 (va_A (ul_wS cI aT (aK 0) T ++ ul_wK cI aK K) sz) := by
  refine Met.ofW (cc := cX4_laddersAhead) (maxL := 6) (ret := (some .int)) (by decide) rfl ?_
  intro p e s m args below meth c s₁ B hml hv
  obtain ⟨rfl, hsz, hP, hK, hD0, hN⟩ := hv
  have hx := B.exec
  have hb := B.bytes
  have hr := B.returns
  have hts := atoms_spec (ws := wsX4_laddersAhead) B.pre
  have hown : s.vm.findClass RX4 = some m.cls := findClass_of_methodNamed B.named
  have hlocks := B.notSynchronized
  subst hsz
  have hD := hD0.self (sz := s.heap.size)
  generalize hAe : va_A (ul_wS cI aT (aK 0) T ++ ul_wK cI aK K) s.heap.size = A at hD hN ⊢
  have hA : ∀ q : Nat, s.heap.size ≤ q → A q := fun q h => by rw [← hAe]; exact Or.inr h
  have hS : va_S A s.heap s.heap [] := va_S.rf
  have hl := lv_entry ([.ref (aT 0), .int p1]) (n := 6) (Nat.le_of_ble_eq_true rfl)
  rw [lg_entry_eq]
  generalize (lg_sl ([.ref (aT 0), .int p1]) ++ List.replicate (6 - (lg_sl ([.ref (aT 0), .int p1])).length) Slot.unset).toArray = ls at hl ⊢
  have hl : lv_has ls 6 [(0, .ref (aT 0)), (1, .int p1)] := hl
  obtain ⟨K0, hK0, h⟩ := ul_top h
  unfold f_X4_laddersAhead at h
  refine ul_gen (fun G gi ge => ?_)
  obtain ⟨H, eH⟩ : ∃ z, z = s.heap := ⟨_, rfl⟩
  obtain ⟨locs, eL⟩ : ∃ z : List Loc, z = [] := ⟨_, rfl⟩
  have hP : va_P (dC, dI) classes (ul_wS cI aT (aK 0) T ++ ul_wK cI aK K) H := by rw [eH]; exact hP
  have hS : va_S A s.heap H locs := by rw [eH, eL]; exact hS
  rw [← eL]
  refine (show G H locs (F0 m 0 ls []) → G s.heap locs (F0 m 0 ls []) from fun z => by rw [← eH]; exact z) ?_
  have J46 : ∀ (x2 : Int32) (x3 : Int32) (x4 : Int32) (H : Heap) (locs : List Loc), ul_H (dC, dI) A s.heap (ul_wS cI aT (aK 0) T ++ ul_wK cI aK K) H locs → ∀ ls : Array Slot, lv_has ls 6 [(0, .ref (aT 0)), (1, .int p1), (2, .int x2), (3, .int x3), (4, .int x4)] → (f_X4_laddersAhead_j46 T K p1 x2 x3 x4).bind K0 = some r → G H locs (F0 m 46 ls []) := by
    intro x2 x3 x4 H locs hw ls hl h
    obtain ⟨hP, hD, hS⟩ := hw
    unfold f_X4_laddersAhead_j46 at h
    refine gi _ _ _ ?_
    refine lv_iload_n hx hb dX4_laddersAhead_46 rfl (lv_at hl 3 rfl) ?_
    have hr9 := hK0 x3 h
    subst hr9
    exact W.iret (v := x3) hx hb hr (fun t ht hW => ⟨⟨x3, (), rfl, rfl, by rw [ht]; exact hP, va_K.moved hW.alike hK, hD⟩, hS.F ht⟩) hS.2.2 dX4_laddersAhead_47
  refine gi _ _ _ ?_
  refine lv_aload_n hx hb dX4_laddersAhead_0 rfl (lv_at hl 0 rfl) ?_
  refine lv_iload_n hx hb dX4_laddersAhead_1 rfl (lv_at hl 1 rfl) ?_
  obtain ⟨u1, hu1, h⟩ := ul_cl_h h
  refine ul_cVi (As := [.int p1]) (rest := []) (wc' := (ul_wS cI aT (aK 0) T ++ ul_wK cI aK K)) (wr := []) hP hD hS hK hA [0, 1, 2, 3, 4, 5, 6, 7, 8, 9, 10, 11, 12, 13, 14] [] [0] ul_NX_ok hN (c_X4_stepsAhead l dC dI cI aT aK H.size T K p1 u1 hu1) rfl rfl (by decide) rfl (by decide) (by decide) rfl ⟨hx, hb, hml, hown, hts⟩ (cwV 1 hts gX4_laddersAhead_X4_stepsAhead rfl rfl rfl (by decide +kernel) ⟨Nat.le_of_ble_eq_true rfl, Nat.le_of_ble_eq_true rfl⟩) (va_recv hK hP (ci := 4) (q0 := 0) rfl rfl) rfl hl.1 rfl (Nat.le_of_ble_eq_true rfl) dX4_laddersAhead_2 (fun H locs hw => ?_)
  obtain ⟨hP, hD, hS⟩ := hw
  have hP : va_P (dC, dI) classes (ul_wS cI aT (aK 0) T ++ ul_wK cI aK K) H := hP
  have hD : va_D A (ul_wS cI aT (aK 0) T ++ ul_wK cI aK K) := hD
  refine lv_istore_n (lv' := [(2, .int u1), (0, .ref (aT 0)), (1, .int p1)]) hx hb dX4_laddersAhead_5 rfl hl (by decide) rfl (fun ls hl => ?_)
  refine lv_iconst (v := 0) hx hb dX4_laddersAhead_6 (by decide) ?_
  refine lv_istore_n (lv' := [(3, .int (0 : Int32)), (2, .int u1), (0, .ref (aT 0)), (1, .int p1)]) hx hb dX4_laddersAhead_7 rfl hl (by decide) rfl (fun ls hl => ?_)
  refine lv_iconst (v := 1) hx hb dX4_laddersAhead_8 (by decide) ?_
  refine lv_istore (lv' := [(4, .int (1 : Int32)), (3, .int (0 : Int32)), (2, .int u1), (0, .ref (aT 0)), (1, .int p1)]) hx hb dX4_laddersAhead_9 hl (by decide) rfl (fun ls hl => ?_)
  refine ge _ _ _ (ul_loop (P := fun q11 => ∀ (H : Heap) (locs : List Loc), ul_H (dC, dI) A s.heap (ul_wS cI aT (aK 0) T ++ ul_wK cI aK K) H locs → ∀ ls : Array Slot, lv_has ls 6 [(0, .ref (aT 0)), (1, .int p1), (2, .int u1), (3, .int q11.1), (4, .int q11.2)] → G H locs (F0 m 11 ls [])) ?_ _ _ (ul_it_h h) H locs ⟨hP, hD, hS⟩ ls (lv_sub hl [3, 4, 2, 1, 0] rfl))
  intro K11 hx11
  intro q11 ih11 h H locs hw ls hl
  have J40 : ∀ (x3 : Int32) (x4 : Int32) (x5 : Int32) (H : Heap) (locs : List Loc), ul_H (dC, dI) A s.heap (ul_wS cI aT (aK 0) T ++ ul_wK cI aK K) H locs → ∀ ls : Array Slot, lv_has ls 6 [(0, .ref (aT 0)), (1, .int p1), (2, .int u1), (3, .int x3), (4, .int x4), (5, .int x5)] → (f_X4_laddersAhead_j40 T K p1 u1 x3 x4 x5).bind K11 = some r → G H locs (F0 m 40 ls []) := by
    intro x3 x4 x5 H locs hw ls hl h
    obtain ⟨hP, hD, hS⟩ := hw
    unfold f_X4_laddersAhead_j40 at h
    refine gi _ _ _ ?_
    obtain ⟨v3, ev3⟩ : ∃ z : Int32, z = x4 + 1 := ⟨_, rfl⟩
    have h := ul_bd_h h v3 ev3
    refine lv_iinc (v := v3) (lv' := [(4, .int v3), (0, .ref (aT 0)), (1, .int p1), (2, .int u1), (3, .int x3), (5, .int x5)]) hx hb dX4_laddersAhead_40 hl (k := 4) rfl (by rw [ev3]; rfl) (by decide) rfl (fun ls hl => ?_)
    refine lv_goto (tgt := 11) hx hb dX4_laddersAhead_43 (by decide) ?_
    exact ge _ _ _ (ih11 (x3, v3) h H locs ⟨hP, hD, hS⟩ ls (lv_sub hl [1, 2, 3, 4, 0] rfl))
  obtain ⟨hP, hD, hS⟩ := hw
  unfold f_X4_laddersAhead_L11 at h
  refine gi _ _ _ ?_
  refine lv_iload hx hb dX4_laddersAhead_11 (lv_at hl 4 rfl) ?_
  refine lv_iload_n hx hb dX4_laddersAhead_13 rfl (lv_at hl 2 rfl) ?_
  refine lv_icmp_gt (tgt := 46) hx hb dX4_laddersAhead_14 (by decide) (fun hc8 => ?_) (fun hc8 => ?_)
  · have h := ul_if_t hc8 h
    exact ge _ _ _ (J46 u1 q11.1 q11.2 H locs ⟨hP, hD, hS⟩ ls (lv_sub hl [0, 1, 2, 3, 4] rfl) (hx11 (q11.1, q11.2) h))
  · have h := ul_if_f hc8 h
    refine lv_aload_n hx hb dX4_laddersAhead_17 rfl (lv_at hl 0 rfl) ?_
    refine lv_iload_n hx hb dX4_laddersAhead_18 rfl (lv_at hl 1 rfl) ?_
    refine lv_iload hx hb dX4_laddersAhead_19 (lv_at hl 4 rfl) ?_
    obtain ⟨u9, hu9, h⟩ := ul_cl_h h
    refine ul_cVi (As := [.int p1, .int q11.2]) (rest := []) (wc' := (ul_wS cI aT (aK 0) T ++ ul_wK cI aK K)) (wr := []) hP hD hS hK hA [0, 1, 2, 3, 4, 5, 6, 7, 8, 9, 10, 11, 12, 13, 14] [] [0] ul_NX_ok hN (c_X4_ladderAhead l dC dI cI aT aK H.size T K p1 q11.2 u9 hu9) rfl rfl (by decide) rfl (by decide) (by decide) rfl ⟨hx, hb, hml, hown, hts⟩ (cwV 2 hts gX4_laddersAhead_X4_ladderAhead rfl rfl rfl (by decide +kernel) ⟨Nat.le_of_ble_eq_true rfl, Nat.le_of_ble_eq_true rfl⟩) (va_recv hK hP (ci := 4) (q0 := 0) rfl rfl) rfl hl.1 rfl (Nat.le_of_ble_eq_true rfl) dX4_laddersAhead_21 (fun H locs hw => ?_)
    obtain ⟨hP, hD, hS⟩ := hw
    have hP : va_P (dC, dI) classes (ul_wS cI aT (aK 0) T ++ ul_wK cI aK K) H := hP
    have hD : va_D A (ul_wS cI aT (aK 0) T ++ ul_wK cI aK K) := hD
    refine lv_istore (lv' := [(5, .int u9), (0, .ref (aT 0)), (1, .int p1), (2, .int u1), (3, .int q11.1), (4, .int q11.2)]) hx hb dX4_laddersAhead_24 hl (by decide) rfl (fun ls hl => ?_)
    refine lv_iload hx hb dX4_laddersAhead_26 (lv_at hl 0 rfl) ?_
    refine lv_bipush (v := -9) hx hb dX4_laddersAhead_28 (by decide) ?_
    refine lv_icmp_eq (tgt := 40) hx hb dX4_laddersAhead_30 (by decide) (fun hc10 => ?_) (fun hc10 => ?_)
    · have h := ul_if_t hc10 h
      exact ge _ _ _ (J40 q11.1 q11.2 u9 H locs ⟨hP, hD, hS⟩ ls (lv_sub hl [1, 2, 3, 4, 5, 0] rfl) h)
    · have h := ul_if_f hc10 h
      refine lv_iload_n hx hb dX4_laddersAhead_33 rfl (lv_at hl 4 rfl) ?_
      refine lv_iconst (v := 1) hx hb dX4_laddersAhead_34 (by decide) ?_
      refine lv_iload hx hb dX4_laddersAhead_35 (lv_at hl 0 rfl) ?_
      refine lv_ishl hx hb dX4_laddersAhead_37 ?_
      refine lv_ior hx hb dX4_laddersAhead_38 ?_
      refine lv_topi (fun v11 ev11 => ?_)
      have h := ul_bd_h h v11 ev11
      refine lv_istore_n (lv' := [(3, .int v11), (5, .int u9), (0, .ref (aT 0)), (1, .int p1), (2, .int u1), (4, .int q11.2)]) hx hb dX4_laddersAhead_39 rfl hl (by decide) rfl (fun ls hl => ?_)
      exact ge _ _ _ (J40 v11 q11.2 u9 H locs ⟨hP, hD, hS⟩ ls (lv_sub hl [2, 3, 4, 0, 5, 1] rfl) h)
def f_X4_luckByStepping_j98 (T : ul_S) (K : ul_S) (p1 : Int32) (p2 : Int32) (x3 : Int32) (x4 : Int32) (x5 : Int32) : Option Int32 :=
  some x4
def f_X4_luckByStepping_j92 (T : ul_S) (K : ul_S) (p1 : Int32) (p2 : Int32) (x3 : Int32) (x4 : Int32) (x5 : Int32) (x6 : Int32) : Option ((Int32 × Int32) ⊕ (Int32 × Int32)) :=
  ul_bd (x5 + 1) fun v4 => some (.inr (x4, v4))
def f_X4_luckByStepping_L17 (T : ul_S) (K : ul_S) (p1 : Int32) (p2 : Int32) (y3 : Int32) (q17 : (Int32 × Int32)) : Option ((Int32 × Int32) ⊕ (Int32 × Int32)) :=
  if y3 < q17.2 then (some (.inl (q17.1, q17.2))) else ((f_X4_ladderAhead T K p1 q17.2).bind fun u7 => if u7 = (-9 : Int32) then (f_X4_luckByStepping_j92 T K p1 p2 y3 q17.1 q17.2 u7) else (if ((p2 >>> (u7 &&& 31)) &&& (1 : Int32)) = (1 : Int32) then ((f_X6_lessByMud q17.1).bind fun u16 => f_X4_luckByStepping_j92 T K p1 p2 y3 u16 q17.2 u7) else (ul_ld (K 3) 4 u7 fun v10 => ul_ld (K 2) 4 u7 fun v12 => (f_X6_taken v10 v12 q17.1).bind fun u14 => ul_bd (q17.1 - u14) fun v15 => f_X4_luckByStepping_j92 T K p1 p2 y3 v15 q17.2 u7)))
def f_X4_luckByStepping (T : ul_S) (K : ul_S) (p1 : Int32) (p2 : Int32) : Option Int32 :=
  (f_X4_stepsAhead T K p1).bind fun u1 => ul_ld (T 6) 5 p1 fun v2 => (ul_it ul_N (f_X4_luckByStepping_L17 T K p1 p2 u1) (v2, (1 : Int32))).bind (fun e17 => f_X4_luckByStepping_j98 T K p1 p2 u1 e17.1 e17.2)
set_option maxHeartbeats 4000000 in
set_option maxRecDepth 100000 in
theorem c_X4_luckByStepping (l : Launch) (dC : Nat → ClassId) (dI : Nat → Nat → Nat) (cI : ClassId) (aT : Nat → Nat) (aK : Nat → Nat) (sz : Nat) (T : ul_S) (K : ul_S) (p1 : Int32) (p2 : Int32) (r : Int32) (h : f_X4_luckByStepping T K p1 p2 = some r) : Met l yX4_luckByStepping wsX4_luckByStepping ({ frames := 2, cells := 0, slots := 0, locals := 61 }) (va_Pc [.ref (aT 0), .int p1, .int p2] (ul_pre (dC, dI) [(cI, .int)] ul_NX sz (ul_wS cI aT (aK 0) T ++ ul_wK cI aK K))) (va_Qi (fun v (_ : Unit) => v = r) (fun _ => ul_post (dC, dI) [(cI, .int)] (va_A (ul_wS cI aT (aK 0) T ++ ul_wK cI aK K) sz) (ul_wS cI aT (aK 0) T ++ ul_wK cI aK K)) (va_A (ul_wS cI aT (aK 0) T ++ ul_wK cI aK K) sz)) 0 0 (va_A (ul_wS cI aT (aK 0) T ++ ul_wK cI aK K) sz) := by
  refine Met.ofW (cc := cX4_luckByStepping) (maxL := 7) (ret := (some .int)) (by decide) rfl ?_
  intro p e s m args below meth c s₁ B hml hv
  obtain ⟨rfl, hsz, hP, hK, hD0, hN⟩ := hv
  have hx := B.exec
  have hb := B.bytes
  have hr := B.returns
  have hts := atoms_spec (ws := wsX4_luckByStepping) B.pre
  have hown : s.vm.findClass RX4 = some m.cls := findClass_of_methodNamed B.named
  have hlocks := B.notSynchronized
  have hin2 : ∀ w ∈ u_ws RX2 TX2 9, w ∈ wsX4_luckByStepping := by decide +kernel
  have hin4 : ∀ w ∈ u_ws RX4 TX4 8, w ∈ wsX4_luckByStepping := by decide +kernel
  subst hsz
  have hD := hD0.self (sz := s.heap.size)
  generalize hAe : va_A (ul_wS cI aT (aK 0) T ++ ul_wK cI aK K) s.heap.size = A at hD hN ⊢
  have hA : ∀ q : Nat, s.heap.size ≤ q → A q := fun q h => by rw [← hAe]; exact Or.inr h
  have hS : va_S A s.heap s.heap [] := va_S.rf
  have hl := lv_entry ([.ref (aT 0), .int p1, .int p2]) (n := 7) (Nat.le_of_ble_eq_true rfl)
  rw [lg_entry_eq]
  generalize (lg_sl ([.ref (aT 0), .int p1, .int p2]) ++ List.replicate (7 - (lg_sl ([.ref (aT 0), .int p1, .int p2])).length) Slot.unset).toArray = ls at hl ⊢
  have hl : lv_has ls 7 [(0, .ref (aT 0)), (1, .int p1), (2, .int p2)] := hl
  obtain ⟨K0, hK0, h⟩ := ul_top h
  unfold f_X4_luckByStepping at h
  refine ul_gen (fun G gi ge => ?_)
  obtain ⟨H, eH⟩ : ∃ z, z = s.heap := ⟨_, rfl⟩
  obtain ⟨locs, eL⟩ : ∃ z : List Loc, z = [] := ⟨_, rfl⟩
  have hP : va_P (dC, dI) classes (ul_wS cI aT (aK 0) T ++ ul_wK cI aK K) H := by rw [eH]; exact hP
  have hS : va_S A s.heap H locs := by rw [eH, eL]; exact hS
  rw [← eL]
  refine (show G H locs (F0 m 0 ls []) → G s.heap locs (F0 m 0 ls []) from fun z => by rw [← eH]; exact z) ?_
  have J98 : ∀ (x3 : Int32) (x4 : Int32) (x5 : Int32) (H : Heap) (locs : List Loc), ul_H (dC, dI) A s.heap (ul_wS cI aT (aK 0) T ++ ul_wK cI aK K) H locs → ∀ ls : Array Slot, lv_has ls 7 [(0, .ref (aT 0)), (1, .int p1), (2, .int p2), (3, .int x3), (4, .int x4), (5, .int x5)] → (f_X4_luckByStepping_j98 T K p1 p2 x3 x4 x5).bind K0 = some r → G H locs (F0 m 98 ls []) := by
    intro x3 x4 x5 H locs hw ls hl h
    obtain ⟨hP, hD, hS⟩ := hw
    unfold f_X4_luckByStepping_j98 at h
    refine gi _ _ _ ?_
    refine lv_iload hx hb dX4_luckByStepping_98 (lv_at hl 4 rfl) ?_
    have hr9 := hK0 x4 h
    subst hr9
    exact W.iret (v := x4) hx hb hr (fun t ht hW => ⟨⟨x4, (), rfl, rfl, by rw [ht]; exact hP, va_K.moved hW.alike hK, hD⟩, hS.F ht⟩) hS.2.2 dX4_luckByStepping_100
  refine gi _ _ _ ?_
  refine lv_aload_n hx hb dX4_luckByStepping_0 rfl (lv_at hl 0 rfl) ?_
  refine lv_iload_n hx hb dX4_luckByStepping_1 rfl (lv_at hl 1 rfl) ?_
  obtain ⟨u1, hu1, h⟩ := ul_cl_h h
  refine ul_cVi (As := [.int p1]) (rest := []) (wc' := (ul_wS cI aT (aK 0) T ++ ul_wK cI aK K)) (wr := []) hP hD hS hK hA [0, 1, 2, 3, 4, 5, 6, 7, 8, 9, 10, 11, 12, 13, 14] [] [0] ul_NX_ok hN (c_X4_stepsAhead l dC dI cI aT aK H.size T K p1 u1 hu1) rfl rfl (by decide) rfl (by decide) (by decide) rfl ⟨hx, hb, hml, hown, hts⟩ (cwV 1 hts gX4_luckByStepping_X4_stepsAhead rfl rfl rfl (by decide +kernel) ⟨Nat.le_of_ble_eq_true rfl, Nat.le_of_ble_eq_true rfl⟩) (va_recv hK hP (ci := 4) (q0 := 0) rfl rfl) rfl hl.1 rfl (Nat.le_of_ble_eq_true rfl) dX4_luckByStepping_2 (fun H locs hw => ?_)
  obtain ⟨hP, hD, hS⟩ := hw
  have hP : va_P (dC, dI) classes (ul_wS cI aT (aK 0) T ++ ul_wK cI aK K) H := hP
  have hD : va_D A (ul_wS cI aT (aK 0) T ++ ul_wK cI aK K) := hD
  refine lv_istore_n (lv' := [(3, .int u1), (0, .ref (aT 0)), (1, .int p1), (2, .int p2)]) hx hb dX4_luckByStepping_5 rfl hl (by decide) rfl (fun ls hl => ?_)
  refine lv_aload_n hx hb dX4_luckByStepping_6 rfl (lv_at hl 1 rfl) ?_
  refine va_get (D := (dC, dI)) (ci := 4) (v := .ref (aT 6)) (C := RX4) (T := TX4) (N := 8) hx hb hts hin4 hown hK hP 0 rfl rfl 6 (by decide) (hts (.fieldLink RX4 31 "UnderLadders$Street" "ownLuck" "[I") (by decide +kernel)) (fun _ h9 => h9) rfl dX4_luckByStepping_7 ?_
  refine lv_iload_n hx hb dX4_luckByStepping_10 rfl (lv_at hl 2 rfl) ?_
  obtain ⟨hi3, h⟩ := ul_ld_h h
  refine va_iald hx hb hK hP 6 0 rfl rfl hi3 dX4_luckByStepping_11 ?_
  refine lv_topi (fun v2 ev2 => ?_)
  have h := h v2 ev2
  refine lv_istore (lv' := [(4, .int v2), (3, .int u1), (0, .ref (aT 0)), (1, .int p1), (2, .int p2)]) hx hb dX4_luckByStepping_12 hl (by decide) rfl (fun ls hl => ?_)
  refine lv_iconst (v := 1) hx hb dX4_luckByStepping_14 (by decide) ?_
  refine lv_istore (lv' := [(5, .int (1 : Int32)), (4, .int v2), (3, .int u1), (0, .ref (aT 0)), (1, .int p1), (2, .int p2)]) hx hb dX4_luckByStepping_15 hl (by decide) rfl (fun ls hl => ?_)
  refine ge _ _ _ (ul_loop (P := fun q17 => ∀ (H : Heap) (locs : List Loc), ul_H (dC, dI) A s.heap (ul_wS cI aT (aK 0) T ++ ul_wK cI aK K) H locs → ∀ ls : Array Slot, lv_has ls 7 [(0, .ref (aT 0)), (1, .int p1), (2, .int p2), (3, .int u1), (4, .int q17.1), (5, .int q17.2)] → G H locs (F0 m 17 ls [])) ?_ _ _ (ul_it_h h) H locs ⟨hP, hD, hS⟩ ls (lv_sub hl [3, 4, 5, 2, 1, 0] rfl))
  intro K17 hx17
  intro q17 ih17 h H locs hw ls hl
  have J92 : ∀ (x4 : Int32) (x5 : Int32) (x6 : Int32) (H : Heap) (locs : List Loc), ul_H (dC, dI) A s.heap (ul_wS cI aT (aK 0) T ++ ul_wK cI aK K) H locs → ∀ ls : Array Slot, lv_has ls 7 [(0, .ref (aT 0)), (1, .int p1), (2, .int p2), (3, .int u1), (4, .int x4), (5, .int x5), (6, .int x6)] → (f_X4_luckByStepping_j92 T K p1 p2 u1 x4 x5 x6).bind K17 = some r → G H locs (F0 m 92 ls []) := by
    intro x4 x5 x6 H locs hw ls hl h
    obtain ⟨hP, hD, hS⟩ := hw
    unfold f_X4_luckByStepping_j92 at h
    refine gi _ _ _ ?_
    obtain ⟨v5, ev5⟩ : ∃ z : Int32, z = x5 + 1 := ⟨_, rfl⟩
    have h := ul_bd_h h v5 ev5
    refine lv_iinc (v := v5) (lv' := [(5, .int v5), (0, .ref (aT 0)), (1, .int p1), (2, .int p2), (3, .int u1), (4, .int x4), (6, .int x6)]) hx hb dX4_luckByStepping_92 hl (k := 5) rfl (by rw [ev5]; rfl) (by decide) rfl (fun ls hl => ?_)
    refine lv_goto (tgt := 17) hx hb dX4_luckByStepping_95 (by decide) ?_
    exact ge _ _ _ (ih17 (x4, v5) h H locs ⟨hP, hD, hS⟩ ls (lv_sub hl [1, 2, 3, 4, 5, 0] rfl))
  obtain ⟨hP, hD, hS⟩ := hw
  unfold f_X4_luckByStepping_L17 at h
  refine gi _ _ _ ?_
  refine lv_iload hx hb dX4_luckByStepping_17 (lv_at hl 5 rfl) ?_
  refine lv_iload_n hx hb dX4_luckByStepping_19 rfl (lv_at hl 3 rfl) ?_
  refine lv_icmp_gt (tgt := 98) hx hb dX4_luckByStepping_20 (by decide) (fun hc17 => ?_) (fun hc17 => ?_)
  · have h := ul_if_t hc17 h
    exact ge _ _ _ (J98 u1 q17.1 q17.2 H locs ⟨hP, hD, hS⟩ ls (lv_sub hl [0, 1, 2, 3, 4, 5] rfl) (hx17 (q17.1, q17.2) h))
  · have h := ul_if_f hc17 h
    refine lv_aload_n hx hb dX4_luckByStepping_23 rfl (lv_at hl 0 rfl) ?_
    refine lv_iload_n hx hb dX4_luckByStepping_24 rfl (lv_at hl 1 rfl) ?_
    refine lv_iload hx hb dX4_luckByStepping_25 (lv_at hl 5 rfl) ?_
    obtain ⟨u18, hu18, h⟩ := ul_cl_h h
    refine ul_cVi (As := [.int p1, .int q17.2]) (rest := []) (wc' := (ul_wS cI aT (aK 0) T ++ ul_wK cI aK K)) (wr := []) hP hD hS hK hA [0, 1, 2, 3, 4, 5, 6, 7, 8, 9, 10, 11, 12, 13, 14] [] [0] ul_NX_ok hN (c_X4_ladderAhead l dC dI cI aT aK H.size T K p1 q17.2 u18 hu18) rfl rfl (by decide) rfl (by decide) (by decide) rfl ⟨hx, hb, hml, hown, hts⟩ (cwV 2 hts gX4_luckByStepping_X4_ladderAhead rfl rfl rfl (by decide +kernel) ⟨Nat.le_of_ble_eq_true rfl, Nat.le_of_ble_eq_true rfl⟩) (va_recv hK hP (ci := 4) (q0 := 0) rfl rfl) rfl hl.1 rfl (Nat.le_of_ble_eq_true rfl) dX4_luckByStepping_27 (fun H locs hw => ?_)
    obtain ⟨hP, hD, hS⟩ := hw
    have hP : va_P (dC, dI) classes (ul_wS cI aT (aK 0) T ++ ul_wK cI aK K) H := hP
    have hD : va_D A (ul_wS cI aT (aK 0) T ++ ul_wK cI aK K) := hD
    refine lv_istore (lv' := [(6, .int u18), (0, .ref (aT 0)), (1, .int p1), (2, .int p2), (3, .int u1), (4, .int q17.1), (5, .int q17.2)]) hx hb dX4_luckByStepping_30 hl (by decide) rfl (fun ls hl => ?_)
    refine lv_iload hx hb dX4_luckByStepping_32 (lv_at hl 0 rfl) ?_
    refine lv_bipush (v := -9) hx hb dX4_luckByStepping_34 (by decide) ?_
    refine lv_icmp_ne (tgt := 42) hx hb dX4_luckByStepping_36 (by decide) (fun hc19 => ?_) (fun hc19 => ?_)
    · have h := ul_if_f hc19 h
      refine lv_iload_n hx hb dX4_luckByStepping_42 rfl (lv_at hl 3 rfl) ?_
      refine lv_iload hx hb dX4_luckByStepping_43 (lv_at hl 0 rfl) ?_
      refine lv_ishr hx hb dX4_luckByStepping_45 ?_
      refine lv_iconst (v := 1) hx hb dX4_luckByStepping_46 (by decide) ?_
      refine lv_iand hx hb dX4_luckByStepping_47 ?_
      refine lv_iconst (v := 1) hx hb dX4_luckByStepping_48 (by decide) ?_
      refine lv_icmp_ne (tgt := 62) hx hb dX4_luckByStepping_49 (by decide) (fun hc20 => ?_) (fun hc20 => ?_)
      · have h := ul_if_f hc20 h
        refine lv_iload hx hb dX4_luckByStepping_62 (lv_at hl 5 rfl) ?_
        refine lv_aload_n hx hb dX4_luckByStepping_64 rfl (lv_at hl 1 rfl) ?_
        refine va_get (D := (dC, dI)) (ci := 4) (v := .ref (aK 0)) (C := RX4) (T := TX4) (N := 8) hx hb hts hin4 hown hK hP 0 rfl rfl 0 (by decide) (hts (.fieldLink RX4 9 "UnderLadders$Street" "fixed" "LUnderLadders$Market;") (by decide +kernel)) (fun _ h9 => h9) rfl dX4_luckByStepping_65 ?_
        refine va_getN (D := (dC, dI)) (ci := 2) (v := .ref (aK 3)) (C := RX2) (T := TX2) (N := 9) hx hb hts hin2 hown hK hP 7 rfl rfl 2 (by decide) (va_Nw.use rfl (hN.1 (RX4, 107, "UnderLadders$Market", "ladderKind", "[I") (by decide +kernel))) (fun _ h9 => h9) rfl dX4_luckByStepping_68 ?_
        refine lv_iload hx hb dX4_luckByStepping_71 (lv_at hl 0 rfl) ?_
        obtain ⟨hi22, h⟩ := ul_ld_h h
        refine va_iald hx hb hK hP 10 0 rfl rfl hi22 dX4_luckByStepping_73 ?_
        refine lv_topi (fun v21 ev21 => ?_)
        have h := h v21 ev21
        refine lv_aload_n hx hb dX4_luckByStepping_74 rfl (lv_at hl 1 rfl) ?_
        refine va_get (D := (dC, dI)) (ci := 4) (v := .ref (aK 0)) (C := RX4) (T := TX4) (N := 8) hx hb hts hin4 hown hK hP 0 rfl rfl 0 (by decide) (hts (.fieldLink RX4 9 "UnderLadders$Street" "fixed" "LUnderLadders$Market;") (by decide +kernel)) (fun _ h9 => h9) rfl dX4_luckByStepping_75 ?_
        refine va_getN (D := (dC, dI)) (ci := 2) (v := .ref (aK 2)) (C := RX2) (T := TX2) (N := 9) hx hb hts hin2 hown hK hP 7 rfl rfl 1 (by decide) (va_Nw.use rfl (hN.1 (RX4, 110, "UnderLadders$Market", "take", "[I") (by decide +kernel))) (fun _ h9 => h9) rfl dX4_luckByStepping_78 ?_
        refine lv_iload hx hb dX4_luckByStepping_81 (lv_at hl 0 rfl) ?_
        obtain ⟨hi24, h⟩ := ul_ld_h h
        refine va_iald hx hb hK hP 9 0 rfl rfl hi24 dX4_luckByStepping_83 ?_
        refine lv_topi (fun v23 ev23 => ?_)
        have h := h v23 ev23
        refine lv_iload hx hb dX4_luckByStepping_84 (lv_at hl 5 rfl) ?_
        obtain ⟨u25, hu25, h⟩ := ul_cl_h h
        refine ul_cNi (As := [.int v21, .int v23, .int q17.1]) (rest := [.int q17.1]) hP hD hS hK hA (c_X6_taken l dC dI H.size v21 v23 q17.1 u25 hu25) ⟨hx, hb, hml, hown, hts⟩ ⟨va_cnB (host := "UnderLadders") 3 hts gX4_luckByStepping_X6_taken_n113 rfl rfl rfl (hN.2.1 (RX4, 113, yX6_taken) (by decide +kernel)) (hts (.initialized RX6) (by decide +kernel)) (by decide +kernel) ⟨Nat.le_of_ble_eq_true rfl, Nat.le_of_ble_eq_true rfl⟩, hts (.static yX6_taken) (by decide +kernel), trivial⟩ rfl hl.1 rfl (Nat.le_of_ble_eq_true rfl) dX4_luckByStepping_86 (fun H locs hw => ?_)
        obtain ⟨hP, hD, hS⟩ := hw
        refine lv_isub hx hb dX4_luckByStepping_89 ?_
        refine lv_topi (fun v26 ev26 => ?_)
        have h := ul_bd_h h v26 ev26
        refine lv_istore (lv' := [(4, .int v26), (6, .int u18), (0, .ref (aT 0)), (1, .int p1), (2, .int p2), (3, .int u1), (5, .int q17.2)]) hx hb dX4_luckByStepping_90 hl (by decide) rfl (fun ls hl => ?_)
        exact ge _ _ _ (J92 v26 q17.2 u18 H locs ⟨hP, hD, hS⟩ ls (lv_sub hl [2, 3, 4, 5, 0, 6, 1] rfl) h)
      · have h := ul_if_t hc20 h
        refine lv_iload hx hb dX4_luckByStepping_52 (lv_at hl 5 rfl) ?_
        obtain ⟨u27, hu27, h⟩ := ul_cl_h h
        refine ul_cNi (As := [.int q17.1]) (rest := []) hP hD hS hK hA (c_X6_lessByMud l dC dI H.size q17.1 u27 hu27) ⟨hx, hb, hml, hown, hts⟩ ⟨va_cnB (host := "UnderLadders") 1 hts gX4_luckByStepping_X6_lessByMud_n104 rfl rfl rfl (hN.2.1 (RX4, 104, yX6_lessByMud) (by decide +kernel)) (hts (.initialized RX6) (by decide +kernel)) (by decide +kernel) ⟨Nat.le_of_ble_eq_true rfl, Nat.le_of_ble_eq_true rfl⟩, hts (.static yX6_lessByMud) (by decide +kernel), trivial⟩ rfl hl.1 rfl (Nat.le_of_ble_eq_true rfl) dX4_luckByStepping_54 (fun H locs hw => ?_)
        obtain ⟨hP, hD, hS⟩ := hw
        refine lv_istore (lv' := [(4, .int u27), (6, .int u18), (0, .ref (aT 0)), (1, .int p1), (2, .int p2), (3, .int u1), (5, .int q17.2)]) hx hb dX4_luckByStepping_57 hl (by decide) rfl (fun ls hl => ?_)
        refine lv_goto (tgt := 92) hx hb dX4_luckByStepping_59 (by decide) ?_
        exact ge _ _ _ (J92 u27 q17.2 u18 H locs ⟨hP, hD, hS⟩ ls (lv_sub hl [2, 3, 4, 5, 0, 6, 1] rfl) h)
    · have h := ul_if_t hc19 h
      refine lv_goto (tgt := 92) hx hb dX4_luckByStepping_39 (by decide) ?_
      exact ge _ _ _ (J92 q17.1 q17.2 u18 H locs ⟨hP, hD, hS⟩ ls (lv_sub hl [1, 2, 3, 4, 5, 6, 0] rfl) h)
def f_X4_isFree (T : ul_S) (p1 : Int32) : Option Int32 :=
  (f_X6_isPlace p1).bind fun u1 => if u1 = 0 then (some (0 : Int32)) else (ul_ld (T 2) 10 p1 fun v3 => if v3 = (-9 : Int32) then (some (1 : Int32)) else (some (0 : Int32)))
set_option maxHeartbeats 4000000 in
set_option maxRecDepth 100000 in
theorem c_X4_isFree (l : Launch) (dC : Nat → ClassId) (dI : Nat → Nat → Nat) (cI : ClassId) (aT : Nat → Nat) (aK : Nat → Nat) (sz : Nat) (T : ul_S) (K : ul_S) (p1 : Int32) (r : Int32) (h : f_X4_isFree T p1 = some r) : Met l yX4_isFree wsX4_isFree ({ frames := 1, cells := 0, slots := 0, locals := 20 }) (va_Pc [.ref (aT 0), .int p1] (ul_pre (dC, dI) [(cI, .int)] ul_NX sz (ul_wS cI aT (aK 0) T ++ ul_wK cI aK K))) (va_Qi (fun v (_ : Unit) => v = r) (fun _ => ul_post (dC, dI) [(cI, .int)] (va_A (ul_wS cI aT (aK 0) T ++ ul_wK cI aK K) sz) (ul_wS cI aT (aK 0) T ++ ul_wK cI aK K)) (va_A (ul_wS cI aT (aK 0) T ++ ul_wK cI aK K) sz)) 0 0 (va_A (ul_wS cI aT (aK 0) T ++ ul_wK cI aK K) sz) := by
  refine Met.ofW (cc := cX4_isFree) (maxL := 2) (ret := (some .boolean)) (by decide) rfl ?_
  intro p e s m args below meth c s₁ B hml hv
  obtain ⟨rfl, hsz, hP, hK, hD0, hN⟩ := hv
  have hx := B.exec
  have hb := B.bytes
  have hr := B.returns
  have hts := atoms_spec (ws := wsX4_isFree) B.pre
  have hown : s.vm.findClass RX4 = some m.cls := findClass_of_methodNamed B.named
  have hlocks := B.notSynchronized
  have hin4 : ∀ w ∈ u_ws RX4 TX4 8, w ∈ wsX4_isFree := by decide +kernel
  subst hsz
  have hD := hD0.self (sz := s.heap.size)
  generalize hAe : va_A (ul_wS cI aT (aK 0) T ++ ul_wK cI aK K) s.heap.size = A at hD hN ⊢
  have hA : ∀ q : Nat, s.heap.size ≤ q → A q := fun q h => by rw [← hAe]; exact Or.inr h
  have hS : va_S A s.heap s.heap [] := va_S.rf
  have hl := lv_entry ([.ref (aT 0), .int p1]) (n := 2) (Nat.le_of_ble_eq_true rfl)
  rw [lg_entry_eq]
  generalize (lg_sl ([.ref (aT 0), .int p1]) ++ List.replicate (2 - (lg_sl ([.ref (aT 0), .int p1])).length) Slot.unset).toArray = ls at hl ⊢
  have hl : lv_has ls 2 [(0, .ref (aT 0)), (1, .int p1)] := hl
  obtain ⟨K0, hK0, h⟩ := ul_top h
  unfold f_X4_isFree at h
  refine ul_gen (fun G gi ge => ?_)
  obtain ⟨H, eH⟩ : ∃ z, z = s.heap := ⟨_, rfl⟩
  obtain ⟨locs, eL⟩ : ∃ z : List Loc, z = [] := ⟨_, rfl⟩
  have hP : va_P (dC, dI) classes (ul_wS cI aT (aK 0) T ++ ul_wK cI aK K) H := by rw [eH]; exact hP
  have hS : va_S A s.heap H locs := by rw [eH, eL]; exact hS
  rw [← eL]
  refine (show G H locs (F0 m 0 ls []) → G s.heap locs (F0 m 0 ls []) from fun z => by rw [← eH]; exact z) ?_
  refine gi _ _ _ ?_
  refine lv_iload_n hx hb dX4_isFree_0 rfl (lv_at hl 1 rfl) ?_
  obtain ⟨u1, hu1, h⟩ := ul_cl_h h
  refine ul_cNi (As := [.int p1]) (rest := []) hP hD hS hK hA (c_X6_isPlace l dC dI H.size p1 u1 hu1) ⟨hx, hb, hml, hown, hts⟩ ⟨va_cnB (host := "UnderLadders") 1 hts gX4_isFree_X6_isPlace_n69 rfl rfl rfl (hN.2.1 (RX4, 69, yX6_isPlace) (by decide +kernel)) (hts (.initialized RX6) (by decide +kernel)) (by decide +kernel) ⟨Nat.le_of_ble_eq_true rfl, Nat.le_of_ble_eq_true rfl⟩, hts (.static yX6_isPlace) (by decide +kernel), trivial⟩ rfl hl.1 rfl (Nat.le_of_ble_eq_true rfl) dX4_isFree_1 (fun H locs hw => ?_)
  obtain ⟨hP, hD, hS⟩ := hw
  refine lv_if_eq (tgt := 22) hx hb dX4_isFree_4 (by decide) (fun hc2 => ?_) (fun hc2 => ?_)
  · have h := ul_if_t hc2 h
    refine lv_iconst (v := 0) hx hb dX4_isFree_22 (by decide) ?_
    have hr9 := hK0 (0 : Int32) h
    subst hr9
    exact W.zret (v := (0 : Int32)) hx hb hr (by decide) (fun t ht hW => ⟨⟨(0 : Int32), (), rfl, rfl, by rw [ht]; exact hP, va_K.moved hW.alike hK, hD⟩, hS.F ht⟩) hS.2.2 dX4_isFree_23
  · have h := ul_if_f hc2 h
    refine lv_aload_n hx hb dX4_isFree_7 rfl (lv_at hl 0 rfl) ?_
    refine va_get (D := (dC, dI)) (ci := 4) (v := .ref (aT 2)) (C := RX4) (T := TX4) (N := 8) hx hb hts hin4 hown hK hP 0 rfl rfl 2 (by decide) (hts (.fieldLink RX4 19 "UnderLadders$Street" "standing" "[I") (by decide +kernel)) (fun _ h9 => h9) rfl dX4_isFree_8 ?_
    refine lv_iload_n hx hb dX4_isFree_11 rfl (lv_at hl 1 rfl) ?_
    obtain ⟨hi4, h⟩ := ul_ld_h h
    refine va_iald hx hb hK hP 2 0 rfl rfl hi4 dX4_isFree_12 ?_
    refine lv_topi (fun v3 ev3 => ?_)
    have h := h v3 ev3
    refine lv_bipush (v := -9) hx hb dX4_isFree_13 (by decide) ?_
    refine lv_icmp_ne (tgt := 22) hx hb dX4_isFree_15 (by decide) (fun hc5 => ?_) (fun hc5 => ?_)
    · have h := ul_if_f hc5 h
      refine lv_iconst (v := 0) hx hb dX4_isFree_22 (by decide) ?_
      have hr9 := hK0 (0 : Int32) h
      subst hr9
      exact W.zret (v := (0 : Int32)) hx hb hr (by decide) (fun t ht hW => ⟨⟨(0 : Int32), (), rfl, rfl, by rw [ht]; exact hP, va_K.moved hW.alike hK, hD⟩, hS.F ht⟩) hS.2.2 dX4_isFree_23
    · have h := ul_if_t hc5 h
      refine lv_iconst (v := 1) hx hb dX4_isFree_18 (by decide) ?_
      refine lv_goto (tgt := 23) hx hb dX4_isFree_19 (by decide) ?_
      have hr9 := hK0 (1 : Int32) h
      subst hr9
      exact W.zret (v := (1 : Int32)) hx hb hr (by decide) (fun t ht hW => ⟨⟨(1 : Int32), (), rfl, rfl, by rw [ht]; exact hP, va_K.moved hW.alike hK, hD⟩, hS.F ht⟩) hS.2.2 dX4_isFree_23
def f_X4_changeMan (T : ul_S) (p1 : Int32) : Option ul_S :=
  ul_st T 3 4 p1 (0 : Int32) fun T1 => ul_st T1 4 4 p1 (0 : Int32) fun T3 => some T3
set_option maxHeartbeats 4000000 in
set_option maxRecDepth 100000 in
theorem c_X4_changeMan (l : Launch) (dC : Nat → ClassId) (dI : Nat → Nat → Nat) (cI : ClassId) (aT : Nat → Nat) (aK : Nat → Nat) (sz : Nat) (T : ul_S) (K : ul_S) (p1 : Int32) (r : ul_S) (h : f_X4_changeMan T p1 = some r) : Met l yX4_changeMan wsX4_changeMan ({ frames := 0, cells := 0, slots := 0, locals := 0 }) (va_Pc [.ref (aT 0), .int p1] (ul_pre (dC, dI) [(cI, .int)] ul_NX sz (ul_wS cI aT (aK 0) T ++ ul_wK cI aK K))) (va_Qv (fun (_ : Unit) => True) (fun _ => ul_post (dC, dI) [(cI, .int)] (va_A (ul_wS cI aT (aK 0) T ++ ul_wK cI aK K) sz) (ul_wS cI aT (aK 0) r ++ ul_wK cI aK K)) (va_A (ul_wS cI aT (aK 0) T ++ ul_wK cI aK K) sz)) 0 0 (va_A (ul_wS cI aT (aK 0) T ++ ul_wK cI aK K) sz) := by
  refine Met.ofW (cc := cX4_changeMan) (maxL := 2) (ret := none) (by decide) rfl ?_
  intro p e s m args below meth c s₁ B hml hv
  obtain ⟨rfl, hsz, hP, hK, hD0, hN⟩ := hv
  have hx := B.exec
  have hb := B.bytes
  have hr := B.returns
  have hts := atoms_spec (ws := wsX4_changeMan) B.pre
  have hown : s.vm.findClass RX4 = some m.cls := findClass_of_methodNamed B.named
  have hlocks := B.notSynchronized
  have hin4 : ∀ w ∈ u_ws RX4 TX4 8, w ∈ wsX4_changeMan := by decide +kernel
  subst hsz
  have hD := hD0.self (sz := s.heap.size)
  generalize hAe : va_A (ul_wS cI aT (aK 0) T ++ ul_wK cI aK K) s.heap.size = A at hD hN ⊢
  have hA : ∀ q : Nat, s.heap.size ≤ q → A q := fun q h => by rw [← hAe]; exact Or.inr h
  have hS : va_S A s.heap s.heap [] := va_S.rf
  have hl := lv_entry ([.ref (aT 0), .int p1]) (n := 2) (Nat.le_of_ble_eq_true rfl)
  rw [lg_entry_eq]
  generalize (lg_sl ([.ref (aT 0), .int p1]) ++ List.replicate (2 - (lg_sl ([.ref (aT 0), .int p1])).length) Slot.unset).toArray = ls at hl ⊢
  have hl : lv_has ls 2 [(0, .ref (aT 0)), (1, .int p1)] := hl
  obtain ⟨K0, hK0, h⟩ := ul_top h
  unfold f_X4_changeMan at h
  refine ul_gen (fun G gi ge => ?_)
  obtain ⟨H, eH⟩ : ∃ z, z = s.heap := ⟨_, rfl⟩
  obtain ⟨locs, eL⟩ : ∃ z : List Loc, z = [] := ⟨_, rfl⟩
  have hP : va_P (dC, dI) classes (ul_wS cI aT (aK 0) T ++ ul_wK cI aK K) H := by rw [eH]; exact hP
  have hS : va_S A s.heap H locs := by rw [eH, eL]; exact hS
  rw [← eL]
  refine (show G H locs (F0 m 0 ls []) → G s.heap locs (F0 m 0 ls []) from fun z => by rw [← eH]; exact z) ?_
  refine gi _ _ _ ?_
  refine lv_aload_n hx hb dX4_changeMan_0 rfl (lv_at hl 0 rfl) ?_
  refine va_get (D := (dC, dI)) (ci := 4) (v := .ref (aT 3)) (C := RX4) (T := TX4) (N := 8) hx hb hts hin4 hown hK hP 0 rfl rfl 3 (by decide) (hts (.fieldLink RX4 22 "UnderLadders$Street" "manLuck" "[I") (by decide +kernel)) (fun _ h9 => h9) rfl dX4_changeMan_1 ?_
  refine lv_iload_n hx hb dX4_changeMan_4 rfl (lv_at hl 1 rfl) ?_
  refine lv_iconst (v := 0) hx hb dX4_changeMan_5 (by decide) ?_
  obtain ⟨hi2, h⟩ := ul_st_h h
  refine va_iast hx hb hK hP hD hS 3 0 rfl rfl hi2 dX4_changeMan_6 (fun H locs hP hD hS => ?_)
  obtain ⟨T1, eT1⟩ : ∃ z : ul_S, z = ul_up T 3 p1.toNatClampNeg (0 : Int32) := ⟨_, rfl⟩
  have h := h T1 eT1
  have hP : va_P (dC, dI) classes (ul_wS cI aT (aK 0) T1 ++ ul_wK cI aK K) H := by rw [eT1]; exact hP
  have hD : va_D A (ul_wS cI aT (aK 0) T1 ++ ul_wK cI aK K) := by rw [eT1]; exact hD
  refine lv_aload_n hx hb dX4_changeMan_7 rfl (lv_at hl 0 rfl) ?_
  refine va_get (D := (dC, dI)) (ci := 4) (v := .ref (aT 4)) (C := RX4) (T := TX4) (N := 8) hx hb hts hin4 hown hK hP 0 rfl rfl 4 (by decide) (hts (.fieldLink RX4 25 "UnderLadders$Street" "manGold" "[I") (by decide +kernel)) (fun _ h9 => h9) rfl dX4_changeMan_8 ?_
  refine lv_iload_n hx hb dX4_changeMan_11 rfl (lv_at hl 1 rfl) ?_
  refine lv_iconst (v := 0) hx hb dX4_changeMan_12 (by decide) ?_
  obtain ⟨hi4, h⟩ := ul_st_h h
  refine va_iast hx hb hK hP hD hS 4 0 rfl rfl hi4 dX4_changeMan_13 (fun H locs hP hD hS => ?_)
  obtain ⟨T3, eT3⟩ : ∃ z : ul_S, z = ul_up T1 4 p1.toNatClampNeg (0 : Int32) := ⟨_, rfl⟩
  have h := h T3 eT3
  have hP : va_P (dC, dI) classes (ul_wS cI aT (aK 0) T3 ++ ul_wK cI aK K) H := by rw [eT3]; exact hP
  have hD : va_D A (ul_wS cI aT (aK 0) T3 ++ ul_wK cI aK K) := by rw [eT3]; exact hD
  have hr9 := hK0 T3 h
  subst hr9
  exact W.vret hx hb hr (fun t ht hW => ⟨⟨(), rfl, trivial, by rw [ht]; exact hP, va_K.moved hW.alike hK, hD⟩, hS.F ht⟩) hS.2.2 dX4_changeMan_14
def f_X4_begin_j121 (K : ul_S) (x1 : Int32) (T__121 : ul_S) : Option ul_S :=
  ul_bd (ul_up T__121 0 0 (0 : Int32)) fun T1 => some T1
def f_X4_begin_L74 (K : ul_S) (q74 : (Int32 × ul_S)) : Option ((Int32 × ul_S) ⊕ (Int32 × ul_S)) :=
  if (K 0 1) ≤ q74.1 then (some (.inl (q74.1, q74.2))) else (ul_ld (K 4) 5 q74.1 fun v4 => ul_st q74.2 5 5 q74.1 v4 fun T6 => ul_ld (K 6) 5 q74.1 fun v8 => ul_st T6 6 5 q74.1 v8 fun T10 => ul_bd (q74.1 + 1) fun v12 => some (.inr (v12, T10)))
def f_X4_begin_j72 (K : ul_S) (x1 : Int32) (T__72 : ul_S) : Option ul_S :=
  (ul_it ul_N (f_X4_begin_L74 K) ((0 : Int32), T__72)).bind (fun e74 => f_X4_begin_j121 K e74.1 e74.2)
def f_X4_begin_L24 (K : ul_S) (q24 : (Int32 × ul_S)) : Option ((Int32 × ul_S) ⊕ (Int32 × ul_S)) :=
  if (K 0 0) ≤ q24.1 then (some (.inl (q24.1, q24.2))) else (ul_ld (K 1) 4 q24.1 fun v44 => ul_st q24.2 1 4 q24.1 v44 fun T46 => ul_ld (T46 1) 4 q24.1 fun v48 => (f_X4_mark T46 v48 q24.1).bind fun u50 => (f_X4_changeMan u50 q24.1).bind fun u51 => ul_bd (q24.1 + 1) fun v52 => some (.inr (v52, u51)))
def f_X4_begin_j22 (K : ul_S) (x1 : Int32) (T__22 : ul_S) : Option ul_S :=
  (ul_it ul_N (f_X4_begin_L24 K) ((0 : Int32), T__22)).bind (fun e24 => f_X4_begin_j72 K e24.1 e24.2)
def f_X4_begin_L2 (K : ul_S) (q2 : (Int32 × ul_S)) : Option ((Int32 × ul_S) ⊕ (Int32 × ul_S)) :=
  if (10 : Int32) ≤ q2.1 then (some (.inl (q2.1, q2.2))) else (ul_st q2.2 2 10 q2.1 (-9 : Int32) fun T84 => ul_bd (q2.1 + 1) fun v86 => some (.inr (v86, T84)))
def f_X4_begin (T : ul_S) (K : ul_S) : Option ul_S :=
  (ul_it ul_N (f_X4_begin_L2 K) ((0 : Int32), T)).bind (fun e2 => f_X4_begin_j22 K e2.1 e2.2)
set_option maxHeartbeats 4000000 in
set_option maxRecDepth 100000 in
theorem c_X4_begin (l : Launch) (dC : Nat → ClassId) (dI : Nat → Nat → Nat) (cI : ClassId) (aT : Nat → Nat) (aK : Nat → Nat) (sz : Nat) (T : ul_S) (K : ul_S) (r : ul_S) (h : f_X4_begin T K = some r) : Met l yX4_begin wsX4_begin ({ frames := 2, cells := 0, slots := 0, locals := 42 }) (va_Pc [.ref (aT 0)] (ul_pre (dC, dI) [(cI, .int)] ul_NX sz (ul_wS cI aT (aK 0) T ++ ul_wK cI aK K))) (va_Qv (fun (_ : Unit) => True) (fun _ => ul_post (dC, dI) [(cI, .int)] (va_A (ul_wS cI aT (aK 0) T ++ ul_wK cI aK K) sz) (ul_wS cI aT (aK 0) r ++ ul_wK cI aK K)) (va_A (ul_wS cI aT (aK 0) T ++ ul_wK cI aK K) sz)) 0 0 (va_A (ul_wS cI aT (aK 0) T ++ ul_wK cI aK K) sz) := by
  refine Met.ofW (cc := cX4_begin) (maxL := 2) (ret := none) (by decide) rfl ?_
  intro p e s m args below meth c s₁ B hml hv
  obtain ⟨rfl, hsz, hP, hK, hD0, hN⟩ := hv
  have hx := B.exec
  have hb := B.bytes
  have hr := B.returns
  have hts := atoms_spec (ws := wsX4_begin) B.pre
  have hown : s.vm.findClass RX4 = some m.cls := findClass_of_methodNamed B.named
  have hlocks := B.notSynchronized
  have hin2 : ∀ w ∈ u_ws RX2 TX2 9, w ∈ wsX4_begin := by decide +kernel
  have hin4 : ∀ w ∈ u_ws RX4 TX4 8, w ∈ wsX4_begin := by decide +kernel
  subst hsz
  have hD := hD0.self (sz := s.heap.size)
  generalize hAe : va_A (ul_wS cI aT (aK 0) T ++ ul_wK cI aK K) s.heap.size = A at hD hN ⊢
  have hA : ∀ q : Nat, s.heap.size ≤ q → A q := fun q h => by rw [← hAe]; exact Or.inr h
  have hS : va_S A s.heap s.heap [] := va_S.rf
  have hl := lv_entry ([.ref (aT 0)]) (n := 2) (Nat.le_of_ble_eq_true rfl)
  rw [lg_entry_eq]
  generalize (lg_sl ([.ref (aT 0)]) ++ List.replicate (2 - (lg_sl ([.ref (aT 0)])).length) Slot.unset).toArray = ls at hl ⊢
  have hl : lv_has ls 2 [(0, .ref (aT 0))] := hl
  obtain ⟨K0, hK0, h⟩ := ul_top h
  unfold f_X4_begin at h
  refine ul_gen (fun G gi ge => ?_)
  obtain ⟨H, eH⟩ : ∃ z, z = s.heap := ⟨_, rfl⟩
  obtain ⟨locs, eL⟩ : ∃ z : List Loc, z = [] := ⟨_, rfl⟩
  have hP : va_P (dC, dI) classes (ul_wS cI aT (aK 0) T ++ ul_wK cI aK K) H := by rw [eH]; exact hP
  have hS : va_S A s.heap H locs := by rw [eH, eL]; exact hS
  rw [← eL]
  refine (show G H locs (F0 m 0 ls []) → G s.heap locs (F0 m 0 ls []) from fun z => by rw [← eH]; exact z) ?_
  have J121 : ∀ (x1 : Int32) (T__121 : ul_S) (H : Heap) (locs : List Loc), ul_H (dC, dI) A s.heap (ul_wS cI aT (aK 0) T__121 ++ ul_wK cI aK K) H locs → ∀ ls : Array Slot, lv_has ls 2 [(0, .ref (aT 0)), (1, .int x1)] → (f_X4_begin_j121 K x1 T__121).bind K0 = some r → G H locs (F0 m 121 ls []) := by
    intro x1 T__121 H locs hw ls hl h
    obtain ⟨hP, hD, hS⟩ := hw
    unfold f_X4_begin_j121 at h
    refine gi _ _ _ ?_
    refine lv_aload_n hx hb dX4_begin_121 rfl (lv_at hl 0 rfl) ?_
    refine lv_iconst (v := 0) hx hb dX4_begin_122 (by decide) ?_
    refine va_put (D := (dC, dI)) (ci := 4) (v := .int (0 : Int32)) (ty := .int) (C := RX4) (T := TX4) (N := 8) hx hb hts hin4 tyX4 tyX4_ok nmX4 hown hK hP hD hS 0 rfl rfl 7 (by decide) (hts (.fieldLink RX4 60 "UnderLadders$Street" "days" "I") (by decide +kernel)) (fun _ h9 => h9) rfl (by decide +kernel) rfl rfl (Nat.le_of_ble_eq_true rfl) dX4_begin_123 (fun H locs hP hD hS => ?_)
    obtain ⟨T2, eT2⟩ : ∃ z : ul_S, z = ul_up T__121 0 0 (0 : Int32) := ⟨_, rfl⟩
    have h := ul_bd_h h T2 eT2
    have hP : va_P (dC, dI) classes (ul_wS cI aT (aK 0) T2 ++ ul_wK cI aK K) H := by rw [eT2]; exact hP
    have hD : va_D A (ul_wS cI aT (aK 0) T2 ++ ul_wK cI aK K) := by rw [eT2]; exact hD
    have hr9 := hK0 T2 h
    subst hr9
    exact W.vret hx hb hr (fun t ht hW => ⟨⟨(), rfl, trivial, by rw [ht]; exact hP, va_K.moved hW.alike hK, hD⟩, hS.F ht⟩) hS.2.2 dX4_begin_126
  have J72 : ∀ (x1 : Int32) (T__72 : ul_S) (H : Heap) (locs : List Loc), ul_H (dC, dI) A s.heap (ul_wS cI aT (aK 0) T__72 ++ ul_wK cI aK K) H locs → ∀ ls : Array Slot, lv_has ls 2 [(0, .ref (aT 0)), (1, .int x1)] → (f_X4_begin_j72 K x1 T__72).bind K0 = some r → G H locs (F0 m 72 ls []) := by
    intro x1 T__72 H locs hw ls hl h
    obtain ⟨hP, hD, hS⟩ := hw
    unfold f_X4_begin_j72 at h
    refine gi _ _ _ ?_
    refine lv_iconst (v := 0) hx hb dX4_begin_72 (by decide) ?_
    refine lv_istore_n (lv' := [(1, .int (0 : Int32)), (0, .ref (aT 0))]) hx hb dX4_begin_73 rfl hl (by decide) rfl (fun ls hl => ?_)
    refine ge _ _ _ (ul_loop (P := fun q74 => ∀ (H : Heap) (locs : List Loc), ul_H (dC, dI) A s.heap (ul_wS cI aT (aK 0) q74.2 ++ ul_wK cI aK K) H locs → ∀ ls : Array Slot, lv_has ls 2 [(0, .ref (aT 0)), (1, .int q74.1)] → G H locs (F0 m 74 ls [])) ?_ _ _ (ul_it_h h) H locs ⟨hP, hD, hS⟩ ls (lv_sub hl [1, 0] rfl))
    intro K74 hx74
    intro q74 ih74 h H locs hw ls hl
    obtain ⟨hP, hD, hS⟩ := hw
    unfold f_X4_begin_L74 at h
    refine gi _ _ _ ?_
    refine lv_iload_n hx hb dX4_begin_74 rfl (lv_at hl 1 rfl) ?_
    refine lv_aload_n hx hb dX4_begin_75 rfl (lv_at hl 0 rfl) ?_
    refine va_get (D := (dC, dI)) (ci := 4) (v := .ref (aK 0)) (C := RX4) (T := TX4) (N := 8) hx hb hts hin4 hown hK hP 0 rfl rfl 0 (by decide) (hts (.fieldLink RX4 9 "UnderLadders$Street" "fixed" "LUnderLadders$Market;") (by decide +kernel)) (fun _ h9 => h9) rfl dX4_begin_76 ?_
    refine va_getN (D := (dC, dI)) (ci := 2) (v := .int (K 0 1)) (C := RX2) (T := TX2) (N := 9) hx hb hts hin2 hown hK hP 7 rfl rfl 8 (by decide) (va_Nw.use rfl (hN.1 (RX4, 51, "UnderLadders$Market", "people", "I") (by decide +kernel))) (fun _ h9 => h9) rfl dX4_begin_79 ?_
    refine lv_icmp_ge (tgt := 121) hx hb dX4_begin_82 (by decide) (fun hc33 => ?_) (fun hc33 => ?_)
    · have h := ul_if_t hc33 h
      exact ge _ _ _ (J121 q74.1 q74.2 H locs ⟨hP, hD, hS⟩ ls (lv_sub hl [0, 1] rfl) (hx74 (q74.1, q74.2) h))
    · have h := ul_if_f hc33 h
      refine lv_aload_n hx hb dX4_begin_85 rfl (lv_at hl 0 rfl) ?_
      refine va_get (D := (dC, dI)) (ci := 4) (v := .ref (aT 5)) (C := RX4) (T := TX4) (N := 8) hx hb hts hin4 hown hK hP 0 rfl rfl 5 (by decide) (hts (.fieldLink RX4 28 "UnderLadders$Street" "where" "[I") (by decide +kernel)) (fun _ h9 => h9) rfl dX4_begin_86 ?_
      refine lv_iload_n hx hb dX4_begin_89 rfl (lv_at hl 1 rfl) ?_
      refine lv_aload_n hx hb dX4_begin_90 rfl (lv_at hl 0 rfl) ?_
      refine va_get (D := (dC, dI)) (ci := 4) (v := .ref (aK 0)) (C := RX4) (T := TX4) (N := 8) hx hb hts hin4 hown hK hP 0 rfl rfl 0 (by decide) (hts (.fieldLink RX4 9 "UnderLadders$Street" "fixed" "LUnderLadders$Market;") (by decide +kernel)) (fun _ h9 => h9) rfl dX4_begin_91 ?_
      refine va_getN (D := (dC, dI)) (ci := 2) (v := .ref (aK 4)) (C := RX2) (T := TX2) (N := 9) hx hb hts hin2 hown hK hP 7 rfl rfl 3 (by decide) (va_Nw.use rfl (hN.1 (RX4, 54, "UnderLadders$Market", "home", "[I") (by decide +kernel))) (fun _ h9 => h9) rfl dX4_begin_94 ?_
      refine lv_iload_n hx hb dX4_begin_97 rfl (lv_at hl 1 rfl) ?_
      obtain ⟨hi35, h⟩ := ul_ld_h h
      refine va_iald hx hb hK hP 11 0 rfl rfl hi35 dX4_begin_98 ?_
      refine lv_topi (fun v34 ev34 => ?_)
      have h := h v34 ev34
      obtain ⟨hi37, h⟩ := ul_st_h h
      refine va_iast hx hb hK hP hD hS 5 0 rfl rfl hi37 dX4_begin_99 (fun H locs hP hD hS => ?_)
      obtain ⟨T36, eT36⟩ : ∃ z : ul_S, z = ul_up q74.2 5 q74.1.toNatClampNeg v34 := ⟨_, rfl⟩
      have h := h T36 eT36
      have hP : va_P (dC, dI) classes (ul_wS cI aT (aK 0) T36 ++ ul_wK cI aK K) H := by rw [eT36]; exact hP
      have hD : va_D A (ul_wS cI aT (aK 0) T36 ++ ul_wK cI aK K) := by rw [eT36]; exact hD
      refine lv_aload_n hx hb dX4_begin_100 rfl (lv_at hl 0 rfl) ?_
      refine va_get (D := (dC, dI)) (ci := 4) (v := .ref (aT 6)) (C := RX4) (T := TX4) (N := 8) hx hb hts hin4 hown hK hP 0 rfl rfl 6 (by decide) (hts (.fieldLink RX4 31 "UnderLadders$Street" "ownLuck" "[I") (by decide +kernel)) (fun _ h9 => h9) rfl dX4_begin_101 ?_
      refine lv_iload_n hx hb dX4_begin_104 rfl (lv_at hl 1 rfl) ?_
      refine lv_aload_n hx hb dX4_begin_105 rfl (lv_at hl 0 rfl) ?_
      refine va_get (D := (dC, dI)) (ci := 4) (v := .ref (aK 0)) (C := RX4) (T := TX4) (N := 8) hx hb hts hin4 hown hK hP 0 rfl rfl 0 (by decide) (hts (.fieldLink RX4 9 "UnderLadders$Street" "fixed" "LUnderLadders$Market;") (by decide +kernel)) (fun _ h9 => h9) rfl dX4_begin_106 ?_
      refine va_getN (D := (dC, dI)) (ci := 2) (v := .ref (aK 6)) (C := RX2) (T := TX2) (N := 9) hx hb hts hin2 hown hK hP 7 rfl rfl 5 (by decide) (va_Nw.use rfl (hN.1 (RX4, 57, "UnderLadders$Market", "firstLuck", "[I") (by decide +kernel))) (fun _ h9 => h9) rfl dX4_begin_109 ?_
      refine lv_iload_n hx hb dX4_begin_112 rfl (lv_at hl 1 rfl) ?_
      obtain ⟨hi39, h⟩ := ul_ld_h h
      refine va_iald hx hb hK hP 13 0 rfl rfl hi39 dX4_begin_113 ?_
      refine lv_topi (fun v38 ev38 => ?_)
      have h := h v38 ev38
      obtain ⟨hi41, h⟩ := ul_st_h h
      refine va_iast hx hb hK hP hD hS 6 0 rfl rfl hi41 dX4_begin_114 (fun H locs hP hD hS => ?_)
      obtain ⟨T40, eT40⟩ : ∃ z : ul_S, z = ul_up T36 6 q74.1.toNatClampNeg v38 := ⟨_, rfl⟩
      have h := h T40 eT40
      have hP : va_P (dC, dI) classes (ul_wS cI aT (aK 0) T40 ++ ul_wK cI aK K) H := by rw [eT40]; exact hP
      have hD : va_D A (ul_wS cI aT (aK 0) T40 ++ ul_wK cI aK K) := by rw [eT40]; exact hD
      obtain ⟨v42, ev42⟩ : ∃ z : Int32, z = q74.1 + 1 := ⟨_, rfl⟩
      have h := ul_bd_h h v42 ev42
      refine lv_iinc (v := v42) (lv' := [(1, .int v42), (0, .ref (aT 0))]) hx hb dX4_begin_115 hl (k := 1) rfl (by rw [ev42]; rfl) (by decide) rfl (fun ls hl => ?_)
      refine lv_goto (tgt := 74) hx hb dX4_begin_118 (by decide) ?_
      exact ge _ _ _ (ih74 (v42, T40) h H locs ⟨hP, hD, hS⟩ ls (lv_sub hl [1, 0] rfl))
  have J22 : ∀ (x1 : Int32) (T__22 : ul_S) (H : Heap) (locs : List Loc), ul_H (dC, dI) A s.heap (ul_wS cI aT (aK 0) T__22 ++ ul_wK cI aK K) H locs → ∀ ls : Array Slot, lv_has ls 2 [(0, .ref (aT 0)), (1, .int x1)] → (f_X4_begin_j22 K x1 T__22).bind K0 = some r → G H locs (F0 m 22 ls []) := by
    intro x1 T__22 H locs hw ls hl h
    obtain ⟨hP, hD, hS⟩ := hw
    unfold f_X4_begin_j22 at h
    refine gi _ _ _ ?_
    refine lv_iconst (v := 0) hx hb dX4_begin_22 (by decide) ?_
    refine lv_istore_n (lv' := [(1, .int (0 : Int32)), (0, .ref (aT 0))]) hx hb dX4_begin_23 rfl hl (by decide) rfl (fun ls hl => ?_)
    refine ge _ _ _ (ul_loop (P := fun q24 => ∀ (H : Heap) (locs : List Loc), ul_H (dC, dI) A s.heap (ul_wS cI aT (aK 0) q24.2 ++ ul_wK cI aK K) H locs → ∀ ls : Array Slot, lv_has ls 2 [(0, .ref (aT 0)), (1, .int q24.1)] → G H locs (F0 m 24 ls [])) ?_ _ _ (ul_it_h h) H locs ⟨hP, hD, hS⟩ ls (lv_sub hl [1, 0] rfl))
    intro K24 hx24
    intro q24 ih24 h H locs hw ls hl
    obtain ⟨hP, hD, hS⟩ := hw
    unfold f_X4_begin_L24 at h
    refine gi _ _ _ ?_
    refine lv_iload_n hx hb dX4_begin_24 rfl (lv_at hl 1 rfl) ?_
    refine lv_aload_n hx hb dX4_begin_25 rfl (lv_at hl 0 rfl) ?_
    refine va_get (D := (dC, dI)) (ci := 4) (v := .ref (aK 0)) (C := RX4) (T := TX4) (N := 8) hx hb hts hin4 hown hK hP 0 rfl rfl 0 (by decide) (hts (.fieldLink RX4 9 "UnderLadders$Street" "fixed" "LUnderLadders$Market;") (by decide +kernel)) (fun _ h9 => h9) rfl dX4_begin_26 ?_
    refine va_getN (D := (dC, dI)) (ci := 2) (v := .int (K 0 0)) (C := RX2) (T := TX2) (N := 9) hx hb hts hin2 hown hK hP 7 rfl rfl 7 (by decide) (va_Nw.use rfl (hN.1 (RX4, 34, "UnderLadders$Market", "ladders", "I") (by decide +kernel))) (fun _ h9 => h9) rfl dX4_begin_29 ?_
    refine lv_icmp_ge (tgt := 72) hx hb dX4_begin_32 (by decide) (fun hc73 => ?_) (fun hc73 => ?_)
    · have h := ul_if_t hc73 h
      exact ge _ _ _ (J72 q24.1 q24.2 H locs ⟨hP, hD, hS⟩ ls (lv_sub hl [0, 1] rfl) (hx24 (q24.1, q24.2) h))
    · have h := ul_if_f hc73 h
      refine lv_aload_n hx hb dX4_begin_35 rfl (lv_at hl 0 rfl) ?_
      refine va_get (D := (dC, dI)) (ci := 4) (v := .ref (aT 1)) (C := RX4) (T := TX4) (N := 8) hx hb hts hin4 hown hK hP 0 rfl rfl 1 (by decide) (hts (.fieldLink RX4 15 "UnderLadders$Street" "stand" "[I") (by decide +kernel)) (fun _ h9 => h9) rfl dX4_begin_36 ?_
      refine lv_iload_n hx hb dX4_begin_39 rfl (lv_at hl 1 rfl) ?_
      refine lv_aload_n hx hb dX4_begin_40 rfl (lv_at hl 0 rfl) ?_
      refine va_get (D := (dC, dI)) (ci := 4) (v := .ref (aK 0)) (C := RX4) (T := TX4) (N := 8) hx hb hts hin4 hown hK hP 0 rfl rfl 0 (by decide) (hts (.fieldLink RX4 9 "UnderLadders$Street" "fixed" "LUnderLadders$Market;") (by decide +kernel)) (fun _ h9 => h9) rfl dX4_begin_41 ?_
      refine va_getN (D := (dC, dI)) (ci := 2) (v := .ref (aK 1)) (C := RX2) (T := TX2) (N := 9) hx hb hts hin2 hown hK hP 7 rfl rfl 0 (by decide) (va_Nw.use rfl (hN.1 (RX4, 40, "UnderLadders$Market", "firstStand", "[I") (by decide +kernel))) (fun _ h9 => h9) rfl dX4_begin_44 ?_
      refine lv_iload_n hx hb dX4_begin_47 rfl (lv_at hl 1 rfl) ?_
      obtain ⟨hi75, h⟩ := ul_ld_h h
      refine va_iald hx hb hK hP 8 0 rfl rfl hi75 dX4_begin_48 ?_
      refine lv_topi (fun v74 ev74 => ?_)
      have h := h v74 ev74
      obtain ⟨hi77, h⟩ := ul_st_h h
      refine va_iast hx hb hK hP hD hS 1 0 rfl rfl hi77 dX4_begin_49 (fun H locs hP hD hS => ?_)
      obtain ⟨T76, eT76⟩ : ∃ z : ul_S, z = ul_up q24.2 1 q24.1.toNatClampNeg v74 := ⟨_, rfl⟩
      have h := h T76 eT76
      have hP : va_P (dC, dI) classes (ul_wS cI aT (aK 0) T76 ++ ul_wK cI aK K) H := by rw [eT76]; exact hP
      have hD : va_D A (ul_wS cI aT (aK 0) T76 ++ ul_wK cI aK K) := by rw [eT76]; exact hD
      refine lv_aload_n hx hb dX4_begin_50 rfl (lv_at hl 0 rfl) ?_
      refine lv_aload_n hx hb dX4_begin_51 rfl (lv_at hl 0 rfl) ?_
      refine va_get (D := (dC, dI)) (ci := 4) (v := .ref (aT 1)) (C := RX4) (T := TX4) (N := 8) hx hb hts hin4 hown hK hP 0 rfl rfl 1 (by decide) (hts (.fieldLink RX4 15 "UnderLadders$Street" "stand" "[I") (by decide +kernel)) (fun _ h9 => h9) rfl dX4_begin_52 ?_
      refine lv_iload_n hx hb dX4_begin_55 rfl (lv_at hl 1 rfl) ?_
      obtain ⟨hi79, h⟩ := ul_ld_h h
      refine va_iald hx hb hK hP 1 0 rfl rfl hi79 dX4_begin_56 ?_
      refine lv_topi (fun v78 ev78 => ?_)
      have h := h v78 ev78
      refine lv_iload_n hx hb dX4_begin_57 rfl (lv_at hl 1 rfl) ?_
      obtain ⟨u80, hu80, h⟩ := ul_cl_h h
      refine ul_cVv (As := [.int v78, .int q24.1]) (rest := []) (wc' := (ul_wS cI aT (aK 0) u80 ++ ul_wK cI aK K)) (wr := []) hP hD hS hK hA [0, 1, 2, 3, 4, 5, 6, 7, 8, 9, 10, 11, 12, 13, 14] [] [0] ul_NX_ok hN (c_X4_mark l dC dI cI aT aK H.size T76 K v78 q24.1 u80 hu80) rfl rfl (by decide) rfl (by decide) (by decide) rfl ⟨hx, hb, hml, hown, hts⟩ (cwV 2 hts gX4_begin_X4_mark rfl rfl rfl (by decide +kernel) ⟨Nat.le_of_ble_eq_true rfl, Nat.le_of_ble_eq_true rfl⟩) (va_recv hK hP (ci := 4) (q0 := 0) rfl rfl) rfl hl.1 rfl (Nat.le_of_ble_eq_true rfl) dX4_begin_58 (fun H locs hw => ?_)
      obtain ⟨hP, hD, hS⟩ := hw
      have hP : va_P (dC, dI) classes (ul_wS cI aT (aK 0) u80 ++ ul_wK cI aK K) H := hP
      have hD : va_D A (ul_wS cI aT (aK 0) u80 ++ ul_wK cI aK K) := hD
      refine lv_aload_n hx hb dX4_begin_61 rfl (lv_at hl 0 rfl) ?_
      refine lv_iload_n hx hb dX4_begin_62 rfl (lv_at hl 1 rfl) ?_
      obtain ⟨u81, hu81, h⟩ := ul_cl_h h
      refine ul_cVv (As := [.int q24.1]) (rest := []) (wc' := (ul_wS cI aT (aK 0) u81 ++ ul_wK cI aK K)) (wr := []) hP hD hS hK hA [0, 1, 2, 3, 4, 5, 6, 7, 8, 9, 10, 11, 12, 13, 14] [] [0] ul_NX_ok hN (c_X4_changeMan l dC dI cI aT aK H.size u80 K q24.1 u81 hu81) rfl rfl (by decide) rfl (by decide) (by decide) rfl ⟨hx, hb, hml, hown, hts⟩ (cwV 1 hts gX4_begin_X4_changeMan rfl rfl rfl (by decide +kernel) ⟨Nat.le_of_ble_eq_true rfl, Nat.le_of_ble_eq_true rfl⟩) (va_recv hK hP (ci := 4) (q0 := 0) rfl rfl) rfl hl.1 rfl (Nat.le_of_ble_eq_true rfl) dX4_begin_63 (fun H locs hw => ?_)
      obtain ⟨hP, hD, hS⟩ := hw
      have hP : va_P (dC, dI) classes (ul_wS cI aT (aK 0) u81 ++ ul_wK cI aK K) H := hP
      have hD : va_D A (ul_wS cI aT (aK 0) u81 ++ ul_wK cI aK K) := hD
      obtain ⟨v82, ev82⟩ : ∃ z : Int32, z = q24.1 + 1 := ⟨_, rfl⟩
      have h := ul_bd_h h v82 ev82
      refine lv_iinc (v := v82) (lv' := [(1, .int v82), (0, .ref (aT 0))]) hx hb dX4_begin_66 hl (k := 1) rfl (by rw [ev82]; rfl) (by decide) rfl (fun ls hl => ?_)
      refine lv_goto (tgt := 24) hx hb dX4_begin_69 (by decide) ?_
      exact ge _ _ _ (ih24 (v82, u81) h H locs ⟨hP, hD, hS⟩ ls (lv_sub hl [1, 0] rfl))
  refine gi _ _ _ ?_
  refine lv_iconst (v := 0) hx hb dX4_begin_0 (by decide) ?_
  refine lv_istore_n (lv' := [(1, .int (0 : Int32)), (0, .ref (aT 0))]) hx hb dX4_begin_1 rfl hl (by decide) rfl (fun ls hl => ?_)
  refine ge _ _ _ (ul_loop (P := fun q2 => ∀ (H : Heap) (locs : List Loc), ul_H (dC, dI) A s.heap (ul_wS cI aT (aK 0) q2.2 ++ ul_wK cI aK K) H locs → ∀ ls : Array Slot, lv_has ls 2 [(0, .ref (aT 0)), (1, .int q2.1)] → G H locs (F0 m 2 ls [])) ?_ _ _ (ul_it_h h) H locs ⟨hP, hD, hS⟩ ls (lv_sub hl [1, 0] rfl))
  intro K2 hx2
  intro q2 ih2 h H locs hw ls hl
  obtain ⟨hP, hD, hS⟩ := hw
  unfold f_X4_begin_L2 at h
  refine gi _ _ _ ?_
  refine lv_iload_n hx hb dX4_begin_2 rfl (lv_at hl 1 rfl) ?_
  refine lv_bipush (v := 10) hx hb dX4_begin_3 (by decide) ?_
  refine lv_icmp_ge (tgt := 22) hx hb dX4_begin_5 (by decide) (fun hc87 => ?_) (fun hc87 => ?_)
  · have h := ul_if_t hc87 h
    exact ge _ _ _ (J22 q2.1 q2.2 H locs ⟨hP, hD, hS⟩ ls (lv_sub hl [0, 1] rfl) (hx2 (q2.1, q2.2) h))
  · have h := ul_if_f hc87 h
    refine lv_aload_n hx hb dX4_begin_8 rfl (lv_at hl 0 rfl) ?_
    refine va_get (D := (dC, dI)) (ci := 4) (v := .ref (aT 2)) (C := RX4) (T := TX4) (N := 8) hx hb hts hin4 hown hK hP 0 rfl rfl 2 (by decide) (hts (.fieldLink RX4 19 "UnderLadders$Street" "standing" "[I") (by decide +kernel)) (fun _ h9 => h9) rfl dX4_begin_9 ?_
    refine lv_iload_n hx hb dX4_begin_12 rfl (lv_at hl 1 rfl) ?_
    refine lv_bipush (v := -9) hx hb dX4_begin_13 (by decide) ?_
    obtain ⟨hi89, h⟩ := ul_st_h h
    refine va_iast hx hb hK hP hD hS 2 0 rfl rfl hi89 dX4_begin_15 (fun H locs hP hD hS => ?_)
    obtain ⟨T88, eT88⟩ : ∃ z : ul_S, z = ul_up q2.2 2 q2.1.toNatClampNeg (-9 : Int32) := ⟨_, rfl⟩
    have h := h T88 eT88
    have hP : va_P (dC, dI) classes (ul_wS cI aT (aK 0) T88 ++ ul_wK cI aK K) H := by rw [eT88]; exact hP
    have hD : va_D A (ul_wS cI aT (aK 0) T88 ++ ul_wK cI aK K) := by rw [eT88]; exact hD
    obtain ⟨v90, ev90⟩ : ∃ z : Int32, z = q2.1 + 1 := ⟨_, rfl⟩
    have h := ul_bd_h h v90 ev90
    refine lv_iinc (v := v90) (lv' := [(1, .int v90), (0, .ref (aT 0))]) hx hb dX4_begin_16 hl (k := 1) rfl (by rw [ev90]; rfl) (by decide) rfl (fun ls hl => ?_)
    refine lv_goto (tgt := 2) hx hb dX4_begin_19 (by decide) ?_
    exact ge _ _ _ (ih2 (v90, T88) h H locs ⟨hP, hD, hS⟩ ls (lv_sub hl [1, 0] rfl))
def f_X4_doDrawn_j44 (K : ul_S) (p1 : Int32) (x2 : Int32) (T__44 : ul_S) : Option ul_S :=
  some T__44
def f_X4_doDrawn (T : ul_S) (K : ul_S) (p1 : Int32) : Option ul_S :=
  if p1 < (15 : Int32) then (if p1 < (10 : Int32) then (if p1 < 0 then (some T) else (if (K 0 0) ≤ 0 then (some T) else ((f_X4_isFree T p1).bind fun u5 => if u5 = 0 then (some T) else ((f_X4_put T (0 : Int32) p1).bind fun u7 => some u7)))) else (ul_bd (p1 - (10 : Int32)) fun v8 => if (K 0 1) ≤ v8 then (f_X4_doDrawn_j44 K p1 v8 T) else ((f_X4_endow T v8 (1 : Int32)).bind fun u10 => f_X4_doDrawn_j44 K p1 v8 u10))) else ((f_X4_passDay T K (31 : Int32)).bind fun u11 => some u11.2)
set_option maxHeartbeats 4000000 in
set_option maxRecDepth 100000 in
theorem c_X4_doDrawn (l : Launch) (dC : Nat → ClassId) (dI : Nat → Nat → Nat) (cI : ClassId) (aT : Nat → Nat) (aK : Nat → Nat) (sz : Nat) (T : ul_S) (K : ul_S) (p1 : Int32) (r : ul_S) (h : f_X4_doDrawn T K p1 = some r) : Met l yX4_doDrawn wsX4_doDrawn ({ frames := 4, cells := 0, slots := 0, locals := 109 }) (va_Pc [.ref (aT 0), .int p1] (ul_pre (dC, dI) [(cI, .int)] ul_NX sz (ul_wS cI aT (aK 0) T ++ ul_wK cI aK K))) (va_Qv (fun (_ : Unit) => True) (fun _ => ul_post (dC, dI) [(cI, .int)] (va_A (ul_wS cI aT (aK 0) T ++ ul_wK cI aK K) sz) (ul_wS cI aT (aK 0) r ++ ul_wK cI aK K)) (va_A (ul_wS cI aT (aK 0) T ++ ul_wK cI aK K) sz)) 0 0 (va_A (ul_wS cI aT (aK 0) T ++ ul_wK cI aK K) sz) := by
  refine Met.ofW (cc := cX4_doDrawn) (maxL := 3) (ret := none) (by decide) rfl ?_
  intro p e s m args below meth c s₁ B hml hv
  obtain ⟨rfl, hsz, hP, hK, hD0, hN⟩ := hv
  have hx := B.exec
  have hb := B.bytes
  have hr := B.returns
  have hts := atoms_spec (ws := wsX4_doDrawn) B.pre
  have hown : s.vm.findClass RX4 = some m.cls := findClass_of_methodNamed B.named
  have hlocks := B.notSynchronized
  have hin2 : ∀ w ∈ u_ws RX2 TX2 9, w ∈ wsX4_doDrawn := by decide +kernel
  have hin4 : ∀ w ∈ u_ws RX4 TX4 8, w ∈ wsX4_doDrawn := by decide +kernel
  subst hsz
  have hD := hD0.self (sz := s.heap.size)
  generalize hAe : va_A (ul_wS cI aT (aK 0) T ++ ul_wK cI aK K) s.heap.size = A at hD hN ⊢
  have hA : ∀ q : Nat, s.heap.size ≤ q → A q := fun q h => by rw [← hAe]; exact Or.inr h
  have hS : va_S A s.heap s.heap [] := va_S.rf
  have hl := lv_entry ([.ref (aT 0), .int p1]) (n := 3) (Nat.le_of_ble_eq_true rfl)
  rw [lg_entry_eq]
  generalize (lg_sl ([.ref (aT 0), .int p1]) ++ List.replicate (3 - (lg_sl ([.ref (aT 0), .int p1])).length) Slot.unset).toArray = ls at hl ⊢
  have hl : lv_has ls 3 [(0, .ref (aT 0)), (1, .int p1)] := hl
  obtain ⟨K0, hK0, h⟩ := ul_top h
  unfold f_X4_doDrawn at h
  refine ul_gen (fun G gi ge => ?_)
  obtain ⟨H, eH⟩ : ∃ z, z = s.heap := ⟨_, rfl⟩
  obtain ⟨locs, eL⟩ : ∃ z : List Loc, z = [] := ⟨_, rfl⟩
  have hP : va_P (dC, dI) classes (ul_wS cI aT (aK 0) T ++ ul_wK cI aK K) H := by rw [eH]; exact hP
  have hS : va_S A s.heap H locs := by rw [eH, eL]; exact hS
  rw [← eL]
  refine (show G H locs (F0 m 0 ls []) → G s.heap locs (F0 m 0 ls []) from fun z => by rw [← eH]; exact z) ?_
  have J44 : ∀ (x2 : Int32) (T__44 : ul_S) (H : Heap) (locs : List Loc), ul_H (dC, dI) A s.heap (ul_wS cI aT (aK 0) T__44 ++ ul_wK cI aK K) H locs → ∀ ls : Array Slot, lv_has ls 3 [(0, .ref (aT 0)), (1, .int p1), (2, .int x2)] → (f_X4_doDrawn_j44 K p1 x2 T__44).bind K0 = some r → G H locs (F0 m 44 ls []) := by
    intro x2 T__44 H locs hw ls hl h
    obtain ⟨hP, hD, hS⟩ := hw
    unfold f_X4_doDrawn_j44 at h
    refine gi _ _ _ ?_
    refine lv_goto (tgt := 75) hx hb dX4_doDrawn_44 (by decide) ?_
    have hr9 := hK0 T__44 h
    subst hr9
    exact W.vret hx hb hr (fun t ht hW => ⟨⟨(), rfl, trivial, by rw [ht]; exact hP, va_K.moved hW.alike hK, hD⟩, hS.F ht⟩) hS.2.2 dX4_doDrawn_75
  refine gi _ _ _ ?_
  refine lv_iload_n hx hb dX4_doDrawn_0 rfl (lv_at hl 1 rfl) ?_
  refine lv_bipush (v := 15) hx hb dX4_doDrawn_1 (by decide) ?_
  refine lv_icmp_lt (tgt := 16) hx hb dX4_doDrawn_3 (by decide) (fun hc1 => ?_) (fun hc1 => ?_)
  · have h := ul_if_t hc1 h
    refine lv_iload_n hx hb dX4_doDrawn_16 rfl (lv_at hl 1 rfl) ?_
    refine lv_bipush (v := 10) hx hb dX4_doDrawn_17 (by decide) ?_
    refine lv_icmp_lt (tgt := 47) hx hb dX4_doDrawn_19 (by decide) (fun hc2 => ?_) (fun hc2 => ?_)
    · have h := ul_if_t hc2 h
      refine lv_iload_n hx hb dX4_doDrawn_47 rfl (lv_at hl 1 rfl) ?_
      refine lv_if_lt (tgt := 75) hx hb dX4_doDrawn_48 (by decide) (fun hc3 => ?_) (fun hc3 => ?_)
      · have h := ul_if_t hc3 h
        have hr9 := hK0 T h
        subst hr9
        exact W.vret hx hb hr (fun t ht hW => ⟨⟨(), rfl, trivial, by rw [ht]; exact hP, va_K.moved hW.alike hK, hD⟩, hS.F ht⟩) hS.2.2 dX4_doDrawn_75
      · have h := ul_if_f hc3 h
        refine lv_aload_n hx hb dX4_doDrawn_51 rfl (lv_at hl 0 rfl) ?_
        refine va_get (D := (dC, dI)) (ci := 4) (v := .ref (aK 0)) (C := RX4) (T := TX4) (N := 8) hx hb hts hin4 hown hK hP 0 rfl rfl 0 (by decide) (hts (.fieldLink RX4 9 "UnderLadders$Street" "fixed" "LUnderLadders$Market;") (by decide +kernel)) (fun _ h9 => h9) rfl dX4_doDrawn_52 ?_
        refine va_getN (D := (dC, dI)) (ci := 2) (v := .int (K 0 0)) (C := RX2) (T := TX2) (N := 9) hx hb hts hin2 hown hK hP 7 rfl rfl 7 (by decide) (va_Nw.use rfl (hN.1 (RX4, 34, "UnderLadders$Market", "ladders", "I") (by decide +kernel))) (fun _ h9 => h9) rfl dX4_doDrawn_55 ?_
        refine lv_if_le (tgt := 75) hx hb dX4_doDrawn_58 (by decide) (fun hc4 => ?_) (fun hc4 => ?_)
        · have h := ul_if_t hc4 h
          have hr9 := hK0 T h
          subst hr9
          exact W.vret hx hb hr (fun t ht hW => ⟨⟨(), rfl, trivial, by rw [ht]; exact hP, va_K.moved hW.alike hK, hD⟩, hS.F ht⟩) hS.2.2 dX4_doDrawn_75
        · have h := ul_if_f hc4 h
          refine lv_aload_n hx hb dX4_doDrawn_61 rfl (lv_at hl 0 rfl) ?_
          refine lv_iload_n hx hb dX4_doDrawn_62 rfl (lv_at hl 1 rfl) ?_
          obtain ⟨u5, hu5, h⟩ := ul_cl_h h
          refine ul_cVi (As := [.int p1]) (rest := []) (wc' := (ul_wS cI aT (aK 0) T ++ ul_wK cI aK K)) (wr := []) hP hD hS hK hA [0, 1, 2, 3, 4, 5, 6, 7, 8, 9, 10, 11, 12, 13, 14] [] [0] ul_NX_ok hN (c_X4_isFree l dC dI cI aT aK H.size T K p1 u5 hu5) rfl rfl (by decide) rfl (by decide) (by decide) rfl ⟨hx, hb, hml, hown, hts⟩ (cwV 1 hts gX4_doDrawn_X4_isFree rfl rfl rfl (by decide +kernel) ⟨Nat.le_of_ble_eq_true rfl, Nat.le_of_ble_eq_true rfl⟩) (va_recv hK hP (ci := 4) (q0 := 0) rfl rfl) rfl hl.1 rfl (Nat.le_of_ble_eq_true rfl) dX4_doDrawn_63 (fun H locs hw => ?_)
          obtain ⟨hP, hD, hS⟩ := hw
          have hP : va_P (dC, dI) classes (ul_wS cI aT (aK 0) T ++ ul_wK cI aK K) H := hP
          have hD : va_D A (ul_wS cI aT (aK 0) T ++ ul_wK cI aK K) := hD
          refine lv_if_eq (tgt := 75) hx hb dX4_doDrawn_66 (by decide) (fun hc6 => ?_) (fun hc6 => ?_)
          · have h := ul_if_t hc6 h
            have hr9 := hK0 T h
            subst hr9
            exact W.vret hx hb hr (fun t ht hW => ⟨⟨(), rfl, trivial, by rw [ht]; exact hP, va_K.moved hW.alike hK, hD⟩, hS.F ht⟩) hS.2.2 dX4_doDrawn_75
          · have h := ul_if_f hc6 h
            refine lv_aload_n hx hb dX4_doDrawn_69 rfl (lv_at hl 0 rfl) ?_
            refine lv_iconst (v := 0) hx hb dX4_doDrawn_70 (by decide) ?_
            refine lv_iload_n hx hb dX4_doDrawn_71 rfl (lv_at hl 1 rfl) ?_
            obtain ⟨u7, hu7, h⟩ := ul_cl_h h
            refine ul_cVv (As := [.int (0 : Int32), .int p1]) (rest := []) (wc' := (ul_wS cI aT (aK 0) u7 ++ ul_wK cI aK K)) (wr := []) hP hD hS hK hA [0, 1, 2, 3, 4, 5, 6, 7, 8, 9, 10, 11, 12, 13, 14] [] [0] ul_NX_ok hN (c_X4_put l dC dI cI aT aK H.size T K (0 : Int32) p1 u7 hu7) rfl rfl (by decide) rfl (by decide) (by decide) rfl ⟨hx, hb, hml, hown, hts⟩ (cwV 2 hts gX4_doDrawn_X4_put rfl rfl rfl (by decide +kernel) ⟨Nat.le_of_ble_eq_true rfl, Nat.le_of_ble_eq_true rfl⟩) (va_recv hK hP (ci := 4) (q0 := 0) rfl rfl) rfl hl.1 rfl (Nat.le_of_ble_eq_true rfl) dX4_doDrawn_72 (fun H locs hw => ?_)
            obtain ⟨hP, hD, hS⟩ := hw
            have hP : va_P (dC, dI) classes (ul_wS cI aT (aK 0) u7 ++ ul_wK cI aK K) H := hP
            have hD : va_D A (ul_wS cI aT (aK 0) u7 ++ ul_wK cI aK K) := hD
            have hr9 := hK0 u7 h
            subst hr9
            exact W.vret hx hb hr (fun t ht hW => ⟨⟨(), rfl, trivial, by rw [ht]; exact hP, va_K.moved hW.alike hK, hD⟩, hS.F ht⟩) hS.2.2 dX4_doDrawn_75
    · have h := ul_if_f hc2 h
      refine lv_iload_n hx hb dX4_doDrawn_22 rfl (lv_at hl 1 rfl) ?_
      refine lv_bipush (v := 10) hx hb dX4_doDrawn_23 (by decide) ?_
      refine lv_isub hx hb dX4_doDrawn_25 ?_
      refine lv_topi (fun v8 ev8 => ?_)
      have h := ul_bd_h h v8 ev8
      refine lv_istore_n (lv' := [(2, .int v8), (0, .ref (aT 0)), (1, .int p1)]) hx hb dX4_doDrawn_26 rfl hl (by decide) rfl (fun ls hl => ?_)
      refine lv_iload_n hx hb dX4_doDrawn_27 rfl (lv_at hl 0 rfl) ?_
      refine lv_aload_n hx hb dX4_doDrawn_28 rfl (lv_at hl 1 rfl) ?_
      refine va_get (D := (dC, dI)) (ci := 4) (v := .ref (aK 0)) (C := RX4) (T := TX4) (N := 8) hx hb hts hin4 hown hK hP 0 rfl rfl 0 (by decide) (hts (.fieldLink RX4 9 "UnderLadders$Street" "fixed" "LUnderLadders$Market;") (by decide +kernel)) (fun _ h9 => h9) rfl dX4_doDrawn_29 ?_
      refine va_getN (D := (dC, dI)) (ci := 2) (v := .int (K 0 1)) (C := RX2) (T := TX2) (N := 9) hx hb hts hin2 hown hK hP 7 rfl rfl 8 (by decide) (va_Nw.use rfl (hN.1 (RX4, 51, "UnderLadders$Market", "people", "I") (by decide +kernel))) (fun _ h9 => h9) rfl dX4_doDrawn_32 ?_
      refine lv_icmp_ge (tgt := 44) hx hb dX4_doDrawn_35 (by decide) (fun hc9 => ?_) (fun hc9 => ?_)
      · have h := ul_if_t hc9 h
        exact ge _ _ _ (J44 v8 T H locs ⟨hP, hD, hS⟩ ls (lv_sub hl [1, 2, 0] rfl) h)
      · have h := ul_if_f hc9 h
        refine lv_aload_n hx hb dX4_doDrawn_38 rfl (lv_at hl 1 rfl) ?_
        refine lv_iload_n hx hb dX4_doDrawn_39 rfl (lv_at hl 0 rfl) ?_
        refine lv_iconst (v := 1) hx hb dX4_doDrawn_40 (by decide) ?_
        obtain ⟨u10, hu10, h⟩ := ul_cl_h h
        refine ul_cVv (As := [.int v8, .int (1 : Int32)]) (rest := []) (wc' := (ul_wS cI aT (aK 0) u10 ++ ul_wK cI aK K)) (wr := []) hP hD hS hK hA [0, 1, 2, 3, 4, 5, 6, 7, 8, 9, 10, 11, 12, 13, 14] [] [0] ul_NX_ok hN (c_X4_endow l dC dI cI aT aK H.size T K v8 (1 : Int32) u10 hu10) rfl rfl (by decide) rfl (by decide) (by decide) rfl ⟨hx, hb, hml, hown, hts⟩ (cwV 2 hts gX4_doDrawn_X4_endow rfl rfl rfl (by decide +kernel) ⟨Nat.le_of_ble_eq_true rfl, Nat.le_of_ble_eq_true rfl⟩) (va_recv hK hP (ci := 4) (q0 := 0) rfl rfl) rfl hl.1 rfl (Nat.le_of_ble_eq_true rfl) dX4_doDrawn_41 (fun H locs hw => ?_)
        obtain ⟨hP, hD, hS⟩ := hw
        have hP : va_P (dC, dI) classes (ul_wS cI aT (aK 0) u10 ++ ul_wK cI aK K) H := hP
        have hD : va_D A (ul_wS cI aT (aK 0) u10 ++ ul_wK cI aK K) := hD
        exact ge _ _ _ (J44 v8 u10 H locs ⟨hP, hD, hS⟩ ls (lv_sub hl [1, 2, 0] rfl) h)
  · have h := ul_if_f hc1 h
    refine lv_aload_n hx hb dX4_doDrawn_6 rfl (lv_at hl 0 rfl) ?_
    refine lv_bipush (v := 31) hx hb dX4_doDrawn_7 (by decide) ?_
    obtain ⟨u11, hu11, h⟩ := ul_cl_h h
    refine ul_cVi (As := [.int (31 : Int32)]) (rest := []) (wc' := (ul_wS cI aT (aK 0) u11.2 ++ ul_wK cI aK K)) (wr := []) hP hD hS hK hA [0, 1, 2, 3, 4, 5, 6, 7, 8, 9, 10, 11, 12, 13, 14] [] [0] ul_NX_ok hN (c_X4_passDay l dC dI cI aT aK H.size T K (31 : Int32) u11 hu11) rfl rfl (by decide) rfl (by decide) (by decide) rfl ⟨hx, hb, hml, hown, hts⟩ (cwV 1 hts gX4_doDrawn_X4_passDay rfl rfl rfl (by decide +kernel) ⟨Nat.le_of_ble_eq_true rfl, Nat.le_of_ble_eq_true rfl⟩) (va_recv hK hP (ci := 4) (q0 := 0) rfl rfl) rfl hl.1 rfl (Nat.le_of_ble_eq_true rfl) dX4_doDrawn_9 (fun H locs hw => ?_)
    obtain ⟨hP, hD, hS⟩ := hw
    have hP : va_P (dC, dI) classes (ul_wS cI aT (aK 0) u11.2 ++ ul_wK cI aK K) H := hP
    have hD : va_D A (ul_wS cI aT (aK 0) u11.2 ++ ul_wK cI aK K) := hD
    refine lv_pop hx hb dX4_doDrawn_12 rfl ?_
    refine lv_goto (tgt := 75) hx hb dX4_doDrawn_13 (by decide) ?_
    have hr9 := hK0 u11.2 h
    subst hr9
    exact W.vret hx hb hr (fun t ht hW => ⟨⟨(), rfl, trivial, by rw [ht]; exact hP, va_K.moved hW.alike hK, hD⟩, hS.F ht⟩) hS.2.2 dX4_doDrawn_75
def f_X4_luckOfPeople_j30 (T : ul_S) (K : ul_S) (x1 : Int32) (x2 : Int32) : Option Int32 :=
  some x1
def f_X4_luckOfPeople_L4 (T : ul_S) (K : ul_S) (q4 : (Int32 × Int32)) : Option ((Int32 × Int32) ⊕ (Int32 × Int32)) :=
  if (K 0 1) ≤ q4.2 then (some (.inl (q4.1, q4.2))) else (ul_ld (T 6) 5 q4.2 fun v2 => ul_bd (q4.1 + v2) fun v4 => ul_bd (q4.2 + 1) fun v5 => some (.inr (v4, v5)))
def f_X4_luckOfPeople (T : ul_S) (K : ul_S) : Option Int32 :=
  (ul_it ul_N (f_X4_luckOfPeople_L4 T K) ((0 : Int32), (0 : Int32))).bind (fun e4 => f_X4_luckOfPeople_j30 T K e4.1 e4.2)
set_option maxHeartbeats 4000000 in
set_option maxRecDepth 100000 in
theorem c_X4_luckOfPeople (l : Launch) (dC : Nat → ClassId) (dI : Nat → Nat → Nat) (cI : ClassId) (aT : Nat → Nat) (aK : Nat → Nat) (sz : Nat) (T : ul_S) (K : ul_S) (r : Int32) (h : f_X4_luckOfPeople T K = some r) : Met l yX4_luckOfPeople wsX4_luckOfPeople ({ frames := 0, cells := 0, slots := 0, locals := 0 }) (va_Pc [.ref (aT 0)] (ul_pre (dC, dI) [(cI, .int)] ul_NX sz (ul_wS cI aT (aK 0) T ++ ul_wK cI aK K))) (va_Qi (fun v (_ : Unit) => v = r) (fun _ => ul_post (dC, dI) [(cI, .int)] (va_A (ul_wS cI aT (aK 0) T ++ ul_wK cI aK K) sz) (ul_wS cI aT (aK 0) T ++ ul_wK cI aK K)) (va_A (ul_wS cI aT (aK 0) T ++ ul_wK cI aK K) sz)) 0 0 (va_A (ul_wS cI aT (aK 0) T ++ ul_wK cI aK K) sz) := by
  refine Met.ofW (cc := cX4_luckOfPeople) (maxL := 3) (ret := (some .int)) (by decide) rfl ?_
  intro p e s m args below meth c s₁ B hml hv
  obtain ⟨rfl, hsz, hP, hK, hD0, hN⟩ := hv
  have hx := B.exec
  have hb := B.bytes
  have hr := B.returns
  have hts := atoms_spec (ws := wsX4_luckOfPeople) B.pre
  have hown : s.vm.findClass RX4 = some m.cls := findClass_of_methodNamed B.named
  have hlocks := B.notSynchronized
  have hin2 : ∀ w ∈ u_ws RX2 TX2 9, w ∈ wsX4_luckOfPeople := by decide +kernel
  have hin4 : ∀ w ∈ u_ws RX4 TX4 8, w ∈ wsX4_luckOfPeople := by decide +kernel
  subst hsz
  have hD := hD0.self (sz := s.heap.size)
  generalize hAe : va_A (ul_wS cI aT (aK 0) T ++ ul_wK cI aK K) s.heap.size = A at hD hN ⊢
  have hA : ∀ q : Nat, s.heap.size ≤ q → A q := fun q h => by rw [← hAe]; exact Or.inr h
  have hS : va_S A s.heap s.heap [] := va_S.rf
  have hl := lv_entry ([.ref (aT 0)]) (n := 3) (Nat.le_of_ble_eq_true rfl)
  rw [lg_entry_eq]
  generalize (lg_sl ([.ref (aT 0)]) ++ List.replicate (3 - (lg_sl ([.ref (aT 0)])).length) Slot.unset).toArray = ls at hl ⊢
  have hl : lv_has ls 3 [(0, .ref (aT 0))] := hl
  obtain ⟨K0, hK0, h⟩ := ul_top h
  unfold f_X4_luckOfPeople at h
  refine ul_gen (fun G gi ge => ?_)
  obtain ⟨H, eH⟩ : ∃ z, z = s.heap := ⟨_, rfl⟩
  obtain ⟨locs, eL⟩ : ∃ z : List Loc, z = [] := ⟨_, rfl⟩
  have hP : va_P (dC, dI) classes (ul_wS cI aT (aK 0) T ++ ul_wK cI aK K) H := by rw [eH]; exact hP
  have hS : va_S A s.heap H locs := by rw [eH, eL]; exact hS
  rw [← eL]
  refine (show G H locs (F0 m 0 ls []) → G s.heap locs (F0 m 0 ls []) from fun z => by rw [← eH]; exact z) ?_
  have J30 : ∀ (x1 : Int32) (x2 : Int32) (H : Heap) (locs : List Loc), ul_H (dC, dI) A s.heap (ul_wS cI aT (aK 0) T ++ ul_wK cI aK K) H locs → ∀ ls : Array Slot, lv_has ls 3 [(0, .ref (aT 0)), (1, .int x1), (2, .int x2)] → (f_X4_luckOfPeople_j30 T K x1 x2).bind K0 = some r → G H locs (F0 m 30 ls []) := by
    intro x1 x2 H locs hw ls hl h
    obtain ⟨hP, hD, hS⟩ := hw
    unfold f_X4_luckOfPeople_j30 at h
    refine gi _ _ _ ?_
    refine lv_iload_n hx hb dX4_luckOfPeople_30 rfl (lv_at hl 1 rfl) ?_
    have hr9 := hK0 x1 h
    subst hr9
    exact W.iret (v := x1) hx hb hr (fun t ht hW => ⟨⟨x1, (), rfl, rfl, by rw [ht]; exact hP, va_K.moved hW.alike hK, hD⟩, hS.F ht⟩) hS.2.2 dX4_luckOfPeople_31
  refine gi _ _ _ ?_
  refine lv_iconst (v := 0) hx hb dX4_luckOfPeople_0 (by decide) ?_
  refine lv_istore_n (lv' := [(1, .int (0 : Int32)), (0, .ref (aT 0))]) hx hb dX4_luckOfPeople_1 rfl hl (by decide) rfl (fun ls hl => ?_)
  refine lv_iconst (v := 0) hx hb dX4_luckOfPeople_2 (by decide) ?_
  refine lv_istore_n (lv' := [(2, .int (0 : Int32)), (1, .int (0 : Int32)), (0, .ref (aT 0))]) hx hb dX4_luckOfPeople_3 rfl hl (by decide) rfl (fun ls hl => ?_)
  refine ge _ _ _ (ul_loop (P := fun q4 => ∀ (H : Heap) (locs : List Loc), ul_H (dC, dI) A s.heap (ul_wS cI aT (aK 0) T ++ ul_wK cI aK K) H locs → ∀ ls : Array Slot, lv_has ls 3 [(0, .ref (aT 0)), (1, .int q4.1), (2, .int q4.2)] → G H locs (F0 m 4 ls [])) ?_ _ _ (ul_it_h h) H locs ⟨hP, hD, hS⟩ ls (lv_sub hl [2, 1, 0] rfl))
  intro K4 hx4
  intro q4 ih4 h H locs hw ls hl
  obtain ⟨hP, hD, hS⟩ := hw
  unfold f_X4_luckOfPeople_L4 at h
  refine gi _ _ _ ?_
  refine lv_iload_n hx hb dX4_luckOfPeople_4 rfl (lv_at hl 2 rfl) ?_
  refine lv_aload_n hx hb dX4_luckOfPeople_5 rfl (lv_at hl 0 rfl) ?_
  refine va_get (D := (dC, dI)) (ci := 4) (v := .ref (aK 0)) (C := RX4) (T := TX4) (N := 8) hx hb hts hin4 hown hK hP 0 rfl rfl 0 (by decide) (hts (.fieldLink RX4 9 "UnderLadders$Street" "fixed" "LUnderLadders$Market;") (by decide +kernel)) (fun _ h9 => h9) rfl dX4_luckOfPeople_6 ?_
  refine va_getN (D := (dC, dI)) (ci := 2) (v := .int (K 0 1)) (C := RX2) (T := TX2) (N := 9) hx hb hts hin2 hown hK hP 7 rfl rfl 8 (by decide) (va_Nw.use rfl (hN.1 (RX4, 51, "UnderLadders$Market", "people", "I") (by decide +kernel))) (fun _ h9 => h9) rfl dX4_luckOfPeople_9 ?_
  refine lv_icmp_ge (tgt := 30) hx hb dX4_luckOfPeople_12 (by decide) (fun hc6 => ?_) (fun hc6 => ?_)
  · have h := ul_if_t hc6 h
    exact ge _ _ _ (J30 q4.1 q4.2 H locs ⟨hP, hD, hS⟩ ls (lv_sub hl [0, 1, 2] rfl) (hx4 (q4.1, q4.2) h))
  · have h := ul_if_f hc6 h
    refine lv_iload_n hx hb dX4_luckOfPeople_15 rfl (lv_at hl 1 rfl) ?_
    refine lv_aload_n hx hb dX4_luckOfPeople_16 rfl (lv_at hl 0 rfl) ?_
    refine va_get (D := (dC, dI)) (ci := 4) (v := .ref (aT 6)) (C := RX4) (T := TX4) (N := 8) hx hb hts hin4 hown hK hP 0 rfl rfl 6 (by decide) (hts (.fieldLink RX4 31 "UnderLadders$Street" "ownLuck" "[I") (by decide +kernel)) (fun _ h9 => h9) rfl dX4_luckOfPeople_17 ?_
    refine lv_iload_n hx hb dX4_luckOfPeople_20 rfl (lv_at hl 2 rfl) ?_
    obtain ⟨hi8, h⟩ := ul_ld_h h
    refine va_iald hx hb hK hP 6 0 rfl rfl hi8 dX4_luckOfPeople_21 ?_
    refine lv_topi (fun v7 ev7 => ?_)
    have h := h v7 ev7
    refine lv_iadd hx hb dX4_luckOfPeople_22 ?_
    refine lv_topi (fun v9 ev9 => ?_)
    have h := ul_bd_h h v9 ev9
    refine lv_istore_n (lv' := [(1, .int v9), (0, .ref (aT 0)), (2, .int q4.2)]) hx hb dX4_luckOfPeople_23 rfl hl (by decide) rfl (fun ls hl => ?_)
    obtain ⟨v10, ev10⟩ : ∃ z : Int32, z = q4.2 + 1 := ⟨_, rfl⟩
    have h := ul_bd_h h v10 ev10
    refine lv_iinc (v := v10) (lv' := [(2, .int v10), (1, .int v9), (0, .ref (aT 0))]) hx hb dX4_luckOfPeople_24 hl (k := 2) rfl (by rw [ev10]; rfl) (by decide) rfl (fun ls hl => ?_)
    refine lv_goto (tgt := 4) hx hb dX4_luckOfPeople_27 (by decide) ?_
    exact ge _ _ _ (ih4 (v9, v10) h H locs ⟨hP, hD, hS⟩ ls (lv_sub hl [2, 1, 0] rfl))
def f_X4_luckOfMen_j30 (T : ul_S) (K : ul_S) (x1 : Int32) (x2 : Int32) : Option Int32 :=
  some x1
def f_X4_luckOfMen_L4 (T : ul_S) (K : ul_S) (q4 : (Int32 × Int32)) : Option ((Int32 × Int32) ⊕ (Int32 × Int32)) :=
  if (K 0 0) ≤ q4.2 then (some (.inl (q4.1, q4.2))) else (ul_ld (T 3) 4 q4.2 fun v2 => ul_bd (q4.1 + v2) fun v4 => ul_bd (q4.2 + 1) fun v5 => some (.inr (v4, v5)))
def f_X4_luckOfMen (T : ul_S) (K : ul_S) : Option Int32 :=
  (ul_it ul_N (f_X4_luckOfMen_L4 T K) ((0 : Int32), (0 : Int32))).bind (fun e4 => f_X4_luckOfMen_j30 T K e4.1 e4.2)
set_option maxHeartbeats 4000000 in
set_option maxRecDepth 100000 in
theorem c_X4_luckOfMen (l : Launch) (dC : Nat → ClassId) (dI : Nat → Nat → Nat) (cI : ClassId) (aT : Nat → Nat) (aK : Nat → Nat) (sz : Nat) (T : ul_S) (K : ul_S) (r : Int32) (h : f_X4_luckOfMen T K = some r) : Met l yX4_luckOfMen wsX4_luckOfMen ({ frames := 0, cells := 0, slots := 0, locals := 0 }) (va_Pc [.ref (aT 0)] (ul_pre (dC, dI) [(cI, .int)] ul_NX sz (ul_wS cI aT (aK 0) T ++ ul_wK cI aK K))) (va_Qi (fun v (_ : Unit) => v = r) (fun _ => ul_post (dC, dI) [(cI, .int)] (va_A (ul_wS cI aT (aK 0) T ++ ul_wK cI aK K) sz) (ul_wS cI aT (aK 0) T ++ ul_wK cI aK K)) (va_A (ul_wS cI aT (aK 0) T ++ ul_wK cI aK K) sz)) 0 0 (va_A (ul_wS cI aT (aK 0) T ++ ul_wK cI aK K) sz) := by
  refine Met.ofW (cc := cX4_luckOfMen) (maxL := 3) (ret := (some .int)) (by decide) rfl ?_
  intro p e s m args below meth c s₁ B hml hv
  obtain ⟨rfl, hsz, hP, hK, hD0, hN⟩ := hv
  have hx := B.exec
  have hb := B.bytes
  have hr := B.returns
  have hts := atoms_spec (ws := wsX4_luckOfMen) B.pre
  have hown : s.vm.findClass RX4 = some m.cls := findClass_of_methodNamed B.named
  have hlocks := B.notSynchronized
  have hin2 : ∀ w ∈ u_ws RX2 TX2 9, w ∈ wsX4_luckOfMen := by decide +kernel
  have hin4 : ∀ w ∈ u_ws RX4 TX4 8, w ∈ wsX4_luckOfMen := by decide +kernel
  subst hsz
  have hD := hD0.self (sz := s.heap.size)
  generalize hAe : va_A (ul_wS cI aT (aK 0) T ++ ul_wK cI aK K) s.heap.size = A at hD hN ⊢
  have hA : ∀ q : Nat, s.heap.size ≤ q → A q := fun q h => by rw [← hAe]; exact Or.inr h
  have hS : va_S A s.heap s.heap [] := va_S.rf
  have hl := lv_entry ([.ref (aT 0)]) (n := 3) (Nat.le_of_ble_eq_true rfl)
  rw [lg_entry_eq]
  generalize (lg_sl ([.ref (aT 0)]) ++ List.replicate (3 - (lg_sl ([.ref (aT 0)])).length) Slot.unset).toArray = ls at hl ⊢
  have hl : lv_has ls 3 [(0, .ref (aT 0))] := hl
  obtain ⟨K0, hK0, h⟩ := ul_top h
  unfold f_X4_luckOfMen at h
  refine ul_gen (fun G gi ge => ?_)
  obtain ⟨H, eH⟩ : ∃ z, z = s.heap := ⟨_, rfl⟩
  obtain ⟨locs, eL⟩ : ∃ z : List Loc, z = [] := ⟨_, rfl⟩
  have hP : va_P (dC, dI) classes (ul_wS cI aT (aK 0) T ++ ul_wK cI aK K) H := by rw [eH]; exact hP
  have hS : va_S A s.heap H locs := by rw [eH, eL]; exact hS
  rw [← eL]
  refine (show G H locs (F0 m 0 ls []) → G s.heap locs (F0 m 0 ls []) from fun z => by rw [← eH]; exact z) ?_
  have J30 : ∀ (x1 : Int32) (x2 : Int32) (H : Heap) (locs : List Loc), ul_H (dC, dI) A s.heap (ul_wS cI aT (aK 0) T ++ ul_wK cI aK K) H locs → ∀ ls : Array Slot, lv_has ls 3 [(0, .ref (aT 0)), (1, .int x1), (2, .int x2)] → (f_X4_luckOfMen_j30 T K x1 x2).bind K0 = some r → G H locs (F0 m 30 ls []) := by
    intro x1 x2 H locs hw ls hl h
    obtain ⟨hP, hD, hS⟩ := hw
    unfold f_X4_luckOfMen_j30 at h
    refine gi _ _ _ ?_
    refine lv_iload_n hx hb dX4_luckOfMen_30 rfl (lv_at hl 1 rfl) ?_
    have hr9 := hK0 x1 h
    subst hr9
    exact W.iret (v := x1) hx hb hr (fun t ht hW => ⟨⟨x1, (), rfl, rfl, by rw [ht]; exact hP, va_K.moved hW.alike hK, hD⟩, hS.F ht⟩) hS.2.2 dX4_luckOfMen_31
  refine gi _ _ _ ?_
  refine lv_iconst (v := 0) hx hb dX4_luckOfMen_0 (by decide) ?_
  refine lv_istore_n (lv' := [(1, .int (0 : Int32)), (0, .ref (aT 0))]) hx hb dX4_luckOfMen_1 rfl hl (by decide) rfl (fun ls hl => ?_)
  refine lv_iconst (v := 0) hx hb dX4_luckOfMen_2 (by decide) ?_
  refine lv_istore_n (lv' := [(2, .int (0 : Int32)), (1, .int (0 : Int32)), (0, .ref (aT 0))]) hx hb dX4_luckOfMen_3 rfl hl (by decide) rfl (fun ls hl => ?_)
  refine ge _ _ _ (ul_loop (P := fun q4 => ∀ (H : Heap) (locs : List Loc), ul_H (dC, dI) A s.heap (ul_wS cI aT (aK 0) T ++ ul_wK cI aK K) H locs → ∀ ls : Array Slot, lv_has ls 3 [(0, .ref (aT 0)), (1, .int q4.1), (2, .int q4.2)] → G H locs (F0 m 4 ls [])) ?_ _ _ (ul_it_h h) H locs ⟨hP, hD, hS⟩ ls (lv_sub hl [2, 1, 0] rfl))
  intro K4 hx4
  intro q4 ih4 h H locs hw ls hl
  obtain ⟨hP, hD, hS⟩ := hw
  unfold f_X4_luckOfMen_L4 at h
  refine gi _ _ _ ?_
  refine lv_iload_n hx hb dX4_luckOfMen_4 rfl (lv_at hl 2 rfl) ?_
  refine lv_aload_n hx hb dX4_luckOfMen_5 rfl (lv_at hl 0 rfl) ?_
  refine va_get (D := (dC, dI)) (ci := 4) (v := .ref (aK 0)) (C := RX4) (T := TX4) (N := 8) hx hb hts hin4 hown hK hP 0 rfl rfl 0 (by decide) (hts (.fieldLink RX4 9 "UnderLadders$Street" "fixed" "LUnderLadders$Market;") (by decide +kernel)) (fun _ h9 => h9) rfl dX4_luckOfMen_6 ?_
  refine va_getN (D := (dC, dI)) (ci := 2) (v := .int (K 0 0)) (C := RX2) (T := TX2) (N := 9) hx hb hts hin2 hown hK hP 7 rfl rfl 7 (by decide) (va_Nw.use rfl (hN.1 (RX4, 34, "UnderLadders$Market", "ladders", "I") (by decide +kernel))) (fun _ h9 => h9) rfl dX4_luckOfMen_9 ?_
  refine lv_icmp_ge (tgt := 30) hx hb dX4_luckOfMen_12 (by decide) (fun hc6 => ?_) (fun hc6 => ?_)
  · have h := ul_if_t hc6 h
    exact ge _ _ _ (J30 q4.1 q4.2 H locs ⟨hP, hD, hS⟩ ls (lv_sub hl [0, 1, 2] rfl) (hx4 (q4.1, q4.2) h))
  · have h := ul_if_f hc6 h
    refine lv_iload_n hx hb dX4_luckOfMen_15 rfl (lv_at hl 1 rfl) ?_
    refine lv_aload_n hx hb dX4_luckOfMen_16 rfl (lv_at hl 0 rfl) ?_
    refine va_get (D := (dC, dI)) (ci := 4) (v := .ref (aT 3)) (C := RX4) (T := TX4) (N := 8) hx hb hts hin4 hown hK hP 0 rfl rfl 3 (by decide) (hts (.fieldLink RX4 22 "UnderLadders$Street" "manLuck" "[I") (by decide +kernel)) (fun _ h9 => h9) rfl dX4_luckOfMen_17 ?_
    refine lv_iload_n hx hb dX4_luckOfMen_20 rfl (lv_at hl 2 rfl) ?_
    obtain ⟨hi8, h⟩ := ul_ld_h h
    refine va_iald hx hb hK hP 3 0 rfl rfl hi8 dX4_luckOfMen_21 ?_
    refine lv_topi (fun v7 ev7 => ?_)
    have h := h v7 ev7
    refine lv_iadd hx hb dX4_luckOfMen_22 ?_
    refine lv_topi (fun v9 ev9 => ?_)
    have h := ul_bd_h h v9 ev9
    refine lv_istore_n (lv' := [(1, .int v9), (0, .ref (aT 0)), (2, .int q4.2)]) hx hb dX4_luckOfMen_23 rfl hl (by decide) rfl (fun ls hl => ?_)
    obtain ⟨v10, ev10⟩ : ∃ z : Int32, z = q4.2 + 1 := ⟨_, rfl⟩
    have h := ul_bd_h h v10 ev10
    refine lv_iinc (v := v10) (lv' := [(2, .int v10), (1, .int v9), (0, .ref (aT 0))]) hx hb dX4_luckOfMen_24 hl (k := 2) rfl (by rw [ev10]; rfl) (by decide) rfl (fun ls hl => ?_)
    refine lv_goto (tgt := 4) hx hb dX4_luckOfMen_27 (by decide) ?_
    exact ge _ _ _ (ih4 (v9, v10) h H locs ⟨hP, hD, hS⟩ ls (lv_sub hl [2, 1, 0] rfl))
def f_X4_goldOfMen_j30 (T : ul_S) (K : ul_S) (x1 : Int32) (x2 : Int32) : Option Int32 :=
  some x1
def f_X4_goldOfMen_L4 (T : ul_S) (K : ul_S) (q4 : (Int32 × Int32)) : Option ((Int32 × Int32) ⊕ (Int32 × Int32)) :=
  if (K 0 0) ≤ q4.2 then (some (.inl (q4.1, q4.2))) else (ul_ld (T 4) 4 q4.2 fun v2 => ul_bd (q4.1 + v2) fun v4 => ul_bd (q4.2 + 1) fun v5 => some (.inr (v4, v5)))
def f_X4_goldOfMen (T : ul_S) (K : ul_S) : Option Int32 :=
  (ul_it ul_N (f_X4_goldOfMen_L4 T K) ((0 : Int32), (0 : Int32))).bind (fun e4 => f_X4_goldOfMen_j30 T K e4.1 e4.2)
set_option maxHeartbeats 4000000 in
set_option maxRecDepth 100000 in
theorem c_X4_goldOfMen (l : Launch) (dC : Nat → ClassId) (dI : Nat → Nat → Nat) (cI : ClassId) (aT : Nat → Nat) (aK : Nat → Nat) (sz : Nat) (T : ul_S) (K : ul_S) (r : Int32) (h : f_X4_goldOfMen T K = some r) : Met l yX4_goldOfMen wsX4_goldOfMen ({ frames := 0, cells := 0, slots := 0, locals := 0 }) (va_Pc [.ref (aT 0)] (ul_pre (dC, dI) [(cI, .int)] ul_NX sz (ul_wS cI aT (aK 0) T ++ ul_wK cI aK K))) (va_Qi (fun v (_ : Unit) => v = r) (fun _ => ul_post (dC, dI) [(cI, .int)] (va_A (ul_wS cI aT (aK 0) T ++ ul_wK cI aK K) sz) (ul_wS cI aT (aK 0) T ++ ul_wK cI aK K)) (va_A (ul_wS cI aT (aK 0) T ++ ul_wK cI aK K) sz)) 0 0 (va_A (ul_wS cI aT (aK 0) T ++ ul_wK cI aK K) sz) := by
  refine Met.ofW (cc := cX4_goldOfMen) (maxL := 3) (ret := (some .int)) (by decide) rfl ?_
  intro p e s m args below meth c s₁ B hml hv
  obtain ⟨rfl, hsz, hP, hK, hD0, hN⟩ := hv
  have hx := B.exec
  have hb := B.bytes
  have hr := B.returns
  have hts := atoms_spec (ws := wsX4_goldOfMen) B.pre
  have hown : s.vm.findClass RX4 = some m.cls := findClass_of_methodNamed B.named
  have hlocks := B.notSynchronized
  have hin2 : ∀ w ∈ u_ws RX2 TX2 9, w ∈ wsX4_goldOfMen := by decide +kernel
  have hin4 : ∀ w ∈ u_ws RX4 TX4 8, w ∈ wsX4_goldOfMen := by decide +kernel
  subst hsz
  have hD := hD0.self (sz := s.heap.size)
  generalize hAe : va_A (ul_wS cI aT (aK 0) T ++ ul_wK cI aK K) s.heap.size = A at hD hN ⊢
  have hA : ∀ q : Nat, s.heap.size ≤ q → A q := fun q h => by rw [← hAe]; exact Or.inr h
  have hS : va_S A s.heap s.heap [] := va_S.rf
  have hl := lv_entry ([.ref (aT 0)]) (n := 3) (Nat.le_of_ble_eq_true rfl)
  rw [lg_entry_eq]
  generalize (lg_sl ([.ref (aT 0)]) ++ List.replicate (3 - (lg_sl ([.ref (aT 0)])).length) Slot.unset).toArray = ls at hl ⊢
  have hl : lv_has ls 3 [(0, .ref (aT 0))] := hl
  obtain ⟨K0, hK0, h⟩ := ul_top h
  unfold f_X4_goldOfMen at h
  refine ul_gen (fun G gi ge => ?_)
  obtain ⟨H, eH⟩ : ∃ z, z = s.heap := ⟨_, rfl⟩
  obtain ⟨locs, eL⟩ : ∃ z : List Loc, z = [] := ⟨_, rfl⟩
  have hP : va_P (dC, dI) classes (ul_wS cI aT (aK 0) T ++ ul_wK cI aK K) H := by rw [eH]; exact hP
  have hS : va_S A s.heap H locs := by rw [eH, eL]; exact hS
  rw [← eL]
  refine (show G H locs (F0 m 0 ls []) → G s.heap locs (F0 m 0 ls []) from fun z => by rw [← eH]; exact z) ?_
  have J30 : ∀ (x1 : Int32) (x2 : Int32) (H : Heap) (locs : List Loc), ul_H (dC, dI) A s.heap (ul_wS cI aT (aK 0) T ++ ul_wK cI aK K) H locs → ∀ ls : Array Slot, lv_has ls 3 [(0, .ref (aT 0)), (1, .int x1), (2, .int x2)] → (f_X4_goldOfMen_j30 T K x1 x2).bind K0 = some r → G H locs (F0 m 30 ls []) := by
    intro x1 x2 H locs hw ls hl h
    obtain ⟨hP, hD, hS⟩ := hw
    unfold f_X4_goldOfMen_j30 at h
    refine gi _ _ _ ?_
    refine lv_iload_n hx hb dX4_goldOfMen_30 rfl (lv_at hl 1 rfl) ?_
    have hr9 := hK0 x1 h
    subst hr9
    exact W.iret (v := x1) hx hb hr (fun t ht hW => ⟨⟨x1, (), rfl, rfl, by rw [ht]; exact hP, va_K.moved hW.alike hK, hD⟩, hS.F ht⟩) hS.2.2 dX4_goldOfMen_31
  refine gi _ _ _ ?_
  refine lv_iconst (v := 0) hx hb dX4_goldOfMen_0 (by decide) ?_
  refine lv_istore_n (lv' := [(1, .int (0 : Int32)), (0, .ref (aT 0))]) hx hb dX4_goldOfMen_1 rfl hl (by decide) rfl (fun ls hl => ?_)
  refine lv_iconst (v := 0) hx hb dX4_goldOfMen_2 (by decide) ?_
  refine lv_istore_n (lv' := [(2, .int (0 : Int32)), (1, .int (0 : Int32)), (0, .ref (aT 0))]) hx hb dX4_goldOfMen_3 rfl hl (by decide) rfl (fun ls hl => ?_)
  refine ge _ _ _ (ul_loop (P := fun q4 => ∀ (H : Heap) (locs : List Loc), ul_H (dC, dI) A s.heap (ul_wS cI aT (aK 0) T ++ ul_wK cI aK K) H locs → ∀ ls : Array Slot, lv_has ls 3 [(0, .ref (aT 0)), (1, .int q4.1), (2, .int q4.2)] → G H locs (F0 m 4 ls [])) ?_ _ _ (ul_it_h h) H locs ⟨hP, hD, hS⟩ ls (lv_sub hl [2, 1, 0] rfl))
  intro K4 hx4
  intro q4 ih4 h H locs hw ls hl
  obtain ⟨hP, hD, hS⟩ := hw
  unfold f_X4_goldOfMen_L4 at h
  refine gi _ _ _ ?_
  refine lv_iload_n hx hb dX4_goldOfMen_4 rfl (lv_at hl 2 rfl) ?_
  refine lv_aload_n hx hb dX4_goldOfMen_5 rfl (lv_at hl 0 rfl) ?_
  refine va_get (D := (dC, dI)) (ci := 4) (v := .ref (aK 0)) (C := RX4) (T := TX4) (N := 8) hx hb hts hin4 hown hK hP 0 rfl rfl 0 (by decide) (hts (.fieldLink RX4 9 "UnderLadders$Street" "fixed" "LUnderLadders$Market;") (by decide +kernel)) (fun _ h9 => h9) rfl dX4_goldOfMen_6 ?_
  refine va_getN (D := (dC, dI)) (ci := 2) (v := .int (K 0 0)) (C := RX2) (T := TX2) (N := 9) hx hb hts hin2 hown hK hP 7 rfl rfl 7 (by decide) (va_Nw.use rfl (hN.1 (RX4, 34, "UnderLadders$Market", "ladders", "I") (by decide +kernel))) (fun _ h9 => h9) rfl dX4_goldOfMen_9 ?_
  refine lv_icmp_ge (tgt := 30) hx hb dX4_goldOfMen_12 (by decide) (fun hc6 => ?_) (fun hc6 => ?_)
  · have h := ul_if_t hc6 h
    exact ge _ _ _ (J30 q4.1 q4.2 H locs ⟨hP, hD, hS⟩ ls (lv_sub hl [0, 1, 2] rfl) (hx4 (q4.1, q4.2) h))
  · have h := ul_if_f hc6 h
    refine lv_iload_n hx hb dX4_goldOfMen_15 rfl (lv_at hl 1 rfl) ?_
    refine lv_aload_n hx hb dX4_goldOfMen_16 rfl (lv_at hl 0 rfl) ?_
    refine va_get (D := (dC, dI)) (ci := 4) (v := .ref (aT 4)) (C := RX4) (T := TX4) (N := 8) hx hb hts hin4 hown hK hP 0 rfl rfl 4 (by decide) (hts (.fieldLink RX4 25 "UnderLadders$Street" "manGold" "[I") (by decide +kernel)) (fun _ h9 => h9) rfl dX4_goldOfMen_17 ?_
    refine lv_iload_n hx hb dX4_goldOfMen_20 rfl (lv_at hl 2 rfl) ?_
    obtain ⟨hi8, h⟩ := ul_ld_h h
    refine va_iald hx hb hK hP 4 0 rfl rfl hi8 dX4_goldOfMen_21 ?_
    refine lv_topi (fun v7 ev7 => ?_)
    have h := h v7 ev7
    refine lv_iadd hx hb dX4_goldOfMen_22 ?_
    refine lv_topi (fun v9 ev9 => ?_)
    have h := ul_bd_h h v9 ev9
    refine lv_istore_n (lv' := [(1, .int v9), (0, .ref (aT 0)), (2, .int q4.2)]) hx hb dX4_goldOfMen_23 rfl hl (by decide) rfl (fun ls hl => ?_)
    obtain ⟨v10, ev10⟩ : ∃ z : Int32, z = q4.2 + 1 := ⟨_, rfl⟩
    have h := ul_bd_h h v10 ev10
    refine lv_iinc (v := v10) (lv' := [(2, .int v10), (1, .int v9), (0, .ref (aT 0))]) hx hb dX4_goldOfMen_24 hl (k := 2) rfl (by rw [ev10]; rfl) (by decide) rfl (fun ls hl => ?_)
    refine lv_goto (tgt := 4) hx hb dX4_goldOfMen_27 (by decide) ?_
    exact ge _ _ _ (ih4 (v9, v10) h H locs ⟨hP, hD, hS⟩ ls (lv_sub hl [2, 1, 0] rfl))
def f_X4_peopleAtHome_j45 (T : ul_S) (K : ul_S) (x1 : Int32) (x2 : Int32) : Option Int32 :=
  some x1
def f_X4_peopleAtHome_j39 (T : ul_S) (K : ul_S) (x1 : Int32) (x2 : Int32) : Option ((Int32 × Int32) ⊕ (Int32 × Int32)) :=
  ul_bd (x2 + 1) fun v1 => some (.inr (x1, v1))
def f_X4_peopleAtHome_L4 (T : ul_S) (K : ul_S) (q4 : (Int32 × Int32)) : Option ((Int32 × Int32) ⊕ (Int32 × Int32)) :=
  if (K 0 1) ≤ q4.2 then (some (.inl (q4.1, q4.2))) else (ul_ld (T 5) 5 q4.2 fun v4 => ul_ld (K 4) 5 q4.2 fun v6 => if v4 = v6 then (ul_bd (q4.1 ||| ((1 : Int32) <<< (q4.2 &&& 31))) fun v9 => f_X4_peopleAtHome_j39 T K v9 q4.2) else (f_X4_peopleAtHome_j39 T K q4.1 q4.2))
def f_X4_peopleAtHome (T : ul_S) (K : ul_S) : Option Int32 :=
  (ul_it ul_N (f_X4_peopleAtHome_L4 T K) ((0 : Int32), (0 : Int32))).bind (fun e4 => f_X4_peopleAtHome_j45 T K e4.1 e4.2)
set_option maxHeartbeats 4000000 in
set_option maxRecDepth 100000 in
theorem c_X4_peopleAtHome (l : Launch) (dC : Nat → ClassId) (dI : Nat → Nat → Nat) (cI : ClassId) (aT : Nat → Nat) (aK : Nat → Nat) (sz : Nat) (T : ul_S) (K : ul_S) (r : Int32) (h : f_X4_peopleAtHome T K = some r) : Met l yX4_peopleAtHome wsX4_peopleAtHome ({ frames := 0, cells := 0, slots := 0, locals := 0 }) (va_Pc [.ref (aT 0)] (ul_pre (dC, dI) [(cI, .int)] ul_NX sz (ul_wS cI aT (aK 0) T ++ ul_wK cI aK K))) (va_Qi (fun v (_ : Unit) => v = r) (fun _ => ul_post (dC, dI) [(cI, .int)] (va_A (ul_wS cI aT (aK 0) T ++ ul_wK cI aK K) sz) (ul_wS cI aT (aK 0) T ++ ul_wK cI aK K)) (va_A (ul_wS cI aT (aK 0) T ++ ul_wK cI aK K) sz)) 0 0 (va_A (ul_wS cI aT (aK 0) T ++ ul_wK cI aK K) sz) := by
  refine Met.ofW (cc := cX4_peopleAtHome) (maxL := 3) (ret := (some .int)) (by decide) rfl ?_
  intro p e s m args below meth c s₁ B hml hv
  obtain ⟨rfl, hsz, hP, hK, hD0, hN⟩ := hv
  have hx := B.exec
  have hb := B.bytes
  have hr := B.returns
  have hts := atoms_spec (ws := wsX4_peopleAtHome) B.pre
  have hown : s.vm.findClass RX4 = some m.cls := findClass_of_methodNamed B.named
  have hlocks := B.notSynchronized
  have hin2 : ∀ w ∈ u_ws RX2 TX2 9, w ∈ wsX4_peopleAtHome := by decide +kernel
  have hin4 : ∀ w ∈ u_ws RX4 TX4 8, w ∈ wsX4_peopleAtHome := by decide +kernel
  subst hsz
  have hD := hD0.self (sz := s.heap.size)
  generalize hAe : va_A (ul_wS cI aT (aK 0) T ++ ul_wK cI aK K) s.heap.size = A at hD hN ⊢
  have hA : ∀ q : Nat, s.heap.size ≤ q → A q := fun q h => by rw [← hAe]; exact Or.inr h
  have hS : va_S A s.heap s.heap [] := va_S.rf
  have hl := lv_entry ([.ref (aT 0)]) (n := 3) (Nat.le_of_ble_eq_true rfl)
  rw [lg_entry_eq]
  generalize (lg_sl ([.ref (aT 0)]) ++ List.replicate (3 - (lg_sl ([.ref (aT 0)])).length) Slot.unset).toArray = ls at hl ⊢
  have hl : lv_has ls 3 [(0, .ref (aT 0))] := hl
  obtain ⟨K0, hK0, h⟩ := ul_top h
  unfold f_X4_peopleAtHome at h
  refine ul_gen (fun G gi ge => ?_)
  obtain ⟨H, eH⟩ : ∃ z, z = s.heap := ⟨_, rfl⟩
  obtain ⟨locs, eL⟩ : ∃ z : List Loc, z = [] := ⟨_, rfl⟩
  have hP : va_P (dC, dI) classes (ul_wS cI aT (aK 0) T ++ ul_wK cI aK K) H := by rw [eH]; exact hP
  have hS : va_S A s.heap H locs := by rw [eH, eL]; exact hS
  rw [← eL]
  refine (show G H locs (F0 m 0 ls []) → G s.heap locs (F0 m 0 ls []) from fun z => by rw [← eH]; exact z) ?_
  have J45 : ∀ (x1 : Int32) (x2 : Int32) (H : Heap) (locs : List Loc), ul_H (dC, dI) A s.heap (ul_wS cI aT (aK 0) T ++ ul_wK cI aK K) H locs → ∀ ls : Array Slot, lv_has ls 3 [(0, .ref (aT 0)), (1, .int x1), (2, .int x2)] → (f_X4_peopleAtHome_j45 T K x1 x2).bind K0 = some r → G H locs (F0 m 45 ls []) := by
    intro x1 x2 H locs hw ls hl h
    obtain ⟨hP, hD, hS⟩ := hw
    unfold f_X4_peopleAtHome_j45 at h
    refine gi _ _ _ ?_
    refine lv_iload_n hx hb dX4_peopleAtHome_45 rfl (lv_at hl 1 rfl) ?_
    have hr9 := hK0 x1 h
    subst hr9
    exact W.iret (v := x1) hx hb hr (fun t ht hW => ⟨⟨x1, (), rfl, rfl, by rw [ht]; exact hP, va_K.moved hW.alike hK, hD⟩, hS.F ht⟩) hS.2.2 dX4_peopleAtHome_46
  refine gi _ _ _ ?_
  refine lv_iconst (v := 0) hx hb dX4_peopleAtHome_0 (by decide) ?_
  refine lv_istore_n (lv' := [(1, .int (0 : Int32)), (0, .ref (aT 0))]) hx hb dX4_peopleAtHome_1 rfl hl (by decide) rfl (fun ls hl => ?_)
  refine lv_iconst (v := 0) hx hb dX4_peopleAtHome_2 (by decide) ?_
  refine lv_istore_n (lv' := [(2, .int (0 : Int32)), (1, .int (0 : Int32)), (0, .ref (aT 0))]) hx hb dX4_peopleAtHome_3 rfl hl (by decide) rfl (fun ls hl => ?_)
  refine ge _ _ _ (ul_loop (P := fun q4 => ∀ (H : Heap) (locs : List Loc), ul_H (dC, dI) A s.heap (ul_wS cI aT (aK 0) T ++ ul_wK cI aK K) H locs → ∀ ls : Array Slot, lv_has ls 3 [(0, .ref (aT 0)), (1, .int q4.1), (2, .int q4.2)] → G H locs (F0 m 4 ls [])) ?_ _ _ (ul_it_h h) H locs ⟨hP, hD, hS⟩ ls (lv_sub hl [2, 1, 0] rfl))
  intro K4 hx4
  intro q4 ih4 h H locs hw ls hl
  have J39 : ∀ (x1 : Int32) (x2 : Int32) (H : Heap) (locs : List Loc), ul_H (dC, dI) A s.heap (ul_wS cI aT (aK 0) T ++ ul_wK cI aK K) H locs → ∀ ls : Array Slot, lv_has ls 3 [(0, .ref (aT 0)), (1, .int x1), (2, .int x2)] → (f_X4_peopleAtHome_j39 T K x1 x2).bind K4 = some r → G H locs (F0 m 39 ls []) := by
    intro x1 x2 H locs hw ls hl h
    obtain ⟨hP, hD, hS⟩ := hw
    unfold f_X4_peopleAtHome_j39 at h
    refine gi _ _ _ ?_
    obtain ⟨v2, ev2⟩ : ∃ z : Int32, z = x2 + 1 := ⟨_, rfl⟩
    have h := ul_bd_h h v2 ev2
    refine lv_iinc (v := v2) (lv' := [(2, .int v2), (0, .ref (aT 0)), (1, .int x1)]) hx hb dX4_peopleAtHome_39 hl (k := 2) rfl (by rw [ev2]; rfl) (by decide) rfl (fun ls hl => ?_)
    refine lv_goto (tgt := 4) hx hb dX4_peopleAtHome_42 (by decide) ?_
    exact ge _ _ _ (ih4 (x1, v2) h H locs ⟨hP, hD, hS⟩ ls (lv_sub hl [1, 2, 0] rfl))
  obtain ⟨hP, hD, hS⟩ := hw
  unfold f_X4_peopleAtHome_L4 at h
  refine gi _ _ _ ?_
  refine lv_iload_n hx hb dX4_peopleAtHome_4 rfl (lv_at hl 2 rfl) ?_
  refine lv_aload_n hx hb dX4_peopleAtHome_5 rfl (lv_at hl 0 rfl) ?_
  refine va_get (D := (dC, dI)) (ci := 4) (v := .ref (aK 0)) (C := RX4) (T := TX4) (N := 8) hx hb hts hin4 hown hK hP 0 rfl rfl 0 (by decide) (hts (.fieldLink RX4 9 "UnderLadders$Street" "fixed" "LUnderLadders$Market;") (by decide +kernel)) (fun _ h9 => h9) rfl dX4_peopleAtHome_6 ?_
  refine va_getN (D := (dC, dI)) (ci := 2) (v := .int (K 0 1)) (C := RX2) (T := TX2) (N := 9) hx hb hts hin2 hown hK hP 7 rfl rfl 8 (by decide) (va_Nw.use rfl (hN.1 (RX4, 51, "UnderLadders$Market", "people", "I") (by decide +kernel))) (fun _ h9 => h9) rfl dX4_peopleAtHome_9 ?_
  refine lv_icmp_ge (tgt := 45) hx hb dX4_peopleAtHome_12 (by decide) (fun hc10 => ?_) (fun hc10 => ?_)
  · have h := ul_if_t hc10 h
    exact ge _ _ _ (J45 q4.1 q4.2 H locs ⟨hP, hD, hS⟩ ls (lv_sub hl [0, 1, 2] rfl) (hx4 (q4.1, q4.2) h))
  · have h := ul_if_f hc10 h
    refine lv_aload_n hx hb dX4_peopleAtHome_15 rfl (lv_at hl 0 rfl) ?_
    refine va_get (D := (dC, dI)) (ci := 4) (v := .ref (aT 5)) (C := RX4) (T := TX4) (N := 8) hx hb hts hin4 hown hK hP 0 rfl rfl 5 (by decide) (hts (.fieldLink RX4 28 "UnderLadders$Street" "where" "[I") (by decide +kernel)) (fun _ h9 => h9) rfl dX4_peopleAtHome_16 ?_
    refine lv_iload_n hx hb dX4_peopleAtHome_19 rfl (lv_at hl 2 rfl) ?_
    obtain ⟨hi12, h⟩ := ul_ld_h h
    refine va_iald hx hb hK hP 5 0 rfl rfl hi12 dX4_peopleAtHome_20 ?_
    refine lv_topi (fun v11 ev11 => ?_)
    have h := h v11 ev11
    refine lv_aload_n hx hb dX4_peopleAtHome_21 rfl (lv_at hl 0 rfl) ?_
    refine va_get (D := (dC, dI)) (ci := 4) (v := .ref (aK 0)) (C := RX4) (T := TX4) (N := 8) hx hb hts hin4 hown hK hP 0 rfl rfl 0 (by decide) (hts (.fieldLink RX4 9 "UnderLadders$Street" "fixed" "LUnderLadders$Market;") (by decide +kernel)) (fun _ h9 => h9) rfl dX4_peopleAtHome_22 ?_
    refine va_getN (D := (dC, dI)) (ci := 2) (v := .ref (aK 4)) (C := RX2) (T := TX2) (N := 9) hx hb hts hin2 hown hK hP 7 rfl rfl 3 (by decide) (va_Nw.use rfl (hN.1 (RX4, 54, "UnderLadders$Market", "home", "[I") (by decide +kernel))) (fun _ h9 => h9) rfl dX4_peopleAtHome_25 ?_
    refine lv_iload_n hx hb dX4_peopleAtHome_28 rfl (lv_at hl 2 rfl) ?_
    obtain ⟨hi14, h⟩ := ul_ld_h h
    refine va_iald hx hb hK hP 11 0 rfl rfl hi14 dX4_peopleAtHome_29 ?_
    refine lv_topi (fun v13 ev13 => ?_)
    have h := h v13 ev13
    refine lv_icmp_ne (tgt := 39) hx hb dX4_peopleAtHome_30 (by decide) (fun hc15 => ?_) (fun hc15 => ?_)
    · have h := ul_if_f hc15 h
      exact ge _ _ _ (J39 q4.1 q4.2 H locs ⟨hP, hD, hS⟩ ls (lv_sub hl [0, 1, 2] rfl) h)
    · have h := ul_if_t hc15 h
      refine lv_iload_n hx hb dX4_peopleAtHome_33 rfl (lv_at hl 1 rfl) ?_
      refine lv_iconst (v := 1) hx hb dX4_peopleAtHome_34 (by decide) ?_
      refine lv_iload_n hx hb dX4_peopleAtHome_35 rfl (lv_at hl 2 rfl) ?_
      refine lv_ishl hx hb dX4_peopleAtHome_36 ?_
      refine lv_ior hx hb dX4_peopleAtHome_37 ?_
      refine lv_topi (fun v16 ev16 => ?_)
      have h := ul_bd_h h v16 ev16
      refine lv_istore_n (lv' := [(1, .int v16), (0, .ref (aT 0)), (2, .int q4.2)]) hx hb dX4_peopleAtHome_38 rfl hl (by decide) rfl (fun ls hl => ?_)
      exact ge _ _ _ (J39 v16 q4.2 H locs ⟨hP, hD, hS⟩ ls (lv_sub hl [1, 0, 2] rfl) h)
