def f_X1_goAhead (N : ul_S) (T : ul_S) (K : ul_S) (p1 : Int32) : Option ul_S :=
  (f_X4_setTo T N).bind fun u1 => (f_X4_passDays u1 K p1 (31 : Int32)).bind fun u2 => some u2
set_option maxHeartbeats 4000000 in
set_option maxRecDepth 100000 in
theorem c_X1_goAhead (l : Launch) (dC : Nat → ClassId) (dI : Nat → Nat → Nat) (cI : ClassId) (aF : Nat → Nat) (aN : Nat → Nat) (aT : Nat → Nat) (aK : Nat → Nat) (sz : Nat) (F : ul_S) (N : ul_S) (T : ul_S) (K : ul_S) (p1 : Int32) (r : ul_S) (h : f_X1_goAhead N T K p1 = some r) : Met l yX1_goAhead wsX1_goAhead ({ frames := 5, cells := 0, slots := 0, locals := 132 }) (va_Pc [.ref (aF 0), .int p1] (ul_pre (dC, dI) [(cI, .int)] ul_NX sz (ul_wG cI aF (aK 0) (aN 0) (aT 0) F ++ ul_wS cI aN (aK 0) N ++ ul_wS cI aT (aK 0) T ++ ul_wK cI aK K))) (va_Qv (fun (_ : Unit) => True) (fun _ => ul_post (dC, dI) [(cI, .int)] (va_A (ul_wG cI aF (aK 0) (aN 0) (aT 0) F ++ ul_wS cI aN (aK 0) N ++ ul_wS cI aT (aK 0) T ++ ul_wK cI aK K) sz) (ul_wG cI aF (aK 0) (aN 0) (aT 0) F ++ ul_wS cI aN (aK 0) N ++ ul_wS cI aT (aK 0) r ++ ul_wK cI aK K)) (va_A (ul_wG cI aF (aK 0) (aN 0) (aT 0) F ++ ul_wS cI aN (aK 0) N ++ ul_wS cI aT (aK 0) T ++ ul_wK cI aK K) sz)) 0 0 (va_A (ul_wG cI aF (aK 0) (aN 0) (aT 0) F ++ ul_wS cI aN (aK 0) N ++ ul_wS cI aT (aK 0) T ++ ul_wK cI aK K) sz) := by
  refine Met.ofW (cc := cX1_goAhead) (maxL := 2) (ret := none) (by decide) rfl ?_
  intro p e s m args below meth c s₁ B hml hv
  obtain ⟨rfl, hsz, hP, hK, hD0, hN⟩ := hv
  have hx := B.exec
  have hb := B.bytes
  have hr := B.returns
  have hts := atoms_spec (ws := wsX1_goAhead) B.pre
  have hown : s.vm.findClass RX1 = some m.cls := findClass_of_methodNamed B.named
  have hlocks := B.notSynchronized
  have hin1 : ∀ w ∈ u_ws RX1 TX1 9, w ∈ wsX1_goAhead := by decide +kernel
  subst hsz
  have hD := hD0.self (sz := s.heap.size)
  generalize hAe : va_A (ul_wG cI aF (aK 0) (aN 0) (aT 0) F ++ ul_wS cI aN (aK 0) N ++ ul_wS cI aT (aK 0) T ++ ul_wK cI aK K) s.heap.size = A at hD hN ⊢
  have hA : ∀ q : Nat, s.heap.size ≤ q → A q := fun q h => by rw [← hAe]; exact Or.inr h
  have hS : va_S A s.heap s.heap [] := va_S.rf
  have hl := lv_entry ([.ref (aF 0), .int p1]) (n := 2) (Nat.le_of_ble_eq_true rfl)
  rw [lg_entry_eq]
  generalize (lg_sl ([.ref (aF 0), .int p1]) ++ List.replicate (2 - (lg_sl ([.ref (aF 0), .int p1])).length) Slot.unset).toArray = ls at hl ⊢
  have hl : lv_has ls 2 [(0, .ref (aF 0)), (1, .int p1)] := hl
  obtain ⟨K0, hK0, h⟩ := ul_top h
  unfold f_X1_goAhead at h
  refine ul_gen (fun G gi ge => ?_)
  obtain ⟨H, eH⟩ : ∃ z, z = s.heap := ⟨_, rfl⟩
  obtain ⟨locs, eL⟩ : ∃ z : List Loc, z = [] := ⟨_, rfl⟩
  have hP : va_P (dC, dI) classes (ul_wG cI aF (aK 0) (aN 0) (aT 0) F ++ ul_wS cI aN (aK 0) N ++ ul_wS cI aT (aK 0) T ++ ul_wK cI aK K) H := by rw [eH]; exact hP
  have hS : va_S A s.heap H locs := by rw [eH, eL]; exact hS
  rw [← eL]
  refine (show G H locs (F0 m 0 ls []) → G s.heap locs (F0 m 0 ls []) from fun z => by rw [← eH]; exact z) ?_
  refine gi _ _ _ ?_
  refine lv_aload_n hx hb dX1_goAhead_0 rfl (lv_at hl 0 rfl) ?_
  refine va_get (D := (dC, dI)) (ci := 1) (v := .ref (aT 0)) (C := RX1) (T := TX1) (N := 9) hx hb hts hin1 hown hK hP 0 rfl rfl 2 (by decide) (hts (.fieldLink RX1 19 "UnderLadders$Forecast" "trial" "LUnderLadders$Street;") (by decide +kernel)) (fun _ h9 => h9) rfl dX1_goAhead_1 ?_
  refine lv_aload_n hx hb dX1_goAhead_4 rfl (lv_at hl 0 rfl) ?_
  refine va_get (D := (dC, dI)) (ci := 1) (v := .ref (aN 0)) (C := RX1) (T := TX1) (N := 9) hx hb hts hin1 hown hK hP 0 rfl rfl 1 (by decide) (hts (.fieldLink RX1 15 "UnderLadders$Forecast" "now" "LUnderLadders$Street;") (by decide +kernel)) (fun _ h9 => h9) rfl dX1_goAhead_5 ?_
  obtain ⟨u1, hu1, h⟩ := ul_cl_h h
  refine ul_cVv (As := [.ref (aN 0)]) (rest := []) (wc' := (ul_wS cI aT (aK 0) u1 ++ ul_wS cI aN (aK 0) N)) (wr := (ul_wG cI aF (aK 0) (aN 0) (aT 0) F ++ ul_wK cI aK K)) hP hD hS hK hA [12, 13, 14, 15, 16, 17, 18, 5, 6, 7, 8, 9, 10, 11] [0, 1, 2, 3, 4, 19, 20, 21, 22, 23, 24, 25, 26] [0] ul_NX_ok hN (c_X4_setTo l dC dI cI aT aN aK H.size T N u1 hu1) rfl rfl (by decide) rfl (by decide) (by decide) rfl ⟨hx, hb, hml, hown, hts⟩ (cwV 1 hts gX1_goAhead_X4_setTo rfl rfl rfl (by decide +kernel) ⟨Nat.le_of_ble_eq_true rfl, Nat.le_of_ble_eq_true rfl⟩) (va_recv hK hP (ci := 4) (q0 := 12) rfl rfl) rfl hl.1 rfl (Nat.le_of_ble_eq_true rfl) dX1_goAhead_8 (fun H locs hw => ?_)
  have hw := hw.re (w' := (ul_wG cI aF (aK 0) (aN 0) (aT 0) F ++ ul_wS cI aN (aK 0) N ++ ul_wS cI aT (aK 0) u1 ++ ul_wK cI aK K)) [0, 1, 2, 3, 4, 20, 21, 22, 23, 24, 25, 26, 13, 14, 15, 16, 17, 18, 19, 5, 6, 7, 8, 9, 10, 11, 12] (by decide) rfl rfl
  obtain ⟨hP, hD, hS⟩ := hw
  refine lv_aload_n hx hb dX1_goAhead_11 rfl (lv_at hl 0 rfl) ?_
  refine va_get (D := (dC, dI)) (ci := 1) (v := .ref (aT 0)) (C := RX1) (T := TX1) (N := 9) hx hb hts hin1 hown hK hP 0 rfl rfl 2 (by decide) (hts (.fieldLink RX1 19 "UnderLadders$Forecast" "trial" "LUnderLadders$Street;") (by decide +kernel)) (fun _ h9 => h9) rfl dX1_goAhead_12 ?_
  refine lv_iload_n hx hb dX1_goAhead_15 rfl (lv_at hl 1 rfl) ?_
  refine lv_bipush (v := 31) hx hb dX1_goAhead_16 (by decide) ?_
  obtain ⟨u2, hu2, h⟩ := ul_cl_h h
  refine ul_cVv (As := [.int p1, .int (31 : Int32)]) (rest := []) (wc' := (ul_wS cI aT (aK 0) u2 ++ ul_wK cI aK K)) (wr := (ul_wG cI aF (aK 0) (aN 0) (aT 0) F ++ ul_wS cI aN (aK 0) N)) hP hD hS hK hA [12, 13, 14, 15, 16, 17, 18, 19, 20, 21, 22, 23, 24, 25, 26] [0, 1, 2, 3, 4, 5, 6, 7, 8, 9, 10, 11] [0] ul_NX_ok hN (c_X4_passDays l dC dI cI aT aK H.size u1 K p1 (31 : Int32) u2 hu2) rfl rfl (by decide) rfl (by decide) (by decide) rfl ⟨hx, hb, hml, hown, hts⟩ (cwV 2 hts gX1_goAhead_X4_passDays rfl rfl rfl (by decide +kernel) ⟨Nat.le_of_ble_eq_true rfl, Nat.le_of_ble_eq_true rfl⟩) (va_recv hK hP (ci := 4) (q0 := 12) rfl rfl) rfl hl.1 rfl (Nat.le_of_ble_eq_true rfl) dX1_goAhead_18 (fun H locs hw => ?_)
  have hw := hw.re (w' := (ul_wG cI aF (aK 0) (aN 0) (aT 0) F ++ ul_wS cI aN (aK 0) N ++ ul_wS cI aT (aK 0) u2 ++ ul_wK cI aK K)) [0, 1, 2, 3, 4, 5, 6, 7, 8, 9, 10, 11, 12, 13, 14, 15, 16, 17, 18, 19, 20, 21, 22, 23, 24, 25, 26] (by decide) rfl rfl
  obtain ⟨hP, hD, hS⟩ := hw
  have hr9 := hK0 u2 h
  subst hr9
  exact W.vret hx hb hr (fun t ht hW => ⟨⟨(), rfl, trivial, by rw [ht]; exact hP, va_K.moved hW.alike hK, hD⟩, hS.F ht⟩) hS.2.2 dX1_goAhead_21
def f_X1_daysToNothing_j49 (N : ul_S) (K : ul_S) (p1 : Int32) (x2 : Int32) (T__49 : ul_S) : Option (Int32 × ul_S) :=
  ul_ld (T__49 6) 5 p1 fun v1 => if v1 = 0 then (some ((20 : Int32), T__49)) else (some ((-9 : Int32), T__49))
def f_X1_daysToNothing_L13 (N : ul_S) (K : ul_S) (p1 : Int32) (q13 : (Int32 × ul_S)) : Option (((Int32 × ul_S) ⊕ (Int32 × ul_S)) ⊕ (Int32 × ul_S)) :=
  if (20 : Int32) ≤ q13.1 then (some (.inl (.inr (q13.1, q13.2)))) else (ul_ld (q13.2 6) 5 p1 fun v9 => if v9 = 0 then (some (.inl (.inl (q13.1, q13.2)))) else ((f_X4_passDay q13.2 K (31 : Int32)).bind fun u12 => ul_bd (q13.1 + 1) fun v13 => some (.inr (v13, u12.2))))
def f_X1_daysToNothing (N : ul_S) (T : ul_S) (K : ul_S) (p1 : Int32) : Option (Int32 × ul_S) :=
  (f_X4_setTo T N).bind fun u7 => (ul_it ul_N (f_X1_daysToNothing_L13 N K p1) ((0 : Int32), u7)).bind (Sum.elim (fun z => some z) (fun e13 => f_X1_daysToNothing_j49 N K p1 e13.1 e13.2))
set_option maxHeartbeats 4000000 in
set_option maxRecDepth 100000 in
theorem c_X1_daysToNothing (l : Launch) (dC : Nat → ClassId) (dI : Nat → Nat → Nat) (cI : ClassId) (aF : Nat → Nat) (aN : Nat → Nat) (aT : Nat → Nat) (aK : Nat → Nat) (sz : Nat) (F : ul_S) (N : ul_S) (T : ul_S) (K : ul_S) (p1 : Int32) (r : (Int32 × ul_S)) (h : f_X1_daysToNothing N T K p1 = some r) : Met l yX1_daysToNothing wsX1_daysToNothing ({ frames := 4, cells := 0, slots := 0, locals := 109 }) (va_Pc [.ref (aF 0), .int p1] (ul_pre (dC, dI) [(cI, .int)] ul_NX sz (ul_wG cI aF (aK 0) (aN 0) (aT 0) F ++ ul_wS cI aN (aK 0) N ++ ul_wS cI aT (aK 0) T ++ ul_wK cI aK K))) (va_Qi (fun v (_ : Unit) => v = r.1) (fun _ => ul_post (dC, dI) [(cI, .int)] (va_A (ul_wG cI aF (aK 0) (aN 0) (aT 0) F ++ ul_wS cI aN (aK 0) N ++ ul_wS cI aT (aK 0) T ++ ul_wK cI aK K) sz) (ul_wG cI aF (aK 0) (aN 0) (aT 0) F ++ ul_wS cI aN (aK 0) N ++ ul_wS cI aT (aK 0) r.2 ++ ul_wK cI aK K)) (va_A (ul_wG cI aF (aK 0) (aN 0) (aT 0) F ++ ul_wS cI aN (aK 0) N ++ ul_wS cI aT (aK 0) T ++ ul_wK cI aK K) sz)) 0 0 (va_A (ul_wG cI aF (aK 0) (aN 0) (aT 0) F ++ ul_wS cI aN (aK 0) N ++ ul_wS cI aT (aK 0) T ++ ul_wK cI aK K) sz) := by
  refine Met.ofW (cc := cX1_daysToNothing) (maxL := 3) (ret := (some .int)) (by decide) rfl ?_
  intro p e s m args below meth c s₁ B hml hv
  obtain ⟨rfl, hsz, hP, hK, hD0, hN⟩ := hv
  have hx := B.exec
  have hb := B.bytes
  have hr := B.returns
  have hts := atoms_spec (ws := wsX1_daysToNothing) B.pre
  have hown : s.vm.findClass RX1 = some m.cls := findClass_of_methodNamed B.named
  have hlocks := B.notSynchronized
  have hin1 : ∀ w ∈ u_ws RX1 TX1 9, w ∈ wsX1_daysToNothing := by decide +kernel
  have hin4 : ∀ w ∈ u_ws RX4 TX4 8, w ∈ wsX1_daysToNothing := by decide +kernel
  subst hsz
  have hD := hD0.self (sz := s.heap.size)
  generalize hAe : va_A (ul_wG cI aF (aK 0) (aN 0) (aT 0) F ++ ul_wS cI aN (aK 0) N ++ ul_wS cI aT (aK 0) T ++ ul_wK cI aK K) s.heap.size = A at hD hN ⊢
  have hA : ∀ q : Nat, s.heap.size ≤ q → A q := fun q h => by rw [← hAe]; exact Or.inr h
  have hS : va_S A s.heap s.heap [] := va_S.rf
  have hl := lv_entry ([.ref (aF 0), .int p1]) (n := 3) (Nat.le_of_ble_eq_true rfl)
  rw [lg_entry_eq]
  generalize (lg_sl ([.ref (aF 0), .int p1]) ++ List.replicate (3 - (lg_sl ([.ref (aF 0), .int p1])).length) Slot.unset).toArray = ls at hl ⊢
  have hl : lv_has ls 3 [(0, .ref (aF 0)), (1, .int p1)] := hl
  obtain ⟨K0, hK0, h⟩ := ul_top h
  unfold f_X1_daysToNothing at h
  refine ul_gen (fun G gi ge => ?_)
  obtain ⟨H, eH⟩ : ∃ z, z = s.heap := ⟨_, rfl⟩
  obtain ⟨locs, eL⟩ : ∃ z : List Loc, z = [] := ⟨_, rfl⟩
  have hP : va_P (dC, dI) classes (ul_wG cI aF (aK 0) (aN 0) (aT 0) F ++ ul_wS cI aN (aK 0) N ++ ul_wS cI aT (aK 0) T ++ ul_wK cI aK K) H := by rw [eH]; exact hP
  have hS : va_S A s.heap H locs := by rw [eH, eL]; exact hS
  rw [← eL]
  refine (show G H locs (F0 m 0 ls []) → G s.heap locs (F0 m 0 ls []) from fun z => by rw [← eH]; exact z) ?_
  have J49 : ∀ (x2 : Int32) (T__49 : ul_S) (H : Heap) (locs : List Loc), ul_H (dC, dI) A s.heap (ul_wG cI aF (aK 0) (aN 0) (aT 0) F ++ ul_wS cI aN (aK 0) N ++ ul_wS cI aT (aK 0) T__49 ++ ul_wK cI aK K) H locs → ∀ ls : Array Slot, lv_has ls 3 [(0, .ref (aF 0)), (1, .int p1), (2, .int x2)] → (f_X1_daysToNothing_j49 N K p1 x2 T__49).bind K0 = some r → G H locs (F0 m 49 ls []) := by
    intro x2 T__49 H locs hw ls hl h
    obtain ⟨hP, hD, hS⟩ := hw
    unfold f_X1_daysToNothing_j49 at h
    refine gi _ _ _ ?_
    refine lv_aload_n hx hb dX1_daysToNothing_49 rfl (lv_at hl 0 rfl) ?_
    refine va_get (D := (dC, dI)) (ci := 1) (v := .ref (aT 0)) (C := RX1) (T := TX1) (N := 9) hx hb hts hin1 hown hK hP 0 rfl rfl 2 (by decide) (hts (.fieldLink RX1 19 "UnderLadders$Forecast" "trial" "LUnderLadders$Street;") (by decide +kernel)) (fun _ h9 => h9) rfl dX1_daysToNothing_50 ?_
    refine va_getN (D := (dC, dI)) (ci := 4) (v := .ref (aT 6)) (C := RX4) (T := TX4) (N := 8) hx hb hts hin4 hown hK hP 12 rfl rfl 6 (by decide) (va_Nw.use rfl (hN.1 (RX1, 45, "UnderLadders$Street", "ownLuck", "[I") (by decide +kernel))) (fun _ h9 => h9) rfl dX1_daysToNothing_53 ?_
    refine lv_iload_n hx hb dX1_daysToNothing_56 rfl (lv_at hl 1 rfl) ?_
    obtain ⟨hi5, h⟩ := ul_ld_h h
    refine va_iald hx hb hK hP 18 0 rfl rfl hi5 dX1_daysToNothing_57 ?_
    refine lv_topi (fun v4 ev4 => ?_)
    have h := h v4 ev4
    refine lv_if_ne (tgt := 66) hx hb dX1_daysToNothing_58 (by decide) (fun hc6 => ?_) (fun hc6 => ?_)
    · have h := ul_if_f hc6 h
      refine lv_bipush (v := -9) hx hb dX1_daysToNothing_66 (by decide) ?_
      have hr9 := hK0 ((-9 : Int32), T__49) h
      subst hr9
      exact W.iret (v := (-9 : Int32)) hx hb hr (fun t ht hW => ⟨⟨(-9 : Int32), (), rfl, rfl, by rw [ht]; exact hP, va_K.moved hW.alike hK, hD⟩, hS.F ht⟩) hS.2.2 dX1_daysToNothing_68
    · have h := ul_if_t hc6 h
      refine lv_bipush (v := 20) hx hb dX1_daysToNothing_61 (by decide) ?_
      refine lv_goto (tgt := 68) hx hb dX1_daysToNothing_63 (by decide) ?_
      have hr9 := hK0 ((20 : Int32), T__49) h
      subst hr9
      exact W.iret (v := (20 : Int32)) hx hb hr (fun t ht hW => ⟨⟨(20 : Int32), (), rfl, rfl, by rw [ht]; exact hP, va_K.moved hW.alike hK, hD⟩, hS.F ht⟩) hS.2.2 dX1_daysToNothing_68
  refine gi _ _ _ ?_
  refine lv_aload_n hx hb dX1_daysToNothing_0 rfl (lv_at hl 0 rfl) ?_
  refine va_get (D := (dC, dI)) (ci := 1) (v := .ref (aT 0)) (C := RX1) (T := TX1) (N := 9) hx hb hts hin1 hown hK hP 0 rfl rfl 2 (by decide) (hts (.fieldLink RX1 19 "UnderLadders$Forecast" "trial" "LUnderLadders$Street;") (by decide +kernel)) (fun _ h9 => h9) rfl dX1_daysToNothing_1 ?_
  refine lv_aload_n hx hb dX1_daysToNothing_4 rfl (lv_at hl 0 rfl) ?_
  refine va_get (D := (dC, dI)) (ci := 1) (v := .ref (aN 0)) (C := RX1) (T := TX1) (N := 9) hx hb hts hin1 hown hK hP 0 rfl rfl 1 (by decide) (hts (.fieldLink RX1 15 "UnderLadders$Forecast" "now" "LUnderLadders$Street;") (by decide +kernel)) (fun _ h9 => h9) rfl dX1_daysToNothing_5 ?_
  obtain ⟨u7, hu7, h⟩ := ul_cl_h h
  refine ul_cVv (As := [.ref (aN 0)]) (rest := []) (wc' := (ul_wS cI aT (aK 0) u7 ++ ul_wS cI aN (aK 0) N)) (wr := (ul_wG cI aF (aK 0) (aN 0) (aT 0) F ++ ul_wK cI aK K)) hP hD hS hK hA [12, 13, 14, 15, 16, 17, 18, 5, 6, 7, 8, 9, 10, 11] [0, 1, 2, 3, 4, 19, 20, 21, 22, 23, 24, 25, 26] [0] ul_NX_ok hN (c_X4_setTo l dC dI cI aT aN aK H.size T N u7 hu7) rfl rfl (by decide) rfl (by decide) (by decide) rfl ⟨hx, hb, hml, hown, hts⟩ (cwV 1 hts gX1_daysToNothing_X4_setTo rfl rfl rfl (by decide +kernel) ⟨Nat.le_of_ble_eq_true rfl, Nat.le_of_ble_eq_true rfl⟩) (va_recv hK hP (ci := 4) (q0 := 12) rfl rfl) rfl hl.1 rfl (Nat.le_of_ble_eq_true rfl) dX1_daysToNothing_8 (fun H locs hw => ?_)
  have hw := hw.re (w' := (ul_wG cI aF (aK 0) (aN 0) (aT 0) F ++ ul_wS cI aN (aK 0) N ++ ul_wS cI aT (aK 0) u7 ++ ul_wK cI aK K)) [0, 1, 2, 3, 4, 20, 21, 22, 23, 24, 25, 26, 13, 14, 15, 16, 17, 18, 19, 5, 6, 7, 8, 9, 10, 11, 12] (by decide) rfl rfl
  obtain ⟨hP, hD, hS⟩ := hw
  refine lv_iconst (v := 0) hx hb dX1_daysToNothing_11 (by decide) ?_
  refine lv_istore_n (lv' := [(2, .int (0 : Int32)), (0, .ref (aF 0)), (1, .int p1)]) hx hb dX1_daysToNothing_12 rfl hl (by decide) rfl (fun ls hl => ?_)
  refine ge _ _ _ (ul_loop (P := fun q13 => ∀ (H : Heap) (locs : List Loc), ul_H (dC, dI) A s.heap (ul_wG cI aF (aK 0) (aN 0) (aT 0) F ++ ul_wS cI aN (aK 0) N ++ ul_wS cI aT (aK 0) q13.2 ++ ul_wK cI aK K) H locs → ∀ ls : Array Slot, lv_has ls 3 [(0, .ref (aF 0)), (1, .int p1), (2, .int q13.1)] → G H locs (F0 m 13 ls [])) ?_ _ _ (ul_it_h h) H locs ⟨hP, hD, hS⟩ ls (lv_sub hl [1, 2, 0] rfl))
  intro K13 hx13
  intro q13 ih13 h H locs hw ls hl
  obtain ⟨hP, hD, hS⟩ := hw
  unfold f_X1_daysToNothing_L13 at h
  refine gi _ _ _ ?_
  refine lv_iload_n hx hb dX1_daysToNothing_13 rfl (lv_at hl 2 rfl) ?_
  refine lv_bipush (v := 20) hx hb dX1_daysToNothing_14 (by decide) ?_
  refine lv_icmp_ge (tgt := 49) hx hb dX1_daysToNothing_16 (by decide) (fun hc14 => ?_) (fun hc14 => ?_)
  · have h := ul_if_t hc14 h
    exact ge _ _ _ (J49 q13.1 q13.2 H locs ⟨hP, hD, hS⟩ ls (lv_sub hl [0, 1, 2] rfl) (hx13 (.inr (q13.1, q13.2)) h))
  · have h := ul_if_f hc14 h
    refine lv_aload_n hx hb dX1_daysToNothing_19 rfl (lv_at hl 0 rfl) ?_
    refine va_get (D := (dC, dI)) (ci := 1) (v := .ref (aT 0)) (C := RX1) (T := TX1) (N := 9) hx hb hts hin1 hown hK hP 0 rfl rfl 2 (by decide) (hts (.fieldLink RX1 19 "UnderLadders$Forecast" "trial" "LUnderLadders$Street;") (by decide +kernel)) (fun _ h9 => h9) rfl dX1_daysToNothing_20 ?_
    refine va_getN (D := (dC, dI)) (ci := 4) (v := .ref (aT 6)) (C := RX4) (T := TX4) (N := 8) hx hb hts hin4 hown hK hP 12 rfl rfl 6 (by decide) (va_Nw.use rfl (hN.1 (RX1, 45, "UnderLadders$Street", "ownLuck", "[I") (by decide +kernel))) (fun _ h9 => h9) rfl dX1_daysToNothing_23 ?_
    refine lv_iload_n hx hb dX1_daysToNothing_26 rfl (lv_at hl 1 rfl) ?_
    obtain ⟨hi16, h⟩ := ul_ld_h h
    refine va_iald hx hb hK hP 18 0 rfl rfl hi16 dX1_daysToNothing_27 ?_
    refine lv_topi (fun v15 ev15 => ?_)
    have h := h v15 ev15
    refine lv_if_ne (tgt := 33) hx hb dX1_daysToNothing_28 (by decide) (fun hc17 => ?_) (fun hc17 => ?_)
    · have h := ul_if_f hc17 h
      refine lv_aload_n hx hb dX1_daysToNothing_33 rfl (lv_at hl 0 rfl) ?_
      refine va_get (D := (dC, dI)) (ci := 1) (v := .ref (aT 0)) (C := RX1) (T := TX1) (N := 9) hx hb hts hin1 hown hK hP 0 rfl rfl 2 (by decide) (hts (.fieldLink RX1 19 "UnderLadders$Forecast" "trial" "LUnderLadders$Street;") (by decide +kernel)) (fun _ h9 => h9) rfl dX1_daysToNothing_34 ?_
      refine lv_bipush (v := 31) hx hb dX1_daysToNothing_37 (by decide) ?_
      obtain ⟨u18, hu18, h⟩ := ul_cl_h h
      refine ul_cVi (As := [.int (31 : Int32)]) (rest := []) (wc' := (ul_wS cI aT (aK 0) u18.2 ++ ul_wK cI aK K)) (wr := (ul_wG cI aF (aK 0) (aN 0) (aT 0) F ++ ul_wS cI aN (aK 0) N)) hP hD hS hK hA [12, 13, 14, 15, 16, 17, 18, 19, 20, 21, 22, 23, 24, 25, 26] [0, 1, 2, 3, 4, 5, 6, 7, 8, 9, 10, 11] [0] ul_NX_ok hN (c_X4_passDay l dC dI cI aT aK H.size q13.2 K (31 : Int32) u18 hu18) rfl rfl (by decide) rfl (by decide) (by decide) rfl ⟨hx, hb, hml, hown, hts⟩ (cwV 1 hts gX1_daysToNothing_X4_passDay rfl rfl rfl (by decide +kernel) ⟨Nat.le_of_ble_eq_true rfl, Nat.le_of_ble_eq_true rfl⟩) (va_recv hK hP (ci := 4) (q0 := 12) rfl rfl) rfl hl.1 rfl (Nat.le_of_ble_eq_true rfl) dX1_daysToNothing_39 (fun H locs hw => ?_)
      have hw := hw.re (w' := (ul_wG cI aF (aK 0) (aN 0) (aT 0) F ++ ul_wS cI aN (aK 0) N ++ ul_wS cI aT (aK 0) u18.2 ++ ul_wK cI aK K)) [0, 1, 2, 3, 4, 5, 6, 7, 8, 9, 10, 11, 12, 13, 14, 15, 16, 17, 18, 19, 20, 21, 22, 23, 24, 25, 26] (by decide) rfl rfl
      obtain ⟨hP, hD, hS⟩ := hw
      refine lv_pop hx hb dX1_daysToNothing_42 rfl ?_
      obtain ⟨v19, ev19⟩ : ∃ z : Int32, z = q13.1 + 1 := ⟨_, rfl⟩
      have h := ul_bd_h h v19 ev19
      refine lv_iinc (v := v19) (lv' := [(2, .int v19), (0, .ref (aF 0)), (1, .int p1)]) hx hb dX1_daysToNothing_43 hl (k := 2) rfl (by rw [ev19]; rfl) (by decide) rfl (fun ls hl => ?_)
      refine lv_goto (tgt := 13) hx hb dX1_daysToNothing_46 (by decide) ?_
      exact ge _ _ _ (ih13 (v19, u18.2) h H locs ⟨hP, hD, hS⟩ ls (lv_sub hl [1, 2, 0] rfl))
    · have h := ul_if_t hc17 h
      refine lv_iload_n hx hb dX1_daysToNothing_31 rfl (lv_at hl 2 rfl) ?_
      have hr9 := hK0 (q13.1, q13.2) (hx13 (.inl (q13.1, q13.2)) h)
      subst hr9
      exact W.iret (v := q13.1) hx hb hr (fun t ht hW => ⟨⟨q13.1, (), rfl, rfl, by rw [ht]; exact hP, va_K.moved hW.alike hK, hD⟩, hS.F ht⟩) hS.2.2 dX1_daysToNothing_32
def f_X1_findSpot_j135 (N : ul_S) (K : ul_S) (p1 : Int32) (x2 : Int32) (x3 : Int32) (F__135 : ul_S) (T__135 : ul_S) : Option (ul_S × ul_S) :=
  some (F__135, T__135)
def f_X1_findSpot_j129 (N : ul_S) (K : ul_S) (p1 : Int32) (x2 : Int32) (x3 : Int32) (F__129 : ul_S) (T__129 : ul_S) : Option ((Int32 × Int32 × ul_S × ul_S) ⊕ (Int32 × Int32 × ul_S × ul_S)) :=
  ul_bd (x3 + 1) fun v3 => some (.inr (x2, v3, F__129, T__129))
def f_X1_findSpot_j115 (N : ul_S) (K : ul_S) (p1 : Int32) (x2 : Int32) (x3 : Int32) (x4 : Int32) (x5 : Int32) (F__115 : ul_S) (T__115 : ul_S) : Option ((Int32 × Int32 × ul_S × ul_S) ⊕ (Int32 × Int32 × ul_S × ul_S)) :=
  ul_bd (ul_up F__115 0 0 x3) fun F5 => ul_bd (ul_up F5 0 1 x4) fun F6 => f_X1_findSpot_j129 N K p1 x5 x3 F6 T__115
def f_X1_findSpot_L17 (N : ul_S) (K : ul_S) (p1 : Int32) (q17 : (Int32 × Int32 × ul_S × ul_S)) : Option ((Int32 × Int32 × ul_S × ul_S) ⊕ (Int32 × Int32 × ul_S × ul_S)) :=
  if (10 : Int32) ≤ q17.2.1 then (some (.inl (q17.1, q17.2.1, q17.2.2.1, q17.2.2.2))) else ((f_X4_isOwnOrFree N p1 q17.2.1).bind fun u10 => if u10 = 0 then (f_X1_findSpot_j129 N K p1 q17.1 q17.2.1 q17.2.2.1 q17.2.2.2) else ((f_X4_setTo q17.2.2.2 N).bind fun u12 => (f_X4_put u12 p1 q17.2.1).bind fun u13 => (f_X4_passDays u13 K (6 : Int32) (31 : Int32)).bind fun u14 => ul_ld (u14 4) 4 p1 fun v15 => ul_ld (u14 3) 4 p1 fun v17 => if (q17.2.2.1 0 1) < v15 then (f_X1_findSpot_j115 N K p1 q17.1 q17.2.1 v15 v17 q17.2.2.1 u14) else (if v15 = (q17.2.2.1 0 1) then (if v17 ≤ q17.1 then (f_X1_findSpot_j129 N K p1 q17.1 q17.2.1 q17.2.2.1 u14) else (f_X1_findSpot_j115 N K p1 q17.1 q17.2.1 v15 v17 q17.2.2.1 u14)) else (f_X1_findSpot_j129 N K p1 q17.1 q17.2.1 q17.2.2.1 u14))))
def f_X1_findSpot (F : ul_S) (N : ul_S) (T : ul_S) (K : ul_S) (p1 : Int32) : Option (ul_S × ul_S) :=
  ul_bd (ul_up F 0 0 (-9 : Int32)) fun F1 => ul_bd (ul_up F1 0 1 (-9 : Int32)) fun F2 => (ul_it ul_N (f_X1_findSpot_L17 N K p1) ((-9 : Int32), (0 : Int32), F2, T)).bind (fun e17 => f_X1_findSpot_j135 N K p1 e17.1 e17.2.1 e17.2.2.1 e17.2.2.2)
set_option maxHeartbeats 4000000 in
set_option maxRecDepth 100000 in
theorem c_X1_findSpot (l : Launch) (dC : Nat → ClassId) (dI : Nat → Nat → Nat) (cI : ClassId) (aF : Nat → Nat) (aN : Nat → Nat) (aT : Nat → Nat) (aK : Nat → Nat) (sz : Nat) (F : ul_S) (N : ul_S) (T : ul_S) (K : ul_S) (p1 : Int32) (r : (ul_S × ul_S)) (h : f_X1_findSpot F N T K p1 = some r) : Met l yX1_findSpot wsX1_findSpot ({ frames := 5, cells := 0, slots := 0, locals := 132 }) (va_Pc [.ref (aF 0), .int p1] (ul_pre (dC, dI) [(cI, .int)] ul_NX sz (ul_wG cI aF (aK 0) (aN 0) (aT 0) F ++ ul_wS cI aN (aK 0) N ++ ul_wS cI aT (aK 0) T ++ ul_wK cI aK K))) (va_Qv (fun (_ : Unit) => True) (fun _ => ul_post (dC, dI) [(cI, .int)] (va_A (ul_wG cI aF (aK 0) (aN 0) (aT 0) F ++ ul_wS cI aN (aK 0) N ++ ul_wS cI aT (aK 0) T ++ ul_wK cI aK K) sz) (ul_wG cI aF (aK 0) (aN 0) (aT 0) r.1 ++ ul_wS cI aN (aK 0) N ++ ul_wS cI aT (aK 0) r.2 ++ ul_wK cI aK K)) (va_A (ul_wG cI aF (aK 0) (aN 0) (aT 0) F ++ ul_wS cI aN (aK 0) N ++ ul_wS cI aT (aK 0) T ++ ul_wK cI aK K) sz)) 0 0 (va_A (ul_wG cI aF (aK 0) (aN 0) (aT 0) F ++ ul_wS cI aN (aK 0) N ++ ul_wS cI aT (aK 0) T ++ ul_wK cI aK K) sz) := by
  refine Met.ofW (cc := cX1_findSpot) (maxL := 6) (ret := none) (by decide) rfl ?_
  intro p e s m args below meth c s₁ B hml hv
  obtain ⟨rfl, hsz, hP, hK, hD0, hN⟩ := hv
  have hx := B.exec
  have hb := B.bytes
  have hr := B.returns
  have hts := atoms_spec (ws := wsX1_findSpot) B.pre
  have hown : s.vm.findClass RX1 = some m.cls := findClass_of_methodNamed B.named
  have hlocks := B.notSynchronized
  have hin1 : ∀ w ∈ u_ws RX1 TX1 9, w ∈ wsX1_findSpot := by decide +kernel
  have hin4 : ∀ w ∈ u_ws RX4 TX4 8, w ∈ wsX1_findSpot := by decide +kernel
  subst hsz
  have hD := hD0.self (sz := s.heap.size)
  generalize hAe : va_A (ul_wG cI aF (aK 0) (aN 0) (aT 0) F ++ ul_wS cI aN (aK 0) N ++ ul_wS cI aT (aK 0) T ++ ul_wK cI aK K) s.heap.size = A at hD hN ⊢
  have hA : ∀ q : Nat, s.heap.size ≤ q → A q := fun q h => by rw [← hAe]; exact Or.inr h
  have hS : va_S A s.heap s.heap [] := va_S.rf
  have hl := lv_entry ([.ref (aF 0), .int p1]) (n := 6) (Nat.le_of_ble_eq_true rfl)
  rw [lg_entry_eq]
  generalize (lg_sl ([.ref (aF 0), .int p1]) ++ List.replicate (6 - (lg_sl ([.ref (aF 0), .int p1])).length) Slot.unset).toArray = ls at hl ⊢
  have hl : lv_has ls 6 [(0, .ref (aF 0)), (1, .int p1)] := hl
  obtain ⟨K0, hK0, h⟩ := ul_top h
  unfold f_X1_findSpot at h
  refine ul_gen (fun G gi ge => ?_)
  obtain ⟨H, eH⟩ : ∃ z, z = s.heap := ⟨_, rfl⟩
  obtain ⟨locs, eL⟩ : ∃ z : List Loc, z = [] := ⟨_, rfl⟩
  have hP : va_P (dC, dI) classes (ul_wG cI aF (aK 0) (aN 0) (aT 0) F ++ ul_wS cI aN (aK 0) N ++ ul_wS cI aT (aK 0) T ++ ul_wK cI aK K) H := by rw [eH]; exact hP
  have hS : va_S A s.heap H locs := by rw [eH, eL]; exact hS
  rw [← eL]
  refine (show G H locs (F0 m 0 ls []) → G s.heap locs (F0 m 0 ls []) from fun z => by rw [← eH]; exact z) ?_
  have J135 : ∀ (x2 : Int32) (x3 : Int32) (F__135 : ul_S) (T__135 : ul_S) (H : Heap) (locs : List Loc), ul_H (dC, dI) A s.heap (ul_wG cI aF (aK 0) (aN 0) (aT 0) F__135 ++ ul_wS cI aN (aK 0) N ++ ul_wS cI aT (aK 0) T__135 ++ ul_wK cI aK K) H locs → ∀ ls : Array Slot, lv_has ls 6 [(0, .ref (aF 0)), (1, .int p1), (2, .int x2), (3, .int x3)] → (f_X1_findSpot_j135 N K p1 x2 x3 F__135 T__135).bind K0 = some r → G H locs (F0 m 135 ls []) := by
    intro x2 x3 F__135 T__135 H locs hw ls hl h
    obtain ⟨hP, hD, hS⟩ := hw
    unfold f_X1_findSpot_j135 at h
    refine gi _ _ _ ?_
    have hr9 := hK0 (F__135, T__135) h
    subst hr9
    exact W.vret hx hb hr (fun t ht hW => ⟨⟨(), rfl, trivial, by rw [ht]; exact hP, va_K.moved hW.alike hK, hD⟩, hS.F ht⟩) hS.2.2 dX1_findSpot_135
  refine gi _ _ _ ?_
  refine lv_aload_n hx hb dX1_findSpot_0 rfl (lv_at hl 0 rfl) ?_
  refine lv_bipush (v := -9) hx hb dX1_findSpot_1 (by decide) ?_
  refine va_put (D := (dC, dI)) (ci := 1) (v := .int (-9 : Int32)) (ty := .int) (C := RX1) (T := TX1) (N := 9) hx hb hts hin1 tyX1 tyX1_ok nmX1 hown hK hP hD hS 0 rfl rfl 7 (by decide) (hts (.fieldLink RX1 52 "UnderLadders$Forecast" "best" "I") (by decide +kernel)) (fun _ h9 => h9) rfl (by decide +kernel) rfl rfl (Nat.le_of_ble_eq_true rfl) dX1_findSpot_3 (fun H locs hP hD hS => ?_)
  obtain ⟨F1, eF1⟩ : ∃ z : ul_S, z = ul_up F 0 0 (-9 : Int32) := ⟨_, rfl⟩
  have h := ul_bd_h h F1 eF1
  have hP : va_P (dC, dI) classes (ul_wG cI aF (aK 0) (aN 0) (aT 0) F1 ++ ul_wS cI aN (aK 0) N ++ ul_wS cI aT (aK 0) T ++ ul_wK cI aK K) H := by rw [eF1]; exact hP
  have hD : va_D A (ul_wG cI aF (aK 0) (aN 0) (aT 0) F1 ++ ul_wS cI aN (aK 0) N ++ ul_wS cI aT (aK 0) T ++ ul_wK cI aK K) := by rw [eF1]; exact hD
  refine lv_aload_n hx hb dX1_findSpot_6 rfl (lv_at hl 0 rfl) ?_
  refine lv_bipush (v := -9) hx hb dX1_findSpot_7 (by decide) ?_
  refine va_put (D := (dC, dI)) (ci := 1) (v := .int (-9 : Int32)) (ty := .int) (C := RX1) (T := TX1) (N := 9) hx hb hts hin1 tyX1 tyX1_ok nmX1 hown hK hP hD hS 0 rfl rfl 8 (by decide) (hts (.fieldLink RX1 56 "UnderLadders$Forecast" "bestWorth" "I") (by decide +kernel)) (fun _ h9 => h9) rfl (by decide +kernel) rfl rfl (Nat.le_of_ble_eq_true rfl) dX1_findSpot_9 (fun H locs hP hD hS => ?_)
  obtain ⟨F2, eF2⟩ : ∃ z : ul_S, z = ul_up F1 0 1 (-9 : Int32) := ⟨_, rfl⟩
  have h := ul_bd_h h F2 eF2
  have hP : va_P (dC, dI) classes (ul_wG cI aF (aK 0) (aN 0) (aT 0) F2 ++ ul_wS cI aN (aK 0) N ++ ul_wS cI aT (aK 0) T ++ ul_wK cI aK K) H := by rw [eF2]; exact hP
  have hD : va_D A (ul_wG cI aF (aK 0) (aN 0) (aT 0) F2 ++ ul_wS cI aN (aK 0) N ++ ul_wS cI aT (aK 0) T ++ ul_wK cI aK K) := by rw [eF2]; exact hD
  refine lv_bipush (v := -9) hx hb dX1_findSpot_12 (by decide) ?_
  refine lv_istore_n (lv' := [(2, .int (-9 : Int32)), (0, .ref (aF 0)), (1, .int p1)]) hx hb dX1_findSpot_14 rfl hl (by decide) rfl (fun ls hl => ?_)
  refine lv_iconst (v := 0) hx hb dX1_findSpot_15 (by decide) ?_
  refine lv_istore_n (lv' := [(3, .int (0 : Int32)), (2, .int (-9 : Int32)), (0, .ref (aF 0)), (1, .int p1)]) hx hb dX1_findSpot_16 rfl hl (by decide) rfl (fun ls hl => ?_)
  refine ge _ _ _ (ul_loop (P := fun q17 => ∀ (H : Heap) (locs : List Loc), ul_H (dC, dI) A s.heap (ul_wG cI aF (aK 0) (aN 0) (aT 0) q17.2.2.1 ++ ul_wS cI aN (aK 0) N ++ ul_wS cI aT (aK 0) q17.2.2.2 ++ ul_wK cI aK K) H locs → ∀ ls : Array Slot, lv_has ls 6 [(0, .ref (aF 0)), (1, .int p1), (2, .int q17.1), (3, .int q17.2.1)] → G H locs (F0 m 17 ls [])) ?_ _ _ (ul_it_h h) H locs ⟨hP, hD, hS⟩ ls (lv_sub hl [2, 3, 1, 0] rfl))
  intro K17 hx17
  intro q17 ih17 h H locs hw ls hl
  have J129 : ∀ (x2 : Int32) (x3 : Int32) (F__129 : ul_S) (T__129 : ul_S) (H : Heap) (locs : List Loc), ul_H (dC, dI) A s.heap (ul_wG cI aF (aK 0) (aN 0) (aT 0) F__129 ++ ul_wS cI aN (aK 0) N ++ ul_wS cI aT (aK 0) T__129 ++ ul_wK cI aK K) H locs → ∀ ls : Array Slot, lv_has ls 6 [(0, .ref (aF 0)), (1, .int p1), (2, .int x2), (3, .int x3)] → (f_X1_findSpot_j129 N K p1 x2 x3 F__129 T__129).bind K17 = some r → G H locs (F0 m 129 ls []) := by
    intro x2 x3 F__129 T__129 H locs hw ls hl h
    obtain ⟨hP, hD, hS⟩ := hw
    unfold f_X1_findSpot_j129 at h
    refine gi _ _ _ ?_
    obtain ⟨v4, ev4⟩ : ∃ z : Int32, z = x3 + 1 := ⟨_, rfl⟩
    have h := ul_bd_h h v4 ev4
    refine lv_iinc (v := v4) (lv' := [(3, .int v4), (0, .ref (aF 0)), (1, .int p1), (2, .int x2)]) hx hb dX1_findSpot_129 hl (k := 3) rfl (by rw [ev4]; rfl) (by decide) rfl (fun ls hl => ?_)
    refine lv_goto (tgt := 17) hx hb dX1_findSpot_132 (by decide) ?_
    exact ge _ _ _ (ih17 (x2, v4, F__129, T__129) h H locs ⟨hP, hD, hS⟩ ls (lv_sub hl [1, 2, 3, 0] rfl))
  have J115 : ∀ (x2 : Int32) (x3 : Int32) (x4 : Int32) (x5 : Int32) (F__115 : ul_S) (T__115 : ul_S) (H : Heap) (locs : List Loc), ul_H (dC, dI) A s.heap (ul_wG cI aF (aK 0) (aN 0) (aT 0) F__115 ++ ul_wS cI aN (aK 0) N ++ ul_wS cI aT (aK 0) T__115 ++ ul_wK cI aK K) H locs → ∀ ls : Array Slot, lv_has ls 6 [(0, .ref (aF 0)), (1, .int p1), (2, .int x2), (3, .int x3), (4, .int x4), (5, .int x5)] → (f_X1_findSpot_j115 N K p1 x2 x3 x4 x5 F__115 T__115).bind K17 = some r → G H locs (F0 m 115 ls []) := by
    intro x2 x3 x4 x5 F__115 T__115 H locs hw ls hl h
    obtain ⟨hP, hD, hS⟩ := hw
    unfold f_X1_findSpot_j115 at h
    refine gi _ _ _ ?_
    refine lv_aload_n hx hb dX1_findSpot_115 rfl (lv_at hl 0 rfl) ?_
    refine lv_iload_n hx hb dX1_findSpot_116 rfl (lv_at hl 3 rfl) ?_
    refine va_put (D := (dC, dI)) (ci := 1) (v := .int x3) (ty := .int) (C := RX1) (T := TX1) (N := 9) hx hb hts hin1 tyX1 tyX1_ok nmX1 hown hK hP hD hS 0 rfl rfl 7 (by decide) (hts (.fieldLink RX1 52 "UnderLadders$Forecast" "best" "I") (by decide +kernel)) (fun _ h9 => h9) rfl (by decide +kernel) rfl rfl (Nat.le_of_ble_eq_true rfl) dX1_findSpot_117 (fun H locs hP hD hS => ?_)
    obtain ⟨F7, eF7⟩ : ∃ z : ul_S, z = ul_up F__115 0 0 x3 := ⟨_, rfl⟩
    have h := ul_bd_h h F7 eF7
    have hP : va_P (dC, dI) classes (ul_wG cI aF (aK 0) (aN 0) (aT 0) F7 ++ ul_wS cI aN (aK 0) N ++ ul_wS cI aT (aK 0) T__115 ++ ul_wK cI aK K) H := by rw [eF7]; exact hP
    have hD : va_D A (ul_wG cI aF (aK 0) (aN 0) (aT 0) F7 ++ ul_wS cI aN (aK 0) N ++ ul_wS cI aT (aK 0) T__115 ++ ul_wK cI aK K) := by rw [eF7]; exact hD
    refine lv_aload_n hx hb dX1_findSpot_120 rfl (lv_at hl 0 rfl) ?_
    refine lv_iload hx hb dX1_findSpot_121 (lv_at hl 4 rfl) ?_
    refine va_put (D := (dC, dI)) (ci := 1) (v := .int x4) (ty := .int) (C := RX1) (T := TX1) (N := 9) hx hb hts hin1 tyX1 tyX1_ok nmX1 hown hK hP hD hS 0 rfl rfl 8 (by decide) (hts (.fieldLink RX1 56 "UnderLadders$Forecast" "bestWorth" "I") (by decide +kernel)) (fun _ h9 => h9) rfl (by decide +kernel) rfl rfl (Nat.le_of_ble_eq_true rfl) dX1_findSpot_123 (fun H locs hP hD hS => ?_)
    obtain ⟨F8, eF8⟩ : ∃ z : ul_S, z = ul_up F7 0 1 x4 := ⟨_, rfl⟩
    have h := ul_bd_h h F8 eF8
    have hP : va_P (dC, dI) classes (ul_wG cI aF (aK 0) (aN 0) (aT 0) F8 ++ ul_wS cI aN (aK 0) N ++ ul_wS cI aT (aK 0) T__115 ++ ul_wK cI aK K) H := by rw [eF8]; exact hP
    have hD : va_D A (ul_wG cI aF (aK 0) (aN 0) (aT 0) F8 ++ ul_wS cI aN (aK 0) N ++ ul_wS cI aT (aK 0) T__115 ++ ul_wK cI aK K) := by rw [eF8]; exact hD
    refine lv_iload hx hb dX1_findSpot_126 (lv_at hl 5 rfl) ?_
    refine lv_istore_n (lv' := [(2, .int x5), (0, .ref (aF 0)), (1, .int p1), (3, .int x3), (4, .int x4), (5, .int x5)]) hx hb dX1_findSpot_128 rfl hl (by decide) rfl (fun ls hl => ?_)
    exact ge _ _ _ (J129 x5 x3 F8 T__115 H locs ⟨hP, hD, hS⟩ ls (lv_sub hl [1, 2, 0, 3] rfl) h)
  obtain ⟨hP, hD, hS⟩ := hw
  unfold f_X1_findSpot_L17 at h
  refine gi _ _ _ ?_
  refine lv_iload_n hx hb dX1_findSpot_17 rfl (lv_at hl 3 rfl) ?_
  refine lv_bipush (v := 10) hx hb dX1_findSpot_18 (by decide) ?_
  refine lv_icmp_ge (tgt := 135) hx hb dX1_findSpot_20 (by decide) (fun hc22 => ?_) (fun hc22 => ?_)
  · have h := ul_if_t hc22 h
    exact ge _ _ _ (J135 q17.1 q17.2.1 q17.2.2.1 q17.2.2.2 H locs ⟨hP, hD, hS⟩ ls (lv_sub hl [0, 1, 2, 3] rfl) (hx17 (q17.1, q17.2.1, q17.2.2.1, q17.2.2.2) h))
  · have h := ul_if_f hc22 h
    refine lv_aload_n hx hb dX1_findSpot_23 rfl (lv_at hl 0 rfl) ?_
    refine va_get (D := (dC, dI)) (ci := 1) (v := .ref (aN 0)) (C := RX1) (T := TX1) (N := 9) hx hb hts hin1 hown hK hP 0 rfl rfl 1 (by decide) (hts (.fieldLink RX1 15 "UnderLadders$Forecast" "now" "LUnderLadders$Street;") (by decide +kernel)) (fun _ h9 => h9) rfl dX1_findSpot_24 ?_
    refine lv_iload_n hx hb dX1_findSpot_27 rfl (lv_at hl 1 rfl) ?_
    refine lv_iload_n hx hb dX1_findSpot_28 rfl (lv_at hl 3 rfl) ?_
    obtain ⟨u23, hu23, h⟩ := ul_cl_h h
    refine ul_cVi (As := [.int p1, .int q17.2.1]) (rest := []) (wc' := (ul_wS cI aN (aK 0) N ++ ul_wK cI aK K)) (wr := (ul_wG cI aF (aK 0) (aN 0) (aT 0) q17.2.2.1 ++ ul_wS cI aT (aK 0) q17.2.2.2)) hP hD hS hK hA [5, 6, 7, 8, 9, 10, 11, 19, 20, 21, 22, 23, 24, 25, 26] [0, 1, 2, 3, 4, 12, 13, 14, 15, 16, 17, 18] [0] ul_NX_ok hN (c_X4_isOwnOrFree l dC dI cI aN aK H.size N K p1 q17.2.1 u23 hu23) rfl rfl (by decide) rfl (by decide) (by decide) rfl ⟨hx, hb, hml, hown, hts⟩ (cwV 2 hts gX1_findSpot_X4_isOwnOrFree rfl rfl rfl (by decide +kernel) ⟨Nat.le_of_ble_eq_true rfl, Nat.le_of_ble_eq_true rfl⟩) (va_recv hK hP (ci := 4) (q0 := 5) rfl rfl) rfl hl.1 rfl (Nat.le_of_ble_eq_true rfl) dX1_findSpot_29 (fun H locs hw => ?_)
    have hw := hw.re (w' := (ul_wG cI aF (aK 0) (aN 0) (aT 0) q17.2.2.1 ++ ul_wS cI aN (aK 0) N ++ ul_wS cI aT (aK 0) q17.2.2.2 ++ ul_wK cI aK K)) [0, 1, 2, 3, 4, 12, 13, 14, 15, 16, 17, 18, 5, 6, 7, 8, 9, 10, 11, 19, 20, 21, 22, 23, 24, 25, 26] (by decide) rfl rfl
    obtain ⟨hP, hD, hS⟩ := hw
    refine lv_if_ne (tgt := 38) hx hb dX1_findSpot_32 (by decide) (fun hc24 => ?_) (fun hc24 => ?_)
    · have h := ul_if_f hc24 h
      refine lv_aload_n hx hb dX1_findSpot_38 rfl (lv_at hl 0 rfl) ?_
      refine va_get (D := (dC, dI)) (ci := 1) (v := .ref (aT 0)) (C := RX1) (T := TX1) (N := 9) hx hb hts hin1 hown hK hP 0 rfl rfl 2 (by decide) (hts (.fieldLink RX1 19 "UnderLadders$Forecast" "trial" "LUnderLadders$Street;") (by decide +kernel)) (fun _ h9 => h9) rfl dX1_findSpot_39 ?_
      refine lv_aload_n hx hb dX1_findSpot_42 rfl (lv_at hl 0 rfl) ?_
      refine va_get (D := (dC, dI)) (ci := 1) (v := .ref (aN 0)) (C := RX1) (T := TX1) (N := 9) hx hb hts hin1 hown hK hP 0 rfl rfl 1 (by decide) (hts (.fieldLink RX1 15 "UnderLadders$Forecast" "now" "LUnderLadders$Street;") (by decide +kernel)) (fun _ h9 => h9) rfl dX1_findSpot_43 ?_
      obtain ⟨u25, hu25, h⟩ := ul_cl_h h
      refine ul_cVv (As := [.ref (aN 0)]) (rest := []) (wc' := (ul_wS cI aT (aK 0) u25 ++ ul_wS cI aN (aK 0) N)) (wr := (ul_wG cI aF (aK 0) (aN 0) (aT 0) q17.2.2.1 ++ ul_wK cI aK K)) hP hD hS hK hA [12, 13, 14, 15, 16, 17, 18, 5, 6, 7, 8, 9, 10, 11] [0, 1, 2, 3, 4, 19, 20, 21, 22, 23, 24, 25, 26] [0] ul_NX_ok hN (c_X4_setTo l dC dI cI aT aN aK H.size q17.2.2.2 N u25 hu25) rfl rfl (by decide) rfl (by decide) (by decide) rfl ⟨hx, hb, hml, hown, hts⟩ (cwV 1 hts gX1_findSpot_X4_setTo rfl rfl rfl (by decide +kernel) ⟨Nat.le_of_ble_eq_true rfl, Nat.le_of_ble_eq_true rfl⟩) (va_recv hK hP (ci := 4) (q0 := 12) rfl rfl) rfl hl.1 rfl (Nat.le_of_ble_eq_true rfl) dX1_findSpot_46 (fun H locs hw => ?_)
      have hw := hw.re (w' := (ul_wG cI aF (aK 0) (aN 0) (aT 0) q17.2.2.1 ++ ul_wS cI aN (aK 0) N ++ ul_wS cI aT (aK 0) u25 ++ ul_wK cI aK K)) [0, 1, 2, 3, 4, 20, 21, 22, 23, 24, 25, 26, 13, 14, 15, 16, 17, 18, 19, 5, 6, 7, 8, 9, 10, 11, 12] (by decide) rfl rfl
      obtain ⟨hP, hD, hS⟩ := hw
      refine lv_aload_n hx hb dX1_findSpot_49 rfl (lv_at hl 0 rfl) ?_
      refine va_get (D := (dC, dI)) (ci := 1) (v := .ref (aT 0)) (C := RX1) (T := TX1) (N := 9) hx hb hts hin1 hown hK hP 0 rfl rfl 2 (by decide) (hts (.fieldLink RX1 19 "UnderLadders$Forecast" "trial" "LUnderLadders$Street;") (by decide +kernel)) (fun _ h9 => h9) rfl dX1_findSpot_50 ?_
      refine lv_iload_n hx hb dX1_findSpot_53 rfl (lv_at hl 1 rfl) ?_
      refine lv_iload_n hx hb dX1_findSpot_54 rfl (lv_at hl 3 rfl) ?_
      obtain ⟨u26, hu26, h⟩ := ul_cl_h h
      refine ul_cVv (As := [.int p1, .int q17.2.1]) (rest := []) (wc' := (ul_wS cI aT (aK 0) u26 ++ ul_wK cI aK K)) (wr := (ul_wG cI aF (aK 0) (aN 0) (aT 0) q17.2.2.1 ++ ul_wS cI aN (aK 0) N)) hP hD hS hK hA [12, 13, 14, 15, 16, 17, 18, 19, 20, 21, 22, 23, 24, 25, 26] [0, 1, 2, 3, 4, 5, 6, 7, 8, 9, 10, 11] [0] ul_NX_ok hN (c_X4_put l dC dI cI aT aK H.size u25 K p1 q17.2.1 u26 hu26) rfl rfl (by decide) rfl (by decide) (by decide) rfl ⟨hx, hb, hml, hown, hts⟩ (cwV 2 hts gX1_findSpot_X4_put rfl rfl rfl (by decide +kernel) ⟨Nat.le_of_ble_eq_true rfl, Nat.le_of_ble_eq_true rfl⟩) (va_recv hK hP (ci := 4) (q0 := 12) rfl rfl) rfl hl.1 rfl (Nat.le_of_ble_eq_true rfl) dX1_findSpot_55 (fun H locs hw => ?_)
      have hw := hw.re (w' := (ul_wG cI aF (aK 0) (aN 0) (aT 0) q17.2.2.1 ++ ul_wS cI aN (aK 0) N ++ ul_wS cI aT (aK 0) u26 ++ ul_wK cI aK K)) [0, 1, 2, 3, 4, 5, 6, 7, 8, 9, 10, 11, 12, 13, 14, 15, 16, 17, 18, 19, 20, 21, 22, 23, 24, 25, 26] (by decide) rfl rfl
      obtain ⟨hP, hD, hS⟩ := hw
      refine lv_aload_n hx hb dX1_findSpot_58 rfl (lv_at hl 0 rfl) ?_
      refine va_get (D := (dC, dI)) (ci := 1) (v := .ref (aT 0)) (C := RX1) (T := TX1) (N := 9) hx hb hts hin1 hown hK hP 0 rfl rfl 2 (by decide) (hts (.fieldLink RX1 19 "UnderLadders$Forecast" "trial" "LUnderLadders$Street;") (by decide +kernel)) (fun _ h9 => h9) rfl dX1_findSpot_59 ?_
      refine lv_bipush (v := 6) hx hb dX1_findSpot_62 (by decide) ?_
      refine lv_bipush (v := 31) hx hb dX1_findSpot_64 (by decide) ?_
      obtain ⟨u27, hu27, h⟩ := ul_cl_h h
      refine ul_cVv (As := [.int (6 : Int32), .int (31 : Int32)]) (rest := []) (wc' := (ul_wS cI aT (aK 0) u27 ++ ul_wK cI aK K)) (wr := (ul_wG cI aF (aK 0) (aN 0) (aT 0) q17.2.2.1 ++ ul_wS cI aN (aK 0) N)) hP hD hS hK hA [12, 13, 14, 15, 16, 17, 18, 19, 20, 21, 22, 23, 24, 25, 26] [0, 1, 2, 3, 4, 5, 6, 7, 8, 9, 10, 11] [0] ul_NX_ok hN (c_X4_passDays l dC dI cI aT aK H.size u26 K (6 : Int32) (31 : Int32) u27 hu27) rfl rfl (by decide) rfl (by decide) (by decide) rfl ⟨hx, hb, hml, hown, hts⟩ (cwV 2 hts gX1_findSpot_X4_passDays rfl rfl rfl (by decide +kernel) ⟨Nat.le_of_ble_eq_true rfl, Nat.le_of_ble_eq_true rfl⟩) (va_recv hK hP (ci := 4) (q0 := 12) rfl rfl) rfl hl.1 rfl (Nat.le_of_ble_eq_true rfl) dX1_findSpot_66 (fun H locs hw => ?_)
      have hw := hw.re (w' := (ul_wG cI aF (aK 0) (aN 0) (aT 0) q17.2.2.1 ++ ul_wS cI aN (aK 0) N ++ ul_wS cI aT (aK 0) u27 ++ ul_wK cI aK K)) [0, 1, 2, 3, 4, 5, 6, 7, 8, 9, 10, 11, 12, 13, 14, 15, 16, 17, 18, 19, 20, 21, 22, 23, 24, 25, 26] (by decide) rfl rfl
      obtain ⟨hP, hD, hS⟩ := hw
      refine lv_aload_n hx hb dX1_findSpot_69 rfl (lv_at hl 0 rfl) ?_
      refine va_get (D := (dC, dI)) (ci := 1) (v := .ref (aT 0)) (C := RX1) (T := TX1) (N := 9) hx hb hts hin1 hown hK hP 0 rfl rfl 2 (by decide) (hts (.fieldLink RX1 19 "UnderLadders$Forecast" "trial" "LUnderLadders$Street;") (by decide +kernel)) (fun _ h9 => h9) rfl dX1_findSpot_70 ?_
      refine va_getN (D := (dC, dI)) (ci := 4) (v := .ref (aT 4)) (C := RX4) (T := TX4) (N := 8) hx hb hts hin4 hown hK hP 12 rfl rfl 4 (by decide) (va_Nw.use rfl (hN.1 (RX1, 66, "UnderLadders$Street", "manGold", "[I") (by decide +kernel))) (fun _ h9 => h9) rfl dX1_findSpot_73 ?_
      refine lv_iload_n hx hb dX1_findSpot_76 rfl (lv_at hl 1 rfl) ?_
      obtain ⟨hi29, h⟩ := ul_ld_h h
      refine va_iald hx hb hK hP 16 0 rfl rfl hi29 dX1_findSpot_77 ?_
      refine lv_topi (fun v28 ev28 => ?_)
      have h := h v28 ev28
      refine lv_istore (lv' := [(4, .int v28), (0, .ref (aF 0)), (1, .int p1), (2, .int q17.1), (3, .int q17.2.1)]) hx hb dX1_findSpot_78 hl (by decide) rfl (fun ls hl => ?_)
      refine lv_aload_n hx hb dX1_findSpot_80 rfl (lv_at hl 1 rfl) ?_
      refine va_get (D := (dC, dI)) (ci := 1) (v := .ref (aT 0)) (C := RX1) (T := TX1) (N := 9) hx hb hts hin1 hown hK hP 0 rfl rfl 2 (by decide) (hts (.fieldLink RX1 19 "UnderLadders$Forecast" "trial" "LUnderLadders$Street;") (by decide +kernel)) (fun _ h9 => h9) rfl dX1_findSpot_81 ?_
      refine va_getN (D := (dC, dI)) (ci := 4) (v := .ref (aT 3)) (C := RX4) (T := TX4) (N := 8) hx hb hts hin4 hown hK hP 12 rfl rfl 3 (by decide) (va_Nw.use rfl (hN.1 (RX1, 69, "UnderLadders$Street", "manLuck", "[I") (by decide +kernel))) (fun _ h9 => h9) rfl dX1_findSpot_84 ?_
      refine lv_iload_n hx hb dX1_findSpot_87 rfl (lv_at hl 2 rfl) ?_
      obtain ⟨hi31, h⟩ := ul_ld_h h
      refine va_iald hx hb hK hP 15 0 rfl rfl hi31 dX1_findSpot_88 ?_
      refine lv_topi (fun v30 ev30 => ?_)
      have h := h v30 ev30
      refine lv_istore (lv' := [(5, .int v30), (4, .int v28), (0, .ref (aF 0)), (1, .int p1), (2, .int q17.1), (3, .int q17.2.1)]) hx hb dX1_findSpot_89 hl (by decide) rfl (fun ls hl => ?_)
      refine lv_iload hx hb dX1_findSpot_91 (lv_at hl 1 rfl) ?_
      refine lv_aload_n hx hb dX1_findSpot_93 rfl (lv_at hl 2 rfl) ?_
      refine va_get (D := (dC, dI)) (ci := 1) (v := .int (q17.2.2.1 0 1)) (C := RX1) (T := TX1) (N := 9) hx hb hts hin1 hown hK hP 0 rfl rfl 8 (by decide) (hts (.fieldLink RX1 56 "UnderLadders$Forecast" "bestWorth" "I") (by decide +kernel)) (fun _ h9 => h9) rfl dX1_findSpot_94 ?_
      refine lv_icmp_gt (tgt := 115) hx hb dX1_findSpot_97 (by decide) (fun hc32 => ?_) (fun hc32 => ?_)
      · have h := ul_if_t hc32 h
        exact ge _ _ _ (J115 q17.1 q17.2.1 v28 v30 q17.2.2.1 u27 H locs ⟨hP, hD, hS⟩ ls (lv_sub hl [2, 3, 4, 5, 1, 0] rfl) h)
      · have h := ul_if_f hc32 h
        refine lv_iload hx hb dX1_findSpot_100 (lv_at hl 1 rfl) ?_
        refine lv_aload_n hx hb dX1_findSpot_102 rfl (lv_at hl 2 rfl) ?_
        refine va_get (D := (dC, dI)) (ci := 1) (v := .int (q17.2.2.1 0 1)) (C := RX1) (T := TX1) (N := 9) hx hb hts hin1 hown hK hP 0 rfl rfl 8 (by decide) (hts (.fieldLink RX1 56 "UnderLadders$Forecast" "bestWorth" "I") (by decide +kernel)) (fun _ h9 => h9) rfl dX1_findSpot_103 ?_
        refine lv_icmp_ne (tgt := 129) hx hb dX1_findSpot_106 (by decide) (fun hc33 => ?_) (fun hc33 => ?_)
        · have h := ul_if_f hc33 h
          exact ge _ _ _ (J129 q17.1 q17.2.1 q17.2.2.1 u27 H locs ⟨hP, hD, hS⟩ ls (lv_sub hl [2, 3, 4, 5] rfl) h)
        · have h := ul_if_t hc33 h
          refine lv_iload hx hb dX1_findSpot_109 (lv_at hl 0 rfl) ?_
          refine lv_iload_n hx hb dX1_findSpot_111 rfl (lv_at hl 4 rfl) ?_
          refine lv_icmp_le (tgt := 129) hx hb dX1_findSpot_112 (by decide) (fun hc34 => ?_) (fun hc34 => ?_)
          · have h := ul_if_t hc34 h
            exact ge _ _ _ (J129 q17.1 q17.2.1 q17.2.2.1 u27 H locs ⟨hP, hD, hS⟩ ls (lv_sub hl [2, 3, 4, 5] rfl) h)
          · have h := ul_if_f hc34 h
            exact ge _ _ _ (J115 q17.1 q17.2.1 v28 v30 q17.2.2.1 u27 H locs ⟨hP, hD, hS⟩ ls (lv_sub hl [2, 3, 4, 5, 1, 0] rfl) h)
    · have h := ul_if_t hc24 h
      refine lv_goto (tgt := 129) hx hb dX1_findSpot_35 (by decide) ?_
      exact ge _ _ _ (J129 q17.1 q17.2.1 q17.2.2.1 q17.2.2.2 H locs ⟨hP, hD, hS⟩ ls (lv_sub hl [0, 1, 2, 3] rfl) h)
def f_X1_findRound_j105 (N : ul_S) (K : ul_S) (p1 : Int32) (x2 : Int32) (x3 : Int32) (F__105 : ul_S) : Option ul_S :=
  some F__105
def f_X1_findRound_j99 (N : ul_S) (K : ul_S) (p1 : Int32) (x2 : Int32) (x3 : Int32) (F__99 : ul_S) : Option ((Int32 × ul_S) ⊕ (Int32 × ul_S)) :=
  ul_bd (x3 + 1) fun v5 => some (.inr (v5, F__99))
def f_X1_findRound_j88 (N : ul_S) (K : ul_S) (p1 : Int32) (x2 : Int32) (x3 : Int32) (x4 : Int32) (F__88 : ul_S) : Option ((Int32 × ul_S) ⊕ (Int32 × ul_S)) :=
  ul_bd (ul_up F__88 0 0 x3) fun F7 => ul_bd (ul_up F7 0 1 x4) fun F8 => f_X1_findRound_j99 N K p1 x2 x3 F8
def f_X1_findRound_L29 (N : ul_S) (K : ul_S) (p1 : Int32) (y2 : Int32) (q29 : (Int32 × ul_S)) : Option ((Int32 × ul_S) ⊕ (Int32 × ul_S)) :=
  if (16 : Int32) ≤ q29.1 then (some (.inl (q29.1, q29.2))) else (if (q29.1 &&& y2) = q29.1 then ((f_X4_luckByStepping N K p1 q29.1).bind fun u13 => if (q29.2 0 1) < u13 then (f_X1_findRound_j88 N K p1 y2 q29.1 u13 q29.2) else (if u13 = (q29.2 0 1) then ((f_J6_bitCount_0f7a4 q29.1).bind fun u16 => (f_J6_bitCount_0f7a4 (q29.2 0 0)).bind fun u17 => if u17 ≤ u16 then (f_X1_findRound_j99 N K p1 y2 q29.1 q29.2) else (f_X1_findRound_j88 N K p1 y2 q29.1 u13 q29.2)) else (f_X1_findRound_j99 N K p1 y2 q29.1 q29.2))) else (f_X1_findRound_j99 N K p1 y2 q29.1 q29.2))
def f_X1_findRound (F : ul_S) (N : ul_S) (K : ul_S) (p1 : Int32) : Option ul_S :=
  (f_X4_laddersAhead N K p1).bind fun u1 => ul_bd (ul_up F 0 0 (0 : Int32)) fun F2 => (f_X4_luckByStepping N K p1 (0 : Int32)).bind fun u3 => ul_bd (ul_up F2 0 1 u3) fun F4 => (ul_it ul_N (f_X1_findRound_L29 N K p1 u1) ((1 : Int32), F4)).bind (fun e29 => f_X1_findRound_j105 N K p1 u1 e29.1 e29.2)
set_option maxHeartbeats 4000000 in
set_option maxRecDepth 100000 in
theorem c_X1_findRound (l : Launch) (dC : Nat → ClassId) (dI : Nat → Nat → Nat) (cI : ClassId) (aF : Nat → Nat) (aN : Nat → Nat) (aT : Nat → Nat) (aK : Nat → Nat) (sz : Nat) (F : ul_S) (N : ul_S) (T : ul_S) (K : ul_S) (p1 : Int32) (r : ul_S) (h : f_X1_findRound F N K p1 = some r) : Met l yX1_findRound wsX1_findRound ({ frames := 3, cells := 0, slots := 0, locals := 87 }) (va_Pc [.ref (aF 0), .int p1] (ul_pre (dC, dI) [(cI, .int)] ul_NX sz (ul_wG cI aF (aK 0) (aN 0) (aT 0) F ++ ul_wS cI aN (aK 0) N ++ ul_wS cI aT (aK 0) T ++ ul_wK cI aK K))) (va_Qv (fun (_ : Unit) => True) (fun _ => ul_post (dC, dI) [(cI, .int)] (va_A (ul_wG cI aF (aK 0) (aN 0) (aT 0) F ++ ul_wS cI aN (aK 0) N ++ ul_wS cI aT (aK 0) T ++ ul_wK cI aK K) sz) (ul_wG cI aF (aK 0) (aN 0) (aT 0) r ++ ul_wS cI aN (aK 0) N ++ ul_wS cI aT (aK 0) T ++ ul_wK cI aK K)) (va_A (ul_wG cI aF (aK 0) (aN 0) (aT 0) F ++ ul_wS cI aN (aK 0) N ++ ul_wS cI aT (aK 0) T ++ ul_wK cI aK K) sz)) 0 0 (va_A (ul_wG cI aF (aK 0) (aN 0) (aT 0) F ++ ul_wS cI aN (aK 0) N ++ ul_wS cI aT (aK 0) T ++ ul_wK cI aK K) sz) := by
  refine Met.ofW (cc := cX1_findRound) (maxL := 5) (ret := none) (by decide) rfl ?_
  intro p e s m args below meth c s₁ B hml hv
  obtain ⟨rfl, hsz, hP, hK, hD0, hN⟩ := hv
  have hx := B.exec
  have hb := B.bytes
  have hr := B.returns
  have hts := atoms_spec (ws := wsX1_findRound) B.pre
  have hown : s.vm.findClass RX1 = some m.cls := findClass_of_methodNamed B.named
  have hlocks := B.notSynchronized
  have hin1 : ∀ w ∈ u_ws RX1 TX1 9, w ∈ wsX1_findRound := by decide +kernel
  subst hsz
  have hD := hD0.self (sz := s.heap.size)
  generalize hAe : va_A (ul_wG cI aF (aK 0) (aN 0) (aT 0) F ++ ul_wS cI aN (aK 0) N ++ ul_wS cI aT (aK 0) T ++ ul_wK cI aK K) s.heap.size = A at hD hN ⊢
  have hA : ∀ q : Nat, s.heap.size ≤ q → A q := fun q h => by rw [← hAe]; exact Or.inr h
  have hS : va_S A s.heap s.heap [] := va_S.rf
  have hl := lv_entry ([.ref (aF 0), .int p1]) (n := 5) (Nat.le_of_ble_eq_true rfl)
  rw [lg_entry_eq]
  generalize (lg_sl ([.ref (aF 0), .int p1]) ++ List.replicate (5 - (lg_sl ([.ref (aF 0), .int p1])).length) Slot.unset).toArray = ls at hl ⊢
  have hl : lv_has ls 5 [(0, .ref (aF 0)), (1, .int p1)] := hl
  obtain ⟨K0, hK0, h⟩ := ul_top h
  unfold f_X1_findRound at h
  refine ul_gen (fun G gi ge => ?_)
  obtain ⟨H, eH⟩ : ∃ z, z = s.heap := ⟨_, rfl⟩
  obtain ⟨locs, eL⟩ : ∃ z : List Loc, z = [] := ⟨_, rfl⟩
  have hP : va_P (dC, dI) classes (ul_wG cI aF (aK 0) (aN 0) (aT 0) F ++ ul_wS cI aN (aK 0) N ++ ul_wS cI aT (aK 0) T ++ ul_wK cI aK K) H := by rw [eH]; exact hP
  have hS : va_S A s.heap H locs := by rw [eH, eL]; exact hS
  rw [← eL]
  refine (show G H locs (F0 m 0 ls []) → G s.heap locs (F0 m 0 ls []) from fun z => by rw [← eH]; exact z) ?_
  have J105 : ∀ (x2 : Int32) (x3 : Int32) (F__105 : ul_S) (H : Heap) (locs : List Loc), ul_H (dC, dI) A s.heap (ul_wG cI aF (aK 0) (aN 0) (aT 0) F__105 ++ ul_wS cI aN (aK 0) N ++ ul_wS cI aT (aK 0) T ++ ul_wK cI aK K) H locs → ∀ ls : Array Slot, lv_has ls 5 [(0, .ref (aF 0)), (1, .int p1), (2, .int x2), (3, .int x3)] → (f_X1_findRound_j105 N K p1 x2 x3 F__105).bind K0 = some r → G H locs (F0 m 105 ls []) := by
    intro x2 x3 F__105 H locs hw ls hl h
    obtain ⟨hP, hD, hS⟩ := hw
    unfold f_X1_findRound_j105 at h
    refine gi _ _ _ ?_
    have hr9 := hK0 F__105 h
    subst hr9
    exact W.vret hx hb hr (fun t ht hW => ⟨⟨(), rfl, trivial, by rw [ht]; exact hP, va_K.moved hW.alike hK, hD⟩, hS.F ht⟩) hS.2.2 dX1_findRound_105
  refine gi _ _ _ ?_
  refine lv_aload_n hx hb dX1_findRound_0 rfl (lv_at hl 0 rfl) ?_
  refine va_get (D := (dC, dI)) (ci := 1) (v := .ref (aN 0)) (C := RX1) (T := TX1) (N := 9) hx hb hts hin1 hown hK hP 0 rfl rfl 1 (by decide) (hts (.fieldLink RX1 15 "UnderLadders$Forecast" "now" "LUnderLadders$Street;") (by decide +kernel)) (fun _ h9 => h9) rfl dX1_findRound_1 ?_
  refine lv_iload_n hx hb dX1_findRound_4 rfl (lv_at hl 1 rfl) ?_
  obtain ⟨u1, hu1, h⟩ := ul_cl_h h
  refine ul_cVi (As := [.int p1]) (rest := []) (wc' := (ul_wS cI aN (aK 0) N ++ ul_wK cI aK K)) (wr := (ul_wG cI aF (aK 0) (aN 0) (aT 0) F ++ ul_wS cI aT (aK 0) T)) hP hD hS hK hA [5, 6, 7, 8, 9, 10, 11, 19, 20, 21, 22, 23, 24, 25, 26] [0, 1, 2, 3, 4, 12, 13, 14, 15, 16, 17, 18] [0] ul_NX_ok hN (c_X4_laddersAhead l dC dI cI aN aK H.size N K p1 u1 hu1) rfl rfl (by decide) rfl (by decide) (by decide) rfl ⟨hx, hb, hml, hown, hts⟩ (cwV 1 hts gX1_findRound_X4_laddersAhead rfl rfl rfl (by decide +kernel) ⟨Nat.le_of_ble_eq_true rfl, Nat.le_of_ble_eq_true rfl⟩) (va_recv hK hP (ci := 4) (q0 := 5) rfl rfl) rfl hl.1 rfl (Nat.le_of_ble_eq_true rfl) dX1_findRound_5 (fun H locs hw => ?_)
  have hw := hw.re (w' := (ul_wG cI aF (aK 0) (aN 0) (aT 0) F ++ ul_wS cI aN (aK 0) N ++ ul_wS cI aT (aK 0) T ++ ul_wK cI aK K)) [0, 1, 2, 3, 4, 12, 13, 14, 15, 16, 17, 18, 5, 6, 7, 8, 9, 10, 11, 19, 20, 21, 22, 23, 24, 25, 26] (by decide) rfl rfl
  obtain ⟨hP, hD, hS⟩ := hw
  refine lv_istore_n (lv' := [(2, .int u1), (0, .ref (aF 0)), (1, .int p1)]) hx hb dX1_findRound_8 rfl hl (by decide) rfl (fun ls hl => ?_)
  refine lv_aload_n hx hb dX1_findRound_9 rfl (lv_at hl 1 rfl) ?_
  refine lv_iconst (v := 0) hx hb dX1_findRound_10 (by decide) ?_
  refine va_put (D := (dC, dI)) (ci := 1) (v := .int (0 : Int32)) (ty := .int) (C := RX1) (T := TX1) (N := 9) hx hb hts hin1 tyX1 tyX1_ok nmX1 hown hK hP hD hS 0 rfl rfl 7 (by decide) (hts (.fieldLink RX1 52 "UnderLadders$Forecast" "best" "I") (by decide +kernel)) (fun _ h9 => h9) rfl (by decide +kernel) rfl rfl (Nat.le_of_ble_eq_true rfl) dX1_findRound_11 (fun H locs hP hD hS => ?_)
  obtain ⟨F2, eF2⟩ : ∃ z : ul_S, z = ul_up F 0 0 (0 : Int32) := ⟨_, rfl⟩
  have h := ul_bd_h h F2 eF2
  have hP : va_P (dC, dI) classes (ul_wG cI aF (aK 0) (aN 0) (aT 0) F2 ++ ul_wS cI aN (aK 0) N ++ ul_wS cI aT (aK 0) T ++ ul_wK cI aK K) H := by rw [eF2]; exact hP
  have hD : va_D A (ul_wG cI aF (aK 0) (aN 0) (aT 0) F2 ++ ul_wS cI aN (aK 0) N ++ ul_wS cI aT (aK 0) T ++ ul_wK cI aK K) := by rw [eF2]; exact hD
  refine lv_aload_n hx hb dX1_findRound_14 rfl (lv_at hl 1 rfl) ?_
  refine lv_aload_n hx hb dX1_findRound_15 rfl (lv_at hl 1 rfl) ?_
  refine va_get (D := (dC, dI)) (ci := 1) (v := .ref (aN 0)) (C := RX1) (T := TX1) (N := 9) hx hb hts hin1 hown hK hP 0 rfl rfl 1 (by decide) (hts (.fieldLink RX1 15 "UnderLadders$Forecast" "now" "LUnderLadders$Street;") (by decide +kernel)) (fun _ h9 => h9) rfl dX1_findRound_16 ?_
  refine lv_iload_n hx hb dX1_findRound_19 rfl (lv_at hl 2 rfl) ?_
  refine lv_iconst (v := 0) hx hb dX1_findRound_20 (by decide) ?_
  obtain ⟨u3, hu3, h⟩ := ul_cl_h h
  refine ul_cVi (As := [.int p1, .int (0 : Int32)]) (rest := [.ref (aF 0)]) (wc' := (ul_wS cI aN (aK 0) N ++ ul_wK cI aK K)) (wr := (ul_wG cI aF (aK 0) (aN 0) (aT 0) F2 ++ ul_wS cI aT (aK 0) T)) hP hD hS hK hA [5, 6, 7, 8, 9, 10, 11, 19, 20, 21, 22, 23, 24, 25, 26] [0, 1, 2, 3, 4, 12, 13, 14, 15, 16, 17, 18] [0] ul_NX_ok hN (c_X4_luckByStepping l dC dI cI aN aK H.size N K p1 (0 : Int32) u3 hu3) rfl rfl (by decide) rfl (by decide) (by decide) rfl ⟨hx, hb, hml, hown, hts⟩ (cwV 2 hts gX1_findRound_X4_luckByStepping rfl rfl rfl (by decide +kernel) ⟨Nat.le_of_ble_eq_true rfl, Nat.le_of_ble_eq_true rfl⟩) (va_recv hK hP (ci := 4) (q0 := 5) rfl rfl) rfl hl.1 rfl (Nat.le_of_ble_eq_true rfl) dX1_findRound_21 (fun H locs hw => ?_)
  have hw := hw.re (w' := (ul_wG cI aF (aK 0) (aN 0) (aT 0) F2 ++ ul_wS cI aN (aK 0) N ++ ul_wS cI aT (aK 0) T ++ ul_wK cI aK K)) [0, 1, 2, 3, 4, 12, 13, 14, 15, 16, 17, 18, 5, 6, 7, 8, 9, 10, 11, 19, 20, 21, 22, 23, 24, 25, 26] (by decide) rfl rfl
  obtain ⟨hP, hD, hS⟩ := hw
  refine va_put (D := (dC, dI)) (ci := 1) (v := .int u3) (ty := .int) (C := RX1) (T := TX1) (N := 9) hx hb hts hin1 tyX1 tyX1_ok nmX1 hown hK hP hD hS 0 rfl rfl 8 (by decide) (hts (.fieldLink RX1 56 "UnderLadders$Forecast" "bestWorth" "I") (by decide +kernel)) (fun _ h9 => h9) rfl (by decide +kernel) rfl rfl (Nat.le_of_ble_eq_true rfl) dX1_findRound_24 (fun H locs hP hD hS => ?_)
  obtain ⟨F4, eF4⟩ : ∃ z : ul_S, z = ul_up F2 0 1 u3 := ⟨_, rfl⟩
  have h := ul_bd_h h F4 eF4
  have hP : va_P (dC, dI) classes (ul_wG cI aF (aK 0) (aN 0) (aT 0) F4 ++ ul_wS cI aN (aK 0) N ++ ul_wS cI aT (aK 0) T ++ ul_wK cI aK K) H := by rw [eF4]; exact hP
  have hD : va_D A (ul_wG cI aF (aK 0) (aN 0) (aT 0) F4 ++ ul_wS cI aN (aK 0) N ++ ul_wS cI aT (aK 0) T ++ ul_wK cI aK K) := by rw [eF4]; exact hD
  refine lv_iconst (v := 1) hx hb dX1_findRound_27 (by decide) ?_
  refine lv_istore_n (lv' := [(3, .int (1 : Int32)), (2, .int u1), (0, .ref (aF 0)), (1, .int p1)]) hx hb dX1_findRound_28 rfl hl (by decide) rfl (fun ls hl => ?_)
  refine ge _ _ _ (ul_loop (P := fun q29 => ∀ (H : Heap) (locs : List Loc), ul_H (dC, dI) A s.heap (ul_wG cI aF (aK 0) (aN 0) (aT 0) q29.2 ++ ul_wS cI aN (aK 0) N ++ ul_wS cI aT (aK 0) T ++ ul_wK cI aK K) H locs → ∀ ls : Array Slot, lv_has ls 5 [(0, .ref (aF 0)), (1, .int p1), (2, .int u1), (3, .int q29.1)] → G H locs (F0 m 29 ls [])) ?_ _ _ (ul_it_h h) H locs ⟨hP, hD, hS⟩ ls (lv_sub hl [2, 3, 1, 0] rfl))
  intro K29 hx29
  intro q29 ih29 h H locs hw ls hl
  have J99 : ∀ (x3 : Int32) (F__99 : ul_S) (H : Heap) (locs : List Loc), ul_H (dC, dI) A s.heap (ul_wG cI aF (aK 0) (aN 0) (aT 0) F__99 ++ ul_wS cI aN (aK 0) N ++ ul_wS cI aT (aK 0) T ++ ul_wK cI aK K) H locs → ∀ ls : Array Slot, lv_has ls 5 [(0, .ref (aF 0)), (1, .int p1), (2, .int u1), (3, .int x3)] → (f_X1_findRound_j99 N K p1 u1 x3 F__99).bind K29 = some r → G H locs (F0 m 99 ls []) := by
    intro x3 F__99 H locs hw ls hl h
    obtain ⟨hP, hD, hS⟩ := hw
    unfold f_X1_findRound_j99 at h
    refine gi _ _ _ ?_
    obtain ⟨v6, ev6⟩ : ∃ z : Int32, z = x3 + 1 := ⟨_, rfl⟩
    have h := ul_bd_h h v6 ev6
    refine lv_iinc (v := v6) (lv' := [(3, .int v6), (0, .ref (aF 0)), (1, .int p1), (2, .int u1)]) hx hb dX1_findRound_99 hl (k := 3) rfl (by rw [ev6]; rfl) (by decide) rfl (fun ls hl => ?_)
    refine lv_goto (tgt := 29) hx hb dX1_findRound_102 (by decide) ?_
    exact ge _ _ _ (ih29 (v6, F__99) h H locs ⟨hP, hD, hS⟩ ls (lv_sub hl [1, 2, 3, 0] rfl))
  have J88 : ∀ (x3 : Int32) (x4 : Int32) (F__88 : ul_S) (H : Heap) (locs : List Loc), ul_H (dC, dI) A s.heap (ul_wG cI aF (aK 0) (aN 0) (aT 0) F__88 ++ ul_wS cI aN (aK 0) N ++ ul_wS cI aT (aK 0) T ++ ul_wK cI aK K) H locs → ∀ ls : Array Slot, lv_has ls 5 [(0, .ref (aF 0)), (1, .int p1), (2, .int u1), (3, .int x3), (4, .int x4)] → (f_X1_findRound_j88 N K p1 u1 x3 x4 F__88).bind K29 = some r → G H locs (F0 m 88 ls []) := by
    intro x3 x4 F__88 H locs hw ls hl h
    obtain ⟨hP, hD, hS⟩ := hw
    unfold f_X1_findRound_j88 at h
    refine gi _ _ _ ?_
    refine lv_aload_n hx hb dX1_findRound_88 rfl (lv_at hl 0 rfl) ?_
    refine lv_iload_n hx hb dX1_findRound_89 rfl (lv_at hl 3 rfl) ?_
    refine va_put (D := (dC, dI)) (ci := 1) (v := .int x3) (ty := .int) (C := RX1) (T := TX1) (N := 9) hx hb hts hin1 tyX1 tyX1_ok nmX1 hown hK hP hD hS 0 rfl rfl 7 (by decide) (hts (.fieldLink RX1 52 "UnderLadders$Forecast" "best" "I") (by decide +kernel)) (fun _ h9 => h9) rfl (by decide +kernel) rfl rfl (Nat.le_of_ble_eq_true rfl) dX1_findRound_90 (fun H locs hP hD hS => ?_)
    obtain ⟨F9, eF9⟩ : ∃ z : ul_S, z = ul_up F__88 0 0 x3 := ⟨_, rfl⟩
    have h := ul_bd_h h F9 eF9
    have hP : va_P (dC, dI) classes (ul_wG cI aF (aK 0) (aN 0) (aT 0) F9 ++ ul_wS cI aN (aK 0) N ++ ul_wS cI aT (aK 0) T ++ ul_wK cI aK K) H := by rw [eF9]; exact hP
    have hD : va_D A (ul_wG cI aF (aK 0) (aN 0) (aT 0) F9 ++ ul_wS cI aN (aK 0) N ++ ul_wS cI aT (aK 0) T ++ ul_wK cI aK K) := by rw [eF9]; exact hD
    refine lv_aload_n hx hb dX1_findRound_93 rfl (lv_at hl 0 rfl) ?_
    refine lv_iload hx hb dX1_findRound_94 (lv_at hl 4 rfl) ?_
    refine va_put (D := (dC, dI)) (ci := 1) (v := .int x4) (ty := .int) (C := RX1) (T := TX1) (N := 9) hx hb hts hin1 tyX1 tyX1_ok nmX1 hown hK hP hD hS 0 rfl rfl 8 (by decide) (hts (.fieldLink RX1 56 "UnderLadders$Forecast" "bestWorth" "I") (by decide +kernel)) (fun _ h9 => h9) rfl (by decide +kernel) rfl rfl (Nat.le_of_ble_eq_true rfl) dX1_findRound_96 (fun H locs hP hD hS => ?_)
    obtain ⟨F10, eF10⟩ : ∃ z : ul_S, z = ul_up F9 0 1 x4 := ⟨_, rfl⟩
    have h := ul_bd_h h F10 eF10
    have hP : va_P (dC, dI) classes (ul_wG cI aF (aK 0) (aN 0) (aT 0) F10 ++ ul_wS cI aN (aK 0) N ++ ul_wS cI aT (aK 0) T ++ ul_wK cI aK K) H := by rw [eF10]; exact hP
    have hD : va_D A (ul_wG cI aF (aK 0) (aN 0) (aT 0) F10 ++ ul_wS cI aN (aK 0) N ++ ul_wS cI aT (aK 0) T ++ ul_wK cI aK K) := by rw [eF10]; exact hD
    exact ge _ _ _ (J99 x3 F10 H locs ⟨hP, hD, hS⟩ ls (lv_sub hl [0, 1, 2, 3] rfl) h)
  obtain ⟨hP, hD, hS⟩ := hw
  unfold f_X1_findRound_L29 at h
  refine gi _ _ _ ?_
  refine lv_iload_n hx hb dX1_findRound_29 rfl (lv_at hl 3 rfl) ?_
  refine lv_bipush (v := 16) hx hb dX1_findRound_30 (by decide) ?_
  refine lv_icmp_ge (tgt := 105) hx hb dX1_findRound_32 (by decide) (fun hc19 => ?_) (fun hc19 => ?_)
  · have h := ul_if_t hc19 h
    exact ge _ _ _ (J105 u1 q29.1 q29.2 H locs ⟨hP, hD, hS⟩ ls (lv_sub hl [0, 1, 2, 3] rfl) (hx29 (q29.1, q29.2) h))
  · have h := ul_if_f hc19 h
    refine lv_iload_n hx hb dX1_findRound_35 rfl (lv_at hl 3 rfl) ?_
    refine lv_iload_n hx hb dX1_findRound_36 rfl (lv_at hl 2 rfl) ?_
    refine lv_iand hx hb dX1_findRound_37 ?_
    refine lv_iload_n hx hb dX1_findRound_38 rfl (lv_at hl 3 rfl) ?_
    refine lv_icmp_eq (tgt := 45) hx hb dX1_findRound_39 (by decide) (fun hc20 => ?_) (fun hc20 => ?_)
    · have h := ul_if_t hc20 h
      refine lv_aload_n hx hb dX1_findRound_45 rfl (lv_at hl 0 rfl) ?_
      refine va_get (D := (dC, dI)) (ci := 1) (v := .ref (aN 0)) (C := RX1) (T := TX1) (N := 9) hx hb hts hin1 hown hK hP 0 rfl rfl 1 (by decide) (hts (.fieldLink RX1 15 "UnderLadders$Forecast" "now" "LUnderLadders$Street;") (by decide +kernel)) (fun _ h9 => h9) rfl dX1_findRound_46 ?_
      refine lv_iload_n hx hb dX1_findRound_49 rfl (lv_at hl 1 rfl) ?_
      refine lv_iload_n hx hb dX1_findRound_50 rfl (lv_at hl 3 rfl) ?_
      obtain ⟨u21, hu21, h⟩ := ul_cl_h h
      refine ul_cVi (As := [.int p1, .int q29.1]) (rest := []) (wc' := (ul_wS cI aN (aK 0) N ++ ul_wK cI aK K)) (wr := (ul_wG cI aF (aK 0) (aN 0) (aT 0) q29.2 ++ ul_wS cI aT (aK 0) T)) hP hD hS hK hA [5, 6, 7, 8, 9, 10, 11, 19, 20, 21, 22, 23, 24, 25, 26] [0, 1, 2, 3, 4, 12, 13, 14, 15, 16, 17, 18] [0] ul_NX_ok hN (c_X4_luckByStepping l dC dI cI aN aK H.size N K p1 q29.1 u21 hu21) rfl rfl (by decide) rfl (by decide) (by decide) rfl ⟨hx, hb, hml, hown, hts⟩ (cwV 2 hts gX1_findRound_X4_luckByStepping rfl rfl rfl (by decide +kernel) ⟨Nat.le_of_ble_eq_true rfl, Nat.le_of_ble_eq_true rfl⟩) (va_recv hK hP (ci := 4) (q0 := 5) rfl rfl) rfl hl.1 rfl (Nat.le_of_ble_eq_true rfl) dX1_findRound_51 (fun H locs hw => ?_)
      have hw := hw.re (w' := (ul_wG cI aF (aK 0) (aN 0) (aT 0) q29.2 ++ ul_wS cI aN (aK 0) N ++ ul_wS cI aT (aK 0) T ++ ul_wK cI aK K)) [0, 1, 2, 3, 4, 12, 13, 14, 15, 16, 17, 18, 5, 6, 7, 8, 9, 10, 11, 19, 20, 21, 22, 23, 24, 25, 26] (by decide) rfl rfl
      obtain ⟨hP, hD, hS⟩ := hw
      refine lv_istore (lv' := [(4, .int u21), (0, .ref (aF 0)), (1, .int p1), (2, .int u1), (3, .int q29.1)]) hx hb dX1_findRound_54 hl (by decide) rfl (fun ls hl => ?_)
      refine lv_iload hx hb dX1_findRound_56 (lv_at hl 0 rfl) ?_
      refine lv_aload_n hx hb dX1_findRound_58 rfl (lv_at hl 1 rfl) ?_
      refine va_get (D := (dC, dI)) (ci := 1) (v := .int (q29.2 0 1)) (C := RX1) (T := TX1) (N := 9) hx hb hts hin1 hown hK hP 0 rfl rfl 8 (by decide) (hts (.fieldLink RX1 56 "UnderLadders$Forecast" "bestWorth" "I") (by decide +kernel)) (fun _ h9 => h9) rfl dX1_findRound_59 ?_
      refine lv_icmp_gt (tgt := 88) hx hb dX1_findRound_62 (by decide) (fun hc22 => ?_) (fun hc22 => ?_)
      · have h := ul_if_t hc22 h
        exact ge _ _ _ (J88 q29.1 u21 q29.2 H locs ⟨hP, hD, hS⟩ ls (lv_sub hl [1, 2, 3, 4, 0] rfl) h)
      · have h := ul_if_f hc22 h
        refine lv_iload hx hb dX1_findRound_65 (lv_at hl 0 rfl) ?_
        refine lv_aload_n hx hb dX1_findRound_67 rfl (lv_at hl 1 rfl) ?_
        refine va_get (D := (dC, dI)) (ci := 1) (v := .int (q29.2 0 1)) (C := RX1) (T := TX1) (N := 9) hx hb hts hin1 hown hK hP 0 rfl rfl 8 (by decide) (hts (.fieldLink RX1 56 "UnderLadders$Forecast" "bestWorth" "I") (by decide +kernel)) (fun _ h9 => h9) rfl dX1_findRound_68 ?_
        refine lv_icmp_ne (tgt := 99) hx hb dX1_findRound_71 (by decide) (fun hc23 => ?_) (fun hc23 => ?_)
        · have h := ul_if_f hc23 h
          exact ge _ _ _ (J99 q29.1 q29.2 H locs ⟨hP, hD, hS⟩ ls (lv_sub hl [1, 2, 3, 4] rfl) h)
        · have h := ul_if_t hc23 h
          refine lv_iload_n hx hb dX1_findRound_74 rfl (lv_at hl 4 rfl) ?_
          obtain ⟨u24, hu24, h⟩ := ul_cl_h h
          refine ul_cSi (As := [.int q29.1]) (rest := []) hP hD hS hK hA (c_J6_bitCount_0f7a4 l dC dI H.size q29.1 u24 hu24) ⟨hx, hb, hml, hown, hts⟩ (va_cwS 1 hts gX1_findRound_J6_bitCount_0f7a4 rfl rfl rfl (by decide +kernel) ⟨Nat.le_of_ble_eq_true rfl, Nat.le_of_ble_eq_true rfl⟩) rfl hl.1 rfl (Nat.le_of_ble_eq_true rfl) dX1_findRound_75 (fun H locs hw => ?_)
          obtain ⟨hP, hD, hS⟩ := hw
          refine lv_aload_n hx hb dX1_findRound_78 rfl (lv_at hl 1 rfl) ?_
          refine va_get (D := (dC, dI)) (ci := 1) (v := .int (q29.2 0 0)) (C := RX1) (T := TX1) (N := 9) hx hb hts hin1 hown hK hP 0 rfl rfl 7 (by decide) (hts (.fieldLink RX1 52 "UnderLadders$Forecast" "best" "I") (by decide +kernel)) (fun _ h9 => h9) rfl dX1_findRound_79 ?_
          obtain ⟨u25, hu25, h⟩ := ul_cl_h h
          refine ul_cSi (As := [.int (q29.2 0 0)]) (rest := [.int u24]) hP hD hS hK hA (c_J6_bitCount_0f7a4 l dC dI H.size (q29.2 0 0) u25 hu25) ⟨hx, hb, hml, hown, hts⟩ (va_cwS 1 hts gX1_findRound_J6_bitCount_0f7a4 rfl rfl rfl (by decide +kernel) ⟨Nat.le_of_ble_eq_true rfl, Nat.le_of_ble_eq_true rfl⟩) rfl hl.1 rfl (Nat.le_of_ble_eq_true rfl) dX1_findRound_82 (fun H locs hw => ?_)
          obtain ⟨hP, hD, hS⟩ := hw
          refine lv_icmp_ge (tgt := 99) hx hb dX1_findRound_85 (by decide) (fun hc26 => ?_) (fun hc26 => ?_)
          · have h := ul_if_t hc26 h
            exact ge _ _ _ (J99 q29.1 q29.2 H locs ⟨hP, hD, hS⟩ ls (lv_sub hl [1, 2, 3, 4] rfl) h)
          · have h := ul_if_f hc26 h
            exact ge _ _ _ (J88 q29.1 u21 q29.2 H locs ⟨hP, hD, hS⟩ ls (lv_sub hl [1, 2, 3, 4, 0] rfl) h)
    · have h := ul_if_f hc20 h
      refine lv_goto (tgt := 99) hx hb dX1_findRound_42 (by decide) ?_
      exact ge _ _ _ (J99 q29.1 q29.2 H locs ⟨hP, hD, hS⟩ ls (lv_sub hl [0, 1, 2, 3] rfl) h)
def f_X1_takeDoings_j41 (p1 : Int32) (p2 : Int64) (x4 : Int64) (x6 : Int32) (F__41 : ul_S) : Option (Int32 × ul_S) :=
  if (lg_cmp x4 (0 : Int64)) = 0 then (some ((1 : Int32), F__41)) else (some ((0 : Int32), F__41))
def f_X1_takeDoings_L8 (p1 : Int32) (p2 : Int64) (q8 : (Int64 × Int32 × ul_S)) : Option ((Int64 × Int32 × ul_S) ⊕ (Int64 × Int32 × ul_S)) :=
  if q8.2.1 < 0 then (some (.inl (q8.1, q8.2.1, q8.2.2))) else (ul_st q8.2.2 1 4 q8.2.1 ((q8.1 - q8.1 / (1000 : Int64) * (1000 : Int64)).toInt32) fun F5 => ul_bd (q8.1 / (1000 : Int64)) fun v7 => ul_bd (q8.2.1 + (-1)) fun v8 => some (.inr (v7, v8, F5)))
def f_X1_takeDoings (F : ul_S) (p1 : Int32) (p2 : Int64) : Option (Int32 × ul_S) :=
  ul_bd (p1 - (1 : Int32)) fun v3 => (ul_it ul_N (f_X1_takeDoings_L8 p1 p2) (p2, v3, F)).bind (fun e8 => f_X1_takeDoings_j41 p1 p2 e8.1 e8.2.1 e8.2.2)
set_option maxHeartbeats 4000000 in
set_option maxRecDepth 100000 in
theorem c_X1_takeDoings (l : Launch) (dC : Nat → ClassId) (dI : Nat → Nat → Nat) (cI : ClassId) (aF : Nat → Nat) (aN : Nat → Nat) (aT : Nat → Nat) (aK : Nat → Nat) (sz : Nat) (F : ul_S) (N : ul_S) (T : ul_S) (K : ul_S) (p1 : Int32) (p2 : Int64) (r : (Int32 × ul_S)) (h : f_X1_takeDoings F p1 p2 = some r) : Met l yX1_takeDoings wsX1_takeDoings ({ frames := 0, cells := 0, slots := 0, locals := 0 }) (va_Pc [.ref (aF 0), .int p1, .long p2] (ul_pre (dC, dI) [(cI, .int)] ul_NX sz (ul_wG cI aF (aK 0) (aN 0) (aT 0) F ++ ul_wS cI aN (aK 0) N ++ ul_wS cI aT (aK 0) T ++ ul_wK cI aK K))) (va_Qi (fun v (_ : Unit) => v = r.1) (fun _ => ul_post (dC, dI) [(cI, .int)] (va_A (ul_wG cI aF (aK 0) (aN 0) (aT 0) F ++ ul_wS cI aN (aK 0) N ++ ul_wS cI aT (aK 0) T ++ ul_wK cI aK K) sz) (ul_wG cI aF (aK 0) (aN 0) (aT 0) r.2 ++ ul_wS cI aN (aK 0) N ++ ul_wS cI aT (aK 0) T ++ ul_wK cI aK K)) (va_A (ul_wG cI aF (aK 0) (aN 0) (aT 0) F ++ ul_wS cI aN (aK 0) N ++ ul_wS cI aT (aK 0) T ++ ul_wK cI aK K) sz)) 0 0 (va_A (ul_wG cI aF (aK 0) (aN 0) (aT 0) F ++ ul_wS cI aN (aK 0) N ++ ul_wS cI aT (aK 0) T ++ ul_wK cI aK K) sz) := by
  refine Met.ofW (cc := cX1_takeDoings) (maxL := 7) (ret := (some .boolean)) (by decide) rfl ?_
  intro p e s m args below meth c s₁ B hml hv
  obtain ⟨rfl, hsz, hP, hK, hD0, hN⟩ := hv
  have hx := B.exec
  have hb := B.bytes
  have hr := B.returns
  have hts := atoms_spec (ws := wsX1_takeDoings) B.pre
  have hown : s.vm.findClass RX1 = some m.cls := findClass_of_methodNamed B.named
  have hlocks := B.notSynchronized
  have hin1 : ∀ w ∈ u_ws RX1 TX1 9, w ∈ wsX1_takeDoings := by decide +kernel
  subst hsz
  have hD := hD0.self (sz := s.heap.size)
  generalize hAe : va_A (ul_wG cI aF (aK 0) (aN 0) (aT 0) F ++ ul_wS cI aN (aK 0) N ++ ul_wS cI aT (aK 0) T ++ ul_wK cI aK K) s.heap.size = A at hD hN ⊢
  have hA : ∀ q : Nat, s.heap.size ≤ q → A q := fun q h => by rw [← hAe]; exact Or.inr h
  have hS : va_S A s.heap s.heap [] := va_S.rf
  have hl := lv_entry ([.ref (aF 0), .int p1, .long p2]) (n := 7) (Nat.le_of_ble_eq_true rfl)
  rw [lg_entry_eq]
  generalize (lg_sl ([.ref (aF 0), .int p1, .long p2]) ++ List.replicate (7 - (lg_sl ([.ref (aF 0), .int p1, .long p2])).length) Slot.unset).toArray = ls at hl ⊢
  have hl : lv_has ls 7 [(0, .ref (aF 0)), (1, .int p1), (2, .long p2)] := hl
  obtain ⟨K0, hK0, h⟩ := ul_top h
  unfold f_X1_takeDoings at h
  refine ul_gen (fun G gi ge => ?_)
  obtain ⟨H, eH⟩ : ∃ z, z = s.heap := ⟨_, rfl⟩
  obtain ⟨locs, eL⟩ : ∃ z : List Loc, z = [] := ⟨_, rfl⟩
  have hP : va_P (dC, dI) classes (ul_wG cI aF (aK 0) (aN 0) (aT 0) F ++ ul_wS cI aN (aK 0) N ++ ul_wS cI aT (aK 0) T ++ ul_wK cI aK K) H := by rw [eH]; exact hP
  have hS : va_S A s.heap H locs := by rw [eH, eL]; exact hS
  rw [← eL]
  refine (show G H locs (F0 m 0 ls []) → G s.heap locs (F0 m 0 ls []) from fun z => by rw [← eH]; exact z) ?_
  have J41 : ∀ (x4 : Int64) (x6 : Int32) (F__41 : ul_S) (H : Heap) (locs : List Loc), ul_H (dC, dI) A s.heap (ul_wG cI aF (aK 0) (aN 0) (aT 0) F__41 ++ ul_wS cI aN (aK 0) N ++ ul_wS cI aT (aK 0) T ++ ul_wK cI aK K) H locs → ∀ ls : Array Slot, lv_has ls 7 [(0, .ref (aF 0)), (1, .int p1), (2, .long p2), (4, .long x4), (6, .int x6)] → (f_X1_takeDoings_j41 p1 p2 x4 x6 F__41).bind K0 = some r → G H locs (F0 m 41 ls []) := by
    intro x4 x6 F__41 H locs hw ls hl h
    obtain ⟨hP, hD, hS⟩ := hw
    unfold f_X1_takeDoings_j41 at h
    refine gi _ _ _ ?_
    refine lv_lload hx hb dX1_takeDoings_41 (lv_at hl 3 rfl) ?_
    refine lv_lconst (v := 0) hx hb dX1_takeDoings_43 (by decide) ?_
    refine W.lcmp hx hb dX1_takeDoings_44 ?_
    refine lv_if_ne (tgt := 52) hx hb dX1_takeDoings_45 (by decide) (fun hc2 => ?_) (fun hc2 => ?_)
    · have h := ul_if_f hc2 h
      refine lv_iconst (v := 0) hx hb dX1_takeDoings_52 (by decide) ?_
      have hr9 := hK0 ((0 : Int32), F__41) h
      subst hr9
      exact W.zret (v := (0 : Int32)) hx hb hr (by decide) (fun t ht hW => ⟨⟨(0 : Int32), (), rfl, rfl, by rw [ht]; exact hP, va_K.moved hW.alike hK, hD⟩, hS.F ht⟩) hS.2.2 dX1_takeDoings_53
    · have h := ul_if_t hc2 h
      refine lv_iconst (v := 1) hx hb dX1_takeDoings_48 (by decide) ?_
      refine lv_goto (tgt := 53) hx hb dX1_takeDoings_49 (by decide) ?_
      have hr9 := hK0 ((1 : Int32), F__41) h
      subst hr9
      exact W.zret (v := (1 : Int32)) hx hb hr (by decide) (fun t ht hW => ⟨⟨(1 : Int32), (), rfl, rfl, by rw [ht]; exact hP, va_K.moved hW.alike hK, hD⟩, hS.F ht⟩) hS.2.2 dX1_takeDoings_53
  refine gi _ _ _ ?_
  refine lv_lload_n hx hb dX1_takeDoings_0 rfl (lv_at hl 2 rfl) ?_
  refine lv_lstore (lv' := [(4, .long p2), (0, .ref (aF 0)), (1, .int p1), (2, .long p2)]) hx hb dX1_takeDoings_1 hl (by decide) rfl (fun ls hl => ?_)
  refine lv_iload_n hx hb dX1_takeDoings_3 rfl (lv_at hl 2 rfl) ?_
  refine lv_iconst (v := 1) hx hb dX1_takeDoings_4 (by decide) ?_
  refine lv_isub hx hb dX1_takeDoings_5 ?_
  refine lv_topi (fun v3 ev3 => ?_)
  have h := ul_bd_h h v3 ev3
  refine lv_istore (lv' := [(6, .int v3), (4, .long p2), (0, .ref (aF 0)), (1, .int p1), (2, .long p2)]) hx hb dX1_takeDoings_6 hl (by decide) rfl (fun ls hl => ?_)
  refine ge _ _ _ (ul_loop (P := fun q8 => ∀ (H : Heap) (locs : List Loc), ul_H (dC, dI) A s.heap (ul_wG cI aF (aK 0) (aN 0) (aT 0) q8.2.2 ++ ul_wS cI aN (aK 0) N ++ ul_wS cI aT (aK 0) T ++ ul_wK cI aK K) H locs → ∀ ls : Array Slot, lv_has ls 7 [(0, .ref (aF 0)), (1, .int p1), (2, .long p2), (4, .long q8.1), (6, .int q8.2.1)] → G H locs (F0 m 8 ls [])) ?_ _ _ (ul_it_h h) H locs ⟨hP, hD, hS⟩ ls (lv_sub hl [2, 3, 4, 1, 0] rfl))
  intro K8 hx8
  intro q8 ih8 h H locs hw ls hl
  obtain ⟨hP, hD, hS⟩ := hw
  unfold f_X1_takeDoings_L8 at h
  refine gi _ _ _ ?_
  refine lv_iload hx hb dX1_takeDoings_8 (lv_at hl 4 rfl) ?_
  refine lv_if_lt (tgt := 41) hx hb dX1_takeDoings_10 (by decide) (fun hc9 => ?_) (fun hc9 => ?_)
  · have h := ul_if_t hc9 h
    exact ge _ _ _ (J41 q8.1 q8.2.1 q8.2.2 H locs ⟨hP, hD, hS⟩ ls (lv_sub hl [0, 1, 2, 3, 4] rfl) (hx8 (q8.1, q8.2.1, q8.2.2) h))
  · have h := ul_if_f hc9 h
    refine lv_aload_n hx hb dX1_takeDoings_13 rfl (lv_at hl 0 rfl) ?_
    refine va_get (D := (dC, dI)) (ci := 1) (v := .ref (aF 1)) (C := RX1) (T := TX1) (N := 9) hx hb hts hin1 hown hK hP 0 rfl rfl 3 (by decide) (hts (.fieldLink RX1 22 "UnderLadders$Forecast" "doings" "[I") (by decide +kernel)) (fun _ h9 => h9) rfl dX1_takeDoings_14 ?_
    refine lv_iload hx hb dX1_takeDoings_17 (lv_at hl 4 rfl) ?_
    refine lv_lload hx hb dX1_takeDoings_19 (lv_at hl 3 rfl) ?_
    refine lv_ldc2 (v := 1000) hx hb hown (hts (.constantLong RX1 84 (1000)) (by decide +kernel)) dX1_takeDoings_21 ?_
    refine lv_lrem hx hb dX1_takeDoings_24 (by decide) ?_
    refine lv_l2i hx hb dX1_takeDoings_25 rfl ?_
    obtain ⟨hi11, h⟩ := ul_st_h h
    refine va_iast hx hb hK hP hD hS 1 0 rfl rfl hi11 dX1_takeDoings_26 (fun H locs hP hD hS => ?_)
    obtain ⟨F10, eF10⟩ : ∃ z : ul_S, z = ul_up q8.2.2 1 q8.2.1.toNatClampNeg ((q8.1 - q8.1 / (1000 : Int64) * (1000 : Int64)).toInt32) := ⟨_, rfl⟩
    have h := h F10 eF10
    have hP : va_P (dC, dI) classes (ul_wG cI aF (aK 0) (aN 0) (aT 0) F10 ++ ul_wS cI aN (aK 0) N ++ ul_wS cI aT (aK 0) T ++ ul_wK cI aK K) H := by rw [eF10]; exact hP
    have hD : va_D A (ul_wG cI aF (aK 0) (aN 0) (aT 0) F10 ++ ul_wS cI aN (aK 0) N ++ ul_wS cI aT (aK 0) T ++ ul_wK cI aK K) := by rw [eF10]; exact hD
    refine lv_lload hx hb dX1_takeDoings_27 (lv_at hl 3 rfl) ?_
    refine lv_ldc2 (v := 1000) hx hb hown (hts (.constantLong RX1 84 (1000)) (by decide +kernel)) dX1_takeDoings_29 ?_
    refine lv_ldiv hx hb dX1_takeDoings_32 (by decide) ?_
    refine lv_topl (fun v12 ev12 => ?_)
    have h := ul_bd_h h v12 ev12
    refine lv_lstore (lv' := [(4, .long v12), (0, .ref (aF 0)), (1, .int p1), (2, .long p2), (6, .int q8.2.1)]) hx hb dX1_takeDoings_33 hl (by decide) rfl (fun ls hl => ?_)
    obtain ⟨v13, ev13⟩ : ∃ z : Int32, z = q8.2.1 + (-1) := ⟨_, rfl⟩
    have h := ul_bd_h h v13 ev13
    refine lv_iinc (v := v13) (lv' := [(6, .int v13), (4, .long v12), (0, .ref (aF 0)), (1, .int p1), (2, .long p2)]) hx hb dX1_takeDoings_35 hl (k := 4) rfl (by rw [ev13]; rfl) (by decide) rfl (fun ls hl => ?_)
    refine lv_goto (tgt := 8) hx hb dX1_takeDoings_38 (by decide) ?_
    exact ge _ _ _ (ih8 (v12, v13, F10) h H locs ⟨hP, hD, hS⟩ ls (lv_sub hl [2, 3, 4, 1, 0] rfl))
def f_X1_canBe (T : ul_S) (K : ul_S) (p1 : Int32) (p2 : Int32) (p3 : Int32) : Option Int32 :=
  if p1 = 0 then (if p2 = 0 then (if p3 = 0 then (some (1 : Int32)) else (some (0 : Int32))) else (some (0 : Int32))) else (if p1 = 1 then (if (K 0 0) ≤ p2 then (some (0 : Int32)) else ((f_X4_isFree T p3).bind fun u6 => if u6 = 0 then (some (0 : Int32)) else (some (1 : Int32)))) else (if p1 = 2 then (if p2 = 0 then (if (K 0 0) ≤ p3 then (some (0 : Int32)) else (some (1 : Int32))) else (some (0 : Int32))) else (if p1 = 3 then (if (K 0 1) ≤ p2 then (some (0 : Int32)) else (if p3 ≤ 0 then (some (0 : Int32)) else (some (1 : Int32)))) else (if p1 = 4 then (if (K 0 1) ≤ p2 then (some (0 : Int32)) else (ul_ld (T 6) 5 p2 fun v16 => if v16 < p3 then (some (0 : Int32)) else (some (1 : Int32)))) else (some (0 : Int32))))))
set_option maxHeartbeats 4000000 in
set_option maxRecDepth 100000 in
theorem c_X1_canBe (l : Launch) (dC : Nat → ClassId) (dI : Nat → Nat → Nat) (cI : ClassId) (aF : Nat → Nat) (aN : Nat → Nat) (aT : Nat → Nat) (aK : Nat → Nat) (sz : Nat) (F : ul_S) (N : ul_S) (T : ul_S) (K : ul_S) (p1 : Int32) (p2 : Int32) (p3 : Int32) (r : Int32) (h : f_X1_canBe T K p1 p2 p3 = some r) : Met l yX1_canBe wsX1_canBe ({ frames := 2, cells := 0, slots := 0, locals := 41 }) (va_Pc [.ref (aF 0), .int p1, .int p2, .int p3] (ul_pre (dC, dI) [(cI, .int)] ul_NX sz (ul_wG cI aF (aK 0) (aN 0) (aT 0) F ++ ul_wS cI aN (aK 0) N ++ ul_wS cI aT (aK 0) T ++ ul_wK cI aK K))) (va_Qi (fun v (_ : Unit) => v = r) (fun _ => ul_post (dC, dI) [(cI, .int)] (va_A (ul_wG cI aF (aK 0) (aN 0) (aT 0) F ++ ul_wS cI aN (aK 0) N ++ ul_wS cI aT (aK 0) T ++ ul_wK cI aK K) sz) (ul_wG cI aF (aK 0) (aN 0) (aT 0) F ++ ul_wS cI aN (aK 0) N ++ ul_wS cI aT (aK 0) T ++ ul_wK cI aK K)) (va_A (ul_wG cI aF (aK 0) (aN 0) (aT 0) F ++ ul_wS cI aN (aK 0) N ++ ul_wS cI aT (aK 0) T ++ ul_wK cI aK K) sz)) 0 0 (va_A (ul_wG cI aF (aK 0) (aN 0) (aT 0) F ++ ul_wS cI aN (aK 0) N ++ ul_wS cI aT (aK 0) T ++ ul_wK cI aK K) sz) := by
  refine Met.ofW (cc := cX1_canBe) (maxL := 4) (ret := (some .boolean)) (by decide) rfl ?_
  intro p e s m args below meth c s₁ B hml hv
  obtain ⟨rfl, hsz, hP, hK, hD0, hN⟩ := hv
  have hx := B.exec
  have hb := B.bytes
  have hr := B.returns
  have hts := atoms_spec (ws := wsX1_canBe) B.pre
  have hown : s.vm.findClass RX1 = some m.cls := findClass_of_methodNamed B.named
  have hlocks := B.notSynchronized
  have hin1 : ∀ w ∈ u_ws RX1 TX1 9, w ∈ wsX1_canBe := by decide +kernel
  have hin2 : ∀ w ∈ u_ws RX2 TX2 9, w ∈ wsX1_canBe := by decide +kernel
  have hin4 : ∀ w ∈ u_ws RX4 TX4 8, w ∈ wsX1_canBe := by decide +kernel
  subst hsz
  have hD := hD0.self (sz := s.heap.size)
  generalize hAe : va_A (ul_wG cI aF (aK 0) (aN 0) (aT 0) F ++ ul_wS cI aN (aK 0) N ++ ul_wS cI aT (aK 0) T ++ ul_wK cI aK K) s.heap.size = A at hD hN ⊢
  have hA : ∀ q : Nat, s.heap.size ≤ q → A q := fun q h => by rw [← hAe]; exact Or.inr h
  have hS : va_S A s.heap s.heap [] := va_S.rf
  have hl := lv_entry ([.ref (aF 0), .int p1, .int p2, .int p3]) (n := 4) (Nat.le_of_ble_eq_true rfl)
  rw [lg_entry_eq]
  generalize (lg_sl ([.ref (aF 0), .int p1, .int p2, .int p3]) ++ List.replicate (4 - (lg_sl ([.ref (aF 0), .int p1, .int p2, .int p3])).length) Slot.unset).toArray = ls at hl ⊢
  have hl : lv_has ls 4 [(0, .ref (aF 0)), (1, .int p1), (2, .int p2), (3, .int p3)] := hl
  obtain ⟨K0, hK0, h⟩ := ul_top h
  unfold f_X1_canBe at h
  refine ul_gen (fun G gi ge => ?_)
  obtain ⟨H, eH⟩ : ∃ z, z = s.heap := ⟨_, rfl⟩
  obtain ⟨locs, eL⟩ : ∃ z : List Loc, z = [] := ⟨_, rfl⟩
  have hP : va_P (dC, dI) classes (ul_wG cI aF (aK 0) (aN 0) (aT 0) F ++ ul_wS cI aN (aK 0) N ++ ul_wS cI aT (aK 0) T ++ ul_wK cI aK K) H := by rw [eH]; exact hP
  have hS : va_S A s.heap H locs := by rw [eH, eL]; exact hS
  rw [← eL]
  refine (show G H locs (F0 m 0 ls []) → G s.heap locs (F0 m 0 ls []) from fun z => by rw [← eH]; exact z) ?_
  refine gi _ _ _ ?_
  refine lv_iload_n hx hb dX1_canBe_0 rfl (lv_at hl 1 rfl) ?_
  by_cases hc1 : p1 = 0
  · have h := ul_if_t hc1 h
    refine lv_tableIn (off := 35) (tgt := 36) hx hb dX1_canBe_1 (by rw [hc1]; decide) (by rw [hc1]; decide) (by rw [hc1]; decide) (by decide) ?_
    refine lv_iload_n hx hb dX1_canBe_36 rfl (lv_at hl 2 rfl) ?_
    refine lv_if_ne (tgt := 48) hx hb dX1_canBe_37 (by decide) (fun hc2 => ?_) (fun hc2 => ?_)
    · have h := ul_if_f hc2 h
      refine lv_iconst (v := 0) hx hb dX1_canBe_48 (by decide) ?_
      have hr9 := hK0 (0 : Int32) h
      subst hr9
      exact W.zret (v := (0 : Int32)) hx hb hr (by decide) (fun t ht hW => ⟨⟨(0 : Int32), (), rfl, rfl, by rw [ht]; exact hP, va_K.moved hW.alike hK, hD⟩, hS.F ht⟩) hS.2.2 dX1_canBe_49
    · have h := ul_if_t hc2 h
      refine lv_iload_n hx hb dX1_canBe_40 rfl (lv_at hl 3 rfl) ?_
      refine lv_if_ne (tgt := 48) hx hb dX1_canBe_41 (by decide) (fun hc3 => ?_) (fun hc3 => ?_)
      · have h := ul_if_f hc3 h
        refine lv_iconst (v := 0) hx hb dX1_canBe_48 (by decide) ?_
        have hr9 := hK0 (0 : Int32) h
        subst hr9
        exact W.zret (v := (0 : Int32)) hx hb hr (by decide) (fun t ht hW => ⟨⟨(0 : Int32), (), rfl, rfl, by rw [ht]; exact hP, va_K.moved hW.alike hK, hD⟩, hS.F ht⟩) hS.2.2 dX1_canBe_49
      · have h := ul_if_t hc3 h
        refine lv_iconst (v := 1) hx hb dX1_canBe_44 (by decide) ?_
        refine lv_goto (tgt := 49) hx hb dX1_canBe_45 (by decide) ?_
        have hr9 := hK0 (1 : Int32) h
        subst hr9
        exact W.zret (v := (1 : Int32)) hx hb hr (by decide) (fun t ht hW => ⟨⟨(1 : Int32), (), rfl, rfl, by rw [ht]; exact hP, va_K.moved hW.alike hK, hD⟩, hS.F ht⟩) hS.2.2 dX1_canBe_49
  · have h := ul_if_f hc1 h
    by_cases hc4 : p1 = 1
    · have h := ul_if_t hc4 h
      refine lv_tableIn (off := 49) (tgt := 50) hx hb dX1_canBe_1 (by rw [hc4]; decide) (by rw [hc4]; decide) (by rw [hc4]; decide) (by decide) ?_
      refine lv_iload_n hx hb dX1_canBe_50 rfl (lv_at hl 2 rfl) ?_
      refine lv_aload_n hx hb dX1_canBe_51 rfl (lv_at hl 0 rfl) ?_
      refine va_get (D := (dC, dI)) (ci := 1) (v := .ref (aK 0)) (C := RX1) (T := TX1) (N := 9) hx hb hts hin1 hown hK hP 0 rfl rfl 0 (by decide) (hts (.fieldLink RX1 9 "UnderLadders$Forecast" "fixed" "LUnderLadders$Market;") (by decide +kernel)) (fun _ h9 => h9) rfl dX1_canBe_52 ?_
      refine va_getN (D := (dC, dI)) (ci := 2) (v := .int (K 0 0)) (C := RX2) (T := TX2) (N := 9) hx hb hts hin2 hown hK hP 19 rfl rfl 7 (by decide) (va_Nw.use rfl (hN.1 (RX1, 100, "UnderLadders$Market", "ladders", "I") (by decide +kernel))) (fun _ h9 => h9) rfl dX1_canBe_55 ?_
      refine lv_icmp_ge (tgt := 76) hx hb dX1_canBe_58 (by decide) (fun hc5 => ?_) (fun hc5 => ?_)
      · have h := ul_if_t hc5 h
        refine lv_iconst (v := 0) hx hb dX1_canBe_76 (by decide) ?_
        have hr9 := hK0 (0 : Int32) h
        subst hr9
        exact W.zret (v := (0 : Int32)) hx hb hr (by decide) (fun t ht hW => ⟨⟨(0 : Int32), (), rfl, rfl, by rw [ht]; exact hP, va_K.moved hW.alike hK, hD⟩, hS.F ht⟩) hS.2.2 dX1_canBe_77
      · have h := ul_if_f hc5 h
        refine lv_aload_n hx hb dX1_canBe_61 rfl (lv_at hl 0 rfl) ?_
        refine va_get (D := (dC, dI)) (ci := 1) (v := .ref (aT 0)) (C := RX1) (T := TX1) (N := 9) hx hb hts hin1 hown hK hP 0 rfl rfl 2 (by decide) (hts (.fieldLink RX1 19 "UnderLadders$Forecast" "trial" "LUnderLadders$Street;") (by decide +kernel)) (fun _ h9 => h9) rfl dX1_canBe_62 ?_
        refine lv_iload_n hx hb dX1_canBe_65 rfl (lv_at hl 3 rfl) ?_
        obtain ⟨u6, hu6, h⟩ := ul_cl_h h
        refine ul_cVi (As := [.int p3]) (rest := []) (wc' := (ul_wS cI aT (aK 0) T ++ ul_wK cI aK K)) (wr := (ul_wG cI aF (aK 0) (aN 0) (aT 0) F ++ ul_wS cI aN (aK 0) N)) hP hD hS hK hA [12, 13, 14, 15, 16, 17, 18, 19, 20, 21, 22, 23, 24, 25, 26] [0, 1, 2, 3, 4, 5, 6, 7, 8, 9, 10, 11] [0] ul_NX_ok hN (c_X4_isFree l dC dI cI aT aK H.size T K p3 u6 hu6) rfl rfl (by decide) rfl (by decide) (by decide) rfl ⟨hx, hb, hml, hown, hts⟩ (cwV 1 hts gX1_canBe_X4_isFree rfl rfl rfl (by decide +kernel) ⟨Nat.le_of_ble_eq_true rfl, Nat.le_of_ble_eq_true rfl⟩) (va_recv hK hP (ci := 4) (q0 := 12) rfl rfl) rfl hl.1 rfl (Nat.le_of_ble_eq_true rfl) dX1_canBe_66 (fun H locs hw => ?_)
        have hw := hw.re (w' := (ul_wG cI aF (aK 0) (aN 0) (aT 0) F ++ ul_wS cI aN (aK 0) N ++ ul_wS cI aT (aK 0) T ++ ul_wK cI aK K)) [0, 1, 2, 3, 4, 5, 6, 7, 8, 9, 10, 11, 12, 13, 14, 15, 16, 17, 18, 19, 20, 21, 22, 23, 24, 25, 26] (by decide) rfl rfl
        obtain ⟨hP, hD, hS⟩ := hw
        refine lv_if_eq (tgt := 76) hx hb dX1_canBe_69 (by decide) (fun hc7 => ?_) (fun hc7 => ?_)
        · have h := ul_if_t hc7 h
          refine lv_iconst (v := 0) hx hb dX1_canBe_76 (by decide) ?_
          have hr9 := hK0 (0 : Int32) h
          subst hr9
          exact W.zret (v := (0 : Int32)) hx hb hr (by decide) (fun t ht hW => ⟨⟨(0 : Int32), (), rfl, rfl, by rw [ht]; exact hP, va_K.moved hW.alike hK, hD⟩, hS.F ht⟩) hS.2.2 dX1_canBe_77
        · have h := ul_if_f hc7 h
          refine lv_iconst (v := 1) hx hb dX1_canBe_72 (by decide) ?_
          refine lv_goto (tgt := 77) hx hb dX1_canBe_73 (by decide) ?_
          have hr9 := hK0 (1 : Int32) h
          subst hr9
          exact W.zret (v := (1 : Int32)) hx hb hr (by decide) (fun t ht hW => ⟨⟨(1 : Int32), (), rfl, rfl, by rw [ht]; exact hP, va_K.moved hW.alike hK, hD⟩, hS.F ht⟩) hS.2.2 dX1_canBe_77
    · have h := ul_if_f hc4 h
      by_cases hc8 : p1 = 2
      · have h := ul_if_t hc8 h
        refine lv_tableIn (off := 77) (tgt := 78) hx hb dX1_canBe_1 (by rw [hc8]; decide) (by rw [hc8]; decide) (by rw [hc8]; decide) (by decide) ?_
        refine lv_iload_n hx hb dX1_canBe_78 rfl (lv_at hl 2 rfl) ?_
        refine lv_if_ne (tgt := 97) hx hb dX1_canBe_79 (by decide) (fun hc9 => ?_) (fun hc9 => ?_)
        · have h := ul_if_f hc9 h
          refine lv_iconst (v := 0) hx hb dX1_canBe_97 (by decide) ?_
          have hr9 := hK0 (0 : Int32) h
          subst hr9
          exact W.zret (v := (0 : Int32)) hx hb hr (by decide) (fun t ht hW => ⟨⟨(0 : Int32), (), rfl, rfl, by rw [ht]; exact hP, va_K.moved hW.alike hK, hD⟩, hS.F ht⟩) hS.2.2 dX1_canBe_98
        · have h := ul_if_t hc9 h
          refine lv_iload_n hx hb dX1_canBe_82 rfl (lv_at hl 3 rfl) ?_
          refine lv_aload_n hx hb dX1_canBe_83 rfl (lv_at hl 0 rfl) ?_
          refine va_get (D := (dC, dI)) (ci := 1) (v := .ref (aK 0)) (C := RX1) (T := TX1) (N := 9) hx hb hts hin1 hown hK hP 0 rfl rfl 0 (by decide) (hts (.fieldLink RX1 9 "UnderLadders$Forecast" "fixed" "LUnderLadders$Market;") (by decide +kernel)) (fun _ h9 => h9) rfl dX1_canBe_84 ?_
          refine va_getN (D := (dC, dI)) (ci := 2) (v := .int (K 0 0)) (C := RX2) (T := TX2) (N := 9) hx hb hts hin2 hown hK hP 19 rfl rfl 7 (by decide) (va_Nw.use rfl (hN.1 (RX1, 100, "UnderLadders$Market", "ladders", "I") (by decide +kernel))) (fun _ h9 => h9) rfl dX1_canBe_87 ?_
          refine lv_icmp_ge (tgt := 97) hx hb dX1_canBe_90 (by decide) (fun hc10 => ?_) (fun hc10 => ?_)
          · have h := ul_if_t hc10 h
            refine lv_iconst (v := 0) hx hb dX1_canBe_97 (by decide) ?_
            have hr9 := hK0 (0 : Int32) h
            subst hr9
            exact W.zret (v := (0 : Int32)) hx hb hr (by decide) (fun t ht hW => ⟨⟨(0 : Int32), (), rfl, rfl, by rw [ht]; exact hP, va_K.moved hW.alike hK, hD⟩, hS.F ht⟩) hS.2.2 dX1_canBe_98
          · have h := ul_if_f hc10 h
            refine lv_iconst (v := 1) hx hb dX1_canBe_93 (by decide) ?_
            refine lv_goto (tgt := 98) hx hb dX1_canBe_94 (by decide) ?_
            have hr9 := hK0 (1 : Int32) h
            subst hr9
            exact W.zret (v := (1 : Int32)) hx hb hr (by decide) (fun t ht hW => ⟨⟨(1 : Int32), (), rfl, rfl, by rw [ht]; exact hP, va_K.moved hW.alike hK, hD⟩, hS.F ht⟩) hS.2.2 dX1_canBe_98
      · have h := ul_if_f hc8 h
        by_cases hc11 : p1 = 3
        · have h := ul_if_t hc11 h
          refine lv_tableIn (off := 98) (tgt := 99) hx hb dX1_canBe_1 (by rw [hc11]; decide) (by rw [hc11]; decide) (by rw [hc11]; decide) (by decide) ?_
          refine lv_iload_n hx hb dX1_canBe_99 rfl (lv_at hl 2 rfl) ?_
          refine lv_aload_n hx hb dX1_canBe_100 rfl (lv_at hl 0 rfl) ?_
          refine va_get (D := (dC, dI)) (ci := 1) (v := .ref (aK 0)) (C := RX1) (T := TX1) (N := 9) hx hb hts hin1 hown hK hP 0 rfl rfl 0 (by decide) (hts (.fieldLink RX1 9 "UnderLadders$Forecast" "fixed" "LUnderLadders$Market;") (by decide +kernel)) (fun _ h9 => h9) rfl dX1_canBe_101 ?_
          refine va_getN (D := (dC, dI)) (ci := 2) (v := .int (K 0 1)) (C := RX2) (T := TX2) (N := 9) hx hb hts hin2 hown hK hP 19 rfl rfl 8 (by decide) (va_Nw.use rfl (hN.1 (RX1, 109, "UnderLadders$Market", "people", "I") (by decide +kernel))) (fun _ h9 => h9) rfl dX1_canBe_104 ?_
          refine lv_icmp_ge (tgt := 118) hx hb dX1_canBe_107 (by decide) (fun hc12 => ?_) (fun hc12 => ?_)
          · have h := ul_if_t hc12 h
            refine lv_iconst (v := 0) hx hb dX1_canBe_118 (by decide) ?_
            have hr9 := hK0 (0 : Int32) h
            subst hr9
            exact W.zret (v := (0 : Int32)) hx hb hr (by decide) (fun t ht hW => ⟨⟨(0 : Int32), (), rfl, rfl, by rw [ht]; exact hP, va_K.moved hW.alike hK, hD⟩, hS.F ht⟩) hS.2.2 dX1_canBe_119
          · have h := ul_if_f hc12 h
            refine lv_iload_n hx hb dX1_canBe_110 rfl (lv_at hl 3 rfl) ?_
            refine lv_if_le (tgt := 118) hx hb dX1_canBe_111 (by decide) (fun hc13 => ?_) (fun hc13 => ?_)
            · have h := ul_if_t hc13 h
              refine lv_iconst (v := 0) hx hb dX1_canBe_118 (by decide) ?_
              have hr9 := hK0 (0 : Int32) h
              subst hr9
              exact W.zret (v := (0 : Int32)) hx hb hr (by decide) (fun t ht hW => ⟨⟨(0 : Int32), (), rfl, rfl, by rw [ht]; exact hP, va_K.moved hW.alike hK, hD⟩, hS.F ht⟩) hS.2.2 dX1_canBe_119
            · have h := ul_if_f hc13 h
              refine lv_iconst (v := 1) hx hb dX1_canBe_114 (by decide) ?_
              refine lv_goto (tgt := 119) hx hb dX1_canBe_115 (by decide) ?_
              have hr9 := hK0 (1 : Int32) h
              subst hr9
              exact W.zret (v := (1 : Int32)) hx hb hr (by decide) (fun t ht hW => ⟨⟨(1 : Int32), (), rfl, rfl, by rw [ht]; exact hP, va_K.moved hW.alike hK, hD⟩, hS.F ht⟩) hS.2.2 dX1_canBe_119
        · have h := ul_if_f hc11 h
          by_cases hc14 : p1 = 4
          · have h := ul_if_t hc14 h
            refine lv_tableIn (off := 119) (tgt := 120) hx hb dX1_canBe_1 (by rw [hc14]; decide) (by rw [hc14]; decide) (by rw [hc14]; decide) (by decide) ?_
            refine lv_iload_n hx hb dX1_canBe_120 rfl (lv_at hl 2 rfl) ?_
            refine lv_aload_n hx hb dX1_canBe_121 rfl (lv_at hl 0 rfl) ?_
            refine va_get (D := (dC, dI)) (ci := 1) (v := .ref (aK 0)) (C := RX1) (T := TX1) (N := 9) hx hb hts hin1 hown hK hP 0 rfl rfl 0 (by decide) (hts (.fieldLink RX1 9 "UnderLadders$Forecast" "fixed" "LUnderLadders$Market;") (by decide +kernel)) (fun _ h9 => h9) rfl dX1_canBe_122 ?_
            refine va_getN (D := (dC, dI)) (ci := 2) (v := .int (K 0 1)) (C := RX2) (T := TX2) (N := 9) hx hb hts hin2 hown hK hP 19 rfl rfl 8 (by decide) (va_Nw.use rfl (hN.1 (RX1, 109, "UnderLadders$Market", "people", "I") (by decide +kernel))) (fun _ h9 => h9) rfl dX1_canBe_125 ?_
            refine lv_icmp_ge (tgt := 148) hx hb dX1_canBe_128 (by decide) (fun hc15 => ?_) (fun hc15 => ?_)
            · have h := ul_if_t hc15 h
              refine lv_iconst (v := 0) hx hb dX1_canBe_148 (by decide) ?_
              have hr9 := hK0 (0 : Int32) h
              subst hr9
              exact W.zret (v := (0 : Int32)) hx hb hr (by decide) (fun t ht hW => ⟨⟨(0 : Int32), (), rfl, rfl, by rw [ht]; exact hP, va_K.moved hW.alike hK, hD⟩, hS.F ht⟩) hS.2.2 dX1_canBe_149
            · have h := ul_if_f hc15 h
              refine lv_aload_n hx hb dX1_canBe_131 rfl (lv_at hl 0 rfl) ?_
              refine va_get (D := (dC, dI)) (ci := 1) (v := .ref (aT 0)) (C := RX1) (T := TX1) (N := 9) hx hb hts hin1 hown hK hP 0 rfl rfl 2 (by decide) (hts (.fieldLink RX1 19 "UnderLadders$Forecast" "trial" "LUnderLadders$Street;") (by decide +kernel)) (fun _ h9 => h9) rfl dX1_canBe_132 ?_
              refine va_getN (D := (dC, dI)) (ci := 4) (v := .ref (aT 6)) (C := RX4) (T := TX4) (N := 8) hx hb hts hin4 hown hK hP 12 rfl rfl 6 (by decide) (va_Nw.use rfl (hN.1 (RX1, 45, "UnderLadders$Street", "ownLuck", "[I") (by decide +kernel))) (fun _ h9 => h9) rfl dX1_canBe_135 ?_
              refine lv_iload_n hx hb dX1_canBe_138 rfl (lv_at hl 2 rfl) ?_
              obtain ⟨hi17, h⟩ := ul_ld_h h
              refine va_iald hx hb hK hP 18 0 rfl rfl hi17 dX1_canBe_139 ?_
              refine lv_topi (fun v16 ev16 => ?_)
              have h := h v16 ev16
              refine lv_iload_n hx hb dX1_canBe_140 rfl (lv_at hl 3 rfl) ?_
              refine lv_icmp_lt (tgt := 148) hx hb dX1_canBe_141 (by decide) (fun hc18 => ?_) (fun hc18 => ?_)
              · have h := ul_if_t hc18 h
                refine lv_iconst (v := 0) hx hb dX1_canBe_148 (by decide) ?_
                have hr9 := hK0 (0 : Int32) h
                subst hr9
                exact W.zret (v := (0 : Int32)) hx hb hr (by decide) (fun t ht hW => ⟨⟨(0 : Int32), (), rfl, rfl, by rw [ht]; exact hP, va_K.moved hW.alike hK, hD⟩, hS.F ht⟩) hS.2.2 dX1_canBe_149
              · have h := ul_if_f hc18 h
                refine lv_iconst (v := 1) hx hb dX1_canBe_144 (by decide) ?_
                refine lv_goto (tgt := 149) hx hb dX1_canBe_145 (by decide) ?_
                have hr9 := hK0 (1 : Int32) h
                subst hr9
                exact W.zret (v := (1 : Int32)) hx hb hr (by decide) (fun t ht hW => ⟨⟨(1 : Int32), (), rfl, rfl, by rw [ht]; exact hP, va_K.moved hW.alike hK, hD⟩, hS.F ht⟩) hS.2.2 dX1_canBe_149
          · have h := ul_if_f hc14 h
            refine lv_tableOut (tgt := 150) hx hb dX1_canBe_1 (by have z0 := lv_neT (a := 0) hc1 (by decide); have z1 := lv_neT (a := 1) hc4 (by decide); have z2 := lv_neT (a := 2) hc8 (by decide); have z3 := lv_neT (a := 3) hc11 (by decide); have z4 := lv_neT (a := 4) hc14 (by decide); omega) (by decide) ?_
            refine lv_iconst (v := 0) hx hb dX1_canBe_150 (by decide) ?_
            have hr9 := hK0 (0 : Int32) h
            subst hr9
            exact W.zret (v := (0 : Int32)) hx hb hr (by decide) (fun t ht hW => ⟨⟨(0 : Int32), (), rfl, rfl, by rw [ht]; exact hP, va_K.moved hW.alike hK, hD⟩, hS.F ht⟩) hS.2.2 dX1_canBe_151
def f_X1_doTold (T : ul_S) (K : ul_S) (p1 : Int32) (p2 : Int32) (p3 : Int32) : Option (Int32 × ul_S) :=
  (f_X1_canBe T K p1 p2 p3).bind fun u1 => if u1 = 0 then (some ((0 : Int32), T)) else (if p1 = 0 then ((f_X4_passDay T K (31 : Int32)).bind fun u4 => some ((1 : Int32), u4.2)) else (if p1 = 1 then ((f_X4_put T p2 p3).bind fun u6 => some ((1 : Int32), u6)) else (if p1 = 2 then ((f_X4_changeMan T p3).bind fun u8 => some ((1 : Int32), u8)) else (if p1 = 3 then ((f_X4_endow T p2 p3).bind fun u10 => some ((1 : Int32), u10)) else (some ((1 : Int32), T))))))
set_option maxHeartbeats 4000000 in
set_option maxRecDepth 100000 in
theorem c_X1_doTold (l : Launch) (dC : Nat → ClassId) (dI : Nat → Nat → Nat) (cI : ClassId) (aF : Nat → Nat) (aN : Nat → Nat) (aT : Nat → Nat) (aK : Nat → Nat) (sz : Nat) (F : ul_S) (N : ul_S) (T : ul_S) (K : ul_S) (p1 : Int32) (p2 : Int32) (p3 : Int32) (r : (Int32 × ul_S)) (h : f_X1_doTold T K p1 p2 p3 = some r) : Met l yX1_doTold wsX1_doTold ({ frames := 4, cells := 0, slots := 0, locals := 109 }) (va_Pc [.ref (aF 0), .int p1, .int p2, .int p3] (ul_pre (dC, dI) [(cI, .int)] ul_NX sz (ul_wG cI aF (aK 0) (aN 0) (aT 0) F ++ ul_wS cI aN (aK 0) N ++ ul_wS cI aT (aK 0) T ++ ul_wK cI aK K))) (va_Qi (fun v (_ : Unit) => v = r.1) (fun _ => ul_post (dC, dI) [(cI, .int)] (va_A (ul_wG cI aF (aK 0) (aN 0) (aT 0) F ++ ul_wS cI aN (aK 0) N ++ ul_wS cI aT (aK 0) T ++ ul_wK cI aK K) sz) (ul_wG cI aF (aK 0) (aN 0) (aT 0) F ++ ul_wS cI aN (aK 0) N ++ ul_wS cI aT (aK 0) r.2 ++ ul_wK cI aK K)) (va_A (ul_wG cI aF (aK 0) (aN 0) (aT 0) F ++ ul_wS cI aN (aK 0) N ++ ul_wS cI aT (aK 0) T ++ ul_wK cI aK K) sz)) 0 0 (va_A (ul_wG cI aF (aK 0) (aN 0) (aT 0) F ++ ul_wS cI aN (aK 0) N ++ ul_wS cI aT (aK 0) T ++ ul_wK cI aK K) sz) := by
  refine Met.ofW (cc := cX1_doTold) (maxL := 4) (ret := (some .boolean)) (by decide) rfl ?_
  intro p e s m args below meth c s₁ B hml hv
  obtain ⟨rfl, hsz, hP, hK, hD0, hN⟩ := hv
  have hx := B.exec
  have hb := B.bytes
  have hr := B.returns
  have hts := atoms_spec (ws := wsX1_doTold) B.pre
  have hown : s.vm.findClass RX1 = some m.cls := findClass_of_methodNamed B.named
  have hlocks := B.notSynchronized
  have hin1 : ∀ w ∈ u_ws RX1 TX1 9, w ∈ wsX1_doTold := by decide +kernel
  subst hsz
  have hD := hD0.self (sz := s.heap.size)
  generalize hAe : va_A (ul_wG cI aF (aK 0) (aN 0) (aT 0) F ++ ul_wS cI aN (aK 0) N ++ ul_wS cI aT (aK 0) T ++ ul_wK cI aK K) s.heap.size = A at hD hN ⊢
  have hA : ∀ q : Nat, s.heap.size ≤ q → A q := fun q h => by rw [← hAe]; exact Or.inr h
  have hS : va_S A s.heap s.heap [] := va_S.rf
  have hl := lv_entry ([.ref (aF 0), .int p1, .int p2, .int p3]) (n := 4) (Nat.le_of_ble_eq_true rfl)
  rw [lg_entry_eq]
  generalize (lg_sl ([.ref (aF 0), .int p1, .int p2, .int p3]) ++ List.replicate (4 - (lg_sl ([.ref (aF 0), .int p1, .int p2, .int p3])).length) Slot.unset).toArray = ls at hl ⊢
  have hl : lv_has ls 4 [(0, .ref (aF 0)), (1, .int p1), (2, .int p2), (3, .int p3)] := hl
  obtain ⟨K0, hK0, h⟩ := ul_top h
  unfold f_X1_doTold at h
  refine ul_gen (fun G gi ge => ?_)
  obtain ⟨H, eH⟩ : ∃ z, z = s.heap := ⟨_, rfl⟩
  obtain ⟨locs, eL⟩ : ∃ z : List Loc, z = [] := ⟨_, rfl⟩
  have hP : va_P (dC, dI) classes (ul_wG cI aF (aK 0) (aN 0) (aT 0) F ++ ul_wS cI aN (aK 0) N ++ ul_wS cI aT (aK 0) T ++ ul_wK cI aK K) H := by rw [eH]; exact hP
  have hS : va_S A s.heap H locs := by rw [eH, eL]; exact hS
  rw [← eL]
  refine (show G H locs (F0 m 0 ls []) → G s.heap locs (F0 m 0 ls []) from fun z => by rw [← eH]; exact z) ?_
  refine gi _ _ _ ?_
  refine lv_aload_n hx hb dX1_doTold_0 rfl (lv_at hl 0 rfl) ?_
  refine lv_iload_n hx hb dX1_doTold_1 rfl (lv_at hl 1 rfl) ?_
  refine lv_iload_n hx hb dX1_doTold_2 rfl (lv_at hl 2 rfl) ?_
  refine lv_iload_n hx hb dX1_doTold_3 rfl (lv_at hl 3 rfl) ?_
  obtain ⟨u1, hu1, h⟩ := ul_cl_h h
  refine ul_cVi (As := [.int p1, .int p2, .int p3]) (rest := []) (wc' := (ul_wG cI aF (aK 0) (aN 0) (aT 0) F ++ ul_wS cI aN (aK 0) N ++ ul_wS cI aT (aK 0) T ++ ul_wK cI aK K)) (wr := []) hP hD hS hK hA [0, 1, 2, 3, 4, 5, 6, 7, 8, 9, 10, 11, 12, 13, 14, 15, 16, 17, 18, 19, 20, 21, 22, 23, 24, 25, 26] [] [0] ul_NX_ok hN (c_X1_canBe l dC dI cI aF aN aT aK H.size F N T K p1 p2 p3 u1 hu1) rfl rfl (by decide) rfl (by decide) (by decide) rfl ⟨hx, hb, hml, hown, hts⟩ (cwV 3 hts gX1_doTold_X1_canBe rfl rfl rfl (by decide +kernel) ⟨Nat.le_of_ble_eq_true rfl, Nat.le_of_ble_eq_true rfl⟩) (va_recv hK hP (ci := 1) (q0 := 0) rfl rfl) rfl hl.1 rfl (Nat.le_of_ble_eq_true rfl) dX1_doTold_4 (fun H locs hw => ?_)
  obtain ⟨hP, hD, hS⟩ := hw
  have hP : va_P (dC, dI) classes (ul_wG cI aF (aK 0) (aN 0) (aT 0) F ++ ul_wS cI aN (aK 0) N ++ ul_wS cI aT (aK 0) T ++ ul_wK cI aK K) H := hP
  have hD : va_D A (ul_wG cI aF (aK 0) (aN 0) (aT 0) F ++ ul_wS cI aN (aK 0) N ++ ul_wS cI aT (aK 0) T ++ ul_wK cI aK K) := hD
  refine lv_if_ne (tgt := 12) hx hb dX1_doTold_7 (by decide) (fun hc2 => ?_) (fun hc2 => ?_)
  · have h := ul_if_f hc2 h
    refine lv_iload_n hx hb dX1_doTold_12 rfl (lv_at hl 1 rfl) ?_
    by_cases hc3 : p1 = 0
    · have h := ul_if_t hc3 h
      refine lv_tableIn (off := 31) (tgt := 44) hx hb dX1_doTold_13 (by rw [hc3]; decide) (by rw [hc3]; decide) (by rw [hc3]; decide) (by decide) ?_
      refine lv_aload_n hx hb dX1_doTold_44 rfl (lv_at hl 0 rfl) ?_
      refine va_get (D := (dC, dI)) (ci := 1) (v := .ref (aT 0)) (C := RX1) (T := TX1) (N := 9) hx hb hts hin1 hown hK hP 0 rfl rfl 2 (by decide) (hts (.fieldLink RX1 19 "UnderLadders$Forecast" "trial" "LUnderLadders$Street;") (by decide +kernel)) (fun _ h9 => h9) rfl dX1_doTold_45 ?_
      refine lv_bipush (v := 31) hx hb dX1_doTold_48 (by decide) ?_
      obtain ⟨u4, hu4, h⟩ := ul_cl_h h
      refine ul_cVi (As := [.int (31 : Int32)]) (rest := []) (wc' := (ul_wS cI aT (aK 0) u4.2 ++ ul_wK cI aK K)) (wr := (ul_wG cI aF (aK 0) (aN 0) (aT 0) F ++ ul_wS cI aN (aK 0) N)) hP hD hS hK hA [12, 13, 14, 15, 16, 17, 18, 19, 20, 21, 22, 23, 24, 25, 26] [0, 1, 2, 3, 4, 5, 6, 7, 8, 9, 10, 11] [0] ul_NX_ok hN (c_X4_passDay l dC dI cI aT aK H.size T K (31 : Int32) u4 hu4) rfl rfl (by decide) rfl (by decide) (by decide) rfl ⟨hx, hb, hml, hown, hts⟩ (cwV 1 hts gX1_doTold_X4_passDay rfl rfl rfl (by decide +kernel) ⟨Nat.le_of_ble_eq_true rfl, Nat.le_of_ble_eq_true rfl⟩) (va_recv hK hP (ci := 4) (q0 := 12) rfl rfl) rfl hl.1 rfl (Nat.le_of_ble_eq_true rfl) dX1_doTold_50 (fun H locs hw => ?_)
      have hw := hw.re (w' := (ul_wG cI aF (aK 0) (aN 0) (aT 0) F ++ ul_wS cI aN (aK 0) N ++ ul_wS cI aT (aK 0) u4.2 ++ ul_wK cI aK K)) [0, 1, 2, 3, 4, 5, 6, 7, 8, 9, 10, 11, 12, 13, 14, 15, 16, 17, 18, 19, 20, 21, 22, 23, 24, 25, 26] (by decide) rfl rfl
      obtain ⟨hP, hD, hS⟩ := hw
      refine lv_pop hx hb dX1_doTold_53 rfl ?_
      refine lv_goto (tgt := 92) hx hb dX1_doTold_54 (by decide) ?_
      refine lv_iconst (v := 1) hx hb dX1_doTold_92 (by decide) ?_
      have hr9 := hK0 ((1 : Int32), u4.2) h
      subst hr9
      exact W.zret (v := (1 : Int32)) hx hb hr (by decide) (fun t ht hW => ⟨⟨(1 : Int32), (), rfl, rfl, by rw [ht]; exact hP, va_K.moved hW.alike hK, hD⟩, hS.F ht⟩) hS.2.2 dX1_doTold_93
    · have h := ul_if_f hc3 h
      by_cases hc5 : p1 = 1
      · have h := ul_if_t hc5 h
        refine lv_tableIn (off := 44) (tgt := 57) hx hb dX1_doTold_13 (by rw [hc5]; decide) (by rw [hc5]; decide) (by rw [hc5]; decide) (by decide) ?_
        refine lv_aload_n hx hb dX1_doTold_57 rfl (lv_at hl 0 rfl) ?_
        refine va_get (D := (dC, dI)) (ci := 1) (v := .ref (aT 0)) (C := RX1) (T := TX1) (N := 9) hx hb hts hin1 hown hK hP 0 rfl rfl 2 (by decide) (hts (.fieldLink RX1 19 "UnderLadders$Forecast" "trial" "LUnderLadders$Street;") (by decide +kernel)) (fun _ h9 => h9) rfl dX1_doTold_58 ?_
        refine lv_iload_n hx hb dX1_doTold_61 rfl (lv_at hl 2 rfl) ?_
        refine lv_iload_n hx hb dX1_doTold_62 rfl (lv_at hl 3 rfl) ?_
        obtain ⟨u6, hu6, h⟩ := ul_cl_h h
        refine ul_cVv (As := [.int p2, .int p3]) (rest := []) (wc' := (ul_wS cI aT (aK 0) u6 ++ ul_wK cI aK K)) (wr := (ul_wG cI aF (aK 0) (aN 0) (aT 0) F ++ ul_wS cI aN (aK 0) N)) hP hD hS hK hA [12, 13, 14, 15, 16, 17, 18, 19, 20, 21, 22, 23, 24, 25, 26] [0, 1, 2, 3, 4, 5, 6, 7, 8, 9, 10, 11] [0] ul_NX_ok hN (c_X4_put l dC dI cI aT aK H.size T K p2 p3 u6 hu6) rfl rfl (by decide) rfl (by decide) (by decide) rfl ⟨hx, hb, hml, hown, hts⟩ (cwV 2 hts gX1_doTold_X4_put rfl rfl rfl (by decide +kernel) ⟨Nat.le_of_ble_eq_true rfl, Nat.le_of_ble_eq_true rfl⟩) (va_recv hK hP (ci := 4) (q0 := 12) rfl rfl) rfl hl.1 rfl (Nat.le_of_ble_eq_true rfl) dX1_doTold_63 (fun H locs hw => ?_)
        have hw := hw.re (w' := (ul_wG cI aF (aK 0) (aN 0) (aT 0) F ++ ul_wS cI aN (aK 0) N ++ ul_wS cI aT (aK 0) u6 ++ ul_wK cI aK K)) [0, 1, 2, 3, 4, 5, 6, 7, 8, 9, 10, 11, 12, 13, 14, 15, 16, 17, 18, 19, 20, 21, 22, 23, 24, 25, 26] (by decide) rfl rfl
        obtain ⟨hP, hD, hS⟩ := hw
        refine lv_goto (tgt := 92) hx hb dX1_doTold_66 (by decide) ?_
        refine lv_iconst (v := 1) hx hb dX1_doTold_92 (by decide) ?_
        have hr9 := hK0 ((1 : Int32), u6) h
        subst hr9
        exact W.zret (v := (1 : Int32)) hx hb hr (by decide) (fun t ht hW => ⟨⟨(1 : Int32), (), rfl, rfl, by rw [ht]; exact hP, va_K.moved hW.alike hK, hD⟩, hS.F ht⟩) hS.2.2 dX1_doTold_93
      · have h := ul_if_f hc5 h
        by_cases hc7 : p1 = 2
        · have h := ul_if_t hc7 h
          refine lv_tableIn (off := 56) (tgt := 69) hx hb dX1_doTold_13 (by rw [hc7]; decide) (by rw [hc7]; decide) (by rw [hc7]; decide) (by decide) ?_
          refine lv_aload_n hx hb dX1_doTold_69 rfl (lv_at hl 0 rfl) ?_
          refine va_get (D := (dC, dI)) (ci := 1) (v := .ref (aT 0)) (C := RX1) (T := TX1) (N := 9) hx hb hts hin1 hown hK hP 0 rfl rfl 2 (by decide) (hts (.fieldLink RX1 19 "UnderLadders$Forecast" "trial" "LUnderLadders$Street;") (by decide +kernel)) (fun _ h9 => h9) rfl dX1_doTold_70 ?_
          refine lv_iload_n hx hb dX1_doTold_73 rfl (lv_at hl 3 rfl) ?_
          obtain ⟨u8, hu8, h⟩ := ul_cl_h h
          refine ul_cVv (As := [.int p3]) (rest := []) (wc' := (ul_wS cI aT (aK 0) u8 ++ ul_wK cI aK K)) (wr := (ul_wG cI aF (aK 0) (aN 0) (aT 0) F ++ ul_wS cI aN (aK 0) N)) hP hD hS hK hA [12, 13, 14, 15, 16, 17, 18, 19, 20, 21, 22, 23, 24, 25, 26] [0, 1, 2, 3, 4, 5, 6, 7, 8, 9, 10, 11] [0] ul_NX_ok hN (c_X4_changeMan l dC dI cI aT aK H.size T K p3 u8 hu8) rfl rfl (by decide) rfl (by decide) (by decide) rfl ⟨hx, hb, hml, hown, hts⟩ (cwV 1 hts gX1_doTold_X4_changeMan rfl rfl rfl (by decide +kernel) ⟨Nat.le_of_ble_eq_true rfl, Nat.le_of_ble_eq_true rfl⟩) (va_recv hK hP (ci := 4) (q0 := 12) rfl rfl) rfl hl.1 rfl (Nat.le_of_ble_eq_true rfl) dX1_doTold_74 (fun H locs hw => ?_)
          have hw := hw.re (w' := (ul_wG cI aF (aK 0) (aN 0) (aT 0) F ++ ul_wS cI aN (aK 0) N ++ ul_wS cI aT (aK 0) u8 ++ ul_wK cI aK K)) [0, 1, 2, 3, 4, 5, 6, 7, 8, 9, 10, 11, 12, 13, 14, 15, 16, 17, 18, 19, 20, 21, 22, 23, 24, 25, 26] (by decide) rfl rfl
          obtain ⟨hP, hD, hS⟩ := hw
          refine lv_goto (tgt := 92) hx hb dX1_doTold_77 (by decide) ?_
          refine lv_iconst (v := 1) hx hb dX1_doTold_92 (by decide) ?_
          have hr9 := hK0 ((1 : Int32), u8) h
          subst hr9
          exact W.zret (v := (1 : Int32)) hx hb hr (by decide) (fun t ht hW => ⟨⟨(1 : Int32), (), rfl, rfl, by rw [ht]; exact hP, va_K.moved hW.alike hK, hD⟩, hS.F ht⟩) hS.2.2 dX1_doTold_93
        · have h := ul_if_f hc7 h
          by_cases hc9 : p1 = 3
          · have h := ul_if_t hc9 h
            refine lv_tableIn (off := 67) (tgt := 80) hx hb dX1_doTold_13 (by rw [hc9]; decide) (by rw [hc9]; decide) (by rw [hc9]; decide) (by decide) ?_
            refine lv_aload_n hx hb dX1_doTold_80 rfl (lv_at hl 0 rfl) ?_
            refine va_get (D := (dC, dI)) (ci := 1) (v := .ref (aT 0)) (C := RX1) (T := TX1) (N := 9) hx hb hts hin1 hown hK hP 0 rfl rfl 2 (by decide) (hts (.fieldLink RX1 19 "UnderLadders$Forecast" "trial" "LUnderLadders$Street;") (by decide +kernel)) (fun _ h9 => h9) rfl dX1_doTold_81 ?_
            refine lv_iload_n hx hb dX1_doTold_84 rfl (lv_at hl 2 rfl) ?_
            refine lv_iload_n hx hb dX1_doTold_85 rfl (lv_at hl 3 rfl) ?_
            obtain ⟨u10, hu10, h⟩ := ul_cl_h h
            refine ul_cVv (As := [.int p2, .int p3]) (rest := []) (wc' := (ul_wS cI aT (aK 0) u10 ++ ul_wK cI aK K)) (wr := (ul_wG cI aF (aK 0) (aN 0) (aT 0) F ++ ul_wS cI aN (aK 0) N)) hP hD hS hK hA [12, 13, 14, 15, 16, 17, 18, 19, 20, 21, 22, 23, 24, 25, 26] [0, 1, 2, 3, 4, 5, 6, 7, 8, 9, 10, 11] [0] ul_NX_ok hN (c_X4_endow l dC dI cI aT aK H.size T K p2 p3 u10 hu10) rfl rfl (by decide) rfl (by decide) (by decide) rfl ⟨hx, hb, hml, hown, hts⟩ (cwV 2 hts gX1_doTold_X4_endow rfl rfl rfl (by decide +kernel) ⟨Nat.le_of_ble_eq_true rfl, Nat.le_of_ble_eq_true rfl⟩) (va_recv hK hP (ci := 4) (q0 := 12) rfl rfl) rfl hl.1 rfl (Nat.le_of_ble_eq_true rfl) dX1_doTold_86 (fun H locs hw => ?_)
            have hw := hw.re (w' := (ul_wG cI aF (aK 0) (aN 0) (aT 0) F ++ ul_wS cI aN (aK 0) N ++ ul_wS cI aT (aK 0) u10 ++ ul_wK cI aK K)) [0, 1, 2, 3, 4, 5, 6, 7, 8, 9, 10, 11, 12, 13, 14, 15, 16, 17, 18, 19, 20, 21, 22, 23, 24, 25, 26] (by decide) rfl rfl
            obtain ⟨hP, hD, hS⟩ := hw
            refine lv_goto (tgt := 92) hx hb dX1_doTold_89 (by decide) ?_
            refine lv_iconst (v := 1) hx hb dX1_doTold_92 (by decide) ?_
            have hr9 := hK0 ((1 : Int32), u10) h
            subst hr9
            exact W.zret (v := (1 : Int32)) hx hb hr (by decide) (fun t ht hW => ⟨⟨(1 : Int32), (), rfl, rfl, by rw [ht]; exact hP, va_K.moved hW.alike hK, hD⟩, hS.F ht⟩) hS.2.2 dX1_doTold_93
          · have h := ul_if_f hc9 h
            refine lv_tableOut (tgt := 92) hx hb dX1_doTold_13 (by have z0 := lv_neT (a := 0) hc3 (by decide); have z1 := lv_neT (a := 1) hc5 (by decide); have z2 := lv_neT (a := 2) hc7 (by decide); have z3 := lv_neT (a := 3) hc9 (by decide); omega) (by decide) ?_
            refine lv_iconst (v := 1) hx hb dX1_doTold_92 (by decide) ?_
            have hr9 := hK0 ((1 : Int32), T) h
            subst hr9
            exact W.zret (v := (1 : Int32)) hx hb hr (by decide) (fun t ht hW => ⟨⟨(1 : Int32), (), rfl, rfl, by rw [ht]; exact hP, va_K.moved hW.alike hK, hD⟩, hS.F ht⟩) hS.2.2 dX1_doTold_93
  · have h := ul_if_t hc2 h
    refine lv_iconst (v := 0) hx hb dX1_doTold_10 (by decide) ?_
    have hr9 := hK0 ((0 : Int32), T) h
    subst hr9
    exact W.zret (v := (0 : Int32)) hx hb hr (by decide) (fun t ht hW => ⟨⟨(0 : Int32), (), rfl, rfl, by rw [ht]; exact hP, va_K.moved hW.alike hK, hD⟩, hS.F ht⟩) hS.2.2 dX1_doTold_11
def f_X1_firstWrong_j63 (F : ul_S) (N : ul_S) (K : ul_S) (p1 : Int32) (x2 : Int32) (T__63 : ul_S) : Option (Int32 × ul_S) :=
  some ((-9 : Int32), T__63)
def f_X1_firstWrong_L13 (F : ul_S) (N : ul_S) (K : ul_S) (p1 : Int32) (q13 : (Int32 × ul_S)) : Option (((Int32 × ul_S) ⊕ (Int32 × ul_S)) ⊕ (Int32 × ul_S)) :=
  if p1 ≤ q13.1 then (some (.inl (.inr (q13.1, q13.2)))) else (ul_ld (F 1) 4 q13.1 fun v3 => ul_ld (F 1) 4 q13.1 fun v5 => ul_ld (F 1) 4 q13.1 fun v7 => (f_X1_doTold q13.2 K (v3 / (100 : Int32)) ((v5 / (10 : Int32)) - (v5 / (10 : Int32)) / (10 : Int32) * (10 : Int32)) (v7 - v7 / (10 : Int32) * (10 : Int32))).bind fun u9 => if u9.1 = 0 then (some (.inl (.inl (q13.1, u9.2)))) else (ul_bd (q13.1 + 1) fun v11 => some (.inr (v11, u9.2))))
def f_X1_firstWrong (F : ul_S) (N : ul_S) (T : ul_S) (K : ul_S) (p1 : Int32) : Option (Int32 × ul_S) :=
  (f_X4_setTo T N).bind fun u1 => (ul_it ul_N (f_X1_firstWrong_L13 F N K p1) ((0 : Int32), u1)).bind (Sum.elim (fun z => some z) (fun e13 => f_X1_firstWrong_j63 F N K p1 e13.1 e13.2))
set_option maxHeartbeats 4000000 in
set_option maxRecDepth 100000 in
theorem c_X1_firstWrong (l : Launch) (dC : Nat → ClassId) (dI : Nat → Nat → Nat) (cI : ClassId) (aF : Nat → Nat) (aN : Nat → Nat) (aT : Nat → Nat) (aK : Nat → Nat) (sz : Nat) (F : ul_S) (N : ul_S) (T : ul_S) (K : ul_S) (p1 : Int32) (r : (Int32 × ul_S)) (h : f_X1_firstWrong F N T K p1 = some r) : Met l yX1_firstWrong wsX1_firstWrong ({ frames := 5, cells := 0, slots := 0, locals := 132 }) (va_Pc [.ref (aF 0), .int p1] (ul_pre (dC, dI) [(cI, .int)] ul_NX sz (ul_wG cI aF (aK 0) (aN 0) (aT 0) F ++ ul_wS cI aN (aK 0) N ++ ul_wS cI aT (aK 0) T ++ ul_wK cI aK K))) (va_Qi (fun v (_ : Unit) => v = r.1) (fun _ => ul_post (dC, dI) [(cI, .int)] (va_A (ul_wG cI aF (aK 0) (aN 0) (aT 0) F ++ ul_wS cI aN (aK 0) N ++ ul_wS cI aT (aK 0) T ++ ul_wK cI aK K) sz) (ul_wG cI aF (aK 0) (aN 0) (aT 0) F ++ ul_wS cI aN (aK 0) N ++ ul_wS cI aT (aK 0) r.2 ++ ul_wK cI aK K)) (va_A (ul_wG cI aF (aK 0) (aN 0) (aT 0) F ++ ul_wS cI aN (aK 0) N ++ ul_wS cI aT (aK 0) T ++ ul_wK cI aK K) sz)) 0 0 (va_A (ul_wG cI aF (aK 0) (aN 0) (aT 0) F ++ ul_wS cI aN (aK 0) N ++ ul_wS cI aT (aK 0) T ++ ul_wK cI aK K) sz) := by
  refine Met.ofW (cc := cX1_firstWrong) (maxL := 3) (ret := (some .int)) (by decide) rfl ?_
  intro p e s m args below meth c s₁ B hml hv
  obtain ⟨rfl, hsz, hP, hK, hD0, hN⟩ := hv
  have hx := B.exec
  have hb := B.bytes
  have hr := B.returns
  have hts := atoms_spec (ws := wsX1_firstWrong) B.pre
  have hown : s.vm.findClass RX1 = some m.cls := findClass_of_methodNamed B.named
  have hlocks := B.notSynchronized
  have hin1 : ∀ w ∈ u_ws RX1 TX1 9, w ∈ wsX1_firstWrong := by decide +kernel
  subst hsz
  have hD := hD0.self (sz := s.heap.size)
  generalize hAe : va_A (ul_wG cI aF (aK 0) (aN 0) (aT 0) F ++ ul_wS cI aN (aK 0) N ++ ul_wS cI aT (aK 0) T ++ ul_wK cI aK K) s.heap.size = A at hD hN ⊢
  have hA : ∀ q : Nat, s.heap.size ≤ q → A q := fun q h => by rw [← hAe]; exact Or.inr h
  have hS : va_S A s.heap s.heap [] := va_S.rf
  have hl := lv_entry ([.ref (aF 0), .int p1]) (n := 3) (Nat.le_of_ble_eq_true rfl)
  rw [lg_entry_eq]
  generalize (lg_sl ([.ref (aF 0), .int p1]) ++ List.replicate (3 - (lg_sl ([.ref (aF 0), .int p1])).length) Slot.unset).toArray = ls at hl ⊢
  have hl : lv_has ls 3 [(0, .ref (aF 0)), (1, .int p1)] := hl
  obtain ⟨K0, hK0, h⟩ := ul_top h
  unfold f_X1_firstWrong at h
  refine ul_gen (fun G gi ge => ?_)
  obtain ⟨H, eH⟩ : ∃ z, z = s.heap := ⟨_, rfl⟩
  obtain ⟨locs, eL⟩ : ∃ z : List Loc, z = [] := ⟨_, rfl⟩
  have hP : va_P (dC, dI) classes (ul_wG cI aF (aK 0) (aN 0) (aT 0) F ++ ul_wS cI aN (aK 0) N ++ ul_wS cI aT (aK 0) T ++ ul_wK cI aK K) H := by rw [eH]; exact hP
  have hS : va_S A s.heap H locs := by rw [eH, eL]; exact hS
  rw [← eL]
  refine (show G H locs (F0 m 0 ls []) → G s.heap locs (F0 m 0 ls []) from fun z => by rw [← eH]; exact z) ?_
  have J63 : ∀ (x2 : Int32) (T__63 : ul_S) (H : Heap) (locs : List Loc), ul_H (dC, dI) A s.heap (ul_wG cI aF (aK 0) (aN 0) (aT 0) F ++ ul_wS cI aN (aK 0) N ++ ul_wS cI aT (aK 0) T__63 ++ ul_wK cI aK K) H locs → ∀ ls : Array Slot, lv_has ls 3 [(0, .ref (aF 0)), (1, .int p1), (2, .int x2)] → (f_X1_firstWrong_j63 F N K p1 x2 T__63).bind K0 = some r → G H locs (F0 m 63 ls []) := by
    intro x2 T__63 H locs hw ls hl h
    obtain ⟨hP, hD, hS⟩ := hw
    unfold f_X1_firstWrong_j63 at h
    refine gi _ _ _ ?_
    refine lv_bipush (v := -9) hx hb dX1_firstWrong_63 (by decide) ?_
    have hr9 := hK0 ((-9 : Int32), T__63) h
    subst hr9
    exact W.iret (v := (-9 : Int32)) hx hb hr (fun t ht hW => ⟨⟨(-9 : Int32), (), rfl, rfl, by rw [ht]; exact hP, va_K.moved hW.alike hK, hD⟩, hS.F ht⟩) hS.2.2 dX1_firstWrong_65
  refine gi _ _ _ ?_
  refine lv_aload_n hx hb dX1_firstWrong_0 rfl (lv_at hl 0 rfl) ?_
  refine va_get (D := (dC, dI)) (ci := 1) (v := .ref (aT 0)) (C := RX1) (T := TX1) (N := 9) hx hb hts hin1 hown hK hP 0 rfl rfl 2 (by decide) (hts (.fieldLink RX1 19 "UnderLadders$Forecast" "trial" "LUnderLadders$Street;") (by decide +kernel)) (fun _ h9 => h9) rfl dX1_firstWrong_1 ?_
  refine lv_aload_n hx hb dX1_firstWrong_4 rfl (lv_at hl 0 rfl) ?_
  refine va_get (D := (dC, dI)) (ci := 1) (v := .ref (aN 0)) (C := RX1) (T := TX1) (N := 9) hx hb hts hin1 hown hK hP 0 rfl rfl 1 (by decide) (hts (.fieldLink RX1 15 "UnderLadders$Forecast" "now" "LUnderLadders$Street;") (by decide +kernel)) (fun _ h9 => h9) rfl dX1_firstWrong_5 ?_
  obtain ⟨u1, hu1, h⟩ := ul_cl_h h
  refine ul_cVv (As := [.ref (aN 0)]) (rest := []) (wc' := (ul_wS cI aT (aK 0) u1 ++ ul_wS cI aN (aK 0) N)) (wr := (ul_wG cI aF (aK 0) (aN 0) (aT 0) F ++ ul_wK cI aK K)) hP hD hS hK hA [12, 13, 14, 15, 16, 17, 18, 5, 6, 7, 8, 9, 10, 11] [0, 1, 2, 3, 4, 19, 20, 21, 22, 23, 24, 25, 26] [0] ul_NX_ok hN (c_X4_setTo l dC dI cI aT aN aK H.size T N u1 hu1) rfl rfl (by decide) rfl (by decide) (by decide) rfl ⟨hx, hb, hml, hown, hts⟩ (cwV 1 hts gX1_firstWrong_X4_setTo rfl rfl rfl (by decide +kernel) ⟨Nat.le_of_ble_eq_true rfl, Nat.le_of_ble_eq_true rfl⟩) (va_recv hK hP (ci := 4) (q0 := 12) rfl rfl) rfl hl.1 rfl (Nat.le_of_ble_eq_true rfl) dX1_firstWrong_8 (fun H locs hw => ?_)
  have hw := hw.re (w' := (ul_wG cI aF (aK 0) (aN 0) (aT 0) F ++ ul_wS cI aN (aK 0) N ++ ul_wS cI aT (aK 0) u1 ++ ul_wK cI aK K)) [0, 1, 2, 3, 4, 20, 21, 22, 23, 24, 25, 26, 13, 14, 15, 16, 17, 18, 19, 5, 6, 7, 8, 9, 10, 11, 12] (by decide) rfl rfl
  obtain ⟨hP, hD, hS⟩ := hw
  refine lv_iconst (v := 0) hx hb dX1_firstWrong_11 (by decide) ?_
  refine lv_istore_n (lv' := [(2, .int (0 : Int32)), (0, .ref (aF 0)), (1, .int p1)]) hx hb dX1_firstWrong_12 rfl hl (by decide) rfl (fun ls hl => ?_)
  refine ge _ _ _ (ul_loop (P := fun q13 => ∀ (H : Heap) (locs : List Loc), ul_H (dC, dI) A s.heap (ul_wG cI aF (aK 0) (aN 0) (aT 0) F ++ ul_wS cI aN (aK 0) N ++ ul_wS cI aT (aK 0) q13.2 ++ ul_wK cI aK K) H locs → ∀ ls : Array Slot, lv_has ls 3 [(0, .ref (aF 0)), (1, .int p1), (2, .int q13.1)] → G H locs (F0 m 13 ls [])) ?_ _ _ (ul_it_h h) H locs ⟨hP, hD, hS⟩ ls (lv_sub hl [1, 2, 0] rfl))
  intro K13 hx13
  intro q13 ih13 h H locs hw ls hl
  obtain ⟨hP, hD, hS⟩ := hw
  unfold f_X1_firstWrong_L13 at h
  refine gi _ _ _ ?_
  refine lv_iload_n hx hb dX1_firstWrong_13 rfl (lv_at hl 2 rfl) ?_
  refine lv_iload_n hx hb dX1_firstWrong_14 rfl (lv_at hl 1 rfl) ?_
  refine lv_icmp_ge (tgt := 63) hx hb dX1_firstWrong_15 (by decide) (fun hc12 => ?_) (fun hc12 => ?_)
  · have h := ul_if_t hc12 h
    exact ge _ _ _ (J63 q13.1 q13.2 H locs ⟨hP, hD, hS⟩ ls (lv_sub hl [0, 1, 2] rfl) (hx13 (.inr (q13.1, q13.2)) h))
  · have h := ul_if_f hc12 h
    refine lv_aload_n hx hb dX1_firstWrong_18 rfl (lv_at hl 0 rfl) ?_
    refine lv_aload_n hx hb dX1_firstWrong_19 rfl (lv_at hl 0 rfl) ?_
    refine va_get (D := (dC, dI)) (ci := 1) (v := .ref (aF 1)) (C := RX1) (T := TX1) (N := 9) hx hb hts hin1 hown hK hP 0 rfl rfl 3 (by decide) (hts (.fieldLink RX1 22 "UnderLadders$Forecast" "doings" "[I") (by decide +kernel)) (fun _ h9 => h9) rfl dX1_firstWrong_20 ?_
    refine lv_iload_n hx hb dX1_firstWrong_23 rfl (lv_at hl 2 rfl) ?_
    obtain ⟨hi14, h⟩ := ul_ld_h h
    refine va_iald hx hb hK hP 1 0 rfl rfl hi14 dX1_firstWrong_24 ?_
    refine lv_topi (fun v13 ev13 => ?_)
    have h := h v13 ev13
    refine lv_bipush (v := 100) hx hb dX1_firstWrong_25 (by decide) ?_
    refine lv_idiv hx hb dX1_firstWrong_27 (by decide) ?_
    refine lv_aload_n hx hb dX1_firstWrong_28 rfl (lv_at hl 0 rfl) ?_
    refine va_get (D := (dC, dI)) (ci := 1) (v := .ref (aF 1)) (C := RX1) (T := TX1) (N := 9) hx hb hts hin1 hown hK hP 0 rfl rfl 3 (by decide) (hts (.fieldLink RX1 22 "UnderLadders$Forecast" "doings" "[I") (by decide +kernel)) (fun _ h9 => h9) rfl dX1_firstWrong_29 ?_
    refine lv_iload_n hx hb dX1_firstWrong_32 rfl (lv_at hl 2 rfl) ?_
    obtain ⟨hi16, h⟩ := ul_ld_h h
    refine va_iald hx hb hK hP 1 0 rfl rfl hi16 dX1_firstWrong_33 ?_
    refine lv_topi (fun v15 ev15 => ?_)
    have h := h v15 ev15
    refine lv_bipush (v := 10) hx hb dX1_firstWrong_34 (by decide) ?_
    refine lv_idiv hx hb dX1_firstWrong_36 (by decide) ?_
    refine lv_bipush (v := 10) hx hb dX1_firstWrong_37 (by decide) ?_
    refine lv_irem hx hb dX1_firstWrong_39 (by decide) ?_
    refine lv_aload_n hx hb dX1_firstWrong_40 rfl (lv_at hl 0 rfl) ?_
    refine va_get (D := (dC, dI)) (ci := 1) (v := .ref (aF 1)) (C := RX1) (T := TX1) (N := 9) hx hb hts hin1 hown hK hP 0 rfl rfl 3 (by decide) (hts (.fieldLink RX1 22 "UnderLadders$Forecast" "doings" "[I") (by decide +kernel)) (fun _ h9 => h9) rfl dX1_firstWrong_41 ?_
    refine lv_iload_n hx hb dX1_firstWrong_44 rfl (lv_at hl 2 rfl) ?_
    obtain ⟨hi18, h⟩ := ul_ld_h h
    refine va_iald hx hb hK hP 1 0 rfl rfl hi18 dX1_firstWrong_45 ?_
    refine lv_topi (fun v17 ev17 => ?_)
    have h := h v17 ev17
    refine lv_bipush (v := 10) hx hb dX1_firstWrong_46 (by decide) ?_
    refine lv_irem hx hb dX1_firstWrong_48 (by decide) ?_
    obtain ⟨u19, hu19, h⟩ := ul_cl_h h
    refine ul_cVi (As := [.int (v13 / (100 : Int32)), .int ((v15 / (10 : Int32)) - (v15 / (10 : Int32)) / (10 : Int32) * (10 : Int32)), .int (v17 - v17 / (10 : Int32) * (10 : Int32))]) (rest := []) (wc' := (ul_wG cI aF (aK 0) (aN 0) (aT 0) F ++ ul_wS cI aN (aK 0) N ++ ul_wS cI aT (aK 0) u19.2 ++ ul_wK cI aK K)) (wr := []) hP hD hS hK hA [0, 1, 2, 3, 4, 5, 6, 7, 8, 9, 10, 11, 12, 13, 14, 15, 16, 17, 18, 19, 20, 21, 22, 23, 24, 25, 26] [] [0] ul_NX_ok hN (c_X1_doTold l dC dI cI aF aN aT aK H.size F N q13.2 K (v13 / (100 : Int32)) ((v15 / (10 : Int32)) - (v15 / (10 : Int32)) / (10 : Int32) * (10 : Int32)) (v17 - v17 / (10 : Int32) * (10 : Int32)) u19 hu19) rfl rfl (by decide) rfl (by decide) (by decide) rfl ⟨hx, hb, hml, hown, hts⟩ (cwV 3 hts gX1_firstWrong_X1_doTold rfl rfl rfl (by decide +kernel) ⟨Nat.le_of_ble_eq_true rfl, Nat.le_of_ble_eq_true rfl⟩) (va_recv hK hP (ci := 1) (q0 := 0) rfl rfl) rfl hl.1 rfl (Nat.le_of_ble_eq_true rfl) dX1_firstWrong_49 (fun H locs hw => ?_)
    obtain ⟨hP, hD, hS⟩ := hw
    have hP : va_P (dC, dI) classes (ul_wG cI aF (aK 0) (aN 0) (aT 0) F ++ ul_wS cI aN (aK 0) N ++ ul_wS cI aT (aK 0) u19.2 ++ ul_wK cI aK K) H := hP
    have hD : va_D A (ul_wG cI aF (aK 0) (aN 0) (aT 0) F ++ ul_wS cI aN (aK 0) N ++ ul_wS cI aT (aK 0) u19.2 ++ ul_wK cI aK K) := hD
    refine lv_if_ne (tgt := 57) hx hb dX1_firstWrong_52 (by decide) (fun hc20 => ?_) (fun hc20 => ?_)
    · have h := ul_if_f hc20 h
      obtain ⟨v21, ev21⟩ : ∃ z : Int32, z = q13.1 + 1 := ⟨_, rfl⟩
      have h := ul_bd_h h v21 ev21
      refine lv_iinc (v := v21) (lv' := [(2, .int v21), (0, .ref (aF 0)), (1, .int p1)]) hx hb dX1_firstWrong_57 hl (k := 2) rfl (by rw [ev21]; rfl) (by decide) rfl (fun ls hl => ?_)
      refine lv_goto (tgt := 13) hx hb dX1_firstWrong_60 (by decide) ?_
      exact ge _ _ _ (ih13 (v21, u19.2) h H locs ⟨hP, hD, hS⟩ ls (lv_sub hl [1, 2, 0] rfl))
    · have h := ul_if_t hc20 h
      refine lv_iload_n hx hb dX1_firstWrong_55 rfl (lv_at hl 2 rfl) ?_
      have hr9 := hK0 (q13.1, u19.2) (hx13 (.inl (q13.1, u19.2)) h)
      subst hr9
      exact W.iret (v := q13.1) hx hb hr (fun t ht hW => ⟨⟨q13.1, (), rfl, rfl, by rw [ht]; exact hP, va_K.moved hW.alike hK, hD⟩, hS.F ht⟩) hS.2.2 dX1_firstWrong_56
def f_X1_weighCompanies_j57 (N : ul_S) (K : ul_S) (p1 : Int32) (x2 : Int32) (F__57 : ul_S) (T__57 : ul_S) : Option (ul_S × ul_S) :=
  some (F__57, T__57)
def f_X1_weighCompanies_L2 (N : ul_S) (K : ul_S) (p1 : Int32) (q2 : (Int32 × ul_S × ul_S)) : Option ((Int32 × ul_S × ul_S) ⊕ (Int32 × ul_S × ul_S)) :=
  if ((1 : Int32) <<< ((K 0 1) &&& 31)) ≤ q2.1 then (some (.inl (q2.1, q2.2.1, q2.2.2))) else ((f_X4_setTo q2.2.2 N).bind fun u2 => (f_X4_passDays u2 K (6 : Int32) q2.1).bind fun u3 => ul_ld (u3 4) 4 p1 fun v4 => ul_st q2.2.1 2 32 q2.1 v4 fun F6 => ul_bd (q2.1 + 1) fun v8 => some (.inr (v8, F6, u3)))
def f_X1_weighCompanies (F : ul_S) (N : ul_S) (T : ul_S) (K : ul_S) (p1 : Int32) : Option (ul_S × ul_S) :=
  (ul_it ul_N (f_X1_weighCompanies_L2 N K p1) ((0 : Int32), F, T)).bind (fun e2 => f_X1_weighCompanies_j57 N K p1 e2.1 e2.2.1 e2.2.2)
set_option maxHeartbeats 4000000 in
set_option maxRecDepth 100000 in
theorem c_X1_weighCompanies (l : Launch) (dC : Nat → ClassId) (dI : Nat → Nat → Nat) (cI : ClassId) (aF : Nat → Nat) (aN : Nat → Nat) (aT : Nat → Nat) (aK : Nat → Nat) (sz : Nat) (F : ul_S) (N : ul_S) (T : ul_S) (K : ul_S) (p1 : Int32) (r : (ul_S × ul_S)) (h : f_X1_weighCompanies F N T K p1 = some r) : Met l yX1_weighCompanies wsX1_weighCompanies ({ frames := 5, cells := 0, slots := 0, locals := 132 }) (va_Pc [.ref (aF 0), .int p1] (ul_pre (dC, dI) [(cI, .int)] ul_NX sz (ul_wG cI aF (aK 0) (aN 0) (aT 0) F ++ ul_wS cI aN (aK 0) N ++ ul_wS cI aT (aK 0) T ++ ul_wK cI aK K))) (va_Qv (fun (_ : Unit) => True) (fun _ => ul_post (dC, dI) [(cI, .int)] (va_A (ul_wG cI aF (aK 0) (aN 0) (aT 0) F ++ ul_wS cI aN (aK 0) N ++ ul_wS cI aT (aK 0) T ++ ul_wK cI aK K) sz) (ul_wG cI aF (aK 0) (aN 0) (aT 0) r.1 ++ ul_wS cI aN (aK 0) N ++ ul_wS cI aT (aK 0) r.2 ++ ul_wK cI aK K)) (va_A (ul_wG cI aF (aK 0) (aN 0) (aT 0) F ++ ul_wS cI aN (aK 0) N ++ ul_wS cI aT (aK 0) T ++ ul_wK cI aK K) sz)) 0 0 (va_A (ul_wG cI aF (aK 0) (aN 0) (aT 0) F ++ ul_wS cI aN (aK 0) N ++ ul_wS cI aT (aK 0) T ++ ul_wK cI aK K) sz) := by
  refine Met.ofW (cc := cX1_weighCompanies) (maxL := 3) (ret := none) (by decide) rfl ?_
  intro p e s m args below meth c s₁ B hml hv
  obtain ⟨rfl, hsz, hP, hK, hD0, hN⟩ := hv
  have hx := B.exec
  have hb := B.bytes
  have hr := B.returns
  have hts := atoms_spec (ws := wsX1_weighCompanies) B.pre
  have hown : s.vm.findClass RX1 = some m.cls := findClass_of_methodNamed B.named
  have hlocks := B.notSynchronized
  have hin1 : ∀ w ∈ u_ws RX1 TX1 9, w ∈ wsX1_weighCompanies := by decide +kernel
  have hin2 : ∀ w ∈ u_ws RX2 TX2 9, w ∈ wsX1_weighCompanies := by decide +kernel
  have hin4 : ∀ w ∈ u_ws RX4 TX4 8, w ∈ wsX1_weighCompanies := by decide +kernel
  subst hsz
  have hD := hD0.self (sz := s.heap.size)
  generalize hAe : va_A (ul_wG cI aF (aK 0) (aN 0) (aT 0) F ++ ul_wS cI aN (aK 0) N ++ ul_wS cI aT (aK 0) T ++ ul_wK cI aK K) s.heap.size = A at hD hN ⊢
  have hA : ∀ q : Nat, s.heap.size ≤ q → A q := fun q h => by rw [← hAe]; exact Or.inr h
  have hS : va_S A s.heap s.heap [] := va_S.rf
  have hl := lv_entry ([.ref (aF 0), .int p1]) (n := 3) (Nat.le_of_ble_eq_true rfl)
  rw [lg_entry_eq]
  generalize (lg_sl ([.ref (aF 0), .int p1]) ++ List.replicate (3 - (lg_sl ([.ref (aF 0), .int p1])).length) Slot.unset).toArray = ls at hl ⊢
  have hl : lv_has ls 3 [(0, .ref (aF 0)), (1, .int p1)] := hl
  obtain ⟨K0, hK0, h⟩ := ul_top h
  unfold f_X1_weighCompanies at h
  refine ul_gen (fun G gi ge => ?_)
  obtain ⟨H, eH⟩ : ∃ z, z = s.heap := ⟨_, rfl⟩
  obtain ⟨locs, eL⟩ : ∃ z : List Loc, z = [] := ⟨_, rfl⟩
  have hP : va_P (dC, dI) classes (ul_wG cI aF (aK 0) (aN 0) (aT 0) F ++ ul_wS cI aN (aK 0) N ++ ul_wS cI aT (aK 0) T ++ ul_wK cI aK K) H := by rw [eH]; exact hP
  have hS : va_S A s.heap H locs := by rw [eH, eL]; exact hS
  rw [← eL]
  refine (show G H locs (F0 m 0 ls []) → G s.heap locs (F0 m 0 ls []) from fun z => by rw [← eH]; exact z) ?_
  have J57 : ∀ (x2 : Int32) (F__57 : ul_S) (T__57 : ul_S) (H : Heap) (locs : List Loc), ul_H (dC, dI) A s.heap (ul_wG cI aF (aK 0) (aN 0) (aT 0) F__57 ++ ul_wS cI aN (aK 0) N ++ ul_wS cI aT (aK 0) T__57 ++ ul_wK cI aK K) H locs → ∀ ls : Array Slot, lv_has ls 3 [(0, .ref (aF 0)), (1, .int p1), (2, .int x2)] → (f_X1_weighCompanies_j57 N K p1 x2 F__57 T__57).bind K0 = some r → G H locs (F0 m 57 ls []) := by
    intro x2 F__57 T__57 H locs hw ls hl h
    obtain ⟨hP, hD, hS⟩ := hw
    unfold f_X1_weighCompanies_j57 at h
    refine gi _ _ _ ?_
    have hr9 := hK0 (F__57, T__57) h
    subst hr9
    exact W.vret hx hb hr (fun t ht hW => ⟨⟨(), rfl, trivial, by rw [ht]; exact hP, va_K.moved hW.alike hK, hD⟩, hS.F ht⟩) hS.2.2 dX1_weighCompanies_57
  refine gi _ _ _ ?_
  refine lv_iconst (v := 0) hx hb dX1_weighCompanies_0 (by decide) ?_
  refine lv_istore_n (lv' := [(2, .int (0 : Int32)), (0, .ref (aF 0)), (1, .int p1)]) hx hb dX1_weighCompanies_1 rfl hl (by decide) rfl (fun ls hl => ?_)
  refine ge _ _ _ (ul_loop (P := fun q2 => ∀ (H : Heap) (locs : List Loc), ul_H (dC, dI) A s.heap (ul_wG cI aF (aK 0) (aN 0) (aT 0) q2.2.1 ++ ul_wS cI aN (aK 0) N ++ ul_wS cI aT (aK 0) q2.2.2 ++ ul_wK cI aK K) H locs → ∀ ls : Array Slot, lv_has ls 3 [(0, .ref (aF 0)), (1, .int p1), (2, .int q2.1)] → G H locs (F0 m 2 ls [])) ?_ _ _ (ul_it_h h) H locs ⟨hP, hD, hS⟩ ls (lv_sub hl [1, 2, 0] rfl))
  intro K2 hx2
  intro q2 ih2 h H locs hw ls hl
  obtain ⟨hP, hD, hS⟩ := hw
  unfold f_X1_weighCompanies_L2 at h
  refine gi _ _ _ ?_
  refine lv_iload_n hx hb dX1_weighCompanies_2 rfl (lv_at hl 2 rfl) ?_
  refine lv_iconst (v := 1) hx hb dX1_weighCompanies_3 (by decide) ?_
  refine lv_aload_n hx hb dX1_weighCompanies_4 rfl (lv_at hl 0 rfl) ?_
  refine va_get (D := (dC, dI)) (ci := 1) (v := .ref (aK 0)) (C := RX1) (T := TX1) (N := 9) hx hb hts hin1 hown hK hP 0 rfl rfl 0 (by decide) (hts (.fieldLink RX1 9 "UnderLadders$Forecast" "fixed" "LUnderLadders$Market;") (by decide +kernel)) (fun _ h9 => h9) rfl dX1_weighCompanies_5 ?_
  refine va_getN (D := (dC, dI)) (ci := 2) (v := .int (K 0 1)) (C := RX2) (T := TX2) (N := 9) hx hb hts hin2 hown hK hP 19 rfl rfl 8 (by decide) (va_Nw.use rfl (hN.1 (RX1, 109, "UnderLadders$Market", "people", "I") (by decide +kernel))) (fun _ h9 => h9) rfl dX1_weighCompanies_8 ?_
  refine lv_ishl hx hb dX1_weighCompanies_11 ?_
  refine lv_icmp_ge (tgt := 57) hx hb dX1_weighCompanies_12 (by decide) (fun hc9 => ?_) (fun hc9 => ?_)
  · have h := ul_if_t hc9 h
    exact ge _ _ _ (J57 q2.1 q2.2.1 q2.2.2 H locs ⟨hP, hD, hS⟩ ls (lv_sub hl [0, 1, 2] rfl) (hx2 (q2.1, q2.2.1, q2.2.2) h))
  · have h := ul_if_f hc9 h
    refine lv_aload_n hx hb dX1_weighCompanies_15 rfl (lv_at hl 0 rfl) ?_
    refine va_get (D := (dC, dI)) (ci := 1) (v := .ref (aT 0)) (C := RX1) (T := TX1) (N := 9) hx hb hts hin1 hown hK hP 0 rfl rfl 2 (by decide) (hts (.fieldLink RX1 19 "UnderLadders$Forecast" "trial" "LUnderLadders$Street;") (by decide +kernel)) (fun _ h9 => h9) rfl dX1_weighCompanies_16 ?_
    refine lv_aload_n hx hb dX1_weighCompanies_19 rfl (lv_at hl 0 rfl) ?_
    refine va_get (D := (dC, dI)) (ci := 1) (v := .ref (aN 0)) (C := RX1) (T := TX1) (N := 9) hx hb hts hin1 hown hK hP 0 rfl rfl 1 (by decide) (hts (.fieldLink RX1 15 "UnderLadders$Forecast" "now" "LUnderLadders$Street;") (by decide +kernel)) (fun _ h9 => h9) rfl dX1_weighCompanies_20 ?_
    obtain ⟨u10, hu10, h⟩ := ul_cl_h h
    refine ul_cVv (As := [.ref (aN 0)]) (rest := []) (wc' := (ul_wS cI aT (aK 0) u10 ++ ul_wS cI aN (aK 0) N)) (wr := (ul_wG cI aF (aK 0) (aN 0) (aT 0) q2.2.1 ++ ul_wK cI aK K)) hP hD hS hK hA [12, 13, 14, 15, 16, 17, 18, 5, 6, 7, 8, 9, 10, 11] [0, 1, 2, 3, 4, 19, 20, 21, 22, 23, 24, 25, 26] [0] ul_NX_ok hN (c_X4_setTo l dC dI cI aT aN aK H.size q2.2.2 N u10 hu10) rfl rfl (by decide) rfl (by decide) (by decide) rfl ⟨hx, hb, hml, hown, hts⟩ (cwV 1 hts gX1_weighCompanies_X4_setTo rfl rfl rfl (by decide +kernel) ⟨Nat.le_of_ble_eq_true rfl, Nat.le_of_ble_eq_true rfl⟩) (va_recv hK hP (ci := 4) (q0 := 12) rfl rfl) rfl hl.1 rfl (Nat.le_of_ble_eq_true rfl) dX1_weighCompanies_23 (fun H locs hw => ?_)
    have hw := hw.re (w' := (ul_wG cI aF (aK 0) (aN 0) (aT 0) q2.2.1 ++ ul_wS cI aN (aK 0) N ++ ul_wS cI aT (aK 0) u10 ++ ul_wK cI aK K)) [0, 1, 2, 3, 4, 20, 21, 22, 23, 24, 25, 26, 13, 14, 15, 16, 17, 18, 19, 5, 6, 7, 8, 9, 10, 11, 12] (by decide) rfl rfl
    obtain ⟨hP, hD, hS⟩ := hw
    refine lv_aload_n hx hb dX1_weighCompanies_26 rfl (lv_at hl 0 rfl) ?_
    refine va_get (D := (dC, dI)) (ci := 1) (v := .ref (aT 0)) (C := RX1) (T := TX1) (N := 9) hx hb hts hin1 hown hK hP 0 rfl rfl 2 (by decide) (hts (.fieldLink RX1 19 "UnderLadders$Forecast" "trial" "LUnderLadders$Street;") (by decide +kernel)) (fun _ h9 => h9) rfl dX1_weighCompanies_27 ?_
    refine lv_bipush (v := 6) hx hb dX1_weighCompanies_30 (by decide) ?_
    refine lv_iload_n hx hb dX1_weighCompanies_32 rfl (lv_at hl 2 rfl) ?_
    obtain ⟨u11, hu11, h⟩ := ul_cl_h h
    refine ul_cVv (As := [.int (6 : Int32), .int q2.1]) (rest := []) (wc' := (ul_wS cI aT (aK 0) u11 ++ ul_wK cI aK K)) (wr := (ul_wG cI aF (aK 0) (aN 0) (aT 0) q2.2.1 ++ ul_wS cI aN (aK 0) N)) hP hD hS hK hA [12, 13, 14, 15, 16, 17, 18, 19, 20, 21, 22, 23, 24, 25, 26] [0, 1, 2, 3, 4, 5, 6, 7, 8, 9, 10, 11] [0] ul_NX_ok hN (c_X4_passDays l dC dI cI aT aK H.size u10 K (6 : Int32) q2.1 u11 hu11) rfl rfl (by decide) rfl (by decide) (by decide) rfl ⟨hx, hb, hml, hown, hts⟩ (cwV 2 hts gX1_weighCompanies_X4_passDays rfl rfl rfl (by decide +kernel) ⟨Nat.le_of_ble_eq_true rfl, Nat.le_of_ble_eq_true rfl⟩) (va_recv hK hP (ci := 4) (q0 := 12) rfl rfl) rfl hl.1 rfl (Nat.le_of_ble_eq_true rfl) dX1_weighCompanies_33 (fun H locs hw => ?_)
    have hw := hw.re (w' := (ul_wG cI aF (aK 0) (aN 0) (aT 0) q2.2.1 ++ ul_wS cI aN (aK 0) N ++ ul_wS cI aT (aK 0) u11 ++ ul_wK cI aK K)) [0, 1, 2, 3, 4, 5, 6, 7, 8, 9, 10, 11, 12, 13, 14, 15, 16, 17, 18, 19, 20, 21, 22, 23, 24, 25, 26] (by decide) rfl rfl
    obtain ⟨hP, hD, hS⟩ := hw
    refine lv_aload_n hx hb dX1_weighCompanies_36 rfl (lv_at hl 0 rfl) ?_
    refine va_get (D := (dC, dI)) (ci := 1) (v := .ref (aF 2)) (C := RX1) (T := TX1) (N := 9) hx hb hts hin1 hown hK hP 0 rfl rfl 4 (by decide) (hts (.fieldLink RX1 26 "UnderLadders$Forecast" "worth" "[I") (by decide +kernel)) (fun _ h9 => h9) rfl dX1_weighCompanies_37 ?_
    refine lv_iload_n hx hb dX1_weighCompanies_40 rfl (lv_at hl 2 rfl) ?_
    refine lv_aload_n hx hb dX1_weighCompanies_41 rfl (lv_at hl 0 rfl) ?_
    refine va_get (D := (dC, dI)) (ci := 1) (v := .ref (aT 0)) (C := RX1) (T := TX1) (N := 9) hx hb hts hin1 hown hK hP 0 rfl rfl 2 (by decide) (hts (.fieldLink RX1 19 "UnderLadders$Forecast" "trial" "LUnderLadders$Street;") (by decide +kernel)) (fun _ h9 => h9) rfl dX1_weighCompanies_42 ?_
    refine va_getN (D := (dC, dI)) (ci := 4) (v := .ref (aT 4)) (C := RX4) (T := TX4) (N := 8) hx hb hts hin4 hown hK hP 12 rfl rfl 4 (by decide) (va_Nw.use rfl (hN.1 (RX1, 66, "UnderLadders$Street", "manGold", "[I") (by decide +kernel))) (fun _ h9 => h9) rfl dX1_weighCompanies_45 ?_
    refine lv_iload_n hx hb dX1_weighCompanies_48 rfl (lv_at hl 1 rfl) ?_
    obtain ⟨hi13, h⟩ := ul_ld_h h
    refine va_iald hx hb hK hP 16 0 rfl rfl hi13 dX1_weighCompanies_49 ?_
    refine lv_topi (fun v12 ev12 => ?_)
    have h := h v12 ev12
    obtain ⟨hi15, h⟩ := ul_st_h h
    refine va_iast hx hb hK hP hD hS 2 0 rfl rfl hi15 dX1_weighCompanies_50 (fun H locs hP hD hS => ?_)
    obtain ⟨F14, eF14⟩ : ∃ z : ul_S, z = ul_up q2.2.1 2 q2.1.toNatClampNeg v12 := ⟨_, rfl⟩
    have h := h F14 eF14
    have hP : va_P (dC, dI) classes (ul_wG cI aF (aK 0) (aN 0) (aT 0) F14 ++ ul_wS cI aN (aK 0) N ++ ul_wS cI aT (aK 0) u11 ++ ul_wK cI aK K) H := by rw [eF14]; exact hP
    have hD : va_D A (ul_wG cI aF (aK 0) (aN 0) (aT 0) F14 ++ ul_wS cI aN (aK 0) N ++ ul_wS cI aT (aK 0) u11 ++ ul_wK cI aK K) := by rw [eF14]; exact hD
    obtain ⟨v16, ev16⟩ : ∃ z : Int32, z = q2.1 + 1 := ⟨_, rfl⟩
    have h := ul_bd_h h v16 ev16
    refine lv_iinc (v := v16) (lv' := [(2, .int v16), (0, .ref (aF 0)), (1, .int p1)]) hx hb dX1_weighCompanies_51 hl (k := 2) rfl (by rw [ev16]; rfl) (by decide) rfl (fun ls hl => ?_)
    refine lv_goto (tgt := 2) hx hb dX1_weighCompanies_54 (by decide) ?_
    exact ge _ _ _ (ih2 (v16, F14, u11) h H locs ⟨hP, hD, hS⟩ ls (lv_sub hl [1, 2, 0] rfl))
def f_X1_sumOfGains_j98 (F : ul_S) (K : ul_S) (p1 : Int32) (x2 : Int32) (x3 : Int32) : Option Int32 :=
  some x2
def f_X1_sumOfGains_j92 (F : ul_S) (K : ul_S) (p1 : Int32) (x2 : Int32) (x3 : Int32) (x4 : Int32) : Option ((Int32 × Int32) ⊕ (Int32 × Int32)) :=
  ul_bd (x3 + 1) fun v1 => some (.inr (x2, v1))
def f_X1_sumOfGains_L4 (F : ul_S) (K : ul_S) (p1 : Int32) (q4 : (Int32 × Int32)) : Option ((Int32 × Int32) ⊕ (Int32 × Int32)) :=
  if ((1 : Int32) <<< ((K 0 1) &&& 31)) ≤ q4.2 then (some (.inl (q4.1, q4.2))) else (ul_bd (q4.2 ||| ((1 : Int32) <<< (p1 &&& 31))) fun v4 => if v4 = q4.2 then (f_X1_sumOfGains_j92 F K p1 q4.1 q4.2 v4) else (if v4 < (32 : Int32) then ((f_J6_bitCount_0f7a4 q4.2).bind fun u7 => ul_bd (((K 0 1) - (1 : Int32)) - u7) fun v8 => (f_X6_ordersOf u7).bind fun u9 => (f_X6_ordersOf v8).bind fun u10 => ul_ld (F 2) 32 v4 fun v11 => ul_ld (F 2) 32 q4.2 fun v13 => ul_bd (q4.1 + ((u9 * u10) * (v11 - v13))) fun v15 => f_X1_sumOfGains_j92 F K p1 v15 q4.2 v4) else (f_X1_sumOfGains_j92 F K p1 q4.1 q4.2 v4)))
def f_X1_sumOfGains (F : ul_S) (K : ul_S) (p1 : Int32) : Option Int32 :=
  (ul_it ul_N (f_X1_sumOfGains_L4 F K p1) ((0 : Int32), (0 : Int32))).bind (fun e4 => f_X1_sumOfGains_j98 F K p1 e4.1 e4.2)
set_option maxHeartbeats 4000000 in
set_option maxRecDepth 100000 in
theorem c_X1_sumOfGains (l : Launch) (dC : Nat → ClassId) (dI : Nat → Nat → Nat) (cI : ClassId) (aF : Nat → Nat) (aN : Nat → Nat) (aT : Nat → Nat) (aK : Nat → Nat) (sz : Nat) (F : ul_S) (N : ul_S) (T : ul_S) (K : ul_S) (p1 : Int32) (r : Int32) (h : f_X1_sumOfGains F K p1 = some r) : Met l yX1_sumOfGains wsX1_sumOfGains ({ frames := 1, cells := 0, slots := 0, locals := 22 }) (va_Pc [.ref (aF 0), .int p1] (ul_pre (dC, dI) [(cI, .int)] ul_NX sz (ul_wG cI aF (aK 0) (aN 0) (aT 0) F ++ ul_wS cI aN (aK 0) N ++ ul_wS cI aT (aK 0) T ++ ul_wK cI aK K))) (va_Qi (fun v (_ : Unit) => v = r) (fun _ => ul_post (dC, dI) [(cI, .int)] (va_A (ul_wG cI aF (aK 0) (aN 0) (aT 0) F ++ ul_wS cI aN (aK 0) N ++ ul_wS cI aT (aK 0) T ++ ul_wK cI aK K) sz) (ul_wG cI aF (aK 0) (aN 0) (aT 0) F ++ ul_wS cI aN (aK 0) N ++ ul_wS cI aT (aK 0) T ++ ul_wK cI aK K)) (va_A (ul_wG cI aF (aK 0) (aN 0) (aT 0) F ++ ul_wS cI aN (aK 0) N ++ ul_wS cI aT (aK 0) T ++ ul_wK cI aK K) sz)) 0 0 (va_A (ul_wG cI aF (aK 0) (aN 0) (aT 0) F ++ ul_wS cI aN (aK 0) N ++ ul_wS cI aT (aK 0) T ++ ul_wK cI aK K) sz) := by
  refine Met.ofW (cc := cX1_sumOfGains) (maxL := 7) (ret := (some .int)) (by decide) rfl ?_
  intro p e s m args below meth c s₁ B hml hv
  obtain ⟨rfl, hsz, hP, hK, hD0, hN⟩ := hv
  have hx := B.exec
  have hb := B.bytes
  have hr := B.returns
  have hts := atoms_spec (ws := wsX1_sumOfGains) B.pre
  have hown : s.vm.findClass RX1 = some m.cls := findClass_of_methodNamed B.named
  have hlocks := B.notSynchronized
  have hin1 : ∀ w ∈ u_ws RX1 TX1 9, w ∈ wsX1_sumOfGains := by decide +kernel
  have hin2 : ∀ w ∈ u_ws RX2 TX2 9, w ∈ wsX1_sumOfGains := by decide +kernel
  subst hsz
  have hD := hD0.self (sz := s.heap.size)
  generalize hAe : va_A (ul_wG cI aF (aK 0) (aN 0) (aT 0) F ++ ul_wS cI aN (aK 0) N ++ ul_wS cI aT (aK 0) T ++ ul_wK cI aK K) s.heap.size = A at hD hN ⊢
  have hA : ∀ q : Nat, s.heap.size ≤ q → A q := fun q h => by rw [← hAe]; exact Or.inr h
  have hS : va_S A s.heap s.heap [] := va_S.rf
  have hl := lv_entry ([.ref (aF 0), .int p1]) (n := 7) (Nat.le_of_ble_eq_true rfl)
  rw [lg_entry_eq]
  generalize (lg_sl ([.ref (aF 0), .int p1]) ++ List.replicate (7 - (lg_sl ([.ref (aF 0), .int p1])).length) Slot.unset).toArray = ls at hl ⊢
  have hl : lv_has ls 7 [(0, .ref (aF 0)), (1, .int p1)] := hl
  obtain ⟨K0, hK0, h⟩ := ul_top h
  unfold f_X1_sumOfGains at h
  refine ul_gen (fun G gi ge => ?_)
  obtain ⟨H, eH⟩ : ∃ z, z = s.heap := ⟨_, rfl⟩
  obtain ⟨locs, eL⟩ : ∃ z : List Loc, z = [] := ⟨_, rfl⟩
  have hP : va_P (dC, dI) classes (ul_wG cI aF (aK 0) (aN 0) (aT 0) F ++ ul_wS cI aN (aK 0) N ++ ul_wS cI aT (aK 0) T ++ ul_wK cI aK K) H := by rw [eH]; exact hP
  have hS : va_S A s.heap H locs := by rw [eH, eL]; exact hS
  rw [← eL]
  refine (show G H locs (F0 m 0 ls []) → G s.heap locs (F0 m 0 ls []) from fun z => by rw [← eH]; exact z) ?_
  have J98 : ∀ (x2 : Int32) (x3 : Int32) (H : Heap) (locs : List Loc), ul_H (dC, dI) A s.heap (ul_wG cI aF (aK 0) (aN 0) (aT 0) F ++ ul_wS cI aN (aK 0) N ++ ul_wS cI aT (aK 0) T ++ ul_wK cI aK K) H locs → ∀ ls : Array Slot, lv_has ls 7 [(0, .ref (aF 0)), (1, .int p1), (2, .int x2), (3, .int x3)] → (f_X1_sumOfGains_j98 F K p1 x2 x3).bind K0 = some r → G H locs (F0 m 98 ls []) := by
    intro x2 x3 H locs hw ls hl h
    obtain ⟨hP, hD, hS⟩ := hw
    unfold f_X1_sumOfGains_j98 at h
    refine gi _ _ _ ?_
    refine lv_iload_n hx hb dX1_sumOfGains_98 rfl (lv_at hl 2 rfl) ?_
    have hr9 := hK0 x2 h
    subst hr9
    exact W.iret (v := x2) hx hb hr (fun t ht hW => ⟨⟨x2, (), rfl, rfl, by rw [ht]; exact hP, va_K.moved hW.alike hK, hD⟩, hS.F ht⟩) hS.2.2 dX1_sumOfGains_99
  refine gi _ _ _ ?_
  refine lv_iconst (v := 0) hx hb dX1_sumOfGains_0 (by decide) ?_
  refine lv_istore_n (lv' := [(2, .int (0 : Int32)), (0, .ref (aF 0)), (1, .int p1)]) hx hb dX1_sumOfGains_1 rfl hl (by decide) rfl (fun ls hl => ?_)
  refine lv_iconst (v := 0) hx hb dX1_sumOfGains_2 (by decide) ?_
  refine lv_istore_n (lv' := [(3, .int (0 : Int32)), (2, .int (0 : Int32)), (0, .ref (aF 0)), (1, .int p1)]) hx hb dX1_sumOfGains_3 rfl hl (by decide) rfl (fun ls hl => ?_)
  refine ge _ _ _ (ul_loop (P := fun q4 => ∀ (H : Heap) (locs : List Loc), ul_H (dC, dI) A s.heap (ul_wG cI aF (aK 0) (aN 0) (aT 0) F ++ ul_wS cI aN (aK 0) N ++ ul_wS cI aT (aK 0) T ++ ul_wK cI aK K) H locs → ∀ ls : Array Slot, lv_has ls 7 [(0, .ref (aF 0)), (1, .int p1), (2, .int q4.1), (3, .int q4.2)] → G H locs (F0 m 4 ls [])) ?_ _ _ (ul_it_h h) H locs ⟨hP, hD, hS⟩ ls (lv_sub hl [2, 3, 1, 0] rfl))
  intro K4 hx4
  intro q4 ih4 h H locs hw ls hl
  have J92 : ∀ (x2 : Int32) (x3 : Int32) (x4 : Int32) (H : Heap) (locs : List Loc), ul_H (dC, dI) A s.heap (ul_wG cI aF (aK 0) (aN 0) (aT 0) F ++ ul_wS cI aN (aK 0) N ++ ul_wS cI aT (aK 0) T ++ ul_wK cI aK K) H locs → ∀ ls : Array Slot, lv_has ls 7 [(0, .ref (aF 0)), (1, .int p1), (2, .int x2), (3, .int x3), (4, .int x4)] → (f_X1_sumOfGains_j92 F K p1 x2 x3 x4).bind K4 = some r → G H locs (F0 m 92 ls []) := by
    intro x2 x3 x4 H locs hw ls hl h
    obtain ⟨hP, hD, hS⟩ := hw
    unfold f_X1_sumOfGains_j92 at h
    refine gi _ _ _ ?_
    obtain ⟨v2, ev2⟩ : ∃ z : Int32, z = x3 + 1 := ⟨_, rfl⟩
    have h := ul_bd_h h v2 ev2
    refine lv_iinc (v := v2) (lv' := [(3, .int v2), (0, .ref (aF 0)), (1, .int p1), (2, .int x2), (4, .int x4)]) hx hb dX1_sumOfGains_92 hl (k := 3) rfl (by rw [ev2]; rfl) (by decide) rfl (fun ls hl => ?_)
    refine lv_goto (tgt := 4) hx hb dX1_sumOfGains_95 (by decide) ?_
    exact ge _ _ _ (ih4 (x2, v2) h H locs ⟨hP, hD, hS⟩ ls (lv_sub hl [1, 2, 3, 0] rfl))
  obtain ⟨hP, hD, hS⟩ := hw
  unfold f_X1_sumOfGains_L4 at h
  refine gi _ _ _ ?_
  refine lv_iload_n hx hb dX1_sumOfGains_4 rfl (lv_at hl 3 rfl) ?_
  refine lv_iconst (v := 1) hx hb dX1_sumOfGains_5 (by decide) ?_
  refine lv_aload_n hx hb dX1_sumOfGains_6 rfl (lv_at hl 0 rfl) ?_
  refine va_get (D := (dC, dI)) (ci := 1) (v := .ref (aK 0)) (C := RX1) (T := TX1) (N := 9) hx hb hts hin1 hown hK hP 0 rfl rfl 0 (by decide) (hts (.fieldLink RX1 9 "UnderLadders$Forecast" "fixed" "LUnderLadders$Market;") (by decide +kernel)) (fun _ h9 => h9) rfl dX1_sumOfGains_7 ?_
  refine va_getN (D := (dC, dI)) (ci := 2) (v := .int (K 0 1)) (C := RX2) (T := TX2) (N := 9) hx hb hts hin2 hown hK hP 19 rfl rfl 8 (by decide) (va_Nw.use rfl (hN.1 (RX1, 109, "UnderLadders$Market", "people", "I") (by decide +kernel))) (fun _ h9 => h9) rfl dX1_sumOfGains_10 ?_
  refine lv_ishl hx hb dX1_sumOfGains_13 ?_
  refine lv_icmp_ge (tgt := 98) hx hb dX1_sumOfGains_14 (by decide) (fun hc16 => ?_) (fun hc16 => ?_)
  · have h := ul_if_t hc16 h
    exact ge _ _ _ (J98 q4.1 q4.2 H locs ⟨hP, hD, hS⟩ ls (lv_sub hl [0, 1, 2, 3] rfl) (hx4 (q4.1, q4.2) h))
  · have h := ul_if_f hc16 h
    refine lv_iload_n hx hb dX1_sumOfGains_17 rfl (lv_at hl 3 rfl) ?_
    refine lv_iconst (v := 1) hx hb dX1_sumOfGains_18 (by decide) ?_
    refine lv_iload_n hx hb dX1_sumOfGains_19 rfl (lv_at hl 1 rfl) ?_
    refine lv_ishl hx hb dX1_sumOfGains_20 ?_
    refine lv_ior hx hb dX1_sumOfGains_21 ?_
    refine lv_topi (fun v17 ev17 => ?_)
    have h := ul_bd_h h v17 ev17
    refine lv_istore (lv' := [(4, .int v17), (0, .ref (aF 0)), (1, .int p1), (2, .int q4.1), (3, .int q4.2)]) hx hb dX1_sumOfGains_22 hl (by decide) rfl (fun ls hl => ?_)
    refine lv_iload hx hb dX1_sumOfGains_24 (lv_at hl 0 rfl) ?_
    refine lv_iload_n hx hb dX1_sumOfGains_26 rfl (lv_at hl 4 rfl) ?_
    refine lv_icmp_eq (tgt := 92) hx hb dX1_sumOfGains_27 (by decide) (fun hc18 => ?_) (fun hc18 => ?_)
    · have h := ul_if_t hc18 h
      exact ge _ _ _ (J92 q4.1 q4.2 v17 H locs ⟨hP, hD, hS⟩ ls (lv_sub hl [1, 2, 3, 4, 0] rfl) h)
    · have h := ul_if_f hc18 h
      refine lv_iload hx hb dX1_sumOfGains_30 (lv_at hl 0 rfl) ?_
      refine lv_aload_n hx hb dX1_sumOfGains_32 rfl (lv_at hl 1 rfl) ?_
      refine va_get (D := (dC, dI)) (ci := 1) (v := .ref (aF 2)) (C := RX1) (T := TX1) (N := 9) hx hb hts hin1 hown hK hP 0 rfl rfl 4 (by decide) (hts (.fieldLink RX1 26 "UnderLadders$Forecast" "worth" "[I") (by decide +kernel)) (fun _ h9 => h9) rfl dX1_sumOfGains_33 ?_
      refine va_alen (v := 32) hx hb hK hP 2 0 rfl rfl rfl dX1_sumOfGains_36 ?_
      refine lv_icmp_lt (tgt := 43) hx hb dX1_sumOfGains_37 (by decide) (fun hc19 => ?_) (fun hc19 => ?_)
      · have h := ul_if_t hc19 h
        refine lv_iload_n hx hb dX1_sumOfGains_43 rfl (lv_at hl 4 rfl) ?_
        obtain ⟨u20, hu20, h⟩ := ul_cl_h h
        refine ul_cSi (As := [.int q4.2]) (rest := []) hP hD hS hK hA (c_J6_bitCount_0f7a4 l dC dI H.size q4.2 u20 hu20) ⟨hx, hb, hml, hown, hts⟩ (va_cwS 1 hts gX1_sumOfGains_J6_bitCount_0f7a4 rfl rfl rfl (by decide +kernel) ⟨Nat.le_of_ble_eq_true rfl, Nat.le_of_ble_eq_true rfl⟩) rfl hl.1 rfl (Nat.le_of_ble_eq_true rfl) dX1_sumOfGains_44 (fun H locs hw => ?_)
        obtain ⟨hP, hD, hS⟩ := hw
        refine lv_istore (lv' := [(5, .int u20), (4, .int v17), (0, .ref (aF 0)), (1, .int p1), (2, .int q4.1), (3, .int q4.2)]) hx hb dX1_sumOfGains_47 hl (by decide) rfl (fun ls hl => ?_)
        refine lv_aload_n hx hb dX1_sumOfGains_49 rfl (lv_at hl 2 rfl) ?_
        refine va_get (D := (dC, dI)) (ci := 1) (v := .ref (aK 0)) (C := RX1) (T := TX1) (N := 9) hx hb hts hin1 hown hK hP 0 rfl rfl 0 (by decide) (hts (.fieldLink RX1 9 "UnderLadders$Forecast" "fixed" "LUnderLadders$Market;") (by decide +kernel)) (fun _ h9 => h9) rfl dX1_sumOfGains_50 ?_
        refine va_getN (D := (dC, dI)) (ci := 2) (v := .int (K 0 1)) (C := RX2) (T := TX2) (N := 9) hx hb hts hin2 hown hK hP 19 rfl rfl 8 (by decide) (va_Nw.use rfl (hN.1 (RX1, 109, "UnderLadders$Market", "people", "I") (by decide +kernel))) (fun _ h9 => h9) rfl dX1_sumOfGains_53 ?_
        refine lv_iconst (v := 1) hx hb dX1_sumOfGains_56 (by decide) ?_
        refine lv_isub hx hb dX1_sumOfGains_57 ?_
        refine lv_iload hx hb dX1_sumOfGains_58 (lv_at hl 0 rfl) ?_
        refine lv_isub hx hb dX1_sumOfGains_60 ?_
        refine lv_topi (fun v21 ev21 => ?_)
        have h := ul_bd_h h v21 ev21
        refine lv_istore (lv' := [(6, .int v21), (5, .int u20), (4, .int v17), (0, .ref (aF 0)), (1, .int p1), (2, .int q4.1), (3, .int q4.2)]) hx hb dX1_sumOfGains_61 hl (by decide) rfl (fun ls hl => ?_)
        refine lv_iload_n hx hb dX1_sumOfGains_63 rfl (lv_at hl 5 rfl) ?_
        refine lv_iload hx hb dX1_sumOfGains_64 (lv_at hl 1 rfl) ?_
        obtain ⟨u22, hu22, h⟩ := ul_cl_h h
        refine ul_cNi (As := [.int u20]) (rest := [.int q4.1]) hP hD hS hK hA (c_X6_ordersOf l dC dI H.size u20 u22 hu22) ⟨hx, hb, hml, hown, hts⟩ ⟨va_cnB (host := "UnderLadders") 1 hts gX1_sumOfGains_X6_ordersOf_n112 rfl rfl rfl (hN.2.1 (RX1, 112, yX6_ordersOf) (by decide +kernel)) (hts (.initialized RX6) (by decide +kernel)) (by decide +kernel) ⟨Nat.le_of_ble_eq_true rfl, Nat.le_of_ble_eq_true rfl⟩, hts (.static yX6_ordersOf) (by decide +kernel), trivial⟩ rfl hl.1 rfl (Nat.le_of_ble_eq_true rfl) dX1_sumOfGains_66 (fun H locs hw => ?_)
        obtain ⟨hP, hD, hS⟩ := hw
        refine lv_iload hx hb dX1_sumOfGains_69 (lv_at hl 0 rfl) ?_
        obtain ⟨u23, hu23, h⟩ := ul_cl_h h
        refine ul_cNi (As := [.int v21]) (rest := [.int u22, .int q4.1]) hP hD hS hK hA (c_X6_ordersOf l dC dI H.size v21 u23 hu23) ⟨hx, hb, hml, hown, hts⟩ ⟨va_cnB (host := "UnderLadders") 1 hts gX1_sumOfGains_X6_ordersOf_n112 rfl rfl rfl (hN.2.1 (RX1, 112, yX6_ordersOf) (by decide +kernel)) (hts (.initialized RX6) (by decide +kernel)) (by decide +kernel) ⟨Nat.le_of_ble_eq_true rfl, Nat.le_of_ble_eq_true rfl⟩, hts (.static yX6_ordersOf) (by decide +kernel), trivial⟩ rfl hl.1 rfl (Nat.le_of_ble_eq_true rfl) dX1_sumOfGains_71 (fun H locs hw => ?_)
        obtain ⟨hP, hD, hS⟩ := hw
        refine lv_imul hx hb dX1_sumOfGains_74 ?_
        refine lv_aload_n hx hb dX1_sumOfGains_75 rfl (lv_at hl 3 rfl) ?_
        refine va_get (D := (dC, dI)) (ci := 1) (v := .ref (aF 2)) (C := RX1) (T := TX1) (N := 9) hx hb hts hin1 hown hK hP 0 rfl rfl 4 (by decide) (hts (.fieldLink RX1 26 "UnderLadders$Forecast" "worth" "[I") (by decide +kernel)) (fun _ h9 => h9) rfl dX1_sumOfGains_76 ?_
        refine lv_iload hx hb dX1_sumOfGains_79 (lv_at hl 2 rfl) ?_
        obtain ⟨hi25, h⟩ := ul_ld_h h
        refine va_iald hx hb hK hP 2 0 rfl rfl hi25 dX1_sumOfGains_81 ?_
        refine lv_topi (fun v24 ev24 => ?_)
        have h := h v24 ev24
        refine lv_aload_n hx hb dX1_sumOfGains_82 rfl (lv_at hl 3 rfl) ?_
        refine va_get (D := (dC, dI)) (ci := 1) (v := .ref (aF 2)) (C := RX1) (T := TX1) (N := 9) hx hb hts hin1 hown hK hP 0 rfl rfl 4 (by decide) (hts (.fieldLink RX1 26 "UnderLadders$Forecast" "worth" "[I") (by decide +kernel)) (fun _ h9 => h9) rfl dX1_sumOfGains_83 ?_
        refine lv_iload_n hx hb dX1_sumOfGains_86 rfl (lv_at hl 6 rfl) ?_
        obtain ⟨hi27, h⟩ := ul_ld_h h
        refine va_iald hx hb hK hP 2 0 rfl rfl hi27 dX1_sumOfGains_87 ?_
        refine lv_topi (fun v26 ev26 => ?_)
        have h := h v26 ev26
        refine lv_isub hx hb dX1_sumOfGains_88 ?_
        refine lv_imul hx hb dX1_sumOfGains_89 ?_
        refine lv_iadd hx hb dX1_sumOfGains_90 ?_
        refine lv_topi (fun v28 ev28 => ?_)
        have h := ul_bd_h h v28 ev28
        refine lv_istore_n (lv' := [(2, .int v28), (6, .int v21), (5, .int u20), (4, .int v17), (0, .ref (aF 0)), (1, .int p1), (3, .int q4.2)]) hx hb dX1_sumOfGains_91 rfl hl (by decide) rfl (fun ls hl => ?_)
        exact ge _ _ _ (J92 v28 q4.2 v17 H locs ⟨hP, hD, hS⟩ ls (lv_sub hl [4, 5, 0, 6, 3] rfl) h)
      · have h := ul_if_f hc19 h
        refine lv_goto (tgt := 92) hx hb dX1_sumOfGains_40 (by decide) ?_
        exact ge _ _ _ (J92 q4.1 q4.2 v17 H locs ⟨hP, hD, hS⟩ ls (lv_sub hl [1, 2, 3, 4, 0] rfl) h)
def f_X1_weighPairs_j147 (N : ul_S) (K : ul_S) (p1 : Int32) (p2 : Int32) (x3 : Int32) (F__147 : ul_S) (T__147 : ul_S) : Option (ul_S × ul_S) :=
  some (F__147, T__147)
def f_X1_weighPairs_j141 (N : ul_S) (K : ul_S) (p1 : Int32) (p2 : Int32) (x3 : Int32) (x4 : Int32) (x5 : Int32) (F__141 : ul_S) (T__141 : ul_S) : Option ((Int32 × ul_S × ul_S) ⊕ (Int32 × ul_S × ul_S)) :=
  ul_bd (x3 + 1) fun v1 => some (.inr (v1, F__141, T__141))
def f_X1_weighPairs_L2 (N : ul_S) (K : ul_S) (p1 : Int32) (p2 : Int32) (q2 : (Int32 × ul_S × ul_S)) : Option ((Int32 × ul_S × ul_S) ⊕ (Int32 × ul_S × ul_S)) :=
  if (100 : Int32) ≤ q2.1 then (some (.inl (q2.1, q2.2.1, q2.2.2))) else (ul_bd (q2.1 / (10 : Int32)) fun v4 => ul_bd (q2.1 - q2.1 / (10 : Int32) * (10 : Int32)) fun v5 => ul_st q2.2.1 3 100 q2.1 (-9 : Int32) fun F6 => ul_st F6 4 100 q2.1 (-9 : Int32) fun F8 => if v4 = v5 then (f_X1_weighPairs_j141 N K p1 p2 q2.1 v4 v5 F8 q2.2.2) else ((f_X4_isOwnOrFree N p1 v4).bind fun u11 => if u11 = 0 then (f_X1_weighPairs_j141 N K p1 p2 q2.1 v4 v5 F8 q2.2.2) else ((f_X4_isOwnOrFree N p2 v5).bind fun u13 => if u13 = 0 then (f_X1_weighPairs_j141 N K p1 p2 q2.1 v4 v5 F8 q2.2.2) else ((f_X4_setTo q2.2.2 N).bind fun u15 => (f_X4_put u15 p1 v4).bind fun u16 => (f_X4_put u16 p2 v5).bind fun u17 => (f_X4_passDays u17 K (6 : Int32) (31 : Int32)).bind fun u18 => ul_ld (u18 4) 4 p1 fun v19 => ul_st F8 3 100 q2.1 v19 fun F21 => ul_ld (u18 4) 4 p2 fun v23 => ul_st F21 4 100 q2.1 v23 fun F25 => f_X1_weighPairs_j141 N K p1 p2 q2.1 v4 v5 F25 u18))))
def f_X1_weighPairs (F : ul_S) (N : ul_S) (T : ul_S) (K : ul_S) (p1 : Int32) (p2 : Int32) : Option (ul_S × ul_S) :=
  (ul_it ul_N (f_X1_weighPairs_L2 N K p1 p2) ((0 : Int32), F, T)).bind (fun e2 => f_X1_weighPairs_j147 N K p1 p2 e2.1 e2.2.1 e2.2.2)
set_option maxHeartbeats 4000000 in
set_option maxRecDepth 100000 in
theorem c_X1_weighPairs (l : Launch) (dC : Nat → ClassId) (dI : Nat → Nat → Nat) (cI : ClassId) (aF : Nat → Nat) (aN : Nat → Nat) (aT : Nat → Nat) (aK : Nat → Nat) (sz : Nat) (F : ul_S) (N : ul_S) (T : ul_S) (K : ul_S) (p1 : Int32) (p2 : Int32) (r : (ul_S × ul_S)) (h : f_X1_weighPairs F N T K p1 p2 = some r) : Met l yX1_weighPairs wsX1_weighPairs ({ frames := 5, cells := 0, slots := 0, locals := 132 }) (va_Pc [.ref (aF 0), .int p1, .int p2] (ul_pre (dC, dI) [(cI, .int)] ul_NX sz (ul_wG cI aF (aK 0) (aN 0) (aT 0) F ++ ul_wS cI aN (aK 0) N ++ ul_wS cI aT (aK 0) T ++ ul_wK cI aK K))) (va_Qv (fun (_ : Unit) => True) (fun _ => ul_post (dC, dI) [(cI, .int)] (va_A (ul_wG cI aF (aK 0) (aN 0) (aT 0) F ++ ul_wS cI aN (aK 0) N ++ ul_wS cI aT (aK 0) T ++ ul_wK cI aK K) sz) (ul_wG cI aF (aK 0) (aN 0) (aT 0) r.1 ++ ul_wS cI aN (aK 0) N ++ ul_wS cI aT (aK 0) r.2 ++ ul_wK cI aK K)) (va_A (ul_wG cI aF (aK 0) (aN 0) (aT 0) F ++ ul_wS cI aN (aK 0) N ++ ul_wS cI aT (aK 0) T ++ ul_wK cI aK K) sz)) 0 0 (va_A (ul_wG cI aF (aK 0) (aN 0) (aT 0) F ++ ul_wS cI aN (aK 0) N ++ ul_wS cI aT (aK 0) T ++ ul_wK cI aK K) sz) := by
  refine Met.ofW (cc := cX1_weighPairs) (maxL := 6) (ret := none) (by decide) rfl ?_
  intro p e s m args below meth c s₁ B hml hv
  obtain ⟨rfl, hsz, hP, hK, hD0, hN⟩ := hv
  have hx := B.exec
  have hb := B.bytes
  have hr := B.returns
  have hts := atoms_spec (ws := wsX1_weighPairs) B.pre
  have hown : s.vm.findClass RX1 = some m.cls := findClass_of_methodNamed B.named
  have hlocks := B.notSynchronized
  have hin1 : ∀ w ∈ u_ws RX1 TX1 9, w ∈ wsX1_weighPairs := by decide +kernel
  have hin4 : ∀ w ∈ u_ws RX4 TX4 8, w ∈ wsX1_weighPairs := by decide +kernel
  subst hsz
  have hD := hD0.self (sz := s.heap.size)
  generalize hAe : va_A (ul_wG cI aF (aK 0) (aN 0) (aT 0) F ++ ul_wS cI aN (aK 0) N ++ ul_wS cI aT (aK 0) T ++ ul_wK cI aK K) s.heap.size = A at hD hN ⊢
  have hA : ∀ q : Nat, s.heap.size ≤ q → A q := fun q h => by rw [← hAe]; exact Or.inr h
  have hS : va_S A s.heap s.heap [] := va_S.rf
  have hl := lv_entry ([.ref (aF 0), .int p1, .int p2]) (n := 6) (Nat.le_of_ble_eq_true rfl)
  rw [lg_entry_eq]
  generalize (lg_sl ([.ref (aF 0), .int p1, .int p2]) ++ List.replicate (6 - (lg_sl ([.ref (aF 0), .int p1, .int p2])).length) Slot.unset).toArray = ls at hl ⊢
  have hl : lv_has ls 6 [(0, .ref (aF 0)), (1, .int p1), (2, .int p2)] := hl
  obtain ⟨K0, hK0, h⟩ := ul_top h
  unfold f_X1_weighPairs at h
  refine ul_gen (fun G gi ge => ?_)
  obtain ⟨H, eH⟩ : ∃ z, z = s.heap := ⟨_, rfl⟩
  obtain ⟨locs, eL⟩ : ∃ z : List Loc, z = [] := ⟨_, rfl⟩
  have hP : va_P (dC, dI) classes (ul_wG cI aF (aK 0) (aN 0) (aT 0) F ++ ul_wS cI aN (aK 0) N ++ ul_wS cI aT (aK 0) T ++ ul_wK cI aK K) H := by rw [eH]; exact hP
  have hS : va_S A s.heap H locs := by rw [eH, eL]; exact hS
  rw [← eL]
  refine (show G H locs (F0 m 0 ls []) → G s.heap locs (F0 m 0 ls []) from fun z => by rw [← eH]; exact z) ?_
  have J147 : ∀ (x3 : Int32) (F__147 : ul_S) (T__147 : ul_S) (H : Heap) (locs : List Loc), ul_H (dC, dI) A s.heap (ul_wG cI aF (aK 0) (aN 0) (aT 0) F__147 ++ ul_wS cI aN (aK 0) N ++ ul_wS cI aT (aK 0) T__147 ++ ul_wK cI aK K) H locs → ∀ ls : Array Slot, lv_has ls 6 [(0, .ref (aF 0)), (1, .int p1), (2, .int p2), (3, .int x3)] → (f_X1_weighPairs_j147 N K p1 p2 x3 F__147 T__147).bind K0 = some r → G H locs (F0 m 147 ls []) := by
    intro x3 F__147 T__147 H locs hw ls hl h
    obtain ⟨hP, hD, hS⟩ := hw
    unfold f_X1_weighPairs_j147 at h
    refine gi _ _ _ ?_
    have hr9 := hK0 (F__147, T__147) h
    subst hr9
    exact W.vret hx hb hr (fun t ht hW => ⟨⟨(), rfl, trivial, by rw [ht]; exact hP, va_K.moved hW.alike hK, hD⟩, hS.F ht⟩) hS.2.2 dX1_weighPairs_147
  refine gi _ _ _ ?_
  refine lv_iconst (v := 0) hx hb dX1_weighPairs_0 (by decide) ?_
  refine lv_istore_n (lv' := [(3, .int (0 : Int32)), (0, .ref (aF 0)), (1, .int p1), (2, .int p2)]) hx hb dX1_weighPairs_1 rfl hl (by decide) rfl (fun ls hl => ?_)
  refine ge _ _ _ (ul_loop (P := fun q2 => ∀ (H : Heap) (locs : List Loc), ul_H (dC, dI) A s.heap (ul_wG cI aF (aK 0) (aN 0) (aT 0) q2.2.1 ++ ul_wS cI aN (aK 0) N ++ ul_wS cI aT (aK 0) q2.2.2 ++ ul_wK cI aK K) H locs → ∀ ls : Array Slot, lv_has ls 6 [(0, .ref (aF 0)), (1, .int p1), (2, .int p2), (3, .int q2.1)] → G H locs (F0 m 2 ls [])) ?_ _ _ (ul_it_h h) H locs ⟨hP, hD, hS⟩ ls (lv_sub hl [1, 2, 3, 0] rfl))
  intro K2 hx2
  intro q2 ih2 h H locs hw ls hl
  have J141 : ∀ (x3 : Int32) (x4 : Int32) (x5 : Int32) (F__141 : ul_S) (T__141 : ul_S) (H : Heap) (locs : List Loc), ul_H (dC, dI) A s.heap (ul_wG cI aF (aK 0) (aN 0) (aT 0) F__141 ++ ul_wS cI aN (aK 0) N ++ ul_wS cI aT (aK 0) T__141 ++ ul_wK cI aK K) H locs → ∀ ls : Array Slot, lv_has ls 6 [(0, .ref (aF 0)), (1, .int p1), (2, .int p2), (3, .int x3), (4, .int x4), (5, .int x5)] → (f_X1_weighPairs_j141 N K p1 p2 x3 x4 x5 F__141 T__141).bind K2 = some r → G H locs (F0 m 141 ls []) := by
    intro x3 x4 x5 F__141 T__141 H locs hw ls hl h
    obtain ⟨hP, hD, hS⟩ := hw
    unfold f_X1_weighPairs_j141 at h
    refine gi _ _ _ ?_
    obtain ⟨v2, ev2⟩ : ∃ z : Int32, z = x3 + 1 := ⟨_, rfl⟩
    have h := ul_bd_h h v2 ev2
    refine lv_iinc (v := v2) (lv' := [(3, .int v2), (0, .ref (aF 0)), (1, .int p1), (2, .int p2), (4, .int x4), (5, .int x5)]) hx hb dX1_weighPairs_141 hl (k := 3) rfl (by rw [ev2]; rfl) (by decide) rfl (fun ls hl => ?_)
    refine lv_goto (tgt := 2) hx hb dX1_weighPairs_144 (by decide) ?_
    exact ge _ _ _ (ih2 (v2, F__141, T__141) h H locs ⟨hP, hD, hS⟩ ls (lv_sub hl [1, 2, 3, 0] rfl))
  obtain ⟨hP, hD, hS⟩ := hw
  unfold f_X1_weighPairs_L2 at h
  refine gi _ _ _ ?_
  refine lv_iload_n hx hb dX1_weighPairs_2 rfl (lv_at hl 3 rfl) ?_
  refine lv_bipush (v := 100) hx hb dX1_weighPairs_3 (by decide) ?_
  refine lv_icmp_ge (tgt := 147) hx hb dX1_weighPairs_5 (by decide) (fun hc27 => ?_) (fun hc27 => ?_)
  · have h := ul_if_t hc27 h
    exact ge _ _ _ (J147 q2.1 q2.2.1 q2.2.2 H locs ⟨hP, hD, hS⟩ ls (lv_sub hl [0, 1, 2, 3] rfl) (hx2 (q2.1, q2.2.1, q2.2.2) h))
  · have h := ul_if_f hc27 h
    refine lv_iload_n hx hb dX1_weighPairs_8 rfl (lv_at hl 3 rfl) ?_
    refine lv_bipush (v := 10) hx hb dX1_weighPairs_9 (by decide) ?_
    refine lv_idiv hx hb dX1_weighPairs_11 (by decide) ?_
    refine lv_topi (fun v28 ev28 => ?_)
    have h := ul_bd_h h v28 ev28
    refine lv_istore (lv' := [(4, .int v28), (0, .ref (aF 0)), (1, .int p1), (2, .int p2), (3, .int q2.1)]) hx hb dX1_weighPairs_12 hl (by decide) rfl (fun ls hl => ?_)
    refine lv_iload_n hx hb dX1_weighPairs_14 rfl (lv_at hl 4 rfl) ?_
    refine lv_bipush (v := 10) hx hb dX1_weighPairs_15 (by decide) ?_
    refine lv_irem hx hb dX1_weighPairs_17 (by decide) ?_
    refine lv_topi (fun v29 ev29 => ?_)
    have h := ul_bd_h h v29 ev29
    refine lv_istore (lv' := [(5, .int v29), (4, .int v28), (0, .ref (aF 0)), (1, .int p1), (2, .int p2), (3, .int q2.1)]) hx hb dX1_weighPairs_18 hl (by decide) rfl (fun ls hl => ?_)
    refine lv_aload_n hx hb dX1_weighPairs_20 rfl (lv_at hl 2 rfl) ?_
    refine va_get (D := (dC, dI)) (ci := 1) (v := .ref (aF 3)) (C := RX1) (T := TX1) (N := 9) hx hb hts hin1 hown hK hP 0 rfl rfl 5 (by decide) (hts (.fieldLink RX1 29 "UnderLadders$Forecast" "oneGold" "[I") (by decide +kernel)) (fun _ h9 => h9) rfl dX1_weighPairs_21 ?_
    refine lv_iload_n hx hb dX1_weighPairs_24 rfl (lv_at hl 5 rfl) ?_
    refine lv_bipush (v := -9) hx hb dX1_weighPairs_25 (by decide) ?_
    obtain ⟨hi31, h⟩ := ul_st_h h
    refine va_iast hx hb hK hP hD hS 3 0 rfl rfl hi31 dX1_weighPairs_27 (fun H locs hP hD hS => ?_)
    obtain ⟨F30, eF30⟩ : ∃ z : ul_S, z = ul_up q2.2.1 3 q2.1.toNatClampNeg (-9 : Int32) := ⟨_, rfl⟩
    have h := h F30 eF30
    have hP : va_P (dC, dI) classes (ul_wG cI aF (aK 0) (aN 0) (aT 0) F30 ++ ul_wS cI aN (aK 0) N ++ ul_wS cI aT (aK 0) q2.2.2 ++ ul_wK cI aK K) H := by rw [eF30]; exact hP
    have hD : va_D A (ul_wG cI aF (aK 0) (aN 0) (aT 0) F30 ++ ul_wS cI aN (aK 0) N ++ ul_wS cI aT (aK 0) q2.2.2 ++ ul_wK cI aK K) := by rw [eF30]; exact hD
    refine lv_aload_n hx hb dX1_weighPairs_28 rfl (lv_at hl 2 rfl) ?_
    refine va_get (D := (dC, dI)) (ci := 1) (v := .ref (aF 4)) (C := RX1) (T := TX1) (N := 9) hx hb hts hin1 hown hK hP 0 rfl rfl 6 (by decide) (hts (.fieldLink RX1 32 "UnderLadders$Forecast" "otherGold" "[I") (by decide +kernel)) (fun _ h9 => h9) rfl dX1_weighPairs_29 ?_
    refine lv_iload_n hx hb dX1_weighPairs_32 rfl (lv_at hl 5 rfl) ?_
    refine lv_bipush (v := -9) hx hb dX1_weighPairs_33 (by decide) ?_
    obtain ⟨hi33, h⟩ := ul_st_h h
    refine va_iast hx hb hK hP hD hS 4 0 rfl rfl hi33 dX1_weighPairs_35 (fun H locs hP hD hS => ?_)
    obtain ⟨F32, eF32⟩ : ∃ z : ul_S, z = ul_up F30 4 q2.1.toNatClampNeg (-9 : Int32) := ⟨_, rfl⟩
    have h := h F32 eF32
    have hP : va_P (dC, dI) classes (ul_wG cI aF (aK 0) (aN 0) (aT 0) F32 ++ ul_wS cI aN (aK 0) N ++ ul_wS cI aT (aK 0) q2.2.2 ++ ul_wK cI aK K) H := by rw [eF32]; exact hP
    have hD : va_D A (ul_wG cI aF (aK 0) (aN 0) (aT 0) F32 ++ ul_wS cI aN (aK 0) N ++ ul_wS cI aT (aK 0) q2.2.2 ++ ul_wK cI aK K) := by rw [eF32]; exact hD
    refine lv_iload hx hb dX1_weighPairs_36 (lv_at hl 1 rfl) ?_
    refine lv_iload hx hb dX1_weighPairs_38 (lv_at hl 0 rfl) ?_
    refine lv_icmp_eq (tgt := 141) hx hb dX1_weighPairs_40 (by decide) (fun hc34 => ?_) (fun hc34 => ?_)
    · have h := ul_if_t hc34 h
      exact ge _ _ _ (J141 q2.1 v28 v29 F32 q2.2.2 H locs ⟨hP, hD, hS⟩ ls (lv_sub hl [2, 3, 4, 5, 1, 0] rfl) h)
    · have h := ul_if_f hc34 h
      refine lv_aload_n hx hb dX1_weighPairs_43 rfl (lv_at hl 2 rfl) ?_
      refine va_get (D := (dC, dI)) (ci := 1) (v := .ref (aN 0)) (C := RX1) (T := TX1) (N := 9) hx hb hts hin1 hown hK hP 0 rfl rfl 1 (by decide) (hts (.fieldLink RX1 15 "UnderLadders$Forecast" "now" "LUnderLadders$Street;") (by decide +kernel)) (fun _ h9 => h9) rfl dX1_weighPairs_44 ?_
      refine lv_iload_n hx hb dX1_weighPairs_47 rfl (lv_at hl 3 rfl) ?_
      refine lv_iload hx hb dX1_weighPairs_48 (lv_at hl 1 rfl) ?_
      obtain ⟨u35, hu35, h⟩ := ul_cl_h h
      refine ul_cVi (As := [.int p1, .int v28]) (rest := []) (wc' := (ul_wS cI aN (aK 0) N ++ ul_wK cI aK K)) (wr := (ul_wG cI aF (aK 0) (aN 0) (aT 0) F32 ++ ul_wS cI aT (aK 0) q2.2.2)) hP hD hS hK hA [5, 6, 7, 8, 9, 10, 11, 19, 20, 21, 22, 23, 24, 25, 26] [0, 1, 2, 3, 4, 12, 13, 14, 15, 16, 17, 18] [0] ul_NX_ok hN (c_X4_isOwnOrFree l dC dI cI aN aK H.size N K p1 v28 u35 hu35) rfl rfl (by decide) rfl (by decide) (by decide) rfl ⟨hx, hb, hml, hown, hts⟩ (cwV 2 hts gX1_weighPairs_X4_isOwnOrFree rfl rfl rfl (by decide +kernel) ⟨Nat.le_of_ble_eq_true rfl, Nat.le_of_ble_eq_true rfl⟩) (va_recv hK hP (ci := 4) (q0 := 5) rfl rfl) rfl hl.1 rfl (Nat.le_of_ble_eq_true rfl) dX1_weighPairs_50 (fun H locs hw => ?_)
      have hw := hw.re (w' := (ul_wG cI aF (aK 0) (aN 0) (aT 0) F32 ++ ul_wS cI aN (aK 0) N ++ ul_wS cI aT (aK 0) q2.2.2 ++ ul_wK cI aK K)) [0, 1, 2, 3, 4, 12, 13, 14, 15, 16, 17, 18, 5, 6, 7, 8, 9, 10, 11, 19, 20, 21, 22, 23, 24, 25, 26] (by decide) rfl rfl
      obtain ⟨hP, hD, hS⟩ := hw
      refine lv_if_eq (tgt := 141) hx hb dX1_weighPairs_53 (by decide) (fun hc36 => ?_) (fun hc36 => ?_)
      · have h := ul_if_t hc36 h
        exact ge _ _ _ (J141 q2.1 v28 v29 F32 q2.2.2 H locs ⟨hP, hD, hS⟩ ls (lv_sub hl [2, 3, 4, 5, 1, 0] rfl) h)
      · have h := ul_if_f hc36 h
        refine lv_aload_n hx hb dX1_weighPairs_56 rfl (lv_at hl 2 rfl) ?_
        refine va_get (D := (dC, dI)) (ci := 1) (v := .ref (aN 0)) (C := RX1) (T := TX1) (N := 9) hx hb hts hin1 hown hK hP 0 rfl rfl 1 (by decide) (hts (.fieldLink RX1 15 "UnderLadders$Forecast" "now" "LUnderLadders$Street;") (by decide +kernel)) (fun _ h9 => h9) rfl dX1_weighPairs_57 ?_
        refine lv_iload_n hx hb dX1_weighPairs_60 rfl (lv_at hl 4 rfl) ?_
        refine lv_iload hx hb dX1_weighPairs_61 (lv_at hl 0 rfl) ?_
        obtain ⟨u37, hu37, h⟩ := ul_cl_h h
        refine ul_cVi (As := [.int p2, .int v29]) (rest := []) (wc' := (ul_wS cI aN (aK 0) N ++ ul_wK cI aK K)) (wr := (ul_wG cI aF (aK 0) (aN 0) (aT 0) F32 ++ ul_wS cI aT (aK 0) q2.2.2)) hP hD hS hK hA [5, 6, 7, 8, 9, 10, 11, 19, 20, 21, 22, 23, 24, 25, 26] [0, 1, 2, 3, 4, 12, 13, 14, 15, 16, 17, 18] [0] ul_NX_ok hN (c_X4_isOwnOrFree l dC dI cI aN aK H.size N K p2 v29 u37 hu37) rfl rfl (by decide) rfl (by decide) (by decide) rfl ⟨hx, hb, hml, hown, hts⟩ (cwV 2 hts gX1_weighPairs_X4_isOwnOrFree rfl rfl rfl (by decide +kernel) ⟨Nat.le_of_ble_eq_true rfl, Nat.le_of_ble_eq_true rfl⟩) (va_recv hK hP (ci := 4) (q0 := 5) rfl rfl) rfl hl.1 rfl (Nat.le_of_ble_eq_true rfl) dX1_weighPairs_63 (fun H locs hw => ?_)
        have hw := hw.re (w' := (ul_wG cI aF (aK 0) (aN 0) (aT 0) F32 ++ ul_wS cI aN (aK 0) N ++ ul_wS cI aT (aK 0) q2.2.2 ++ ul_wK cI aK K)) [0, 1, 2, 3, 4, 12, 13, 14, 15, 16, 17, 18, 5, 6, 7, 8, 9, 10, 11, 19, 20, 21, 22, 23, 24, 25, 26] (by decide) rfl rfl
        obtain ⟨hP, hD, hS⟩ := hw
        refine lv_if_eq (tgt := 141) hx hb dX1_weighPairs_66 (by decide) (fun hc38 => ?_) (fun hc38 => ?_)
        · have h := ul_if_t hc38 h
          exact ge _ _ _ (J141 q2.1 v28 v29 F32 q2.2.2 H locs ⟨hP, hD, hS⟩ ls (lv_sub hl [2, 3, 4, 5, 1, 0] rfl) h)
        · have h := ul_if_f hc38 h
          refine lv_aload_n hx hb dX1_weighPairs_69 rfl (lv_at hl 2 rfl) ?_
          refine va_get (D := (dC, dI)) (ci := 1) (v := .ref (aT 0)) (C := RX1) (T := TX1) (N := 9) hx hb hts hin1 hown hK hP 0 rfl rfl 2 (by decide) (hts (.fieldLink RX1 19 "UnderLadders$Forecast" "trial" "LUnderLadders$Street;") (by decide +kernel)) (fun _ h9 => h9) rfl dX1_weighPairs_70 ?_
          refine lv_aload_n hx hb dX1_weighPairs_73 rfl (lv_at hl 2 rfl) ?_
          refine va_get (D := (dC, dI)) (ci := 1) (v := .ref (aN 0)) (C := RX1) (T := TX1) (N := 9) hx hb hts hin1 hown hK hP 0 rfl rfl 1 (by decide) (hts (.fieldLink RX1 15 "UnderLadders$Forecast" "now" "LUnderLadders$Street;") (by decide +kernel)) (fun _ h9 => h9) rfl dX1_weighPairs_74 ?_
          obtain ⟨u39, hu39, h⟩ := ul_cl_h h
          refine ul_cVv (As := [.ref (aN 0)]) (rest := []) (wc' := (ul_wS cI aT (aK 0) u39 ++ ul_wS cI aN (aK 0) N)) (wr := (ul_wG cI aF (aK 0) (aN 0) (aT 0) F32 ++ ul_wK cI aK K)) hP hD hS hK hA [12, 13, 14, 15, 16, 17, 18, 5, 6, 7, 8, 9, 10, 11] [0, 1, 2, 3, 4, 19, 20, 21, 22, 23, 24, 25, 26] [0] ul_NX_ok hN (c_X4_setTo l dC dI cI aT aN aK H.size q2.2.2 N u39 hu39) rfl rfl (by decide) rfl (by decide) (by decide) rfl ⟨hx, hb, hml, hown, hts⟩ (cwV 1 hts gX1_weighPairs_X4_setTo rfl rfl rfl (by decide +kernel) ⟨Nat.le_of_ble_eq_true rfl, Nat.le_of_ble_eq_true rfl⟩) (va_recv hK hP (ci := 4) (q0 := 12) rfl rfl) rfl hl.1 rfl (Nat.le_of_ble_eq_true rfl) dX1_weighPairs_77 (fun H locs hw => ?_)
          have hw := hw.re (w' := (ul_wG cI aF (aK 0) (aN 0) (aT 0) F32 ++ ul_wS cI aN (aK 0) N ++ ul_wS cI aT (aK 0) u39 ++ ul_wK cI aK K)) [0, 1, 2, 3, 4, 20, 21, 22, 23, 24, 25, 26, 13, 14, 15, 16, 17, 18, 19, 5, 6, 7, 8, 9, 10, 11, 12] (by decide) rfl rfl
          obtain ⟨hP, hD, hS⟩ := hw
          refine lv_aload_n hx hb dX1_weighPairs_80 rfl (lv_at hl 2 rfl) ?_
          refine va_get (D := (dC, dI)) (ci := 1) (v := .ref (aT 0)) (C := RX1) (T := TX1) (N := 9) hx hb hts hin1 hown hK hP 0 rfl rfl 2 (by decide) (hts (.fieldLink RX1 19 "UnderLadders$Forecast" "trial" "LUnderLadders$Street;") (by decide +kernel)) (fun _ h9 => h9) rfl dX1_weighPairs_81 ?_
          refine lv_iload_n hx hb dX1_weighPairs_84 rfl (lv_at hl 3 rfl) ?_
          refine lv_iload hx hb dX1_weighPairs_85 (lv_at hl 1 rfl) ?_
          obtain ⟨u40, hu40, h⟩ := ul_cl_h h
          refine ul_cVv (As := [.int p1, .int v28]) (rest := []) (wc' := (ul_wS cI aT (aK 0) u40 ++ ul_wK cI aK K)) (wr := (ul_wG cI aF (aK 0) (aN 0) (aT 0) F32 ++ ul_wS cI aN (aK 0) N)) hP hD hS hK hA [12, 13, 14, 15, 16, 17, 18, 19, 20, 21, 22, 23, 24, 25, 26] [0, 1, 2, 3, 4, 5, 6, 7, 8, 9, 10, 11] [0] ul_NX_ok hN (c_X4_put l dC dI cI aT aK H.size u39 K p1 v28 u40 hu40) rfl rfl (by decide) rfl (by decide) (by decide) rfl ⟨hx, hb, hml, hown, hts⟩ (cwV 2 hts gX1_weighPairs_X4_put rfl rfl rfl (by decide +kernel) ⟨Nat.le_of_ble_eq_true rfl, Nat.le_of_ble_eq_true rfl⟩) (va_recv hK hP (ci := 4) (q0 := 12) rfl rfl) rfl hl.1 rfl (Nat.le_of_ble_eq_true rfl) dX1_weighPairs_87 (fun H locs hw => ?_)
          have hw := hw.re (w' := (ul_wG cI aF (aK 0) (aN 0) (aT 0) F32 ++ ul_wS cI aN (aK 0) N ++ ul_wS cI aT (aK 0) u40 ++ ul_wK cI aK K)) [0, 1, 2, 3, 4, 5, 6, 7, 8, 9, 10, 11, 12, 13, 14, 15, 16, 17, 18, 19, 20, 21, 22, 23, 24, 25, 26] (by decide) rfl rfl
          obtain ⟨hP, hD, hS⟩ := hw
          refine lv_aload_n hx hb dX1_weighPairs_90 rfl (lv_at hl 2 rfl) ?_
          refine va_get (D := (dC, dI)) (ci := 1) (v := .ref (aT 0)) (C := RX1) (T := TX1) (N := 9) hx hb hts hin1 hown hK hP 0 rfl rfl 2 (by decide) (hts (.fieldLink RX1 19 "UnderLadders$Forecast" "trial" "LUnderLadders$Street;") (by decide +kernel)) (fun _ h9 => h9) rfl dX1_weighPairs_91 ?_
          refine lv_iload_n hx hb dX1_weighPairs_94 rfl (lv_at hl 4 rfl) ?_
          refine lv_iload hx hb dX1_weighPairs_95 (lv_at hl 0 rfl) ?_
          obtain ⟨u41, hu41, h⟩ := ul_cl_h h
          refine ul_cVv (As := [.int p2, .int v29]) (rest := []) (wc' := (ul_wS cI aT (aK 0) u41 ++ ul_wK cI aK K)) (wr := (ul_wG cI aF (aK 0) (aN 0) (aT 0) F32 ++ ul_wS cI aN (aK 0) N)) hP hD hS hK hA [12, 13, 14, 15, 16, 17, 18, 19, 20, 21, 22, 23, 24, 25, 26] [0, 1, 2, 3, 4, 5, 6, 7, 8, 9, 10, 11] [0] ul_NX_ok hN (c_X4_put l dC dI cI aT aK H.size u40 K p2 v29 u41 hu41) rfl rfl (by decide) rfl (by decide) (by decide) rfl ⟨hx, hb, hml, hown, hts⟩ (cwV 2 hts gX1_weighPairs_X4_put rfl rfl rfl (by decide +kernel) ⟨Nat.le_of_ble_eq_true rfl, Nat.le_of_ble_eq_true rfl⟩) (va_recv hK hP (ci := 4) (q0 := 12) rfl rfl) rfl hl.1 rfl (Nat.le_of_ble_eq_true rfl) dX1_weighPairs_97 (fun H locs hw => ?_)
          have hw := hw.re (w' := (ul_wG cI aF (aK 0) (aN 0) (aT 0) F32 ++ ul_wS cI aN (aK 0) N ++ ul_wS cI aT (aK 0) u41 ++ ul_wK cI aK K)) [0, 1, 2, 3, 4, 5, 6, 7, 8, 9, 10, 11, 12, 13, 14, 15, 16, 17, 18, 19, 20, 21, 22, 23, 24, 25, 26] (by decide) rfl rfl
          obtain ⟨hP, hD, hS⟩ := hw
          refine lv_aload_n hx hb dX1_weighPairs_100 rfl (lv_at hl 2 rfl) ?_
          refine va_get (D := (dC, dI)) (ci := 1) (v := .ref (aT 0)) (C := RX1) (T := TX1) (N := 9) hx hb hts hin1 hown hK hP 0 rfl rfl 2 (by decide) (hts (.fieldLink RX1 19 "UnderLadders$Forecast" "trial" "LUnderLadders$Street;") (by decide +kernel)) (fun _ h9 => h9) rfl dX1_weighPairs_101 ?_
          refine lv_bipush (v := 6) hx hb dX1_weighPairs_104 (by decide) ?_
          refine lv_bipush (v := 31) hx hb dX1_weighPairs_106 (by decide) ?_
          obtain ⟨u42, hu42, h⟩ := ul_cl_h h
          refine ul_cVv (As := [.int (6 : Int32), .int (31 : Int32)]) (rest := []) (wc' := (ul_wS cI aT (aK 0) u42 ++ ul_wK cI aK K)) (wr := (ul_wG cI aF (aK 0) (aN 0) (aT 0) F32 ++ ul_wS cI aN (aK 0) N)) hP hD hS hK hA [12, 13, 14, 15, 16, 17, 18, 19, 20, 21, 22, 23, 24, 25, 26] [0, 1, 2, 3, 4, 5, 6, 7, 8, 9, 10, 11] [0] ul_NX_ok hN (c_X4_passDays l dC dI cI aT aK H.size u41 K (6 : Int32) (31 : Int32) u42 hu42) rfl rfl (by decide) rfl (by decide) (by decide) rfl ⟨hx, hb, hml, hown, hts⟩ (cwV 2 hts gX1_weighPairs_X4_passDays rfl rfl rfl (by decide +kernel) ⟨Nat.le_of_ble_eq_true rfl, Nat.le_of_ble_eq_true rfl⟩) (va_recv hK hP (ci := 4) (q0 := 12) rfl rfl) rfl hl.1 rfl (Nat.le_of_ble_eq_true rfl) dX1_weighPairs_108 (fun H locs hw => ?_)
          have hw := hw.re (w' := (ul_wG cI aF (aK 0) (aN 0) (aT 0) F32 ++ ul_wS cI aN (aK 0) N ++ ul_wS cI aT (aK 0) u42 ++ ul_wK cI aK K)) [0, 1, 2, 3, 4, 5, 6, 7, 8, 9, 10, 11, 12, 13, 14, 15, 16, 17, 18, 19, 20, 21, 22, 23, 24, 25, 26] (by decide) rfl rfl
          obtain ⟨hP, hD, hS⟩ := hw
          refine lv_aload_n hx hb dX1_weighPairs_111 rfl (lv_at hl 2 rfl) ?_
          refine va_get (D := (dC, dI)) (ci := 1) (v := .ref (aF 3)) (C := RX1) (T := TX1) (N := 9) hx hb hts hin1 hown hK hP 0 rfl rfl 5 (by decide) (hts (.fieldLink RX1 29 "UnderLadders$Forecast" "oneGold" "[I") (by decide +kernel)) (fun _ h9 => h9) rfl dX1_weighPairs_112 ?_
          refine lv_iload_n hx hb dX1_weighPairs_115 rfl (lv_at hl 5 rfl) ?_
          refine lv_aload_n hx hb dX1_weighPairs_116 rfl (lv_at hl 2 rfl) ?_
          refine va_get (D := (dC, dI)) (ci := 1) (v := .ref (aT 0)) (C := RX1) (T := TX1) (N := 9) hx hb hts hin1 hown hK hP 0 rfl rfl 2 (by decide) (hts (.fieldLink RX1 19 "UnderLadders$Forecast" "trial" "LUnderLadders$Street;") (by decide +kernel)) (fun _ h9 => h9) rfl dX1_weighPairs_117 ?_
          refine va_getN (D := (dC, dI)) (ci := 4) (v := .ref (aT 4)) (C := RX4) (T := TX4) (N := 8) hx hb hts hin4 hown hK hP 12 rfl rfl 4 (by decide) (va_Nw.use rfl (hN.1 (RX1, 66, "UnderLadders$Street", "manGold", "[I") (by decide +kernel))) (fun _ h9 => h9) rfl dX1_weighPairs_120 ?_
          refine lv_iload_n hx hb dX1_weighPairs_123 rfl (lv_at hl 3 rfl) ?_
          obtain ⟨hi44, h⟩ := ul_ld_h h
          refine va_iald hx hb hK hP 16 0 rfl rfl hi44 dX1_weighPairs_124 ?_
          refine lv_topi (fun v43 ev43 => ?_)
          have h := h v43 ev43
          obtain ⟨hi46, h⟩ := ul_st_h h
          refine va_iast hx hb hK hP hD hS 3 0 rfl rfl hi46 dX1_weighPairs_125 (fun H locs hP hD hS => ?_)
          obtain ⟨F45, eF45⟩ : ∃ z : ul_S, z = ul_up F32 3 q2.1.toNatClampNeg v43 := ⟨_, rfl⟩
          have h := h F45 eF45
          have hP : va_P (dC, dI) classes (ul_wG cI aF (aK 0) (aN 0) (aT 0) F45 ++ ul_wS cI aN (aK 0) N ++ ul_wS cI aT (aK 0) u42 ++ ul_wK cI aK K) H := by rw [eF45]; exact hP
          have hD : va_D A (ul_wG cI aF (aK 0) (aN 0) (aT 0) F45 ++ ul_wS cI aN (aK 0) N ++ ul_wS cI aT (aK 0) u42 ++ ul_wK cI aK K) := by rw [eF45]; exact hD
          refine lv_aload_n hx hb dX1_weighPairs_126 rfl (lv_at hl 2 rfl) ?_
          refine va_get (D := (dC, dI)) (ci := 1) (v := .ref (aF 4)) (C := RX1) (T := TX1) (N := 9) hx hb hts hin1 hown hK hP 0 rfl rfl 6 (by decide) (hts (.fieldLink RX1 32 "UnderLadders$Forecast" "otherGold" "[I") (by decide +kernel)) (fun _ h9 => h9) rfl dX1_weighPairs_127 ?_
          refine lv_iload_n hx hb dX1_weighPairs_130 rfl (lv_at hl 5 rfl) ?_
          refine lv_aload_n hx hb dX1_weighPairs_131 rfl (lv_at hl 2 rfl) ?_
          refine va_get (D := (dC, dI)) (ci := 1) (v := .ref (aT 0)) (C := RX1) (T := TX1) (N := 9) hx hb hts hin1 hown hK hP 0 rfl rfl 2 (by decide) (hts (.fieldLink RX1 19 "UnderLadders$Forecast" "trial" "LUnderLadders$Street;") (by decide +kernel)) (fun _ h9 => h9) rfl dX1_weighPairs_132 ?_
          refine va_getN (D := (dC, dI)) (ci := 4) (v := .ref (aT 4)) (C := RX4) (T := TX4) (N := 8) hx hb hts hin4 hown hK hP 12 rfl rfl 4 (by decide) (va_Nw.use rfl (hN.1 (RX1, 66, "UnderLadders$Street", "manGold", "[I") (by decide +kernel))) (fun _ h9 => h9) rfl dX1_weighPairs_135 ?_
          refine lv_iload_n hx hb dX1_weighPairs_138 rfl (lv_at hl 4 rfl) ?_
          obtain ⟨hi48, h⟩ := ul_ld_h h
          refine va_iald hx hb hK hP 16 0 rfl rfl hi48 dX1_weighPairs_139 ?_
          refine lv_topi (fun v47 ev47 => ?_)
          have h := h v47 ev47
          obtain ⟨hi50, h⟩ := ul_st_h h
          refine va_iast hx hb hK hP hD hS 4 0 rfl rfl hi50 dX1_weighPairs_140 (fun H locs hP hD hS => ?_)
          obtain ⟨F49, eF49⟩ : ∃ z : ul_S, z = ul_up F45 4 q2.1.toNatClampNeg v47 := ⟨_, rfl⟩
          have h := h F49 eF49
          have hP : va_P (dC, dI) classes (ul_wG cI aF (aK 0) (aN 0) (aT 0) F49 ++ ul_wS cI aN (aK 0) N ++ ul_wS cI aT (aK 0) u42 ++ ul_wK cI aK K) H := by rw [eF49]; exact hP
          have hD : va_D A (ul_wG cI aF (aK 0) (aN 0) (aT 0) F49 ++ ul_wS cI aN (aK 0) N ++ ul_wS cI aT (aK 0) u42 ++ ul_wK cI aK K) := by rw [eF49]; exact hD
          exact ge _ _ _ (J141 q2.1 v28 v29 F49 u42 H locs ⟨hP, hD, hS⟩ ls (lv_sub hl [2, 3, 4, 5, 1, 0] rfl) h)
def f_X1_isRest_j91 (F : ul_S) (p1 : Int32) (x2 : Int32) (x3 : Int32) (x4 : Int32) : Option Int32 :=
  some (1 : Int32)
def f_X1_isRest_L26 (F : ul_S) (p1 : Int32) (y2 : Int32) (y3 : Int32) (q26 : Int32) : Option ((Int32 ⊕ Int32) ⊕ Int32) :=
  if (10 : Int32) ≤ q26 then (some (.inl (.inr q26))) else (ul_bd ((q26 * (10 : Int32)) + y3) fun v7 => ul_bd ((y2 * (10 : Int32)) + q26) fun v8 => ul_ld (F 3) 100 v7 fun v9 => ul_ld (F 3) 100 p1 fun v11 => if v11 < v9 then (some (.inl (.inl (0 : Int32)))) else (ul_ld (F 4) 100 v8 fun v14 => ul_ld (F 4) 100 p1 fun v16 => if v14 ≤ v16 then (ul_bd (q26 + 1) fun v19 => some (.inr v19)) else (some (.inl (.inl (0 : Int32))))))
def f_X1_isRest (F : ul_S) (p1 : Int32) : Option Int32 :=
  ul_ld (F 3) 100 p1 fun v1 => if v1 = (-9 : Int32) then (some (0 : Int32)) else (ul_bd (p1 / (10 : Int32)) fun v4 => ul_bd (p1 - p1 / (10 : Int32) * (10 : Int32)) fun v5 => (ul_it ul_N (f_X1_isRest_L26 F p1 v4 v5) (0 : Int32)).bind (Sum.elim (fun z => some z) (fun e26 => f_X1_isRest_j91 F p1 v4 v5 e26)))
set_option maxHeartbeats 4000000 in
set_option maxRecDepth 100000 in
theorem c_X1_isRest (l : Launch) (dC : Nat → ClassId) (dI : Nat → Nat → Nat) (cI : ClassId) (aF : Nat → Nat) (aN : Nat → Nat) (aT : Nat → Nat) (aK : Nat → Nat) (sz : Nat) (F : ul_S) (N : ul_S) (T : ul_S) (K : ul_S) (p1 : Int32) (r : Int32) (h : f_X1_isRest F p1 = some r) : Met l yX1_isRest wsX1_isRest ({ frames := 0, cells := 0, slots := 0, locals := 0 }) (va_Pc [.ref (aF 0), .int p1] (ul_pre (dC, dI) [(cI, .int)] ul_NX sz (ul_wG cI aF (aK 0) (aN 0) (aT 0) F ++ ul_wS cI aN (aK 0) N ++ ul_wS cI aT (aK 0) T ++ ul_wK cI aK K))) (va_Qi (fun v (_ : Unit) => v = r) (fun _ => ul_post (dC, dI) [(cI, .int)] (va_A (ul_wG cI aF (aK 0) (aN 0) (aT 0) F ++ ul_wS cI aN (aK 0) N ++ ul_wS cI aT (aK 0) T ++ ul_wK cI aK K) sz) (ul_wG cI aF (aK 0) (aN 0) (aT 0) F ++ ul_wS cI aN (aK 0) N ++ ul_wS cI aT (aK 0) T ++ ul_wK cI aK K)) (va_A (ul_wG cI aF (aK 0) (aN 0) (aT 0) F ++ ul_wS cI aN (aK 0) N ++ ul_wS cI aT (aK 0) T ++ ul_wK cI aK K) sz)) 0 0 (va_A (ul_wG cI aF (aK 0) (aN 0) (aT 0) F ++ ul_wS cI aN (aK 0) N ++ ul_wS cI aT (aK 0) T ++ ul_wK cI aK K) sz) := by
  refine Met.ofW (cc := cX1_isRest) (maxL := 7) (ret := (some .boolean)) (by decide) rfl ?_
  intro p e s m args below meth c s₁ B hml hv
  obtain ⟨rfl, hsz, hP, hK, hD0, hN⟩ := hv
  have hx := B.exec
  have hb := B.bytes
  have hr := B.returns
  have hts := atoms_spec (ws := wsX1_isRest) B.pre
  have hown : s.vm.findClass RX1 = some m.cls := findClass_of_methodNamed B.named
  have hlocks := B.notSynchronized
  have hin1 : ∀ w ∈ u_ws RX1 TX1 9, w ∈ wsX1_isRest := by decide +kernel
  subst hsz
  have hD := hD0.self (sz := s.heap.size)
  generalize hAe : va_A (ul_wG cI aF (aK 0) (aN 0) (aT 0) F ++ ul_wS cI aN (aK 0) N ++ ul_wS cI aT (aK 0) T ++ ul_wK cI aK K) s.heap.size = A at hD hN ⊢
  have hA : ∀ q : Nat, s.heap.size ≤ q → A q := fun q h => by rw [← hAe]; exact Or.inr h
  have hS : va_S A s.heap s.heap [] := va_S.rf
  have hl := lv_entry ([.ref (aF 0), .int p1]) (n := 7) (Nat.le_of_ble_eq_true rfl)
  rw [lg_entry_eq]
  generalize (lg_sl ([.ref (aF 0), .int p1]) ++ List.replicate (7 - (lg_sl ([.ref (aF 0), .int p1])).length) Slot.unset).toArray = ls at hl ⊢
  have hl : lv_has ls 7 [(0, .ref (aF 0)), (1, .int p1)] := hl
  obtain ⟨K0, hK0, h⟩ := ul_top h
  unfold f_X1_isRest at h
  refine ul_gen (fun G gi ge => ?_)
  obtain ⟨H, eH⟩ : ∃ z, z = s.heap := ⟨_, rfl⟩
  obtain ⟨locs, eL⟩ : ∃ z : List Loc, z = [] := ⟨_, rfl⟩
  have hP : va_P (dC, dI) classes (ul_wG cI aF (aK 0) (aN 0) (aT 0) F ++ ul_wS cI aN (aK 0) N ++ ul_wS cI aT (aK 0) T ++ ul_wK cI aK K) H := by rw [eH]; exact hP
  have hS : va_S A s.heap H locs := by rw [eH, eL]; exact hS
  rw [← eL]
  refine (show G H locs (F0 m 0 ls []) → G s.heap locs (F0 m 0 ls []) from fun z => by rw [← eH]; exact z) ?_
  have J91 : ∀ (x2 : Int32) (x3 : Int32) (x4 : Int32) (H : Heap) (locs : List Loc), ul_H (dC, dI) A s.heap (ul_wG cI aF (aK 0) (aN 0) (aT 0) F ++ ul_wS cI aN (aK 0) N ++ ul_wS cI aT (aK 0) T ++ ul_wK cI aK K) H locs → ∀ ls : Array Slot, lv_has ls 7 [(0, .ref (aF 0)), (1, .int p1), (2, .int x2), (3, .int x3), (4, .int x4)] → (f_X1_isRest_j91 F p1 x2 x3 x4).bind K0 = some r → G H locs (F0 m 91 ls []) := by
    intro x2 x3 x4 H locs hw ls hl h
    obtain ⟨hP, hD, hS⟩ := hw
    unfold f_X1_isRest_j91 at h
    refine gi _ _ _ ?_
    refine lv_iconst (v := 1) hx hb dX1_isRest_91 (by decide) ?_
    have hr9 := hK0 (1 : Int32) h
    subst hr9
    exact W.zret (v := (1 : Int32)) hx hb hr (by decide) (fun t ht hW => ⟨⟨(1 : Int32), (), rfl, rfl, by rw [ht]; exact hP, va_K.moved hW.alike hK, hD⟩, hS.F ht⟩) hS.2.2 dX1_isRest_92
  refine gi _ _ _ ?_
  refine lv_aload_n hx hb dX1_isRest_0 rfl (lv_at hl 0 rfl) ?_
  refine va_get (D := (dC, dI)) (ci := 1) (v := .ref (aF 3)) (C := RX1) (T := TX1) (N := 9) hx hb hts hin1 hown hK hP 0 rfl rfl 5 (by decide) (hts (.fieldLink RX1 29 "UnderLadders$Forecast" "oneGold" "[I") (by decide +kernel)) (fun _ h9 => h9) rfl dX1_isRest_1 ?_
  refine lv_iload_n hx hb dX1_isRest_4 rfl (lv_at hl 1 rfl) ?_
  obtain ⟨hi2, h⟩ := ul_ld_h h
  refine va_iald hx hb hK hP 3 0 rfl rfl hi2 dX1_isRest_5 ?_
  refine lv_topi (fun v1 ev1 => ?_)
  have h := h v1 ev1
  refine lv_bipush (v := -9) hx hb dX1_isRest_6 (by decide) ?_
  refine lv_icmp_ne (tgt := 13) hx hb dX1_isRest_8 (by decide) (fun hc3 => ?_) (fun hc3 => ?_)
  · have h := ul_if_f hc3 h
    refine lv_iload_n hx hb dX1_isRest_13 rfl (lv_at hl 1 rfl) ?_
    refine lv_bipush (v := 10) hx hb dX1_isRest_14 (by decide) ?_
    refine lv_idiv hx hb dX1_isRest_16 (by decide) ?_
    refine lv_topi (fun v4 ev4 => ?_)
    have h := ul_bd_h h v4 ev4
    refine lv_istore_n (lv' := [(2, .int v4), (0, .ref (aF 0)), (1, .int p1)]) hx hb dX1_isRest_17 rfl hl (by decide) rfl (fun ls hl => ?_)
    refine lv_iload_n hx hb dX1_isRest_18 rfl (lv_at hl 2 rfl) ?_
    refine lv_bipush (v := 10) hx hb dX1_isRest_19 (by decide) ?_
    refine lv_irem hx hb dX1_isRest_21 (by decide) ?_
    refine lv_topi (fun v5 ev5 => ?_)
    have h := ul_bd_h h v5 ev5
    refine lv_istore_n (lv' := [(3, .int v5), (2, .int v4), (0, .ref (aF 0)), (1, .int p1)]) hx hb dX1_isRest_22 rfl hl (by decide) rfl (fun ls hl => ?_)
    refine lv_iconst (v := 0) hx hb dX1_isRest_23 (by decide) ?_
    refine lv_istore (lv' := [(4, .int (0 : Int32)), (3, .int v5), (2, .int v4), (0, .ref (aF 0)), (1, .int p1)]) hx hb dX1_isRest_24 hl (by decide) rfl (fun ls hl => ?_)
    refine ge _ _ _ (ul_loop (P := fun q26 => ∀ (H : Heap) (locs : List Loc), ul_H (dC, dI) A s.heap (ul_wG cI aF (aK 0) (aN 0) (aT 0) F ++ ul_wS cI aN (aK 0) N ++ ul_wS cI aT (aK 0) T ++ ul_wK cI aK K) H locs → ∀ ls : Array Slot, lv_has ls 7 [(0, .ref (aF 0)), (1, .int p1), (2, .int v4), (3, .int v5), (4, .int q26)] → G H locs (F0 m 26 ls [])) ?_ _ _ (ul_it_h h) H locs ⟨hP, hD, hS⟩ ls (lv_sub hl [3, 4, 2, 1, 0] rfl))
    intro K26 hx26
    intro q26 ih26 h H locs hw ls hl
    obtain ⟨hP, hD, hS⟩ := hw
    unfold f_X1_isRest_L26 at h
    refine gi _ _ _ ?_
    refine lv_iload hx hb dX1_isRest_26 (lv_at hl 4 rfl) ?_
    refine lv_bipush (v := 10) hx hb dX1_isRest_28 (by decide) ?_
    refine lv_icmp_ge (tgt := 91) hx hb dX1_isRest_30 (by decide) (fun hc20 => ?_) (fun hc20 => ?_)
    · have h := ul_if_t hc20 h
      exact ge _ _ _ (J91 v4 v5 q26 H locs ⟨hP, hD, hS⟩ ls (lv_sub hl [0, 1, 2, 3, 4] rfl) (hx26 (.inr q26) h))
    · have h := ul_if_f hc20 h
      refine lv_iload hx hb dX1_isRest_33 (lv_at hl 4 rfl) ?_
      refine lv_bipush (v := 10) hx hb dX1_isRest_35 (by decide) ?_
      refine lv_imul hx hb dX1_isRest_37 ?_
      refine lv_iload_n hx hb dX1_isRest_38 rfl (lv_at hl 3 rfl) ?_
      refine lv_iadd hx hb dX1_isRest_39 ?_
      refine lv_topi (fun v21 ev21 => ?_)
      have h := ul_bd_h h v21 ev21
      refine lv_istore (lv' := [(5, .int v21), (0, .ref (aF 0)), (1, .int p1), (2, .int v4), (3, .int v5), (4, .int q26)]) hx hb dX1_isRest_40 hl (by decide) rfl (fun ls hl => ?_)
      refine lv_iload_n hx hb dX1_isRest_42 rfl (lv_at hl 3 rfl) ?_
      refine lv_bipush (v := 10) hx hb dX1_isRest_43 (by decide) ?_
      refine lv_imul hx hb dX1_isRest_45 ?_
      refine lv_iload hx hb dX1_isRest_46 (lv_at hl 5 rfl) ?_
      refine lv_iadd hx hb dX1_isRest_48 ?_
      refine lv_topi (fun v22 ev22 => ?_)
      have h := ul_bd_h h v22 ev22
      refine lv_istore (lv' := [(6, .int v22), (5, .int v21), (0, .ref (aF 0)), (1, .int p1), (2, .int v4), (3, .int v5), (4, .int q26)]) hx hb dX1_isRest_49 hl (by decide) rfl (fun ls hl => ?_)
      refine lv_aload_n hx hb dX1_isRest_51 rfl (lv_at hl 2 rfl) ?_
      refine va_get (D := (dC, dI)) (ci := 1) (v := .ref (aF 3)) (C := RX1) (T := TX1) (N := 9) hx hb hts hin1 hown hK hP 0 rfl rfl 5 (by decide) (hts (.fieldLink RX1 29 "UnderLadders$Forecast" "oneGold" "[I") (by decide +kernel)) (fun _ h9 => h9) rfl dX1_isRest_52 ?_
      refine lv_iload hx hb dX1_isRest_55 (lv_at hl 1 rfl) ?_
      obtain ⟨hi24, h⟩ := ul_ld_h h
      refine va_iald hx hb hK hP 3 0 rfl rfl hi24 dX1_isRest_57 ?_
      refine lv_topi (fun v23 ev23 => ?_)
      have h := h v23 ev23
      refine lv_aload_n hx hb dX1_isRest_58 rfl (lv_at hl 2 rfl) ?_
      refine va_get (D := (dC, dI)) (ci := 1) (v := .ref (aF 3)) (C := RX1) (T := TX1) (N := 9) hx hb hts hin1 hown hK hP 0 rfl rfl 5 (by decide) (hts (.fieldLink RX1 29 "UnderLadders$Forecast" "oneGold" "[I") (by decide +kernel)) (fun _ h9 => h9) rfl dX1_isRest_59 ?_
      refine lv_iload_n hx hb dX1_isRest_62 rfl (lv_at hl 3 rfl) ?_
      obtain ⟨hi26, h⟩ := ul_ld_h h
      refine va_iald hx hb hK hP 3 0 rfl rfl hi26 dX1_isRest_63 ?_
      refine lv_topi (fun v25 ev25 => ?_)
      have h := h v25 ev25
      refine lv_icmp_gt (tgt := 83) hx hb dX1_isRest_64 (by decide) (fun hc27 => ?_) (fun hc27 => ?_)
      · have h := ul_if_t hc27 h
        refine lv_iconst (v := 0) hx hb dX1_isRest_83 (by decide) ?_
        have hr9 := hK0 (0 : Int32) (hx26 (.inl (0 : Int32)) h)
        subst hr9
        exact W.zret (v := (0 : Int32)) hx hb hr (by decide) (fun t ht hW => ⟨⟨(0 : Int32), (), rfl, rfl, by rw [ht]; exact hP, va_K.moved hW.alike hK, hD⟩, hS.F ht⟩) hS.2.2 dX1_isRest_84
      · have h := ul_if_f hc27 h
        refine lv_aload_n hx hb dX1_isRest_67 rfl (lv_at hl 2 rfl) ?_
        refine va_get (D := (dC, dI)) (ci := 1) (v := .ref (aF 4)) (C := RX1) (T := TX1) (N := 9) hx hb hts hin1 hown hK hP 0 rfl rfl 6 (by decide) (hts (.fieldLink RX1 32 "UnderLadders$Forecast" "otherGold" "[I") (by decide +kernel)) (fun _ h9 => h9) rfl dX1_isRest_68 ?_
        refine lv_iload hx hb dX1_isRest_71 (lv_at hl 0 rfl) ?_
        obtain ⟨hi29, h⟩ := ul_ld_h h
        refine va_iald hx hb hK hP 4 0 rfl rfl hi29 dX1_isRest_73 ?_
        refine lv_topi (fun v28 ev28 => ?_)
        have h := h v28 ev28
        refine lv_aload_n hx hb dX1_isRest_74 rfl (lv_at hl 2 rfl) ?_
        refine va_get (D := (dC, dI)) (ci := 1) (v := .ref (aF 4)) (C := RX1) (T := TX1) (N := 9) hx hb hts hin1 hown hK hP 0 rfl rfl 6 (by decide) (hts (.fieldLink RX1 32 "UnderLadders$Forecast" "otherGold" "[I") (by decide +kernel)) (fun _ h9 => h9) rfl dX1_isRest_75 ?_
        refine lv_iload_n hx hb dX1_isRest_78 rfl (lv_at hl 3 rfl) ?_
        obtain ⟨hi31, h⟩ := ul_ld_h h
        refine va_iald hx hb hK hP 4 0 rfl rfl hi31 dX1_isRest_79 ?_
        refine lv_topi (fun v30 ev30 => ?_)
        have h := h v30 ev30
        refine lv_icmp_le (tgt := 85) hx hb dX1_isRest_80 (by decide) (fun hc32 => ?_) (fun hc32 => ?_)
        · have h := ul_if_t hc32 h
          obtain ⟨v33, ev33⟩ : ∃ z : Int32, z = q26 + 1 := ⟨_, rfl⟩
          have h := ul_bd_h h v33 ev33
          refine lv_iinc (v := v33) (lv' := [(4, .int v33), (6, .int v22), (5, .int v21), (0, .ref (aF 0)), (1, .int p1), (2, .int v4), (3, .int v5)]) hx hb dX1_isRest_85 hl (k := 6) rfl (by rw [ev33]; rfl) (by decide) rfl (fun ls hl => ?_)
          refine lv_goto (tgt := 26) hx hb dX1_isRest_88 (by decide) ?_
          exact ge _ _ _ (ih26 v33 h H locs ⟨hP, hD, hS⟩ ls (lv_sub hl [3, 4, 5, 6, 0] rfl))
        · have h := ul_if_f hc32 h
          refine lv_iconst (v := 0) hx hb dX1_isRest_83 (by decide) ?_
          have hr9 := hK0 (0 : Int32) (hx26 (.inl (0 : Int32)) h)
          subst hr9
          exact W.zret (v := (0 : Int32)) hx hb hr (by decide) (fun t ht hW => ⟨⟨(0 : Int32), (), rfl, rfl, by rw [ht]; exact hP, va_K.moved hW.alike hK, hD⟩, hS.F ht⟩) hS.2.2 dX1_isRest_84
  · have h := ul_if_t hc3 h
    refine lv_iconst (v := 0) hx hb dX1_isRest_11 (by decide) ?_
    have hr9 := hK0 (0 : Int32) h
    subst hr9
    exact W.zret (v := (0 : Int32)) hx hb hr (by decide) (fun t ht hW => ⟨⟨(0 : Int32), (), rfl, rfl, by rw [ht]; exact hP, va_K.moved hW.alike hK, hD⟩, hS.F ht⟩) hS.2.2 dX1_isRest_12
def f_X1_countRests_j27 (F : ul_S) (x1 : Int32) (x2 : Int32) : Option Int32 :=
  some x1
def f_X1_countRests_j21 (F : ul_S) (x1 : Int32) (x2 : Int32) : Option ((Int32 × Int32) ⊕ (Int32 × Int32)) :=
  ul_bd (x2 + 1) fun v1 => some (.inr (x1, v1))
def f_X1_countRests_L4 (F : ul_S) (q4 : (Int32 × Int32)) : Option ((Int32 × Int32) ⊕ (Int32 × Int32)) :=
  if (100 : Int32) ≤ q4.2 then (some (.inl (q4.1, q4.2))) else ((f_X1_isRest F q4.2).bind fun u4 => if u4 = 0 then (f_X1_countRests_j21 F q4.1 q4.2) else (ul_bd (q4.1 + 1) fun v6 => f_X1_countRests_j21 F v6 q4.2))
def f_X1_countRests (F : ul_S) : Option Int32 :=
  (ul_it ul_N (f_X1_countRests_L4 F) ((0 : Int32), (0 : Int32))).bind (fun e4 => f_X1_countRests_j27 F e4.1 e4.2)
set_option maxHeartbeats 4000000 in
set_option maxRecDepth 100000 in
theorem c_X1_countRests (l : Launch) (dC : Nat → ClassId) (dI : Nat → Nat → Nat) (cI : ClassId) (aF : Nat → Nat) (aN : Nat → Nat) (aT : Nat → Nat) (aK : Nat → Nat) (sz : Nat) (F : ul_S) (N : ul_S) (T : ul_S) (K : ul_S) (r : Int32) (h : f_X1_countRests F = some r) : Met l yX1_countRests wsX1_countRests ({ frames := 1, cells := 0, slots := 0, locals := 26 }) (va_Pc [.ref (aF 0)] (ul_pre (dC, dI) [(cI, .int)] ul_NX sz (ul_wG cI aF (aK 0) (aN 0) (aT 0) F ++ ul_wS cI aN (aK 0) N ++ ul_wS cI aT (aK 0) T ++ ul_wK cI aK K))) (va_Qi (fun v (_ : Unit) => v = r) (fun _ => ul_post (dC, dI) [(cI, .int)] (va_A (ul_wG cI aF (aK 0) (aN 0) (aT 0) F ++ ul_wS cI aN (aK 0) N ++ ul_wS cI aT (aK 0) T ++ ul_wK cI aK K) sz) (ul_wG cI aF (aK 0) (aN 0) (aT 0) F ++ ul_wS cI aN (aK 0) N ++ ul_wS cI aT (aK 0) T ++ ul_wK cI aK K)) (va_A (ul_wG cI aF (aK 0) (aN 0) (aT 0) F ++ ul_wS cI aN (aK 0) N ++ ul_wS cI aT (aK 0) T ++ ul_wK cI aK K) sz)) 0 0 (va_A (ul_wG cI aF (aK 0) (aN 0) (aT 0) F ++ ul_wS cI aN (aK 0) N ++ ul_wS cI aT (aK 0) T ++ ul_wK cI aK K) sz) := by
  refine Met.ofW (cc := cX1_countRests) (maxL := 3) (ret := (some .int)) (by decide) rfl ?_
  intro p e s m args below meth c s₁ B hml hv
  obtain ⟨rfl, hsz, hP, hK, hD0, hN⟩ := hv
  have hx := B.exec
  have hb := B.bytes
  have hr := B.returns
  have hts := atoms_spec (ws := wsX1_countRests) B.pre
  have hown : s.vm.findClass RX1 = some m.cls := findClass_of_methodNamed B.named
  have hlocks := B.notSynchronized
  subst hsz
  have hD := hD0.self (sz := s.heap.size)
  generalize hAe : va_A (ul_wG cI aF (aK 0) (aN 0) (aT 0) F ++ ul_wS cI aN (aK 0) N ++ ul_wS cI aT (aK 0) T ++ ul_wK cI aK K) s.heap.size = A at hD hN ⊢
  have hA : ∀ q : Nat, s.heap.size ≤ q → A q := fun q h => by rw [← hAe]; exact Or.inr h
  have hS : va_S A s.heap s.heap [] := va_S.rf
  have hl := lv_entry ([.ref (aF 0)]) (n := 3) (Nat.le_of_ble_eq_true rfl)
  rw [lg_entry_eq]
  generalize (lg_sl ([.ref (aF 0)]) ++ List.replicate (3 - (lg_sl ([.ref (aF 0)])).length) Slot.unset).toArray = ls at hl ⊢
  have hl : lv_has ls 3 [(0, .ref (aF 0))] := hl
  obtain ⟨K0, hK0, h⟩ := ul_top h
  unfold f_X1_countRests at h
  refine ul_gen (fun G gi ge => ?_)
  obtain ⟨H, eH⟩ : ∃ z, z = s.heap := ⟨_, rfl⟩
  obtain ⟨locs, eL⟩ : ∃ z : List Loc, z = [] := ⟨_, rfl⟩
  have hP : va_P (dC, dI) classes (ul_wG cI aF (aK 0) (aN 0) (aT 0) F ++ ul_wS cI aN (aK 0) N ++ ul_wS cI aT (aK 0) T ++ ul_wK cI aK K) H := by rw [eH]; exact hP
  have hS : va_S A s.heap H locs := by rw [eH, eL]; exact hS
  rw [← eL]
  refine (show G H locs (F0 m 0 ls []) → G s.heap locs (F0 m 0 ls []) from fun z => by rw [← eH]; exact z) ?_
  have J27 : ∀ (x1 : Int32) (x2 : Int32) (H : Heap) (locs : List Loc), ul_H (dC, dI) A s.heap (ul_wG cI aF (aK 0) (aN 0) (aT 0) F ++ ul_wS cI aN (aK 0) N ++ ul_wS cI aT (aK 0) T ++ ul_wK cI aK K) H locs → ∀ ls : Array Slot, lv_has ls 3 [(0, .ref (aF 0)), (1, .int x1), (2, .int x2)] → (f_X1_countRests_j27 F x1 x2).bind K0 = some r → G H locs (F0 m 27 ls []) := by
    intro x1 x2 H locs hw ls hl h
    obtain ⟨hP, hD, hS⟩ := hw
    unfold f_X1_countRests_j27 at h
    refine gi _ _ _ ?_
    refine lv_iload_n hx hb dX1_countRests_27 rfl (lv_at hl 1 rfl) ?_
    have hr9 := hK0 x1 h
    subst hr9
    exact W.iret (v := x1) hx hb hr (fun t ht hW => ⟨⟨x1, (), rfl, rfl, by rw [ht]; exact hP, va_K.moved hW.alike hK, hD⟩, hS.F ht⟩) hS.2.2 dX1_countRests_28
  refine gi _ _ _ ?_
  refine lv_iconst (v := 0) hx hb dX1_countRests_0 (by decide) ?_
  refine lv_istore_n (lv' := [(1, .int (0 : Int32)), (0, .ref (aF 0))]) hx hb dX1_countRests_1 rfl hl (by decide) rfl (fun ls hl => ?_)
  refine lv_iconst (v := 0) hx hb dX1_countRests_2 (by decide) ?_
  refine lv_istore_n (lv' := [(2, .int (0 : Int32)), (1, .int (0 : Int32)), (0, .ref (aF 0))]) hx hb dX1_countRests_3 rfl hl (by decide) rfl (fun ls hl => ?_)
  refine ge _ _ _ (ul_loop (P := fun q4 => ∀ (H : Heap) (locs : List Loc), ul_H (dC, dI) A s.heap (ul_wG cI aF (aK 0) (aN 0) (aT 0) F ++ ul_wS cI aN (aK 0) N ++ ul_wS cI aT (aK 0) T ++ ul_wK cI aK K) H locs → ∀ ls : Array Slot, lv_has ls 3 [(0, .ref (aF 0)), (1, .int q4.1), (2, .int q4.2)] → G H locs (F0 m 4 ls [])) ?_ _ _ (ul_it_h h) H locs ⟨hP, hD, hS⟩ ls (lv_sub hl [2, 1, 0] rfl))
  intro K4 hx4
  intro q4 ih4 h H locs hw ls hl
  have J21 : ∀ (x1 : Int32) (x2 : Int32) (H : Heap) (locs : List Loc), ul_H (dC, dI) A s.heap (ul_wG cI aF (aK 0) (aN 0) (aT 0) F ++ ul_wS cI aN (aK 0) N ++ ul_wS cI aT (aK 0) T ++ ul_wK cI aK K) H locs → ∀ ls : Array Slot, lv_has ls 3 [(0, .ref (aF 0)), (1, .int x1), (2, .int x2)] → (f_X1_countRests_j21 F x1 x2).bind K4 = some r → G H locs (F0 m 21 ls []) := by
    intro x1 x2 H locs hw ls hl h
    obtain ⟨hP, hD, hS⟩ := hw
    unfold f_X1_countRests_j21 at h
    refine gi _ _ _ ?_
    obtain ⟨v2, ev2⟩ : ∃ z : Int32, z = x2 + 1 := ⟨_, rfl⟩
    have h := ul_bd_h h v2 ev2
    refine lv_iinc (v := v2) (lv' := [(2, .int v2), (0, .ref (aF 0)), (1, .int x1)]) hx hb dX1_countRests_21 hl (k := 2) rfl (by rw [ev2]; rfl) (by decide) rfl (fun ls hl => ?_)
    refine lv_goto (tgt := 4) hx hb dX1_countRests_24 (by decide) ?_
    exact ge _ _ _ (ih4 (x1, v2) h H locs ⟨hP, hD, hS⟩ ls (lv_sub hl [1, 2, 0] rfl))
  obtain ⟨hP, hD, hS⟩ := hw
  unfold f_X1_countRests_L4 at h
  refine gi _ _ _ ?_
  refine lv_iload_n hx hb dX1_countRests_4 rfl (lv_at hl 2 rfl) ?_
  refine lv_bipush (v := 100) hx hb dX1_countRests_5 (by decide) ?_
  refine lv_icmp_ge (tgt := 27) hx hb dX1_countRests_7 (by decide) (fun hc7 => ?_) (fun hc7 => ?_)
  · have h := ul_if_t hc7 h
    exact ge _ _ _ (J27 q4.1 q4.2 H locs ⟨hP, hD, hS⟩ ls (lv_sub hl [0, 1, 2] rfl) (hx4 (q4.1, q4.2) h))
  · have h := ul_if_f hc7 h
    refine lv_aload_n hx hb dX1_countRests_10 rfl (lv_at hl 0 rfl) ?_
    refine lv_iload_n hx hb dX1_countRests_11 rfl (lv_at hl 2 rfl) ?_
    obtain ⟨u8, hu8, h⟩ := ul_cl_h h
    refine ul_cVi (As := [.int q4.2]) (rest := []) (wc' := (ul_wG cI aF (aK 0) (aN 0) (aT 0) F ++ ul_wS cI aN (aK 0) N ++ ul_wS cI aT (aK 0) T ++ ul_wK cI aK K)) (wr := []) hP hD hS hK hA [0, 1, 2, 3, 4, 5, 6, 7, 8, 9, 10, 11, 12, 13, 14, 15, 16, 17, 18, 19, 20, 21, 22, 23, 24, 25, 26] [] [0] ul_NX_ok hN (c_X1_isRest l dC dI cI aF aN aT aK H.size F N T K q4.2 u8 hu8) rfl rfl (by decide) rfl (by decide) (by decide) rfl ⟨hx, hb, hml, hown, hts⟩ (cwV 1 hts gX1_countRests_X1_isRest rfl rfl rfl (by decide +kernel) ⟨Nat.le_of_ble_eq_true rfl, Nat.le_of_ble_eq_true rfl⟩) (va_recv hK hP (ci := 1) (q0 := 0) rfl rfl) rfl hl.1 rfl (Nat.le_of_ble_eq_true rfl) dX1_countRests_12 (fun H locs hw => ?_)
    obtain ⟨hP, hD, hS⟩ := hw
    have hP : va_P (dC, dI) classes (ul_wG cI aF (aK 0) (aN 0) (aT 0) F ++ ul_wS cI aN (aK 0) N ++ ul_wS cI aT (aK 0) T ++ ul_wK cI aK K) H := hP
    have hD : va_D A (ul_wG cI aF (aK 0) (aN 0) (aT 0) F ++ ul_wS cI aN (aK 0) N ++ ul_wS cI aT (aK 0) T ++ ul_wK cI aK K) := hD
    refine lv_if_eq (tgt := 21) hx hb dX1_countRests_15 (by decide) (fun hc9 => ?_) (fun hc9 => ?_)
    · have h := ul_if_t hc9 h
      exact ge _ _ _ (J21 q4.1 q4.2 H locs ⟨hP, hD, hS⟩ ls (lv_sub hl [0, 1, 2] rfl) h)
    · have h := ul_if_f hc9 h
      obtain ⟨v10, ev10⟩ : ∃ z : Int32, z = q4.1 + 1 := ⟨_, rfl⟩
      have h := ul_bd_h h v10 ev10
      refine lv_iinc (v := v10) (lv' := [(1, .int v10), (0, .ref (aF 0)), (2, .int q4.2)]) hx hb dX1_countRests_18 hl (k := 1) rfl (by rw [ev10]; rfl) (by decide) rfl (fun ls hl => ?_)
      exact ge _ _ _ (J21 v10 q4.2 H locs ⟨hP, hD, hS⟩ ls (lv_sub hl [1, 0, 2] rfl) h)
def f_X1_firstRest_j24 (F : ul_S) (x1 : Int32) : Option Int32 :=
  some (-9 : Int32)
def f_X1_firstRest_L2 (F : ul_S) (q2 : Int32) : Option ((Int32 ⊕ Int32) ⊕ Int32) :=
  if (100 : Int32) ≤ q2 then (some (.inl (.inr q2))) else ((f_X1_isRest F q2).bind fun u2 => if u2 = 0 then (ul_bd (q2 + 1) fun v4 => some (.inr v4)) else (some (.inl (.inl q2))))
def f_X1_firstRest (F : ul_S) : Option Int32 :=
  (ul_it ul_N (f_X1_firstRest_L2 F) (0 : Int32)).bind (Sum.elim (fun z => some z) (fun e2 => f_X1_firstRest_j24 F e2))
set_option maxHeartbeats 4000000 in
set_option maxRecDepth 100000 in
theorem c_X1_firstRest (l : Launch) (dC : Nat → ClassId) (dI : Nat → Nat → Nat) (cI : ClassId) (aF : Nat → Nat) (aN : Nat → Nat) (aT : Nat → Nat) (aK : Nat → Nat) (sz : Nat) (F : ul_S) (N : ul_S) (T : ul_S) (K : ul_S) (r : Int32) (h : f_X1_firstRest F = some r) : Met l yX1_firstRest wsX1_firstRest ({ frames := 1, cells := 0, slots := 0, locals := 26 }) (va_Pc [.ref (aF 0)] (ul_pre (dC, dI) [(cI, .int)] ul_NX sz (ul_wG cI aF (aK 0) (aN 0) (aT 0) F ++ ul_wS cI aN (aK 0) N ++ ul_wS cI aT (aK 0) T ++ ul_wK cI aK K))) (va_Qi (fun v (_ : Unit) => v = r) (fun _ => ul_post (dC, dI) [(cI, .int)] (va_A (ul_wG cI aF (aK 0) (aN 0) (aT 0) F ++ ul_wS cI aN (aK 0) N ++ ul_wS cI aT (aK 0) T ++ ul_wK cI aK K) sz) (ul_wG cI aF (aK 0) (aN 0) (aT 0) F ++ ul_wS cI aN (aK 0) N ++ ul_wS cI aT (aK 0) T ++ ul_wK cI aK K)) (va_A (ul_wG cI aF (aK 0) (aN 0) (aT 0) F ++ ul_wS cI aN (aK 0) N ++ ul_wS cI aT (aK 0) T ++ ul_wK cI aK K) sz)) 0 0 (va_A (ul_wG cI aF (aK 0) (aN 0) (aT 0) F ++ ul_wS cI aN (aK 0) N ++ ul_wS cI aT (aK 0) T ++ ul_wK cI aK K) sz) := by
  refine Met.ofW (cc := cX1_firstRest) (maxL := 2) (ret := (some .int)) (by decide) rfl ?_
  intro p e s m args below meth c s₁ B hml hv
  obtain ⟨rfl, hsz, hP, hK, hD0, hN⟩ := hv
  have hx := B.exec
  have hb := B.bytes
  have hr := B.returns
  have hts := atoms_spec (ws := wsX1_firstRest) B.pre
  have hown : s.vm.findClass RX1 = some m.cls := findClass_of_methodNamed B.named
  have hlocks := B.notSynchronized
  subst hsz
  have hD := hD0.self (sz := s.heap.size)
  generalize hAe : va_A (ul_wG cI aF (aK 0) (aN 0) (aT 0) F ++ ul_wS cI aN (aK 0) N ++ ul_wS cI aT (aK 0) T ++ ul_wK cI aK K) s.heap.size = A at hD hN ⊢
  have hA : ∀ q : Nat, s.heap.size ≤ q → A q := fun q h => by rw [← hAe]; exact Or.inr h
  have hS : va_S A s.heap s.heap [] := va_S.rf
  have hl := lv_entry ([.ref (aF 0)]) (n := 2) (Nat.le_of_ble_eq_true rfl)
  rw [lg_entry_eq]
  generalize (lg_sl ([.ref (aF 0)]) ++ List.replicate (2 - (lg_sl ([.ref (aF 0)])).length) Slot.unset).toArray = ls at hl ⊢
  have hl : lv_has ls 2 [(0, .ref (aF 0))] := hl
  obtain ⟨K0, hK0, h⟩ := ul_top h
  unfold f_X1_firstRest at h
  refine ul_gen (fun G gi ge => ?_)
  obtain ⟨H, eH⟩ : ∃ z, z = s.heap := ⟨_, rfl⟩
  obtain ⟨locs, eL⟩ : ∃ z : List Loc, z = [] := ⟨_, rfl⟩
  have hP : va_P (dC, dI) classes (ul_wG cI aF (aK 0) (aN 0) (aT 0) F ++ ul_wS cI aN (aK 0) N ++ ul_wS cI aT (aK 0) T ++ ul_wK cI aK K) H := by rw [eH]; exact hP
  have hS : va_S A s.heap H locs := by rw [eH, eL]; exact hS
  rw [← eL]
  refine (show G H locs (F0 m 0 ls []) → G s.heap locs (F0 m 0 ls []) from fun z => by rw [← eH]; exact z) ?_
  have J24 : ∀ (x1 : Int32) (H : Heap) (locs : List Loc), ul_H (dC, dI) A s.heap (ul_wG cI aF (aK 0) (aN 0) (aT 0) F ++ ul_wS cI aN (aK 0) N ++ ul_wS cI aT (aK 0) T ++ ul_wK cI aK K) H locs → ∀ ls : Array Slot, lv_has ls 2 [(0, .ref (aF 0)), (1, .int x1)] → (f_X1_firstRest_j24 F x1).bind K0 = some r → G H locs (F0 m 24 ls []) := by
    intro x1 H locs hw ls hl h
    obtain ⟨hP, hD, hS⟩ := hw
    unfold f_X1_firstRest_j24 at h
    refine gi _ _ _ ?_
    refine lv_bipush (v := -9) hx hb dX1_firstRest_24 (by decide) ?_
    have hr9 := hK0 (-9 : Int32) h
    subst hr9
    exact W.iret (v := (-9 : Int32)) hx hb hr (fun t ht hW => ⟨⟨(-9 : Int32), (), rfl, rfl, by rw [ht]; exact hP, va_K.moved hW.alike hK, hD⟩, hS.F ht⟩) hS.2.2 dX1_firstRest_26
  refine gi _ _ _ ?_
  refine lv_iconst (v := 0) hx hb dX1_firstRest_0 (by decide) ?_
  refine lv_istore_n (lv' := [(1, .int (0 : Int32)), (0, .ref (aF 0))]) hx hb dX1_firstRest_1 rfl hl (by decide) rfl (fun ls hl => ?_)
  refine ge _ _ _ (ul_loop (P := fun q2 => ∀ (H : Heap) (locs : List Loc), ul_H (dC, dI) A s.heap (ul_wG cI aF (aK 0) (aN 0) (aT 0) F ++ ul_wS cI aN (aK 0) N ++ ul_wS cI aT (aK 0) T ++ ul_wK cI aK K) H locs → ∀ ls : Array Slot, lv_has ls 2 [(0, .ref (aF 0)), (1, .int q2)] → G H locs (F0 m 2 ls [])) ?_ _ _ (ul_it_h h) H locs ⟨hP, hD, hS⟩ ls (lv_sub hl [1, 0] rfl))
  intro K2 hx2
  intro q2 ih2 h H locs hw ls hl
  obtain ⟨hP, hD, hS⟩ := hw
  unfold f_X1_firstRest_L2 at h
  refine gi _ _ _ ?_
  refine lv_iload_n hx hb dX1_firstRest_2 rfl (lv_at hl 1 rfl) ?_
  refine lv_bipush (v := 100) hx hb dX1_firstRest_3 (by decide) ?_
  refine lv_icmp_ge (tgt := 24) hx hb dX1_firstRest_5 (by decide) (fun hc5 => ?_) (fun hc5 => ?_)
  · have h := ul_if_t hc5 h
    exact ge _ _ _ (J24 q2 H locs ⟨hP, hD, hS⟩ ls (lv_sub hl [0, 1] rfl) (hx2 (.inr q2) h))
  · have h := ul_if_f hc5 h
    refine lv_aload_n hx hb dX1_firstRest_8 rfl (lv_at hl 0 rfl) ?_
    refine lv_iload_n hx hb dX1_firstRest_9 rfl (lv_at hl 1 rfl) ?_
    obtain ⟨u6, hu6, h⟩ := ul_cl_h h
    refine ul_cVi (As := [.int q2]) (rest := []) (wc' := (ul_wG cI aF (aK 0) (aN 0) (aT 0) F ++ ul_wS cI aN (aK 0) N ++ ul_wS cI aT (aK 0) T ++ ul_wK cI aK K)) (wr := []) hP hD hS hK hA [0, 1, 2, 3, 4, 5, 6, 7, 8, 9, 10, 11, 12, 13, 14, 15, 16, 17, 18, 19, 20, 21, 22, 23, 24, 25, 26] [] [0] ul_NX_ok hN (c_X1_isRest l dC dI cI aF aN aT aK H.size F N T K q2 u6 hu6) rfl rfl (by decide) rfl (by decide) (by decide) rfl ⟨hx, hb, hml, hown, hts⟩ (cwV 1 hts gX1_firstRest_X1_isRest rfl rfl rfl (by decide +kernel) ⟨Nat.le_of_ble_eq_true rfl, Nat.le_of_ble_eq_true rfl⟩) (va_recv hK hP (ci := 1) (q0 := 0) rfl rfl) rfl hl.1 rfl (Nat.le_of_ble_eq_true rfl) dX1_firstRest_10 (fun H locs hw => ?_)
    obtain ⟨hP, hD, hS⟩ := hw
    have hP : va_P (dC, dI) classes (ul_wG cI aF (aK 0) (aN 0) (aT 0) F ++ ul_wS cI aN (aK 0) N ++ ul_wS cI aT (aK 0) T ++ ul_wK cI aK K) H := hP
    have hD : va_D A (ul_wG cI aF (aK 0) (aN 0) (aT 0) F ++ ul_wS cI aN (aK 0) N ++ ul_wS cI aT (aK 0) T ++ ul_wK cI aK K) := hD
    refine lv_if_eq (tgt := 18) hx hb dX1_firstRest_13 (by decide) (fun hc7 => ?_) (fun hc7 => ?_)
    · have h := ul_if_t hc7 h
      obtain ⟨v8, ev8⟩ : ∃ z : Int32, z = q2 + 1 := ⟨_, rfl⟩
      have h := ul_bd_h h v8 ev8
      refine lv_iinc (v := v8) (lv' := [(1, .int v8), (0, .ref (aF 0))]) hx hb dX1_firstRest_18 hl (k := 1) rfl (by rw [ev8]; rfl) (by decide) rfl (fun ls hl => ?_)
      refine lv_goto (tgt := 2) hx hb dX1_firstRest_21 (by decide) ?_
      exact ge _ _ _ (ih2 v8 h H locs ⟨hP, hD, hS⟩ ls (lv_sub hl [1, 0] rfl))
    · have h := ul_if_f hc7 h
      refine lv_iload_n hx hb dX1_firstRest_16 rfl (lv_at hl 1 rfl) ?_
      have hr9 := hK0 q2 (hx2 (.inl q2) h)
      subst hr9
      exact W.iret (v := q2) hx hb hr (fun t ht hW => ⟨⟨q2, (), rfl, rfl, by rw [ht]; exact hP, va_K.moved hW.alike hK, hD⟩, hS.F ht⟩) hS.2.2 dX1_firstRest_17
def f_X1_weightOf_j44 (K : ul_S) (p1 : Int32) (p2 : Int32) (x3 : Int32) (x4 : Int32) : Option Int32 :=
  some x3
def f_X1_weightOf_j36 (K : ul_S) (p1 : Int32) (p2 : Int32) (x3 : Int32) (x4 : Int32) (t0 : Int32) (t1 : Int32) : Option ((Int32 × Int32) ⊕ (Int32 × Int32)) :=
  ul_bd (t0 * t1) fun v1 => ul_bd (x4 + 1) fun v2 => some (.inr (v1, v2))
def f_X1_weightOf_L5 (K : ul_S) (p1 : Int32) (p2 : Int32) (q5 : (Int32 × Int32)) : Option ((Int32 × Int32) ⊕ (Int32 × Int32)) :=
  if (K 0 1) ≤ q5.2 then (some (.inl (q5.1, q5.2))) else (if ((p1 >>> (q5.2 &&& 31)) &&& (1 : Int32)) = (1 : Int32) then (f_X1_weightOf_j36 K p1 p2 q5.1 q5.2 q5.1 ((10 : Int32) - p2)) else (f_X1_weightOf_j36 K p1 p2 q5.1 q5.2 q5.1 p2))
def f_X1_weightOf (K : ul_S) (p1 : Int32) (p2 : Int32) : Option Int32 :=
  (ul_it ul_N (f_X1_weightOf_L5 K p1 p2) ((1 : Int32), (0 : Int32))).bind (fun e5 => f_X1_weightOf_j44 K p1 p2 e5.1 e5.2)
set_option maxHeartbeats 4000000 in
set_option maxRecDepth 100000 in
theorem c_X1_weightOf (l : Launch) (dC : Nat → ClassId) (dI : Nat → Nat → Nat) (cI : ClassId) (aF : Nat → Nat) (aN : Nat → Nat) (aT : Nat → Nat) (aK : Nat → Nat) (sz : Nat) (F : ul_S) (N : ul_S) (T : ul_S) (K : ul_S) (p1 : Int32) (p2 : Int32) (r : Int32) (h : f_X1_weightOf K p1 p2 = some r) : Met l yX1_weightOf wsX1_weightOf ({ frames := 0, cells := 0, slots := 0, locals := 0 }) (va_Pc [.ref (aF 0), .int p1, .int p2] (ul_pre (dC, dI) [(cI, .int)] ul_NX sz (ul_wG cI aF (aK 0) (aN 0) (aT 0) F ++ ul_wS cI aN (aK 0) N ++ ul_wS cI aT (aK 0) T ++ ul_wK cI aK K))) (va_Qi (fun v (_ : Unit) => v = r) (fun _ => ul_post (dC, dI) [(cI, .int)] (va_A (ul_wG cI aF (aK 0) (aN 0) (aT 0) F ++ ul_wS cI aN (aK 0) N ++ ul_wS cI aT (aK 0) T ++ ul_wK cI aK K) sz) (ul_wG cI aF (aK 0) (aN 0) (aT 0) F ++ ul_wS cI aN (aK 0) N ++ ul_wS cI aT (aK 0) T ++ ul_wK cI aK K)) (va_A (ul_wG cI aF (aK 0) (aN 0) (aT 0) F ++ ul_wS cI aN (aK 0) N ++ ul_wS cI aT (aK 0) T ++ ul_wK cI aK K) sz)) 0 0 (va_A (ul_wG cI aF (aK 0) (aN 0) (aT 0) F ++ ul_wS cI aN (aK 0) N ++ ul_wS cI aT (aK 0) T ++ ul_wK cI aK K) sz) := by
  refine Met.ofW (cc := cX1_weightOf) (maxL := 5) (ret := (some .int)) (by decide) rfl ?_
  intro p e s m args below meth c s₁ B hml hv
  obtain ⟨rfl, hsz, hP, hK, hD0, hN⟩ := hv
  have hx := B.exec
  have hb := B.bytes
  have hr := B.returns
  have hts := atoms_spec (ws := wsX1_weightOf) B.pre
  have hown : s.vm.findClass RX1 = some m.cls := findClass_of_methodNamed B.named
  have hlocks := B.notSynchronized
  have hin1 : ∀ w ∈ u_ws RX1 TX1 9, w ∈ wsX1_weightOf := by decide +kernel
  have hin2 : ∀ w ∈ u_ws RX2 TX2 9, w ∈ wsX1_weightOf := by decide +kernel
  subst hsz
  have hD := hD0.self (sz := s.heap.size)
  generalize hAe : va_A (ul_wG cI aF (aK 0) (aN 0) (aT 0) F ++ ul_wS cI aN (aK 0) N ++ ul_wS cI aT (aK 0) T ++ ul_wK cI aK K) s.heap.size = A at hD hN ⊢
  have hA : ∀ q : Nat, s.heap.size ≤ q → A q := fun q h => by rw [← hAe]; exact Or.inr h
  have hS : va_S A s.heap s.heap [] := va_S.rf
  have hl := lv_entry ([.ref (aF 0), .int p1, .int p2]) (n := 5) (Nat.le_of_ble_eq_true rfl)
  rw [lg_entry_eq]
  generalize (lg_sl ([.ref (aF 0), .int p1, .int p2]) ++ List.replicate (5 - (lg_sl ([.ref (aF 0), .int p1, .int p2])).length) Slot.unset).toArray = ls at hl ⊢
  have hl : lv_has ls 5 [(0, .ref (aF 0)), (1, .int p1), (2, .int p2)] := hl
  obtain ⟨K0, hK0, h⟩ := ul_top h
  unfold f_X1_weightOf at h
  refine ul_gen (fun G gi ge => ?_)
  obtain ⟨H, eH⟩ : ∃ z, z = s.heap := ⟨_, rfl⟩
  obtain ⟨locs, eL⟩ : ∃ z : List Loc, z = [] := ⟨_, rfl⟩
  have hP : va_P (dC, dI) classes (ul_wG cI aF (aK 0) (aN 0) (aT 0) F ++ ul_wS cI aN (aK 0) N ++ ul_wS cI aT (aK 0) T ++ ul_wK cI aK K) H := by rw [eH]; exact hP
  have hS : va_S A s.heap H locs := by rw [eH, eL]; exact hS
  rw [← eL]
  refine (show G H locs (F0 m 0 ls []) → G s.heap locs (F0 m 0 ls []) from fun z => by rw [← eH]; exact z) ?_
  have J44 : ∀ (x3 : Int32) (x4 : Int32) (H : Heap) (locs : List Loc), ul_H (dC, dI) A s.heap (ul_wG cI aF (aK 0) (aN 0) (aT 0) F ++ ul_wS cI aN (aK 0) N ++ ul_wS cI aT (aK 0) T ++ ul_wK cI aK K) H locs → ∀ ls : Array Slot, lv_has ls 5 [(0, .ref (aF 0)), (1, .int p1), (2, .int p2), (3, .int x3), (4, .int x4)] → (f_X1_weightOf_j44 K p1 p2 x3 x4).bind K0 = some r → G H locs (F0 m 44 ls []) := by
    intro x3 x4 H locs hw ls hl h
    obtain ⟨hP, hD, hS⟩ := hw
    unfold f_X1_weightOf_j44 at h
    refine gi _ _ _ ?_
    refine lv_iload_n hx hb dX1_weightOf_44 rfl (lv_at hl 3 rfl) ?_
    have hr9 := hK0 x3 h
    subst hr9
    exact W.iret (v := x3) hx hb hr (fun t ht hW => ⟨⟨x3, (), rfl, rfl, by rw [ht]; exact hP, va_K.moved hW.alike hK, hD⟩, hS.F ht⟩) hS.2.2 dX1_weightOf_45
  refine gi _ _ _ ?_
  refine lv_iconst (v := 1) hx hb dX1_weightOf_0 (by decide) ?_
  refine lv_istore_n (lv' := [(3, .int (1 : Int32)), (0, .ref (aF 0)), (1, .int p1), (2, .int p2)]) hx hb dX1_weightOf_1 rfl hl (by decide) rfl (fun ls hl => ?_)
  refine lv_iconst (v := 0) hx hb dX1_weightOf_2 (by decide) ?_
  refine lv_istore (lv' := [(4, .int (0 : Int32)), (3, .int (1 : Int32)), (0, .ref (aF 0)), (1, .int p1), (2, .int p2)]) hx hb dX1_weightOf_3 hl (by decide) rfl (fun ls hl => ?_)
  refine ge _ _ _ (ul_loop (P := fun q5 => ∀ (H : Heap) (locs : List Loc), ul_H (dC, dI) A s.heap (ul_wG cI aF (aK 0) (aN 0) (aT 0) F ++ ul_wS cI aN (aK 0) N ++ ul_wS cI aT (aK 0) T ++ ul_wK cI aK K) H locs → ∀ ls : Array Slot, lv_has ls 5 [(0, .ref (aF 0)), (1, .int p1), (2, .int p2), (3, .int q5.1), (4, .int q5.2)] → G H locs (F0 m 5 ls [])) ?_ _ _ (ul_it_h h) H locs ⟨hP, hD, hS⟩ ls (lv_sub hl [2, 3, 4, 1, 0] rfl))
  intro K5 hx5
  intro q5 ih5 h H locs hw ls hl
  have J36 : ∀ (x3 : Int32) (x4 : Int32) (t0 : Int32) (t1 : Int32) (H : Heap) (locs : List Loc), ul_H (dC, dI) A s.heap (ul_wG cI aF (aK 0) (aN 0) (aT 0) F ++ ul_wS cI aN (aK 0) N ++ ul_wS cI aT (aK 0) T ++ ul_wK cI aK K) H locs → ∀ ls : Array Slot, lv_has ls 5 [(0, .ref (aF 0)), (1, .int p1), (2, .int p2), (3, .int x3), (4, .int x4)] → (f_X1_weightOf_j36 K p1 p2 x3 x4 t0 t1).bind K5 = some r → G H locs (F0 m 36 ls [.int t1, .int t0]) := by
    intro x3 x4 t0 t1 H locs hw ls hl h
    obtain ⟨hP, hD, hS⟩ := hw
    unfold f_X1_weightOf_j36 at h
    refine gi _ _ _ ?_
    refine lv_imul hx hb dX1_weightOf_36 ?_
    refine lv_topi (fun v3 ev3 => ?_)
    have h := ul_bd_h h v3 ev3
    refine lv_istore_n (lv' := [(3, .int v3), (0, .ref (aF 0)), (1, .int p1), (2, .int p2), (4, .int x4)]) hx hb dX1_weightOf_37 rfl hl (by decide) rfl (fun ls hl => ?_)
    obtain ⟨v4, ev4⟩ : ∃ z : Int32, z = x4 + 1 := ⟨_, rfl⟩
    have h := ul_bd_h h v4 ev4
    refine lv_iinc (v := v4) (lv' := [(4, .int v4), (3, .int v3), (0, .ref (aF 0)), (1, .int p1), (2, .int p2)]) hx hb dX1_weightOf_38 hl (k := 4) rfl (by rw [ev4]; rfl) (by decide) rfl (fun ls hl => ?_)
    refine lv_goto (tgt := 5) hx hb dX1_weightOf_41 (by decide) ?_
    exact ge _ _ _ (ih5 (v3, v4) h H locs ⟨hP, hD, hS⟩ ls (lv_sub hl [2, 3, 4, 1, 0] rfl))
  obtain ⟨hP, hD, hS⟩ := hw
  unfold f_X1_weightOf_L5 at h
  refine gi _ _ _ ?_
  refine lv_iload hx hb dX1_weightOf_5 (lv_at hl 4 rfl) ?_
  refine lv_aload_n hx hb dX1_weightOf_7 rfl (lv_at hl 0 rfl) ?_
  refine va_get (D := (dC, dI)) (ci := 1) (v := .ref (aK 0)) (C := RX1) (T := TX1) (N := 9) hx hb hts hin1 hown hK hP 0 rfl rfl 0 (by decide) (hts (.fieldLink RX1 9 "UnderLadders$Forecast" "fixed" "LUnderLadders$Market;") (by decide +kernel)) (fun _ h9 => h9) rfl dX1_weightOf_8 ?_
  refine va_getN (D := (dC, dI)) (ci := 2) (v := .int (K 0 1)) (C := RX2) (T := TX2) (N := 9) hx hb hts hin2 hown hK hP 19 rfl rfl 8 (by decide) (va_Nw.use rfl (hN.1 (RX1, 109, "UnderLadders$Market", "people", "I") (by decide +kernel))) (fun _ h9 => h9) rfl dX1_weightOf_11 ?_
  refine lv_icmp_ge (tgt := 44) hx hb dX1_weightOf_14 (by decide) (fun hc7 => ?_) (fun hc7 => ?_)
  · have h := ul_if_t hc7 h
    exact ge _ _ _ (J44 q5.1 q5.2 H locs ⟨hP, hD, hS⟩ ls (lv_sub hl [0, 1, 2, 3, 4] rfl) (hx5 (q5.1, q5.2) h))
  · have h := ul_if_f hc7 h
    refine lv_iload_n hx hb dX1_weightOf_17 rfl (lv_at hl 3 rfl) ?_
    refine lv_iload_n hx hb dX1_weightOf_18 rfl (lv_at hl 1 rfl) ?_
    refine lv_iload hx hb dX1_weightOf_19 (lv_at hl 4 rfl) ?_
    refine lv_ishr hx hb dX1_weightOf_21 ?_
    refine lv_iconst (v := 1) hx hb dX1_weightOf_22 (by decide) ?_
    refine lv_iand hx hb dX1_weightOf_23 ?_
    refine lv_iconst (v := 1) hx hb dX1_weightOf_24 (by decide) ?_
    refine lv_icmp_ne (tgt := 35) hx hb dX1_weightOf_25 (by decide) (fun hc8 => ?_) (fun hc8 => ?_)
    · have h := ul_if_f hc8 h
      refine lv_iload_n hx hb dX1_weightOf_35 rfl (lv_at hl 2 rfl) ?_
      exact ge _ _ _ (J36 q5.1 q5.2 q5.1 p2 H locs ⟨hP, hD, hS⟩ ls (lv_sub hl [0, 1, 2, 3, 4] rfl) h)
    · have h := ul_if_t hc8 h
      refine lv_bipush (v := 10) hx hb dX1_weightOf_28 (by decide) ?_
      refine lv_iload_n hx hb dX1_weightOf_30 rfl (lv_at hl 2 rfl) ?_
      refine lv_isub hx hb dX1_weightOf_31 ?_
      refine lv_goto (tgt := 36) hx hb dX1_weightOf_32 (by decide) ?_
      exact ge _ _ _ (J36 q5.1 q5.2 q5.1 ((10 : Int32) - p2) H locs ⟨hP, hD, hS⟩ ls (lv_sub hl [0, 1, 2, 3, 4] rfl) h)
def f_X1_chancesOfGold_j72 (N : ul_S) (K : ul_S) (p1 : Int32) (p2 : Int32) (p3 : Int32) (x4 : Int32) (x5 : Int32) (T__72 : ul_S) : Option (Int32 × ul_S) :=
  some (x4, T__72)
def f_X1_chancesOfGold_j66 (N : ul_S) (K : ul_S) (p1 : Int32) (p2 : Int32) (p3 : Int32) (x4 : Int32) (x5 : Int32) (T__66 : ul_S) : Option ((Int32 × Int32 × ul_S) ⊕ (Int32 × Int32 × ul_S)) :=
  ul_bd (x5 + 1) fun v1 => some (.inr (x4, v1, T__66))
def f_X1_chancesOfGold_L6 (N : ul_S) (K : ul_S) (p1 : Int32) (p2 : Int32) (p3 : Int32) (q6 : (Int32 × Int32 × ul_S)) : Option ((Int32 × Int32 × ul_S) ⊕ (Int32 × Int32 × ul_S)) :=
  if ((1 : Int32) <<< ((K 0 1) &&& 31)) ≤ q6.2.1 then (some (.inl (q6.1, q6.2.1, q6.2.2))) else ((f_X4_setTo q6.2.2 N).bind fun u4 => (f_X4_passDay u4 K q6.2.1).bind fun u5 => ul_ld (u5.2 4) 4 p1 fun v6 => if v6 < p2 then (f_X1_chancesOfGold_j66 N K p1 p2 p3 q6.1 q6.2.1 u5.2) else ((f_X1_weightOf K q6.2.1 p3).bind fun u9 => ul_bd (q6.1 + u9) fun v10 => f_X1_chancesOfGold_j66 N K p1 p2 p3 v10 q6.2.1 u5.2))
def f_X1_chancesOfGold (N : ul_S) (T : ul_S) (K : ul_S) (p1 : Int32) (p2 : Int32) (p3 : Int32) : Option (Int32 × ul_S) :=
  (ul_it ul_N (f_X1_chancesOfGold_L6 N K p1 p2 p3) ((0 : Int32), (0 : Int32), T)).bind (fun e6 => f_X1_chancesOfGold_j72 N K p1 p2 p3 e6.1 e6.2.1 e6.2.2)
set_option maxHeartbeats 4000000 in
set_option maxRecDepth 100000 in
theorem c_X1_chancesOfGold (l : Launch) (dC : Nat → ClassId) (dI : Nat → Nat → Nat) (cI : ClassId) (aF : Nat → Nat) (aN : Nat → Nat) (aT : Nat → Nat) (aK : Nat → Nat) (sz : Nat) (F : ul_S) (N : ul_S) (T : ul_S) (K : ul_S) (p1 : Int32) (p2 : Int32) (p3 : Int32) (r : (Int32 × ul_S)) (h : f_X1_chancesOfGold N T K p1 p2 p3 = some r) : Met l yX1_chancesOfGold wsX1_chancesOfGold ({ frames := 4, cells := 0, slots := 0, locals := 109 }) (va_Pc [.ref (aF 0), .int p1, .int p2, .int p3] (ul_pre (dC, dI) [(cI, .int)] ul_NX sz (ul_wG cI aF (aK 0) (aN 0) (aT 0) F ++ ul_wS cI aN (aK 0) N ++ ul_wS cI aT (aK 0) T ++ ul_wK cI aK K))) (va_Qi (fun v (_ : Unit) => v = r.1) (fun _ => ul_post (dC, dI) [(cI, .int)] (va_A (ul_wG cI aF (aK 0) (aN 0) (aT 0) F ++ ul_wS cI aN (aK 0) N ++ ul_wS cI aT (aK 0) T ++ ul_wK cI aK K) sz) (ul_wG cI aF (aK 0) (aN 0) (aT 0) F ++ ul_wS cI aN (aK 0) N ++ ul_wS cI aT (aK 0) r.2 ++ ul_wK cI aK K)) (va_A (ul_wG cI aF (aK 0) (aN 0) (aT 0) F ++ ul_wS cI aN (aK 0) N ++ ul_wS cI aT (aK 0) T ++ ul_wK cI aK K) sz)) 0 0 (va_A (ul_wG cI aF (aK 0) (aN 0) (aT 0) F ++ ul_wS cI aN (aK 0) N ++ ul_wS cI aT (aK 0) T ++ ul_wK cI aK K) sz) := by
  refine Met.ofW (cc := cX1_chancesOfGold) (maxL := 6) (ret := (some .int)) (by decide) rfl ?_
  intro p e s m args below meth c s₁ B hml hv
  obtain ⟨rfl, hsz, hP, hK, hD0, hN⟩ := hv
  have hx := B.exec
  have hb := B.bytes
  have hr := B.returns
  have hts := atoms_spec (ws := wsX1_chancesOfGold) B.pre
  have hown : s.vm.findClass RX1 = some m.cls := findClass_of_methodNamed B.named
  have hlocks := B.notSynchronized
  have hin1 : ∀ w ∈ u_ws RX1 TX1 9, w ∈ wsX1_chancesOfGold := by decide +kernel
  have hin2 : ∀ w ∈ u_ws RX2 TX2 9, w ∈ wsX1_chancesOfGold := by decide +kernel
  have hin4 : ∀ w ∈ u_ws RX4 TX4 8, w ∈ wsX1_chancesOfGold := by decide +kernel
  subst hsz
  have hD := hD0.self (sz := s.heap.size)
  generalize hAe : va_A (ul_wG cI aF (aK 0) (aN 0) (aT 0) F ++ ul_wS cI aN (aK 0) N ++ ul_wS cI aT (aK 0) T ++ ul_wK cI aK K) s.heap.size = A at hD hN ⊢
  have hA : ∀ q : Nat, s.heap.size ≤ q → A q := fun q h => by rw [← hAe]; exact Or.inr h
  have hS : va_S A s.heap s.heap [] := va_S.rf
  have hl := lv_entry ([.ref (aF 0), .int p1, .int p2, .int p3]) (n := 6) (Nat.le_of_ble_eq_true rfl)
  rw [lg_entry_eq]
  generalize (lg_sl ([.ref (aF 0), .int p1, .int p2, .int p3]) ++ List.replicate (6 - (lg_sl ([.ref (aF 0), .int p1, .int p2, .int p3])).length) Slot.unset).toArray = ls at hl ⊢
  have hl : lv_has ls 6 [(0, .ref (aF 0)), (1, .int p1), (2, .int p2), (3, .int p3)] := hl
  obtain ⟨K0, hK0, h⟩ := ul_top h
  unfold f_X1_chancesOfGold at h
  refine ul_gen (fun G gi ge => ?_)
  obtain ⟨H, eH⟩ : ∃ z, z = s.heap := ⟨_, rfl⟩
  obtain ⟨locs, eL⟩ : ∃ z : List Loc, z = [] := ⟨_, rfl⟩
  have hP : va_P (dC, dI) classes (ul_wG cI aF (aK 0) (aN 0) (aT 0) F ++ ul_wS cI aN (aK 0) N ++ ul_wS cI aT (aK 0) T ++ ul_wK cI aK K) H := by rw [eH]; exact hP
  have hS : va_S A s.heap H locs := by rw [eH, eL]; exact hS
  rw [← eL]
  refine (show G H locs (F0 m 0 ls []) → G s.heap locs (F0 m 0 ls []) from fun z => by rw [← eH]; exact z) ?_
  have J72 : ∀ (x4 : Int32) (x5 : Int32) (T__72 : ul_S) (H : Heap) (locs : List Loc), ul_H (dC, dI) A s.heap (ul_wG cI aF (aK 0) (aN 0) (aT 0) F ++ ul_wS cI aN (aK 0) N ++ ul_wS cI aT (aK 0) T__72 ++ ul_wK cI aK K) H locs → ∀ ls : Array Slot, lv_has ls 6 [(0, .ref (aF 0)), (1, .int p1), (2, .int p2), (3, .int p3), (4, .int x4), (5, .int x5)] → (f_X1_chancesOfGold_j72 N K p1 p2 p3 x4 x5 T__72).bind K0 = some r → G H locs (F0 m 72 ls []) := by
    intro x4 x5 T__72 H locs hw ls hl h
    obtain ⟨hP, hD, hS⟩ := hw
    unfold f_X1_chancesOfGold_j72 at h
    refine gi _ _ _ ?_
    refine lv_iload hx hb dX1_chancesOfGold_72 (lv_at hl 4 rfl) ?_
    have hr9 := hK0 (x4, T__72) h
    subst hr9
    exact W.iret (v := x4) hx hb hr (fun t ht hW => ⟨⟨x4, (), rfl, rfl, by rw [ht]; exact hP, va_K.moved hW.alike hK, hD⟩, hS.F ht⟩) hS.2.2 dX1_chancesOfGold_74
  refine gi _ _ _ ?_
  refine lv_iconst (v := 0) hx hb dX1_chancesOfGold_0 (by decide) ?_
  refine lv_istore (lv' := [(4, .int (0 : Int32)), (0, .ref (aF 0)), (1, .int p1), (2, .int p2), (3, .int p3)]) hx hb dX1_chancesOfGold_1 hl (by decide) rfl (fun ls hl => ?_)
  refine lv_iconst (v := 0) hx hb dX1_chancesOfGold_3 (by decide) ?_
  refine lv_istore (lv' := [(5, .int (0 : Int32)), (4, .int (0 : Int32)), (0, .ref (aF 0)), (1, .int p1), (2, .int p2), (3, .int p3)]) hx hb dX1_chancesOfGold_4 hl (by decide) rfl (fun ls hl => ?_)
  refine ge _ _ _ (ul_loop (P := fun q6 => ∀ (H : Heap) (locs : List Loc), ul_H (dC, dI) A s.heap (ul_wG cI aF (aK 0) (aN 0) (aT 0) F ++ ul_wS cI aN (aK 0) N ++ ul_wS cI aT (aK 0) q6.2.2 ++ ul_wK cI aK K) H locs → ∀ ls : Array Slot, lv_has ls 6 [(0, .ref (aF 0)), (1, .int p1), (2, .int p2), (3, .int p3), (4, .int q6.1), (5, .int q6.2.1)] → G H locs (F0 m 6 ls [])) ?_ _ _ (ul_it_h h) H locs ⟨hP, hD, hS⟩ ls (lv_sub hl [2, 3, 4, 5, 1, 0] rfl))
  intro K6 hx6
  intro q6 ih6 h H locs hw ls hl
  have J66 : ∀ (x4 : Int32) (x5 : Int32) (T__66 : ul_S) (H : Heap) (locs : List Loc), ul_H (dC, dI) A s.heap (ul_wG cI aF (aK 0) (aN 0) (aT 0) F ++ ul_wS cI aN (aK 0) N ++ ul_wS cI aT (aK 0) T__66 ++ ul_wK cI aK K) H locs → ∀ ls : Array Slot, lv_has ls 6 [(0, .ref (aF 0)), (1, .int p1), (2, .int p2), (3, .int p3), (4, .int x4), (5, .int x5)] → (f_X1_chancesOfGold_j66 N K p1 p2 p3 x4 x5 T__66).bind K6 = some r → G H locs (F0 m 66 ls []) := by
    intro x4 x5 T__66 H locs hw ls hl h
    obtain ⟨hP, hD, hS⟩ := hw
    unfold f_X1_chancesOfGold_j66 at h
    refine gi _ _ _ ?_
    obtain ⟨v2, ev2⟩ : ∃ z : Int32, z = x5 + 1 := ⟨_, rfl⟩
    have h := ul_bd_h h v2 ev2
    refine lv_iinc (v := v2) (lv' := [(5, .int v2), (0, .ref (aF 0)), (1, .int p1), (2, .int p2), (3, .int p3), (4, .int x4)]) hx hb dX1_chancesOfGold_66 hl (k := 5) rfl (by rw [ev2]; rfl) (by decide) rfl (fun ls hl => ?_)
    refine lv_goto (tgt := 6) hx hb dX1_chancesOfGold_69 (by decide) ?_
    exact ge _ _ _ (ih6 (x4, v2, T__66) h H locs ⟨hP, hD, hS⟩ ls (lv_sub hl [1, 2, 3, 4, 5, 0] rfl))
  obtain ⟨hP, hD, hS⟩ := hw
  unfold f_X1_chancesOfGold_L6 at h
  refine gi _ _ _ ?_
  refine lv_iload hx hb dX1_chancesOfGold_6 (lv_at hl 5 rfl) ?_
  refine lv_iconst (v := 1) hx hb dX1_chancesOfGold_8 (by decide) ?_
  refine lv_aload_n hx hb dX1_chancesOfGold_9 rfl (lv_at hl 0 rfl) ?_
  refine va_get (D := (dC, dI)) (ci := 1) (v := .ref (aK 0)) (C := RX1) (T := TX1) (N := 9) hx hb hts hin1 hown hK hP 0 rfl rfl 0 (by decide) (hts (.fieldLink RX1 9 "UnderLadders$Forecast" "fixed" "LUnderLadders$Market;") (by decide +kernel)) (fun _ h9 => h9) rfl dX1_chancesOfGold_10 ?_
  refine va_getN (D := (dC, dI)) (ci := 2) (v := .int (K 0 1)) (C := RX2) (T := TX2) (N := 9) hx hb hts hin2 hown hK hP 19 rfl rfl 8 (by decide) (va_Nw.use rfl (hN.1 (RX1, 109, "UnderLadders$Market", "people", "I") (by decide +kernel))) (fun _ h9 => h9) rfl dX1_chancesOfGold_13 ?_
  refine lv_ishl hx hb dX1_chancesOfGold_16 ?_
  refine lv_icmp_ge (tgt := 72) hx hb dX1_chancesOfGold_17 (by decide) (fun hc11 => ?_) (fun hc11 => ?_)
  · have h := ul_if_t hc11 h
    exact ge _ _ _ (J72 q6.1 q6.2.1 q6.2.2 H locs ⟨hP, hD, hS⟩ ls (lv_sub hl [0, 1, 2, 3, 4, 5] rfl) (hx6 (q6.1, q6.2.1, q6.2.2) h))
  · have h := ul_if_f hc11 h
    refine lv_aload_n hx hb dX1_chancesOfGold_20 rfl (lv_at hl 0 rfl) ?_
    refine va_get (D := (dC, dI)) (ci := 1) (v := .ref (aT 0)) (C := RX1) (T := TX1) (N := 9) hx hb hts hin1 hown hK hP 0 rfl rfl 2 (by decide) (hts (.fieldLink RX1 19 "UnderLadders$Forecast" "trial" "LUnderLadders$Street;") (by decide +kernel)) (fun _ h9 => h9) rfl dX1_chancesOfGold_21 ?_
    refine lv_aload_n hx hb dX1_chancesOfGold_24 rfl (lv_at hl 0 rfl) ?_
    refine va_get (D := (dC, dI)) (ci := 1) (v := .ref (aN 0)) (C := RX1) (T := TX1) (N := 9) hx hb hts hin1 hown hK hP 0 rfl rfl 1 (by decide) (hts (.fieldLink RX1 15 "UnderLadders$Forecast" "now" "LUnderLadders$Street;") (by decide +kernel)) (fun _ h9 => h9) rfl dX1_chancesOfGold_25 ?_
    obtain ⟨u12, hu12, h⟩ := ul_cl_h h
    refine ul_cVv (As := [.ref (aN 0)]) (rest := []) (wc' := (ul_wS cI aT (aK 0) u12 ++ ul_wS cI aN (aK 0) N)) (wr := (ul_wG cI aF (aK 0) (aN 0) (aT 0) F ++ ul_wK cI aK K)) hP hD hS hK hA [12, 13, 14, 15, 16, 17, 18, 5, 6, 7, 8, 9, 10, 11] [0, 1, 2, 3, 4, 19, 20, 21, 22, 23, 24, 25, 26] [0] ul_NX_ok hN (c_X4_setTo l dC dI cI aT aN aK H.size q6.2.2 N u12 hu12) rfl rfl (by decide) rfl (by decide) (by decide) rfl ⟨hx, hb, hml, hown, hts⟩ (cwV 1 hts gX1_chancesOfGold_X4_setTo rfl rfl rfl (by decide +kernel) ⟨Nat.le_of_ble_eq_true rfl, Nat.le_of_ble_eq_true rfl⟩) (va_recv hK hP (ci := 4) (q0 := 12) rfl rfl) rfl hl.1 rfl (Nat.le_of_ble_eq_true rfl) dX1_chancesOfGold_28 (fun H locs hw => ?_)
    have hw := hw.re (w' := (ul_wG cI aF (aK 0) (aN 0) (aT 0) F ++ ul_wS cI aN (aK 0) N ++ ul_wS cI aT (aK 0) u12 ++ ul_wK cI aK K)) [0, 1, 2, 3, 4, 20, 21, 22, 23, 24, 25, 26, 13, 14, 15, 16, 17, 18, 19, 5, 6, 7, 8, 9, 10, 11, 12] (by decide) rfl rfl
    obtain ⟨hP, hD, hS⟩ := hw
    refine lv_aload_n hx hb dX1_chancesOfGold_31 rfl (lv_at hl 0 rfl) ?_
    refine va_get (D := (dC, dI)) (ci := 1) (v := .ref (aT 0)) (C := RX1) (T := TX1) (N := 9) hx hb hts hin1 hown hK hP 0 rfl rfl 2 (by decide) (hts (.fieldLink RX1 19 "UnderLadders$Forecast" "trial" "LUnderLadders$Street;") (by decide +kernel)) (fun _ h9 => h9) rfl dX1_chancesOfGold_32 ?_
    refine lv_iload hx hb dX1_chancesOfGold_35 (lv_at hl 5 rfl) ?_
    obtain ⟨u13, hu13, h⟩ := ul_cl_h h
    refine ul_cVi (As := [.int q6.2.1]) (rest := []) (wc' := (ul_wS cI aT (aK 0) u13.2 ++ ul_wK cI aK K)) (wr := (ul_wG cI aF (aK 0) (aN 0) (aT 0) F ++ ul_wS cI aN (aK 0) N)) hP hD hS hK hA [12, 13, 14, 15, 16, 17, 18, 19, 20, 21, 22, 23, 24, 25, 26] [0, 1, 2, 3, 4, 5, 6, 7, 8, 9, 10, 11] [0] ul_NX_ok hN (c_X4_passDay l dC dI cI aT aK H.size u12 K q6.2.1 u13 hu13) rfl rfl (by decide) rfl (by decide) (by decide) rfl ⟨hx, hb, hml, hown, hts⟩ (cwV 1 hts gX1_chancesOfGold_X4_passDay rfl rfl rfl (by decide +kernel) ⟨Nat.le_of_ble_eq_true rfl, Nat.le_of_ble_eq_true rfl⟩) (va_recv hK hP (ci := 4) (q0 := 12) rfl rfl) rfl hl.1 rfl (Nat.le_of_ble_eq_true rfl) dX1_chancesOfGold_37 (fun H locs hw => ?_)
    have hw := hw.re (w' := (ul_wG cI aF (aK 0) (aN 0) (aT 0) F ++ ul_wS cI aN (aK 0) N ++ ul_wS cI aT (aK 0) u13.2 ++ ul_wK cI aK K)) [0, 1, 2, 3, 4, 5, 6, 7, 8, 9, 10, 11, 12, 13, 14, 15, 16, 17, 18, 19, 20, 21, 22, 23, 24, 25, 26] (by decide) rfl rfl
    obtain ⟨hP, hD, hS⟩ := hw
    refine lv_pop hx hb dX1_chancesOfGold_40 rfl ?_
    refine lv_aload_n hx hb dX1_chancesOfGold_41 rfl (lv_at hl 0 rfl) ?_
    refine va_get (D := (dC, dI)) (ci := 1) (v := .ref (aT 0)) (C := RX1) (T := TX1) (N := 9) hx hb hts hin1 hown hK hP 0 rfl rfl 2 (by decide) (hts (.fieldLink RX1 19 "UnderLadders$Forecast" "trial" "LUnderLadders$Street;") (by decide +kernel)) (fun _ h9 => h9) rfl dX1_chancesOfGold_42 ?_
    refine va_getN (D := (dC, dI)) (ci := 4) (v := .ref (aT 4)) (C := RX4) (T := TX4) (N := 8) hx hb hts hin4 hown hK hP 12 rfl rfl 4 (by decide) (va_Nw.use rfl (hN.1 (RX1, 66, "UnderLadders$Street", "manGold", "[I") (by decide +kernel))) (fun _ h9 => h9) rfl dX1_chancesOfGold_45 ?_
    refine lv_iload_n hx hb dX1_chancesOfGold_48 rfl (lv_at hl 1 rfl) ?_
    obtain ⟨hi15, h⟩ := ul_ld_h h
    refine va_iald hx hb hK hP 16 0 rfl rfl hi15 dX1_chancesOfGold_49 ?_
    refine lv_topi (fun v14 ev14 => ?_)
    have h := h v14 ev14
    refine lv_iload_n hx hb dX1_chancesOfGold_50 rfl (lv_at hl 2 rfl) ?_
    refine lv_icmp_lt (tgt := 66) hx hb dX1_chancesOfGold_51 (by decide) (fun hc16 => ?_) (fun hc16 => ?_)
    · have h := ul_if_t hc16 h
      exact ge _ _ _ (J66 q6.1 q6.2.1 u13.2 H locs ⟨hP, hD, hS⟩ ls (lv_sub hl [0, 1, 2, 3, 4, 5] rfl) h)
    · have h := ul_if_f hc16 h
      refine lv_iload hx hb dX1_chancesOfGold_54 (lv_at hl 4 rfl) ?_
      refine lv_aload_n hx hb dX1_chancesOfGold_56 rfl (lv_at hl 0 rfl) ?_
      refine lv_iload hx hb dX1_chancesOfGold_57 (lv_at hl 5 rfl) ?_
      refine lv_iload_n hx hb dX1_chancesOfGold_59 rfl (lv_at hl 3 rfl) ?_
      obtain ⟨u17, hu17, h⟩ := ul_cl_h h
      refine ul_cVi (As := [.int q6.2.1, .int p3]) (rest := [.int q6.1]) (wc' := (ul_wG cI aF (aK 0) (aN 0) (aT 0) F ++ ul_wS cI aN (aK 0) N ++ ul_wS cI aT (aK 0) u13.2 ++ ul_wK cI aK K)) (wr := []) hP hD hS hK hA [0, 1, 2, 3, 4, 5, 6, 7, 8, 9, 10, 11, 12, 13, 14, 15, 16, 17, 18, 19, 20, 21, 22, 23, 24, 25, 26] [] [0] ul_NX_ok hN (c_X1_weightOf l dC dI cI aF aN aT aK H.size F N u13.2 K q6.2.1 p3 u17 hu17) rfl rfl (by decide) rfl (by decide) (by decide) rfl ⟨hx, hb, hml, hown, hts⟩ (cwV 2 hts gX1_chancesOfGold_X1_weightOf rfl rfl rfl (by decide +kernel) ⟨Nat.le_of_ble_eq_true rfl, Nat.le_of_ble_eq_true rfl⟩) (va_recv hK hP (ci := 1) (q0 := 0) rfl rfl) rfl hl.1 rfl (Nat.le_of_ble_eq_true rfl) dX1_chancesOfGold_60 (fun H locs hw => ?_)
      obtain ⟨hP, hD, hS⟩ := hw
      have hP : va_P (dC, dI) classes (ul_wG cI aF (aK 0) (aN 0) (aT 0) F ++ ul_wS cI aN (aK 0) N ++ ul_wS cI aT (aK 0) u13.2 ++ ul_wK cI aK K) H := hP
      have hD : va_D A (ul_wG cI aF (aK 0) (aN 0) (aT 0) F ++ ul_wS cI aN (aK 0) N ++ ul_wS cI aT (aK 0) u13.2 ++ ul_wK cI aK K) := hD
      refine lv_iadd hx hb dX1_chancesOfGold_63 ?_
      refine lv_topi (fun v18 ev18 => ?_)
      have h := ul_bd_h h v18 ev18
      refine lv_istore (lv' := [(4, .int v18), (0, .ref (aF 0)), (1, .int p1), (2, .int p2), (3, .int p3), (5, .int q6.2.1)]) hx hb dX1_chancesOfGold_64 hl (by decide) rfl (fun ls hl => ?_)
      exact ge _ _ _ (J66 v18 q6.2.1 u13.2 H locs ⟨hP, hD, hS⟩ ls (lv_sub hl [1, 2, 3, 4, 0, 5] rfl) h)
