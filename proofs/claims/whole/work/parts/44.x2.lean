def f_X2_isTold_j28 (K : ul_S) (p1 : Int32) (x2 : Int32) : Option Int32 :=
  some (0 : Int32)
def f_X2_isTold_L2 (K : ul_S) (p1 : Int32) (q2 : Int32) : Option ((Int32 ⊕ Int32) ⊕ Int32) :=
  if (K 0 0) ≤ q2 then (some (.inl (.inr q2))) else (ul_ld (K 1) 4 q2 fun v2 => if v2 = p1 then (some (.inl (.inl (1 : Int32)))) else (ul_bd (q2 + 1) fun v5 => some (.inr v5)))
def f_X2_isTold (K : ul_S) (p1 : Int32) : Option Int32 :=
  (ul_it ul_N (f_X2_isTold_L2 K p1) (0 : Int32)).bind (Sum.elim (fun z => some z) (fun e2 => f_X2_isTold_j28 K p1 e2))
set_option maxHeartbeats 4000000 in
set_option maxRecDepth 100000 in
theorem c_X2_isTold (l : Launch) (dC : Nat → ClassId) (dI : Nat → Nat → Nat) (cI : ClassId) (aK : Nat → Nat) (sz : Nat) (K : ul_S) (p1 : Int32) (r : Int32) (h : f_X2_isTold K p1 = some r) : Met l yX2_isTold wsX2_isTold ({ frames := 0, cells := 0, slots := 0, locals := 0 }) (va_Pc [.ref (aK 0), .int p1] (ul_pre (dC, dI) [(cI, .int)] ul_NX sz (ul_wK cI aK K))) (va_Qi (fun v (_ : Unit) => v = r) (fun _ => ul_post (dC, dI) [(cI, .int)] (va_A (ul_wK cI aK K) sz) (ul_wK cI aK K)) (va_A (ul_wK cI aK K) sz)) 0 0 (va_A (ul_wK cI aK K) sz) := by
  refine Met.ofW (cc := cX2_isTold) (maxL := 3) (ret := (some .boolean)) (by decide) rfl ?_
  intro p e s m args below meth c s₁ B hml hv
  obtain ⟨rfl, hsz, hP, hK, hD0, hN⟩ := hv
  have hx := B.exec
  have hb := B.bytes
  have hr := B.returns
  have hts := atoms_spec (ws := wsX2_isTold) B.pre
  have hown : s.vm.findClass RX2 = some m.cls := findClass_of_methodNamed B.named
  have hlocks := B.notSynchronized
  have hin2 : ∀ w ∈ u_ws RX2 TX2 9, w ∈ wsX2_isTold := by decide +kernel
  subst hsz
  have hD := hD0.self (sz := s.heap.size)
  generalize hAe : va_A (ul_wK cI aK K) s.heap.size = A at hD hN ⊢
  have hA : ∀ q : Nat, s.heap.size ≤ q → A q := fun q h => by rw [← hAe]; exact Or.inr h
  have hS : va_S A s.heap s.heap [] := va_S.rf
  have hl := lv_entry ([.ref (aK 0), .int p1]) (n := 3) (Nat.le_of_ble_eq_true rfl)
  rw [lg_entry_eq]
  generalize (lg_sl ([.ref (aK 0), .int p1]) ++ List.replicate (3 - (lg_sl ([.ref (aK 0), .int p1])).length) Slot.unset).toArray = ls at hl ⊢
  have hl : lv_has ls 3 [(0, .ref (aK 0)), (1, .int p1)] := hl
  obtain ⟨K0, hK0, h⟩ := ul_top h
  unfold f_X2_isTold at h
  refine ul_gen (fun G gi ge => ?_)
  obtain ⟨H, eH⟩ : ∃ z, z = s.heap := ⟨_, rfl⟩
  obtain ⟨locs, eL⟩ : ∃ z : List Loc, z = [] := ⟨_, rfl⟩
  have hP : va_P (dC, dI) classes (ul_wK cI aK K) H := by rw [eH]; exact hP
  have hS : va_S A s.heap H locs := by rw [eH, eL]; exact hS
  rw [← eL]
  refine (show G H locs (F0 m 0 ls []) → G s.heap locs (F0 m 0 ls []) from fun z => by rw [← eH]; exact z) ?_
  have J28 : ∀ (x2 : Int32) (H : Heap) (locs : List Loc), ul_H (dC, dI) A s.heap (ul_wK cI aK K) H locs → ∀ ls : Array Slot, lv_has ls 3 [(0, .ref (aK 0)), (1, .int p1), (2, .int x2)] → (f_X2_isTold_j28 K p1 x2).bind K0 = some r → G H locs (F0 m 28 ls []) := by
    intro x2 H locs hw ls hl h
    obtain ⟨hP, hD, hS⟩ := hw
    unfold f_X2_isTold_j28 at h
    refine gi _ _ _ ?_
    refine lv_iconst (v := 0) hx hb dX2_isTold_28 (by decide) ?_
    have hr9 := hK0 (0 : Int32) h
    subst hr9
    exact W.zret (v := (0 : Int32)) hx hb hr (by decide) (fun t ht hW => ⟨⟨(0 : Int32), (), rfl, rfl, by rw [ht]; exact hP, va_K.moved hW.alike hK, hD⟩, hS.F ht⟩) hS.2.2 dX2_isTold_29
  refine gi _ _ _ ?_
  refine lv_iconst (v := 0) hx hb dX2_isTold_0 (by decide) ?_
  refine lv_istore_n (lv' := [(2, .int (0 : Int32)), (0, .ref (aK 0)), (1, .int p1)]) hx hb dX2_isTold_1 rfl hl (by decide) rfl (fun ls hl => ?_)
  refine ge _ _ _ (ul_loop (P := fun q2 => ∀ (H : Heap) (locs : List Loc), ul_H (dC, dI) A s.heap (ul_wK cI aK K) H locs → ∀ ls : Array Slot, lv_has ls 3 [(0, .ref (aK 0)), (1, .int p1), (2, .int q2)] → G H locs (F0 m 2 ls [])) ?_ _ _ (ul_it_h h) H locs ⟨hP, hD, hS⟩ ls (lv_sub hl [1, 2, 0] rfl))
  intro K2 hx2
  intro q2 ih2 h H locs hw ls hl
  obtain ⟨hP, hD, hS⟩ := hw
  unfold f_X2_isTold_L2 at h
  refine gi _ _ _ ?_
  refine lv_iload_n hx hb dX2_isTold_2 rfl (lv_at hl 2 rfl) ?_
  refine lv_aload_n hx hb dX2_isTold_3 rfl (lv_at hl 0 rfl) ?_
  refine va_get (D := (dC, dI)) (ci := 2) (v := .int (K 0 0)) (C := RX2) (T := TX2) (N := 9) hx hb hts hin2 hown hK hP 0 rfl rfl 7 (by decide) (hts (.fieldLink RX2 33 "UnderLadders$Market" "ladders" "I") (by decide +kernel)) (fun _ h9 => h9) rfl dX2_isTold_4 ?_
  refine lv_icmp_ge (tgt := 28) hx hb dX2_isTold_7 (by decide) (fun hc6 => ?_) (fun hc6 => ?_)
  · have h := ul_if_t hc6 h
    exact ge _ _ _ (J28 q2 H locs ⟨hP, hD, hS⟩ ls (lv_sub hl [0, 1, 2] rfl) (hx2 (.inr q2) h))
  · have h := ul_if_f hc6 h
    refine lv_aload_n hx hb dX2_isTold_10 rfl (lv_at hl 0 rfl) ?_
    refine va_get (D := (dC, dI)) (ci := 2) (v := .ref (aK 1)) (C := RX2) (T := TX2) (N := 9) hx hb hts hin2 hown hK hP 0 rfl rfl 0 (by decide) (hts (.fieldLink RX2 9 "UnderLadders$Market" "firstStand" "[I") (by decide +kernel)) (fun _ h9 => h9) rfl dX2_isTold_11 ?_
    refine lv_iload_n hx hb dX2_isTold_14 rfl (lv_at hl 2 rfl) ?_
    obtain ⟨hi8, h⟩ := ul_ld_h h
    refine va_iald hx hb hK hP 1 0 rfl rfl hi8 dX2_isTold_15 ?_
    refine lv_topi (fun v7 ev7 => ?_)
    have h := h v7 ev7
    refine lv_iload_n hx hb dX2_isTold_16 rfl (lv_at hl 1 rfl) ?_
    refine lv_icmp_ne (tgt := 22) hx hb dX2_isTold_17 (by decide) (fun hc9 => ?_) (fun hc9 => ?_)
    · have h := ul_if_f hc9 h
      obtain ⟨v10, ev10⟩ : ∃ z : Int32, z = q2 + 1 := ⟨_, rfl⟩
      have h := ul_bd_h h v10 ev10
      refine lv_iinc (v := v10) (lv' := [(2, .int v10), (0, .ref (aK 0)), (1, .int p1)]) hx hb dX2_isTold_22 hl (k := 2) rfl (by rw [ev10]; rfl) (by decide) rfl (fun ls hl => ?_)
      refine lv_goto (tgt := 2) hx hb dX2_isTold_25 (by decide) ?_
      exact ge _ _ _ (ih2 v10 h H locs ⟨hP, hD, hS⟩ ls (lv_sub hl [1, 2, 0] rfl))
    · have h := ul_if_t hc9 h
      refine lv_iconst (v := 1) hx hb dX2_isTold_20 (by decide) ?_
      have hr9 := hK0 (1 : Int32) (hx2 (.inl (1 : Int32)) h)
      subst hr9
      exact W.zret (v := (1 : Int32)) hx hb hr (by decide) (fun t ht hW => ⟨⟨(1 : Int32), (), rfl, rfl, by rw [ht]; exact hP, va_K.moved hW.alike hK, hD⟩, hS.F ht⟩) hS.2.2 dX2_isTold_21
def f_X2_readLadder_j73 (L : ul_S) (p2 : Int32) (x3 : Int32) (x4 : Int32) (x5 : Int32) (K__73 : ul_S) : Option (Int32 × ul_S) :=
  some ((p2 + (3 : Int32)), K__73)
def f_X2_readLadder_j30 (L : ul_S) (p2 : Int32) (x3 : Int32) (K__30 : ul_S) : Option (Int32 × ul_S) :=
  some ((p2 + (1 : Int32)), K__30)
def f_X2_readLadder (K : ul_S) (L : ul_S) (p2 : Int32) : Option (Int32 × ul_S) :=
  if (K 0 0) < (4 : Int32) then ((f_X5_figureAt L (p2 + (1 : Int32))).bind fun u2 => if u2 < 0 then (f_X2_readLadder_j30 L p2 u2 K) else ((f_X2_isTold K u2).bind fun u4 => if u4 = 0 then ((f_X5_figureAt L (p2 + (2 : Int32))).bind fun u6 => if (1 : Int32) ≤ u6 then ((f_X5_figureAt L (p2 + (3 : Int32))).bind fun u8 => if u8 < 0 then (f_X2_readLadder_j73 L p2 u2 u6 u8 K) else (if u8 ≤ (3 : Int32) then (ul_st K 1 4 (K 0 0) u2 fun K11 => ul_st K11 2 4 (K11 0 0) u6 fun K13 => ul_st K13 3 4 (K13 0 0) u8 fun K15 => ul_bd ((K15 0 0) + (1 : Int32)) fun v17 => ul_bd (ul_up K15 0 0 v17) fun K18 => some ((-9 : Int32), K18)) else (f_X2_readLadder_j73 L p2 u2 u6 u8 K))) else (some ((p2 + (2 : Int32)), K))) else (f_X2_readLadder_j30 L p2 u2 K))) else (some (p2, K))
set_option maxHeartbeats 4000000 in
set_option maxRecDepth 100000 in
theorem c_X2_readLadder (l : Launch) (dC : Nat → ClassId) (dI : Nat → Nat → Nat) (cI : ClassId) (aK : Nat → Nat) (aL : Nat → Nat) (sz : Nat) (K : ul_S) (L : ul_S) (p2 : Int32) (r : (Int32 × ul_S)) (h : f_X2_readLadder K L p2 = some r) : Met l yX2_readLadder wsX2_readLadder ({ frames := 2, cells := 0, slots := 0, locals := 43 }) (va_Pc [.ref (aK 0), .ref (aL 0), .int p2] (ul_pre (dC, dI) [(cI, .int)] ul_NX sz (ul_wK cI aK K ++ ul_wL cI aL L))) (va_Qi (fun v (_ : Unit) => v = r.1) (fun _ => ul_post (dC, dI) [(cI, .int)] (va_A (ul_wK cI aK K ++ ul_wL cI aL L) sz) (ul_wK cI aK r.2 ++ ul_wL cI aL L)) (va_A (ul_wK cI aK K ++ ul_wL cI aL L) sz)) 0 0 (va_A (ul_wK cI aK K ++ ul_wL cI aL L) sz) := by
  refine Met.ofW (cc := cX2_readLadder) (maxL := 6) (ret := (some .int)) (by decide) rfl ?_
  intro p e s m args below meth c s₁ B hml hv
  obtain ⟨rfl, hsz, hP, hK, hD0, hN⟩ := hv
  have hx := B.exec
  have hb := B.bytes
  have hr := B.returns
  have hts := atoms_spec (ws := wsX2_readLadder) B.pre
  have hown : s.vm.findClass RX2 = some m.cls := findClass_of_methodNamed B.named
  have hlocks := B.notSynchronized
  have hin2 : ∀ w ∈ u_ws RX2 TX2 9, w ∈ wsX2_readLadder := by decide +kernel
  subst hsz
  have hD := hD0.self (sz := s.heap.size)
  generalize hAe : va_A (ul_wK cI aK K ++ ul_wL cI aL L) s.heap.size = A at hD hN ⊢
  have hA : ∀ q : Nat, s.heap.size ≤ q → A q := fun q h => by rw [← hAe]; exact Or.inr h
  have hS : va_S A s.heap s.heap [] := va_S.rf
  have hl := lv_entry ([.ref (aK 0), .ref (aL 0), .int p2]) (n := 6) (Nat.le_of_ble_eq_true rfl)
  rw [lg_entry_eq]
  generalize (lg_sl ([.ref (aK 0), .ref (aL 0), .int p2]) ++ List.replicate (6 - (lg_sl ([.ref (aK 0), .ref (aL 0), .int p2])).length) Slot.unset).toArray = ls at hl ⊢
  have hl : lv_has ls 6 [(0, .ref (aK 0)), (1, .ref (aL 0)), (2, .int p2)] := hl
  obtain ⟨K0, hK0, h⟩ := ul_top h
  unfold f_X2_readLadder at h
  refine ul_gen (fun G gi ge => ?_)
  obtain ⟨H, eH⟩ : ∃ z, z = s.heap := ⟨_, rfl⟩
  obtain ⟨locs, eL⟩ : ∃ z : List Loc, z = [] := ⟨_, rfl⟩
  have hP : va_P (dC, dI) classes (ul_wK cI aK K ++ ul_wL cI aL L) H := by rw [eH]; exact hP
  have hS : va_S A s.heap H locs := by rw [eH, eL]; exact hS
  rw [← eL]
  refine (show G H locs (F0 m 0 ls []) → G s.heap locs (F0 m 0 ls []) from fun z => by rw [← eH]; exact z) ?_
  have J73 : ∀ (x3 : Int32) (x4 : Int32) (x5 : Int32) (K__73 : ul_S) (H : Heap) (locs : List Loc), ul_H (dC, dI) A s.heap (ul_wK cI aK K__73 ++ ul_wL cI aL L) H locs → ∀ ls : Array Slot, lv_has ls 6 [(0, .ref (aK 0)), (1, .ref (aL 0)), (2, .int p2), (3, .int x3), (4, .int x4), (5, .int x5)] → (f_X2_readLadder_j73 L p2 x3 x4 x5 K__73).bind K0 = some r → G H locs (F0 m 73 ls []) := by
    intro x3 x4 x5 K__73 H locs hw ls hl h
    obtain ⟨hP, hD, hS⟩ := hw
    unfold f_X2_readLadder_j73 at h
    refine gi _ _ _ ?_
    refine lv_iload_n hx hb dX2_readLadder_73 rfl (lv_at hl 2 rfl) ?_
    refine lv_iconst (v := 3) hx hb dX2_readLadder_74 (by decide) ?_
    refine lv_iadd hx hb dX2_readLadder_75 ?_
    have hr9 := hK0 ((p2 + (3 : Int32)), K__73) h
    subst hr9
    exact W.iret (v := (p2 + (3 : Int32))) hx hb hr (fun t ht hW => ⟨⟨(p2 + (3 : Int32)), (), rfl, rfl, by rw [ht]; exact hP, va_K.moved hW.alike hK, hD⟩, hS.F ht⟩) hS.2.2 dX2_readLadder_76
  have J30 : ∀ (x3 : Int32) (K__30 : ul_S) (H : Heap) (locs : List Loc), ul_H (dC, dI) A s.heap (ul_wK cI aK K__30 ++ ul_wL cI aL L) H locs → ∀ ls : Array Slot, lv_has ls 6 [(0, .ref (aK 0)), (1, .ref (aL 0)), (2, .int p2), (3, .int x3)] → (f_X2_readLadder_j30 L p2 x3 K__30).bind K0 = some r → G H locs (F0 m 30 ls []) := by
    intro x3 K__30 H locs hw ls hl h
    obtain ⟨hP, hD, hS⟩ := hw
    unfold f_X2_readLadder_j30 at h
    refine gi _ _ _ ?_
    refine lv_iload_n hx hb dX2_readLadder_30 rfl (lv_at hl 2 rfl) ?_
    refine lv_iconst (v := 1) hx hb dX2_readLadder_31 (by decide) ?_
    refine lv_iadd hx hb dX2_readLadder_32 ?_
    have hr9 := hK0 ((p2 + (1 : Int32)), K__30) h
    subst hr9
    exact W.iret (v := (p2 + (1 : Int32))) hx hb hr (fun t ht hW => ⟨⟨(p2 + (1 : Int32)), (), rfl, rfl, by rw [ht]; exact hP, va_K.moved hW.alike hK, hD⟩, hS.F ht⟩) hS.2.2 dX2_readLadder_33
  refine gi _ _ _ ?_
  refine lv_aload_n hx hb dX2_readLadder_0 rfl (lv_at hl 0 rfl) ?_
  refine va_get (D := (dC, dI)) (ci := 2) (v := .int (K 0 0)) (C := RX2) (T := TX2) (N := 9) hx hb hts hin2 hown hK hP 0 rfl rfl 7 (by decide) (hts (.fieldLink RX2 33 "UnderLadders$Market" "ladders" "I") (by decide +kernel)) (fun _ h9 => h9) rfl dX2_readLadder_1 ?_
  refine lv_iconst (v := 4) hx hb dX2_readLadder_4 (by decide) ?_
  refine lv_icmp_lt (tgt := 10) hx hb dX2_readLadder_5 (by decide) (fun hc1 => ?_) (fun hc1 => ?_)
  · have h := ul_if_t hc1 h
    refine lv_aload_n hx hb dX2_readLadder_10 rfl (lv_at hl 1 rfl) ?_
    refine lv_iload_n hx hb dX2_readLadder_11 rfl (lv_at hl 2 rfl) ?_
    refine lv_iconst (v := 1) hx hb dX2_readLadder_12 (by decide) ?_
    refine lv_iadd hx hb dX2_readLadder_13 ?_
    obtain ⟨u2, hu2, h⟩ := ul_cl_h h
    refine ul_cVi (As := [.int (p2 + (1 : Int32))]) (rest := []) (wc' := (ul_wL cI aL L)) (wr := (ul_wK cI aK K)) hP hD hS hK hA [8, 9] [0, 1, 2, 3, 4, 5, 6, 7] [0] ul_NX_ok hN (c_X5_figureAt l dC dI cI aL H.size L (p2 + (1 : Int32)) u2 hu2) rfl rfl (by decide) rfl (by decide) (by decide) rfl ⟨hx, hb, hml, hown, hts⟩ (cwV 1 hts gX2_readLadder_X5_figureAt rfl rfl rfl (by decide +kernel) ⟨Nat.le_of_ble_eq_true rfl, Nat.le_of_ble_eq_true rfl⟩) (va_recv hK hP (ci := 5) (q0 := 8) rfl rfl) rfl hl.1 rfl (Nat.le_of_ble_eq_true rfl) dX2_readLadder_14 (fun H locs hw => ?_)
    have hw := hw.re (w' := (ul_wK cI aK K ++ ul_wL cI aL L)) [0, 1, 2, 3, 4, 5, 6, 7, 8, 9] (by decide) rfl rfl
    obtain ⟨hP, hD, hS⟩ := hw
    refine lv_istore_n (lv' := [(3, .int u2), (0, .ref (aK 0)), (1, .ref (aL 0)), (2, .int p2)]) hx hb dX2_readLadder_17 rfl hl (by decide) rfl (fun ls hl => ?_)
    refine lv_iload_n hx hb dX2_readLadder_18 rfl (lv_at hl 0 rfl) ?_
    refine lv_if_lt (tgt := 30) hx hb dX2_readLadder_19 (by decide) (fun hc3 => ?_) (fun hc3 => ?_)
    · have h := ul_if_t hc3 h
      exact ge _ _ _ (J30 u2 K H locs ⟨hP, hD, hS⟩ ls (lv_sub hl [1, 2, 3, 0] rfl) h)
    · have h := ul_if_f hc3 h
      refine lv_aload_n hx hb dX2_readLadder_22 rfl (lv_at hl 1 rfl) ?_
      refine lv_iload_n hx hb dX2_readLadder_23 rfl (lv_at hl 0 rfl) ?_
      obtain ⟨u4, hu4, h⟩ := ul_cl_h h
      refine ul_cVi (As := [.int u2]) (rest := []) (wc' := (ul_wK cI aK K)) (wr := (ul_wL cI aL L)) hP hD hS hK hA [0, 1, 2, 3, 4, 5, 6, 7] [8, 9] [0] ul_NX_ok hN (c_X2_isTold l dC dI cI aK H.size K u2 u4 hu4) rfl rfl (by decide) rfl (by decide) (by decide) rfl ⟨hx, hb, hml, hown, hts⟩ (cwV 1 hts gX2_readLadder_X2_isTold rfl rfl rfl (by decide +kernel) ⟨Nat.le_of_ble_eq_true rfl, Nat.le_of_ble_eq_true rfl⟩) (va_recv hK hP (ci := 2) (q0 := 0) rfl rfl) rfl hl.1 rfl (Nat.le_of_ble_eq_true rfl) dX2_readLadder_24 (fun H locs hw => ?_)
      have hw := hw.re (w' := (ul_wK cI aK K ++ ul_wL cI aL L)) [2, 3, 4, 5, 6, 7, 8, 9, 0, 1] (by decide) rfl rfl
      obtain ⟨hP, hD, hS⟩ := hw
      refine lv_if_eq (tgt := 34) hx hb dX2_readLadder_27 (by decide) (fun hc5 => ?_) (fun hc5 => ?_)
      · have h := ul_if_t hc5 h
        refine lv_aload_n hx hb dX2_readLadder_34 rfl (lv_at hl 2 rfl) ?_
        refine lv_iload_n hx hb dX2_readLadder_35 rfl (lv_at hl 3 rfl) ?_
        refine lv_iconst (v := 2) hx hb dX2_readLadder_36 (by decide) ?_
        refine lv_iadd hx hb dX2_readLadder_37 ?_
        obtain ⟨u6, hu6, h⟩ := ul_cl_h h
        refine ul_cVi (As := [.int (p2 + (2 : Int32))]) (rest := []) (wc' := (ul_wL cI aL L)) (wr := (ul_wK cI aK K)) hP hD hS hK hA [8, 9] [0, 1, 2, 3, 4, 5, 6, 7] [0] ul_NX_ok hN (c_X5_figureAt l dC dI cI aL H.size L (p2 + (2 : Int32)) u6 hu6) rfl rfl (by decide) rfl (by decide) (by decide) rfl ⟨hx, hb, hml, hown, hts⟩ (cwV 1 hts gX2_readLadder_X5_figureAt rfl rfl rfl (by decide +kernel) ⟨Nat.le_of_ble_eq_true rfl, Nat.le_of_ble_eq_true rfl⟩) (va_recv hK hP (ci := 5) (q0 := 8) rfl rfl) rfl hl.1 rfl (Nat.le_of_ble_eq_true rfl) dX2_readLadder_38 (fun H locs hw => ?_)
        have hw := hw.re (w' := (ul_wK cI aK K ++ ul_wL cI aL L)) [0, 1, 2, 3, 4, 5, 6, 7, 8, 9] (by decide) rfl rfl
        obtain ⟨hP, hD, hS⟩ := hw
        refine lv_istore (lv' := [(4, .int u6), (3, .int u2), (0, .ref (aK 0)), (1, .ref (aL 0)), (2, .int p2)]) hx hb dX2_readLadder_41 hl (by decide) rfl (fun ls hl => ?_)
        refine lv_iload hx hb dX2_readLadder_43 (lv_at hl 0 rfl) ?_
        refine lv_iconst (v := 1) hx hb dX2_readLadder_45 (by decide) ?_
        refine lv_icmp_ge (tgt := 53) hx hb dX2_readLadder_46 (by decide) (fun hc7 => ?_) (fun hc7 => ?_)
        · have h := ul_if_t hc7 h
          refine lv_aload_n hx hb dX2_readLadder_53 rfl (lv_at hl 3 rfl) ?_
          refine lv_iload_n hx hb dX2_readLadder_54 rfl (lv_at hl 4 rfl) ?_
          refine lv_iconst (v := 3) hx hb dX2_readLadder_55 (by decide) ?_
          refine lv_iadd hx hb dX2_readLadder_56 ?_
          obtain ⟨u8, hu8, h⟩ := ul_cl_h h
          refine ul_cVi (As := [.int (p2 + (3 : Int32))]) (rest := []) (wc' := (ul_wL cI aL L)) (wr := (ul_wK cI aK K)) hP hD hS hK hA [8, 9] [0, 1, 2, 3, 4, 5, 6, 7] [0] ul_NX_ok hN (c_X5_figureAt l dC dI cI aL H.size L (p2 + (3 : Int32)) u8 hu8) rfl rfl (by decide) rfl (by decide) (by decide) rfl ⟨hx, hb, hml, hown, hts⟩ (cwV 1 hts gX2_readLadder_X5_figureAt rfl rfl rfl (by decide +kernel) ⟨Nat.le_of_ble_eq_true rfl, Nat.le_of_ble_eq_true rfl⟩) (va_recv hK hP (ci := 5) (q0 := 8) rfl rfl) rfl hl.1 rfl (Nat.le_of_ble_eq_true rfl) dX2_readLadder_57 (fun H locs hw => ?_)
          have hw := hw.re (w' := (ul_wK cI aK K ++ ul_wL cI aL L)) [0, 1, 2, 3, 4, 5, 6, 7, 8, 9] (by decide) rfl rfl
          obtain ⟨hP, hD, hS⟩ := hw
          refine lv_istore (lv' := [(5, .int u8), (4, .int u6), (3, .int u2), (0, .ref (aK 0)), (1, .ref (aL 0)), (2, .int p2)]) hx hb dX2_readLadder_60 hl (by decide) rfl (fun ls hl => ?_)
          refine lv_iload hx hb dX2_readLadder_62 (lv_at hl 0 rfl) ?_
          refine lv_if_lt (tgt := 73) hx hb dX2_readLadder_64 (by decide) (fun hc9 => ?_) (fun hc9 => ?_)
          · have h := ul_if_t hc9 h
            exact ge _ _ _ (J73 u2 u6 u8 K H locs ⟨hP, hD, hS⟩ ls (lv_sub hl [3, 4, 5, 2, 1, 0] rfl) h)
          · have h := ul_if_f hc9 h
            refine lv_iload hx hb dX2_readLadder_67 (lv_at hl 0 rfl) ?_
            refine lv_iconst (v := 3) hx hb dX2_readLadder_69 (by decide) ?_
            refine lv_icmp_le (tgt := 77) hx hb dX2_readLadder_70 (by decide) (fun hc10 => ?_) (fun hc10 => ?_)
            · have h := ul_if_t hc10 h
              refine lv_aload_n hx hb dX2_readLadder_77 rfl (lv_at hl 3 rfl) ?_
              refine va_get (D := (dC, dI)) (ci := 2) (v := .ref (aK 1)) (C := RX2) (T := TX2) (N := 9) hx hb hts hin2 hown hK hP 0 rfl rfl 0 (by decide) (hts (.fieldLink RX2 9 "UnderLadders$Market" "firstStand" "[I") (by decide +kernel)) (fun _ h9 => h9) rfl dX2_readLadder_78 ?_
              refine lv_aload_n hx hb dX2_readLadder_81 rfl (lv_at hl 3 rfl) ?_
              refine va_get (D := (dC, dI)) (ci := 2) (v := .int (K 0 0)) (C := RX2) (T := TX2) (N := 9) hx hb hts hin2 hown hK hP 0 rfl rfl 7 (by decide) (hts (.fieldLink RX2 33 "UnderLadders$Market" "ladders" "I") (by decide +kernel)) (fun _ h9 => h9) rfl dX2_readLadder_82 ?_
              refine lv_iload_n hx hb dX2_readLadder_85 rfl (lv_at hl 2 rfl) ?_
              obtain ⟨hi12, h⟩ := ul_st_h h
              refine va_iast hx hb hK hP hD hS 1 0 rfl rfl hi12 dX2_readLadder_86 (fun H locs hP hD hS => ?_)
              obtain ⟨K11, eK11⟩ : ∃ z : ul_S, z = ul_up K 1 (K 0 0).toNatClampNeg u2 := ⟨_, rfl⟩
              have h := h K11 eK11
              have hP : va_P (dC, dI) classes (ul_wK cI aK K11 ++ ul_wL cI aL L) H := by rw [eK11]; exact hP
              have hD : va_D A (ul_wK cI aK K11 ++ ul_wL cI aL L) := by rw [eK11]; exact hD
              refine lv_aload_n hx hb dX2_readLadder_87 rfl (lv_at hl 3 rfl) ?_
              refine va_get (D := (dC, dI)) (ci := 2) (v := .ref (aK 2)) (C := RX2) (T := TX2) (N := 9) hx hb hts hin2 hown hK hP 0 rfl rfl 1 (by decide) (hts (.fieldLink RX2 15 "UnderLadders$Market" "take" "[I") (by decide +kernel)) (fun _ h9 => h9) rfl dX2_readLadder_88 ?_
              refine lv_aload_n hx hb dX2_readLadder_91 rfl (lv_at hl 3 rfl) ?_
              refine va_get (D := (dC, dI)) (ci := 2) (v := .int (K11 0 0)) (C := RX2) (T := TX2) (N := 9) hx hb hts hin2 hown hK hP 0 rfl rfl 7 (by decide) (hts (.fieldLink RX2 33 "UnderLadders$Market" "ladders" "I") (by decide +kernel)) (fun _ h9 => h9) rfl dX2_readLadder_92 ?_
              refine lv_iload hx hb dX2_readLadder_95 (lv_at hl 1 rfl) ?_
              obtain ⟨hi14, h⟩ := ul_st_h h
              refine va_iast hx hb hK hP hD hS 2 0 rfl rfl hi14 dX2_readLadder_97 (fun H locs hP hD hS => ?_)
              obtain ⟨K13, eK13⟩ : ∃ z : ul_S, z = ul_up K11 2 (K11 0 0).toNatClampNeg u6 := ⟨_, rfl⟩
              have h := h K13 eK13
              have hP : va_P (dC, dI) classes (ul_wK cI aK K13 ++ ul_wL cI aL L) H := by rw [eK13]; exact hP
              have hD : va_D A (ul_wK cI aK K13 ++ ul_wL cI aL L) := by rw [eK13]; exact hD
              refine lv_aload_n hx hb dX2_readLadder_98 rfl (lv_at hl 3 rfl) ?_
              refine va_get (D := (dC, dI)) (ci := 2) (v := .ref (aK 3)) (C := RX2) (T := TX2) (N := 9) hx hb hts hin2 hown hK hP 0 rfl rfl 2 (by decide) (hts (.fieldLink RX2 18 "UnderLadders$Market" "ladderKind" "[I") (by decide +kernel)) (fun _ h9 => h9) rfl dX2_readLadder_99 ?_
              refine lv_aload_n hx hb dX2_readLadder_102 rfl (lv_at hl 3 rfl) ?_
              refine va_get (D := (dC, dI)) (ci := 2) (v := .int (K13 0 0)) (C := RX2) (T := TX2) (N := 9) hx hb hts hin2 hown hK hP 0 rfl rfl 7 (by decide) (hts (.fieldLink RX2 33 "UnderLadders$Market" "ladders" "I") (by decide +kernel)) (fun _ h9 => h9) rfl dX2_readLadder_103 ?_
              refine lv_iload hx hb dX2_readLadder_106 (lv_at hl 0 rfl) ?_
              obtain ⟨hi16, h⟩ := ul_st_h h
              refine va_iast hx hb hK hP hD hS 3 0 rfl rfl hi16 dX2_readLadder_108 (fun H locs hP hD hS => ?_)
              obtain ⟨K15, eK15⟩ : ∃ z : ul_S, z = ul_up K13 3 (K13 0 0).toNatClampNeg u8 := ⟨_, rfl⟩
              have h := h K15 eK15
              have hP : va_P (dC, dI) classes (ul_wK cI aK K15 ++ ul_wL cI aL L) H := by rw [eK15]; exact hP
              have hD : va_D A (ul_wK cI aK K15 ++ ul_wL cI aL L) := by rw [eK15]; exact hD
              refine lv_aload_n hx hb dX2_readLadder_109 rfl (lv_at hl 3 rfl) ?_
              refine lv_dup hx hb dX2_readLadder_110 rfl ?_
              refine va_get (D := (dC, dI)) (ci := 2) (v := .int (K15 0 0)) (C := RX2) (T := TX2) (N := 9) hx hb hts hin2 hown hK hP 0 rfl rfl 7 (by decide) (hts (.fieldLink RX2 33 "UnderLadders$Market" "ladders" "I") (by decide +kernel)) (fun _ h9 => h9) rfl dX2_readLadder_111 ?_
              refine lv_iconst (v := 1) hx hb dX2_readLadder_114 (by decide) ?_
              refine lv_iadd hx hb dX2_readLadder_115 ?_
              refine lv_topi (fun v17 ev17 => ?_)
              have h := ul_bd_h h v17 ev17
              refine va_put (D := (dC, dI)) (ci := 2) (v := .int v17) (ty := .int) (C := RX2) (T := TX2) (N := 9) hx hb hts hin2 tyX2 tyX2_ok nmX2 hown hK hP hD hS 0 rfl rfl 7 (by decide) (hts (.fieldLink RX2 33 "UnderLadders$Market" "ladders" "I") (by decide +kernel)) (fun _ h9 => h9) rfl (by decide +kernel) rfl rfl (Nat.le_of_ble_eq_true rfl) dX2_readLadder_116 (fun H locs hP hD hS => ?_)
              obtain ⟨K18, eK18⟩ : ∃ z : ul_S, z = ul_up K15 0 0 v17 := ⟨_, rfl⟩
              have h := ul_bd_h h K18 eK18
              have hP : va_P (dC, dI) classes (ul_wK cI aK K18 ++ ul_wL cI aL L) H := by rw [eK18]; exact hP
              have hD : va_D A (ul_wK cI aK K18 ++ ul_wL cI aL L) := by rw [eK18]; exact hD
              refine lv_bipush (v := -9) hx hb dX2_readLadder_119 (by decide) ?_
              have hr9 := hK0 ((-9 : Int32), K18) h
              subst hr9
              exact W.iret (v := (-9 : Int32)) hx hb hr (fun t ht hW => ⟨⟨(-9 : Int32), (), rfl, rfl, by rw [ht]; exact hP, va_K.moved hW.alike hK, hD⟩, hS.F ht⟩) hS.2.2 dX2_readLadder_121
            · have h := ul_if_f hc10 h
              exact ge _ _ _ (J73 u2 u6 u8 K H locs ⟨hP, hD, hS⟩ ls (lv_sub hl [3, 4, 5, 2, 1, 0] rfl) h)
        · have h := ul_if_f hc7 h
          refine lv_iload_n hx hb dX2_readLadder_49 rfl (lv_at hl 4 rfl) ?_
          refine lv_iconst (v := 2) hx hb dX2_readLadder_50 (by decide) ?_
          refine lv_iadd hx hb dX2_readLadder_51 ?_
          have hr9 := hK0 ((p2 + (2 : Int32)), K) h
          subst hr9
          exact W.iret (v := (p2 + (2 : Int32))) hx hb hr (fun t ht hW => ⟨⟨(p2 + (2 : Int32)), (), rfl, rfl, by rw [ht]; exact hP, va_K.moved hW.alike hK, hD⟩, hS.F ht⟩) hS.2.2 dX2_readLadder_52
      · have h := ul_if_f hc5 h
        exact ge _ _ _ (J30 u2 K H locs ⟨hP, hD, hS⟩ ls (lv_sub hl [1, 2, 3, 0] rfl) h)
  · have h := ul_if_f hc1 h
    refine lv_iload_n hx hb dX2_readLadder_8 rfl (lv_at hl 2 rfl) ?_
    have hr9 := hK0 (p2, K) h
    subst hr9
    exact W.iret (v := p2) hx hb hr (fun t ht hW => ⟨⟨p2, (), rfl, rfl, by rw [ht]; exact hP, va_K.moved hW.alike hK, hD⟩, hS.F ht⟩) hS.2.2 dX2_readLadder_9
def f_X2_readPerson_j98 (L : ul_S) (p2 : Int32) (x3 : Int32) (x4 : Int32) (x5 : Int32) (x6 : Int32) (K__98 : ul_S) : Option (Int32 × ul_S) :=
  some ((p2 + (4 : Int32)), K__98)
def f_X2_readPerson_j56 (L : ul_S) (p2 : Int32) (x3 : Int32) (x4 : Int32) (K__56 : ul_S) : Option (Int32 × ul_S) :=
  some ((p2 + (2 : Int32)), K__56)
def f_X2_readPerson (K : ul_S) (L : ul_S) (p2 : Int32) : Option (Int32 × ul_S) :=
  (f_X5_letterAt L p2).bind fun u1 => if u1 = (80 : Int32) then (if (K 0 1) < (5 : Int32) then ((f_X5_figureAt L (p2 + (1 : Int32))).bind fun u4 => if 0 ≤ u4 then ((f_X5_figureAt L (p2 + (2 : Int32))).bind fun u6 => if u6 < 0 then (f_X2_readPerson_j56 L p2 u4 u6 K) else (if u6 = u4 then (f_X2_readPerson_j56 L p2 u4 u6 K) else ((f_X5_figureAt L (p2 + (3 : Int32))).bind fun u9 => if 0 ≤ u9 then ((f_X5_figureAt L (p2 + (4 : Int32))).bind fun u11 => if u11 < 0 then (f_X2_readPerson_j98 L p2 u4 u6 u9 u11 K) else (if u11 ≤ (3 : Int32) then (ul_st K 4 5 (K 0 1) u4 fun K14 => ul_st K14 5 5 (K14 0 1) u6 fun K16 => ul_st K16 6 5 (K16 0 1) u9 fun K18 => ul_st K18 7 5 (K18 0 1) u11 fun K20 => ul_bd ((K20 0 1) + (1 : Int32)) fun v22 => ul_bd (ul_up K20 0 1 v22) fun K23 => some ((-9 : Int32), K23)) else (f_X2_readPerson_j98 L p2 u4 u6 u9 u11 K))) else (some ((p2 + (3 : Int32)), K))))) else (some ((p2 + (1 : Int32)), K))) else (some (p2, K))) else (some (p2, K))
set_option maxHeartbeats 4000000 in
set_option maxRecDepth 100000 in
theorem c_X2_readPerson (l : Launch) (dC : Nat → ClassId) (dI : Nat → Nat → Nat) (cI : ClassId) (aK : Nat → Nat) (aL : Nat → Nat) (sz : Nat) (K : ul_S) (L : ul_S) (p2 : Int32) (r : (Int32 × ul_S)) (h : f_X2_readPerson K L p2 = some r) : Met l yX2_readPerson wsX2_readPerson ({ frames := 2, cells := 0, slots := 0, locals := 43 }) (va_Pc [.ref (aK 0), .ref (aL 0), .int p2] (ul_pre (dC, dI) [(cI, .int)] ul_NX sz (ul_wK cI aK K ++ ul_wL cI aL L))) (va_Qi (fun v (_ : Unit) => v = r.1) (fun _ => ul_post (dC, dI) [(cI, .int)] (va_A (ul_wK cI aK K ++ ul_wL cI aL L) sz) (ul_wK cI aK r.2 ++ ul_wL cI aL L)) (va_A (ul_wK cI aK K ++ ul_wL cI aL L) sz)) 0 0 (va_A (ul_wK cI aK K ++ ul_wL cI aL L) sz) := by
  refine Met.ofW (cc := cX2_readPerson) (maxL := 7) (ret := (some .int)) (by decide) rfl ?_
  intro p e s m args below meth c s₁ B hml hv
  obtain ⟨rfl, hsz, hP, hK, hD0, hN⟩ := hv
  have hx := B.exec
  have hb := B.bytes
  have hr := B.returns
  have hts := atoms_spec (ws := wsX2_readPerson) B.pre
  have hown : s.vm.findClass RX2 = some m.cls := findClass_of_methodNamed B.named
  have hlocks := B.notSynchronized
  have hin2 : ∀ w ∈ u_ws RX2 TX2 9, w ∈ wsX2_readPerson := by decide +kernel
  subst hsz
  have hD := hD0.self (sz := s.heap.size)
  generalize hAe : va_A (ul_wK cI aK K ++ ul_wL cI aL L) s.heap.size = A at hD hN ⊢
  have hA : ∀ q : Nat, s.heap.size ≤ q → A q := fun q h => by rw [← hAe]; exact Or.inr h
  have hS : va_S A s.heap s.heap [] := va_S.rf
  have hl := lv_entry ([.ref (aK 0), .ref (aL 0), .int p2]) (n := 7) (Nat.le_of_ble_eq_true rfl)
  rw [lg_entry_eq]
  generalize (lg_sl ([.ref (aK 0), .ref (aL 0), .int p2]) ++ List.replicate (7 - (lg_sl ([.ref (aK 0), .ref (aL 0), .int p2])).length) Slot.unset).toArray = ls at hl ⊢
  have hl : lv_has ls 7 [(0, .ref (aK 0)), (1, .ref (aL 0)), (2, .int p2)] := hl
  obtain ⟨K0, hK0, h⟩ := ul_top h
  unfold f_X2_readPerson at h
  refine ul_gen (fun G gi ge => ?_)
  obtain ⟨H, eH⟩ : ∃ z, z = s.heap := ⟨_, rfl⟩
  obtain ⟨locs, eL⟩ : ∃ z : List Loc, z = [] := ⟨_, rfl⟩
  have hP : va_P (dC, dI) classes (ul_wK cI aK K ++ ul_wL cI aL L) H := by rw [eH]; exact hP
  have hS : va_S A s.heap H locs := by rw [eH, eL]; exact hS
  rw [← eL]
  refine (show G H locs (F0 m 0 ls []) → G s.heap locs (F0 m 0 ls []) from fun z => by rw [← eH]; exact z) ?_
  have J98 : ∀ (x3 : Int32) (x4 : Int32) (x5 : Int32) (x6 : Int32) (K__98 : ul_S) (H : Heap) (locs : List Loc), ul_H (dC, dI) A s.heap (ul_wK cI aK K__98 ++ ul_wL cI aL L) H locs → ∀ ls : Array Slot, lv_has ls 7 [(0, .ref (aK 0)), (1, .ref (aL 0)), (2, .int p2), (3, .int x3), (4, .int x4), (5, .int x5), (6, .int x6)] → (f_X2_readPerson_j98 L p2 x3 x4 x5 x6 K__98).bind K0 = some r → G H locs (F0 m 98 ls []) := by
    intro x3 x4 x5 x6 K__98 H locs hw ls hl h
    obtain ⟨hP, hD, hS⟩ := hw
    unfold f_X2_readPerson_j98 at h
    refine gi _ _ _ ?_
    refine lv_iload_n hx hb dX2_readPerson_98 rfl (lv_at hl 2 rfl) ?_
    refine lv_iconst (v := 4) hx hb dX2_readPerson_99 (by decide) ?_
    refine lv_iadd hx hb dX2_readPerson_100 ?_
    have hr9 := hK0 ((p2 + (4 : Int32)), K__98) h
    subst hr9
    exact W.iret (v := (p2 + (4 : Int32))) hx hb hr (fun t ht hW => ⟨⟨(p2 + (4 : Int32)), (), rfl, rfl, by rw [ht]; exact hP, va_K.moved hW.alike hK, hD⟩, hS.F ht⟩) hS.2.2 dX2_readPerson_101
  have J56 : ∀ (x3 : Int32) (x4 : Int32) (K__56 : ul_S) (H : Heap) (locs : List Loc), ul_H (dC, dI) A s.heap (ul_wK cI aK K__56 ++ ul_wL cI aL L) H locs → ∀ ls : Array Slot, lv_has ls 7 [(0, .ref (aK 0)), (1, .ref (aL 0)), (2, .int p2), (3, .int x3), (4, .int x4)] → (f_X2_readPerson_j56 L p2 x3 x4 K__56).bind K0 = some r → G H locs (F0 m 56 ls []) := by
    intro x3 x4 K__56 H locs hw ls hl h
    obtain ⟨hP, hD, hS⟩ := hw
    unfold f_X2_readPerson_j56 at h
    refine gi _ _ _ ?_
    refine lv_iload_n hx hb dX2_readPerson_56 rfl (lv_at hl 2 rfl) ?_
    refine lv_iconst (v := 2) hx hb dX2_readPerson_57 (by decide) ?_
    refine lv_iadd hx hb dX2_readPerson_58 ?_
    have hr9 := hK0 ((p2 + (2 : Int32)), K__56) h
    subst hr9
    exact W.iret (v := (p2 + (2 : Int32))) hx hb hr (fun t ht hW => ⟨⟨(p2 + (2 : Int32)), (), rfl, rfl, by rw [ht]; exact hP, va_K.moved hW.alike hK, hD⟩, hS.F ht⟩) hS.2.2 dX2_readPerson_59
  refine gi _ _ _ ?_
  refine lv_aload_n hx hb dX2_readPerson_0 rfl (lv_at hl 1 rfl) ?_
  refine lv_iload_n hx hb dX2_readPerson_1 rfl (lv_at hl 2 rfl) ?_
  obtain ⟨u1, hu1, h⟩ := ul_cl_h h
  refine ul_cVi (As := [.int p2]) (rest := []) (wc' := (ul_wL cI aL L)) (wr := (ul_wK cI aK K)) hP hD hS hK hA [8, 9] [0, 1, 2, 3, 4, 5, 6, 7] [0] ul_NX_ok hN (c_X5_letterAt l dC dI cI aL H.size L p2 u1 hu1) rfl rfl (by decide) rfl (by decide) (by decide) rfl ⟨hx, hb, hml, hown, hts⟩ (cwV 1 hts gX2_readPerson_X5_letterAt rfl rfl rfl (by decide +kernel) ⟨Nat.le_of_ble_eq_true rfl, Nat.le_of_ble_eq_true rfl⟩) (va_recv hK hP (ci := 5) (q0 := 8) rfl rfl) rfl hl.1 rfl (Nat.le_of_ble_eq_true rfl) dX2_readPerson_2 (fun H locs hw => ?_)
  have hw := hw.re (w' := (ul_wK cI aK K ++ ul_wL cI aL L)) [0, 1, 2, 3, 4, 5, 6, 7, 8, 9] (by decide) rfl rfl
  obtain ⟨hP, hD, hS⟩ := hw
  refine lv_bipush (v := 80) hx hb dX2_readPerson_5 (by decide) ?_
  refine lv_icmp_ne (tgt := 18) hx hb dX2_readPerson_7 (by decide) (fun hc2 => ?_) (fun hc2 => ?_)
  · have h := ul_if_f hc2 h
    refine lv_iload_n hx hb dX2_readPerson_18 rfl (lv_at hl 2 rfl) ?_
    have hr9 := hK0 (p2, K) h
    subst hr9
    exact W.iret (v := p2) hx hb hr (fun t ht hW => ⟨⟨p2, (), rfl, rfl, by rw [ht]; exact hP, va_K.moved hW.alike hK, hD⟩, hS.F ht⟩) hS.2.2 dX2_readPerson_19
  · have h := ul_if_t hc2 h
    refine lv_aload_n hx hb dX2_readPerson_10 rfl (lv_at hl 0 rfl) ?_
    refine va_get (D := (dC, dI)) (ci := 2) (v := .int (K 0 1)) (C := RX2) (T := TX2) (N := 9) hx hb hts hin2 hown hK hP 0 rfl rfl 8 (by decide) (hts (.fieldLink RX2 37 "UnderLadders$Market" "people" "I") (by decide +kernel)) (fun _ h9 => h9) rfl dX2_readPerson_11 ?_
    refine lv_iconst (v := 5) hx hb dX2_readPerson_14 (by decide) ?_
    refine lv_icmp_lt (tgt := 20) hx hb dX2_readPerson_15 (by decide) (fun hc3 => ?_) (fun hc3 => ?_)
    · have h := ul_if_t hc3 h
      refine lv_aload_n hx hb dX2_readPerson_20 rfl (lv_at hl 1 rfl) ?_
      refine lv_iload_n hx hb dX2_readPerson_21 rfl (lv_at hl 2 rfl) ?_
      refine lv_iconst (v := 1) hx hb dX2_readPerson_22 (by decide) ?_
      refine lv_iadd hx hb dX2_readPerson_23 ?_
      obtain ⟨u4, hu4, h⟩ := ul_cl_h h
      refine ul_cVi (As := [.int (p2 + (1 : Int32))]) (rest := []) (wc' := (ul_wL cI aL L)) (wr := (ul_wK cI aK K)) hP hD hS hK hA [8, 9] [0, 1, 2, 3, 4, 5, 6, 7] [0] ul_NX_ok hN (c_X5_figureAt l dC dI cI aL H.size L (p2 + (1 : Int32)) u4 hu4) rfl rfl (by decide) rfl (by decide) (by decide) rfl ⟨hx, hb, hml, hown, hts⟩ (cwV 1 hts gX2_readPerson_X5_figureAt rfl rfl rfl (by decide +kernel) ⟨Nat.le_of_ble_eq_true rfl, Nat.le_of_ble_eq_true rfl⟩) (va_recv hK hP (ci := 5) (q0 := 8) rfl rfl) rfl hl.1 rfl (Nat.le_of_ble_eq_true rfl) dX2_readPerson_24 (fun H locs hw => ?_)
      have hw := hw.re (w' := (ul_wK cI aK K ++ ul_wL cI aL L)) [0, 1, 2, 3, 4, 5, 6, 7, 8, 9] (by decide) rfl rfl
      obtain ⟨hP, hD, hS⟩ := hw
      refine lv_istore_n (lv' := [(3, .int u4), (0, .ref (aK 0)), (1, .ref (aL 0)), (2, .int p2)]) hx hb dX2_readPerson_27 rfl hl (by decide) rfl (fun ls hl => ?_)
      refine lv_iload_n hx hb dX2_readPerson_28 rfl (lv_at hl 0 rfl) ?_
      refine lv_if_ge (tgt := 36) hx hb dX2_readPerson_29 (by decide) (fun hc5 => ?_) (fun hc5 => ?_)
      · have h := ul_if_t hc5 h
        refine lv_aload_n hx hb dX2_readPerson_36 rfl (lv_at hl 2 rfl) ?_
        refine lv_iload_n hx hb dX2_readPerson_37 rfl (lv_at hl 3 rfl) ?_
        refine lv_iconst (v := 2) hx hb dX2_readPerson_38 (by decide) ?_
        refine lv_iadd hx hb dX2_readPerson_39 ?_
        obtain ⟨u6, hu6, h⟩ := ul_cl_h h
        refine ul_cVi (As := [.int (p2 + (2 : Int32))]) (rest := []) (wc' := (ul_wL cI aL L)) (wr := (ul_wK cI aK K)) hP hD hS hK hA [8, 9] [0, 1, 2, 3, 4, 5, 6, 7] [0] ul_NX_ok hN (c_X5_figureAt l dC dI cI aL H.size L (p2 + (2 : Int32)) u6 hu6) rfl rfl (by decide) rfl (by decide) (by decide) rfl ⟨hx, hb, hml, hown, hts⟩ (cwV 1 hts gX2_readPerson_X5_figureAt rfl rfl rfl (by decide +kernel) ⟨Nat.le_of_ble_eq_true rfl, Nat.le_of_ble_eq_true rfl⟩) (va_recv hK hP (ci := 5) (q0 := 8) rfl rfl) rfl hl.1 rfl (Nat.le_of_ble_eq_true rfl) dX2_readPerson_40 (fun H locs hw => ?_)
        have hw := hw.re (w' := (ul_wK cI aK K ++ ul_wL cI aL L)) [0, 1, 2, 3, 4, 5, 6, 7, 8, 9] (by decide) rfl rfl
        obtain ⟨hP, hD, hS⟩ := hw
        refine lv_istore (lv' := [(4, .int u6), (3, .int u4), (0, .ref (aK 0)), (1, .ref (aL 0)), (2, .int p2)]) hx hb dX2_readPerson_43 hl (by decide) rfl (fun ls hl => ?_)
        refine lv_iload hx hb dX2_readPerson_45 (lv_at hl 0 rfl) ?_
        refine lv_if_lt (tgt := 56) hx hb dX2_readPerson_47 (by decide) (fun hc7 => ?_) (fun hc7 => ?_)
        · have h := ul_if_t hc7 h
          exact ge _ _ _ (J56 u4 u6 K H locs ⟨hP, hD, hS⟩ ls (lv_sub hl [2, 3, 4, 1, 0] rfl) h)
        · have h := ul_if_f hc7 h
          refine lv_iload hx hb dX2_readPerson_50 (lv_at hl 0 rfl) ?_
          refine lv_iload_n hx hb dX2_readPerson_52 rfl (lv_at hl 1 rfl) ?_
          refine lv_icmp_ne (tgt := 60) hx hb dX2_readPerson_53 (by decide) (fun hc8 => ?_) (fun hc8 => ?_)
          · have h := ul_if_f hc8 h
            refine lv_aload_n hx hb dX2_readPerson_60 rfl (lv_at hl 3 rfl) ?_
            refine lv_iload_n hx hb dX2_readPerson_61 rfl (lv_at hl 4 rfl) ?_
            refine lv_iconst (v := 3) hx hb dX2_readPerson_62 (by decide) ?_
            refine lv_iadd hx hb dX2_readPerson_63 ?_
            obtain ⟨u9, hu9, h⟩ := ul_cl_h h
            refine ul_cVi (As := [.int (p2 + (3 : Int32))]) (rest := []) (wc' := (ul_wL cI aL L)) (wr := (ul_wK cI aK K)) hP hD hS hK hA [8, 9] [0, 1, 2, 3, 4, 5, 6, 7] [0] ul_NX_ok hN (c_X5_figureAt l dC dI cI aL H.size L (p2 + (3 : Int32)) u9 hu9) rfl rfl (by decide) rfl (by decide) (by decide) rfl ⟨hx, hb, hml, hown, hts⟩ (cwV 1 hts gX2_readPerson_X5_figureAt rfl rfl rfl (by decide +kernel) ⟨Nat.le_of_ble_eq_true rfl, Nat.le_of_ble_eq_true rfl⟩) (va_recv hK hP (ci := 5) (q0 := 8) rfl rfl) rfl hl.1 rfl (Nat.le_of_ble_eq_true rfl) dX2_readPerson_64 (fun H locs hw => ?_)
            have hw := hw.re (w' := (ul_wK cI aK K ++ ul_wL cI aL L)) [0, 1, 2, 3, 4, 5, 6, 7, 8, 9] (by decide) rfl rfl
            obtain ⟨hP, hD, hS⟩ := hw
            refine lv_istore (lv' := [(5, .int u9), (4, .int u6), (3, .int u4), (0, .ref (aK 0)), (1, .ref (aL 0)), (2, .int p2)]) hx hb dX2_readPerson_67 hl (by decide) rfl (fun ls hl => ?_)
            refine lv_iload hx hb dX2_readPerson_69 (lv_at hl 0 rfl) ?_
            refine lv_if_ge (tgt := 78) hx hb dX2_readPerson_71 (by decide) (fun hc10 => ?_) (fun hc10 => ?_)
            · have h := ul_if_t hc10 h
              refine lv_aload_n hx hb dX2_readPerson_78 rfl (lv_at hl 4 rfl) ?_
              refine lv_iload_n hx hb dX2_readPerson_79 rfl (lv_at hl 5 rfl) ?_
              refine lv_iconst (v := 4) hx hb dX2_readPerson_80 (by decide) ?_
              refine lv_iadd hx hb dX2_readPerson_81 ?_
              obtain ⟨u11, hu11, h⟩ := ul_cl_h h
              refine ul_cVi (As := [.int (p2 + (4 : Int32))]) (rest := []) (wc' := (ul_wL cI aL L)) (wr := (ul_wK cI aK K)) hP hD hS hK hA [8, 9] [0, 1, 2, 3, 4, 5, 6, 7] [0] ul_NX_ok hN (c_X5_figureAt l dC dI cI aL H.size L (p2 + (4 : Int32)) u11 hu11) rfl rfl (by decide) rfl (by decide) (by decide) rfl ⟨hx, hb, hml, hown, hts⟩ (cwV 1 hts gX2_readPerson_X5_figureAt rfl rfl rfl (by decide +kernel) ⟨Nat.le_of_ble_eq_true rfl, Nat.le_of_ble_eq_true rfl⟩) (va_recv hK hP (ci := 5) (q0 := 8) rfl rfl) rfl hl.1 rfl (Nat.le_of_ble_eq_true rfl) dX2_readPerson_82 (fun H locs hw => ?_)
              have hw := hw.re (w' := (ul_wK cI aK K ++ ul_wL cI aL L)) [0, 1, 2, 3, 4, 5, 6, 7, 8, 9] (by decide) rfl rfl
              obtain ⟨hP, hD, hS⟩ := hw
              refine lv_istore (lv' := [(6, .int u11), (5, .int u9), (4, .int u6), (3, .int u4), (0, .ref (aK 0)), (1, .ref (aL 0)), (2, .int p2)]) hx hb dX2_readPerson_85 hl (by decide) rfl (fun ls hl => ?_)
              refine lv_iload hx hb dX2_readPerson_87 (lv_at hl 0 rfl) ?_
              refine lv_if_lt (tgt := 98) hx hb dX2_readPerson_89 (by decide) (fun hc12 => ?_) (fun hc12 => ?_)
              · have h := ul_if_t hc12 h
                exact ge _ _ _ (J98 u4 u6 u9 u11 K H locs ⟨hP, hD, hS⟩ ls (lv_sub hl [4, 5, 6, 3, 2, 1, 0] rfl) h)
              · have h := ul_if_f hc12 h
                refine lv_iload hx hb dX2_readPerson_92 (lv_at hl 0 rfl) ?_
                refine lv_iconst (v := 3) hx hb dX2_readPerson_94 (by decide) ?_
                refine lv_icmp_le (tgt := 102) hx hb dX2_readPerson_95 (by decide) (fun hc13 => ?_) (fun hc13 => ?_)
                · have h := ul_if_t hc13 h
                  refine lv_aload_n hx hb dX2_readPerson_102 rfl (lv_at hl 4 rfl) ?_
                  refine va_get (D := (dC, dI)) (ci := 2) (v := .ref (aK 4)) (C := RX2) (T := TX2) (N := 9) hx hb hts hin2 hown hK hP 0 rfl rfl 3 (by decide) (hts (.fieldLink RX2 21 "UnderLadders$Market" "home" "[I") (by decide +kernel)) (fun _ h9 => h9) rfl dX2_readPerson_103 ?_
                  refine lv_aload_n hx hb dX2_readPerson_106 rfl (lv_at hl 4 rfl) ?_
                  refine va_get (D := (dC, dI)) (ci := 2) (v := .int (K 0 1)) (C := RX2) (T := TX2) (N := 9) hx hb hts hin2 hown hK hP 0 rfl rfl 8 (by decide) (hts (.fieldLink RX2 37 "UnderLadders$Market" "people" "I") (by decide +kernel)) (fun _ h9 => h9) rfl dX2_readPerson_107 ?_
                  refine lv_iload_n hx hb dX2_readPerson_110 rfl (lv_at hl 3 rfl) ?_
                  obtain ⟨hi15, h⟩ := ul_st_h h
                  refine va_iast hx hb hK hP hD hS 4 0 rfl rfl hi15 dX2_readPerson_111 (fun H locs hP hD hS => ?_)
                  obtain ⟨K14, eK14⟩ : ∃ z : ul_S, z = ul_up K 4 (K 0 1).toNatClampNeg u4 := ⟨_, rfl⟩
                  have h := h K14 eK14
                  have hP : va_P (dC, dI) classes (ul_wK cI aK K14 ++ ul_wL cI aL L) H := by rw [eK14]; exact hP
                  have hD : va_D A (ul_wK cI aK K14 ++ ul_wL cI aL L) := by rw [eK14]; exact hD
                  refine lv_aload_n hx hb dX2_readPerson_112 rfl (lv_at hl 4 rfl) ?_
                  refine va_get (D := (dC, dI)) (ci := 2) (v := .ref (aK 5)) (C := RX2) (T := TX2) (N := 9) hx hb hts hin2 hown hK hP 0 rfl rfl 4 (by decide) (hts (.fieldLink RX2 24 "UnderLadders$Market" "work" "[I") (by decide +kernel)) (fun _ h9 => h9) rfl dX2_readPerson_113 ?_
                  refine lv_aload_n hx hb dX2_readPerson_116 rfl (lv_at hl 4 rfl) ?_
                  refine va_get (D := (dC, dI)) (ci := 2) (v := .int (K14 0 1)) (C := RX2) (T := TX2) (N := 9) hx hb hts hin2 hown hK hP 0 rfl rfl 8 (by decide) (hts (.fieldLink RX2 37 "UnderLadders$Market" "people" "I") (by decide +kernel)) (fun _ h9 => h9) rfl dX2_readPerson_117 ?_
                  refine lv_iload hx hb dX2_readPerson_120 (lv_at hl 2 rfl) ?_
                  obtain ⟨hi17, h⟩ := ul_st_h h
                  refine va_iast hx hb hK hP hD hS 5 0 rfl rfl hi17 dX2_readPerson_122 (fun H locs hP hD hS => ?_)
                  obtain ⟨K16, eK16⟩ : ∃ z : ul_S, z = ul_up K14 5 (K14 0 1).toNatClampNeg u6 := ⟨_, rfl⟩
                  have h := h K16 eK16
                  have hP : va_P (dC, dI) classes (ul_wK cI aK K16 ++ ul_wL cI aL L) H := by rw [eK16]; exact hP
                  have hD : va_D A (ul_wK cI aK K16 ++ ul_wL cI aL L) := by rw [eK16]; exact hD
                  refine lv_aload_n hx hb dX2_readPerson_123 rfl (lv_at hl 4 rfl) ?_
                  refine va_get (D := (dC, dI)) (ci := 2) (v := .ref (aK 6)) (C := RX2) (T := TX2) (N := 9) hx hb hts hin2 hown hK hP 0 rfl rfl 5 (by decide) (hts (.fieldLink RX2 27 "UnderLadders$Market" "firstLuck" "[I") (by decide +kernel)) (fun _ h9 => h9) rfl dX2_readPerson_124 ?_
                  refine lv_aload_n hx hb dX2_readPerson_127 rfl (lv_at hl 4 rfl) ?_
                  refine va_get (D := (dC, dI)) (ci := 2) (v := .int (K16 0 1)) (C := RX2) (T := TX2) (N := 9) hx hb hts hin2 hown hK hP 0 rfl rfl 8 (by decide) (hts (.fieldLink RX2 37 "UnderLadders$Market" "people" "I") (by decide +kernel)) (fun _ h9 => h9) rfl dX2_readPerson_128 ?_
                  refine lv_iload hx hb dX2_readPerson_131 (lv_at hl 1 rfl) ?_
                  obtain ⟨hi19, h⟩ := ul_st_h h
                  refine va_iast hx hb hK hP hD hS 6 0 rfl rfl hi19 dX2_readPerson_133 (fun H locs hP hD hS => ?_)
                  obtain ⟨K18, eK18⟩ : ∃ z : ul_S, z = ul_up K16 6 (K16 0 1).toNatClampNeg u9 := ⟨_, rfl⟩
                  have h := h K18 eK18
                  have hP : va_P (dC, dI) classes (ul_wK cI aK K18 ++ ul_wL cI aL L) H := by rw [eK18]; exact hP
                  have hD : va_D A (ul_wK cI aK K18 ++ ul_wL cI aL L) := by rw [eK18]; exact hD
                  refine lv_aload_n hx hb dX2_readPerson_134 rfl (lv_at hl 4 rfl) ?_
                  refine va_get (D := (dC, dI)) (ci := 2) (v := .ref (aK 7)) (C := RX2) (T := TX2) (N := 9) hx hb hts hin2 hown hK hP 0 rfl rfl 6 (by decide) (hts (.fieldLink RX2 30 "UnderLadders$Market" "personKind" "[I") (by decide +kernel)) (fun _ h9 => h9) rfl dX2_readPerson_135 ?_
                  refine lv_aload_n hx hb dX2_readPerson_138 rfl (lv_at hl 4 rfl) ?_
                  refine va_get (D := (dC, dI)) (ci := 2) (v := .int (K18 0 1)) (C := RX2) (T := TX2) (N := 9) hx hb hts hin2 hown hK hP 0 rfl rfl 8 (by decide) (hts (.fieldLink RX2 37 "UnderLadders$Market" "people" "I") (by decide +kernel)) (fun _ h9 => h9) rfl dX2_readPerson_139 ?_
                  refine lv_iload hx hb dX2_readPerson_142 (lv_at hl 0 rfl) ?_
                  obtain ⟨hi21, h⟩ := ul_st_h h
                  refine va_iast hx hb hK hP hD hS 7 0 rfl rfl hi21 dX2_readPerson_144 (fun H locs hP hD hS => ?_)
                  obtain ⟨K20, eK20⟩ : ∃ z : ul_S, z = ul_up K18 7 (K18 0 1).toNatClampNeg u11 := ⟨_, rfl⟩
                  have h := h K20 eK20
                  have hP : va_P (dC, dI) classes (ul_wK cI aK K20 ++ ul_wL cI aL L) H := by rw [eK20]; exact hP
                  have hD : va_D A (ul_wK cI aK K20 ++ ul_wL cI aL L) := by rw [eK20]; exact hD
                  refine lv_aload_n hx hb dX2_readPerson_145 rfl (lv_at hl 4 rfl) ?_
                  refine lv_dup hx hb dX2_readPerson_146 rfl ?_
                  refine va_get (D := (dC, dI)) (ci := 2) (v := .int (K20 0 1)) (C := RX2) (T := TX2) (N := 9) hx hb hts hin2 hown hK hP 0 rfl rfl 8 (by decide) (hts (.fieldLink RX2 37 "UnderLadders$Market" "people" "I") (by decide +kernel)) (fun _ h9 => h9) rfl dX2_readPerson_147 ?_
                  refine lv_iconst (v := 1) hx hb dX2_readPerson_150 (by decide) ?_
                  refine lv_iadd hx hb dX2_readPerson_151 ?_
                  refine lv_topi (fun v22 ev22 => ?_)
                  have h := ul_bd_h h v22 ev22
                  refine va_put (D := (dC, dI)) (ci := 2) (v := .int v22) (ty := .int) (C := RX2) (T := TX2) (N := 9) hx hb hts hin2 tyX2 tyX2_ok nmX2 hown hK hP hD hS 0 rfl rfl 8 (by decide) (hts (.fieldLink RX2 37 "UnderLadders$Market" "people" "I") (by decide +kernel)) (fun _ h9 => h9) rfl (by decide +kernel) rfl rfl (Nat.le_of_ble_eq_true rfl) dX2_readPerson_152 (fun H locs hP hD hS => ?_)
                  obtain ⟨K23, eK23⟩ : ∃ z : ul_S, z = ul_up K20 0 1 v22 := ⟨_, rfl⟩
                  have h := ul_bd_h h K23 eK23
                  have hP : va_P (dC, dI) classes (ul_wK cI aK K23 ++ ul_wL cI aL L) H := by rw [eK23]; exact hP
                  have hD : va_D A (ul_wK cI aK K23 ++ ul_wL cI aL L) := by rw [eK23]; exact hD
                  refine lv_bipush (v := -9) hx hb dX2_readPerson_155 (by decide) ?_
                  have hr9 := hK0 ((-9 : Int32), K23) h
                  subst hr9
                  exact W.iret (v := (-9 : Int32)) hx hb hr (fun t ht hW => ⟨⟨(-9 : Int32), (), rfl, rfl, by rw [ht]; exact hP, va_K.moved hW.alike hK, hD⟩, hS.F ht⟩) hS.2.2 dX2_readPerson_157
                · have h := ul_if_f hc13 h
                  exact ge _ _ _ (J98 u4 u6 u9 u11 K H locs ⟨hP, hD, hS⟩ ls (lv_sub hl [4, 5, 6, 3, 2, 1, 0] rfl) h)
            · have h := ul_if_f hc10 h
              refine lv_iload_n hx hb dX2_readPerson_74 rfl (lv_at hl 5 rfl) ?_
              refine lv_iconst (v := 3) hx hb dX2_readPerson_75 (by decide) ?_
              refine lv_iadd hx hb dX2_readPerson_76 ?_
              have hr9 := hK0 ((p2 + (3 : Int32)), K) h
              subst hr9
              exact W.iret (v := (p2 + (3 : Int32))) hx hb hr (fun t ht hW => ⟨⟨(p2 + (3 : Int32)), (), rfl, rfl, by rw [ht]; exact hP, va_K.moved hW.alike hK, hD⟩, hS.F ht⟩) hS.2.2 dX2_readPerson_77
          · have h := ul_if_t hc8 h
            exact ge _ _ _ (J56 u4 u6 K H locs ⟨hP, hD, hS⟩ ls (lv_sub hl [2, 3, 4, 1, 0] rfl) h)
      · have h := ul_if_f hc5 h
        refine lv_iload_n hx hb dX2_readPerson_32 rfl (lv_at hl 3 rfl) ?_
        refine lv_iconst (v := 1) hx hb dX2_readPerson_33 (by decide) ?_
        refine lv_iadd hx hb dX2_readPerson_34 ?_
        have hr9 := hK0 ((p2 + (1 : Int32)), K) h
        subst hr9
        exact W.iret (v := (p2 + (1 : Int32))) hx hb hr (fun t ht hW => ⟨⟨(p2 + (1 : Int32)), (), rfl, rfl, by rw [ht]; exact hP, va_K.moved hW.alike hK, hD⟩, hS.F ht⟩) hS.2.2 dX2_readPerson_35
    · have h := ul_if_f hc3 h
      refine lv_iload_n hx hb dX2_readPerson_18 rfl (lv_at hl 2 rfl) ?_
      have hr9 := hK0 (p2, K) h
      subst hr9
      exact W.iret (v := p2) hx hb hr (fun t ht hW => ⟨⟨p2, (), rfl, rfl, by rw [ht]; exact hP, va_K.moved hW.alike hK, hD⟩, hS.F ht⟩) hS.2.2 dX2_readPerson_19
def f_X2_readFrom_j108 (L : ul_S) (x2 : Int32) (x3 : Int32) (K__108 : ul_S) : Option (Int32 × ul_S) :=
  some ((-9 : Int32), K__108)
def f_X2_readFrom_j100 (L : ul_S) (x2 : Int32) (x3 : Int32) (x4 : Int32) (x5 : Int32) (t0 : Int32) (t1 : Int32) (K__100 : ul_S) : Option (((Int32 × ul_S) ⊕ (Int32 × Int32 × ul_S)) ⊕ (Int32 × Int32 × ul_S)) :=
  ul_bd (t0 + t1) fun v5 => ul_bd (x3 + 1) fun v6 => some (.inr (v5, v6, K__100))
def f_X2_readFrom_j77 (L : ul_S) (x2 : Int32) (x3 : Int32) (x4 : Int32) (t0 : Int32) (K__77 : ul_S) : Option (((Int32 × ul_S) ⊕ (Int32 × Int32 × ul_S)) ⊕ (Int32 × Int32 × ul_S)) :=
  if t0 = (-9 : Int32) then (if x4 = 0 then (f_X2_readFrom_j100 L x2 x3 x4 t0 x2 (5 : Int32) K__77) else (f_X2_readFrom_j100 L x2 x3 x4 t0 x2 (4 : Int32) K__77)) else (some (.inl (.inl (t0, K__77))))
def f_X2_readFrom_j55 (L : ul_S) (x2 : Int32) (x3 : Int32) (t0 : Int32) (K__55 : ul_S) : Option (((Int32 × ul_S) ⊕ (Int32 × Int32 × ul_S)) ⊕ (Int32 × Int32 × ul_S)) :=
  if t0 = 0 then ((f_X2_readPerson K__55 L x2).bind fun u14 => f_X2_readFrom_j77 L x2 x3 t0 u14.1 u14.2) else ((f_X2_readLadder K__55 L x2).bind fun u15 => f_X2_readFrom_j77 L x2 x3 t0 u15.1 u15.2)
def f_X2_readFrom_L26 (L : ul_S) (q26 : (Int32 × Int32 × ul_S)) : Option (((Int32 × ul_S) ⊕ (Int32 × Int32 × ul_S)) ⊕ (Int32 × Int32 × ul_S)) :=
  if (9 : Int32) < q26.2.1 then (some (.inl (.inr (q26.1, q26.2.1, q26.2.2)))) else (if (L 0 0) ≤ q26.1 then (some (.inl (.inr (q26.1, q26.2.1, q26.2.2)))) else ((f_X5_letterAt L q26.1).bind fun u21 => if u21 = (76 : Int32) then (f_X2_readFrom_j55 L q26.1 q26.2.1 (1 : Int32) q26.2.2) else (f_X2_readFrom_j55 L q26.1 q26.2.1 (0 : Int32) q26.2.2)))
def f_X2_readFrom (K : ul_S) (L : ul_S) : Option (Int32 × ul_S) :=
  ul_bd (ul_up K 0 0 (0 : Int32)) fun K1 => ul_bd (ul_up K1 0 1 (0 : Int32)) fun K2 => (f_X5_letterAt L (0 : Int32)).bind fun u3 => if u3 = (77 : Int32) then ((ul_it ul_N (f_X2_readFrom_L26 L) ((1 : Int32), (0 : Int32), K2)).bind (Sum.elim (fun z => some z) (fun e26 => f_X2_readFrom_j108 L e26.1 e26.2.1 e26.2.2))) else (some ((0 : Int32), K2))
set_option maxHeartbeats 4000000 in
set_option maxRecDepth 100000 in
theorem c_X2_readFrom (l : Launch) (dC : Nat → ClassId) (dI : Nat → Nat → Nat) (cI : ClassId) (aK : Nat → Nat) (aL : Nat → Nat) (sz : Nat) (K : ul_S) (L : ul_S) (r : (Int32 × ul_S)) (h : f_X2_readFrom K L = some r) : Met l yX2_readFrom wsX2_readFrom ({ frames := 3, cells := 0, slots := 0, locals := 69 }) (va_Pc [.ref (aK 0), .ref (aL 0)] (ul_pre (dC, dI) [(cI, .int)] ul_NX sz (ul_wK cI aK K ++ ul_wL cI aL L))) (va_Qi (fun v (_ : Unit) => v = r.1) (fun _ => ul_post (dC, dI) [(cI, .int)] (va_A (ul_wK cI aK K ++ ul_wL cI aL L) sz) (ul_wK cI aK r.2 ++ ul_wL cI aL L)) (va_A (ul_wK cI aK K ++ ul_wL cI aL L) sz)) 0 0 (va_A (ul_wK cI aK K ++ ul_wL cI aL L) sz) := by
  refine Met.ofW (cc := cX2_readFrom) (maxL := 6) (ret := (some .int)) (by decide) rfl ?_
  intro p e s m args below meth c s₁ B hml hv
  obtain ⟨rfl, hsz, hP, hK, hD0, hN⟩ := hv
  have hx := B.exec
  have hb := B.bytes
  have hr := B.returns
  have hts := atoms_spec (ws := wsX2_readFrom) B.pre
  have hown : s.vm.findClass RX2 = some m.cls := findClass_of_methodNamed B.named
  have hlocks := B.notSynchronized
  have hin2 : ∀ w ∈ u_ws RX2 TX2 9, w ∈ wsX2_readFrom := by decide +kernel
  have hin5 : ∀ w ∈ u_ws RX5 TX5 2, w ∈ wsX2_readFrom := by decide +kernel
  subst hsz
  have hD := hD0.self (sz := s.heap.size)
  generalize hAe : va_A (ul_wK cI aK K ++ ul_wL cI aL L) s.heap.size = A at hD hN ⊢
  have hA : ∀ q : Nat, s.heap.size ≤ q → A q := fun q h => by rw [← hAe]; exact Or.inr h
  have hS : va_S A s.heap s.heap [] := va_S.rf
  have hl := lv_entry ([.ref (aK 0), .ref (aL 0)]) (n := 6) (Nat.le_of_ble_eq_true rfl)
  rw [lg_entry_eq]
  generalize (lg_sl ([.ref (aK 0), .ref (aL 0)]) ++ List.replicate (6 - (lg_sl ([.ref (aK 0), .ref (aL 0)])).length) Slot.unset).toArray = ls at hl ⊢
  have hl : lv_has ls 6 [(0, .ref (aK 0)), (1, .ref (aL 0))] := hl
  obtain ⟨K0, hK0, h⟩ := ul_top h
  unfold f_X2_readFrom at h
  refine ul_gen (fun G gi ge => ?_)
  obtain ⟨H, eH⟩ : ∃ z, z = s.heap := ⟨_, rfl⟩
  obtain ⟨locs, eL⟩ : ∃ z : List Loc, z = [] := ⟨_, rfl⟩
  have hP : va_P (dC, dI) classes (ul_wK cI aK K ++ ul_wL cI aL L) H := by rw [eH]; exact hP
  have hS : va_S A s.heap H locs := by rw [eH, eL]; exact hS
  rw [← eL]
  refine (show G H locs (F0 m 0 ls []) → G s.heap locs (F0 m 0 ls []) from fun z => by rw [← eH]; exact z) ?_
  have J108 : ∀ (x2 : Int32) (x3 : Int32) (K__108 : ul_S) (H : Heap) (locs : List Loc), ul_H (dC, dI) A s.heap (ul_wK cI aK K__108 ++ ul_wL cI aL L) H locs → ∀ ls : Array Slot, lv_has ls 6 [(0, .ref (aK 0)), (1, .ref (aL 0)), (2, .int x2), (3, .int x3)] → (f_X2_readFrom_j108 L x2 x3 K__108).bind K0 = some r → G H locs (F0 m 108 ls []) := by
    intro x2 x3 K__108 H locs hw ls hl h
    obtain ⟨hP, hD, hS⟩ := hw
    unfold f_X2_readFrom_j108 at h
    refine gi _ _ _ ?_
    refine lv_bipush (v := -9) hx hb dX2_readFrom_108 (by decide) ?_
    have hr9 := hK0 ((-9 : Int32), K__108) h
    subst hr9
    exact W.iret (v := (-9 : Int32)) hx hb hr (fun t ht hW => ⟨⟨(-9 : Int32), (), rfl, rfl, by rw [ht]; exact hP, va_K.moved hW.alike hK, hD⟩, hS.F ht⟩) hS.2.2 dX2_readFrom_110
  refine gi _ _ _ ?_
  refine lv_aload_n hx hb dX2_readFrom_0 rfl (lv_at hl 0 rfl) ?_
  refine lv_iconst (v := 0) hx hb dX2_readFrom_1 (by decide) ?_
  refine va_put (D := (dC, dI)) (ci := 2) (v := .int (0 : Int32)) (ty := .int) (C := RX2) (T := TX2) (N := 9) hx hb hts hin2 tyX2 tyX2_ok nmX2 hown hK hP hD hS 0 rfl rfl 7 (by decide) (hts (.fieldLink RX2 33 "UnderLadders$Market" "ladders" "I") (by decide +kernel)) (fun _ h9 => h9) rfl (by decide +kernel) rfl rfl (Nat.le_of_ble_eq_true rfl) dX2_readFrom_2 (fun H locs hP hD hS => ?_)
  obtain ⟨K1, eK1⟩ : ∃ z : ul_S, z = ul_up K 0 0 (0 : Int32) := ⟨_, rfl⟩
  have h := ul_bd_h h K1 eK1
  have hP : va_P (dC, dI) classes (ul_wK cI aK K1 ++ ul_wL cI aL L) H := by rw [eK1]; exact hP
  have hD : va_D A (ul_wK cI aK K1 ++ ul_wL cI aL L) := by rw [eK1]; exact hD
  refine lv_aload_n hx hb dX2_readFrom_5 rfl (lv_at hl 0 rfl) ?_
  refine lv_iconst (v := 0) hx hb dX2_readFrom_6 (by decide) ?_
  refine va_put (D := (dC, dI)) (ci := 2) (v := .int (0 : Int32)) (ty := .int) (C := RX2) (T := TX2) (N := 9) hx hb hts hin2 tyX2 tyX2_ok nmX2 hown hK hP hD hS 0 rfl rfl 8 (by decide) (hts (.fieldLink RX2 37 "UnderLadders$Market" "people" "I") (by decide +kernel)) (fun _ h9 => h9) rfl (by decide +kernel) rfl rfl (Nat.le_of_ble_eq_true rfl) dX2_readFrom_7 (fun H locs hP hD hS => ?_)
  obtain ⟨K2, eK2⟩ : ∃ z : ul_S, z = ul_up K1 0 1 (0 : Int32) := ⟨_, rfl⟩
  have h := ul_bd_h h K2 eK2
  have hP : va_P (dC, dI) classes (ul_wK cI aK K2 ++ ul_wL cI aL L) H := by rw [eK2]; exact hP
  have hD : va_D A (ul_wK cI aK K2 ++ ul_wL cI aL L) := by rw [eK2]; exact hD
  refine lv_aload_n hx hb dX2_readFrom_10 rfl (lv_at hl 1 rfl) ?_
  refine lv_iconst (v := 0) hx hb dX2_readFrom_11 (by decide) ?_
  obtain ⟨u3, hu3, h⟩ := ul_cl_h h
  refine ul_cVi (As := [.int (0 : Int32)]) (rest := []) (wc' := (ul_wL cI aL L)) (wr := (ul_wK cI aK K2)) hP hD hS hK hA [8, 9] [0, 1, 2, 3, 4, 5, 6, 7] [0] ul_NX_ok hN (c_X5_letterAt l dC dI cI aL H.size L (0 : Int32) u3 hu3) rfl rfl (by decide) rfl (by decide) (by decide) rfl ⟨hx, hb, hml, hown, hts⟩ (cwV 1 hts gX2_readFrom_X5_letterAt rfl rfl rfl (by decide +kernel) ⟨Nat.le_of_ble_eq_true rfl, Nat.le_of_ble_eq_true rfl⟩) (va_recv hK hP (ci := 5) (q0 := 8) rfl rfl) rfl hl.1 rfl (Nat.le_of_ble_eq_true rfl) dX2_readFrom_12 (fun H locs hw => ?_)
  have hw := hw.re (w' := (ul_wK cI aK K2 ++ ul_wL cI aL L)) [0, 1, 2, 3, 4, 5, 6, 7, 8, 9] (by decide) rfl rfl
  obtain ⟨hP, hD, hS⟩ := hw
  refine lv_bipush (v := 77) hx hb dX2_readFrom_15 (by decide) ?_
  refine lv_icmp_eq (tgt := 22) hx hb dX2_readFrom_17 (by decide) (fun hc4 => ?_) (fun hc4 => ?_)
  · have h := ul_if_t hc4 h
    refine lv_iconst (v := 1) hx hb dX2_readFrom_22 (by decide) ?_
    refine lv_istore_n (lv' := [(2, .int (1 : Int32)), (0, .ref (aK 0)), (1, .ref (aL 0))]) hx hb dX2_readFrom_23 rfl hl (by decide) rfl (fun ls hl => ?_)
    refine lv_iconst (v := 0) hx hb dX2_readFrom_24 (by decide) ?_
    refine lv_istore_n (lv' := [(3, .int (0 : Int32)), (2, .int (1 : Int32)), (0, .ref (aK 0)), (1, .ref (aL 0))]) hx hb dX2_readFrom_25 rfl hl (by decide) rfl (fun ls hl => ?_)
    refine ge _ _ _ (ul_loop (P := fun q26 => ∀ (H : Heap) (locs : List Loc), ul_H (dC, dI) A s.heap (ul_wK cI aK q26.2.2 ++ ul_wL cI aL L) H locs → ∀ ls : Array Slot, lv_has ls 6 [(0, .ref (aK 0)), (1, .ref (aL 0)), (2, .int q26.1), (3, .int q26.2.1)] → G H locs (F0 m 26 ls [])) ?_ _ _ (ul_it_h h) H locs ⟨hP, hD, hS⟩ ls (lv_sub hl [2, 3, 1, 0] rfl))
    intro K26 hx26
    intro q26 ih26 h H locs hw ls hl
    have J100 : ∀ (x2 : Int32) (x3 : Int32) (x4 : Int32) (x5 : Int32) (t0 : Int32) (t1 : Int32) (K__100 : ul_S) (H : Heap) (locs : List Loc), ul_H (dC, dI) A s.heap (ul_wK cI aK K__100 ++ ul_wL cI aL L) H locs → ∀ ls : Array Slot, lv_has ls 6 [(0, .ref (aK 0)), (1, .ref (aL 0)), (2, .int x2), (3, .int x3), (4, .int x4), (5, .int x5)] → (f_X2_readFrom_j100 L x2 x3 x4 x5 t0 t1 K__100).bind K26 = some r → G H locs (F0 m 100 ls [.int t1, .int t0]) := by
      intro x2 x3 x4 x5 t0 t1 K__100 H locs hw ls hl h
      obtain ⟨hP, hD, hS⟩ := hw
      unfold f_X2_readFrom_j100 at h
      refine gi _ _ _ ?_
      refine lv_iadd hx hb dX2_readFrom_100 ?_
      refine lv_topi (fun v7 ev7 => ?_)
      have h := ul_bd_h h v7 ev7
      refine lv_istore_n (lv' := [(2, .int v7), (0, .ref (aK 0)), (1, .ref (aL 0)), (3, .int x3), (4, .int x4), (5, .int x5)]) hx hb dX2_readFrom_101 rfl hl (by decide) rfl (fun ls hl => ?_)
      obtain ⟨v8, ev8⟩ : ∃ z : Int32, z = x3 + 1 := ⟨_, rfl⟩
      have h := ul_bd_h h v8 ev8
      refine lv_iinc (v := v8) (lv' := [(3, .int v8), (2, .int v7), (0, .ref (aK 0)), (1, .ref (aL 0)), (4, .int x4), (5, .int x5)]) hx hb dX2_readFrom_102 hl (k := 3) rfl (by rw [ev8]; rfl) (by decide) rfl (fun ls hl => ?_)
      refine lv_goto (tgt := 26) hx hb dX2_readFrom_105 (by decide) ?_
      exact ge _ _ _ (ih26 (v7, v8, K__100) h H locs ⟨hP, hD, hS⟩ ls (lv_sub hl [2, 3, 1, 0] rfl))
    have J77 : ∀ (x2 : Int32) (x3 : Int32) (x4 : Int32) (t0 : Int32) (K__77 : ul_S) (H : Heap) (locs : List Loc), ul_H (dC, dI) A s.heap (ul_wK cI aK K__77 ++ ul_wL cI aL L) H locs → ∀ ls : Array Slot, lv_has ls 6 [(0, .ref (aK 0)), (1, .ref (aL 0)), (2, .int x2), (3, .int x3), (4, .int x4)] → (f_X2_readFrom_j77 L x2 x3 x4 t0 K__77).bind K26 = some r → G H locs (F0 m 77 ls [.int t0]) := by
      intro x2 x3 x4 t0 K__77 H locs hw ls hl h
      obtain ⟨hP, hD, hS⟩ := hw
      unfold f_X2_readFrom_j77 at h
      refine gi _ _ _ ?_
      refine lv_istore (lv' := [(5, .int t0), (0, .ref (aK 0)), (1, .ref (aL 0)), (2, .int x2), (3, .int x3), (4, .int x4)]) hx hb dX2_readFrom_77 hl (by decide) rfl (fun ls hl => ?_)
      refine lv_iload hx hb dX2_readFrom_79 (lv_at hl 0 rfl) ?_
      refine lv_bipush (v := -9) hx hb dX2_readFrom_81 (by decide) ?_
      refine lv_icmp_eq (tgt := 89) hx hb dX2_readFrom_83 (by decide) (fun hc11 => ?_) (fun hc11 => ?_)
      · have h := ul_if_t hc11 h
        refine lv_iload_n hx hb dX2_readFrom_89 rfl (lv_at hl 3 rfl) ?_
        refine lv_iload hx hb dX2_readFrom_90 (lv_at hl 5 rfl) ?_
        refine lv_if_eq (tgt := 99) hx hb dX2_readFrom_92 (by decide) (fun hc12 => ?_) (fun hc12 => ?_)
        · have h := ul_if_t hc12 h
          refine lv_iconst (v := 5) hx hb dX2_readFrom_99 (by decide) ?_
          exact ge _ _ _ (J100 x2 x3 x4 t0 x2 (5 : Int32) K__77 H locs ⟨hP, hD, hS⟩ ls (lv_sub hl [1, 2, 3, 4, 5, 0] rfl) h)
        · have h := ul_if_f hc12 h
          refine lv_iconst (v := 4) hx hb dX2_readFrom_95 (by decide) ?_
          refine lv_goto (tgt := 100) hx hb dX2_readFrom_96 (by decide) ?_
          exact ge _ _ _ (J100 x2 x3 x4 t0 x2 (4 : Int32) K__77 H locs ⟨hP, hD, hS⟩ ls (lv_sub hl [1, 2, 3, 4, 5, 0] rfl) h)
      · have h := ul_if_f hc11 h
        refine lv_iload hx hb dX2_readFrom_86 (lv_at hl 0 rfl) ?_
        have hr9 := hK0 (t0, K__77) (hx26 (.inl (t0, K__77)) h)
        subst hr9
        exact W.iret (v := t0) hx hb hr (fun t ht hW => ⟨⟨t0, (), rfl, rfl, by rw [ht]; exact hP, va_K.moved hW.alike hK, hD⟩, hS.F ht⟩) hS.2.2 dX2_readFrom_88
    have J55 : ∀ (x2 : Int32) (x3 : Int32) (t0 : Int32) (K__55 : ul_S) (H : Heap) (locs : List Loc), ul_H (dC, dI) A s.heap (ul_wK cI aK K__55 ++ ul_wL cI aL L) H locs → ∀ ls : Array Slot, lv_has ls 6 [(0, .ref (aK 0)), (1, .ref (aL 0)), (2, .int x2), (3, .int x3)] → (f_X2_readFrom_j55 L x2 x3 t0 K__55).bind K26 = some r → G H locs (F0 m 55 ls [.int t0]) := by
      intro x2 x3 t0 K__55 H locs hw ls hl h
      obtain ⟨hP, hD, hS⟩ := hw
      unfold f_X2_readFrom_j55 at h
      refine gi _ _ _ ?_
      refine lv_istore (lv' := [(4, .int t0), (0, .ref (aK 0)), (1, .ref (aL 0)), (2, .int x2), (3, .int x3)]) hx hb dX2_readFrom_55 hl (by decide) rfl (fun ls hl => ?_)
      refine lv_iload hx hb dX2_readFrom_57 (lv_at hl 0 rfl) ?_
      refine lv_if_eq (tgt := 71) hx hb dX2_readFrom_59 (by decide) (fun hc16 => ?_) (fun hc16 => ?_)
      · have h := ul_if_t hc16 h
        refine lv_aload_n hx hb dX2_readFrom_71 rfl (lv_at hl 1 rfl) ?_
        refine lv_aload_n hx hb dX2_readFrom_72 rfl (lv_at hl 2 rfl) ?_
        refine lv_iload_n hx hb dX2_readFrom_73 rfl (lv_at hl 3 rfl) ?_
        obtain ⟨u17, hu17, h⟩ := ul_cl_h h
        refine ul_cVi (As := [.ref (aL 0), .int x2]) (rest := []) (wc' := (ul_wK cI aK u17.2 ++ ul_wL cI aL L)) (wr := []) hP hD hS hK hA [0, 1, 2, 3, 4, 5, 6, 7, 8, 9] [] [0] ul_NX_ok hN (c_X2_readPerson l dC dI cI aK aL H.size K__55 L x2 u17 hu17) rfl rfl (by decide) rfl (by decide) (by decide) rfl ⟨hx, hb, hml, hown, hts⟩ (cwV 2 hts gX2_readFrom_X2_readPerson rfl rfl rfl (by decide +kernel) ⟨Nat.le_of_ble_eq_true rfl, Nat.le_of_ble_eq_true rfl⟩) (va_recv hK hP (ci := 2) (q0 := 0) rfl rfl) rfl hl.1 rfl (Nat.le_of_ble_eq_true rfl) dX2_readFrom_74 (fun H locs hw => ?_)
        obtain ⟨hP, hD, hS⟩ := hw
        have hP : va_P (dC, dI) classes (ul_wK cI aK u17.2 ++ ul_wL cI aL L) H := hP
        have hD : va_D A (ul_wK cI aK u17.2 ++ ul_wL cI aL L) := hD
        exact ge _ _ _ (J77 x2 x3 t0 u17.1 u17.2 H locs ⟨hP, hD, hS⟩ ls (lv_sub hl [1, 2, 3, 4, 0] rfl) h)
      · have h := ul_if_f hc16 h
        refine lv_aload_n hx hb dX2_readFrom_62 rfl (lv_at hl 1 rfl) ?_
        refine lv_aload_n hx hb dX2_readFrom_63 rfl (lv_at hl 2 rfl) ?_
        refine lv_iload_n hx hb dX2_readFrom_64 rfl (lv_at hl 3 rfl) ?_
        obtain ⟨u18, hu18, h⟩ := ul_cl_h h
        refine ul_cVi (As := [.ref (aL 0), .int x2]) (rest := []) (wc' := (ul_wK cI aK u18.2 ++ ul_wL cI aL L)) (wr := []) hP hD hS hK hA [0, 1, 2, 3, 4, 5, 6, 7, 8, 9] [] [0] ul_NX_ok hN (c_X2_readLadder l dC dI cI aK aL H.size K__55 L x2 u18 hu18) rfl rfl (by decide) rfl (by decide) (by decide) rfl ⟨hx, hb, hml, hown, hts⟩ (cwV 2 hts gX2_readFrom_X2_readLadder rfl rfl rfl (by decide +kernel) ⟨Nat.le_of_ble_eq_true rfl, Nat.le_of_ble_eq_true rfl⟩) (va_recv hK hP (ci := 2) (q0 := 0) rfl rfl) rfl hl.1 rfl (Nat.le_of_ble_eq_true rfl) dX2_readFrom_65 (fun H locs hw => ?_)
        obtain ⟨hP, hD, hS⟩ := hw
        have hP : va_P (dC, dI) classes (ul_wK cI aK u18.2 ++ ul_wL cI aL L) H := hP
        have hD : va_D A (ul_wK cI aK u18.2 ++ ul_wL cI aL L) := hD
        refine lv_goto (tgt := 77) hx hb dX2_readFrom_68 (by decide) ?_
        exact ge _ _ _ (J77 x2 x3 t0 u18.1 u18.2 H locs ⟨hP, hD, hS⟩ ls (lv_sub hl [1, 2, 3, 4, 0] rfl) h)
    obtain ⟨hP, hD, hS⟩ := hw
    unfold f_X2_readFrom_L26 at h
    refine gi _ _ _ ?_
    refine lv_iload_n hx hb dX2_readFrom_26 rfl (lv_at hl 3 rfl) ?_
    refine lv_bipush (v := 9) hx hb dX2_readFrom_27 (by decide) ?_
    refine lv_icmp_gt (tgt := 108) hx hb dX2_readFrom_29 (by decide) (fun hc23 => ?_) (fun hc23 => ?_)
    · have h := ul_if_t hc23 h
      exact ge _ _ _ (J108 q26.1 q26.2.1 q26.2.2 H locs ⟨hP, hD, hS⟩ ls (lv_sub hl [0, 1, 2, 3] rfl) (hx26 (.inr (q26.1, q26.2.1, q26.2.2)) h))
    · have h := ul_if_f hc23 h
      refine lv_iload_n hx hb dX2_readFrom_32 rfl (lv_at hl 2 rfl) ?_
      refine lv_aload_n hx hb dX2_readFrom_33 rfl (lv_at hl 1 rfl) ?_
      refine va_getN (D := (dC, dI)) (ci := 5) (v := .int (L 0 0)) (C := RX5) (T := TX5) (N := 2) hx hb hts hin5 hown hK hP 8 rfl rfl 1 (by decide) (va_Nw.use rfl (hN.1 (RX2, 46, "UnderLadders$Text", "length", "I") (by decide +kernel))) (fun _ h9 => h9) rfl dX2_readFrom_34 ?_
      refine lv_icmp_ge (tgt := 108) hx hb dX2_readFrom_37 (by decide) (fun hc24 => ?_) (fun hc24 => ?_)
      · have h := ul_if_t hc24 h
        exact ge _ _ _ (J108 q26.1 q26.2.1 q26.2.2 H locs ⟨hP, hD, hS⟩ ls (lv_sub hl [0, 1, 2, 3] rfl) (hx26 (.inr (q26.1, q26.2.1, q26.2.2)) h))
      · have h := ul_if_f hc24 h
        refine lv_aload_n hx hb dX2_readFrom_40 rfl (lv_at hl 1 rfl) ?_
        refine lv_iload_n hx hb dX2_readFrom_41 rfl (lv_at hl 2 rfl) ?_
        obtain ⟨u25, hu25, h⟩ := ul_cl_h h
        refine ul_cVi (As := [.int q26.1]) (rest := []) (wc' := (ul_wL cI aL L)) (wr := (ul_wK cI aK q26.2.2)) hP hD hS hK hA [8, 9] [0, 1, 2, 3, 4, 5, 6, 7] [0] ul_NX_ok hN (c_X5_letterAt l dC dI cI aL H.size L q26.1 u25 hu25) rfl rfl (by decide) rfl (by decide) (by decide) rfl ⟨hx, hb, hml, hown, hts⟩ (cwV 1 hts gX2_readFrom_X5_letterAt rfl rfl rfl (by decide +kernel) ⟨Nat.le_of_ble_eq_true rfl, Nat.le_of_ble_eq_true rfl⟩) (va_recv hK hP (ci := 5) (q0 := 8) rfl rfl) rfl hl.1 rfl (Nat.le_of_ble_eq_true rfl) dX2_readFrom_42 (fun H locs hw => ?_)
        have hw := hw.re (w' := (ul_wK cI aK q26.2.2 ++ ul_wL cI aL L)) [0, 1, 2, 3, 4, 5, 6, 7, 8, 9] (by decide) rfl rfl
        obtain ⟨hP, hD, hS⟩ := hw
        refine lv_bipush (v := 76) hx hb dX2_readFrom_45 (by decide) ?_
        refine lv_icmp_ne (tgt := 54) hx hb dX2_readFrom_47 (by decide) (fun hc26 => ?_) (fun hc26 => ?_)
        · have h := ul_if_f hc26 h
          refine lv_iconst (v := 0) hx hb dX2_readFrom_54 (by decide) ?_
          exact ge _ _ _ (J55 q26.1 q26.2.1 (0 : Int32) q26.2.2 H locs ⟨hP, hD, hS⟩ ls (lv_sub hl [0, 1, 2, 3] rfl) h)
        · have h := ul_if_t hc26 h
          refine lv_iconst (v := 1) hx hb dX2_readFrom_50 (by decide) ?_
          refine lv_goto (tgt := 55) hx hb dX2_readFrom_51 (by decide) ?_
          exact ge _ _ _ (J55 q26.1 q26.2.1 (1 : Int32) q26.2.2 H locs ⟨hP, hD, hS⟩ ls (lv_sub hl [0, 1, 2, 3] rfl) h)
  · have h := ul_if_f hc4 h
    refine lv_iconst (v := 0) hx hb dX2_readFrom_20 (by decide) ?_
    have hr9 := hK0 ((0 : Int32), K2) h
    subst hr9
    exact W.iret (v := (0 : Int32)) hx hb hr (fun t ht hW => ⟨⟨(0 : Int32), (), rfl, rfl, by rw [ht]; exact hP, va_K.moved hW.alike hK, hD⟩, hS.F ht⟩) hS.2.2 dX2_readFrom_21
