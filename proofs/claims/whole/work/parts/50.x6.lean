def f_X6_write (L : ul_S) (p1 : Int32) : Option (Int32 × ul_S) :=
  if p1 < 0 then (some ((-2 : Int32), L)) else (if p1 ≤ (255 : Int32) then ((f_X5_add L p1).bind fun u3 => some (u3.1, u3.2)) else (some ((-2 : Int32), L)))
set_option maxHeartbeats 4000000 in
set_option maxRecDepth 100000 in
theorem c_X6_write (l : Launch) (dC : Nat → ClassId) (dI : Nat → Nat → Nat) (cI : ClassId) (cZ : ClassId) (cO : ClassId) (aU : Nat → Nat) (aL : Nat → Nat) (aD : Nat → Nat) (aK : Nat → Nat) (aN : Nat → Nat) (aT : Nat → Nat) (aJ : Nat → Nat) (aE : Nat → Nat) (aF : Nat → Nat) (aP : Nat → Nat → Nat) (aB : Nat → Nat → Nat) (sz : Nat) (U : ul_S) (d : Int64) (L : ul_S) (D : ul_S) (K : ul_S) (N : ul_S) (T : ul_S) (J : ul_S) (E : ul_S) (F : ul_S) (P : ul_F) (B : ul_F) (p1 : Int32) (r : (Int32 × ul_S)) (h : f_X6_write L p1 = some r) : Met l yX6_write wsX6_write ({ frames := 1, cells := 0, slots := 0, locals := 21 }) (va_Pc [.ref (aU 0), .int p1] (ul_pre (dC, dI) [(cI, .int), (cZ, .boolean), (cO, .object RX4)] ul_NX sz ([ul_wU cZ cO aU (aL 0) (aD 0) (aK 0) (aN 0) (aT 0) (aJ 0) (aE 0) (aF 0) aP U d, ul_wL cI aL L, ul_wK cI aD D, ul_wK cI aK K, ul_wS cI aN (aK 0) N, ul_wS cI aT (aK 0) T, ul_wJ cO aJ aB J, ul_wE cI aE E, ul_wG cI aF (aK 0) (aN 0) (aT 0) F, ul_wB cI aP (aK 0) 2 P, ul_wB cI aB (aK 0) 14 B] : List va_W).flatten)) (va_Qi (fun v (_ : Unit) => v = r.1) (fun _ => ul_post (dC, dI) [(cI, .int), (cZ, .boolean), (cO, .object RX4)] (va_A ([ul_wU cZ cO aU (aL 0) (aD 0) (aK 0) (aN 0) (aT 0) (aJ 0) (aE 0) (aF 0) aP U d, ul_wL cI aL L, ul_wK cI aD D, ul_wK cI aK K, ul_wS cI aN (aK 0) N, ul_wS cI aT (aK 0) T, ul_wJ cO aJ aB J, ul_wE cI aE E, ul_wG cI aF (aK 0) (aN 0) (aT 0) F, ul_wB cI aP (aK 0) 2 P, ul_wB cI aB (aK 0) 14 B] : List va_W).flatten sz) ([ul_wU cZ cO aU (aL 0) (aD 0) (aK 0) (aN 0) (aT 0) (aJ 0) (aE 0) (aF 0) aP U d, ul_wL cI aL r.2, ul_wK cI aD D, ul_wK cI aK K, ul_wS cI aN (aK 0) N, ul_wS cI aT (aK 0) T, ul_wJ cO aJ aB J, ul_wE cI aE E, ul_wG cI aF (aK 0) (aN 0) (aT 0) F, ul_wB cI aP (aK 0) 2 P, ul_wB cI aB (aK 0) 14 B] : List va_W).flatten) (va_A ([ul_wU cZ cO aU (aL 0) (aD 0) (aK 0) (aN 0) (aT 0) (aJ 0) (aE 0) (aF 0) aP U d, ul_wL cI aL L, ul_wK cI aD D, ul_wK cI aK K, ul_wS cI aN (aK 0) N, ul_wS cI aT (aK 0) T, ul_wJ cO aJ aB J, ul_wE cI aE E, ul_wG cI aF (aK 0) (aN 0) (aT 0) F, ul_wB cI aP (aK 0) 2 P, ul_wB cI aB (aK 0) 14 B] : List va_W).flatten sz)) 0 0 (va_A ([ul_wU cZ cO aU (aL 0) (aD 0) (aK 0) (aN 0) (aT 0) (aJ 0) (aE 0) (aF 0) aP U d, ul_wL cI aL L, ul_wK cI aD D, ul_wK cI aK K, ul_wS cI aN (aK 0) N, ul_wS cI aT (aK 0) T, ul_wJ cO aJ aB J, ul_wE cI aE E, ul_wG cI aF (aK 0) (aN 0) (aT 0) F, ul_wB cI aP (aK 0) 2 P, ul_wB cI aB (aK 0) 14 B] : List va_W).flatten sz) := by
  refine Met.ofW (cc := cX6_write) (maxL := 2) (ret := (some .int)) (by decide) rfl ?_
  intro p e s m args below meth c s₁ BB hml hv
  obtain ⟨rfl, hsz, hP, hK, hD0, hN⟩ := hv
  have hx := BB.exec
  have hb := BB.bytes
  have hr := BB.returns
  have hts := atoms_spec (ws := wsX6_write) BB.pre
  have hown : s.vm.findClass RX6 = some m.cls := findClass_of_methodNamed BB.named
  have hlocks := BB.notSynchronized
  have hin6 : ∀ w ∈ u_ws RX6 TX6 11, w ∈ wsX6_write := by decide +kernel
  subst hsz
  have hD := hD0.self (sz := s.heap.size)
  generalize hAe : va_A ([ul_wU cZ cO aU (aL 0) (aD 0) (aK 0) (aN 0) (aT 0) (aJ 0) (aE 0) (aF 0) aP U d, ul_wL cI aL L, ul_wK cI aD D, ul_wK cI aK K, ul_wS cI aN (aK 0) N, ul_wS cI aT (aK 0) T, ul_wJ cO aJ aB J, ul_wE cI aE E, ul_wG cI aF (aK 0) (aN 0) (aT 0) F, ul_wB cI aP (aK 0) 2 P, ul_wB cI aB (aK 0) 14 B] : List va_W).flatten s.heap.size = A at hD hN ⊢
  have hA : ∀ q : Nat, s.heap.size ≤ q → A q := fun q h => by rw [← hAe]; exact Or.inr h
  have hS : va_S A s.heap s.heap [] := va_S.rf
  have hl := lv_entry ([.ref (aU 0), .int p1]) (n := 2) (Nat.le_of_ble_eq_true rfl)
  rw [lg_entry_eq]
  generalize (lg_sl ([.ref (aU 0), .int p1]) ++ List.replicate (2 - (lg_sl ([.ref (aU 0), .int p1])).length) Slot.unset).toArray = ls at hl ⊢
  have hl : lv_has ls 2 [(0, .ref (aU 0)), (1, .int p1)] := hl
  obtain ⟨K0, hK0, h⟩ := ul_top h
  unfold f_X6_write at h
  refine ul_gen (fun G gi ge => ?_)
  obtain ⟨H, eH⟩ : ∃ z, z = s.heap := ⟨_, rfl⟩
  obtain ⟨locs, eL⟩ : ∃ z : List Loc, z = [] := ⟨_, rfl⟩
  have hP : va_P (dC, dI) classes ([ul_wU cZ cO aU (aL 0) (aD 0) (aK 0) (aN 0) (aT 0) (aJ 0) (aE 0) (aF 0) aP U d, ul_wL cI aL L, ul_wK cI aD D, ul_wK cI aK K, ul_wS cI aN (aK 0) N, ul_wS cI aT (aK 0) T, ul_wJ cO aJ aB J, ul_wE cI aE E, ul_wG cI aF (aK 0) (aN 0) (aT 0) F, ul_wB cI aP (aK 0) 2 P, ul_wB cI aB (aK 0) 14 B] : List va_W).flatten H := by rw [eH]; exact hP
  have hS : va_S A s.heap H locs := by rw [eH, eL]; exact hS
  rw [← eL]
  refine (show G H locs (F0 m 0 ls []) → G s.heap locs (F0 m 0 ls []) from fun z => by rw [← eH]; exact z) ?_
  refine gi _ _ _ ?_
  refine lv_iload_n hx hb dX6_write_0 rfl (lv_at hl 1 rfl) ?_
  refine lv_if_lt (tgt := 11) hx hb dX6_write_1 (by decide) (fun hc1 => ?_) (fun hc1 => ?_)
  · have h := ul_if_t hc1 h
    refine lv_bipush (v := -2) hx hb dX6_write_11 (by decide) ?_
    have hr9 := hK0 ((-2 : Int32), L) h
    subst hr9
    exact W.iret (v := (-2 : Int32)) hx hb hr (fun t ht hW => ⟨⟨(-2 : Int32), (), rfl, rfl, by rw [ht]; exact hP, va_K.moved hW.alike hK, hD⟩, hS.F ht⟩) hS.2.2 dX6_write_13
  · have h := ul_if_f hc1 h
    refine lv_iload_n hx hb dX6_write_4 rfl (lv_at hl 1 rfl) ?_
    refine lv_sipush (v := 255) hx hb dX6_write_5 (by decide) ?_
    refine lv_icmp_le (tgt := 14) hx hb dX6_write_8 (by decide) (fun hc2 => ?_) (fun hc2 => ?_)
    · have h := ul_if_t hc2 h
      refine lv_aload_n hx hb dX6_write_14 rfl (lv_at hl 0 rfl) ?_
      refine va_get (D := (dC, dI)) (ci := 6) (v := .ref (aL 0)) (C := RX6) (T := TX6) (N := 11) hx hb hts hin6 hown hK hP 0 rfl rfl 0 (by decide) (hts (.fieldLink RX6 12 "UnderLadders" "text" "LUnderLadders$Text;") (by decide +kernel)) (fun _ h9 => h9) rfl dX6_write_15 ?_
      refine lv_iload_n hx hb dX6_write_18 rfl (lv_at hl 1 rfl) ?_
      obtain ⟨u3, hu3, h⟩ := ul_cl_h h
      refine ul_cPi (As := [.int p1]) (rest := []) (wc := (ul_wL cI aL L)) (wc' := (ul_wL cI aL u3.2)) (wr := ([ul_wU cZ cO aU (aL 0) (aD 0) (aK 0) (aN 0) (aT 0) (aJ 0) (aE 0) (aF 0) aP U d, ul_wK cI aD D, ul_wK cI aK K, ul_wS cI aN (aK 0) N, ul_wS cI aT (aK 0) T, ul_wJ cO aJ aB J, ul_wE cI aE E, ul_wG cI aF (aK 0) (aN 0) (aT 0) F, ul_wB cI aP (aK 0) 2 P, ul_wB cI aB (aK 0) 14 B] : List va_W).flatten) hP hD hS hK hA [0] ul_NX_ok hN (c_X5_add l dC dI cI aL H.size L p1 u3 hu3) (ul_pmq (bs := [ul_wU cZ cO aU (aL 0) (aD 0) (aK 0) (aN 0) (aT 0) (aJ 0) (aE 0) (aF 0) aP U d, ul_wL cI aL L, ul_wK cI aD D, ul_wK cI aK K, ul_wS cI aN (aK 0) N, ul_wS cI aT (aK 0) T, ul_wJ cO aJ aB J, ul_wE cI aE E, ul_wG cI aF (aK 0) (aN 0) (aT 0) F, ul_wB cI aP (aK 0) 2 P, ul_wB cI aB (aK 0) 14 B]) [1, 0, 2, 3, 4, 5, 6, 7, 8, 9, 10] (by show List.Perm _ (List.range 11); decide) (by simp only [List.map_cons, List.map_nil, List.getD_cons_zero, List.getD_cons_succ, List.flatten_cons, List.flatten_nil, List.append_nil, List.nil_append, List.append_assoc])) rfl ⟨hx, hb, hml, hown, hts⟩ (cwV 1 hts gX6_write_X5_add rfl rfl rfl (by decide +kernel) ⟨Nat.le_of_ble_eq_true rfl, Nat.le_of_ble_eq_true rfl⟩) (va_recv hK hP (ci := 5) (q0 := 3) rfl rfl) rfl hl.1 rfl (Nat.le_of_ble_eq_true rfl) dX6_write_19 (fun H locs hw => ?_)
      have hw := hw.pm (ul_pmq (bs := [ul_wU cZ cO aU (aL 0) (aD 0) (aK 0) (aN 0) (aT 0) (aJ 0) (aE 0) (aF 0) aP U d, ul_wL cI aL u3.2, ul_wK cI aD D, ul_wK cI aK K, ul_wS cI aN (aK 0) N, ul_wS cI aT (aK 0) T, ul_wJ cO aJ aB J, ul_wE cI aE E, ul_wG cI aF (aK 0) (aN 0) (aT 0) F, ul_wB cI aP (aK 0) 2 P, ul_wB cI aB (aK 0) 14 B]) [0, 2, 3, 4, 5, 6, 7, 8, 9, 10, 1] (by show List.Perm _ (List.range 11); decide) (by simp only [List.map_cons, List.map_nil, List.getD_cons_zero, List.getD_cons_succ, List.flatten_cons, List.flatten_nil, List.append_nil, List.nil_append, List.append_assoc])).symm
      obtain ⟨hP, hD, hS⟩ := hw
      have hP : va_P (dC, dI) classes ([ul_wU cZ cO aU (aL 0) (aD 0) (aK 0) (aN 0) (aT 0) (aJ 0) (aE 0) (aF 0) aP U d, ul_wL cI aL u3.2, ul_wK cI aD D, ul_wK cI aK K, ul_wS cI aN (aK 0) N, ul_wS cI aT (aK 0) T, ul_wJ cO aJ aB J, ul_wE cI aE E, ul_wG cI aF (aK 0) (aN 0) (aT 0) F, ul_wB cI aP (aK 0) 2 P, ul_wB cI aB (aK 0) 14 B] : List va_W).flatten H := hP
      have hD : va_D A ([ul_wU cZ cO aU (aL 0) (aD 0) (aK 0) (aN 0) (aT 0) (aJ 0) (aE 0) (aF 0) aP U d, ul_wL cI aL u3.2, ul_wK cI aD D, ul_wK cI aK K, ul_wS cI aN (aK 0) N, ul_wS cI aT (aK 0) T, ul_wJ cO aJ aB J, ul_wE cI aE E, ul_wG cI aF (aK 0) (aN 0) (aT 0) F, ul_wB cI aP (aK 0) 2 P, ul_wB cI aB (aK 0) 14 B] : List va_W).flatten := hD
      have hr9 := hK0 (u3.1, u3.2) h
      subst hr9
      exact W.iret (v := u3.1) hx hb hr (fun t ht hW => ⟨⟨u3.1, (), rfl, rfl, by rw [ht]; exact hP, va_K.moved hW.alike hK, hD⟩, hS.F ht⟩) hS.2.2 dX6_write_22
    · have h := ul_if_f hc2 h
      refine lv_bipush (v := -2) hx hb dX6_write_11 (by decide) ?_
      have hr9 := hK0 ((-2 : Int32), L) h
      subst hr9
      exact W.iret (v := (-2 : Int32)) hx hb hr (fun t ht hW => ⟨⟨(-2 : Int32), (), rfl, rfl, by rw [ht]; exact hP, va_K.moved hW.alike hK, hD⟩, hS.F ht⟩) hS.2.2 dX6_write_13
def f_X6_wipe (L : ul_S) : Option (Int32 × ul_S) :=
  (f_X5_clear L).bind fun u1 => some (u1.1, u1.2)
set_option maxHeartbeats 4000000 in
set_option maxRecDepth 100000 in
theorem c_X6_wipe (l : Launch) (dC : Nat → ClassId) (dI : Nat → Nat → Nat) (cI : ClassId) (cZ : ClassId) (cO : ClassId) (aU : Nat → Nat) (aL : Nat → Nat) (aD : Nat → Nat) (aK : Nat → Nat) (aN : Nat → Nat) (aT : Nat → Nat) (aJ : Nat → Nat) (aE : Nat → Nat) (aF : Nat → Nat) (aP : Nat → Nat → Nat) (aB : Nat → Nat → Nat) (sz : Nat) (U : ul_S) (d : Int64) (L : ul_S) (D : ul_S) (K : ul_S) (N : ul_S) (T : ul_S) (J : ul_S) (E : ul_S) (F : ul_S) (P : ul_F) (B : ul_F) (r : (Int32 × ul_S)) (h : f_X6_wipe L = some r) : Met l yX6_wipe wsX6_wipe ({ frames := 1, cells := 0, slots := 0, locals := 21 }) (va_Pc [.ref (aU 0)] (ul_pre (dC, dI) [(cI, .int), (cZ, .boolean), (cO, .object RX4)] ul_NX sz ([ul_wU cZ cO aU (aL 0) (aD 0) (aK 0) (aN 0) (aT 0) (aJ 0) (aE 0) (aF 0) aP U d, ul_wL cI aL L, ul_wK cI aD D, ul_wK cI aK K, ul_wS cI aN (aK 0) N, ul_wS cI aT (aK 0) T, ul_wJ cO aJ aB J, ul_wE cI aE E, ul_wG cI aF (aK 0) (aN 0) (aT 0) F, ul_wB cI aP (aK 0) 2 P, ul_wB cI aB (aK 0) 14 B] : List va_W).flatten)) (va_Qi (fun v (_ : Unit) => v = r.1) (fun _ => ul_post (dC, dI) [(cI, .int), (cZ, .boolean), (cO, .object RX4)] (va_A ([ul_wU cZ cO aU (aL 0) (aD 0) (aK 0) (aN 0) (aT 0) (aJ 0) (aE 0) (aF 0) aP U d, ul_wL cI aL L, ul_wK cI aD D, ul_wK cI aK K, ul_wS cI aN (aK 0) N, ul_wS cI aT (aK 0) T, ul_wJ cO aJ aB J, ul_wE cI aE E, ul_wG cI aF (aK 0) (aN 0) (aT 0) F, ul_wB cI aP (aK 0) 2 P, ul_wB cI aB (aK 0) 14 B] : List va_W).flatten sz) ([ul_wU cZ cO aU (aL 0) (aD 0) (aK 0) (aN 0) (aT 0) (aJ 0) (aE 0) (aF 0) aP U d, ul_wL cI aL r.2, ul_wK cI aD D, ul_wK cI aK K, ul_wS cI aN (aK 0) N, ul_wS cI aT (aK 0) T, ul_wJ cO aJ aB J, ul_wE cI aE E, ul_wG cI aF (aK 0) (aN 0) (aT 0) F, ul_wB cI aP (aK 0) 2 P, ul_wB cI aB (aK 0) 14 B] : List va_W).flatten) (va_A ([ul_wU cZ cO aU (aL 0) (aD 0) (aK 0) (aN 0) (aT 0) (aJ 0) (aE 0) (aF 0) aP U d, ul_wL cI aL L, ul_wK cI aD D, ul_wK cI aK K, ul_wS cI aN (aK 0) N, ul_wS cI aT (aK 0) T, ul_wJ cO aJ aB J, ul_wE cI aE E, ul_wG cI aF (aK 0) (aN 0) (aT 0) F, ul_wB cI aP (aK 0) 2 P, ul_wB cI aB (aK 0) 14 B] : List va_W).flatten sz)) 0 0 (va_A ([ul_wU cZ cO aU (aL 0) (aD 0) (aK 0) (aN 0) (aT 0) (aJ 0) (aE 0) (aF 0) aP U d, ul_wL cI aL L, ul_wK cI aD D, ul_wK cI aK K, ul_wS cI aN (aK 0) N, ul_wS cI aT (aK 0) T, ul_wJ cO aJ aB J, ul_wE cI aE E, ul_wG cI aF (aK 0) (aN 0) (aT 0) F, ul_wB cI aP (aK 0) 2 P, ul_wB cI aB (aK 0) 14 B] : List va_W).flatten sz) := by
  refine Met.ofW (cc := cX6_wipe) (maxL := 1) (ret := (some .int)) (by decide) rfl ?_
  intro p e s m args below meth c s₁ BB hml hv
  obtain ⟨rfl, hsz, hP, hK, hD0, hN⟩ := hv
  have hx := BB.exec
  have hb := BB.bytes
  have hr := BB.returns
  have hts := atoms_spec (ws := wsX6_wipe) BB.pre
  have hown : s.vm.findClass RX6 = some m.cls := findClass_of_methodNamed BB.named
  have hlocks := BB.notSynchronized
  have hin6 : ∀ w ∈ u_ws RX6 TX6 11, w ∈ wsX6_wipe := by decide +kernel
  subst hsz
  have hD := hD0.self (sz := s.heap.size)
  generalize hAe : va_A ([ul_wU cZ cO aU (aL 0) (aD 0) (aK 0) (aN 0) (aT 0) (aJ 0) (aE 0) (aF 0) aP U d, ul_wL cI aL L, ul_wK cI aD D, ul_wK cI aK K, ul_wS cI aN (aK 0) N, ul_wS cI aT (aK 0) T, ul_wJ cO aJ aB J, ul_wE cI aE E, ul_wG cI aF (aK 0) (aN 0) (aT 0) F, ul_wB cI aP (aK 0) 2 P, ul_wB cI aB (aK 0) 14 B] : List va_W).flatten s.heap.size = A at hD hN ⊢
  have hA : ∀ q : Nat, s.heap.size ≤ q → A q := fun q h => by rw [← hAe]; exact Or.inr h
  have hS : va_S A s.heap s.heap [] := va_S.rf
  have hl := lv_entry ([.ref (aU 0)]) (n := 1) (Nat.le_of_ble_eq_true rfl)
  rw [lg_entry_eq]
  generalize (lg_sl ([.ref (aU 0)]) ++ List.replicate (1 - (lg_sl ([.ref (aU 0)])).length) Slot.unset).toArray = ls at hl ⊢
  have hl : lv_has ls 1 [(0, .ref (aU 0))] := hl
  obtain ⟨K0, hK0, h⟩ := ul_top h
  unfold f_X6_wipe at h
  refine ul_gen (fun G gi ge => ?_)
  obtain ⟨H, eH⟩ : ∃ z, z = s.heap := ⟨_, rfl⟩
  obtain ⟨locs, eL⟩ : ∃ z : List Loc, z = [] := ⟨_, rfl⟩
  have hP : va_P (dC, dI) classes ([ul_wU cZ cO aU (aL 0) (aD 0) (aK 0) (aN 0) (aT 0) (aJ 0) (aE 0) (aF 0) aP U d, ul_wL cI aL L, ul_wK cI aD D, ul_wK cI aK K, ul_wS cI aN (aK 0) N, ul_wS cI aT (aK 0) T, ul_wJ cO aJ aB J, ul_wE cI aE E, ul_wG cI aF (aK 0) (aN 0) (aT 0) F, ul_wB cI aP (aK 0) 2 P, ul_wB cI aB (aK 0) 14 B] : List va_W).flatten H := by rw [eH]; exact hP
  have hS : va_S A s.heap H locs := by rw [eH, eL]; exact hS
  rw [← eL]
  refine (show G H locs (F0 m 0 ls []) → G s.heap locs (F0 m 0 ls []) from fun z => by rw [← eH]; exact z) ?_
  refine gi _ _ _ ?_
  refine lv_aload_n hx hb dX6_wipe_0 rfl (lv_at hl 0 rfl) ?_
  refine va_get (D := (dC, dI)) (ci := 6) (v := .ref (aL 0)) (C := RX6) (T := TX6) (N := 11) hx hb hts hin6 hown hK hP 0 rfl rfl 0 (by decide) (hts (.fieldLink RX6 12 "UnderLadders" "text" "LUnderLadders$Text;") (by decide +kernel)) (fun _ h9 => h9) rfl dX6_wipe_1 ?_
  obtain ⟨u1, hu1, h⟩ := ul_cl_h h
  refine ul_cPi (As := []) (rest := []) (wc := (ul_wL cI aL L)) (wc' := (ul_wL cI aL u1.2)) (wr := ([ul_wU cZ cO aU (aL 0) (aD 0) (aK 0) (aN 0) (aT 0) (aJ 0) (aE 0) (aF 0) aP U d, ul_wK cI aD D, ul_wK cI aK K, ul_wS cI aN (aK 0) N, ul_wS cI aT (aK 0) T, ul_wJ cO aJ aB J, ul_wE cI aE E, ul_wG cI aF (aK 0) (aN 0) (aT 0) F, ul_wB cI aP (aK 0) 2 P, ul_wB cI aB (aK 0) 14 B] : List va_W).flatten) hP hD hS hK hA [0] ul_NX_ok hN (c_X5_clear l dC dI cI aL H.size L u1 hu1) (ul_pmq (bs := [ul_wU cZ cO aU (aL 0) (aD 0) (aK 0) (aN 0) (aT 0) (aJ 0) (aE 0) (aF 0) aP U d, ul_wL cI aL L, ul_wK cI aD D, ul_wK cI aK K, ul_wS cI aN (aK 0) N, ul_wS cI aT (aK 0) T, ul_wJ cO aJ aB J, ul_wE cI aE E, ul_wG cI aF (aK 0) (aN 0) (aT 0) F, ul_wB cI aP (aK 0) 2 P, ul_wB cI aB (aK 0) 14 B]) [1, 0, 2, 3, 4, 5, 6, 7, 8, 9, 10] (by show List.Perm _ (List.range 11); decide) (by simp only [List.map_cons, List.map_nil, List.getD_cons_zero, List.getD_cons_succ, List.flatten_cons, List.flatten_nil, List.append_nil, List.nil_append, List.append_assoc])) rfl ⟨hx, hb, hml, hown, hts⟩ (cwV 0 hts gX6_wipe_X5_clear rfl rfl rfl (by decide +kernel) ⟨Nat.le_of_ble_eq_true rfl, Nat.le_of_ble_eq_true rfl⟩) (va_recv hK hP (ci := 5) (q0 := 3) rfl rfl) rfl hl.1 rfl (Nat.le_of_ble_eq_true rfl) dX6_wipe_4 (fun H locs hw => ?_)
  have hw := hw.pm (ul_pmq (bs := [ul_wU cZ cO aU (aL 0) (aD 0) (aK 0) (aN 0) (aT 0) (aJ 0) (aE 0) (aF 0) aP U d, ul_wL cI aL u1.2, ul_wK cI aD D, ul_wK cI aK K, ul_wS cI aN (aK 0) N, ul_wS cI aT (aK 0) T, ul_wJ cO aJ aB J, ul_wE cI aE E, ul_wG cI aF (aK 0) (aN 0) (aT 0) F, ul_wB cI aP (aK 0) 2 P, ul_wB cI aB (aK 0) 14 B]) [0, 2, 3, 4, 5, 6, 7, 8, 9, 10, 1] (by show List.Perm _ (List.range 11); decide) (by simp only [List.map_cons, List.map_nil, List.getD_cons_zero, List.getD_cons_succ, List.flatten_cons, List.flatten_nil, List.append_nil, List.nil_append, List.append_assoc])).symm
  obtain ⟨hP, hD, hS⟩ := hw
  have hP : va_P (dC, dI) classes ([ul_wU cZ cO aU (aL 0) (aD 0) (aK 0) (aN 0) (aT 0) (aJ 0) (aE 0) (aF 0) aP U d, ul_wL cI aL u1.2, ul_wK cI aD D, ul_wK cI aK K, ul_wS cI aN (aK 0) N, ul_wS cI aT (aK 0) T, ul_wJ cO aJ aB J, ul_wE cI aE E, ul_wG cI aF (aK 0) (aN 0) (aT 0) F, ul_wB cI aP (aK 0) 2 P, ul_wB cI aB (aK 0) 14 B] : List va_W).flatten H := hP
  have hD : va_D A ([ul_wU cZ cO aU (aL 0) (aD 0) (aK 0) (aN 0) (aT 0) (aJ 0) (aE 0) (aF 0) aP U d, ul_wL cI aL u1.2, ul_wK cI aD D, ul_wK cI aK K, ul_wS cI aN (aK 0) N, ul_wS cI aT (aK 0) T, ul_wJ cO aJ aB J, ul_wE cI aE E, ul_wG cI aF (aK 0) (aN 0) (aT 0) F, ul_wB cI aP (aK 0) 2 P, ul_wB cI aB (aK 0) 14 B] : List va_W).flatten := hD
  have hr9 := hK0 (u1.1, u1.2) h
  subst hr9
  exact W.iret (v := u1.1) hx hb hr (fun t ht hW => ⟨⟨u1.1, (), rfl, rfl, by rw [ht]; exact hP, va_K.moved hW.alike hK, hD⟩, hS.F ht⟩) hS.2.2 dX6_wipe_7
def f_X6_fault (L : ul_S) (D : ul_S) : Option (Int32 × ul_S) :=
  (f_X2_readFrom D L).bind fun u1 => some (u1.1, u1.2)
set_option maxHeartbeats 4000000 in
set_option maxRecDepth 100000 in
theorem c_X6_fault (l : Launch) (dC : Nat → ClassId) (dI : Nat → Nat → Nat) (cI : ClassId) (cZ : ClassId) (cO : ClassId) (aU : Nat → Nat) (aL : Nat → Nat) (aD : Nat → Nat) (aK : Nat → Nat) (aN : Nat → Nat) (aT : Nat → Nat) (aJ : Nat → Nat) (aE : Nat → Nat) (aF : Nat → Nat) (aP : Nat → Nat → Nat) (aB : Nat → Nat → Nat) (sz : Nat) (U : ul_S) (d : Int64) (L : ul_S) (D : ul_S) (K : ul_S) (N : ul_S) (T : ul_S) (J : ul_S) (E : ul_S) (F : ul_S) (P : ul_F) (B : ul_F) (r : (Int32 × ul_S)) (h : f_X6_fault L D = some r) : Met l yX6_fault wsX6_fault ({ frames := 4, cells := 0, slots := 0, locals := 94 }) (va_Pc [.ref (aU 0)] (ul_pre (dC, dI) [(cI, .int), (cZ, .boolean), (cO, .object RX4)] ul_NX sz ([ul_wU cZ cO aU (aL 0) (aD 0) (aK 0) (aN 0) (aT 0) (aJ 0) (aE 0) (aF 0) aP U d, ul_wL cI aL L, ul_wK cI aD D, ul_wK cI aK K, ul_wS cI aN (aK 0) N, ul_wS cI aT (aK 0) T, ul_wJ cO aJ aB J, ul_wE cI aE E, ul_wG cI aF (aK 0) (aN 0) (aT 0) F, ul_wB cI aP (aK 0) 2 P, ul_wB cI aB (aK 0) 14 B] : List va_W).flatten)) (va_Qi (fun v (_ : Unit) => v = r.1) (fun _ => ul_post (dC, dI) [(cI, .int), (cZ, .boolean), (cO, .object RX4)] (va_A ([ul_wU cZ cO aU (aL 0) (aD 0) (aK 0) (aN 0) (aT 0) (aJ 0) (aE 0) (aF 0) aP U d, ul_wL cI aL L, ul_wK cI aD D, ul_wK cI aK K, ul_wS cI aN (aK 0) N, ul_wS cI aT (aK 0) T, ul_wJ cO aJ aB J, ul_wE cI aE E, ul_wG cI aF (aK 0) (aN 0) (aT 0) F, ul_wB cI aP (aK 0) 2 P, ul_wB cI aB (aK 0) 14 B] : List va_W).flatten sz) ([ul_wU cZ cO aU (aL 0) (aD 0) (aK 0) (aN 0) (aT 0) (aJ 0) (aE 0) (aF 0) aP U d, ul_wL cI aL L, ul_wK cI aD r.2, ul_wK cI aK K, ul_wS cI aN (aK 0) N, ul_wS cI aT (aK 0) T, ul_wJ cO aJ aB J, ul_wE cI aE E, ul_wG cI aF (aK 0) (aN 0) (aT 0) F, ul_wB cI aP (aK 0) 2 P, ul_wB cI aB (aK 0) 14 B] : List va_W).flatten) (va_A ([ul_wU cZ cO aU (aL 0) (aD 0) (aK 0) (aN 0) (aT 0) (aJ 0) (aE 0) (aF 0) aP U d, ul_wL cI aL L, ul_wK cI aD D, ul_wK cI aK K, ul_wS cI aN (aK 0) N, ul_wS cI aT (aK 0) T, ul_wJ cO aJ aB J, ul_wE cI aE E, ul_wG cI aF (aK 0) (aN 0) (aT 0) F, ul_wB cI aP (aK 0) 2 P, ul_wB cI aB (aK 0) 14 B] : List va_W).flatten sz)) 0 0 (va_A ([ul_wU cZ cO aU (aL 0) (aD 0) (aK 0) (aN 0) (aT 0) (aJ 0) (aE 0) (aF 0) aP U d, ul_wL cI aL L, ul_wK cI aD D, ul_wK cI aK K, ul_wS cI aN (aK 0) N, ul_wS cI aT (aK 0) T, ul_wJ cO aJ aB J, ul_wE cI aE E, ul_wG cI aF (aK 0) (aN 0) (aT 0) F, ul_wB cI aP (aK 0) 2 P, ul_wB cI aB (aK 0) 14 B] : List va_W).flatten sz) := by
  refine Met.ofW (cc := cX6_fault) (maxL := 1) (ret := (some .int)) (by decide) rfl ?_
  intro p e s m args below meth c s₁ BB hml hv
  obtain ⟨rfl, hsz, hP, hK, hD0, hN⟩ := hv
  have hx := BB.exec
  have hb := BB.bytes
  have hr := BB.returns
  have hts := atoms_spec (ws := wsX6_fault) BB.pre
  have hown : s.vm.findClass RX6 = some m.cls := findClass_of_methodNamed BB.named
  have hlocks := BB.notSynchronized
  have hin6 : ∀ w ∈ u_ws RX6 TX6 11, w ∈ wsX6_fault := by decide +kernel
  subst hsz
  have hD := hD0.self (sz := s.heap.size)
  generalize hAe : va_A ([ul_wU cZ cO aU (aL 0) (aD 0) (aK 0) (aN 0) (aT 0) (aJ 0) (aE 0) (aF 0) aP U d, ul_wL cI aL L, ul_wK cI aD D, ul_wK cI aK K, ul_wS cI aN (aK 0) N, ul_wS cI aT (aK 0) T, ul_wJ cO aJ aB J, ul_wE cI aE E, ul_wG cI aF (aK 0) (aN 0) (aT 0) F, ul_wB cI aP (aK 0) 2 P, ul_wB cI aB (aK 0) 14 B] : List va_W).flatten s.heap.size = A at hD hN ⊢
  have hA : ∀ q : Nat, s.heap.size ≤ q → A q := fun q h => by rw [← hAe]; exact Or.inr h
  have hS : va_S A s.heap s.heap [] := va_S.rf
  have hl := lv_entry ([.ref (aU 0)]) (n := 1) (Nat.le_of_ble_eq_true rfl)
  rw [lg_entry_eq]
  generalize (lg_sl ([.ref (aU 0)]) ++ List.replicate (1 - (lg_sl ([.ref (aU 0)])).length) Slot.unset).toArray = ls at hl ⊢
  have hl : lv_has ls 1 [(0, .ref (aU 0))] := hl
  obtain ⟨K0, hK0, h⟩ := ul_top h
  unfold f_X6_fault at h
  refine ul_gen (fun G gi ge => ?_)
  obtain ⟨H, eH⟩ : ∃ z, z = s.heap := ⟨_, rfl⟩
  obtain ⟨locs, eL⟩ : ∃ z : List Loc, z = [] := ⟨_, rfl⟩
  have hP : va_P (dC, dI) classes ([ul_wU cZ cO aU (aL 0) (aD 0) (aK 0) (aN 0) (aT 0) (aJ 0) (aE 0) (aF 0) aP U d, ul_wL cI aL L, ul_wK cI aD D, ul_wK cI aK K, ul_wS cI aN (aK 0) N, ul_wS cI aT (aK 0) T, ul_wJ cO aJ aB J, ul_wE cI aE E, ul_wG cI aF (aK 0) (aN 0) (aT 0) F, ul_wB cI aP (aK 0) 2 P, ul_wB cI aB (aK 0) 14 B] : List va_W).flatten H := by rw [eH]; exact hP
  have hS : va_S A s.heap H locs := by rw [eH, eL]; exact hS
  rw [← eL]
  refine (show G H locs (F0 m 0 ls []) → G s.heap locs (F0 m 0 ls []) from fun z => by rw [← eH]; exact z) ?_
  refine gi _ _ _ ?_
  refine lv_aload_n hx hb dX6_fault_0 rfl (lv_at hl 0 rfl) ?_
  refine va_get (D := (dC, dI)) (ci := 6) (v := .ref (aD 0)) (C := RX6) (T := TX6) (N := 11) hx hb hts hin6 hown hK hP 0 rfl rfl 1 (by decide) (hts (.fieldLink RX6 19 "UnderLadders" "told" "LUnderLadders$Market;") (by decide +kernel)) (fun _ h9 => h9) rfl dX6_fault_1 ?_
  refine lv_aload_n hx hb dX6_fault_4 rfl (lv_at hl 0 rfl) ?_
  refine va_get (D := (dC, dI)) (ci := 6) (v := .ref (aL 0)) (C := RX6) (T := TX6) (N := 11) hx hb hts hin6 hown hK hP 0 rfl rfl 0 (by decide) (hts (.fieldLink RX6 12 "UnderLadders" "text" "LUnderLadders$Text;") (by decide +kernel)) (fun _ h9 => h9) rfl dX6_fault_5 ?_
  obtain ⟨u1, hu1, h⟩ := ul_cl_h h
  refine ul_cPi (As := [.ref (aL 0)]) (rest := []) (wc := (ul_wK cI aD D ++ ul_wL cI aL L)) (wc' := (ul_wK cI aD u1.2 ++ ul_wL cI aL L)) (wr := ([ul_wU cZ cO aU (aL 0) (aD 0) (aK 0) (aN 0) (aT 0) (aJ 0) (aE 0) (aF 0) aP U d, ul_wK cI aK K, ul_wS cI aN (aK 0) N, ul_wS cI aT (aK 0) T, ul_wJ cO aJ aB J, ul_wE cI aE E, ul_wG cI aF (aK 0) (aN 0) (aT 0) F, ul_wB cI aP (aK 0) 2 P, ul_wB cI aB (aK 0) 14 B] : List va_W).flatten) hP hD hS hK hA [0] ul_NX_ok hN (c_X2_readFrom l dC dI cI aD aL H.size D L u1 hu1) (ul_pmq (bs := [ul_wU cZ cO aU (aL 0) (aD 0) (aK 0) (aN 0) (aT 0) (aJ 0) (aE 0) (aF 0) aP U d, ul_wL cI aL L, ul_wK cI aD D, ul_wK cI aK K, ul_wS cI aN (aK 0) N, ul_wS cI aT (aK 0) T, ul_wJ cO aJ aB J, ul_wE cI aE E, ul_wG cI aF (aK 0) (aN 0) (aT 0) F, ul_wB cI aP (aK 0) 2 P, ul_wB cI aB (aK 0) 14 B]) [2, 1, 0, 3, 4, 5, 6, 7, 8, 9, 10] (by show List.Perm _ (List.range 11); decide) (by simp only [List.map_cons, List.map_nil, List.getD_cons_zero, List.getD_cons_succ, List.flatten_cons, List.flatten_nil, List.append_nil, List.nil_append, List.append_assoc])) rfl ⟨hx, hb, hml, hown, hts⟩ (cwV 1 hts gX6_fault_X2_readFrom rfl rfl rfl (by decide +kernel) ⟨Nat.le_of_ble_eq_true rfl, Nat.le_of_ble_eq_true rfl⟩) (va_recv hK hP (ci := 2) (q0 := 5) rfl rfl) rfl hl.1 rfl (Nat.le_of_ble_eq_true rfl) dX6_fault_8 (fun H locs hw => ?_)
  have hw := hw.pm (ul_pmq (bs := [ul_wU cZ cO aU (aL 0) (aD 0) (aK 0) (aN 0) (aT 0) (aJ 0) (aE 0) (aF 0) aP U d, ul_wL cI aL L, ul_wK cI aD u1.2, ul_wK cI aK K, ul_wS cI aN (aK 0) N, ul_wS cI aT (aK 0) T, ul_wJ cO aJ aB J, ul_wE cI aE E, ul_wG cI aF (aK 0) (aN 0) (aT 0) F, ul_wB cI aP (aK 0) 2 P, ul_wB cI aB (aK 0) 14 B]) [0, 3, 4, 5, 6, 7, 8, 9, 10, 2, 1] (by show List.Perm _ (List.range 11); decide) (by simp only [List.map_cons, List.map_nil, List.getD_cons_zero, List.getD_cons_succ, List.flatten_cons, List.flatten_nil, List.append_nil, List.nil_append, List.append_assoc])).symm
  obtain ⟨hP, hD, hS⟩ := hw
  have hP : va_P (dC, dI) classes ([ul_wU cZ cO aU (aL 0) (aD 0) (aK 0) (aN 0) (aT 0) (aJ 0) (aE 0) (aF 0) aP U d, ul_wL cI aL L, ul_wK cI aD u1.2, ul_wK cI aK K, ul_wS cI aN (aK 0) N, ul_wS cI aT (aK 0) T, ul_wJ cO aJ aB J, ul_wE cI aE E, ul_wG cI aF (aK 0) (aN 0) (aT 0) F, ul_wB cI aP (aK 0) 2 P, ul_wB cI aB (aK 0) 14 B] : List va_W).flatten H := hP
  have hD : va_D A ([ul_wU cZ cO aU (aL 0) (aD 0) (aK 0) (aN 0) (aT 0) (aJ 0) (aE 0) (aF 0) aP U d, ul_wL cI aL L, ul_wK cI aD u1.2, ul_wK cI aK K, ul_wS cI aN (aK 0) N, ul_wS cI aT (aK 0) T, ul_wJ cO aJ aB J, ul_wE cI aE E, ul_wG cI aF (aK 0) (aN 0) (aT 0) F, ul_wB cI aP (aK 0) 2 P, ul_wB cI aB (aK 0) 14 B] : List va_W).flatten := hD
  have hr9 := hK0 (u1.1, u1.2) h
  subst hr9
  exact W.iret (v := u1.1) hx hb hr (fun t ht hW => ⟨⟨u1.1, (), rfl, rfl, by rw [ht]; exact hP, va_K.moved hW.alike hK, hD⟩, hS.F ht⟩) hS.2.2 dX6_fault_11
def f_X6_market_j65 (L : ul_S) (x1 : Int32) (U__65 : ul_S) (D__65 : ul_S) (K__65 : ul_S) (N__65 : ul_S) (J__65 : ul_S) : Option (Int32 × ul_S × ul_S × ul_S × ul_S × ul_S) :=
  some ((((10 : Int32) * (K__65 0 0)) + (K__65 0 1)), U__65, D__65, K__65, N__65, J__65)
def f_X6_market_L47 (L : ul_S) (D_c : ul_S) (K_c : ul_S) (N_c : ul_S) (J_c : ul_S) (q47 : (Int32 × ul_S)) : Option ((Int32 × ul_S) ⊕ (Int32 × ul_S)) :=
  if (2 : Int32) ≤ q47.1 then (some (.inl (q47.1, q47.2))) else (ul_st q47.2 2 2 q47.1 (vp_nar .boolean (0 : Int32)) fun U7 => ul_bd (q47.1 + 1) fun v9 => some (.inr (v9, U7)))
def f_X6_market (U : ul_S) (L : ul_S) (D : ul_S) (K : ul_S) (N : ul_S) (J : ul_S) : Option (Int32 × ul_S × ul_S × ul_S × ul_S × ul_S) :=
  (f_X2_readFrom D L).bind fun u1 => if u1.1 = (-9 : Int32) then ((f_X2_readFrom K L).bind fun u3 => (f_X4_begin N u3.2).bind fun u4 => (f_X0_clear J).bind fun u5 => (ul_it ul_N (f_X6_market_L47 L u1.2 u3.2 u4 u5) ((0 : Int32), U)).bind (fun e47 => f_X6_market_j65 L e47.1 e47.2 u1.2 u3.2 u4 u5)) else (some ((-3 : Int32), U, u1.2, K, N, J))
set_option maxHeartbeats 4000000 in
set_option maxRecDepth 100000 in
theorem c_X6_market (l : Launch) (dC : Nat → ClassId) (dI : Nat → Nat → Nat) (cI : ClassId) (cZ : ClassId) (cO : ClassId) (aU : Nat → Nat) (aL : Nat → Nat) (aD : Nat → Nat) (aK : Nat → Nat) (aN : Nat → Nat) (aT : Nat → Nat) (aJ : Nat → Nat) (aE : Nat → Nat) (aF : Nat → Nat) (aP : Nat → Nat → Nat) (aB : Nat → Nat → Nat) (sz : Nat) (U : ul_S) (d : Int64) (L : ul_S) (D : ul_S) (K : ul_S) (N : ul_S) (T : ul_S) (J : ul_S) (E : ul_S) (F : ul_S) (P : ul_F) (B : ul_F) (r : (Int32 × ul_S × ul_S × ul_S × ul_S × ul_S)) (h : f_X6_market U L D K N J = some r) : Met l yX6_market wsX6_market ({ frames := 4, cells := 0, slots := 0, locals := 94 }) (va_Pc [.ref (aU 0)] (ul_pre (dC, dI) [(cI, .int), (cZ, .boolean), (cO, .object RX4)] ul_NX sz ([ul_wU cZ cO aU (aL 0) (aD 0) (aK 0) (aN 0) (aT 0) (aJ 0) (aE 0) (aF 0) aP U d, ul_wL cI aL L, ul_wK cI aD D, ul_wK cI aK K, ul_wS cI aN (aK 0) N, ul_wS cI aT (aK 0) T, ul_wJ cO aJ aB J, ul_wE cI aE E, ul_wG cI aF (aK 0) (aN 0) (aT 0) F, ul_wB cI aP (aK 0) 2 P, ul_wB cI aB (aK 0) 14 B] : List va_W).flatten)) (va_Qi (fun v (_ : Unit) => v = r.1) (fun _ => ul_post (dC, dI) [(cI, .int), (cZ, .boolean), (cO, .object RX4)] (va_A ([ul_wU cZ cO aU (aL 0) (aD 0) (aK 0) (aN 0) (aT 0) (aJ 0) (aE 0) (aF 0) aP U d, ul_wL cI aL L, ul_wK cI aD D, ul_wK cI aK K, ul_wS cI aN (aK 0) N, ul_wS cI aT (aK 0) T, ul_wJ cO aJ aB J, ul_wE cI aE E, ul_wG cI aF (aK 0) (aN 0) (aT 0) F, ul_wB cI aP (aK 0) 2 P, ul_wB cI aB (aK 0) 14 B] : List va_W).flatten sz) ([ul_wU cZ cO aU (aL 0) (aD 0) (aK 0) (aN 0) (aT 0) (aJ 0) (aE 0) (aF 0) aP r.2.1 d, ul_wL cI aL L, ul_wK cI aD r.2.2.1, ul_wK cI aK r.2.2.2.1, ul_wS cI aN (aK 0) r.2.2.2.2.1, ul_wS cI aT (aK 0) T, ul_wJ cO aJ aB r.2.2.2.2.2, ul_wE cI aE E, ul_wG cI aF (aK 0) (aN 0) (aT 0) F, ul_wB cI aP (aK 0) 2 P, ul_wB cI aB (aK 0) 14 B] : List va_W).flatten) (va_A ([ul_wU cZ cO aU (aL 0) (aD 0) (aK 0) (aN 0) (aT 0) (aJ 0) (aE 0) (aF 0) aP U d, ul_wL cI aL L, ul_wK cI aD D, ul_wK cI aK K, ul_wS cI aN (aK 0) N, ul_wS cI aT (aK 0) T, ul_wJ cO aJ aB J, ul_wE cI aE E, ul_wG cI aF (aK 0) (aN 0) (aT 0) F, ul_wB cI aP (aK 0) 2 P, ul_wB cI aB (aK 0) 14 B] : List va_W).flatten sz)) 0 0 (va_A ([ul_wU cZ cO aU (aL 0) (aD 0) (aK 0) (aN 0) (aT 0) (aJ 0) (aE 0) (aF 0) aP U d, ul_wL cI aL L, ul_wK cI aD D, ul_wK cI aK K, ul_wS cI aN (aK 0) N, ul_wS cI aT (aK 0) T, ul_wJ cO aJ aB J, ul_wE cI aE E, ul_wG cI aF (aK 0) (aN 0) (aT 0) F, ul_wB cI aP (aK 0) 2 P, ul_wB cI aB (aK 0) 14 B] : List va_W).flatten sz) := by
  refine Met.ofW (cc := cX6_market) (maxL := 2) (ret := (some .int)) (by decide) rfl ?_
  intro p e s m args below meth c s₁ BB hml hv
  obtain ⟨rfl, hsz, hP, hK, hD0, hN⟩ := hv
  have hx := BB.exec
  have hb := BB.bytes
  have hr := BB.returns
  have hts := atoms_spec (ws := wsX6_market) BB.pre
  have hown : s.vm.findClass RX6 = some m.cls := findClass_of_methodNamed BB.named
  have hlocks := BB.notSynchronized
  have hin2 : ∀ w ∈ u_ws RX2 TX2 9, w ∈ wsX6_market := by decide +kernel
  have hin6 : ∀ w ∈ u_ws RX6 TX6 11, w ∈ wsX6_market := by decide +kernel
  subst hsz
  have hD := hD0.self (sz := s.heap.size)
  generalize hAe : va_A ([ul_wU cZ cO aU (aL 0) (aD 0) (aK 0) (aN 0) (aT 0) (aJ 0) (aE 0) (aF 0) aP U d, ul_wL cI aL L, ul_wK cI aD D, ul_wK cI aK K, ul_wS cI aN (aK 0) N, ul_wS cI aT (aK 0) T, ul_wJ cO aJ aB J, ul_wE cI aE E, ul_wG cI aF (aK 0) (aN 0) (aT 0) F, ul_wB cI aP (aK 0) 2 P, ul_wB cI aB (aK 0) 14 B] : List va_W).flatten s.heap.size = A at hD hN ⊢
  have hA : ∀ q : Nat, s.heap.size ≤ q → A q := fun q h => by rw [← hAe]; exact Or.inr h
  have hS : va_S A s.heap s.heap [] := va_S.rf
  have hl := lv_entry ([.ref (aU 0)]) (n := 2) (Nat.le_of_ble_eq_true rfl)
  rw [lg_entry_eq]
  generalize (lg_sl ([.ref (aU 0)]) ++ List.replicate (2 - (lg_sl ([.ref (aU 0)])).length) Slot.unset).toArray = ls at hl ⊢
  have hl : lv_has ls 2 [(0, .ref (aU 0))] := hl
  obtain ⟨K0, hK0, h⟩ := ul_top h
  unfold f_X6_market at h
  refine ul_gen (fun G gi ge => ?_)
  obtain ⟨H, eH⟩ : ∃ z, z = s.heap := ⟨_, rfl⟩
  obtain ⟨locs, eL⟩ : ∃ z : List Loc, z = [] := ⟨_, rfl⟩
  have hP : va_P (dC, dI) classes ([ul_wU cZ cO aU (aL 0) (aD 0) (aK 0) (aN 0) (aT 0) (aJ 0) (aE 0) (aF 0) aP U d, ul_wL cI aL L, ul_wK cI aD D, ul_wK cI aK K, ul_wS cI aN (aK 0) N, ul_wS cI aT (aK 0) T, ul_wJ cO aJ aB J, ul_wE cI aE E, ul_wG cI aF (aK 0) (aN 0) (aT 0) F, ul_wB cI aP (aK 0) 2 P, ul_wB cI aB (aK 0) 14 B] : List va_W).flatten H := by rw [eH]; exact hP
  have hS : va_S A s.heap H locs := by rw [eH, eL]; exact hS
  rw [← eL]
  refine (show G H locs (F0 m 0 ls []) → G s.heap locs (F0 m 0 ls []) from fun z => by rw [← eH]; exact z) ?_
  have J65 : ∀ (x1 : Int32) (U__65 : ul_S) (D__65 : ul_S) (K__65 : ul_S) (N__65 : ul_S) (J__65 : ul_S) (H : Heap) (locs : List Loc), ul_H (dC, dI) A s.heap ([ul_wU cZ cO aU (aL 0) (aD 0) (aK 0) (aN 0) (aT 0) (aJ 0) (aE 0) (aF 0) aP U__65 d, ul_wL cI aL L, ul_wK cI aD D__65, ul_wK cI aK K__65, ul_wS cI aN (aK 0) N__65, ul_wS cI aT (aK 0) T, ul_wJ cO aJ aB J__65, ul_wE cI aE E, ul_wG cI aF (aK 0) (aN 0) (aT 0) F, ul_wB cI aP (aK 0) 2 P, ul_wB cI aB (aK 0) 14 B] : List va_W).flatten H locs → ∀ ls : Array Slot, lv_has ls 2 [(0, .ref (aU 0)), (1, .int x1)] → (f_X6_market_j65 L x1 U__65 D__65 K__65 N__65 J__65).bind K0 = some r → G H locs (F0 m 65 ls []) := by
    intro x1 U__65 D__65 K__65 N__65 J__65 H locs hw ls hl h
    obtain ⟨hP, hD, hS⟩ := hw
    unfold f_X6_market_j65 at h
    refine gi _ _ _ ?_
    refine lv_bipush (v := 10) hx hb dX6_market_65 (by decide) ?_
    refine lv_aload_n hx hb dX6_market_67 rfl (lv_at hl 0 rfl) ?_
    refine va_get (D := (dC, dI)) (ci := 6) (v := .ref (aK 0)) (C := RX6) (T := TX6) (N := 11) hx hb hts hin6 hown hK hP 0 rfl rfl 2 (by decide) (hts (.fieldLink RX6 23 "UnderLadders" "fixed" "LUnderLadders$Market;") (by decide +kernel)) (fun _ h9 => h9) rfl dX6_market_68 ?_
    refine va_getN (D := (dC, dI)) (ci := 2) (v := .int (K__65 0 0)) (C := RX2) (T := TX2) (N := 9) hx hb hts hin2 hown hK hP 13 rfl rfl 7 (by decide) (va_Nw.use rfl (hN.1 (RX6, 86, "UnderLadders$Market", "ladders", "I") (by decide +kernel))) (fun _ h9 => h9) rfl dX6_market_71 ?_
    refine lv_imul hx hb dX6_market_74 ?_
    refine lv_aload_n hx hb dX6_market_75 rfl (lv_at hl 0 rfl) ?_
    refine va_get (D := (dC, dI)) (ci := 6) (v := .ref (aK 0)) (C := RX6) (T := TX6) (N := 11) hx hb hts hin6 hown hK hP 0 rfl rfl 2 (by decide) (hts (.fieldLink RX6 23 "UnderLadders" "fixed" "LUnderLadders$Market;") (by decide +kernel)) (fun _ h9 => h9) rfl dX6_market_76 ?_
    refine va_getN (D := (dC, dI)) (ci := 2) (v := .int (K__65 0 1)) (C := RX2) (T := TX2) (N := 9) hx hb hts hin2 hown hK hP 13 rfl rfl 8 (by decide) (va_Nw.use rfl (hN.1 (RX6, 90, "UnderLadders$Market", "people", "I") (by decide +kernel))) (fun _ h9 => h9) rfl dX6_market_79 ?_
    refine lv_iadd hx hb dX6_market_82 ?_
    have hr9 := hK0 ((((10 : Int32) * (K__65 0 0)) + (K__65 0 1)), U__65, D__65, K__65, N__65, J__65) h
    subst hr9
    exact W.iret (v := (((10 : Int32) * (K__65 0 0)) + (K__65 0 1))) hx hb hr (fun t ht hW => ⟨⟨(((10 : Int32) * (K__65 0 0)) + (K__65 0 1)), (), rfl, rfl, by rw [ht]; exact hP, va_K.moved hW.alike hK, hD⟩, hS.F ht⟩) hS.2.2 dX6_market_83
  refine gi _ _ _ ?_
  refine lv_aload_n hx hb dX6_market_0 rfl (lv_at hl 0 rfl) ?_
  refine va_get (D := (dC, dI)) (ci := 6) (v := .ref (aD 0)) (C := RX6) (T := TX6) (N := 11) hx hb hts hin6 hown hK hP 0 rfl rfl 1 (by decide) (hts (.fieldLink RX6 19 "UnderLadders" "told" "LUnderLadders$Market;") (by decide +kernel)) (fun _ h9 => h9) rfl dX6_market_1 ?_
  refine lv_aload_n hx hb dX6_market_4 rfl (lv_at hl 0 rfl) ?_
  refine va_get (D := (dC, dI)) (ci := 6) (v := .ref (aL 0)) (C := RX6) (T := TX6) (N := 11) hx hb hts hin6 hown hK hP 0 rfl rfl 0 (by decide) (hts (.fieldLink RX6 12 "UnderLadders" "text" "LUnderLadders$Text;") (by decide +kernel)) (fun _ h9 => h9) rfl dX6_market_5 ?_
  obtain ⟨u1, hu1, h⟩ := ul_cl_h h
  refine ul_cPi (As := [.ref (aL 0)]) (rest := []) (wc := (ul_wK cI aD D ++ ul_wL cI aL L)) (wc' := (ul_wK cI aD u1.2 ++ ul_wL cI aL L)) (wr := ([ul_wU cZ cO aU (aL 0) (aD 0) (aK 0) (aN 0) (aT 0) (aJ 0) (aE 0) (aF 0) aP U d, ul_wK cI aK K, ul_wS cI aN (aK 0) N, ul_wS cI aT (aK 0) T, ul_wJ cO aJ aB J, ul_wE cI aE E, ul_wG cI aF (aK 0) (aN 0) (aT 0) F, ul_wB cI aP (aK 0) 2 P, ul_wB cI aB (aK 0) 14 B] : List va_W).flatten) hP hD hS hK hA [0] ul_NX_ok hN (c_X2_readFrom l dC dI cI aD aL H.size D L u1 hu1) (ul_pmq (bs := [ul_wU cZ cO aU (aL 0) (aD 0) (aK 0) (aN 0) (aT 0) (aJ 0) (aE 0) (aF 0) aP U d, ul_wL cI aL L, ul_wK cI aD D, ul_wK cI aK K, ul_wS cI aN (aK 0) N, ul_wS cI aT (aK 0) T, ul_wJ cO aJ aB J, ul_wE cI aE E, ul_wG cI aF (aK 0) (aN 0) (aT 0) F, ul_wB cI aP (aK 0) 2 P, ul_wB cI aB (aK 0) 14 B]) [2, 1, 0, 3, 4, 5, 6, 7, 8, 9, 10] (by show List.Perm _ (List.range 11); decide) (by simp only [List.map_cons, List.map_nil, List.getD_cons_zero, List.getD_cons_succ, List.flatten_cons, List.flatten_nil, List.append_nil, List.nil_append, List.append_assoc])) rfl ⟨hx, hb, hml, hown, hts⟩ (cwV 1 hts gX6_market_X2_readFrom rfl rfl rfl (by decide +kernel) ⟨Nat.le_of_ble_eq_true rfl, Nat.le_of_ble_eq_true rfl⟩) (va_recv hK hP (ci := 2) (q0 := 5) rfl rfl) rfl hl.1 rfl (Nat.le_of_ble_eq_true rfl) dX6_market_8 (fun H locs hw => ?_)
  have hw := hw.pm (ul_pmq (bs := [ul_wU cZ cO aU (aL 0) (aD 0) (aK 0) (aN 0) (aT 0) (aJ 0) (aE 0) (aF 0) aP U d, ul_wL cI aL L, ul_wK cI aD u1.2, ul_wK cI aK K, ul_wS cI aN (aK 0) N, ul_wS cI aT (aK 0) T, ul_wJ cO aJ aB J, ul_wE cI aE E, ul_wG cI aF (aK 0) (aN 0) (aT 0) F, ul_wB cI aP (aK 0) 2 P, ul_wB cI aB (aK 0) 14 B]) [0, 3, 4, 5, 6, 7, 8, 9, 10, 2, 1] (by show List.Perm _ (List.range 11); decide) (by simp only [List.map_cons, List.map_nil, List.getD_cons_zero, List.getD_cons_succ, List.flatten_cons, List.flatten_nil, List.append_nil, List.nil_append, List.append_assoc])).symm
  obtain ⟨hP, hD, hS⟩ := hw
  have hP : va_P (dC, dI) classes ([ul_wU cZ cO aU (aL 0) (aD 0) (aK 0) (aN 0) (aT 0) (aJ 0) (aE 0) (aF 0) aP U d, ul_wL cI aL L, ul_wK cI aD u1.2, ul_wK cI aK K, ul_wS cI aN (aK 0) N, ul_wS cI aT (aK 0) T, ul_wJ cO aJ aB J, ul_wE cI aE E, ul_wG cI aF (aK 0) (aN 0) (aT 0) F, ul_wB cI aP (aK 0) 2 P, ul_wB cI aB (aK 0) 14 B] : List va_W).flatten H := hP
  have hD : va_D A ([ul_wU cZ cO aU (aL 0) (aD 0) (aK 0) (aN 0) (aT 0) (aJ 0) (aE 0) (aF 0) aP U d, ul_wL cI aL L, ul_wK cI aD u1.2, ul_wK cI aK K, ul_wS cI aN (aK 0) N, ul_wS cI aT (aK 0) T, ul_wJ cO aJ aB J, ul_wE cI aE E, ul_wG cI aF (aK 0) (aN 0) (aT 0) F, ul_wB cI aP (aK 0) 2 P, ul_wB cI aB (aK 0) 14 B] : List va_W).flatten := hD
  refine lv_bipush (v := -9) hx hb dX6_market_11 (by decide) ?_
  refine lv_icmp_eq (tgt := 19) hx hb dX6_market_13 (by decide) (fun hc2 => ?_) (fun hc2 => ?_)
  · have h := ul_if_t hc2 h
    refine lv_aload_n hx hb dX6_market_19 rfl (lv_at hl 0 rfl) ?_
    refine va_get (D := (dC, dI)) (ci := 6) (v := .ref (aK 0)) (C := RX6) (T := TX6) (N := 11) hx hb hts hin6 hown hK hP 0 rfl rfl 2 (by decide) (hts (.fieldLink RX6 23 "UnderLadders" "fixed" "LUnderLadders$Market;") (by decide +kernel)) (fun _ h9 => h9) rfl dX6_market_20 ?_
    refine lv_aload_n hx hb dX6_market_23 rfl (lv_at hl 0 rfl) ?_
    refine va_get (D := (dC, dI)) (ci := 6) (v := .ref (aL 0)) (C := RX6) (T := TX6) (N := 11) hx hb hts hin6 hown hK hP 0 rfl rfl 0 (by decide) (hts (.fieldLink RX6 12 "UnderLadders" "text" "LUnderLadders$Text;") (by decide +kernel)) (fun _ h9 => h9) rfl dX6_market_24 ?_
    obtain ⟨u3, hu3, h⟩ := ul_cl_h h
    refine ul_cPi (As := [.ref (aL 0)]) (rest := []) (wc := (ul_wK cI aK K ++ ul_wL cI aL L)) (wc' := (ul_wK cI aK u3.2 ++ ul_wL cI aL L)) (wr := ([ul_wU cZ cO aU (aL 0) (aD 0) (aK 0) (aN 0) (aT 0) (aJ 0) (aE 0) (aF 0) aP U d, ul_wK cI aD u1.2, ul_wS cI aN (aK 0) N, ul_wS cI aT (aK 0) T, ul_wJ cO aJ aB J, ul_wE cI aE E, ul_wG cI aF (aK 0) (aN 0) (aT 0) F, ul_wB cI aP (aK 0) 2 P, ul_wB cI aB (aK 0) 14 B] : List va_W).flatten) hP hD hS hK hA [0] ul_NX_ok hN (c_X2_readFrom l dC dI cI aK aL H.size K L u3 hu3) (ul_pmq (bs := [ul_wU cZ cO aU (aL 0) (aD 0) (aK 0) (aN 0) (aT 0) (aJ 0) (aE 0) (aF 0) aP U d, ul_wL cI aL L, ul_wK cI aD u1.2, ul_wK cI aK K, ul_wS cI aN (aK 0) N, ul_wS cI aT (aK 0) T, ul_wJ cO aJ aB J, ul_wE cI aE E, ul_wG cI aF (aK 0) (aN 0) (aT 0) F, ul_wB cI aP (aK 0) 2 P, ul_wB cI aB (aK 0) 14 B]) [3, 1, 0, 2, 4, 5, 6, 7, 8, 9, 10] (by show List.Perm _ (List.range 11); decide) (by simp only [List.map_cons, List.map_nil, List.getD_cons_zero, List.getD_cons_succ, List.flatten_cons, List.flatten_nil, List.append_nil, List.nil_append, List.append_assoc])) rfl ⟨hx, hb, hml, hown, hts⟩ (cwV 1 hts gX6_market_X2_readFrom rfl rfl rfl (by decide +kernel) ⟨Nat.le_of_ble_eq_true rfl, Nat.le_of_ble_eq_true rfl⟩) (va_recv hK hP (ci := 2) (q0 := 13) rfl rfl) rfl hl.1 rfl (Nat.le_of_ble_eq_true rfl) dX6_market_27 (fun H locs hw => ?_)
    have hw := hw.pm (ul_pmq (bs := [ul_wU cZ cO aU (aL 0) (aD 0) (aK 0) (aN 0) (aT 0) (aJ 0) (aE 0) (aF 0) aP U d, ul_wL cI aL L, ul_wK cI aD u1.2, ul_wK cI aK u3.2, ul_wS cI aN (aK 0) N, ul_wS cI aT (aK 0) T, ul_wJ cO aJ aB J, ul_wE cI aE E, ul_wG cI aF (aK 0) (aN 0) (aT 0) F, ul_wB cI aP (aK 0) 2 P, ul_wB cI aB (aK 0) 14 B]) [0, 2, 4, 5, 6, 7, 8, 9, 10, 3, 1] (by show List.Perm _ (List.range 11); decide) (by simp only [List.map_cons, List.map_nil, List.getD_cons_zero, List.getD_cons_succ, List.flatten_cons, List.flatten_nil, List.append_nil, List.nil_append, List.append_assoc])).symm
    obtain ⟨hP, hD, hS⟩ := hw
    have hP : va_P (dC, dI) classes ([ul_wU cZ cO aU (aL 0) (aD 0) (aK 0) (aN 0) (aT 0) (aJ 0) (aE 0) (aF 0) aP U d, ul_wL cI aL L, ul_wK cI aD u1.2, ul_wK cI aK u3.2, ul_wS cI aN (aK 0) N, ul_wS cI aT (aK 0) T, ul_wJ cO aJ aB J, ul_wE cI aE E, ul_wG cI aF (aK 0) (aN 0) (aT 0) F, ul_wB cI aP (aK 0) 2 P, ul_wB cI aB (aK 0) 14 B] : List va_W).flatten H := hP
    have hD : va_D A ([ul_wU cZ cO aU (aL 0) (aD 0) (aK 0) (aN 0) (aT 0) (aJ 0) (aE 0) (aF 0) aP U d, ul_wL cI aL L, ul_wK cI aD u1.2, ul_wK cI aK u3.2, ul_wS cI aN (aK 0) N, ul_wS cI aT (aK 0) T, ul_wJ cO aJ aB J, ul_wE cI aE E, ul_wG cI aF (aK 0) (aN 0) (aT 0) F, ul_wB cI aP (aK 0) 2 P, ul_wB cI aB (aK 0) 14 B] : List va_W).flatten := hD
    refine lv_pop hx hb dX6_market_30 rfl ?_
    refine lv_aload_n hx hb dX6_market_31 rfl (lv_at hl 0 rfl) ?_
    refine va_get (D := (dC, dI)) (ci := 6) (v := .ref (aN 0)) (C := RX6) (T := TX6) (N := 11) hx hb hts hin6 hown hK hP 0 rfl rfl 3 (by decide) (hts (.fieldLink RX6 31 "UnderLadders" "now" "LUnderLadders$Street;") (by decide +kernel)) (fun _ h9 => h9) rfl dX6_market_32 ?_
    obtain ⟨u4, hu4, h⟩ := ul_cl_h h
    refine ul_cPv (As := []) (rest := []) (wc := (ul_wS cI aN (aK 0) N ++ ul_wK cI aK u3.2)) (wc' := (ul_wS cI aN (aK 0) u4 ++ ul_wK cI aK u3.2)) (wr := ([ul_wU cZ cO aU (aL 0) (aD 0) (aK 0) (aN 0) (aT 0) (aJ 0) (aE 0) (aF 0) aP U d, ul_wL cI aL L, ul_wK cI aD u1.2, ul_wS cI aT (aK 0) T, ul_wJ cO aJ aB J, ul_wE cI aE E, ul_wG cI aF (aK 0) (aN 0) (aT 0) F, ul_wB cI aP (aK 0) 2 P, ul_wB cI aB (aK 0) 14 B] : List va_W).flatten) hP hD hS hK hA [0] ul_NX_ok hN (c_X4_begin l dC dI cI aN aK H.size N u3.2 u4 hu4) (ul_pmq (bs := [ul_wU cZ cO aU (aL 0) (aD 0) (aK 0) (aN 0) (aT 0) (aJ 0) (aE 0) (aF 0) aP U d, ul_wL cI aL L, ul_wK cI aD u1.2, ul_wK cI aK u3.2, ul_wS cI aN (aK 0) N, ul_wS cI aT (aK 0) T, ul_wJ cO aJ aB J, ul_wE cI aE E, ul_wG cI aF (aK 0) (aN 0) (aT 0) F, ul_wB cI aP (aK 0) 2 P, ul_wB cI aB (aK 0) 14 B]) [4, 3, 0, 1, 2, 5, 6, 7, 8, 9, 10] (by show List.Perm _ (List.range 11); decide) (by simp only [List.map_cons, List.map_nil, List.getD_cons_zero, List.getD_cons_succ, List.flatten_cons, List.flatten_nil, List.append_nil, List.nil_append, List.append_assoc])) rfl ⟨hx, hb, hml, hown, hts⟩ (cwV 0 hts gX6_market_X4_begin rfl rfl rfl (by decide +kernel) ⟨Nat.le_of_ble_eq_true rfl, Nat.le_of_ble_eq_true rfl⟩) (va_recv hK hP (ci := 4) (q0 := 21) rfl rfl) rfl hl.1 rfl (Nat.le_of_ble_eq_true rfl) dX6_market_35 (fun H locs hw => ?_)
    have hw := hw.pm (ul_pmq (bs := [ul_wU cZ cO aU (aL 0) (aD 0) (aK 0) (aN 0) (aT 0) (aJ 0) (aE 0) (aF 0) aP U d, ul_wL cI aL L, ul_wK cI aD u1.2, ul_wK cI aK u3.2, ul_wS cI aN (aK 0) u4, ul_wS cI aT (aK 0) T, ul_wJ cO aJ aB J, ul_wE cI aE E, ul_wG cI aF (aK 0) (aN 0) (aT 0) F, ul_wB cI aP (aK 0) 2 P, ul_wB cI aB (aK 0) 14 B]) [0, 1, 2, 5, 6, 7, 8, 9, 10, 4, 3] (by show List.Perm _ (List.range 11); decide) (by simp only [List.map_cons, List.map_nil, List.getD_cons_zero, List.getD_cons_succ, List.flatten_cons, List.flatten_nil, List.append_nil, List.nil_append, List.append_assoc])).symm
    obtain ⟨hP, hD, hS⟩ := hw
    have hP : va_P (dC, dI) classes ([ul_wU cZ cO aU (aL 0) (aD 0) (aK 0) (aN 0) (aT 0) (aJ 0) (aE 0) (aF 0) aP U d, ul_wL cI aL L, ul_wK cI aD u1.2, ul_wK cI aK u3.2, ul_wS cI aN (aK 0) u4, ul_wS cI aT (aK 0) T, ul_wJ cO aJ aB J, ul_wE cI aE E, ul_wG cI aF (aK 0) (aN 0) (aT 0) F, ul_wB cI aP (aK 0) 2 P, ul_wB cI aB (aK 0) 14 B] : List va_W).flatten H := hP
    have hD : va_D A ([ul_wU cZ cO aU (aL 0) (aD 0) (aK 0) (aN 0) (aT 0) (aJ 0) (aE 0) (aF 0) aP U d, ul_wL cI aL L, ul_wK cI aD u1.2, ul_wK cI aK u3.2, ul_wS cI aN (aK 0) u4, ul_wS cI aT (aK 0) T, ul_wJ cO aJ aB J, ul_wE cI aE E, ul_wG cI aF (aK 0) (aN 0) (aT 0) F, ul_wB cI aP (aK 0) 2 P, ul_wB cI aB (aK 0) 14 B] : List va_W).flatten := hD
    refine lv_aload_n hx hb dX6_market_38 rfl (lv_at hl 0 rfl) ?_
    refine va_get (D := (dC, dI)) (ci := 6) (v := .ref (aJ 0)) (C := RX6) (T := TX6) (N := 11) hx hb hts hin6 hown hK hP 0 rfl rfl 5 (by decide) (hts (.fieldLink RX6 41 "UnderLadders" "acts" "LUnderLadders$Acts;") (by decide +kernel)) (fun _ h9 => h9) rfl dX6_market_39 ?_
    obtain ⟨u5, hu5, h⟩ := ul_cl_h h
    refine ul_cPv (As := []) (rest := []) (wc := (ul_wJ cO aJ aB J)) (wc' := (ul_wJ cO aJ aB u5)) (wr := ([ul_wU cZ cO aU (aL 0) (aD 0) (aK 0) (aN 0) (aT 0) (aJ 0) (aE 0) (aF 0) aP U d, ul_wL cI aL L, ul_wK cI aD u1.2, ul_wK cI aK u3.2, ul_wS cI aN (aK 0) u4, ul_wS cI aT (aK 0) T, ul_wE cI aE E, ul_wG cI aF (aK 0) (aN 0) (aT 0) F, ul_wB cI aP (aK 0) 2 P, ul_wB cI aB (aK 0) 14 B] : List va_W).flatten) hP hD hS hK hA [2] ul_NX_ok hN (c_X0_clear l dC dI cO aJ aB H.size J u5 hu5) (ul_pmq (bs := [ul_wU cZ cO aU (aL 0) (aD 0) (aK 0) (aN 0) (aT 0) (aJ 0) (aE 0) (aF 0) aP U d, ul_wL cI aL L, ul_wK cI aD u1.2, ul_wK cI aK u3.2, ul_wS cI aN (aK 0) u4, ul_wS cI aT (aK 0) T, ul_wJ cO aJ aB J, ul_wE cI aE E, ul_wG cI aF (aK 0) (aN 0) (aT 0) F, ul_wB cI aP (aK 0) 2 P, ul_wB cI aB (aK 0) 14 B]) [6, 0, 1, 2, 3, 4, 5, 7, 8, 9, 10] (by show List.Perm _ (List.range 11); decide) (by simp only [List.map_cons, List.map_nil, List.getD_cons_zero, List.getD_cons_succ, List.flatten_cons, List.flatten_nil, List.append_nil, List.nil_append, List.append_assoc])) rfl ⟨hx, hb, hml, hown, hts⟩ (cwV 0 hts gX6_market_X0_clear rfl rfl rfl (by decide +kernel) ⟨Nat.le_of_ble_eq_true rfl, Nat.le_of_ble_eq_true rfl⟩) (va_recv hK hP (ci := 0) (q0 := 35) rfl rfl) rfl hl.1 rfl (Nat.le_of_ble_eq_true rfl) dX6_market_42 (fun H locs hw => ?_)
    have hw := hw.pm (ul_pmq (bs := [ul_wU cZ cO aU (aL 0) (aD 0) (aK 0) (aN 0) (aT 0) (aJ 0) (aE 0) (aF 0) aP U d, ul_wL cI aL L, ul_wK cI aD u1.2, ul_wK cI aK u3.2, ul_wS cI aN (aK 0) u4, ul_wS cI aT (aK 0) T, ul_wJ cO aJ aB u5, ul_wE cI aE E, ul_wG cI aF (aK 0) (aN 0) (aT 0) F, ul_wB cI aP (aK 0) 2 P, ul_wB cI aB (aK 0) 14 B]) [0, 1, 2, 3, 4, 5, 7, 8, 9, 10, 6] (by show List.Perm _ (List.range 11); decide) (by simp only [List.map_cons, List.map_nil, List.getD_cons_zero, List.getD_cons_succ, List.flatten_cons, List.flatten_nil, List.append_nil, List.nil_append, List.append_assoc])).symm
    obtain ⟨hP, hD, hS⟩ := hw
    have hP : va_P (dC, dI) classes ([ul_wU cZ cO aU (aL 0) (aD 0) (aK 0) (aN 0) (aT 0) (aJ 0) (aE 0) (aF 0) aP U d, ul_wL cI aL L, ul_wK cI aD u1.2, ul_wK cI aK u3.2, ul_wS cI aN (aK 0) u4, ul_wS cI aT (aK 0) T, ul_wJ cO aJ aB u5, ul_wE cI aE E, ul_wG cI aF (aK 0) (aN 0) (aT 0) F, ul_wB cI aP (aK 0) 2 P, ul_wB cI aB (aK 0) 14 B] : List va_W).flatten H := hP
    have hD : va_D A ([ul_wU cZ cO aU (aL 0) (aD 0) (aK 0) (aN 0) (aT 0) (aJ 0) (aE 0) (aF 0) aP U d, ul_wL cI aL L, ul_wK cI aD u1.2, ul_wK cI aK u3.2, ul_wS cI aN (aK 0) u4, ul_wS cI aT (aK 0) T, ul_wJ cO aJ aB u5, ul_wE cI aE E, ul_wG cI aF (aK 0) (aN 0) (aT 0) F, ul_wB cI aP (aK 0) 2 P, ul_wB cI aB (aK 0) 14 B] : List va_W).flatten := hD
    refine lv_iconst (v := 0) hx hb dX6_market_45 (by decide) ?_
    refine lv_istore_n (lv' := [(1, .int (0 : Int32)), (0, .ref (aU 0))]) hx hb dX6_market_46 rfl hl (by decide) rfl (fun ls hl => ?_)
    refine ge _ _ _ (ul_loop (P := fun q47 => ∀ (H : Heap) (locs : List Loc), ul_H (dC, dI) A s.heap ([ul_wU cZ cO aU (aL 0) (aD 0) (aK 0) (aN 0) (aT 0) (aJ 0) (aE 0) (aF 0) aP q47.2 d, ul_wL cI aL L, ul_wK cI aD u1.2, ul_wK cI aK u3.2, ul_wS cI aN (aK 0) u4, ul_wS cI aT (aK 0) T, ul_wJ cO aJ aB u5, ul_wE cI aE E, ul_wG cI aF (aK 0) (aN 0) (aT 0) F, ul_wB cI aP (aK 0) 2 P, ul_wB cI aB (aK 0) 14 B] : List va_W).flatten H locs → ∀ ls : Array Slot, lv_has ls 2 [(0, .ref (aU 0)), (1, .int q47.1)] → G H locs (F0 m 47 ls [])) ?_ _ _ (ul_it_h h) H locs ⟨hP, hD, hS⟩ ls (lv_sub hl [1, 0] rfl))
    intro K47 hx47
    intro q47 ih47 h H locs hw ls hl
    obtain ⟨hP, hD, hS⟩ := hw
    unfold f_X6_market_L47 at h
    refine gi _ _ _ ?_
    refine lv_iload_n hx hb dX6_market_47 rfl (lv_at hl 1 rfl) ?_
    refine lv_iconst (v := 2) hx hb dX6_market_48 (by decide) ?_
    refine lv_icmp_ge (tgt := 65) hx hb dX6_market_49 (by decide) (fun hc10 => ?_) (fun hc10 => ?_)
    · have h := ul_if_t hc10 h
      exact ge _ _ _ (J65 q47.1 q47.2 u1.2 u3.2 u4 u5 H locs ⟨hP, hD, hS⟩ ls (lv_sub hl [0, 1] rfl) (hx47 (q47.1, q47.2) h))
    · have h := ul_if_f hc10 h
      refine lv_aload_n hx hb dX6_market_52 rfl (lv_at hl 0 rfl) ?_
      refine va_get (D := (dC, dI)) (ci := 6) (v := .ref (aU 2)) (C := RX6) (T := TX6) (N := 11) hx hb hts hin6 hown hK hP 0 rfl rfl 9 (by decide) (hts (.fieldLink RX6 65 "UnderLadders" "isKept" "[Z") (by decide +kernel)) (fun _ h9 => h9) rfl dX6_market_53 ?_
      refine lv_iload_n hx hb dX6_market_56 rfl (lv_at hl 1 rfl) ?_
      refine lv_iconst (v := 0) hx hb dX6_market_57 (by decide) ?_
      obtain ⟨hi12, h⟩ := ul_st_h h
      refine va_zast hx hb hK hP hD hS 2 1 rfl rfl hi12 dX6_market_58 (fun H locs hP hD hS => ?_)
      obtain ⟨U11, eU11⟩ : ∃ z : ul_S, z = ul_up q47.2 2 q47.1.toNatClampNeg (vp_nar .boolean (0 : Int32)) := ⟨_, rfl⟩
      have h := h U11 eU11
      have hP : va_P (dC, dI) classes ([ul_wU cZ cO aU (aL 0) (aD 0) (aK 0) (aN 0) (aT 0) (aJ 0) (aE 0) (aF 0) aP U11 d, ul_wL cI aL L, ul_wK cI aD u1.2, ul_wK cI aK u3.2, ul_wS cI aN (aK 0) u4, ul_wS cI aT (aK 0) T, ul_wJ cO aJ aB u5, ul_wE cI aE E, ul_wG cI aF (aK 0) (aN 0) (aT 0) F, ul_wB cI aP (aK 0) 2 P, ul_wB cI aB (aK 0) 14 B] : List va_W).flatten H := by rw [eU11]; exact hP
      have hD : va_D A ([ul_wU cZ cO aU (aL 0) (aD 0) (aK 0) (aN 0) (aT 0) (aJ 0) (aE 0) (aF 0) aP U11 d, ul_wL cI aL L, ul_wK cI aD u1.2, ul_wK cI aK u3.2, ul_wS cI aN (aK 0) u4, ul_wS cI aT (aK 0) T, ul_wJ cO aJ aB u5, ul_wE cI aE E, ul_wG cI aF (aK 0) (aN 0) (aT 0) F, ul_wB cI aP (aK 0) 2 P, ul_wB cI aB (aK 0) 14 B] : List va_W).flatten := by rw [eU11]; exact hD
      obtain ⟨v13, ev13⟩ : ∃ z : Int32, z = q47.1 + 1 := ⟨_, rfl⟩
      have h := ul_bd_h h v13 ev13
      refine lv_iinc (v := v13) (lv' := [(1, .int v13), (0, .ref (aU 0))]) hx hb dX6_market_59 hl (k := 1) rfl (by rw [ev13]; rfl) (by decide) rfl (fun ls hl => ?_)
      refine lv_goto (tgt := 47) hx hb dX6_market_62 (by decide) ?_
      exact ge _ _ _ (ih47 (v13, U11) h H locs ⟨hP, hD, hS⟩ ls (lv_sub hl [1, 0] rfl))
  · have h := ul_if_f hc2 h
    refine lv_bipush (v := -3) hx hb dX6_market_16 (by decide) ?_
    have hr9 := hK0 ((-3 : Int32), U, u1.2, K, N, J) h
    subst hr9
    exact W.iret (v := (-3 : Int32)) hx hb hr (fun t ht hW => ⟨⟨(-3 : Int32), (), rfl, rfl, by rw [ht]; exact hP, va_K.moved hW.alike hK, hD⟩, hS.F ht⟩) hS.2.2 dX6_market_18
def f_X6_isLadder (K : ul_S) (p1 : Int32) : Option Int32 :=
  if p1 < 0 then (some (0 : Int32)) else (if (K 0 0) ≤ p1 then (some (0 : Int32)) else (some (1 : Int32)))
set_option maxHeartbeats 4000000 in
set_option maxRecDepth 100000 in
theorem c_X6_isLadder (l : Launch) (dC : Nat → ClassId) (dI : Nat → Nat → Nat) (cI : ClassId) (cZ : ClassId) (cO : ClassId) (aU : Nat → Nat) (aL : Nat → Nat) (aD : Nat → Nat) (aK : Nat → Nat) (aN : Nat → Nat) (aT : Nat → Nat) (aJ : Nat → Nat) (aE : Nat → Nat) (aF : Nat → Nat) (aP : Nat → Nat → Nat) (aB : Nat → Nat → Nat) (sz : Nat) (U : ul_S) (d : Int64) (L : ul_S) (D : ul_S) (K : ul_S) (N : ul_S) (T : ul_S) (J : ul_S) (E : ul_S) (F : ul_S) (P : ul_F) (B : ul_F) (p1 : Int32) (r : Int32) (h : f_X6_isLadder K p1 = some r) : Met l yX6_isLadder wsX6_isLadder ({ frames := 0, cells := 0, slots := 0, locals := 0 }) (va_Pc [.ref (aU 0), .int p1] (ul_pre (dC, dI) [(cI, .int), (cZ, .boolean), (cO, .object RX4)] ul_NX sz ([ul_wU cZ cO aU (aL 0) (aD 0) (aK 0) (aN 0) (aT 0) (aJ 0) (aE 0) (aF 0) aP U d, ul_wL cI aL L, ul_wK cI aD D, ul_wK cI aK K, ul_wS cI aN (aK 0) N, ul_wS cI aT (aK 0) T, ul_wJ cO aJ aB J, ul_wE cI aE E, ul_wG cI aF (aK 0) (aN 0) (aT 0) F, ul_wB cI aP (aK 0) 2 P, ul_wB cI aB (aK 0) 14 B] : List va_W).flatten)) (va_Qi (fun v (_ : Unit) => v = r) (fun _ => ul_post (dC, dI) [(cI, .int), (cZ, .boolean), (cO, .object RX4)] (va_A ([ul_wU cZ cO aU (aL 0) (aD 0) (aK 0) (aN 0) (aT 0) (aJ 0) (aE 0) (aF 0) aP U d, ul_wL cI aL L, ul_wK cI aD D, ul_wK cI aK K, ul_wS cI aN (aK 0) N, ul_wS cI aT (aK 0) T, ul_wJ cO aJ aB J, ul_wE cI aE E, ul_wG cI aF (aK 0) (aN 0) (aT 0) F, ul_wB cI aP (aK 0) 2 P, ul_wB cI aB (aK 0) 14 B] : List va_W).flatten sz) ([ul_wU cZ cO aU (aL 0) (aD 0) (aK 0) (aN 0) (aT 0) (aJ 0) (aE 0) (aF 0) aP U d, ul_wL cI aL L, ul_wK cI aD D, ul_wK cI aK K, ul_wS cI aN (aK 0) N, ul_wS cI aT (aK 0) T, ul_wJ cO aJ aB J, ul_wE cI aE E, ul_wG cI aF (aK 0) (aN 0) (aT 0) F, ul_wB cI aP (aK 0) 2 P, ul_wB cI aB (aK 0) 14 B] : List va_W).flatten) (va_A ([ul_wU cZ cO aU (aL 0) (aD 0) (aK 0) (aN 0) (aT 0) (aJ 0) (aE 0) (aF 0) aP U d, ul_wL cI aL L, ul_wK cI aD D, ul_wK cI aK K, ul_wS cI aN (aK 0) N, ul_wS cI aT (aK 0) T, ul_wJ cO aJ aB J, ul_wE cI aE E, ul_wG cI aF (aK 0) (aN 0) (aT 0) F, ul_wB cI aP (aK 0) 2 P, ul_wB cI aB (aK 0) 14 B] : List va_W).flatten sz)) 0 0 (va_A ([ul_wU cZ cO aU (aL 0) (aD 0) (aK 0) (aN 0) (aT 0) (aJ 0) (aE 0) (aF 0) aP U d, ul_wL cI aL L, ul_wK cI aD D, ul_wK cI aK K, ul_wS cI aN (aK 0) N, ul_wS cI aT (aK 0) T, ul_wJ cO aJ aB J, ul_wE cI aE E, ul_wG cI aF (aK 0) (aN 0) (aT 0) F, ul_wB cI aP (aK 0) 2 P, ul_wB cI aB (aK 0) 14 B] : List va_W).flatten sz) := by
  refine Met.ofW (cc := cX6_isLadder) (maxL := 2) (ret := (some .boolean)) (by decide) rfl ?_
  intro p e s m args below meth c s₁ BB hml hv
  obtain ⟨rfl, hsz, hP, hK, hD0, hN⟩ := hv
  have hx := BB.exec
  have hb := BB.bytes
  have hr := BB.returns
  have hts := atoms_spec (ws := wsX6_isLadder) BB.pre
  have hown : s.vm.findClass RX6 = some m.cls := findClass_of_methodNamed BB.named
  have hlocks := BB.notSynchronized
  have hin2 : ∀ w ∈ u_ws RX2 TX2 9, w ∈ wsX6_isLadder := by decide +kernel
  have hin6 : ∀ w ∈ u_ws RX6 TX6 11, w ∈ wsX6_isLadder := by decide +kernel
  subst hsz
  have hD := hD0.self (sz := s.heap.size)
  generalize hAe : va_A ([ul_wU cZ cO aU (aL 0) (aD 0) (aK 0) (aN 0) (aT 0) (aJ 0) (aE 0) (aF 0) aP U d, ul_wL cI aL L, ul_wK cI aD D, ul_wK cI aK K, ul_wS cI aN (aK 0) N, ul_wS cI aT (aK 0) T, ul_wJ cO aJ aB J, ul_wE cI aE E, ul_wG cI aF (aK 0) (aN 0) (aT 0) F, ul_wB cI aP (aK 0) 2 P, ul_wB cI aB (aK 0) 14 B] : List va_W).flatten s.heap.size = A at hD hN ⊢
  have hA : ∀ q : Nat, s.heap.size ≤ q → A q := fun q h => by rw [← hAe]; exact Or.inr h
  have hS : va_S A s.heap s.heap [] := va_S.rf
  have hl := lv_entry ([.ref (aU 0), .int p1]) (n := 2) (Nat.le_of_ble_eq_true rfl)
  rw [lg_entry_eq]
  generalize (lg_sl ([.ref (aU 0), .int p1]) ++ List.replicate (2 - (lg_sl ([.ref (aU 0), .int p1])).length) Slot.unset).toArray = ls at hl ⊢
  have hl : lv_has ls 2 [(0, .ref (aU 0)), (1, .int p1)] := hl
  obtain ⟨K0, hK0, h⟩ := ul_top h
  unfold f_X6_isLadder at h
  refine ul_gen (fun G gi ge => ?_)
  obtain ⟨H, eH⟩ : ∃ z, z = s.heap := ⟨_, rfl⟩
  obtain ⟨locs, eL⟩ : ∃ z : List Loc, z = [] := ⟨_, rfl⟩
  have hP : va_P (dC, dI) classes ([ul_wU cZ cO aU (aL 0) (aD 0) (aK 0) (aN 0) (aT 0) (aJ 0) (aE 0) (aF 0) aP U d, ul_wL cI aL L, ul_wK cI aD D, ul_wK cI aK K, ul_wS cI aN (aK 0) N, ul_wS cI aT (aK 0) T, ul_wJ cO aJ aB J, ul_wE cI aE E, ul_wG cI aF (aK 0) (aN 0) (aT 0) F, ul_wB cI aP (aK 0) 2 P, ul_wB cI aB (aK 0) 14 B] : List va_W).flatten H := by rw [eH]; exact hP
  have hS : va_S A s.heap H locs := by rw [eH, eL]; exact hS
  rw [← eL]
  refine (show G H locs (F0 m 0 ls []) → G s.heap locs (F0 m 0 ls []) from fun z => by rw [← eH]; exact z) ?_
  refine gi _ _ _ ?_
  refine lv_iload_n hx hb dX6_isLadder_0 rfl (lv_at hl 1 rfl) ?_
  refine lv_if_lt (tgt := 19) hx hb dX6_isLadder_1 (by decide) (fun hc1 => ?_) (fun hc1 => ?_)
  · have h := ul_if_t hc1 h
    refine lv_iconst (v := 0) hx hb dX6_isLadder_19 (by decide) ?_
    have hr9 := hK0 (0 : Int32) h
    subst hr9
    exact W.zret (v := (0 : Int32)) hx hb hr (by decide) (fun t ht hW => ⟨⟨(0 : Int32), (), rfl, rfl, by rw [ht]; exact hP, va_K.moved hW.alike hK, hD⟩, hS.F ht⟩) hS.2.2 dX6_isLadder_20
  · have h := ul_if_f hc1 h
    refine lv_iload_n hx hb dX6_isLadder_4 rfl (lv_at hl 1 rfl) ?_
    refine lv_aload_n hx hb dX6_isLadder_5 rfl (lv_at hl 0 rfl) ?_
    refine va_get (D := (dC, dI)) (ci := 6) (v := .ref (aK 0)) (C := RX6) (T := TX6) (N := 11) hx hb hts hin6 hown hK hP 0 rfl rfl 2 (by decide) (hts (.fieldLink RX6 23 "UnderLadders" "fixed" "LUnderLadders$Market;") (by decide +kernel)) (fun _ h9 => h9) rfl dX6_isLadder_6 ?_
    refine va_getN (D := (dC, dI)) (ci := 2) (v := .int (K 0 0)) (C := RX2) (T := TX2) (N := 9) hx hb hts hin2 hown hK hP 13 rfl rfl 7 (by decide) (va_Nw.use rfl (hN.1 (RX6, 86, "UnderLadders$Market", "ladders", "I") (by decide +kernel))) (fun _ h9 => h9) rfl dX6_isLadder_9 ?_
    refine lv_icmp_ge (tgt := 19) hx hb dX6_isLadder_12 (by decide) (fun hc2 => ?_) (fun hc2 => ?_)
    · have h := ul_if_t hc2 h
      refine lv_iconst (v := 0) hx hb dX6_isLadder_19 (by decide) ?_
      have hr9 := hK0 (0 : Int32) h
      subst hr9
      exact W.zret (v := (0 : Int32)) hx hb hr (by decide) (fun t ht hW => ⟨⟨(0 : Int32), (), rfl, rfl, by rw [ht]; exact hP, va_K.moved hW.alike hK, hD⟩, hS.F ht⟩) hS.2.2 dX6_isLadder_20
    · have h := ul_if_f hc2 h
      refine lv_iconst (v := 1) hx hb dX6_isLadder_15 (by decide) ?_
      refine lv_goto (tgt := 20) hx hb dX6_isLadder_16 (by decide) ?_
      have hr9 := hK0 (1 : Int32) h
      subst hr9
      exact W.zret (v := (1 : Int32)) hx hb hr (by decide) (fun t ht hW => ⟨⟨(1 : Int32), (), rfl, rfl, by rw [ht]; exact hP, va_K.moved hW.alike hK, hD⟩, hS.F ht⟩) hS.2.2 dX6_isLadder_20
def f_X6_ladder (K : ul_S) (N : ul_S) (p1 : Int32) (p2 : Int32) : Option Int32 :=
  (f_X6_isLadder K p1).bind fun u1 => if u1 = 0 then (some (-1 : Int32)) else (if p2 = 0 then (ul_ld (N 1) 4 p1 fun v4 => some v4) else (if p2 = 1 then (ul_ld (K 2) 4 p1 fun v7 => some v7) else (if p2 = 2 then (ul_ld (K 3) 4 p1 fun v10 => some v10) else (if p2 = 3 then (ul_ld (N 3) 4 p1 fun v13 => some v13) else (if p2 = 4 then (ul_ld (N 4) 4 p1 fun v16 => some v16) else (some (-2 : Int32)))))))
set_option maxHeartbeats 4000000 in
set_option maxRecDepth 100000 in
theorem c_X6_ladder (l : Launch) (dC : Nat → ClassId) (dI : Nat → Nat → Nat) (cI : ClassId) (cZ : ClassId) (cO : ClassId) (aU : Nat → Nat) (aL : Nat → Nat) (aD : Nat → Nat) (aK : Nat → Nat) (aN : Nat → Nat) (aT : Nat → Nat) (aJ : Nat → Nat) (aE : Nat → Nat) (aF : Nat → Nat) (aP : Nat → Nat → Nat) (aB : Nat → Nat → Nat) (sz : Nat) (U : ul_S) (d : Int64) (L : ul_S) (D : ul_S) (K : ul_S) (N : ul_S) (T : ul_S) (J : ul_S) (E : ul_S) (F : ul_S) (P : ul_F) (B : ul_F) (p1 : Int32) (p2 : Int32) (r : Int32) (h : f_X6_ladder K N p1 p2 = some r) : Met l yX6_ladder wsX6_ladder ({ frames := 1, cells := 0, slots := 0, locals := 21 }) (va_Pc [.ref (aU 0), .int p1, .int p2] (ul_pre (dC, dI) [(cI, .int), (cZ, .boolean), (cO, .object RX4)] ul_NX sz ([ul_wU cZ cO aU (aL 0) (aD 0) (aK 0) (aN 0) (aT 0) (aJ 0) (aE 0) (aF 0) aP U d, ul_wL cI aL L, ul_wK cI aD D, ul_wK cI aK K, ul_wS cI aN (aK 0) N, ul_wS cI aT (aK 0) T, ul_wJ cO aJ aB J, ul_wE cI aE E, ul_wG cI aF (aK 0) (aN 0) (aT 0) F, ul_wB cI aP (aK 0) 2 P, ul_wB cI aB (aK 0) 14 B] : List va_W).flatten)) (va_Qi (fun v (_ : Unit) => v = r) (fun _ => ul_post (dC, dI) [(cI, .int), (cZ, .boolean), (cO, .object RX4)] (va_A ([ul_wU cZ cO aU (aL 0) (aD 0) (aK 0) (aN 0) (aT 0) (aJ 0) (aE 0) (aF 0) aP U d, ul_wL cI aL L, ul_wK cI aD D, ul_wK cI aK K, ul_wS cI aN (aK 0) N, ul_wS cI aT (aK 0) T, ul_wJ cO aJ aB J, ul_wE cI aE E, ul_wG cI aF (aK 0) (aN 0) (aT 0) F, ul_wB cI aP (aK 0) 2 P, ul_wB cI aB (aK 0) 14 B] : List va_W).flatten sz) ([ul_wU cZ cO aU (aL 0) (aD 0) (aK 0) (aN 0) (aT 0) (aJ 0) (aE 0) (aF 0) aP U d, ul_wL cI aL L, ul_wK cI aD D, ul_wK cI aK K, ul_wS cI aN (aK 0) N, ul_wS cI aT (aK 0) T, ul_wJ cO aJ aB J, ul_wE cI aE E, ul_wG cI aF (aK 0) (aN 0) (aT 0) F, ul_wB cI aP (aK 0) 2 P, ul_wB cI aB (aK 0) 14 B] : List va_W).flatten) (va_A ([ul_wU cZ cO aU (aL 0) (aD 0) (aK 0) (aN 0) (aT 0) (aJ 0) (aE 0) (aF 0) aP U d, ul_wL cI aL L, ul_wK cI aD D, ul_wK cI aK K, ul_wS cI aN (aK 0) N, ul_wS cI aT (aK 0) T, ul_wJ cO aJ aB J, ul_wE cI aE E, ul_wG cI aF (aK 0) (aN 0) (aT 0) F, ul_wB cI aP (aK 0) 2 P, ul_wB cI aB (aK 0) 14 B] : List va_W).flatten sz)) 0 0 (va_A ([ul_wU cZ cO aU (aL 0) (aD 0) (aK 0) (aN 0) (aT 0) (aJ 0) (aE 0) (aF 0) aP U d, ul_wL cI aL L, ul_wK cI aD D, ul_wK cI aK K, ul_wS cI aN (aK 0) N, ul_wS cI aT (aK 0) T, ul_wJ cO aJ aB J, ul_wE cI aE E, ul_wG cI aF (aK 0) (aN 0) (aT 0) F, ul_wB cI aP (aK 0) 2 P, ul_wB cI aB (aK 0) 14 B] : List va_W).flatten sz) := by
  refine Met.ofW (cc := cX6_ladder) (maxL := 3) (ret := (some .int)) (by decide) rfl ?_
  intro p e s m args below meth c s₁ BB hml hv
  obtain ⟨rfl, hsz, hP, hK, hD0, hN⟩ := hv
  have hx := BB.exec
  have hb := BB.bytes
  have hr := BB.returns
  have hts := atoms_spec (ws := wsX6_ladder) BB.pre
  have hown : s.vm.findClass RX6 = some m.cls := findClass_of_methodNamed BB.named
  have hlocks := BB.notSynchronized
  have hin2 : ∀ w ∈ u_ws RX2 TX2 9, w ∈ wsX6_ladder := by decide +kernel
  have hin4 : ∀ w ∈ u_ws RX4 TX4 8, w ∈ wsX6_ladder := by decide +kernel
  have hin6 : ∀ w ∈ u_ws RX6 TX6 11, w ∈ wsX6_ladder := by decide +kernel
  subst hsz
  have hD := hD0.self (sz := s.heap.size)
  generalize hAe : va_A ([ul_wU cZ cO aU (aL 0) (aD 0) (aK 0) (aN 0) (aT 0) (aJ 0) (aE 0) (aF 0) aP U d, ul_wL cI aL L, ul_wK cI aD D, ul_wK cI aK K, ul_wS cI aN (aK 0) N, ul_wS cI aT (aK 0) T, ul_wJ cO aJ aB J, ul_wE cI aE E, ul_wG cI aF (aK 0) (aN 0) (aT 0) F, ul_wB cI aP (aK 0) 2 P, ul_wB cI aB (aK 0) 14 B] : List va_W).flatten s.heap.size = A at hD hN ⊢
  have hA : ∀ q : Nat, s.heap.size ≤ q → A q := fun q h => by rw [← hAe]; exact Or.inr h
  have hS : va_S A s.heap s.heap [] := va_S.rf
  have hl := lv_entry ([.ref (aU 0), .int p1, .int p2]) (n := 3) (Nat.le_of_ble_eq_true rfl)
  rw [lg_entry_eq]
  generalize (lg_sl ([.ref (aU 0), .int p1, .int p2]) ++ List.replicate (3 - (lg_sl ([.ref (aU 0), .int p1, .int p2])).length) Slot.unset).toArray = ls at hl ⊢
  have hl : lv_has ls 3 [(0, .ref (aU 0)), (1, .int p1), (2, .int p2)] := hl
  obtain ⟨K0, hK0, h⟩ := ul_top h
  unfold f_X6_ladder at h
  refine ul_gen (fun G gi ge => ?_)
  obtain ⟨H, eH⟩ : ∃ z, z = s.heap := ⟨_, rfl⟩
  obtain ⟨locs, eL⟩ : ∃ z : List Loc, z = [] := ⟨_, rfl⟩
  have hP : va_P (dC, dI) classes ([ul_wU cZ cO aU (aL 0) (aD 0) (aK 0) (aN 0) (aT 0) (aJ 0) (aE 0) (aF 0) aP U d, ul_wL cI aL L, ul_wK cI aD D, ul_wK cI aK K, ul_wS cI aN (aK 0) N, ul_wS cI aT (aK 0) T, ul_wJ cO aJ aB J, ul_wE cI aE E, ul_wG cI aF (aK 0) (aN 0) (aT 0) F, ul_wB cI aP (aK 0) 2 P, ul_wB cI aB (aK 0) 14 B] : List va_W).flatten H := by rw [eH]; exact hP
  have hS : va_S A s.heap H locs := by rw [eH, eL]; exact hS
  rw [← eL]
  refine (show G H locs (F0 m 0 ls []) → G s.heap locs (F0 m 0 ls []) from fun z => by rw [← eH]; exact z) ?_
  refine gi _ _ _ ?_
  refine lv_aload_n hx hb dX6_ladder_0 rfl (lv_at hl 0 rfl) ?_
  refine lv_iload_n hx hb dX6_ladder_1 rfl (lv_at hl 1 rfl) ?_
  obtain ⟨u1, hu1, h⟩ := ul_cl_h h
  refine ul_cPi (As := [.int p1]) (rest := []) (wc := ([ul_wU cZ cO aU (aL 0) (aD 0) (aK 0) (aN 0) (aT 0) (aJ 0) (aE 0) (aF 0) aP U d, ul_wL cI aL L, ul_wK cI aD D, ul_wK cI aK K, ul_wS cI aN (aK 0) N, ul_wS cI aT (aK 0) T, ul_wJ cO aJ aB J, ul_wE cI aE E, ul_wG cI aF (aK 0) (aN 0) (aT 0) F, ul_wB cI aP (aK 0) 2 P, ul_wB cI aB (aK 0) 14 B] : List va_W).flatten) (wc' := ([ul_wU cZ cO aU (aL 0) (aD 0) (aK 0) (aN 0) (aT 0) (aJ 0) (aE 0) (aF 0) aP U d, ul_wL cI aL L, ul_wK cI aD D, ul_wK cI aK K, ul_wS cI aN (aK 0) N, ul_wS cI aT (aK 0) T, ul_wJ cO aJ aB J, ul_wE cI aE E, ul_wG cI aF (aK 0) (aN 0) (aT 0) F, ul_wB cI aP (aK 0) 2 P, ul_wB cI aB (aK 0) 14 B] : List va_W).flatten) (wr := ([] : List va_W).flatten) hP hD hS hK hA [0, 1, 2] ul_NX_ok hN (c_X6_isLadder l dC dI cI cZ cO aU aL aD aK aN aT aJ aE aF aP aB H.size U d L D K N T J E F P B p1 u1 hu1) (ul_pmq (bs := [ul_wU cZ cO aU (aL 0) (aD 0) (aK 0) (aN 0) (aT 0) (aJ 0) (aE 0) (aF 0) aP U d, ul_wL cI aL L, ul_wK cI aD D, ul_wK cI aK K, ul_wS cI aN (aK 0) N, ul_wS cI aT (aK 0) T, ul_wJ cO aJ aB J, ul_wE cI aE E, ul_wG cI aF (aK 0) (aN 0) (aT 0) F, ul_wB cI aP (aK 0) 2 P, ul_wB cI aB (aK 0) 14 B]) [0, 1, 2, 3, 4, 5, 6, 7, 8, 9, 10] (by show List.Perm _ (List.range 11); decide) (by simp only [List.map_cons, List.map_nil, List.getD_cons_zero, List.getD_cons_succ, List.flatten_cons, List.flatten_nil, List.append_nil, List.nil_append, List.append_assoc])) rfl ⟨hx, hb, hml, hown, hts⟩ (cwV 1 hts gX6_ladder_X6_isLadder rfl rfl rfl (by decide +kernel) ⟨Nat.le_of_ble_eq_true rfl, Nat.le_of_ble_eq_true rfl⟩) (va_recv hK hP (ci := 6) (q0 := 0) rfl rfl) rfl hl.1 rfl (Nat.le_of_ble_eq_true rfl) dX6_ladder_2 (fun H locs hw => ?_)
  have hw := hw.pm (ul_pmq (bs := [ul_wU cZ cO aU (aL 0) (aD 0) (aK 0) (aN 0) (aT 0) (aJ 0) (aE 0) (aF 0) aP U d, ul_wL cI aL L, ul_wK cI aD D, ul_wK cI aK K, ul_wS cI aN (aK 0) N, ul_wS cI aT (aK 0) T, ul_wJ cO aJ aB J, ul_wE cI aE E, ul_wG cI aF (aK 0) (aN 0) (aT 0) F, ul_wB cI aP (aK 0) 2 P, ul_wB cI aB (aK 0) 14 B]) [0, 1, 2, 3, 4, 5, 6, 7, 8, 9, 10] (by show List.Perm _ (List.range 11); decide) (by simp only [List.map_cons, List.map_nil, List.getD_cons_zero, List.getD_cons_succ, List.flatten_cons, List.flatten_nil, List.append_nil, List.nil_append, List.append_assoc])).symm
  obtain ⟨hP, hD, hS⟩ := hw
  have hP : va_P (dC, dI) classes ([ul_wU cZ cO aU (aL 0) (aD 0) (aK 0) (aN 0) (aT 0) (aJ 0) (aE 0) (aF 0) aP U d, ul_wL cI aL L, ul_wK cI aD D, ul_wK cI aK K, ul_wS cI aN (aK 0) N, ul_wS cI aT (aK 0) T, ul_wJ cO aJ aB J, ul_wE cI aE E, ul_wG cI aF (aK 0) (aN 0) (aT 0) F, ul_wB cI aP (aK 0) 2 P, ul_wB cI aB (aK 0) 14 B] : List va_W).flatten H := hP
  have hD : va_D A ([ul_wU cZ cO aU (aL 0) (aD 0) (aK 0) (aN 0) (aT 0) (aJ 0) (aE 0) (aF 0) aP U d, ul_wL cI aL L, ul_wK cI aD D, ul_wK cI aK K, ul_wS cI aN (aK 0) N, ul_wS cI aT (aK 0) T, ul_wJ cO aJ aB J, ul_wE cI aE E, ul_wG cI aF (aK 0) (aN 0) (aT 0) F, ul_wB cI aP (aK 0) 2 P, ul_wB cI aB (aK 0) 14 B] : List va_W).flatten := hD
  refine lv_if_ne (tgt := 10) hx hb dX6_ladder_5 (by decide) (fun hc2 => ?_) (fun hc2 => ?_)
  · have h := ul_if_f hc2 h
    refine lv_iload_n hx hb dX6_ladder_10 rfl (lv_at hl 2 rfl) ?_
    by_cases hc3 : p2 = 0
    · have h := ul_if_t hc3 h
      refine lv_tableIn (off := 33) (tgt := 44) hx hb dX6_ladder_11 (by rw [hc3]; decide) (by rw [hc3]; decide) (by rw [hc3]; decide) (by decide) ?_
      refine lv_aload_n hx hb dX6_ladder_44 rfl (lv_at hl 0 rfl) ?_
      refine va_get (D := (dC, dI)) (ci := 6) (v := .ref (aN 0)) (C := RX6) (T := TX6) (N := 11) hx hb hts hin6 hown hK hP 0 rfl rfl 3 (by decide) (hts (.fieldLink RX6 31 "UnderLadders" "now" "LUnderLadders$Street;") (by decide +kernel)) (fun _ h9 => h9) rfl dX6_ladder_45 ?_
      refine va_getN (D := (dC, dI)) (ci := 4) (v := .ref (aN 1)) (C := RX4) (T := TX4) (N := 8) hx hb hts hin4 hown hK hP 21 rfl rfl 1 (by decide) (va_Nw.use rfl (hN.1 (RX6, 97, "UnderLadders$Street", "stand", "[I") (by decide +kernel))) (fun _ h9 => h9) rfl dX6_ladder_48 ?_
      refine lv_iload_n hx hb dX6_ladder_51 rfl (lv_at hl 1 rfl) ?_
      obtain ⟨hi5, h⟩ := ul_ld_h h
      refine va_iald hx hb hK hP 22 0 rfl rfl hi5 dX6_ladder_52 ?_
      refine lv_topi (fun v4 ev4 => ?_)
      have h := h v4 ev4
      have hr9 := hK0 v4 h
      subst hr9
      exact W.iret (v := v4) hx hb hr (fun t ht hW => ⟨⟨v4, (), rfl, rfl, by rw [ht]; exact hP, va_K.moved hW.alike hK, hD⟩, hS.F ht⟩) hS.2.2 dX6_ladder_53
    · have h := ul_if_f hc3 h
      by_cases hc6 : p2 = 1
      · have h := ul_if_t hc6 h
        refine lv_tableIn (off := 43) (tgt := 54) hx hb dX6_ladder_11 (by rw [hc6]; decide) (by rw [hc6]; decide) (by rw [hc6]; decide) (by decide) ?_
        refine lv_aload_n hx hb dX6_ladder_54 rfl (lv_at hl 0 rfl) ?_
        refine va_get (D := (dC, dI)) (ci := 6) (v := .ref (aK 0)) (C := RX6) (T := TX6) (N := 11) hx hb hts hin6 hown hK hP 0 rfl rfl 2 (by decide) (hts (.fieldLink RX6 23 "UnderLadders" "fixed" "LUnderLadders$Market;") (by decide +kernel)) (fun _ h9 => h9) rfl dX6_ladder_55 ?_
        refine va_getN (D := (dC, dI)) (ci := 2) (v := .ref (aK 2)) (C := RX2) (T := TX2) (N := 9) hx hb hts hin2 hown hK hP 13 rfl rfl 1 (by decide) (va_Nw.use rfl (hN.1 (RX6, 101, "UnderLadders$Market", "take", "[I") (by decide +kernel))) (fun _ h9 => h9) rfl dX6_ladder_58 ?_
        refine lv_iload_n hx hb dX6_ladder_61 rfl (lv_at hl 1 rfl) ?_
        obtain ⟨hi8, h⟩ := ul_ld_h h
        refine va_iald hx hb hK hP 15 0 rfl rfl hi8 dX6_ladder_62 ?_
        refine lv_topi (fun v7 ev7 => ?_)
        have h := h v7 ev7
        have hr9 := hK0 v7 h
        subst hr9
        exact W.iret (v := v7) hx hb hr (fun t ht hW => ⟨⟨v7, (), rfl, rfl, by rw [ht]; exact hP, va_K.moved hW.alike hK, hD⟩, hS.F ht⟩) hS.2.2 dX6_ladder_63
      · have h := ul_if_f hc6 h
        by_cases hc9 : p2 = 2
        · have h := ul_if_t hc9 h
          refine lv_tableIn (off := 53) (tgt := 64) hx hb dX6_ladder_11 (by rw [hc9]; decide) (by rw [hc9]; decide) (by rw [hc9]; decide) (by decide) ?_
          refine lv_aload_n hx hb dX6_ladder_64 rfl (lv_at hl 0 rfl) ?_
          refine va_get (D := (dC, dI)) (ci := 6) (v := .ref (aK 0)) (C := RX6) (T := TX6) (N := 11) hx hb hts hin6 hown hK hP 0 rfl rfl 2 (by decide) (hts (.fieldLink RX6 23 "UnderLadders" "fixed" "LUnderLadders$Market;") (by decide +kernel)) (fun _ h9 => h9) rfl dX6_ladder_65 ?_
          refine va_getN (D := (dC, dI)) (ci := 2) (v := .ref (aK 3)) (C := RX2) (T := TX2) (N := 9) hx hb hts hin2 hown hK hP 13 rfl rfl 2 (by decide) (va_Nw.use rfl (hN.1 (RX6, 104, "UnderLadders$Market", "ladderKind", "[I") (by decide +kernel))) (fun _ h9 => h9) rfl dX6_ladder_68 ?_
          refine lv_iload_n hx hb dX6_ladder_71 rfl (lv_at hl 1 rfl) ?_
          obtain ⟨hi11, h⟩ := ul_ld_h h
          refine va_iald hx hb hK hP 16 0 rfl rfl hi11 dX6_ladder_72 ?_
          refine lv_topi (fun v10 ev10 => ?_)
          have h := h v10 ev10
          have hr9 := hK0 v10 h
          subst hr9
          exact W.iret (v := v10) hx hb hr (fun t ht hW => ⟨⟨v10, (), rfl, rfl, by rw [ht]; exact hP, va_K.moved hW.alike hK, hD⟩, hS.F ht⟩) hS.2.2 dX6_ladder_73
        · have h := ul_if_f hc9 h
          by_cases hc12 : p2 = 3
          · have h := ul_if_t hc12 h
            refine lv_tableIn (off := 63) (tgt := 74) hx hb dX6_ladder_11 (by rw [hc12]; decide) (by rw [hc12]; decide) (by rw [hc12]; decide) (by decide) ?_
            refine lv_aload_n hx hb dX6_ladder_74 rfl (lv_at hl 0 rfl) ?_
            refine va_get (D := (dC, dI)) (ci := 6) (v := .ref (aN 0)) (C := RX6) (T := TX6) (N := 11) hx hb hts hin6 hown hK hP 0 rfl rfl 3 (by decide) (hts (.fieldLink RX6 31 "UnderLadders" "now" "LUnderLadders$Street;") (by decide +kernel)) (fun _ h9 => h9) rfl dX6_ladder_75 ?_
            refine va_getN (D := (dC, dI)) (ci := 4) (v := .ref (aN 3)) (C := RX4) (T := TX4) (N := 8) hx hb hts hin4 hown hK hP 21 rfl rfl 3 (by decide) (va_Nw.use rfl (hN.1 (RX6, 107, "UnderLadders$Street", "manLuck", "[I") (by decide +kernel))) (fun _ h9 => h9) rfl dX6_ladder_78 ?_
            refine lv_iload_n hx hb dX6_ladder_81 rfl (lv_at hl 1 rfl) ?_
            obtain ⟨hi14, h⟩ := ul_ld_h h
            refine va_iald hx hb hK hP 24 0 rfl rfl hi14 dX6_ladder_82 ?_
            refine lv_topi (fun v13 ev13 => ?_)
            have h := h v13 ev13
            have hr9 := hK0 v13 h
            subst hr9
            exact W.iret (v := v13) hx hb hr (fun t ht hW => ⟨⟨v13, (), rfl, rfl, by rw [ht]; exact hP, va_K.moved hW.alike hK, hD⟩, hS.F ht⟩) hS.2.2 dX6_ladder_83
          · have h := ul_if_f hc12 h
            by_cases hc15 : p2 = 4
            · have h := ul_if_t hc15 h
              refine lv_tableIn (off := 73) (tgt := 84) hx hb dX6_ladder_11 (by rw [hc15]; decide) (by rw [hc15]; decide) (by rw [hc15]; decide) (by decide) ?_
              refine lv_aload_n hx hb dX6_ladder_84 rfl (lv_at hl 0 rfl) ?_
              refine va_get (D := (dC, dI)) (ci := 6) (v := .ref (aN 0)) (C := RX6) (T := TX6) (N := 11) hx hb hts hin6 hown hK hP 0 rfl rfl 3 (by decide) (hts (.fieldLink RX6 31 "UnderLadders" "now" "LUnderLadders$Street;") (by decide +kernel)) (fun _ h9 => h9) rfl dX6_ladder_85 ?_
              refine va_getN (D := (dC, dI)) (ci := 4) (v := .ref (aN 4)) (C := RX4) (T := TX4) (N := 8) hx hb hts hin4 hown hK hP 21 rfl rfl 4 (by decide) (va_Nw.use rfl (hN.1 (RX6, 110, "UnderLadders$Street", "manGold", "[I") (by decide +kernel))) (fun _ h9 => h9) rfl dX6_ladder_88 ?_
              refine lv_iload_n hx hb dX6_ladder_91 rfl (lv_at hl 1 rfl) ?_
              obtain ⟨hi17, h⟩ := ul_ld_h h
              refine va_iald hx hb hK hP 25 0 rfl rfl hi17 dX6_ladder_92 ?_
              refine lv_topi (fun v16 ev16 => ?_)
              have h := h v16 ev16
              have hr9 := hK0 v16 h
              subst hr9
              exact W.iret (v := v16) hx hb hr (fun t ht hW => ⟨⟨v16, (), rfl, rfl, by rw [ht]; exact hP, va_K.moved hW.alike hK, hD⟩, hS.F ht⟩) hS.2.2 dX6_ladder_93
            · have h := ul_if_f hc15 h
              refine lv_tableOut (tgt := 94) hx hb dX6_ladder_11 (by have z0 := lv_neT (a := 0) hc3 (by decide); have z1 := lv_neT (a := 1) hc6 (by decide); have z2 := lv_neT (a := 2) hc9 (by decide); have z3 := lv_neT (a := 3) hc12 (by decide); have z4 := lv_neT (a := 4) hc15 (by decide); omega) (by decide) ?_
              refine lv_bipush (v := -2) hx hb dX6_ladder_94 (by decide) ?_
              have hr9 := hK0 (-2 : Int32) h
              subst hr9
              exact W.iret (v := (-2 : Int32)) hx hb hr (fun t ht hW => ⟨⟨(-2 : Int32), (), rfl, rfl, by rw [ht]; exact hP, va_K.moved hW.alike hK, hD⟩, hS.F ht⟩) hS.2.2 dX6_ladder_96
  · have h := ul_if_t hc2 h
    refine lv_iconst (v := -1) hx hb dX6_ladder_8 (by decide) ?_
    have hr9 := hK0 (-1 : Int32) h
    subst hr9
    exact W.iret (v := (-1 : Int32)) hx hb hr (fun t ht hW => ⟨⟨(-1 : Int32), (), rfl, rfl, by rw [ht]; exact hP, va_K.moved hW.alike hK, hD⟩, hS.F ht⟩) hS.2.2 dX6_ladder_9
def f_X6_isPerson (K : ul_S) (p1 : Int32) : Option Int32 :=
  if p1 < 0 then (some (0 : Int32)) else (if (K 0 1) ≤ p1 then (some (0 : Int32)) else (some (1 : Int32)))
set_option maxHeartbeats 4000000 in
set_option maxRecDepth 100000 in
theorem c_X6_isPerson (l : Launch) (dC : Nat → ClassId) (dI : Nat → Nat → Nat) (cI : ClassId) (cZ : ClassId) (cO : ClassId) (aU : Nat → Nat) (aL : Nat → Nat) (aD : Nat → Nat) (aK : Nat → Nat) (aN : Nat → Nat) (aT : Nat → Nat) (aJ : Nat → Nat) (aE : Nat → Nat) (aF : Nat → Nat) (aP : Nat → Nat → Nat) (aB : Nat → Nat → Nat) (sz : Nat) (U : ul_S) (d : Int64) (L : ul_S) (D : ul_S) (K : ul_S) (N : ul_S) (T : ul_S) (J : ul_S) (E : ul_S) (F : ul_S) (P : ul_F) (B : ul_F) (p1 : Int32) (r : Int32) (h : f_X6_isPerson K p1 = some r) : Met l yX6_isPerson wsX6_isPerson ({ frames := 0, cells := 0, slots := 0, locals := 0 }) (va_Pc [.ref (aU 0), .int p1] (ul_pre (dC, dI) [(cI, .int), (cZ, .boolean), (cO, .object RX4)] ul_NX sz ([ul_wU cZ cO aU (aL 0) (aD 0) (aK 0) (aN 0) (aT 0) (aJ 0) (aE 0) (aF 0) aP U d, ul_wL cI aL L, ul_wK cI aD D, ul_wK cI aK K, ul_wS cI aN (aK 0) N, ul_wS cI aT (aK 0) T, ul_wJ cO aJ aB J, ul_wE cI aE E, ul_wG cI aF (aK 0) (aN 0) (aT 0) F, ul_wB cI aP (aK 0) 2 P, ul_wB cI aB (aK 0) 14 B] : List va_W).flatten)) (va_Qi (fun v (_ : Unit) => v = r) (fun _ => ul_post (dC, dI) [(cI, .int), (cZ, .boolean), (cO, .object RX4)] (va_A ([ul_wU cZ cO aU (aL 0) (aD 0) (aK 0) (aN 0) (aT 0) (aJ 0) (aE 0) (aF 0) aP U d, ul_wL cI aL L, ul_wK cI aD D, ul_wK cI aK K, ul_wS cI aN (aK 0) N, ul_wS cI aT (aK 0) T, ul_wJ cO aJ aB J, ul_wE cI aE E, ul_wG cI aF (aK 0) (aN 0) (aT 0) F, ul_wB cI aP (aK 0) 2 P, ul_wB cI aB (aK 0) 14 B] : List va_W).flatten sz) ([ul_wU cZ cO aU (aL 0) (aD 0) (aK 0) (aN 0) (aT 0) (aJ 0) (aE 0) (aF 0) aP U d, ul_wL cI aL L, ul_wK cI aD D, ul_wK cI aK K, ul_wS cI aN (aK 0) N, ul_wS cI aT (aK 0) T, ul_wJ cO aJ aB J, ul_wE cI aE E, ul_wG cI aF (aK 0) (aN 0) (aT 0) F, ul_wB cI aP (aK 0) 2 P, ul_wB cI aB (aK 0) 14 B] : List va_W).flatten) (va_A ([ul_wU cZ cO aU (aL 0) (aD 0) (aK 0) (aN 0) (aT 0) (aJ 0) (aE 0) (aF 0) aP U d, ul_wL cI aL L, ul_wK cI aD D, ul_wK cI aK K, ul_wS cI aN (aK 0) N, ul_wS cI aT (aK 0) T, ul_wJ cO aJ aB J, ul_wE cI aE E, ul_wG cI aF (aK 0) (aN 0) (aT 0) F, ul_wB cI aP (aK 0) 2 P, ul_wB cI aB (aK 0) 14 B] : List va_W).flatten sz)) 0 0 (va_A ([ul_wU cZ cO aU (aL 0) (aD 0) (aK 0) (aN 0) (aT 0) (aJ 0) (aE 0) (aF 0) aP U d, ul_wL cI aL L, ul_wK cI aD D, ul_wK cI aK K, ul_wS cI aN (aK 0) N, ul_wS cI aT (aK 0) T, ul_wJ cO aJ aB J, ul_wE cI aE E, ul_wG cI aF (aK 0) (aN 0) (aT 0) F, ul_wB cI aP (aK 0) 2 P, ul_wB cI aB (aK 0) 14 B] : List va_W).flatten sz) := by
  refine Met.ofW (cc := cX6_isPerson) (maxL := 2) (ret := (some .boolean)) (by decide) rfl ?_
  intro p e s m args below meth c s₁ BB hml hv
  obtain ⟨rfl, hsz, hP, hK, hD0, hN⟩ := hv
  have hx := BB.exec
  have hb := BB.bytes
  have hr := BB.returns
  have hts := atoms_spec (ws := wsX6_isPerson) BB.pre
  have hown : s.vm.findClass RX6 = some m.cls := findClass_of_methodNamed BB.named
  have hlocks := BB.notSynchronized
  have hin2 : ∀ w ∈ u_ws RX2 TX2 9, w ∈ wsX6_isPerson := by decide +kernel
  have hin6 : ∀ w ∈ u_ws RX6 TX6 11, w ∈ wsX6_isPerson := by decide +kernel
  subst hsz
  have hD := hD0.self (sz := s.heap.size)
  generalize hAe : va_A ([ul_wU cZ cO aU (aL 0) (aD 0) (aK 0) (aN 0) (aT 0) (aJ 0) (aE 0) (aF 0) aP U d, ul_wL cI aL L, ul_wK cI aD D, ul_wK cI aK K, ul_wS cI aN (aK 0) N, ul_wS cI aT (aK 0) T, ul_wJ cO aJ aB J, ul_wE cI aE E, ul_wG cI aF (aK 0) (aN 0) (aT 0) F, ul_wB cI aP (aK 0) 2 P, ul_wB cI aB (aK 0) 14 B] : List va_W).flatten s.heap.size = A at hD hN ⊢
  have hA : ∀ q : Nat, s.heap.size ≤ q → A q := fun q h => by rw [← hAe]; exact Or.inr h
  have hS : va_S A s.heap s.heap [] := va_S.rf
  have hl := lv_entry ([.ref (aU 0), .int p1]) (n := 2) (Nat.le_of_ble_eq_true rfl)
  rw [lg_entry_eq]
  generalize (lg_sl ([.ref (aU 0), .int p1]) ++ List.replicate (2 - (lg_sl ([.ref (aU 0), .int p1])).length) Slot.unset).toArray = ls at hl ⊢
  have hl : lv_has ls 2 [(0, .ref (aU 0)), (1, .int p1)] := hl
  obtain ⟨K0, hK0, h⟩ := ul_top h
  unfold f_X6_isPerson at h
  refine ul_gen (fun G gi ge => ?_)
  obtain ⟨H, eH⟩ : ∃ z, z = s.heap := ⟨_, rfl⟩
  obtain ⟨locs, eL⟩ : ∃ z : List Loc, z = [] := ⟨_, rfl⟩
  have hP : va_P (dC, dI) classes ([ul_wU cZ cO aU (aL 0) (aD 0) (aK 0) (aN 0) (aT 0) (aJ 0) (aE 0) (aF 0) aP U d, ul_wL cI aL L, ul_wK cI aD D, ul_wK cI aK K, ul_wS cI aN (aK 0) N, ul_wS cI aT (aK 0) T, ul_wJ cO aJ aB J, ul_wE cI aE E, ul_wG cI aF (aK 0) (aN 0) (aT 0) F, ul_wB cI aP (aK 0) 2 P, ul_wB cI aB (aK 0) 14 B] : List va_W).flatten H := by rw [eH]; exact hP
  have hS : va_S A s.heap H locs := by rw [eH, eL]; exact hS
  rw [← eL]
  refine (show G H locs (F0 m 0 ls []) → G s.heap locs (F0 m 0 ls []) from fun z => by rw [← eH]; exact z) ?_
  refine gi _ _ _ ?_
  refine lv_iload_n hx hb dX6_isPerson_0 rfl (lv_at hl 1 rfl) ?_
  refine lv_if_lt (tgt := 19) hx hb dX6_isPerson_1 (by decide) (fun hc1 => ?_) (fun hc1 => ?_)
  · have h := ul_if_t hc1 h
    refine lv_iconst (v := 0) hx hb dX6_isPerson_19 (by decide) ?_
    have hr9 := hK0 (0 : Int32) h
    subst hr9
    exact W.zret (v := (0 : Int32)) hx hb hr (by decide) (fun t ht hW => ⟨⟨(0 : Int32), (), rfl, rfl, by rw [ht]; exact hP, va_K.moved hW.alike hK, hD⟩, hS.F ht⟩) hS.2.2 dX6_isPerson_20
  · have h := ul_if_f hc1 h
    refine lv_iload_n hx hb dX6_isPerson_4 rfl (lv_at hl 1 rfl) ?_
    refine lv_aload_n hx hb dX6_isPerson_5 rfl (lv_at hl 0 rfl) ?_
    refine va_get (D := (dC, dI)) (ci := 6) (v := .ref (aK 0)) (C := RX6) (T := TX6) (N := 11) hx hb hts hin6 hown hK hP 0 rfl rfl 2 (by decide) (hts (.fieldLink RX6 23 "UnderLadders" "fixed" "LUnderLadders$Market;") (by decide +kernel)) (fun _ h9 => h9) rfl dX6_isPerson_6 ?_
    refine va_getN (D := (dC, dI)) (ci := 2) (v := .int (K 0 1)) (C := RX2) (T := TX2) (N := 9) hx hb hts hin2 hown hK hP 13 rfl rfl 8 (by decide) (va_Nw.use rfl (hN.1 (RX6, 90, "UnderLadders$Market", "people", "I") (by decide +kernel))) (fun _ h9 => h9) rfl dX6_isPerson_9 ?_
    refine lv_icmp_ge (tgt := 19) hx hb dX6_isPerson_12 (by decide) (fun hc2 => ?_) (fun hc2 => ?_)
    · have h := ul_if_t hc2 h
      refine lv_iconst (v := 0) hx hb dX6_isPerson_19 (by decide) ?_
      have hr9 := hK0 (0 : Int32) h
      subst hr9
      exact W.zret (v := (0 : Int32)) hx hb hr (by decide) (fun t ht hW => ⟨⟨(0 : Int32), (), rfl, rfl, by rw [ht]; exact hP, va_K.moved hW.alike hK, hD⟩, hS.F ht⟩) hS.2.2 dX6_isPerson_20
    · have h := ul_if_f hc2 h
      refine lv_iconst (v := 1) hx hb dX6_isPerson_15 (by decide) ?_
      refine lv_goto (tgt := 20) hx hb dX6_isPerson_16 (by decide) ?_
      have hr9 := hK0 (1 : Int32) h
      subst hr9
      exact W.zret (v := (1 : Int32)) hx hb hr (by decide) (fun t ht hW => ⟨⟨(1 : Int32), (), rfl, rfl, by rw [ht]; exact hP, va_K.moved hW.alike hK, hD⟩, hS.F ht⟩) hS.2.2 dX6_isPerson_20
def f_X6_person (K : ul_S) (N : ul_S) (p1 : Int32) (p2 : Int32) : Option Int32 :=
  (f_X6_isPerson K p1).bind fun u1 => if u1 = 0 then (some (-1 : Int32)) else (if p2 = 0 then (ul_ld (K 4) 5 p1 fun v4 => some v4) else (if p2 = 1 then (ul_ld (K 5) 5 p1 fun v7 => some v7) else (if p2 = 2 then (ul_ld (K 7) 5 p1 fun v10 => some v10) else (if p2 = 3 then (ul_ld (N 5) 5 p1 fun v13 => some v13) else (if p2 = 4 then (ul_ld (N 6) 5 p1 fun v16 => some v16) else (if p2 = 5 then ((f_X4_laddersAhead N K p1).bind fun u19 => some u19) else (some (-2 : Int32))))))))
set_option maxHeartbeats 4000000 in
set_option maxRecDepth 100000 in
theorem c_X6_person (l : Launch) (dC : Nat → ClassId) (dI : Nat → Nat → Nat) (cI : ClassId) (cZ : ClassId) (cO : ClassId) (aU : Nat → Nat) (aL : Nat → Nat) (aD : Nat → Nat) (aK : Nat → Nat) (aN : Nat → Nat) (aT : Nat → Nat) (aJ : Nat → Nat) (aE : Nat → Nat) (aF : Nat → Nat) (aP : Nat → Nat → Nat) (aB : Nat → Nat → Nat) (sz : Nat) (U : ul_S) (d : Int64) (L : ul_S) (D : ul_S) (K : ul_S) (N : ul_S) (T : ul_S) (J : ul_S) (E : ul_S) (F : ul_S) (P : ul_F) (B : ul_F) (p1 : Int32) (p2 : Int32) (r : Int32) (h : f_X6_person K N p1 p2 = some r) : Met l yX6_person wsX6_person ({ frames := 3, cells := 0, slots := 0, locals := 86 }) (va_Pc [.ref (aU 0), .int p1, .int p2] (ul_pre (dC, dI) [(cI, .int), (cZ, .boolean), (cO, .object RX4)] ul_NX sz ([ul_wU cZ cO aU (aL 0) (aD 0) (aK 0) (aN 0) (aT 0) (aJ 0) (aE 0) (aF 0) aP U d, ul_wL cI aL L, ul_wK cI aD D, ul_wK cI aK K, ul_wS cI aN (aK 0) N, ul_wS cI aT (aK 0) T, ul_wJ cO aJ aB J, ul_wE cI aE E, ul_wG cI aF (aK 0) (aN 0) (aT 0) F, ul_wB cI aP (aK 0) 2 P, ul_wB cI aB (aK 0) 14 B] : List va_W).flatten)) (va_Qi (fun v (_ : Unit) => v = r) (fun _ => ul_post (dC, dI) [(cI, .int), (cZ, .boolean), (cO, .object RX4)] (va_A ([ul_wU cZ cO aU (aL 0) (aD 0) (aK 0) (aN 0) (aT 0) (aJ 0) (aE 0) (aF 0) aP U d, ul_wL cI aL L, ul_wK cI aD D, ul_wK cI aK K, ul_wS cI aN (aK 0) N, ul_wS cI aT (aK 0) T, ul_wJ cO aJ aB J, ul_wE cI aE E, ul_wG cI aF (aK 0) (aN 0) (aT 0) F, ul_wB cI aP (aK 0) 2 P, ul_wB cI aB (aK 0) 14 B] : List va_W).flatten sz) ([ul_wU cZ cO aU (aL 0) (aD 0) (aK 0) (aN 0) (aT 0) (aJ 0) (aE 0) (aF 0) aP U d, ul_wL cI aL L, ul_wK cI aD D, ul_wK cI aK K, ul_wS cI aN (aK 0) N, ul_wS cI aT (aK 0) T, ul_wJ cO aJ aB J, ul_wE cI aE E, ul_wG cI aF (aK 0) (aN 0) (aT 0) F, ul_wB cI aP (aK 0) 2 P, ul_wB cI aB (aK 0) 14 B] : List va_W).flatten) (va_A ([ul_wU cZ cO aU (aL 0) (aD 0) (aK 0) (aN 0) (aT 0) (aJ 0) (aE 0) (aF 0) aP U d, ul_wL cI aL L, ul_wK cI aD D, ul_wK cI aK K, ul_wS cI aN (aK 0) N, ul_wS cI aT (aK 0) T, ul_wJ cO aJ aB J, ul_wE cI aE E, ul_wG cI aF (aK 0) (aN 0) (aT 0) F, ul_wB cI aP (aK 0) 2 P, ul_wB cI aB (aK 0) 14 B] : List va_W).flatten sz)) 0 0 (va_A ([ul_wU cZ cO aU (aL 0) (aD 0) (aK 0) (aN 0) (aT 0) (aJ 0) (aE 0) (aF 0) aP U d, ul_wL cI aL L, ul_wK cI aD D, ul_wK cI aK K, ul_wS cI aN (aK 0) N, ul_wS cI aT (aK 0) T, ul_wJ cO aJ aB J, ul_wE cI aE E, ul_wG cI aF (aK 0) (aN 0) (aT 0) F, ul_wB cI aP (aK 0) 2 P, ul_wB cI aB (aK 0) 14 B] : List va_W).flatten sz) := by
  refine Met.ofW (cc := cX6_person) (maxL := 3) (ret := (some .int)) (by decide) rfl ?_
  intro p e s m args below meth c s₁ BB hml hv
  obtain ⟨rfl, hsz, hP, hK, hD0, hN⟩ := hv
  have hx := BB.exec
  have hb := BB.bytes
  have hr := BB.returns
  have hts := atoms_spec (ws := wsX6_person) BB.pre
  have hown : s.vm.findClass RX6 = some m.cls := findClass_of_methodNamed BB.named
  have hlocks := BB.notSynchronized
  have hin2 : ∀ w ∈ u_ws RX2 TX2 9, w ∈ wsX6_person := by decide +kernel
  have hin4 : ∀ w ∈ u_ws RX4 TX4 8, w ∈ wsX6_person := by decide +kernel
  have hin6 : ∀ w ∈ u_ws RX6 TX6 11, w ∈ wsX6_person := by decide +kernel
  subst hsz
  have hD := hD0.self (sz := s.heap.size)
  generalize hAe : va_A ([ul_wU cZ cO aU (aL 0) (aD 0) (aK 0) (aN 0) (aT 0) (aJ 0) (aE 0) (aF 0) aP U d, ul_wL cI aL L, ul_wK cI aD D, ul_wK cI aK K, ul_wS cI aN (aK 0) N, ul_wS cI aT (aK 0) T, ul_wJ cO aJ aB J, ul_wE cI aE E, ul_wG cI aF (aK 0) (aN 0) (aT 0) F, ul_wB cI aP (aK 0) 2 P, ul_wB cI aB (aK 0) 14 B] : List va_W).flatten s.heap.size = A at hD hN ⊢
  have hA : ∀ q : Nat, s.heap.size ≤ q → A q := fun q h => by rw [← hAe]; exact Or.inr h
  have hS : va_S A s.heap s.heap [] := va_S.rf
  have hl := lv_entry ([.ref (aU 0), .int p1, .int p2]) (n := 3) (Nat.le_of_ble_eq_true rfl)
  rw [lg_entry_eq]
  generalize (lg_sl ([.ref (aU 0), .int p1, .int p2]) ++ List.replicate (3 - (lg_sl ([.ref (aU 0), .int p1, .int p2])).length) Slot.unset).toArray = ls at hl ⊢
  have hl : lv_has ls 3 [(0, .ref (aU 0)), (1, .int p1), (2, .int p2)] := hl
  obtain ⟨K0, hK0, h⟩ := ul_top h
  unfold f_X6_person at h
  refine ul_gen (fun G gi ge => ?_)
  obtain ⟨H, eH⟩ : ∃ z, z = s.heap := ⟨_, rfl⟩
  obtain ⟨locs, eL⟩ : ∃ z : List Loc, z = [] := ⟨_, rfl⟩
  have hP : va_P (dC, dI) classes ([ul_wU cZ cO aU (aL 0) (aD 0) (aK 0) (aN 0) (aT 0) (aJ 0) (aE 0) (aF 0) aP U d, ul_wL cI aL L, ul_wK cI aD D, ul_wK cI aK K, ul_wS cI aN (aK 0) N, ul_wS cI aT (aK 0) T, ul_wJ cO aJ aB J, ul_wE cI aE E, ul_wG cI aF (aK 0) (aN 0) (aT 0) F, ul_wB cI aP (aK 0) 2 P, ul_wB cI aB (aK 0) 14 B] : List va_W).flatten H := by rw [eH]; exact hP
  have hS : va_S A s.heap H locs := by rw [eH, eL]; exact hS
  rw [← eL]
  refine (show G H locs (F0 m 0 ls []) → G s.heap locs (F0 m 0 ls []) from fun z => by rw [← eH]; exact z) ?_
  refine gi _ _ _ ?_
  refine lv_aload_n hx hb dX6_person_0 rfl (lv_at hl 0 rfl) ?_
  refine lv_iload_n hx hb dX6_person_1 rfl (lv_at hl 1 rfl) ?_
  obtain ⟨u1, hu1, h⟩ := ul_cl_h h
  refine ul_cPi (As := [.int p1]) (rest := []) (wc := ([ul_wU cZ cO aU (aL 0) (aD 0) (aK 0) (aN 0) (aT 0) (aJ 0) (aE 0) (aF 0) aP U d, ul_wL cI aL L, ul_wK cI aD D, ul_wK cI aK K, ul_wS cI aN (aK 0) N, ul_wS cI aT (aK 0) T, ul_wJ cO aJ aB J, ul_wE cI aE E, ul_wG cI aF (aK 0) (aN 0) (aT 0) F, ul_wB cI aP (aK 0) 2 P, ul_wB cI aB (aK 0) 14 B] : List va_W).flatten) (wc' := ([ul_wU cZ cO aU (aL 0) (aD 0) (aK 0) (aN 0) (aT 0) (aJ 0) (aE 0) (aF 0) aP U d, ul_wL cI aL L, ul_wK cI aD D, ul_wK cI aK K, ul_wS cI aN (aK 0) N, ul_wS cI aT (aK 0) T, ul_wJ cO aJ aB J, ul_wE cI aE E, ul_wG cI aF (aK 0) (aN 0) (aT 0) F, ul_wB cI aP (aK 0) 2 P, ul_wB cI aB (aK 0) 14 B] : List va_W).flatten) (wr := ([] : List va_W).flatten) hP hD hS hK hA [0, 1, 2] ul_NX_ok hN (c_X6_isPerson l dC dI cI cZ cO aU aL aD aK aN aT aJ aE aF aP aB H.size U d L D K N T J E F P B p1 u1 hu1) (ul_pmq (bs := [ul_wU cZ cO aU (aL 0) (aD 0) (aK 0) (aN 0) (aT 0) (aJ 0) (aE 0) (aF 0) aP U d, ul_wL cI aL L, ul_wK cI aD D, ul_wK cI aK K, ul_wS cI aN (aK 0) N, ul_wS cI aT (aK 0) T, ul_wJ cO aJ aB J, ul_wE cI aE E, ul_wG cI aF (aK 0) (aN 0) (aT 0) F, ul_wB cI aP (aK 0) 2 P, ul_wB cI aB (aK 0) 14 B]) [0, 1, 2, 3, 4, 5, 6, 7, 8, 9, 10] (by show List.Perm _ (List.range 11); decide) (by simp only [List.map_cons, List.map_nil, List.getD_cons_zero, List.getD_cons_succ, List.flatten_cons, List.flatten_nil, List.append_nil, List.nil_append, List.append_assoc])) rfl ⟨hx, hb, hml, hown, hts⟩ (cwV 1 hts gX6_person_X6_isPerson rfl rfl rfl (by decide +kernel) ⟨Nat.le_of_ble_eq_true rfl, Nat.le_of_ble_eq_true rfl⟩) (va_recv hK hP (ci := 6) (q0 := 0) rfl rfl) rfl hl.1 rfl (Nat.le_of_ble_eq_true rfl) dX6_person_2 (fun H locs hw => ?_)
  have hw := hw.pm (ul_pmq (bs := [ul_wU cZ cO aU (aL 0) (aD 0) (aK 0) (aN 0) (aT 0) (aJ 0) (aE 0) (aF 0) aP U d, ul_wL cI aL L, ul_wK cI aD D, ul_wK cI aK K, ul_wS cI aN (aK 0) N, ul_wS cI aT (aK 0) T, ul_wJ cO aJ aB J, ul_wE cI aE E, ul_wG cI aF (aK 0) (aN 0) (aT 0) F, ul_wB cI aP (aK 0) 2 P, ul_wB cI aB (aK 0) 14 B]) [0, 1, 2, 3, 4, 5, 6, 7, 8, 9, 10] (by show List.Perm _ (List.range 11); decide) (by simp only [List.map_cons, List.map_nil, List.getD_cons_zero, List.getD_cons_succ, List.flatten_cons, List.flatten_nil, List.append_nil, List.nil_append, List.append_assoc])).symm
  obtain ⟨hP, hD, hS⟩ := hw
  have hP : va_P (dC, dI) classes ([ul_wU cZ cO aU (aL 0) (aD 0) (aK 0) (aN 0) (aT 0) (aJ 0) (aE 0) (aF 0) aP U d, ul_wL cI aL L, ul_wK cI aD D, ul_wK cI aK K, ul_wS cI aN (aK 0) N, ul_wS cI aT (aK 0) T, ul_wJ cO aJ aB J, ul_wE cI aE E, ul_wG cI aF (aK 0) (aN 0) (aT 0) F, ul_wB cI aP (aK 0) 2 P, ul_wB cI aB (aK 0) 14 B] : List va_W).flatten H := hP
  have hD : va_D A ([ul_wU cZ cO aU (aL 0) (aD 0) (aK 0) (aN 0) (aT 0) (aJ 0) (aE 0) (aF 0) aP U d, ul_wL cI aL L, ul_wK cI aD D, ul_wK cI aK K, ul_wS cI aN (aK 0) N, ul_wS cI aT (aK 0) T, ul_wJ cO aJ aB J, ul_wE cI aE E, ul_wG cI aF (aK 0) (aN 0) (aT 0) F, ul_wB cI aP (aK 0) 2 P, ul_wB cI aB (aK 0) 14 B] : List va_W).flatten := hD
  refine lv_if_ne (tgt := 10) hx hb dX6_person_5 (by decide) (fun hc2 => ?_) (fun hc2 => ?_)
  · have h := ul_if_f hc2 h
    refine lv_iload_n hx hb dX6_person_10 rfl (lv_at hl 2 rfl) ?_
    by_cases hc3 : p2 = 0
    · have h := ul_if_t hc3 h
      refine lv_tableIn (off := 37) (tgt := 48) hx hb dX6_person_11 (by rw [hc3]; decide) (by rw [hc3]; decide) (by rw [hc3]; decide) (by decide) ?_
      refine lv_aload_n hx hb dX6_person_48 rfl (lv_at hl 0 rfl) ?_
      refine va_get (D := (dC, dI)) (ci := 6) (v := .ref (aK 0)) (C := RX6) (T := TX6) (N := 11) hx hb hts hin6 hown hK hP 0 rfl rfl 2 (by decide) (hts (.fieldLink RX6 23 "UnderLadders" "fixed" "LUnderLadders$Market;") (by decide +kernel)) (fun _ h9 => h9) rfl dX6_person_49 ?_
      refine va_getN (D := (dC, dI)) (ci := 2) (v := .ref (aK 4)) (C := RX2) (T := TX2) (N := 9) hx hb hts hin2 hown hK hP 13 rfl rfl 3 (by decide) (va_Nw.use rfl (hN.1 (RX6, 116, "UnderLadders$Market", "home", "[I") (by decide +kernel))) (fun _ h9 => h9) rfl dX6_person_52 ?_
      refine lv_iload_n hx hb dX6_person_55 rfl (lv_at hl 1 rfl) ?_
      obtain ⟨hi5, h⟩ := ul_ld_h h
      refine va_iald hx hb hK hP 17 0 rfl rfl hi5 dX6_person_56 ?_
      refine lv_topi (fun v4 ev4 => ?_)
      have h := h v4 ev4
      have hr9 := hK0 v4 h
      subst hr9
      exact W.iret (v := v4) hx hb hr (fun t ht hW => ⟨⟨v4, (), rfl, rfl, by rw [ht]; exact hP, va_K.moved hW.alike hK, hD⟩, hS.F ht⟩) hS.2.2 dX6_person_57
    · have h := ul_if_f hc3 h
      by_cases hc6 : p2 = 1
      · have h := ul_if_t hc6 h
        refine lv_tableIn (off := 47) (tgt := 58) hx hb dX6_person_11 (by rw [hc6]; decide) (by rw [hc6]; decide) (by rw [hc6]; decide) (by decide) ?_
        refine lv_aload_n hx hb dX6_person_58 rfl (lv_at hl 0 rfl) ?_
        refine va_get (D := (dC, dI)) (ci := 6) (v := .ref (aK 0)) (C := RX6) (T := TX6) (N := 11) hx hb hts hin6 hown hK hP 0 rfl rfl 2 (by decide) (hts (.fieldLink RX6 23 "UnderLadders" "fixed" "LUnderLadders$Market;") (by decide +kernel)) (fun _ h9 => h9) rfl dX6_person_59 ?_
        refine va_getN (D := (dC, dI)) (ci := 2) (v := .ref (aK 5)) (C := RX2) (T := TX2) (N := 9) hx hb hts hin2 hown hK hP 13 rfl rfl 4 (by decide) (va_Nw.use rfl (hN.1 (RX6, 119, "UnderLadders$Market", "work", "[I") (by decide +kernel))) (fun _ h9 => h9) rfl dX6_person_62 ?_
        refine lv_iload_n hx hb dX6_person_65 rfl (lv_at hl 1 rfl) ?_
        obtain ⟨hi8, h⟩ := ul_ld_h h
        refine va_iald hx hb hK hP 18 0 rfl rfl hi8 dX6_person_66 ?_
        refine lv_topi (fun v7 ev7 => ?_)
        have h := h v7 ev7
        have hr9 := hK0 v7 h
        subst hr9
        exact W.iret (v := v7) hx hb hr (fun t ht hW => ⟨⟨v7, (), rfl, rfl, by rw [ht]; exact hP, va_K.moved hW.alike hK, hD⟩, hS.F ht⟩) hS.2.2 dX6_person_67
      · have h := ul_if_f hc6 h
        by_cases hc9 : p2 = 2
        · have h := ul_if_t hc9 h
          refine lv_tableIn (off := 57) (tgt := 68) hx hb dX6_person_11 (by rw [hc9]; decide) (by rw [hc9]; decide) (by rw [hc9]; decide) (by decide) ?_
          refine lv_aload_n hx hb dX6_person_68 rfl (lv_at hl 0 rfl) ?_
          refine va_get (D := (dC, dI)) (ci := 6) (v := .ref (aK 0)) (C := RX6) (T := TX6) (N := 11) hx hb hts hin6 hown hK hP 0 rfl rfl 2 (by decide) (hts (.fieldLink RX6 23 "UnderLadders" "fixed" "LUnderLadders$Market;") (by decide +kernel)) (fun _ h9 => h9) rfl dX6_person_69 ?_
          refine va_getN (D := (dC, dI)) (ci := 2) (v := .ref (aK 7)) (C := RX2) (T := TX2) (N := 9) hx hb hts hin2 hown hK hP 13 rfl rfl 6 (by decide) (va_Nw.use rfl (hN.1 (RX6, 122, "UnderLadders$Market", "personKind", "[I") (by decide +kernel))) (fun _ h9 => h9) rfl dX6_person_72 ?_
          refine lv_iload_n hx hb dX6_person_75 rfl (lv_at hl 1 rfl) ?_
          obtain ⟨hi11, h⟩ := ul_ld_h h
          refine va_iald hx hb hK hP 20 0 rfl rfl hi11 dX6_person_76 ?_
          refine lv_topi (fun v10 ev10 => ?_)
          have h := h v10 ev10
          have hr9 := hK0 v10 h
          subst hr9
          exact W.iret (v := v10) hx hb hr (fun t ht hW => ⟨⟨v10, (), rfl, rfl, by rw [ht]; exact hP, va_K.moved hW.alike hK, hD⟩, hS.F ht⟩) hS.2.2 dX6_person_77
        · have h := ul_if_f hc9 h
          by_cases hc12 : p2 = 3
          · have h := ul_if_t hc12 h
            refine lv_tableIn (off := 67) (tgt := 78) hx hb dX6_person_11 (by rw [hc12]; decide) (by rw [hc12]; decide) (by rw [hc12]; decide) (by decide) ?_
            refine lv_aload_n hx hb dX6_person_78 rfl (lv_at hl 0 rfl) ?_
            refine va_get (D := (dC, dI)) (ci := 6) (v := .ref (aN 0)) (C := RX6) (T := TX6) (N := 11) hx hb hts hin6 hown hK hP 0 rfl rfl 3 (by decide) (hts (.fieldLink RX6 31 "UnderLadders" "now" "LUnderLadders$Street;") (by decide +kernel)) (fun _ h9 => h9) rfl dX6_person_79 ?_
            refine va_getN (D := (dC, dI)) (ci := 4) (v := .ref (aN 5)) (C := RX4) (T := TX4) (N := 8) hx hb hts hin4 hown hK hP 21 rfl rfl 5 (by decide) (va_Nw.use rfl (hN.1 (RX6, 125, "UnderLadders$Street", "where", "[I") (by decide +kernel))) (fun _ h9 => h9) rfl dX6_person_82 ?_
            refine lv_iload_n hx hb dX6_person_85 rfl (lv_at hl 1 rfl) ?_
            obtain ⟨hi14, h⟩ := ul_ld_h h
            refine va_iald hx hb hK hP 26 0 rfl rfl hi14 dX6_person_86 ?_
            refine lv_topi (fun v13 ev13 => ?_)
            have h := h v13 ev13
            have hr9 := hK0 v13 h
            subst hr9
            exact W.iret (v := v13) hx hb hr (fun t ht hW => ⟨⟨v13, (), rfl, rfl, by rw [ht]; exact hP, va_K.moved hW.alike hK, hD⟩, hS.F ht⟩) hS.2.2 dX6_person_87
          · have h := ul_if_f hc12 h
            by_cases hc15 : p2 = 4
            · have h := ul_if_t hc15 h
              refine lv_tableIn (off := 77) (tgt := 88) hx hb dX6_person_11 (by rw [hc15]; decide) (by rw [hc15]; decide) (by rw [hc15]; decide) (by decide) ?_
              refine lv_aload_n hx hb dX6_person_88 rfl (lv_at hl 0 rfl) ?_
              refine va_get (D := (dC, dI)) (ci := 6) (v := .ref (aN 0)) (C := RX6) (T := TX6) (N := 11) hx hb hts hin6 hown hK hP 0 rfl rfl 3 (by decide) (hts (.fieldLink RX6 31 "UnderLadders" "now" "LUnderLadders$Street;") (by decide +kernel)) (fun _ h9 => h9) rfl dX6_person_89 ?_
              refine va_getN (D := (dC, dI)) (ci := 4) (v := .ref (aN 6)) (C := RX4) (T := TX4) (N := 8) hx hb hts hin4 hown hK hP 21 rfl rfl 6 (by decide) (va_Nw.use rfl (hN.1 (RX6, 128, "UnderLadders$Street", "ownLuck", "[I") (by decide +kernel))) (fun _ h9 => h9) rfl dX6_person_92 ?_
              refine lv_iload_n hx hb dX6_person_95 rfl (lv_at hl 1 rfl) ?_
              obtain ⟨hi17, h⟩ := ul_ld_h h
              refine va_iald hx hb hK hP 27 0 rfl rfl hi17 dX6_person_96 ?_
              refine lv_topi (fun v16 ev16 => ?_)
              have h := h v16 ev16
              have hr9 := hK0 v16 h
              subst hr9
              exact W.iret (v := v16) hx hb hr (fun t ht hW => ⟨⟨v16, (), rfl, rfl, by rw [ht]; exact hP, va_K.moved hW.alike hK, hD⟩, hS.F ht⟩) hS.2.2 dX6_person_97
            · have h := ul_if_f hc15 h
              by_cases hc18 : p2 = 5
              · have h := ul_if_t hc18 h
                refine lv_tableIn (off := 87) (tgt := 98) hx hb dX6_person_11 (by rw [hc18]; decide) (by rw [hc18]; decide) (by rw [hc18]; decide) (by decide) ?_
                refine lv_aload_n hx hb dX6_person_98 rfl (lv_at hl 0 rfl) ?_
                refine va_get (D := (dC, dI)) (ci := 6) (v := .ref (aN 0)) (C := RX6) (T := TX6) (N := 11) hx hb hts hin6 hown hK hP 0 rfl rfl 3 (by decide) (hts (.fieldLink RX6 31 "UnderLadders" "now" "LUnderLadders$Street;") (by decide +kernel)) (fun _ h9 => h9) rfl dX6_person_99 ?_
                refine lv_iload_n hx hb dX6_person_102 rfl (lv_at hl 1 rfl) ?_
                obtain ⟨u19, hu19, h⟩ := ul_cl_h h
                refine ul_cPi (As := [.int p1]) (rest := []) (wc := (ul_wS cI aN (aK 0) N ++ ul_wK cI aK K)) (wc' := (ul_wS cI aN (aK 0) N ++ ul_wK cI aK K)) (wr := ([ul_wU cZ cO aU (aL 0) (aD 0) (aK 0) (aN 0) (aT 0) (aJ 0) (aE 0) (aF 0) aP U d, ul_wL cI aL L, ul_wK cI aD D, ul_wS cI aT (aK 0) T, ul_wJ cO aJ aB J, ul_wE cI aE E, ul_wG cI aF (aK 0) (aN 0) (aT 0) F, ul_wB cI aP (aK 0) 2 P, ul_wB cI aB (aK 0) 14 B] : List va_W).flatten) hP hD hS hK hA [0] ul_NX_ok hN (c_X4_laddersAhead l dC dI cI aN aK H.size N K p1 u19 hu19) (ul_pmq (bs := [ul_wU cZ cO aU (aL 0) (aD 0) (aK 0) (aN 0) (aT 0) (aJ 0) (aE 0) (aF 0) aP U d, ul_wL cI aL L, ul_wK cI aD D, ul_wK cI aK K, ul_wS cI aN (aK 0) N, ul_wS cI aT (aK 0) T, ul_wJ cO aJ aB J, ul_wE cI aE E, ul_wG cI aF (aK 0) (aN 0) (aT 0) F, ul_wB cI aP (aK 0) 2 P, ul_wB cI aB (aK 0) 14 B]) [4, 3, 0, 1, 2, 5, 6, 7, 8, 9, 10] (by show List.Perm _ (List.range 11); decide) (by simp only [List.map_cons, List.map_nil, List.getD_cons_zero, List.getD_cons_succ, List.flatten_cons, List.flatten_nil, List.append_nil, List.nil_append, List.append_assoc])) rfl ⟨hx, hb, hml, hown, hts⟩ (cwV 1 hts gX6_person_X4_laddersAhead rfl rfl rfl (by decide +kernel) ⟨Nat.le_of_ble_eq_true rfl, Nat.le_of_ble_eq_true rfl⟩) (va_recv hK hP (ci := 4) (q0 := 21) rfl rfl) rfl hl.1 rfl (Nat.le_of_ble_eq_true rfl) dX6_person_103 (fun H locs hw => ?_)
                have hw := hw.pm (ul_pmq (bs := [ul_wU cZ cO aU (aL 0) (aD 0) (aK 0) (aN 0) (aT 0) (aJ 0) (aE 0) (aF 0) aP U d, ul_wL cI aL L, ul_wK cI aD D, ul_wK cI aK K, ul_wS cI aN (aK 0) N, ul_wS cI aT (aK 0) T, ul_wJ cO aJ aB J, ul_wE cI aE E, ul_wG cI aF (aK 0) (aN 0) (aT 0) F, ul_wB cI aP (aK 0) 2 P, ul_wB cI aB (aK 0) 14 B]) [0, 1, 2, 5, 6, 7, 8, 9, 10, 4, 3] (by show List.Perm _ (List.range 11); decide) (by simp only [List.map_cons, List.map_nil, List.getD_cons_zero, List.getD_cons_succ, List.flatten_cons, List.flatten_nil, List.append_nil, List.nil_append, List.append_assoc])).symm
                obtain ⟨hP, hD, hS⟩ := hw
                have hP : va_P (dC, dI) classes ([ul_wU cZ cO aU (aL 0) (aD 0) (aK 0) (aN 0) (aT 0) (aJ 0) (aE 0) (aF 0) aP U d, ul_wL cI aL L, ul_wK cI aD D, ul_wK cI aK K, ul_wS cI aN (aK 0) N, ul_wS cI aT (aK 0) T, ul_wJ cO aJ aB J, ul_wE cI aE E, ul_wG cI aF (aK 0) (aN 0) (aT 0) F, ul_wB cI aP (aK 0) 2 P, ul_wB cI aB (aK 0) 14 B] : List va_W).flatten H := hP
                have hD : va_D A ([ul_wU cZ cO aU (aL 0) (aD 0) (aK 0) (aN 0) (aT 0) (aJ 0) (aE 0) (aF 0) aP U d, ul_wL cI aL L, ul_wK cI aD D, ul_wK cI aK K, ul_wS cI aN (aK 0) N, ul_wS cI aT (aK 0) T, ul_wJ cO aJ aB J, ul_wE cI aE E, ul_wG cI aF (aK 0) (aN 0) (aT 0) F, ul_wB cI aP (aK 0) 2 P, ul_wB cI aB (aK 0) 14 B] : List va_W).flatten := hD
                have hr9 := hK0 u19 h
                subst hr9
                exact W.iret (v := u19) hx hb hr (fun t ht hW => ⟨⟨u19, (), rfl, rfl, by rw [ht]; exact hP, va_K.moved hW.alike hK, hD⟩, hS.F ht⟩) hS.2.2 dX6_person_106
              · have h := ul_if_f hc18 h
                refine lv_tableOut (tgt := 107) hx hb dX6_person_11 (by have z0 := lv_neT (a := 0) hc3 (by decide); have z1 := lv_neT (a := 1) hc6 (by decide); have z2 := lv_neT (a := 2) hc9 (by decide); have z3 := lv_neT (a := 3) hc12 (by decide); have z4 := lv_neT (a := 4) hc15 (by decide); have z5 := lv_neT (a := 5) hc18 (by decide); omega) (by decide) ?_
                refine lv_bipush (v := -2) hx hb dX6_person_107 (by decide) ?_
                have hr9 := hK0 (-2 : Int32) h
                subst hr9
                exact W.iret (v := (-2 : Int32)) hx hb hr (fun t ht hW => ⟨⟨(-2 : Int32), (), rfl, rfl, by rw [ht]; exact hP, va_K.moved hW.alike hK, hD⟩, hS.F ht⟩) hS.2.2 dX6_person_109
  · have h := ul_if_t hc2 h
    refine lv_iconst (v := -1) hx hb dX6_person_8 (by decide) ?_
    have hr9 := hK0 (-1 : Int32) h
    subst hr9
    exact W.iret (v := (-1 : Int32)) hx hb hr (fun t ht hW => ⟨⟨(-1 : Int32), (), rfl, rfl, by rw [ht]; exact hP, va_K.moved hW.alike hK, hD⟩, hS.F ht⟩) hS.2.2 dX6_person_9
def f_X6_at (N : ul_S) (p1 : Int32) : Option Int32 :=
  (f_X6_isPlace p1).bind fun u1 => if u1 = 0 then (some (-1 : Int32)) else (ul_ld (N 2) 10 p1 fun v3 => some v3)
set_option maxHeartbeats 4000000 in
set_option maxRecDepth 100000 in
theorem c_X6_at (l : Launch) (dC : Nat → ClassId) (dI : Nat → Nat → Nat) (cI : ClassId) (cZ : ClassId) (cO : ClassId) (aU : Nat → Nat) (aL : Nat → Nat) (aD : Nat → Nat) (aK : Nat → Nat) (aN : Nat → Nat) (aT : Nat → Nat) (aJ : Nat → Nat) (aE : Nat → Nat) (aF : Nat → Nat) (aP : Nat → Nat → Nat) (aB : Nat → Nat → Nat) (sz : Nat) (U : ul_S) (d : Int64) (L : ul_S) (D : ul_S) (K : ul_S) (N : ul_S) (T : ul_S) (J : ul_S) (E : ul_S) (F : ul_S) (P : ul_F) (B : ul_F) (p1 : Int32) (r : Int32) (h : f_X6_at N p1 = some r) : Met l yX6_at wsX6_at ({ frames := 1, cells := 0, slots := 0, locals := 20 }) (va_Pc [.ref (aU 0), .int p1] (ul_pre (dC, dI) [(cI, .int), (cZ, .boolean), (cO, .object RX4)] ul_NX sz ([ul_wU cZ cO aU (aL 0) (aD 0) (aK 0) (aN 0) (aT 0) (aJ 0) (aE 0) (aF 0) aP U d, ul_wL cI aL L, ul_wK cI aD D, ul_wK cI aK K, ul_wS cI aN (aK 0) N, ul_wS cI aT (aK 0) T, ul_wJ cO aJ aB J, ul_wE cI aE E, ul_wG cI aF (aK 0) (aN 0) (aT 0) F, ul_wB cI aP (aK 0) 2 P, ul_wB cI aB (aK 0) 14 B] : List va_W).flatten)) (va_Qi (fun v (_ : Unit) => v = r) (fun _ => ul_post (dC, dI) [(cI, .int), (cZ, .boolean), (cO, .object RX4)] (va_A ([ul_wU cZ cO aU (aL 0) (aD 0) (aK 0) (aN 0) (aT 0) (aJ 0) (aE 0) (aF 0) aP U d, ul_wL cI aL L, ul_wK cI aD D, ul_wK cI aK K, ul_wS cI aN (aK 0) N, ul_wS cI aT (aK 0) T, ul_wJ cO aJ aB J, ul_wE cI aE E, ul_wG cI aF (aK 0) (aN 0) (aT 0) F, ul_wB cI aP (aK 0) 2 P, ul_wB cI aB (aK 0) 14 B] : List va_W).flatten sz) ([ul_wU cZ cO aU (aL 0) (aD 0) (aK 0) (aN 0) (aT 0) (aJ 0) (aE 0) (aF 0) aP U d, ul_wL cI aL L, ul_wK cI aD D, ul_wK cI aK K, ul_wS cI aN (aK 0) N, ul_wS cI aT (aK 0) T, ul_wJ cO aJ aB J, ul_wE cI aE E, ul_wG cI aF (aK 0) (aN 0) (aT 0) F, ul_wB cI aP (aK 0) 2 P, ul_wB cI aB (aK 0) 14 B] : List va_W).flatten) (va_A ([ul_wU cZ cO aU (aL 0) (aD 0) (aK 0) (aN 0) (aT 0) (aJ 0) (aE 0) (aF 0) aP U d, ul_wL cI aL L, ul_wK cI aD D, ul_wK cI aK K, ul_wS cI aN (aK 0) N, ul_wS cI aT (aK 0) T, ul_wJ cO aJ aB J, ul_wE cI aE E, ul_wG cI aF (aK 0) (aN 0) (aT 0) F, ul_wB cI aP (aK 0) 2 P, ul_wB cI aB (aK 0) 14 B] : List va_W).flatten sz)) 0 0 (va_A ([ul_wU cZ cO aU (aL 0) (aD 0) (aK 0) (aN 0) (aT 0) (aJ 0) (aE 0) (aF 0) aP U d, ul_wL cI aL L, ul_wK cI aD D, ul_wK cI aK K, ul_wS cI aN (aK 0) N, ul_wS cI aT (aK 0) T, ul_wJ cO aJ aB J, ul_wE cI aE E, ul_wG cI aF (aK 0) (aN 0) (aT 0) F, ul_wB cI aP (aK 0) 2 P, ul_wB cI aB (aK 0) 14 B] : List va_W).flatten sz) := by
  refine Met.ofW (cc := cX6_at) (maxL := 2) (ret := (some .int)) (by decide) rfl ?_
  intro p e s m args below meth c s₁ BB hml hv
  obtain ⟨rfl, hsz, hP, hK, hD0, hN⟩ := hv
  have hx := BB.exec
  have hb := BB.bytes
  have hr := BB.returns
  have hts := atoms_spec (ws := wsX6_at) BB.pre
  have hown : s.vm.findClass RX6 = some m.cls := findClass_of_methodNamed BB.named
  have hlocks := BB.notSynchronized
  have hin4 : ∀ w ∈ u_ws RX4 TX4 8, w ∈ wsX6_at := by decide +kernel
  have hin6 : ∀ w ∈ u_ws RX6 TX6 11, w ∈ wsX6_at := by decide +kernel
  subst hsz
  have hD := hD0.self (sz := s.heap.size)
  generalize hAe : va_A ([ul_wU cZ cO aU (aL 0) (aD 0) (aK 0) (aN 0) (aT 0) (aJ 0) (aE 0) (aF 0) aP U d, ul_wL cI aL L, ul_wK cI aD D, ul_wK cI aK K, ul_wS cI aN (aK 0) N, ul_wS cI aT (aK 0) T, ul_wJ cO aJ aB J, ul_wE cI aE E, ul_wG cI aF (aK 0) (aN 0) (aT 0) F, ul_wB cI aP (aK 0) 2 P, ul_wB cI aB (aK 0) 14 B] : List va_W).flatten s.heap.size = A at hD hN ⊢
  have hA : ∀ q : Nat, s.heap.size ≤ q → A q := fun q h => by rw [← hAe]; exact Or.inr h
  have hS : va_S A s.heap s.heap [] := va_S.rf
  have hl := lv_entry ([.ref (aU 0), .int p1]) (n := 2) (Nat.le_of_ble_eq_true rfl)
  rw [lg_entry_eq]
  generalize (lg_sl ([.ref (aU 0), .int p1]) ++ List.replicate (2 - (lg_sl ([.ref (aU 0), .int p1])).length) Slot.unset).toArray = ls at hl ⊢
  have hl : lv_has ls 2 [(0, .ref (aU 0)), (1, .int p1)] := hl
  obtain ⟨K0, hK0, h⟩ := ul_top h
  unfold f_X6_at at h
  refine ul_gen (fun G gi ge => ?_)
  obtain ⟨H, eH⟩ : ∃ z, z = s.heap := ⟨_, rfl⟩
  obtain ⟨locs, eL⟩ : ∃ z : List Loc, z = [] := ⟨_, rfl⟩
  have hP : va_P (dC, dI) classes ([ul_wU cZ cO aU (aL 0) (aD 0) (aK 0) (aN 0) (aT 0) (aJ 0) (aE 0) (aF 0) aP U d, ul_wL cI aL L, ul_wK cI aD D, ul_wK cI aK K, ul_wS cI aN (aK 0) N, ul_wS cI aT (aK 0) T, ul_wJ cO aJ aB J, ul_wE cI aE E, ul_wG cI aF (aK 0) (aN 0) (aT 0) F, ul_wB cI aP (aK 0) 2 P, ul_wB cI aB (aK 0) 14 B] : List va_W).flatten H := by rw [eH]; exact hP
  have hS : va_S A s.heap H locs := by rw [eH, eL]; exact hS
  rw [← eL]
  refine (show G H locs (F0 m 0 ls []) → G s.heap locs (F0 m 0 ls []) from fun z => by rw [← eH]; exact z) ?_
  refine gi _ _ _ ?_
  refine lv_iload_n hx hb dX6_at_0 rfl (lv_at hl 1 rfl) ?_
  obtain ⟨u1, hu1, h⟩ := ul_cl_h h
  refine ul_cSi (As := [.int p1]) (rest := []) hP hD hS hK hA (c_X6_isPlace l dC dI H.size p1 u1 hu1) ⟨hx, hb, hml, hown, hts⟩ (cwS 1 hts gX6_at_X6_isPlace rfl rfl rfl (by decide +kernel) ⟨Nat.le_of_ble_eq_true rfl, Nat.le_of_ble_eq_true rfl⟩) rfl hl.1 rfl (Nat.le_of_ble_eq_true rfl) dX6_at_1 (fun H locs hw => ?_)
  obtain ⟨hP, hD, hS⟩ := hw
  refine lv_if_eq (tgt := 19) hx hb dX6_at_4 (by decide) (fun hc2 => ?_) (fun hc2 => ?_)
  · have h := ul_if_t hc2 h
    refine lv_iconst (v := -1) hx hb dX6_at_19 (by decide) ?_
    have hr9 := hK0 (-1 : Int32) h
    subst hr9
    exact W.iret (v := (-1 : Int32)) hx hb hr (fun t ht hW => ⟨⟨(-1 : Int32), (), rfl, rfl, by rw [ht]; exact hP, va_K.moved hW.alike hK, hD⟩, hS.F ht⟩) hS.2.2 dX6_at_20
  · have h := ul_if_f hc2 h
    refine lv_aload_n hx hb dX6_at_7 rfl (lv_at hl 0 rfl) ?_
    refine va_get (D := (dC, dI)) (ci := 6) (v := .ref (aN 0)) (C := RX6) (T := TX6) (N := 11) hx hb hts hin6 hown hK hP 0 rfl rfl 3 (by decide) (hts (.fieldLink RX6 31 "UnderLadders" "now" "LUnderLadders$Street;") (by decide +kernel)) (fun _ h9 => h9) rfl dX6_at_8 ?_
    refine va_getN (D := (dC, dI)) (ci := 4) (v := .ref (aN 2)) (C := RX4) (T := TX4) (N := 8) hx hb hts hin4 hown hK hP 21 rfl rfl 2 (by decide) (va_Nw.use rfl (hN.1 (RX6, 137, "UnderLadders$Street", "standing", "[I") (by decide +kernel))) (fun _ h9 => h9) rfl dX6_at_11 ?_
    refine lv_iload_n hx hb dX6_at_14 rfl (lv_at hl 1 rfl) ?_
    obtain ⟨hi4, h⟩ := ul_ld_h h
    refine va_iald hx hb hK hP 23 0 rfl rfl hi4 dX6_at_15 ?_
    refine lv_topi (fun v3 ev3 => ?_)
    have h := h v3 ev3
    refine lv_goto (tgt := 20) hx hb dX6_at_16 (by decide) ?_
    have hr9 := hK0 v3 h
    subst hr9
    exact W.iret (v := v3) hx hb hr (fun t ht hW => ⟨⟨v3, (), rfl, rfl, by rw [ht]; exact hP, va_K.moved hW.alike hK, hD⟩, hS.F ht⟩) hS.2.2 dX6_at_20
def f_X6_day (K : ul_S) (N : ul_S) (J : ul_S) (B : ul_F) : Option (Int32 × ul_S × ul_S × ul_F) :=
  (f_X0_remember J N B).bind fun u1 => (f_X4_passDay N K (31 : Int32)).bind fun u2 => some (u2.1, u2.2, u1.1, u1.2)
set_option maxHeartbeats 4000000 in
set_option maxRecDepth 100000 in
theorem c_X6_day (l : Launch) (dC : Nat → ClassId) (dI : Nat → Nat → Nat) (cI : ClassId) (cZ : ClassId) (cO : ClassId) (aU : Nat → Nat) (aL : Nat → Nat) (aD : Nat → Nat) (aK : Nat → Nat) (aN : Nat → Nat) (aT : Nat → Nat) (aJ : Nat → Nat) (aE : Nat → Nat) (aF : Nat → Nat) (aP : Nat → Nat → Nat) (aB : Nat → Nat → Nat) (sz : Nat) (U : ul_S) (d : Int64) (L : ul_S) (D : ul_S) (K : ul_S) (N : ul_S) (T : ul_S) (J : ul_S) (E : ul_S) (F : ul_S) (P : ul_F) (B : ul_F) (r : (Int32 × ul_S × ul_S × ul_F)) (h : f_X6_day K N J B = some r) : Met l yX6_day wsX6_day ({ frames := 4, cells := 0, slots := 0, locals := 109 }) (va_Pc [.ref (aU 0)] (ul_pre (dC, dI) [(cI, .int), (cZ, .boolean), (cO, .object RX4)] ul_NX sz ([ul_wU cZ cO aU (aL 0) (aD 0) (aK 0) (aN 0) (aT 0) (aJ 0) (aE 0) (aF 0) aP U d, ul_wL cI aL L, ul_wK cI aD D, ul_wK cI aK K, ul_wS cI aN (aK 0) N, ul_wS cI aT (aK 0) T, ul_wJ cO aJ aB J, ul_wE cI aE E, ul_wG cI aF (aK 0) (aN 0) (aT 0) F, ul_wB cI aP (aK 0) 2 P, ul_wB cI aB (aK 0) 14 B] : List va_W).flatten)) (va_Qi (fun v (_ : Unit) => v = r.1) (fun _ => ul_post (dC, dI) [(cI, .int), (cZ, .boolean), (cO, .object RX4)] (va_A ([ul_wU cZ cO aU (aL 0) (aD 0) (aK 0) (aN 0) (aT 0) (aJ 0) (aE 0) (aF 0) aP U d, ul_wL cI aL L, ul_wK cI aD D, ul_wK cI aK K, ul_wS cI aN (aK 0) N, ul_wS cI aT (aK 0) T, ul_wJ cO aJ aB J, ul_wE cI aE E, ul_wG cI aF (aK 0) (aN 0) (aT 0) F, ul_wB cI aP (aK 0) 2 P, ul_wB cI aB (aK 0) 14 B] : List va_W).flatten sz) ([ul_wU cZ cO aU (aL 0) (aD 0) (aK 0) (aN 0) (aT 0) (aJ 0) (aE 0) (aF 0) aP U d, ul_wL cI aL L, ul_wK cI aD D, ul_wK cI aK K, ul_wS cI aN (aK 0) r.2.1, ul_wS cI aT (aK 0) T, ul_wJ cO aJ aB r.2.2.1, ul_wE cI aE E, ul_wG cI aF (aK 0) (aN 0) (aT 0) F, ul_wB cI aP (aK 0) 2 P, ul_wB cI aB (aK 0) 14 r.2.2.2] : List va_W).flatten) (va_A ([ul_wU cZ cO aU (aL 0) (aD 0) (aK 0) (aN 0) (aT 0) (aJ 0) (aE 0) (aF 0) aP U d, ul_wL cI aL L, ul_wK cI aD D, ul_wK cI aK K, ul_wS cI aN (aK 0) N, ul_wS cI aT (aK 0) T, ul_wJ cO aJ aB J, ul_wE cI aE E, ul_wG cI aF (aK 0) (aN 0) (aT 0) F, ul_wB cI aP (aK 0) 2 P, ul_wB cI aB (aK 0) 14 B] : List va_W).flatten sz)) 0 0 (va_A ([ul_wU cZ cO aU (aL 0) (aD 0) (aK 0) (aN 0) (aT 0) (aJ 0) (aE 0) (aF 0) aP U d, ul_wL cI aL L, ul_wK cI aD D, ul_wK cI aK K, ul_wS cI aN (aK 0) N, ul_wS cI aT (aK 0) T, ul_wJ cO aJ aB J, ul_wE cI aE E, ul_wG cI aF (aK 0) (aN 0) (aT 0) F, ul_wB cI aP (aK 0) 2 P, ul_wB cI aB (aK 0) 14 B] : List va_W).flatten sz) := by
  refine Met.ofW (cc := cX6_day) (maxL := 1) (ret := (some .int)) (by decide) rfl ?_
  intro p e s m args below meth c s₁ BB hml hv
  obtain ⟨rfl, hsz, hP, hK, hD0, hN⟩ := hv
  have hx := BB.exec
  have hb := BB.bytes
  have hr := BB.returns
  have hts := atoms_spec (ws := wsX6_day) BB.pre
  have hown : s.vm.findClass RX6 = some m.cls := findClass_of_methodNamed BB.named
  have hlocks := BB.notSynchronized
  have hin6 : ∀ w ∈ u_ws RX6 TX6 11, w ∈ wsX6_day := by decide +kernel
  subst hsz
  have hD := hD0.self (sz := s.heap.size)
  generalize hAe : va_A ([ul_wU cZ cO aU (aL 0) (aD 0) (aK 0) (aN 0) (aT 0) (aJ 0) (aE 0) (aF 0) aP U d, ul_wL cI aL L, ul_wK cI aD D, ul_wK cI aK K, ul_wS cI aN (aK 0) N, ul_wS cI aT (aK 0) T, ul_wJ cO aJ aB J, ul_wE cI aE E, ul_wG cI aF (aK 0) (aN 0) (aT 0) F, ul_wB cI aP (aK 0) 2 P, ul_wB cI aB (aK 0) 14 B] : List va_W).flatten s.heap.size = A at hD hN ⊢
  have hA : ∀ q : Nat, s.heap.size ≤ q → A q := fun q h => by rw [← hAe]; exact Or.inr h
  have hS : va_S A s.heap s.heap [] := va_S.rf
  have hl := lv_entry ([.ref (aU 0)]) (n := 1) (Nat.le_of_ble_eq_true rfl)
  rw [lg_entry_eq]
  generalize (lg_sl ([.ref (aU 0)]) ++ List.replicate (1 - (lg_sl ([.ref (aU 0)])).length) Slot.unset).toArray = ls at hl ⊢
  have hl : lv_has ls 1 [(0, .ref (aU 0))] := hl
  obtain ⟨K0, hK0, h⟩ := ul_top h
  unfold f_X6_day at h
  refine ul_gen (fun G gi ge => ?_)
  obtain ⟨H, eH⟩ : ∃ z, z = s.heap := ⟨_, rfl⟩
  obtain ⟨locs, eL⟩ : ∃ z : List Loc, z = [] := ⟨_, rfl⟩
  have hP : va_P (dC, dI) classes ([ul_wU cZ cO aU (aL 0) (aD 0) (aK 0) (aN 0) (aT 0) (aJ 0) (aE 0) (aF 0) aP U d, ul_wL cI aL L, ul_wK cI aD D, ul_wK cI aK K, ul_wS cI aN (aK 0) N, ul_wS cI aT (aK 0) T, ul_wJ cO aJ aB J, ul_wE cI aE E, ul_wG cI aF (aK 0) (aN 0) (aT 0) F, ul_wB cI aP (aK 0) 2 P, ul_wB cI aB (aK 0) 14 B] : List va_W).flatten H := by rw [eH]; exact hP
  have hS : va_S A s.heap H locs := by rw [eH, eL]; exact hS
  rw [← eL]
  refine (show G H locs (F0 m 0 ls []) → G s.heap locs (F0 m 0 ls []) from fun z => by rw [← eH]; exact z) ?_
  refine gi _ _ _ ?_
  refine lv_aload_n hx hb dX6_day_0 rfl (lv_at hl 0 rfl) ?_
  refine va_get (D := (dC, dI)) (ci := 6) (v := .ref (aJ 0)) (C := RX6) (T := TX6) (N := 11) hx hb hts hin6 hown hK hP 0 rfl rfl 5 (by decide) (hts (.fieldLink RX6 41 "UnderLadders" "acts" "LUnderLadders$Acts;") (by decide +kernel)) (fun _ h9 => h9) rfl dX6_day_1 ?_
  refine lv_aload_n hx hb dX6_day_4 rfl (lv_at hl 0 rfl) ?_
  refine va_get (D := (dC, dI)) (ci := 6) (v := .ref (aN 0)) (C := RX6) (T := TX6) (N := 11) hx hb hts hin6 hown hK hP 0 rfl rfl 3 (by decide) (hts (.fieldLink RX6 31 "UnderLadders" "now" "LUnderLadders$Street;") (by decide +kernel)) (fun _ h9 => h9) rfl dX6_day_5 ?_
  obtain ⟨u1, hu1, h⟩ := ul_cl_h h
  refine ul_cPv (As := [.ref (aN 0)]) (rest := []) (wc := ([ul_wJ cO aJ aB J, ul_wS cI aN (aK 0) N, ul_wB cI aB (aK 0) 14 B] : List va_W).flatten) (wc' := ([ul_wJ cO aJ aB u1.1, ul_wS cI aN (aK 0) N, ul_wB cI aB (aK 0) 14 u1.2] : List va_W).flatten) (wr := ([ul_wU cZ cO aU (aL 0) (aD 0) (aK 0) (aN 0) (aT 0) (aJ 0) (aE 0) (aF 0) aP U d, ul_wL cI aL L, ul_wK cI aD D, ul_wK cI aK K, ul_wS cI aT (aK 0) T, ul_wE cI aE E, ul_wG cI aF (aK 0) (aN 0) (aT 0) F, ul_wB cI aP (aK 0) 2 P] : List va_W).flatten) hP hD hS hK hA [0, 2] ul_NX_ok hN (c_X0_remember l dC dI cI cO aJ aN aB aK H.size J N B u1 hu1) (ul_pmq (bs := [ul_wU cZ cO aU (aL 0) (aD 0) (aK 0) (aN 0) (aT 0) (aJ 0) (aE 0) (aF 0) aP U d, ul_wL cI aL L, ul_wK cI aD D, ul_wK cI aK K, ul_wS cI aN (aK 0) N, ul_wS cI aT (aK 0) T, ul_wJ cO aJ aB J, ul_wE cI aE E, ul_wG cI aF (aK 0) (aN 0) (aT 0) F, ul_wB cI aP (aK 0) 2 P, ul_wB cI aB (aK 0) 14 B]) [6, 4, 10, 0, 1, 2, 3, 5, 7, 8, 9] (by show List.Perm _ (List.range 11); decide) (by simp only [List.map_cons, List.map_nil, List.getD_cons_zero, List.getD_cons_succ, List.flatten_cons, List.flatten_nil, List.append_nil, List.nil_append, List.append_assoc])) rfl ⟨hx, hb, hml, hown, hts⟩ (cwV 1 hts gX6_day_X0_remember rfl rfl rfl (by decide +kernel) ⟨Nat.le_of_ble_eq_true rfl, Nat.le_of_ble_eq_true rfl⟩) (va_recv hK hP (ci := 0) (q0 := 35) rfl rfl) rfl hl.1 rfl (Nat.le_of_ble_eq_true rfl) dX6_day_8 (fun H locs hw => ?_)
  have hw := hw.pm (ul_pmq (bs := [ul_wU cZ cO aU (aL 0) (aD 0) (aK 0) (aN 0) (aT 0) (aJ 0) (aE 0) (aF 0) aP U d, ul_wL cI aL L, ul_wK cI aD D, ul_wK cI aK K, ul_wS cI aN (aK 0) N, ul_wS cI aT (aK 0) T, ul_wJ cO aJ aB u1.1, ul_wE cI aE E, ul_wG cI aF (aK 0) (aN 0) (aT 0) F, ul_wB cI aP (aK 0) 2 P, ul_wB cI aB (aK 0) 14 u1.2]) [0, 1, 2, 3, 5, 7, 8, 9, 6, 4, 10] (by show List.Perm _ (List.range 11); decide) (by simp only [List.map_cons, List.map_nil, List.getD_cons_zero, List.getD_cons_succ, List.flatten_cons, List.flatten_nil, List.append_nil, List.nil_append, List.append_assoc])).symm
  obtain ⟨hP, hD, hS⟩ := hw
  have hP : va_P (dC, dI) classes ([ul_wU cZ cO aU (aL 0) (aD 0) (aK 0) (aN 0) (aT 0) (aJ 0) (aE 0) (aF 0) aP U d, ul_wL cI aL L, ul_wK cI aD D, ul_wK cI aK K, ul_wS cI aN (aK 0) N, ul_wS cI aT (aK 0) T, ul_wJ cO aJ aB u1.1, ul_wE cI aE E, ul_wG cI aF (aK 0) (aN 0) (aT 0) F, ul_wB cI aP (aK 0) 2 P, ul_wB cI aB (aK 0) 14 u1.2] : List va_W).flatten H := hP
  have hD : va_D A ([ul_wU cZ cO aU (aL 0) (aD 0) (aK 0) (aN 0) (aT 0) (aJ 0) (aE 0) (aF 0) aP U d, ul_wL cI aL L, ul_wK cI aD D, ul_wK cI aK K, ul_wS cI aN (aK 0) N, ul_wS cI aT (aK 0) T, ul_wJ cO aJ aB u1.1, ul_wE cI aE E, ul_wG cI aF (aK 0) (aN 0) (aT 0) F, ul_wB cI aP (aK 0) 2 P, ul_wB cI aB (aK 0) 14 u1.2] : List va_W).flatten := hD
  refine lv_aload_n hx hb dX6_day_11 rfl (lv_at hl 0 rfl) ?_
  refine va_get (D := (dC, dI)) (ci := 6) (v := .ref (aN 0)) (C := RX6) (T := TX6) (N := 11) hx hb hts hin6 hown hK hP 0 rfl rfl 3 (by decide) (hts (.fieldLink RX6 31 "UnderLadders" "now" "LUnderLadders$Street;") (by decide +kernel)) (fun _ h9 => h9) rfl dX6_day_12 ?_
  refine lv_bipush (v := 31) hx hb dX6_day_15 (by decide) ?_
  obtain ⟨u2, hu2, h⟩ := ul_cl_h h
  refine ul_cPi (As := [.int (31 : Int32)]) (rest := []) (wc := (ul_wS cI aN (aK 0) N ++ ul_wK cI aK K)) (wc' := (ul_wS cI aN (aK 0) u2.2 ++ ul_wK cI aK K)) (wr := ([ul_wU cZ cO aU (aL 0) (aD 0) (aK 0) (aN 0) (aT 0) (aJ 0) (aE 0) (aF 0) aP U d, ul_wL cI aL L, ul_wK cI aD D, ul_wS cI aT (aK 0) T, ul_wJ cO aJ aB u1.1, ul_wE cI aE E, ul_wG cI aF (aK 0) (aN 0) (aT 0) F, ul_wB cI aP (aK 0) 2 P, ul_wB cI aB (aK 0) 14 u1.2] : List va_W).flatten) hP hD hS hK hA [0] ul_NX_ok hN (c_X4_passDay l dC dI cI aN aK H.size N K (31 : Int32) u2 hu2) (ul_pmq (bs := [ul_wU cZ cO aU (aL 0) (aD 0) (aK 0) (aN 0) (aT 0) (aJ 0) (aE 0) (aF 0) aP U d, ul_wL cI aL L, ul_wK cI aD D, ul_wK cI aK K, ul_wS cI aN (aK 0) N, ul_wS cI aT (aK 0) T, ul_wJ cO aJ aB u1.1, ul_wE cI aE E, ul_wG cI aF (aK 0) (aN 0) (aT 0) F, ul_wB cI aP (aK 0) 2 P, ul_wB cI aB (aK 0) 14 u1.2]) [4, 3, 0, 1, 2, 5, 6, 7, 8, 9, 10] (by show List.Perm _ (List.range 11); decide) (by simp only [List.map_cons, List.map_nil, List.getD_cons_zero, List.getD_cons_succ, List.flatten_cons, List.flatten_nil, List.append_nil, List.nil_append, List.append_assoc])) rfl ⟨hx, hb, hml, hown, hts⟩ (cwV 1 hts gX6_day_X4_passDay rfl rfl rfl (by decide +kernel) ⟨Nat.le_of_ble_eq_true rfl, Nat.le_of_ble_eq_true rfl⟩) (va_recv hK hP (ci := 4) (q0 := 21) rfl rfl) rfl hl.1 rfl (Nat.le_of_ble_eq_true rfl) dX6_day_17 (fun H locs hw => ?_)
  have hw := hw.pm (ul_pmq (bs := [ul_wU cZ cO aU (aL 0) (aD 0) (aK 0) (aN 0) (aT 0) (aJ 0) (aE 0) (aF 0) aP U d, ul_wL cI aL L, ul_wK cI aD D, ul_wK cI aK K, ul_wS cI aN (aK 0) u2.2, ul_wS cI aT (aK 0) T, ul_wJ cO aJ aB u1.1, ul_wE cI aE E, ul_wG cI aF (aK 0) (aN 0) (aT 0) F, ul_wB cI aP (aK 0) 2 P, ul_wB cI aB (aK 0) 14 u1.2]) [0, 1, 2, 5, 6, 7, 8, 9, 10, 4, 3] (by show List.Perm _ (List.range 11); decide) (by simp only [List.map_cons, List.map_nil, List.getD_cons_zero, List.getD_cons_succ, List.flatten_cons, List.flatten_nil, List.append_nil, List.nil_append, List.append_assoc])).symm
  obtain ⟨hP, hD, hS⟩ := hw
  have hP : va_P (dC, dI) classes ([ul_wU cZ cO aU (aL 0) (aD 0) (aK 0) (aN 0) (aT 0) (aJ 0) (aE 0) (aF 0) aP U d, ul_wL cI aL L, ul_wK cI aD D, ul_wK cI aK K, ul_wS cI aN (aK 0) u2.2, ul_wS cI aT (aK 0) T, ul_wJ cO aJ aB u1.1, ul_wE cI aE E, ul_wG cI aF (aK 0) (aN 0) (aT 0) F, ul_wB cI aP (aK 0) 2 P, ul_wB cI aB (aK 0) 14 u1.2] : List va_W).flatten H := hP
  have hD : va_D A ([ul_wU cZ cO aU (aL 0) (aD 0) (aK 0) (aN 0) (aT 0) (aJ 0) (aE 0) (aF 0) aP U d, ul_wL cI aL L, ul_wK cI aD D, ul_wK cI aK K, ul_wS cI aN (aK 0) u2.2, ul_wS cI aT (aK 0) T, ul_wJ cO aJ aB u1.1, ul_wE cI aE E, ul_wG cI aF (aK 0) (aN 0) (aT 0) F, ul_wB cI aP (aK 0) 2 P, ul_wB cI aB (aK 0) 14 u1.2] : List va_W).flatten := hD
  have hr9 := hK0 (u2.1, u2.2, u1.1, u1.2) h
  subst hr9
  exact W.iret (v := u2.1) hx hb hr (fun t ht hW => ⟨⟨u2.1, (), rfl, rfl, by rw [ht]; exact hP, va_K.moved hW.alike hK, hD⟩, hS.F ht⟩) hS.2.2 dX6_day_20
def f_X6_move (K : ul_S) (N : ul_S) (J : ul_S) (B : ul_F) (p1 : Int32) (p2 : Int32) : Option (Int32 × ul_S × ul_S × ul_F) :=
  (f_X6_isLadder K p1).bind fun u1 => if u1 = 0 then (some ((-1 : Int32), N, J, B)) else ((f_X6_isPlace p2).bind fun u3 => if u3 = 0 then (some ((-1 : Int32), N, J, B)) else ((f_X4_isFree N p2).bind fun u5 => if u5 = 0 then (some ((-3 : Int32), N, J, B)) else ((f_X0_remember J N B).bind fun u7 => ul_ld (N 1) 4 p1 fun v8 => (f_X4_put N p1 p2).bind fun u10 => some (v8, u10, u7.1, u7.2))))
set_option maxHeartbeats 4000000 in
set_option maxRecDepth 100000 in
theorem c_X6_move (l : Launch) (dC : Nat → ClassId) (dI : Nat → Nat → Nat) (cI : ClassId) (cZ : ClassId) (cO : ClassId) (aU : Nat → Nat) (aL : Nat → Nat) (aD : Nat → Nat) (aK : Nat → Nat) (aN : Nat → Nat) (aT : Nat → Nat) (aJ : Nat → Nat) (aE : Nat → Nat) (aF : Nat → Nat) (aP : Nat → Nat → Nat) (aB : Nat → Nat → Nat) (sz : Nat) (U : ul_S) (d : Int64) (L : ul_S) (D : ul_S) (K : ul_S) (N : ul_S) (T : ul_S) (J : ul_S) (E : ul_S) (F : ul_S) (P : ul_F) (B : ul_F) (p1 : Int32) (p2 : Int32) (r : (Int32 × ul_S × ul_S × ul_F)) (h : f_X6_move K N J B p1 p2 = some r) : Met l yX6_move wsX6_move ({ frames := 3, cells := 0, slots := 0, locals := 82 }) (va_Pc [.ref (aU 0), .int p1, .int p2] (ul_pre (dC, dI) [(cI, .int), (cZ, .boolean), (cO, .object RX4)] ul_NX sz ([ul_wU cZ cO aU (aL 0) (aD 0) (aK 0) (aN 0) (aT 0) (aJ 0) (aE 0) (aF 0) aP U d, ul_wL cI aL L, ul_wK cI aD D, ul_wK cI aK K, ul_wS cI aN (aK 0) N, ul_wS cI aT (aK 0) T, ul_wJ cO aJ aB J, ul_wE cI aE E, ul_wG cI aF (aK 0) (aN 0) (aT 0) F, ul_wB cI aP (aK 0) 2 P, ul_wB cI aB (aK 0) 14 B] : List va_W).flatten)) (va_Qi (fun v (_ : Unit) => v = r.1) (fun _ => ul_post (dC, dI) [(cI, .int), (cZ, .boolean), (cO, .object RX4)] (va_A ([ul_wU cZ cO aU (aL 0) (aD 0) (aK 0) (aN 0) (aT 0) (aJ 0) (aE 0) (aF 0) aP U d, ul_wL cI aL L, ul_wK cI aD D, ul_wK cI aK K, ul_wS cI aN (aK 0) N, ul_wS cI aT (aK 0) T, ul_wJ cO aJ aB J, ul_wE cI aE E, ul_wG cI aF (aK 0) (aN 0) (aT 0) F, ul_wB cI aP (aK 0) 2 P, ul_wB cI aB (aK 0) 14 B] : List va_W).flatten sz) ([ul_wU cZ cO aU (aL 0) (aD 0) (aK 0) (aN 0) (aT 0) (aJ 0) (aE 0) (aF 0) aP U d, ul_wL cI aL L, ul_wK cI aD D, ul_wK cI aK K, ul_wS cI aN (aK 0) r.2.1, ul_wS cI aT (aK 0) T, ul_wJ cO aJ aB r.2.2.1, ul_wE cI aE E, ul_wG cI aF (aK 0) (aN 0) (aT 0) F, ul_wB cI aP (aK 0) 2 P, ul_wB cI aB (aK 0) 14 r.2.2.2] : List va_W).flatten) (va_A ([ul_wU cZ cO aU (aL 0) (aD 0) (aK 0) (aN 0) (aT 0) (aJ 0) (aE 0) (aF 0) aP U d, ul_wL cI aL L, ul_wK cI aD D, ul_wK cI aK K, ul_wS cI aN (aK 0) N, ul_wS cI aT (aK 0) T, ul_wJ cO aJ aB J, ul_wE cI aE E, ul_wG cI aF (aK 0) (aN 0) (aT 0) F, ul_wB cI aP (aK 0) 2 P, ul_wB cI aB (aK 0) 14 B] : List va_W).flatten sz)) 0 0 (va_A ([ul_wU cZ cO aU (aL 0) (aD 0) (aK 0) (aN 0) (aT 0) (aJ 0) (aE 0) (aF 0) aP U d, ul_wL cI aL L, ul_wK cI aD D, ul_wK cI aK K, ul_wS cI aN (aK 0) N, ul_wS cI aT (aK 0) T, ul_wJ cO aJ aB J, ul_wE cI aE E, ul_wG cI aF (aK 0) (aN 0) (aT 0) F, ul_wB cI aP (aK 0) 2 P, ul_wB cI aB (aK 0) 14 B] : List va_W).flatten sz) := by
  refine Met.ofW (cc := cX6_move) (maxL := 4) (ret := (some .int)) (by decide) rfl ?_
  intro p e s m args below meth c s₁ BB hml hv
  obtain ⟨rfl, hsz, hP, hK, hD0, hN⟩ := hv
  have hx := BB.exec
  have hb := BB.bytes
  have hr := BB.returns
  have hts := atoms_spec (ws := wsX6_move) BB.pre
  have hown : s.vm.findClass RX6 = some m.cls := findClass_of_methodNamed BB.named
  have hlocks := BB.notSynchronized
  have hin4 : ∀ w ∈ u_ws RX4 TX4 8, w ∈ wsX6_move := by decide +kernel
  have hin6 : ∀ w ∈ u_ws RX6 TX6 11, w ∈ wsX6_move := by decide +kernel
  subst hsz
  have hD := hD0.self (sz := s.heap.size)
  generalize hAe : va_A ([ul_wU cZ cO aU (aL 0) (aD 0) (aK 0) (aN 0) (aT 0) (aJ 0) (aE 0) (aF 0) aP U d, ul_wL cI aL L, ul_wK cI aD D, ul_wK cI aK K, ul_wS cI aN (aK 0) N, ul_wS cI aT (aK 0) T, ul_wJ cO aJ aB J, ul_wE cI aE E, ul_wG cI aF (aK 0) (aN 0) (aT 0) F, ul_wB cI aP (aK 0) 2 P, ul_wB cI aB (aK 0) 14 B] : List va_W).flatten s.heap.size = A at hD hN ⊢
  have hA : ∀ q : Nat, s.heap.size ≤ q → A q := fun q h => by rw [← hAe]; exact Or.inr h
  have hS : va_S A s.heap s.heap [] := va_S.rf
  have hl := lv_entry ([.ref (aU 0), .int p1, .int p2]) (n := 4) (Nat.le_of_ble_eq_true rfl)
  rw [lg_entry_eq]
  generalize (lg_sl ([.ref (aU 0), .int p1, .int p2]) ++ List.replicate (4 - (lg_sl ([.ref (aU 0), .int p1, .int p2])).length) Slot.unset).toArray = ls at hl ⊢
  have hl : lv_has ls 4 [(0, .ref (aU 0)), (1, .int p1), (2, .int p2)] := hl
  obtain ⟨K0, hK0, h⟩ := ul_top h
  unfold f_X6_move at h
  refine ul_gen (fun G gi ge => ?_)
  obtain ⟨H, eH⟩ : ∃ z, z = s.heap := ⟨_, rfl⟩
  obtain ⟨locs, eL⟩ : ∃ z : List Loc, z = [] := ⟨_, rfl⟩
  have hP : va_P (dC, dI) classes ([ul_wU cZ cO aU (aL 0) (aD 0) (aK 0) (aN 0) (aT 0) (aJ 0) (aE 0) (aF 0) aP U d, ul_wL cI aL L, ul_wK cI aD D, ul_wK cI aK K, ul_wS cI aN (aK 0) N, ul_wS cI aT (aK 0) T, ul_wJ cO aJ aB J, ul_wE cI aE E, ul_wG cI aF (aK 0) (aN 0) (aT 0) F, ul_wB cI aP (aK 0) 2 P, ul_wB cI aB (aK 0) 14 B] : List va_W).flatten H := by rw [eH]; exact hP
  have hS : va_S A s.heap H locs := by rw [eH, eL]; exact hS
  rw [← eL]
  refine (show G H locs (F0 m 0 ls []) → G s.heap locs (F0 m 0 ls []) from fun z => by rw [← eH]; exact z) ?_
  refine gi _ _ _ ?_
  refine lv_aload_n hx hb dX6_move_0 rfl (lv_at hl 0 rfl) ?_
  refine lv_iload_n hx hb dX6_move_1 rfl (lv_at hl 1 rfl) ?_
  obtain ⟨u1, hu1, h⟩ := ul_cl_h h
  refine ul_cPi (As := [.int p1]) (rest := []) (wc := ([ul_wU cZ cO aU (aL 0) (aD 0) (aK 0) (aN 0) (aT 0) (aJ 0) (aE 0) (aF 0) aP U d, ul_wL cI aL L, ul_wK cI aD D, ul_wK cI aK K, ul_wS cI aN (aK 0) N, ul_wS cI aT (aK 0) T, ul_wJ cO aJ aB J, ul_wE cI aE E, ul_wG cI aF (aK 0) (aN 0) (aT 0) F, ul_wB cI aP (aK 0) 2 P, ul_wB cI aB (aK 0) 14 B] : List va_W).flatten) (wc' := ([ul_wU cZ cO aU (aL 0) (aD 0) (aK 0) (aN 0) (aT 0) (aJ 0) (aE 0) (aF 0) aP U d, ul_wL cI aL L, ul_wK cI aD D, ul_wK cI aK K, ul_wS cI aN (aK 0) N, ul_wS cI aT (aK 0) T, ul_wJ cO aJ aB J, ul_wE cI aE E, ul_wG cI aF (aK 0) (aN 0) (aT 0) F, ul_wB cI aP (aK 0) 2 P, ul_wB cI aB (aK 0) 14 B] : List va_W).flatten) (wr := ([] : List va_W).flatten) hP hD hS hK hA [0, 1, 2] ul_NX_ok hN (c_X6_isLadder l dC dI cI cZ cO aU aL aD aK aN aT aJ aE aF aP aB H.size U d L D K N T J E F P B p1 u1 hu1) (ul_pmq (bs := [ul_wU cZ cO aU (aL 0) (aD 0) (aK 0) (aN 0) (aT 0) (aJ 0) (aE 0) (aF 0) aP U d, ul_wL cI aL L, ul_wK cI aD D, ul_wK cI aK K, ul_wS cI aN (aK 0) N, ul_wS cI aT (aK 0) T, ul_wJ cO aJ aB J, ul_wE cI aE E, ul_wG cI aF (aK 0) (aN 0) (aT 0) F, ul_wB cI aP (aK 0) 2 P, ul_wB cI aB (aK 0) 14 B]) [0, 1, 2, 3, 4, 5, 6, 7, 8, 9, 10] (by show List.Perm _ (List.range 11); decide) (by simp only [List.map_cons, List.map_nil, List.getD_cons_zero, List.getD_cons_succ, List.flatten_cons, List.flatten_nil, List.append_nil, List.nil_append, List.append_assoc])) rfl ⟨hx, hb, hml, hown, hts⟩ (cwV 1 hts gX6_move_X6_isLadder rfl rfl rfl (by decide +kernel) ⟨Nat.le_of_ble_eq_true rfl, Nat.le_of_ble_eq_true rfl⟩) (va_recv hK hP (ci := 6) (q0 := 0) rfl rfl) rfl hl.1 rfl (Nat.le_of_ble_eq_true rfl) dX6_move_2 (fun H locs hw => ?_)
  have hw := hw.pm (ul_pmq (bs := [ul_wU cZ cO aU (aL 0) (aD 0) (aK 0) (aN 0) (aT 0) (aJ 0) (aE 0) (aF 0) aP U d, ul_wL cI aL L, ul_wK cI aD D, ul_wK cI aK K, ul_wS cI aN (aK 0) N, ul_wS cI aT (aK 0) T, ul_wJ cO aJ aB J, ul_wE cI aE E, ul_wG cI aF (aK 0) (aN 0) (aT 0) F, ul_wB cI aP (aK 0) 2 P, ul_wB cI aB (aK 0) 14 B]) [0, 1, 2, 3, 4, 5, 6, 7, 8, 9, 10] (by show List.Perm _ (List.range 11); decide) (by simp only [List.map_cons, List.map_nil, List.getD_cons_zero, List.getD_cons_succ, List.flatten_cons, List.flatten_nil, List.append_nil, List.nil_append, List.append_assoc])).symm
  obtain ⟨hP, hD, hS⟩ := hw
  have hP : va_P (dC, dI) classes ([ul_wU cZ cO aU (aL 0) (aD 0) (aK 0) (aN 0) (aT 0) (aJ 0) (aE 0) (aF 0) aP U d, ul_wL cI aL L, ul_wK cI aD D, ul_wK cI aK K, ul_wS cI aN (aK 0) N, ul_wS cI aT (aK 0) T, ul_wJ cO aJ aB J, ul_wE cI aE E, ul_wG cI aF (aK 0) (aN 0) (aT 0) F, ul_wB cI aP (aK 0) 2 P, ul_wB cI aB (aK 0) 14 B] : List va_W).flatten H := hP
  have hD : va_D A ([ul_wU cZ cO aU (aL 0) (aD 0) (aK 0) (aN 0) (aT 0) (aJ 0) (aE 0) (aF 0) aP U d, ul_wL cI aL L, ul_wK cI aD D, ul_wK cI aK K, ul_wS cI aN (aK 0) N, ul_wS cI aT (aK 0) T, ul_wJ cO aJ aB J, ul_wE cI aE E, ul_wG cI aF (aK 0) (aN 0) (aT 0) F, ul_wB cI aP (aK 0) 2 P, ul_wB cI aB (aK 0) 14 B] : List va_W).flatten := hD
  refine lv_if_eq (tgt := 15) hx hb dX6_move_5 (by decide) (fun hc2 => ?_) (fun hc2 => ?_)
  · have h := ul_if_t hc2 h
    refine lv_iconst (v := -1) hx hb dX6_move_15 (by decide) ?_
    have hr9 := hK0 ((-1 : Int32), N, J, B) h
    subst hr9
    exact W.iret (v := (-1 : Int32)) hx hb hr (fun t ht hW => ⟨⟨(-1 : Int32), (), rfl, rfl, by rw [ht]; exact hP, va_K.moved hW.alike hK, hD⟩, hS.F ht⟩) hS.2.2 dX6_move_16
  · have h := ul_if_f hc2 h
    refine lv_iload_n hx hb dX6_move_8 rfl (lv_at hl 2 rfl) ?_
    obtain ⟨u3, hu3, h⟩ := ul_cl_h h
    refine ul_cSi (As := [.int p2]) (rest := []) hP hD hS hK hA (c_X6_isPlace l dC dI H.size p2 u3 hu3) ⟨hx, hb, hml, hown, hts⟩ (cwS 1 hts gX6_move_X6_isPlace rfl rfl rfl (by decide +kernel) ⟨Nat.le_of_ble_eq_true rfl, Nat.le_of_ble_eq_true rfl⟩) rfl hl.1 rfl (Nat.le_of_ble_eq_true rfl) dX6_move_9 (fun H locs hw => ?_)
    obtain ⟨hP, hD, hS⟩ := hw
    refine lv_if_ne (tgt := 17) hx hb dX6_move_12 (by decide) (fun hc4 => ?_) (fun hc4 => ?_)
    · have h := ul_if_f hc4 h
      refine lv_aload_n hx hb dX6_move_17 rfl (lv_at hl 0 rfl) ?_
      refine va_get (D := (dC, dI)) (ci := 6) (v := .ref (aN 0)) (C := RX6) (T := TX6) (N := 11) hx hb hts hin6 hown hK hP 0 rfl rfl 3 (by decide) (hts (.fieldLink RX6 31 "UnderLadders" "now" "LUnderLadders$Street;") (by decide +kernel)) (fun _ h9 => h9) rfl dX6_move_18 ?_
      refine lv_iload_n hx hb dX6_move_21 rfl (lv_at hl 2 rfl) ?_
      obtain ⟨u5, hu5, h⟩ := ul_cl_h h
      refine ul_cPi (As := [.int p2]) (rest := []) (wc := (ul_wS cI aN (aK 0) N ++ ul_wK cI aK K)) (wc' := (ul_wS cI aN (aK 0) N ++ ul_wK cI aK K)) (wr := ([ul_wU cZ cO aU (aL 0) (aD 0) (aK 0) (aN 0) (aT 0) (aJ 0) (aE 0) (aF 0) aP U d, ul_wL cI aL L, ul_wK cI aD D, ul_wS cI aT (aK 0) T, ul_wJ cO aJ aB J, ul_wE cI aE E, ul_wG cI aF (aK 0) (aN 0) (aT 0) F, ul_wB cI aP (aK 0) 2 P, ul_wB cI aB (aK 0) 14 B] : List va_W).flatten) hP hD hS hK hA [0] ul_NX_ok hN (c_X4_isFree l dC dI cI aN aK H.size N K p2 u5 hu5) (ul_pmq (bs := [ul_wU cZ cO aU (aL 0) (aD 0) (aK 0) (aN 0) (aT 0) (aJ 0) (aE 0) (aF 0) aP U d, ul_wL cI aL L, ul_wK cI aD D, ul_wK cI aK K, ul_wS cI aN (aK 0) N, ul_wS cI aT (aK 0) T, ul_wJ cO aJ aB J, ul_wE cI aE E, ul_wG cI aF (aK 0) (aN 0) (aT 0) F, ul_wB cI aP (aK 0) 2 P, ul_wB cI aB (aK 0) 14 B]) [4, 3, 0, 1, 2, 5, 6, 7, 8, 9, 10] (by show List.Perm _ (List.range 11); decide) (by simp only [List.map_cons, List.map_nil, List.getD_cons_zero, List.getD_cons_succ, List.flatten_cons, List.flatten_nil, List.append_nil, List.nil_append, List.append_assoc])) rfl ⟨hx, hb, hml, hown, hts⟩ (cwV 1 hts gX6_move_X4_isFree rfl rfl rfl (by decide +kernel) ⟨Nat.le_of_ble_eq_true rfl, Nat.le_of_ble_eq_true rfl⟩) (va_recv hK hP (ci := 4) (q0 := 21) rfl rfl) rfl hl.1 rfl (Nat.le_of_ble_eq_true rfl) dX6_move_22 (fun H locs hw => ?_)
      have hw := hw.pm (ul_pmq (bs := [ul_wU cZ cO aU (aL 0) (aD 0) (aK 0) (aN 0) (aT 0) (aJ 0) (aE 0) (aF 0) aP U d, ul_wL cI aL L, ul_wK cI aD D, ul_wK cI aK K, ul_wS cI aN (aK 0) N, ul_wS cI aT (aK 0) T, ul_wJ cO aJ aB J, ul_wE cI aE E, ul_wG cI aF (aK 0) (aN 0) (aT 0) F, ul_wB cI aP (aK 0) 2 P, ul_wB cI aB (aK 0) 14 B]) [0, 1, 2, 5, 6, 7, 8, 9, 10, 4, 3] (by show List.Perm _ (List.range 11); decide) (by simp only [List.map_cons, List.map_nil, List.getD_cons_zero, List.getD_cons_succ, List.flatten_cons, List.flatten_nil, List.append_nil, List.nil_append, List.append_assoc])).symm
      obtain ⟨hP, hD, hS⟩ := hw
      have hP : va_P (dC, dI) classes ([ul_wU cZ cO aU (aL 0) (aD 0) (aK 0) (aN 0) (aT 0) (aJ 0) (aE 0) (aF 0) aP U d, ul_wL cI aL L, ul_wK cI aD D, ul_wK cI aK K, ul_wS cI aN (aK 0) N, ul_wS cI aT (aK 0) T, ul_wJ cO aJ aB J, ul_wE cI aE E, ul_wG cI aF (aK 0) (aN 0) (aT 0) F, ul_wB cI aP (aK 0) 2 P, ul_wB cI aB (aK 0) 14 B] : List va_W).flatten H := hP
      have hD : va_D A ([ul_wU cZ cO aU (aL 0) (aD 0) (aK 0) (aN 0) (aT 0) (aJ 0) (aE 0) (aF 0) aP U d, ul_wL cI aL L, ul_wK cI aD D, ul_wK cI aK K, ul_wS cI aN (aK 0) N, ul_wS cI aT (aK 0) T, ul_wJ cO aJ aB J, ul_wE cI aE E, ul_wG cI aF (aK 0) (aN 0) (aT 0) F, ul_wB cI aP (aK 0) 2 P, ul_wB cI aB (aK 0) 14 B] : List va_W).flatten := hD
      refine lv_if_ne (tgt := 31) hx hb dX6_move_25 (by decide) (fun hc6 => ?_) (fun hc6 => ?_)
      · have h := ul_if_f hc6 h
        refine lv_aload_n hx hb dX6_move_31 rfl (lv_at hl 0 rfl) ?_
        refine va_get (D := (dC, dI)) (ci := 6) (v := .ref (aJ 0)) (C := RX6) (T := TX6) (N := 11) hx hb hts hin6 hown hK hP 0 rfl rfl 5 (by decide) (hts (.fieldLink RX6 41 "UnderLadders" "acts" "LUnderLadders$Acts;") (by decide +kernel)) (fun _ h9 => h9) rfl dX6_move_32 ?_
        refine lv_aload_n hx hb dX6_move_35 rfl (lv_at hl 0 rfl) ?_
        refine va_get (D := (dC, dI)) (ci := 6) (v := .ref (aN 0)) (C := RX6) (T := TX6) (N := 11) hx hb hts hin6 hown hK hP 0 rfl rfl 3 (by decide) (hts (.fieldLink RX6 31 "UnderLadders" "now" "LUnderLadders$Street;") (by decide +kernel)) (fun _ h9 => h9) rfl dX6_move_36 ?_
        obtain ⟨u7, hu7, h⟩ := ul_cl_h h
        refine ul_cPv (As := [.ref (aN 0)]) (rest := []) (wc := ([ul_wJ cO aJ aB J, ul_wS cI aN (aK 0) N, ul_wB cI aB (aK 0) 14 B] : List va_W).flatten) (wc' := ([ul_wJ cO aJ aB u7.1, ul_wS cI aN (aK 0) N, ul_wB cI aB (aK 0) 14 u7.2] : List va_W).flatten) (wr := ([ul_wU cZ cO aU (aL 0) (aD 0) (aK 0) (aN 0) (aT 0) (aJ 0) (aE 0) (aF 0) aP U d, ul_wL cI aL L, ul_wK cI aD D, ul_wK cI aK K, ul_wS cI aT (aK 0) T, ul_wE cI aE E, ul_wG cI aF (aK 0) (aN 0) (aT 0) F, ul_wB cI aP (aK 0) 2 P] : List va_W).flatten) hP hD hS hK hA [0, 2] ul_NX_ok hN (c_X0_remember l dC dI cI cO aJ aN aB aK H.size J N B u7 hu7) (ul_pmq (bs := [ul_wU cZ cO aU (aL 0) (aD 0) (aK 0) (aN 0) (aT 0) (aJ 0) (aE 0) (aF 0) aP U d, ul_wL cI aL L, ul_wK cI aD D, ul_wK cI aK K, ul_wS cI aN (aK 0) N, ul_wS cI aT (aK 0) T, ul_wJ cO aJ aB J, ul_wE cI aE E, ul_wG cI aF (aK 0) (aN 0) (aT 0) F, ul_wB cI aP (aK 0) 2 P, ul_wB cI aB (aK 0) 14 B]) [6, 4, 10, 0, 1, 2, 3, 5, 7, 8, 9] (by show List.Perm _ (List.range 11); decide) (by simp only [List.map_cons, List.map_nil, List.getD_cons_zero, List.getD_cons_succ, List.flatten_cons, List.flatten_nil, List.append_nil, List.nil_append, List.append_assoc])) rfl ⟨hx, hb, hml, hown, hts⟩ (cwV 1 hts gX6_move_X0_remember rfl rfl rfl (by decide +kernel) ⟨Nat.le_of_ble_eq_true rfl, Nat.le_of_ble_eq_true rfl⟩) (va_recv hK hP (ci := 0) (q0 := 35) rfl rfl) rfl hl.1 rfl (Nat.le_of_ble_eq_true rfl) dX6_move_39 (fun H locs hw => ?_)
        have hw := hw.pm (ul_pmq (bs := [ul_wU cZ cO aU (aL 0) (aD 0) (aK 0) (aN 0) (aT 0) (aJ 0) (aE 0) (aF 0) aP U d, ul_wL cI aL L, ul_wK cI aD D, ul_wK cI aK K, ul_wS cI aN (aK 0) N, ul_wS cI aT (aK 0) T, ul_wJ cO aJ aB u7.1, ul_wE cI aE E, ul_wG cI aF (aK 0) (aN 0) (aT 0) F, ul_wB cI aP (aK 0) 2 P, ul_wB cI aB (aK 0) 14 u7.2]) [0, 1, 2, 3, 5, 7, 8, 9, 6, 4, 10] (by show List.Perm _ (List.range 11); decide) (by simp only [List.map_cons, List.map_nil, List.getD_cons_zero, List.getD_cons_succ, List.flatten_cons, List.flatten_nil, List.append_nil, List.nil_append, List.append_assoc])).symm
        obtain ⟨hP, hD, hS⟩ := hw
        have hP : va_P (dC, dI) classes ([ul_wU cZ cO aU (aL 0) (aD 0) (aK 0) (aN 0) (aT 0) (aJ 0) (aE 0) (aF 0) aP U d, ul_wL cI aL L, ul_wK cI aD D, ul_wK cI aK K, ul_wS cI aN (aK 0) N, ul_wS cI aT (aK 0) T, ul_wJ cO aJ aB u7.1, ul_wE cI aE E, ul_wG cI aF (aK 0) (aN 0) (aT 0) F, ul_wB cI aP (aK 0) 2 P, ul_wB cI aB (aK 0) 14 u7.2] : List va_W).flatten H := hP
        have hD : va_D A ([ul_wU cZ cO aU (aL 0) (aD 0) (aK 0) (aN 0) (aT 0) (aJ 0) (aE 0) (aF 0) aP U d, ul_wL cI aL L, ul_wK cI aD D, ul_wK cI aK K, ul_wS cI aN (aK 0) N, ul_wS cI aT (aK 0) T, ul_wJ cO aJ aB u7.1, ul_wE cI aE E, ul_wG cI aF (aK 0) (aN 0) (aT 0) F, ul_wB cI aP (aK 0) 2 P, ul_wB cI aB (aK 0) 14 u7.2] : List va_W).flatten := hD
        refine lv_aload_n hx hb dX6_move_42 rfl (lv_at hl 0 rfl) ?_
        refine va_get (D := (dC, dI)) (ci := 6) (v := .ref (aN 0)) (C := RX6) (T := TX6) (N := 11) hx hb hts hin6 hown hK hP 0 rfl rfl 3 (by decide) (hts (.fieldLink RX6 31 "UnderLadders" "now" "LUnderLadders$Street;") (by decide +kernel)) (fun _ h9 => h9) rfl dX6_move_43 ?_
        refine va_getN (D := (dC, dI)) (ci := 4) (v := .ref (aN 1)) (C := RX4) (T := TX4) (N := 8) hx hb hts hin4 hown hK hP 21 rfl rfl 1 (by decide) (va_Nw.use rfl (hN.1 (RX6, 97, "UnderLadders$Street", "stand", "[I") (by decide +kernel))) (fun _ h9 => h9) rfl dX6_move_46 ?_
        refine lv_iload_n hx hb dX6_move_49 rfl (lv_at hl 1 rfl) ?_
        obtain ⟨hi9, h⟩ := ul_ld_h h
        refine va_iald hx hb hK hP 22 0 rfl rfl hi9 dX6_move_50 ?_
        refine lv_topi (fun v8 ev8 => ?_)
        have h := h v8 ev8
        refine lv_istore_n (lv' := [(3, .int v8), (0, .ref (aU 0)), (1, .int p1), (2, .int p2)]) hx hb dX6_move_51 rfl hl (by decide) rfl (fun ls hl => ?_)
        refine lv_aload_n hx hb dX6_move_52 rfl (lv_at hl 1 rfl) ?_
        refine va_get (D := (dC, dI)) (ci := 6) (v := .ref (aN 0)) (C := RX6) (T := TX6) (N := 11) hx hb hts hin6 hown hK hP 0 rfl rfl 3 (by decide) (hts (.fieldLink RX6 31 "UnderLadders" "now" "LUnderLadders$Street;") (by decide +kernel)) (fun _ h9 => h9) rfl dX6_move_53 ?_
        refine lv_iload_n hx hb dX6_move_56 rfl (lv_at hl 2 rfl) ?_
        refine lv_iload_n hx hb dX6_move_57 rfl (lv_at hl 3 rfl) ?_
        obtain ⟨u10, hu10, h⟩ := ul_cl_h h
        refine ul_cPv (As := [.int p1, .int p2]) (rest := []) (wc := (ul_wS cI aN (aK 0) N ++ ul_wK cI aK K)) (wc' := (ul_wS cI aN (aK 0) u10 ++ ul_wK cI aK K)) (wr := ([ul_wU cZ cO aU (aL 0) (aD 0) (aK 0) (aN 0) (aT 0) (aJ 0) (aE 0) (aF 0) aP U d, ul_wL cI aL L, ul_wK cI aD D, ul_wS cI aT (aK 0) T, ul_wJ cO aJ aB u7.1, ul_wE cI aE E, ul_wG cI aF (aK 0) (aN 0) (aT 0) F, ul_wB cI aP (aK 0) 2 P, ul_wB cI aB (aK 0) 14 u7.2] : List va_W).flatten) hP hD hS hK hA [0] ul_NX_ok hN (c_X4_put l dC dI cI aN aK H.size N K p1 p2 u10 hu10) (ul_pmq (bs := [ul_wU cZ cO aU (aL 0) (aD 0) (aK 0) (aN 0) (aT 0) (aJ 0) (aE 0) (aF 0) aP U d, ul_wL cI aL L, ul_wK cI aD D, ul_wK cI aK K, ul_wS cI aN (aK 0) N, ul_wS cI aT (aK 0) T, ul_wJ cO aJ aB u7.1, ul_wE cI aE E, ul_wG cI aF (aK 0) (aN 0) (aT 0) F, ul_wB cI aP (aK 0) 2 P, ul_wB cI aB (aK 0) 14 u7.2]) [4, 3, 0, 1, 2, 5, 6, 7, 8, 9, 10] (by show List.Perm _ (List.range 11); decide) (by simp only [List.map_cons, List.map_nil, List.getD_cons_zero, List.getD_cons_succ, List.flatten_cons, List.flatten_nil, List.append_nil, List.nil_append, List.append_assoc])) rfl ⟨hx, hb, hml, hown, hts⟩ (cwV 2 hts gX6_move_X4_put rfl rfl rfl (by decide +kernel) ⟨Nat.le_of_ble_eq_true rfl, Nat.le_of_ble_eq_true rfl⟩) (va_recv hK hP (ci := 4) (q0 := 21) rfl rfl) rfl hl.1 rfl (Nat.le_of_ble_eq_true rfl) dX6_move_58 (fun H locs hw => ?_)
        have hw := hw.pm (ul_pmq (bs := [ul_wU cZ cO aU (aL 0) (aD 0) (aK 0) (aN 0) (aT 0) (aJ 0) (aE 0) (aF 0) aP U d, ul_wL cI aL L, ul_wK cI aD D, ul_wK cI aK K, ul_wS cI aN (aK 0) u10, ul_wS cI aT (aK 0) T, ul_wJ cO aJ aB u7.1, ul_wE cI aE E, ul_wG cI aF (aK 0) (aN 0) (aT 0) F, ul_wB cI aP (aK 0) 2 P, ul_wB cI aB (aK 0) 14 u7.2]) [0, 1, 2, 5, 6, 7, 8, 9, 10, 4, 3] (by show List.Perm _ (List.range 11); decide) (by simp only [List.map_cons, List.map_nil, List.getD_cons_zero, List.getD_cons_succ, List.flatten_cons, List.flatten_nil, List.append_nil, List.nil_append, List.append_assoc])).symm
        obtain ⟨hP, hD, hS⟩ := hw
        have hP : va_P (dC, dI) classes ([ul_wU cZ cO aU (aL 0) (aD 0) (aK 0) (aN 0) (aT 0) (aJ 0) (aE 0) (aF 0) aP U d, ul_wL cI aL L, ul_wK cI aD D, ul_wK cI aK K, ul_wS cI aN (aK 0) u10, ul_wS cI aT (aK 0) T, ul_wJ cO aJ aB u7.1, ul_wE cI aE E, ul_wG cI aF (aK 0) (aN 0) (aT 0) F, ul_wB cI aP (aK 0) 2 P, ul_wB cI aB (aK 0) 14 u7.2] : List va_W).flatten H := hP
        have hD : va_D A ([ul_wU cZ cO aU (aL 0) (aD 0) (aK 0) (aN 0) (aT 0) (aJ 0) (aE 0) (aF 0) aP U d, ul_wL cI aL L, ul_wK cI aD D, ul_wK cI aK K, ul_wS cI aN (aK 0) u10, ul_wS cI aT (aK 0) T, ul_wJ cO aJ aB u7.1, ul_wE cI aE E, ul_wG cI aF (aK 0) (aN 0) (aT 0) F, ul_wB cI aP (aK 0) 2 P, ul_wB cI aB (aK 0) 14 u7.2] : List va_W).flatten := hD
        refine lv_iload_n hx hb dX6_move_61 rfl (lv_at hl 0 rfl) ?_
        have hr9 := hK0 (v8, u10, u7.1, u7.2) h
        subst hr9
        exact W.iret (v := v8) hx hb hr (fun t ht hW => ⟨⟨v8, (), rfl, rfl, by rw [ht]; exact hP, va_K.moved hW.alike hK, hD⟩, hS.F ht⟩) hS.2.2 dX6_move_62
      · have h := ul_if_t hc6 h
        refine lv_bipush (v := -3) hx hb dX6_move_28 (by decide) ?_
        have hr9 := hK0 ((-3 : Int32), N, J, B) h
        subst hr9
        exact W.iret (v := (-3 : Int32)) hx hb hr (fun t ht hW => ⟨⟨(-3 : Int32), (), rfl, rfl, by rw [ht]; exact hP, va_K.moved hW.alike hK, hD⟩, hS.F ht⟩) hS.2.2 dX6_move_30
    · have h := ul_if_t hc4 h
      refine lv_iconst (v := -1) hx hb dX6_move_15 (by decide) ?_
      have hr9 := hK0 ((-1 : Int32), N, J, B) h
      subst hr9
      exact W.iret (v := (-1 : Int32)) hx hb hr (fun t ht hW => ⟨⟨(-1 : Int32), (), rfl, rfl, by rw [ht]; exact hP, va_K.moved hW.alike hK, hD⟩, hS.F ht⟩) hS.2.2 dX6_move_16
def f_X6_down (K : ul_S) (N : ul_S) (J : ul_S) (B : ul_F) (p1 : Int32) : Option (Int32 × ul_S × ul_S × ul_F) :=
  (f_X6_isLadder K p1).bind fun u1 => if u1 = 0 then (some ((-1 : Int32), N, J, B)) else ((f_X0_remember J N B).bind fun u3 => ul_ld (N 4) 4 p1 fun v4 => (f_X4_changeMan N p1).bind fun u6 => some (v4, u6, u3.1, u3.2))
set_option maxHeartbeats 4000000 in
set_option maxRecDepth 100000 in
theorem c_X6_down (l : Launch) (dC : Nat → ClassId) (dI : Nat → Nat → Nat) (cI : ClassId) (cZ : ClassId) (cO : ClassId) (aU : Nat → Nat) (aL : Nat → Nat) (aD : Nat → Nat) (aK : Nat → Nat) (aN : Nat → Nat) (aT : Nat → Nat) (aJ : Nat → Nat) (aE : Nat → Nat) (aF : Nat → Nat) (aP : Nat → Nat → Nat) (aB : Nat → Nat → Nat) (sz : Nat) (U : ul_S) (d : Int64) (L : ul_S) (D : ul_S) (K : ul_S) (N : ul_S) (T : ul_S) (J : ul_S) (E : ul_S) (F : ul_S) (P : ul_F) (B : ul_F) (p1 : Int32) (r : (Int32 × ul_S × ul_S × ul_F)) (h : f_X6_down K N J B p1 = some r) : Met l yX6_down wsX6_down ({ frames := 3, cells := 0, slots := 0, locals := 82 }) (va_Pc [.ref (aU 0), .int p1] (ul_pre (dC, dI) [(cI, .int), (cZ, .boolean), (cO, .object RX4)] ul_NX sz ([ul_wU cZ cO aU (aL 0) (aD 0) (aK 0) (aN 0) (aT 0) (aJ 0) (aE 0) (aF 0) aP U d, ul_wL cI aL L, ul_wK cI aD D, ul_wK cI aK K, ul_wS cI aN (aK 0) N, ul_wS cI aT (aK 0) T, ul_wJ cO aJ aB J, ul_wE cI aE E, ul_wG cI aF (aK 0) (aN 0) (aT 0) F, ul_wB cI aP (aK 0) 2 P, ul_wB cI aB (aK 0) 14 B] : List va_W).flatten)) (va_Qi (fun v (_ : Unit) => v = r.1) (fun _ => ul_post (dC, dI) [(cI, .int), (cZ, .boolean), (cO, .object RX4)] (va_A ([ul_wU cZ cO aU (aL 0) (aD 0) (aK 0) (aN 0) (aT 0) (aJ 0) (aE 0) (aF 0) aP U d, ul_wL cI aL L, ul_wK cI aD D, ul_wK cI aK K, ul_wS cI aN (aK 0) N, ul_wS cI aT (aK 0) T, ul_wJ cO aJ aB J, ul_wE cI aE E, ul_wG cI aF (aK 0) (aN 0) (aT 0) F, ul_wB cI aP (aK 0) 2 P, ul_wB cI aB (aK 0) 14 B] : List va_W).flatten sz) ([ul_wU cZ cO aU (aL 0) (aD 0) (aK 0) (aN 0) (aT 0) (aJ 0) (aE 0) (aF 0) aP U d, ul_wL cI aL L, ul_wK cI aD D, ul_wK cI aK K, ul_wS cI aN (aK 0) r.2.1, ul_wS cI aT (aK 0) T, ul_wJ cO aJ aB r.2.2.1, ul_wE cI aE E, ul_wG cI aF (aK 0) (aN 0) (aT 0) F, ul_wB cI aP (aK 0) 2 P, ul_wB cI aB (aK 0) 14 r.2.2.2] : List va_W).flatten) (va_A ([ul_wU cZ cO aU (aL 0) (aD 0) (aK 0) (aN 0) (aT 0) (aJ 0) (aE 0) (aF 0) aP U d, ul_wL cI aL L, ul_wK cI aD D, ul_wK cI aK K, ul_wS cI aN (aK 0) N, ul_wS cI aT (aK 0) T, ul_wJ cO aJ aB J, ul_wE cI aE E, ul_wG cI aF (aK 0) (aN 0) (aT 0) F, ul_wB cI aP (aK 0) 2 P, ul_wB cI aB (aK 0) 14 B] : List va_W).flatten sz)) 0 0 (va_A ([ul_wU cZ cO aU (aL 0) (aD 0) (aK 0) (aN 0) (aT 0) (aJ 0) (aE 0) (aF 0) aP U d, ul_wL cI aL L, ul_wK cI aD D, ul_wK cI aK K, ul_wS cI aN (aK 0) N, ul_wS cI aT (aK 0) T, ul_wJ cO aJ aB J, ul_wE cI aE E, ul_wG cI aF (aK 0) (aN 0) (aT 0) F, ul_wB cI aP (aK 0) 2 P, ul_wB cI aB (aK 0) 14 B] : List va_W).flatten sz) := by
  refine Met.ofW (cc := cX6_down) (maxL := 3) (ret := (some .int)) (by decide) rfl ?_
  intro p e s m args below meth c s₁ BB hml hv
  obtain ⟨rfl, hsz, hP, hK, hD0, hN⟩ := hv
  have hx := BB.exec
  have hb := BB.bytes
  have hr := BB.returns
  have hts := atoms_spec (ws := wsX6_down) BB.pre
  have hown : s.vm.findClass RX6 = some m.cls := findClass_of_methodNamed BB.named
  have hlocks := BB.notSynchronized
  have hin4 : ∀ w ∈ u_ws RX4 TX4 8, w ∈ wsX6_down := by decide +kernel
  have hin6 : ∀ w ∈ u_ws RX6 TX6 11, w ∈ wsX6_down := by decide +kernel
  subst hsz
  have hD := hD0.self (sz := s.heap.size)
  generalize hAe : va_A ([ul_wU cZ cO aU (aL 0) (aD 0) (aK 0) (aN 0) (aT 0) (aJ 0) (aE 0) (aF 0) aP U d, ul_wL cI aL L, ul_wK cI aD D, ul_wK cI aK K, ul_wS cI aN (aK 0) N, ul_wS cI aT (aK 0) T, ul_wJ cO aJ aB J, ul_wE cI aE E, ul_wG cI aF (aK 0) (aN 0) (aT 0) F, ul_wB cI aP (aK 0) 2 P, ul_wB cI aB (aK 0) 14 B] : List va_W).flatten s.heap.size = A at hD hN ⊢
  have hA : ∀ q : Nat, s.heap.size ≤ q → A q := fun q h => by rw [← hAe]; exact Or.inr h
  have hS : va_S A s.heap s.heap [] := va_S.rf
  have hl := lv_entry ([.ref (aU 0), .int p1]) (n := 3) (Nat.le_of_ble_eq_true rfl)
  rw [lg_entry_eq]
  generalize (lg_sl ([.ref (aU 0), .int p1]) ++ List.replicate (3 - (lg_sl ([.ref (aU 0), .int p1])).length) Slot.unset).toArray = ls at hl ⊢
  have hl : lv_has ls 3 [(0, .ref (aU 0)), (1, .int p1)] := hl
  obtain ⟨K0, hK0, h⟩ := ul_top h
  unfold f_X6_down at h
  refine ul_gen (fun G gi ge => ?_)
  obtain ⟨H, eH⟩ : ∃ z, z = s.heap := ⟨_, rfl⟩
  obtain ⟨locs, eL⟩ : ∃ z : List Loc, z = [] := ⟨_, rfl⟩
  have hP : va_P (dC, dI) classes ([ul_wU cZ cO aU (aL 0) (aD 0) (aK 0) (aN 0) (aT 0) (aJ 0) (aE 0) (aF 0) aP U d, ul_wL cI aL L, ul_wK cI aD D, ul_wK cI aK K, ul_wS cI aN (aK 0) N, ul_wS cI aT (aK 0) T, ul_wJ cO aJ aB J, ul_wE cI aE E, ul_wG cI aF (aK 0) (aN 0) (aT 0) F, ul_wB cI aP (aK 0) 2 P, ul_wB cI aB (aK 0) 14 B] : List va_W).flatten H := by rw [eH]; exact hP
  have hS : va_S A s.heap H locs := by rw [eH, eL]; exact hS
  rw [← eL]
  refine (show G H locs (F0 m 0 ls []) → G s.heap locs (F0 m 0 ls []) from fun z => by rw [← eH]; exact z) ?_
  refine gi _ _ _ ?_
  refine lv_aload_n hx hb dX6_down_0 rfl (lv_at hl 0 rfl) ?_
  refine lv_iload_n hx hb dX6_down_1 rfl (lv_at hl 1 rfl) ?_
  obtain ⟨u1, hu1, h⟩ := ul_cl_h h
  refine ul_cPi (As := [.int p1]) (rest := []) (wc := ([ul_wU cZ cO aU (aL 0) (aD 0) (aK 0) (aN 0) (aT 0) (aJ 0) (aE 0) (aF 0) aP U d, ul_wL cI aL L, ul_wK cI aD D, ul_wK cI aK K, ul_wS cI aN (aK 0) N, ul_wS cI aT (aK 0) T, ul_wJ cO aJ aB J, ul_wE cI aE E, ul_wG cI aF (aK 0) (aN 0) (aT 0) F, ul_wB cI aP (aK 0) 2 P, ul_wB cI aB (aK 0) 14 B] : List va_W).flatten) (wc' := ([ul_wU cZ cO aU (aL 0) (aD 0) (aK 0) (aN 0) (aT 0) (aJ 0) (aE 0) (aF 0) aP U d, ul_wL cI aL L, ul_wK cI aD D, ul_wK cI aK K, ul_wS cI aN (aK 0) N, ul_wS cI aT (aK 0) T, ul_wJ cO aJ aB J, ul_wE cI aE E, ul_wG cI aF (aK 0) (aN 0) (aT 0) F, ul_wB cI aP (aK 0) 2 P, ul_wB cI aB (aK 0) 14 B] : List va_W).flatten) (wr := ([] : List va_W).flatten) hP hD hS hK hA [0, 1, 2] ul_NX_ok hN (c_X6_isLadder l dC dI cI cZ cO aU aL aD aK aN aT aJ aE aF aP aB H.size U d L D K N T J E F P B p1 u1 hu1) (ul_pmq (bs := [ul_wU cZ cO aU (aL 0) (aD 0) (aK 0) (aN 0) (aT 0) (aJ 0) (aE 0) (aF 0) aP U d, ul_wL cI aL L, ul_wK cI aD D, ul_wK cI aK K, ul_wS cI aN (aK 0) N, ul_wS cI aT (aK 0) T, ul_wJ cO aJ aB J, ul_wE cI aE E, ul_wG cI aF (aK 0) (aN 0) (aT 0) F, ul_wB cI aP (aK 0) 2 P, ul_wB cI aB (aK 0) 14 B]) [0, 1, 2, 3, 4, 5, 6, 7, 8, 9, 10] (by show List.Perm _ (List.range 11); decide) (by simp only [List.map_cons, List.map_nil, List.getD_cons_zero, List.getD_cons_succ, List.flatten_cons, List.flatten_nil, List.append_nil, List.nil_append, List.append_assoc])) rfl ⟨hx, hb, hml, hown, hts⟩ (cwV 1 hts gX6_down_X6_isLadder rfl rfl rfl (by decide +kernel) ⟨Nat.le_of_ble_eq_true rfl, Nat.le_of_ble_eq_true rfl⟩) (va_recv hK hP (ci := 6) (q0 := 0) rfl rfl) rfl hl.1 rfl (Nat.le_of_ble_eq_true rfl) dX6_down_2 (fun H locs hw => ?_)
  have hw := hw.pm (ul_pmq (bs := [ul_wU cZ cO aU (aL 0) (aD 0) (aK 0) (aN 0) (aT 0) (aJ 0) (aE 0) (aF 0) aP U d, ul_wL cI aL L, ul_wK cI aD D, ul_wK cI aK K, ul_wS cI aN (aK 0) N, ul_wS cI aT (aK 0) T, ul_wJ cO aJ aB J, ul_wE cI aE E, ul_wG cI aF (aK 0) (aN 0) (aT 0) F, ul_wB cI aP (aK 0) 2 P, ul_wB cI aB (aK 0) 14 B]) [0, 1, 2, 3, 4, 5, 6, 7, 8, 9, 10] (by show List.Perm _ (List.range 11); decide) (by simp only [List.map_cons, List.map_nil, List.getD_cons_zero, List.getD_cons_succ, List.flatten_cons, List.flatten_nil, List.append_nil, List.nil_append, List.append_assoc])).symm
  obtain ⟨hP, hD, hS⟩ := hw
  have hP : va_P (dC, dI) classes ([ul_wU cZ cO aU (aL 0) (aD 0) (aK 0) (aN 0) (aT 0) (aJ 0) (aE 0) (aF 0) aP U d, ul_wL cI aL L, ul_wK cI aD D, ul_wK cI aK K, ul_wS cI aN (aK 0) N, ul_wS cI aT (aK 0) T, ul_wJ cO aJ aB J, ul_wE cI aE E, ul_wG cI aF (aK 0) (aN 0) (aT 0) F, ul_wB cI aP (aK 0) 2 P, ul_wB cI aB (aK 0) 14 B] : List va_W).flatten H := hP
  have hD : va_D A ([ul_wU cZ cO aU (aL 0) (aD 0) (aK 0) (aN 0) (aT 0) (aJ 0) (aE 0) (aF 0) aP U d, ul_wL cI aL L, ul_wK cI aD D, ul_wK cI aK K, ul_wS cI aN (aK 0) N, ul_wS cI aT (aK 0) T, ul_wJ cO aJ aB J, ul_wE cI aE E, ul_wG cI aF (aK 0) (aN 0) (aT 0) F, ul_wB cI aP (aK 0) 2 P, ul_wB cI aB (aK 0) 14 B] : List va_W).flatten := hD
  refine lv_if_ne (tgt := 10) hx hb dX6_down_5 (by decide) (fun hc2 => ?_) (fun hc2 => ?_)
  · have h := ul_if_f hc2 h
    refine lv_aload_n hx hb dX6_down_10 rfl (lv_at hl 0 rfl) ?_
    refine va_get (D := (dC, dI)) (ci := 6) (v := .ref (aJ 0)) (C := RX6) (T := TX6) (N := 11) hx hb hts hin6 hown hK hP 0 rfl rfl 5 (by decide) (hts (.fieldLink RX6 41 "UnderLadders" "acts" "LUnderLadders$Acts;") (by decide +kernel)) (fun _ h9 => h9) rfl dX6_down_11 ?_
    refine lv_aload_n hx hb dX6_down_14 rfl (lv_at hl 0 rfl) ?_
    refine va_get (D := (dC, dI)) (ci := 6) (v := .ref (aN 0)) (C := RX6) (T := TX6) (N := 11) hx hb hts hin6 hown hK hP 0 rfl rfl 3 (by decide) (hts (.fieldLink RX6 31 "UnderLadders" "now" "LUnderLadders$Street;") (by decide +kernel)) (fun _ h9 => h9) rfl dX6_down_15 ?_
    obtain ⟨u3, hu3, h⟩ := ul_cl_h h
    refine ul_cPv (As := [.ref (aN 0)]) (rest := []) (wc := ([ul_wJ cO aJ aB J, ul_wS cI aN (aK 0) N, ul_wB cI aB (aK 0) 14 B] : List va_W).flatten) (wc' := ([ul_wJ cO aJ aB u3.1, ul_wS cI aN (aK 0) N, ul_wB cI aB (aK 0) 14 u3.2] : List va_W).flatten) (wr := ([ul_wU cZ cO aU (aL 0) (aD 0) (aK 0) (aN 0) (aT 0) (aJ 0) (aE 0) (aF 0) aP U d, ul_wL cI aL L, ul_wK cI aD D, ul_wK cI aK K, ul_wS cI aT (aK 0) T, ul_wE cI aE E, ul_wG cI aF (aK 0) (aN 0) (aT 0) F, ul_wB cI aP (aK 0) 2 P] : List va_W).flatten) hP hD hS hK hA [0, 2] ul_NX_ok hN (c_X0_remember l dC dI cI cO aJ aN aB aK H.size J N B u3 hu3) (ul_pmq (bs := [ul_wU cZ cO aU (aL 0) (aD 0) (aK 0) (aN 0) (aT 0) (aJ 0) (aE 0) (aF 0) aP U d, ul_wL cI aL L, ul_wK cI aD D, ul_wK cI aK K, ul_wS cI aN (aK 0) N, ul_wS cI aT (aK 0) T, ul_wJ cO aJ aB J, ul_wE cI aE E, ul_wG cI aF (aK 0) (aN 0) (aT 0) F, ul_wB cI aP (aK 0) 2 P, ul_wB cI aB (aK 0) 14 B]) [6, 4, 10, 0, 1, 2, 3, 5, 7, 8, 9] (by show List.Perm _ (List.range 11); decide) (by simp only [List.map_cons, List.map_nil, List.getD_cons_zero, List.getD_cons_succ, List.flatten_cons, List.flatten_nil, List.append_nil, List.nil_append, List.append_assoc])) rfl ⟨hx, hb, hml, hown, hts⟩ (cwV 1 hts gX6_down_X0_remember rfl rfl rfl (by decide +kernel) ⟨Nat.le_of_ble_eq_true rfl, Nat.le_of_ble_eq_true rfl⟩) (va_recv hK hP (ci := 0) (q0 := 35) rfl rfl) rfl hl.1 rfl (Nat.le_of_ble_eq_true rfl) dX6_down_18 (fun H locs hw => ?_)
    have hw := hw.pm (ul_pmq (bs := [ul_wU cZ cO aU (aL 0) (aD 0) (aK 0) (aN 0) (aT 0) (aJ 0) (aE 0) (aF 0) aP U d, ul_wL cI aL L, ul_wK cI aD D, ul_wK cI aK K, ul_wS cI aN (aK 0) N, ul_wS cI aT (aK 0) T, ul_wJ cO aJ aB u3.1, ul_wE cI aE E, ul_wG cI aF (aK 0) (aN 0) (aT 0) F, ul_wB cI aP (aK 0) 2 P, ul_wB cI aB (aK 0) 14 u3.2]) [0, 1, 2, 3, 5, 7, 8, 9, 6, 4, 10] (by show List.Perm _ (List.range 11); decide) (by simp only [List.map_cons, List.map_nil, List.getD_cons_zero, List.getD_cons_succ, List.flatten_cons, List.flatten_nil, List.append_nil, List.nil_append, List.append_assoc])).symm
    obtain ⟨hP, hD, hS⟩ := hw
    have hP : va_P (dC, dI) classes ([ul_wU cZ cO aU (aL 0) (aD 0) (aK 0) (aN 0) (aT 0) (aJ 0) (aE 0) (aF 0) aP U d, ul_wL cI aL L, ul_wK cI aD D, ul_wK cI aK K, ul_wS cI aN (aK 0) N, ul_wS cI aT (aK 0) T, ul_wJ cO aJ aB u3.1, ul_wE cI aE E, ul_wG cI aF (aK 0) (aN 0) (aT 0) F, ul_wB cI aP (aK 0) 2 P, ul_wB cI aB (aK 0) 14 u3.2] : List va_W).flatten H := hP
    have hD : va_D A ([ul_wU cZ cO aU (aL 0) (aD 0) (aK 0) (aN 0) (aT 0) (aJ 0) (aE 0) (aF 0) aP U d, ul_wL cI aL L, ul_wK cI aD D, ul_wK cI aK K, ul_wS cI aN (aK 0) N, ul_wS cI aT (aK 0) T, ul_wJ cO aJ aB u3.1, ul_wE cI aE E, ul_wG cI aF (aK 0) (aN 0) (aT 0) F, ul_wB cI aP (aK 0) 2 P, ul_wB cI aB (aK 0) 14 u3.2] : List va_W).flatten := hD
    refine lv_aload_n hx hb dX6_down_21 rfl (lv_at hl 0 rfl) ?_
    refine va_get (D := (dC, dI)) (ci := 6) (v := .ref (aN 0)) (C := RX6) (T := TX6) (N := 11) hx hb hts hin6 hown hK hP 0 rfl rfl 3 (by decide) (hts (.fieldLink RX6 31 "UnderLadders" "now" "LUnderLadders$Street;") (by decide +kernel)) (fun _ h9 => h9) rfl dX6_down_22 ?_
    refine va_getN (D := (dC, dI)) (ci := 4) (v := .ref (aN 4)) (C := RX4) (T := TX4) (N := 8) hx hb hts hin4 hown hK hP 21 rfl rfl 4 (by decide) (va_Nw.use rfl (hN.1 (RX6, 110, "UnderLadders$Street", "manGold", "[I") (by decide +kernel))) (fun _ h9 => h9) rfl dX6_down_25 ?_
    refine lv_iload_n hx hb dX6_down_28 rfl (lv_at hl 1 rfl) ?_
    obtain ⟨hi5, h⟩ := ul_ld_h h
    refine va_iald hx hb hK hP 25 0 rfl rfl hi5 dX6_down_29 ?_
    refine lv_topi (fun v4 ev4 => ?_)
    have h := h v4 ev4
    refine lv_istore_n (lv' := [(2, .int v4), (0, .ref (aU 0)), (1, .int p1)]) hx hb dX6_down_30 rfl hl (by decide) rfl (fun ls hl => ?_)
    refine lv_aload_n hx hb dX6_down_31 rfl (lv_at hl 1 rfl) ?_
    refine va_get (D := (dC, dI)) (ci := 6) (v := .ref (aN 0)) (C := RX6) (T := TX6) (N := 11) hx hb hts hin6 hown hK hP 0 rfl rfl 3 (by decide) (hts (.fieldLink RX6 31 "UnderLadders" "now" "LUnderLadders$Street;") (by decide +kernel)) (fun _ h9 => h9) rfl dX6_down_32 ?_
    refine lv_iload_n hx hb dX6_down_35 rfl (lv_at hl 2 rfl) ?_
    obtain ⟨u6, hu6, h⟩ := ul_cl_h h
    refine ul_cPv (As := [.int p1]) (rest := []) (wc := (ul_wS cI aN (aK 0) N ++ ul_wK cI aK K)) (wc' := (ul_wS cI aN (aK 0) u6 ++ ul_wK cI aK K)) (wr := ([ul_wU cZ cO aU (aL 0) (aD 0) (aK 0) (aN 0) (aT 0) (aJ 0) (aE 0) (aF 0) aP U d, ul_wL cI aL L, ul_wK cI aD D, ul_wS cI aT (aK 0) T, ul_wJ cO aJ aB u3.1, ul_wE cI aE E, ul_wG cI aF (aK 0) (aN 0) (aT 0) F, ul_wB cI aP (aK 0) 2 P, ul_wB cI aB (aK 0) 14 u3.2] : List va_W).flatten) hP hD hS hK hA [0] ul_NX_ok hN (c_X4_changeMan l dC dI cI aN aK H.size N K p1 u6 hu6) (ul_pmq (bs := [ul_wU cZ cO aU (aL 0) (aD 0) (aK 0) (aN 0) (aT 0) (aJ 0) (aE 0) (aF 0) aP U d, ul_wL cI aL L, ul_wK cI aD D, ul_wK cI aK K, ul_wS cI aN (aK 0) N, ul_wS cI aT (aK 0) T, ul_wJ cO aJ aB u3.1, ul_wE cI aE E, ul_wG cI aF (aK 0) (aN 0) (aT 0) F, ul_wB cI aP (aK 0) 2 P, ul_wB cI aB (aK 0) 14 u3.2]) [4, 3, 0, 1, 2, 5, 6, 7, 8, 9, 10] (by show List.Perm _ (List.range 11); decide) (by simp only [List.map_cons, List.map_nil, List.getD_cons_zero, List.getD_cons_succ, List.flatten_cons, List.flatten_nil, List.append_nil, List.nil_append, List.append_assoc])) rfl ⟨hx, hb, hml, hown, hts⟩ (cwV 1 hts gX6_down_X4_changeMan rfl rfl rfl (by decide +kernel) ⟨Nat.le_of_ble_eq_true rfl, Nat.le_of_ble_eq_true rfl⟩) (va_recv hK hP (ci := 4) (q0 := 21) rfl rfl) rfl hl.1 rfl (Nat.le_of_ble_eq_true rfl) dX6_down_36 (fun H locs hw => ?_)
    have hw := hw.pm (ul_pmq (bs := [ul_wU cZ cO aU (aL 0) (aD 0) (aK 0) (aN 0) (aT 0) (aJ 0) (aE 0) (aF 0) aP U d, ul_wL cI aL L, ul_wK cI aD D, ul_wK cI aK K, ul_wS cI aN (aK 0) u6, ul_wS cI aT (aK 0) T, ul_wJ cO aJ aB u3.1, ul_wE cI aE E, ul_wG cI aF (aK 0) (aN 0) (aT 0) F, ul_wB cI aP (aK 0) 2 P, ul_wB cI aB (aK 0) 14 u3.2]) [0, 1, 2, 5, 6, 7, 8, 9, 10, 4, 3] (by show List.Perm _ (List.range 11); decide) (by simp only [List.map_cons, List.map_nil, List.getD_cons_zero, List.getD_cons_succ, List.flatten_cons, List.flatten_nil, List.append_nil, List.nil_append, List.append_assoc])).symm
    obtain ⟨hP, hD, hS⟩ := hw
    have hP : va_P (dC, dI) classes ([ul_wU cZ cO aU (aL 0) (aD 0) (aK 0) (aN 0) (aT 0) (aJ 0) (aE 0) (aF 0) aP U d, ul_wL cI aL L, ul_wK cI aD D, ul_wK cI aK K, ul_wS cI aN (aK 0) u6, ul_wS cI aT (aK 0) T, ul_wJ cO aJ aB u3.1, ul_wE cI aE E, ul_wG cI aF (aK 0) (aN 0) (aT 0) F, ul_wB cI aP (aK 0) 2 P, ul_wB cI aB (aK 0) 14 u3.2] : List va_W).flatten H := hP
    have hD : va_D A ([ul_wU cZ cO aU (aL 0) (aD 0) (aK 0) (aN 0) (aT 0) (aJ 0) (aE 0) (aF 0) aP U d, ul_wL cI aL L, ul_wK cI aD D, ul_wK cI aK K, ul_wS cI aN (aK 0) u6, ul_wS cI aT (aK 0) T, ul_wJ cO aJ aB u3.1, ul_wE cI aE E, ul_wG cI aF (aK 0) (aN 0) (aT 0) F, ul_wB cI aP (aK 0) 2 P, ul_wB cI aB (aK 0) 14 u3.2] : List va_W).flatten := hD
    refine lv_iload_n hx hb dX6_down_39 rfl (lv_at hl 0 rfl) ?_
    have hr9 := hK0 (v4, u6, u3.1, u3.2) h
    subst hr9
    exact W.iret (v := v4) hx hb hr (fun t ht hW => ⟨⟨v4, (), rfl, rfl, by rw [ht]; exact hP, va_K.moved hW.alike hK, hD⟩, hS.F ht⟩) hS.2.2 dX6_down_40
  · have h := ul_if_t hc2 h
    refine lv_iconst (v := -1) hx hb dX6_down_8 (by decide) ?_
    have hr9 := hK0 ((-1 : Int32), N, J, B) h
    subst hr9
    exact W.iret (v := (-1 : Int32)) hx hb hr (fun t ht hW => ⟨⟨(-1 : Int32), (), rfl, rfl, by rw [ht]; exact hP, va_K.moved hW.alike hK, hD⟩, hS.F ht⟩) hS.2.2 dX6_down_9
def f_X6_give (K : ul_S) (N : ul_S) (J : ul_S) (B : ul_F) (p1 : Int32) (p2 : Int32) : Option (Int32 × ul_S × ul_S × ul_F) :=
  (f_X6_isPerson K p1).bind fun u1 => if u1 = 0 then (some ((-1 : Int32), N, J, B)) else (if p2 < (1 : Int32) then (some ((-2 : Int32), N, J, B)) else (if p2 ≤ (9 : Int32) then ((f_X0_remember J N B).bind fun u5 => (f_X4_endow N p1 p2).bind fun u6 => ul_ld (u6 6) 5 p1 fun v7 => some (v7, u6, u5.1, u5.2)) else (some ((-2 : Int32), N, J, B))))
set_option maxHeartbeats 4000000 in
set_option maxRecDepth 100000 in
theorem c_X6_give (l : Launch) (dC : Nat → ClassId) (dI : Nat → Nat → Nat) (cI : ClassId) (cZ : ClassId) (cO : ClassId) (aU : Nat → Nat) (aL : Nat → Nat) (aD : Nat → Nat) (aK : Nat → Nat) (aN : Nat → Nat) (aT : Nat → Nat) (aJ : Nat → Nat) (aE : Nat → Nat) (aF : Nat → Nat) (aP : Nat → Nat → Nat) (aB : Nat → Nat → Nat) (sz : Nat) (U : ul_S) (d : Int64) (L : ul_S) (D : ul_S) (K : ul_S) (N : ul_S) (T : ul_S) (J : ul_S) (E : ul_S) (F : ul_S) (P : ul_F) (B : ul_F) (p1 : Int32) (p2 : Int32) (r : (Int32 × ul_S × ul_S × ul_F)) (h : f_X6_give K N J B p1 p2 = some r) : Met l yX6_give wsX6_give ({ frames := 3, cells := 0, slots := 0, locals := 82 }) (va_Pc [.ref (aU 0), .int p1, .int p2] (ul_pre (dC, dI) [(cI, .int), (cZ, .boolean), (cO, .object RX4)] ul_NX sz ([ul_wU cZ cO aU (aL 0) (aD 0) (aK 0) (aN 0) (aT 0) (aJ 0) (aE 0) (aF 0) aP U d, ul_wL cI aL L, ul_wK cI aD D, ul_wK cI aK K, ul_wS cI aN (aK 0) N, ul_wS cI aT (aK 0) T, ul_wJ cO aJ aB J, ul_wE cI aE E, ul_wG cI aF (aK 0) (aN 0) (aT 0) F, ul_wB cI aP (aK 0) 2 P, ul_wB cI aB (aK 0) 14 B] : List va_W).flatten)) (va_Qi (fun v (_ : Unit) => v = r.1) (fun _ => ul_post (dC, dI) [(cI, .int), (cZ, .boolean), (cO, .object RX4)] (va_A ([ul_wU cZ cO aU (aL 0) (aD 0) (aK 0) (aN 0) (aT 0) (aJ 0) (aE 0) (aF 0) aP U d, ul_wL cI aL L, ul_wK cI aD D, ul_wK cI aK K, ul_wS cI aN (aK 0) N, ul_wS cI aT (aK 0) T, ul_wJ cO aJ aB J, ul_wE cI aE E, ul_wG cI aF (aK 0) (aN 0) (aT 0) F, ul_wB cI aP (aK 0) 2 P, ul_wB cI aB (aK 0) 14 B] : List va_W).flatten sz) ([ul_wU cZ cO aU (aL 0) (aD 0) (aK 0) (aN 0) (aT 0) (aJ 0) (aE 0) (aF 0) aP U d, ul_wL cI aL L, ul_wK cI aD D, ul_wK cI aK K, ul_wS cI aN (aK 0) r.2.1, ul_wS cI aT (aK 0) T, ul_wJ cO aJ aB r.2.2.1, ul_wE cI aE E, ul_wG cI aF (aK 0) (aN 0) (aT 0) F, ul_wB cI aP (aK 0) 2 P, ul_wB cI aB (aK 0) 14 r.2.2.2] : List va_W).flatten) (va_A ([ul_wU cZ cO aU (aL 0) (aD 0) (aK 0) (aN 0) (aT 0) (aJ 0) (aE 0) (aF 0) aP U d, ul_wL cI aL L, ul_wK cI aD D, ul_wK cI aK K, ul_wS cI aN (aK 0) N, ul_wS cI aT (aK 0) T, ul_wJ cO aJ aB J, ul_wE cI aE E, ul_wG cI aF (aK 0) (aN 0) (aT 0) F, ul_wB cI aP (aK 0) 2 P, ul_wB cI aB (aK 0) 14 B] : List va_W).flatten sz)) 0 0 (va_A ([ul_wU cZ cO aU (aL 0) (aD 0) (aK 0) (aN 0) (aT 0) (aJ 0) (aE 0) (aF 0) aP U d, ul_wL cI aL L, ul_wK cI aD D, ul_wK cI aK K, ul_wS cI aN (aK 0) N, ul_wS cI aT (aK 0) T, ul_wJ cO aJ aB J, ul_wE cI aE E, ul_wG cI aF (aK 0) (aN 0) (aT 0) F, ul_wB cI aP (aK 0) 2 P, ul_wB cI aB (aK 0) 14 B] : List va_W).flatten sz) := by
  refine Met.ofW (cc := cX6_give) (maxL := 3) (ret := (some .int)) (by decide) rfl ?_
  intro p e s m args below meth c s₁ BB hml hv
  obtain ⟨rfl, hsz, hP, hK, hD0, hN⟩ := hv
  have hx := BB.exec
  have hb := BB.bytes
  have hr := BB.returns
  have hts := atoms_spec (ws := wsX6_give) BB.pre
  have hown : s.vm.findClass RX6 = some m.cls := findClass_of_methodNamed BB.named
  have hlocks := BB.notSynchronized
  have hin4 : ∀ w ∈ u_ws RX4 TX4 8, w ∈ wsX6_give := by decide +kernel
  have hin6 : ∀ w ∈ u_ws RX6 TX6 11, w ∈ wsX6_give := by decide +kernel
  subst hsz
  have hD := hD0.self (sz := s.heap.size)
  generalize hAe : va_A ([ul_wU cZ cO aU (aL 0) (aD 0) (aK 0) (aN 0) (aT 0) (aJ 0) (aE 0) (aF 0) aP U d, ul_wL cI aL L, ul_wK cI aD D, ul_wK cI aK K, ul_wS cI aN (aK 0) N, ul_wS cI aT (aK 0) T, ul_wJ cO aJ aB J, ul_wE cI aE E, ul_wG cI aF (aK 0) (aN 0) (aT 0) F, ul_wB cI aP (aK 0) 2 P, ul_wB cI aB (aK 0) 14 B] : List va_W).flatten s.heap.size = A at hD hN ⊢
  have hA : ∀ q : Nat, s.heap.size ≤ q → A q := fun q h => by rw [← hAe]; exact Or.inr h
  have hS : va_S A s.heap s.heap [] := va_S.rf
  have hl := lv_entry ([.ref (aU 0), .int p1, .int p2]) (n := 3) (Nat.le_of_ble_eq_true rfl)
  rw [lg_entry_eq]
  generalize (lg_sl ([.ref (aU 0), .int p1, .int p2]) ++ List.replicate (3 - (lg_sl ([.ref (aU 0), .int p1, .int p2])).length) Slot.unset).toArray = ls at hl ⊢
  have hl : lv_has ls 3 [(0, .ref (aU 0)), (1, .int p1), (2, .int p2)] := hl
  obtain ⟨K0, hK0, h⟩ := ul_top h
  unfold f_X6_give at h
  refine ul_gen (fun G gi ge => ?_)
  obtain ⟨H, eH⟩ : ∃ z, z = s.heap := ⟨_, rfl⟩
  obtain ⟨locs, eL⟩ : ∃ z : List Loc, z = [] := ⟨_, rfl⟩
  have hP : va_P (dC, dI) classes ([ul_wU cZ cO aU (aL 0) (aD 0) (aK 0) (aN 0) (aT 0) (aJ 0) (aE 0) (aF 0) aP U d, ul_wL cI aL L, ul_wK cI aD D, ul_wK cI aK K, ul_wS cI aN (aK 0) N, ul_wS cI aT (aK 0) T, ul_wJ cO aJ aB J, ul_wE cI aE E, ul_wG cI aF (aK 0) (aN 0) (aT 0) F, ul_wB cI aP (aK 0) 2 P, ul_wB cI aB (aK 0) 14 B] : List va_W).flatten H := by rw [eH]; exact hP
  have hS : va_S A s.heap H locs := by rw [eH, eL]; exact hS
  rw [← eL]
  refine (show G H locs (F0 m 0 ls []) → G s.heap locs (F0 m 0 ls []) from fun z => by rw [← eH]; exact z) ?_
  refine gi _ _ _ ?_
  refine lv_aload_n hx hb dX6_give_0 rfl (lv_at hl 0 rfl) ?_
  refine lv_iload_n hx hb dX6_give_1 rfl (lv_at hl 1 rfl) ?_
  obtain ⟨u1, hu1, h⟩ := ul_cl_h h
  refine ul_cPi (As := [.int p1]) (rest := []) (wc := ([ul_wU cZ cO aU (aL 0) (aD 0) (aK 0) (aN 0) (aT 0) (aJ 0) (aE 0) (aF 0) aP U d, ul_wL cI aL L, ul_wK cI aD D, ul_wK cI aK K, ul_wS cI aN (aK 0) N, ul_wS cI aT (aK 0) T, ul_wJ cO aJ aB J, ul_wE cI aE E, ul_wG cI aF (aK 0) (aN 0) (aT 0) F, ul_wB cI aP (aK 0) 2 P, ul_wB cI aB (aK 0) 14 B] : List va_W).flatten) (wc' := ([ul_wU cZ cO aU (aL 0) (aD 0) (aK 0) (aN 0) (aT 0) (aJ 0) (aE 0) (aF 0) aP U d, ul_wL cI aL L, ul_wK cI aD D, ul_wK cI aK K, ul_wS cI aN (aK 0) N, ul_wS cI aT (aK 0) T, ul_wJ cO aJ aB J, ul_wE cI aE E, ul_wG cI aF (aK 0) (aN 0) (aT 0) F, ul_wB cI aP (aK 0) 2 P, ul_wB cI aB (aK 0) 14 B] : List va_W).flatten) (wr := ([] : List va_W).flatten) hP hD hS hK hA [0, 1, 2] ul_NX_ok hN (c_X6_isPerson l dC dI cI cZ cO aU aL aD aK aN aT aJ aE aF aP aB H.size U d L D K N T J E F P B p1 u1 hu1) (ul_pmq (bs := [ul_wU cZ cO aU (aL 0) (aD 0) (aK 0) (aN 0) (aT 0) (aJ 0) (aE 0) (aF 0) aP U d, ul_wL cI aL L, ul_wK cI aD D, ul_wK cI aK K, ul_wS cI aN (aK 0) N, ul_wS cI aT (aK 0) T, ul_wJ cO aJ aB J, ul_wE cI aE E, ul_wG cI aF (aK 0) (aN 0) (aT 0) F, ul_wB cI aP (aK 0) 2 P, ul_wB cI aB (aK 0) 14 B]) [0, 1, 2, 3, 4, 5, 6, 7, 8, 9, 10] (by show List.Perm _ (List.range 11); decide) (by simp only [List.map_cons, List.map_nil, List.getD_cons_zero, List.getD_cons_succ, List.flatten_cons, List.flatten_nil, List.append_nil, List.nil_append, List.append_assoc])) rfl ⟨hx, hb, hml, hown, hts⟩ (cwV 1 hts gX6_give_X6_isPerson rfl rfl rfl (by decide +kernel) ⟨Nat.le_of_ble_eq_true rfl, Nat.le_of_ble_eq_true rfl⟩) (va_recv hK hP (ci := 6) (q0 := 0) rfl rfl) rfl hl.1 rfl (Nat.le_of_ble_eq_true rfl) dX6_give_2 (fun H locs hw => ?_)
  have hw := hw.pm (ul_pmq (bs := [ul_wU cZ cO aU (aL 0) (aD 0) (aK 0) (aN 0) (aT 0) (aJ 0) (aE 0) (aF 0) aP U d, ul_wL cI aL L, ul_wK cI aD D, ul_wK cI aK K, ul_wS cI aN (aK 0) N, ul_wS cI aT (aK 0) T, ul_wJ cO aJ aB J, ul_wE cI aE E, ul_wG cI aF (aK 0) (aN 0) (aT 0) F, ul_wB cI aP (aK 0) 2 P, ul_wB cI aB (aK 0) 14 B]) [0, 1, 2, 3, 4, 5, 6, 7, 8, 9, 10] (by show List.Perm _ (List.range 11); decide) (by simp only [List.map_cons, List.map_nil, List.getD_cons_zero, List.getD_cons_succ, List.flatten_cons, List.flatten_nil, List.append_nil, List.nil_append, List.append_assoc])).symm
  obtain ⟨hP, hD, hS⟩ := hw
  have hP : va_P (dC, dI) classes ([ul_wU cZ cO aU (aL 0) (aD 0) (aK 0) (aN 0) (aT 0) (aJ 0) (aE 0) (aF 0) aP U d, ul_wL cI aL L, ul_wK cI aD D, ul_wK cI aK K, ul_wS cI aN (aK 0) N, ul_wS cI aT (aK 0) T, ul_wJ cO aJ aB J, ul_wE cI aE E, ul_wG cI aF (aK 0) (aN 0) (aT 0) F, ul_wB cI aP (aK 0) 2 P, ul_wB cI aB (aK 0) 14 B] : List va_W).flatten H := hP
  have hD : va_D A ([ul_wU cZ cO aU (aL 0) (aD 0) (aK 0) (aN 0) (aT 0) (aJ 0) (aE 0) (aF 0) aP U d, ul_wL cI aL L, ul_wK cI aD D, ul_wK cI aK K, ul_wS cI aN (aK 0) N, ul_wS cI aT (aK 0) T, ul_wJ cO aJ aB J, ul_wE cI aE E, ul_wG cI aF (aK 0) (aN 0) (aT 0) F, ul_wB cI aP (aK 0) 2 P, ul_wB cI aB (aK 0) 14 B] : List va_W).flatten := hD
  refine lv_if_ne (tgt := 10) hx hb dX6_give_5 (by decide) (fun hc2 => ?_) (fun hc2 => ?_)
  · have h := ul_if_f hc2 h
    refine lv_iload_n hx hb dX6_give_10 rfl (lv_at hl 2 rfl) ?_
    refine lv_iconst (v := 1) hx hb dX6_give_11 (by decide) ?_
    refine lv_icmp_lt (tgt := 21) hx hb dX6_give_12 (by decide) (fun hc3 => ?_) (fun hc3 => ?_)
    · have h := ul_if_t hc3 h
      refine lv_bipush (v := -2) hx hb dX6_give_21 (by decide) ?_
      have hr9 := hK0 ((-2 : Int32), N, J, B) h
      subst hr9
      exact W.iret (v := (-2 : Int32)) hx hb hr (fun t ht hW => ⟨⟨(-2 : Int32), (), rfl, rfl, by rw [ht]; exact hP, va_K.moved hW.alike hK, hD⟩, hS.F ht⟩) hS.2.2 dX6_give_23
    · have h := ul_if_f hc3 h
      refine lv_iload_n hx hb dX6_give_15 rfl (lv_at hl 2 rfl) ?_
      refine lv_bipush (v := 9) hx hb dX6_give_16 (by decide) ?_
      refine lv_icmp_le (tgt := 24) hx hb dX6_give_18 (by decide) (fun hc4 => ?_) (fun hc4 => ?_)
      · have h := ul_if_t hc4 h
        refine lv_aload_n hx hb dX6_give_24 rfl (lv_at hl 0 rfl) ?_
        refine va_get (D := (dC, dI)) (ci := 6) (v := .ref (aJ 0)) (C := RX6) (T := TX6) (N := 11) hx hb hts hin6 hown hK hP 0 rfl rfl 5 (by decide) (hts (.fieldLink RX6 41 "UnderLadders" "acts" "LUnderLadders$Acts;") (by decide +kernel)) (fun _ h9 => h9) rfl dX6_give_25 ?_
        refine lv_aload_n hx hb dX6_give_28 rfl (lv_at hl 0 rfl) ?_
        refine va_get (D := (dC, dI)) (ci := 6) (v := .ref (aN 0)) (C := RX6) (T := TX6) (N := 11) hx hb hts hin6 hown hK hP 0 rfl rfl 3 (by decide) (hts (.fieldLink RX6 31 "UnderLadders" "now" "LUnderLadders$Street;") (by decide +kernel)) (fun _ h9 => h9) rfl dX6_give_29 ?_
        obtain ⟨u5, hu5, h⟩ := ul_cl_h h
        refine ul_cPv (As := [.ref (aN 0)]) (rest := []) (wc := ([ul_wJ cO aJ aB J, ul_wS cI aN (aK 0) N, ul_wB cI aB (aK 0) 14 B] : List va_W).flatten) (wc' := ([ul_wJ cO aJ aB u5.1, ul_wS cI aN (aK 0) N, ul_wB cI aB (aK 0) 14 u5.2] : List va_W).flatten) (wr := ([ul_wU cZ cO aU (aL 0) (aD 0) (aK 0) (aN 0) (aT 0) (aJ 0) (aE 0) (aF 0) aP U d, ul_wL cI aL L, ul_wK cI aD D, ul_wK cI aK K, ul_wS cI aT (aK 0) T, ul_wE cI aE E, ul_wG cI aF (aK 0) (aN 0) (aT 0) F, ul_wB cI aP (aK 0) 2 P] : List va_W).flatten) hP hD hS hK hA [0, 2] ul_NX_ok hN (c_X0_remember l dC dI cI cO aJ aN aB aK H.size J N B u5 hu5) (ul_pmq (bs := [ul_wU cZ cO aU (aL 0) (aD 0) (aK 0) (aN 0) (aT 0) (aJ 0) (aE 0) (aF 0) aP U d, ul_wL cI aL L, ul_wK cI aD D, ul_wK cI aK K, ul_wS cI aN (aK 0) N, ul_wS cI aT (aK 0) T, ul_wJ cO aJ aB J, ul_wE cI aE E, ul_wG cI aF (aK 0) (aN 0) (aT 0) F, ul_wB cI aP (aK 0) 2 P, ul_wB cI aB (aK 0) 14 B]) [6, 4, 10, 0, 1, 2, 3, 5, 7, 8, 9] (by show List.Perm _ (List.range 11); decide) (by simp only [List.map_cons, List.map_nil, List.getD_cons_zero, List.getD_cons_succ, List.flatten_cons, List.flatten_nil, List.append_nil, List.nil_append, List.append_assoc])) rfl ⟨hx, hb, hml, hown, hts⟩ (cwV 1 hts gX6_give_X0_remember rfl rfl rfl (by decide +kernel) ⟨Nat.le_of_ble_eq_true rfl, Nat.le_of_ble_eq_true rfl⟩) (va_recv hK hP (ci := 0) (q0 := 35) rfl rfl) rfl hl.1 rfl (Nat.le_of_ble_eq_true rfl) dX6_give_32 (fun H locs hw => ?_)
        have hw := hw.pm (ul_pmq (bs := [ul_wU cZ cO aU (aL 0) (aD 0) (aK 0) (aN 0) (aT 0) (aJ 0) (aE 0) (aF 0) aP U d, ul_wL cI aL L, ul_wK cI aD D, ul_wK cI aK K, ul_wS cI aN (aK 0) N, ul_wS cI aT (aK 0) T, ul_wJ cO aJ aB u5.1, ul_wE cI aE E, ul_wG cI aF (aK 0) (aN 0) (aT 0) F, ul_wB cI aP (aK 0) 2 P, ul_wB cI aB (aK 0) 14 u5.2]) [0, 1, 2, 3, 5, 7, 8, 9, 6, 4, 10] (by show List.Perm _ (List.range 11); decide) (by simp only [List.map_cons, List.map_nil, List.getD_cons_zero, List.getD_cons_succ, List.flatten_cons, List.flatten_nil, List.append_nil, List.nil_append, List.append_assoc])).symm
        obtain ⟨hP, hD, hS⟩ := hw
        have hP : va_P (dC, dI) classes ([ul_wU cZ cO aU (aL 0) (aD 0) (aK 0) (aN 0) (aT 0) (aJ 0) (aE 0) (aF 0) aP U d, ul_wL cI aL L, ul_wK cI aD D, ul_wK cI aK K, ul_wS cI aN (aK 0) N, ul_wS cI aT (aK 0) T, ul_wJ cO aJ aB u5.1, ul_wE cI aE E, ul_wG cI aF (aK 0) (aN 0) (aT 0) F, ul_wB cI aP (aK 0) 2 P, ul_wB cI aB (aK 0) 14 u5.2] : List va_W).flatten H := hP
        have hD : va_D A ([ul_wU cZ cO aU (aL 0) (aD 0) (aK 0) (aN 0) (aT 0) (aJ 0) (aE 0) (aF 0) aP U d, ul_wL cI aL L, ul_wK cI aD D, ul_wK cI aK K, ul_wS cI aN (aK 0) N, ul_wS cI aT (aK 0) T, ul_wJ cO aJ aB u5.1, ul_wE cI aE E, ul_wG cI aF (aK 0) (aN 0) (aT 0) F, ul_wB cI aP (aK 0) 2 P, ul_wB cI aB (aK 0) 14 u5.2] : List va_W).flatten := hD
        refine lv_aload_n hx hb dX6_give_35 rfl (lv_at hl 0 rfl) ?_
        refine va_get (D := (dC, dI)) (ci := 6) (v := .ref (aN 0)) (C := RX6) (T := TX6) (N := 11) hx hb hts hin6 hown hK hP 0 rfl rfl 3 (by decide) (hts (.fieldLink RX6 31 "UnderLadders" "now" "LUnderLadders$Street;") (by decide +kernel)) (fun _ h9 => h9) rfl dX6_give_36 ?_
        refine lv_iload_n hx hb dX6_give_39 rfl (lv_at hl 1 rfl) ?_
        refine lv_iload_n hx hb dX6_give_40 rfl (lv_at hl 2 rfl) ?_
        obtain ⟨u6, hu6, h⟩ := ul_cl_h h
        refine ul_cPv (As := [.int p1, .int p2]) (rest := []) (wc := (ul_wS cI aN (aK 0) N ++ ul_wK cI aK K)) (wc' := (ul_wS cI aN (aK 0) u6 ++ ul_wK cI aK K)) (wr := ([ul_wU cZ cO aU (aL 0) (aD 0) (aK 0) (aN 0) (aT 0) (aJ 0) (aE 0) (aF 0) aP U d, ul_wL cI aL L, ul_wK cI aD D, ul_wS cI aT (aK 0) T, ul_wJ cO aJ aB u5.1, ul_wE cI aE E, ul_wG cI aF (aK 0) (aN 0) (aT 0) F, ul_wB cI aP (aK 0) 2 P, ul_wB cI aB (aK 0) 14 u5.2] : List va_W).flatten) hP hD hS hK hA [0] ul_NX_ok hN (c_X4_endow l dC dI cI aN aK H.size N K p1 p2 u6 hu6) (ul_pmq (bs := [ul_wU cZ cO aU (aL 0) (aD 0) (aK 0) (aN 0) (aT 0) (aJ 0) (aE 0) (aF 0) aP U d, ul_wL cI aL L, ul_wK cI aD D, ul_wK cI aK K, ul_wS cI aN (aK 0) N, ul_wS cI aT (aK 0) T, ul_wJ cO aJ aB u5.1, ul_wE cI aE E, ul_wG cI aF (aK 0) (aN 0) (aT 0) F, ul_wB cI aP (aK 0) 2 P, ul_wB cI aB (aK 0) 14 u5.2]) [4, 3, 0, 1, 2, 5, 6, 7, 8, 9, 10] (by show List.Perm _ (List.range 11); decide) (by simp only [List.map_cons, List.map_nil, List.getD_cons_zero, List.getD_cons_succ, List.flatten_cons, List.flatten_nil, List.append_nil, List.nil_append, List.append_assoc])) rfl ⟨hx, hb, hml, hown, hts⟩ (cwV 2 hts gX6_give_X4_endow rfl rfl rfl (by decide +kernel) ⟨Nat.le_of_ble_eq_true rfl, Nat.le_of_ble_eq_true rfl⟩) (va_recv hK hP (ci := 4) (q0 := 21) rfl rfl) rfl hl.1 rfl (Nat.le_of_ble_eq_true rfl) dX6_give_41 (fun H locs hw => ?_)
        have hw := hw.pm (ul_pmq (bs := [ul_wU cZ cO aU (aL 0) (aD 0) (aK 0) (aN 0) (aT 0) (aJ 0) (aE 0) (aF 0) aP U d, ul_wL cI aL L, ul_wK cI aD D, ul_wK cI aK K, ul_wS cI aN (aK 0) u6, ul_wS cI aT (aK 0) T, ul_wJ cO aJ aB u5.1, ul_wE cI aE E, ul_wG cI aF (aK 0) (aN 0) (aT 0) F, ul_wB cI aP (aK 0) 2 P, ul_wB cI aB (aK 0) 14 u5.2]) [0, 1, 2, 5, 6, 7, 8, 9, 10, 4, 3] (by show List.Perm _ (List.range 11); decide) (by simp only [List.map_cons, List.map_nil, List.getD_cons_zero, List.getD_cons_succ, List.flatten_cons, List.flatten_nil, List.append_nil, List.nil_append, List.append_assoc])).symm
        obtain ⟨hP, hD, hS⟩ := hw
        have hP : va_P (dC, dI) classes ([ul_wU cZ cO aU (aL 0) (aD 0) (aK 0) (aN 0) (aT 0) (aJ 0) (aE 0) (aF 0) aP U d, ul_wL cI aL L, ul_wK cI aD D, ul_wK cI aK K, ul_wS cI aN (aK 0) u6, ul_wS cI aT (aK 0) T, ul_wJ cO aJ aB u5.1, ul_wE cI aE E, ul_wG cI aF (aK 0) (aN 0) (aT 0) F, ul_wB cI aP (aK 0) 2 P, ul_wB cI aB (aK 0) 14 u5.2] : List va_W).flatten H := hP
        have hD : va_D A ([ul_wU cZ cO aU (aL 0) (aD 0) (aK 0) (aN 0) (aT 0) (aJ 0) (aE 0) (aF 0) aP U d, ul_wL cI aL L, ul_wK cI aD D, ul_wK cI aK K, ul_wS cI aN (aK 0) u6, ul_wS cI aT (aK 0) T, ul_wJ cO aJ aB u5.1, ul_wE cI aE E, ul_wG cI aF (aK 0) (aN 0) (aT 0) F, ul_wB cI aP (aK 0) 2 P, ul_wB cI aB (aK 0) 14 u5.2] : List va_W).flatten := hD
        refine lv_aload_n hx hb dX6_give_44 rfl (lv_at hl 0 rfl) ?_
        refine va_get (D := (dC, dI)) (ci := 6) (v := .ref (aN 0)) (C := RX6) (T := TX6) (N := 11) hx hb hts hin6 hown hK hP 0 rfl rfl 3 (by decide) (hts (.fieldLink RX6 31 "UnderLadders" "now" "LUnderLadders$Street;") (by decide +kernel)) (fun _ h9 => h9) rfl dX6_give_45 ?_
        refine va_getN (D := (dC, dI)) (ci := 4) (v := .ref (aN 6)) (C := RX4) (T := TX4) (N := 8) hx hb hts hin4 hown hK hP 21 rfl rfl 6 (by decide) (va_Nw.use rfl (hN.1 (RX6, 128, "UnderLadders$Street", "ownLuck", "[I") (by decide +kernel))) (fun _ h9 => h9) rfl dX6_give_48 ?_
        refine lv_iload_n hx hb dX6_give_51 rfl (lv_at hl 1 rfl) ?_
        obtain ⟨hi8, h⟩ := ul_ld_h h
        refine va_iald hx hb hK hP 27 0 rfl rfl hi8 dX6_give_52 ?_
        refine lv_topi (fun v7 ev7 => ?_)
        have h := h v7 ev7
        have hr9 := hK0 (v7, u6, u5.1, u5.2) h
        subst hr9
        exact W.iret (v := v7) hx hb hr (fun t ht hW => ⟨⟨v7, (), rfl, rfl, by rw [ht]; exact hP, va_K.moved hW.alike hK, hD⟩, hS.F ht⟩) hS.2.2 dX6_give_53
      · have h := ul_if_f hc4 h
        refine lv_bipush (v := -2) hx hb dX6_give_21 (by decide) ?_
        have hr9 := hK0 ((-2 : Int32), N, J, B) h
        subst hr9
        exact W.iret (v := (-2 : Int32)) hx hb hr (fun t ht hW => ⟨⟨(-2 : Int32), (), rfl, rfl, by rw [ht]; exact hP, va_K.moved hW.alike hK, hD⟩, hS.F ht⟩) hS.2.2 dX6_give_23
  · have h := ul_if_t hc2 h
    refine lv_iconst (v := -1) hx hb dX6_give_8 (by decide) ?_
    have hr9 := hK0 ((-1 : Int32), N, J, B) h
    subst hr9
    exact W.iret (v := (-1 : Int32)) hx hb hr (fun t ht hW => ⟨⟨(-1 : Int32), (), rfl, rfl, by rw [ht]; exact hP, va_K.moved hW.alike hK, hD⟩, hS.F ht⟩) hS.2.2 dX6_give_9
def f_X6_undo (N : ul_S) (J : ul_S) (B : ul_F) : Option (Int32 × ul_S × ul_S) :=
  (f_X0_takeBack J N B).bind fun u1 => if u1.1 = 0 then (some ((-3 : Int32), u1.2.2, u1.2.1)) else (some ((u1.2.1 0 1), u1.2.2, u1.2.1))
set_option maxHeartbeats 4000000 in
set_option maxRecDepth 100000 in
theorem c_X6_undo (l : Launch) (dC : Nat → ClassId) (dI : Nat → Nat → Nat) (cI : ClassId) (cZ : ClassId) (cO : ClassId) (aU : Nat → Nat) (aL : Nat → Nat) (aD : Nat → Nat) (aK : Nat → Nat) (aN : Nat → Nat) (aT : Nat → Nat) (aJ : Nat → Nat) (aE : Nat → Nat) (aF : Nat → Nat) (aP : Nat → Nat → Nat) (aB : Nat → Nat → Nat) (sz : Nat) (U : ul_S) (d : Int64) (L : ul_S) (D : ul_S) (K : ul_S) (N : ul_S) (T : ul_S) (J : ul_S) (E : ul_S) (F : ul_S) (P : ul_F) (B : ul_F) (r : (Int32 × ul_S × ul_S)) (h : f_X6_undo N J B = some r) : Met l yX6_undo wsX6_undo ({ frames := 3, cells := 0, slots := 0, locals := 82 }) (va_Pc [.ref (aU 0)] (ul_pre (dC, dI) [(cI, .int), (cZ, .boolean), (cO, .object RX4)] ul_NX sz ([ul_wU cZ cO aU (aL 0) (aD 0) (aK 0) (aN 0) (aT 0) (aJ 0) (aE 0) (aF 0) aP U d, ul_wL cI aL L, ul_wK cI aD D, ul_wK cI aK K, ul_wS cI aN (aK 0) N, ul_wS cI aT (aK 0) T, ul_wJ cO aJ aB J, ul_wE cI aE E, ul_wG cI aF (aK 0) (aN 0) (aT 0) F, ul_wB cI aP (aK 0) 2 P, ul_wB cI aB (aK 0) 14 B] : List va_W).flatten)) (va_Qi (fun v (_ : Unit) => v = r.1) (fun _ => ul_post (dC, dI) [(cI, .int), (cZ, .boolean), (cO, .object RX4)] (va_A ([ul_wU cZ cO aU (aL 0) (aD 0) (aK 0) (aN 0) (aT 0) (aJ 0) (aE 0) (aF 0) aP U d, ul_wL cI aL L, ul_wK cI aD D, ul_wK cI aK K, ul_wS cI aN (aK 0) N, ul_wS cI aT (aK 0) T, ul_wJ cO aJ aB J, ul_wE cI aE E, ul_wG cI aF (aK 0) (aN 0) (aT 0) F, ul_wB cI aP (aK 0) 2 P, ul_wB cI aB (aK 0) 14 B] : List va_W).flatten sz) ([ul_wU cZ cO aU (aL 0) (aD 0) (aK 0) (aN 0) (aT 0) (aJ 0) (aE 0) (aF 0) aP U d, ul_wL cI aL L, ul_wK cI aD D, ul_wK cI aK K, ul_wS cI aN (aK 0) r.2.1, ul_wS cI aT (aK 0) T, ul_wJ cO aJ aB r.2.2, ul_wE cI aE E, ul_wG cI aF (aK 0) (aN 0) (aT 0) F, ul_wB cI aP (aK 0) 2 P, ul_wB cI aB (aK 0) 14 B] : List va_W).flatten) (va_A ([ul_wU cZ cO aU (aL 0) (aD 0) (aK 0) (aN 0) (aT 0) (aJ 0) (aE 0) (aF 0) aP U d, ul_wL cI aL L, ul_wK cI aD D, ul_wK cI aK K, ul_wS cI aN (aK 0) N, ul_wS cI aT (aK 0) T, ul_wJ cO aJ aB J, ul_wE cI aE E, ul_wG cI aF (aK 0) (aN 0) (aT 0) F, ul_wB cI aP (aK 0) 2 P, ul_wB cI aB (aK 0) 14 B] : List va_W).flatten sz)) 0 0 (va_A ([ul_wU cZ cO aU (aL 0) (aD 0) (aK 0) (aN 0) (aT 0) (aJ 0) (aE 0) (aF 0) aP U d, ul_wL cI aL L, ul_wK cI aD D, ul_wK cI aK K, ul_wS cI aN (aK 0) N, ul_wS cI aT (aK 0) T, ul_wJ cO aJ aB J, ul_wE cI aE E, ul_wG cI aF (aK 0) (aN 0) (aT 0) F, ul_wB cI aP (aK 0) 2 P, ul_wB cI aB (aK 0) 14 B] : List va_W).flatten sz) := by
  refine Met.ofW (cc := cX6_undo) (maxL := 1) (ret := (some .int)) (by decide) rfl ?_
  intro p e s m args below meth c s₁ BB hml hv
  obtain ⟨rfl, hsz, hP, hK, hD0, hN⟩ := hv
  have hx := BB.exec
  have hb := BB.bytes
  have hr := BB.returns
  have hts := atoms_spec (ws := wsX6_undo) BB.pre
  have hown : s.vm.findClass RX6 = some m.cls := findClass_of_methodNamed BB.named
  have hlocks := BB.notSynchronized
  have hin0 : ∀ w ∈ u_ws RX0 TX0 3, w ∈ wsX6_undo := by decide +kernel
  have hin6 : ∀ w ∈ u_ws RX6 TX6 11, w ∈ wsX6_undo := by decide +kernel
  subst hsz
  have hD := hD0.self (sz := s.heap.size)
  generalize hAe : va_A ([ul_wU cZ cO aU (aL 0) (aD 0) (aK 0) (aN 0) (aT 0) (aJ 0) (aE 0) (aF 0) aP U d, ul_wL cI aL L, ul_wK cI aD D, ul_wK cI aK K, ul_wS cI aN (aK 0) N, ul_wS cI aT (aK 0) T, ul_wJ cO aJ aB J, ul_wE cI aE E, ul_wG cI aF (aK 0) (aN 0) (aT 0) F, ul_wB cI aP (aK 0) 2 P, ul_wB cI aB (aK 0) 14 B] : List va_W).flatten s.heap.size = A at hD hN ⊢
  have hA : ∀ q : Nat, s.heap.size ≤ q → A q := fun q h => by rw [← hAe]; exact Or.inr h
  have hS : va_S A s.heap s.heap [] := va_S.rf
  have hl := lv_entry ([.ref (aU 0)]) (n := 1) (Nat.le_of_ble_eq_true rfl)
  rw [lg_entry_eq]
  generalize (lg_sl ([.ref (aU 0)]) ++ List.replicate (1 - (lg_sl ([.ref (aU 0)])).length) Slot.unset).toArray = ls at hl ⊢
  have hl : lv_has ls 1 [(0, .ref (aU 0))] := hl
  obtain ⟨K0, hK0, h⟩ := ul_top h
  unfold f_X6_undo at h
  refine ul_gen (fun G gi ge => ?_)
  obtain ⟨H, eH⟩ : ∃ z, z = s.heap := ⟨_, rfl⟩
  obtain ⟨locs, eL⟩ : ∃ z : List Loc, z = [] := ⟨_, rfl⟩
  have hP : va_P (dC, dI) classes ([ul_wU cZ cO aU (aL 0) (aD 0) (aK 0) (aN 0) (aT 0) (aJ 0) (aE 0) (aF 0) aP U d, ul_wL cI aL L, ul_wK cI aD D, ul_wK cI aK K, ul_wS cI aN (aK 0) N, ul_wS cI aT (aK 0) T, ul_wJ cO aJ aB J, ul_wE cI aE E, ul_wG cI aF (aK 0) (aN 0) (aT 0) F, ul_wB cI aP (aK 0) 2 P, ul_wB cI aB (aK 0) 14 B] : List va_W).flatten H := by rw [eH]; exact hP
  have hS : va_S A s.heap H locs := by rw [eH, eL]; exact hS
  rw [← eL]
  refine (show G H locs (F0 m 0 ls []) → G s.heap locs (F0 m 0 ls []) from fun z => by rw [← eH]; exact z) ?_
  refine gi _ _ _ ?_
  refine lv_aload_n hx hb dX6_undo_0 rfl (lv_at hl 0 rfl) ?_
  refine va_get (D := (dC, dI)) (ci := 6) (v := .ref (aJ 0)) (C := RX6) (T := TX6) (N := 11) hx hb hts hin6 hown hK hP 0 rfl rfl 5 (by decide) (hts (.fieldLink RX6 41 "UnderLadders" "acts" "LUnderLadders$Acts;") (by decide +kernel)) (fun _ h9 => h9) rfl dX6_undo_1 ?_
  refine lv_aload_n hx hb dX6_undo_4 rfl (lv_at hl 0 rfl) ?_
  refine va_get (D := (dC, dI)) (ci := 6) (v := .ref (aN 0)) (C := RX6) (T := TX6) (N := 11) hx hb hts hin6 hown hK hP 0 rfl rfl 3 (by decide) (hts (.fieldLink RX6 31 "UnderLadders" "now" "LUnderLadders$Street;") (by decide +kernel)) (fun _ h9 => h9) rfl dX6_undo_5 ?_
  obtain ⟨u1, hu1, h⟩ := ul_cl_h h
  refine ul_cPi (As := [.ref (aN 0)]) (rest := []) (wc := ([ul_wJ cO aJ aB J, ul_wS cI aN (aK 0) N, ul_wB cI aB (aK 0) 14 B] : List va_W).flatten) (wc' := ([ul_wJ cO aJ aB u1.2.1, ul_wS cI aN (aK 0) u1.2.2, ul_wB cI aB (aK 0) 14 B] : List va_W).flatten) (wr := ([ul_wU cZ cO aU (aL 0) (aD 0) (aK 0) (aN 0) (aT 0) (aJ 0) (aE 0) (aF 0) aP U d, ul_wL cI aL L, ul_wK cI aD D, ul_wK cI aK K, ul_wS cI aT (aK 0) T, ul_wE cI aE E, ul_wG cI aF (aK 0) (aN 0) (aT 0) F, ul_wB cI aP (aK 0) 2 P] : List va_W).flatten) hP hD hS hK hA [0, 2] ul_NX_ok hN (c_X0_takeBack l dC dI cI cO aJ aN aB aK H.size J N B u1 hu1) (ul_pmq (bs := [ul_wU cZ cO aU (aL 0) (aD 0) (aK 0) (aN 0) (aT 0) (aJ 0) (aE 0) (aF 0) aP U d, ul_wL cI aL L, ul_wK cI aD D, ul_wK cI aK K, ul_wS cI aN (aK 0) N, ul_wS cI aT (aK 0) T, ul_wJ cO aJ aB J, ul_wE cI aE E, ul_wG cI aF (aK 0) (aN 0) (aT 0) F, ul_wB cI aP (aK 0) 2 P, ul_wB cI aB (aK 0) 14 B]) [6, 4, 10, 0, 1, 2, 3, 5, 7, 8, 9] (by show List.Perm _ (List.range 11); decide) (by simp only [List.map_cons, List.map_nil, List.getD_cons_zero, List.getD_cons_succ, List.flatten_cons, List.flatten_nil, List.append_nil, List.nil_append, List.append_assoc])) rfl ⟨hx, hb, hml, hown, hts⟩ (cwV 1 hts gX6_undo_X0_takeBack rfl rfl rfl (by decide +kernel) ⟨Nat.le_of_ble_eq_true rfl, Nat.le_of_ble_eq_true rfl⟩) (va_recv hK hP (ci := 0) (q0 := 35) rfl rfl) rfl hl.1 rfl (Nat.le_of_ble_eq_true rfl) dX6_undo_8 (fun H locs hw => ?_)
  have hw := hw.pm (ul_pmq (bs := [ul_wU cZ cO aU (aL 0) (aD 0) (aK 0) (aN 0) (aT 0) (aJ 0) (aE 0) (aF 0) aP U d, ul_wL cI aL L, ul_wK cI aD D, ul_wK cI aK K, ul_wS cI aN (aK 0) u1.2.2, ul_wS cI aT (aK 0) T, ul_wJ cO aJ aB u1.2.1, ul_wE cI aE E, ul_wG cI aF (aK 0) (aN 0) (aT 0) F, ul_wB cI aP (aK 0) 2 P, ul_wB cI aB (aK 0) 14 B]) [0, 1, 2, 3, 5, 7, 8, 9, 6, 4, 10] (by show List.Perm _ (List.range 11); decide) (by simp only [List.map_cons, List.map_nil, List.getD_cons_zero, List.getD_cons_succ, List.flatten_cons, List.flatten_nil, List.append_nil, List.nil_append, List.append_assoc])).symm
  obtain ⟨hP, hD, hS⟩ := hw
  have hP : va_P (dC, dI) classes ([ul_wU cZ cO aU (aL 0) (aD 0) (aK 0) (aN 0) (aT 0) (aJ 0) (aE 0) (aF 0) aP U d, ul_wL cI aL L, ul_wK cI aD D, ul_wK cI aK K, ul_wS cI aN (aK 0) u1.2.2, ul_wS cI aT (aK 0) T, ul_wJ cO aJ aB u1.2.1, ul_wE cI aE E, ul_wG cI aF (aK 0) (aN 0) (aT 0) F, ul_wB cI aP (aK 0) 2 P, ul_wB cI aB (aK 0) 14 B] : List va_W).flatten H := hP
  have hD : va_D A ([ul_wU cZ cO aU (aL 0) (aD 0) (aK 0) (aN 0) (aT 0) (aJ 0) (aE 0) (aF 0) aP U d, ul_wL cI aL L, ul_wK cI aD D, ul_wK cI aK K, ul_wS cI aN (aK 0) u1.2.2, ul_wS cI aT (aK 0) T, ul_wJ cO aJ aB u1.2.1, ul_wE cI aE E, ul_wG cI aF (aK 0) (aN 0) (aT 0) F, ul_wB cI aP (aK 0) 2 P, ul_wB cI aB (aK 0) 14 B] : List va_W).flatten := hD
  refine lv_if_eq (tgt := 24) hx hb dX6_undo_11 (by decide) (fun hc2 => ?_) (fun hc2 => ?_)
  · have h := ul_if_t hc2 h
    refine lv_bipush (v := -3) hx hb dX6_undo_24 (by decide) ?_
    have hr9 := hK0 ((-3 : Int32), u1.2.2, u1.2.1) h
    subst hr9
    exact W.iret (v := (-3 : Int32)) hx hb hr (fun t ht hW => ⟨⟨(-3 : Int32), (), rfl, rfl, by rw [ht]; exact hP, va_K.moved hW.alike hK, hD⟩, hS.F ht⟩) hS.2.2 dX6_undo_26
  · have h := ul_if_f hc2 h
    refine lv_aload_n hx hb dX6_undo_14 rfl (lv_at hl 0 rfl) ?_
    refine va_get (D := (dC, dI)) (ci := 6) (v := .ref (aJ 0)) (C := RX6) (T := TX6) (N := 11) hx hb hts hin6 hown hK hP 0 rfl rfl 5 (by decide) (hts (.fieldLink RX6 41 "UnderLadders" "acts" "LUnderLadders$Acts;") (by decide +kernel)) (fun _ h9 => h9) rfl dX6_undo_15 ?_
    refine va_getN (D := (dC, dI)) (ci := 0) (v := .int (u1.2.1 0 1)) (C := RX0) (T := TX0) (N := 3) hx hb hts hin0 hown hK hP 35 rfl rfl 2 (by decide) (va_Nw.use rfl (hN.1 (RX6, 165, "UnderLadders$Acts", "size", "I") (by decide +kernel))) (fun _ h9 => h9) rfl dX6_undo_18 ?_
    refine lv_goto (tgt := 26) hx hb dX6_undo_21 (by decide) ?_
    have hr9 := hK0 ((u1.2.1 0 1), u1.2.2, u1.2.1) h
    subst hr9
    exact W.iret (v := (u1.2.1 0 1)) hx hb hr (fun t ht hW => ⟨⟨(u1.2.1 0 1), (), rfl, rfl, by rw [ht]; exact hP, va_K.moved hW.alike hK, hD⟩, hS.F ht⟩) hS.2.2 dX6_undo_26
def f_X6_luck (K : ul_S) (N : ul_S) (T : ul_S) (p1 : Int32) (p2 : Int32) : Option (Int32 × ul_S) :=
  (f_X6_isPerson K p1).bind fun u1 => if u1 = 0 then (some ((-1 : Int32), T)) else (if p2 < 0 then (some ((-2 : Int32), T)) else (if p2 ≤ (20 : Int32) then ((f_X1_goAhead N T K p2).bind fun u5 => ul_ld (u5 6) 5 p1 fun v6 => some (v6, u5)) else (some ((-2 : Int32), T))))
set_option maxHeartbeats 4000000 in
set_option maxRecDepth 100000 in
theorem c_X6_luck (l : Launch) (dC : Nat → ClassId) (dI : Nat → Nat → Nat) (cI : ClassId) (cZ : ClassId) (cO : ClassId) (aU : Nat → Nat) (aL : Nat → Nat) (aD : Nat → Nat) (aK : Nat → Nat) (aN : Nat → Nat) (aT : Nat → Nat) (aJ : Nat → Nat) (aE : Nat → Nat) (aF : Nat → Nat) (aP : Nat → Nat → Nat) (aB : Nat → Nat → Nat) (sz : Nat) (U : ul_S) (d : Int64) (L : ul_S) (D : ul_S) (K : ul_S) (N : ul_S) (T : ul_S) (J : ul_S) (E : ul_S) (F : ul_S) (P : ul_F) (B : ul_F) (p1 : Int32) (p2 : Int32) (r : (Int32 × ul_S)) (h : f_X6_luck K N T p1 p2 = some r) : Met l yX6_luck wsX6_luck ({ frames := 6, cells := 0, slots := 0, locals := 153 }) (va_Pc [.ref (aU 0), .int p1, .int p2] (ul_pre (dC, dI) [(cI, .int), (cZ, .boolean), (cO, .object RX4)] ul_NX sz ([ul_wU cZ cO aU (aL 0) (aD 0) (aK 0) (aN 0) (aT 0) (aJ 0) (aE 0) (aF 0) aP U d, ul_wL cI aL L, ul_wK cI aD D, ul_wK cI aK K, ul_wS cI aN (aK 0) N, ul_wS cI aT (aK 0) T, ul_wJ cO aJ aB J, ul_wE cI aE E, ul_wG cI aF (aK 0) (aN 0) (aT 0) F, ul_wB cI aP (aK 0) 2 P, ul_wB cI aB (aK 0) 14 B] : List va_W).flatten)) (va_Qi (fun v (_ : Unit) => v = r.1) (fun _ => ul_post (dC, dI) [(cI, .int), (cZ, .boolean), (cO, .object RX4)] (va_A ([ul_wU cZ cO aU (aL 0) (aD 0) (aK 0) (aN 0) (aT 0) (aJ 0) (aE 0) (aF 0) aP U d, ul_wL cI aL L, ul_wK cI aD D, ul_wK cI aK K, ul_wS cI aN (aK 0) N, ul_wS cI aT (aK 0) T, ul_wJ cO aJ aB J, ul_wE cI aE E, ul_wG cI aF (aK 0) (aN 0) (aT 0) F, ul_wB cI aP (aK 0) 2 P, ul_wB cI aB (aK 0) 14 B] : List va_W).flatten sz) ([ul_wU cZ cO aU (aL 0) (aD 0) (aK 0) (aN 0) (aT 0) (aJ 0) (aE 0) (aF 0) aP U d, ul_wL cI aL L, ul_wK cI aD D, ul_wK cI aK K, ul_wS cI aN (aK 0) N, ul_wS cI aT (aK 0) r.2, ul_wJ cO aJ aB J, ul_wE cI aE E, ul_wG cI aF (aK 0) (aN 0) (aT 0) F, ul_wB cI aP (aK 0) 2 P, ul_wB cI aB (aK 0) 14 B] : List va_W).flatten) (va_A ([ul_wU cZ cO aU (aL 0) (aD 0) (aK 0) (aN 0) (aT 0) (aJ 0) (aE 0) (aF 0) aP U d, ul_wL cI aL L, ul_wK cI aD D, ul_wK cI aK K, ul_wS cI aN (aK 0) N, ul_wS cI aT (aK 0) T, ul_wJ cO aJ aB J, ul_wE cI aE E, ul_wG cI aF (aK 0) (aN 0) (aT 0) F, ul_wB cI aP (aK 0) 2 P, ul_wB cI aB (aK 0) 14 B] : List va_W).flatten sz)) 0 0 (va_A ([ul_wU cZ cO aU (aL 0) (aD 0) (aK 0) (aN 0) (aT 0) (aJ 0) (aE 0) (aF 0) aP U d, ul_wL cI aL L, ul_wK cI aD D, ul_wK cI aK K, ul_wS cI aN (aK 0) N, ul_wS cI aT (aK 0) T, ul_wJ cO aJ aB J, ul_wE cI aE E, ul_wG cI aF (aK 0) (aN 0) (aT 0) F, ul_wB cI aP (aK 0) 2 P, ul_wB cI aB (aK 0) 14 B] : List va_W).flatten sz) := by
  refine Met.ofW (cc := cX6_luck) (maxL := 3) (ret := (some .int)) (by decide) rfl ?_
  intro p e s m args below meth c s₁ BB hml hv
  obtain ⟨rfl, hsz, hP, hK, hD0, hN⟩ := hv
  have hx := BB.exec
  have hb := BB.bytes
  have hr := BB.returns
  have hts := atoms_spec (ws := wsX6_luck) BB.pre
  have hown : s.vm.findClass RX6 = some m.cls := findClass_of_methodNamed BB.named
  have hlocks := BB.notSynchronized
  have hin4 : ∀ w ∈ u_ws RX4 TX4 8, w ∈ wsX6_luck := by decide +kernel
  have hin6 : ∀ w ∈ u_ws RX6 TX6 11, w ∈ wsX6_luck := by decide +kernel
  subst hsz
  have hD := hD0.self (sz := s.heap.size)
  generalize hAe : va_A ([ul_wU cZ cO aU (aL 0) (aD 0) (aK 0) (aN 0) (aT 0) (aJ 0) (aE 0) (aF 0) aP U d, ul_wL cI aL L, ul_wK cI aD D, ul_wK cI aK K, ul_wS cI aN (aK 0) N, ul_wS cI aT (aK 0) T, ul_wJ cO aJ aB J, ul_wE cI aE E, ul_wG cI aF (aK 0) (aN 0) (aT 0) F, ul_wB cI aP (aK 0) 2 P, ul_wB cI aB (aK 0) 14 B] : List va_W).flatten s.heap.size = A at hD hN ⊢
  have hA : ∀ q : Nat, s.heap.size ≤ q → A q := fun q h => by rw [← hAe]; exact Or.inr h
  have hS : va_S A s.heap s.heap [] := va_S.rf
  have hl := lv_entry ([.ref (aU 0), .int p1, .int p2]) (n := 3) (Nat.le_of_ble_eq_true rfl)
  rw [lg_entry_eq]
  generalize (lg_sl ([.ref (aU 0), .int p1, .int p2]) ++ List.replicate (3 - (lg_sl ([.ref (aU 0), .int p1, .int p2])).length) Slot.unset).toArray = ls at hl ⊢
  have hl : lv_has ls 3 [(0, .ref (aU 0)), (1, .int p1), (2, .int p2)] := hl
  obtain ⟨K0, hK0, h⟩ := ul_top h
  unfold f_X6_luck at h
  refine ul_gen (fun G gi ge => ?_)
  obtain ⟨H, eH⟩ : ∃ z, z = s.heap := ⟨_, rfl⟩
  obtain ⟨locs, eL⟩ : ∃ z : List Loc, z = [] := ⟨_, rfl⟩
  have hP : va_P (dC, dI) classes ([ul_wU cZ cO aU (aL 0) (aD 0) (aK 0) (aN 0) (aT 0) (aJ 0) (aE 0) (aF 0) aP U d, ul_wL cI aL L, ul_wK cI aD D, ul_wK cI aK K, ul_wS cI aN (aK 0) N, ul_wS cI aT (aK 0) T, ul_wJ cO aJ aB J, ul_wE cI aE E, ul_wG cI aF (aK 0) (aN 0) (aT 0) F, ul_wB cI aP (aK 0) 2 P, ul_wB cI aB (aK 0) 14 B] : List va_W).flatten H := by rw [eH]; exact hP
  have hS : va_S A s.heap H locs := by rw [eH, eL]; exact hS
  rw [← eL]
  refine (show G H locs (F0 m 0 ls []) → G s.heap locs (F0 m 0 ls []) from fun z => by rw [← eH]; exact z) ?_
  refine gi _ _ _ ?_
  refine lv_aload_n hx hb dX6_luck_0 rfl (lv_at hl 0 rfl) ?_
  refine lv_iload_n hx hb dX6_luck_1 rfl (lv_at hl 1 rfl) ?_
  obtain ⟨u1, hu1, h⟩ := ul_cl_h h
  refine ul_cPi (As := [.int p1]) (rest := []) (wc := ([ul_wU cZ cO aU (aL 0) (aD 0) (aK 0) (aN 0) (aT 0) (aJ 0) (aE 0) (aF 0) aP U d, ul_wL cI aL L, ul_wK cI aD D, ul_wK cI aK K, ul_wS cI aN (aK 0) N, ul_wS cI aT (aK 0) T, ul_wJ cO aJ aB J, ul_wE cI aE E, ul_wG cI aF (aK 0) (aN 0) (aT 0) F, ul_wB cI aP (aK 0) 2 P, ul_wB cI aB (aK 0) 14 B] : List va_W).flatten) (wc' := ([ul_wU cZ cO aU (aL 0) (aD 0) (aK 0) (aN 0) (aT 0) (aJ 0) (aE 0) (aF 0) aP U d, ul_wL cI aL L, ul_wK cI aD D, ul_wK cI aK K, ul_wS cI aN (aK 0) N, ul_wS cI aT (aK 0) T, ul_wJ cO aJ aB J, ul_wE cI aE E, ul_wG cI aF (aK 0) (aN 0) (aT 0) F, ul_wB cI aP (aK 0) 2 P, ul_wB cI aB (aK 0) 14 B] : List va_W).flatten) (wr := ([] : List va_W).flatten) hP hD hS hK hA [0, 1, 2] ul_NX_ok hN (c_X6_isPerson l dC dI cI cZ cO aU aL aD aK aN aT aJ aE aF aP aB H.size U d L D K N T J E F P B p1 u1 hu1) (ul_pmq (bs := [ul_wU cZ cO aU (aL 0) (aD 0) (aK 0) (aN 0) (aT 0) (aJ 0) (aE 0) (aF 0) aP U d, ul_wL cI aL L, ul_wK cI aD D, ul_wK cI aK K, ul_wS cI aN (aK 0) N, ul_wS cI aT (aK 0) T, ul_wJ cO aJ aB J, ul_wE cI aE E, ul_wG cI aF (aK 0) (aN 0) (aT 0) F, ul_wB cI aP (aK 0) 2 P, ul_wB cI aB (aK 0) 14 B]) [0, 1, 2, 3, 4, 5, 6, 7, 8, 9, 10] (by show List.Perm _ (List.range 11); decide) (by simp only [List.map_cons, List.map_nil, List.getD_cons_zero, List.getD_cons_succ, List.flatten_cons, List.flatten_nil, List.append_nil, List.nil_append, List.append_assoc])) rfl ⟨hx, hb, hml, hown, hts⟩ (cwV 1 hts gX6_luck_X6_isPerson rfl rfl rfl (by decide +kernel) ⟨Nat.le_of_ble_eq_true rfl, Nat.le_of_ble_eq_true rfl⟩) (va_recv hK hP (ci := 6) (q0 := 0) rfl rfl) rfl hl.1 rfl (Nat.le_of_ble_eq_true rfl) dX6_luck_2 (fun H locs hw => ?_)
  have hw := hw.pm (ul_pmq (bs := [ul_wU cZ cO aU (aL 0) (aD 0) (aK 0) (aN 0) (aT 0) (aJ 0) (aE 0) (aF 0) aP U d, ul_wL cI aL L, ul_wK cI aD D, ul_wK cI aK K, ul_wS cI aN (aK 0) N, ul_wS cI aT (aK 0) T, ul_wJ cO aJ aB J, ul_wE cI aE E, ul_wG cI aF (aK 0) (aN 0) (aT 0) F, ul_wB cI aP (aK 0) 2 P, ul_wB cI aB (aK 0) 14 B]) [0, 1, 2, 3, 4, 5, 6, 7, 8, 9, 10] (by show List.Perm _ (List.range 11); decide) (by simp only [List.map_cons, List.map_nil, List.getD_cons_zero, List.getD_cons_succ, List.flatten_cons, List.flatten_nil, List.append_nil, List.nil_append, List.append_assoc])).symm
  obtain ⟨hP, hD, hS⟩ := hw
  have hP : va_P (dC, dI) classes ([ul_wU cZ cO aU (aL 0) (aD 0) (aK 0) (aN 0) (aT 0) (aJ 0) (aE 0) (aF 0) aP U d, ul_wL cI aL L, ul_wK cI aD D, ul_wK cI aK K, ul_wS cI aN (aK 0) N, ul_wS cI aT (aK 0) T, ul_wJ cO aJ aB J, ul_wE cI aE E, ul_wG cI aF (aK 0) (aN 0) (aT 0) F, ul_wB cI aP (aK 0) 2 P, ul_wB cI aB (aK 0) 14 B] : List va_W).flatten H := hP
  have hD : va_D A ([ul_wU cZ cO aU (aL 0) (aD 0) (aK 0) (aN 0) (aT 0) (aJ 0) (aE 0) (aF 0) aP U d, ul_wL cI aL L, ul_wK cI aD D, ul_wK cI aK K, ul_wS cI aN (aK 0) N, ul_wS cI aT (aK 0) T, ul_wJ cO aJ aB J, ul_wE cI aE E, ul_wG cI aF (aK 0) (aN 0) (aT 0) F, ul_wB cI aP (aK 0) 2 P, ul_wB cI aB (aK 0) 14 B] : List va_W).flatten := hD
  refine lv_if_ne (tgt := 10) hx hb dX6_luck_5 (by decide) (fun hc2 => ?_) (fun hc2 => ?_)
  · have h := ul_if_f hc2 h
    refine lv_iload_n hx hb dX6_luck_10 rfl (lv_at hl 2 rfl) ?_
    refine lv_if_lt (tgt := 20) hx hb dX6_luck_11 (by decide) (fun hc3 => ?_) (fun hc3 => ?_)
    · have h := ul_if_t hc3 h
      refine lv_bipush (v := -2) hx hb dX6_luck_20 (by decide) ?_
      have hr9 := hK0 ((-2 : Int32), T) h
      subst hr9
      exact W.iret (v := (-2 : Int32)) hx hb hr (fun t ht hW => ⟨⟨(-2 : Int32), (), rfl, rfl, by rw [ht]; exact hP, va_K.moved hW.alike hK, hD⟩, hS.F ht⟩) hS.2.2 dX6_luck_22
    · have h := ul_if_f hc3 h
      refine lv_iload_n hx hb dX6_luck_14 rfl (lv_at hl 2 rfl) ?_
      refine lv_bipush (v := 20) hx hb dX6_luck_15 (by decide) ?_
      refine lv_icmp_le (tgt := 23) hx hb dX6_luck_17 (by decide) (fun hc4 => ?_) (fun hc4 => ?_)
      · have h := ul_if_t hc4 h
        refine lv_aload_n hx hb dX6_luck_23 rfl (lv_at hl 0 rfl) ?_
        refine va_get (D := (dC, dI)) (ci := 6) (v := .ref (aF 0)) (C := RX6) (T := TX6) (N := 11) hx hb hts hin6 hown hK hP 0 rfl rfl 7 (by decide) (hts (.fieldLink RX6 57 "UnderLadders" "forecast" "LUnderLadders$Forecast;") (by decide +kernel)) (fun _ h9 => h9) rfl dX6_luck_24 ?_
        refine lv_iload_n hx hb dX6_luck_27 rfl (lv_at hl 2 rfl) ?_
        obtain ⟨u5, hu5, h⟩ := ul_cl_h h
        refine ul_cPv (As := [.int p2]) (rest := []) (wc := (ul_wG cI aF (aK 0) (aN 0) (aT 0) F ++ ul_wS cI aN (aK 0) N ++ ul_wS cI aT (aK 0) T ++ ul_wK cI aK K)) (wc' := (ul_wG cI aF (aK 0) (aN 0) (aT 0) F ++ ul_wS cI aN (aK 0) N ++ ul_wS cI aT (aK 0) u5 ++ ul_wK cI aK K)) (wr := ([ul_wU cZ cO aU (aL 0) (aD 0) (aK 0) (aN 0) (aT 0) (aJ 0) (aE 0) (aF 0) aP U d, ul_wL cI aL L, ul_wK cI aD D, ul_wJ cO aJ aB J, ul_wE cI aE E, ul_wB cI aP (aK 0) 2 P, ul_wB cI aB (aK 0) 14 B] : List va_W).flatten) hP hD hS hK hA [0] ul_NX_ok hN (c_X1_goAhead l dC dI cI aF aN aT aK H.size F N T K p2 u5 hu5) (ul_pmq (bs := [ul_wU cZ cO aU (aL 0) (aD 0) (aK 0) (aN 0) (aT 0) (aJ 0) (aE 0) (aF 0) aP U d, ul_wL cI aL L, ul_wK cI aD D, ul_wK cI aK K, ul_wS cI aN (aK 0) N, ul_wS cI aT (aK 0) T, ul_wJ cO aJ aB J, ul_wE cI aE E, ul_wG cI aF (aK 0) (aN 0) (aT 0) F, ul_wB cI aP (aK 0) 2 P, ul_wB cI aB (aK 0) 14 B]) [8, 4, 5, 3, 0, 1, 2, 6, 7, 9, 10] (by show List.Perm _ (List.range 11); decide) (by simp only [List.map_cons, List.map_nil, List.getD_cons_zero, List.getD_cons_succ, List.flatten_cons, List.flatten_nil, List.append_nil, List.nil_append, List.append_assoc])) rfl ⟨hx, hb, hml, hown, hts⟩ (cwV 1 hts gX6_luck_X1_goAhead rfl rfl rfl (by decide +kernel) ⟨Nat.le_of_ble_eq_true rfl, Nat.le_of_ble_eq_true rfl⟩) (va_recv hK hP (ci := 1) (q0 := 40) rfl rfl) rfl hl.1 rfl (Nat.le_of_ble_eq_true rfl) dX6_luck_28 (fun H locs hw => ?_)
        have hw := hw.pm (ul_pmq (bs := [ul_wU cZ cO aU (aL 0) (aD 0) (aK 0) (aN 0) (aT 0) (aJ 0) (aE 0) (aF 0) aP U d, ul_wL cI aL L, ul_wK cI aD D, ul_wK cI aK K, ul_wS cI aN (aK 0) N, ul_wS cI aT (aK 0) u5, ul_wJ cO aJ aB J, ul_wE cI aE E, ul_wG cI aF (aK 0) (aN 0) (aT 0) F, ul_wB cI aP (aK 0) 2 P, ul_wB cI aB (aK 0) 14 B]) [0, 1, 2, 6, 7, 9, 10, 8, 4, 5, 3] (by show List.Perm _ (List.range 11); decide) (by simp only [List.map_cons, List.map_nil, List.getD_cons_zero, List.getD_cons_succ, List.flatten_cons, List.flatten_nil, List.append_nil, List.nil_append, List.append_assoc])).symm
        obtain ⟨hP, hD, hS⟩ := hw
        have hP : va_P (dC, dI) classes ([ul_wU cZ cO aU (aL 0) (aD 0) (aK 0) (aN 0) (aT 0) (aJ 0) (aE 0) (aF 0) aP U d, ul_wL cI aL L, ul_wK cI aD D, ul_wK cI aK K, ul_wS cI aN (aK 0) N, ul_wS cI aT (aK 0) u5, ul_wJ cO aJ aB J, ul_wE cI aE E, ul_wG cI aF (aK 0) (aN 0) (aT 0) F, ul_wB cI aP (aK 0) 2 P, ul_wB cI aB (aK 0) 14 B] : List va_W).flatten H := hP
        have hD : va_D A ([ul_wU cZ cO aU (aL 0) (aD 0) (aK 0) (aN 0) (aT 0) (aJ 0) (aE 0) (aF 0) aP U d, ul_wL cI aL L, ul_wK cI aD D, ul_wK cI aK K, ul_wS cI aN (aK 0) N, ul_wS cI aT (aK 0) u5, ul_wJ cO aJ aB J, ul_wE cI aE E, ul_wG cI aF (aK 0) (aN 0) (aT 0) F, ul_wB cI aP (aK 0) 2 P, ul_wB cI aB (aK 0) 14 B] : List va_W).flatten := hD
        refine lv_aload_n hx hb dX6_luck_31 rfl (lv_at hl 0 rfl) ?_
        refine va_get (D := (dC, dI)) (ci := 6) (v := .ref (aT 0)) (C := RX6) (T := TX6) (N := 11) hx hb hts hin6 hown hK hP 0 rfl rfl 4 (by decide) (hts (.fieldLink RX6 35 "UnderLadders" "trial" "LUnderLadders$Street;") (by decide +kernel)) (fun _ h9 => h9) rfl dX6_luck_32 ?_
        refine va_getN (D := (dC, dI)) (ci := 4) (v := .ref (aT 6)) (C := RX4) (T := TX4) (N := 8) hx hb hts hin4 hown hK hP 28 rfl rfl 6 (by decide) (va_Nw.use rfl (hN.1 (RX6, 128, "UnderLadders$Street", "ownLuck", "[I") (by decide +kernel))) (fun _ h9 => h9) rfl dX6_luck_35 ?_
        refine lv_iload_n hx hb dX6_luck_38 rfl (lv_at hl 1 rfl) ?_
        obtain ⟨hi7, h⟩ := ul_ld_h h
        refine va_iald hx hb hK hP 34 0 rfl rfl hi7 dX6_luck_39 ?_
        refine lv_topi (fun v6 ev6 => ?_)
        have h := h v6 ev6
        have hr9 := hK0 (v6, u5) h
        subst hr9
        exact W.iret (v := v6) hx hb hr (fun t ht hW => ⟨⟨v6, (), rfl, rfl, by rw [ht]; exact hP, va_K.moved hW.alike hK, hD⟩, hS.F ht⟩) hS.2.2 dX6_luck_40
      · have h := ul_if_f hc4 h
        refine lv_bipush (v := -2) hx hb dX6_luck_20 (by decide) ?_
        have hr9 := hK0 ((-2 : Int32), T) h
        subst hr9
        exact W.iret (v := (-2 : Int32)) hx hb hr (fun t ht hW => ⟨⟨(-2 : Int32), (), rfl, rfl, by rw [ht]; exact hP, va_K.moved hW.alike hK, hD⟩, hS.F ht⟩) hS.2.2 dX6_luck_22
  · have h := ul_if_t hc2 h
    refine lv_iconst (v := -1) hx hb dX6_luck_8 (by decide) ?_
    have hr9 := hK0 ((-1 : Int32), T) h
    subst hr9
    exact W.iret (v := (-1 : Int32)) hx hb hr (fun t ht hW => ⟨⟨(-1 : Int32), (), rfl, rfl, by rw [ht]; exact hP, va_K.moved hW.alike hK, hD⟩, hS.F ht⟩) hS.2.2 dX6_luck_9
def f_X6_gold (K : ul_S) (N : ul_S) (T : ul_S) (p1 : Int32) (p2 : Int32) : Option (Int32 × ul_S) :=
  (f_X6_isLadder K p1).bind fun u1 => if u1 = 0 then (some ((-1 : Int32), T)) else (if p2 < 0 then (some ((-2 : Int32), T)) else (if p2 ≤ (20 : Int32) then ((f_X1_goAhead N T K p2).bind fun u5 => ul_ld (u5 4) 4 p1 fun v6 => some (v6, u5)) else (some ((-2 : Int32), T))))
set_option maxHeartbeats 4000000 in
set_option maxRecDepth 100000 in
theorem c_X6_gold (l : Launch) (dC : Nat → ClassId) (dI : Nat → Nat → Nat) (cI : ClassId) (cZ : ClassId) (cO : ClassId) (aU : Nat → Nat) (aL : Nat → Nat) (aD : Nat → Nat) (aK : Nat → Nat) (aN : Nat → Nat) (aT : Nat → Nat) (aJ : Nat → Nat) (aE : Nat → Nat) (aF : Nat → Nat) (aP : Nat → Nat → Nat) (aB : Nat → Nat → Nat) (sz : Nat) (U : ul_S) (d : Int64) (L : ul_S) (D : ul_S) (K : ul_S) (N : ul_S) (T : ul_S) (J : ul_S) (E : ul_S) (F : ul_S) (P : ul_F) (B : ul_F) (p1 : Int32) (p2 : Int32) (r : (Int32 × ul_S)) (h : f_X6_gold K N T p1 p2 = some r) : Met l yX6_gold wsX6_gold ({ frames := 6, cells := 0, slots := 0, locals := 153 }) (va_Pc [.ref (aU 0), .int p1, .int p2] (ul_pre (dC, dI) [(cI, .int), (cZ, .boolean), (cO, .object RX4)] ul_NX sz ([ul_wU cZ cO aU (aL 0) (aD 0) (aK 0) (aN 0) (aT 0) (aJ 0) (aE 0) (aF 0) aP U d, ul_wL cI aL L, ul_wK cI aD D, ul_wK cI aK K, ul_wS cI aN (aK 0) N, ul_wS cI aT (aK 0) T, ul_wJ cO aJ aB J, ul_wE cI aE E, ul_wG cI aF (aK 0) (aN 0) (aT 0) F, ul_wB cI aP (aK 0) 2 P, ul_wB cI aB (aK 0) 14 B] : List va_W).flatten)) (va_Qi (fun v (_ : Unit) => v = r.1) (fun _ => ul_post (dC, dI) [(cI, .int), (cZ, .boolean), (cO, .object RX4)] (va_A ([ul_wU cZ cO aU (aL 0) (aD 0) (aK 0) (aN 0) (aT 0) (aJ 0) (aE 0) (aF 0) aP U d, ul_wL cI aL L, ul_wK cI aD D, ul_wK cI aK K, ul_wS cI aN (aK 0) N, ul_wS cI aT (aK 0) T, ul_wJ cO aJ aB J, ul_wE cI aE E, ul_wG cI aF (aK 0) (aN 0) (aT 0) F, ul_wB cI aP (aK 0) 2 P, ul_wB cI aB (aK 0) 14 B] : List va_W).flatten sz) ([ul_wU cZ cO aU (aL 0) (aD 0) (aK 0) (aN 0) (aT 0) (aJ 0) (aE 0) (aF 0) aP U d, ul_wL cI aL L, ul_wK cI aD D, ul_wK cI aK K, ul_wS cI aN (aK 0) N, ul_wS cI aT (aK 0) r.2, ul_wJ cO aJ aB J, ul_wE cI aE E, ul_wG cI aF (aK 0) (aN 0) (aT 0) F, ul_wB cI aP (aK 0) 2 P, ul_wB cI aB (aK 0) 14 B] : List va_W).flatten) (va_A ([ul_wU cZ cO aU (aL 0) (aD 0) (aK 0) (aN 0) (aT 0) (aJ 0) (aE 0) (aF 0) aP U d, ul_wL cI aL L, ul_wK cI aD D, ul_wK cI aK K, ul_wS cI aN (aK 0) N, ul_wS cI aT (aK 0) T, ul_wJ cO aJ aB J, ul_wE cI aE E, ul_wG cI aF (aK 0) (aN 0) (aT 0) F, ul_wB cI aP (aK 0) 2 P, ul_wB cI aB (aK 0) 14 B] : List va_W).flatten sz)) 0 0 (va_A ([ul_wU cZ cO aU (aL 0) (aD 0) (aK 0) (aN 0) (aT 0) (aJ 0) (aE 0) (aF 0) aP U d, ul_wL cI aL L, ul_wK cI aD D, ul_wK cI aK K, ul_wS cI aN (aK 0) N, ul_wS cI aT (aK 0) T, ul_wJ cO aJ aB J, ul_wE cI aE E, ul_wG cI aF (aK 0) (aN 0) (aT 0) F, ul_wB cI aP (aK 0) 2 P, ul_wB cI aB (aK 0) 14 B] : List va_W).flatten sz) := by
  refine Met.ofW (cc := cX6_gold) (maxL := 3) (ret := (some .int)) (by decide) rfl ?_
  intro p e s m args below meth c s₁ BB hml hv
  obtain ⟨rfl, hsz, hP, hK, hD0, hN⟩ := hv
  have hx := BB.exec
  have hb := BB.bytes
  have hr := BB.returns
  have hts := atoms_spec (ws := wsX6_gold) BB.pre
  have hown : s.vm.findClass RX6 = some m.cls := findClass_of_methodNamed BB.named
  have hlocks := BB.notSynchronized
  have hin4 : ∀ w ∈ u_ws RX4 TX4 8, w ∈ wsX6_gold := by decide +kernel
  have hin6 : ∀ w ∈ u_ws RX6 TX6 11, w ∈ wsX6_gold := by decide +kernel
  subst hsz
  have hD := hD0.self (sz := s.heap.size)
  generalize hAe : va_A ([ul_wU cZ cO aU (aL 0) (aD 0) (aK 0) (aN 0) (aT 0) (aJ 0) (aE 0) (aF 0) aP U d, ul_wL cI aL L, ul_wK cI aD D, ul_wK cI aK K, ul_wS cI aN (aK 0) N, ul_wS cI aT (aK 0) T, ul_wJ cO aJ aB J, ul_wE cI aE E, ul_wG cI aF (aK 0) (aN 0) (aT 0) F, ul_wB cI aP (aK 0) 2 P, ul_wB cI aB (aK 0) 14 B] : List va_W).flatten s.heap.size = A at hD hN ⊢
  have hA : ∀ q : Nat, s.heap.size ≤ q → A q := fun q h => by rw [← hAe]; exact Or.inr h
  have hS : va_S A s.heap s.heap [] := va_S.rf
  have hl := lv_entry ([.ref (aU 0), .int p1, .int p2]) (n := 3) (Nat.le_of_ble_eq_true rfl)
  rw [lg_entry_eq]
  generalize (lg_sl ([.ref (aU 0), .int p1, .int p2]) ++ List.replicate (3 - (lg_sl ([.ref (aU 0), .int p1, .int p2])).length) Slot.unset).toArray = ls at hl ⊢
  have hl : lv_has ls 3 [(0, .ref (aU 0)), (1, .int p1), (2, .int p2)] := hl
  obtain ⟨K0, hK0, h⟩ := ul_top h
  unfold f_X6_gold at h
  refine ul_gen (fun G gi ge => ?_)
  obtain ⟨H, eH⟩ : ∃ z, z = s.heap := ⟨_, rfl⟩
  obtain ⟨locs, eL⟩ : ∃ z : List Loc, z = [] := ⟨_, rfl⟩
  have hP : va_P (dC, dI) classes ([ul_wU cZ cO aU (aL 0) (aD 0) (aK 0) (aN 0) (aT 0) (aJ 0) (aE 0) (aF 0) aP U d, ul_wL cI aL L, ul_wK cI aD D, ul_wK cI aK K, ul_wS cI aN (aK 0) N, ul_wS cI aT (aK 0) T, ul_wJ cO aJ aB J, ul_wE cI aE E, ul_wG cI aF (aK 0) (aN 0) (aT 0) F, ul_wB cI aP (aK 0) 2 P, ul_wB cI aB (aK 0) 14 B] : List va_W).flatten H := by rw [eH]; exact hP
  have hS : va_S A s.heap H locs := by rw [eH, eL]; exact hS
  rw [← eL]
  refine (show G H locs (F0 m 0 ls []) → G s.heap locs (F0 m 0 ls []) from fun z => by rw [← eH]; exact z) ?_
  refine gi _ _ _ ?_
  refine lv_aload_n hx hb dX6_gold_0 rfl (lv_at hl 0 rfl) ?_
  refine lv_iload_n hx hb dX6_gold_1 rfl (lv_at hl 1 rfl) ?_
  obtain ⟨u1, hu1, h⟩ := ul_cl_h h
  refine ul_cPi (As := [.int p1]) (rest := []) (wc := ([ul_wU cZ cO aU (aL 0) (aD 0) (aK 0) (aN 0) (aT 0) (aJ 0) (aE 0) (aF 0) aP U d, ul_wL cI aL L, ul_wK cI aD D, ul_wK cI aK K, ul_wS cI aN (aK 0) N, ul_wS cI aT (aK 0) T, ul_wJ cO aJ aB J, ul_wE cI aE E, ul_wG cI aF (aK 0) (aN 0) (aT 0) F, ul_wB cI aP (aK 0) 2 P, ul_wB cI aB (aK 0) 14 B] : List va_W).flatten) (wc' := ([ul_wU cZ cO aU (aL 0) (aD 0) (aK 0) (aN 0) (aT 0) (aJ 0) (aE 0) (aF 0) aP U d, ul_wL cI aL L, ul_wK cI aD D, ul_wK cI aK K, ul_wS cI aN (aK 0) N, ul_wS cI aT (aK 0) T, ul_wJ cO aJ aB J, ul_wE cI aE E, ul_wG cI aF (aK 0) (aN 0) (aT 0) F, ul_wB cI aP (aK 0) 2 P, ul_wB cI aB (aK 0) 14 B] : List va_W).flatten) (wr := ([] : List va_W).flatten) hP hD hS hK hA [0, 1, 2] ul_NX_ok hN (c_X6_isLadder l dC dI cI cZ cO aU aL aD aK aN aT aJ aE aF aP aB H.size U d L D K N T J E F P B p1 u1 hu1) (ul_pmq (bs := [ul_wU cZ cO aU (aL 0) (aD 0) (aK 0) (aN 0) (aT 0) (aJ 0) (aE 0) (aF 0) aP U d, ul_wL cI aL L, ul_wK cI aD D, ul_wK cI aK K, ul_wS cI aN (aK 0) N, ul_wS cI aT (aK 0) T, ul_wJ cO aJ aB J, ul_wE cI aE E, ul_wG cI aF (aK 0) (aN 0) (aT 0) F, ul_wB cI aP (aK 0) 2 P, ul_wB cI aB (aK 0) 14 B]) [0, 1, 2, 3, 4, 5, 6, 7, 8, 9, 10] (by show List.Perm _ (List.range 11); decide) (by simp only [List.map_cons, List.map_nil, List.getD_cons_zero, List.getD_cons_succ, List.flatten_cons, List.flatten_nil, List.append_nil, List.nil_append, List.append_assoc])) rfl ⟨hx, hb, hml, hown, hts⟩ (cwV 1 hts gX6_gold_X6_isLadder rfl rfl rfl (by decide +kernel) ⟨Nat.le_of_ble_eq_true rfl, Nat.le_of_ble_eq_true rfl⟩) (va_recv hK hP (ci := 6) (q0 := 0) rfl rfl) rfl hl.1 rfl (Nat.le_of_ble_eq_true rfl) dX6_gold_2 (fun H locs hw => ?_)
  have hw := hw.pm (ul_pmq (bs := [ul_wU cZ cO aU (aL 0) (aD 0) (aK 0) (aN 0) (aT 0) (aJ 0) (aE 0) (aF 0) aP U d, ul_wL cI aL L, ul_wK cI aD D, ul_wK cI aK K, ul_wS cI aN (aK 0) N, ul_wS cI aT (aK 0) T, ul_wJ cO aJ aB J, ul_wE cI aE E, ul_wG cI aF (aK 0) (aN 0) (aT 0) F, ul_wB cI aP (aK 0) 2 P, ul_wB cI aB (aK 0) 14 B]) [0, 1, 2, 3, 4, 5, 6, 7, 8, 9, 10] (by show List.Perm _ (List.range 11); decide) (by simp only [List.map_cons, List.map_nil, List.getD_cons_zero, List.getD_cons_succ, List.flatten_cons, List.flatten_nil, List.append_nil, List.nil_append, List.append_assoc])).symm
  obtain ⟨hP, hD, hS⟩ := hw
  have hP : va_P (dC, dI) classes ([ul_wU cZ cO aU (aL 0) (aD 0) (aK 0) (aN 0) (aT 0) (aJ 0) (aE 0) (aF 0) aP U d, ul_wL cI aL L, ul_wK cI aD D, ul_wK cI aK K, ul_wS cI aN (aK 0) N, ul_wS cI aT (aK 0) T, ul_wJ cO aJ aB J, ul_wE cI aE E, ul_wG cI aF (aK 0) (aN 0) (aT 0) F, ul_wB cI aP (aK 0) 2 P, ul_wB cI aB (aK 0) 14 B] : List va_W).flatten H := hP
  have hD : va_D A ([ul_wU cZ cO aU (aL 0) (aD 0) (aK 0) (aN 0) (aT 0) (aJ 0) (aE 0) (aF 0) aP U d, ul_wL cI aL L, ul_wK cI aD D, ul_wK cI aK K, ul_wS cI aN (aK 0) N, ul_wS cI aT (aK 0) T, ul_wJ cO aJ aB J, ul_wE cI aE E, ul_wG cI aF (aK 0) (aN 0) (aT 0) F, ul_wB cI aP (aK 0) 2 P, ul_wB cI aB (aK 0) 14 B] : List va_W).flatten := hD
  refine lv_if_ne (tgt := 10) hx hb dX6_gold_5 (by decide) (fun hc2 => ?_) (fun hc2 => ?_)
  · have h := ul_if_f hc2 h
    refine lv_iload_n hx hb dX6_gold_10 rfl (lv_at hl 2 rfl) ?_
    refine lv_if_lt (tgt := 20) hx hb dX6_gold_11 (by decide) (fun hc3 => ?_) (fun hc3 => ?_)
    · have h := ul_if_t hc3 h
      refine lv_bipush (v := -2) hx hb dX6_gold_20 (by decide) ?_
      have hr9 := hK0 ((-2 : Int32), T) h
      subst hr9
      exact W.iret (v := (-2 : Int32)) hx hb hr (fun t ht hW => ⟨⟨(-2 : Int32), (), rfl, rfl, by rw [ht]; exact hP, va_K.moved hW.alike hK, hD⟩, hS.F ht⟩) hS.2.2 dX6_gold_22
    · have h := ul_if_f hc3 h
      refine lv_iload_n hx hb dX6_gold_14 rfl (lv_at hl 2 rfl) ?_
      refine lv_bipush (v := 20) hx hb dX6_gold_15 (by decide) ?_
      refine lv_icmp_le (tgt := 23) hx hb dX6_gold_17 (by decide) (fun hc4 => ?_) (fun hc4 => ?_)
      · have h := ul_if_t hc4 h
        refine lv_aload_n hx hb dX6_gold_23 rfl (lv_at hl 0 rfl) ?_
        refine va_get (D := (dC, dI)) (ci := 6) (v := .ref (aF 0)) (C := RX6) (T := TX6) (N := 11) hx hb hts hin6 hown hK hP 0 rfl rfl 7 (by decide) (hts (.fieldLink RX6 57 "UnderLadders" "forecast" "LUnderLadders$Forecast;") (by decide +kernel)) (fun _ h9 => h9) rfl dX6_gold_24 ?_
        refine lv_iload_n hx hb dX6_gold_27 rfl (lv_at hl 2 rfl) ?_
        obtain ⟨u5, hu5, h⟩ := ul_cl_h h
        refine ul_cPv (As := [.int p2]) (rest := []) (wc := (ul_wG cI aF (aK 0) (aN 0) (aT 0) F ++ ul_wS cI aN (aK 0) N ++ ul_wS cI aT (aK 0) T ++ ul_wK cI aK K)) (wc' := (ul_wG cI aF (aK 0) (aN 0) (aT 0) F ++ ul_wS cI aN (aK 0) N ++ ul_wS cI aT (aK 0) u5 ++ ul_wK cI aK K)) (wr := ([ul_wU cZ cO aU (aL 0) (aD 0) (aK 0) (aN 0) (aT 0) (aJ 0) (aE 0) (aF 0) aP U d, ul_wL cI aL L, ul_wK cI aD D, ul_wJ cO aJ aB J, ul_wE cI aE E, ul_wB cI aP (aK 0) 2 P, ul_wB cI aB (aK 0) 14 B] : List va_W).flatten) hP hD hS hK hA [0] ul_NX_ok hN (c_X1_goAhead l dC dI cI aF aN aT aK H.size F N T K p2 u5 hu5) (ul_pmq (bs := [ul_wU cZ cO aU (aL 0) (aD 0) (aK 0) (aN 0) (aT 0) (aJ 0) (aE 0) (aF 0) aP U d, ul_wL cI aL L, ul_wK cI aD D, ul_wK cI aK K, ul_wS cI aN (aK 0) N, ul_wS cI aT (aK 0) T, ul_wJ cO aJ aB J, ul_wE cI aE E, ul_wG cI aF (aK 0) (aN 0) (aT 0) F, ul_wB cI aP (aK 0) 2 P, ul_wB cI aB (aK 0) 14 B]) [8, 4, 5, 3, 0, 1, 2, 6, 7, 9, 10] (by show List.Perm _ (List.range 11); decide) (by simp only [List.map_cons, List.map_nil, List.getD_cons_zero, List.getD_cons_succ, List.flatten_cons, List.flatten_nil, List.append_nil, List.nil_append, List.append_assoc])) rfl ⟨hx, hb, hml, hown, hts⟩ (cwV 1 hts gX6_gold_X1_goAhead rfl rfl rfl (by decide +kernel) ⟨Nat.le_of_ble_eq_true rfl, Nat.le_of_ble_eq_true rfl⟩) (va_recv hK hP (ci := 1) (q0 := 40) rfl rfl) rfl hl.1 rfl (Nat.le_of_ble_eq_true rfl) dX6_gold_28 (fun H locs hw => ?_)
        have hw := hw.pm (ul_pmq (bs := [ul_wU cZ cO aU (aL 0) (aD 0) (aK 0) (aN 0) (aT 0) (aJ 0) (aE 0) (aF 0) aP U d, ul_wL cI aL L, ul_wK cI aD D, ul_wK cI aK K, ul_wS cI aN (aK 0) N, ul_wS cI aT (aK 0) u5, ul_wJ cO aJ aB J, ul_wE cI aE E, ul_wG cI aF (aK 0) (aN 0) (aT 0) F, ul_wB cI aP (aK 0) 2 P, ul_wB cI aB (aK 0) 14 B]) [0, 1, 2, 6, 7, 9, 10, 8, 4, 5, 3] (by show List.Perm _ (List.range 11); decide) (by simp only [List.map_cons, List.map_nil, List.getD_cons_zero, List.getD_cons_succ, List.flatten_cons, List.flatten_nil, List.append_nil, List.nil_append, List.append_assoc])).symm
        obtain ⟨hP, hD, hS⟩ := hw
        have hP : va_P (dC, dI) classes ([ul_wU cZ cO aU (aL 0) (aD 0) (aK 0) (aN 0) (aT 0) (aJ 0) (aE 0) (aF 0) aP U d, ul_wL cI aL L, ul_wK cI aD D, ul_wK cI aK K, ul_wS cI aN (aK 0) N, ul_wS cI aT (aK 0) u5, ul_wJ cO aJ aB J, ul_wE cI aE E, ul_wG cI aF (aK 0) (aN 0) (aT 0) F, ul_wB cI aP (aK 0) 2 P, ul_wB cI aB (aK 0) 14 B] : List va_W).flatten H := hP
        have hD : va_D A ([ul_wU cZ cO aU (aL 0) (aD 0) (aK 0) (aN 0) (aT 0) (aJ 0) (aE 0) (aF 0) aP U d, ul_wL cI aL L, ul_wK cI aD D, ul_wK cI aK K, ul_wS cI aN (aK 0) N, ul_wS cI aT (aK 0) u5, ul_wJ cO aJ aB J, ul_wE cI aE E, ul_wG cI aF (aK 0) (aN 0) (aT 0) F, ul_wB cI aP (aK 0) 2 P, ul_wB cI aB (aK 0) 14 B] : List va_W).flatten := hD
        refine lv_aload_n hx hb dX6_gold_31 rfl (lv_at hl 0 rfl) ?_
        refine va_get (D := (dC, dI)) (ci := 6) (v := .ref (aT 0)) (C := RX6) (T := TX6) (N := 11) hx hb hts hin6 hown hK hP 0 rfl rfl 4 (by decide) (hts (.fieldLink RX6 35 "UnderLadders" "trial" "LUnderLadders$Street;") (by decide +kernel)) (fun _ h9 => h9) rfl dX6_gold_32 ?_
        refine va_getN (D := (dC, dI)) (ci := 4) (v := .ref (aT 4)) (C := RX4) (T := TX4) (N := 8) hx hb hts hin4 hown hK hP 28 rfl rfl 4 (by decide) (va_Nw.use rfl (hN.1 (RX6, 110, "UnderLadders$Street", "manGold", "[I") (by decide +kernel))) (fun _ h9 => h9) rfl dX6_gold_35 ?_
        refine lv_iload_n hx hb dX6_gold_38 rfl (lv_at hl 1 rfl) ?_
        obtain ⟨hi7, h⟩ := ul_ld_h h
        refine va_iald hx hb hK hP 32 0 rfl rfl hi7 dX6_gold_39 ?_
        refine lv_topi (fun v6 ev6 => ?_)
        have h := h v6 ev6
        have hr9 := hK0 (v6, u5) h
        subst hr9
        exact W.iret (v := v6) hx hb hr (fun t ht hW => ⟨⟨v6, (), rfl, rfl, by rw [ht]; exact hP, va_K.moved hW.alike hK, hD⟩, hS.F ht⟩) hS.2.2 dX6_gold_40
      · have h := ul_if_f hc4 h
        refine lv_bipush (v := -2) hx hb dX6_gold_20 (by decide) ?_
        have hr9 := hK0 ((-2 : Int32), T) h
        subst hr9
        exact W.iret (v := (-2 : Int32)) hx hb hr (fun t ht hW => ⟨⟨(-2 : Int32), (), rfl, rfl, by rw [ht]; exact hP, va_K.moved hW.alike hK, hD⟩, hS.F ht⟩) hS.2.2 dX6_gold_22
  · have h := ul_if_t hc2 h
    refine lv_iconst (v := -1) hx hb dX6_gold_8 (by decide) ?_
    have hr9 := hK0 ((-1 : Int32), T) h
    subst hr9
    exact W.iret (v := (-1 : Int32)) hx hb hr (fun t ht hW => ⟨⟨(-1 : Int32), (), rfl, rfl, by rw [ht]; exact hP, va_K.moved hW.alike hK, hD⟩, hS.F ht⟩) hS.2.2 dX6_gold_9
def f_X6_lost (K : ul_S) (N : ul_S) (T : ul_S) (p1 : Int32) : Option (Int32 × ul_S) :=
  (f_X6_isPerson K p1).bind fun u1 => if u1 = 0 then (some ((-1 : Int32), T)) else ((f_X1_daysToNothing N T K p1).bind fun u3 => some (u3.1, u3.2))
set_option maxHeartbeats 4000000 in
set_option maxRecDepth 100000 in
theorem c_X6_lost (l : Launch) (dC : Nat → ClassId) (dI : Nat → Nat → Nat) (cI : ClassId) (cZ : ClassId) (cO : ClassId) (aU : Nat → Nat) (aL : Nat → Nat) (aD : Nat → Nat) (aK : Nat → Nat) (aN : Nat → Nat) (aT : Nat → Nat) (aJ : Nat → Nat) (aE : Nat → Nat) (aF : Nat → Nat) (aP : Nat → Nat → Nat) (aB : Nat → Nat → Nat) (sz : Nat) (U : ul_S) (d : Int64) (L : ul_S) (D : ul_S) (K : ul_S) (N : ul_S) (T : ul_S) (J : ul_S) (E : ul_S) (F : ul_S) (P : ul_F) (B : ul_F) (p1 : Int32) (r : (Int32 × ul_S)) (h : f_X6_lost K N T p1 = some r) : Met l yX6_lost wsX6_lost ({ frames := 5, cells := 0, slots := 0, locals := 131 }) (va_Pc [.ref (aU 0), .int p1] (ul_pre (dC, dI) [(cI, .int), (cZ, .boolean), (cO, .object RX4)] ul_NX sz ([ul_wU cZ cO aU (aL 0) (aD 0) (aK 0) (aN 0) (aT 0) (aJ 0) (aE 0) (aF 0) aP U d, ul_wL cI aL L, ul_wK cI aD D, ul_wK cI aK K, ul_wS cI aN (aK 0) N, ul_wS cI aT (aK 0) T, ul_wJ cO aJ aB J, ul_wE cI aE E, ul_wG cI aF (aK 0) (aN 0) (aT 0) F, ul_wB cI aP (aK 0) 2 P, ul_wB cI aB (aK 0) 14 B] : List va_W).flatten)) (va_Qi (fun v (_ : Unit) => v = r.1) (fun _ => ul_post (dC, dI) [(cI, .int), (cZ, .boolean), (cO, .object RX4)] (va_A ([ul_wU cZ cO aU (aL 0) (aD 0) (aK 0) (aN 0) (aT 0) (aJ 0) (aE 0) (aF 0) aP U d, ul_wL cI aL L, ul_wK cI aD D, ul_wK cI aK K, ul_wS cI aN (aK 0) N, ul_wS cI aT (aK 0) T, ul_wJ cO aJ aB J, ul_wE cI aE E, ul_wG cI aF (aK 0) (aN 0) (aT 0) F, ul_wB cI aP (aK 0) 2 P, ul_wB cI aB (aK 0) 14 B] : List va_W).flatten sz) ([ul_wU cZ cO aU (aL 0) (aD 0) (aK 0) (aN 0) (aT 0) (aJ 0) (aE 0) (aF 0) aP U d, ul_wL cI aL L, ul_wK cI aD D, ul_wK cI aK K, ul_wS cI aN (aK 0) N, ul_wS cI aT (aK 0) r.2, ul_wJ cO aJ aB J, ul_wE cI aE E, ul_wG cI aF (aK 0) (aN 0) (aT 0) F, ul_wB cI aP (aK 0) 2 P, ul_wB cI aB (aK 0) 14 B] : List va_W).flatten) (va_A ([ul_wU cZ cO aU (aL 0) (aD 0) (aK 0) (aN 0) (aT 0) (aJ 0) (aE 0) (aF 0) aP U d, ul_wL cI aL L, ul_wK cI aD D, ul_wK cI aK K, ul_wS cI aN (aK 0) N, ul_wS cI aT (aK 0) T, ul_wJ cO aJ aB J, ul_wE cI aE E, ul_wG cI aF (aK 0) (aN 0) (aT 0) F, ul_wB cI aP (aK 0) 2 P, ul_wB cI aB (aK 0) 14 B] : List va_W).flatten sz)) 0 0 (va_A ([ul_wU cZ cO aU (aL 0) (aD 0) (aK 0) (aN 0) (aT 0) (aJ 0) (aE 0) (aF 0) aP U d, ul_wL cI aL L, ul_wK cI aD D, ul_wK cI aK K, ul_wS cI aN (aK 0) N, ul_wS cI aT (aK 0) T, ul_wJ cO aJ aB J, ul_wE cI aE E, ul_wG cI aF (aK 0) (aN 0) (aT 0) F, ul_wB cI aP (aK 0) 2 P, ul_wB cI aB (aK 0) 14 B] : List va_W).flatten sz) := by
  refine Met.ofW (cc := cX6_lost) (maxL := 2) (ret := (some .int)) (by decide) rfl ?_
  intro p e s m args below meth c s₁ BB hml hv
  obtain ⟨rfl, hsz, hP, hK, hD0, hN⟩ := hv
  have hx := BB.exec
  have hb := BB.bytes
  have hr := BB.returns
  have hts := atoms_spec (ws := wsX6_lost) BB.pre
  have hown : s.vm.findClass RX6 = some m.cls := findClass_of_methodNamed BB.named
  have hlocks := BB.notSynchronized
  have hin6 : ∀ w ∈ u_ws RX6 TX6 11, w ∈ wsX6_lost := by decide +kernel
  subst hsz
  have hD := hD0.self (sz := s.heap.size)
  generalize hAe : va_A ([ul_wU cZ cO aU (aL 0) (aD 0) (aK 0) (aN 0) (aT 0) (aJ 0) (aE 0) (aF 0) aP U d, ul_wL cI aL L, ul_wK cI aD D, ul_wK cI aK K, ul_wS cI aN (aK 0) N, ul_wS cI aT (aK 0) T, ul_wJ cO aJ aB J, ul_wE cI aE E, ul_wG cI aF (aK 0) (aN 0) (aT 0) F, ul_wB cI aP (aK 0) 2 P, ul_wB cI aB (aK 0) 14 B] : List va_W).flatten s.heap.size = A at hD hN ⊢
  have hA : ∀ q : Nat, s.heap.size ≤ q → A q := fun q h => by rw [← hAe]; exact Or.inr h
  have hS : va_S A s.heap s.heap [] := va_S.rf
  have hl := lv_entry ([.ref (aU 0), .int p1]) (n := 2) (Nat.le_of_ble_eq_true rfl)
  rw [lg_entry_eq]
  generalize (lg_sl ([.ref (aU 0), .int p1]) ++ List.replicate (2 - (lg_sl ([.ref (aU 0), .int p1])).length) Slot.unset).toArray = ls at hl ⊢
  have hl : lv_has ls 2 [(0, .ref (aU 0)), (1, .int p1)] := hl
  obtain ⟨K0, hK0, h⟩ := ul_top h
  unfold f_X6_lost at h
  refine ul_gen (fun G gi ge => ?_)
  obtain ⟨H, eH⟩ : ∃ z, z = s.heap := ⟨_, rfl⟩
  obtain ⟨locs, eL⟩ : ∃ z : List Loc, z = [] := ⟨_, rfl⟩
  have hP : va_P (dC, dI) classes ([ul_wU cZ cO aU (aL 0) (aD 0) (aK 0) (aN 0) (aT 0) (aJ 0) (aE 0) (aF 0) aP U d, ul_wL cI aL L, ul_wK cI aD D, ul_wK cI aK K, ul_wS cI aN (aK 0) N, ul_wS cI aT (aK 0) T, ul_wJ cO aJ aB J, ul_wE cI aE E, ul_wG cI aF (aK 0) (aN 0) (aT 0) F, ul_wB cI aP (aK 0) 2 P, ul_wB cI aB (aK 0) 14 B] : List va_W).flatten H := by rw [eH]; exact hP
  have hS : va_S A s.heap H locs := by rw [eH, eL]; exact hS
  rw [← eL]
  refine (show G H locs (F0 m 0 ls []) → G s.heap locs (F0 m 0 ls []) from fun z => by rw [← eH]; exact z) ?_
  refine gi _ _ _ ?_
  refine lv_aload_n hx hb dX6_lost_0 rfl (lv_at hl 0 rfl) ?_
  refine lv_iload_n hx hb dX6_lost_1 rfl (lv_at hl 1 rfl) ?_
  obtain ⟨u1, hu1, h⟩ := ul_cl_h h
  refine ul_cPi (As := [.int p1]) (rest := []) (wc := ([ul_wU cZ cO aU (aL 0) (aD 0) (aK 0) (aN 0) (aT 0) (aJ 0) (aE 0) (aF 0) aP U d, ul_wL cI aL L, ul_wK cI aD D, ul_wK cI aK K, ul_wS cI aN (aK 0) N, ul_wS cI aT (aK 0) T, ul_wJ cO aJ aB J, ul_wE cI aE E, ul_wG cI aF (aK 0) (aN 0) (aT 0) F, ul_wB cI aP (aK 0) 2 P, ul_wB cI aB (aK 0) 14 B] : List va_W).flatten) (wc' := ([ul_wU cZ cO aU (aL 0) (aD 0) (aK 0) (aN 0) (aT 0) (aJ 0) (aE 0) (aF 0) aP U d, ul_wL cI aL L, ul_wK cI aD D, ul_wK cI aK K, ul_wS cI aN (aK 0) N, ul_wS cI aT (aK 0) T, ul_wJ cO aJ aB J, ul_wE cI aE E, ul_wG cI aF (aK 0) (aN 0) (aT 0) F, ul_wB cI aP (aK 0) 2 P, ul_wB cI aB (aK 0) 14 B] : List va_W).flatten) (wr := ([] : List va_W).flatten) hP hD hS hK hA [0, 1, 2] ul_NX_ok hN (c_X6_isPerson l dC dI cI cZ cO aU aL aD aK aN aT aJ aE aF aP aB H.size U d L D K N T J E F P B p1 u1 hu1) (ul_pmq (bs := [ul_wU cZ cO aU (aL 0) (aD 0) (aK 0) (aN 0) (aT 0) (aJ 0) (aE 0) (aF 0) aP U d, ul_wL cI aL L, ul_wK cI aD D, ul_wK cI aK K, ul_wS cI aN (aK 0) N, ul_wS cI aT (aK 0) T, ul_wJ cO aJ aB J, ul_wE cI aE E, ul_wG cI aF (aK 0) (aN 0) (aT 0) F, ul_wB cI aP (aK 0) 2 P, ul_wB cI aB (aK 0) 14 B]) [0, 1, 2, 3, 4, 5, 6, 7, 8, 9, 10] (by show List.Perm _ (List.range 11); decide) (by simp only [List.map_cons, List.map_nil, List.getD_cons_zero, List.getD_cons_succ, List.flatten_cons, List.flatten_nil, List.append_nil, List.nil_append, List.append_assoc])) rfl ⟨hx, hb, hml, hown, hts⟩ (cwV 1 hts gX6_lost_X6_isPerson rfl rfl rfl (by decide +kernel) ⟨Nat.le_of_ble_eq_true rfl, Nat.le_of_ble_eq_true rfl⟩) (va_recv hK hP (ci := 6) (q0 := 0) rfl rfl) rfl hl.1 rfl (Nat.le_of_ble_eq_true rfl) dX6_lost_2 (fun H locs hw => ?_)
  have hw := hw.pm (ul_pmq (bs := [ul_wU cZ cO aU (aL 0) (aD 0) (aK 0) (aN 0) (aT 0) (aJ 0) (aE 0) (aF 0) aP U d, ul_wL cI aL L, ul_wK cI aD D, ul_wK cI aK K, ul_wS cI aN (aK 0) N, ul_wS cI aT (aK 0) T, ul_wJ cO aJ aB J, ul_wE cI aE E, ul_wG cI aF (aK 0) (aN 0) (aT 0) F, ul_wB cI aP (aK 0) 2 P, ul_wB cI aB (aK 0) 14 B]) [0, 1, 2, 3, 4, 5, 6, 7, 8, 9, 10] (by show List.Perm _ (List.range 11); decide) (by simp only [List.map_cons, List.map_nil, List.getD_cons_zero, List.getD_cons_succ, List.flatten_cons, List.flatten_nil, List.append_nil, List.nil_append, List.append_assoc])).symm
  obtain ⟨hP, hD, hS⟩ := hw
  have hP : va_P (dC, dI) classes ([ul_wU cZ cO aU (aL 0) (aD 0) (aK 0) (aN 0) (aT 0) (aJ 0) (aE 0) (aF 0) aP U d, ul_wL cI aL L, ul_wK cI aD D, ul_wK cI aK K, ul_wS cI aN (aK 0) N, ul_wS cI aT (aK 0) T, ul_wJ cO aJ aB J, ul_wE cI aE E, ul_wG cI aF (aK 0) (aN 0) (aT 0) F, ul_wB cI aP (aK 0) 2 P, ul_wB cI aB (aK 0) 14 B] : List va_W).flatten H := hP
  have hD : va_D A ([ul_wU cZ cO aU (aL 0) (aD 0) (aK 0) (aN 0) (aT 0) (aJ 0) (aE 0) (aF 0) aP U d, ul_wL cI aL L, ul_wK cI aD D, ul_wK cI aK K, ul_wS cI aN (aK 0) N, ul_wS cI aT (aK 0) T, ul_wJ cO aJ aB J, ul_wE cI aE E, ul_wG cI aF (aK 0) (aN 0) (aT 0) F, ul_wB cI aP (aK 0) 2 P, ul_wB cI aB (aK 0) 14 B] : List va_W).flatten := hD
  refine lv_if_eq (tgt := 19) hx hb dX6_lost_5 (by decide) (fun hc2 => ?_) (fun hc2 => ?_)
  · have h := ul_if_t hc2 h
    refine lv_iconst (v := -1) hx hb dX6_lost_19 (by decide) ?_
    have hr9 := hK0 ((-1 : Int32), T) h
    subst hr9
    exact W.iret (v := (-1 : Int32)) hx hb hr (fun t ht hW => ⟨⟨(-1 : Int32), (), rfl, rfl, by rw [ht]; exact hP, va_K.moved hW.alike hK, hD⟩, hS.F ht⟩) hS.2.2 dX6_lost_20
  · have h := ul_if_f hc2 h
    refine lv_aload_n hx hb dX6_lost_8 rfl (lv_at hl 0 rfl) ?_
    refine va_get (D := (dC, dI)) (ci := 6) (v := .ref (aF 0)) (C := RX6) (T := TX6) (N := 11) hx hb hts hin6 hown hK hP 0 rfl rfl 7 (by decide) (hts (.fieldLink RX6 57 "UnderLadders" "forecast" "LUnderLadders$Forecast;") (by decide +kernel)) (fun _ h9 => h9) rfl dX6_lost_9 ?_
    refine lv_iload_n hx hb dX6_lost_12 rfl (lv_at hl 1 rfl) ?_
    obtain ⟨u3, hu3, h⟩ := ul_cl_h h
    refine ul_cPi (As := [.int p1]) (rest := []) (wc := (ul_wG cI aF (aK 0) (aN 0) (aT 0) F ++ ul_wS cI aN (aK 0) N ++ ul_wS cI aT (aK 0) T ++ ul_wK cI aK K)) (wc' := (ul_wG cI aF (aK 0) (aN 0) (aT 0) F ++ ul_wS cI aN (aK 0) N ++ ul_wS cI aT (aK 0) u3.2 ++ ul_wK cI aK K)) (wr := ([ul_wU cZ cO aU (aL 0) (aD 0) (aK 0) (aN 0) (aT 0) (aJ 0) (aE 0) (aF 0) aP U d, ul_wL cI aL L, ul_wK cI aD D, ul_wJ cO aJ aB J, ul_wE cI aE E, ul_wB cI aP (aK 0) 2 P, ul_wB cI aB (aK 0) 14 B] : List va_W).flatten) hP hD hS hK hA [0] ul_NX_ok hN (c_X1_daysToNothing l dC dI cI aF aN aT aK H.size F N T K p1 u3 hu3) (ul_pmq (bs := [ul_wU cZ cO aU (aL 0) (aD 0) (aK 0) (aN 0) (aT 0) (aJ 0) (aE 0) (aF 0) aP U d, ul_wL cI aL L, ul_wK cI aD D, ul_wK cI aK K, ul_wS cI aN (aK 0) N, ul_wS cI aT (aK 0) T, ul_wJ cO aJ aB J, ul_wE cI aE E, ul_wG cI aF (aK 0) (aN 0) (aT 0) F, ul_wB cI aP (aK 0) 2 P, ul_wB cI aB (aK 0) 14 B]) [8, 4, 5, 3, 0, 1, 2, 6, 7, 9, 10] (by show List.Perm _ (List.range 11); decide) (by simp only [List.map_cons, List.map_nil, List.getD_cons_zero, List.getD_cons_succ, List.flatten_cons, List.flatten_nil, List.append_nil, List.nil_append, List.append_assoc])) rfl ⟨hx, hb, hml, hown, hts⟩ (cwV 1 hts gX6_lost_X1_daysToNothing rfl rfl rfl (by decide +kernel) ⟨Nat.le_of_ble_eq_true rfl, Nat.le_of_ble_eq_true rfl⟩) (va_recv hK hP (ci := 1) (q0 := 40) rfl rfl) rfl hl.1 rfl (Nat.le_of_ble_eq_true rfl) dX6_lost_13 (fun H locs hw => ?_)
    have hw := hw.pm (ul_pmq (bs := [ul_wU cZ cO aU (aL 0) (aD 0) (aK 0) (aN 0) (aT 0) (aJ 0) (aE 0) (aF 0) aP U d, ul_wL cI aL L, ul_wK cI aD D, ul_wK cI aK K, ul_wS cI aN (aK 0) N, ul_wS cI aT (aK 0) u3.2, ul_wJ cO aJ aB J, ul_wE cI aE E, ul_wG cI aF (aK 0) (aN 0) (aT 0) F, ul_wB cI aP (aK 0) 2 P, ul_wB cI aB (aK 0) 14 B]) [0, 1, 2, 6, 7, 9, 10, 8, 4, 5, 3] (by show List.Perm _ (List.range 11); decide) (by simp only [List.map_cons, List.map_nil, List.getD_cons_zero, List.getD_cons_succ, List.flatten_cons, List.flatten_nil, List.append_nil, List.nil_append, List.append_assoc])).symm
    obtain ⟨hP, hD, hS⟩ := hw
    have hP : va_P (dC, dI) classes ([ul_wU cZ cO aU (aL 0) (aD 0) (aK 0) (aN 0) (aT 0) (aJ 0) (aE 0) (aF 0) aP U d, ul_wL cI aL L, ul_wK cI aD D, ul_wK cI aK K, ul_wS cI aN (aK 0) N, ul_wS cI aT (aK 0) u3.2, ul_wJ cO aJ aB J, ul_wE cI aE E, ul_wG cI aF (aK 0) (aN 0) (aT 0) F, ul_wB cI aP (aK 0) 2 P, ul_wB cI aB (aK 0) 14 B] : List va_W).flatten H := hP
    have hD : va_D A ([ul_wU cZ cO aU (aL 0) (aD 0) (aK 0) (aN 0) (aT 0) (aJ 0) (aE 0) (aF 0) aP U d, ul_wL cI aL L, ul_wK cI aD D, ul_wK cI aK K, ul_wS cI aN (aK 0) N, ul_wS cI aT (aK 0) u3.2, ul_wJ cO aJ aB J, ul_wE cI aE E, ul_wG cI aF (aK 0) (aN 0) (aT 0) F, ul_wB cI aP (aK 0) 2 P, ul_wB cI aB (aK 0) 14 B] : List va_W).flatten := hD
    refine lv_goto (tgt := 20) hx hb dX6_lost_16 (by decide) ?_
    have hr9 := hK0 (u3.1, u3.2) h
    subst hr9
    exact W.iret (v := u3.1) hx hb hr (fun t ht hW => ⟨⟨u3.1, (), rfl, rfl, by rw [ht]; exact hP, va_K.moved hW.alike hK, hD⟩, hS.F ht⟩) hS.2.2 dX6_lost_20
def f_X6_spot (K : ul_S) (N : ul_S) (T : ul_S) (F : ul_S) (p1 : Int32) (p2 : Int32) : Option (Int32 × ul_S × ul_S) :=
  (f_X6_isLadder K p1).bind fun u1 => if u1 = 0 then (some ((-1 : Int32), T, F)) else (if p2 < 0 then (some ((-2 : Int32), T, F)) else (if p2 ≤ (1 : Int32) then ((f_X1_findSpot F N T K p1).bind fun u5 => if p2 = 0 then (some ((u5.1 0 0), u5.2, u5.1)) else (some ((u5.1 0 1), u5.2, u5.1))) else (some ((-2 : Int32), T, F))))
set_option maxHeartbeats 4000000 in
set_option maxRecDepth 100000 in
theorem c_X6_spot (l : Launch) (dC : Nat → ClassId) (dI : Nat → Nat → Nat) (cI : ClassId) (cZ : ClassId) (cO : ClassId) (aU : Nat → Nat) (aL : Nat → Nat) (aD : Nat → Nat) (aK : Nat → Nat) (aN : Nat → Nat) (aT : Nat → Nat) (aJ : Nat → Nat) (aE : Nat → Nat) (aF : Nat → Nat) (aP : Nat → Nat → Nat) (aB : Nat → Nat → Nat) (sz : Nat) (U : ul_S) (d : Int64) (L : ul_S) (D : ul_S) (K : ul_S) (N : ul_S) (T : ul_S) (J : ul_S) (E : ul_S) (F : ul_S) (P : ul_F) (B : ul_F) (p1 : Int32) (p2 : Int32) (r : (Int32 × ul_S × ul_S)) (h : f_X6_spot K N T F p1 p2 = some r) : Met l yX6_spot wsX6_spot ({ frames := 6, cells := 0, slots := 0, locals := 157 }) (va_Pc [.ref (aU 0), .int p1, .int p2] (ul_pre (dC, dI) [(cI, .int), (cZ, .boolean), (cO, .object RX4)] ul_NX sz ([ul_wU cZ cO aU (aL 0) (aD 0) (aK 0) (aN 0) (aT 0) (aJ 0) (aE 0) (aF 0) aP U d, ul_wL cI aL L, ul_wK cI aD D, ul_wK cI aK K, ul_wS cI aN (aK 0) N, ul_wS cI aT (aK 0) T, ul_wJ cO aJ aB J, ul_wE cI aE E, ul_wG cI aF (aK 0) (aN 0) (aT 0) F, ul_wB cI aP (aK 0) 2 P, ul_wB cI aB (aK 0) 14 B] : List va_W).flatten)) (va_Qi (fun v (_ : Unit) => v = r.1) (fun _ => ul_post (dC, dI) [(cI, .int), (cZ, .boolean), (cO, .object RX4)] (va_A ([ul_wU cZ cO aU (aL 0) (aD 0) (aK 0) (aN 0) (aT 0) (aJ 0) (aE 0) (aF 0) aP U d, ul_wL cI aL L, ul_wK cI aD D, ul_wK cI aK K, ul_wS cI aN (aK 0) N, ul_wS cI aT (aK 0) T, ul_wJ cO aJ aB J, ul_wE cI aE E, ul_wG cI aF (aK 0) (aN 0) (aT 0) F, ul_wB cI aP (aK 0) 2 P, ul_wB cI aB (aK 0) 14 B] : List va_W).flatten sz) ([ul_wU cZ cO aU (aL 0) (aD 0) (aK 0) (aN 0) (aT 0) (aJ 0) (aE 0) (aF 0) aP U d, ul_wL cI aL L, ul_wK cI aD D, ul_wK cI aK K, ul_wS cI aN (aK 0) N, ul_wS cI aT (aK 0) r.2.1, ul_wJ cO aJ aB J, ul_wE cI aE E, ul_wG cI aF (aK 0) (aN 0) (aT 0) r.2.2, ul_wB cI aP (aK 0) 2 P, ul_wB cI aB (aK 0) 14 B] : List va_W).flatten) (va_A ([ul_wU cZ cO aU (aL 0) (aD 0) (aK 0) (aN 0) (aT 0) (aJ 0) (aE 0) (aF 0) aP U d, ul_wL cI aL L, ul_wK cI aD D, ul_wK cI aK K, ul_wS cI aN (aK 0) N, ul_wS cI aT (aK 0) T, ul_wJ cO aJ aB J, ul_wE cI aE E, ul_wG cI aF (aK 0) (aN 0) (aT 0) F, ul_wB cI aP (aK 0) 2 P, ul_wB cI aB (aK 0) 14 B] : List va_W).flatten sz)) 0 0 (va_A ([ul_wU cZ cO aU (aL 0) (aD 0) (aK 0) (aN 0) (aT 0) (aJ 0) (aE 0) (aF 0) aP U d, ul_wL cI aL L, ul_wK cI aD D, ul_wK cI aK K, ul_wS cI aN (aK 0) N, ul_wS cI aT (aK 0) T, ul_wJ cO aJ aB J, ul_wE cI aE E, ul_wG cI aF (aK 0) (aN 0) (aT 0) F, ul_wB cI aP (aK 0) 2 P, ul_wB cI aB (aK 0) 14 B] : List va_W).flatten sz) := by
  refine Met.ofW (cc := cX6_spot) (maxL := 3) (ret := (some .int)) (by decide) rfl ?_
  intro p e s m args below meth c s₁ BB hml hv
  obtain ⟨rfl, hsz, hP, hK, hD0, hN⟩ := hv
  have hx := BB.exec
  have hb := BB.bytes
  have hr := BB.returns
  have hts := atoms_spec (ws := wsX6_spot) BB.pre
  have hown : s.vm.findClass RX6 = some m.cls := findClass_of_methodNamed BB.named
  have hlocks := BB.notSynchronized
  have hin1 : ∀ w ∈ u_ws RX1 TX1 9, w ∈ wsX6_spot := by decide +kernel
  have hin6 : ∀ w ∈ u_ws RX6 TX6 11, w ∈ wsX6_spot := by decide +kernel
  subst hsz
  have hD := hD0.self (sz := s.heap.size)
  generalize hAe : va_A ([ul_wU cZ cO aU (aL 0) (aD 0) (aK 0) (aN 0) (aT 0) (aJ 0) (aE 0) (aF 0) aP U d, ul_wL cI aL L, ul_wK cI aD D, ul_wK cI aK K, ul_wS cI aN (aK 0) N, ul_wS cI aT (aK 0) T, ul_wJ cO aJ aB J, ul_wE cI aE E, ul_wG cI aF (aK 0) (aN 0) (aT 0) F, ul_wB cI aP (aK 0) 2 P, ul_wB cI aB (aK 0) 14 B] : List va_W).flatten s.heap.size = A at hD hN ⊢
  have hA : ∀ q : Nat, s.heap.size ≤ q → A q := fun q h => by rw [← hAe]; exact Or.inr h
  have hS : va_S A s.heap s.heap [] := va_S.rf
  have hl := lv_entry ([.ref (aU 0), .int p1, .int p2]) (n := 3) (Nat.le_of_ble_eq_true rfl)
  rw [lg_entry_eq]
  generalize (lg_sl ([.ref (aU 0), .int p1, .int p2]) ++ List.replicate (3 - (lg_sl ([.ref (aU 0), .int p1, .int p2])).length) Slot.unset).toArray = ls at hl ⊢
  have hl : lv_has ls 3 [(0, .ref (aU 0)), (1, .int p1), (2, .int p2)] := hl
  obtain ⟨K0, hK0, h⟩ := ul_top h
  unfold f_X6_spot at h
  refine ul_gen (fun G gi ge => ?_)
  obtain ⟨H, eH⟩ : ∃ z, z = s.heap := ⟨_, rfl⟩
  obtain ⟨locs, eL⟩ : ∃ z : List Loc, z = [] := ⟨_, rfl⟩
  have hP : va_P (dC, dI) classes ([ul_wU cZ cO aU (aL 0) (aD 0) (aK 0) (aN 0) (aT 0) (aJ 0) (aE 0) (aF 0) aP U d, ul_wL cI aL L, ul_wK cI aD D, ul_wK cI aK K, ul_wS cI aN (aK 0) N, ul_wS cI aT (aK 0) T, ul_wJ cO aJ aB J, ul_wE cI aE E, ul_wG cI aF (aK 0) (aN 0) (aT 0) F, ul_wB cI aP (aK 0) 2 P, ul_wB cI aB (aK 0) 14 B] : List va_W).flatten H := by rw [eH]; exact hP
  have hS : va_S A s.heap H locs := by rw [eH, eL]; exact hS
  rw [← eL]
  refine (show G H locs (F0 m 0 ls []) → G s.heap locs (F0 m 0 ls []) from fun z => by rw [← eH]; exact z) ?_
  refine gi _ _ _ ?_
  refine lv_aload_n hx hb dX6_spot_0 rfl (lv_at hl 0 rfl) ?_
  refine lv_iload_n hx hb dX6_spot_1 rfl (lv_at hl 1 rfl) ?_
  obtain ⟨u1, hu1, h⟩ := ul_cl_h h
  refine ul_cPi (As := [.int p1]) (rest := []) (wc := ([ul_wU cZ cO aU (aL 0) (aD 0) (aK 0) (aN 0) (aT 0) (aJ 0) (aE 0) (aF 0) aP U d, ul_wL cI aL L, ul_wK cI aD D, ul_wK cI aK K, ul_wS cI aN (aK 0) N, ul_wS cI aT (aK 0) T, ul_wJ cO aJ aB J, ul_wE cI aE E, ul_wG cI aF (aK 0) (aN 0) (aT 0) F, ul_wB cI aP (aK 0) 2 P, ul_wB cI aB (aK 0) 14 B] : List va_W).flatten) (wc' := ([ul_wU cZ cO aU (aL 0) (aD 0) (aK 0) (aN 0) (aT 0) (aJ 0) (aE 0) (aF 0) aP U d, ul_wL cI aL L, ul_wK cI aD D, ul_wK cI aK K, ul_wS cI aN (aK 0) N, ul_wS cI aT (aK 0) T, ul_wJ cO aJ aB J, ul_wE cI aE E, ul_wG cI aF (aK 0) (aN 0) (aT 0) F, ul_wB cI aP (aK 0) 2 P, ul_wB cI aB (aK 0) 14 B] : List va_W).flatten) (wr := ([] : List va_W).flatten) hP hD hS hK hA [0, 1, 2] ul_NX_ok hN (c_X6_isLadder l dC dI cI cZ cO aU aL aD aK aN aT aJ aE aF aP aB H.size U d L D K N T J E F P B p1 u1 hu1) (ul_pmq (bs := [ul_wU cZ cO aU (aL 0) (aD 0) (aK 0) (aN 0) (aT 0) (aJ 0) (aE 0) (aF 0) aP U d, ul_wL cI aL L, ul_wK cI aD D, ul_wK cI aK K, ul_wS cI aN (aK 0) N, ul_wS cI aT (aK 0) T, ul_wJ cO aJ aB J, ul_wE cI aE E, ul_wG cI aF (aK 0) (aN 0) (aT 0) F, ul_wB cI aP (aK 0) 2 P, ul_wB cI aB (aK 0) 14 B]) [0, 1, 2, 3, 4, 5, 6, 7, 8, 9, 10] (by show List.Perm _ (List.range 11); decide) (by simp only [List.map_cons, List.map_nil, List.getD_cons_zero, List.getD_cons_succ, List.flatten_cons, List.flatten_nil, List.append_nil, List.nil_append, List.append_assoc])) rfl ⟨hx, hb, hml, hown, hts⟩ (cwV 1 hts gX6_spot_X6_isLadder rfl rfl rfl (by decide +kernel) ⟨Nat.le_of_ble_eq_true rfl, Nat.le_of_ble_eq_true rfl⟩) (va_recv hK hP (ci := 6) (q0 := 0) rfl rfl) rfl hl.1 rfl (Nat.le_of_ble_eq_true rfl) dX6_spot_2 (fun H locs hw => ?_)
  have hw := hw.pm (ul_pmq (bs := [ul_wU cZ cO aU (aL 0) (aD 0) (aK 0) (aN 0) (aT 0) (aJ 0) (aE 0) (aF 0) aP U d, ul_wL cI aL L, ul_wK cI aD D, ul_wK cI aK K, ul_wS cI aN (aK 0) N, ul_wS cI aT (aK 0) T, ul_wJ cO aJ aB J, ul_wE cI aE E, ul_wG cI aF (aK 0) (aN 0) (aT 0) F, ul_wB cI aP (aK 0) 2 P, ul_wB cI aB (aK 0) 14 B]) [0, 1, 2, 3, 4, 5, 6, 7, 8, 9, 10] (by show List.Perm _ (List.range 11); decide) (by simp only [List.map_cons, List.map_nil, List.getD_cons_zero, List.getD_cons_succ, List.flatten_cons, List.flatten_nil, List.append_nil, List.nil_append, List.append_assoc])).symm
  obtain ⟨hP, hD, hS⟩ := hw
  have hP : va_P (dC, dI) classes ([ul_wU cZ cO aU (aL 0) (aD 0) (aK 0) (aN 0) (aT 0) (aJ 0) (aE 0) (aF 0) aP U d, ul_wL cI aL L, ul_wK cI aD D, ul_wK cI aK K, ul_wS cI aN (aK 0) N, ul_wS cI aT (aK 0) T, ul_wJ cO aJ aB J, ul_wE cI aE E, ul_wG cI aF (aK 0) (aN 0) (aT 0) F, ul_wB cI aP (aK 0) 2 P, ul_wB cI aB (aK 0) 14 B] : List va_W).flatten H := hP
  have hD : va_D A ([ul_wU cZ cO aU (aL 0) (aD 0) (aK 0) (aN 0) (aT 0) (aJ 0) (aE 0) (aF 0) aP U d, ul_wL cI aL L, ul_wK cI aD D, ul_wK cI aK K, ul_wS cI aN (aK 0) N, ul_wS cI aT (aK 0) T, ul_wJ cO aJ aB J, ul_wE cI aE E, ul_wG cI aF (aK 0) (aN 0) (aT 0) F, ul_wB cI aP (aK 0) 2 P, ul_wB cI aB (aK 0) 14 B] : List va_W).flatten := hD
  refine lv_if_ne (tgt := 10) hx hb dX6_spot_5 (by decide) (fun hc2 => ?_) (fun hc2 => ?_)
  · have h := ul_if_f hc2 h
    refine lv_iload_n hx hb dX6_spot_10 rfl (lv_at hl 2 rfl) ?_
    refine lv_if_lt (tgt := 19) hx hb dX6_spot_11 (by decide) (fun hc3 => ?_) (fun hc3 => ?_)
    · have h := ul_if_t hc3 h
      refine lv_bipush (v := -2) hx hb dX6_spot_19 (by decide) ?_
      have hr9 := hK0 ((-2 : Int32), T, F) h
      subst hr9
      exact W.iret (v := (-2 : Int32)) hx hb hr (fun t ht hW => ⟨⟨(-2 : Int32), (), rfl, rfl, by rw [ht]; exact hP, va_K.moved hW.alike hK, hD⟩, hS.F ht⟩) hS.2.2 dX6_spot_21
    · have h := ul_if_f hc3 h
      refine lv_iload_n hx hb dX6_spot_14 rfl (lv_at hl 2 rfl) ?_
      refine lv_iconst (v := 1) hx hb dX6_spot_15 (by decide) ?_
      refine lv_icmp_le (tgt := 22) hx hb dX6_spot_16 (by decide) (fun hc4 => ?_) (fun hc4 => ?_)
      · have h := ul_if_t hc4 h
        refine lv_aload_n hx hb dX6_spot_22 rfl (lv_at hl 0 rfl) ?_
        refine va_get (D := (dC, dI)) (ci := 6) (v := .ref (aF 0)) (C := RX6) (T := TX6) (N := 11) hx hb hts hin6 hown hK hP 0 rfl rfl 7 (by decide) (hts (.fieldLink RX6 57 "UnderLadders" "forecast" "LUnderLadders$Forecast;") (by decide +kernel)) (fun _ h9 => h9) rfl dX6_spot_23 ?_
        refine lv_iload_n hx hb dX6_spot_26 rfl (lv_at hl 1 rfl) ?_
        obtain ⟨u5, hu5, h⟩ := ul_cl_h h
        refine ul_cPv (As := [.int p1]) (rest := []) (wc := (ul_wG cI aF (aK 0) (aN 0) (aT 0) F ++ ul_wS cI aN (aK 0) N ++ ul_wS cI aT (aK 0) T ++ ul_wK cI aK K)) (wc' := (ul_wG cI aF (aK 0) (aN 0) (aT 0) u5.1 ++ ul_wS cI aN (aK 0) N ++ ul_wS cI aT (aK 0) u5.2 ++ ul_wK cI aK K)) (wr := ([ul_wU cZ cO aU (aL 0) (aD 0) (aK 0) (aN 0) (aT 0) (aJ 0) (aE 0) (aF 0) aP U d, ul_wL cI aL L, ul_wK cI aD D, ul_wJ cO aJ aB J, ul_wE cI aE E, ul_wB cI aP (aK 0) 2 P, ul_wB cI aB (aK 0) 14 B] : List va_W).flatten) hP hD hS hK hA [0] ul_NX_ok hN (c_X1_findSpot l dC dI cI aF aN aT aK H.size F N T K p1 u5 hu5) (ul_pmq (bs := [ul_wU cZ cO aU (aL 0) (aD 0) (aK 0) (aN 0) (aT 0) (aJ 0) (aE 0) (aF 0) aP U d, ul_wL cI aL L, ul_wK cI aD D, ul_wK cI aK K, ul_wS cI aN (aK 0) N, ul_wS cI aT (aK 0) T, ul_wJ cO aJ aB J, ul_wE cI aE E, ul_wG cI aF (aK 0) (aN 0) (aT 0) F, ul_wB cI aP (aK 0) 2 P, ul_wB cI aB (aK 0) 14 B]) [8, 4, 5, 3, 0, 1, 2, 6, 7, 9, 10] (by show List.Perm _ (List.range 11); decide) (by simp only [List.map_cons, List.map_nil, List.getD_cons_zero, List.getD_cons_succ, List.flatten_cons, List.flatten_nil, List.append_nil, List.nil_append, List.append_assoc])) rfl ⟨hx, hb, hml, hown, hts⟩ (cwV 1 hts gX6_spot_X1_findSpot rfl rfl rfl (by decide +kernel) ⟨Nat.le_of_ble_eq_true rfl, Nat.le_of_ble_eq_true rfl⟩) (va_recv hK hP (ci := 1) (q0 := 40) rfl rfl) rfl hl.1 rfl (Nat.le_of_ble_eq_true rfl) dX6_spot_27 (fun H locs hw => ?_)
        have hw := hw.pm (ul_pmq (bs := [ul_wU cZ cO aU (aL 0) (aD 0) (aK 0) (aN 0) (aT 0) (aJ 0) (aE 0) (aF 0) aP U d, ul_wL cI aL L, ul_wK cI aD D, ul_wK cI aK K, ul_wS cI aN (aK 0) N, ul_wS cI aT (aK 0) u5.2, ul_wJ cO aJ aB J, ul_wE cI aE E, ul_wG cI aF (aK 0) (aN 0) (aT 0) u5.1, ul_wB cI aP (aK 0) 2 P, ul_wB cI aB (aK 0) 14 B]) [0, 1, 2, 6, 7, 9, 10, 8, 4, 5, 3] (by show List.Perm _ (List.range 11); decide) (by simp only [List.map_cons, List.map_nil, List.getD_cons_zero, List.getD_cons_succ, List.flatten_cons, List.flatten_nil, List.append_nil, List.nil_append, List.append_assoc])).symm
        obtain ⟨hP, hD, hS⟩ := hw
        have hP : va_P (dC, dI) classes ([ul_wU cZ cO aU (aL 0) (aD 0) (aK 0) (aN 0) (aT 0) (aJ 0) (aE 0) (aF 0) aP U d, ul_wL cI aL L, ul_wK cI aD D, ul_wK cI aK K, ul_wS cI aN (aK 0) N, ul_wS cI aT (aK 0) u5.2, ul_wJ cO aJ aB J, ul_wE cI aE E, ul_wG cI aF (aK 0) (aN 0) (aT 0) u5.1, ul_wB cI aP (aK 0) 2 P, ul_wB cI aB (aK 0) 14 B] : List va_W).flatten H := hP
        have hD : va_D A ([ul_wU cZ cO aU (aL 0) (aD 0) (aK 0) (aN 0) (aT 0) (aJ 0) (aE 0) (aF 0) aP U d, ul_wL cI aL L, ul_wK cI aD D, ul_wK cI aK K, ul_wS cI aN (aK 0) N, ul_wS cI aT (aK 0) u5.2, ul_wJ cO aJ aB J, ul_wE cI aE E, ul_wG cI aF (aK 0) (aN 0) (aT 0) u5.1, ul_wB cI aP (aK 0) 2 P, ul_wB cI aB (aK 0) 14 B] : List va_W).flatten := hD
        refine lv_iload_n hx hb dX6_spot_30 rfl (lv_at hl 2 rfl) ?_
        refine lv_if_ne (tgt := 44) hx hb dX6_spot_31 (by decide) (fun hc6 => ?_) (fun hc6 => ?_)
        · have h := ul_if_f hc6 h
          refine lv_aload_n hx hb dX6_spot_44 rfl (lv_at hl 0 rfl) ?_
          refine va_get (D := (dC, dI)) (ci := 6) (v := .ref (aF 0)) (C := RX6) (T := TX6) (N := 11) hx hb hts hin6 hown hK hP 0 rfl rfl 7 (by decide) (hts (.fieldLink RX6 57 "UnderLadders" "forecast" "LUnderLadders$Forecast;") (by decide +kernel)) (fun _ h9 => h9) rfl dX6_spot_45 ?_
          refine va_getN (D := (dC, dI)) (ci := 1) (v := .int (u5.1 0 1)) (C := RX1) (T := TX1) (N := 9) hx hb hts hin1 hown hK hP 40 rfl rfl 8 (by decide) (va_Nw.use rfl (hN.1 (RX6, 180, "UnderLadders$Forecast", "bestWorth", "I") (by decide +kernel))) (fun _ h9 => h9) rfl dX6_spot_48 ?_
          have hr9 := hK0 ((u5.1 0 1), u5.2, u5.1) h
          subst hr9
          exact W.iret (v := (u5.1 0 1)) hx hb hr (fun t ht hW => ⟨⟨(u5.1 0 1), (), rfl, rfl, by rw [ht]; exact hP, va_K.moved hW.alike hK, hD⟩, hS.F ht⟩) hS.2.2 dX6_spot_51
        · have h := ul_if_t hc6 h
          refine lv_aload_n hx hb dX6_spot_34 rfl (lv_at hl 0 rfl) ?_
          refine va_get (D := (dC, dI)) (ci := 6) (v := .ref (aF 0)) (C := RX6) (T := TX6) (N := 11) hx hb hts hin6 hown hK hP 0 rfl rfl 7 (by decide) (hts (.fieldLink RX6 57 "UnderLadders" "forecast" "LUnderLadders$Forecast;") (by decide +kernel)) (fun _ h9 => h9) rfl dX6_spot_35 ?_
          refine va_getN (D := (dC, dI)) (ci := 1) (v := .int (u5.1 0 0)) (C := RX1) (T := TX1) (N := 9) hx hb hts hin1 hown hK hP 40 rfl rfl 7 (by decide) (va_Nw.use rfl (hN.1 (RX6, 177, "UnderLadders$Forecast", "best", "I") (by decide +kernel))) (fun _ h9 => h9) rfl dX6_spot_38 ?_
          refine lv_goto (tgt := 51) hx hb dX6_spot_41 (by decide) ?_
          have hr9 := hK0 ((u5.1 0 0), u5.2, u5.1) h
          subst hr9
          exact W.iret (v := (u5.1 0 0)) hx hb hr (fun t ht hW => ⟨⟨(u5.1 0 0), (), rfl, rfl, by rw [ht]; exact hP, va_K.moved hW.alike hK, hD⟩, hS.F ht⟩) hS.2.2 dX6_spot_51
      · have h := ul_if_f hc4 h
        refine lv_bipush (v := -2) hx hb dX6_spot_19 (by decide) ?_
        have hr9 := hK0 ((-2 : Int32), T, F) h
        subst hr9
        exact W.iret (v := (-2 : Int32)) hx hb hr (fun t ht hW => ⟨⟨(-2 : Int32), (), rfl, rfl, by rw [ht]; exact hP, va_K.moved hW.alike hK, hD⟩, hS.F ht⟩) hS.2.2 dX6_spot_21
  · have h := ul_if_t hc2 h
    refine lv_iconst (v := -1) hx hb dX6_spot_8 (by decide) ?_
    have hr9 := hK0 ((-1 : Int32), T, F) h
    subst hr9
    exact W.iret (v := (-1 : Int32)) hx hb hr (fun t ht hW => ⟨⟨(-1 : Int32), (), rfl, rfl, by rw [ht]; exact hP, va_K.moved hW.alike hK, hD⟩, hS.F ht⟩) hS.2.2 dX6_spot_9
def f_X6_round (K : ul_S) (N : ul_S) (F : ul_S) (p1 : Int32) (p2 : Int32) : Option (Int32 × ul_S) :=
  (f_X6_isPerson K p1).bind fun u1 => if u1 = 0 then (some ((-1 : Int32), F)) else (if p2 < 0 then (some ((-2 : Int32), F)) else (if p2 ≤ (1 : Int32) then ((f_X1_findRound F N K p1).bind fun u5 => if p2 = 0 then (some ((u5 0 0), u5)) else (some ((u5 0 1), u5))) else (some ((-2 : Int32), F))))
set_option maxHeartbeats 4000000 in
set_option maxRecDepth 100000 in
theorem c_X6_round (l : Launch) (dC : Nat → ClassId) (dI : Nat → Nat → Nat) (cI : ClassId) (cZ : ClassId) (cO : ClassId) (aU : Nat → Nat) (aL : Nat → Nat) (aD : Nat → Nat) (aK : Nat → Nat) (aN : Nat → Nat) (aT : Nat → Nat) (aJ : Nat → Nat) (aE : Nat → Nat) (aF : Nat → Nat) (aP : Nat → Nat → Nat) (aB : Nat → Nat → Nat) (sz : Nat) (U : ul_S) (d : Int64) (L : ul_S) (D : ul_S) (K : ul_S) (N : ul_S) (T : ul_S) (J : ul_S) (E : ul_S) (F : ul_S) (P : ul_F) (B : ul_F) (p1 : Int32) (p2 : Int32) (r : (Int32 × ul_S)) (h : f_X6_round K N F p1 p2 = some r) : Met l yX6_round wsX6_round ({ frames := 4, cells := 0, slots := 0, locals := 111 }) (va_Pc [.ref (aU 0), .int p1, .int p2] (ul_pre (dC, dI) [(cI, .int), (cZ, .boolean), (cO, .object RX4)] ul_NX sz ([ul_wU cZ cO aU (aL 0) (aD 0) (aK 0) (aN 0) (aT 0) (aJ 0) (aE 0) (aF 0) aP U d, ul_wL cI aL L, ul_wK cI aD D, ul_wK cI aK K, ul_wS cI aN (aK 0) N, ul_wS cI aT (aK 0) T, ul_wJ cO aJ aB J, ul_wE cI aE E, ul_wG cI aF (aK 0) (aN 0) (aT 0) F, ul_wB cI aP (aK 0) 2 P, ul_wB cI aB (aK 0) 14 B] : List va_W).flatten)) (va_Qi (fun v (_ : Unit) => v = r.1) (fun _ => ul_post (dC, dI) [(cI, .int), (cZ, .boolean), (cO, .object RX4)] (va_A ([ul_wU cZ cO aU (aL 0) (aD 0) (aK 0) (aN 0) (aT 0) (aJ 0) (aE 0) (aF 0) aP U d, ul_wL cI aL L, ul_wK cI aD D, ul_wK cI aK K, ul_wS cI aN (aK 0) N, ul_wS cI aT (aK 0) T, ul_wJ cO aJ aB J, ul_wE cI aE E, ul_wG cI aF (aK 0) (aN 0) (aT 0) F, ul_wB cI aP (aK 0) 2 P, ul_wB cI aB (aK 0) 14 B] : List va_W).flatten sz) ([ul_wU cZ cO aU (aL 0) (aD 0) (aK 0) (aN 0) (aT 0) (aJ 0) (aE 0) (aF 0) aP U d, ul_wL cI aL L, ul_wK cI aD D, ul_wK cI aK K, ul_wS cI aN (aK 0) N, ul_wS cI aT (aK 0) T, ul_wJ cO aJ aB J, ul_wE cI aE E, ul_wG cI aF (aK 0) (aN 0) (aT 0) r.2, ul_wB cI aP (aK 0) 2 P, ul_wB cI aB (aK 0) 14 B] : List va_W).flatten) (va_A ([ul_wU cZ cO aU (aL 0) (aD 0) (aK 0) (aN 0) (aT 0) (aJ 0) (aE 0) (aF 0) aP U d, ul_wL cI aL L, ul_wK cI aD D, ul_wK cI aK K, ul_wS cI aN (aK 0) N, ul_wS cI aT (aK 0) T, ul_wJ cO aJ aB J, ul_wE cI aE E, ul_wG cI aF (aK 0) (aN 0) (aT 0) F, ul_wB cI aP (aK 0) 2 P, ul_wB cI aB (aK 0) 14 B] : List va_W).flatten sz)) 0 0 (va_A ([ul_wU cZ cO aU (aL 0) (aD 0) (aK 0) (aN 0) (aT 0) (aJ 0) (aE 0) (aF 0) aP U d, ul_wL cI aL L, ul_wK cI aD D, ul_wK cI aK K, ul_wS cI aN (aK 0) N, ul_wS cI aT (aK 0) T, ul_wJ cO aJ aB J, ul_wE cI aE E, ul_wG cI aF (aK 0) (aN 0) (aT 0) F, ul_wB cI aP (aK 0) 2 P, ul_wB cI aB (aK 0) 14 B] : List va_W).flatten sz) := by
  refine Met.ofW (cc := cX6_round) (maxL := 3) (ret := (some .int)) (by decide) rfl ?_
  intro p e s m args below meth c s₁ BB hml hv
  obtain ⟨rfl, hsz, hP, hK, hD0, hN⟩ := hv
  have hx := BB.exec
  have hb := BB.bytes
  have hr := BB.returns
  have hts := atoms_spec (ws := wsX6_round) BB.pre
  have hown : s.vm.findClass RX6 = some m.cls := findClass_of_methodNamed BB.named
  have hlocks := BB.notSynchronized
  have hin1 : ∀ w ∈ u_ws RX1 TX1 9, w ∈ wsX6_round := by decide +kernel
  have hin6 : ∀ w ∈ u_ws RX6 TX6 11, w ∈ wsX6_round := by decide +kernel
  subst hsz
  have hD := hD0.self (sz := s.heap.size)
  generalize hAe : va_A ([ul_wU cZ cO aU (aL 0) (aD 0) (aK 0) (aN 0) (aT 0) (aJ 0) (aE 0) (aF 0) aP U d, ul_wL cI aL L, ul_wK cI aD D, ul_wK cI aK K, ul_wS cI aN (aK 0) N, ul_wS cI aT (aK 0) T, ul_wJ cO aJ aB J, ul_wE cI aE E, ul_wG cI aF (aK 0) (aN 0) (aT 0) F, ul_wB cI aP (aK 0) 2 P, ul_wB cI aB (aK 0) 14 B] : List va_W).flatten s.heap.size = A at hD hN ⊢
  have hA : ∀ q : Nat, s.heap.size ≤ q → A q := fun q h => by rw [← hAe]; exact Or.inr h
  have hS : va_S A s.heap s.heap [] := va_S.rf
  have hl := lv_entry ([.ref (aU 0), .int p1, .int p2]) (n := 3) (Nat.le_of_ble_eq_true rfl)
  rw [lg_entry_eq]
  generalize (lg_sl ([.ref (aU 0), .int p1, .int p2]) ++ List.replicate (3 - (lg_sl ([.ref (aU 0), .int p1, .int p2])).length) Slot.unset).toArray = ls at hl ⊢
  have hl : lv_has ls 3 [(0, .ref (aU 0)), (1, .int p1), (2, .int p2)] := hl
  obtain ⟨K0, hK0, h⟩ := ul_top h
  unfold f_X6_round at h
  refine ul_gen (fun G gi ge => ?_)
  obtain ⟨H, eH⟩ : ∃ z, z = s.heap := ⟨_, rfl⟩
  obtain ⟨locs, eL⟩ : ∃ z : List Loc, z = [] := ⟨_, rfl⟩
  have hP : va_P (dC, dI) classes ([ul_wU cZ cO aU (aL 0) (aD 0) (aK 0) (aN 0) (aT 0) (aJ 0) (aE 0) (aF 0) aP U d, ul_wL cI aL L, ul_wK cI aD D, ul_wK cI aK K, ul_wS cI aN (aK 0) N, ul_wS cI aT (aK 0) T, ul_wJ cO aJ aB J, ul_wE cI aE E, ul_wG cI aF (aK 0) (aN 0) (aT 0) F, ul_wB cI aP (aK 0) 2 P, ul_wB cI aB (aK 0) 14 B] : List va_W).flatten H := by rw [eH]; exact hP
  have hS : va_S A s.heap H locs := by rw [eH, eL]; exact hS
  rw [← eL]
  refine (show G H locs (F0 m 0 ls []) → G s.heap locs (F0 m 0 ls []) from fun z => by rw [← eH]; exact z) ?_
  refine gi _ _ _ ?_
  refine lv_aload_n hx hb dX6_round_0 rfl (lv_at hl 0 rfl) ?_
  refine lv_iload_n hx hb dX6_round_1 rfl (lv_at hl 1 rfl) ?_
  obtain ⟨u1, hu1, h⟩ := ul_cl_h h
  refine ul_cPi (As := [.int p1]) (rest := []) (wc := ([ul_wU cZ cO aU (aL 0) (aD 0) (aK 0) (aN 0) (aT 0) (aJ 0) (aE 0) (aF 0) aP U d, ul_wL cI aL L, ul_wK cI aD D, ul_wK cI aK K, ul_wS cI aN (aK 0) N, ul_wS cI aT (aK 0) T, ul_wJ cO aJ aB J, ul_wE cI aE E, ul_wG cI aF (aK 0) (aN 0) (aT 0) F, ul_wB cI aP (aK 0) 2 P, ul_wB cI aB (aK 0) 14 B] : List va_W).flatten) (wc' := ([ul_wU cZ cO aU (aL 0) (aD 0) (aK 0) (aN 0) (aT 0) (aJ 0) (aE 0) (aF 0) aP U d, ul_wL cI aL L, ul_wK cI aD D, ul_wK cI aK K, ul_wS cI aN (aK 0) N, ul_wS cI aT (aK 0) T, ul_wJ cO aJ aB J, ul_wE cI aE E, ul_wG cI aF (aK 0) (aN 0) (aT 0) F, ul_wB cI aP (aK 0) 2 P, ul_wB cI aB (aK 0) 14 B] : List va_W).flatten) (wr := ([] : List va_W).flatten) hP hD hS hK hA [0, 1, 2] ul_NX_ok hN (c_X6_isPerson l dC dI cI cZ cO aU aL aD aK aN aT aJ aE aF aP aB H.size U d L D K N T J E F P B p1 u1 hu1) (ul_pmq (bs := [ul_wU cZ cO aU (aL 0) (aD 0) (aK 0) (aN 0) (aT 0) (aJ 0) (aE 0) (aF 0) aP U d, ul_wL cI aL L, ul_wK cI aD D, ul_wK cI aK K, ul_wS cI aN (aK 0) N, ul_wS cI aT (aK 0) T, ul_wJ cO aJ aB J, ul_wE cI aE E, ul_wG cI aF (aK 0) (aN 0) (aT 0) F, ul_wB cI aP (aK 0) 2 P, ul_wB cI aB (aK 0) 14 B]) [0, 1, 2, 3, 4, 5, 6, 7, 8, 9, 10] (by show List.Perm _ (List.range 11); decide) (by simp only [List.map_cons, List.map_nil, List.getD_cons_zero, List.getD_cons_succ, List.flatten_cons, List.flatten_nil, List.append_nil, List.nil_append, List.append_assoc])) rfl ⟨hx, hb, hml, hown, hts⟩ (cwV 1 hts gX6_round_X6_isPerson rfl rfl rfl (by decide +kernel) ⟨Nat.le_of_ble_eq_true rfl, Nat.le_of_ble_eq_true rfl⟩) (va_recv hK hP (ci := 6) (q0 := 0) rfl rfl) rfl hl.1 rfl (Nat.le_of_ble_eq_true rfl) dX6_round_2 (fun H locs hw => ?_)
  have hw := hw.pm (ul_pmq (bs := [ul_wU cZ cO aU (aL 0) (aD 0) (aK 0) (aN 0) (aT 0) (aJ 0) (aE 0) (aF 0) aP U d, ul_wL cI aL L, ul_wK cI aD D, ul_wK cI aK K, ul_wS cI aN (aK 0) N, ul_wS cI aT (aK 0) T, ul_wJ cO aJ aB J, ul_wE cI aE E, ul_wG cI aF (aK 0) (aN 0) (aT 0) F, ul_wB cI aP (aK 0) 2 P, ul_wB cI aB (aK 0) 14 B]) [0, 1, 2, 3, 4, 5, 6, 7, 8, 9, 10] (by show List.Perm _ (List.range 11); decide) (by simp only [List.map_cons, List.map_nil, List.getD_cons_zero, List.getD_cons_succ, List.flatten_cons, List.flatten_nil, List.append_nil, List.nil_append, List.append_assoc])).symm
  obtain ⟨hP, hD, hS⟩ := hw
  have hP : va_P (dC, dI) classes ([ul_wU cZ cO aU (aL 0) (aD 0) (aK 0) (aN 0) (aT 0) (aJ 0) (aE 0) (aF 0) aP U d, ul_wL cI aL L, ul_wK cI aD D, ul_wK cI aK K, ul_wS cI aN (aK 0) N, ul_wS cI aT (aK 0) T, ul_wJ cO aJ aB J, ul_wE cI aE E, ul_wG cI aF (aK 0) (aN 0) (aT 0) F, ul_wB cI aP (aK 0) 2 P, ul_wB cI aB (aK 0) 14 B] : List va_W).flatten H := hP
  have hD : va_D A ([ul_wU cZ cO aU (aL 0) (aD 0) (aK 0) (aN 0) (aT 0) (aJ 0) (aE 0) (aF 0) aP U d, ul_wL cI aL L, ul_wK cI aD D, ul_wK cI aK K, ul_wS cI aN (aK 0) N, ul_wS cI aT (aK 0) T, ul_wJ cO aJ aB J, ul_wE cI aE E, ul_wG cI aF (aK 0) (aN 0) (aT 0) F, ul_wB cI aP (aK 0) 2 P, ul_wB cI aB (aK 0) 14 B] : List va_W).flatten := hD
  refine lv_if_ne (tgt := 10) hx hb dX6_round_5 (by decide) (fun hc2 => ?_) (fun hc2 => ?_)
  · have h := ul_if_f hc2 h
    refine lv_iload_n hx hb dX6_round_10 rfl (lv_at hl 2 rfl) ?_
    refine lv_if_lt (tgt := 19) hx hb dX6_round_11 (by decide) (fun hc3 => ?_) (fun hc3 => ?_)
    · have h := ul_if_t hc3 h
      refine lv_bipush (v := -2) hx hb dX6_round_19 (by decide) ?_
      have hr9 := hK0 ((-2 : Int32), F) h
      subst hr9
      exact W.iret (v := (-2 : Int32)) hx hb hr (fun t ht hW => ⟨⟨(-2 : Int32), (), rfl, rfl, by rw [ht]; exact hP, va_K.moved hW.alike hK, hD⟩, hS.F ht⟩) hS.2.2 dX6_round_21
    · have h := ul_if_f hc3 h
      refine lv_iload_n hx hb dX6_round_14 rfl (lv_at hl 2 rfl) ?_
      refine lv_iconst (v := 1) hx hb dX6_round_15 (by decide) ?_
      refine lv_icmp_le (tgt := 22) hx hb dX6_round_16 (by decide) (fun hc4 => ?_) (fun hc4 => ?_)
      · have h := ul_if_t hc4 h
        refine lv_aload_n hx hb dX6_round_22 rfl (lv_at hl 0 rfl) ?_
        refine va_get (D := (dC, dI)) (ci := 6) (v := .ref (aF 0)) (C := RX6) (T := TX6) (N := 11) hx hb hts hin6 hown hK hP 0 rfl rfl 7 (by decide) (hts (.fieldLink RX6 57 "UnderLadders" "forecast" "LUnderLadders$Forecast;") (by decide +kernel)) (fun _ h9 => h9) rfl dX6_round_23 ?_
        refine lv_iload_n hx hb dX6_round_26 rfl (lv_at hl 1 rfl) ?_
        obtain ⟨u5, hu5, h⟩ := ul_cl_h h
        refine ul_cPv (As := [.int p1]) (rest := []) (wc := (ul_wG cI aF (aK 0) (aN 0) (aT 0) F ++ ul_wS cI aN (aK 0) N ++ ul_wS cI aT (aK 0) T ++ ul_wK cI aK K)) (wc' := (ul_wG cI aF (aK 0) (aN 0) (aT 0) u5 ++ ul_wS cI aN (aK 0) N ++ ul_wS cI aT (aK 0) T ++ ul_wK cI aK K)) (wr := ([ul_wU cZ cO aU (aL 0) (aD 0) (aK 0) (aN 0) (aT 0) (aJ 0) (aE 0) (aF 0) aP U d, ul_wL cI aL L, ul_wK cI aD D, ul_wJ cO aJ aB J, ul_wE cI aE E, ul_wB cI aP (aK 0) 2 P, ul_wB cI aB (aK 0) 14 B] : List va_W).flatten) hP hD hS hK hA [0] ul_NX_ok hN (c_X1_findRound l dC dI cI aF aN aT aK H.size F N T K p1 u5 hu5) (ul_pmq (bs := [ul_wU cZ cO aU (aL 0) (aD 0) (aK 0) (aN 0) (aT 0) (aJ 0) (aE 0) (aF 0) aP U d, ul_wL cI aL L, ul_wK cI aD D, ul_wK cI aK K, ul_wS cI aN (aK 0) N, ul_wS cI aT (aK 0) T, ul_wJ cO aJ aB J, ul_wE cI aE E, ul_wG cI aF (aK 0) (aN 0) (aT 0) F, ul_wB cI aP (aK 0) 2 P, ul_wB cI aB (aK 0) 14 B]) [8, 4, 5, 3, 0, 1, 2, 6, 7, 9, 10] (by show List.Perm _ (List.range 11); decide) (by simp only [List.map_cons, List.map_nil, List.getD_cons_zero, List.getD_cons_succ, List.flatten_cons, List.flatten_nil, List.append_nil, List.nil_append, List.append_assoc])) rfl ⟨hx, hb, hml, hown, hts⟩ (cwV 1 hts gX6_round_X1_findRound rfl rfl rfl (by decide +kernel) ⟨Nat.le_of_ble_eq_true rfl, Nat.le_of_ble_eq_true rfl⟩) (va_recv hK hP (ci := 1) (q0 := 40) rfl rfl) rfl hl.1 rfl (Nat.le_of_ble_eq_true rfl) dX6_round_27 (fun H locs hw => ?_)
        have hw := hw.pm (ul_pmq (bs := [ul_wU cZ cO aU (aL 0) (aD 0) (aK 0) (aN 0) (aT 0) (aJ 0) (aE 0) (aF 0) aP U d, ul_wL cI aL L, ul_wK cI aD D, ul_wK cI aK K, ul_wS cI aN (aK 0) N, ul_wS cI aT (aK 0) T, ul_wJ cO aJ aB J, ul_wE cI aE E, ul_wG cI aF (aK 0) (aN 0) (aT 0) u5, ul_wB cI aP (aK 0) 2 P, ul_wB cI aB (aK 0) 14 B]) [0, 1, 2, 6, 7, 9, 10, 8, 4, 5, 3] (by show List.Perm _ (List.range 11); decide) (by simp only [List.map_cons, List.map_nil, List.getD_cons_zero, List.getD_cons_succ, List.flatten_cons, List.flatten_nil, List.append_nil, List.nil_append, List.append_assoc])).symm
        obtain ⟨hP, hD, hS⟩ := hw
        have hP : va_P (dC, dI) classes ([ul_wU cZ cO aU (aL 0) (aD 0) (aK 0) (aN 0) (aT 0) (aJ 0) (aE 0) (aF 0) aP U d, ul_wL cI aL L, ul_wK cI aD D, ul_wK cI aK K, ul_wS cI aN (aK 0) N, ul_wS cI aT (aK 0) T, ul_wJ cO aJ aB J, ul_wE cI aE E, ul_wG cI aF (aK 0) (aN 0) (aT 0) u5, ul_wB cI aP (aK 0) 2 P, ul_wB cI aB (aK 0) 14 B] : List va_W).flatten H := hP
        have hD : va_D A ([ul_wU cZ cO aU (aL 0) (aD 0) (aK 0) (aN 0) (aT 0) (aJ 0) (aE 0) (aF 0) aP U d, ul_wL cI aL L, ul_wK cI aD D, ul_wK cI aK K, ul_wS cI aN (aK 0) N, ul_wS cI aT (aK 0) T, ul_wJ cO aJ aB J, ul_wE cI aE E, ul_wG cI aF (aK 0) (aN 0) (aT 0) u5, ul_wB cI aP (aK 0) 2 P, ul_wB cI aB (aK 0) 14 B] : List va_W).flatten := hD
        refine lv_iload_n hx hb dX6_round_30 rfl (lv_at hl 2 rfl) ?_
        refine lv_if_ne (tgt := 44) hx hb dX6_round_31 (by decide) (fun hc6 => ?_) (fun hc6 => ?_)
        · have h := ul_if_f hc6 h
          refine lv_aload_n hx hb dX6_round_44 rfl (lv_at hl 0 rfl) ?_
          refine va_get (D := (dC, dI)) (ci := 6) (v := .ref (aF 0)) (C := RX6) (T := TX6) (N := 11) hx hb hts hin6 hown hK hP 0 rfl rfl 7 (by decide) (hts (.fieldLink RX6 57 "UnderLadders" "forecast" "LUnderLadders$Forecast;") (by decide +kernel)) (fun _ h9 => h9) rfl dX6_round_45 ?_
          refine va_getN (D := (dC, dI)) (ci := 1) (v := .int (u5 0 1)) (C := RX1) (T := TX1) (N := 9) hx hb hts hin1 hown hK hP 40 rfl rfl 8 (by decide) (va_Nw.use rfl (hN.1 (RX6, 180, "UnderLadders$Forecast", "bestWorth", "I") (by decide +kernel))) (fun _ h9 => h9) rfl dX6_round_48 ?_
          have hr9 := hK0 ((u5 0 1), u5) h
          subst hr9
          exact W.iret (v := (u5 0 1)) hx hb hr (fun t ht hW => ⟨⟨(u5 0 1), (), rfl, rfl, by rw [ht]; exact hP, va_K.moved hW.alike hK, hD⟩, hS.F ht⟩) hS.2.2 dX6_round_51
        · have h := ul_if_t hc6 h
          refine lv_aload_n hx hb dX6_round_34 rfl (lv_at hl 0 rfl) ?_
          refine va_get (D := (dC, dI)) (ci := 6) (v := .ref (aF 0)) (C := RX6) (T := TX6) (N := 11) hx hb hts hin6 hown hK hP 0 rfl rfl 7 (by decide) (hts (.fieldLink RX6 57 "UnderLadders" "forecast" "LUnderLadders$Forecast;") (by decide +kernel)) (fun _ h9 => h9) rfl dX6_round_35 ?_
          refine va_getN (D := (dC, dI)) (ci := 1) (v := .int (u5 0 0)) (C := RX1) (T := TX1) (N := 9) hx hb hts hin1 hown hK hP 40 rfl rfl 7 (by decide) (va_Nw.use rfl (hN.1 (RX6, 177, "UnderLadders$Forecast", "best", "I") (by decide +kernel))) (fun _ h9 => h9) rfl dX6_round_38 ?_
          refine lv_goto (tgt := 51) hx hb dX6_round_41 (by decide) ?_
          have hr9 := hK0 ((u5 0 0), u5) h
          subst hr9
          exact W.iret (v := (u5 0 0)) hx hb hr (fun t ht hW => ⟨⟨(u5 0 0), (), rfl, rfl, by rw [ht]; exact hP, va_K.moved hW.alike hK, hD⟩, hS.F ht⟩) hS.2.2 dX6_round_51
      · have h := ul_if_f hc4 h
        refine lv_bipush (v := -2) hx hb dX6_round_19 (by decide) ?_
        have hr9 := hK0 ((-2 : Int32), F) h
        subst hr9
        exact W.iret (v := (-2 : Int32)) hx hb hr (fun t ht hW => ⟨⟨(-2 : Int32), (), rfl, rfl, by rw [ht]; exact hP, va_K.moved hW.alike hK, hD⟩, hS.F ht⟩) hS.2.2 dX6_round_21
  · have h := ul_if_t hc2 h
    refine lv_iconst (v := -1) hx hb dX6_round_8 (by decide) ?_
    have hr9 := hK0 ((-1 : Int32), F) h
    subst hr9
    exact W.iret (v := (-1 : Int32)) hx hb hr (fun t ht hW => ⟨⟨(-1 : Int32), (), rfl, rfl, by rw [ht]; exact hP, va_K.moved hW.alike hK, hD⟩, hS.F ht⟩) hS.2.2 dX6_round_9
def f_X6_judge (K : ul_S) (N : ul_S) (T : ul_S) (F : ul_S) (p1 : Int32) (p2 : Int64) : Option (Int32 × ul_S × ul_S) :=
  if p1 < (1 : Int32) then (some ((-2 : Int32), T, F)) else (if (4 : Int32) < p1 then (some ((-2 : Int32), T, F)) else (if 0 ≤ (lg_cmp p2 (0 : Int64)) then ((f_X1_takeDoings F p1 p2).bind fun u4 => if u4.1 = 0 then (some ((-2 : Int32), T, u4.2)) else ((f_X1_firstWrong u4.2 N T K p1).bind fun u6 => some (u6.1, u6.2, u4.2))) else (some ((-2 : Int32), T, F))))
set_option maxHeartbeats 4000000 in
set_option maxRecDepth 100000 in
theorem c_X6_judge (l : Launch) (dC : Nat → ClassId) (dI : Nat → Nat → Nat) (cI : ClassId) (cZ : ClassId) (cO : ClassId) (aU : Nat → Nat) (aL : Nat → Nat) (aD : Nat → Nat) (aK : Nat → Nat) (aN : Nat → Nat) (aT : Nat → Nat) (aJ : Nat → Nat) (aE : Nat → Nat) (aF : Nat → Nat) (aP : Nat → Nat → Nat) (aB : Nat → Nat → Nat) (sz : Nat) (U : ul_S) (d : Int64) (L : ul_S) (D : ul_S) (K : ul_S) (N : ul_S) (T : ul_S) (J : ul_S) (E : ul_S) (F : ul_S) (P : ul_F) (B : ul_F) (p1 : Int32) (p2 : Int64) (r : (Int32 × ul_S × ul_S)) (h : f_X6_judge K N T F p1 p2 = some r) : Met l yX6_judge wsX6_judge ({ frames := 6, cells := 0, slots := 0, locals := 154 }) (va_Pc [.ref (aU 0), .int p1, .long p2] (ul_pre (dC, dI) [(cI, .int), (cZ, .boolean), (cO, .object RX4)] ul_NX sz ([ul_wU cZ cO aU (aL 0) (aD 0) (aK 0) (aN 0) (aT 0) (aJ 0) (aE 0) (aF 0) aP U d, ul_wL cI aL L, ul_wK cI aD D, ul_wK cI aK K, ul_wS cI aN (aK 0) N, ul_wS cI aT (aK 0) T, ul_wJ cO aJ aB J, ul_wE cI aE E, ul_wG cI aF (aK 0) (aN 0) (aT 0) F, ul_wB cI aP (aK 0) 2 P, ul_wB cI aB (aK 0) 14 B] : List va_W).flatten)) (va_Qi (fun v (_ : Unit) => v = r.1) (fun _ => ul_post (dC, dI) [(cI, .int), (cZ, .boolean), (cO, .object RX4)] (va_A ([ul_wU cZ cO aU (aL 0) (aD 0) (aK 0) (aN 0) (aT 0) (aJ 0) (aE 0) (aF 0) aP U d, ul_wL cI aL L, ul_wK cI aD D, ul_wK cI aK K, ul_wS cI aN (aK 0) N, ul_wS cI aT (aK 0) T, ul_wJ cO aJ aB J, ul_wE cI aE E, ul_wG cI aF (aK 0) (aN 0) (aT 0) F, ul_wB cI aP (aK 0) 2 P, ul_wB cI aB (aK 0) 14 B] : List va_W).flatten sz) ([ul_wU cZ cO aU (aL 0) (aD 0) (aK 0) (aN 0) (aT 0) (aJ 0) (aE 0) (aF 0) aP U d, ul_wL cI aL L, ul_wK cI aD D, ul_wK cI aK K, ul_wS cI aN (aK 0) N, ul_wS cI aT (aK 0) r.2.1, ul_wJ cO aJ aB J, ul_wE cI aE E, ul_wG cI aF (aK 0) (aN 0) (aT 0) r.2.2, ul_wB cI aP (aK 0) 2 P, ul_wB cI aB (aK 0) 14 B] : List va_W).flatten) (va_A ([ul_wU cZ cO aU (aL 0) (aD 0) (aK 0) (aN 0) (aT 0) (aJ 0) (aE 0) (aF 0) aP U d, ul_wL cI aL L, ul_wK cI aD D, ul_wK cI aK K, ul_wS cI aN (aK 0) N, ul_wS cI aT (aK 0) T, ul_wJ cO aJ aB J, ul_wE cI aE E, ul_wG cI aF (aK 0) (aN 0) (aT 0) F, ul_wB cI aP (aK 0) 2 P, ul_wB cI aB (aK 0) 14 B] : List va_W).flatten sz)) 0 0 (va_A ([ul_wU cZ cO aU (aL 0) (aD 0) (aK 0) (aN 0) (aT 0) (aJ 0) (aE 0) (aF 0) aP U d, ul_wL cI aL L, ul_wK cI aD D, ul_wK cI aK K, ul_wS cI aN (aK 0) N, ul_wS cI aT (aK 0) T, ul_wJ cO aJ aB J, ul_wE cI aE E, ul_wG cI aF (aK 0) (aN 0) (aT 0) F, ul_wB cI aP (aK 0) 2 P, ul_wB cI aB (aK 0) 14 B] : List va_W).flatten sz) := by
  refine Met.ofW (cc := cX6_judge) (maxL := 4) (ret := (some .int)) (by decide) rfl ?_
  intro p e s m args below meth c s₁ BB hml hv
  obtain ⟨rfl, hsz, hP, hK, hD0, hN⟩ := hv
  have hx := BB.exec
  have hb := BB.bytes
  have hr := BB.returns
  have hts := atoms_spec (ws := wsX6_judge) BB.pre
  have hown : s.vm.findClass RX6 = some m.cls := findClass_of_methodNamed BB.named
  have hlocks := BB.notSynchronized
  have hin6 : ∀ w ∈ u_ws RX6 TX6 11, w ∈ wsX6_judge := by decide +kernel
  subst hsz
  have hD := hD0.self (sz := s.heap.size)
  generalize hAe : va_A ([ul_wU cZ cO aU (aL 0) (aD 0) (aK 0) (aN 0) (aT 0) (aJ 0) (aE 0) (aF 0) aP U d, ul_wL cI aL L, ul_wK cI aD D, ul_wK cI aK K, ul_wS cI aN (aK 0) N, ul_wS cI aT (aK 0) T, ul_wJ cO aJ aB J, ul_wE cI aE E, ul_wG cI aF (aK 0) (aN 0) (aT 0) F, ul_wB cI aP (aK 0) 2 P, ul_wB cI aB (aK 0) 14 B] : List va_W).flatten s.heap.size = A at hD hN ⊢
  have hA : ∀ q : Nat, s.heap.size ≤ q → A q := fun q h => by rw [← hAe]; exact Or.inr h
  have hS : va_S A s.heap s.heap [] := va_S.rf
  have hl := lv_entry ([.ref (aU 0), .int p1, .long p2]) (n := 4) (Nat.le_of_ble_eq_true rfl)
  rw [lg_entry_eq]
  generalize (lg_sl ([.ref (aU 0), .int p1, .long p2]) ++ List.replicate (4 - (lg_sl ([.ref (aU 0), .int p1, .long p2])).length) Slot.unset).toArray = ls at hl ⊢
  have hl : lv_has ls 4 [(0, .ref (aU 0)), (1, .int p1), (2, .long p2)] := hl
  obtain ⟨K0, hK0, h⟩ := ul_top h
  unfold f_X6_judge at h
  refine ul_gen (fun G gi ge => ?_)
  obtain ⟨H, eH⟩ : ∃ z, z = s.heap := ⟨_, rfl⟩
  obtain ⟨locs, eL⟩ : ∃ z : List Loc, z = [] := ⟨_, rfl⟩
  have hP : va_P (dC, dI) classes ([ul_wU cZ cO aU (aL 0) (aD 0) (aK 0) (aN 0) (aT 0) (aJ 0) (aE 0) (aF 0) aP U d, ul_wL cI aL L, ul_wK cI aD D, ul_wK cI aK K, ul_wS cI aN (aK 0) N, ul_wS cI aT (aK 0) T, ul_wJ cO aJ aB J, ul_wE cI aE E, ul_wG cI aF (aK 0) (aN 0) (aT 0) F, ul_wB cI aP (aK 0) 2 P, ul_wB cI aB (aK 0) 14 B] : List va_W).flatten H := by rw [eH]; exact hP
  have hS : va_S A s.heap H locs := by rw [eH, eL]; exact hS
  rw [← eL]
  refine (show G H locs (F0 m 0 ls []) → G s.heap locs (F0 m 0 ls []) from fun z => by rw [← eH]; exact z) ?_
  refine gi _ _ _ ?_
  refine lv_iload_n hx hb dX6_judge_0 rfl (lv_at hl 1 rfl) ?_
  refine lv_iconst (v := 1) hx hb dX6_judge_1 (by decide) ?_
  refine lv_icmp_lt (tgt := 16) hx hb dX6_judge_2 (by decide) (fun hc1 => ?_) (fun hc1 => ?_)
  · have h := ul_if_t hc1 h
    refine lv_bipush (v := -2) hx hb dX6_judge_16 (by decide) ?_
    have hr9 := hK0 ((-2 : Int32), T, F) h
    subst hr9
    exact W.iret (v := (-2 : Int32)) hx hb hr (fun t ht hW => ⟨⟨(-2 : Int32), (), rfl, rfl, by rw [ht]; exact hP, va_K.moved hW.alike hK, hD⟩, hS.F ht⟩) hS.2.2 dX6_judge_18
  · have h := ul_if_f hc1 h
    refine lv_iload_n hx hb dX6_judge_5 rfl (lv_at hl 1 rfl) ?_
    refine lv_iconst (v := 4) hx hb dX6_judge_6 (by decide) ?_
    refine lv_icmp_gt (tgt := 16) hx hb dX6_judge_7 (by decide) (fun hc2 => ?_) (fun hc2 => ?_)
    · have h := ul_if_t hc2 h
      refine lv_bipush (v := -2) hx hb dX6_judge_16 (by decide) ?_
      have hr9 := hK0 ((-2 : Int32), T, F) h
      subst hr9
      exact W.iret (v := (-2 : Int32)) hx hb hr (fun t ht hW => ⟨⟨(-2 : Int32), (), rfl, rfl, by rw [ht]; exact hP, va_K.moved hW.alike hK, hD⟩, hS.F ht⟩) hS.2.2 dX6_judge_18
    · have h := ul_if_f hc2 h
      refine lv_lload_n hx hb dX6_judge_10 rfl (lv_at hl 2 rfl) ?_
      refine lv_lconst (v := 0) hx hb dX6_judge_11 (by decide) ?_
      refine W.lcmp hx hb dX6_judge_12 ?_
      refine lv_if_ge (tgt := 19) hx hb dX6_judge_13 (by decide) (fun hc3 => ?_) (fun hc3 => ?_)
      · have h := ul_if_t hc3 h
        refine lv_aload_n hx hb dX6_judge_19 rfl (lv_at hl 0 rfl) ?_
        refine va_get (D := (dC, dI)) (ci := 6) (v := .ref (aF 0)) (C := RX6) (T := TX6) (N := 11) hx hb hts hin6 hown hK hP 0 rfl rfl 7 (by decide) (hts (.fieldLink RX6 57 "UnderLadders" "forecast" "LUnderLadders$Forecast;") (by decide +kernel)) (fun _ h9 => h9) rfl dX6_judge_20 ?_
        refine lv_iload_n hx hb dX6_judge_23 rfl (lv_at hl 1 rfl) ?_
        refine lv_lload_n hx hb dX6_judge_24 rfl (lv_at hl 2 rfl) ?_
        obtain ⟨u4, hu4, h⟩ := ul_cl_h h
        refine ul_cPi (As := [.int p1, .long p2]) (rest := []) (wc := (ul_wG cI aF (aK 0) (aN 0) (aT 0) F ++ ul_wS cI aN (aK 0) N ++ ul_wS cI aT (aK 0) T ++ ul_wK cI aK K)) (wc' := (ul_wG cI aF (aK 0) (aN 0) (aT 0) u4.2 ++ ul_wS cI aN (aK 0) N ++ ul_wS cI aT (aK 0) T ++ ul_wK cI aK K)) (wr := ([ul_wU cZ cO aU (aL 0) (aD 0) (aK 0) (aN 0) (aT 0) (aJ 0) (aE 0) (aF 0) aP U d, ul_wL cI aL L, ul_wK cI aD D, ul_wJ cO aJ aB J, ul_wE cI aE E, ul_wB cI aP (aK 0) 2 P, ul_wB cI aB (aK 0) 14 B] : List va_W).flatten) hP hD hS hK hA [0] ul_NX_ok hN (c_X1_takeDoings l dC dI cI aF aN aT aK H.size F N T K p1 p2 u4 hu4) (ul_pmq (bs := [ul_wU cZ cO aU (aL 0) (aD 0) (aK 0) (aN 0) (aT 0) (aJ 0) (aE 0) (aF 0) aP U d, ul_wL cI aL L, ul_wK cI aD D, ul_wK cI aK K, ul_wS cI aN (aK 0) N, ul_wS cI aT (aK 0) T, ul_wJ cO aJ aB J, ul_wE cI aE E, ul_wG cI aF (aK 0) (aN 0) (aT 0) F, ul_wB cI aP (aK 0) 2 P, ul_wB cI aB (aK 0) 14 B]) [8, 4, 5, 3, 0, 1, 2, 6, 7, 9, 10] (by show List.Perm _ (List.range 11); decide) (by simp only [List.map_cons, List.map_nil, List.getD_cons_zero, List.getD_cons_succ, List.flatten_cons, List.flatten_nil, List.append_nil, List.nil_append, List.append_assoc])) rfl ⟨hx, hb, hml, hown, hts⟩ (cwV 2 hts gX6_judge_X1_takeDoings rfl rfl rfl (by decide +kernel) ⟨Nat.le_of_ble_eq_true rfl, Nat.le_of_ble_eq_true rfl⟩) (va_recv hK hP (ci := 1) (q0 := 40) rfl rfl) rfl hl.1 rfl (Nat.le_of_ble_eq_true rfl) dX6_judge_25 (fun H locs hw => ?_)
        have hw := hw.pm (ul_pmq (bs := [ul_wU cZ cO aU (aL 0) (aD 0) (aK 0) (aN 0) (aT 0) (aJ 0) (aE 0) (aF 0) aP U d, ul_wL cI aL L, ul_wK cI aD D, ul_wK cI aK K, ul_wS cI aN (aK 0) N, ul_wS cI aT (aK 0) T, ul_wJ cO aJ aB J, ul_wE cI aE E, ul_wG cI aF (aK 0) (aN 0) (aT 0) u4.2, ul_wB cI aP (aK 0) 2 P, ul_wB cI aB (aK 0) 14 B]) [0, 1, 2, 6, 7, 9, 10, 8, 4, 5, 3] (by show List.Perm _ (List.range 11); decide) (by simp only [List.map_cons, List.map_nil, List.getD_cons_zero, List.getD_cons_succ, List.flatten_cons, List.flatten_nil, List.append_nil, List.nil_append, List.append_assoc])).symm
        obtain ⟨hP, hD, hS⟩ := hw
        have hP : va_P (dC, dI) classes ([ul_wU cZ cO aU (aL 0) (aD 0) (aK 0) (aN 0) (aT 0) (aJ 0) (aE 0) (aF 0) aP U d, ul_wL cI aL L, ul_wK cI aD D, ul_wK cI aK K, ul_wS cI aN (aK 0) N, ul_wS cI aT (aK 0) T, ul_wJ cO aJ aB J, ul_wE cI aE E, ul_wG cI aF (aK 0) (aN 0) (aT 0) u4.2, ul_wB cI aP (aK 0) 2 P, ul_wB cI aB (aK 0) 14 B] : List va_W).flatten H := hP
        have hD : va_D A ([ul_wU cZ cO aU (aL 0) (aD 0) (aK 0) (aN 0) (aT 0) (aJ 0) (aE 0) (aF 0) aP U d, ul_wL cI aL L, ul_wK cI aD D, ul_wK cI aK K, ul_wS cI aN (aK 0) N, ul_wS cI aT (aK 0) T, ul_wJ cO aJ aB J, ul_wE cI aE E, ul_wG cI aF (aK 0) (aN 0) (aT 0) u4.2, ul_wB cI aP (aK 0) 2 P, ul_wB cI aB (aK 0) 14 B] : List va_W).flatten := hD
        refine lv_if_eq (tgt := 42) hx hb dX6_judge_28 (by decide) (fun hc5 => ?_) (fun hc5 => ?_)
        · have h := ul_if_t hc5 h
          refine lv_bipush (v := -2) hx hb dX6_judge_42 (by decide) ?_
          have hr9 := hK0 ((-2 : Int32), T, u4.2) h
          subst hr9
          exact W.iret (v := (-2 : Int32)) hx hb hr (fun t ht hW => ⟨⟨(-2 : Int32), (), rfl, rfl, by rw [ht]; exact hP, va_K.moved hW.alike hK, hD⟩, hS.F ht⟩) hS.2.2 dX6_judge_44
        · have h := ul_if_f hc5 h
          refine lv_aload_n hx hb dX6_judge_31 rfl (lv_at hl 0 rfl) ?_
          refine va_get (D := (dC, dI)) (ci := 6) (v := .ref (aF 0)) (C := RX6) (T := TX6) (N := 11) hx hb hts hin6 hown hK hP 0 rfl rfl 7 (by decide) (hts (.fieldLink RX6 57 "UnderLadders" "forecast" "LUnderLadders$Forecast;") (by decide +kernel)) (fun _ h9 => h9) rfl dX6_judge_32 ?_
          refine lv_iload_n hx hb dX6_judge_35 rfl (lv_at hl 1 rfl) ?_
          obtain ⟨u6, hu6, h⟩ := ul_cl_h h
          refine ul_cPi (As := [.int p1]) (rest := []) (wc := (ul_wG cI aF (aK 0) (aN 0) (aT 0) u4.2 ++ ul_wS cI aN (aK 0) N ++ ul_wS cI aT (aK 0) T ++ ul_wK cI aK K)) (wc' := (ul_wG cI aF (aK 0) (aN 0) (aT 0) u4.2 ++ ul_wS cI aN (aK 0) N ++ ul_wS cI aT (aK 0) u6.2 ++ ul_wK cI aK K)) (wr := ([ul_wU cZ cO aU (aL 0) (aD 0) (aK 0) (aN 0) (aT 0) (aJ 0) (aE 0) (aF 0) aP U d, ul_wL cI aL L, ul_wK cI aD D, ul_wJ cO aJ aB J, ul_wE cI aE E, ul_wB cI aP (aK 0) 2 P, ul_wB cI aB (aK 0) 14 B] : List va_W).flatten) hP hD hS hK hA [0] ul_NX_ok hN (c_X1_firstWrong l dC dI cI aF aN aT aK H.size u4.2 N T K p1 u6 hu6) (ul_pmq (bs := [ul_wU cZ cO aU (aL 0) (aD 0) (aK 0) (aN 0) (aT 0) (aJ 0) (aE 0) (aF 0) aP U d, ul_wL cI aL L, ul_wK cI aD D, ul_wK cI aK K, ul_wS cI aN (aK 0) N, ul_wS cI aT (aK 0) T, ul_wJ cO aJ aB J, ul_wE cI aE E, ul_wG cI aF (aK 0) (aN 0) (aT 0) u4.2, ul_wB cI aP (aK 0) 2 P, ul_wB cI aB (aK 0) 14 B]) [8, 4, 5, 3, 0, 1, 2, 6, 7, 9, 10] (by show List.Perm _ (List.range 11); decide) (by simp only [List.map_cons, List.map_nil, List.getD_cons_zero, List.getD_cons_succ, List.flatten_cons, List.flatten_nil, List.append_nil, List.nil_append, List.append_assoc])) rfl ⟨hx, hb, hml, hown, hts⟩ (cwV 1 hts gX6_judge_X1_firstWrong rfl rfl rfl (by decide +kernel) ⟨Nat.le_of_ble_eq_true rfl, Nat.le_of_ble_eq_true rfl⟩) (va_recv hK hP (ci := 1) (q0 := 40) rfl rfl) rfl hl.1 rfl (Nat.le_of_ble_eq_true rfl) dX6_judge_36 (fun H locs hw => ?_)
          have hw := hw.pm (ul_pmq (bs := [ul_wU cZ cO aU (aL 0) (aD 0) (aK 0) (aN 0) (aT 0) (aJ 0) (aE 0) (aF 0) aP U d, ul_wL cI aL L, ul_wK cI aD D, ul_wK cI aK K, ul_wS cI aN (aK 0) N, ul_wS cI aT (aK 0) u6.2, ul_wJ cO aJ aB J, ul_wE cI aE E, ul_wG cI aF (aK 0) (aN 0) (aT 0) u4.2, ul_wB cI aP (aK 0) 2 P, ul_wB cI aB (aK 0) 14 B]) [0, 1, 2, 6, 7, 9, 10, 8, 4, 5, 3] (by show List.Perm _ (List.range 11); decide) (by simp only [List.map_cons, List.map_nil, List.getD_cons_zero, List.getD_cons_succ, List.flatten_cons, List.flatten_nil, List.append_nil, List.nil_append, List.append_assoc])).symm
          obtain ⟨hP, hD, hS⟩ := hw
          have hP : va_P (dC, dI) classes ([ul_wU cZ cO aU (aL 0) (aD 0) (aK 0) (aN 0) (aT 0) (aJ 0) (aE 0) (aF 0) aP U d, ul_wL cI aL L, ul_wK cI aD D, ul_wK cI aK K, ul_wS cI aN (aK 0) N, ul_wS cI aT (aK 0) u6.2, ul_wJ cO aJ aB J, ul_wE cI aE E, ul_wG cI aF (aK 0) (aN 0) (aT 0) u4.2, ul_wB cI aP (aK 0) 2 P, ul_wB cI aB (aK 0) 14 B] : List va_W).flatten H := hP
          have hD : va_D A ([ul_wU cZ cO aU (aL 0) (aD 0) (aK 0) (aN 0) (aT 0) (aJ 0) (aE 0) (aF 0) aP U d, ul_wL cI aL L, ul_wK cI aD D, ul_wK cI aK K, ul_wS cI aN (aK 0) N, ul_wS cI aT (aK 0) u6.2, ul_wJ cO aJ aB J, ul_wE cI aE E, ul_wG cI aF (aK 0) (aN 0) (aT 0) u4.2, ul_wB cI aP (aK 0) 2 P, ul_wB cI aB (aK 0) 14 B] : List va_W).flatten := hD
          refine lv_goto (tgt := 44) hx hb dX6_judge_39 (by decide) ?_
          have hr9 := hK0 (u6.1, u6.2, u4.2) h
          subst hr9
          exact W.iret (v := u6.1) hx hb hr (fun t ht hW => ⟨⟨u6.1, (), rfl, rfl, by rw [ht]; exact hP, va_K.moved hW.alike hK, hD⟩, hS.F ht⟩) hS.2.2 dX6_judge_44
      · have h := ul_if_f hc3 h
        refine lv_bipush (v := -2) hx hb dX6_judge_16 (by decide) ?_
        have hr9 := hK0 ((-2 : Int32), T, F) h
        subst hr9
        exact W.iret (v := (-2 : Int32)) hx hb hr (fun t ht hW => ⟨⟨(-2 : Int32), (), rfl, rfl, by rw [ht]; exact hP, va_K.moved hW.alike hK, hD⟩, hS.F ht⟩) hS.2.2 dX6_judge_18
def f_X6_see (E : ul_S) (p1 : Int32) (p2 : Int32) : Option (Int32 × ul_S) :=
  if p1 < 0 then (some ((-2 : Int32), E)) else (if (20 : Int32) < p1 then (some ((-2 : Int32), E)) else (if p2 < 0 then (some ((-2 : Int32), E)) else (if p2 ≤ p1 then ((f_X3_add E p1 p2).bind fun u5 => some (u5.1, u5.2)) else (some ((-2 : Int32), E)))))
set_option maxHeartbeats 4000000 in
set_option maxRecDepth 100000 in
theorem c_X6_see (l : Launch) (dC : Nat → ClassId) (dI : Nat → Nat → Nat) (cI : ClassId) (cZ : ClassId) (cO : ClassId) (aU : Nat → Nat) (aL : Nat → Nat) (aD : Nat → Nat) (aK : Nat → Nat) (aN : Nat → Nat) (aT : Nat → Nat) (aJ : Nat → Nat) (aE : Nat → Nat) (aF : Nat → Nat) (aP : Nat → Nat → Nat) (aB : Nat → Nat → Nat) (sz : Nat) (U : ul_S) (d : Int64) (L : ul_S) (D : ul_S) (K : ul_S) (N : ul_S) (T : ul_S) (J : ul_S) (E : ul_S) (F : ul_S) (P : ul_F) (B : ul_F) (p1 : Int32) (p2 : Int32) (r : (Int32 × ul_S)) (h : f_X6_see E p1 p2 = some r) : Met l yX6_see wsX6_see ({ frames := 1, cells := 0, slots := 0, locals := 22 }) (va_Pc [.ref (aU 0), .int p1, .int p2] (ul_pre (dC, dI) [(cI, .int), (cZ, .boolean), (cO, .object RX4)] ul_NX sz ([ul_wU cZ cO aU (aL 0) (aD 0) (aK 0) (aN 0) (aT 0) (aJ 0) (aE 0) (aF 0) aP U d, ul_wL cI aL L, ul_wK cI aD D, ul_wK cI aK K, ul_wS cI aN (aK 0) N, ul_wS cI aT (aK 0) T, ul_wJ cO aJ aB J, ul_wE cI aE E, ul_wG cI aF (aK 0) (aN 0) (aT 0) F, ul_wB cI aP (aK 0) 2 P, ul_wB cI aB (aK 0) 14 B] : List va_W).flatten)) (va_Qi (fun v (_ : Unit) => v = r.1) (fun _ => ul_post (dC, dI) [(cI, .int), (cZ, .boolean), (cO, .object RX4)] (va_A ([ul_wU cZ cO aU (aL 0) (aD 0) (aK 0) (aN 0) (aT 0) (aJ 0) (aE 0) (aF 0) aP U d, ul_wL cI aL L, ul_wK cI aD D, ul_wK cI aK K, ul_wS cI aN (aK 0) N, ul_wS cI aT (aK 0) T, ul_wJ cO aJ aB J, ul_wE cI aE E, ul_wG cI aF (aK 0) (aN 0) (aT 0) F, ul_wB cI aP (aK 0) 2 P, ul_wB cI aB (aK 0) 14 B] : List va_W).flatten sz) ([ul_wU cZ cO aU (aL 0) (aD 0) (aK 0) (aN 0) (aT 0) (aJ 0) (aE 0) (aF 0) aP U d, ul_wL cI aL L, ul_wK cI aD D, ul_wK cI aK K, ul_wS cI aN (aK 0) N, ul_wS cI aT (aK 0) T, ul_wJ cO aJ aB J, ul_wE cI aE r.2, ul_wG cI aF (aK 0) (aN 0) (aT 0) F, ul_wB cI aP (aK 0) 2 P, ul_wB cI aB (aK 0) 14 B] : List va_W).flatten) (va_A ([ul_wU cZ cO aU (aL 0) (aD 0) (aK 0) (aN 0) (aT 0) (aJ 0) (aE 0) (aF 0) aP U d, ul_wL cI aL L, ul_wK cI aD D, ul_wK cI aK K, ul_wS cI aN (aK 0) N, ul_wS cI aT (aK 0) T, ul_wJ cO aJ aB J, ul_wE cI aE E, ul_wG cI aF (aK 0) (aN 0) (aT 0) F, ul_wB cI aP (aK 0) 2 P, ul_wB cI aB (aK 0) 14 B] : List va_W).flatten sz)) 0 0 (va_A ([ul_wU cZ cO aU (aL 0) (aD 0) (aK 0) (aN 0) (aT 0) (aJ 0) (aE 0) (aF 0) aP U d, ul_wL cI aL L, ul_wK cI aD D, ul_wK cI aK K, ul_wS cI aN (aK 0) N, ul_wS cI aT (aK 0) T, ul_wJ cO aJ aB J, ul_wE cI aE E, ul_wG cI aF (aK 0) (aN 0) (aT 0) F, ul_wB cI aP (aK 0) 2 P, ul_wB cI aB (aK 0) 14 B] : List va_W).flatten sz) := by
  refine Met.ofW (cc := cX6_see) (maxL := 3) (ret := (some .int)) (by decide) rfl ?_
  intro p e s m args below meth c s₁ BB hml hv
  obtain ⟨rfl, hsz, hP, hK, hD0, hN⟩ := hv
  have hx := BB.exec
  have hb := BB.bytes
  have hr := BB.returns
  have hts := atoms_spec (ws := wsX6_see) BB.pre
  have hown : s.vm.findClass RX6 = some m.cls := findClass_of_methodNamed BB.named
  have hlocks := BB.notSynchronized
  have hin6 : ∀ w ∈ u_ws RX6 TX6 11, w ∈ wsX6_see := by decide +kernel
  subst hsz
  have hD := hD0.self (sz := s.heap.size)
  generalize hAe : va_A ([ul_wU cZ cO aU (aL 0) (aD 0) (aK 0) (aN 0) (aT 0) (aJ 0) (aE 0) (aF 0) aP U d, ul_wL cI aL L, ul_wK cI aD D, ul_wK cI aK K, ul_wS cI aN (aK 0) N, ul_wS cI aT (aK 0) T, ul_wJ cO aJ aB J, ul_wE cI aE E, ul_wG cI aF (aK 0) (aN 0) (aT 0) F, ul_wB cI aP (aK 0) 2 P, ul_wB cI aB (aK 0) 14 B] : List va_W).flatten s.heap.size = A at hD hN ⊢
  have hA : ∀ q : Nat, s.heap.size ≤ q → A q := fun q h => by rw [← hAe]; exact Or.inr h
  have hS : va_S A s.heap s.heap [] := va_S.rf
  have hl := lv_entry ([.ref (aU 0), .int p1, .int p2]) (n := 3) (Nat.le_of_ble_eq_true rfl)
  rw [lg_entry_eq]
  generalize (lg_sl ([.ref (aU 0), .int p1, .int p2]) ++ List.replicate (3 - (lg_sl ([.ref (aU 0), .int p1, .int p2])).length) Slot.unset).toArray = ls at hl ⊢
  have hl : lv_has ls 3 [(0, .ref (aU 0)), (1, .int p1), (2, .int p2)] := hl
  obtain ⟨K0, hK0, h⟩ := ul_top h
  unfold f_X6_see at h
  refine ul_gen (fun G gi ge => ?_)
  obtain ⟨H, eH⟩ : ∃ z, z = s.heap := ⟨_, rfl⟩
  obtain ⟨locs, eL⟩ : ∃ z : List Loc, z = [] := ⟨_, rfl⟩
  have hP : va_P (dC, dI) classes ([ul_wU cZ cO aU (aL 0) (aD 0) (aK 0) (aN 0) (aT 0) (aJ 0) (aE 0) (aF 0) aP U d, ul_wL cI aL L, ul_wK cI aD D, ul_wK cI aK K, ul_wS cI aN (aK 0) N, ul_wS cI aT (aK 0) T, ul_wJ cO aJ aB J, ul_wE cI aE E, ul_wG cI aF (aK 0) (aN 0) (aT 0) F, ul_wB cI aP (aK 0) 2 P, ul_wB cI aB (aK 0) 14 B] : List va_W).flatten H := by rw [eH]; exact hP
  have hS : va_S A s.heap H locs := by rw [eH, eL]; exact hS
  rw [← eL]
  refine (show G H locs (F0 m 0 ls []) → G s.heap locs (F0 m 0 ls []) from fun z => by rw [← eH]; exact z) ?_
  refine gi _ _ _ ?_
  refine lv_iload_n hx hb dX6_see_0 rfl (lv_at hl 1 rfl) ?_
  refine lv_if_lt (tgt := 19) hx hb dX6_see_1 (by decide) (fun hc1 => ?_) (fun hc1 => ?_)
  · have h := ul_if_t hc1 h
    refine lv_bipush (v := -2) hx hb dX6_see_19 (by decide) ?_
    have hr9 := hK0 ((-2 : Int32), E) h
    subst hr9
    exact W.iret (v := (-2 : Int32)) hx hb hr (fun t ht hW => ⟨⟨(-2 : Int32), (), rfl, rfl, by rw [ht]; exact hP, va_K.moved hW.alike hK, hD⟩, hS.F ht⟩) hS.2.2 dX6_see_21
  · have h := ul_if_f hc1 h
    refine lv_iload_n hx hb dX6_see_4 rfl (lv_at hl 1 rfl) ?_
    refine lv_bipush (v := 20) hx hb dX6_see_5 (by decide) ?_
    refine lv_icmp_gt (tgt := 19) hx hb dX6_see_7 (by decide) (fun hc2 => ?_) (fun hc2 => ?_)
    · have h := ul_if_t hc2 h
      refine lv_bipush (v := -2) hx hb dX6_see_19 (by decide) ?_
      have hr9 := hK0 ((-2 : Int32), E) h
      subst hr9
      exact W.iret (v := (-2 : Int32)) hx hb hr (fun t ht hW => ⟨⟨(-2 : Int32), (), rfl, rfl, by rw [ht]; exact hP, va_K.moved hW.alike hK, hD⟩, hS.F ht⟩) hS.2.2 dX6_see_21
    · have h := ul_if_f hc2 h
      refine lv_iload_n hx hb dX6_see_10 rfl (lv_at hl 2 rfl) ?_
      refine lv_if_lt (tgt := 19) hx hb dX6_see_11 (by decide) (fun hc3 => ?_) (fun hc3 => ?_)
      · have h := ul_if_t hc3 h
        refine lv_bipush (v := -2) hx hb dX6_see_19 (by decide) ?_
        have hr9 := hK0 ((-2 : Int32), E) h
        subst hr9
        exact W.iret (v := (-2 : Int32)) hx hb hr (fun t ht hW => ⟨⟨(-2 : Int32), (), rfl, rfl, by rw [ht]; exact hP, va_K.moved hW.alike hK, hD⟩, hS.F ht⟩) hS.2.2 dX6_see_21
      · have h := ul_if_f hc3 h
        refine lv_iload_n hx hb dX6_see_14 rfl (lv_at hl 2 rfl) ?_
        refine lv_iload_n hx hb dX6_see_15 rfl (lv_at hl 1 rfl) ?_
        refine lv_icmp_le (tgt := 22) hx hb dX6_see_16 (by decide) (fun hc4 => ?_) (fun hc4 => ?_)
        · have h := ul_if_t hc4 h
          refine lv_aload_n hx hb dX6_see_22 rfl (lv_at hl 0 rfl) ?_
          refine va_get (D := (dC, dI)) (ci := 6) (v := .ref (aE 0)) (C := RX6) (T := TX6) (N := 11) hx hb hts hin6 hown hK hP 0 rfl rfl 6 (by decide) (hts (.fieldLink RX6 48 "UnderLadders" "seen" "LUnderLadders$Seen;") (by decide +kernel)) (fun _ h9 => h9) rfl dX6_see_23 ?_
          refine lv_iload_n hx hb dX6_see_26 rfl (lv_at hl 1 rfl) ?_
          refine lv_iload_n hx hb dX6_see_27 rfl (lv_at hl 2 rfl) ?_
          obtain ⟨u5, hu5, h⟩ := ul_cl_h h
          refine ul_cPi (As := [.int p1, .int p2]) (rest := []) (wc := (ul_wE cI aE E)) (wc' := (ul_wE cI aE u5.2)) (wr := ([ul_wU cZ cO aU (aL 0) (aD 0) (aK 0) (aN 0) (aT 0) (aJ 0) (aE 0) (aF 0) aP U d, ul_wL cI aL L, ul_wK cI aD D, ul_wK cI aK K, ul_wS cI aN (aK 0) N, ul_wS cI aT (aK 0) T, ul_wJ cO aJ aB J, ul_wG cI aF (aK 0) (aN 0) (aT 0) F, ul_wB cI aP (aK 0) 2 P, ul_wB cI aB (aK 0) 14 B] : List va_W).flatten) hP hD hS hK hA [0] ul_NX_ok hN (c_X3_add l dC dI cI aE H.size E p1 p2 u5 hu5) (ul_pmq (bs := [ul_wU cZ cO aU (aL 0) (aD 0) (aK 0) (aN 0) (aT 0) (aJ 0) (aE 0) (aF 0) aP U d, ul_wL cI aL L, ul_wK cI aD D, ul_wK cI aK K, ul_wS cI aN (aK 0) N, ul_wS cI aT (aK 0) T, ul_wJ cO aJ aB J, ul_wE cI aE E, ul_wG cI aF (aK 0) (aN 0) (aT 0) F, ul_wB cI aP (aK 0) 2 P, ul_wB cI aB (aK 0) 14 B]) [7, 0, 1, 2, 3, 4, 5, 6, 8, 9, 10] (by show List.Perm _ (List.range 11); decide) (by simp only [List.map_cons, List.map_nil, List.getD_cons_zero, List.getD_cons_succ, List.flatten_cons, List.flatten_nil, List.append_nil, List.nil_append, List.append_assoc])) rfl ⟨hx, hb, hml, hown, hts⟩ (cwV 2 hts gX6_see_X3_add rfl rfl rfl (by decide +kernel) ⟨Nat.le_of_ble_eq_true rfl, Nat.le_of_ble_eq_true rfl⟩) (va_recv hK hP (ci := 3) (q0 := 37) rfl rfl) rfl hl.1 rfl (Nat.le_of_ble_eq_true rfl) dX6_see_28 (fun H locs hw => ?_)
          have hw := hw.pm (ul_pmq (bs := [ul_wU cZ cO aU (aL 0) (aD 0) (aK 0) (aN 0) (aT 0) (aJ 0) (aE 0) (aF 0) aP U d, ul_wL cI aL L, ul_wK cI aD D, ul_wK cI aK K, ul_wS cI aN (aK 0) N, ul_wS cI aT (aK 0) T, ul_wJ cO aJ aB J, ul_wE cI aE u5.2, ul_wG cI aF (aK 0) (aN 0) (aT 0) F, ul_wB cI aP (aK 0) 2 P, ul_wB cI aB (aK 0) 14 B]) [0, 1, 2, 3, 4, 5, 6, 8, 9, 10, 7] (by show List.Perm _ (List.range 11); decide) (by simp only [List.map_cons, List.map_nil, List.getD_cons_zero, List.getD_cons_succ, List.flatten_cons, List.flatten_nil, List.append_nil, List.nil_append, List.append_assoc])).symm
          obtain ⟨hP, hD, hS⟩ := hw
          have hP : va_P (dC, dI) classes ([ul_wU cZ cO aU (aL 0) (aD 0) (aK 0) (aN 0) (aT 0) (aJ 0) (aE 0) (aF 0) aP U d, ul_wL cI aL L, ul_wK cI aD D, ul_wK cI aK K, ul_wS cI aN (aK 0) N, ul_wS cI aT (aK 0) T, ul_wJ cO aJ aB J, ul_wE cI aE u5.2, ul_wG cI aF (aK 0) (aN 0) (aT 0) F, ul_wB cI aP (aK 0) 2 P, ul_wB cI aB (aK 0) 14 B] : List va_W).flatten H := hP
          have hD : va_D A ([ul_wU cZ cO aU (aL 0) (aD 0) (aK 0) (aN 0) (aT 0) (aJ 0) (aE 0) (aF 0) aP U d, ul_wL cI aL L, ul_wK cI aD D, ul_wK cI aK K, ul_wS cI aN (aK 0) N, ul_wS cI aT (aK 0) T, ul_wJ cO aJ aB J, ul_wE cI aE u5.2, ul_wG cI aF (aK 0) (aN 0) (aT 0) F, ul_wB cI aP (aK 0) 2 P, ul_wB cI aB (aK 0) 14 B] : List va_W).flatten := hD
          have hr9 := hK0 (u5.1, u5.2) h
          subst hr9
          exact W.iret (v := u5.1) hx hb hr (fun t ht hW => ⟨⟨u5.1, (), rfl, rfl, by rw [ht]; exact hP, va_K.moved hW.alike hK, hD⟩, hS.F ht⟩) hS.2.2 dX6_see_31
        · have h := ul_if_f hc4 h
          refine lv_bipush (v := -2) hx hb dX6_see_19 (by decide) ?_
          have hr9 := hK0 ((-2 : Int32), E) h
          subst hr9
          exact W.iret (v := (-2 : Int32)) hx hb hr (fun t ht hW => ⟨⟨(-2 : Int32), (), rfl, rfl, by rw [ht]; exact hP, va_K.moved hW.alike hK, hD⟩, hS.F ht⟩) hS.2.2 dX6_see_21
def f_X6_unsee (E : ul_S) : Option (Int32 × ul_S) :=
  (f_X3_clear E).bind fun u1 => some (u1.1, u1.2)
set_option maxHeartbeats 4000000 in
set_option maxRecDepth 100000 in
theorem c_X6_unsee (l : Launch) (dC : Nat → ClassId) (dI : Nat → Nat → Nat) (cI : ClassId) (cZ : ClassId) (cO : ClassId) (aU : Nat → Nat) (aL : Nat → Nat) (aD : Nat → Nat) (aK : Nat → Nat) (aN : Nat → Nat) (aT : Nat → Nat) (aJ : Nat → Nat) (aE : Nat → Nat) (aF : Nat → Nat) (aP : Nat → Nat → Nat) (aB : Nat → Nat → Nat) (sz : Nat) (U : ul_S) (d : Int64) (L : ul_S) (D : ul_S) (K : ul_S) (N : ul_S) (T : ul_S) (J : ul_S) (E : ul_S) (F : ul_S) (P : ul_F) (B : ul_F) (r : (Int32 × ul_S)) (h : f_X6_unsee E = some r) : Met l yX6_unsee wsX6_unsee ({ frames := 1, cells := 0, slots := 0, locals := 21 }) (va_Pc [.ref (aU 0)] (ul_pre (dC, dI) [(cI, .int), (cZ, .boolean), (cO, .object RX4)] ul_NX sz ([ul_wU cZ cO aU (aL 0) (aD 0) (aK 0) (aN 0) (aT 0) (aJ 0) (aE 0) (aF 0) aP U d, ul_wL cI aL L, ul_wK cI aD D, ul_wK cI aK K, ul_wS cI aN (aK 0) N, ul_wS cI aT (aK 0) T, ul_wJ cO aJ aB J, ul_wE cI aE E, ul_wG cI aF (aK 0) (aN 0) (aT 0) F, ul_wB cI aP (aK 0) 2 P, ul_wB cI aB (aK 0) 14 B] : List va_W).flatten)) (va_Qi (fun v (_ : Unit) => v = r.1) (fun _ => ul_post (dC, dI) [(cI, .int), (cZ, .boolean), (cO, .object RX4)] (va_A ([ul_wU cZ cO aU (aL 0) (aD 0) (aK 0) (aN 0) (aT 0) (aJ 0) (aE 0) (aF 0) aP U d, ul_wL cI aL L, ul_wK cI aD D, ul_wK cI aK K, ul_wS cI aN (aK 0) N, ul_wS cI aT (aK 0) T, ul_wJ cO aJ aB J, ul_wE cI aE E, ul_wG cI aF (aK 0) (aN 0) (aT 0) F, ul_wB cI aP (aK 0) 2 P, ul_wB cI aB (aK 0) 14 B] : List va_W).flatten sz) ([ul_wU cZ cO aU (aL 0) (aD 0) (aK 0) (aN 0) (aT 0) (aJ 0) (aE 0) (aF 0) aP U d, ul_wL cI aL L, ul_wK cI aD D, ul_wK cI aK K, ul_wS cI aN (aK 0) N, ul_wS cI aT (aK 0) T, ul_wJ cO aJ aB J, ul_wE cI aE r.2, ul_wG cI aF (aK 0) (aN 0) (aT 0) F, ul_wB cI aP (aK 0) 2 P, ul_wB cI aB (aK 0) 14 B] : List va_W).flatten) (va_A ([ul_wU cZ cO aU (aL 0) (aD 0) (aK 0) (aN 0) (aT 0) (aJ 0) (aE 0) (aF 0) aP U d, ul_wL cI aL L, ul_wK cI aD D, ul_wK cI aK K, ul_wS cI aN (aK 0) N, ul_wS cI aT (aK 0) T, ul_wJ cO aJ aB J, ul_wE cI aE E, ul_wG cI aF (aK 0) (aN 0) (aT 0) F, ul_wB cI aP (aK 0) 2 P, ul_wB cI aB (aK 0) 14 B] : List va_W).flatten sz)) 0 0 (va_A ([ul_wU cZ cO aU (aL 0) (aD 0) (aK 0) (aN 0) (aT 0) (aJ 0) (aE 0) (aF 0) aP U d, ul_wL cI aL L, ul_wK cI aD D, ul_wK cI aK K, ul_wS cI aN (aK 0) N, ul_wS cI aT (aK 0) T, ul_wJ cO aJ aB J, ul_wE cI aE E, ul_wG cI aF (aK 0) (aN 0) (aT 0) F, ul_wB cI aP (aK 0) 2 P, ul_wB cI aB (aK 0) 14 B] : List va_W).flatten sz) := by
  refine Met.ofW (cc := cX6_unsee) (maxL := 1) (ret := (some .int)) (by decide) rfl ?_
  intro p e s m args below meth c s₁ BB hml hv
  obtain ⟨rfl, hsz, hP, hK, hD0, hN⟩ := hv
  have hx := BB.exec
  have hb := BB.bytes
  have hr := BB.returns
  have hts := atoms_spec (ws := wsX6_unsee) BB.pre
  have hown : s.vm.findClass RX6 = some m.cls := findClass_of_methodNamed BB.named
  have hlocks := BB.notSynchronized
  have hin6 : ∀ w ∈ u_ws RX6 TX6 11, w ∈ wsX6_unsee := by decide +kernel
  subst hsz
  have hD := hD0.self (sz := s.heap.size)
  generalize hAe : va_A ([ul_wU cZ cO aU (aL 0) (aD 0) (aK 0) (aN 0) (aT 0) (aJ 0) (aE 0) (aF 0) aP U d, ul_wL cI aL L, ul_wK cI aD D, ul_wK cI aK K, ul_wS cI aN (aK 0) N, ul_wS cI aT (aK 0) T, ul_wJ cO aJ aB J, ul_wE cI aE E, ul_wG cI aF (aK 0) (aN 0) (aT 0) F, ul_wB cI aP (aK 0) 2 P, ul_wB cI aB (aK 0) 14 B] : List va_W).flatten s.heap.size = A at hD hN ⊢
  have hA : ∀ q : Nat, s.heap.size ≤ q → A q := fun q h => by rw [← hAe]; exact Or.inr h
  have hS : va_S A s.heap s.heap [] := va_S.rf
  have hl := lv_entry ([.ref (aU 0)]) (n := 1) (Nat.le_of_ble_eq_true rfl)
  rw [lg_entry_eq]
  generalize (lg_sl ([.ref (aU 0)]) ++ List.replicate (1 - (lg_sl ([.ref (aU 0)])).length) Slot.unset).toArray = ls at hl ⊢
  have hl : lv_has ls 1 [(0, .ref (aU 0))] := hl
  obtain ⟨K0, hK0, h⟩ := ul_top h
  unfold f_X6_unsee at h
  refine ul_gen (fun G gi ge => ?_)
  obtain ⟨H, eH⟩ : ∃ z, z = s.heap := ⟨_, rfl⟩
  obtain ⟨locs, eL⟩ : ∃ z : List Loc, z = [] := ⟨_, rfl⟩
  have hP : va_P (dC, dI) classes ([ul_wU cZ cO aU (aL 0) (aD 0) (aK 0) (aN 0) (aT 0) (aJ 0) (aE 0) (aF 0) aP U d, ul_wL cI aL L, ul_wK cI aD D, ul_wK cI aK K, ul_wS cI aN (aK 0) N, ul_wS cI aT (aK 0) T, ul_wJ cO aJ aB J, ul_wE cI aE E, ul_wG cI aF (aK 0) (aN 0) (aT 0) F, ul_wB cI aP (aK 0) 2 P, ul_wB cI aB (aK 0) 14 B] : List va_W).flatten H := by rw [eH]; exact hP
  have hS : va_S A s.heap H locs := by rw [eH, eL]; exact hS
  rw [← eL]
  refine (show G H locs (F0 m 0 ls []) → G s.heap locs (F0 m 0 ls []) from fun z => by rw [← eH]; exact z) ?_
  refine gi _ _ _ ?_
  refine lv_aload_n hx hb dX6_unsee_0 rfl (lv_at hl 0 rfl) ?_
  refine va_get (D := (dC, dI)) (ci := 6) (v := .ref (aE 0)) (C := RX6) (T := TX6) (N := 11) hx hb hts hin6 hown hK hP 0 rfl rfl 6 (by decide) (hts (.fieldLink RX6 48 "UnderLadders" "seen" "LUnderLadders$Seen;") (by decide +kernel)) (fun _ h9 => h9) rfl dX6_unsee_1 ?_
  obtain ⟨u1, hu1, h⟩ := ul_cl_h h
  refine ul_cPi (As := []) (rest := []) (wc := (ul_wE cI aE E)) (wc' := (ul_wE cI aE u1.2)) (wr := ([ul_wU cZ cO aU (aL 0) (aD 0) (aK 0) (aN 0) (aT 0) (aJ 0) (aE 0) (aF 0) aP U d, ul_wL cI aL L, ul_wK cI aD D, ul_wK cI aK K, ul_wS cI aN (aK 0) N, ul_wS cI aT (aK 0) T, ul_wJ cO aJ aB J, ul_wG cI aF (aK 0) (aN 0) (aT 0) F, ul_wB cI aP (aK 0) 2 P, ul_wB cI aB (aK 0) 14 B] : List va_W).flatten) hP hD hS hK hA [0] ul_NX_ok hN (c_X3_clear l dC dI cI aE H.size E u1 hu1) (ul_pmq (bs := [ul_wU cZ cO aU (aL 0) (aD 0) (aK 0) (aN 0) (aT 0) (aJ 0) (aE 0) (aF 0) aP U d, ul_wL cI aL L, ul_wK cI aD D, ul_wK cI aK K, ul_wS cI aN (aK 0) N, ul_wS cI aT (aK 0) T, ul_wJ cO aJ aB J, ul_wE cI aE E, ul_wG cI aF (aK 0) (aN 0) (aT 0) F, ul_wB cI aP (aK 0) 2 P, ul_wB cI aB (aK 0) 14 B]) [7, 0, 1, 2, 3, 4, 5, 6, 8, 9, 10] (by show List.Perm _ (List.range 11); decide) (by simp only [List.map_cons, List.map_nil, List.getD_cons_zero, List.getD_cons_succ, List.flatten_cons, List.flatten_nil, List.append_nil, List.nil_append, List.append_assoc])) rfl ⟨hx, hb, hml, hown, hts⟩ (cwV 0 hts gX6_unsee_X3_clear rfl rfl rfl (by decide +kernel) ⟨Nat.le_of_ble_eq_true rfl, Nat.le_of_ble_eq_true rfl⟩) (va_recv hK hP (ci := 3) (q0 := 37) rfl rfl) rfl hl.1 rfl (Nat.le_of_ble_eq_true rfl) dX6_unsee_4 (fun H locs hw => ?_)
  have hw := hw.pm (ul_pmq (bs := [ul_wU cZ cO aU (aL 0) (aD 0) (aK 0) (aN 0) (aT 0) (aJ 0) (aE 0) (aF 0) aP U d, ul_wL cI aL L, ul_wK cI aD D, ul_wK cI aK K, ul_wS cI aN (aK 0) N, ul_wS cI aT (aK 0) T, ul_wJ cO aJ aB J, ul_wE cI aE u1.2, ul_wG cI aF (aK 0) (aN 0) (aT 0) F, ul_wB cI aP (aK 0) 2 P, ul_wB cI aB (aK 0) 14 B]) [0, 1, 2, 3, 4, 5, 6, 8, 9, 10, 7] (by show List.Perm _ (List.range 11); decide) (by simp only [List.map_cons, List.map_nil, List.getD_cons_zero, List.getD_cons_succ, List.flatten_cons, List.flatten_nil, List.append_nil, List.nil_append, List.append_assoc])).symm
  obtain ⟨hP, hD, hS⟩ := hw
  have hP : va_P (dC, dI) classes ([ul_wU cZ cO aU (aL 0) (aD 0) (aK 0) (aN 0) (aT 0) (aJ 0) (aE 0) (aF 0) aP U d, ul_wL cI aL L, ul_wK cI aD D, ul_wK cI aK K, ul_wS cI aN (aK 0) N, ul_wS cI aT (aK 0) T, ul_wJ cO aJ aB J, ul_wE cI aE u1.2, ul_wG cI aF (aK 0) (aN 0) (aT 0) F, ul_wB cI aP (aK 0) 2 P, ul_wB cI aB (aK 0) 14 B] : List va_W).flatten H := hP
  have hD : va_D A ([ul_wU cZ cO aU (aL 0) (aD 0) (aK 0) (aN 0) (aT 0) (aJ 0) (aE 0) (aF 0) aP U d, ul_wL cI aL L, ul_wK cI aD D, ul_wK cI aK K, ul_wS cI aN (aK 0) N, ul_wS cI aT (aK 0) T, ul_wJ cO aJ aB J, ul_wE cI aE u1.2, ul_wG cI aF (aK 0) (aN 0) (aT 0) F, ul_wB cI aP (aK 0) 2 P, ul_wB cI aB (aK 0) 14 B] : List va_W).flatten := hD
  have hr9 := hK0 (u1.1, u1.2) h
  subst hr9
  exact W.iret (v := u1.1) hx hb hr (fun t ht hW => ⟨⟨u1.1, (), rfl, rfl, by rw [ht]; exact hP, va_K.moved hW.alike hK, hD⟩, hS.F ht⟩) hS.2.2 dX6_unsee_7
def f_X6_may (E : ul_S) (p1 : Int32) : Option Int32 :=
  if p1 < 0 then (some (-2 : Int32)) else (if p1 ≤ (1 : Int32) then (if p1 = 0 then ((f_X3_countFitting E).bind fun u5 => some u5) else ((f_X3_firstFitting E).bind fun u4 => some u4)) else (some (-2 : Int32)))
set_option maxHeartbeats 4000000 in
set_option maxRecDepth 100000 in
theorem c_X6_may (l : Launch) (dC : Nat → ClassId) (dI : Nat → Nat → Nat) (cI : ClassId) (cZ : ClassId) (cO : ClassId) (aU : Nat → Nat) (aL : Nat → Nat) (aD : Nat → Nat) (aK : Nat → Nat) (aN : Nat → Nat) (aT : Nat → Nat) (aJ : Nat → Nat) (aE : Nat → Nat) (aF : Nat → Nat) (aP : Nat → Nat → Nat) (aB : Nat → Nat → Nat) (sz : Nat) (U : ul_S) (d : Int64) (L : ul_S) (D : ul_S) (K : ul_S) (N : ul_S) (T : ul_S) (J : ul_S) (E : ul_S) (F : ul_S) (P : ul_F) (B : ul_F) (p1 : Int32) (r : Int32) (h : f_X6_may E p1 = some r) : Met l yX6_may wsX6_may ({ frames := 3, cells := 0, slots := 0, locals := 69 }) (va_Pc [.ref (aU 0), .int p1] (ul_pre (dC, dI) [(cI, .int), (cZ, .boolean), (cO, .object RX4)] ul_NX sz ([ul_wU cZ cO aU (aL 0) (aD 0) (aK 0) (aN 0) (aT 0) (aJ 0) (aE 0) (aF 0) aP U d, ul_wL cI aL L, ul_wK cI aD D, ul_wK cI aK K, ul_wS cI aN (aK 0) N, ul_wS cI aT (aK 0) T, ul_wJ cO aJ aB J, ul_wE cI aE E, ul_wG cI aF (aK 0) (aN 0) (aT 0) F, ul_wB cI aP (aK 0) 2 P, ul_wB cI aB (aK 0) 14 B] : List va_W).flatten)) (va_Qi (fun v (_ : Unit) => v = r) (fun _ => ul_post (dC, dI) [(cI, .int), (cZ, .boolean), (cO, .object RX4)] (va_A ([ul_wU cZ cO aU (aL 0) (aD 0) (aK 0) (aN 0) (aT 0) (aJ 0) (aE 0) (aF 0) aP U d, ul_wL cI aL L, ul_wK cI aD D, ul_wK cI aK K, ul_wS cI aN (aK 0) N, ul_wS cI aT (aK 0) T, ul_wJ cO aJ aB J, ul_wE cI aE E, ul_wG cI aF (aK 0) (aN 0) (aT 0) F, ul_wB cI aP (aK 0) 2 P, ul_wB cI aB (aK 0) 14 B] : List va_W).flatten sz) ([ul_wU cZ cO aU (aL 0) (aD 0) (aK 0) (aN 0) (aT 0) (aJ 0) (aE 0) (aF 0) aP U d, ul_wL cI aL L, ul_wK cI aD D, ul_wK cI aK K, ul_wS cI aN (aK 0) N, ul_wS cI aT (aK 0) T, ul_wJ cO aJ aB J, ul_wE cI aE E, ul_wG cI aF (aK 0) (aN 0) (aT 0) F, ul_wB cI aP (aK 0) 2 P, ul_wB cI aB (aK 0) 14 B] : List va_W).flatten) (va_A ([ul_wU cZ cO aU (aL 0) (aD 0) (aK 0) (aN 0) (aT 0) (aJ 0) (aE 0) (aF 0) aP U d, ul_wL cI aL L, ul_wK cI aD D, ul_wK cI aK K, ul_wS cI aN (aK 0) N, ul_wS cI aT (aK 0) T, ul_wJ cO aJ aB J, ul_wE cI aE E, ul_wG cI aF (aK 0) (aN 0) (aT 0) F, ul_wB cI aP (aK 0) 2 P, ul_wB cI aB (aK 0) 14 B] : List va_W).flatten sz)) 0 0 (va_A ([ul_wU cZ cO aU (aL 0) (aD 0) (aK 0) (aN 0) (aT 0) (aJ 0) (aE 0) (aF 0) aP U d, ul_wL cI aL L, ul_wK cI aD D, ul_wK cI aK K, ul_wS cI aN (aK 0) N, ul_wS cI aT (aK 0) T, ul_wJ cO aJ aB J, ul_wE cI aE E, ul_wG cI aF (aK 0) (aN 0) (aT 0) F, ul_wB cI aP (aK 0) 2 P, ul_wB cI aB (aK 0) 14 B] : List va_W).flatten sz) := by
  refine Met.ofW (cc := cX6_may) (maxL := 2) (ret := (some .int)) (by decide) rfl ?_
  intro p e s m args below meth c s₁ BB hml hv
  obtain ⟨rfl, hsz, hP, hK, hD0, hN⟩ := hv
  have hx := BB.exec
  have hb := BB.bytes
  have hr := BB.returns
  have hts := atoms_spec (ws := wsX6_may) BB.pre
  have hown : s.vm.findClass RX6 = some m.cls := findClass_of_methodNamed BB.named
  have hlocks := BB.notSynchronized
  have hin6 : ∀ w ∈ u_ws RX6 TX6 11, w ∈ wsX6_may := by decide +kernel
  subst hsz
  have hD := hD0.self (sz := s.heap.size)
  generalize hAe : va_A ([ul_wU cZ cO aU (aL 0) (aD 0) (aK 0) (aN 0) (aT 0) (aJ 0) (aE 0) (aF 0) aP U d, ul_wL cI aL L, ul_wK cI aD D, ul_wK cI aK K, ul_wS cI aN (aK 0) N, ul_wS cI aT (aK 0) T, ul_wJ cO aJ aB J, ul_wE cI aE E, ul_wG cI aF (aK 0) (aN 0) (aT 0) F, ul_wB cI aP (aK 0) 2 P, ul_wB cI aB (aK 0) 14 B] : List va_W).flatten s.heap.size = A at hD hN ⊢
  have hA : ∀ q : Nat, s.heap.size ≤ q → A q := fun q h => by rw [← hAe]; exact Or.inr h
  have hS : va_S A s.heap s.heap [] := va_S.rf
  have hl := lv_entry ([.ref (aU 0), .int p1]) (n := 2) (Nat.le_of_ble_eq_true rfl)
  rw [lg_entry_eq]
  generalize (lg_sl ([.ref (aU 0), .int p1]) ++ List.replicate (2 - (lg_sl ([.ref (aU 0), .int p1])).length) Slot.unset).toArray = ls at hl ⊢
  have hl : lv_has ls 2 [(0, .ref (aU 0)), (1, .int p1)] := hl
  obtain ⟨K0, hK0, h⟩ := ul_top h
  unfold f_X6_may at h
  refine ul_gen (fun G gi ge => ?_)
  obtain ⟨H, eH⟩ : ∃ z, z = s.heap := ⟨_, rfl⟩
  obtain ⟨locs, eL⟩ : ∃ z : List Loc, z = [] := ⟨_, rfl⟩
  have hP : va_P (dC, dI) classes ([ul_wU cZ cO aU (aL 0) (aD 0) (aK 0) (aN 0) (aT 0) (aJ 0) (aE 0) (aF 0) aP U d, ul_wL cI aL L, ul_wK cI aD D, ul_wK cI aK K, ul_wS cI aN (aK 0) N, ul_wS cI aT (aK 0) T, ul_wJ cO aJ aB J, ul_wE cI aE E, ul_wG cI aF (aK 0) (aN 0) (aT 0) F, ul_wB cI aP (aK 0) 2 P, ul_wB cI aB (aK 0) 14 B] : List va_W).flatten H := by rw [eH]; exact hP
  have hS : va_S A s.heap H locs := by rw [eH, eL]; exact hS
  rw [← eL]
  refine (show G H locs (F0 m 0 ls []) → G s.heap locs (F0 m 0 ls []) from fun z => by rw [← eH]; exact z) ?_
  refine gi _ _ _ ?_
  refine lv_iload_n hx hb dX6_may_0 rfl (lv_at hl 1 rfl) ?_
  refine lv_if_lt (tgt := 9) hx hb dX6_may_1 (by decide) (fun hc1 => ?_) (fun hc1 => ?_)
  · have h := ul_if_t hc1 h
    refine lv_bipush (v := -2) hx hb dX6_may_9 (by decide) ?_
    have hr9 := hK0 (-2 : Int32) h
    subst hr9
    exact W.iret (v := (-2 : Int32)) hx hb hr (fun t ht hW => ⟨⟨(-2 : Int32), (), rfl, rfl, by rw [ht]; exact hP, va_K.moved hW.alike hK, hD⟩, hS.F ht⟩) hS.2.2 dX6_may_11
  · have h := ul_if_f hc1 h
    refine lv_iload_n hx hb dX6_may_4 rfl (lv_at hl 1 rfl) ?_
    refine lv_iconst (v := 1) hx hb dX6_may_5 (by decide) ?_
    refine lv_icmp_le (tgt := 12) hx hb dX6_may_6 (by decide) (fun hc2 => ?_) (fun hc2 => ?_)
    · have h := ul_if_t hc2 h
      refine lv_iload_n hx hb dX6_may_12 rfl (lv_at hl 1 rfl) ?_
      refine lv_if_ne (tgt := 26) hx hb dX6_may_13 (by decide) (fun hc3 => ?_) (fun hc3 => ?_)
      · have h := ul_if_f hc3 h
        refine lv_aload_n hx hb dX6_may_26 rfl (lv_at hl 0 rfl) ?_
        refine va_get (D := (dC, dI)) (ci := 6) (v := .ref (aE 0)) (C := RX6) (T := TX6) (N := 11) hx hb hts hin6 hown hK hP 0 rfl rfl 6 (by decide) (hts (.fieldLink RX6 48 "UnderLadders" "seen" "LUnderLadders$Seen;") (by decide +kernel)) (fun _ h9 => h9) rfl dX6_may_27 ?_
        obtain ⟨u4, hu4, h⟩ := ul_cl_h h
        refine ul_cPi (As := []) (rest := []) (wc := (ul_wE cI aE E)) (wc' := (ul_wE cI aE E)) (wr := ([ul_wU cZ cO aU (aL 0) (aD 0) (aK 0) (aN 0) (aT 0) (aJ 0) (aE 0) (aF 0) aP U d, ul_wL cI aL L, ul_wK cI aD D, ul_wK cI aK K, ul_wS cI aN (aK 0) N, ul_wS cI aT (aK 0) T, ul_wJ cO aJ aB J, ul_wG cI aF (aK 0) (aN 0) (aT 0) F, ul_wB cI aP (aK 0) 2 P, ul_wB cI aB (aK 0) 14 B] : List va_W).flatten) hP hD hS hK hA [0] ul_NX_ok hN (c_X3_firstFitting l dC dI cI aE H.size E u4 hu4) (ul_pmq (bs := [ul_wU cZ cO aU (aL 0) (aD 0) (aK 0) (aN 0) (aT 0) (aJ 0) (aE 0) (aF 0) aP U d, ul_wL cI aL L, ul_wK cI aD D, ul_wK cI aK K, ul_wS cI aN (aK 0) N, ul_wS cI aT (aK 0) T, ul_wJ cO aJ aB J, ul_wE cI aE E, ul_wG cI aF (aK 0) (aN 0) (aT 0) F, ul_wB cI aP (aK 0) 2 P, ul_wB cI aB (aK 0) 14 B]) [7, 0, 1, 2, 3, 4, 5, 6, 8, 9, 10] (by show List.Perm _ (List.range 11); decide) (by simp only [List.map_cons, List.map_nil, List.getD_cons_zero, List.getD_cons_succ, List.flatten_cons, List.flatten_nil, List.append_nil, List.nil_append, List.append_assoc])) rfl ⟨hx, hb, hml, hown, hts⟩ (cwV 0 hts gX6_may_X3_firstFitting rfl rfl rfl (by decide +kernel) ⟨Nat.le_of_ble_eq_true rfl, Nat.le_of_ble_eq_true rfl⟩) (va_recv hK hP (ci := 3) (q0 := 37) rfl rfl) rfl hl.1 rfl (Nat.le_of_ble_eq_true rfl) dX6_may_30 (fun H locs hw => ?_)
        have hw := hw.pm (ul_pmq (bs := [ul_wU cZ cO aU (aL 0) (aD 0) (aK 0) (aN 0) (aT 0) (aJ 0) (aE 0) (aF 0) aP U d, ul_wL cI aL L, ul_wK cI aD D, ul_wK cI aK K, ul_wS cI aN (aK 0) N, ul_wS cI aT (aK 0) T, ul_wJ cO aJ aB J, ul_wE cI aE E, ul_wG cI aF (aK 0) (aN 0) (aT 0) F, ul_wB cI aP (aK 0) 2 P, ul_wB cI aB (aK 0) 14 B]) [0, 1, 2, 3, 4, 5, 6, 8, 9, 10, 7] (by show List.Perm _ (List.range 11); decide) (by simp only [List.map_cons, List.map_nil, List.getD_cons_zero, List.getD_cons_succ, List.flatten_cons, List.flatten_nil, List.append_nil, List.nil_append, List.append_assoc])).symm
        obtain ⟨hP, hD, hS⟩ := hw
        have hP : va_P (dC, dI) classes ([ul_wU cZ cO aU (aL 0) (aD 0) (aK 0) (aN 0) (aT 0) (aJ 0) (aE 0) (aF 0) aP U d, ul_wL cI aL L, ul_wK cI aD D, ul_wK cI aK K, ul_wS cI aN (aK 0) N, ul_wS cI aT (aK 0) T, ul_wJ cO aJ aB J, ul_wE cI aE E, ul_wG cI aF (aK 0) (aN 0) (aT 0) F, ul_wB cI aP (aK 0) 2 P, ul_wB cI aB (aK 0) 14 B] : List va_W).flatten H := hP
        have hD : va_D A ([ul_wU cZ cO aU (aL 0) (aD 0) (aK 0) (aN 0) (aT 0) (aJ 0) (aE 0) (aF 0) aP U d, ul_wL cI aL L, ul_wK cI aD D, ul_wK cI aK K, ul_wS cI aN (aK 0) N, ul_wS cI aT (aK 0) T, ul_wJ cO aJ aB J, ul_wE cI aE E, ul_wG cI aF (aK 0) (aN 0) (aT 0) F, ul_wB cI aP (aK 0) 2 P, ul_wB cI aB (aK 0) 14 B] : List va_W).flatten := hD
        have hr9 := hK0 u4 h
        subst hr9
        exact W.iret (v := u4) hx hb hr (fun t ht hW => ⟨⟨u4, (), rfl, rfl, by rw [ht]; exact hP, va_K.moved hW.alike hK, hD⟩, hS.F ht⟩) hS.2.2 dX6_may_33
      · have h := ul_if_t hc3 h
        refine lv_aload_n hx hb dX6_may_16 rfl (lv_at hl 0 rfl) ?_
        refine va_get (D := (dC, dI)) (ci := 6) (v := .ref (aE 0)) (C := RX6) (T := TX6) (N := 11) hx hb hts hin6 hown hK hP 0 rfl rfl 6 (by decide) (hts (.fieldLink RX6 48 "UnderLadders" "seen" "LUnderLadders$Seen;") (by decide +kernel)) (fun _ h9 => h9) rfl dX6_may_17 ?_
        obtain ⟨u5, hu5, h⟩ := ul_cl_h h
        refine ul_cPi (As := []) (rest := []) (wc := (ul_wE cI aE E)) (wc' := (ul_wE cI aE E)) (wr := ([ul_wU cZ cO aU (aL 0) (aD 0) (aK 0) (aN 0) (aT 0) (aJ 0) (aE 0) (aF 0) aP U d, ul_wL cI aL L, ul_wK cI aD D, ul_wK cI aK K, ul_wS cI aN (aK 0) N, ul_wS cI aT (aK 0) T, ul_wJ cO aJ aB J, ul_wG cI aF (aK 0) (aN 0) (aT 0) F, ul_wB cI aP (aK 0) 2 P, ul_wB cI aB (aK 0) 14 B] : List va_W).flatten) hP hD hS hK hA [0] ul_NX_ok hN (c_X3_countFitting l dC dI cI aE H.size E u5 hu5) (ul_pmq (bs := [ul_wU cZ cO aU (aL 0) (aD 0) (aK 0) (aN 0) (aT 0) (aJ 0) (aE 0) (aF 0) aP U d, ul_wL cI aL L, ul_wK cI aD D, ul_wK cI aK K, ul_wS cI aN (aK 0) N, ul_wS cI aT (aK 0) T, ul_wJ cO aJ aB J, ul_wE cI aE E, ul_wG cI aF (aK 0) (aN 0) (aT 0) F, ul_wB cI aP (aK 0) 2 P, ul_wB cI aB (aK 0) 14 B]) [7, 0, 1, 2, 3, 4, 5, 6, 8, 9, 10] (by show List.Perm _ (List.range 11); decide) (by simp only [List.map_cons, List.map_nil, List.getD_cons_zero, List.getD_cons_succ, List.flatten_cons, List.flatten_nil, List.append_nil, List.nil_append, List.append_assoc])) rfl ⟨hx, hb, hml, hown, hts⟩ (cwV 0 hts gX6_may_X3_countFitting rfl rfl rfl (by decide +kernel) ⟨Nat.le_of_ble_eq_true rfl, Nat.le_of_ble_eq_true rfl⟩) (va_recv hK hP (ci := 3) (q0 := 37) rfl rfl) rfl hl.1 rfl (Nat.le_of_ble_eq_true rfl) dX6_may_20 (fun H locs hw => ?_)
        have hw := hw.pm (ul_pmq (bs := [ul_wU cZ cO aU (aL 0) (aD 0) (aK 0) (aN 0) (aT 0) (aJ 0) (aE 0) (aF 0) aP U d, ul_wL cI aL L, ul_wK cI aD D, ul_wK cI aK K, ul_wS cI aN (aK 0) N, ul_wS cI aT (aK 0) T, ul_wJ cO aJ aB J, ul_wE cI aE E, ul_wG cI aF (aK 0) (aN 0) (aT 0) F, ul_wB cI aP (aK 0) 2 P, ul_wB cI aB (aK 0) 14 B]) [0, 1, 2, 3, 4, 5, 6, 8, 9, 10, 7] (by show List.Perm _ (List.range 11); decide) (by simp only [List.map_cons, List.map_nil, List.getD_cons_zero, List.getD_cons_succ, List.flatten_cons, List.flatten_nil, List.append_nil, List.nil_append, List.append_assoc])).symm
        obtain ⟨hP, hD, hS⟩ := hw
        have hP : va_P (dC, dI) classes ([ul_wU cZ cO aU (aL 0) (aD 0) (aK 0) (aN 0) (aT 0) (aJ 0) (aE 0) (aF 0) aP U d, ul_wL cI aL L, ul_wK cI aD D, ul_wK cI aK K, ul_wS cI aN (aK 0) N, ul_wS cI aT (aK 0) T, ul_wJ cO aJ aB J, ul_wE cI aE E, ul_wG cI aF (aK 0) (aN 0) (aT 0) F, ul_wB cI aP (aK 0) 2 P, ul_wB cI aB (aK 0) 14 B] : List va_W).flatten H := hP
        have hD : va_D A ([ul_wU cZ cO aU (aL 0) (aD 0) (aK 0) (aN 0) (aT 0) (aJ 0) (aE 0) (aF 0) aP U d, ul_wL cI aL L, ul_wK cI aD D, ul_wK cI aK K, ul_wS cI aN (aK 0) N, ul_wS cI aT (aK 0) T, ul_wJ cO aJ aB J, ul_wE cI aE E, ul_wG cI aF (aK 0) (aN 0) (aT 0) F, ul_wB cI aP (aK 0) 2 P, ul_wB cI aB (aK 0) 14 B] : List va_W).flatten := hD
        refine lv_goto (tgt := 33) hx hb dX6_may_23 (by decide) ?_
        have hr9 := hK0 u5 h
        subst hr9
        exact W.iret (v := u5) hx hb hr (fun t ht hW => ⟨⟨u5, (), rfl, rfl, by rw [ht]; exact hP, va_K.moved hW.alike hK, hD⟩, hS.F ht⟩) hS.2.2 dX6_may_33
    · have h := ul_if_f hc2 h
      refine lv_bipush (v := -2) hx hb dX6_may_9 (by decide) ?_
      have hr9 := hK0 (-2 : Int32) h
      subst hr9
      exact W.iret (v := (-2 : Int32)) hx hb hr (fun t ht hW => ⟨⟨(-2 : Int32), (), rfl, rfl, by rw [ht]; exact hP, va_K.moved hW.alike hK, hD⟩, hS.F ht⟩) hS.2.2 dX6_may_11
def f_X6_share (K : ul_S) (N : ul_S) (T : ul_S) (F : ul_S) (p1 : Int32) (p2 : Int32) (p3 : Int32) : Option (Int32 × ul_S × ul_S) :=
  (f_X6_isPerson K p1).bind fun u1 => if u1 = 0 then (some ((-1 : Int32), T, F)) else ((f_X6_isLadder K p2).bind fun u3 => if u3 = 0 then (some ((-1 : Int32), T, F)) else ((f_X1_weighCompanies F N T K p2).bind fun u5 => (f_X1_sumOfGains u5.1 K p1).bind fun u6 => (f_X6_ordersOf (K 0 1)).bind fun u7 => (f_X6_inLeastTerms u6 u7 p3).bind fun u8 => some (u8, u5.2, u5.1)))
set_option maxHeartbeats 4000000 in
set_option maxRecDepth 100000 in
theorem c_X6_share (l : Launch) (dC : Nat → ClassId) (dI : Nat → Nat → Nat) (cI : ClassId) (cZ : ClassId) (cO : ClassId) (aU : Nat → Nat) (aL : Nat → Nat) (aD : Nat → Nat) (aK : Nat → Nat) (aN : Nat → Nat) (aT : Nat → Nat) (aJ : Nat → Nat) (aE : Nat → Nat) (aF : Nat → Nat) (aP : Nat → Nat → Nat) (aB : Nat → Nat → Nat) (sz : Nat) (U : ul_S) (d : Int64) (L : ul_S) (D : ul_S) (K : ul_S) (N : ul_S) (T : ul_S) (J : ul_S) (E : ul_S) (F : ul_S) (P : ul_F) (B : ul_F) (p1 : Int32) (p2 : Int32) (p3 : Int32) (r : (Int32 × ul_S × ul_S)) (h : f_X6_share K N T F p1 p2 p3 = some r) : Met l yX6_share wsX6_share ({ frames := 6, cells := 0, slots := 0, locals := 154 }) (va_Pc [.ref (aU 0), .int p1, .int p2, .int p3] (ul_pre (dC, dI) [(cI, .int), (cZ, .boolean), (cO, .object RX4)] ul_NX sz ([ul_wU cZ cO aU (aL 0) (aD 0) (aK 0) (aN 0) (aT 0) (aJ 0) (aE 0) (aF 0) aP U d, ul_wL cI aL L, ul_wK cI aD D, ul_wK cI aK K, ul_wS cI aN (aK 0) N, ul_wS cI aT (aK 0) T, ul_wJ cO aJ aB J, ul_wE cI aE E, ul_wG cI aF (aK 0) (aN 0) (aT 0) F, ul_wB cI aP (aK 0) 2 P, ul_wB cI aB (aK 0) 14 B] : List va_W).flatten)) (va_Qi (fun v (_ : Unit) => v = r.1) (fun _ => ul_post (dC, dI) [(cI, .int), (cZ, .boolean), (cO, .object RX4)] (va_A ([ul_wU cZ cO aU (aL 0) (aD 0) (aK 0) (aN 0) (aT 0) (aJ 0) (aE 0) (aF 0) aP U d, ul_wL cI aL L, ul_wK cI aD D, ul_wK cI aK K, ul_wS cI aN (aK 0) N, ul_wS cI aT (aK 0) T, ul_wJ cO aJ aB J, ul_wE cI aE E, ul_wG cI aF (aK 0) (aN 0) (aT 0) F, ul_wB cI aP (aK 0) 2 P, ul_wB cI aB (aK 0) 14 B] : List va_W).flatten sz) ([ul_wU cZ cO aU (aL 0) (aD 0) (aK 0) (aN 0) (aT 0) (aJ 0) (aE 0) (aF 0) aP U d, ul_wL cI aL L, ul_wK cI aD D, ul_wK cI aK K, ul_wS cI aN (aK 0) N, ul_wS cI aT (aK 0) r.2.1, ul_wJ cO aJ aB J, ul_wE cI aE E, ul_wG cI aF (aK 0) (aN 0) (aT 0) r.2.2, ul_wB cI aP (aK 0) 2 P, ul_wB cI aB (aK 0) 14 B] : List va_W).flatten) (va_A ([ul_wU cZ cO aU (aL 0) (aD 0) (aK 0) (aN 0) (aT 0) (aJ 0) (aE 0) (aF 0) aP U d, ul_wL cI aL L, ul_wK cI aD D, ul_wK cI aK K, ul_wS cI aN (aK 0) N, ul_wS cI aT (aK 0) T, ul_wJ cO aJ aB J, ul_wE cI aE E, ul_wG cI aF (aK 0) (aN 0) (aT 0) F, ul_wB cI aP (aK 0) 2 P, ul_wB cI aB (aK 0) 14 B] : List va_W).flatten sz)) 0 0 (va_A ([ul_wU cZ cO aU (aL 0) (aD 0) (aK 0) (aN 0) (aT 0) (aJ 0) (aE 0) (aF 0) aP U d, ul_wL cI aL L, ul_wK cI aD D, ul_wK cI aK K, ul_wS cI aN (aK 0) N, ul_wS cI aT (aK 0) T, ul_wJ cO aJ aB J, ul_wE cI aE E, ul_wG cI aF (aK 0) (aN 0) (aT 0) F, ul_wB cI aP (aK 0) 2 P, ul_wB cI aB (aK 0) 14 B] : List va_W).flatten sz) := by
  refine Met.ofW (cc := cX6_share) (maxL := 4) (ret := (some .int)) (by decide) rfl ?_
  intro p e s m args below meth c s₁ BB hml hv
  obtain ⟨rfl, hsz, hP, hK, hD0, hN⟩ := hv
  have hx := BB.exec
  have hb := BB.bytes
  have hr := BB.returns
  have hts := atoms_spec (ws := wsX6_share) BB.pre
  have hown : s.vm.findClass RX6 = some m.cls := findClass_of_methodNamed BB.named
  have hlocks := BB.notSynchronized
  have hin2 : ∀ w ∈ u_ws RX2 TX2 9, w ∈ wsX6_share := by decide +kernel
  have hin6 : ∀ w ∈ u_ws RX6 TX6 11, w ∈ wsX6_share := by decide +kernel
  subst hsz
  have hD := hD0.self (sz := s.heap.size)
  generalize hAe : va_A ([ul_wU cZ cO aU (aL 0) (aD 0) (aK 0) (aN 0) (aT 0) (aJ 0) (aE 0) (aF 0) aP U d, ul_wL cI aL L, ul_wK cI aD D, ul_wK cI aK K, ul_wS cI aN (aK 0) N, ul_wS cI aT (aK 0) T, ul_wJ cO aJ aB J, ul_wE cI aE E, ul_wG cI aF (aK 0) (aN 0) (aT 0) F, ul_wB cI aP (aK 0) 2 P, ul_wB cI aB (aK 0) 14 B] : List va_W).flatten s.heap.size = A at hD hN ⊢
  have hA : ∀ q : Nat, s.heap.size ≤ q → A q := fun q h => by rw [← hAe]; exact Or.inr h
  have hS : va_S A s.heap s.heap [] := va_S.rf
  have hl := lv_entry ([.ref (aU 0), .int p1, .int p2, .int p3]) (n := 4) (Nat.le_of_ble_eq_true rfl)
  rw [lg_entry_eq]
  generalize (lg_sl ([.ref (aU 0), .int p1, .int p2, .int p3]) ++ List.replicate (4 - (lg_sl ([.ref (aU 0), .int p1, .int p2, .int p3])).length) Slot.unset).toArray = ls at hl ⊢
  have hl : lv_has ls 4 [(0, .ref (aU 0)), (1, .int p1), (2, .int p2), (3, .int p3)] := hl
  obtain ⟨K0, hK0, h⟩ := ul_top h
  unfold f_X6_share at h
  refine ul_gen (fun G gi ge => ?_)
  obtain ⟨H, eH⟩ : ∃ z, z = s.heap := ⟨_, rfl⟩
  obtain ⟨locs, eL⟩ : ∃ z : List Loc, z = [] := ⟨_, rfl⟩
  have hP : va_P (dC, dI) classes ([ul_wU cZ cO aU (aL 0) (aD 0) (aK 0) (aN 0) (aT 0) (aJ 0) (aE 0) (aF 0) aP U d, ul_wL cI aL L, ul_wK cI aD D, ul_wK cI aK K, ul_wS cI aN (aK 0) N, ul_wS cI aT (aK 0) T, ul_wJ cO aJ aB J, ul_wE cI aE E, ul_wG cI aF (aK 0) (aN 0) (aT 0) F, ul_wB cI aP (aK 0) 2 P, ul_wB cI aB (aK 0) 14 B] : List va_W).flatten H := by rw [eH]; exact hP
  have hS : va_S A s.heap H locs := by rw [eH, eL]; exact hS
  rw [← eL]
  refine (show G H locs (F0 m 0 ls []) → G s.heap locs (F0 m 0 ls []) from fun z => by rw [← eH]; exact z) ?_
  refine gi _ _ _ ?_
  refine lv_aload_n hx hb dX6_share_0 rfl (lv_at hl 0 rfl) ?_
  refine lv_iload_n hx hb dX6_share_1 rfl (lv_at hl 1 rfl) ?_
  obtain ⟨u1, hu1, h⟩ := ul_cl_h h
  refine ul_cPi (As := [.int p1]) (rest := []) (wc := ([ul_wU cZ cO aU (aL 0) (aD 0) (aK 0) (aN 0) (aT 0) (aJ 0) (aE 0) (aF 0) aP U d, ul_wL cI aL L, ul_wK cI aD D, ul_wK cI aK K, ul_wS cI aN (aK 0) N, ul_wS cI aT (aK 0) T, ul_wJ cO aJ aB J, ul_wE cI aE E, ul_wG cI aF (aK 0) (aN 0) (aT 0) F, ul_wB cI aP (aK 0) 2 P, ul_wB cI aB (aK 0) 14 B] : List va_W).flatten) (wc' := ([ul_wU cZ cO aU (aL 0) (aD 0) (aK 0) (aN 0) (aT 0) (aJ 0) (aE 0) (aF 0) aP U d, ul_wL cI aL L, ul_wK cI aD D, ul_wK cI aK K, ul_wS cI aN (aK 0) N, ul_wS cI aT (aK 0) T, ul_wJ cO aJ aB J, ul_wE cI aE E, ul_wG cI aF (aK 0) (aN 0) (aT 0) F, ul_wB cI aP (aK 0) 2 P, ul_wB cI aB (aK 0) 14 B] : List va_W).flatten) (wr := ([] : List va_W).flatten) hP hD hS hK hA [0, 1, 2] ul_NX_ok hN (c_X6_isPerson l dC dI cI cZ cO aU aL aD aK aN aT aJ aE aF aP aB H.size U d L D K N T J E F P B p1 u1 hu1) (ul_pmq (bs := [ul_wU cZ cO aU (aL 0) (aD 0) (aK 0) (aN 0) (aT 0) (aJ 0) (aE 0) (aF 0) aP U d, ul_wL cI aL L, ul_wK cI aD D, ul_wK cI aK K, ul_wS cI aN (aK 0) N, ul_wS cI aT (aK 0) T, ul_wJ cO aJ aB J, ul_wE cI aE E, ul_wG cI aF (aK 0) (aN 0) (aT 0) F, ul_wB cI aP (aK 0) 2 P, ul_wB cI aB (aK 0) 14 B]) [0, 1, 2, 3, 4, 5, 6, 7, 8, 9, 10] (by show List.Perm _ (List.range 11); decide) (by simp only [List.map_cons, List.map_nil, List.getD_cons_zero, List.getD_cons_succ, List.flatten_cons, List.flatten_nil, List.append_nil, List.nil_append, List.append_assoc])) rfl ⟨hx, hb, hml, hown, hts⟩ (cwV 1 hts gX6_share_X6_isPerson rfl rfl rfl (by decide +kernel) ⟨Nat.le_of_ble_eq_true rfl, Nat.le_of_ble_eq_true rfl⟩) (va_recv hK hP (ci := 6) (q0 := 0) rfl rfl) rfl hl.1 rfl (Nat.le_of_ble_eq_true rfl) dX6_share_2 (fun H locs hw => ?_)
  have hw := hw.pm (ul_pmq (bs := [ul_wU cZ cO aU (aL 0) (aD 0) (aK 0) (aN 0) (aT 0) (aJ 0) (aE 0) (aF 0) aP U d, ul_wL cI aL L, ul_wK cI aD D, ul_wK cI aK K, ul_wS cI aN (aK 0) N, ul_wS cI aT (aK 0) T, ul_wJ cO aJ aB J, ul_wE cI aE E, ul_wG cI aF (aK 0) (aN 0) (aT 0) F, ul_wB cI aP (aK 0) 2 P, ul_wB cI aB (aK 0) 14 B]) [0, 1, 2, 3, 4, 5, 6, 7, 8, 9, 10] (by show List.Perm _ (List.range 11); decide) (by simp only [List.map_cons, List.map_nil, List.getD_cons_zero, List.getD_cons_succ, List.flatten_cons, List.flatten_nil, List.append_nil, List.nil_append, List.append_assoc])).symm
  obtain ⟨hP, hD, hS⟩ := hw
  have hP : va_P (dC, dI) classes ([ul_wU cZ cO aU (aL 0) (aD 0) (aK 0) (aN 0) (aT 0) (aJ 0) (aE 0) (aF 0) aP U d, ul_wL cI aL L, ul_wK cI aD D, ul_wK cI aK K, ul_wS cI aN (aK 0) N, ul_wS cI aT (aK 0) T, ul_wJ cO aJ aB J, ul_wE cI aE E, ul_wG cI aF (aK 0) (aN 0) (aT 0) F, ul_wB cI aP (aK 0) 2 P, ul_wB cI aB (aK 0) 14 B] : List va_W).flatten H := hP
  have hD : va_D A ([ul_wU cZ cO aU (aL 0) (aD 0) (aK 0) (aN 0) (aT 0) (aJ 0) (aE 0) (aF 0) aP U d, ul_wL cI aL L, ul_wK cI aD D, ul_wK cI aK K, ul_wS cI aN (aK 0) N, ul_wS cI aT (aK 0) T, ul_wJ cO aJ aB J, ul_wE cI aE E, ul_wG cI aF (aK 0) (aN 0) (aT 0) F, ul_wB cI aP (aK 0) 2 P, ul_wB cI aB (aK 0) 14 B] : List va_W).flatten := hD
  refine lv_if_eq (tgt := 16) hx hb dX6_share_5 (by decide) (fun hc2 => ?_) (fun hc2 => ?_)
  · have h := ul_if_t hc2 h
    refine lv_iconst (v := -1) hx hb dX6_share_16 (by decide) ?_
    have hr9 := hK0 ((-1 : Int32), T, F) h
    subst hr9
    exact W.iret (v := (-1 : Int32)) hx hb hr (fun t ht hW => ⟨⟨(-1 : Int32), (), rfl, rfl, by rw [ht]; exact hP, va_K.moved hW.alike hK, hD⟩, hS.F ht⟩) hS.2.2 dX6_share_17
  · have h := ul_if_f hc2 h
    refine lv_aload_n hx hb dX6_share_8 rfl (lv_at hl 0 rfl) ?_
    refine lv_iload_n hx hb dX6_share_9 rfl (lv_at hl 2 rfl) ?_
    obtain ⟨u3, hu3, h⟩ := ul_cl_h h
    refine ul_cPi (As := [.int p2]) (rest := []) (wc := ([ul_wU cZ cO aU (aL 0) (aD 0) (aK 0) (aN 0) (aT 0) (aJ 0) (aE 0) (aF 0) aP U d, ul_wL cI aL L, ul_wK cI aD D, ul_wK cI aK K, ul_wS cI aN (aK 0) N, ul_wS cI aT (aK 0) T, ul_wJ cO aJ aB J, ul_wE cI aE E, ul_wG cI aF (aK 0) (aN 0) (aT 0) F, ul_wB cI aP (aK 0) 2 P, ul_wB cI aB (aK 0) 14 B] : List va_W).flatten) (wc' := ([ul_wU cZ cO aU (aL 0) (aD 0) (aK 0) (aN 0) (aT 0) (aJ 0) (aE 0) (aF 0) aP U d, ul_wL cI aL L, ul_wK cI aD D, ul_wK cI aK K, ul_wS cI aN (aK 0) N, ul_wS cI aT (aK 0) T, ul_wJ cO aJ aB J, ul_wE cI aE E, ul_wG cI aF (aK 0) (aN 0) (aT 0) F, ul_wB cI aP (aK 0) 2 P, ul_wB cI aB (aK 0) 14 B] : List va_W).flatten) (wr := ([] : List va_W).flatten) hP hD hS hK hA [0, 1, 2] ul_NX_ok hN (c_X6_isLadder l dC dI cI cZ cO aU aL aD aK aN aT aJ aE aF aP aB H.size U d L D K N T J E F P B p2 u3 hu3) (ul_pmq (bs := [ul_wU cZ cO aU (aL 0) (aD 0) (aK 0) (aN 0) (aT 0) (aJ 0) (aE 0) (aF 0) aP U d, ul_wL cI aL L, ul_wK cI aD D, ul_wK cI aK K, ul_wS cI aN (aK 0) N, ul_wS cI aT (aK 0) T, ul_wJ cO aJ aB J, ul_wE cI aE E, ul_wG cI aF (aK 0) (aN 0) (aT 0) F, ul_wB cI aP (aK 0) 2 P, ul_wB cI aB (aK 0) 14 B]) [0, 1, 2, 3, 4, 5, 6, 7, 8, 9, 10] (by show List.Perm _ (List.range 11); decide) (by simp only [List.map_cons, List.map_nil, List.getD_cons_zero, List.getD_cons_succ, List.flatten_cons, List.flatten_nil, List.append_nil, List.nil_append, List.append_assoc])) rfl ⟨hx, hb, hml, hown, hts⟩ (cwV 1 hts gX6_share_X6_isLadder rfl rfl rfl (by decide +kernel) ⟨Nat.le_of_ble_eq_true rfl, Nat.le_of_ble_eq_true rfl⟩) (va_recv hK hP (ci := 6) (q0 := 0) rfl rfl) rfl hl.1 rfl (Nat.le_of_ble_eq_true rfl) dX6_share_10 (fun H locs hw => ?_)
    have hw := hw.pm (ul_pmq (bs := [ul_wU cZ cO aU (aL 0) (aD 0) (aK 0) (aN 0) (aT 0) (aJ 0) (aE 0) (aF 0) aP U d, ul_wL cI aL L, ul_wK cI aD D, ul_wK cI aK K, ul_wS cI aN (aK 0) N, ul_wS cI aT (aK 0) T, ul_wJ cO aJ aB J, ul_wE cI aE E, ul_wG cI aF (aK 0) (aN 0) (aT 0) F, ul_wB cI aP (aK 0) 2 P, ul_wB cI aB (aK 0) 14 B]) [0, 1, 2, 3, 4, 5, 6, 7, 8, 9, 10] (by show List.Perm _ (List.range 11); decide) (by simp only [List.map_cons, List.map_nil, List.getD_cons_zero, List.getD_cons_succ, List.flatten_cons, List.flatten_nil, List.append_nil, List.nil_append, List.append_assoc])).symm
    obtain ⟨hP, hD, hS⟩ := hw
    have hP : va_P (dC, dI) classes ([ul_wU cZ cO aU (aL 0) (aD 0) (aK 0) (aN 0) (aT 0) (aJ 0) (aE 0) (aF 0) aP U d, ul_wL cI aL L, ul_wK cI aD D, ul_wK cI aK K, ul_wS cI aN (aK 0) N, ul_wS cI aT (aK 0) T, ul_wJ cO aJ aB J, ul_wE cI aE E, ul_wG cI aF (aK 0) (aN 0) (aT 0) F, ul_wB cI aP (aK 0) 2 P, ul_wB cI aB (aK 0) 14 B] : List va_W).flatten H := hP
    have hD : va_D A ([ul_wU cZ cO aU (aL 0) (aD 0) (aK 0) (aN 0) (aT 0) (aJ 0) (aE 0) (aF 0) aP U d, ul_wL cI aL L, ul_wK cI aD D, ul_wK cI aK K, ul_wS cI aN (aK 0) N, ul_wS cI aT (aK 0) T, ul_wJ cO aJ aB J, ul_wE cI aE E, ul_wG cI aF (aK 0) (aN 0) (aT 0) F, ul_wB cI aP (aK 0) 2 P, ul_wB cI aB (aK 0) 14 B] : List va_W).flatten := hD
    refine lv_if_ne (tgt := 18) hx hb dX6_share_13 (by decide) (fun hc4 => ?_) (fun hc4 => ?_)
    · have h := ul_if_f hc4 h
      refine lv_aload_n hx hb dX6_share_18 rfl (lv_at hl 0 rfl) ?_
      refine va_get (D := (dC, dI)) (ci := 6) (v := .ref (aF 0)) (C := RX6) (T := TX6) (N := 11) hx hb hts hin6 hown hK hP 0 rfl rfl 7 (by decide) (hts (.fieldLink RX6 57 "UnderLadders" "forecast" "LUnderLadders$Forecast;") (by decide +kernel)) (fun _ h9 => h9) rfl dX6_share_19 ?_
      refine lv_iload_n hx hb dX6_share_22 rfl (lv_at hl 2 rfl) ?_
      obtain ⟨u5, hu5, h⟩ := ul_cl_h h
      refine ul_cPv (As := [.int p2]) (rest := []) (wc := (ul_wG cI aF (aK 0) (aN 0) (aT 0) F ++ ul_wS cI aN (aK 0) N ++ ul_wS cI aT (aK 0) T ++ ul_wK cI aK K)) (wc' := (ul_wG cI aF (aK 0) (aN 0) (aT 0) u5.1 ++ ul_wS cI aN (aK 0) N ++ ul_wS cI aT (aK 0) u5.2 ++ ul_wK cI aK K)) (wr := ([ul_wU cZ cO aU (aL 0) (aD 0) (aK 0) (aN 0) (aT 0) (aJ 0) (aE 0) (aF 0) aP U d, ul_wL cI aL L, ul_wK cI aD D, ul_wJ cO aJ aB J, ul_wE cI aE E, ul_wB cI aP (aK 0) 2 P, ul_wB cI aB (aK 0) 14 B] : List va_W).flatten) hP hD hS hK hA [0] ul_NX_ok hN (c_X1_weighCompanies l dC dI cI aF aN aT aK H.size F N T K p2 u5 hu5) (ul_pmq (bs := [ul_wU cZ cO aU (aL 0) (aD 0) (aK 0) (aN 0) (aT 0) (aJ 0) (aE 0) (aF 0) aP U d, ul_wL cI aL L, ul_wK cI aD D, ul_wK cI aK K, ul_wS cI aN (aK 0) N, ul_wS cI aT (aK 0) T, ul_wJ cO aJ aB J, ul_wE cI aE E, ul_wG cI aF (aK 0) (aN 0) (aT 0) F, ul_wB cI aP (aK 0) 2 P, ul_wB cI aB (aK 0) 14 B]) [8, 4, 5, 3, 0, 1, 2, 6, 7, 9, 10] (by show List.Perm _ (List.range 11); decide) (by simp only [List.map_cons, List.map_nil, List.getD_cons_zero, List.getD_cons_succ, List.flatten_cons, List.flatten_nil, List.append_nil, List.nil_append, List.append_assoc])) rfl ⟨hx, hb, hml, hown, hts⟩ (cwV 1 hts gX6_share_X1_weighCompanies rfl rfl rfl (by decide +kernel) ⟨Nat.le_of_ble_eq_true rfl, Nat.le_of_ble_eq_true rfl⟩) (va_recv hK hP (ci := 1) (q0 := 40) rfl rfl) rfl hl.1 rfl (Nat.le_of_ble_eq_true rfl) dX6_share_23 (fun H locs hw => ?_)
      have hw := hw.pm (ul_pmq (bs := [ul_wU cZ cO aU (aL 0) (aD 0) (aK 0) (aN 0) (aT 0) (aJ 0) (aE 0) (aF 0) aP U d, ul_wL cI aL L, ul_wK cI aD D, ul_wK cI aK K, ul_wS cI aN (aK 0) N, ul_wS cI aT (aK 0) u5.2, ul_wJ cO aJ aB J, ul_wE cI aE E, ul_wG cI aF (aK 0) (aN 0) (aT 0) u5.1, ul_wB cI aP (aK 0) 2 P, ul_wB cI aB (aK 0) 14 B]) [0, 1, 2, 6, 7, 9, 10, 8, 4, 5, 3] (by show List.Perm _ (List.range 11); decide) (by simp only [List.map_cons, List.map_nil, List.getD_cons_zero, List.getD_cons_succ, List.flatten_cons, List.flatten_nil, List.append_nil, List.nil_append, List.append_assoc])).symm
      obtain ⟨hP, hD, hS⟩ := hw
      have hP : va_P (dC, dI) classes ([ul_wU cZ cO aU (aL 0) (aD 0) (aK 0) (aN 0) (aT 0) (aJ 0) (aE 0) (aF 0) aP U d, ul_wL cI aL L, ul_wK cI aD D, ul_wK cI aK K, ul_wS cI aN (aK 0) N, ul_wS cI aT (aK 0) u5.2, ul_wJ cO aJ aB J, ul_wE cI aE E, ul_wG cI aF (aK 0) (aN 0) (aT 0) u5.1, ul_wB cI aP (aK 0) 2 P, ul_wB cI aB (aK 0) 14 B] : List va_W).flatten H := hP
      have hD : va_D A ([ul_wU cZ cO aU (aL 0) (aD 0) (aK 0) (aN 0) (aT 0) (aJ 0) (aE 0) (aF 0) aP U d, ul_wL cI aL L, ul_wK cI aD D, ul_wK cI aK K, ul_wS cI aN (aK 0) N, ul_wS cI aT (aK 0) u5.2, ul_wJ cO aJ aB J, ul_wE cI aE E, ul_wG cI aF (aK 0) (aN 0) (aT 0) u5.1, ul_wB cI aP (aK 0) 2 P, ul_wB cI aB (aK 0) 14 B] : List va_W).flatten := hD
      refine lv_aload_n hx hb dX6_share_26 rfl (lv_at hl 0 rfl) ?_
      refine va_get (D := (dC, dI)) (ci := 6) (v := .ref (aF 0)) (C := RX6) (T := TX6) (N := 11) hx hb hts hin6 hown hK hP 0 rfl rfl 7 (by decide) (hts (.fieldLink RX6 57 "UnderLadders" "forecast" "LUnderLadders$Forecast;") (by decide +kernel)) (fun _ h9 => h9) rfl dX6_share_27 ?_
      refine lv_iload_n hx hb dX6_share_30 rfl (lv_at hl 1 rfl) ?_
      obtain ⟨u6, hu6, h⟩ := ul_cl_h h
      refine ul_cPi (As := [.int p1]) (rest := []) (wc := (ul_wG cI aF (aK 0) (aN 0) (aT 0) u5.1 ++ ul_wS cI aN (aK 0) N ++ ul_wS cI aT (aK 0) u5.2 ++ ul_wK cI aK K)) (wc' := (ul_wG cI aF (aK 0) (aN 0) (aT 0) u5.1 ++ ul_wS cI aN (aK 0) N ++ ul_wS cI aT (aK 0) u5.2 ++ ul_wK cI aK K)) (wr := ([ul_wU cZ cO aU (aL 0) (aD 0) (aK 0) (aN 0) (aT 0) (aJ 0) (aE 0) (aF 0) aP U d, ul_wL cI aL L, ul_wK cI aD D, ul_wJ cO aJ aB J, ul_wE cI aE E, ul_wB cI aP (aK 0) 2 P, ul_wB cI aB (aK 0) 14 B] : List va_W).flatten) hP hD hS hK hA [0] ul_NX_ok hN (c_X1_sumOfGains l dC dI cI aF aN aT aK H.size u5.1 N u5.2 K p1 u6 hu6) (ul_pmq (bs := [ul_wU cZ cO aU (aL 0) (aD 0) (aK 0) (aN 0) (aT 0) (aJ 0) (aE 0) (aF 0) aP U d, ul_wL cI aL L, ul_wK cI aD D, ul_wK cI aK K, ul_wS cI aN (aK 0) N, ul_wS cI aT (aK 0) u5.2, ul_wJ cO aJ aB J, ul_wE cI aE E, ul_wG cI aF (aK 0) (aN 0) (aT 0) u5.1, ul_wB cI aP (aK 0) 2 P, ul_wB cI aB (aK 0) 14 B]) [8, 4, 5, 3, 0, 1, 2, 6, 7, 9, 10] (by show List.Perm _ (List.range 11); decide) (by simp only [List.map_cons, List.map_nil, List.getD_cons_zero, List.getD_cons_succ, List.flatten_cons, List.flatten_nil, List.append_nil, List.nil_append, List.append_assoc])) rfl ⟨hx, hb, hml, hown, hts⟩ (cwV 1 hts gX6_share_X1_sumOfGains rfl rfl rfl (by decide +kernel) ⟨Nat.le_of_ble_eq_true rfl, Nat.le_of_ble_eq_true rfl⟩) (va_recv hK hP (ci := 1) (q0 := 40) rfl rfl) rfl hl.1 rfl (Nat.le_of_ble_eq_true rfl) dX6_share_31 (fun H locs hw => ?_)
      have hw := hw.pm (ul_pmq (bs := [ul_wU cZ cO aU (aL 0) (aD 0) (aK 0) (aN 0) (aT 0) (aJ 0) (aE 0) (aF 0) aP U d, ul_wL cI aL L, ul_wK cI aD D, ul_wK cI aK K, ul_wS cI aN (aK 0) N, ul_wS cI aT (aK 0) u5.2, ul_wJ cO aJ aB J, ul_wE cI aE E, ul_wG cI aF (aK 0) (aN 0) (aT 0) u5.1, ul_wB cI aP (aK 0) 2 P, ul_wB cI aB (aK 0) 14 B]) [0, 1, 2, 6, 7, 9, 10, 8, 4, 5, 3] (by show List.Perm _ (List.range 11); decide) (by simp only [List.map_cons, List.map_nil, List.getD_cons_zero, List.getD_cons_succ, List.flatten_cons, List.flatten_nil, List.append_nil, List.nil_append, List.append_assoc])).symm
      obtain ⟨hP, hD, hS⟩ := hw
      have hP : va_P (dC, dI) classes ([ul_wU cZ cO aU (aL 0) (aD 0) (aK 0) (aN 0) (aT 0) (aJ 0) (aE 0) (aF 0) aP U d, ul_wL cI aL L, ul_wK cI aD D, ul_wK cI aK K, ul_wS cI aN (aK 0) N, ul_wS cI aT (aK 0) u5.2, ul_wJ cO aJ aB J, ul_wE cI aE E, ul_wG cI aF (aK 0) (aN 0) (aT 0) u5.1, ul_wB cI aP (aK 0) 2 P, ul_wB cI aB (aK 0) 14 B] : List va_W).flatten H := hP
      have hD : va_D A ([ul_wU cZ cO aU (aL 0) (aD 0) (aK 0) (aN 0) (aT 0) (aJ 0) (aE 0) (aF 0) aP U d, ul_wL cI aL L, ul_wK cI aD D, ul_wK cI aK K, ul_wS cI aN (aK 0) N, ul_wS cI aT (aK 0) u5.2, ul_wJ cO aJ aB J, ul_wE cI aE E, ul_wG cI aF (aK 0) (aN 0) (aT 0) u5.1, ul_wB cI aP (aK 0) 2 P, ul_wB cI aB (aK 0) 14 B] : List va_W).flatten := hD
      refine lv_aload_n hx hb dX6_share_34 rfl (lv_at hl 0 rfl) ?_
      refine va_get (D := (dC, dI)) (ci := 6) (v := .ref (aK 0)) (C := RX6) (T := TX6) (N := 11) hx hb hts hin6 hown hK hP 0 rfl rfl 2 (by decide) (hts (.fieldLink RX6 23 "UnderLadders" "fixed" "LUnderLadders$Market;") (by decide +kernel)) (fun _ h9 => h9) rfl dX6_share_35 ?_
      refine va_getN (D := (dC, dI)) (ci := 2) (v := .int (K 0 1)) (C := RX2) (T := TX2) (N := 9) hx hb hts hin2 hown hK hP 13 rfl rfl 8 (by decide) (va_Nw.use rfl (hN.1 (RX6, 90, "UnderLadders$Market", "people", "I") (by decide +kernel))) (fun _ h9 => h9) rfl dX6_share_38 ?_
      obtain ⟨u7, hu7, h⟩ := ul_cl_h h
      refine ul_cSi (As := [.int (K 0 1)]) (rest := [.int u6]) hP hD hS hK hA (c_X6_ordersOf l dC dI H.size (K 0 1) u7 hu7) ⟨hx, hb, hml, hown, hts⟩ (cwS 1 hts gX6_share_X6_ordersOf rfl rfl rfl (by decide +kernel) ⟨Nat.le_of_ble_eq_true rfl, Nat.le_of_ble_eq_true rfl⟩) rfl hl.1 rfl (Nat.le_of_ble_eq_true rfl) dX6_share_41 (fun H locs hw => ?_)
      obtain ⟨hP, hD, hS⟩ := hw
      refine lv_iload_n hx hb dX6_share_44 rfl (lv_at hl 3 rfl) ?_
      obtain ⟨u8, hu8, h⟩ := ul_cl_h h
      refine ul_cSi (As := [.int u6, .int u7, .int p3]) (rest := []) hP hD hS hK hA (c_X6_inLeastTerms l dC dI H.size u6 u7 p3 u8 hu8) ⟨hx, hb, hml, hown, hts⟩ (cwS 3 hts gX6_share_X6_inLeastTerms rfl rfl rfl (by decide +kernel) ⟨Nat.le_of_ble_eq_true rfl, Nat.le_of_ble_eq_true rfl⟩) rfl hl.1 rfl (Nat.le_of_ble_eq_true rfl) dX6_share_45 (fun H locs hw => ?_)
      obtain ⟨hP, hD, hS⟩ := hw
      have hr9 := hK0 (u8, u5.2, u5.1) h
      subst hr9
      exact W.iret (v := u8) hx hb hr (fun t ht hW => ⟨⟨u8, (), rfl, rfl, by rw [ht]; exact hP, va_K.moved hW.alike hK, hD⟩, hS.F ht⟩) hS.2.2 dX6_share_48
    · have h := ul_if_t hc4 h
      refine lv_iconst (v := -1) hx hb dX6_share_16 (by decide) ?_
      have hr9 := hK0 ((-1 : Int32), T, F) h
      subst hr9
      exact W.iret (v := (-1 : Int32)) hx hb hr (fun t ht hW => ⟨⟨(-1 : Int32), (), rfl, rfl, by rw [ht]; exact hP, va_K.moved hW.alike hK, hD⟩, hS.F ht⟩) hS.2.2 dX6_share_17
def f_X6_rests (K : ul_S) (N : ul_S) (T : ul_S) (F : ul_S) (p1 : Int32) (p2 : Int32) (p3 : Int32) : Option (Int32 × ul_S × ul_S) :=
  (f_X6_isLadder K p1).bind fun u1 => if u1 = 0 then (some ((-1 : Int32), T, F)) else ((f_X6_isLadder K p2).bind fun u3 => if u3 = 0 then (some ((-1 : Int32), T, F)) else (if p1 = p2 then (some ((-2 : Int32), T, F)) else (if p3 < 0 then (some ((-2 : Int32), T, F)) else (if p3 ≤ (1 : Int32) then ((f_X1_weighPairs F N T K p1 p2).bind fun u8 => if p3 = 0 then ((f_X1_countRests u8.1).bind fun u11 => some (u11, u8.2, u8.1)) else ((f_X1_firstRest u8.1).bind fun u10 => some (u10, u8.2, u8.1))) else (some ((-2 : Int32), T, F))))))
set_option maxHeartbeats 4000000 in
set_option maxRecDepth 100000 in
theorem c_X6_rests (l : Launch) (dC : Nat → ClassId) (dI : Nat → Nat → Nat) (cI : ClassId) (cZ : ClassId) (cO : ClassId) (aU : Nat → Nat) (aL : Nat → Nat) (aD : Nat → Nat) (aK : Nat → Nat) (aN : Nat → Nat) (aT : Nat → Nat) (aJ : Nat → Nat) (aE : Nat → Nat) (aF : Nat → Nat) (aP : Nat → Nat → Nat) (aB : Nat → Nat → Nat) (sz : Nat) (U : ul_S) (d : Int64) (L : ul_S) (D : ul_S) (K : ul_S) (N : ul_S) (T : ul_S) (J : ul_S) (E : ul_S) (F : ul_S) (P : ul_F) (B : ul_F) (p1 : Int32) (p2 : Int32) (p3 : Int32) (r : (Int32 × ul_S × ul_S)) (h : f_X6_rests K N T F p1 p2 p3 = some r) : Met l yX6_rests wsX6_rests ({ frames := 6, cells := 0, slots := 0, locals := 157 }) (va_Pc [.ref (aU 0), .int p1, .int p2, .int p3] (ul_pre (dC, dI) [(cI, .int), (cZ, .boolean), (cO, .object RX4)] ul_NX sz ([ul_wU cZ cO aU (aL 0) (aD 0) (aK 0) (aN 0) (aT 0) (aJ 0) (aE 0) (aF 0) aP U d, ul_wL cI aL L, ul_wK cI aD D, ul_wK cI aK K, ul_wS cI aN (aK 0) N, ul_wS cI aT (aK 0) T, ul_wJ cO aJ aB J, ul_wE cI aE E, ul_wG cI aF (aK 0) (aN 0) (aT 0) F, ul_wB cI aP (aK 0) 2 P, ul_wB cI aB (aK 0) 14 B] : List va_W).flatten)) (va_Qi (fun v (_ : Unit) => v = r.1) (fun _ => ul_post (dC, dI) [(cI, .int), (cZ, .boolean), (cO, .object RX4)] (va_A ([ul_wU cZ cO aU (aL 0) (aD 0) (aK 0) (aN 0) (aT 0) (aJ 0) (aE 0) (aF 0) aP U d, ul_wL cI aL L, ul_wK cI aD D, ul_wK cI aK K, ul_wS cI aN (aK 0) N, ul_wS cI aT (aK 0) T, ul_wJ cO aJ aB J, ul_wE cI aE E, ul_wG cI aF (aK 0) (aN 0) (aT 0) F, ul_wB cI aP (aK 0) 2 P, ul_wB cI aB (aK 0) 14 B] : List va_W).flatten sz) ([ul_wU cZ cO aU (aL 0) (aD 0) (aK 0) (aN 0) (aT 0) (aJ 0) (aE 0) (aF 0) aP U d, ul_wL cI aL L, ul_wK cI aD D, ul_wK cI aK K, ul_wS cI aN (aK 0) N, ul_wS cI aT (aK 0) r.2.1, ul_wJ cO aJ aB J, ul_wE cI aE E, ul_wG cI aF (aK 0) (aN 0) (aT 0) r.2.2, ul_wB cI aP (aK 0) 2 P, ul_wB cI aB (aK 0) 14 B] : List va_W).flatten) (va_A ([ul_wU cZ cO aU (aL 0) (aD 0) (aK 0) (aN 0) (aT 0) (aJ 0) (aE 0) (aF 0) aP U d, ul_wL cI aL L, ul_wK cI aD D, ul_wK cI aK K, ul_wS cI aN (aK 0) N, ul_wS cI aT (aK 0) T, ul_wJ cO aJ aB J, ul_wE cI aE E, ul_wG cI aF (aK 0) (aN 0) (aT 0) F, ul_wB cI aP (aK 0) 2 P, ul_wB cI aB (aK 0) 14 B] : List va_W).flatten sz)) 0 0 (va_A ([ul_wU cZ cO aU (aL 0) (aD 0) (aK 0) (aN 0) (aT 0) (aJ 0) (aE 0) (aF 0) aP U d, ul_wL cI aL L, ul_wK cI aD D, ul_wK cI aK K, ul_wS cI aN (aK 0) N, ul_wS cI aT (aK 0) T, ul_wJ cO aJ aB J, ul_wE cI aE E, ul_wG cI aF (aK 0) (aN 0) (aT 0) F, ul_wB cI aP (aK 0) 2 P, ul_wB cI aB (aK 0) 14 B] : List va_W).flatten sz) := by
  refine Met.ofW (cc := cX6_rests) (maxL := 4) (ret := (some .int)) (by decide) rfl ?_
  intro p e s m args below meth c s₁ BB hml hv
  obtain ⟨rfl, hsz, hP, hK, hD0, hN⟩ := hv
  have hx := BB.exec
  have hb := BB.bytes
  have hr := BB.returns
  have hts := atoms_spec (ws := wsX6_rests) BB.pre
  have hown : s.vm.findClass RX6 = some m.cls := findClass_of_methodNamed BB.named
  have hlocks := BB.notSynchronized
  have hin6 : ∀ w ∈ u_ws RX6 TX6 11, w ∈ wsX6_rests := by decide +kernel
  subst hsz
  have hD := hD0.self (sz := s.heap.size)
  generalize hAe : va_A ([ul_wU cZ cO aU (aL 0) (aD 0) (aK 0) (aN 0) (aT 0) (aJ 0) (aE 0) (aF 0) aP U d, ul_wL cI aL L, ul_wK cI aD D, ul_wK cI aK K, ul_wS cI aN (aK 0) N, ul_wS cI aT (aK 0) T, ul_wJ cO aJ aB J, ul_wE cI aE E, ul_wG cI aF (aK 0) (aN 0) (aT 0) F, ul_wB cI aP (aK 0) 2 P, ul_wB cI aB (aK 0) 14 B] : List va_W).flatten s.heap.size = A at hD hN ⊢
  have hA : ∀ q : Nat, s.heap.size ≤ q → A q := fun q h => by rw [← hAe]; exact Or.inr h
  have hS : va_S A s.heap s.heap [] := va_S.rf
  have hl := lv_entry ([.ref (aU 0), .int p1, .int p2, .int p3]) (n := 4) (Nat.le_of_ble_eq_true rfl)
  rw [lg_entry_eq]
  generalize (lg_sl ([.ref (aU 0), .int p1, .int p2, .int p3]) ++ List.replicate (4 - (lg_sl ([.ref (aU 0), .int p1, .int p2, .int p3])).length) Slot.unset).toArray = ls at hl ⊢
  have hl : lv_has ls 4 [(0, .ref (aU 0)), (1, .int p1), (2, .int p2), (3, .int p3)] := hl
  obtain ⟨K0, hK0, h⟩ := ul_top h
  unfold f_X6_rests at h
  refine ul_gen (fun G gi ge => ?_)
  obtain ⟨H, eH⟩ : ∃ z, z = s.heap := ⟨_, rfl⟩
  obtain ⟨locs, eL⟩ : ∃ z : List Loc, z = [] := ⟨_, rfl⟩
  have hP : va_P (dC, dI) classes ([ul_wU cZ cO aU (aL 0) (aD 0) (aK 0) (aN 0) (aT 0) (aJ 0) (aE 0) (aF 0) aP U d, ul_wL cI aL L, ul_wK cI aD D, ul_wK cI aK K, ul_wS cI aN (aK 0) N, ul_wS cI aT (aK 0) T, ul_wJ cO aJ aB J, ul_wE cI aE E, ul_wG cI aF (aK 0) (aN 0) (aT 0) F, ul_wB cI aP (aK 0) 2 P, ul_wB cI aB (aK 0) 14 B] : List va_W).flatten H := by rw [eH]; exact hP
  have hS : va_S A s.heap H locs := by rw [eH, eL]; exact hS
  rw [← eL]
  refine (show G H locs (F0 m 0 ls []) → G s.heap locs (F0 m 0 ls []) from fun z => by rw [← eH]; exact z) ?_
  refine gi _ _ _ ?_
  refine lv_aload_n hx hb dX6_rests_0 rfl (lv_at hl 0 rfl) ?_
  refine lv_iload_n hx hb dX6_rests_1 rfl (lv_at hl 1 rfl) ?_
  obtain ⟨u1, hu1, h⟩ := ul_cl_h h
  refine ul_cPi (As := [.int p1]) (rest := []) (wc := ([ul_wU cZ cO aU (aL 0) (aD 0) (aK 0) (aN 0) (aT 0) (aJ 0) (aE 0) (aF 0) aP U d, ul_wL cI aL L, ul_wK cI aD D, ul_wK cI aK K, ul_wS cI aN (aK 0) N, ul_wS cI aT (aK 0) T, ul_wJ cO aJ aB J, ul_wE cI aE E, ul_wG cI aF (aK 0) (aN 0) (aT 0) F, ul_wB cI aP (aK 0) 2 P, ul_wB cI aB (aK 0) 14 B] : List va_W).flatten) (wc' := ([ul_wU cZ cO aU (aL 0) (aD 0) (aK 0) (aN 0) (aT 0) (aJ 0) (aE 0) (aF 0) aP U d, ul_wL cI aL L, ul_wK cI aD D, ul_wK cI aK K, ul_wS cI aN (aK 0) N, ul_wS cI aT (aK 0) T, ul_wJ cO aJ aB J, ul_wE cI aE E, ul_wG cI aF (aK 0) (aN 0) (aT 0) F, ul_wB cI aP (aK 0) 2 P, ul_wB cI aB (aK 0) 14 B] : List va_W).flatten) (wr := ([] : List va_W).flatten) hP hD hS hK hA [0, 1, 2] ul_NX_ok hN (c_X6_isLadder l dC dI cI cZ cO aU aL aD aK aN aT aJ aE aF aP aB H.size U d L D K N T J E F P B p1 u1 hu1) (ul_pmq (bs := [ul_wU cZ cO aU (aL 0) (aD 0) (aK 0) (aN 0) (aT 0) (aJ 0) (aE 0) (aF 0) aP U d, ul_wL cI aL L, ul_wK cI aD D, ul_wK cI aK K, ul_wS cI aN (aK 0) N, ul_wS cI aT (aK 0) T, ul_wJ cO aJ aB J, ul_wE cI aE E, ul_wG cI aF (aK 0) (aN 0) (aT 0) F, ul_wB cI aP (aK 0) 2 P, ul_wB cI aB (aK 0) 14 B]) [0, 1, 2, 3, 4, 5, 6, 7, 8, 9, 10] (by show List.Perm _ (List.range 11); decide) (by simp only [List.map_cons, List.map_nil, List.getD_cons_zero, List.getD_cons_succ, List.flatten_cons, List.flatten_nil, List.append_nil, List.nil_append, List.append_assoc])) rfl ⟨hx, hb, hml, hown, hts⟩ (cwV 1 hts gX6_rests_X6_isLadder rfl rfl rfl (by decide +kernel) ⟨Nat.le_of_ble_eq_true rfl, Nat.le_of_ble_eq_true rfl⟩) (va_recv hK hP (ci := 6) (q0 := 0) rfl rfl) rfl hl.1 rfl (Nat.le_of_ble_eq_true rfl) dX6_rests_2 (fun H locs hw => ?_)
  have hw := hw.pm (ul_pmq (bs := [ul_wU cZ cO aU (aL 0) (aD 0) (aK 0) (aN 0) (aT 0) (aJ 0) (aE 0) (aF 0) aP U d, ul_wL cI aL L, ul_wK cI aD D, ul_wK cI aK K, ul_wS cI aN (aK 0) N, ul_wS cI aT (aK 0) T, ul_wJ cO aJ aB J, ul_wE cI aE E, ul_wG cI aF (aK 0) (aN 0) (aT 0) F, ul_wB cI aP (aK 0) 2 P, ul_wB cI aB (aK 0) 14 B]) [0, 1, 2, 3, 4, 5, 6, 7, 8, 9, 10] (by show List.Perm _ (List.range 11); decide) (by simp only [List.map_cons, List.map_nil, List.getD_cons_zero, List.getD_cons_succ, List.flatten_cons, List.flatten_nil, List.append_nil, List.nil_append, List.append_assoc])).symm
  obtain ⟨hP, hD, hS⟩ := hw
  have hP : va_P (dC, dI) classes ([ul_wU cZ cO aU (aL 0) (aD 0) (aK 0) (aN 0) (aT 0) (aJ 0) (aE 0) (aF 0) aP U d, ul_wL cI aL L, ul_wK cI aD D, ul_wK cI aK K, ul_wS cI aN (aK 0) N, ul_wS cI aT (aK 0) T, ul_wJ cO aJ aB J, ul_wE cI aE E, ul_wG cI aF (aK 0) (aN 0) (aT 0) F, ul_wB cI aP (aK 0) 2 P, ul_wB cI aB (aK 0) 14 B] : List va_W).flatten H := hP
  have hD : va_D A ([ul_wU cZ cO aU (aL 0) (aD 0) (aK 0) (aN 0) (aT 0) (aJ 0) (aE 0) (aF 0) aP U d, ul_wL cI aL L, ul_wK cI aD D, ul_wK cI aK K, ul_wS cI aN (aK 0) N, ul_wS cI aT (aK 0) T, ul_wJ cO aJ aB J, ul_wE cI aE E, ul_wG cI aF (aK 0) (aN 0) (aT 0) F, ul_wB cI aP (aK 0) 2 P, ul_wB cI aB (aK 0) 14 B] : List va_W).flatten := hD
  refine lv_if_eq (tgt := 16) hx hb dX6_rests_5 (by decide) (fun hc2 => ?_) (fun hc2 => ?_)
  · have h := ul_if_t hc2 h
    refine lv_iconst (v := -1) hx hb dX6_rests_16 (by decide) ?_
    have hr9 := hK0 ((-1 : Int32), T, F) h
    subst hr9
    exact W.iret (v := (-1 : Int32)) hx hb hr (fun t ht hW => ⟨⟨(-1 : Int32), (), rfl, rfl, by rw [ht]; exact hP, va_K.moved hW.alike hK, hD⟩, hS.F ht⟩) hS.2.2 dX6_rests_17
  · have h := ul_if_f hc2 h
    refine lv_aload_n hx hb dX6_rests_8 rfl (lv_at hl 0 rfl) ?_
    refine lv_iload_n hx hb dX6_rests_9 rfl (lv_at hl 2 rfl) ?_
    obtain ⟨u3, hu3, h⟩ := ul_cl_h h
    refine ul_cPi (As := [.int p2]) (rest := []) (wc := ([ul_wU cZ cO aU (aL 0) (aD 0) (aK 0) (aN 0) (aT 0) (aJ 0) (aE 0) (aF 0) aP U d, ul_wL cI aL L, ul_wK cI aD D, ul_wK cI aK K, ul_wS cI aN (aK 0) N, ul_wS cI aT (aK 0) T, ul_wJ cO aJ aB J, ul_wE cI aE E, ul_wG cI aF (aK 0) (aN 0) (aT 0) F, ul_wB cI aP (aK 0) 2 P, ul_wB cI aB (aK 0) 14 B] : List va_W).flatten) (wc' := ([ul_wU cZ cO aU (aL 0) (aD 0) (aK 0) (aN 0) (aT 0) (aJ 0) (aE 0) (aF 0) aP U d, ul_wL cI aL L, ul_wK cI aD D, ul_wK cI aK K, ul_wS cI aN (aK 0) N, ul_wS cI aT (aK 0) T, ul_wJ cO aJ aB J, ul_wE cI aE E, ul_wG cI aF (aK 0) (aN 0) (aT 0) F, ul_wB cI aP (aK 0) 2 P, ul_wB cI aB (aK 0) 14 B] : List va_W).flatten) (wr := ([] : List va_W).flatten) hP hD hS hK hA [0, 1, 2] ul_NX_ok hN (c_X6_isLadder l dC dI cI cZ cO aU aL aD aK aN aT aJ aE aF aP aB H.size U d L D K N T J E F P B p2 u3 hu3) (ul_pmq (bs := [ul_wU cZ cO aU (aL 0) (aD 0) (aK 0) (aN 0) (aT 0) (aJ 0) (aE 0) (aF 0) aP U d, ul_wL cI aL L, ul_wK cI aD D, ul_wK cI aK K, ul_wS cI aN (aK 0) N, ul_wS cI aT (aK 0) T, ul_wJ cO aJ aB J, ul_wE cI aE E, ul_wG cI aF (aK 0) (aN 0) (aT 0) F, ul_wB cI aP (aK 0) 2 P, ul_wB cI aB (aK 0) 14 B]) [0, 1, 2, 3, 4, 5, 6, 7, 8, 9, 10] (by show List.Perm _ (List.range 11); decide) (by simp only [List.map_cons, List.map_nil, List.getD_cons_zero, List.getD_cons_succ, List.flatten_cons, List.flatten_nil, List.append_nil, List.nil_append, List.append_assoc])) rfl ⟨hx, hb, hml, hown, hts⟩ (cwV 1 hts gX6_rests_X6_isLadder rfl rfl rfl (by decide +kernel) ⟨Nat.le_of_ble_eq_true rfl, Nat.le_of_ble_eq_true rfl⟩) (va_recv hK hP (ci := 6) (q0 := 0) rfl rfl) rfl hl.1 rfl (Nat.le_of_ble_eq_true rfl) dX6_rests_10 (fun H locs hw => ?_)
    have hw := hw.pm (ul_pmq (bs := [ul_wU cZ cO aU (aL 0) (aD 0) (aK 0) (aN 0) (aT 0) (aJ 0) (aE 0) (aF 0) aP U d, ul_wL cI aL L, ul_wK cI aD D, ul_wK cI aK K, ul_wS cI aN (aK 0) N, ul_wS cI aT (aK 0) T, ul_wJ cO aJ aB J, ul_wE cI aE E, ul_wG cI aF (aK 0) (aN 0) (aT 0) F, ul_wB cI aP (aK 0) 2 P, ul_wB cI aB (aK 0) 14 B]) [0, 1, 2, 3, 4, 5, 6, 7, 8, 9, 10] (by show List.Perm _ (List.range 11); decide) (by simp only [List.map_cons, List.map_nil, List.getD_cons_zero, List.getD_cons_succ, List.flatten_cons, List.flatten_nil, List.append_nil, List.nil_append, List.append_assoc])).symm
    obtain ⟨hP, hD, hS⟩ := hw
    have hP : va_P (dC, dI) classes ([ul_wU cZ cO aU (aL 0) (aD 0) (aK 0) (aN 0) (aT 0) (aJ 0) (aE 0) (aF 0) aP U d, ul_wL cI aL L, ul_wK cI aD D, ul_wK cI aK K, ul_wS cI aN (aK 0) N, ul_wS cI aT (aK 0) T, ul_wJ cO aJ aB J, ul_wE cI aE E, ul_wG cI aF (aK 0) (aN 0) (aT 0) F, ul_wB cI aP (aK 0) 2 P, ul_wB cI aB (aK 0) 14 B] : List va_W).flatten H := hP
    have hD : va_D A ([ul_wU cZ cO aU (aL 0) (aD 0) (aK 0) (aN 0) (aT 0) (aJ 0) (aE 0) (aF 0) aP U d, ul_wL cI aL L, ul_wK cI aD D, ul_wK cI aK K, ul_wS cI aN (aK 0) N, ul_wS cI aT (aK 0) T, ul_wJ cO aJ aB J, ul_wE cI aE E, ul_wG cI aF (aK 0) (aN 0) (aT 0) F, ul_wB cI aP (aK 0) 2 P, ul_wB cI aB (aK 0) 14 B] : List va_W).flatten := hD
    refine lv_if_ne (tgt := 18) hx hb dX6_rests_13 (by decide) (fun hc4 => ?_) (fun hc4 => ?_)
    · have h := ul_if_f hc4 h
      refine lv_iload_n hx hb dX6_rests_18 rfl (lv_at hl 1 rfl) ?_
      refine lv_iload_n hx hb dX6_rests_19 rfl (lv_at hl 2 rfl) ?_
      refine lv_icmp_eq (tgt := 32) hx hb dX6_rests_20 (by decide) (fun hc5 => ?_) (fun hc5 => ?_)
      · have h := ul_if_t hc5 h
        refine lv_bipush (v := -2) hx hb dX6_rests_32 (by decide) ?_
        have hr9 := hK0 ((-2 : Int32), T, F) h
        subst hr9
        exact W.iret (v := (-2 : Int32)) hx hb hr (fun t ht hW => ⟨⟨(-2 : Int32), (), rfl, rfl, by rw [ht]; exact hP, va_K.moved hW.alike hK, hD⟩, hS.F ht⟩) hS.2.2 dX6_rests_34
      · have h := ul_if_f hc5 h
        refine lv_iload_n hx hb dX6_rests_23 rfl (lv_at hl 3 rfl) ?_
        refine lv_if_lt (tgt := 32) hx hb dX6_rests_24 (by decide) (fun hc6 => ?_) (fun hc6 => ?_)
        · have h := ul_if_t hc6 h
          refine lv_bipush (v := -2) hx hb dX6_rests_32 (by decide) ?_
          have hr9 := hK0 ((-2 : Int32), T, F) h
          subst hr9
          exact W.iret (v := (-2 : Int32)) hx hb hr (fun t ht hW => ⟨⟨(-2 : Int32), (), rfl, rfl, by rw [ht]; exact hP, va_K.moved hW.alike hK, hD⟩, hS.F ht⟩) hS.2.2 dX6_rests_34
        · have h := ul_if_f hc6 h
          refine lv_iload_n hx hb dX6_rests_27 rfl (lv_at hl 3 rfl) ?_
          refine lv_iconst (v := 1) hx hb dX6_rests_28 (by decide) ?_
          refine lv_icmp_le (tgt := 35) hx hb dX6_rests_29 (by decide) (fun hc7 => ?_) (fun hc7 => ?_)
          · have h := ul_if_t hc7 h
            refine lv_aload_n hx hb dX6_rests_35 rfl (lv_at hl 0 rfl) ?_
            refine va_get (D := (dC, dI)) (ci := 6) (v := .ref (aF 0)) (C := RX6) (T := TX6) (N := 11) hx hb hts hin6 hown hK hP 0 rfl rfl 7 (by decide) (hts (.fieldLink RX6 57 "UnderLadders" "forecast" "LUnderLadders$Forecast;") (by decide +kernel)) (fun _ h9 => h9) rfl dX6_rests_36 ?_
            refine lv_iload_n hx hb dX6_rests_39 rfl (lv_at hl 1 rfl) ?_
            refine lv_iload_n hx hb dX6_rests_40 rfl (lv_at hl 2 rfl) ?_
            obtain ⟨u8, hu8, h⟩ := ul_cl_h h
            refine ul_cPv (As := [.int p1, .int p2]) (rest := []) (wc := (ul_wG cI aF (aK 0) (aN 0) (aT 0) F ++ ul_wS cI aN (aK 0) N ++ ul_wS cI aT (aK 0) T ++ ul_wK cI aK K)) (wc' := (ul_wG cI aF (aK 0) (aN 0) (aT 0) u8.1 ++ ul_wS cI aN (aK 0) N ++ ul_wS cI aT (aK 0) u8.2 ++ ul_wK cI aK K)) (wr := ([ul_wU cZ cO aU (aL 0) (aD 0) (aK 0) (aN 0) (aT 0) (aJ 0) (aE 0) (aF 0) aP U d, ul_wL cI aL L, ul_wK cI aD D, ul_wJ cO aJ aB J, ul_wE cI aE E, ul_wB cI aP (aK 0) 2 P, ul_wB cI aB (aK 0) 14 B] : List va_W).flatten) hP hD hS hK hA [0] ul_NX_ok hN (c_X1_weighPairs l dC dI cI aF aN aT aK H.size F N T K p1 p2 u8 hu8) (ul_pmq (bs := [ul_wU cZ cO aU (aL 0) (aD 0) (aK 0) (aN 0) (aT 0) (aJ 0) (aE 0) (aF 0) aP U d, ul_wL cI aL L, ul_wK cI aD D, ul_wK cI aK K, ul_wS cI aN (aK 0) N, ul_wS cI aT (aK 0) T, ul_wJ cO aJ aB J, ul_wE cI aE E, ul_wG cI aF (aK 0) (aN 0) (aT 0) F, ul_wB cI aP (aK 0) 2 P, ul_wB cI aB (aK 0) 14 B]) [8, 4, 5, 3, 0, 1, 2, 6, 7, 9, 10] (by show List.Perm _ (List.range 11); decide) (by simp only [List.map_cons, List.map_nil, List.getD_cons_zero, List.getD_cons_succ, List.flatten_cons, List.flatten_nil, List.append_nil, List.nil_append, List.append_assoc])) rfl ⟨hx, hb, hml, hown, hts⟩ (cwV 2 hts gX6_rests_X1_weighPairs rfl rfl rfl (by decide +kernel) ⟨Nat.le_of_ble_eq_true rfl, Nat.le_of_ble_eq_true rfl⟩) (va_recv hK hP (ci := 1) (q0 := 40) rfl rfl) rfl hl.1 rfl (Nat.le_of_ble_eq_true rfl) dX6_rests_41 (fun H locs hw => ?_)
            have hw := hw.pm (ul_pmq (bs := [ul_wU cZ cO aU (aL 0) (aD 0) (aK 0) (aN 0) (aT 0) (aJ 0) (aE 0) (aF 0) aP U d, ul_wL cI aL L, ul_wK cI aD D, ul_wK cI aK K, ul_wS cI aN (aK 0) N, ul_wS cI aT (aK 0) u8.2, ul_wJ cO aJ aB J, ul_wE cI aE E, ul_wG cI aF (aK 0) (aN 0) (aT 0) u8.1, ul_wB cI aP (aK 0) 2 P, ul_wB cI aB (aK 0) 14 B]) [0, 1, 2, 6, 7, 9, 10, 8, 4, 5, 3] (by show List.Perm _ (List.range 11); decide) (by simp only [List.map_cons, List.map_nil, List.getD_cons_zero, List.getD_cons_succ, List.flatten_cons, List.flatten_nil, List.append_nil, List.nil_append, List.append_assoc])).symm
            obtain ⟨hP, hD, hS⟩ := hw
            have hP : va_P (dC, dI) classes ([ul_wU cZ cO aU (aL 0) (aD 0) (aK 0) (aN 0) (aT 0) (aJ 0) (aE 0) (aF 0) aP U d, ul_wL cI aL L, ul_wK cI aD D, ul_wK cI aK K, ul_wS cI aN (aK 0) N, ul_wS cI aT (aK 0) u8.2, ul_wJ cO aJ aB J, ul_wE cI aE E, ul_wG cI aF (aK 0) (aN 0) (aT 0) u8.1, ul_wB cI aP (aK 0) 2 P, ul_wB cI aB (aK 0) 14 B] : List va_W).flatten H := hP
            have hD : va_D A ([ul_wU cZ cO aU (aL 0) (aD 0) (aK 0) (aN 0) (aT 0) (aJ 0) (aE 0) (aF 0) aP U d, ul_wL cI aL L, ul_wK cI aD D, ul_wK cI aK K, ul_wS cI aN (aK 0) N, ul_wS cI aT (aK 0) u8.2, ul_wJ cO aJ aB J, ul_wE cI aE E, ul_wG cI aF (aK 0) (aN 0) (aT 0) u8.1, ul_wB cI aP (aK 0) 2 P, ul_wB cI aB (aK 0) 14 B] : List va_W).flatten := hD
            refine lv_iload_n hx hb dX6_rests_44 rfl (lv_at hl 3 rfl) ?_
            refine lv_if_ne (tgt := 58) hx hb dX6_rests_45 (by decide) (fun hc9 => ?_) (fun hc9 => ?_)
            · have h := ul_if_f hc9 h
              refine lv_aload_n hx hb dX6_rests_58 rfl (lv_at hl 0 rfl) ?_
              refine va_get (D := (dC, dI)) (ci := 6) (v := .ref (aF 0)) (C := RX6) (T := TX6) (N := 11) hx hb hts hin6 hown hK hP 0 rfl rfl 7 (by decide) (hts (.fieldLink RX6 57 "UnderLadders" "forecast" "LUnderLadders$Forecast;") (by decide +kernel)) (fun _ h9 => h9) rfl dX6_rests_59 ?_
              obtain ⟨u10, hu10, h⟩ := ul_cl_h h
              refine ul_cPi (As := []) (rest := []) (wc := (ul_wG cI aF (aK 0) (aN 0) (aT 0) u8.1 ++ ul_wS cI aN (aK 0) N ++ ul_wS cI aT (aK 0) u8.2 ++ ul_wK cI aK K)) (wc' := (ul_wG cI aF (aK 0) (aN 0) (aT 0) u8.1 ++ ul_wS cI aN (aK 0) N ++ ul_wS cI aT (aK 0) u8.2 ++ ul_wK cI aK K)) (wr := ([ul_wU cZ cO aU (aL 0) (aD 0) (aK 0) (aN 0) (aT 0) (aJ 0) (aE 0) (aF 0) aP U d, ul_wL cI aL L, ul_wK cI aD D, ul_wJ cO aJ aB J, ul_wE cI aE E, ul_wB cI aP (aK 0) 2 P, ul_wB cI aB (aK 0) 14 B] : List va_W).flatten) hP hD hS hK hA [0] ul_NX_ok hN (c_X1_firstRest l dC dI cI aF aN aT aK H.size u8.1 N u8.2 K u10 hu10) (ul_pmq (bs := [ul_wU cZ cO aU (aL 0) (aD 0) (aK 0) (aN 0) (aT 0) (aJ 0) (aE 0) (aF 0) aP U d, ul_wL cI aL L, ul_wK cI aD D, ul_wK cI aK K, ul_wS cI aN (aK 0) N, ul_wS cI aT (aK 0) u8.2, ul_wJ cO aJ aB J, ul_wE cI aE E, ul_wG cI aF (aK 0) (aN 0) (aT 0) u8.1, ul_wB cI aP (aK 0) 2 P, ul_wB cI aB (aK 0) 14 B]) [8, 4, 5, 3, 0, 1, 2, 6, 7, 9, 10] (by show List.Perm _ (List.range 11); decide) (by simp only [List.map_cons, List.map_nil, List.getD_cons_zero, List.getD_cons_succ, List.flatten_cons, List.flatten_nil, List.append_nil, List.nil_append, List.append_assoc])) rfl ⟨hx, hb, hml, hown, hts⟩ (cwV 0 hts gX6_rests_X1_firstRest rfl rfl rfl (by decide +kernel) ⟨Nat.le_of_ble_eq_true rfl, Nat.le_of_ble_eq_true rfl⟩) (va_recv hK hP (ci := 1) (q0 := 40) rfl rfl) rfl hl.1 rfl (Nat.le_of_ble_eq_true rfl) dX6_rests_62 (fun H locs hw => ?_)
              have hw := hw.pm (ul_pmq (bs := [ul_wU cZ cO aU (aL 0) (aD 0) (aK 0) (aN 0) (aT 0) (aJ 0) (aE 0) (aF 0) aP U d, ul_wL cI aL L, ul_wK cI aD D, ul_wK cI aK K, ul_wS cI aN (aK 0) N, ul_wS cI aT (aK 0) u8.2, ul_wJ cO aJ aB J, ul_wE cI aE E, ul_wG cI aF (aK 0) (aN 0) (aT 0) u8.1, ul_wB cI aP (aK 0) 2 P, ul_wB cI aB (aK 0) 14 B]) [0, 1, 2, 6, 7, 9, 10, 8, 4, 5, 3] (by show List.Perm _ (List.range 11); decide) (by simp only [List.map_cons, List.map_nil, List.getD_cons_zero, List.getD_cons_succ, List.flatten_cons, List.flatten_nil, List.append_nil, List.nil_append, List.append_assoc])).symm
              obtain ⟨hP, hD, hS⟩ := hw
              have hP : va_P (dC, dI) classes ([ul_wU cZ cO aU (aL 0) (aD 0) (aK 0) (aN 0) (aT 0) (aJ 0) (aE 0) (aF 0) aP U d, ul_wL cI aL L, ul_wK cI aD D, ul_wK cI aK K, ul_wS cI aN (aK 0) N, ul_wS cI aT (aK 0) u8.2, ul_wJ cO aJ aB J, ul_wE cI aE E, ul_wG cI aF (aK 0) (aN 0) (aT 0) u8.1, ul_wB cI aP (aK 0) 2 P, ul_wB cI aB (aK 0) 14 B] : List va_W).flatten H := hP
              have hD : va_D A ([ul_wU cZ cO aU (aL 0) (aD 0) (aK 0) (aN 0) (aT 0) (aJ 0) (aE 0) (aF 0) aP U d, ul_wL cI aL L, ul_wK cI aD D, ul_wK cI aK K, ul_wS cI aN (aK 0) N, ul_wS cI aT (aK 0) u8.2, ul_wJ cO aJ aB J, ul_wE cI aE E, ul_wG cI aF (aK 0) (aN 0) (aT 0) u8.1, ul_wB cI aP (aK 0) 2 P, ul_wB cI aB (aK 0) 14 B] : List va_W).flatten := hD
              have hr9 := hK0 (u10, u8.2, u8.1) h
              subst hr9
              exact W.iret (v := u10) hx hb hr (fun t ht hW => ⟨⟨u10, (), rfl, rfl, by rw [ht]; exact hP, va_K.moved hW.alike hK, hD⟩, hS.F ht⟩) hS.2.2 dX6_rests_65
            · have h := ul_if_t hc9 h
              refine lv_aload_n hx hb dX6_rests_48 rfl (lv_at hl 0 rfl) ?_
              refine va_get (D := (dC, dI)) (ci := 6) (v := .ref (aF 0)) (C := RX6) (T := TX6) (N := 11) hx hb hts hin6 hown hK hP 0 rfl rfl 7 (by decide) (hts (.fieldLink RX6 57 "UnderLadders" "forecast" "LUnderLadders$Forecast;") (by decide +kernel)) (fun _ h9 => h9) rfl dX6_rests_49 ?_
              obtain ⟨u11, hu11, h⟩ := ul_cl_h h
              refine ul_cPi (As := []) (rest := []) (wc := (ul_wG cI aF (aK 0) (aN 0) (aT 0) u8.1 ++ ul_wS cI aN (aK 0) N ++ ul_wS cI aT (aK 0) u8.2 ++ ul_wK cI aK K)) (wc' := (ul_wG cI aF (aK 0) (aN 0) (aT 0) u8.1 ++ ul_wS cI aN (aK 0) N ++ ul_wS cI aT (aK 0) u8.2 ++ ul_wK cI aK K)) (wr := ([ul_wU cZ cO aU (aL 0) (aD 0) (aK 0) (aN 0) (aT 0) (aJ 0) (aE 0) (aF 0) aP U d, ul_wL cI aL L, ul_wK cI aD D, ul_wJ cO aJ aB J, ul_wE cI aE E, ul_wB cI aP (aK 0) 2 P, ul_wB cI aB (aK 0) 14 B] : List va_W).flatten) hP hD hS hK hA [0] ul_NX_ok hN (c_X1_countRests l dC dI cI aF aN aT aK H.size u8.1 N u8.2 K u11 hu11) (ul_pmq (bs := [ul_wU cZ cO aU (aL 0) (aD 0) (aK 0) (aN 0) (aT 0) (aJ 0) (aE 0) (aF 0) aP U d, ul_wL cI aL L, ul_wK cI aD D, ul_wK cI aK K, ul_wS cI aN (aK 0) N, ul_wS cI aT (aK 0) u8.2, ul_wJ cO aJ aB J, ul_wE cI aE E, ul_wG cI aF (aK 0) (aN 0) (aT 0) u8.1, ul_wB cI aP (aK 0) 2 P, ul_wB cI aB (aK 0) 14 B]) [8, 4, 5, 3, 0, 1, 2, 6, 7, 9, 10] (by show List.Perm _ (List.range 11); decide) (by simp only [List.map_cons, List.map_nil, List.getD_cons_zero, List.getD_cons_succ, List.flatten_cons, List.flatten_nil, List.append_nil, List.nil_append, List.append_assoc])) rfl ⟨hx, hb, hml, hown, hts⟩ (cwV 0 hts gX6_rests_X1_countRests rfl rfl rfl (by decide +kernel) ⟨Nat.le_of_ble_eq_true rfl, Nat.le_of_ble_eq_true rfl⟩) (va_recv hK hP (ci := 1) (q0 := 40) rfl rfl) rfl hl.1 rfl (Nat.le_of_ble_eq_true rfl) dX6_rests_52 (fun H locs hw => ?_)
              have hw := hw.pm (ul_pmq (bs := [ul_wU cZ cO aU (aL 0) (aD 0) (aK 0) (aN 0) (aT 0) (aJ 0) (aE 0) (aF 0) aP U d, ul_wL cI aL L, ul_wK cI aD D, ul_wK cI aK K, ul_wS cI aN (aK 0) N, ul_wS cI aT (aK 0) u8.2, ul_wJ cO aJ aB J, ul_wE cI aE E, ul_wG cI aF (aK 0) (aN 0) (aT 0) u8.1, ul_wB cI aP (aK 0) 2 P, ul_wB cI aB (aK 0) 14 B]) [0, 1, 2, 6, 7, 9, 10, 8, 4, 5, 3] (by show List.Perm _ (List.range 11); decide) (by simp only [List.map_cons, List.map_nil, List.getD_cons_zero, List.getD_cons_succ, List.flatten_cons, List.flatten_nil, List.append_nil, List.nil_append, List.append_assoc])).symm
              obtain ⟨hP, hD, hS⟩ := hw
              have hP : va_P (dC, dI) classes ([ul_wU cZ cO aU (aL 0) (aD 0) (aK 0) (aN 0) (aT 0) (aJ 0) (aE 0) (aF 0) aP U d, ul_wL cI aL L, ul_wK cI aD D, ul_wK cI aK K, ul_wS cI aN (aK 0) N, ul_wS cI aT (aK 0) u8.2, ul_wJ cO aJ aB J, ul_wE cI aE E, ul_wG cI aF (aK 0) (aN 0) (aT 0) u8.1, ul_wB cI aP (aK 0) 2 P, ul_wB cI aB (aK 0) 14 B] : List va_W).flatten H := hP
              have hD : va_D A ([ul_wU cZ cO aU (aL 0) (aD 0) (aK 0) (aN 0) (aT 0) (aJ 0) (aE 0) (aF 0) aP U d, ul_wL cI aL L, ul_wK cI aD D, ul_wK cI aK K, ul_wS cI aN (aK 0) N, ul_wS cI aT (aK 0) u8.2, ul_wJ cO aJ aB J, ul_wE cI aE E, ul_wG cI aF (aK 0) (aN 0) (aT 0) u8.1, ul_wB cI aP (aK 0) 2 P, ul_wB cI aB (aK 0) 14 B] : List va_W).flatten := hD
              refine lv_goto (tgt := 65) hx hb dX6_rests_55 (by decide) ?_
              have hr9 := hK0 (u11, u8.2, u8.1) h
              subst hr9
              exact W.iret (v := u11) hx hb hr (fun t ht hW => ⟨⟨u11, (), rfl, rfl, by rw [ht]; exact hP, va_K.moved hW.alike hK, hD⟩, hS.F ht⟩) hS.2.2 dX6_rests_65
          · have h := ul_if_f hc7 h
            refine lv_bipush (v := -2) hx hb dX6_rests_32 (by decide) ?_
            have hr9 := hK0 ((-2 : Int32), T, F) h
            subst hr9
            exact W.iret (v := (-2 : Int32)) hx hb hr (fun t ht hW => ⟨⟨(-2 : Int32), (), rfl, rfl, by rw [ht]; exact hP, va_K.moved hW.alike hK, hD⟩, hS.F ht⟩) hS.2.2 dX6_rests_34
    · have h := ul_if_t hc4 h
      refine lv_iconst (v := -1) hx hb dX6_rests_16 (by decide) ?_
      have hr9 := hK0 ((-1 : Int32), T, F) h
      subst hr9
      exact W.iret (v := (-1 : Int32)) hx hb hr (fun t ht hW => ⟨⟨(-1 : Int32), (), rfl, rfl, by rw [ht]; exact hP, va_K.moved hW.alike hK, hD⟩, hS.F ht⟩) hS.2.2 dX6_rests_17
def f_X6_stays_j64 (K : ul_S) (N : ul_S) (p1 : Int32) (p2 : Int32) (p3 : Int32) (p4 : Int32) (x5 : Int32) (x6 : Int32) (T__64 : ul_S) : Option (Int32 × ul_S) :=
  (f_X1_chancesOfGold N T__64 K p1 p2 p3).bind fun u1 => (f_X6_inLeastTerms u1.1 x5 p4).bind fun u2 => some (u2, u1.2)
def f_X6_stays_L39 (K : ul_S) (N : ul_S) (p1 : Int32) (p2 : Int32) (p3 : Int32) (p4 : Int32) (T_c : ul_S) (q39 : (Int32 × Int32)) : Option ((Int32 × Int32) ⊕ (Int32 × Int32)) :=
  if (K 0 1) ≤ q39.2 then (some (.inl (q39.1, q39.2))) else (ul_bd (q39.1 * (10 : Int32)) fun v12 => ul_bd (q39.2 + 1) fun v13 => some (.inr (v12, v13)))
def f_X6_stays (K : ul_S) (N : ul_S) (T : ul_S) (p1 : Int32) (p2 : Int32) (p3 : Int32) (p4 : Int32) : Option (Int32 × ul_S) :=
  (f_X6_isLadder K p1).bind fun u5 => if u5 = 0 then (some ((-1 : Int32), T)) else (if p2 < 0 then (some ((-2 : Int32), T)) else (if (60 : Int32) < p2 then (some ((-2 : Int32), T)) else (if p3 < 0 then (some ((-2 : Int32), T)) else (if p3 ≤ (10 : Int32) then ((ul_it ul_N (f_X6_stays_L39 K N p1 p2 p3 p4 T) ((1 : Int32), (0 : Int32))).bind (fun e39 => f_X6_stays_j64 K N p1 p2 p3 p4 e39.1 e39.2 T)) else (some ((-2 : Int32), T))))))
set_option maxHeartbeats 4000000 in
set_option maxRecDepth 100000 in
theorem c_X6_stays (l : Launch) (dC : Nat → ClassId) (dI : Nat → Nat → Nat) (cI : ClassId) (cZ : ClassId) (cO : ClassId) (aU : Nat → Nat) (aL : Nat → Nat) (aD : Nat → Nat) (aK : Nat → Nat) (aN : Nat → Nat) (aT : Nat → Nat) (aJ : Nat → Nat) (aE : Nat → Nat) (aF : Nat → Nat) (aP : Nat → Nat → Nat) (aB : Nat → Nat → Nat) (sz : Nat) (U : ul_S) (d : Int64) (L : ul_S) (D : ul_S) (K : ul_S) (N : ul_S) (T : ul_S) (J : ul_S) (E : ul_S) (F : ul_S) (P : ul_F) (B : ul_F) (p1 : Int32) (p2 : Int32) (p3 : Int32) (p4 : Int32) (r : (Int32 × ul_S)) (h : f_X6_stays K N T p1 p2 p3 p4 = some r) : Met l yX6_stays wsX6_stays ({ frames := 5, cells := 0, slots := 0, locals := 134 }) (va_Pc [.ref (aU 0), .int p1, .int p2, .int p3, .int p4] (ul_pre (dC, dI) [(cI, .int), (cZ, .boolean), (cO, .object RX4)] ul_NX sz ([ul_wU cZ cO aU (aL 0) (aD 0) (aK 0) (aN 0) (aT 0) (aJ 0) (aE 0) (aF 0) aP U d, ul_wL cI aL L, ul_wK cI aD D, ul_wK cI aK K, ul_wS cI aN (aK 0) N, ul_wS cI aT (aK 0) T, ul_wJ cO aJ aB J, ul_wE cI aE E, ul_wG cI aF (aK 0) (aN 0) (aT 0) F, ul_wB cI aP (aK 0) 2 P, ul_wB cI aB (aK 0) 14 B] : List va_W).flatten)) (va_Qi (fun v (_ : Unit) => v = r.1) (fun _ => ul_post (dC, dI) [(cI, .int), (cZ, .boolean), (cO, .object RX4)] (va_A ([ul_wU cZ cO aU (aL 0) (aD 0) (aK 0) (aN 0) (aT 0) (aJ 0) (aE 0) (aF 0) aP U d, ul_wL cI aL L, ul_wK cI aD D, ul_wK cI aK K, ul_wS cI aN (aK 0) N, ul_wS cI aT (aK 0) T, ul_wJ cO aJ aB J, ul_wE cI aE E, ul_wG cI aF (aK 0) (aN 0) (aT 0) F, ul_wB cI aP (aK 0) 2 P, ul_wB cI aB (aK 0) 14 B] : List va_W).flatten sz) ([ul_wU cZ cO aU (aL 0) (aD 0) (aK 0) (aN 0) (aT 0) (aJ 0) (aE 0) (aF 0) aP U d, ul_wL cI aL L, ul_wK cI aD D, ul_wK cI aK K, ul_wS cI aN (aK 0) N, ul_wS cI aT (aK 0) r.2, ul_wJ cO aJ aB J, ul_wE cI aE E, ul_wG cI aF (aK 0) (aN 0) (aT 0) F, ul_wB cI aP (aK 0) 2 P, ul_wB cI aB (aK 0) 14 B] : List va_W).flatten) (va_A ([ul_wU cZ cO aU (aL 0) (aD 0) (aK 0) (aN 0) (aT 0) (aJ 0) (aE 0) (aF 0) aP U d, ul_wL cI aL L, ul_wK cI aD D, ul_wK cI aK K, ul_wS cI aN (aK 0) N, ul_wS cI aT (aK 0) T, ul_wJ cO aJ aB J, ul_wE cI aE E, ul_wG cI aF (aK 0) (aN 0) (aT 0) F, ul_wB cI aP (aK 0) 2 P, ul_wB cI aB (aK 0) 14 B] : List va_W).flatten sz)) 0 0 (va_A ([ul_wU cZ cO aU (aL 0) (aD 0) (aK 0) (aN 0) (aT 0) (aJ 0) (aE 0) (aF 0) aP U d, ul_wL cI aL L, ul_wK cI aD D, ul_wK cI aK K, ul_wS cI aN (aK 0) N, ul_wS cI aT (aK 0) T, ul_wJ cO aJ aB J, ul_wE cI aE E, ul_wG cI aF (aK 0) (aN 0) (aT 0) F, ul_wB cI aP (aK 0) 2 P, ul_wB cI aB (aK 0) 14 B] : List va_W).flatten sz) := by
  refine Met.ofW (cc := cX6_stays) (maxL := 7) (ret := (some .int)) (by decide) rfl ?_
  intro p e s m args below meth c s₁ BB hml hv
  obtain ⟨rfl, hsz, hP, hK, hD0, hN⟩ := hv
  have hx := BB.exec
  have hb := BB.bytes
  have hr := BB.returns
  have hts := atoms_spec (ws := wsX6_stays) BB.pre
  have hown : s.vm.findClass RX6 = some m.cls := findClass_of_methodNamed BB.named
  have hlocks := BB.notSynchronized
  have hin2 : ∀ w ∈ u_ws RX2 TX2 9, w ∈ wsX6_stays := by decide +kernel
  have hin6 : ∀ w ∈ u_ws RX6 TX6 11, w ∈ wsX6_stays := by decide +kernel
  subst hsz
  have hD := hD0.self (sz := s.heap.size)
  generalize hAe : va_A ([ul_wU cZ cO aU (aL 0) (aD 0) (aK 0) (aN 0) (aT 0) (aJ 0) (aE 0) (aF 0) aP U d, ul_wL cI aL L, ul_wK cI aD D, ul_wK cI aK K, ul_wS cI aN (aK 0) N, ul_wS cI aT (aK 0) T, ul_wJ cO aJ aB J, ul_wE cI aE E, ul_wG cI aF (aK 0) (aN 0) (aT 0) F, ul_wB cI aP (aK 0) 2 P, ul_wB cI aB (aK 0) 14 B] : List va_W).flatten s.heap.size = A at hD hN ⊢
  have hA : ∀ q : Nat, s.heap.size ≤ q → A q := fun q h => by rw [← hAe]; exact Or.inr h
  have hS : va_S A s.heap s.heap [] := va_S.rf
  have hl := lv_entry ([.ref (aU 0), .int p1, .int p2, .int p3, .int p4]) (n := 7) (Nat.le_of_ble_eq_true rfl)
  rw [lg_entry_eq]
  generalize (lg_sl ([.ref (aU 0), .int p1, .int p2, .int p3, .int p4]) ++ List.replicate (7 - (lg_sl ([.ref (aU 0), .int p1, .int p2, .int p3, .int p4])).length) Slot.unset).toArray = ls at hl ⊢
  have hl : lv_has ls 7 [(0, .ref (aU 0)), (1, .int p1), (2, .int p2), (3, .int p3), (4, .int p4)] := hl
  obtain ⟨K0, hK0, h⟩ := ul_top h
  unfold f_X6_stays at h
  refine ul_gen (fun G gi ge => ?_)
  obtain ⟨H, eH⟩ : ∃ z, z = s.heap := ⟨_, rfl⟩
  obtain ⟨locs, eL⟩ : ∃ z : List Loc, z = [] := ⟨_, rfl⟩
  have hP : va_P (dC, dI) classes ([ul_wU cZ cO aU (aL 0) (aD 0) (aK 0) (aN 0) (aT 0) (aJ 0) (aE 0) (aF 0) aP U d, ul_wL cI aL L, ul_wK cI aD D, ul_wK cI aK K, ul_wS cI aN (aK 0) N, ul_wS cI aT (aK 0) T, ul_wJ cO aJ aB J, ul_wE cI aE E, ul_wG cI aF (aK 0) (aN 0) (aT 0) F, ul_wB cI aP (aK 0) 2 P, ul_wB cI aB (aK 0) 14 B] : List va_W).flatten H := by rw [eH]; exact hP
  have hS : va_S A s.heap H locs := by rw [eH, eL]; exact hS
  rw [← eL]
  refine (show G H locs (F0 m 0 ls []) → G s.heap locs (F0 m 0 ls []) from fun z => by rw [← eH]; exact z) ?_
  have J64 : ∀ (x5 : Int32) (x6 : Int32) (T__64 : ul_S) (H : Heap) (locs : List Loc), ul_H (dC, dI) A s.heap ([ul_wU cZ cO aU (aL 0) (aD 0) (aK 0) (aN 0) (aT 0) (aJ 0) (aE 0) (aF 0) aP U d, ul_wL cI aL L, ul_wK cI aD D, ul_wK cI aK K, ul_wS cI aN (aK 0) N, ul_wS cI aT (aK 0) T__64, ul_wJ cO aJ aB J, ul_wE cI aE E, ul_wG cI aF (aK 0) (aN 0) (aT 0) F, ul_wB cI aP (aK 0) 2 P, ul_wB cI aB (aK 0) 14 B] : List va_W).flatten H locs → ∀ ls : Array Slot, lv_has ls 7 [(0, .ref (aU 0)), (1, .int p1), (2, .int p2), (3, .int p3), (4, .int p4), (5, .int x5), (6, .int x6)] → (f_X6_stays_j64 K N p1 p2 p3 p4 x5 x6 T__64).bind K0 = some r → G H locs (F0 m 64 ls []) := by
    intro x5 x6 T__64 H locs hw ls hl h
    obtain ⟨hP, hD, hS⟩ := hw
    unfold f_X6_stays_j64 at h
    refine gi _ _ _ ?_
    refine lv_aload_n hx hb dX6_stays_64 rfl (lv_at hl 0 rfl) ?_
    refine va_get (D := (dC, dI)) (ci := 6) (v := .ref (aF 0)) (C := RX6) (T := TX6) (N := 11) hx hb hts hin6 hown hK hP 0 rfl rfl 7 (by decide) (hts (.fieldLink RX6 57 "UnderLadders" "forecast" "LUnderLadders$Forecast;") (by decide +kernel)) (fun _ h9 => h9) rfl dX6_stays_65 ?_
    refine lv_iload_n hx hb dX6_stays_68 rfl (lv_at hl 1 rfl) ?_
    refine lv_iload_n hx hb dX6_stays_69 rfl (lv_at hl 2 rfl) ?_
    refine lv_iload_n hx hb dX6_stays_70 rfl (lv_at hl 3 rfl) ?_
    obtain ⟨u3, hu3, h⟩ := ul_cl_h h
    refine ul_cPi (As := [.int p1, .int p2, .int p3]) (rest := []) (wc := (ul_wG cI aF (aK 0) (aN 0) (aT 0) F ++ ul_wS cI aN (aK 0) N ++ ul_wS cI aT (aK 0) T__64 ++ ul_wK cI aK K)) (wc' := (ul_wG cI aF (aK 0) (aN 0) (aT 0) F ++ ul_wS cI aN (aK 0) N ++ ul_wS cI aT (aK 0) u3.2 ++ ul_wK cI aK K)) (wr := ([ul_wU cZ cO aU (aL 0) (aD 0) (aK 0) (aN 0) (aT 0) (aJ 0) (aE 0) (aF 0) aP U d, ul_wL cI aL L, ul_wK cI aD D, ul_wJ cO aJ aB J, ul_wE cI aE E, ul_wB cI aP (aK 0) 2 P, ul_wB cI aB (aK 0) 14 B] : List va_W).flatten) hP hD hS hK hA [0] ul_NX_ok hN (c_X1_chancesOfGold l dC dI cI aF aN aT aK H.size F N T__64 K p1 p2 p3 u3 hu3) (ul_pmq (bs := [ul_wU cZ cO aU (aL 0) (aD 0) (aK 0) (aN 0) (aT 0) (aJ 0) (aE 0) (aF 0) aP U d, ul_wL cI aL L, ul_wK cI aD D, ul_wK cI aK K, ul_wS cI aN (aK 0) N, ul_wS cI aT (aK 0) T__64, ul_wJ cO aJ aB J, ul_wE cI aE E, ul_wG cI aF (aK 0) (aN 0) (aT 0) F, ul_wB cI aP (aK 0) 2 P, ul_wB cI aB (aK 0) 14 B]) [8, 4, 5, 3, 0, 1, 2, 6, 7, 9, 10] (by show List.Perm _ (List.range 11); decide) (by simp only [List.map_cons, List.map_nil, List.getD_cons_zero, List.getD_cons_succ, List.flatten_cons, List.flatten_nil, List.append_nil, List.nil_append, List.append_assoc])) rfl ⟨hx, hb, hml, hown, hts⟩ (cwV 3 hts gX6_stays_X1_chancesOfGold rfl rfl rfl (by decide +kernel) ⟨Nat.le_of_ble_eq_true rfl, Nat.le_of_ble_eq_true rfl⟩) (va_recv hK hP (ci := 1) (q0 := 40) rfl rfl) rfl hl.1 rfl (Nat.le_of_ble_eq_true rfl) dX6_stays_71 (fun H locs hw => ?_)
    have hw := hw.pm (ul_pmq (bs := [ul_wU cZ cO aU (aL 0) (aD 0) (aK 0) (aN 0) (aT 0) (aJ 0) (aE 0) (aF 0) aP U d, ul_wL cI aL L, ul_wK cI aD D, ul_wK cI aK K, ul_wS cI aN (aK 0) N, ul_wS cI aT (aK 0) u3.2, ul_wJ cO aJ aB J, ul_wE cI aE E, ul_wG cI aF (aK 0) (aN 0) (aT 0) F, ul_wB cI aP (aK 0) 2 P, ul_wB cI aB (aK 0) 14 B]) [0, 1, 2, 6, 7, 9, 10, 8, 4, 5, 3] (by show List.Perm _ (List.range 11); decide) (by simp only [List.map_cons, List.map_nil, List.getD_cons_zero, List.getD_cons_succ, List.flatten_cons, List.flatten_nil, List.append_nil, List.nil_append, List.append_assoc])).symm
    obtain ⟨hP, hD, hS⟩ := hw
    have hP : va_P (dC, dI) classes ([ul_wU cZ cO aU (aL 0) (aD 0) (aK 0) (aN 0) (aT 0) (aJ 0) (aE 0) (aF 0) aP U d, ul_wL cI aL L, ul_wK cI aD D, ul_wK cI aK K, ul_wS cI aN (aK 0) N, ul_wS cI aT (aK 0) u3.2, ul_wJ cO aJ aB J, ul_wE cI aE E, ul_wG cI aF (aK 0) (aN 0) (aT 0) F, ul_wB cI aP (aK 0) 2 P, ul_wB cI aB (aK 0) 14 B] : List va_W).flatten H := hP
    have hD : va_D A ([ul_wU cZ cO aU (aL 0) (aD 0) (aK 0) (aN 0) (aT 0) (aJ 0) (aE 0) (aF 0) aP U d, ul_wL cI aL L, ul_wK cI aD D, ul_wK cI aK K, ul_wS cI aN (aK 0) N, ul_wS cI aT (aK 0) u3.2, ul_wJ cO aJ aB J, ul_wE cI aE E, ul_wG cI aF (aK 0) (aN 0) (aT 0) F, ul_wB cI aP (aK 0) 2 P, ul_wB cI aB (aK 0) 14 B] : List va_W).flatten := hD
    refine lv_iload hx hb dX6_stays_74 (lv_at hl 5 rfl) ?_
    refine lv_iload hx hb dX6_stays_76 (lv_at hl 4 rfl) ?_
    obtain ⟨u4, hu4, h⟩ := ul_cl_h h
    refine ul_cSi (As := [.int u3.1, .int x5, .int p4]) (rest := []) hP hD hS hK hA (c_X6_inLeastTerms l dC dI H.size u3.1 x5 p4 u4 hu4) ⟨hx, hb, hml, hown, hts⟩ (cwS 3 hts gX6_stays_X6_inLeastTerms rfl rfl rfl (by decide +kernel) ⟨Nat.le_of_ble_eq_true rfl, Nat.le_of_ble_eq_true rfl⟩) rfl hl.1 rfl (Nat.le_of_ble_eq_true rfl) dX6_stays_78 (fun H locs hw => ?_)
    obtain ⟨hP, hD, hS⟩ := hw
    have hr9 := hK0 (u4, u3.2) h
    subst hr9
    exact W.iret (v := u4) hx hb hr (fun t ht hW => ⟨⟨u4, (), rfl, rfl, by rw [ht]; exact hP, va_K.moved hW.alike hK, hD⟩, hS.F ht⟩) hS.2.2 dX6_stays_81
  refine gi _ _ _ ?_
  refine lv_aload_n hx hb dX6_stays_0 rfl (lv_at hl 0 rfl) ?_
  refine lv_iload_n hx hb dX6_stays_1 rfl (lv_at hl 1 rfl) ?_
  obtain ⟨u5, hu5, h⟩ := ul_cl_h h
  refine ul_cPi (As := [.int p1]) (rest := []) (wc := ([ul_wU cZ cO aU (aL 0) (aD 0) (aK 0) (aN 0) (aT 0) (aJ 0) (aE 0) (aF 0) aP U d, ul_wL cI aL L, ul_wK cI aD D, ul_wK cI aK K, ul_wS cI aN (aK 0) N, ul_wS cI aT (aK 0) T, ul_wJ cO aJ aB J, ul_wE cI aE E, ul_wG cI aF (aK 0) (aN 0) (aT 0) F, ul_wB cI aP (aK 0) 2 P, ul_wB cI aB (aK 0) 14 B] : List va_W).flatten) (wc' := ([ul_wU cZ cO aU (aL 0) (aD 0) (aK 0) (aN 0) (aT 0) (aJ 0) (aE 0) (aF 0) aP U d, ul_wL cI aL L, ul_wK cI aD D, ul_wK cI aK K, ul_wS cI aN (aK 0) N, ul_wS cI aT (aK 0) T, ul_wJ cO aJ aB J, ul_wE cI aE E, ul_wG cI aF (aK 0) (aN 0) (aT 0) F, ul_wB cI aP (aK 0) 2 P, ul_wB cI aB (aK 0) 14 B] : List va_W).flatten) (wr := ([] : List va_W).flatten) hP hD hS hK hA [0, 1, 2] ul_NX_ok hN (c_X6_isLadder l dC dI cI cZ cO aU aL aD aK aN aT aJ aE aF aP aB H.size U d L D K N T J E F P B p1 u5 hu5) (ul_pmq (bs := [ul_wU cZ cO aU (aL 0) (aD 0) (aK 0) (aN 0) (aT 0) (aJ 0) (aE 0) (aF 0) aP U d, ul_wL cI aL L, ul_wK cI aD D, ul_wK cI aK K, ul_wS cI aN (aK 0) N, ul_wS cI aT (aK 0) T, ul_wJ cO aJ aB J, ul_wE cI aE E, ul_wG cI aF (aK 0) (aN 0) (aT 0) F, ul_wB cI aP (aK 0) 2 P, ul_wB cI aB (aK 0) 14 B]) [0, 1, 2, 3, 4, 5, 6, 7, 8, 9, 10] (by show List.Perm _ (List.range 11); decide) (by simp only [List.map_cons, List.map_nil, List.getD_cons_zero, List.getD_cons_succ, List.flatten_cons, List.flatten_nil, List.append_nil, List.nil_append, List.append_assoc])) rfl ⟨hx, hb, hml, hown, hts⟩ (cwV 1 hts gX6_stays_X6_isLadder rfl rfl rfl (by decide +kernel) ⟨Nat.le_of_ble_eq_true rfl, Nat.le_of_ble_eq_true rfl⟩) (va_recv hK hP (ci := 6) (q0 := 0) rfl rfl) rfl hl.1 rfl (Nat.le_of_ble_eq_true rfl) dX6_stays_2 (fun H locs hw => ?_)
  have hw := hw.pm (ul_pmq (bs := [ul_wU cZ cO aU (aL 0) (aD 0) (aK 0) (aN 0) (aT 0) (aJ 0) (aE 0) (aF 0) aP U d, ul_wL cI aL L, ul_wK cI aD D, ul_wK cI aK K, ul_wS cI aN (aK 0) N, ul_wS cI aT (aK 0) T, ul_wJ cO aJ aB J, ul_wE cI aE E, ul_wG cI aF (aK 0) (aN 0) (aT 0) F, ul_wB cI aP (aK 0) 2 P, ul_wB cI aB (aK 0) 14 B]) [0, 1, 2, 3, 4, 5, 6, 7, 8, 9, 10] (by show List.Perm _ (List.range 11); decide) (by simp only [List.map_cons, List.map_nil, List.getD_cons_zero, List.getD_cons_succ, List.flatten_cons, List.flatten_nil, List.append_nil, List.nil_append, List.append_assoc])).symm
  obtain ⟨hP, hD, hS⟩ := hw
  have hP : va_P (dC, dI) classes ([ul_wU cZ cO aU (aL 0) (aD 0) (aK 0) (aN 0) (aT 0) (aJ 0) (aE 0) (aF 0) aP U d, ul_wL cI aL L, ul_wK cI aD D, ul_wK cI aK K, ul_wS cI aN (aK 0) N, ul_wS cI aT (aK 0) T, ul_wJ cO aJ aB J, ul_wE cI aE E, ul_wG cI aF (aK 0) (aN 0) (aT 0) F, ul_wB cI aP (aK 0) 2 P, ul_wB cI aB (aK 0) 14 B] : List va_W).flatten H := hP
  have hD : va_D A ([ul_wU cZ cO aU (aL 0) (aD 0) (aK 0) (aN 0) (aT 0) (aJ 0) (aE 0) (aF 0) aP U d, ul_wL cI aL L, ul_wK cI aD D, ul_wK cI aK K, ul_wS cI aN (aK 0) N, ul_wS cI aT (aK 0) T, ul_wJ cO aJ aB J, ul_wE cI aE E, ul_wG cI aF (aK 0) (aN 0) (aT 0) F, ul_wB cI aP (aK 0) 2 P, ul_wB cI aB (aK 0) 14 B] : List va_W).flatten := hD
  refine lv_if_ne (tgt := 10) hx hb dX6_stays_5 (by decide) (fun hc6 => ?_) (fun hc6 => ?_)
  · have h := ul_if_f hc6 h
    refine lv_iload_n hx hb dX6_stays_10 rfl (lv_at hl 2 rfl) ?_
    refine lv_if_lt (tgt := 30) hx hb dX6_stays_11 (by decide) (fun hc7 => ?_) (fun hc7 => ?_)
    · have h := ul_if_t hc7 h
      refine lv_bipush (v := -2) hx hb dX6_stays_30 (by decide) ?_
      have hr9 := hK0 ((-2 : Int32), T) h
      subst hr9
      exact W.iret (v := (-2 : Int32)) hx hb hr (fun t ht hW => ⟨⟨(-2 : Int32), (), rfl, rfl, by rw [ht]; exact hP, va_K.moved hW.alike hK, hD⟩, hS.F ht⟩) hS.2.2 dX6_stays_32
    · have h := ul_if_f hc7 h
      refine lv_iload_n hx hb dX6_stays_14 rfl (lv_at hl 2 rfl) ?_
      refine lv_bipush (v := 60) hx hb dX6_stays_15 (by decide) ?_
      refine lv_icmp_gt (tgt := 30) hx hb dX6_stays_17 (by decide) (fun hc8 => ?_) (fun hc8 => ?_)
      · have h := ul_if_t hc8 h
        refine lv_bipush (v := -2) hx hb dX6_stays_30 (by decide) ?_
        have hr9 := hK0 ((-2 : Int32), T) h
        subst hr9
        exact W.iret (v := (-2 : Int32)) hx hb hr (fun t ht hW => ⟨⟨(-2 : Int32), (), rfl, rfl, by rw [ht]; exact hP, va_K.moved hW.alike hK, hD⟩, hS.F ht⟩) hS.2.2 dX6_stays_32
      · have h := ul_if_f hc8 h
        refine lv_iload_n hx hb dX6_stays_20 rfl (lv_at hl 3 rfl) ?_
        refine lv_if_lt (tgt := 30) hx hb dX6_stays_21 (by decide) (fun hc9 => ?_) (fun hc9 => ?_)
        · have h := ul_if_t hc9 h
          refine lv_bipush (v := -2) hx hb dX6_stays_30 (by decide) ?_
          have hr9 := hK0 ((-2 : Int32), T) h
          subst hr9
          exact W.iret (v := (-2 : Int32)) hx hb hr (fun t ht hW => ⟨⟨(-2 : Int32), (), rfl, rfl, by rw [ht]; exact hP, va_K.moved hW.alike hK, hD⟩, hS.F ht⟩) hS.2.2 dX6_stays_32
        · have h := ul_if_f hc9 h
          refine lv_iload_n hx hb dX6_stays_24 rfl (lv_at hl 3 rfl) ?_
          refine lv_bipush (v := 10) hx hb dX6_stays_25 (by decide) ?_
          refine lv_icmp_le (tgt := 33) hx hb dX6_stays_27 (by decide) (fun hc10 => ?_) (fun hc10 => ?_)
          · have h := ul_if_t hc10 h
            refine lv_iconst (v := 1) hx hb dX6_stays_33 (by decide) ?_
            refine lv_istore (lv' := [(5, .int (1 : Int32)), (0, .ref (aU 0)), (1, .int p1), (2, .int p2), (3, .int p3), (4, .int p4)]) hx hb dX6_stays_34 hl (by decide) rfl (fun ls hl => ?_)
            refine lv_iconst (v := 0) hx hb dX6_stays_36 (by decide) ?_
            refine lv_istore (lv' := [(6, .int (0 : Int32)), (5, .int (1 : Int32)), (0, .ref (aU 0)), (1, .int p1), (2, .int p2), (3, .int p3), (4, .int p4)]) hx hb dX6_stays_37 hl (by decide) rfl (fun ls hl => ?_)
            refine ge _ _ _ (ul_loop (P := fun q39 => ∀ (H : Heap) (locs : List Loc), ul_H (dC, dI) A s.heap ([ul_wU cZ cO aU (aL 0) (aD 0) (aK 0) (aN 0) (aT 0) (aJ 0) (aE 0) (aF 0) aP U d, ul_wL cI aL L, ul_wK cI aD D, ul_wK cI aK K, ul_wS cI aN (aK 0) N, ul_wS cI aT (aK 0) T, ul_wJ cO aJ aB J, ul_wE cI aE E, ul_wG cI aF (aK 0) (aN 0) (aT 0) F, ul_wB cI aP (aK 0) 2 P, ul_wB cI aB (aK 0) 14 B] : List va_W).flatten H locs → ∀ ls : Array Slot, lv_has ls 7 [(0, .ref (aU 0)), (1, .int p1), (2, .int p2), (3, .int p3), (4, .int p4), (5, .int q39.1), (6, .int q39.2)] → G H locs (F0 m 39 ls [])) ?_ _ _ (ul_it_h h) H locs ⟨hP, hD, hS⟩ ls (lv_sub hl [2, 3, 4, 5, 6, 1, 0] rfl))
            intro K39 hx39
            intro q39 ih39 h H locs hw ls hl
            obtain ⟨hP, hD, hS⟩ := hw
            unfold f_X6_stays_L39 at h
            refine gi _ _ _ ?_
            refine lv_iload hx hb dX6_stays_39 (lv_at hl 6 rfl) ?_
            refine lv_aload_n hx hb dX6_stays_41 rfl (lv_at hl 0 rfl) ?_
            refine va_get (D := (dC, dI)) (ci := 6) (v := .ref (aK 0)) (C := RX6) (T := TX6) (N := 11) hx hb hts hin6 hown hK hP 0 rfl rfl 2 (by decide) (hts (.fieldLink RX6 23 "UnderLadders" "fixed" "LUnderLadders$Market;") (by decide +kernel)) (fun _ h9 => h9) rfl dX6_stays_42 ?_
            refine va_getN (D := (dC, dI)) (ci := 2) (v := .int (K 0 1)) (C := RX2) (T := TX2) (N := 9) hx hb hts hin2 hown hK hP 13 rfl rfl 8 (by decide) (va_Nw.use rfl (hN.1 (RX6, 90, "UnderLadders$Market", "people", "I") (by decide +kernel))) (fun _ h9 => h9) rfl dX6_stays_45 ?_
            refine lv_icmp_ge (tgt := 64) hx hb dX6_stays_48 (by decide) (fun hc14 => ?_) (fun hc14 => ?_)
            · have h := ul_if_t hc14 h
              exact ge _ _ _ (J64 q39.1 q39.2 T H locs ⟨hP, hD, hS⟩ ls (lv_sub hl [0, 1, 2, 3, 4, 5, 6] rfl) (hx39 (q39.1, q39.2) h))
            · have h := ul_if_f hc14 h
              refine lv_iload hx hb dX6_stays_51 (lv_at hl 5 rfl) ?_
              refine lv_bipush (v := 10) hx hb dX6_stays_53 (by decide) ?_
              refine lv_imul hx hb dX6_stays_55 ?_
              refine lv_topi (fun v15 ev15 => ?_)
              have h := ul_bd_h h v15 ev15
              refine lv_istore (lv' := [(5, .int v15), (0, .ref (aU 0)), (1, .int p1), (2, .int p2), (3, .int p3), (4, .int p4), (6, .int q39.2)]) hx hb dX6_stays_56 hl (by decide) rfl (fun ls hl => ?_)
              obtain ⟨v16, ev16⟩ : ∃ z : Int32, z = q39.2 + 1 := ⟨_, rfl⟩
              have h := ul_bd_h h v16 ev16
              refine lv_iinc (v := v16) (lv' := [(6, .int v16), (5, .int v15), (0, .ref (aU 0)), (1, .int p1), (2, .int p2), (3, .int p3), (4, .int p4)]) hx hb dX6_stays_58 hl (k := 6) rfl (by rw [ev16]; rfl) (by decide) rfl (fun ls hl => ?_)
              refine lv_goto (tgt := 39) hx hb dX6_stays_61 (by decide) ?_
              exact ge _ _ _ (ih39 (v15, v16) h H locs ⟨hP, hD, hS⟩ ls (lv_sub hl [2, 3, 4, 5, 6, 1, 0] rfl))
          · have h := ul_if_f hc10 h
            refine lv_bipush (v := -2) hx hb dX6_stays_30 (by decide) ?_
            have hr9 := hK0 ((-2 : Int32), T) h
            subst hr9
            exact W.iret (v := (-2 : Int32)) hx hb hr (fun t ht hW => ⟨⟨(-2 : Int32), (), rfl, rfl, by rw [ht]; exact hP, va_K.moved hW.alike hK, hD⟩, hS.F ht⟩) hS.2.2 dX6_stays_32
  · have h := ul_if_t hc6 h
    refine lv_iconst (v := -1) hx hb dX6_stays_8 (by decide) ?_
    have hr9 := hK0 ((-1 : Int32), T) h
    subst hr9
    exact W.iret (v := (-1 : Int32)) hx hb hr (fun t ht hW => ⟨⟨(-1 : Int32), (), rfl, rfl, by rw [ht]; exact hP, va_K.moved hW.alike hK, hD⟩, hS.F ht⟩) hS.2.2 dX6_stays_9
def f_X6_seed (d : Int64) (p1 : Int64) : Option (Int64 × Int64) :=
  ul_bd p1 fun d1 => some (d, d1)
set_option maxHeartbeats 4000000 in
set_option maxRecDepth 100000 in
theorem c_X6_seed (l : Launch) (dC : Nat → ClassId) (dI : Nat → Nat → Nat) (cI : ClassId) (cZ : ClassId) (cO : ClassId) (aU : Nat → Nat) (aL : Nat → Nat) (aD : Nat → Nat) (aK : Nat → Nat) (aN : Nat → Nat) (aT : Nat → Nat) (aJ : Nat → Nat) (aE : Nat → Nat) (aF : Nat → Nat) (aP : Nat → Nat → Nat) (aB : Nat → Nat → Nat) (sz : Nat) (U : ul_S) (d : Int64) (L : ul_S) (D : ul_S) (K : ul_S) (N : ul_S) (T : ul_S) (J : ul_S) (E : ul_S) (F : ul_S) (P : ul_F) (B : ul_F) (p1 : Int64) (r : (Int64 × Int64)) (h : f_X6_seed d p1 = some r) : Met l yX6_seed wsX6_seed ({ frames := 0, cells := 0, slots := 0, locals := 0 }) (va_Pc [.ref (aU 0), .long p1] (ul_pre (dC, dI) [(cI, .int), (cZ, .boolean), (cO, .object RX4)] ul_NX sz ([ul_wU cZ cO aU (aL 0) (aD 0) (aK 0) (aN 0) (aT 0) (aJ 0) (aE 0) (aF 0) aP U d, ul_wL cI aL L, ul_wK cI aD D, ul_wK cI aK K, ul_wS cI aN (aK 0) N, ul_wS cI aT (aK 0) T, ul_wJ cO aJ aB J, ul_wE cI aE E, ul_wG cI aF (aK 0) (aN 0) (aT 0) F, ul_wB cI aP (aK 0) 2 P, ul_wB cI aB (aK 0) 14 B] : List va_W).flatten)) (va_Ql (fun v (_ : Unit) => v = r.1) (fun _ => ul_post (dC, dI) [(cI, .int), (cZ, .boolean), (cO, .object RX4)] (va_A ([ul_wU cZ cO aU (aL 0) (aD 0) (aK 0) (aN 0) (aT 0) (aJ 0) (aE 0) (aF 0) aP U d, ul_wL cI aL L, ul_wK cI aD D, ul_wK cI aK K, ul_wS cI aN (aK 0) N, ul_wS cI aT (aK 0) T, ul_wJ cO aJ aB J, ul_wE cI aE E, ul_wG cI aF (aK 0) (aN 0) (aT 0) F, ul_wB cI aP (aK 0) 2 P, ul_wB cI aB (aK 0) 14 B] : List va_W).flatten sz) ([ul_wU cZ cO aU (aL 0) (aD 0) (aK 0) (aN 0) (aT 0) (aJ 0) (aE 0) (aF 0) aP U r.2, ul_wL cI aL L, ul_wK cI aD D, ul_wK cI aK K, ul_wS cI aN (aK 0) N, ul_wS cI aT (aK 0) T, ul_wJ cO aJ aB J, ul_wE cI aE E, ul_wG cI aF (aK 0) (aN 0) (aT 0) F, ul_wB cI aP (aK 0) 2 P, ul_wB cI aB (aK 0) 14 B] : List va_W).flatten) (va_A ([ul_wU cZ cO aU (aL 0) (aD 0) (aK 0) (aN 0) (aT 0) (aJ 0) (aE 0) (aF 0) aP U d, ul_wL cI aL L, ul_wK cI aD D, ul_wK cI aK K, ul_wS cI aN (aK 0) N, ul_wS cI aT (aK 0) T, ul_wJ cO aJ aB J, ul_wE cI aE E, ul_wG cI aF (aK 0) (aN 0) (aT 0) F, ul_wB cI aP (aK 0) 2 P, ul_wB cI aB (aK 0) 14 B] : List va_W).flatten sz)) 0 0 (va_A ([ul_wU cZ cO aU (aL 0) (aD 0) (aK 0) (aN 0) (aT 0) (aJ 0) (aE 0) (aF 0) aP U d, ul_wL cI aL L, ul_wK cI aD D, ul_wK cI aK K, ul_wS cI aN (aK 0) N, ul_wS cI aT (aK 0) T, ul_wJ cO aJ aB J, ul_wE cI aE E, ul_wG cI aF (aK 0) (aN 0) (aT 0) F, ul_wB cI aP (aK 0) 2 P, ul_wB cI aB (aK 0) 14 B] : List va_W).flatten sz) := by
  refine Met.ofW (cc := cX6_seed) (maxL := 5) (ret := (some .long)) (by decide) rfl ?_
  intro p e s m args below meth c s₁ BB hml hv
  obtain ⟨rfl, hsz, hP, hK, hD0, hN⟩ := hv
  have hx := BB.exec
  have hb := BB.bytes
  have hr := BB.returns
  have hts := atoms_spec (ws := wsX6_seed) BB.pre
  have hown : s.vm.findClass RX6 = some m.cls := findClass_of_methodNamed BB.named
  have hlocks := BB.notSynchronized
  have hin6 : ∀ w ∈ u_ws RX6 TX6 11, w ∈ wsX6_seed := by decide +kernel
  subst hsz
  have hD := hD0.self (sz := s.heap.size)
  generalize hAe : va_A ([ul_wU cZ cO aU (aL 0) (aD 0) (aK 0) (aN 0) (aT 0) (aJ 0) (aE 0) (aF 0) aP U d, ul_wL cI aL L, ul_wK cI aD D, ul_wK cI aK K, ul_wS cI aN (aK 0) N, ul_wS cI aT (aK 0) T, ul_wJ cO aJ aB J, ul_wE cI aE E, ul_wG cI aF (aK 0) (aN 0) (aT 0) F, ul_wB cI aP (aK 0) 2 P, ul_wB cI aB (aK 0) 14 B] : List va_W).flatten s.heap.size = A at hD hN ⊢
  have hA : ∀ q : Nat, s.heap.size ≤ q → A q := fun q h => by rw [← hAe]; exact Or.inr h
  have hS : va_S A s.heap s.heap [] := va_S.rf
  have hl := lv_entry ([.ref (aU 0), .long p1]) (n := 5) (Nat.le_of_ble_eq_true rfl)
  rw [lg_entry_eq]
  generalize (lg_sl ([.ref (aU 0), .long p1]) ++ List.replicate (5 - (lg_sl ([.ref (aU 0), .long p1])).length) Slot.unset).toArray = ls at hl ⊢
  have hl : lv_has ls 5 [(0, .ref (aU 0)), (1, .long p1)] := hl
  obtain ⟨K0, hK0, h⟩ := ul_top h
  unfold f_X6_seed at h
  refine ul_gen (fun G gi ge => ?_)
  obtain ⟨H, eH⟩ : ∃ z, z = s.heap := ⟨_, rfl⟩
  obtain ⟨locs, eL⟩ : ∃ z : List Loc, z = [] := ⟨_, rfl⟩
  have hP : va_P (dC, dI) classes ([ul_wU cZ cO aU (aL 0) (aD 0) (aK 0) (aN 0) (aT 0) (aJ 0) (aE 0) (aF 0) aP U d, ul_wL cI aL L, ul_wK cI aD D, ul_wK cI aK K, ul_wS cI aN (aK 0) N, ul_wS cI aT (aK 0) T, ul_wJ cO aJ aB J, ul_wE cI aE E, ul_wG cI aF (aK 0) (aN 0) (aT 0) F, ul_wB cI aP (aK 0) 2 P, ul_wB cI aB (aK 0) 14 B] : List va_W).flatten H := by rw [eH]; exact hP
  have hS : va_S A s.heap H locs := by rw [eH, eL]; exact hS
  rw [← eL]
  refine (show G H locs (F0 m 0 ls []) → G s.heap locs (F0 m 0 ls []) from fun z => by rw [← eH]; exact z) ?_
  refine gi _ _ _ ?_
  refine lv_aload_n hx hb dX6_seed_0 rfl (lv_at hl 0 rfl) ?_
  refine va_get (D := (dC, dI)) (ci := 6) (v := .long d) (C := RX6) (T := TX6) (N := 11) hx hb hts hin6 hown hK hP 0 rfl rfl 10 (by decide) (hts (.fieldLink RX6 229 "UnderLadders" "theSeed" "J") (by decide +kernel)) (fun _ h9 => h9) rfl dX6_seed_1 ?_
  refine lv_lstore_n (lv' := [(3, .long d), (0, .ref (aU 0)), (1, .long p1)]) hx hb dX6_seed_4 rfl hl (by decide) rfl (fun ls hl => ?_)
  refine lv_aload_n hx hb dX6_seed_5 rfl (lv_at hl 1 rfl) ?_
  refine lv_lload_n hx hb dX6_seed_6 rfl (lv_at hl 2 rfl) ?_
  refine va_put (D := (dC, dI)) (ci := 6) (v := .long p1) (ty := .long) (C := RX6) (T := TX6) (N := 11) hx hb hts hin6 tyX6 tyX6_ok nmX6 hown hK hP hD hS 0 rfl rfl 10 (by decide) (hts (.fieldLink RX6 229 "UnderLadders" "theSeed" "J") (by decide +kernel)) (fun _ h9 => h9) rfl (by decide +kernel) rfl rfl (Nat.le_of_ble_eq_true rfl) dX6_seed_7 (fun H locs hP hD hS => ?_)
  obtain ⟨d1, ed1⟩ : ∃ z : Int64, z = p1 := ⟨_, rfl⟩
  have h := ul_bd_h h d1 ed1
  have hP : va_P (dC, dI) classes ([ul_wU cZ cO aU (aL 0) (aD 0) (aK 0) (aN 0) (aT 0) (aJ 0) (aE 0) (aF 0) aP U d1, ul_wL cI aL L, ul_wK cI aD D, ul_wK cI aK K, ul_wS cI aN (aK 0) N, ul_wS cI aT (aK 0) T, ul_wJ cO aJ aB J, ul_wE cI aE E, ul_wG cI aF (aK 0) (aN 0) (aT 0) F, ul_wB cI aP (aK 0) 2 P, ul_wB cI aB (aK 0) 14 B] : List va_W).flatten H := by rw [ed1]; exact hP
  have hD : va_D A ([ul_wU cZ cO aU (aL 0) (aD 0) (aK 0) (aN 0) (aT 0) (aJ 0) (aE 0) (aF 0) aP U d1, ul_wL cI aL L, ul_wK cI aD D, ul_wK cI aK K, ul_wS cI aN (aK 0) N, ul_wS cI aT (aK 0) T, ul_wJ cO aJ aB J, ul_wE cI aE E, ul_wG cI aF (aK 0) (aN 0) (aT 0) F, ul_wB cI aP (aK 0) 2 P, ul_wB cI aB (aK 0) 14 B] : List va_W).flatten := by rw [ed1]; exact hD
  refine lv_lload_n hx hb dX6_seed_10 rfl (lv_at hl 0 rfl) ?_
  have hr9 := hK0 (d, d1) h
  subst hr9
  exact W.lret (v := d) hx hb hr (fun t ht hW => ⟨⟨d, (), rfl, rfl, by rw [ht]; exact hP, va_K.moved hW.alike hK, hD⟩, hS.F ht⟩) hS.2.2 dX6_seed_11
def f_X6_years_j85 (K : ul_S) (N : ul_S) (p1 : Int32) (x2 : Int32) (x3 : Int32) (d__85 : Int64) (T__85 : ul_S) : Option (Int32 × Int64 × ul_S) :=
  some (x2, d__85, T__85)
def f_X6_years_L29 (K : ul_S) (N : ul_S) (p1 : Int32) (q29 : (Int32 × Int32 × Int64 × ul_S)) : Option ((Int32 × Int32 × Int64 × ul_S) ⊕ (Int32 × Int32 × Int64 × ul_S)) :=
  if p1 ≤ q29.2.1 then (some (.inl (q29.1, q29.2.1, q29.2.2.1, q29.2.2.2))) else (ul_bd ((q29.2.2.1 * (6364136223846793005 : Int64)) + (1442695040888963407 : Int64)) fun d5 => (f_X4_doDrawn q29.2.2.2 K ((((d5.toUInt64 >>> ((33 : Int32).toInt64.toUInt64 &&& Int64.toUInt64 63)).toInt64) - ((d5.toUInt64 >>> ((33 : Int32).toInt64.toUInt64 &&& Int64.toUInt64 63)).toInt64) / (30 : Int64) * (30 : Int64)).toInt32)).bind fun u6 => (f_X4_goldOfMen u6 K).bind fun u7 => ul_bd (q29.1 + u7) fun v8 => ul_bd (q29.2.1 + 1) fun v9 => some (.inr (v8, v9, d5, u6)))
def f_X6_years (d : Int64) (K : ul_S) (N : ul_S) (T : ul_S) (p1 : Int32) : Option (Int32 × Int64 × ul_S) :=
  if p1 < (1 : Int32) then (some ((-2 : Int32), d, T)) else (if p1 ≤ (30 : Int32) then ((f_X4_setTo T N).bind fun u3 => (ul_it ul_N (f_X6_years_L29 K N p1) ((0 : Int32), (0 : Int32), d, u3)).bind (fun e29 => f_X6_years_j85 K N p1 e29.1 e29.2.1 e29.2.2.1 e29.2.2.2)) else (some ((-2 : Int32), d, T)))
set_option maxHeartbeats 4000000 in
set_option maxRecDepth 100000 in
theorem c_X6_years (l : Launch) (dC : Nat → ClassId) (dI : Nat → Nat → Nat) (cI : ClassId) (cZ : ClassId) (cO : ClassId) (aU : Nat → Nat) (aL : Nat → Nat) (aD : Nat → Nat) (aK : Nat → Nat) (aN : Nat → Nat) (aT : Nat → Nat) (aJ : Nat → Nat) (aE : Nat → Nat) (aF : Nat → Nat) (aP : Nat → Nat → Nat) (aB : Nat → Nat → Nat) (sz : Nat) (U : ul_S) (d : Int64) (L : ul_S) (D : ul_S) (K : ul_S) (N : ul_S) (T : ul_S) (J : ul_S) (E : ul_S) (F : ul_S) (P : ul_F) (B : ul_F) (p1 : Int32) (r : (Int32 × Int64 × ul_S)) (h : f_X6_years d K N T p1 = some r) : Met l yX6_years wsX6_years ({ frames := 5, cells := 0, slots := 0, locals := 131 }) (va_Pc [.ref (aU 0), .int p1] (ul_pre (dC, dI) [(cI, .int), (cZ, .boolean), (cO, .object RX4)] ul_NX sz ([ul_wU cZ cO aU (aL 0) (aD 0) (aK 0) (aN 0) (aT 0) (aJ 0) (aE 0) (aF 0) aP U d, ul_wL cI aL L, ul_wK cI aD D, ul_wK cI aK K, ul_wS cI aN (aK 0) N, ul_wS cI aT (aK 0) T, ul_wJ cO aJ aB J, ul_wE cI aE E, ul_wG cI aF (aK 0) (aN 0) (aT 0) F, ul_wB cI aP (aK 0) 2 P, ul_wB cI aB (aK 0) 14 B] : List va_W).flatten)) (va_Qi (fun v (_ : Unit) => v = r.1) (fun _ => ul_post (dC, dI) [(cI, .int), (cZ, .boolean), (cO, .object RX4)] (va_A ([ul_wU cZ cO aU (aL 0) (aD 0) (aK 0) (aN 0) (aT 0) (aJ 0) (aE 0) (aF 0) aP U d, ul_wL cI aL L, ul_wK cI aD D, ul_wK cI aK K, ul_wS cI aN (aK 0) N, ul_wS cI aT (aK 0) T, ul_wJ cO aJ aB J, ul_wE cI aE E, ul_wG cI aF (aK 0) (aN 0) (aT 0) F, ul_wB cI aP (aK 0) 2 P, ul_wB cI aB (aK 0) 14 B] : List va_W).flatten sz) ([ul_wU cZ cO aU (aL 0) (aD 0) (aK 0) (aN 0) (aT 0) (aJ 0) (aE 0) (aF 0) aP U r.2.1, ul_wL cI aL L, ul_wK cI aD D, ul_wK cI aK K, ul_wS cI aN (aK 0) N, ul_wS cI aT (aK 0) r.2.2, ul_wJ cO aJ aB J, ul_wE cI aE E, ul_wG cI aF (aK 0) (aN 0) (aT 0) F, ul_wB cI aP (aK 0) 2 P, ul_wB cI aB (aK 0) 14 B] : List va_W).flatten) (va_A ([ul_wU cZ cO aU (aL 0) (aD 0) (aK 0) (aN 0) (aT 0) (aJ 0) (aE 0) (aF 0) aP U d, ul_wL cI aL L, ul_wK cI aD D, ul_wK cI aK K, ul_wS cI aN (aK 0) N, ul_wS cI aT (aK 0) T, ul_wJ cO aJ aB J, ul_wE cI aE E, ul_wG cI aF (aK 0) (aN 0) (aT 0) F, ul_wB cI aP (aK 0) 2 P, ul_wB cI aB (aK 0) 14 B] : List va_W).flatten sz)) 0 0 (va_A ([ul_wU cZ cO aU (aL 0) (aD 0) (aK 0) (aN 0) (aT 0) (aJ 0) (aE 0) (aF 0) aP U d, ul_wL cI aL L, ul_wK cI aD D, ul_wK cI aK K, ul_wS cI aN (aK 0) N, ul_wS cI aT (aK 0) T, ul_wJ cO aJ aB J, ul_wE cI aE E, ul_wG cI aF (aK 0) (aN 0) (aT 0) F, ul_wB cI aP (aK 0) 2 P, ul_wB cI aB (aK 0) 14 B] : List va_W).flatten sz) := by
  refine Met.ofW (cc := cX6_years) (maxL := 4) (ret := (some .int)) (by decide) rfl ?_
  intro p e s m args below meth c s₁ BB hml hv
  obtain ⟨rfl, hsz, hP, hK, hD0, hN⟩ := hv
  have hx := BB.exec
  have hb := BB.bytes
  have hr := BB.returns
  have hts := atoms_spec (ws := wsX6_years) BB.pre
  have hown : s.vm.findClass RX6 = some m.cls := findClass_of_methodNamed BB.named
  have hlocks := BB.notSynchronized
  have hin6 : ∀ w ∈ u_ws RX6 TX6 11, w ∈ wsX6_years := by decide +kernel
  subst hsz
  have hD := hD0.self (sz := s.heap.size)
  generalize hAe : va_A ([ul_wU cZ cO aU (aL 0) (aD 0) (aK 0) (aN 0) (aT 0) (aJ 0) (aE 0) (aF 0) aP U d, ul_wL cI aL L, ul_wK cI aD D, ul_wK cI aK K, ul_wS cI aN (aK 0) N, ul_wS cI aT (aK 0) T, ul_wJ cO aJ aB J, ul_wE cI aE E, ul_wG cI aF (aK 0) (aN 0) (aT 0) F, ul_wB cI aP (aK 0) 2 P, ul_wB cI aB (aK 0) 14 B] : List va_W).flatten s.heap.size = A at hD hN ⊢
  have hA : ∀ q : Nat, s.heap.size ≤ q → A q := fun q h => by rw [← hAe]; exact Or.inr h
  have hS : va_S A s.heap s.heap [] := va_S.rf
  have hl := lv_entry ([.ref (aU 0), .int p1]) (n := 4) (Nat.le_of_ble_eq_true rfl)
  rw [lg_entry_eq]
  generalize (lg_sl ([.ref (aU 0), .int p1]) ++ List.replicate (4 - (lg_sl ([.ref (aU 0), .int p1])).length) Slot.unset).toArray = ls at hl ⊢
  have hl : lv_has ls 4 [(0, .ref (aU 0)), (1, .int p1)] := hl
  obtain ⟨K0, hK0, h⟩ := ul_top h
  unfold f_X6_years at h
  refine ul_gen (fun G gi ge => ?_)
  obtain ⟨H, eH⟩ : ∃ z, z = s.heap := ⟨_, rfl⟩
  obtain ⟨locs, eL⟩ : ∃ z : List Loc, z = [] := ⟨_, rfl⟩
  have hP : va_P (dC, dI) classes ([ul_wU cZ cO aU (aL 0) (aD 0) (aK 0) (aN 0) (aT 0) (aJ 0) (aE 0) (aF 0) aP U d, ul_wL cI aL L, ul_wK cI aD D, ul_wK cI aK K, ul_wS cI aN (aK 0) N, ul_wS cI aT (aK 0) T, ul_wJ cO aJ aB J, ul_wE cI aE E, ul_wG cI aF (aK 0) (aN 0) (aT 0) F, ul_wB cI aP (aK 0) 2 P, ul_wB cI aB (aK 0) 14 B] : List va_W).flatten H := by rw [eH]; exact hP
  have hS : va_S A s.heap H locs := by rw [eH, eL]; exact hS
  rw [← eL]
  refine (show G H locs (F0 m 0 ls []) → G s.heap locs (F0 m 0 ls []) from fun z => by rw [← eH]; exact z) ?_
  have J85 : ∀ (x2 : Int32) (x3 : Int32) (d__85 : Int64) (T__85 : ul_S) (H : Heap) (locs : List Loc), ul_H (dC, dI) A s.heap ([ul_wU cZ cO aU (aL 0) (aD 0) (aK 0) (aN 0) (aT 0) (aJ 0) (aE 0) (aF 0) aP U d__85, ul_wL cI aL L, ul_wK cI aD D, ul_wK cI aK K, ul_wS cI aN (aK 0) N, ul_wS cI aT (aK 0) T__85, ul_wJ cO aJ aB J, ul_wE cI aE E, ul_wG cI aF (aK 0) (aN 0) (aT 0) F, ul_wB cI aP (aK 0) 2 P, ul_wB cI aB (aK 0) 14 B] : List va_W).flatten H locs → ∀ ls : Array Slot, lv_has ls 4 [(0, .ref (aU 0)), (1, .int p1), (2, .int x2), (3, .int x3)] → (f_X6_years_j85 K N p1 x2 x3 d__85 T__85).bind K0 = some r → G H locs (F0 m 85 ls []) := by
    intro x2 x3 d__85 T__85 H locs hw ls hl h
    obtain ⟨hP, hD, hS⟩ := hw
    unfold f_X6_years_j85 at h
    refine gi _ _ _ ?_
    refine lv_iload_n hx hb dX6_years_85 rfl (lv_at hl 2 rfl) ?_
    have hr9 := hK0 (x2, d__85, T__85) h
    subst hr9
    exact W.iret (v := x2) hx hb hr (fun t ht hW => ⟨⟨x2, (), rfl, rfl, by rw [ht]; exact hP, va_K.moved hW.alike hK, hD⟩, hS.F ht⟩) hS.2.2 dX6_years_86
  refine gi _ _ _ ?_
  refine lv_iload_n hx hb dX6_years_0 rfl (lv_at hl 1 rfl) ?_
  refine lv_iconst (v := 1) hx hb dX6_years_1 (by decide) ?_
  refine lv_icmp_lt (tgt := 11) hx hb dX6_years_2 (by decide) (fun hc1 => ?_) (fun hc1 => ?_)
  · have h := ul_if_t hc1 h
    refine lv_bipush (v := -2) hx hb dX6_years_11 (by decide) ?_
    have hr9 := hK0 ((-2 : Int32), d, T) h
    subst hr9
    exact W.iret (v := (-2 : Int32)) hx hb hr (fun t ht hW => ⟨⟨(-2 : Int32), (), rfl, rfl, by rw [ht]; exact hP, va_K.moved hW.alike hK, hD⟩, hS.F ht⟩) hS.2.2 dX6_years_13
  · have h := ul_if_f hc1 h
    refine lv_iload_n hx hb dX6_years_5 rfl (lv_at hl 1 rfl) ?_
    refine lv_bipush (v := 30) hx hb dX6_years_6 (by decide) ?_
    refine lv_icmp_le (tgt := 14) hx hb dX6_years_8 (by decide) (fun hc2 => ?_) (fun hc2 => ?_)
    · have h := ul_if_t hc2 h
      refine lv_aload_n hx hb dX6_years_14 rfl (lv_at hl 0 rfl) ?_
      refine va_get (D := (dC, dI)) (ci := 6) (v := .ref (aT 0)) (C := RX6) (T := TX6) (N := 11) hx hb hts hin6 hown hK hP 0 rfl rfl 4 (by decide) (hts (.fieldLink RX6 35 "UnderLadders" "trial" "LUnderLadders$Street;") (by decide +kernel)) (fun _ h9 => h9) rfl dX6_years_15 ?_
      refine lv_aload_n hx hb dX6_years_18 rfl (lv_at hl 0 rfl) ?_
      refine va_get (D := (dC, dI)) (ci := 6) (v := .ref (aN 0)) (C := RX6) (T := TX6) (N := 11) hx hb hts hin6 hown hK hP 0 rfl rfl 3 (by decide) (hts (.fieldLink RX6 31 "UnderLadders" "now" "LUnderLadders$Street;") (by decide +kernel)) (fun _ h9 => h9) rfl dX6_years_19 ?_
      obtain ⟨u3, hu3, h⟩ := ul_cl_h h
      refine ul_cPv (As := [.ref (aN 0)]) (rest := []) (wc := (ul_wS cI aT (aK 0) T ++ ul_wS cI aN (aK 0) N)) (wc' := (ul_wS cI aT (aK 0) u3 ++ ul_wS cI aN (aK 0) N)) (wr := ([ul_wU cZ cO aU (aL 0) (aD 0) (aK 0) (aN 0) (aT 0) (aJ 0) (aE 0) (aF 0) aP U d, ul_wL cI aL L, ul_wK cI aD D, ul_wK cI aK K, ul_wJ cO aJ aB J, ul_wE cI aE E, ul_wG cI aF (aK 0) (aN 0) (aT 0) F, ul_wB cI aP (aK 0) 2 P, ul_wB cI aB (aK 0) 14 B] : List va_W).flatten) hP hD hS hK hA [0] ul_NX_ok hN (c_X4_setTo l dC dI cI aT aN aK H.size T N u3 hu3) (ul_pmq (bs := [ul_wU cZ cO aU (aL 0) (aD 0) (aK 0) (aN 0) (aT 0) (aJ 0) (aE 0) (aF 0) aP U d, ul_wL cI aL L, ul_wK cI aD D, ul_wK cI aK K, ul_wS cI aN (aK 0) N, ul_wS cI aT (aK 0) T, ul_wJ cO aJ aB J, ul_wE cI aE E, ul_wG cI aF (aK 0) (aN 0) (aT 0) F, ul_wB cI aP (aK 0) 2 P, ul_wB cI aB (aK 0) 14 B]) [5, 4, 0, 1, 2, 3, 6, 7, 8, 9, 10] (by show List.Perm _ (List.range 11); decide) (by simp only [List.map_cons, List.map_nil, List.getD_cons_zero, List.getD_cons_succ, List.flatten_cons, List.flatten_nil, List.append_nil, List.nil_append, List.append_assoc])) rfl ⟨hx, hb, hml, hown, hts⟩ (cwV 1 hts gX6_years_X4_setTo rfl rfl rfl (by decide +kernel) ⟨Nat.le_of_ble_eq_true rfl, Nat.le_of_ble_eq_true rfl⟩) (va_recv hK hP (ci := 4) (q0 := 28) rfl rfl) rfl hl.1 rfl (Nat.le_of_ble_eq_true rfl) dX6_years_22 (fun H locs hw => ?_)
      have hw := hw.pm (ul_pmq (bs := [ul_wU cZ cO aU (aL 0) (aD 0) (aK 0) (aN 0) (aT 0) (aJ 0) (aE 0) (aF 0) aP U d, ul_wL cI aL L, ul_wK cI aD D, ul_wK cI aK K, ul_wS cI aN (aK 0) N, ul_wS cI aT (aK 0) u3, ul_wJ cO aJ aB J, ul_wE cI aE E, ul_wG cI aF (aK 0) (aN 0) (aT 0) F, ul_wB cI aP (aK 0) 2 P, ul_wB cI aB (aK 0) 14 B]) [0, 1, 2, 3, 6, 7, 8, 9, 10, 5, 4] (by show List.Perm _ (List.range 11); decide) (by simp only [List.map_cons, List.map_nil, List.getD_cons_zero, List.getD_cons_succ, List.flatten_cons, List.flatten_nil, List.append_nil, List.nil_append, List.append_assoc])).symm
      obtain ⟨hP, hD, hS⟩ := hw
      have hP : va_P (dC, dI) classes ([ul_wU cZ cO aU (aL 0) (aD 0) (aK 0) (aN 0) (aT 0) (aJ 0) (aE 0) (aF 0) aP U d, ul_wL cI aL L, ul_wK cI aD D, ul_wK cI aK K, ul_wS cI aN (aK 0) N, ul_wS cI aT (aK 0) u3, ul_wJ cO aJ aB J, ul_wE cI aE E, ul_wG cI aF (aK 0) (aN 0) (aT 0) F, ul_wB cI aP (aK 0) 2 P, ul_wB cI aB (aK 0) 14 B] : List va_W).flatten H := hP
      have hD : va_D A ([ul_wU cZ cO aU (aL 0) (aD 0) (aK 0) (aN 0) (aT 0) (aJ 0) (aE 0) (aF 0) aP U d, ul_wL cI aL L, ul_wK cI aD D, ul_wK cI aK K, ul_wS cI aN (aK 0) N, ul_wS cI aT (aK 0) u3, ul_wJ cO aJ aB J, ul_wE cI aE E, ul_wG cI aF (aK 0) (aN 0) (aT 0) F, ul_wB cI aP (aK 0) 2 P, ul_wB cI aB (aK 0) 14 B] : List va_W).flatten := hD
      refine lv_iconst (v := 0) hx hb dX6_years_25 (by decide) ?_
      refine lv_istore_n (lv' := [(2, .int (0 : Int32)), (0, .ref (aU 0)), (1, .int p1)]) hx hb dX6_years_26 rfl hl (by decide) rfl (fun ls hl => ?_)
      refine lv_iconst (v := 0) hx hb dX6_years_27 (by decide) ?_
      refine lv_istore_n (lv' := [(3, .int (0 : Int32)), (2, .int (0 : Int32)), (0, .ref (aU 0)), (1, .int p1)]) hx hb dX6_years_28 rfl hl (by decide) rfl (fun ls hl => ?_)
      refine ge _ _ _ (ul_loop (P := fun q29 => ∀ (H : Heap) (locs : List Loc), ul_H (dC, dI) A s.heap ([ul_wU cZ cO aU (aL 0) (aD 0) (aK 0) (aN 0) (aT 0) (aJ 0) (aE 0) (aF 0) aP U q29.2.2.1, ul_wL cI aL L, ul_wK cI aD D, ul_wK cI aK K, ul_wS cI aN (aK 0) N, ul_wS cI aT (aK 0) q29.2.2.2, ul_wJ cO aJ aB J, ul_wE cI aE E, ul_wG cI aF (aK 0) (aN 0) (aT 0) F, ul_wB cI aP (aK 0) 2 P, ul_wB cI aB (aK 0) 14 B] : List va_W).flatten H locs → ∀ ls : Array Slot, lv_has ls 4 [(0, .ref (aU 0)), (1, .int p1), (2, .int q29.1), (3, .int q29.2.1)] → G H locs (F0 m 29 ls [])) ?_ _ _ (ul_it_h h) H locs ⟨hP, hD, hS⟩ ls (lv_sub hl [2, 3, 1, 0] rfl))
      intro K29 hx29
      intro q29 ih29 h H locs hw ls hl
      obtain ⟨hP, hD, hS⟩ := hw
      unfold f_X6_years_L29 at h
      refine gi _ _ _ ?_
      refine lv_iload_n hx hb dX6_years_29 rfl (lv_at hl 3 rfl) ?_
      refine lv_iload_n hx hb dX6_years_30 rfl (lv_at hl 1 rfl) ?_
      refine lv_icmp_ge (tgt := 85) hx hb dX6_years_31 (by decide) (fun hc10 => ?_) (fun hc10 => ?_)
      · have h := ul_if_t hc10 h
        exact ge _ _ _ (J85 q29.1 q29.2.1 q29.2.2.1 q29.2.2.2 H locs ⟨hP, hD, hS⟩ ls (lv_sub hl [0, 1, 2, 3] rfl) (hx29 (q29.1, q29.2.1, q29.2.2.1, q29.2.2.2) h))
      · have h := ul_if_f hc10 h
        refine lv_aload_n hx hb dX6_years_34 rfl (lv_at hl 0 rfl) ?_
        refine lv_aload_n hx hb dX6_years_35 rfl (lv_at hl 0 rfl) ?_
        refine va_get (D := (dC, dI)) (ci := 6) (v := .long q29.2.2.1) (C := RX6) (T := TX6) (N := 11) hx hb hts hin6 hown hK hP 0 rfl rfl 10 (by decide) (hts (.fieldLink RX6 229 "UnderLadders" "theSeed" "J") (by decide +kernel)) (fun _ h9 => h9) rfl dX6_years_36 ?_
        refine lv_ldc2 (v := 6364136223846793005) hx hb hown (hts (.constantLong RX6 236 (6364136223846793005)) (by decide +kernel)) dX6_years_39 ?_
        refine lv_lmul hx hb dX6_years_42 ?_
        refine lv_ldc2 (v := 1442695040888963407) hx hb hown (hts (.constantLong RX6 238 (1442695040888963407)) (by decide +kernel)) dX6_years_43 ?_
        refine lv_ladd hx hb dX6_years_46 ?_
        refine va_put (D := (dC, dI)) (ci := 6) (v := .long ((q29.2.2.1 * (6364136223846793005 : Int64)) + (1442695040888963407 : Int64))) (ty := .long) (C := RX6) (T := TX6) (N := 11) hx hb hts hin6 tyX6 tyX6_ok nmX6 hown hK hP hD hS 0 rfl rfl 10 (by decide) (hts (.fieldLink RX6 229 "UnderLadders" "theSeed" "J") (by decide +kernel)) (fun _ h9 => h9) rfl (by decide +kernel) rfl rfl (Nat.le_of_ble_eq_true rfl) dX6_years_47 (fun H locs hP hD hS => ?_)
        obtain ⟨d11, ed11⟩ : ∃ z : Int64, z = ((q29.2.2.1 * (6364136223846793005 : Int64)) + (1442695040888963407 : Int64)) := ⟨_, rfl⟩
        have h := ul_bd_h h d11 ed11
        have hP : va_P (dC, dI) classes ([ul_wU cZ cO aU (aL 0) (aD 0) (aK 0) (aN 0) (aT 0) (aJ 0) (aE 0) (aF 0) aP U d11, ul_wL cI aL L, ul_wK cI aD D, ul_wK cI aK K, ul_wS cI aN (aK 0) N, ul_wS cI aT (aK 0) q29.2.2.2, ul_wJ cO aJ aB J, ul_wE cI aE E, ul_wG cI aF (aK 0) (aN 0) (aT 0) F, ul_wB cI aP (aK 0) 2 P, ul_wB cI aB (aK 0) 14 B] : List va_W).flatten H := by rw [ed11]; exact hP
        have hD : va_D A ([ul_wU cZ cO aU (aL 0) (aD 0) (aK 0) (aN 0) (aT 0) (aJ 0) (aE 0) (aF 0) aP U d11, ul_wL cI aL L, ul_wK cI aD D, ul_wK cI aK K, ul_wS cI aN (aK 0) N, ul_wS cI aT (aK 0) q29.2.2.2, ul_wJ cO aJ aB J, ul_wE cI aE E, ul_wG cI aF (aK 0) (aN 0) (aT 0) F, ul_wB cI aP (aK 0) 2 P, ul_wB cI aB (aK 0) 14 B] : List va_W).flatten := by rw [ed11]; exact hD
        refine lv_aload_n hx hb dX6_years_50 rfl (lv_at hl 0 rfl) ?_
        refine va_get (D := (dC, dI)) (ci := 6) (v := .ref (aT 0)) (C := RX6) (T := TX6) (N := 11) hx hb hts hin6 hown hK hP 0 rfl rfl 4 (by decide) (hts (.fieldLink RX6 35 "UnderLadders" "trial" "LUnderLadders$Street;") (by decide +kernel)) (fun _ h9 => h9) rfl dX6_years_51 ?_
        refine lv_aload_n hx hb dX6_years_54 rfl (lv_at hl 0 rfl) ?_
        refine va_get (D := (dC, dI)) (ci := 6) (v := .long d11) (C := RX6) (T := TX6) (N := 11) hx hb hts hin6 hown hK hP 0 rfl rfl 10 (by decide) (hts (.fieldLink RX6 229 "UnderLadders" "theSeed" "J") (by decide +kernel)) (fun _ h9 => h9) rfl dX6_years_55 ?_
        refine lv_bipush (v := 33) hx hb dX6_years_58 (by decide) ?_
        refine lv_lushr hx hb dX6_years_60 rfl ?_
        refine lv_ldc2 (v := 30) hx hb hown (hts (.constantLong RX6 240 (30)) (by decide +kernel)) dX6_years_61 ?_
        refine lv_lrem hx hb dX6_years_64 (by decide) ?_
        refine lv_l2i hx hb dX6_years_65 rfl ?_
        obtain ⟨u12, hu12, h⟩ := ul_cl_h h
        refine ul_cPv (As := [.int ((((d11.toUInt64 >>> ((33 : Int32).toInt64.toUInt64 &&& Int64.toUInt64 63)).toInt64) - ((d11.toUInt64 >>> ((33 : Int32).toInt64.toUInt64 &&& Int64.toUInt64 63)).toInt64) / (30 : Int64) * (30 : Int64)).toInt32)]) (rest := []) (wc := (ul_wS cI aT (aK 0) q29.2.2.2 ++ ul_wK cI aK K)) (wc' := (ul_wS cI aT (aK 0) u12 ++ ul_wK cI aK K)) (wr := ([ul_wU cZ cO aU (aL 0) (aD 0) (aK 0) (aN 0) (aT 0) (aJ 0) (aE 0) (aF 0) aP U d11, ul_wL cI aL L, ul_wK cI aD D, ul_wS cI aN (aK 0) N, ul_wJ cO aJ aB J, ul_wE cI aE E, ul_wG cI aF (aK 0) (aN 0) (aT 0) F, ul_wB cI aP (aK 0) 2 P, ul_wB cI aB (aK 0) 14 B] : List va_W).flatten) hP hD hS hK hA [0] ul_NX_ok hN (c_X4_doDrawn l dC dI cI aT aK H.size q29.2.2.2 K ((((d11.toUInt64 >>> ((33 : Int32).toInt64.toUInt64 &&& Int64.toUInt64 63)).toInt64) - ((d11.toUInt64 >>> ((33 : Int32).toInt64.toUInt64 &&& Int64.toUInt64 63)).toInt64) / (30 : Int64) * (30 : Int64)).toInt32) u12 hu12) (ul_pmq (bs := [ul_wU cZ cO aU (aL 0) (aD 0) (aK 0) (aN 0) (aT 0) (aJ 0) (aE 0) (aF 0) aP U d11, ul_wL cI aL L, ul_wK cI aD D, ul_wK cI aK K, ul_wS cI aN (aK 0) N, ul_wS cI aT (aK 0) q29.2.2.2, ul_wJ cO aJ aB J, ul_wE cI aE E, ul_wG cI aF (aK 0) (aN 0) (aT 0) F, ul_wB cI aP (aK 0) 2 P, ul_wB cI aB (aK 0) 14 B]) [5, 3, 0, 1, 2, 4, 6, 7, 8, 9, 10] (by show List.Perm _ (List.range 11); decide) (by simp only [List.map_cons, List.map_nil, List.getD_cons_zero, List.getD_cons_succ, List.flatten_cons, List.flatten_nil, List.append_nil, List.nil_append, List.append_assoc])) rfl ⟨hx, hb, hml, hown, hts⟩ (cwV 1 hts gX6_years_X4_doDrawn rfl rfl rfl (by decide +kernel) ⟨Nat.le_of_ble_eq_true rfl, Nat.le_of_ble_eq_true rfl⟩) (va_recv hK hP (ci := 4) (q0 := 28) rfl rfl) rfl hl.1 rfl (Nat.le_of_ble_eq_true rfl) dX6_years_66 (fun H locs hw => ?_)
        have hw := hw.pm (ul_pmq (bs := [ul_wU cZ cO aU (aL 0) (aD 0) (aK 0) (aN 0) (aT 0) (aJ 0) (aE 0) (aF 0) aP U d11, ul_wL cI aL L, ul_wK cI aD D, ul_wK cI aK K, ul_wS cI aN (aK 0) N, ul_wS cI aT (aK 0) u12, ul_wJ cO aJ aB J, ul_wE cI aE E, ul_wG cI aF (aK 0) (aN 0) (aT 0) F, ul_wB cI aP (aK 0) 2 P, ul_wB cI aB (aK 0) 14 B]) [0, 1, 2, 4, 6, 7, 8, 9, 10, 5, 3] (by show List.Perm _ (List.range 11); decide) (by simp only [List.map_cons, List.map_nil, List.getD_cons_zero, List.getD_cons_succ, List.flatten_cons, List.flatten_nil, List.append_nil, List.nil_append, List.append_assoc])).symm
        obtain ⟨hP, hD, hS⟩ := hw
        have hP : va_P (dC, dI) classes ([ul_wU cZ cO aU (aL 0) (aD 0) (aK 0) (aN 0) (aT 0) (aJ 0) (aE 0) (aF 0) aP U d11, ul_wL cI aL L, ul_wK cI aD D, ul_wK cI aK K, ul_wS cI aN (aK 0) N, ul_wS cI aT (aK 0) u12, ul_wJ cO aJ aB J, ul_wE cI aE E, ul_wG cI aF (aK 0) (aN 0) (aT 0) F, ul_wB cI aP (aK 0) 2 P, ul_wB cI aB (aK 0) 14 B] : List va_W).flatten H := hP
        have hD : va_D A ([ul_wU cZ cO aU (aL 0) (aD 0) (aK 0) (aN 0) (aT 0) (aJ 0) (aE 0) (aF 0) aP U d11, ul_wL cI aL L, ul_wK cI aD D, ul_wK cI aK K, ul_wS cI aN (aK 0) N, ul_wS cI aT (aK 0) u12, ul_wJ cO aJ aB J, ul_wE cI aE E, ul_wG cI aF (aK 0) (aN 0) (aT 0) F, ul_wB cI aP (aK 0) 2 P, ul_wB cI aB (aK 0) 14 B] : List va_W).flatten := hD
        refine lv_iload_n hx hb dX6_years_69 rfl (lv_at hl 2 rfl) ?_
        refine lv_aload_n hx hb dX6_years_70 rfl (lv_at hl 0 rfl) ?_
        refine va_get (D := (dC, dI)) (ci := 6) (v := .ref (aT 0)) (C := RX6) (T := TX6) (N := 11) hx hb hts hin6 hown hK hP 0 rfl rfl 4 (by decide) (hts (.fieldLink RX6 35 "UnderLadders" "trial" "LUnderLadders$Street;") (by decide +kernel)) (fun _ h9 => h9) rfl dX6_years_71 ?_
        obtain ⟨u13, hu13, h⟩ := ul_cl_h h
        refine ul_cPi (As := []) (rest := [.int q29.1]) (wc := (ul_wS cI aT (aK 0) u12 ++ ul_wK cI aK K)) (wc' := (ul_wS cI aT (aK 0) u12 ++ ul_wK cI aK K)) (wr := ([ul_wU cZ cO aU (aL 0) (aD 0) (aK 0) (aN 0) (aT 0) (aJ 0) (aE 0) (aF 0) aP U d11, ul_wL cI aL L, ul_wK cI aD D, ul_wS cI aN (aK 0) N, ul_wJ cO aJ aB J, ul_wE cI aE E, ul_wG cI aF (aK 0) (aN 0) (aT 0) F, ul_wB cI aP (aK 0) 2 P, ul_wB cI aB (aK 0) 14 B] : List va_W).flatten) hP hD hS hK hA [0] ul_NX_ok hN (c_X4_goldOfMen l dC dI cI aT aK H.size u12 K u13 hu13) (ul_pmq (bs := [ul_wU cZ cO aU (aL 0) (aD 0) (aK 0) (aN 0) (aT 0) (aJ 0) (aE 0) (aF 0) aP U d11, ul_wL cI aL L, ul_wK cI aD D, ul_wK cI aK K, ul_wS cI aN (aK 0) N, ul_wS cI aT (aK 0) u12, ul_wJ cO aJ aB J, ul_wE cI aE E, ul_wG cI aF (aK 0) (aN 0) (aT 0) F, ul_wB cI aP (aK 0) 2 P, ul_wB cI aB (aK 0) 14 B]) [5, 3, 0, 1, 2, 4, 6, 7, 8, 9, 10] (by show List.Perm _ (List.range 11); decide) (by simp only [List.map_cons, List.map_nil, List.getD_cons_zero, List.getD_cons_succ, List.flatten_cons, List.flatten_nil, List.append_nil, List.nil_append, List.append_assoc])) rfl ⟨hx, hb, hml, hown, hts⟩ (cwV 0 hts gX6_years_X4_goldOfMen rfl rfl rfl (by decide +kernel) ⟨Nat.le_of_ble_eq_true rfl, Nat.le_of_ble_eq_true rfl⟩) (va_recv hK hP (ci := 4) (q0 := 28) rfl rfl) rfl hl.1 rfl (Nat.le_of_ble_eq_true rfl) dX6_years_74 (fun H locs hw => ?_)
        have hw := hw.pm (ul_pmq (bs := [ul_wU cZ cO aU (aL 0) (aD 0) (aK 0) (aN 0) (aT 0) (aJ 0) (aE 0) (aF 0) aP U d11, ul_wL cI aL L, ul_wK cI aD D, ul_wK cI aK K, ul_wS cI aN (aK 0) N, ul_wS cI aT (aK 0) u12, ul_wJ cO aJ aB J, ul_wE cI aE E, ul_wG cI aF (aK 0) (aN 0) (aT 0) F, ul_wB cI aP (aK 0) 2 P, ul_wB cI aB (aK 0) 14 B]) [0, 1, 2, 4, 6, 7, 8, 9, 10, 5, 3] (by show List.Perm _ (List.range 11); decide) (by simp only [List.map_cons, List.map_nil, List.getD_cons_zero, List.getD_cons_succ, List.flatten_cons, List.flatten_nil, List.append_nil, List.nil_append, List.append_assoc])).symm
        obtain ⟨hP, hD, hS⟩ := hw
        have hP : va_P (dC, dI) classes ([ul_wU cZ cO aU (aL 0) (aD 0) (aK 0) (aN 0) (aT 0) (aJ 0) (aE 0) (aF 0) aP U d11, ul_wL cI aL L, ul_wK cI aD D, ul_wK cI aK K, ul_wS cI aN (aK 0) N, ul_wS cI aT (aK 0) u12, ul_wJ cO aJ aB J, ul_wE cI aE E, ul_wG cI aF (aK 0) (aN 0) (aT 0) F, ul_wB cI aP (aK 0) 2 P, ul_wB cI aB (aK 0) 14 B] : List va_W).flatten H := hP
        have hD : va_D A ([ul_wU cZ cO aU (aL 0) (aD 0) (aK 0) (aN 0) (aT 0) (aJ 0) (aE 0) (aF 0) aP U d11, ul_wL cI aL L, ul_wK cI aD D, ul_wK cI aK K, ul_wS cI aN (aK 0) N, ul_wS cI aT (aK 0) u12, ul_wJ cO aJ aB J, ul_wE cI aE E, ul_wG cI aF (aK 0) (aN 0) (aT 0) F, ul_wB cI aP (aK 0) 2 P, ul_wB cI aB (aK 0) 14 B] : List va_W).flatten := hD
        refine lv_iadd hx hb dX6_years_77 ?_
        refine lv_topi (fun v14 ev14 => ?_)
        have h := ul_bd_h h v14 ev14
        refine lv_istore_n (lv' := [(2, .int v14), (0, .ref (aU 0)), (1, .int p1), (3, .int q29.2.1)]) hx hb dX6_years_78 rfl hl (by decide) rfl (fun ls hl => ?_)
        obtain ⟨v15, ev15⟩ : ∃ z : Int32, z = q29.2.1 + 1 := ⟨_, rfl⟩
        have h := ul_bd_h h v15 ev15
        refine lv_iinc (v := v15) (lv' := [(3, .int v15), (2, .int v14), (0, .ref (aU 0)), (1, .int p1)]) hx hb dX6_years_79 hl (k := 3) rfl (by rw [ev15]; rfl) (by decide) rfl (fun ls hl => ?_)
        refine lv_goto (tgt := 29) hx hb dX6_years_82 (by decide) ?_
        exact ge _ _ _ (ih29 (v14, v15, d11, u12) h H locs ⟨hP, hD, hS⟩ ls (lv_sub hl [2, 3, 1, 0] rfl))
    · have h := ul_if_f hc2 h
      refine lv_bipush (v := -2) hx hb dX6_years_11 (by decide) ?_
      have hr9 := hK0 ((-2 : Int32), d, T) h
      subst hr9
      exact W.iret (v := (-2 : Int32)) hx hb hr (fun t ht hW => ⟨⟨(-2 : Int32), (), rfl, rfl, by rw [ht]; exact hP, va_K.moved hW.alike hK, hD⟩, hS.F ht⟩) hS.2.2 dX6_years_13
def f_X6_keep (U : ul_S) (N : ul_S) (P : ul_F) (p1 : Int32) : Option (Int32 × ul_S × ul_F) :=
  (f_X6_isSlot p1).bind fun u1 => if u1 = 0 then (some ((-1 : Int32), U, P)) else (ul_ck 2 p1 fun j3 => (f_X4_setTo (P j3) N).bind fun u5 => ul_bd (va_up P j3 u5) fun P6 => ul_st U 2 2 p1 (vp_nar .boolean (1 : Int32)) fun U7 => some ((N 0 0), U7, P6))
set_option maxHeartbeats 4000000 in
set_option maxRecDepth 100000 in
theorem c_X6_keep (l : Launch) (dC : Nat → ClassId) (dI : Nat → Nat → Nat) (cI : ClassId) (cZ : ClassId) (cO : ClassId) (aU : Nat → Nat) (aL : Nat → Nat) (aD : Nat → Nat) (aK : Nat → Nat) (aN : Nat → Nat) (aT : Nat → Nat) (aJ : Nat → Nat) (aE : Nat → Nat) (aF : Nat → Nat) (aP : Nat → Nat → Nat) (aB : Nat → Nat → Nat) (sz : Nat) (U : ul_S) (d : Int64) (L : ul_S) (D : ul_S) (K : ul_S) (N : ul_S) (T : ul_S) (J : ul_S) (E : ul_S) (F : ul_S) (P : ul_F) (B : ul_F) (p1 : Int32) (r : (Int32 × ul_S × ul_F)) (h : f_X6_keep U N P p1 = some r) : Met l yX6_keep wsX6_keep ({ frames := 2, cells := 0, slots := 0, locals := 61 }) (va_Pc [.ref (aU 0), .int p1] (ul_pre (dC, dI) [(cI, .int), (cZ, .boolean), (cO, .object RX4)] ul_NX sz ([ul_wU cZ cO aU (aL 0) (aD 0) (aK 0) (aN 0) (aT 0) (aJ 0) (aE 0) (aF 0) aP U d, ul_wL cI aL L, ul_wK cI aD D, ul_wK cI aK K, ul_wS cI aN (aK 0) N, ul_wS cI aT (aK 0) T, ul_wJ cO aJ aB J, ul_wE cI aE E, ul_wG cI aF (aK 0) (aN 0) (aT 0) F, ul_wB cI aP (aK 0) 2 P, ul_wB cI aB (aK 0) 14 B] : List va_W).flatten)) (va_Qi (fun v (_ : Unit) => v = r.1) (fun _ => ul_post (dC, dI) [(cI, .int), (cZ, .boolean), (cO, .object RX4)] (va_A ([ul_wU cZ cO aU (aL 0) (aD 0) (aK 0) (aN 0) (aT 0) (aJ 0) (aE 0) (aF 0) aP U d, ul_wL cI aL L, ul_wK cI aD D, ul_wK cI aK K, ul_wS cI aN (aK 0) N, ul_wS cI aT (aK 0) T, ul_wJ cO aJ aB J, ul_wE cI aE E, ul_wG cI aF (aK 0) (aN 0) (aT 0) F, ul_wB cI aP (aK 0) 2 P, ul_wB cI aB (aK 0) 14 B] : List va_W).flatten sz) ([ul_wU cZ cO aU (aL 0) (aD 0) (aK 0) (aN 0) (aT 0) (aJ 0) (aE 0) (aF 0) aP r.2.1 d, ul_wL cI aL L, ul_wK cI aD D, ul_wK cI aK K, ul_wS cI aN (aK 0) N, ul_wS cI aT (aK 0) T, ul_wJ cO aJ aB J, ul_wE cI aE E, ul_wG cI aF (aK 0) (aN 0) (aT 0) F, ul_wB cI aP (aK 0) 2 r.2.2, ul_wB cI aB (aK 0) 14 B] : List va_W).flatten) (va_A ([ul_wU cZ cO aU (aL 0) (aD 0) (aK 0) (aN 0) (aT 0) (aJ 0) (aE 0) (aF 0) aP U d, ul_wL cI aL L, ul_wK cI aD D, ul_wK cI aK K, ul_wS cI aN (aK 0) N, ul_wS cI aT (aK 0) T, ul_wJ cO aJ aB J, ul_wE cI aE E, ul_wG cI aF (aK 0) (aN 0) (aT 0) F, ul_wB cI aP (aK 0) 2 P, ul_wB cI aB (aK 0) 14 B] : List va_W).flatten sz)) 0 0 (va_A ([ul_wU cZ cO aU (aL 0) (aD 0) (aK 0) (aN 0) (aT 0) (aJ 0) (aE 0) (aF 0) aP U d, ul_wL cI aL L, ul_wK cI aD D, ul_wK cI aK K, ul_wS cI aN (aK 0) N, ul_wS cI aT (aK 0) T, ul_wJ cO aJ aB J, ul_wE cI aE E, ul_wG cI aF (aK 0) (aN 0) (aT 0) F, ul_wB cI aP (aK 0) 2 P, ul_wB cI aB (aK 0) 14 B] : List va_W).flatten sz) := by
  refine Met.ofW (cc := cX6_keep) (maxL := 2) (ret := (some .int)) (by decide) rfl ?_
  intro p e s m args below meth c s₁ BB hml hv
  obtain ⟨rfl, hsz, hP, hK, hD0, hN⟩ := hv
  have hx := BB.exec
  have hb := BB.bytes
  have hr := BB.returns
  have hts := atoms_spec (ws := wsX6_keep) BB.pre
  have hown : s.vm.findClass RX6 = some m.cls := findClass_of_methodNamed BB.named
  have hlocks := BB.notSynchronized
  have hin4 : ∀ w ∈ u_ws RX4 TX4 8, w ∈ wsX6_keep := by decide +kernel
  have hin6 : ∀ w ∈ u_ws RX6 TX6 11, w ∈ wsX6_keep := by decide +kernel
  subst hsz
  have hD := hD0.self (sz := s.heap.size)
  generalize hAe : va_A ([ul_wU cZ cO aU (aL 0) (aD 0) (aK 0) (aN 0) (aT 0) (aJ 0) (aE 0) (aF 0) aP U d, ul_wL cI aL L, ul_wK cI aD D, ul_wK cI aK K, ul_wS cI aN (aK 0) N, ul_wS cI aT (aK 0) T, ul_wJ cO aJ aB J, ul_wE cI aE E, ul_wG cI aF (aK 0) (aN 0) (aT 0) F, ul_wB cI aP (aK 0) 2 P, ul_wB cI aB (aK 0) 14 B] : List va_W).flatten s.heap.size = A at hD hN ⊢
  have hA : ∀ q : Nat, s.heap.size ≤ q → A q := fun q h => by rw [← hAe]; exact Or.inr h
  have hS : va_S A s.heap s.heap [] := va_S.rf
  have hl := lv_entry ([.ref (aU 0), .int p1]) (n := 2) (Nat.le_of_ble_eq_true rfl)
  rw [lg_entry_eq]
  generalize (lg_sl ([.ref (aU 0), .int p1]) ++ List.replicate (2 - (lg_sl ([.ref (aU 0), .int p1])).length) Slot.unset).toArray = ls at hl ⊢
  have hl : lv_has ls 2 [(0, .ref (aU 0)), (1, .int p1)] := hl
  obtain ⟨K0, hK0, h⟩ := ul_top h
  unfold f_X6_keep at h
  refine ul_gen (fun G gi ge => ?_)
  obtain ⟨H, eH⟩ : ∃ z, z = s.heap := ⟨_, rfl⟩
  obtain ⟨locs, eL⟩ : ∃ z : List Loc, z = [] := ⟨_, rfl⟩
  have hP : va_P (dC, dI) classes ([ul_wU cZ cO aU (aL 0) (aD 0) (aK 0) (aN 0) (aT 0) (aJ 0) (aE 0) (aF 0) aP U d, ul_wL cI aL L, ul_wK cI aD D, ul_wK cI aK K, ul_wS cI aN (aK 0) N, ul_wS cI aT (aK 0) T, ul_wJ cO aJ aB J, ul_wE cI aE E, ul_wG cI aF (aK 0) (aN 0) (aT 0) F, ul_wB cI aP (aK 0) 2 P, ul_wB cI aB (aK 0) 14 B] : List va_W).flatten H := by rw [eH]; exact hP
  have hS : va_S A s.heap H locs := by rw [eH, eL]; exact hS
  rw [← eL]
  refine (show G H locs (F0 m 0 ls []) → G s.heap locs (F0 m 0 ls []) from fun z => by rw [← eH]; exact z) ?_
  refine gi _ _ _ ?_
  refine lv_iload_n hx hb dX6_keep_0 rfl (lv_at hl 1 rfl) ?_
  obtain ⟨u1, hu1, h⟩ := ul_cl_h h
  refine ul_cSi (As := [.int p1]) (rest := []) hP hD hS hK hA (c_X6_isSlot l dC dI H.size p1 u1 hu1) ⟨hx, hb, hml, hown, hts⟩ (cwS 1 hts gX6_keep_X6_isSlot rfl rfl rfl (by decide +kernel) ⟨Nat.le_of_ble_eq_true rfl, Nat.le_of_ble_eq_true rfl⟩) rfl hl.1 rfl (Nat.le_of_ble_eq_true rfl) dX6_keep_1 (fun H locs hw => ?_)
  obtain ⟨hP, hD, hS⟩ := hw
  refine lv_if_ne (tgt := 9) hx hb dX6_keep_4 (by decide) (fun hc2 => ?_) (fun hc2 => ?_)
  · have h := ul_if_f hc2 h
    refine lv_aload_n hx hb dX6_keep_9 rfl (lv_at hl 0 rfl) ?_
    refine va_get (D := (dC, dI)) (ci := 6) (v := .ref (aU 1)) (C := RX6) (T := TX6) (N := 11) hx hb hts hin6 hown hK hP 0 rfl rfl 8 (by decide) (hts (.fieldLink RX6 61 "UnderLadders" "kept" "[LUnderLadders$Street;") (by decide +kernel)) (fun _ h9 => h9) rfl dX6_keep_10 ?_
    refine lv_iload_n hx hb dX6_keep_13 rfl (lv_at hl 1 rfl) ?_
    obtain ⟨hi4, h⟩ := ul_ck_h h
    refine ul_aald hx hb hK hP 1 2 rfl rfl hi4 dX6_keep_14 (fun j3 ej3 hj3 => ?_)
    have h := h j3 ej3
    refine lv_aload_n hx hb dX6_keep_15 rfl (lv_at hl 0 rfl) ?_
    refine va_get (D := (dC, dI)) (ci := 6) (v := .ref (aN 0)) (C := RX6) (T := TX6) (N := 11) hx hb hts hin6 hown hK hP 0 rfl rfl 3 (by decide) (hts (.fieldLink RX6 31 "UnderLadders" "now" "LUnderLadders$Street;") (by decide +kernel)) (fun _ h9 => h9) rfl dX6_keep_16 ?_
    have hw := ul_H.pm ⟨hP, hD, hS⟩ (ul_spl [ul_wU cZ cO aU (aL 0) (aD 0) (aK 0) (aN 0) (aT 0) (aJ 0) (aE 0) (aF 0) aP U d, ul_wL cI aL L, ul_wK cI aD D, ul_wK cI aK K, ul_wS cI aN (aK 0) N, ul_wS cI aT (aK 0) T, ul_wJ cO aJ aB J, ul_wE cI aE E, ul_wG cI aF (aK 0) (aN 0) (aT 0) F] [ul_wB cI aB (aK 0) 14 B] (ul_wB_sp hj3))
    obtain ⟨hP, hD, hS⟩ := hw
    have hP : va_P (dC, dI) classes ([ul_wU cZ cO aU (aL 0) (aD 0) (aK 0) (aN 0) (aT 0) (aJ 0) (aE 0) (aF 0) aP U d, ul_wL cI aL L, ul_wK cI aD D, ul_wK cI aK K, ul_wS cI aN (aK 0) N, ul_wS cI aT (aK 0) T, ul_wJ cO aJ aB J, ul_wE cI aE E, ul_wG cI aF (aK 0) (aN 0) (aT 0) F, ul_wS cI (aP j3) (aK 0) (P j3), ul_wX cI aP (aK 0) 2 j3 P, ul_wB cI aB (aK 0) 14 B] : List va_W).flatten H := hP
    have hD : va_D A ([ul_wU cZ cO aU (aL 0) (aD 0) (aK 0) (aN 0) (aT 0) (aJ 0) (aE 0) (aF 0) aP U d, ul_wL cI aL L, ul_wK cI aD D, ul_wK cI aK K, ul_wS cI aN (aK 0) N, ul_wS cI aT (aK 0) T, ul_wJ cO aJ aB J, ul_wE cI aE E, ul_wG cI aF (aK 0) (aN 0) (aT 0) F, ul_wS cI (aP j3) (aK 0) (P j3), ul_wX cI aP (aK 0) 2 j3 P, ul_wB cI aB (aK 0) 14 B] : List va_W).flatten := hD
    obtain ⟨u5, hu5, h⟩ := ul_cl_h h
    refine ul_cPv (As := [.ref (aN 0)]) (rest := []) (wc := (ul_wS cI (aP j3) (aK 0) (P j3) ++ ul_wS cI aN (aK 0) N)) (wc' := (ul_wS cI (aP j3) (aK 0) u5 ++ ul_wS cI aN (aK 0) N)) (wr := ([ul_wU cZ cO aU (aL 0) (aD 0) (aK 0) (aN 0) (aT 0) (aJ 0) (aE 0) (aF 0) aP U d, ul_wL cI aL L, ul_wK cI aD D, ul_wK cI aK K, ul_wS cI aT (aK 0) T, ul_wJ cO aJ aB J, ul_wE cI aE E, ul_wG cI aF (aK 0) (aN 0) (aT 0) F, ul_wX cI aP (aK 0) 2 j3 P, ul_wB cI aB (aK 0) 14 B] : List va_W).flatten) hP hD hS hK hA [0] ul_NX_ok hN (c_X4_setTo l dC dI cI (aP j3) aN aK H.size (P j3) N u5 hu5) (ul_pmq (bs := [ul_wU cZ cO aU (aL 0) (aD 0) (aK 0) (aN 0) (aT 0) (aJ 0) (aE 0) (aF 0) aP U d, ul_wL cI aL L, ul_wK cI aD D, ul_wK cI aK K, ul_wS cI aN (aK 0) N, ul_wS cI aT (aK 0) T, ul_wJ cO aJ aB J, ul_wE cI aE E, ul_wG cI aF (aK 0) (aN 0) (aT 0) F, ul_wS cI (aP j3) (aK 0) (P j3), ul_wX cI aP (aK 0) 2 j3 P, ul_wB cI aB (aK 0) 14 B]) [9, 4, 0, 1, 2, 3, 5, 6, 7, 8, 10, 11] (by show List.Perm _ (List.range 12); decide) (by simp only [List.map_cons, List.map_nil, List.getD_cons_zero, List.getD_cons_succ, List.flatten_cons, List.flatten_nil, List.append_nil, List.nil_append, List.append_assoc])) rfl ⟨hx, hb, hml, hown, hts⟩ (cwV 1 hts gX6_keep_X4_setTo rfl rfl rfl (by decide +kernel) ⟨Nat.le_of_ble_eq_true rfl, Nat.le_of_ble_eq_true rfl⟩) (va_recv hK hP (ci := 4) (q0 := 45) rfl rfl) rfl hl.1 rfl (Nat.le_of_ble_eq_true rfl) dX6_keep_19 (fun H locs hw => ?_)
    have hw := hw.pm (ul_pmq (bs := [ul_wU cZ cO aU (aL 0) (aD 0) (aK 0) (aN 0) (aT 0) (aJ 0) (aE 0) (aF 0) aP U d, ul_wL cI aL L, ul_wK cI aD D, ul_wK cI aK K, ul_wS cI aN (aK 0) N, ul_wS cI aT (aK 0) T, ul_wJ cO aJ aB J, ul_wE cI aE E, ul_wG cI aF (aK 0) (aN 0) (aT 0) F, ul_wS cI (aP j3) (aK 0) u5, ul_wX cI aP (aK 0) 2 j3 P, ul_wB cI aB (aK 0) 14 B]) [0, 1, 2, 3, 5, 6, 7, 8, 10, 11, 9, 4] (by show List.Perm _ (List.range 12); decide) (by simp only [List.map_cons, List.map_nil, List.getD_cons_zero, List.getD_cons_succ, List.flatten_cons, List.flatten_nil, List.append_nil, List.nil_append, List.append_assoc])).symm
    obtain ⟨hP, hD, hS⟩ := hw
    have hw := ul_H.pm ⟨hP, hD, hS⟩ (ul_spl [ul_wU cZ cO aU (aL 0) (aD 0) (aK 0) (aN 0) (aT 0) (aJ 0) (aE 0) (aF 0) aP U d, ul_wL cI aL L, ul_wK cI aD D, ul_wK cI aK K, ul_wS cI aN (aK 0) N, ul_wS cI aT (aK 0) T, ul_wJ cO aJ aB J, ul_wE cI aE E, ul_wG cI aF (aK 0) (aN 0) (aT 0) F] [ul_wB cI aB (aK 0) 14 B] (ul_wB_fd hj3)).symm
    obtain ⟨hP, hD, hS⟩ := hw
    have hP : va_P (dC, dI) classes ([ul_wU cZ cO aU (aL 0) (aD 0) (aK 0) (aN 0) (aT 0) (aJ 0) (aE 0) (aF 0) aP U d, ul_wL cI aL L, ul_wK cI aD D, ul_wK cI aK K, ul_wS cI aN (aK 0) N, ul_wS cI aT (aK 0) T, ul_wJ cO aJ aB J, ul_wE cI aE E, ul_wG cI aF (aK 0) (aN 0) (aT 0) F, ul_wB cI aP (aK 0) 2 (va_up P j3 u5), ul_wB cI aB (aK 0) 14 B] : List va_W).flatten H := hP
    have hD : va_D A ([ul_wU cZ cO aU (aL 0) (aD 0) (aK 0) (aN 0) (aT 0) (aJ 0) (aE 0) (aF 0) aP U d, ul_wL cI aL L, ul_wK cI aD D, ul_wK cI aK K, ul_wS cI aN (aK 0) N, ul_wS cI aT (aK 0) T, ul_wJ cO aJ aB J, ul_wE cI aE E, ul_wG cI aF (aK 0) (aN 0) (aT 0) F, ul_wB cI aP (aK 0) 2 (va_up P j3 u5), ul_wB cI aB (aK 0) 14 B] : List va_W).flatten := hD
    obtain ⟨P6, eP6⟩ : ∃ z : ul_F, z = va_up P j3 u5 := ⟨_, rfl⟩
    have h := ul_bd_h h P6 eP6
    have hP : va_P (dC, dI) classes ([ul_wU cZ cO aU (aL 0) (aD 0) (aK 0) (aN 0) (aT 0) (aJ 0) (aE 0) (aF 0) aP U d, ul_wL cI aL L, ul_wK cI aD D, ul_wK cI aK K, ul_wS cI aN (aK 0) N, ul_wS cI aT (aK 0) T, ul_wJ cO aJ aB J, ul_wE cI aE E, ul_wG cI aF (aK 0) (aN 0) (aT 0) F, ul_wB cI aP (aK 0) 2 P6, ul_wB cI aB (aK 0) 14 B] : List va_W).flatten H := by rw [eP6]; exact hP
    have hD : va_D A ([ul_wU cZ cO aU (aL 0) (aD 0) (aK 0) (aN 0) (aT 0) (aJ 0) (aE 0) (aF 0) aP U d, ul_wL cI aL L, ul_wK cI aD D, ul_wK cI aK K, ul_wS cI aN (aK 0) N, ul_wS cI aT (aK 0) T, ul_wJ cO aJ aB J, ul_wE cI aE E, ul_wG cI aF (aK 0) (aN 0) (aT 0) F, ul_wB cI aP (aK 0) 2 P6, ul_wB cI aB (aK 0) 14 B] : List va_W).flatten := by rw [eP6]; exact hD
    have hP : va_P (dC, dI) classes ([ul_wU cZ cO aU (aL 0) (aD 0) (aK 0) (aN 0) (aT 0) (aJ 0) (aE 0) (aF 0) aP U d, ul_wL cI aL L, ul_wK cI aD D, ul_wK cI aK K, ul_wS cI aN (aK 0) N, ul_wS cI aT (aK 0) T, ul_wJ cO aJ aB J, ul_wE cI aE E, ul_wG cI aF (aK 0) (aN 0) (aT 0) F, ul_wB cI aP (aK 0) 2 P6, ul_wB cI aB (aK 0) 14 B] : List va_W).flatten H := hP
    have hD : va_D A ([ul_wU cZ cO aU (aL 0) (aD 0) (aK 0) (aN 0) (aT 0) (aJ 0) (aE 0) (aF 0) aP U d, ul_wL cI aL L, ul_wK cI aD D, ul_wK cI aK K, ul_wS cI aN (aK 0) N, ul_wS cI aT (aK 0) T, ul_wJ cO aJ aB J, ul_wE cI aE E, ul_wG cI aF (aK 0) (aN 0) (aT 0) F, ul_wB cI aP (aK 0) 2 P6, ul_wB cI aB (aK 0) 14 B] : List va_W).flatten := hD
    refine lv_aload_n hx hb dX6_keep_22 rfl (lv_at hl 0 rfl) ?_
    refine va_get (D := (dC, dI)) (ci := 6) (v := .ref (aU 2)) (C := RX6) (T := TX6) (N := 11) hx hb hts hin6 hown hK hP 0 rfl rfl 9 (by decide) (hts (.fieldLink RX6 65 "UnderLadders" "isKept" "[Z") (by decide +kernel)) (fun _ h9 => h9) rfl dX6_keep_23 ?_
    refine lv_iload_n hx hb dX6_keep_26 rfl (lv_at hl 1 rfl) ?_
    refine lv_iconst (v := 1) hx hb dX6_keep_27 (by decide) ?_
    obtain ⟨hi8, h⟩ := ul_st_h h
    refine va_zast hx hb hK hP hD hS 2 1 rfl rfl hi8 dX6_keep_28 (fun H locs hP hD hS => ?_)
    obtain ⟨U7, eU7⟩ : ∃ z : ul_S, z = ul_up U 2 p1.toNatClampNeg (vp_nar .boolean (1 : Int32)) := ⟨_, rfl⟩
    have h := h U7 eU7
    have hP : va_P (dC, dI) classes ([ul_wU cZ cO aU (aL 0) (aD 0) (aK 0) (aN 0) (aT 0) (aJ 0) (aE 0) (aF 0) aP U7 d, ul_wL cI aL L, ul_wK cI aD D, ul_wK cI aK K, ul_wS cI aN (aK 0) N, ul_wS cI aT (aK 0) T, ul_wJ cO aJ aB J, ul_wE cI aE E, ul_wG cI aF (aK 0) (aN 0) (aT 0) F, ul_wB cI aP (aK 0) 2 P6, ul_wB cI aB (aK 0) 14 B] : List va_W).flatten H := by rw [eU7]; exact hP
    have hD : va_D A ([ul_wU cZ cO aU (aL 0) (aD 0) (aK 0) (aN 0) (aT 0) (aJ 0) (aE 0) (aF 0) aP U7 d, ul_wL cI aL L, ul_wK cI aD D, ul_wK cI aK K, ul_wS cI aN (aK 0) N, ul_wS cI aT (aK 0) T, ul_wJ cO aJ aB J, ul_wE cI aE E, ul_wG cI aF (aK 0) (aN 0) (aT 0) F, ul_wB cI aP (aK 0) 2 P6, ul_wB cI aB (aK 0) 14 B] : List va_W).flatten := by rw [eU7]; exact hD
    refine lv_aload_n hx hb dX6_keep_29 rfl (lv_at hl 0 rfl) ?_
    refine va_get (D := (dC, dI)) (ci := 6) (v := .ref (aN 0)) (C := RX6) (T := TX6) (N := 11) hx hb hts hin6 hown hK hP 0 rfl rfl 3 (by decide) (hts (.fieldLink RX6 31 "UnderLadders" "now" "LUnderLadders$Street;") (by decide +kernel)) (fun _ h9 => h9) rfl dX6_keep_30 ?_
    refine va_getN (D := (dC, dI)) (ci := 4) (v := .int (N 0 0)) (C := RX4) (T := TX4) (N := 8) hx hb hts hin4 hown hK hP 21 rfl rfl 7 (by decide) (va_Nw.use rfl (hN.1 (RX6, 251, "UnderLadders$Street", "days", "I") (by decide +kernel))) (fun _ h9 => h9) rfl dX6_keep_33 ?_
    have hr9 := hK0 ((N 0 0), U7, P6) h
    subst hr9
    exact W.iret (v := (N 0 0)) hx hb hr (fun t ht hW => ⟨⟨(N 0 0), (), rfl, rfl, by rw [ht]; exact hP, va_K.moved hW.alike hK, hD⟩, hS.F ht⟩) hS.2.2 dX6_keep_36
  · have h := ul_if_t hc2 h
    refine lv_iconst (v := -1) hx hb dX6_keep_7 (by decide) ?_
    have hr9 := hK0 ((-1 : Int32), U, P) h
    subst hr9
    exact W.iret (v := (-1 : Int32)) hx hb hr (fun t ht hW => ⟨⟨(-1 : Int32), (), rfl, rfl, by rw [ht]; exact hP, va_K.moved hW.alike hK, hD⟩, hS.F ht⟩) hS.2.2 dX6_keep_8
def f_X6_again (U : ul_S) (N : ul_S) (J : ul_S) (P : ul_F) (p1 : Int32) : Option (Int32 × ul_S × ul_S) :=
  (f_X6_isSlot p1).bind fun u1 => if u1 = 0 then (some ((-1 : Int32), N, J)) else (ul_ld (U 2) 2 p1 fun v3 => if v3 = 0 then (some ((-3 : Int32), N, J)) else (ul_ck 2 p1 fun j6 => (f_X4_setTo N (P j6)).bind fun u8 => (f_X0_clear J).bind fun u9 => some ((u8 0 0), u8, u9)))
set_option maxHeartbeats 4000000 in
set_option maxRecDepth 100000 in
theorem c_X6_again (l : Launch) (dC : Nat → ClassId) (dI : Nat → Nat → Nat) (cI : ClassId) (cZ : ClassId) (cO : ClassId) (aU : Nat → Nat) (aL : Nat → Nat) (aD : Nat → Nat) (aK : Nat → Nat) (aN : Nat → Nat) (aT : Nat → Nat) (aJ : Nat → Nat) (aE : Nat → Nat) (aF : Nat → Nat) (aP : Nat → Nat → Nat) (aB : Nat → Nat → Nat) (sz : Nat) (U : ul_S) (d : Int64) (L : ul_S) (D : ul_S) (K : ul_S) (N : ul_S) (T : ul_S) (J : ul_S) (E : ul_S) (F : ul_S) (P : ul_F) (B : ul_F) (p1 : Int32) (r : (Int32 × ul_S × ul_S)) (h : f_X6_again U N J P p1 = some r) : Met l yX6_again wsX6_again ({ frames := 2, cells := 0, slots := 0, locals := 61 }) (va_Pc [.ref (aU 0), .int p1] (ul_pre (dC, dI) [(cI, .int), (cZ, .boolean), (cO, .object RX4)] ul_NX sz ([ul_wU cZ cO aU (aL 0) (aD 0) (aK 0) (aN 0) (aT 0) (aJ 0) (aE 0) (aF 0) aP U d, ul_wL cI aL L, ul_wK cI aD D, ul_wK cI aK K, ul_wS cI aN (aK 0) N, ul_wS cI aT (aK 0) T, ul_wJ cO aJ aB J, ul_wE cI aE E, ul_wG cI aF (aK 0) (aN 0) (aT 0) F, ul_wB cI aP (aK 0) 2 P, ul_wB cI aB (aK 0) 14 B] : List va_W).flatten)) (va_Qi (fun v (_ : Unit) => v = r.1) (fun _ => ul_post (dC, dI) [(cI, .int), (cZ, .boolean), (cO, .object RX4)] (va_A ([ul_wU cZ cO aU (aL 0) (aD 0) (aK 0) (aN 0) (aT 0) (aJ 0) (aE 0) (aF 0) aP U d, ul_wL cI aL L, ul_wK cI aD D, ul_wK cI aK K, ul_wS cI aN (aK 0) N, ul_wS cI aT (aK 0) T, ul_wJ cO aJ aB J, ul_wE cI aE E, ul_wG cI aF (aK 0) (aN 0) (aT 0) F, ul_wB cI aP (aK 0) 2 P, ul_wB cI aB (aK 0) 14 B] : List va_W).flatten sz) ([ul_wU cZ cO aU (aL 0) (aD 0) (aK 0) (aN 0) (aT 0) (aJ 0) (aE 0) (aF 0) aP U d, ul_wL cI aL L, ul_wK cI aD D, ul_wK cI aK K, ul_wS cI aN (aK 0) r.2.1, ul_wS cI aT (aK 0) T, ul_wJ cO aJ aB r.2.2, ul_wE cI aE E, ul_wG cI aF (aK 0) (aN 0) (aT 0) F, ul_wB cI aP (aK 0) 2 P, ul_wB cI aB (aK 0) 14 B] : List va_W).flatten) (va_A ([ul_wU cZ cO aU (aL 0) (aD 0) (aK 0) (aN 0) (aT 0) (aJ 0) (aE 0) (aF 0) aP U d, ul_wL cI aL L, ul_wK cI aD D, ul_wK cI aK K, ul_wS cI aN (aK 0) N, ul_wS cI aT (aK 0) T, ul_wJ cO aJ aB J, ul_wE cI aE E, ul_wG cI aF (aK 0) (aN 0) (aT 0) F, ul_wB cI aP (aK 0) 2 P, ul_wB cI aB (aK 0) 14 B] : List va_W).flatten sz)) 0 0 (va_A ([ul_wU cZ cO aU (aL 0) (aD 0) (aK 0) (aN 0) (aT 0) (aJ 0) (aE 0) (aF 0) aP U d, ul_wL cI aL L, ul_wK cI aD D, ul_wK cI aK K, ul_wS cI aN (aK 0) N, ul_wS cI aT (aK 0) T, ul_wJ cO aJ aB J, ul_wE cI aE E, ul_wG cI aF (aK 0) (aN 0) (aT 0) F, ul_wB cI aP (aK 0) 2 P, ul_wB cI aB (aK 0) 14 B] : List va_W).flatten sz) := by
  refine Met.ofW (cc := cX6_again) (maxL := 2) (ret := (some .int)) (by decide) rfl ?_
  intro p e s m args below meth c s₁ BB hml hv
  obtain ⟨rfl, hsz, hP, hK, hD0, hN⟩ := hv
  have hx := BB.exec
  have hb := BB.bytes
  have hr := BB.returns
  have hts := atoms_spec (ws := wsX6_again) BB.pre
  have hown : s.vm.findClass RX6 = some m.cls := findClass_of_methodNamed BB.named
  have hlocks := BB.notSynchronized
  have hin4 : ∀ w ∈ u_ws RX4 TX4 8, w ∈ wsX6_again := by decide +kernel
  have hin6 : ∀ w ∈ u_ws RX6 TX6 11, w ∈ wsX6_again := by decide +kernel
  subst hsz
  have hD := hD0.self (sz := s.heap.size)
  generalize hAe : va_A ([ul_wU cZ cO aU (aL 0) (aD 0) (aK 0) (aN 0) (aT 0) (aJ 0) (aE 0) (aF 0) aP U d, ul_wL cI aL L, ul_wK cI aD D, ul_wK cI aK K, ul_wS cI aN (aK 0) N, ul_wS cI aT (aK 0) T, ul_wJ cO aJ aB J, ul_wE cI aE E, ul_wG cI aF (aK 0) (aN 0) (aT 0) F, ul_wB cI aP (aK 0) 2 P, ul_wB cI aB (aK 0) 14 B] : List va_W).flatten s.heap.size = A at hD hN ⊢
  have hA : ∀ q : Nat, s.heap.size ≤ q → A q := fun q h => by rw [← hAe]; exact Or.inr h
  have hS : va_S A s.heap s.heap [] := va_S.rf
  have hl := lv_entry ([.ref (aU 0), .int p1]) (n := 2) (Nat.le_of_ble_eq_true rfl)
  rw [lg_entry_eq]
  generalize (lg_sl ([.ref (aU 0), .int p1]) ++ List.replicate (2 - (lg_sl ([.ref (aU 0), .int p1])).length) Slot.unset).toArray = ls at hl ⊢
  have hl : lv_has ls 2 [(0, .ref (aU 0)), (1, .int p1)] := hl
  obtain ⟨K0, hK0, h⟩ := ul_top h
  unfold f_X6_again at h
  refine ul_gen (fun G gi ge => ?_)
  obtain ⟨H, eH⟩ : ∃ z, z = s.heap := ⟨_, rfl⟩
  obtain ⟨locs, eL⟩ : ∃ z : List Loc, z = [] := ⟨_, rfl⟩
  have hP : va_P (dC, dI) classes ([ul_wU cZ cO aU (aL 0) (aD 0) (aK 0) (aN 0) (aT 0) (aJ 0) (aE 0) (aF 0) aP U d, ul_wL cI aL L, ul_wK cI aD D, ul_wK cI aK K, ul_wS cI aN (aK 0) N, ul_wS cI aT (aK 0) T, ul_wJ cO aJ aB J, ul_wE cI aE E, ul_wG cI aF (aK 0) (aN 0) (aT 0) F, ul_wB cI aP (aK 0) 2 P, ul_wB cI aB (aK 0) 14 B] : List va_W).flatten H := by rw [eH]; exact hP
  have hS : va_S A s.heap H locs := by rw [eH, eL]; exact hS
  rw [← eL]
  refine (show G H locs (F0 m 0 ls []) → G s.heap locs (F0 m 0 ls []) from fun z => by rw [← eH]; exact z) ?_
  refine gi _ _ _ ?_
  refine lv_iload_n hx hb dX6_again_0 rfl (lv_at hl 1 rfl) ?_
  obtain ⟨u1, hu1, h⟩ := ul_cl_h h
  refine ul_cSi (As := [.int p1]) (rest := []) hP hD hS hK hA (c_X6_isSlot l dC dI H.size p1 u1 hu1) ⟨hx, hb, hml, hown, hts⟩ (cwS 1 hts gX6_again_X6_isSlot rfl rfl rfl (by decide +kernel) ⟨Nat.le_of_ble_eq_true rfl, Nat.le_of_ble_eq_true rfl⟩) rfl hl.1 rfl (Nat.le_of_ble_eq_true rfl) dX6_again_1 (fun H locs hw => ?_)
  obtain ⟨hP, hD, hS⟩ := hw
  refine lv_if_ne (tgt := 9) hx hb dX6_again_4 (by decide) (fun hc2 => ?_) (fun hc2 => ?_)
  · have h := ul_if_f hc2 h
    refine lv_aload_n hx hb dX6_again_9 rfl (lv_at hl 0 rfl) ?_
    refine va_get (D := (dC, dI)) (ci := 6) (v := .ref (aU 2)) (C := RX6) (T := TX6) (N := 11) hx hb hts hin6 hown hK hP 0 rfl rfl 9 (by decide) (hts (.fieldLink RX6 65 "UnderLadders" "isKept" "[Z") (by decide +kernel)) (fun _ h9 => h9) rfl dX6_again_10 ?_
    refine lv_iload_n hx hb dX6_again_13 rfl (lv_at hl 1 rfl) ?_
    obtain ⟨hi4, h⟩ := ul_ld_h h
    refine va_zald hx hb hK hP 2 1 rfl rfl hi4 dX6_again_14 ?_
    refine lv_topi (fun v3 ev3 => ?_)
    have h := h v3 ev3
    refine lv_if_ne (tgt := 21) hx hb dX6_again_15 (by decide) (fun hc5 => ?_) (fun hc5 => ?_)
    · have h := ul_if_f hc5 h
      refine lv_aload_n hx hb dX6_again_21 rfl (lv_at hl 0 rfl) ?_
      refine va_get (D := (dC, dI)) (ci := 6) (v := .ref (aN 0)) (C := RX6) (T := TX6) (N := 11) hx hb hts hin6 hown hK hP 0 rfl rfl 3 (by decide) (hts (.fieldLink RX6 31 "UnderLadders" "now" "LUnderLadders$Street;") (by decide +kernel)) (fun _ h9 => h9) rfl dX6_again_22 ?_
      refine lv_aload_n hx hb dX6_again_25 rfl (lv_at hl 0 rfl) ?_
      refine va_get (D := (dC, dI)) (ci := 6) (v := .ref (aU 1)) (C := RX6) (T := TX6) (N := 11) hx hb hts hin6 hown hK hP 0 rfl rfl 8 (by decide) (hts (.fieldLink RX6 61 "UnderLadders" "kept" "[LUnderLadders$Street;") (by decide +kernel)) (fun _ h9 => h9) rfl dX6_again_26 ?_
      refine lv_iload_n hx hb dX6_again_29 rfl (lv_at hl 1 rfl) ?_
      obtain ⟨hi7, h⟩ := ul_ck_h h
      refine ul_aald hx hb hK hP 1 2 rfl rfl hi7 dX6_again_30 (fun j6 ej6 hj6 => ?_)
      have h := h j6 ej6
      have hw := ul_H.pm ⟨hP, hD, hS⟩ (ul_spl [ul_wU cZ cO aU (aL 0) (aD 0) (aK 0) (aN 0) (aT 0) (aJ 0) (aE 0) (aF 0) aP U d, ul_wL cI aL L, ul_wK cI aD D, ul_wK cI aK K, ul_wS cI aN (aK 0) N, ul_wS cI aT (aK 0) T, ul_wJ cO aJ aB J, ul_wE cI aE E, ul_wG cI aF (aK 0) (aN 0) (aT 0) F] [ul_wB cI aB (aK 0) 14 B] (ul_wB_sp hj6))
      obtain ⟨hP, hD, hS⟩ := hw
      have hP : va_P (dC, dI) classes ([ul_wU cZ cO aU (aL 0) (aD 0) (aK 0) (aN 0) (aT 0) (aJ 0) (aE 0) (aF 0) aP U d, ul_wL cI aL L, ul_wK cI aD D, ul_wK cI aK K, ul_wS cI aN (aK 0) N, ul_wS cI aT (aK 0) T, ul_wJ cO aJ aB J, ul_wE cI aE E, ul_wG cI aF (aK 0) (aN 0) (aT 0) F, ul_wS cI (aP j6) (aK 0) (P j6), ul_wX cI aP (aK 0) 2 j6 P, ul_wB cI aB (aK 0) 14 B] : List va_W).flatten H := hP
      have hD : va_D A ([ul_wU cZ cO aU (aL 0) (aD 0) (aK 0) (aN 0) (aT 0) (aJ 0) (aE 0) (aF 0) aP U d, ul_wL cI aL L, ul_wK cI aD D, ul_wK cI aK K, ul_wS cI aN (aK 0) N, ul_wS cI aT (aK 0) T, ul_wJ cO aJ aB J, ul_wE cI aE E, ul_wG cI aF (aK 0) (aN 0) (aT 0) F, ul_wS cI (aP j6) (aK 0) (P j6), ul_wX cI aP (aK 0) 2 j6 P, ul_wB cI aB (aK 0) 14 B] : List va_W).flatten := hD
      obtain ⟨u8, hu8, h⟩ := ul_cl_h h
      refine ul_cPv (As := [.ref (aP j6 0)]) (rest := []) (wc := (ul_wS cI aN (aK 0) N ++ ul_wS cI (aP j6) (aK 0) (P j6))) (wc' := (ul_wS cI aN (aK 0) u8 ++ ul_wS cI (aP j6) (aK 0) (P j6))) (wr := ([ul_wU cZ cO aU (aL 0) (aD 0) (aK 0) (aN 0) (aT 0) (aJ 0) (aE 0) (aF 0) aP U d, ul_wL cI aL L, ul_wK cI aD D, ul_wK cI aK K, ul_wS cI aT (aK 0) T, ul_wJ cO aJ aB J, ul_wE cI aE E, ul_wG cI aF (aK 0) (aN 0) (aT 0) F, ul_wX cI aP (aK 0) 2 j6 P, ul_wB cI aB (aK 0) 14 B] : List va_W).flatten) hP hD hS hK hA [0] ul_NX_ok hN (c_X4_setTo l dC dI cI aN (aP j6) aK H.size N (P j6) u8 hu8) (ul_pmq (bs := [ul_wU cZ cO aU (aL 0) (aD 0) (aK 0) (aN 0) (aT 0) (aJ 0) (aE 0) (aF 0) aP U d, ul_wL cI aL L, ul_wK cI aD D, ul_wK cI aK K, ul_wS cI aN (aK 0) N, ul_wS cI aT (aK 0) T, ul_wJ cO aJ aB J, ul_wE cI aE E, ul_wG cI aF (aK 0) (aN 0) (aT 0) F, ul_wS cI (aP j6) (aK 0) (P j6), ul_wX cI aP (aK 0) 2 j6 P, ul_wB cI aB (aK 0) 14 B]) [4, 9, 0, 1, 2, 3, 5, 6, 7, 8, 10, 11] (by show List.Perm _ (List.range 12); decide) (by simp only [List.map_cons, List.map_nil, List.getD_cons_zero, List.getD_cons_succ, List.flatten_cons, List.flatten_nil, List.append_nil, List.nil_append, List.append_assoc])) rfl ⟨hx, hb, hml, hown, hts⟩ (cwV 1 hts gX6_again_X4_setTo rfl rfl rfl (by decide +kernel) ⟨Nat.le_of_ble_eq_true rfl, Nat.le_of_ble_eq_true rfl⟩) (va_recv hK hP (ci := 4) (q0 := 21) rfl rfl) rfl hl.1 rfl (Nat.le_of_ble_eq_true rfl) dX6_again_31 (fun H locs hw => ?_)
      have hw := hw.pm (ul_pmq (bs := [ul_wU cZ cO aU (aL 0) (aD 0) (aK 0) (aN 0) (aT 0) (aJ 0) (aE 0) (aF 0) aP U d, ul_wL cI aL L, ul_wK cI aD D, ul_wK cI aK K, ul_wS cI aN (aK 0) u8, ul_wS cI aT (aK 0) T, ul_wJ cO aJ aB J, ul_wE cI aE E, ul_wG cI aF (aK 0) (aN 0) (aT 0) F, ul_wS cI (aP j6) (aK 0) (P j6), ul_wX cI aP (aK 0) 2 j6 P, ul_wB cI aB (aK 0) 14 B]) [0, 1, 2, 3, 5, 6, 7, 8, 10, 11, 4, 9] (by show List.Perm _ (List.range 12); decide) (by simp only [List.map_cons, List.map_nil, List.getD_cons_zero, List.getD_cons_succ, List.flatten_cons, List.flatten_nil, List.append_nil, List.nil_append, List.append_assoc])).symm
      obtain ⟨hP, hD, hS⟩ := hw
      have hw := ul_H.pm ⟨hP, hD, hS⟩ (ul_spl [ul_wU cZ cO aU (aL 0) (aD 0) (aK 0) (aN 0) (aT 0) (aJ 0) (aE 0) (aF 0) aP U d, ul_wL cI aL L, ul_wK cI aD D, ul_wK cI aK K, ul_wS cI aN (aK 0) u8, ul_wS cI aT (aK 0) T, ul_wJ cO aJ aB J, ul_wE cI aE E, ul_wG cI aF (aK 0) (aN 0) (aT 0) F] [ul_wB cI aB (aK 0) 14 B] (ul_wB_sp hj6)).symm
      obtain ⟨hP, hD, hS⟩ := hw
      have hP : va_P (dC, dI) classes ([ul_wU cZ cO aU (aL 0) (aD 0) (aK 0) (aN 0) (aT 0) (aJ 0) (aE 0) (aF 0) aP U d, ul_wL cI aL L, ul_wK cI aD D, ul_wK cI aK K, ul_wS cI aN (aK 0) u8, ul_wS cI aT (aK 0) T, ul_wJ cO aJ aB J, ul_wE cI aE E, ul_wG cI aF (aK 0) (aN 0) (aT 0) F, ul_wB cI aP (aK 0) 2 P, ul_wB cI aB (aK 0) 14 B] : List va_W).flatten H := hP
      have hD : va_D A ([ul_wU cZ cO aU (aL 0) (aD 0) (aK 0) (aN 0) (aT 0) (aJ 0) (aE 0) (aF 0) aP U d, ul_wL cI aL L, ul_wK cI aD D, ul_wK cI aK K, ul_wS cI aN (aK 0) u8, ul_wS cI aT (aK 0) T, ul_wJ cO aJ aB J, ul_wE cI aE E, ul_wG cI aF (aK 0) (aN 0) (aT 0) F, ul_wB cI aP (aK 0) 2 P, ul_wB cI aB (aK 0) 14 B] : List va_W).flatten := hD
      refine lv_aload_n hx hb dX6_again_34 rfl (lv_at hl 0 rfl) ?_
      refine va_get (D := (dC, dI)) (ci := 6) (v := .ref (aJ 0)) (C := RX6) (T := TX6) (N := 11) hx hb hts hin6 hown hK hP 0 rfl rfl 5 (by decide) (hts (.fieldLink RX6 41 "UnderLadders" "acts" "LUnderLadders$Acts;") (by decide +kernel)) (fun _ h9 => h9) rfl dX6_again_35 ?_
      obtain ⟨u9, hu9, h⟩ := ul_cl_h h
      refine ul_cPv (As := []) (rest := []) (wc := (ul_wJ cO aJ aB J)) (wc' := (ul_wJ cO aJ aB u9)) (wr := ([ul_wU cZ cO aU (aL 0) (aD 0) (aK 0) (aN 0) (aT 0) (aJ 0) (aE 0) (aF 0) aP U d, ul_wL cI aL L, ul_wK cI aD D, ul_wK cI aK K, ul_wS cI aN (aK 0) u8, ul_wS cI aT (aK 0) T, ul_wE cI aE E, ul_wG cI aF (aK 0) (aN 0) (aT 0) F, ul_wB cI aP (aK 0) 2 P, ul_wB cI aB (aK 0) 14 B] : List va_W).flatten) hP hD hS hK hA [2] ul_NX_ok hN (c_X0_clear l dC dI cO aJ aB H.size J u9 hu9) (ul_pmq (bs := [ul_wU cZ cO aU (aL 0) (aD 0) (aK 0) (aN 0) (aT 0) (aJ 0) (aE 0) (aF 0) aP U d, ul_wL cI aL L, ul_wK cI aD D, ul_wK cI aK K, ul_wS cI aN (aK 0) u8, ul_wS cI aT (aK 0) T, ul_wJ cO aJ aB J, ul_wE cI aE E, ul_wG cI aF (aK 0) (aN 0) (aT 0) F, ul_wB cI aP (aK 0) 2 P, ul_wB cI aB (aK 0) 14 B]) [6, 0, 1, 2, 3, 4, 5, 7, 8, 9, 10] (by show List.Perm _ (List.range 11); decide) (by simp only [List.map_cons, List.map_nil, List.getD_cons_zero, List.getD_cons_succ, List.flatten_cons, List.flatten_nil, List.append_nil, List.nil_append, List.append_assoc])) rfl ⟨hx, hb, hml, hown, hts⟩ (cwV 0 hts gX6_again_X0_clear rfl rfl rfl (by decide +kernel) ⟨Nat.le_of_ble_eq_true rfl, Nat.le_of_ble_eq_true rfl⟩) (va_recv hK hP (ci := 0) (q0 := 35) rfl rfl) rfl hl.1 rfl (Nat.le_of_ble_eq_true rfl) dX6_again_38 (fun H locs hw => ?_)
      have hw := hw.pm (ul_pmq (bs := [ul_wU cZ cO aU (aL 0) (aD 0) (aK 0) (aN 0) (aT 0) (aJ 0) (aE 0) (aF 0) aP U d, ul_wL cI aL L, ul_wK cI aD D, ul_wK cI aK K, ul_wS cI aN (aK 0) u8, ul_wS cI aT (aK 0) T, ul_wJ cO aJ aB u9, ul_wE cI aE E, ul_wG cI aF (aK 0) (aN 0) (aT 0) F, ul_wB cI aP (aK 0) 2 P, ul_wB cI aB (aK 0) 14 B]) [0, 1, 2, 3, 4, 5, 7, 8, 9, 10, 6] (by show List.Perm _ (List.range 11); decide) (by simp only [List.map_cons, List.map_nil, List.getD_cons_zero, List.getD_cons_succ, List.flatten_cons, List.flatten_nil, List.append_nil, List.nil_append, List.append_assoc])).symm
      obtain ⟨hP, hD, hS⟩ := hw
      have hP : va_P (dC, dI) classes ([ul_wU cZ cO aU (aL 0) (aD 0) (aK 0) (aN 0) (aT 0) (aJ 0) (aE 0) (aF 0) aP U d, ul_wL cI aL L, ul_wK cI aD D, ul_wK cI aK K, ul_wS cI aN (aK 0) u8, ul_wS cI aT (aK 0) T, ul_wJ cO aJ aB u9, ul_wE cI aE E, ul_wG cI aF (aK 0) (aN 0) (aT 0) F, ul_wB cI aP (aK 0) 2 P, ul_wB cI aB (aK 0) 14 B] : List va_W).flatten H := hP
      have hD : va_D A ([ul_wU cZ cO aU (aL 0) (aD 0) (aK 0) (aN 0) (aT 0) (aJ 0) (aE 0) (aF 0) aP U d, ul_wL cI aL L, ul_wK cI aD D, ul_wK cI aK K, ul_wS cI aN (aK 0) u8, ul_wS cI aT (aK 0) T, ul_wJ cO aJ aB u9, ul_wE cI aE E, ul_wG cI aF (aK 0) (aN 0) (aT 0) F, ul_wB cI aP (aK 0) 2 P, ul_wB cI aB (aK 0) 14 B] : List va_W).flatten := hD
      refine lv_aload_n hx hb dX6_again_41 rfl (lv_at hl 0 rfl) ?_
      refine va_get (D := (dC, dI)) (ci := 6) (v := .ref (aN 0)) (C := RX6) (T := TX6) (N := 11) hx hb hts hin6 hown hK hP 0 rfl rfl 3 (by decide) (hts (.fieldLink RX6 31 "UnderLadders" "now" "LUnderLadders$Street;") (by decide +kernel)) (fun _ h9 => h9) rfl dX6_again_42 ?_
      refine va_getN (D := (dC, dI)) (ci := 4) (v := .int (u8 0 0)) (C := RX4) (T := TX4) (N := 8) hx hb hts hin4 hown hK hP 21 rfl rfl 7 (by decide) (va_Nw.use rfl (hN.1 (RX6, 251, "UnderLadders$Street", "days", "I") (by decide +kernel))) (fun _ h9 => h9) rfl dX6_again_45 ?_
      have hr9 := hK0 ((u8 0 0), u8, u9) h
      subst hr9
      exact W.iret (v := (u8 0 0)) hx hb hr (fun t ht hW => ⟨⟨(u8 0 0), (), rfl, rfl, by rw [ht]; exact hP, va_K.moved hW.alike hK, hD⟩, hS.F ht⟩) hS.2.2 dX6_again_48
    · have h := ul_if_t hc5 h
      refine lv_bipush (v := -3) hx hb dX6_again_18 (by decide) ?_
      have hr9 := hK0 ((-3 : Int32), N, J) h
      subst hr9
      exact W.iret (v := (-3 : Int32)) hx hb hr (fun t ht hW => ⟨⟨(-3 : Int32), (), rfl, rfl, by rw [ht]; exact hP, va_K.moved hW.alike hK, hD⟩, hS.F ht⟩) hS.2.2 dX6_again_20
  · have h := ul_if_t hc2 h
    refine lv_iconst (v := -1) hx hb dX6_again_7 (by decide) ?_
    have hr9 := hK0 ((-1 : Int32), N, J) h
    subst hr9
    exact W.iret (v := (-1 : Int32)) hx hb hr (fun t ht hW => ⟨⟨(-1 : Int32), (), rfl, rfl, by rw [ht]; exact hP, va_K.moved hW.alike hK, hD⟩, hS.F ht⟩) hS.2.2 dX6_again_8
def f_X6_count (L : ul_S) (K : ul_S) (N : ul_S) (J : ul_S) (E : ul_S) (p1 : Int32) : Option Int32 :=
  if p1 = 0 then (some (L 0 0)) else (if p1 = 1 then (some (K 0 0)) else (if p1 = 2 then (some (K 0 1)) else (if p1 = 3 then (some (N 0 0)) else (if p1 = 4 then ((f_X4_luckOfPeople N K).bind fun u6 => some u6) else (if p1 = 5 then ((f_X4_luckOfMen N K).bind fun u8 => some u8) else (if p1 = 6 then ((f_X4_goldOfMen N K).bind fun u10 => some u10) else (if p1 = 7 then ((f_X4_peopleAtHome N K).bind fun u12 => some u12) else (if p1 = 8 then (some (J 0 1)) else (if p1 = 9 then (some (E 0 0)) else (some (-2 : Int32)))))))))))
set_option maxHeartbeats 4000000 in
set_option maxRecDepth 100000 in
theorem c_X6_count (l : Launch) (dC : Nat → ClassId) (dI : Nat → Nat → Nat) (cI : ClassId) (cZ : ClassId) (cO : ClassId) (aU : Nat → Nat) (aL : Nat → Nat) (aD : Nat → Nat) (aK : Nat → Nat) (aN : Nat → Nat) (aT : Nat → Nat) (aJ : Nat → Nat) (aE : Nat → Nat) (aF : Nat → Nat) (aP : Nat → Nat → Nat) (aB : Nat → Nat → Nat) (sz : Nat) (U : ul_S) (d : Int64) (L : ul_S) (D : ul_S) (K : ul_S) (N : ul_S) (T : ul_S) (J : ul_S) (E : ul_S) (F : ul_S) (P : ul_F) (B : ul_F) (p1 : Int32) (r : Int32) (h : f_X6_count L K N J E p1 = some r) : Met l yX6_count wsX6_count ({ frames := 1, cells := 0, slots := 0, locals := 22 }) (va_Pc [.ref (aU 0), .int p1] (ul_pre (dC, dI) [(cI, .int), (cZ, .boolean), (cO, .object RX4)] ul_NX sz ([ul_wU cZ cO aU (aL 0) (aD 0) (aK 0) (aN 0) (aT 0) (aJ 0) (aE 0) (aF 0) aP U d, ul_wL cI aL L, ul_wK cI aD D, ul_wK cI aK K, ul_wS cI aN (aK 0) N, ul_wS cI aT (aK 0) T, ul_wJ cO aJ aB J, ul_wE cI aE E, ul_wG cI aF (aK 0) (aN 0) (aT 0) F, ul_wB cI aP (aK 0) 2 P, ul_wB cI aB (aK 0) 14 B] : List va_W).flatten)) (va_Qi (fun v (_ : Unit) => v = r) (fun _ => ul_post (dC, dI) [(cI, .int), (cZ, .boolean), (cO, .object RX4)] (va_A ([ul_wU cZ cO aU (aL 0) (aD 0) (aK 0) (aN 0) (aT 0) (aJ 0) (aE 0) (aF 0) aP U d, ul_wL cI aL L, ul_wK cI aD D, ul_wK cI aK K, ul_wS cI aN (aK 0) N, ul_wS cI aT (aK 0) T, ul_wJ cO aJ aB J, ul_wE cI aE E, ul_wG cI aF (aK 0) (aN 0) (aT 0) F, ul_wB cI aP (aK 0) 2 P, ul_wB cI aB (aK 0) 14 B] : List va_W).flatten sz) ([ul_wU cZ cO aU (aL 0) (aD 0) (aK 0) (aN 0) (aT 0) (aJ 0) (aE 0) (aF 0) aP U d, ul_wL cI aL L, ul_wK cI aD D, ul_wK cI aK K, ul_wS cI aN (aK 0) N, ul_wS cI aT (aK 0) T, ul_wJ cO aJ aB J, ul_wE cI aE E, ul_wG cI aF (aK 0) (aN 0) (aT 0) F, ul_wB cI aP (aK 0) 2 P, ul_wB cI aB (aK 0) 14 B] : List va_W).flatten) (va_A ([ul_wU cZ cO aU (aL 0) (aD 0) (aK 0) (aN 0) (aT 0) (aJ 0) (aE 0) (aF 0) aP U d, ul_wL cI aL L, ul_wK cI aD D, ul_wK cI aK K, ul_wS cI aN (aK 0) N, ul_wS cI aT (aK 0) T, ul_wJ cO aJ aB J, ul_wE cI aE E, ul_wG cI aF (aK 0) (aN 0) (aT 0) F, ul_wB cI aP (aK 0) 2 P, ul_wB cI aB (aK 0) 14 B] : List va_W).flatten sz)) 0 0 (va_A ([ul_wU cZ cO aU (aL 0) (aD 0) (aK 0) (aN 0) (aT 0) (aJ 0) (aE 0) (aF 0) aP U d, ul_wL cI aL L, ul_wK cI aD D, ul_wK cI aK K, ul_wS cI aN (aK 0) N, ul_wS cI aT (aK 0) T, ul_wJ cO aJ aB J, ul_wE cI aE E, ul_wG cI aF (aK 0) (aN 0) (aT 0) F, ul_wB cI aP (aK 0) 2 P, ul_wB cI aB (aK 0) 14 B] : List va_W).flatten sz) := by
  refine Met.ofW (cc := cX6_count) (maxL := 2) (ret := (some .int)) (by decide) rfl ?_
  intro p e s m args below meth c s₁ BB hml hv
  obtain ⟨rfl, hsz, hP, hK, hD0, hN⟩ := hv
  have hx := BB.exec
  have hb := BB.bytes
  have hr := BB.returns
  have hts := atoms_spec (ws := wsX6_count) BB.pre
  have hown : s.vm.findClass RX6 = some m.cls := findClass_of_methodNamed BB.named
  have hlocks := BB.notSynchronized
  have hin0 : ∀ w ∈ u_ws RX0 TX0 3, w ∈ wsX6_count := by decide +kernel
  have hin2 : ∀ w ∈ u_ws RX2 TX2 9, w ∈ wsX6_count := by decide +kernel
  have hin3 : ∀ w ∈ u_ws RX3 TX3 3, w ∈ wsX6_count := by decide +kernel
  have hin4 : ∀ w ∈ u_ws RX4 TX4 8, w ∈ wsX6_count := by decide +kernel
  have hin5 : ∀ w ∈ u_ws RX5 TX5 2, w ∈ wsX6_count := by decide +kernel
  have hin6 : ∀ w ∈ u_ws RX6 TX6 11, w ∈ wsX6_count := by decide +kernel
  subst hsz
  have hD := hD0.self (sz := s.heap.size)
  generalize hAe : va_A ([ul_wU cZ cO aU (aL 0) (aD 0) (aK 0) (aN 0) (aT 0) (aJ 0) (aE 0) (aF 0) aP U d, ul_wL cI aL L, ul_wK cI aD D, ul_wK cI aK K, ul_wS cI aN (aK 0) N, ul_wS cI aT (aK 0) T, ul_wJ cO aJ aB J, ul_wE cI aE E, ul_wG cI aF (aK 0) (aN 0) (aT 0) F, ul_wB cI aP (aK 0) 2 P, ul_wB cI aB (aK 0) 14 B] : List va_W).flatten s.heap.size = A at hD hN ⊢
  have hA : ∀ q : Nat, s.heap.size ≤ q → A q := fun q h => by rw [← hAe]; exact Or.inr h
  have hS : va_S A s.heap s.heap [] := va_S.rf
  have hl := lv_entry ([.ref (aU 0), .int p1]) (n := 2) (Nat.le_of_ble_eq_true rfl)
  rw [lg_entry_eq]
  generalize (lg_sl ([.ref (aU 0), .int p1]) ++ List.replicate (2 - (lg_sl ([.ref (aU 0), .int p1])).length) Slot.unset).toArray = ls at hl ⊢
  have hl : lv_has ls 2 [(0, .ref (aU 0)), (1, .int p1)] := hl
  obtain ⟨K0, hK0, h⟩ := ul_top h
  unfold f_X6_count at h
  refine ul_gen (fun G gi ge => ?_)
  obtain ⟨H, eH⟩ : ∃ z, z = s.heap := ⟨_, rfl⟩
  obtain ⟨locs, eL⟩ : ∃ z : List Loc, z = [] := ⟨_, rfl⟩
  have hP : va_P (dC, dI) classes ([ul_wU cZ cO aU (aL 0) (aD 0) (aK 0) (aN 0) (aT 0) (aJ 0) (aE 0) (aF 0) aP U d, ul_wL cI aL L, ul_wK cI aD D, ul_wK cI aK K, ul_wS cI aN (aK 0) N, ul_wS cI aT (aK 0) T, ul_wJ cO aJ aB J, ul_wE cI aE E, ul_wG cI aF (aK 0) (aN 0) (aT 0) F, ul_wB cI aP (aK 0) 2 P, ul_wB cI aB (aK 0) 14 B] : List va_W).flatten H := by rw [eH]; exact hP
  have hS : va_S A s.heap H locs := by rw [eH, eL]; exact hS
  rw [← eL]
  refine (show G H locs (F0 m 0 ls []) → G s.heap locs (F0 m 0 ls []) from fun z => by rw [← eH]; exact z) ?_
  refine gi _ _ _ ?_
  refine lv_iload_n hx hb dX6_count_0 rfl (lv_at hl 1 rfl) ?_
  by_cases hc1 : p1 = 0
  · have h := ul_if_t hc1 h
    refine lv_tableIn (off := 55) (tgt := 56) hx hb dX6_count_1 (by rw [hc1]; decide) (by rw [hc1]; decide) (by rw [hc1]; decide) (by decide) ?_
    refine lv_aload_n hx hb dX6_count_56 rfl (lv_at hl 0 rfl) ?_
    refine va_get (D := (dC, dI)) (ci := 6) (v := .ref (aL 0)) (C := RX6) (T := TX6) (N := 11) hx hb hts hin6 hown hK hP 0 rfl rfl 0 (by decide) (hts (.fieldLink RX6 12 "UnderLadders" "text" "LUnderLadders$Text;") (by decide +kernel)) (fun _ h9 => h9) rfl dX6_count_57 ?_
    refine va_getN (D := (dC, dI)) (ci := 5) (v := .int (L 0 0)) (C := RX5) (T := TX5) (N := 2) hx hb hts hin5 hown hK hP 3 rfl rfl 1 (by decide) (va_Nw.use rfl (hN.1 (RX6, 254, "UnderLadders$Text", "length", "I") (by decide +kernel))) (fun _ h9 => h9) rfl dX6_count_60 ?_
    have hr9 := hK0 (L 0 0) h
    subst hr9
    exact W.iret (v := (L 0 0)) hx hb hr (fun t ht hW => ⟨⟨(L 0 0), (), rfl, rfl, by rw [ht]; exact hP, va_K.moved hW.alike hK, hD⟩, hS.F ht⟩) hS.2.2 dX6_count_63
  · have h := ul_if_f hc1 h
    by_cases hc2 : p1 = 1
    · have h := ul_if_t hc2 h
      refine lv_tableIn (off := 63) (tgt := 64) hx hb dX6_count_1 (by rw [hc2]; decide) (by rw [hc2]; decide) (by rw [hc2]; decide) (by decide) ?_
      refine lv_aload_n hx hb dX6_count_64 rfl (lv_at hl 0 rfl) ?_
      refine va_get (D := (dC, dI)) (ci := 6) (v := .ref (aK 0)) (C := RX6) (T := TX6) (N := 11) hx hb hts hin6 hown hK hP 0 rfl rfl 2 (by decide) (hts (.fieldLink RX6 23 "UnderLadders" "fixed" "LUnderLadders$Market;") (by decide +kernel)) (fun _ h9 => h9) rfl dX6_count_65 ?_
      refine va_getN (D := (dC, dI)) (ci := 2) (v := .int (K 0 0)) (C := RX2) (T := TX2) (N := 9) hx hb hts hin2 hown hK hP 13 rfl rfl 7 (by decide) (va_Nw.use rfl (hN.1 (RX6, 86, "UnderLadders$Market", "ladders", "I") (by decide +kernel))) (fun _ h9 => h9) rfl dX6_count_68 ?_
      have hr9 := hK0 (K 0 0) h
      subst hr9
      exact W.iret (v := (K 0 0)) hx hb hr (fun t ht hW => ⟨⟨(K 0 0), (), rfl, rfl, by rw [ht]; exact hP, va_K.moved hW.alike hK, hD⟩, hS.F ht⟩) hS.2.2 dX6_count_71
    · have h := ul_if_f hc2 h
      by_cases hc3 : p1 = 2
      · have h := ul_if_t hc3 h
        refine lv_tableIn (off := 71) (tgt := 72) hx hb dX6_count_1 (by rw [hc3]; decide) (by rw [hc3]; decide) (by rw [hc3]; decide) (by decide) ?_
        refine lv_aload_n hx hb dX6_count_72 rfl (lv_at hl 0 rfl) ?_
        refine va_get (D := (dC, dI)) (ci := 6) (v := .ref (aK 0)) (C := RX6) (T := TX6) (N := 11) hx hb hts hin6 hown hK hP 0 rfl rfl 2 (by decide) (hts (.fieldLink RX6 23 "UnderLadders" "fixed" "LUnderLadders$Market;") (by decide +kernel)) (fun _ h9 => h9) rfl dX6_count_73 ?_
        refine va_getN (D := (dC, dI)) (ci := 2) (v := .int (K 0 1)) (C := RX2) (T := TX2) (N := 9) hx hb hts hin2 hown hK hP 13 rfl rfl 8 (by decide) (va_Nw.use rfl (hN.1 (RX6, 90, "UnderLadders$Market", "people", "I") (by decide +kernel))) (fun _ h9 => h9) rfl dX6_count_76 ?_
        have hr9 := hK0 (K 0 1) h
        subst hr9
        exact W.iret (v := (K 0 1)) hx hb hr (fun t ht hW => ⟨⟨(K 0 1), (), rfl, rfl, by rw [ht]; exact hP, va_K.moved hW.alike hK, hD⟩, hS.F ht⟩) hS.2.2 dX6_count_79
      · have h := ul_if_f hc3 h
        by_cases hc4 : p1 = 3
        · have h := ul_if_t hc4 h
          refine lv_tableIn (off := 79) (tgt := 80) hx hb dX6_count_1 (by rw [hc4]; decide) (by rw [hc4]; decide) (by rw [hc4]; decide) (by decide) ?_
          refine lv_aload_n hx hb dX6_count_80 rfl (lv_at hl 0 rfl) ?_
          refine va_get (D := (dC, dI)) (ci := 6) (v := .ref (aN 0)) (C := RX6) (T := TX6) (N := 11) hx hb hts hin6 hown hK hP 0 rfl rfl 3 (by decide) (hts (.fieldLink RX6 31 "UnderLadders" "now" "LUnderLadders$Street;") (by decide +kernel)) (fun _ h9 => h9) rfl dX6_count_81 ?_
          refine va_getN (D := (dC, dI)) (ci := 4) (v := .int (N 0 0)) (C := RX4) (T := TX4) (N := 8) hx hb hts hin4 hown hK hP 21 rfl rfl 7 (by decide) (va_Nw.use rfl (hN.1 (RX6, 251, "UnderLadders$Street", "days", "I") (by decide +kernel))) (fun _ h9 => h9) rfl dX6_count_84 ?_
          have hr9 := hK0 (N 0 0) h
          subst hr9
          exact W.iret (v := (N 0 0)) hx hb hr (fun t ht hW => ⟨⟨(N 0 0), (), rfl, rfl, by rw [ht]; exact hP, va_K.moved hW.alike hK, hD⟩, hS.F ht⟩) hS.2.2 dX6_count_87
        · have h := ul_if_f hc4 h
          by_cases hc5 : p1 = 4
          · have h := ul_if_t hc5 h
            refine lv_tableIn (off := 87) (tgt := 88) hx hb dX6_count_1 (by rw [hc5]; decide) (by rw [hc5]; decide) (by rw [hc5]; decide) (by decide) ?_
            refine lv_aload_n hx hb dX6_count_88 rfl (lv_at hl 0 rfl) ?_
            refine va_get (D := (dC, dI)) (ci := 6) (v := .ref (aN 0)) (C := RX6) (T := TX6) (N := 11) hx hb hts hin6 hown hK hP 0 rfl rfl 3 (by decide) (hts (.fieldLink RX6 31 "UnderLadders" "now" "LUnderLadders$Street;") (by decide +kernel)) (fun _ h9 => h9) rfl dX6_count_89 ?_
            obtain ⟨u6, hu6, h⟩ := ul_cl_h h
            refine ul_cPi (As := []) (rest := []) (wc := (ul_wS cI aN (aK 0) N ++ ul_wK cI aK K)) (wc' := (ul_wS cI aN (aK 0) N ++ ul_wK cI aK K)) (wr := ([ul_wU cZ cO aU (aL 0) (aD 0) (aK 0) (aN 0) (aT 0) (aJ 0) (aE 0) (aF 0) aP U d, ul_wL cI aL L, ul_wK cI aD D, ul_wS cI aT (aK 0) T, ul_wJ cO aJ aB J, ul_wE cI aE E, ul_wG cI aF (aK 0) (aN 0) (aT 0) F, ul_wB cI aP (aK 0) 2 P, ul_wB cI aB (aK 0) 14 B] : List va_W).flatten) hP hD hS hK hA [0] ul_NX_ok hN (c_X4_luckOfPeople l dC dI cI aN aK H.size N K u6 hu6) (ul_pmq (bs := [ul_wU cZ cO aU (aL 0) (aD 0) (aK 0) (aN 0) (aT 0) (aJ 0) (aE 0) (aF 0) aP U d, ul_wL cI aL L, ul_wK cI aD D, ul_wK cI aK K, ul_wS cI aN (aK 0) N, ul_wS cI aT (aK 0) T, ul_wJ cO aJ aB J, ul_wE cI aE E, ul_wG cI aF (aK 0) (aN 0) (aT 0) F, ul_wB cI aP (aK 0) 2 P, ul_wB cI aB (aK 0) 14 B]) [4, 3, 0, 1, 2, 5, 6, 7, 8, 9, 10] (by show List.Perm _ (List.range 11); decide) (by simp only [List.map_cons, List.map_nil, List.getD_cons_zero, List.getD_cons_succ, List.flatten_cons, List.flatten_nil, List.append_nil, List.nil_append, List.append_assoc])) rfl ⟨hx, hb, hml, hown, hts⟩ (cwV 0 hts gX6_count_X4_luckOfPeople rfl rfl rfl (by decide +kernel) ⟨Nat.le_of_ble_eq_true rfl, Nat.le_of_ble_eq_true rfl⟩) (va_recv hK hP (ci := 4) (q0 := 21) rfl rfl) rfl hl.1 rfl (Nat.le_of_ble_eq_true rfl) dX6_count_92 (fun H locs hw => ?_)
            have hw := hw.pm (ul_pmq (bs := [ul_wU cZ cO aU (aL 0) (aD 0) (aK 0) (aN 0) (aT 0) (aJ 0) (aE 0) (aF 0) aP U d, ul_wL cI aL L, ul_wK cI aD D, ul_wK cI aK K, ul_wS cI aN (aK 0) N, ul_wS cI aT (aK 0) T, ul_wJ cO aJ aB J, ul_wE cI aE E, ul_wG cI aF (aK 0) (aN 0) (aT 0) F, ul_wB cI aP (aK 0) 2 P, ul_wB cI aB (aK 0) 14 B]) [0, 1, 2, 5, 6, 7, 8, 9, 10, 4, 3] (by show List.Perm _ (List.range 11); decide) (by simp only [List.map_cons, List.map_nil, List.getD_cons_zero, List.getD_cons_succ, List.flatten_cons, List.flatten_nil, List.append_nil, List.nil_append, List.append_assoc])).symm
            obtain ⟨hP, hD, hS⟩ := hw
            have hP : va_P (dC, dI) classes ([ul_wU cZ cO aU (aL 0) (aD 0) (aK 0) (aN 0) (aT 0) (aJ 0) (aE 0) (aF 0) aP U d, ul_wL cI aL L, ul_wK cI aD D, ul_wK cI aK K, ul_wS cI aN (aK 0) N, ul_wS cI aT (aK 0) T, ul_wJ cO aJ aB J, ul_wE cI aE E, ul_wG cI aF (aK 0) (aN 0) (aT 0) F, ul_wB cI aP (aK 0) 2 P, ul_wB cI aB (aK 0) 14 B] : List va_W).flatten H := hP
            have hD : va_D A ([ul_wU cZ cO aU (aL 0) (aD 0) (aK 0) (aN 0) (aT 0) (aJ 0) (aE 0) (aF 0) aP U d, ul_wL cI aL L, ul_wK cI aD D, ul_wK cI aK K, ul_wS cI aN (aK 0) N, ul_wS cI aT (aK 0) T, ul_wJ cO aJ aB J, ul_wE cI aE E, ul_wG cI aF (aK 0) (aN 0) (aT 0) F, ul_wB cI aP (aK 0) 2 P, ul_wB cI aB (aK 0) 14 B] : List va_W).flatten := hD
            have hr9 := hK0 u6 h
            subst hr9
            exact W.iret (v := u6) hx hb hr (fun t ht hW => ⟨⟨u6, (), rfl, rfl, by rw [ht]; exact hP, va_K.moved hW.alike hK, hD⟩, hS.F ht⟩) hS.2.2 dX6_count_95
          · have h := ul_if_f hc5 h
            by_cases hc7 : p1 = 5
            · have h := ul_if_t hc7 h
              refine lv_tableIn (off := 95) (tgt := 96) hx hb dX6_count_1 (by rw [hc7]; decide) (by rw [hc7]; decide) (by rw [hc7]; decide) (by decide) ?_
              refine lv_aload_n hx hb dX6_count_96 rfl (lv_at hl 0 rfl) ?_
              refine va_get (D := (dC, dI)) (ci := 6) (v := .ref (aN 0)) (C := RX6) (T := TX6) (N := 11) hx hb hts hin6 hown hK hP 0 rfl rfl 3 (by decide) (hts (.fieldLink RX6 31 "UnderLadders" "now" "LUnderLadders$Street;") (by decide +kernel)) (fun _ h9 => h9) rfl dX6_count_97 ?_
              obtain ⟨u8, hu8, h⟩ := ul_cl_h h
              refine ul_cPi (As := []) (rest := []) (wc := (ul_wS cI aN (aK 0) N ++ ul_wK cI aK K)) (wc' := (ul_wS cI aN (aK 0) N ++ ul_wK cI aK K)) (wr := ([ul_wU cZ cO aU (aL 0) (aD 0) (aK 0) (aN 0) (aT 0) (aJ 0) (aE 0) (aF 0) aP U d, ul_wL cI aL L, ul_wK cI aD D, ul_wS cI aT (aK 0) T, ul_wJ cO aJ aB J, ul_wE cI aE E, ul_wG cI aF (aK 0) (aN 0) (aT 0) F, ul_wB cI aP (aK 0) 2 P, ul_wB cI aB (aK 0) 14 B] : List va_W).flatten) hP hD hS hK hA [0] ul_NX_ok hN (c_X4_luckOfMen l dC dI cI aN aK H.size N K u8 hu8) (ul_pmq (bs := [ul_wU cZ cO aU (aL 0) (aD 0) (aK 0) (aN 0) (aT 0) (aJ 0) (aE 0) (aF 0) aP U d, ul_wL cI aL L, ul_wK cI aD D, ul_wK cI aK K, ul_wS cI aN (aK 0) N, ul_wS cI aT (aK 0) T, ul_wJ cO aJ aB J, ul_wE cI aE E, ul_wG cI aF (aK 0) (aN 0) (aT 0) F, ul_wB cI aP (aK 0) 2 P, ul_wB cI aB (aK 0) 14 B]) [4, 3, 0, 1, 2, 5, 6, 7, 8, 9, 10] (by show List.Perm _ (List.range 11); decide) (by simp only [List.map_cons, List.map_nil, List.getD_cons_zero, List.getD_cons_succ, List.flatten_cons, List.flatten_nil, List.append_nil, List.nil_append, List.append_assoc])) rfl ⟨hx, hb, hml, hown, hts⟩ (cwV 0 hts gX6_count_X4_luckOfMen rfl rfl rfl (by decide +kernel) ⟨Nat.le_of_ble_eq_true rfl, Nat.le_of_ble_eq_true rfl⟩) (va_recv hK hP (ci := 4) (q0 := 21) rfl rfl) rfl hl.1 rfl (Nat.le_of_ble_eq_true rfl) dX6_count_100 (fun H locs hw => ?_)
              have hw := hw.pm (ul_pmq (bs := [ul_wU cZ cO aU (aL 0) (aD 0) (aK 0) (aN 0) (aT 0) (aJ 0) (aE 0) (aF 0) aP U d, ul_wL cI aL L, ul_wK cI aD D, ul_wK cI aK K, ul_wS cI aN (aK 0) N, ul_wS cI aT (aK 0) T, ul_wJ cO aJ aB J, ul_wE cI aE E, ul_wG cI aF (aK 0) (aN 0) (aT 0) F, ul_wB cI aP (aK 0) 2 P, ul_wB cI aB (aK 0) 14 B]) [0, 1, 2, 5, 6, 7, 8, 9, 10, 4, 3] (by show List.Perm _ (List.range 11); decide) (by simp only [List.map_cons, List.map_nil, List.getD_cons_zero, List.getD_cons_succ, List.flatten_cons, List.flatten_nil, List.append_nil, List.nil_append, List.append_assoc])).symm
              obtain ⟨hP, hD, hS⟩ := hw
              have hP : va_P (dC, dI) classes ([ul_wU cZ cO aU (aL 0) (aD 0) (aK 0) (aN 0) (aT 0) (aJ 0) (aE 0) (aF 0) aP U d, ul_wL cI aL L, ul_wK cI aD D, ul_wK cI aK K, ul_wS cI aN (aK 0) N, ul_wS cI aT (aK 0) T, ul_wJ cO aJ aB J, ul_wE cI aE E, ul_wG cI aF (aK 0) (aN 0) (aT 0) F, ul_wB cI aP (aK 0) 2 P, ul_wB cI aB (aK 0) 14 B] : List va_W).flatten H := hP
              have hD : va_D A ([ul_wU cZ cO aU (aL 0) (aD 0) (aK 0) (aN 0) (aT 0) (aJ 0) (aE 0) (aF 0) aP U d, ul_wL cI aL L, ul_wK cI aD D, ul_wK cI aK K, ul_wS cI aN (aK 0) N, ul_wS cI aT (aK 0) T, ul_wJ cO aJ aB J, ul_wE cI aE E, ul_wG cI aF (aK 0) (aN 0) (aT 0) F, ul_wB cI aP (aK 0) 2 P, ul_wB cI aB (aK 0) 14 B] : List va_W).flatten := hD
              have hr9 := hK0 u8 h
              subst hr9
              exact W.iret (v := u8) hx hb hr (fun t ht hW => ⟨⟨u8, (), rfl, rfl, by rw [ht]; exact hP, va_K.moved hW.alike hK, hD⟩, hS.F ht⟩) hS.2.2 dX6_count_103
            · have h := ul_if_f hc7 h
              by_cases hc9 : p1 = 6
              · have h := ul_if_t hc9 h
                refine lv_tableIn (off := 103) (tgt := 104) hx hb dX6_count_1 (by rw [hc9]; decide) (by rw [hc9]; decide) (by rw [hc9]; decide) (by decide) ?_
                refine lv_aload_n hx hb dX6_count_104 rfl (lv_at hl 0 rfl) ?_
                refine va_get (D := (dC, dI)) (ci := 6) (v := .ref (aN 0)) (C := RX6) (T := TX6) (N := 11) hx hb hts hin6 hown hK hP 0 rfl rfl 3 (by decide) (hts (.fieldLink RX6 31 "UnderLadders" "now" "LUnderLadders$Street;") (by decide +kernel)) (fun _ h9 => h9) rfl dX6_count_105 ?_
                obtain ⟨u10, hu10, h⟩ := ul_cl_h h
                refine ul_cPi (As := []) (rest := []) (wc := (ul_wS cI aN (aK 0) N ++ ul_wK cI aK K)) (wc' := (ul_wS cI aN (aK 0) N ++ ul_wK cI aK K)) (wr := ([ul_wU cZ cO aU (aL 0) (aD 0) (aK 0) (aN 0) (aT 0) (aJ 0) (aE 0) (aF 0) aP U d, ul_wL cI aL L, ul_wK cI aD D, ul_wS cI aT (aK 0) T, ul_wJ cO aJ aB J, ul_wE cI aE E, ul_wG cI aF (aK 0) (aN 0) (aT 0) F, ul_wB cI aP (aK 0) 2 P, ul_wB cI aB (aK 0) 14 B] : List va_W).flatten) hP hD hS hK hA [0] ul_NX_ok hN (c_X4_goldOfMen l dC dI cI aN aK H.size N K u10 hu10) (ul_pmq (bs := [ul_wU cZ cO aU (aL 0) (aD 0) (aK 0) (aN 0) (aT 0) (aJ 0) (aE 0) (aF 0) aP U d, ul_wL cI aL L, ul_wK cI aD D, ul_wK cI aK K, ul_wS cI aN (aK 0) N, ul_wS cI aT (aK 0) T, ul_wJ cO aJ aB J, ul_wE cI aE E, ul_wG cI aF (aK 0) (aN 0) (aT 0) F, ul_wB cI aP (aK 0) 2 P, ul_wB cI aB (aK 0) 14 B]) [4, 3, 0, 1, 2, 5, 6, 7, 8, 9, 10] (by show List.Perm _ (List.range 11); decide) (by simp only [List.map_cons, List.map_nil, List.getD_cons_zero, List.getD_cons_succ, List.flatten_cons, List.flatten_nil, List.append_nil, List.nil_append, List.append_assoc])) rfl ⟨hx, hb, hml, hown, hts⟩ (cwV 0 hts gX6_count_X4_goldOfMen rfl rfl rfl (by decide +kernel) ⟨Nat.le_of_ble_eq_true rfl, Nat.le_of_ble_eq_true rfl⟩) (va_recv hK hP (ci := 4) (q0 := 21) rfl rfl) rfl hl.1 rfl (Nat.le_of_ble_eq_true rfl) dX6_count_108 (fun H locs hw => ?_)
                have hw := hw.pm (ul_pmq (bs := [ul_wU cZ cO aU (aL 0) (aD 0) (aK 0) (aN 0) (aT 0) (aJ 0) (aE 0) (aF 0) aP U d, ul_wL cI aL L, ul_wK cI aD D, ul_wK cI aK K, ul_wS cI aN (aK 0) N, ul_wS cI aT (aK 0) T, ul_wJ cO aJ aB J, ul_wE cI aE E, ul_wG cI aF (aK 0) (aN 0) (aT 0) F, ul_wB cI aP (aK 0) 2 P, ul_wB cI aB (aK 0) 14 B]) [0, 1, 2, 5, 6, 7, 8, 9, 10, 4, 3] (by show List.Perm _ (List.range 11); decide) (by simp only [List.map_cons, List.map_nil, List.getD_cons_zero, List.getD_cons_succ, List.flatten_cons, List.flatten_nil, List.append_nil, List.nil_append, List.append_assoc])).symm
                obtain ⟨hP, hD, hS⟩ := hw
                have hP : va_P (dC, dI) classes ([ul_wU cZ cO aU (aL 0) (aD 0) (aK 0) (aN 0) (aT 0) (aJ 0) (aE 0) (aF 0) aP U d, ul_wL cI aL L, ul_wK cI aD D, ul_wK cI aK K, ul_wS cI aN (aK 0) N, ul_wS cI aT (aK 0) T, ul_wJ cO aJ aB J, ul_wE cI aE E, ul_wG cI aF (aK 0) (aN 0) (aT 0) F, ul_wB cI aP (aK 0) 2 P, ul_wB cI aB (aK 0) 14 B] : List va_W).flatten H := hP
                have hD : va_D A ([ul_wU cZ cO aU (aL 0) (aD 0) (aK 0) (aN 0) (aT 0) (aJ 0) (aE 0) (aF 0) aP U d, ul_wL cI aL L, ul_wK cI aD D, ul_wK cI aK K, ul_wS cI aN (aK 0) N, ul_wS cI aT (aK 0) T, ul_wJ cO aJ aB J, ul_wE cI aE E, ul_wG cI aF (aK 0) (aN 0) (aT 0) F, ul_wB cI aP (aK 0) 2 P, ul_wB cI aB (aK 0) 14 B] : List va_W).flatten := hD
                have hr9 := hK0 u10 h
                subst hr9
                exact W.iret (v := u10) hx hb hr (fun t ht hW => ⟨⟨u10, (), rfl, rfl, by rw [ht]; exact hP, va_K.moved hW.alike hK, hD⟩, hS.F ht⟩) hS.2.2 dX6_count_111
              · have h := ul_if_f hc9 h
                by_cases hc11 : p1 = 7
                · have h := ul_if_t hc11 h
                  refine lv_tableIn (off := 111) (tgt := 112) hx hb dX6_count_1 (by rw [hc11]; decide) (by rw [hc11]; decide) (by rw [hc11]; decide) (by decide) ?_
                  refine lv_aload_n hx hb dX6_count_112 rfl (lv_at hl 0 rfl) ?_
                  refine va_get (D := (dC, dI)) (ci := 6) (v := .ref (aN 0)) (C := RX6) (T := TX6) (N := 11) hx hb hts hin6 hown hK hP 0 rfl rfl 3 (by decide) (hts (.fieldLink RX6 31 "UnderLadders" "now" "LUnderLadders$Street;") (by decide +kernel)) (fun _ h9 => h9) rfl dX6_count_113 ?_
                  obtain ⟨u12, hu12, h⟩ := ul_cl_h h
                  refine ul_cPi (As := []) (rest := []) (wc := (ul_wS cI aN (aK 0) N ++ ul_wK cI aK K)) (wc' := (ul_wS cI aN (aK 0) N ++ ul_wK cI aK K)) (wr := ([ul_wU cZ cO aU (aL 0) (aD 0) (aK 0) (aN 0) (aT 0) (aJ 0) (aE 0) (aF 0) aP U d, ul_wL cI aL L, ul_wK cI aD D, ul_wS cI aT (aK 0) T, ul_wJ cO aJ aB J, ul_wE cI aE E, ul_wG cI aF (aK 0) (aN 0) (aT 0) F, ul_wB cI aP (aK 0) 2 P, ul_wB cI aB (aK 0) 14 B] : List va_W).flatten) hP hD hS hK hA [0] ul_NX_ok hN (c_X4_peopleAtHome l dC dI cI aN aK H.size N K u12 hu12) (ul_pmq (bs := [ul_wU cZ cO aU (aL 0) (aD 0) (aK 0) (aN 0) (aT 0) (aJ 0) (aE 0) (aF 0) aP U d, ul_wL cI aL L, ul_wK cI aD D, ul_wK cI aK K, ul_wS cI aN (aK 0) N, ul_wS cI aT (aK 0) T, ul_wJ cO aJ aB J, ul_wE cI aE E, ul_wG cI aF (aK 0) (aN 0) (aT 0) F, ul_wB cI aP (aK 0) 2 P, ul_wB cI aB (aK 0) 14 B]) [4, 3, 0, 1, 2, 5, 6, 7, 8, 9, 10] (by show List.Perm _ (List.range 11); decide) (by simp only [List.map_cons, List.map_nil, List.getD_cons_zero, List.getD_cons_succ, List.flatten_cons, List.flatten_nil, List.append_nil, List.nil_append, List.append_assoc])) rfl ⟨hx, hb, hml, hown, hts⟩ (cwV 0 hts gX6_count_X4_peopleAtHome rfl rfl rfl (by decide +kernel) ⟨Nat.le_of_ble_eq_true rfl, Nat.le_of_ble_eq_true rfl⟩) (va_recv hK hP (ci := 4) (q0 := 21) rfl rfl) rfl hl.1 rfl (Nat.le_of_ble_eq_true rfl) dX6_count_116 (fun H locs hw => ?_)
                  have hw := hw.pm (ul_pmq (bs := [ul_wU cZ cO aU (aL 0) (aD 0) (aK 0) (aN 0) (aT 0) (aJ 0) (aE 0) (aF 0) aP U d, ul_wL cI aL L, ul_wK cI aD D, ul_wK cI aK K, ul_wS cI aN (aK 0) N, ul_wS cI aT (aK 0) T, ul_wJ cO aJ aB J, ul_wE cI aE E, ul_wG cI aF (aK 0) (aN 0) (aT 0) F, ul_wB cI aP (aK 0) 2 P, ul_wB cI aB (aK 0) 14 B]) [0, 1, 2, 5, 6, 7, 8, 9, 10, 4, 3] (by show List.Perm _ (List.range 11); decide) (by simp only [List.map_cons, List.map_nil, List.getD_cons_zero, List.getD_cons_succ, List.flatten_cons, List.flatten_nil, List.append_nil, List.nil_append, List.append_assoc])).symm
                  obtain ⟨hP, hD, hS⟩ := hw
                  have hP : va_P (dC, dI) classes ([ul_wU cZ cO aU (aL 0) (aD 0) (aK 0) (aN 0) (aT 0) (aJ 0) (aE 0) (aF 0) aP U d, ul_wL cI aL L, ul_wK cI aD D, ul_wK cI aK K, ul_wS cI aN (aK 0) N, ul_wS cI aT (aK 0) T, ul_wJ cO aJ aB J, ul_wE cI aE E, ul_wG cI aF (aK 0) (aN 0) (aT 0) F, ul_wB cI aP (aK 0) 2 P, ul_wB cI aB (aK 0) 14 B] : List va_W).flatten H := hP
                  have hD : va_D A ([ul_wU cZ cO aU (aL 0) (aD 0) (aK 0) (aN 0) (aT 0) (aJ 0) (aE 0) (aF 0) aP U d, ul_wL cI aL L, ul_wK cI aD D, ul_wK cI aK K, ul_wS cI aN (aK 0) N, ul_wS cI aT (aK 0) T, ul_wJ cO aJ aB J, ul_wE cI aE E, ul_wG cI aF (aK 0) (aN 0) (aT 0) F, ul_wB cI aP (aK 0) 2 P, ul_wB cI aB (aK 0) 14 B] : List va_W).flatten := hD
                  have hr9 := hK0 u12 h
                  subst hr9
                  exact W.iret (v := u12) hx hb hr (fun t ht hW => ⟨⟨u12, (), rfl, rfl, by rw [ht]; exact hP, va_K.moved hW.alike hK, hD⟩, hS.F ht⟩) hS.2.2 dX6_count_119
                · have h := ul_if_f hc11 h
                  by_cases hc13 : p1 = 8
                  · have h := ul_if_t hc13 h
                    refine lv_tableIn (off := 119) (tgt := 120) hx hb dX6_count_1 (by rw [hc13]; decide) (by rw [hc13]; decide) (by rw [hc13]; decide) (by decide) ?_
                    refine lv_aload_n hx hb dX6_count_120 rfl (lv_at hl 0 rfl) ?_
                    refine va_get (D := (dC, dI)) (ci := 6) (v := .ref (aJ 0)) (C := RX6) (T := TX6) (N := 11) hx hb hts hin6 hown hK hP 0 rfl rfl 5 (by decide) (hts (.fieldLink RX6 41 "UnderLadders" "acts" "LUnderLadders$Acts;") (by decide +kernel)) (fun _ h9 => h9) rfl dX6_count_121 ?_
                    refine va_getN (D := (dC, dI)) (ci := 0) (v := .int (J 0 1)) (C := RX0) (T := TX0) (N := 3) hx hb hts hin0 hown hK hP 35 rfl rfl 2 (by decide) (va_Nw.use rfl (hN.1 (RX6, 165, "UnderLadders$Acts", "size", "I") (by decide +kernel))) (fun _ h9 => h9) rfl dX6_count_124 ?_
                    have hr9 := hK0 (J 0 1) h
                    subst hr9
                    exact W.iret (v := (J 0 1)) hx hb hr (fun t ht hW => ⟨⟨(J 0 1), (), rfl, rfl, by rw [ht]; exact hP, va_K.moved hW.alike hK, hD⟩, hS.F ht⟩) hS.2.2 dX6_count_127
                  · have h := ul_if_f hc13 h
                    by_cases hc14 : p1 = 9
                    · have h := ul_if_t hc14 h
                      refine lv_tableIn (off := 127) (tgt := 128) hx hb dX6_count_1 (by rw [hc14]; decide) (by rw [hc14]; decide) (by rw [hc14]; decide) (by decide) ?_
                      refine lv_aload_n hx hb dX6_count_128 rfl (lv_at hl 0 rfl) ?_
                      refine va_get (D := (dC, dI)) (ci := 6) (v := .ref (aE 0)) (C := RX6) (T := TX6) (N := 11) hx hb hts hin6 hown hK hP 0 rfl rfl 6 (by decide) (hts (.fieldLink RX6 48 "UnderLadders" "seen" "LUnderLadders$Seen;") (by decide +kernel)) (fun _ h9 => h9) rfl dX6_count_129 ?_
                      refine va_getN (D := (dC, dI)) (ci := 3) (v := .int (E 0 0)) (C := RX3) (T := TX3) (N := 3) hx hb hts hin3 hown hK hP 37 rfl rfl 2 (by decide) (va_Nw.use rfl (hN.1 (RX6, 266, "UnderLadders$Seen", "size", "I") (by decide +kernel))) (fun _ h9 => h9) rfl dX6_count_132 ?_
                      have hr9 := hK0 (E 0 0) h
                      subst hr9
                      exact W.iret (v := (E 0 0)) hx hb hr (fun t ht hW => ⟨⟨(E 0 0), (), rfl, rfl, by rw [ht]; exact hP, va_K.moved hW.alike hK, hD⟩, hS.F ht⟩) hS.2.2 dX6_count_135
                    · have h := ul_if_f hc14 h
                      refine lv_tableOut (tgt := 136) hx hb dX6_count_1 (by have z0 := lv_neT (a := 0) hc1 (by decide); have z1 := lv_neT (a := 1) hc2 (by decide); have z2 := lv_neT (a := 2) hc3 (by decide); have z3 := lv_neT (a := 3) hc4 (by decide); have z4 := lv_neT (a := 4) hc5 (by decide); have z5 := lv_neT (a := 5) hc7 (by decide); have z6 := lv_neT (a := 6) hc9 (by decide); have z7 := lv_neT (a := 7) hc11 (by decide); have z8 := lv_neT (a := 8) hc13 (by decide); have z9 := lv_neT (a := 9) hc14 (by decide); omega) (by decide) ?_
                      refine lv_bipush (v := -2) hx hb dX6_count_136 (by decide) ?_
                      have hr9 := hK0 (-2 : Int32) h
                      subst hr9
                      exact W.iret (v := (-2 : Int32)) hx hb hr (fun t ht hW => ⟨⟨(-2 : Int32), (), rfl, rfl, by rw [ht]; exact hP, va_K.moved hW.alike hK, hD⟩, hS.F ht⟩) hS.2.2 dX6_count_138
