/-! the start: what a new object is on both sides; the law's entry -/
theorem zs_2 : ∀ a, a < 10 → ul_ZS 2 a = -9 := by decide +kernel
theorem zs_0 : ul_ZS 0 0 = 0 := by decide +kernel
theorem rr_start : ul_RR 0 ul_Z 0 ul_Z ul_Z ul_ZS ul_Z ul_Z ul_Z 0 (fun _ => ul_ZS) (fun _ => ul_ZS) := by
  refine ⟨0, 0, ⟨by omega, by omega, rfl, rfl, rfl, rfl, fun l hl => by omega, fun p hp => by omega⟩, ⟨⟨fun l hl => by omega, fun a ha => Or.inl ⟨zs_2 a ha, fun l hl => by omega⟩⟩, fun l hl => by omega, fun p hp => by omega, fun p hp => by omega, zs_0⟩, ⟨0, by omega, rfl, rfl, fun i hi => by omega⟩, ⟨0, 0, by omega, by omega, rfl, rfl, rfl, rfl, fun k hk => by omega⟩, ⟨0, by omega, rfl, rfl, fun i hi => by omega⟩, fun s _ => ⟨rfl, Or.inl rfl⟩, rfl⟩
set_option maxRecDepth 100000 in
theorem nf_in : ∀ q ∈ ul_nf, Cond.fieldLinkNest q.1 q.2.1 q.2.2.1 q.2.2.2.1 q.2.2.2.2 "UnderLadders" ∈ lw_tbl := by decide +kernel
set_option maxRecDepth 100000 in
theorem nm_in : ∀ q ∈ ul_nm, Cond.methodLinkNest q.1 q.2.1 q.2.2 "UnderLadders" ∈ lw_tbl := by decide +kernel
theorem sk_in : ∀ j, j < 3 → Cond.eq (.elem (.static "UnderLadders" "KINDS_SEEN" "[I") (.int (Int32.ofNat j))) (.int (ul_ks j)) ∈ flatC (Jvm.Cond.and given_1 narrow_1) := by decide +kernel
theorem nx_start {s : State} {b : Nat} (hts0 : ∀ w ∈ lw_tbl, w.before #[Value.ref b] s = true) (hgv : (Jvm.Cond.and given_1 narrow_1).before #[Value.ref b] s = true) : ul_NX (fun q => s.heap.size ≤ q) s := by
  have hg := flat_of_before _ hgv
  have hA : ∀ a : Nat, a < s.heap.size → ¬ (fun q => s.heap.size ≤ q) a := fun a h => Nat.not_le.mpr h
  have hini : (Cond.initialized "UnderLadders").before #[Value.ref b] s = true := hts0 _ (by decide +kernel)
  obtain ⟨tK, eK, hKs⟩ := va_Tof (tm := .static "UnderLadders" "KINDS_SEEN" "[I") (ty := .int) (N := 3) (f := fun j => .int (ul_ks j)) (A := fun q => s.heap.size ≤ q) (by decide) (hg _ (by decide +kernel)) (va_eqt (hg (Cond.eq (.length (.static "UnderLadders" "KINDS_SEEN" "[I")) (.int (Int32.ofNat 3))) (by decide +kernel))) (fun j hj => va_eqt (hg _ (sk_in j hj))) hA
  exact ⟨fun q hq => va_Nw.of rfl (hts0 _ (nf_in q hq)), fun q hq => va_Nw.of rfl (hts0 _ (nm_in q hq)), tK, va_Zref (hts0 _ (by decide +kernel)) hini eK hA, hKs⟩
theorem k_start {s : State} {b : Nat} (hts0 : ∀ w ∈ lw_tbl, w.before #[Value.ref b] s = true) : ∃ (dC : Nat → ClassId) (dI : Nat → Nat → Nat) (cI cZ cO : ClassId), va_K (dC, dI) classes [(cI, .int), (cZ, .boolean), (cO, .object RX4)] s := by
  obtain ⟨c0, i0, hKn0⟩ := u_known (C := RX0) (T := TX0) (N := 3) (n := 3) hts0 wl_X0 (hts0 (.instantiable RX0 3) (by decide +kernel))
  obtain ⟨c1, i1, hKn1⟩ := u_known (C := RX1) (T := TX1) (N := 9) (n := 9) hts0 wl_X1 (hts0 (.instantiable RX1 9) (by decide +kernel))
  obtain ⟨c2, i2, hKn2⟩ := u_known (C := RX2) (T := TX2) (N := 9) (n := 9) hts0 wl_X2 (hts0 (.instantiable RX2 9) (by decide +kernel))
  obtain ⟨c3, i3, hKn3⟩ := u_known (C := RX3) (T := TX3) (N := 3) (n := 3) hts0 wl_X3 (hts0 (.instantiable RX3 3) (by decide +kernel))
  obtain ⟨c4, i4, hKn4⟩ := u_known (C := RX4) (T := TX4) (N := 8) (n := 8) hts0 wl_X4 (hts0 (.instantiable RX4 8) (by decide +kernel))
  obtain ⟨c5, i5, hKn5⟩ := u_known (C := RX5) (T := TX5) (N := 2) (n := 2) hts0 wl_X5 (hts0 (.instantiable RX5 2) (by decide +kernel))
  obtain ⟨c6, i6, hKn6⟩ := u_known (C := RX6) (T := TX6) (N := 11) (n := 11) hts0 wl_X6 (hts0 (.instantiable RX6 11) (by decide +kernel))
  obtain ⟨c7, i7, hKn7⟩ := u_known (C := RX7) (T := TX7) (N := 26) (n := 26) hts0 wl_X7 (hts0 (.instantiable RX7 26) (by decide +kernel))
  obtain ⟨dC, dI, hKc⟩ : ∃ (dC : Nat → ClassId) (dI : Nat → Nat → Nat), ∀ (k : Nat) (q : vw_C), classes[k]? = some q → u_Kn s q.1 q.2.1 q.2.2 (dC k) (dI k) := by
    refine ⟨fun k => ([c0, c1, c2, c3, c4, c5, c6, c7] : List ClassId).getD k c0, fun k => ([i0, i1, i2, i3, i4, i5, i6, i7] : List (Nat → Nat)).getD k i0, ?_⟩
    intro k q hq
    match k, hq with
    | 0, hq => cases hq; exact hKn0
    | 1, hq => cases hq; exact hKn1
    | 2, hq => cases hq; exact hKn2
    | 3, hq => cases hq; exact hKn3
    | 4, hq => cases hq; exact hKn4
    | 5, hq => cases hq; exact hKn5
    | 6, hq => cases hq; exact hKn6
    | 7, hq => cases hq; exact hKn7
    | k + 8, hq => simp [classes] at hq
  obtain ⟨cI, kI, pI, a1, a2, a3⟩ := Cond.arrayClass_spec (hts0 (.arrayClass .int) (by decide +kernel))
  obtain ⟨cZ, kZ, pZ, b1, b2, b3⟩ := Cond.arrayClass_spec (hts0 (.arrayClass .boolean) (by decide +kernel))
  obtain ⟨pO, cO, kO, d1, d2, d3, d4, d5⟩ := Cond.arrayOver_spec (hts0 (.arrayOver (.object RX4)) (by decide +kernel))
  refine ⟨dC, dI, cI, cZ, cO, hKc, ?_⟩
  intro k q hq
  match k, hq with
  | 0, hq => cases hq; exact ⟨fun n z => ⟨fun k h => (by cases h), kI, a2, pI, a3⟩, a1⟩
  | 1, hq => cases hq; exact ⟨fun n z => ⟨fun k h => (by cases h), kZ, b2, pZ, b3⟩, b1⟩
  | 2, hq => cases hq; exact ⟨fun n z => ⟨fun k h => (by cases h), kO, d3, pO, d4⟩, kO, pO, d3, d4, d1, d5⟩
  | k + 3, hq => simp at hq
set_option maxHeartbeats 8000000 in
set_option maxRecDepth 100000 in
theorem whole_start {p : Program} {e : Env} {s : State} {m : MethodId} {below : List Frame} {meth : Method} {c : Code} (l : Launch) {b L : Nat} {xs : Nat → Int32} (hL : L ≤ 2560) (C0 : lw_At p s m meth c b L xs) : W p l e room_1 s m #[Value.ref b] below meth c s.heap [] 0 0 (lw_Z below #[Value.ref b] s) (entryFrame m ([Value.ref b] : List Value).toArray 4) := by
  obtain ⟨hx, hb, hr, hml, hown, hts0, hX, hbl, hlocks, hgv⟩ := id C0
  have hts : ∀ w ∈ wsL_law, w.before #[Value.ref b] s = true := fun w h => hts0 w (wsL_law_in w h)
  have hN := nx_start hts0 hgv
  obtain ⟨dC, dI, cI, cZ, cO, hK⟩ := k_start hts0
  have hNA : ul_NA (fun q : Nat => s.heap.size ≤ q) s := va_AO.of (hts0 (.arrayOver (.object RX4)) (by decide +kernel))
  have hA : ∀ q : Nat, s.heap.size ≤ q → (fun q : Nat => s.heap.size ≤ q) q := fun _ h => h
  have hS : va_S (fun q : Nat => s.heap.size ≤ q) s.heap s.heap [] := va_S.rf
  have hP : va_P (dC, dI) classes [] s.heap := fun k q h => by simp at h
  have hD : va_D (fun q : Nat => s.heap.size ≤ q) [] := ⟨fun i j p q h => by simp at h, fun k q h => by simp at h⟩
  have hl := lv_entry ([.ref b]) (n := 4) (Nat.le_of_ble_eq_true rfl)
  rw [lg_entry_eq]
  generalize (lg_sl ([.ref b]) ++ List.replicate (4 - (lg_sl ([.ref b])).length) Slot.unset).toArray = ls at hl ⊢
  have hl : lv_has ls 4 [(0, .ref b)] := hl
  refine va_new (ci := 6) (fs := [.null, .null, .null, .null, .null, .null, .null, .null, .null, .null, .long 0]) (C := RX6) (T := TX6) (N := 11) hx hb hts0 wl_X6 tyX6 tyX6_ok hown (hts0 (.classLink RL 7 RX6) (by decide +kernel)) (hts0 (.instantiable RX6 11) (by decide +kernel)) (hts0 (.initialized RX6) (by decide +kernel)) hK hP hD hS hA rfl (fun j hj => by rcases (show j = 0 ∨ j = 1 ∨ j = 2 ∨ j = 3 ∨ j = 4 ∨ j = 5 ∨ j = 6 ∨ j = 7 ∨ j = 8 ∨ j = 9 ∨ j = 10 by omega) with rfl | rfl | rfl | rfl | rfl | rfl | rfl | rfl | rfl | rfl | rfl <;> rfl) (Nat.le_of_ble_eq_true rfl) (Nat.le_of_ble_eq_true rfl) dL_law_0 (fun q0 H hP hD hS => ?_)
  have hP : va_P (dC, dI) classes [(q0, .inr (6, [.null, .null, .null, .null, .null, .null, .null, .null, .null, .null, .long 0]))] H := hP
  have hD : va_D (fun q : Nat => s.heap.size ≤ q) [(q0, .inr (6, [.null, .null, .null, .null, .null, .null, .null, .null, .null, .null, .long 0]))] := hD
  refine W.widen (k := 1) (n := 11) (by decide) (by decide) ?_
  refine lv_dup hx hb dL_law_3 rfl ?_
  refine ul_cPI (As := []) (rest := [.ref q0]) (wc := [(q0, .inr (6, [.null, .null, .null, .null, .null, .null, .null, .null, .null, .null, .long 0]))]) (wr := []) (w' := (fun u : (Nat → Nat) × (Nat → Nat) × (Nat → Nat) × (Nat → Nat) × (Nat → Nat) × (Nat → Nat) × (Nat → Nat) × (Nat → Nat) × (Nat → Nat) × (Nat → Nat → Nat) × (Nat → Nat → Nat) => ([ul_wU cZ cO u.1 (u.2.1 0) (u.2.2.1 0) (u.2.2.2.1 0) (u.2.2.2.2.1 0) (u.2.2.2.2.2.1 0) (u.2.2.2.2.2.2.1 0) (u.2.2.2.2.2.2.2.1 0) (u.2.2.2.2.2.2.2.2.1 0) u.2.2.2.2.2.2.2.2.2.1 ul_Z 0, ul_wL cI u.2.1 ul_Z, ul_wK cI u.2.2.1 ul_Z, ul_wK cI u.2.2.2.1 ul_Z, ul_wS cI u.2.2.2.2.1 (u.2.2.2.1 0) ul_ZS, ul_wS cI u.2.2.2.2.2.1 (u.2.2.2.1 0) ul_ZS, ul_wJ cO u.2.2.2.2.2.2.1 u.2.2.2.2.2.2.2.2.2.2 ul_Z, ul_wE cI u.2.2.2.2.2.2.2.1 ul_Z, ul_wG cI u.2.2.2.2.2.2.2.2.1 (u.2.2.2.1 0) (u.2.2.2.2.1 0) (u.2.2.2.2.2.1 0) ul_Z, ul_wB cI u.2.2.2.2.2.2.2.2.2.1 (u.2.2.2.1 0) 2 (fun _ => ul_ZS), ul_wB cI u.2.2.2.2.2.2.2.2.2.2 (u.2.2.2.1 0) 14 (fun _ => ul_ZS)] : List va_W).flatten)) hP hD hS hK hA [0, 1, 2] ul_NA_ok hNA (c_X6_init l dC dI cI cZ cO H.size q0) (List.Perm.refl _) rfl ⟨hx, hb, hml, hown, hts⟩ (cwI 0 hts gL_law_X6_init rfl rfl rfl (hts0 (.initialized RX6) (by decide +kernel)) (hts0 (.methodLink RL 9 yX6_init) (by decide +kernel)) (hts0 (.instanceMethod yX6_init) (by decide +kernel)) rfl (by decide +kernel) ⟨Nat.le_of_ble_eq_true rfl, Nat.le_of_ble_eq_true rfl⟩) rfl hl.1 rfl (Nat.le_of_ble_eq_true rfl) dL_law_4 ⟨Nat.le_of_ble_eq_true rfl, Nat.le_of_ble_eq_true rfl⟩ (fun u H locs hu hw => ?_)
  obtain ⟨aU, aL, aD, aK, aN, aT, aJ, aE, aF, aP, aB⟩ := u
  have hu : aU 0 = q0 := hu
  subst hu
  obtain ⟨hP, hD, hS⟩ := hw
  have hP : va_P (dC, dI) classes ([ul_wU cZ cO aU (aL 0) (aD 0) (aK 0) (aN 0) (aT 0) (aJ 0) (aE 0) (aF 0) aP ul_Z 0, ul_wL cI aL ul_Z, ul_wK cI aD ul_Z, ul_wK cI aK ul_Z, ul_wS cI aN (aK 0) ul_ZS, ul_wS cI aT (aK 0) ul_ZS, ul_wJ cO aJ aB ul_Z, ul_wE cI aE ul_Z, ul_wG cI aF (aK 0) (aN 0) (aT 0) ul_Z, ul_wB cI aP (aK 0) 2 (fun _ => ul_ZS), ul_wB cI aB (aK 0) 14 (fun _ => ul_ZS)] : List va_W).flatten H := hP
  have hD : va_D (fun q : Nat => s.heap.size ≤ q) ([ul_wU cZ cO aU (aL 0) (aD 0) (aK 0) (aN 0) (aT 0) (aJ 0) (aE 0) (aF 0) aP ul_Z 0, ul_wL cI aL ul_Z, ul_wK cI aD ul_Z, ul_wK cI aK ul_Z, ul_wS cI aN (aK 0) ul_ZS, ul_wS cI aT (aK 0) ul_ZS, ul_wJ cO aJ aB ul_Z, ul_wE cI aE ul_Z, ul_wG cI aF (aK 0) (aN 0) (aT 0) ul_Z, ul_wB cI aP (aK 0) 2 (fun _ => ul_ZS), ul_wB cI aB (aK 0) 14 (fun _ => ul_ZS)] : List va_W).flatten := hD
  refine W.widen (k := 157) (n := 1144) (by decide) (by decide) ?_
  refine lv_astore_n (lv' := [(1, .ref (aU 0)), (0, .ref b)]) hx hb dL_law_7 rfl hl (by decide) rfl (fun ls hl => ?_)
  refine va_new (ci := 7) (fs := [.int 0, .int 0, .null, .null, .null, .null, .null, .null, .null, .null, .int 0, .int 0, .int 0, .null, .int 0, .int 0, .int 0, .int 0, .int 0, .null, .int 0, .null, .null, .long 0, .null, .null]) (C := RX7) (T := TX7) (N := 26) hx hb hts0 wl_X7 tyX7 tyX7_ok hown (hts0 (.classLink RL 10 RX7) (by decide +kernel)) (hts0 (.instantiable RX7 26) (by decide +kernel)) (hts0 (.initialized RX7) (by decide +kernel)) hK hP hD hS hA rfl (fun j hj => by rcases (show j = 0 ∨ j = 1 ∨ j = 2 ∨ j = 3 ∨ j = 4 ∨ j = 5 ∨ j = 6 ∨ j = 7 ∨ j = 8 ∨ j = 9 ∨ j = 10 ∨ j = 11 ∨ j = 12 ∨ j = 13 ∨ j = 14 ∨ j = 15 ∨ j = 16 ∨ j = 17 ∨ j = 18 ∨ j = 19 ∨ j = 20 ∨ j = 21 ∨ j = 22 ∨ j = 23 ∨ j = 24 ∨ j = 25 by omega) with rfl | rfl | rfl | rfl | rfl | rfl | rfl | rfl | rfl | rfl | rfl | rfl | rfl | rfl | rfl | rfl | rfl | rfl | rfl | rfl | rfl | rfl | rfl | rfl | rfl | rfl <;> rfl) (Nat.le_of_ble_eq_true rfl) (Nat.le_of_ble_eq_true rfl) dL_law_8 (fun q7 H hP hD hS => ?_)
  refine W.widen (k := 158) (n := 1170) (by decide) (by decide) ?_
  refine lv_dup hx hb dL_law_11 rfl ?_
  refine ul_cPI (As := []) (rest := [.ref q7]) (wc := [(q7, .inr (7, [.int 0, .int 0, .null, .null, .null, .null, .null, .null, .null, .null, .int 0, .int 0, .int 0, .null, .int 0, .int 0, .int 0, .int 0, .int 0, .null, .int 0, .null, .null, .long 0, .null, .null]))]) (wr := ([ul_wU cZ cO aU (aL 0) (aD 0) (aK 0) (aN 0) (aT 0) (aJ 0) (aE 0) (aF 0) aP ul_Z 0, ul_wL cI aL ul_Z, ul_wK cI aD ul_Z, ul_wK cI aK ul_Z, ul_wS cI aN (aK 0) ul_ZS, ul_wS cI aT (aK 0) ul_ZS, ul_wJ cO aJ aB ul_Z, ul_wE cI aE ul_Z, ul_wG cI aF (aK 0) (aN 0) (aT 0) ul_Z, ul_wB cI aP (aK 0) 2 (fun _ => ul_ZS), ul_wB cI aB (aK 0) 14 (fun _ => ul_ZS)] : List va_W).flatten) (w' := (fun u : Nat → Nat => ul_wM cI cZ u ul_Z 0)) hP hD hS hK hA [0, 1] ul_N0_ok trivial (c_X7_init l dC dI cI cZ H.size q7) List.perm_append_comm rfl ⟨hx, hb, hml, hown, hts⟩ (cwI 0 hts gL_law_X7_init rfl rfl rfl (hts0 (.initialized RX7) (by decide +kernel)) (hts0 (.methodLink RL 12 yX7_init) (by decide +kernel)) (hts0 (.instanceMethod yX7_init) (by decide +kernel)) rfl (by decide +kernel) ⟨Nat.le_of_ble_eq_true rfl, Nat.le_of_ble_eq_true rfl⟩) rfl hl.1 rfl (Nat.le_of_ble_eq_true rfl) dL_law_12 ⟨Nat.le_of_ble_eq_true rfl, Nat.le_of_ble_eq_true rfl⟩ (fun aM H locs hu hw => ?_)
  have hu : aM 0 = q7 := hu
  subst hu
  have hw := hw.pm (ul_pmq (bs := [ul_wU cZ cO aU (aL 0) (aD 0) (aK 0) (aN 0) (aT 0) (aJ 0) (aE 0) (aF 0) aP ul_Z 0, ul_wL cI aL ul_Z, ul_wK cI aD ul_Z, ul_wK cI aK ul_Z, ul_wS cI aN (aK 0) ul_ZS, ul_wS cI aT (aK 0) ul_ZS, ul_wJ cO aJ aB ul_Z, ul_wE cI aE ul_Z, ul_wG cI aF (aK 0) (aN 0) (aT 0) ul_Z, ul_wM cI cZ aM ul_Z 0, ul_wB cI aP (aK 0) 2 (fun _ => ul_ZS), ul_wB cI aB (aK 0) 14 (fun _ => ul_ZS)]) [0, 1, 2, 3, 4, 5, 6, 7, 8, 10, 11, 9] (by show List.Perm _ (List.range 12); decide) (by simp only [List.map_cons, List.map_nil, List.getD_cons_zero, List.getD_cons_succ, List.flatten_cons, List.flatten_nil, List.append_nil, List.nil_append, List.append_assoc])).symm
  refine W.widen (k := 172) (n := 1701) (by decide) (by decide) ?_
  refine lv_astore_n (lv' := [(2, .ref (aM 0)), (1, .ref (aU 0)), (0, .ref b)]) hx hb dL_law_15 rfl hl (by decide) rfl (fun ls hl => ?_)
  refine lv_iconst (v := 0) hx hb dL_law_16 (by decide) ?_
  refine lv_istore_n (lv' := [(3, .int 0), (2, .ref (aM 0)), (1, .ref (aU 0)), (0, .ref b)]) hx hb dL_law_17 rfl hl (by decide) rfl (fun ls hl => ?_)
  exact w_L_law l C0 dC dI cI cZ cO aU aL aD aK aN aT aJ aE aF aM aP aB ul_Z 0 ul_Z ul_Z ul_Z ul_ZS ul_ZS ul_Z ul_Z ul_Z ul_Z 0 (fun _ => ul_ZS) (fun _ => ul_ZS) 0 hN hK 1 rfl (law_one hL rr_start ul_Z ul_ZS ul_Z) H locs hw ls (lv_sub hl [3, 2, 1, 0] rfl)
