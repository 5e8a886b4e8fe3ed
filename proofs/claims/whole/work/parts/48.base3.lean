/-! own words for the outer classes: worlds up to the order of their blocks, families of streets -/
abbrev ul_F : Type := Nat → ul_S
def ul_ck {β : Type} (n : Nat) (i : Int32) (k : Nat → Option β) : Option β := if i < 0 ∨ n ≤ i.toNatClampNeg then none else k i.toNatClampNeg
theorem ul_ck_h {β γ : Type} {n : Nat} {i : Int32} {k : Nat → Option β} {K : β → Option γ} {r : γ} (h : (ul_ck n i k).bind K = some r) : vp_in i n ∧ ∀ j, j = i.toNatClampNeg → (k j).bind K = some r := by
  unfold ul_ck at h
  split at h
  · cases h
  · rename_i hc
    refine ⟨hc, ?_⟩
    intro v hv
    subst hv
    exact h
def ul_rf (n : Nat) (a : Nat → Nat → Nat) : Nat → Option Nat := fun j => if j < n then some (a j 0) else none
abbrev ul_wJ (cO : ClassId) (a : Nat → Nat) (b : Nat → Nat → Nat) (T : ul_S) : va_W := [(a 0, .inr (0, [.ref (a 1), .int (T 0 0), .int (T 0 1)])), (a 1, .inl (cO, 14, .inr (.inr (.inr (.inr (ul_rf 14 b))))))]
abbrev ul_wU (cZ cO : ClassId) (a : Nat → Nat) (k0 k1 k2 k3 k4 k5 k6 k7 : Nat) (b : Nat → Nat → Nat) (T : ul_S) (d : Int64) : va_W := [(a 0, .inr (6, [.ref k0, .ref k1, .ref k2, .ref k3, .ref k4, .ref k5, .ref k6, .ref k7, .ref (a 1), .ref (a 2), .long d])), (a 1, .inl (cO, 2, .inr (.inr (.inr (.inr (ul_rf 2 b)))))), (a 2, .inl (cZ, 2, .inl (T 2)))]
def ul_wB (cI : ClassId) (a : Nat → Nat → Nat) (k n : Nat) (R : Nat → ul_S) : va_W := (List.range n).flatMap (fun j => ul_wS cI (a j) k (R j))
def ul_wX (cI : ClassId) (a : Nat → Nat → Nat) (k n j : Nat) (R : Nat → ul_S) : va_W := ((List.range n).erase j).flatMap (fun j => ul_wS cI (a j) k (R j))
theorem ul_wB_sp {cI : ClassId} {a : Nat → Nat → Nat} {k n j : Nat} {R : Nat → ul_S} (h : j < n) : (ul_wB cI a k n R).Perm (ul_wS cI (a j) k (R j) ++ ul_wX cI a k n j R) := by
  have h1 := (List.perm_cons_erase (List.mem_range.mpr h)).flatMap_right (fun j => ul_wS cI (a j) k (R j))
  exact h1
theorem ul_wX_up {cI : ClassId} {a : Nat → Nat → Nat} {k n j : Nat} {R : Nat → ul_S} {u : ul_S} : ul_wX cI a k n j (va_up R j u) = ul_wX cI a k n j R := by
  unfold ul_wX
  have hn : (List.range n).Nodup := List.nodup_range
  have he : ∀ i ∈ (List.range n).erase j, ul_wS cI (a i) k (va_up R j u i) = ul_wS cI (a i) k (R i) := by
    intro i hi
    have hij : i ≠ j := ((List.Nodup.mem_erase_iff hn).mp hi).1
    rw [va_up_ne R u hij]
  rw [List.flatMap_def, List.flatMap_def, List.map_congr_left he]
theorem ul_ap {A : Nat → Prop} {w : va_W} : va_D A w ↔ w.Pairwise (fun p q => p.1 ≠ q.1) ∧ ∀ q ∈ w, A q.1 := by
  constructor
  · intro h
    refine ⟨List.pairwise_iff_getElem.mpr (fun i j hi hj hij he => ?_), fun q hq => ?_⟩
    · have := h.1 i j w[i] w[j] (List.getElem?_eq_getElem hi) (List.getElem?_eq_getElem hj) he
      omega
    · obtain ⟨k, hk⟩ := List.mem_iff_getElem?.mp hq
      exact h.2 k q hk
  · intro h
    refine ⟨fun i j p q hi hj he => ?_, fun k q hk => h.2 q (List.mem_of_getElem? hk)⟩
    obtain ⟨hi1, hi2⟩ := List.getElem?_eq_some_iff.mp hi
    obtain ⟨hj1, hj2⟩ := List.getElem?_eq_some_iff.mp hj
    have hp := List.pairwise_iff_getElem.mp h.1
    rcases Nat.lt_trichotomy i j with g | g | g
    · exact absurd (by rw [hi2, hj2]; exact he) (hp i j hi1 hj1 g)
    · exact g
    · exact absurd (by rw [hi2, hj2]; exact he.symm) (hp j i hj1 hi1 g)
theorem ul_pP {D : va_G} {w w' : va_W} {H : Heap} (h : va_P D classes w H) (hp : w.Perm w') : va_P D classes w' H := fun k q hk => by
  obtain ⟨i, hi⟩ := List.mem_iff_getElem?.mp (hp.mem_iff.mpr (List.mem_of_getElem? hk))
  exact h i q hi
theorem ul_pD {A : Nat → Prop} {w w' : va_W} (h : va_D A w) (hp : w.Perm w') : va_D A w' := by
  rw [ul_ap] at h ⊢
  exact ⟨(hp.pairwise_iff (fun h e => h e.symm)).mp h.1, fun q hq => h.2 q (hp.mem_iff.mpr hq)⟩
theorem ul_H.pm {D : va_G} {A : Nat → Prop} {H0 : Heap} {w w' : va_W} {H : Heap} {locs : List Loc} (h : ul_H D A H0 w H locs) (hp : w.Perm w') : ul_H D A H0 w' H locs := ⟨ul_pP h.1 hp, ul_pD h.2.1 hp, h.2.2⟩
theorem ul_pmq {bs : List va_W} {v : va_W} (is : List Nat) (h : is.Perm (List.range bs.length)) (e : (is.map (fun i => bs.getD i [])).flatten = v) : bs.flatten.Perm v := by
  subst e
  have h1 : ((List.range bs.length).map (fun i => bs.getD i [])) = bs := by
    apply List.ext_getElem?
    intro i
    rw [List.getElem?_map]
    by_cases hi : i < bs.length
    · rw [List.getElem?_range hi, List.getElem?_eq_getElem hi]
      simp [hi]
    · rw [List.getElem?_eq_none (by simpa using hi), List.getElem?_eq_none (by omega)]
      rfl
  have h2 := (h.map (fun i => bs.getD i [])).flatten
  rw [h1] at h2
  exact h2.symm
theorem ul_nd : ∀ {l : List Nat}, l.Nodup → va_nd l = true := by
  intro l
  induction l with
  | nil => intro _; rfl
  | cons a l ih =>
    intro h
    have h2 := List.nodup_cons.mp h
    simp [va_nd, h2.1, ih h2.2]
theorem ul_ixC (wc wr : va_W) : (List.range wc.length).map (fun i => (wc ++ wr)[i]?) = wc.map some := by
  apply List.ext_getElem?
  intro i
  rw [List.getElem?_map, List.getElem?_map]
  by_cases hi : i < wc.length
  · rw [List.getElem?_range hi, List.getElem?_eq_getElem hi]
    simp [List.getElem?_append_left hi, List.getElem?_eq_getElem hi]
  · rw [List.getElem?_eq_none (by simpa using hi), List.getElem?_eq_none (by omega)]
    rfl
theorem ul_fm {w v : va_W} {is : List Nat} (h : is.map (fun i => w[i]?) = v.map some) : is.filterMap (fun i => w[i]?) = v := by
  have h1 : is.filterMap (fun i => w[i]?) = (is.map (fun i => w[i]?)).filterMap id := by rw [List.filterMap_map]; rfl
  rw [h1, h, List.filterMap_map]
  simp
theorem ul_ixR (wc wr : va_W) : ((List.range wr.length).map (fun i => i + wc.length)).map (fun i => (wc ++ wr)[i]?) = wr.map some := by
  apply List.ext_getElem?
  intro i
  rw [List.map_map, List.getElem?_map, List.getElem?_map]
  by_cases hi : i < wr.length
  · rw [List.getElem?_range hi, List.getElem?_eq_getElem hi]
    simp only [Option.map_some, Function.comp]
    rw [List.getElem?_append_right (by omega), Nat.add_sub_cancel, List.getElem?_eq_getElem hi]
  · rw [List.getElem?_eq_none (by simpa using hi), List.getElem?_eq_none (by omega)]
    rfl
theorem ul_ndm (n k : Nat) : ((List.range n).map (fun i => i + k)).Nodup := List.Pairwise.map (fun i => i + k) (fun a b (h : a ≠ b) e => h (by have e2 : a + k = b + k := e; omega)) List.nodup_range
section ULP
variable {p : Program} {l : Launch} {e : Env} {R : Room} {s : State} {m : MethodId} {args : Array Value} {below : List Frame} {meth : Method} {c : Code} {H : Heap} {locs : List Loc} {Q : State → Prop}
variable {y : MethodName} {bytes cc : ByteArray} {maxL nL n index : Nat} {ret : Option FieldType} {ws : List Cond} {rm : Room} {Ts : List Cond} {own C : String} {b : Nat} {As rest st0 : List Value} {pc : Nat} {ls : Array Slot} {D : va_G} {A : Nat → Prop} {H0 : Heap} {tys tysC : List (ClassId × FieldType)} {w wc wr wc' : va_W} {NC : (Nat → Prop) → State → Prop}
theorem ul_cPi {rv : Int32} (hP : va_P D classes w H) (hD : va_D A w) (hS : va_S A s.heap H locs) (hK : va_K D classes tys s) (hA : ∀ q, s.heap.size ≤ q → A q) (isK : List Nat) (hN : ul_Ok NC) (hNC : NC A s) (hM : Met l y ws rm (va_Pc (Value.ref b :: As) (ul_pre D tysC NC H.size wc)) (va_Qi (fun v (_ : Unit) => v = rv) (fun _ => ul_post D tysC (va_A wc H.size) wc') (va_A wc H.size)) 0 0 (va_A wc H.size)) (hp : w.Perm (wc ++ wr)) (hKs : isK.filterMap (fun i => tys[i]?) = tysC)
    (S : CallFix p m c cc nL s args Ts own) (cw : CallW R s args own C index y bytes maxL ret ws rm 0 0 n) (hrc : ∃ cell : Cell, H[b]? = some cell ∧ cell.vm.isStatics = false ∧ s.vm.findClass C = some cell.cls) (hlen : As.length = n) (hsize : ls.size = nL) (hstack : st0 = As.reverse ++ .ref b :: rest) (hroom : (rest.map fun v => v.category).sum ≤ 8) (hdg : decode cc pc = .ok (.invokevirtual index, 3))
    (kk : ∀ (H1 : Heap) (locs1 : List Loc), ul_H D A s.heap (wr ++ wc') H1 locs1 → W p l e R s m args below meth c H1 locs1 0 0 Q (F0 m (pc + 3) ls (.int rv :: rest))) : W p l e R s m args below meth c H locs 0 0 Q (F0 m pc ls st0) :=
  ul_cVi (ul_pP hP hp) (ul_pD hD hp) hS hK hA (List.range wc.length) ((List.range wr.length).map (fun i => i + wc.length)) isK hN hNC hM (ul_ixC wc wr) (ul_fm (ul_ixC wc wr)) (ul_nd List.nodup_range) (ul_ixR wc wr) (ul_nd (ul_ndm wr.length wc.length)) (fun i hi hj => by
    obtain ⟨k, _, hk⟩ := List.mem_map.mp hi
    have := List.mem_range.mp hj
    omega) hKs S cw hrc hlen hsize hstack hroom hdg kk
theorem ul_cPv (hP : va_P D classes w H) (hD : va_D A w) (hS : va_S A s.heap H locs) (hK : va_K D classes tys s) (hA : ∀ q, s.heap.size ≤ q → A q) (isK : List Nat) (hN : ul_Ok NC) (hNC : NC A s) (hM : Met l y ws rm (va_Pc (Value.ref b :: As) (ul_pre D tysC NC H.size wc)) (va_Qv (fun (_ : Unit) => True) (fun _ => ul_post D tysC (va_A wc H.size) wc') (va_A wc H.size)) 0 0 (va_A wc H.size)) (hp : w.Perm (wc ++ wr)) (hKs : isK.filterMap (fun i => tys[i]?) = tysC)
    (S : CallFix p m c cc nL s args Ts own) (cw : CallW R s args own C index y bytes maxL ret ws rm 0 0 n) (hrc : ∃ cell : Cell, H[b]? = some cell ∧ cell.vm.isStatics = false ∧ s.vm.findClass C = some cell.cls) (hlen : As.length = n) (hsize : ls.size = nL) (hstack : st0 = As.reverse ++ .ref b :: rest) (hroom : (rest.map fun v => v.category).sum ≤ 8) (hdg : decode cc pc = .ok (.invokevirtual index, 3))
    (kk : ∀ (H1 : Heap) (locs1 : List Loc), ul_H D A s.heap (wr ++ wc') H1 locs1 → W p l e R s m args below meth c H1 locs1 0 0 Q (F0 m (pc + 3) ls rest)) : W p l e R s m args below meth c H locs 0 0 Q (F0 m pc ls st0) :=
  ul_cVv (ul_pP hP hp) (ul_pD hD hp) hS hK hA (List.range wc.length) ((List.range wr.length).map (fun i => i + wc.length)) isK hN hNC hM (ul_ixC wc wr) (ul_fm (ul_ixC wc wr)) (ul_nd List.nodup_range) (ul_ixR wc wr) (ul_nd (ul_ndm wr.length wc.length)) (fun i hi hj => by
    obtain ⟨k, _, hk⟩ := List.mem_map.mp hi
    have := List.mem_range.mp hj
    omega) hKs S cw hrc hlen hsize hstack hroom hdg kk
theorem ul_aald (hexec : p.tables.exec = Jvm.exec) (hb : c.code = cc) (hK : va_K D classes tys s) (hP : va_P D classes w H) (q0 t0 : Nat) {a : Nat} {cA : ClassId} {C0 : String} {n0 : Nat} {f : Nat → Nat → Nat} (ha : w[q0]? = some (a, .inl (cA, n0, .inr (.inr (.inr (.inr (ul_rf n0 f))))))) (ht : tys[t0]? = some (cA, .object C0)) {i : Int32} (hin : vp_in i n0) (hdg : decode cc pc = .ok (.aaload, 1))
    (kk : ∀ j : Nat, j = i.toNatClampNeg → j < n0 → W p l e R s m args below meth c H locs 0 0 Q (F0 m (pc + 1) ls (.ref (f j 0) :: rest))) : W p l e R s m args below meth c H locs 0 0 Q (F0 m pc ls (.int i :: .ref a :: rest)) := by
  have hj : i.toNatClampNeg < n0 := by
    have h1 : ¬ (i < 0 ∨ n0 ≤ i.toNatClampNeg) := hin
    have h2 : ¬ n0 ≤ i.toNatClampNeg := fun h => h1 (Or.inr h)
    omega
  refine va_aldq hexec hb hK hP q0 t0 ha ht hin hdg ?_
  have h3 : ul_rf n0 f i.toNatClampNeg = some (f i.toNatClampNeg 0) := if_pos hj
  rw [h3]
  exact kk _ rfl hj
end ULP
theorem ul_wB_fd {cI : ClassId} {a : Nat → Nat → Nat} {k n j : Nat} {R : Nat → ul_S} {u : ul_S} (h : j < n) : (ul_wB cI a k n (va_up R j u)).Perm (ul_wS cI (a j) k u ++ ul_wX cI a k n j R) := by
  have h1 := ul_wB_sp (cI := cI) (a := a) (k := k) (R := va_up R j u) h
  rw [va_up_self, ul_wX_up] at h1
  exact h1
theorem ul_spl (X Y : List va_W) {B m r : va_W} (h : B.Perm (m ++ r)) : (X ++ B :: Y).flatten.Perm (X ++ m :: r :: Y).flatten := by
  simp only [List.flatten_append, List.flatten_cons]
  have h1 := (h.append_right Y.flatten).append_left X.flatten
  simpa only [List.append_assoc] using h1
