/-! own words: pure programs as functions into Option, loops by one combinator; a world with its frame in one hypothesis; calls in one row -/
abbrev classes : List vw_C := [(RX0, TX0, 3), (RX1, TX1, 9), (RX2, TX2, 9), (RX3, TX3, 3), (RX4, TX4, 8), (RX5, TX5, 2), (RX6, TX6, 11), (RX7, TX7, 26)]
abbrev ul_S : Type := Nat → Nat → Int32
def ul_up (M : ul_S) (j i : Nat) (x : Int32) : ul_S := va_up M j (upd (M j) i x)
def ul_bd {α β : Type} (e : α) (f : α → Option β) : Option β := f e
def ul_ld {β : Type} (f : Nat → Int32) (n : Nat) (i : Int32) (k : Int32 → Option β) : Option β := if i < 0 ∨ n ≤ i.toNatClampNeg then none else k (f i.toNatClampNeg)
def ul_st {β : Type} (M : ul_S) (j n : Nat) (i x : Int32) (k : ul_S → Option β) : Option β := if i < 0 ∨ n ≤ i.toNatClampNeg then none else k (ul_up M j i.toNatClampNeg x)
def ul_nz {β : Type} (y : Int32) (k : Option β) : Option β := if y = 0 then none else k
def ul_nzl {β : Type} (y : Int64) (k : Option β) : Option β := if y = 0 then none else k
def ul_zb {β : Type} (y : Int32) (k : Option β) : Option β := if y = 0 ∨ y = 1 then k else none
def ul_it {σ ρ : Type} : Nat → (σ → Option (ρ ⊕ σ)) → σ → Option ρ
  | 0, _, _ => none
  | n + 1, b, s => (b s).bind (Sum.elim some (ul_it n b))
def ul_N : Nat := 4096
theorem ul_bd_h {α β γ : Type} {e : α} {f : α → Option β} {K : β → Option γ} {r : γ} (h : (ul_bd e f).bind K = some r) : ∀ x, x = e → (f x).bind K = some r := by
  intro x hx
  subst hx
  exact h
theorem ul_ld_h {β γ : Type} {f : Nat → Int32} {n : Nat} {i : Int32} {k : Int32 → Option β} {K : β → Option γ} {r : γ} (h : (ul_ld f n i k).bind K = some r) : vp_in i n ∧ ∀ v, v = f i.toNatClampNeg → (k v).bind K = some r := by
  unfold ul_ld at h
  split at h
  · cases h
  · rename_i hc
    refine ⟨hc, ?_⟩
    intro v hv
    subst hv
    exact h
theorem ul_st_h {β γ : Type} {M : ul_S} {j n : Nat} {i x : Int32} {k : ul_S → Option β} {K : β → Option γ} {r : γ} (h : (ul_st M j n i x k).bind K = some r) : vp_in i n ∧ ∀ v, v = ul_up M j i.toNatClampNeg x → (k v).bind K = some r := by
  unfold ul_st at h
  split at h
  · cases h
  · rename_i hc
    refine ⟨hc, ?_⟩
    intro v hv
    subst hv
    exact h
theorem ul_nz_h {β γ : Type} {y : Int32} {k : Option β} {K : β → Option γ} {r : γ} (h : (ul_nz y k).bind K = some r) : ¬ y = 0 ∧ k.bind K = some r := by
  unfold ul_nz at h
  split at h
  · cases h
  · rename_i hc
    exact ⟨hc, h⟩
theorem ul_nzl_h {β γ : Type} {y : Int64} {k : Option β} {K : β → Option γ} {r : γ} (h : (ul_nzl y k).bind K = some r) : ¬ y = 0 ∧ k.bind K = some r := by
  unfold ul_nzl at h
  split at h
  · cases h
  · rename_i hc
    exact ⟨hc, h⟩
theorem ul_zb_n (y : Int32) (h : y = 0 ∨ y = 1) : narrow .boolean (.int y) = .int y := by
  rcases h with h | h <;> subst h <;> decide
theorem ul_zb_h {β γ : Type} {y : Int32} {k : Option β} {K : β → Option γ} {r : γ} (h : (ul_zb y k).bind K = some r) : narrow .boolean (.int y) = .int y ∧ k.bind K = some r := by
  unfold ul_zb at h
  split at h
  · rename_i hc
    exact ⟨ul_zb_n y hc, h⟩
  · cases h
theorem ul_if_t {β γ : Type} {c : Prop} {dc : Decidable c} {A B : Option β} {K : β → Option γ} {r : γ} (hc : c) (h : (@ite _ c dc A B).bind K = some r) : A.bind K = some r := by
  rw [if_pos hc] at h
  exact h
theorem ul_if_f {β γ : Type} {c : Prop} {dc : Decidable c} {A B : Option β} {K : β → Option γ} {r : γ} (hc : ¬ c) (h : (@ite _ c dc A B).bind K = some r) : B.bind K = some r := by
  rw [if_neg hc] at h
  exact h
theorem ul_cl_h {α β γ : Type} {g : Option α} {f : α → Option β} {K : β → Option γ} {r : γ} (h : (g.bind f).bind K = some r) : ∃ u, g = some u ∧ (f u).bind K = some r := by
  cases g with
  | none => cases h
  | some u => exact ⟨u, rfl, h⟩
theorem ul_it_h {α β γ : Type} {g : Option α} {f : α → Option β} {K : β → Option γ} {r : γ} (h : (g.bind f).bind K = some r) : g.bind (fun e => (f e).bind K) = some r := by
  cases g with
  | none => cases h
  | some u => exact h
theorem ul_top {α : Type} {x : Option α} {r : α} (h : x = some r) : ∃ K : α → Option α, (∀ z, K z = some r → z = r) ∧ x.bind K = some r := ⟨some, fun _ h => Option.some.inj h, by rw [h]; rfl⟩
theorem ul_loop {σ ρ α : Type} {b : σ → Option (ρ ⊕ σ)} {k : ρ → Option α} {r : α} (P : σ → Prop)
    (hs : ∀ (K : ρ ⊕ σ → Option α), (∀ e, K (.inl e) = some r → k e = some r) → ∀ s, (∀ s', K (.inr s') = some r → P s') → (b s).bind K = some r → P s) : ∀ n s, (ul_it n b s).bind k = some r → P s := by
  intro n
  induction n with
  | zero => intro s h; cases h
  | succ n ih =>
    intro s h
    refine hs (Sum.elim k (fun s' => (ul_it n b s').bind k)) (fun e h => h) s (fun s' h => ih s' h) ?_
    rw [← h]
    show _ = ((b s).bind (Sum.elim some (ul_it n b))).bind k
    cases b s with
    | none => rfl
    | some o => cases o <;> rfl
/-- a world that holds, apart from the rest, nothing outside it changed -/
def ul_H (D : va_G) (A : Nat → Prop) (H0 : Heap) (w : va_W) (H : Heap) (locs : List Loc) : Prop := va_P D classes w H ∧ va_D A w ∧ va_S A H0 H locs
theorem ul_H.re {D : va_G} {A : Nat → Prop} {H0 : Heap} {w w' : va_W} {H : Heap} {locs : List Loc} (h : ul_H D A H0 w H locs) (is : List Nat) (hn : va_nd is = true) (hs : is.map (fun i => w[i]?) = w'.map some) (hs2 : is.filterMap (fun i => w[i]?) = w') : ul_H D A H0 w' H locs := ⟨h.1.sub is hs2, h.2.1.sub is hn hs, h.2.2⟩
def ul_pre (D : va_G) (tys : List (ClassId × FieldType)) (N : (Nat → Prop) → State → Prop) (sz : Nat) (w : va_W) (U : State) : Prop := U.heap.size = sz ∧ va_P D classes w U.heap ∧ va_K D classes tys U ∧ va_D (fun _ => True) w ∧ N (va_A w sz) U
def ul_post (D : va_G) (tys : List (ClassId × FieldType)) (A : Nat → Prop) (w : va_W) (t : State) : Prop := va_P D classes w t.heap ∧ va_K D classes tys t ∧ va_D A w
/-- what a method asks of the start beside its words and its world: kept by the machine and by what a caller may change -/
def ul_Ok (N : (Nat → Prop) → State → Prop) : Prop := (∀ (s U : State) (A B : Nat → Prop), s.WarmedH U.vm → (∀ q, B q → A q) → (∀ q : Nat, q < s.heap.size → ¬ A q → U.heap[q]? = s.heap[q]?) → N A s → N B U) ∧ ∀ (A : Nat → Prop) (u U : State), u.vm = U.vm → u.heap = U.heap → N A u → N A U
def ul_N0 : (Nat → Prop) → State → Prop := fun _ _ => True
theorem ul_N0_ok : ul_Ok ul_N0 := ⟨fun _ _ _ _ _ _ _ _ => trivial, fun _ _ _ _ _ _ => trivial⟩
theorem ul_fb {D : va_G} {tys : List (ClassId × FieldType)} {N : (Nat → Prop) → State → Prop} {sz : Nat} {w : va_W} {av : List Value} (hN : ul_Ok N) : FrameBlind (va_Pc av (ul_pre D tys N sz w)) := fun a U g mk q => by
  obtain ⟨q0, q1, qP, qK, qD, qN⟩ := q
  exact ⟨q0, q1, qP, va_K.moved (u := U) (U := U.calling g mk a) (Vm.Alike.refl U.vm) qK, qD, hN.2 _ U (U.calling g mk a) rfl rfl qN⟩
/-- the goal of a walk, as an opaque word -/
theorem ul_gen {p : Program} {l : Launch} {e : Env} {R : Room} {s : State} {m : MethodId} {args : Array Value} {below : List Frame} {meth : Method} {c : Code} {H : Heap} {locs : List Loc} {Q : State → Prop} {fr : JFrame}
    (h : ∀ G : Heap → List Loc → JFrame → Prop, (∀ H locs fr, W p l e R s m args below meth c H locs 0 0 Q fr → G H locs fr) → (∀ H locs fr, G H locs fr → W p l e R s m args below meth c H locs 0 0 Q fr) → G H locs fr) : W p l e R s m args below meth c H locs 0 0 Q fr := h (fun H locs fr => W p l e R s m args below meth c H locs 0 0 Q fr) (fun _ _ _ h => h) (fun _ _ _ h => h)
section ULC
variable {p : Program} {l : Launch} {e : Env} {R : Room} {s : State} {m : MethodId} {args : Array Value} {below : List Frame} {meth : Method} {c : Code} {H : Heap} {locs : List Loc} {Q : State → Prop}
variable {y : MethodName} {bytes cc : ByteArray} {maxL nL n index : Nat} {ret : Option FieldType} {ws : List Cond} {rm : Room} {Ts : List Cond} {own C : String} {b : Nat} {As rest st0 : List Value} {pc : Nat} {ls : Array Slot} {D : va_G} {A : Nat → Prop} {H0 : Heap} {tys tysC : List (ClassId × FieldType)} {w wc wr wc' : va_W} {NC : (Nat → Prop) → State → Prop}
theorem ul_jn (hP : va_P D classes w H) (hD : va_D A w) (hS : va_S A H0 H locs) (hA : ∀ q, H0.size ≤ q → A q) (isC isR : List Nat) (hC : isC.map (fun i => w[i]?) = wc.map some) (hR : isR.map (fun i => w[i]?) = wr.map some) (hn : va_nd isR = true) (hdis : ∀ i ∈ isR, i ∉ isC) {H1 : Heap} {locs1 : List Loc} {t : State} (ht : t.heap = H1) (hB : ul_post D tysC (va_A wc H.size) wc' t) (hk : ∀ q : Nat, q < H.size → ¬ va_A wc H.size q → H1[q]? = H[q]?) (hS1 : va_S A H0 H1 locs1) : ul_H D A H0 (wr ++ wc') H1 locs1 := by
  obtain ⟨hP1, hK1, hD1⟩ := hB
  rw [ht] at hP1
  obtain ⟨hP2, hD2⟩ := va_join hP hD isC isR hC hR hn hdis hk (va_free hD hS hA isC hC) hP1 hD1
  exact ⟨hP2, hD2, hS1⟩
theorem ul_preS (hN : ul_Ok NC) (hP : va_P D classes w H) (hD : va_D A w) (hS : va_S A s.heap H locs) (hA : ∀ q, s.heap.size ≤ q → A q) (hK : va_K D classes tys s) (isC : List Nat) (isK : List Nat) (hC : isC.map (fun i => w[i]?) = wc.map some) (hC2 : isC.filterMap (fun i => w[i]?) = wc) (hnC : va_nd isC = true) (hKs : isK.filterMap (fun i => tys[i]?) = tysC) (hNC : NC A s) : FrameBlind (va_Pc As (ul_pre D tysC NC H.size wc)) ∧ ∀ U : State, U.heap = H → s.WarmedH U.vm → va_Pc As (ul_pre D tysC NC H.size wc) As.toArray U :=
  ⟨ul_fb hN, fun U hU hW => ⟨rfl, by rw [hU], by rw [hU]; exact hP.sub isC hC2, va_K.moved hW.alike (hK.sub isK hKs), (hD.sub isC hnC hC).weaken (fun _ _ _ _ => trivial), hN.1 s U A _ hW (va_free hD hS hA isC hC) (fun q h1 h2 => by rw [hU]; exact hS.2.1 q h1 h2) hNC⟩⟩
/-- a call of an instance method that answers an int -/
theorem ul_cVi {rv : Int32} (hP : va_P D classes w H) (hD : va_D A w) (hS : va_S A s.heap H locs) (hK : va_K D classes tys s) (hA : ∀ q, s.heap.size ≤ q → A q) (isC isR isK : List Nat) (hN : ul_Ok NC) (hNC : NC A s) (hM : Met l y ws rm (va_Pc (Value.ref b :: As) (ul_pre D tysC NC H.size wc)) (va_Qi (fun v (_ : Unit) => v = rv) (fun _ => ul_post D tysC (va_A wc H.size) wc') (va_A wc H.size)) 0 0 (va_A wc H.size)) (hC : isC.map (fun i => w[i]?) = wc.map some) (hC2 : isC.filterMap (fun i => w[i]?) = wc) (hnC : va_nd isC = true) (hR : isR.map (fun i => w[i]?) = wr.map some) (hn : va_nd isR = true) (hdis : ∀ i ∈ isR, i ∉ isC) (hKs : isK.filterMap (fun i => tys[i]?) = tysC)
    (S : CallFix p m c cc nL s args Ts own) (cw : CallW R s args own C index y bytes maxL ret ws rm 0 0 n) (hrc : ∃ cell : Cell, H[b]? = some cell ∧ cell.vm.isStatics = false ∧ s.vm.findClass C = some cell.cls) (hlen : As.length = n) (hsize : ls.size = nL) (hstack : st0 = As.reverse ++ .ref b :: rest) (hroom : (rest.map fun v => v.category).sum ≤ 8) (hdg : decode cc pc = .ok (.invokevirtual index, 3))
    (kk : ∀ (H1 : Heap) (locs1 : List Loc), ul_H D A s.heap (wr ++ wc') H1 locs1 → W p l e R s m args below meth c H1 locs1 0 0 Q (F0 m (pc + 3) ls (.int rv :: rest))) : W p l e R s m args below meth c H locs 0 0 Q (F0 m pc ls st0) := by
  have hpre := ul_preS (As := Value.ref b :: As) hN hP hD hS hA hK isC isK hC hC2 hnC hKs hNC
  have hF := va_free hD hS hA isC hC
  refine va_calli (va_runV (As := As) (rest := rest) S hM cw ⟨hpre.1, hrc, hpre.2⟩ rfl hlen hsize hstack (lv_room hroom) hdg ⟨Nat.zero_le _, Nat.zero_le _⟩) hS (fun q _ h => hF q h) hF (fun v u t H1 locs1 ht hvm hw hB hz1 hk1 hS1 => ?_)
  subst hw
  exact kk H1 locs1 (ul_jn hP hD hS hA isC isR hC hR hn hdis ht hB hk1 hS1)
theorem ul_cVl {rv : Int64} (hP : va_P D classes w H) (hD : va_D A w) (hS : va_S A s.heap H locs) (hK : va_K D classes tys s) (hA : ∀ q, s.heap.size ≤ q → A q) (isC isR isK : List Nat) (hN : ul_Ok NC) (hNC : NC A s) (hM : Met l y ws rm (va_Pc (Value.ref b :: As) (ul_pre D tysC NC H.size wc)) (va_Ql (fun v (_ : Unit) => v = rv) (fun _ => ul_post D tysC (va_A wc H.size) wc') (va_A wc H.size)) 0 0 (va_A wc H.size)) (hC : isC.map (fun i => w[i]?) = wc.map some) (hC2 : isC.filterMap (fun i => w[i]?) = wc) (hnC : va_nd isC = true) (hR : isR.map (fun i => w[i]?) = wr.map some) (hn : va_nd isR = true) (hdis : ∀ i ∈ isR, i ∉ isC) (hKs : isK.filterMap (fun i => tys[i]?) = tysC)
    (S : CallFix p m c cc nL s args Ts own) (cw : CallW R s args own C index y bytes maxL ret ws rm 0 0 n) (hrc : ∃ cell : Cell, H[b]? = some cell ∧ cell.vm.isStatics = false ∧ s.vm.findClass C = some cell.cls) (hlen : As.length = n) (hsize : ls.size = nL) (hstack : st0 = As.reverse ++ .ref b :: rest) (hroom : (rest.map fun v => v.category).sum ≤ 8) (hdg : decode cc pc = .ok (.invokevirtual index, 3))
    (kk : ∀ (H1 : Heap) (locs1 : List Loc), ul_H D A s.heap (wr ++ wc') H1 locs1 → W p l e R s m args below meth c H1 locs1 0 0 Q (F0 m (pc + 3) ls (.long rv :: rest))) : W p l e R s m args below meth c H locs 0 0 Q (F0 m pc ls st0) := by
  have hpre := ul_preS (As := Value.ref b :: As) hN hP hD hS hA hK isC isK hC hC2 hnC hKs hNC
  have hF := va_free hD hS hA isC hC
  refine va_calll (va_runV (As := As) (rest := rest) S hM cw ⟨hpre.1, hrc, hpre.2⟩ rfl hlen hsize hstack (lv_room hroom) hdg ⟨Nat.zero_le _, Nat.zero_le _⟩) hS (fun q _ h => hF q h) hF (fun v u t H1 locs1 ht hvm hw hB hz1 hk1 hS1 => ?_)
  subst hw
  exact kk H1 locs1 (ul_jn hP hD hS hA isC isR hC hR hn hdis ht hB hk1 hS1)
theorem ul_cVv (hP : va_P D classes w H) (hD : va_D A w) (hS : va_S A s.heap H locs) (hK : va_K D classes tys s) (hA : ∀ q, s.heap.size ≤ q → A q) (isC isR isK : List Nat) (hN : ul_Ok NC) (hNC : NC A s) (hM : Met l y ws rm (va_Pc (Value.ref b :: As) (ul_pre D tysC NC H.size wc)) (va_Qv (fun (_ : Unit) => True) (fun _ => ul_post D tysC (va_A wc H.size) wc') (va_A wc H.size)) 0 0 (va_A wc H.size)) (hC : isC.map (fun i => w[i]?) = wc.map some) (hC2 : isC.filterMap (fun i => w[i]?) = wc) (hnC : va_nd isC = true) (hR : isR.map (fun i => w[i]?) = wr.map some) (hn : va_nd isR = true) (hdis : ∀ i ∈ isR, i ∉ isC) (hKs : isK.filterMap (fun i => tys[i]?) = tysC)
    (S : CallFix p m c cc nL s args Ts own) (cw : CallW R s args own C index y bytes maxL ret ws rm 0 0 n) (hrc : ∃ cell : Cell, H[b]? = some cell ∧ cell.vm.isStatics = false ∧ s.vm.findClass C = some cell.cls) (hlen : As.length = n) (hsize : ls.size = nL) (hstack : st0 = As.reverse ++ .ref b :: rest) (hroom : (rest.map fun v => v.category).sum ≤ 8) (hdg : decode cc pc = .ok (.invokevirtual index, 3))
    (kk : ∀ (H1 : Heap) (locs1 : List Loc), ul_H D A s.heap (wr ++ wc') H1 locs1 → W p l e R s m args below meth c H1 locs1 0 0 Q (F0 m (pc + 3) ls rest)) : W p l e R s m args below meth c H locs 0 0 Q (F0 m pc ls st0) := by
  have hpre := ul_preS (As := Value.ref b :: As) hN hP hD hS hA hK isC isK hC hC2 hnC hKs hNC
  have hF := va_free hD hS hA isC hC
  refine va_callv (va_runV (As := As) (rest := rest) S hM cw ⟨hpre.1, hrc, hpre.2⟩ rfl hlen hsize hstack (lv_room hroom) hdg ⟨Nat.zero_le _, Nat.zero_le _⟩) hS (fun q _ h => hF q h) hF (fun u t H1 locs1 ht hvm hw hB hz1 hk1 hS1 => ?_)
  exact kk H1 locs1 (ul_jn hP hD hS hA isC isR hC hR hn hdis ht hB hk1 hS1)
/-- a call of a static method over no cells -/
theorem ul_sH (hP : va_P D classes w H) (hD : va_D A w) (hS : va_S A H0 H locs) (hA : ∀ q, H0.size ≤ q → A q) {H1 : Heap} {locs1 : List Loc} (hk : ∀ q : Nat, q < H.size → ¬ va_A [] H.size q → H1[q]? = H[q]?) (hS1 : va_S A H0 H1 locs1) : ul_H D A H0 w H1 locs1 := by
  refine ⟨fun k q hq => ?_, hD, hS1⟩
  have hl := (hP k q hq).lt
  refine (hP k q hq).kept (hk q.1 hl ?_)
  intro h
  rcases h with ⟨k2, e2, h⟩ | h
  · simp at h
  · omega
theorem ul_cSi {rv : Int32} (hP : va_P D classes w H) (hD : va_D A w) (hS : va_S A s.heap H locs) (hK : va_K D classes tys s) (hA : ∀ q, s.heap.size ≤ q → A q) (hM : Met l y ws rm (va_Pc As (ul_pre D [] ul_N0 H.size [])) (va_Qi (fun v (_ : Unit) => v = rv) (fun _ => ul_post D [] (va_A [] H.size) []) (va_A [] H.size)) 0 0 (va_A [] H.size))
    (S : CallFix p m c cc nL s args Ts own) (cw : CallB R s args own index y bytes maxL ret ws rm 0 0 n ∧ (Cond.static y).before args s = true) (hlen : As.length = n) (hsize : ls.size = nL) (hstack : st0 = As.reverse ++ rest) (hroom : (rest.map fun v => v.category).sum ≤ 8) (hdg : decode cc pc = .ok (.invokestatic index, 3))
    (kk : ∀ (H1 : Heap) (locs1 : List Loc), ul_H D A s.heap w H1 locs1 → W p l e R s m args below meth c H1 locs1 0 0 Q (F0 m (pc + 3) ls (.int rv :: rest))) : W p l e R s m args below meth c H locs 0 0 Q (F0 m pc ls st0) := by
  have hpre := ul_preS (As := As) (wc := []) (tysC := []) ul_N0_ok hP hD hS hA hK [] [] rfl rfl rfl rfl trivial
  have hF := va_free (wc := []) hD hS hA [] rfl
  refine va_calli (va_runS (As := As) (rest := rest) S hM cw hpre rfl hlen hsize hstack (lv_room hroom) hdg ⟨Nat.zero_le _, Nat.zero_le _⟩) hS (fun q _ h => hF q h) hF (fun v u t H1 locs1 ht hvm hw hB hz1 hk1 hS1 => ?_)
  subst hw
  exact kk H1 locs1 (ul_sH hP hD hS hA hk1 hS1)
theorem ul_cSl {rv : Int64} (hP : va_P D classes w H) (hD : va_D A w) (hS : va_S A s.heap H locs) (hK : va_K D classes tys s) (hA : ∀ q, s.heap.size ≤ q → A q) (hM : Met l y ws rm (va_Pc As (ul_pre D [] ul_N0 H.size [])) (va_Ql (fun v (_ : Unit) => v = rv) (fun _ => ul_post D [] (va_A [] H.size) []) (va_A [] H.size)) 0 0 (va_A [] H.size))
    (S : CallFix p m c cc nL s args Ts own) (cw : CallB R s args own index y bytes maxL ret ws rm 0 0 n ∧ (Cond.static y).before args s = true) (hlen : As.length = n) (hsize : ls.size = nL) (hstack : st0 = As.reverse ++ rest) (hroom : (rest.map fun v => v.category).sum ≤ 8) (hdg : decode cc pc = .ok (.invokestatic index, 3))
    (kk : ∀ (H1 : Heap) (locs1 : List Loc), ul_H D A s.heap w H1 locs1 → W p l e R s m args below meth c H1 locs1 0 0 Q (F0 m (pc + 3) ls (.long rv :: rest))) : W p l e R s m args below meth c H locs 0 0 Q (F0 m pc ls st0) := by
  have hpre := ul_preS (As := As) (wc := []) (tysC := []) ul_N0_ok hP hD hS hA hK [] [] rfl rfl rfl rfl trivial
  have hF := va_free (wc := []) hD hS hA [] rfl
  refine va_calll (va_runS (As := As) (rest := rest) S hM cw hpre rfl hlen hsize hstack (lv_room hroom) hdg ⟨Nat.zero_le _, Nat.zero_le _⟩) hS (fun q _ h => hF q h) hF (fun v u t H1 locs1 ht hvm hw hB hz1 hk1 hS1 => ?_)
  subst hw
  exact kk H1 locs1 (ul_sH hP hD hS hA hk1 hS1)
end ULC
abbrev ul_wM (cI cZ : ClassId) (a : Nat → Nat) (M : ul_S) (d : Int64) : va_W := [(a 0, .inr (7, [.int (M 0 0), .int (M 0 1), .ref (a 1), .ref (a 2), .ref (a 3), .ref (a 4), .ref (a 5), .ref (a 6), .ref (a 7), .ref (a 8), .int (M 0 2), .int (M 0 3), .int (M 0 4), .ref (a 9), .int (M 0 5), .int (M 0 6), .int (M 0 7), .int (M 0 8), .int (M 0 9), .ref (a 10), .int (M 0 10), .ref (a 11), .ref (a 12), .long d, .ref (a 13), .ref (a 14)])), (a 1, .inl (cI, 4, .inl (M 1))), (a 2, .inl (cI, 4, .inl (M 2))), (a 3, .inl (cI, 5, .inl (M 3))), (a 4, .inl (cI, 5, .inl (M 4))), (a 5, .inl (cI, 5, .inl (M 5))), (a 6, .inl (cI, 46, .inl (M 6))), (a 7, .inl (cI, 12, .inl (M 7))), (a 8, .inl (cI, 20, .inl (M 8))), (a 9, .inl (cI, 48, .inl (M 9))), (a 10, .inl (cI, 322, .inl (M 10))), (a 11, .inl (cI, 6, .inl (M 11))), (a 12, .inl (cI, 6, .inl (M 12))), (a 13, .inl (cZ, 2, .inl (M 13))), (a 14, .inl (cI, 46, .inl (M 14)))]
abbrev ul_wL (cI : ClassId) (a : Nat → Nat) (T : ul_S) : va_W := [(a 0, .inr (5, [.ref (a 1), .int (T 0 0)])), (a 1, .inl (cI, 48, .inl (T 1)))]
abbrev ul_wK (cI : ClassId) (a : Nat → Nat) (T : ul_S) : va_W := [(a 0, .inr (2, [.ref (a 1), .ref (a 2), .ref (a 3), .ref (a 4), .ref (a 5), .ref (a 6), .ref (a 7), .int (T 0 0), .int (T 0 1)])), (a 1, .inl (cI, 4, .inl (T 1))), (a 2, .inl (cI, 4, .inl (T 2))), (a 3, .inl (cI, 4, .inl (T 3))), (a 4, .inl (cI, 5, .inl (T 4))), (a 5, .inl (cI, 5, .inl (T 5))), (a 6, .inl (cI, 5, .inl (T 6))), (a 7, .inl (cI, 5, .inl (T 7)))]
abbrev ul_wS (cI : ClassId) (a : Nat → Nat) (k0 : Nat) (T : ul_S) : va_W := [(a 0, .inr (4, [.ref k0, .ref (a 1), .ref (a 2), .ref (a 3), .ref (a 4), .ref (a 5), .ref (a 6), .int (T 0 0)])), (a 1, .inl (cI, 4, .inl (T 1))), (a 2, .inl (cI, 10, .inl (T 2))), (a 3, .inl (cI, 4, .inl (T 3))), (a 4, .inl (cI, 4, .inl (T 4))), (a 5, .inl (cI, 5, .inl (T 5))), (a 6, .inl (cI, 5, .inl (T 6)))]
abbrev ul_wE (cI : ClassId) (a : Nat → Nat) (T : ul_S) : va_W := [(a 0, .inr (3, [.ref (a 1), .ref (a 2), .int (T 0 0)])), (a 1, .inl (cI, 6, .inl (T 1))), (a 2, .inl (cI, 6, .inl (T 2)))]
abbrev ul_wG (cI : ClassId) (a : Nat → Nat) (k0 : Nat) (k1 : Nat) (k2 : Nat) (T : ul_S) : va_W := [(a 0, .inr (1, [.ref k0, .ref k1, .ref k2, .ref (a 1), .ref (a 2), .ref (a 3), .ref (a 4), .int (T 0 0), .int (T 0 1)])), (a 1, .inl (cI, 4, .inl (T 1))), (a 2, .inl (cI, 32, .inl (T 2))), (a 3, .inl (cI, 100, .inl (T 3))), (a 4, .inl (cI, 100, .inl (T 4)))]
