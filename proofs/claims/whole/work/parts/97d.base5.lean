/-! calls from the law, with cells made before; the law's goal as an opaque word -/
theorem ul_genC {p : Program} {l : Launch} {e : Env} {R : Room} {s : State} {m : MethodId} {args : Array Value} {below : List Frame} {meth : Method} {c : Code} {H : Heap} {locs : List Loc} {Q : State → Prop} {fr : JFrame} (cells slots : Nat)
    (h : ∀ G : Heap → List Loc → JFrame → Prop, (∀ H locs fr, W p l e R s m args below meth c H locs cells slots Q fr → G H locs fr) → (∀ H locs fr, G H locs fr → W p l e R s m args below meth c H locs cells slots Q fr) → G H locs fr) : W p l e R s m args below meth c H locs cells slots Q fr := h (fun H locs fr => W p l e R s m args below meth c H locs cells slots Q fr) (fun _ _ _ h => h) (fun _ _ _ h => h)
section ULQ
variable {p : Program} {l : Launch} {e : Env} {R : Room} {s : State} {m : MethodId} {args : Array Value} {below : List Frame} {meth : Method} {c : Code} {H : Heap} {locs : List Loc} {cells slots : Nat} {Q : State → Prop}
variable {y : MethodName} {bytes cc : ByteArray} {maxL nL n index : Nat} {ret : Option FieldType} {ws : List Cond} {rm : Room} {Ts : List Cond} {own C : String} {b : Nat} {As rest st0 : List Value} {pc : Nat} {ls : Array Slot} {D : va_G} {A : Nat → Prop} {tys tysC : List (ClassId × FieldType)} {w wc wr wc' : va_W} {NC : (Nat → Prop) → State → Prop}
theorem ul_cQi {rv : Int32} (hP : va_P D classes w H) (hD : va_D A w) (hS : va_S A s.heap H locs) (hK : va_K D classes tys s) (hA : ∀ q, s.heap.size ≤ q → A q) (isK : List Nat) (hN : ul_Ok NC) (hNC : NC A s) (hM : Met l y ws rm (va_Pc (Value.ref b :: As) (ul_pre D tysC NC H.size wc)) (va_Qi (fun v (_ : Unit) => v = rv) (fun _ => ul_post D tysC (va_A wc H.size) wc') (va_A wc H.size)) 0 0 (va_A wc H.size)) (hp : w.Perm (wc ++ wr)) (hKs : isK.filterMap (fun i => tys[i]?) = tysC)
    (S : CallFix p m c cc nL s args Ts own) (cw : CallW R s args own C index y bytes maxL ret ws rm 0 0 n) (hrc : ∃ cell : Cell, H[b]? = some cell ∧ cell.vm.isStatics = false ∧ s.vm.findClass C = some cell.cls) (hlen : As.length = n) (hsize : ls.size = nL) (hstack : st0 = As.reverse ++ .ref b :: rest) (hroom : (rest.map fun v => v.category).sum ≤ 8) (hdg : decode cc pc = .ok (.invokevirtual index, 3)) (hf : cells + 0 ≤ R.cells ∧ slots + 0 ≤ R.slots)
    (kk : ∀ (H1 : Heap) (locs1 : List Loc), ul_H D A s.heap (wr ++ wc') H1 locs1 → W p l e R s m args below meth c H1 locs1 cells slots Q (F0 m (pc + 3) ls (.int rv :: rest))) : W p l e R s m args below meth c H locs cells slots Q (F0 m pc ls st0) := by
  have hP2 := ul_pP hP hp
  have hD2 := ul_pD hD hp
  have hpre := ul_preS (As := Value.ref b :: As) hN hP2 hD2 hS hA hK (List.range wc.length) isK (ul_ixC wc wr) (ul_fm (ul_ixC wc wr)) (ul_nd List.nodup_range) hKs hNC
  have hF := va_free hD2 hS hA (List.range wc.length) (ul_ixC wc wr)
  refine va_calli (va_runV (As := As) (rest := rest) S hM cw ⟨hpre.1, hrc, hpre.2⟩ rfl hlen hsize hstack (lv_room hroom) hdg hf) hS (fun q _ h => hF q h) hF (fun v u t H1 locs1 ht hvm hw hB hz1 hk1 hS1 => ?_)
  subst hw
  exact kk H1 locs1 (ul_jn hP2 hD2 hS hA (List.range wc.length) ((List.range wr.length).map (fun i => i + wc.length)) (ul_ixC wc wr) (ul_ixR wc wr) (ul_nd (ul_ndm wr.length wc.length)) (fun i hi hj => by
    obtain ⟨k, _, hk⟩ := List.mem_map.mp hi
    have := List.mem_range.mp hj
    omega) ht hB hk1 hS1)
theorem ul_cQl {rv : Int64} (hP : va_P D classes w H) (hD : va_D A w) (hS : va_S A s.heap H locs) (hK : va_K D classes tys s) (hA : ∀ q, s.heap.size ≤ q → A q) (isK : List Nat) (hN : ul_Ok NC) (hNC : NC A s) (hM : Met l y ws rm (va_Pc (Value.ref b :: As) (ul_pre D tysC NC H.size wc)) (va_Ql (fun v (_ : Unit) => v = rv) (fun _ => ul_post D tysC (va_A wc H.size) wc') (va_A wc H.size)) 0 0 (va_A wc H.size)) (hp : w.Perm (wc ++ wr)) (hKs : isK.filterMap (fun i => tys[i]?) = tysC)
    (S : CallFix p m c cc nL s args Ts own) (cw : CallW R s args own C index y bytes maxL ret ws rm 0 0 n) (hrc : ∃ cell : Cell, H[b]? = some cell ∧ cell.vm.isStatics = false ∧ s.vm.findClass C = some cell.cls) (hlen : As.length = n) (hsize : ls.size = nL) (hstack : st0 = As.reverse ++ .ref b :: rest) (hroom : (rest.map fun v => v.category).sum ≤ 8) (hdg : decode cc pc = .ok (.invokevirtual index, 3)) (hf : cells + 0 ≤ R.cells ∧ slots + 0 ≤ R.slots)
    (kk : ∀ (H1 : Heap) (locs1 : List Loc), ul_H D A s.heap (wr ++ wc') H1 locs1 → W p l e R s m args below meth c H1 locs1 cells slots Q (F0 m (pc + 3) ls (.long rv :: rest))) : W p l e R s m args below meth c H locs cells slots Q (F0 m pc ls st0) := by
  have hP2 := ul_pP hP hp
  have hD2 := ul_pD hD hp
  have hpre := ul_preS (As := Value.ref b :: As) hN hP2 hD2 hS hA hK (List.range wc.length) isK (ul_ixC wc wr) (ul_fm (ul_ixC wc wr)) (ul_nd List.nodup_range) hKs hNC
  have hF := va_free hD2 hS hA (List.range wc.length) (ul_ixC wc wr)
  refine va_calll (va_runV (As := As) (rest := rest) S hM cw ⟨hpre.1, hrc, hpre.2⟩ rfl hlen hsize hstack (lv_room hroom) hdg hf) hS (fun q _ h => hF q h) hF (fun v u t H1 locs1 ht hvm hw hB hz1 hk1 hS1 => ?_)
  subst hw
  exact kk H1 locs1 (ul_jn hP2 hD2 hS hA (List.range wc.length) ((List.range wr.length).map (fun i => i + wc.length)) (ul_ixC wc wr) (ul_ixR wc wr) (ul_nd (ul_ndm wr.length wc.length)) (fun i hi hj => by
    obtain ⟨k, _, hk⟩ := List.mem_map.mp hi
    have := List.mem_range.mp hj
    omega) ht hB hk1 hS1)
end ULQ
