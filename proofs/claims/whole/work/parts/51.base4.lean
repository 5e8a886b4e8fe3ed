/-! own words for the constructors -/
def ul_Z : ul_S := fun _ _ => 0
def ul_ZS : ul_S := ul_up (ul_up (ul_up (ul_up (ul_up (ul_up (ul_up (ul_up (ul_up (ul_up ul_Z 2 0 (-9)) 2 1 (-9)) 2 2 (-9)) 2 3 (-9)) 2 4 (-9)) 2 5 (-9)) 2 6 (-9)) 2 7 (-9)) 2 8 (-9)) 2 9 (-9)
def ul_NA (A : Nat → Prop) (U : State) : Prop := va_AO RX4 U
theorem ul_NA_ok : ul_Ok ul_NA := ⟨fun s U A B hW _ _ h => va_AO.moved hW.alike h, fun A u U hv _ h => va_AO.moved (by rw [hv]; exact Vm.Alike.refl U.vm) h⟩
theorem ul_cu {D : va_G} {tys : List (ClassId × FieldType)} {s : State} {cI cA : ClassId} {ty : FieldType} (hr : ∀ C, ty ≠ .object C) (hK : va_K D classes tys s) {i j : Nat} (hi : tys[i]? = some (cI, ty)) (hj : tys[j]? = some (cA, ty)) : cA = cI := by
  have h1 := (hK.2 i _ hi).2
  have h2 := (hK.2 j _ hj).2
  cases ty with
  | object C => exact absurd rfl (hr C)
  | _ =>
    have h3 := h1.symm.trans h2
    exact (Option.some.inj h3).symm
theorem ul_cuO {D : va_G} {tys : List (ClassId × FieldType)} {s : State} {cI cA : ClassId} {C : String} (hK : va_K D classes tys s) {i j : Nat} (hi : tys[i]? = some (cI, .object C)) (hj : tys[j]? = some (cA, .object C)) : cA = cI := by
  obtain ⟨k1, c1, -, -, -, h1⟩ := (hK.2 i _ hi).2
  obtain ⟨k2, c2, -, -, -, h2⟩ := (hK.2 j _ hj).2
  exact (Option.some.inj (h1.symm.trans h2)).symm
theorem ul_cPI {p : Program} {l : Launch} {e : Env} {R : Room} {s : State} {m : MethodId} {args : Array Value} {below : List Frame} {meth : Method} {c : Code} {H : Heap} {locs : List Loc} {cells slots mc ms : Nat} {Q : State → Prop} {y : MethodName} {bytes cc : ByteArray} {maxL nL n index : Nat} {ws : List Cond} {rm : Room} {Ts : List Cond} {own : String} {b : Nat} {As rest st0 : List Value} {pc : Nat} {ls : Array Slot} {D : va_G} {A : Nat → Prop} {tys tysC : List (ClassId × FieldType)} {w wc wr : va_W} {NC : (Nat → Prop) → State → Prop} {S : Type} {post : S → Prop} {w' : S → va_W}
    (hP : va_P D classes w H) (hD : va_D A w) (hS : va_S A s.heap H locs) (hK : va_K D classes tys s) (hA : ∀ q, s.heap.size ≤ q → A q) (isK : List Nat) (hN : ul_Ok NC) (hNC : NC A s) (hM : Met l y ws rm (va_Pc (Value.ref b :: As) (ul_pre D tysC NC H.size wc)) (va_Qv post (fun u => ul_post D tysC (va_A wc H.size) (w' u)) (va_A wc H.size)) mc ms (va_A wc H.size)) (hp : w.Perm (wc ++ wr)) (hKs : isK.filterMap (fun i => tys[i]?) = tysC)
    (SF : CallFix p m c cc nL s args Ts own) (cw : CallB R s args own index y bytes maxL none ws rm mc ms n ∧ y.name = "<init>" ∧ (Cond.instanceMethod y).before args s = true) (hlen : As.length = n) (hsize : ls.size = nL) (hstack : st0 = As.reverse ++ .ref b :: rest) (hroom : (rest.map fun v => v.category).sum ≤ 8) (hdg : decode cc pc = .ok (.invokespecial index, 3)) (hf : cells + mc ≤ R.cells ∧ slots + ms ≤ R.slots)
    (kk : ∀ (u : S) (H1 : Heap) (locs1 : List Loc), post u → ul_H D A s.heap (wr ++ w' u) H1 locs1 → W p l e R s m args below meth c H1 locs1 (cells + mc) (slots + ms) Q (F0 m (pc + 3) ls rest)) : W p l e R s m args below meth c H locs cells slots Q (F0 m pc ls st0) := by
  have hP2 := ul_pP hP hp
  have hD2 := ul_pD hD hp
  have hpre := ul_preS (As := Value.ref b :: As) hN hP2 hD2 hS hA hK (List.range wc.length) isK (ul_ixC wc wr) (ul_fm (ul_ixC wc wr)) (ul_nd List.nodup_range) hKs hNC
  have hF := va_free hD2 hS hA (List.range wc.length) (ul_ixC wc wr)
  refine va_callv (va_runI (As := As) (rest := rest) SF hM cw hpre rfl hlen hsize hstack (lv_room hroom) hdg hf) hS (fun q _ h => hF q h) hF (fun u t H1 locs1 ht hvm hw hB hz1 hk1 hS1 => ?_)
  exact kk u H1 locs1 hw (ul_jn hP2 hD2 hS hA (List.range wc.length) ((List.range wr.length).map (fun i => i + wc.length)) (ul_ixC wc wr) (ul_ixR wc wr) (ul_nd (ul_ndm wr.length wc.length)) (fun i hi hj => by
    obtain ⟨k, _, hk⟩ := List.mem_map.mp hi
    have := List.mem_range.mp hj
    omega) ht hB hk1 hS1)
theorem ul_nwi (n : Nat) (cA : ClassId) : vp_cell cA (n, .inl (fun _ => 0)) = arrV cA n (fun _ => defaultValue .int) := vp_cell_i cA n (fun _ => 0)
theorem ul_nwz (n : Nat) (cA : ClassId) : vp_cell cA (n, .inl (fun _ => 0)) = arrV cA n (fun _ => defaultValue .boolean) := vp_cell_i cA n (fun _ => 0)
theorem ul_app (bs : List va_W) (x : va_W) : bs.flatten ++ x = (bs ++ [x]).flatten := by simp
theorem ul_appP {D : va_G} {H : Heap} (bs : List va_W) (x : va_W) (h : va_P D classes (bs.flatten ++ x) H) : va_P D classes (bs ++ [x]).flatten H := by rw [← ul_app]; exact h
theorem ul_appD {A : Nat → Prop} (bs : List va_W) (x : va_W) (h : va_D A (bs.flatten ++ x)) : va_D A (bs ++ [x]).flatten := by rw [← ul_app]; exact h
