/-! the class looks at a place before it uses it as an index (isPlace): at a place of the street nothing comes of that; and the number of orders, reckoned -/
theorem cp_pl {a : Nat} (ha : a < 10) : f_X6_isPlace (nI a) = some 1 := by
  have h10 : ¬ (10 : Int32) ≤ nI a := nI_ge (a := a) (b := 10) (by omega) (by omega)
  unfold f_X6_isPlace
  rw [if_neg (nI_pos (by omega)), if_neg h10]
theorem cp_mark {T : ul_S} {a : Nat} {x : Int32} (ha : a < 10) : f_X4_mark T (nI a) x = some (ul_up T 2 a x) := by
  unfold f_X4_mark
  rw [cp_pl ha, Option.bind_some, if_neg (show ¬ (1 : Int32) = 0 by decide), ul_stN (by omega) (by omega)]
theorem cp_free {T : ul_S} {a : Nat} (ha : a < 10) : f_X4_isFree T (nI a) = if T 2 a = -9 then some 1 else some 0 := by
  unfold f_X4_isFree
  rw [cp_pl ha, Option.bind_some, if_neg (show ¬ (1 : Int32) = 0 by decide), ul_ldN (by omega) (by omega)]
theorem cp_own {T : ul_S} {a : Nat} {x : Int32} (ha : a < 10) : f_X4_isOwnOrFree T x (nI a) = if T 2 a = x then some 1 else if T 2 a = -9 then some 1 else some 0 := by
  unfold f_X4_isOwnOrFree f_X4_isOwnOrFree_j28
  rw [cp_pl ha, Option.bind_some, if_neg (show ¬ (1 : Int32) = 0 by decide)]
  simp (disch := omega) only [ul_ldN]
def ul_or (j : Nat) : Int32 := match j with | 0 => 1 | 1 => 1 | 2 => 2 | 3 => 6 | 4 => 24 | _ => 120
theorem cp_ord : ∀ c, c ≤ 5 → f_X6_ordersOf (nI c) = some (ul_or c) := by decide +kernel
