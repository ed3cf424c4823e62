def fX0_clear : Option (Int32) :=
  some (0 : Int32)
theorem hi_X0_clear_0 : ∀ w ∈ wsX00, w ∈ wsX0_clear := fun _ h => (List.mem_cons_of_mem _ (List.mem_append_right _ h))
def W_X0_clear (cI cP : ClassId) (y : Nat) (yr : Nat → Nat) (ya : Nat → Nat) (yi_3 : Int32) (yk_0 : Nat → Int32) (yk_1 : Nat → Int32) (yk_2 : Nat → Int32) : va_W := (wFelt cI y yr ya yi_3 yk_0 yk_1 yk_2)
theorem W_X0_clear_o0 {cI cP : ClassId} {y : Nat} {yr : Nat → Nat} {ya : Nat → Nat} {yi_3 : Int32} {yk_0 : Nat → Int32} {yk_1 : Nat → Int32} {yk_2 : Nat → Int32} : (W_X0_clear cI cP y yr ya yi_3 yk_0 yk_1 yk_2)[0]? = some (y, .inr (0, [.ref (yr 0), .ref (yr 1), .ref (yr 2), .int yi_3])) := rfl
theorem W_X0_clear_p0_3 {cI cP : ClassId} {y : Nat} {yr : Nat → Nat} {ya : Nat → Nat} {yi_3 : Int32} {yk_0 : Nat → Int32} {yk_1 : Nat → Int32} {yk_2 : Nat → Int32} {v9 : Int32} : (W_X0_clear cI cP y yr ya yi_3 yk_0 yk_1 yk_2).set 0 (y, .inr (0, [.ref (yr 0), .ref (yr 1), .ref (yr 2), .int yi_3].set 3 (.int v9))) = W_X0_clear cI cP y yr ya v9 yk_0 yk_1 yk_2 := rfl
set_option maxHeartbeats 4000000 in
set_option maxRecDepth 100000 in
theorem c_X0_clear (l : Launch) (D : va_G) (cI cP : ClassId) (sz : Nat) (y : Nat) (yr : Nat → Nat) (ya : Nat → Nat) (yi_3 : Int32) (yk_0 : Nat → Int32) (yk_1 : Nat → Int32) (yk_2 : Nat → Int32) (hne : fX0_clear ≠ none) : xMv l yX0_clear wsX0_clear ({ frames := 0, cells := 0, slots := 0, locals := 0 } : Room) D (xT cI cP) [.ref y] (W_X0_clear cI cP y yr ya yi_3 yk_0 yk_1 yk_2) sz (fun (u : (Int32)) => fX0_clear = some u) (fun u => W_X0_clear cI cP y yr ya u yk_0 yk_1 yk_2) 0 0 := by
  refine xMv_of (cc := cX0_clear) (maxL := 1) (by decide +kernel) rfl (Nat.le_of_ble_eq_true rfl) ?_
  intro p e s m args below meth c A ls hx hb hml hown hts hname hN hK hA hP hD hS hl Q hret
  have he := fX0_clear.eq_1
  have hl : lv_has ls 1 [(0, .ref y)] := hl
  refine lv_aload_n hx hb dX0_clear_0 rfl (lv_at hl 0 rfl) ?_
  refine lv_iconst (v := 0) hx hb dX0_clear_1 (by decide) ?_
  refine va_put (D := D) (ci := 0) (v := .int (0 : Int32)) (ty := .int) (C := RX0) (T := TX0) (N := 4) hx hb hts hi_X0_clear_0 tyX0 tyX0_ok nmX0 hown hK hP hD hS 0 W_X0_clear_o0 rfl 3 (by decide) (hts (.fieldLink RX0 26 "BlindLanterns$Felt" "count" "I") (List.mem_of_getElem? (i := 1) rfl)) (fun _ h9 => h9) rfl (by decide +kernel) rfl rfl (Nat.le_of_ble_eq_true rfl) dX0_clear_2 (fun H locs hP hD hS => ?_)
  rw [W_X0_clear_p0_3] at hP hD
  exact hret (0 : Int32) _ _ _ _ dX0_clear_5 he hP hD hS

def fX0_add (yi_3 : Int32) (yk_0 : Nat → Int32) (yk_1 : Nat → Int32) (yk_2 : Nat → Int32) (a1 : Int32) (a2 : Int32) (a3 : Int32) : Option (Int32 × (Nat → Int32) × (Nat → Int32) × (Nat → Int32)) :=
  xbd (fX3_set yk_0 yi_3 a1 10) (fun (u9 : (Nat → Int32)) => xbd (fX3_set yk_1 yi_3 a2 10) (fun (u21 : (Nat → Int32)) => if a3 = 0 then (xbd (fX3_set yk_2 yi_3 (0 : Int32) 10) (fun (u41 : (Nat → Int32)) => some ((yi_3 + (1 : Int32)), u9, u21, u41))) else (xbd (fX3_set yk_2 yi_3 (1 : Int32) 10) (fun (u41 : (Nat → Int32)) => some ((yi_3 + (1 : Int32)), u9, u21, u41)))))
theorem hi_X0_add_0 : ∀ w ∈ wsX00, w ∈ wsX0_add := fun _ h => (List.mem_cons_of_mem _ (List.mem_append_left _ (List.mem_append_right _ h)))
def W_X0_add (cI cP : ClassId) (y : Nat) (yr : Nat → Nat) (ya : Nat → Nat) (yi_3 : Int32) (yk_0 : Nat → Int32) (yk_1 : Nat → Int32) (yk_2 : Nat → Int32) : va_W := (wFelt cI y yr ya yi_3 yk_0 yk_1 yk_2)
theorem W_X0_add_o0 {cI cP : ClassId} {y : Nat} {yr : Nat → Nat} {ya : Nat → Nat} {yi_3 : Int32} {yk_0 : Nat → Int32} {yk_1 : Nat → Int32} {yk_2 : Nat → Int32} : (W_X0_add cI cP y yr ya yi_3 yk_0 yk_1 yk_2)[0]? = some (y, .inr (0, [.ref (yr 0), .ref (yr 1), .ref (yr 2), .int yi_3])) := rfl
theorem W_X0_add_c_X3_set_1_2 {cI cP : ClassId} {y : Nat} {yr : Nat → Nat} {ya : Nat → Nat} {yi_3 : Int32} {yk_0 : Nat → Int32} {yk_1 : Nat → Int32} {yk_2 : Nat → Int32} : ([1, 2] : List Nat).map (fun i => (W_X0_add cI cP y yr ya yi_3 yk_0 yk_1 yk_2)[i]?) = (W_X3_set cI cP (yr 0) (ya 0) 10 yk_0).map some := rfl
theorem W_X0_add_x_X3_set_1_2 {cI cP : ClassId} {y : Nat} {yr : Nat → Nat} {ya : Nat → Nat} {yi_3 : Int32} {yk_0 : Nat → Int32} {yk_1 : Nat → Int32} {yk_2 : Nat → Int32} {n0_ : Nat → Int32} : xset (W_X0_add cI cP y yr ya yi_3 yk_0 yk_1 yk_2) [1, 2] (W_X3_set cI cP (yr 0) (ya 0) 10 n0_) = W_X0_add cI cP y yr ya yi_3 n0_ yk_1 yk_2 := rfl
theorem W_X0_add_o1 {cI cP : ClassId} {y : Nat} {yr : Nat → Nat} {ya : Nat → Nat} {yi_3 : Int32} {yk_0 : Nat → Int32} {yk_1 : Nat → Int32} {yk_2 : Nat → Int32} : (W_X0_add cI cP y yr ya yi_3 yk_0 yk_1 yk_2)[1]? = some ((yr 0), .inr (3, [.ref (ya 0)])) := rfl
theorem W_X0_add_c_X3_set_3_4 {cI cP : ClassId} {y : Nat} {yr : Nat → Nat} {ya : Nat → Nat} {yi_3 : Int32} {yk_0 : Nat → Int32} {yk_1 : Nat → Int32} {yk_2 : Nat → Int32} : ([3, 4] : List Nat).map (fun i => (W_X0_add cI cP y yr ya yi_3 yk_0 yk_1 yk_2)[i]?) = (W_X3_set cI cP (yr 1) (ya 1) 10 yk_1).map some := rfl
theorem W_X0_add_x_X3_set_3_4 {cI cP : ClassId} {y : Nat} {yr : Nat → Nat} {ya : Nat → Nat} {yi_3 : Int32} {yk_0 : Nat → Int32} {yk_1 : Nat → Int32} {yk_2 : Nat → Int32} {n0_ : Nat → Int32} : xset (W_X0_add cI cP y yr ya yi_3 yk_0 yk_1 yk_2) [3, 4] (W_X3_set cI cP (yr 1) (ya 1) 10 n0_) = W_X0_add cI cP y yr ya yi_3 yk_0 n0_ yk_2 := rfl
theorem W_X0_add_o3 {cI cP : ClassId} {y : Nat} {yr : Nat → Nat} {ya : Nat → Nat} {yi_3 : Int32} {yk_0 : Nat → Int32} {yk_1 : Nat → Int32} {yk_2 : Nat → Int32} : (W_X0_add cI cP y yr ya yi_3 yk_0 yk_1 yk_2)[3]? = some ((yr 1), .inr (3, [.ref (ya 1)])) := rfl
theorem W_X0_add_c_X3_set_5_6 {cI cP : ClassId} {y : Nat} {yr : Nat → Nat} {ya : Nat → Nat} {yi_3 : Int32} {yk_0 : Nat → Int32} {yk_1 : Nat → Int32} {yk_2 : Nat → Int32} : ([5, 6] : List Nat).map (fun i => (W_X0_add cI cP y yr ya yi_3 yk_0 yk_1 yk_2)[i]?) = (W_X3_set cI cP (yr 2) (ya 2) 10 yk_2).map some := rfl
theorem W_X0_add_x_X3_set_5_6 {cI cP : ClassId} {y : Nat} {yr : Nat → Nat} {ya : Nat → Nat} {yi_3 : Int32} {yk_0 : Nat → Int32} {yk_1 : Nat → Int32} {yk_2 : Nat → Int32} {n0_ : Nat → Int32} : xset (W_X0_add cI cP y yr ya yi_3 yk_0 yk_1 yk_2) [5, 6] (W_X3_set cI cP (yr 2) (ya 2) 10 n0_) = W_X0_add cI cP y yr ya yi_3 yk_0 yk_1 n0_ := rfl
theorem W_X0_add_o5 {cI cP : ClassId} {y : Nat} {yr : Nat → Nat} {ya : Nat → Nat} {yi_3 : Int32} {yk_0 : Nat → Int32} {yk_1 : Nat → Int32} {yk_2 : Nat → Int32} : (W_X0_add cI cP y yr ya yi_3 yk_0 yk_1 yk_2)[5]? = some ((yr 2), .inr (3, [.ref (ya 2)])) := rfl
theorem W_X0_add_p0_3 {cI cP : ClassId} {y : Nat} {yr : Nat → Nat} {ya : Nat → Nat} {yi_3 : Int32} {yk_0 : Nat → Int32} {yk_1 : Nat → Int32} {yk_2 : Nat → Int32} {v9 : Int32} : (W_X0_add cI cP y yr ya yi_3 yk_0 yk_1 yk_2).set 0 (y, .inr (0, [.ref (yr 0), .ref (yr 1), .ref (yr 2), .int yi_3].set 3 (.int v9))) = W_X0_add cI cP y yr ya v9 yk_0 yk_1 yk_2 := rfl
set_option maxHeartbeats 4000000 in
set_option maxRecDepth 100000 in
theorem c_X0_add (l : Launch) (D : va_G) (cI cP : ClassId) (sz : Nat) (y : Nat) (yr : Nat → Nat) (ya : Nat → Nat) (yi_3 : Int32) (yk_0 : Nat → Int32) (yk_1 : Nat → Int32) (yk_2 : Nat → Int32) (a1 : Int32) (a2 : Int32) (a3 : Int32) (hne : fX0_add yi_3 yk_0 yk_1 yk_2 a1 a2 a3 ≠ none) : xMv l yX0_add wsX0_add ({ frames := 1, cells := 0, slots := 0, locals := 22 } : Room) D (xT cI cP) [.ref y, .int a1, .int a2, .int a3] (W_X0_add cI cP y yr ya yi_3 yk_0 yk_1 yk_2) sz (fun (u : (Int32 × (Nat → Int32) × (Nat → Int32) × (Nat → Int32))) => fX0_add yi_3 yk_0 yk_1 yk_2 a1 a2 a3 = some u) (fun u => W_X0_add cI cP y yr ya u.1 u.2.1 u.2.2.1 u.2.2.2) 0 0 := by
  refine xMv_of (cc := cX0_add) (maxL := 4) (by decide +kernel) rfl (Nat.le_of_ble_eq_true rfl) ?_
  intro p e s m args below meth c A ls hx hb hml hown hts hname hN hK hA hP hD hS hl Q hret
  have he := fX0_add.eq_1 yi_3 yk_0 yk_1 yk_2 a1 a2 a3
  have hl : lv_has ls 4 [(0, .ref y), (1, .int a1), (2, .int a2), (3, .int a3)] := hl
  refine lv_aload_n hx hb dX0_add_0 rfl (lv_at hl 0 rfl) ?_
  refine va_get (D := D) (ci := 0) (v := .ref (yr 0)) (C := RX0) (T := TX0) (N := 4) hx hb hts hi_X0_add_0 hown hK hP 0 W_X0_add_o0 rfl 0 (by decide) (hts (.fieldLink RX0 14 "BlindLanterns$Felt" "posts" "LBlindLanterns$Row;") (List.mem_of_getElem? (i := 1) rfl)) (fun _ h9 => h9) rfl dX0_add_1 ?_
  refine lv_aload_n hx hb dX0_add_4 rfl (lv_at hl 0 rfl) ?_
  refine va_get (D := D) (ci := 0) (v := .int yi_3) (C := RX0) (T := TX0) (N := 4) hx hb hts hi_X0_add_0 hown hK hP 0 W_X0_add_o0 rfl 3 (by decide) (hts (.fieldLink RX0 26 "BlindLanterns$Felt" "count" "I") (List.mem_of_getElem? (i := 2) rfl)) (fun _ h9 => h9) rfl dX0_add_5 ?_
  refine lv_iload_n hx hb dX0_add_8 rfl (lv_at hl 1 rfl) ?_
  have n1_ : fX3_set yk_0 yi_3 a1 10 ≠ none := fun z => hne (he.trans (xbd_none z))
  refine xcv (va_runV (As := [.int yi_3, .int a1]) (rest := []) ⟨hx, hb, hml, hown, hts⟩ (c_X3_set l D cI cP s.heap.size (yr 0) (ya 0) 10 yk_0 yi_3 a1 n1_) (cwV 2 hts gX0_add_X3_set rfl rfl rfl (by decide +kernel) ⟨Nat.le_of_ble_eq_true rfl, Nat.le_of_ble_eq_true rfl⟩) (xPV hN hK hP hD [1, 2] W_X0_add_c_X3_set_1_2 (by decide) (ci := 3) (j := 1) rfl W_X0_add_o1) rfl rfl hl.1 rfl (lv_room (Nat.le_of_ble_eq_true rfl)) dX0_add_9 ⟨Nat.le_of_ble_eq_true rfl, Nat.le_of_ble_eq_true rfl⟩) hP hD hS hA [1, 2] W_X0_add_c_X3_set_1_2 (fun _ => rfl) (fun u9 H locs hw hP hD hS => ?_)
  rw [W_X0_add_x_X3_set_1_2] at hP hD
  replace he := he.trans (xbd_some hw)
  refine lv_aload_n hx hb dX0_add_12 rfl (lv_at hl 0 rfl) ?_
  refine va_get (D := D) (ci := 0) (v := .ref (yr 1)) (C := RX0) (T := TX0) (N := 4) hx hb hts hi_X0_add_0 hown hK hP 0 W_X0_add_o0 rfl 1 (by decide) (hts (.fieldLink RX0 20 "BlindLanterns$Felt" "bells" "LBlindLanterns$Row;") (List.mem_of_getElem? (i := 3) rfl)) (fun _ h9 => h9) rfl dX0_add_13 ?_
  refine lv_aload_n hx hb dX0_add_16 rfl (lv_at hl 0 rfl) ?_
  refine va_get (D := D) (ci := 0) (v := .int yi_3) (C := RX0) (T := TX0) (N := 4) hx hb hts hi_X0_add_0 hown hK hP 0 W_X0_add_o0 rfl 3 (by decide) (hts (.fieldLink RX0 26 "BlindLanterns$Felt" "count" "I") (List.mem_of_getElem? (i := 2) rfl)) (fun _ h9 => h9) rfl dX0_add_17 ?_
  refine lv_iload_n hx hb dX0_add_20 rfl (lv_at hl 2 rfl) ?_
  have n2_ : fX3_set yk_1 yi_3 a2 10 ≠ none := fun z => hne (he.trans (xbd_none z))
  refine xcv (va_runV (As := [.int yi_3, .int a2]) (rest := []) ⟨hx, hb, hml, hown, hts⟩ (c_X3_set l D cI cP H.size (yr 1) (ya 1) 10 yk_1 yi_3 a2 n2_) (cwV 2 hts gX0_add_X3_set rfl rfl rfl (by decide +kernel) ⟨Nat.le_of_ble_eq_true rfl, Nat.le_of_ble_eq_true rfl⟩) (xPV hN hK hP hD [3, 4] W_X0_add_c_X3_set_3_4 (by decide) (ci := 3) (j := 3) rfl W_X0_add_o3) rfl rfl hl.1 rfl (lv_room (Nat.le_of_ble_eq_true rfl)) dX0_add_21 ⟨Nat.le_of_ble_eq_true rfl, Nat.le_of_ble_eq_true rfl⟩) hP hD hS hA [3, 4] W_X0_add_c_X3_set_3_4 (fun _ => rfl) (fun u21 H locs hw hP hD hS => ?_)
  rw [W_X0_add_x_X3_set_3_4] at hP hD
  replace he := he.trans (xbd_some hw)
  refine lv_aload_n hx hb dX0_add_24 rfl (lv_at hl 0 rfl) ?_
  refine va_get (D := D) (ci := 0) (v := .ref (yr 2)) (C := RX0) (T := TX0) (N := 4) hx hb hts hi_X0_add_0 hown hK hP 0 W_X0_add_o0 rfl 2 (by decide) (hts (.fieldLink RX0 23 "BlindLanterns$Felt" "warmths" "LBlindLanterns$Row;") (List.mem_of_getElem? (i := 4) rfl)) (fun _ h9 => h9) rfl dX0_add_25 ?_
  refine lv_aload_n hx hb dX0_add_28 rfl (lv_at hl 0 rfl) ?_
  refine va_get (D := D) (ci := 0) (v := .int yi_3) (C := RX0) (T := TX0) (N := 4) hx hb hts hi_X0_add_0 hown hK hP 0 W_X0_add_o0 rfl 3 (by decide) (hts (.fieldLink RX0 26 "BlindLanterns$Felt" "count" "I") (List.mem_of_getElem? (i := 2) rfl)) (fun _ h9 => h9) rfl dX0_add_29 ?_
  refine lv_iload_n hx hb dX0_add_32 rfl (lv_at hl 3 rfl) ?_
  refine lv_if_eq (tgt := 40) hx hb dX0_add_33 (by decide) (fun c3 => ?_) (fun c3 => ?_)
  · replace he := he.trans (if_pos c3)
    refine lv_iconst (v := 0) hx hb dX0_add_40 (by decide) ?_
    have n4_ : fX3_set yk_2 yi_3 (0 : Int32) 10 ≠ none := fun z => hne (he.trans (xbd_none z))
    refine xcv (va_runV (As := [.int yi_3, .int (0 : Int32)]) (rest := []) ⟨hx, hb, hml, hown, hts⟩ (c_X3_set l D cI cP H.size (yr 2) (ya 2) 10 yk_2 yi_3 (0 : Int32) n4_) (cwV 2 hts gX0_add_X3_set rfl rfl rfl (by decide +kernel) ⟨Nat.le_of_ble_eq_true rfl, Nat.le_of_ble_eq_true rfl⟩) (xPV hN hK hP hD [5, 6] W_X0_add_c_X3_set_5_6 (by decide) (ci := 3) (j := 5) rfl W_X0_add_o5) rfl rfl hl.1 rfl (lv_room (Nat.le_of_ble_eq_true rfl)) dX0_add_41 ⟨Nat.le_of_ble_eq_true rfl, Nat.le_of_ble_eq_true rfl⟩) hP hD hS hA [5, 6] W_X0_add_c_X3_set_5_6 (fun _ => rfl) (fun u41 H locs hw hP hD hS => ?_)
    rw [W_X0_add_x_X3_set_5_6] at hP hD
    replace he := he.trans (xbd_some hw)
    refine lv_aload_n hx hb dX0_add_44 rfl (lv_at hl 0 rfl) ?_
    refine lv_dup hx hb dX0_add_45 rfl ?_
    refine va_get (D := D) (ci := 0) (v := .int yi_3) (C := RX0) (T := TX0) (N := 4) hx hb hts hi_X0_add_0 hown hK hP 0 W_X0_add_o0 rfl 3 (by decide) (hts (.fieldLink RX0 26 "BlindLanterns$Felt" "count" "I") (List.mem_of_getElem? (i := 2) rfl)) (fun _ h9 => h9) rfl dX0_add_46 ?_
    refine lv_iconst (v := 1) hx hb dX0_add_49 (by decide) ?_
    refine lv_iadd hx hb dX0_add_50 ?_
    refine va_put (D := D) (ci := 0) (v := .int (yi_3 + (1 : Int32))) (ty := .int) (C := RX0) (T := TX0) (N := 4) hx hb hts hi_X0_add_0 tyX0 tyX0_ok nmX0 hown hK hP hD hS 0 W_X0_add_o0 rfl 3 (by decide) (hts (.fieldLink RX0 26 "BlindLanterns$Felt" "count" "I") (List.mem_of_getElem? (i := 2) rfl)) (fun _ h9 => h9) rfl (by decide +kernel) rfl rfl (Nat.le_of_ble_eq_true rfl) dX0_add_51 (fun H locs hP hD hS => ?_)
    rw [W_X0_add_p0_3] at hP hD
    exact hret ((yi_3 + (1 : Int32)), u9, u21, u41) _ _ _ _ dX0_add_54 he hP hD hS
  · replace he := he.trans (if_neg c3)
    refine lv_iconst (v := 1) hx hb dX0_add_36 (by decide) ?_
    refine lv_goto (tgt := 41) hx hb dX0_add_37 (by decide) ?_
    have n5_ : fX3_set yk_2 yi_3 (1 : Int32) 10 ≠ none := fun z => hne (he.trans (xbd_none z))
    refine xcv (va_runV (As := [.int yi_3, .int (1 : Int32)]) (rest := []) ⟨hx, hb, hml, hown, hts⟩ (c_X3_set l D cI cP H.size (yr 2) (ya 2) 10 yk_2 yi_3 (1 : Int32) n5_) (cwV 2 hts gX0_add_X3_set rfl rfl rfl (by decide +kernel) ⟨Nat.le_of_ble_eq_true rfl, Nat.le_of_ble_eq_true rfl⟩) (xPV hN hK hP hD [5, 6] W_X0_add_c_X3_set_5_6 (by decide) (ci := 3) (j := 5) rfl W_X0_add_o5) rfl rfl hl.1 rfl (lv_room (Nat.le_of_ble_eq_true rfl)) dX0_add_41 ⟨Nat.le_of_ble_eq_true rfl, Nat.le_of_ble_eq_true rfl⟩) hP hD hS hA [5, 6] W_X0_add_c_X3_set_5_6 (fun _ => rfl) (fun u41 H locs hw hP hD hS => ?_)
    rw [W_X0_add_x_X3_set_5_6] at hP hD
    replace he := he.trans (xbd_some hw)
    refine lv_aload_n hx hb dX0_add_44 rfl (lv_at hl 0 rfl) ?_
    refine lv_dup hx hb dX0_add_45 rfl ?_
    refine va_get (D := D) (ci := 0) (v := .int yi_3) (C := RX0) (T := TX0) (N := 4) hx hb hts hi_X0_add_0 hown hK hP 0 W_X0_add_o0 rfl 3 (by decide) (hts (.fieldLink RX0 26 "BlindLanterns$Felt" "count" "I") (List.mem_of_getElem? (i := 2) rfl)) (fun _ h9 => h9) rfl dX0_add_46 ?_
    refine lv_iconst (v := 1) hx hb dX0_add_49 (by decide) ?_
    refine lv_iadd hx hb dX0_add_50 ?_
    refine va_put (D := D) (ci := 0) (v := .int (yi_3 + (1 : Int32))) (ty := .int) (C := RX0) (T := TX0) (N := 4) hx hb hts hi_X0_add_0 tyX0 tyX0_ok nmX0 hown hK hP hD hS 0 W_X0_add_o0 rfl 3 (by decide) (hts (.fieldLink RX0 26 "BlindLanterns$Felt" "count" "I") (List.mem_of_getElem? (i := 2) rfl)) (fun _ h9 => h9) rfl (by decide +kernel) rfl rfl (Nat.le_of_ble_eq_true rfl) dX0_add_51 (fun H locs hP hD hS => ?_)
    rw [W_X0_add_p0_3] at hP hD
    exact hret ((yi_3 + (1 : Int32)), u9, u21, u41) _ _ _ _ dX0_add_54 he hP hD hS

def fX0_agrees_L3 (yi_3 : Int32) (yk_0 : Nat → Int32) (yk_1 : Nat → Int32) (yk_2 : Nat → Int32) (ti_4 : Int32) (ti_7 : Int32) (ti_9 : Int32) (ti_10 : Int32) (tk_0 : Nat → Int32) (gf : Nat → Int32) (a3 : Int32) (gn : Nat) (k3 : Int32 → Option (Int32)) : Nat → Int32 → Option (Int32)
  | 0, _ => none
  | n3 + 1, v3_4 => if yi_3 ≤ v3_4 then (k3 v3_4) else (xbd (fX3_get yk_0 v3_4 10) (fun (r18 : Int32) => xbd (fX3_get yk_1 v3_4 10) (fun (r29 : Int32) => xbd (fX5_postBefore ti_4 ti_7 r18 r29) (fun (r42 : Int32) => xbd (fX3_get gf r42 gn) (fun (r45 : Int32) => if r45 ≤ r29 then (if r18 = a3 then (xbd (fX5_isWarm ti_9 ti_10 (1 : Int32) (0 : Int32) r29) (fun (r86 : Int32) => xbd (fX3_get yk_2 v3_4 10) (fun (r95 : Int32) => if r95 = (1 : Int32) then (if r86 = (1 : Int32) then (fX0_agrees_L3 yi_3 yk_0 yk_1 yk_2 ti_4 ti_7 ti_9 ti_10 tk_0 gf a3 gn k3 n3 (v3_4 + 1)) else (some (0 : Int32))) else (if r86 = (0 : Int32) then (fX0_agrees_L3 yi_3 yk_0 yk_1 yk_2 ti_4 ti_7 ti_9 ti_10 tk_0 gf a3 gn k3 n3 (v3_4 + 1)) else (some (0 : Int32)))))) else (xbd (fX3_get tk_0 r18 6) (fun (r74 : Int32) => xbd (fX5_isWarm ti_9 ti_10 r74 (0 : Int32) r29) (fun (r86 : Int32) => xbd (fX3_get yk_2 v3_4 10) (fun (r95 : Int32) => if r95 = (1 : Int32) then (if r86 = (1 : Int32) then (fX0_agrees_L3 yi_3 yk_0 yk_1 yk_2 ti_4 ti_7 ti_9 ti_10 tk_0 gf a3 gn k3 n3 (v3_4 + 1)) else (some (0 : Int32))) else (if r86 = (0 : Int32) then (fX0_agrees_L3 yi_3 yk_0 yk_1 yk_2 ti_4 ti_7 ti_9 ti_10 tk_0 gf a3 gn k3 n3 (v3_4 + 1)) else (some (0 : Int32)))))))) else (if r18 = a3 then (xbd (fX5_isWarm ti_9 ti_10 (1 : Int32) (1 : Int32) r29) (fun (r86 : Int32) => xbd (fX3_get yk_2 v3_4 10) (fun (r95 : Int32) => if r95 = (1 : Int32) then (if r86 = (1 : Int32) then (fX0_agrees_L3 yi_3 yk_0 yk_1 yk_2 ti_4 ti_7 ti_9 ti_10 tk_0 gf a3 gn k3 n3 (v3_4 + 1)) else (some (0 : Int32))) else (if r86 = (0 : Int32) then (fX0_agrees_L3 yi_3 yk_0 yk_1 yk_2 ti_4 ti_7 ti_9 ti_10 tk_0 gf a3 gn k3 n3 (v3_4 + 1)) else (some (0 : Int32)))))) else (xbd (fX3_get tk_0 r18 6) (fun (r74 : Int32) => xbd (fX5_isWarm ti_9 ti_10 r74 (1 : Int32) r29) (fun (r86 : Int32) => xbd (fX3_get yk_2 v3_4 10) (fun (r95 : Int32) => if r95 = (1 : Int32) then (if r86 = (1 : Int32) then (fX0_agrees_L3 yi_3 yk_0 yk_1 yk_2 ti_4 ti_7 ti_9 ti_10 tk_0 gf a3 gn k3 n3 (v3_4 + 1)) else (some (0 : Int32))) else (if r86 = (0 : Int32) then (fX0_agrees_L3 yi_3 yk_0 yk_1 yk_2 ti_4 ti_7 ti_9 ti_10 tk_0 gf a3 gn k3 n3 (v3_4 + 1)) else (some (0 : Int32)))))))))))))
def fX0_agrees (F : Nat) (yi_3 : Int32) (yk_0 : Nat → Int32) (yk_1 : Nat → Int32) (yk_2 : Nat → Int32) (ti_4 : Int32) (ti_7 : Int32) (ti_9 : Int32) (ti_10 : Int32) (tk_0 : Nat → Int32) (gf : Nat → Int32) (a3 : Int32) (gn : Nat) : Option (Int32) :=
  fX0_agrees_L3 yi_3 yk_0 yk_1 yk_2 ti_4 ti_7 ti_9 ti_10 tk_0 gf a3 gn (fun (v3_4 : Int32) => some (1 : Int32)) F (0 : Int32)
theorem hi_X0_agrees_0 : ∀ w ∈ wsX00, w ∈ wsX0_agrees := fun _ h => (List.mem_cons_of_mem _ (List.mem_append_left _ (List.mem_append_left _ (List.mem_append_right _ h))))
theorem hi_X0_agrees_5 : ∀ w ∈ wsX50, w ∈ wsX0_agrees := fun _ h => (List.mem_cons_of_mem _ (List.mem_append_left _ (List.mem_append_right _ h)))
def W_X0_agrees (cI cP : ClassId) (y : Nat) (yr : Nat → Nat) (ya : Nat → Nat) (yi_3 : Int32) (yk_0 : Nat → Int32) (yk_1 : Nat → Int32) (yk_2 : Nat → Int32) (t : Nat) (tr : Nat → Nat) (ta : Nat → Nat) (ti_4 : Int32) (ti_5 : Int32) (ti_6 : Int32) (ti_7 : Int32) (ti_8 : Int32) (ti_9 : Int32) (ti_10 : Int32) (tk_0 : Nat → Int32) (tk_1 : Nat → Int32) (tk_2 : Nat → Int32) (tk_3 : Nat → Int32) (g : Nat) (ga : Nat) (gn : Nat) (gf : Nat → Int32) : va_W := (wFelt cI y yr ya yi_3 yk_0 yk_1 yk_2) ++ ((wTold cI t tr ta ti_4 ti_5 ti_6 ti_7 ti_8 ti_9 ti_10 tk_0 tk_1 tk_2 tk_3) ++ ((wRow cI g ga gn gf)))
theorem W_X0_agrees_o0 {cI cP : ClassId} {y : Nat} {yr : Nat → Nat} {ya : Nat → Nat} {yi_3 : Int32} {yk_0 : Nat → Int32} {yk_1 : Nat → Int32} {yk_2 : Nat → Int32} {t : Nat} {tr : Nat → Nat} {ta : Nat → Nat} {ti_4 : Int32} {ti_5 : Int32} {ti_6 : Int32} {ti_7 : Int32} {ti_8 : Int32} {ti_9 : Int32} {ti_10 : Int32} {tk_0 : Nat → Int32} {tk_1 : Nat → Int32} {tk_2 : Nat → Int32} {tk_3 : Nat → Int32} {g : Nat} {ga : Nat} {gn : Nat} {gf : Nat → Int32} : (W_X0_agrees cI cP y yr ya yi_3 yk_0 yk_1 yk_2 t tr ta ti_4 ti_5 ti_6 ti_7 ti_8 ti_9 ti_10 tk_0 tk_1 tk_2 tk_3 g ga gn gf)[0]? = some (y, .inr (0, [.ref (yr 0), .ref (yr 1), .ref (yr 2), .int yi_3])) := rfl
theorem W_X0_agrees_c_X3_get_1_2 {cI cP : ClassId} {y : Nat} {yr : Nat → Nat} {ya : Nat → Nat} {yi_3 : Int32} {yk_0 : Nat → Int32} {yk_1 : Nat → Int32} {yk_2 : Nat → Int32} {t : Nat} {tr : Nat → Nat} {ta : Nat → Nat} {ti_4 : Int32} {ti_5 : Int32} {ti_6 : Int32} {ti_7 : Int32} {ti_8 : Int32} {ti_9 : Int32} {ti_10 : Int32} {tk_0 : Nat → Int32} {tk_1 : Nat → Int32} {tk_2 : Nat → Int32} {tk_3 : Nat → Int32} {g : Nat} {ga : Nat} {gn : Nat} {gf : Nat → Int32} : ([1, 2] : List Nat).map (fun i => (W_X0_agrees cI cP y yr ya yi_3 yk_0 yk_1 yk_2 t tr ta ti_4 ti_5 ti_6 ti_7 ti_8 ti_9 ti_10 tk_0 tk_1 tk_2 tk_3 g ga gn gf)[i]?) = (W_X3_get cI cP (yr 0) (ya 0) 10 yk_0).map some := rfl
theorem W_X0_agrees_x_X3_get_1_2 {cI cP : ClassId} {y : Nat} {yr : Nat → Nat} {ya : Nat → Nat} {yi_3 : Int32} {yk_0 : Nat → Int32} {yk_1 : Nat → Int32} {yk_2 : Nat → Int32} {t : Nat} {tr : Nat → Nat} {ta : Nat → Nat} {ti_4 : Int32} {ti_5 : Int32} {ti_6 : Int32} {ti_7 : Int32} {ti_8 : Int32} {ti_9 : Int32} {ti_10 : Int32} {tk_0 : Nat → Int32} {tk_1 : Nat → Int32} {tk_2 : Nat → Int32} {tk_3 : Nat → Int32} {g : Nat} {ga : Nat} {gn : Nat} {gf : Nat → Int32} : xset (W_X0_agrees cI cP y yr ya yi_3 yk_0 yk_1 yk_2 t tr ta ti_4 ti_5 ti_6 ti_7 ti_8 ti_9 ti_10 tk_0 tk_1 tk_2 tk_3 g ga gn gf) [1, 2] (W_X3_get cI cP (yr 0) (ya 0) 10 yk_0) = W_X0_agrees cI cP y yr ya yi_3 yk_0 yk_1 yk_2 t tr ta ti_4 ti_5 ti_6 ti_7 ti_8 ti_9 ti_10 tk_0 tk_1 tk_2 tk_3 g ga gn gf := rfl
theorem W_X0_agrees_o1 {cI cP : ClassId} {y : Nat} {yr : Nat → Nat} {ya : Nat → Nat} {yi_3 : Int32} {yk_0 : Nat → Int32} {yk_1 : Nat → Int32} {yk_2 : Nat → Int32} {t : Nat} {tr : Nat → Nat} {ta : Nat → Nat} {ti_4 : Int32} {ti_5 : Int32} {ti_6 : Int32} {ti_7 : Int32} {ti_8 : Int32} {ti_9 : Int32} {ti_10 : Int32} {tk_0 : Nat → Int32} {tk_1 : Nat → Int32} {tk_2 : Nat → Int32} {tk_3 : Nat → Int32} {g : Nat} {ga : Nat} {gn : Nat} {gf : Nat → Int32} : (W_X0_agrees cI cP y yr ya yi_3 yk_0 yk_1 yk_2 t tr ta ti_4 ti_5 ti_6 ti_7 ti_8 ti_9 ti_10 tk_0 tk_1 tk_2 tk_3 g ga gn gf)[1]? = some ((yr 0), .inr (3, [.ref (ya 0)])) := rfl
theorem W_X0_agrees_c_X3_get_3_4 {cI cP : ClassId} {y : Nat} {yr : Nat → Nat} {ya : Nat → Nat} {yi_3 : Int32} {yk_0 : Nat → Int32} {yk_1 : Nat → Int32} {yk_2 : Nat → Int32} {t : Nat} {tr : Nat → Nat} {ta : Nat → Nat} {ti_4 : Int32} {ti_5 : Int32} {ti_6 : Int32} {ti_7 : Int32} {ti_8 : Int32} {ti_9 : Int32} {ti_10 : Int32} {tk_0 : Nat → Int32} {tk_1 : Nat → Int32} {tk_2 : Nat → Int32} {tk_3 : Nat → Int32} {g : Nat} {ga : Nat} {gn : Nat} {gf : Nat → Int32} : ([3, 4] : List Nat).map (fun i => (W_X0_agrees cI cP y yr ya yi_3 yk_0 yk_1 yk_2 t tr ta ti_4 ti_5 ti_6 ti_7 ti_8 ti_9 ti_10 tk_0 tk_1 tk_2 tk_3 g ga gn gf)[i]?) = (W_X3_get cI cP (yr 1) (ya 1) 10 yk_1).map some := rfl
theorem W_X0_agrees_x_X3_get_3_4 {cI cP : ClassId} {y : Nat} {yr : Nat → Nat} {ya : Nat → Nat} {yi_3 : Int32} {yk_0 : Nat → Int32} {yk_1 : Nat → Int32} {yk_2 : Nat → Int32} {t : Nat} {tr : Nat → Nat} {ta : Nat → Nat} {ti_4 : Int32} {ti_5 : Int32} {ti_6 : Int32} {ti_7 : Int32} {ti_8 : Int32} {ti_9 : Int32} {ti_10 : Int32} {tk_0 : Nat → Int32} {tk_1 : Nat → Int32} {tk_2 : Nat → Int32} {tk_3 : Nat → Int32} {g : Nat} {ga : Nat} {gn : Nat} {gf : Nat → Int32} : xset (W_X0_agrees cI cP y yr ya yi_3 yk_0 yk_1 yk_2 t tr ta ti_4 ti_5 ti_6 ti_7 ti_8 ti_9 ti_10 tk_0 tk_1 tk_2 tk_3 g ga gn gf) [3, 4] (W_X3_get cI cP (yr 1) (ya 1) 10 yk_1) = W_X0_agrees cI cP y yr ya yi_3 yk_0 yk_1 yk_2 t tr ta ti_4 ti_5 ti_6 ti_7 ti_8 ti_9 ti_10 tk_0 tk_1 tk_2 tk_3 g ga gn gf := rfl
theorem W_X0_agrees_o3 {cI cP : ClassId} {y : Nat} {yr : Nat → Nat} {ya : Nat → Nat} {yi_3 : Int32} {yk_0 : Nat → Int32} {yk_1 : Nat → Int32} {yk_2 : Nat → Int32} {t : Nat} {tr : Nat → Nat} {ta : Nat → Nat} {ti_4 : Int32} {ti_5 : Int32} {ti_6 : Int32} {ti_7 : Int32} {ti_8 : Int32} {ti_9 : Int32} {ti_10 : Int32} {tk_0 : Nat → Int32} {tk_1 : Nat → Int32} {tk_2 : Nat → Int32} {tk_3 : Nat → Int32} {g : Nat} {ga : Nat} {gn : Nat} {gf : Nat → Int32} : (W_X0_agrees cI cP y yr ya yi_3 yk_0 yk_1 yk_2 t tr ta ti_4 ti_5 ti_6 ti_7 ti_8 ti_9 ti_10 tk_0 tk_1 tk_2 tk_3 g ga gn gf)[3]? = some ((yr 1), .inr (3, [.ref (ya 1)])) := rfl
theorem W_X0_agrees_c_X5_postBefore_7_8_9_10_11_12_13_14_15 {cI cP : ClassId} {y : Nat} {yr : Nat → Nat} {ya : Nat → Nat} {yi_3 : Int32} {yk_0 : Nat → Int32} {yk_1 : Nat → Int32} {yk_2 : Nat → Int32} {t : Nat} {tr : Nat → Nat} {ta : Nat → Nat} {ti_4 : Int32} {ti_5 : Int32} {ti_6 : Int32} {ti_7 : Int32} {ti_8 : Int32} {ti_9 : Int32} {ti_10 : Int32} {tk_0 : Nat → Int32} {tk_1 : Nat → Int32} {tk_2 : Nat → Int32} {tk_3 : Nat → Int32} {g : Nat} {ga : Nat} {gn : Nat} {gf : Nat → Int32} : ([7, 8, 9, 10, 11, 12, 13, 14, 15] : List Nat).map (fun i => (W_X0_agrees cI cP y yr ya yi_3 yk_0 yk_1 yk_2 t tr ta ti_4 ti_5 ti_6 ti_7 ti_8 ti_9 ti_10 tk_0 tk_1 tk_2 tk_3 g ga gn gf)[i]?) = (W_X5_postBefore cI cP t tr ta ti_4 ti_5 ti_6 ti_7 ti_8 ti_9 ti_10 tk_0 tk_1 tk_2 tk_3).map some := rfl
theorem W_X0_agrees_x_X5_postBefore_7_8_9_10_11_12_13_14_15 {cI cP : ClassId} {y : Nat} {yr : Nat → Nat} {ya : Nat → Nat} {yi_3 : Int32} {yk_0 : Nat → Int32} {yk_1 : Nat → Int32} {yk_2 : Nat → Int32} {t : Nat} {tr : Nat → Nat} {ta : Nat → Nat} {ti_4 : Int32} {ti_5 : Int32} {ti_6 : Int32} {ti_7 : Int32} {ti_8 : Int32} {ti_9 : Int32} {ti_10 : Int32} {tk_0 : Nat → Int32} {tk_1 : Nat → Int32} {tk_2 : Nat → Int32} {tk_3 : Nat → Int32} {g : Nat} {ga : Nat} {gn : Nat} {gf : Nat → Int32} : xset (W_X0_agrees cI cP y yr ya yi_3 yk_0 yk_1 yk_2 t tr ta ti_4 ti_5 ti_6 ti_7 ti_8 ti_9 ti_10 tk_0 tk_1 tk_2 tk_3 g ga gn gf) [7, 8, 9, 10, 11, 12, 13, 14, 15] (W_X5_postBefore cI cP t tr ta ti_4 ti_5 ti_6 ti_7 ti_8 ti_9 ti_10 tk_0 tk_1 tk_2 tk_3) = W_X0_agrees cI cP y yr ya yi_3 yk_0 yk_1 yk_2 t tr ta ti_4 ti_5 ti_6 ti_7 ti_8 ti_9 ti_10 tk_0 tk_1 tk_2 tk_3 g ga gn gf := rfl
theorem W_X0_agrees_o7 {cI cP : ClassId} {y : Nat} {yr : Nat → Nat} {ya : Nat → Nat} {yi_3 : Int32} {yk_0 : Nat → Int32} {yk_1 : Nat → Int32} {yk_2 : Nat → Int32} {t : Nat} {tr : Nat → Nat} {ta : Nat → Nat} {ti_4 : Int32} {ti_5 : Int32} {ti_6 : Int32} {ti_7 : Int32} {ti_8 : Int32} {ti_9 : Int32} {ti_10 : Int32} {tk_0 : Nat → Int32} {tk_1 : Nat → Int32} {tk_2 : Nat → Int32} {tk_3 : Nat → Int32} {g : Nat} {ga : Nat} {gn : Nat} {gf : Nat → Int32} : (W_X0_agrees cI cP y yr ya yi_3 yk_0 yk_1 yk_2 t tr ta ti_4 ti_5 ti_6 ti_7 ti_8 ti_9 ti_10 tk_0 tk_1 tk_2 tk_3 g ga gn gf)[7]? = some (t, .inr (5, [.ref (tr 0), .ref (tr 1), .ref (tr 2), .ref (tr 3), .int ti_4, .int ti_5, .int ti_6, .int ti_7, .int ti_8, .int ti_9, .int ti_10])) := rfl
theorem W_X0_agrees_c_X3_get_16_17 {cI cP : ClassId} {y : Nat} {yr : Nat → Nat} {ya : Nat → Nat} {yi_3 : Int32} {yk_0 : Nat → Int32} {yk_1 : Nat → Int32} {yk_2 : Nat → Int32} {t : Nat} {tr : Nat → Nat} {ta : Nat → Nat} {ti_4 : Int32} {ti_5 : Int32} {ti_6 : Int32} {ti_7 : Int32} {ti_8 : Int32} {ti_9 : Int32} {ti_10 : Int32} {tk_0 : Nat → Int32} {tk_1 : Nat → Int32} {tk_2 : Nat → Int32} {tk_3 : Nat → Int32} {g : Nat} {ga : Nat} {gn : Nat} {gf : Nat → Int32} : ([16, 17] : List Nat).map (fun i => (W_X0_agrees cI cP y yr ya yi_3 yk_0 yk_1 yk_2 t tr ta ti_4 ti_5 ti_6 ti_7 ti_8 ti_9 ti_10 tk_0 tk_1 tk_2 tk_3 g ga gn gf)[i]?) = (W_X3_get cI cP g ga gn gf).map some := rfl
theorem W_X0_agrees_x_X3_get_16_17 {cI cP : ClassId} {y : Nat} {yr : Nat → Nat} {ya : Nat → Nat} {yi_3 : Int32} {yk_0 : Nat → Int32} {yk_1 : Nat → Int32} {yk_2 : Nat → Int32} {t : Nat} {tr : Nat → Nat} {ta : Nat → Nat} {ti_4 : Int32} {ti_5 : Int32} {ti_6 : Int32} {ti_7 : Int32} {ti_8 : Int32} {ti_9 : Int32} {ti_10 : Int32} {tk_0 : Nat → Int32} {tk_1 : Nat → Int32} {tk_2 : Nat → Int32} {tk_3 : Nat → Int32} {g : Nat} {ga : Nat} {gn : Nat} {gf : Nat → Int32} : xset (W_X0_agrees cI cP y yr ya yi_3 yk_0 yk_1 yk_2 t tr ta ti_4 ti_5 ti_6 ti_7 ti_8 ti_9 ti_10 tk_0 tk_1 tk_2 tk_3 g ga gn gf) [16, 17] (W_X3_get cI cP g ga gn gf) = W_X0_agrees cI cP y yr ya yi_3 yk_0 yk_1 yk_2 t tr ta ti_4 ti_5 ti_6 ti_7 ti_8 ti_9 ti_10 tk_0 tk_1 tk_2 tk_3 g ga gn gf := rfl
theorem W_X0_agrees_o16 {cI cP : ClassId} {y : Nat} {yr : Nat → Nat} {ya : Nat → Nat} {yi_3 : Int32} {yk_0 : Nat → Int32} {yk_1 : Nat → Int32} {yk_2 : Nat → Int32} {t : Nat} {tr : Nat → Nat} {ta : Nat → Nat} {ti_4 : Int32} {ti_5 : Int32} {ti_6 : Int32} {ti_7 : Int32} {ti_8 : Int32} {ti_9 : Int32} {ti_10 : Int32} {tk_0 : Nat → Int32} {tk_1 : Nat → Int32} {tk_2 : Nat → Int32} {tk_3 : Nat → Int32} {g : Nat} {ga : Nat} {gn : Nat} {gf : Nat → Int32} : (W_X0_agrees cI cP y yr ya yi_3 yk_0 yk_1 yk_2 t tr ta ti_4 ti_5 ti_6 ti_7 ti_8 ti_9 ti_10 tk_0 tk_1 tk_2 tk_3 g ga gn gf)[16]? = some (g, .inr (3, [.ref ga])) := rfl
theorem W_X0_agrees_c_X3_get_8_9 {cI cP : ClassId} {y : Nat} {yr : Nat → Nat} {ya : Nat → Nat} {yi_3 : Int32} {yk_0 : Nat → Int32} {yk_1 : Nat → Int32} {yk_2 : Nat → Int32} {t : Nat} {tr : Nat → Nat} {ta : Nat → Nat} {ti_4 : Int32} {ti_5 : Int32} {ti_6 : Int32} {ti_7 : Int32} {ti_8 : Int32} {ti_9 : Int32} {ti_10 : Int32} {tk_0 : Nat → Int32} {tk_1 : Nat → Int32} {tk_2 : Nat → Int32} {tk_3 : Nat → Int32} {g : Nat} {ga : Nat} {gn : Nat} {gf : Nat → Int32} : ([8, 9] : List Nat).map (fun i => (W_X0_agrees cI cP y yr ya yi_3 yk_0 yk_1 yk_2 t tr ta ti_4 ti_5 ti_6 ti_7 ti_8 ti_9 ti_10 tk_0 tk_1 tk_2 tk_3 g ga gn gf)[i]?) = (W_X3_get cI cP (tr 0) (ta 0) 6 tk_0).map some := rfl
theorem W_X0_agrees_x_X3_get_8_9 {cI cP : ClassId} {y : Nat} {yr : Nat → Nat} {ya : Nat → Nat} {yi_3 : Int32} {yk_0 : Nat → Int32} {yk_1 : Nat → Int32} {yk_2 : Nat → Int32} {t : Nat} {tr : Nat → Nat} {ta : Nat → Nat} {ti_4 : Int32} {ti_5 : Int32} {ti_6 : Int32} {ti_7 : Int32} {ti_8 : Int32} {ti_9 : Int32} {ti_10 : Int32} {tk_0 : Nat → Int32} {tk_1 : Nat → Int32} {tk_2 : Nat → Int32} {tk_3 : Nat → Int32} {g : Nat} {ga : Nat} {gn : Nat} {gf : Nat → Int32} : xset (W_X0_agrees cI cP y yr ya yi_3 yk_0 yk_1 yk_2 t tr ta ti_4 ti_5 ti_6 ti_7 ti_8 ti_9 ti_10 tk_0 tk_1 tk_2 tk_3 g ga gn gf) [8, 9] (W_X3_get cI cP (tr 0) (ta 0) 6 tk_0) = W_X0_agrees cI cP y yr ya yi_3 yk_0 yk_1 yk_2 t tr ta ti_4 ti_5 ti_6 ti_7 ti_8 ti_9 ti_10 tk_0 tk_1 tk_2 tk_3 g ga gn gf := rfl
theorem W_X0_agrees_o8 {cI cP : ClassId} {y : Nat} {yr : Nat → Nat} {ya : Nat → Nat} {yi_3 : Int32} {yk_0 : Nat → Int32} {yk_1 : Nat → Int32} {yk_2 : Nat → Int32} {t : Nat} {tr : Nat → Nat} {ta : Nat → Nat} {ti_4 : Int32} {ti_5 : Int32} {ti_6 : Int32} {ti_7 : Int32} {ti_8 : Int32} {ti_9 : Int32} {ti_10 : Int32} {tk_0 : Nat → Int32} {tk_1 : Nat → Int32} {tk_2 : Nat → Int32} {tk_3 : Nat → Int32} {g : Nat} {ga : Nat} {gn : Nat} {gf : Nat → Int32} : (W_X0_agrees cI cP y yr ya yi_3 yk_0 yk_1 yk_2 t tr ta ti_4 ti_5 ti_6 ti_7 ti_8 ti_9 ti_10 tk_0 tk_1 tk_2 tk_3 g ga gn gf)[8]? = some ((tr 0), .inr (3, [.ref (ta 0)])) := rfl
theorem W_X0_agrees_c_X5_isWarm_7_8_9_10_11_12_13_14_15 {cI cP : ClassId} {y : Nat} {yr : Nat → Nat} {ya : Nat → Nat} {yi_3 : Int32} {yk_0 : Nat → Int32} {yk_1 : Nat → Int32} {yk_2 : Nat → Int32} {t : Nat} {tr : Nat → Nat} {ta : Nat → Nat} {ti_4 : Int32} {ti_5 : Int32} {ti_6 : Int32} {ti_7 : Int32} {ti_8 : Int32} {ti_9 : Int32} {ti_10 : Int32} {tk_0 : Nat → Int32} {tk_1 : Nat → Int32} {tk_2 : Nat → Int32} {tk_3 : Nat → Int32} {g : Nat} {ga : Nat} {gn : Nat} {gf : Nat → Int32} : ([7, 8, 9, 10, 11, 12, 13, 14, 15] : List Nat).map (fun i => (W_X0_agrees cI cP y yr ya yi_3 yk_0 yk_1 yk_2 t tr ta ti_4 ti_5 ti_6 ti_7 ti_8 ti_9 ti_10 tk_0 tk_1 tk_2 tk_3 g ga gn gf)[i]?) = (W_X5_isWarm cI cP t tr ta ti_4 ti_5 ti_6 ti_7 ti_8 ti_9 ti_10 tk_0 tk_1 tk_2 tk_3).map some := rfl
theorem W_X0_agrees_x_X5_isWarm_7_8_9_10_11_12_13_14_15 {cI cP : ClassId} {y : Nat} {yr : Nat → Nat} {ya : Nat → Nat} {yi_3 : Int32} {yk_0 : Nat → Int32} {yk_1 : Nat → Int32} {yk_2 : Nat → Int32} {t : Nat} {tr : Nat → Nat} {ta : Nat → Nat} {ti_4 : Int32} {ti_5 : Int32} {ti_6 : Int32} {ti_7 : Int32} {ti_8 : Int32} {ti_9 : Int32} {ti_10 : Int32} {tk_0 : Nat → Int32} {tk_1 : Nat → Int32} {tk_2 : Nat → Int32} {tk_3 : Nat → Int32} {g : Nat} {ga : Nat} {gn : Nat} {gf : Nat → Int32} : xset (W_X0_agrees cI cP y yr ya yi_3 yk_0 yk_1 yk_2 t tr ta ti_4 ti_5 ti_6 ti_7 ti_8 ti_9 ti_10 tk_0 tk_1 tk_2 tk_3 g ga gn gf) [7, 8, 9, 10, 11, 12, 13, 14, 15] (W_X5_isWarm cI cP t tr ta ti_4 ti_5 ti_6 ti_7 ti_8 ti_9 ti_10 tk_0 tk_1 tk_2 tk_3) = W_X0_agrees cI cP y yr ya yi_3 yk_0 yk_1 yk_2 t tr ta ti_4 ti_5 ti_6 ti_7 ti_8 ti_9 ti_10 tk_0 tk_1 tk_2 tk_3 g ga gn gf := rfl
theorem W_X0_agrees_c_X3_get_5_6 {cI cP : ClassId} {y : Nat} {yr : Nat → Nat} {ya : Nat → Nat} {yi_3 : Int32} {yk_0 : Nat → Int32} {yk_1 : Nat → Int32} {yk_2 : Nat → Int32} {t : Nat} {tr : Nat → Nat} {ta : Nat → Nat} {ti_4 : Int32} {ti_5 : Int32} {ti_6 : Int32} {ti_7 : Int32} {ti_8 : Int32} {ti_9 : Int32} {ti_10 : Int32} {tk_0 : Nat → Int32} {tk_1 : Nat → Int32} {tk_2 : Nat → Int32} {tk_3 : Nat → Int32} {g : Nat} {ga : Nat} {gn : Nat} {gf : Nat → Int32} : ([5, 6] : List Nat).map (fun i => (W_X0_agrees cI cP y yr ya yi_3 yk_0 yk_1 yk_2 t tr ta ti_4 ti_5 ti_6 ti_7 ti_8 ti_9 ti_10 tk_0 tk_1 tk_2 tk_3 g ga gn gf)[i]?) = (W_X3_get cI cP (yr 2) (ya 2) 10 yk_2).map some := rfl
theorem W_X0_agrees_x_X3_get_5_6 {cI cP : ClassId} {y : Nat} {yr : Nat → Nat} {ya : Nat → Nat} {yi_3 : Int32} {yk_0 : Nat → Int32} {yk_1 : Nat → Int32} {yk_2 : Nat → Int32} {t : Nat} {tr : Nat → Nat} {ta : Nat → Nat} {ti_4 : Int32} {ti_5 : Int32} {ti_6 : Int32} {ti_7 : Int32} {ti_8 : Int32} {ti_9 : Int32} {ti_10 : Int32} {tk_0 : Nat → Int32} {tk_1 : Nat → Int32} {tk_2 : Nat → Int32} {tk_3 : Nat → Int32} {g : Nat} {ga : Nat} {gn : Nat} {gf : Nat → Int32} : xset (W_X0_agrees cI cP y yr ya yi_3 yk_0 yk_1 yk_2 t tr ta ti_4 ti_5 ti_6 ti_7 ti_8 ti_9 ti_10 tk_0 tk_1 tk_2 tk_3 g ga gn gf) [5, 6] (W_X3_get cI cP (yr 2) (ya 2) 10 yk_2) = W_X0_agrees cI cP y yr ya yi_3 yk_0 yk_1 yk_2 t tr ta ti_4 ti_5 ti_6 ti_7 ti_8 ti_9 ti_10 tk_0 tk_1 tk_2 tk_3 g ga gn gf := rfl
theorem W_X0_agrees_o5 {cI cP : ClassId} {y : Nat} {yr : Nat → Nat} {ya : Nat → Nat} {yi_3 : Int32} {yk_0 : Nat → Int32} {yk_1 : Nat → Int32} {yk_2 : Nat → Int32} {t : Nat} {tr : Nat → Nat} {ta : Nat → Nat} {ti_4 : Int32} {ti_5 : Int32} {ti_6 : Int32} {ti_7 : Int32} {ti_8 : Int32} {ti_9 : Int32} {ti_10 : Int32} {tk_0 : Nat → Int32} {tk_1 : Nat → Int32} {tk_2 : Nat → Int32} {tk_3 : Nat → Int32} {g : Nat} {ga : Nat} {gn : Nat} {gf : Nat → Int32} : (W_X0_agrees cI cP y yr ya yi_3 yk_0 yk_1 yk_2 t tr ta ti_4 ti_5 ti_6 ti_7 ti_8 ti_9 ti_10 tk_0 tk_1 tk_2 tk_3 g ga gn gf)[5]? = some ((yr 2), .inr (3, [.ref (ya 2)])) := rfl
set_option maxHeartbeats 4000000 in
set_option maxRecDepth 100000 in
theorem c_X0_agrees (l : Launch) (D : va_G) (cI cP : ClassId) (sz : Nat) (y : Nat) (yr : Nat → Nat) (ya : Nat → Nat) (yi_3 : Int32) (yk_0 : Nat → Int32) (yk_1 : Nat → Int32) (yk_2 : Nat → Int32) (t : Nat) (tr : Nat → Nat) (ta : Nat → Nat) (ti_4 : Int32) (ti_5 : Int32) (ti_6 : Int32) (ti_7 : Int32) (ti_8 : Int32) (ti_9 : Int32) (ti_10 : Int32) (tk_0 : Nat → Int32) (tk_1 : Nat → Int32) (tk_2 : Nat → Int32) (tk_3 : Nat → Int32) (g : Nat) (ga : Nat) (gn : Nat) (gf : Nat → Int32) (F : Nat) (a3 : Int32) (hne : fX0_agrees F yi_3 yk_0 yk_1 yk_2 ti_4 ti_7 ti_9 ti_10 tk_0 gf a3 gn ≠ none) : xMi l yX0_agrees wsX0_agrees ({ frames := 3, cells := 0, slots := 0, locals := 65 } : Room) D (xT cI cP) [.ref y, .ref t, .ref g, .int a3] (W_X0_agrees cI cP y yr ya yi_3 yk_0 yk_1 yk_2 t tr ta ti_4 ti_5 ti_6 ti_7 ti_8 ti_9 ti_10 tk_0 tk_1 tk_2 tk_3 g ga gn gf) sz (fun r (_ : Unit) => fX0_agrees F yi_3 yk_0 yk_1 yk_2 ti_4 ti_7 ti_9 ti_10 tk_0 gf a3 gn = some r) (fun u => W_X0_agrees cI cP y yr ya yi_3 yk_0 yk_1 yk_2 t tr ta ti_4 ti_5 ti_6 ti_7 ti_8 ti_9 ti_10 tk_0 tk_1 tk_2 tk_3 g ga gn gf) 0 0 := by
  refine xMz_of (cc := cX0_agrees) (maxL := 9) (by decide +kernel) rfl (Nat.le_of_ble_eq_true rfl) ?_
  intro p e s m args below meth c A ls hx hb hml hown hts hname hN hK hA hP hD hS hl Q hret
  have he := fX0_agrees.eq_1 F yi_3 yk_0 yk_1 yk_2 ti_4 ti_7 ti_9 ti_10 tk_0 gf a3 gn
  have hl : lv_has ls 9 [(0, .ref y), (1, .ref t), (2, .ref g), (3, .int a3)] := hl
  have R3_0 : ∀ (v3_4 : Int32), fX0_agrees F yi_3 yk_0 yk_1 yk_2 ti_4 ti_7 ti_9 ti_10 tk_0 gf a3 gn = (some (1 : Int32)) → ∀ (H : Heap) (locs : List Loc) (ls : Array Slot), va_P D vwCl (W_X0_agrees cI cP y yr ya yi_3 yk_0 yk_1 yk_2 t tr ta ti_4 ti_5 ti_6 ti_7 ti_8 ti_9 ti_10 tk_0 tk_1 tk_2 tk_3 g ga gn gf) H → va_D A (W_X0_agrees cI cP y yr ya yi_3 yk_0 yk_1 yk_2 t tr ta ti_4 ti_5 ti_6 ti_7 ti_8 ti_9 ti_10 tk_0 tk_1 tk_2 tk_3 g ga gn gf) → va_S A s.heap H locs → lv_has ls 9 [] → W p l e ({ frames := 3, cells := 0, slots := 0, locals := 65 } : Room) s m args below meth c H locs 0 0 Q (F0 m 118 ls []) := by
    intro v3_4 he H locs ls hP hD hS hl
    refine lv_iconst (v := 1) hx hb dX0_agrees_118 (by decide) ?_
    exact hret (1 : Int32) () _ _ _ _ dX0_agrees_119 (Or.inr rfl) he hP hD hS
  have L3_4 : ∀ (n3 : Nat) (v3_4 : Int32), fX0_agrees F yi_3 yk_0 yk_1 yk_2 ti_4 ti_7 ti_9 ti_10 tk_0 gf a3 gn = fX0_agrees_L3 yi_3 yk_0 yk_1 yk_2 ti_4 ti_7 ti_9 ti_10 tk_0 gf a3 gn (fun (v3_4 : Int32) => some (1 : Int32)) n3 v3_4 → ∀ (H : Heap) (locs : List Loc) (ls : Array Slot), va_P D vwCl (W_X0_agrees cI cP y yr ya yi_3 yk_0 yk_1 yk_2 t tr ta ti_4 ti_5 ti_6 ti_7 ti_8 ti_9 ti_10 tk_0 tk_1 tk_2 tk_3 g ga gn gf) H → va_D A (W_X0_agrees cI cP y yr ya yi_3 yk_0 yk_1 yk_2 t tr ta ti_4 ti_5 ti_6 ti_7 ti_8 ti_9 ti_10 tk_0 tk_1 tk_2 tk_3 g ga gn gf) → va_S A s.heap H locs → lv_has ls 9 [(4, .int v3_4), (0, .ref y), (1, .ref t), (2, .ref g), (3, .int a3)] → W p l e ({ frames := 3, cells := 0, slots := 0, locals := 65 } : Room) s m args below meth c H locs 0 0 Q (F0 m 3 ls []) := by
    intro n3
    induction n3 with
    | zero => intro v3_4 he; exact absurd he hne
    | succ n3 ih3 =>
      intro v3_4 he H locs ls hP hD hS hl
      replace he := he.trans (fX0_agrees_L3.eq_2 _ _ _ _ _ _ _ _ _ _ _ _ _ _ _)
      refine lv_iload hx hb dX0_agrees_3 (lv_at hl 0 rfl) ?_
      refine lv_aload_n hx hb dX0_agrees_5 rfl (lv_at hl 1 rfl) ?_
      refine va_get (D := D) (ci := 0) (v := .int yi_3) (C := RX0) (T := TX0) (N := 4) hx hb hts hi_X0_agrees_0 hown hK hP 0 W_X0_agrees_o0 rfl 3 (by decide) (hts (.fieldLink RX0 26 "BlindLanterns$Felt" "count" "I") (List.mem_of_getElem? (i := 1) rfl)) (fun _ h9 => h9) rfl dX0_agrees_6 ?_
      refine lv_icmp_ge (tgt := 118) hx hb dX0_agrees_9 (by decide) (fun c1 => ?_) (fun c1 => ?_)
      · replace he := he.trans (if_pos c1)
        exact R3_0 v3_4 he _ _ _ hP hD hS (lv_sub hl [] rfl)
      · replace he := he.trans (if_neg c1)
        refine lv_aload_n hx hb dX0_agrees_12 rfl (lv_at hl 1 rfl) ?_
        refine va_get (D := D) (ci := 0) (v := .ref (yr 0)) (C := RX0) (T := TX0) (N := 4) hx hb hts hi_X0_agrees_0 hown hK hP 0 W_X0_agrees_o0 rfl 0 (by decide) (hts (.fieldLink RX0 14 "BlindLanterns$Felt" "posts" "LBlindLanterns$Row;") (List.mem_of_getElem? (i := 2) rfl)) (fun _ h9 => h9) rfl dX0_agrees_13 ?_
        refine lv_iload hx hb dX0_agrees_16 (lv_at hl 0 rfl) ?_
        have n2_ : fX3_get yk_0 v3_4 10 ≠ none := fun z => hne (he.trans (xbd_none z))
        refine xci (va_runV (As := [.int v3_4]) (rest := []) ⟨hx, hb, hml, hown, hts⟩ (c_X3_get l D cI cP H.size (yr 0) (ya 0) 10 yk_0 v3_4 n2_) (cwV 1 hts gX0_agrees_X3_get rfl rfl rfl (by decide +kernel) ⟨Nat.le_of_ble_eq_true rfl, Nat.le_of_ble_eq_true rfl⟩) (xPV hN hK hP hD [1, 2] W_X0_agrees_c_X3_get_1_2 (by decide) (ci := 3) (j := 1) rfl W_X0_agrees_o1) rfl rfl hl.1 rfl (lv_room (Nat.le_of_ble_eq_true rfl)) dX0_agrees_18 ⟨Nat.le_of_ble_eq_true rfl, Nat.le_of_ble_eq_true rfl⟩) hP hD hS hA [1, 2] W_X0_agrees_c_X3_get_1_2 (fun _ => rfl) (fun r18 u18 H locs hw hP hD hS => ?_)
        rw [W_X0_agrees_x_X3_get_1_2] at hP hD
        replace he := he.trans (xbd_some hw)
        refine lv_istore (lv' := [(5, .int r18), (4, .int v3_4), (0, .ref y), (1, .ref t), (2, .ref g), (3, .int a3)]) hx hb dX0_agrees_21 hl (by decide) rfl (fun ls hl => ?_)
        refine lv_aload_n hx hb dX0_agrees_23 rfl (lv_at hl 2 rfl) ?_
        refine va_get (D := D) (ci := 0) (v := .ref (yr 1)) (C := RX0) (T := TX0) (N := 4) hx hb hts hi_X0_agrees_0 hown hK hP 0 W_X0_agrees_o0 rfl 1 (by decide) (hts (.fieldLink RX0 20 "BlindLanterns$Felt" "bells" "LBlindLanterns$Row;") (List.mem_of_getElem? (i := 3) rfl)) (fun _ h9 => h9) rfl dX0_agrees_24 ?_
        refine lv_iload hx hb dX0_agrees_27 (lv_at hl 1 rfl) ?_
        have n3_ : fX3_get yk_1 v3_4 10 ≠ none := fun z => hne (he.trans (xbd_none z))
        refine xci (va_runV (As := [.int v3_4]) (rest := []) ⟨hx, hb, hml, hown, hts⟩ (c_X3_get l D cI cP H.size (yr 1) (ya 1) 10 yk_1 v3_4 n3_) (cwV 1 hts gX0_agrees_X3_get rfl rfl rfl (by decide +kernel) ⟨Nat.le_of_ble_eq_true rfl, Nat.le_of_ble_eq_true rfl⟩) (xPV hN hK hP hD [3, 4] W_X0_agrees_c_X3_get_3_4 (by decide) (ci := 3) (j := 3) rfl W_X0_agrees_o3) rfl rfl hl.1 rfl (lv_room (Nat.le_of_ble_eq_true rfl)) dX0_agrees_29 ⟨Nat.le_of_ble_eq_true rfl, Nat.le_of_ble_eq_true rfl⟩) hP hD hS hA [3, 4] W_X0_agrees_c_X3_get_3_4 (fun _ => rfl) (fun r29 u29 H locs hw hP hD hS => ?_)
        rw [W_X0_agrees_x_X3_get_3_4] at hP hD
        replace he := he.trans (xbd_some hw)
        refine lv_istore (lv' := [(6, .int r29), (5, .int r18), (4, .int v3_4), (0, .ref y), (1, .ref t), (2, .ref g), (3, .int a3)]) hx hb dX0_agrees_32 hl (by decide) rfl (fun ls hl => ?_)
        refine lv_iload hx hb dX0_agrees_34 (lv_at hl 0 rfl) ?_
        refine lv_aload_n hx hb dX0_agrees_36 rfl (lv_at hl 5 rfl) ?_
        refine lv_aload_n hx hb dX0_agrees_37 rfl (lv_at hl 4 rfl) ?_
        refine lv_iload hx hb dX0_agrees_38 (lv_at hl 1 rfl) ?_
        refine lv_iload hx hb dX0_agrees_40 (lv_at hl 0 rfl) ?_
        have n4_ : fX5_postBefore ti_4 ti_7 r18 r29 ≠ none := fun z => hne (he.trans (xbd_none z))
        refine xci (va_runV (As := [.int r18, .int r29]) (rest := [.ref g, .int r29]) ⟨hx, hb, hml, hown, hts⟩ (c_X5_postBefore l D cI cP H.size t tr ta ti_4 ti_5 ti_6 ti_7 ti_8 ti_9 ti_10 tk_0 tk_1 tk_2 tk_3 r18 r29 n4_) (cwV 2 hts gX0_agrees_X5_postBefore rfl rfl rfl (by decide +kernel) ⟨Nat.le_of_ble_eq_true rfl, Nat.le_of_ble_eq_true rfl⟩) (xPV hN hK hP hD [7, 8, 9, 10, 11, 12, 13, 14, 15] W_X0_agrees_c_X5_postBefore_7_8_9_10_11_12_13_14_15 (by decide) (ci := 5) (j := 7) rfl W_X0_agrees_o7) rfl rfl hl.1 rfl (lv_room (Nat.le_of_ble_eq_true rfl)) dX0_agrees_42 ⟨Nat.le_of_ble_eq_true rfl, Nat.le_of_ble_eq_true rfl⟩) hP hD hS hA [7, 8, 9, 10, 11, 12, 13, 14, 15] W_X0_agrees_c_X5_postBefore_7_8_9_10_11_12_13_14_15 (fun _ => rfl) (fun r42 u42 H locs hw hP hD hS => ?_)
        rw [W_X0_agrees_x_X5_postBefore_7_8_9_10_11_12_13_14_15] at hP hD
        replace he := he.trans (xbd_some hw)
        have n5_ : fX3_get gf r42 gn ≠ none := fun z => hne (he.trans (xbd_none z))
        refine xci (va_runV (As := [.int r42]) (rest := [.int r29]) ⟨hx, hb, hml, hown, hts⟩ (c_X3_get l D cI cP H.size g ga gn gf r42 n5_) (cwV 1 hts gX0_agrees_X3_get rfl rfl rfl (by decide +kernel) ⟨Nat.le_of_ble_eq_true rfl, Nat.le_of_ble_eq_true rfl⟩) (xPV hN hK hP hD [16, 17] W_X0_agrees_c_X3_get_16_17 (by decide) (ci := 3) (j := 16) rfl W_X0_agrees_o16) rfl rfl hl.1 rfl (lv_room (Nat.le_of_ble_eq_true rfl)) dX0_agrees_45 ⟨Nat.le_of_ble_eq_true rfl, Nat.le_of_ble_eq_true rfl⟩) hP hD hS hA [16, 17] W_X0_agrees_c_X3_get_16_17 (fun _ => rfl) (fun r45 u45 H locs hw hP hD hS => ?_)
        rw [W_X0_agrees_x_X3_get_16_17] at hP hD
        replace he := he.trans (xbd_some hw)
        refine lv_icmp_ge (tgt := 55) hx hb dX0_agrees_48 (by decide) (fun c6 => ?_) (fun c6 => ?_)
        · replace he := he.trans (if_pos c6)
          refine lv_iconst (v := 0) hx hb dX0_agrees_55 (by decide) ?_
          refine lv_istore (lv' := [(7, .int (0 : Int32)), (6, .int r29), (5, .int r18), (4, .int v3_4), (0, .ref y), (1, .ref t), (2, .ref g), (3, .int a3)]) hx hb dX0_agrees_56 hl (by decide) rfl (fun ls hl => ?_)
          refine lv_iload hx hb dX0_agrees_58 (lv_at hl 2 rfl) ?_
          refine lv_iload_n hx hb dX0_agrees_60 rfl (lv_at hl 7 rfl) ?_
          refine lv_icmp_ne (tgt := 68) hx hb dX0_agrees_61 (by decide) (fun c7 => ?_) (fun c7 => ?_)
          · replace he := he.trans (if_neg c7)
            refine lv_aload_n hx hb dX0_agrees_68 rfl (lv_at hl 5 rfl) ?_
            refine va_getN (D := D) (ci := 5) (v := .ref (tr 0)) (C := RX5) (T := TX5) (N := 11) hx hb hts hi_X0_agrees_5 hown hK hP 7 W_X0_agrees_o7 rfl 0 (by decide) (va_Nw.use rfl (hN.1 (.fieldLinkNest RX0 44 "BlindLanterns$Told" "kinds" "LBlindLanterns$Row;" "BlindLanterns") (List.mem_of_getElem? (i := 11) rfl))) (fun _ h9 => h9) rfl dX0_agrees_69 ?_
            refine lv_iload hx hb dX0_agrees_72 (lv_at hl 2 rfl) ?_
            have n8_ : fX3_get tk_0 r18 6 ≠ none := fun z => hne (he.trans (xbd_none z))
            refine xci (va_runV (As := [.int r18]) (rest := []) ⟨hx, hb, hml, hown, hts⟩ (c_X3_get l D cI cP H.size (tr 0) (ta 0) 6 tk_0 r18 n8_) (cwV 1 hts gX0_agrees_X3_get rfl rfl rfl (by decide +kernel) ⟨Nat.le_of_ble_eq_true rfl, Nat.le_of_ble_eq_true rfl⟩) (xPV hN hK hP hD [8, 9] W_X0_agrees_c_X3_get_8_9 (by decide) (ci := 3) (j := 8) rfl W_X0_agrees_o8) rfl rfl hl.1 rfl (lv_room (Nat.le_of_ble_eq_true rfl)) dX0_agrees_74 ⟨Nat.le_of_ble_eq_true rfl, Nat.le_of_ble_eq_true rfl⟩) hP hD hS hA [8, 9] W_X0_agrees_c_X3_get_8_9 (fun _ => rfl) (fun r74 u74 H locs hw hP hD hS => ?_)
            rw [W_X0_agrees_x_X3_get_8_9] at hP hD
            replace he := he.trans (xbd_some hw)
            refine lv_istore (lv' := [(8, .int r74), (7, .int (0 : Int32)), (6, .int r29), (5, .int r18), (4, .int v3_4), (0, .ref y), (1, .ref t), (2, .ref g), (3, .int a3)]) hx hb dX0_agrees_77 hl (by decide) rfl (fun ls hl => ?_)
            refine lv_aload_n hx hb dX0_agrees_79 rfl (lv_at hl 6 rfl) ?_
            refine lv_iload hx hb dX0_agrees_80 (lv_at hl 0 rfl) ?_
            refine lv_iload hx hb dX0_agrees_82 (lv_at hl 1 rfl) ?_
            refine lv_iload hx hb dX0_agrees_84 (lv_at hl 2 rfl) ?_
            have n9_ : fX5_isWarm ti_9 ti_10 r74 (0 : Int32) r29 ≠ none := fun z => hne (he.trans (xbd_none z))
            refine xci (va_runV (As := [.int r74, .int (0 : Int32), .int r29]) (rest := []) ⟨hx, hb, hml, hown, hts⟩ (c_X5_isWarm l D cI cP H.size t tr ta ti_4 ti_5 ti_6 ti_7 ti_8 ti_9 ti_10 tk_0 tk_1 tk_2 tk_3 r74 (0 : Int32) r29 n9_) (cwV 3 hts gX0_agrees_X5_isWarm rfl rfl rfl (by decide +kernel) ⟨Nat.le_of_ble_eq_true rfl, Nat.le_of_ble_eq_true rfl⟩) (xPV hN hK hP hD [7, 8, 9, 10, 11, 12, 13, 14, 15] W_X0_agrees_c_X5_isWarm_7_8_9_10_11_12_13_14_15 (by decide) (ci := 5) (j := 7) rfl W_X0_agrees_o7) rfl rfl hl.1 rfl (lv_room (Nat.le_of_ble_eq_true rfl)) dX0_agrees_86 ⟨Nat.le_of_ble_eq_true rfl, Nat.le_of_ble_eq_true rfl⟩) hP hD hS hA [7, 8, 9, 10, 11, 12, 13, 14, 15] W_X0_agrees_c_X5_isWarm_7_8_9_10_11_12_13_14_15 (fun _ => rfl) (fun r86 u86 H locs hw hP hD hS => ?_)
            rw [W_X0_agrees_x_X5_isWarm_7_8_9_10_11_12_13_14_15] at hP hD
            replace he := he.trans (xbd_some hw)
            refine lv_aload_n hx hb dX0_agrees_89 rfl (lv_at hl 5 rfl) ?_
            refine va_get (D := D) (ci := 0) (v := .ref (yr 2)) (C := RX0) (T := TX0) (N := 4) hx hb hts hi_X0_agrees_0 hown hK hP 0 W_X0_agrees_o0 rfl 2 (by decide) (hts (.fieldLink RX0 23 "BlindLanterns$Felt" "warmths" "LBlindLanterns$Row;") (List.mem_of_getElem? (i := 4) rfl)) (fun _ h9 => h9) rfl dX0_agrees_90 ?_
            refine lv_iload hx hb dX0_agrees_93 (lv_at hl 4 rfl) ?_
            have n10_ : fX3_get yk_2 v3_4 10 ≠ none := fun z => hne (he.trans (xbd_none z))
            refine xci (va_runV (As := [.int v3_4]) (rest := [.int r86]) ⟨hx, hb, hml, hown, hts⟩ (c_X3_get l D cI cP H.size (yr 2) (ya 2) 10 yk_2 v3_4 n10_) (cwV 1 hts gX0_agrees_X3_get rfl rfl rfl (by decide +kernel) ⟨Nat.le_of_ble_eq_true rfl, Nat.le_of_ble_eq_true rfl⟩) (xPV hN hK hP hD [5, 6] W_X0_agrees_c_X3_get_5_6 (by decide) (ci := 3) (j := 5) rfl W_X0_agrees_o5) rfl rfl hl.1 rfl (lv_room (Nat.le_of_ble_eq_true rfl)) dX0_agrees_95 ⟨Nat.le_of_ble_eq_true rfl, Nat.le_of_ble_eq_true rfl⟩) hP hD hS hA [5, 6] W_X0_agrees_c_X3_get_5_6 (fun _ => rfl) (fun r95 u95 H locs hw hP hD hS => ?_)
            rw [W_X0_agrees_x_X3_get_5_6] at hP hD
            replace he := he.trans (xbd_some hw)
            refine lv_iconst (v := 1) hx hb dX0_agrees_98 (by decide) ?_
            refine lv_icmp_ne (tgt := 106) hx hb dX0_agrees_99 (by decide) (fun c11 => ?_) (fun c11 => ?_)
            · replace he := he.trans (if_neg c11)
              refine lv_iconst (v := 0) hx hb dX0_agrees_106 (by decide) ?_
              refine lv_icmp_eq (tgt := 112) hx hb dX0_agrees_107 (by decide) (fun c12 => ?_) (fun c12 => ?_)
              · replace he := he.trans (if_pos c12)
                refine lv_iinc (v := (v3_4 + 1)) (lv' := [(4, .int (v3_4 + 1)), (8, .int r74), (7, .int (0 : Int32)), (6, .int r29), (5, .int r18), (0, .ref y), (1, .ref t), (2, .ref g), (3, .int a3)]) hx hb dX0_agrees_112 hl (k := 4) rfl rfl (by decide) rfl (fun ls hl => ?_)
                refine lv_goto (tgt := 3) hx hb dX0_agrees_115 (by decide) ?_
                exact ih3 (v3_4 + 1) he _ _ _ hP hD hS (lv_sub hl [0, 5, 6, 7, 8] rfl)
              · replace he := he.trans (if_neg c12)
                refine lv_iconst (v := 0) hx hb dX0_agrees_110 (by decide) ?_
                exact hret (0 : Int32) () _ _ _ _ dX0_agrees_111 (Or.inl rfl) he hP hD hS
            · replace he := he.trans (if_pos c11)
              refine lv_iconst (v := 1) hx hb dX0_agrees_102 (by decide) ?_
              refine lv_goto (tgt := 107) hx hb dX0_agrees_103 (by decide) ?_
              refine lv_icmp_eq (tgt := 112) hx hb dX0_agrees_107 (by decide) (fun c13 => ?_) (fun c13 => ?_)
              · replace he := he.trans (if_pos c13)
                refine lv_iinc (v := (v3_4 + 1)) (lv' := [(4, .int (v3_4 + 1)), (8, .int r74), (7, .int (0 : Int32)), (6, .int r29), (5, .int r18), (0, .ref y), (1, .ref t), (2, .ref g), (3, .int a3)]) hx hb dX0_agrees_112 hl (k := 4) rfl rfl (by decide) rfl (fun ls hl => ?_)
                refine lv_goto (tgt := 3) hx hb dX0_agrees_115 (by decide) ?_
                exact ih3 (v3_4 + 1) he _ _ _ hP hD hS (lv_sub hl [0, 5, 6, 7, 8] rfl)
              · replace he := he.trans (if_neg c13)
                refine lv_iconst (v := 0) hx hb dX0_agrees_110 (by decide) ?_
                exact hret (0 : Int32) () _ _ _ _ dX0_agrees_111 (Or.inl rfl) he hP hD hS
          · replace he := he.trans (if_pos c7)
            refine lv_iconst (v := 1) hx hb dX0_agrees_64 (by decide) ?_
            refine lv_goto (tgt := 77) hx hb dX0_agrees_65 (by decide) ?_
            refine lv_istore (lv' := [(8, .int (1 : Int32)), (7, .int (0 : Int32)), (6, .int r29), (5, .int r18), (4, .int v3_4), (0, .ref y), (1, .ref t), (2, .ref g), (3, .int a3)]) hx hb dX0_agrees_77 hl (by decide) rfl (fun ls hl => ?_)
            refine lv_aload_n hx hb dX0_agrees_79 rfl (lv_at hl 6 rfl) ?_
            refine lv_iload hx hb dX0_agrees_80 (lv_at hl 0 rfl) ?_
            refine lv_iload hx hb dX0_agrees_82 (lv_at hl 1 rfl) ?_
            refine lv_iload hx hb dX0_agrees_84 (lv_at hl 2 rfl) ?_
            have n14_ : fX5_isWarm ti_9 ti_10 (1 : Int32) (0 : Int32) r29 ≠ none := fun z => hne (he.trans (xbd_none z))
            refine xci (va_runV (As := [.int (1 : Int32), .int (0 : Int32), .int r29]) (rest := []) ⟨hx, hb, hml, hown, hts⟩ (c_X5_isWarm l D cI cP H.size t tr ta ti_4 ti_5 ti_6 ti_7 ti_8 ti_9 ti_10 tk_0 tk_1 tk_2 tk_3 (1 : Int32) (0 : Int32) r29 n14_) (cwV 3 hts gX0_agrees_X5_isWarm rfl rfl rfl (by decide +kernel) ⟨Nat.le_of_ble_eq_true rfl, Nat.le_of_ble_eq_true rfl⟩) (xPV hN hK hP hD [7, 8, 9, 10, 11, 12, 13, 14, 15] W_X0_agrees_c_X5_isWarm_7_8_9_10_11_12_13_14_15 (by decide) (ci := 5) (j := 7) rfl W_X0_agrees_o7) rfl rfl hl.1 rfl (lv_room (Nat.le_of_ble_eq_true rfl)) dX0_agrees_86 ⟨Nat.le_of_ble_eq_true rfl, Nat.le_of_ble_eq_true rfl⟩) hP hD hS hA [7, 8, 9, 10, 11, 12, 13, 14, 15] W_X0_agrees_c_X5_isWarm_7_8_9_10_11_12_13_14_15 (fun _ => rfl) (fun r86 u86 H locs hw hP hD hS => ?_)
            rw [W_X0_agrees_x_X5_isWarm_7_8_9_10_11_12_13_14_15] at hP hD
            replace he := he.trans (xbd_some hw)
            refine lv_aload_n hx hb dX0_agrees_89 rfl (lv_at hl 5 rfl) ?_
            refine va_get (D := D) (ci := 0) (v := .ref (yr 2)) (C := RX0) (T := TX0) (N := 4) hx hb hts hi_X0_agrees_0 hown hK hP 0 W_X0_agrees_o0 rfl 2 (by decide) (hts (.fieldLink RX0 23 "BlindLanterns$Felt" "warmths" "LBlindLanterns$Row;") (List.mem_of_getElem? (i := 4) rfl)) (fun _ h9 => h9) rfl dX0_agrees_90 ?_
            refine lv_iload hx hb dX0_agrees_93 (lv_at hl 4 rfl) ?_
            have n15_ : fX3_get yk_2 v3_4 10 ≠ none := fun z => hne (he.trans (xbd_none z))
            refine xci (va_runV (As := [.int v3_4]) (rest := [.int r86]) ⟨hx, hb, hml, hown, hts⟩ (c_X3_get l D cI cP H.size (yr 2) (ya 2) 10 yk_2 v3_4 n15_) (cwV 1 hts gX0_agrees_X3_get rfl rfl rfl (by decide +kernel) ⟨Nat.le_of_ble_eq_true rfl, Nat.le_of_ble_eq_true rfl⟩) (xPV hN hK hP hD [5, 6] W_X0_agrees_c_X3_get_5_6 (by decide) (ci := 3) (j := 5) rfl W_X0_agrees_o5) rfl rfl hl.1 rfl (lv_room (Nat.le_of_ble_eq_true rfl)) dX0_agrees_95 ⟨Nat.le_of_ble_eq_true rfl, Nat.le_of_ble_eq_true rfl⟩) hP hD hS hA [5, 6] W_X0_agrees_c_X3_get_5_6 (fun _ => rfl) (fun r95 u95 H locs hw hP hD hS => ?_)
            rw [W_X0_agrees_x_X3_get_5_6] at hP hD
            replace he := he.trans (xbd_some hw)
            refine lv_iconst (v := 1) hx hb dX0_agrees_98 (by decide) ?_
            refine lv_icmp_ne (tgt := 106) hx hb dX0_agrees_99 (by decide) (fun c16 => ?_) (fun c16 => ?_)
            · replace he := he.trans (if_neg c16)
              refine lv_iconst (v := 0) hx hb dX0_agrees_106 (by decide) ?_
              refine lv_icmp_eq (tgt := 112) hx hb dX0_agrees_107 (by decide) (fun c17 => ?_) (fun c17 => ?_)
              · replace he := he.trans (if_pos c17)
                refine lv_iinc (v := (v3_4 + 1)) (lv' := [(4, .int (v3_4 + 1)), (8, .int (1 : Int32)), (7, .int (0 : Int32)), (6, .int r29), (5, .int r18), (0, .ref y), (1, .ref t), (2, .ref g), (3, .int a3)]) hx hb dX0_agrees_112 hl (k := 4) rfl rfl (by decide) rfl (fun ls hl => ?_)
                refine lv_goto (tgt := 3) hx hb dX0_agrees_115 (by decide) ?_
                exact ih3 (v3_4 + 1) he _ _ _ hP hD hS (lv_sub hl [0, 5, 6, 7, 8] rfl)
              · replace he := he.trans (if_neg c17)
                refine lv_iconst (v := 0) hx hb dX0_agrees_110 (by decide) ?_
                exact hret (0 : Int32) () _ _ _ _ dX0_agrees_111 (Or.inl rfl) he hP hD hS
            · replace he := he.trans (if_pos c16)
              refine lv_iconst (v := 1) hx hb dX0_agrees_102 (by decide) ?_
              refine lv_goto (tgt := 107) hx hb dX0_agrees_103 (by decide) ?_
              refine lv_icmp_eq (tgt := 112) hx hb dX0_agrees_107 (by decide) (fun c18 => ?_) (fun c18 => ?_)
              · replace he := he.trans (if_pos c18)
                refine lv_iinc (v := (v3_4 + 1)) (lv' := [(4, .int (v3_4 + 1)), (8, .int (1 : Int32)), (7, .int (0 : Int32)), (6, .int r29), (5, .int r18), (0, .ref y), (1, .ref t), (2, .ref g), (3, .int a3)]) hx hb dX0_agrees_112 hl (k := 4) rfl rfl (by decide) rfl (fun ls hl => ?_)
                refine lv_goto (tgt := 3) hx hb dX0_agrees_115 (by decide) ?_
                exact ih3 (v3_4 + 1) he _ _ _ hP hD hS (lv_sub hl [0, 5, 6, 7, 8] rfl)
              · replace he := he.trans (if_neg c18)
                refine lv_iconst (v := 0) hx hb dX0_agrees_110 (by decide) ?_
                exact hret (0 : Int32) () _ _ _ _ dX0_agrees_111 (Or.inl rfl) he hP hD hS
        · replace he := he.trans (if_neg c6)
          refine lv_iconst (v := 1) hx hb dX0_agrees_51 (by decide) ?_
          refine lv_goto (tgt := 56) hx hb dX0_agrees_52 (by decide) ?_
          refine lv_istore (lv' := [(7, .int (1 : Int32)), (6, .int r29), (5, .int r18), (4, .int v3_4), (0, .ref y), (1, .ref t), (2, .ref g), (3, .int a3)]) hx hb dX0_agrees_56 hl (by decide) rfl (fun ls hl => ?_)
          refine lv_iload hx hb dX0_agrees_58 (lv_at hl 2 rfl) ?_
          refine lv_iload_n hx hb dX0_agrees_60 rfl (lv_at hl 7 rfl) ?_
          refine lv_icmp_ne (tgt := 68) hx hb dX0_agrees_61 (by decide) (fun c19 => ?_) (fun c19 => ?_)
          · replace he := he.trans (if_neg c19)
            refine lv_aload_n hx hb dX0_agrees_68 rfl (lv_at hl 5 rfl) ?_
            refine va_getN (D := D) (ci := 5) (v := .ref (tr 0)) (C := RX5) (T := TX5) (N := 11) hx hb hts hi_X0_agrees_5 hown hK hP 7 W_X0_agrees_o7 rfl 0 (by decide) (va_Nw.use rfl (hN.1 (.fieldLinkNest RX0 44 "BlindLanterns$Told" "kinds" "LBlindLanterns$Row;" "BlindLanterns") (List.mem_of_getElem? (i := 11) rfl))) (fun _ h9 => h9) rfl dX0_agrees_69 ?_
            refine lv_iload hx hb dX0_agrees_72 (lv_at hl 2 rfl) ?_
            have n20_ : fX3_get tk_0 r18 6 ≠ none := fun z => hne (he.trans (xbd_none z))
            refine xci (va_runV (As := [.int r18]) (rest := []) ⟨hx, hb, hml, hown, hts⟩ (c_X3_get l D cI cP H.size (tr 0) (ta 0) 6 tk_0 r18 n20_) (cwV 1 hts gX0_agrees_X3_get rfl rfl rfl (by decide +kernel) ⟨Nat.le_of_ble_eq_true rfl, Nat.le_of_ble_eq_true rfl⟩) (xPV hN hK hP hD [8, 9] W_X0_agrees_c_X3_get_8_9 (by decide) (ci := 3) (j := 8) rfl W_X0_agrees_o8) rfl rfl hl.1 rfl (lv_room (Nat.le_of_ble_eq_true rfl)) dX0_agrees_74 ⟨Nat.le_of_ble_eq_true rfl, Nat.le_of_ble_eq_true rfl⟩) hP hD hS hA [8, 9] W_X0_agrees_c_X3_get_8_9 (fun _ => rfl) (fun r74 u74 H locs hw hP hD hS => ?_)
            rw [W_X0_agrees_x_X3_get_8_9] at hP hD
            replace he := he.trans (xbd_some hw)
            refine lv_istore (lv' := [(8, .int r74), (7, .int (1 : Int32)), (6, .int r29), (5, .int r18), (4, .int v3_4), (0, .ref y), (1, .ref t), (2, .ref g), (3, .int a3)]) hx hb dX0_agrees_77 hl (by decide) rfl (fun ls hl => ?_)
            refine lv_aload_n hx hb dX0_agrees_79 rfl (lv_at hl 6 rfl) ?_
            refine lv_iload hx hb dX0_agrees_80 (lv_at hl 0 rfl) ?_
            refine lv_iload hx hb dX0_agrees_82 (lv_at hl 1 rfl) ?_
            refine lv_iload hx hb dX0_agrees_84 (lv_at hl 2 rfl) ?_
            have n21_ : fX5_isWarm ti_9 ti_10 r74 (1 : Int32) r29 ≠ none := fun z => hne (he.trans (xbd_none z))
            refine xci (va_runV (As := [.int r74, .int (1 : Int32), .int r29]) (rest := []) ⟨hx, hb, hml, hown, hts⟩ (c_X5_isWarm l D cI cP H.size t tr ta ti_4 ti_5 ti_6 ti_7 ti_8 ti_9 ti_10 tk_0 tk_1 tk_2 tk_3 r74 (1 : Int32) r29 n21_) (cwV 3 hts gX0_agrees_X5_isWarm rfl rfl rfl (by decide +kernel) ⟨Nat.le_of_ble_eq_true rfl, Nat.le_of_ble_eq_true rfl⟩) (xPV hN hK hP hD [7, 8, 9, 10, 11, 12, 13, 14, 15] W_X0_agrees_c_X5_isWarm_7_8_9_10_11_12_13_14_15 (by decide) (ci := 5) (j := 7) rfl W_X0_agrees_o7) rfl rfl hl.1 rfl (lv_room (Nat.le_of_ble_eq_true rfl)) dX0_agrees_86 ⟨Nat.le_of_ble_eq_true rfl, Nat.le_of_ble_eq_true rfl⟩) hP hD hS hA [7, 8, 9, 10, 11, 12, 13, 14, 15] W_X0_agrees_c_X5_isWarm_7_8_9_10_11_12_13_14_15 (fun _ => rfl) (fun r86 u86 H locs hw hP hD hS => ?_)
            rw [W_X0_agrees_x_X5_isWarm_7_8_9_10_11_12_13_14_15] at hP hD
            replace he := he.trans (xbd_some hw)
            refine lv_aload_n hx hb dX0_agrees_89 rfl (lv_at hl 5 rfl) ?_
            refine va_get (D := D) (ci := 0) (v := .ref (yr 2)) (C := RX0) (T := TX0) (N := 4) hx hb hts hi_X0_agrees_0 hown hK hP 0 W_X0_agrees_o0 rfl 2 (by decide) (hts (.fieldLink RX0 23 "BlindLanterns$Felt" "warmths" "LBlindLanterns$Row;") (List.mem_of_getElem? (i := 4) rfl)) (fun _ h9 => h9) rfl dX0_agrees_90 ?_
            refine lv_iload hx hb dX0_agrees_93 (lv_at hl 4 rfl) ?_
            have n22_ : fX3_get yk_2 v3_4 10 ≠ none := fun z => hne (he.trans (xbd_none z))
            refine xci (va_runV (As := [.int v3_4]) (rest := [.int r86]) ⟨hx, hb, hml, hown, hts⟩ (c_X3_get l D cI cP H.size (yr 2) (ya 2) 10 yk_2 v3_4 n22_) (cwV 1 hts gX0_agrees_X3_get rfl rfl rfl (by decide +kernel) ⟨Nat.le_of_ble_eq_true rfl, Nat.le_of_ble_eq_true rfl⟩) (xPV hN hK hP hD [5, 6] W_X0_agrees_c_X3_get_5_6 (by decide) (ci := 3) (j := 5) rfl W_X0_agrees_o5) rfl rfl hl.1 rfl (lv_room (Nat.le_of_ble_eq_true rfl)) dX0_agrees_95 ⟨Nat.le_of_ble_eq_true rfl, Nat.le_of_ble_eq_true rfl⟩) hP hD hS hA [5, 6] W_X0_agrees_c_X3_get_5_6 (fun _ => rfl) (fun r95 u95 H locs hw hP hD hS => ?_)
            rw [W_X0_agrees_x_X3_get_5_6] at hP hD
            replace he := he.trans (xbd_some hw)
            refine lv_iconst (v := 1) hx hb dX0_agrees_98 (by decide) ?_
            refine lv_icmp_ne (tgt := 106) hx hb dX0_agrees_99 (by decide) (fun c23 => ?_) (fun c23 => ?_)
            · replace he := he.trans (if_neg c23)
              refine lv_iconst (v := 0) hx hb dX0_agrees_106 (by decide) ?_
              refine lv_icmp_eq (tgt := 112) hx hb dX0_agrees_107 (by decide) (fun c24 => ?_) (fun c24 => ?_)
              · replace he := he.trans (if_pos c24)
                refine lv_iinc (v := (v3_4 + 1)) (lv' := [(4, .int (v3_4 + 1)), (8, .int r74), (7, .int (1 : Int32)), (6, .int r29), (5, .int r18), (0, .ref y), (1, .ref t), (2, .ref g), (3, .int a3)]) hx hb dX0_agrees_112 hl (k := 4) rfl rfl (by decide) rfl (fun ls hl => ?_)
                refine lv_goto (tgt := 3) hx hb dX0_agrees_115 (by decide) ?_
                exact ih3 (v3_4 + 1) he _ _ _ hP hD hS (lv_sub hl [0, 5, 6, 7, 8] rfl)
              · replace he := he.trans (if_neg c24)
                refine lv_iconst (v := 0) hx hb dX0_agrees_110 (by decide) ?_
                exact hret (0 : Int32) () _ _ _ _ dX0_agrees_111 (Or.inl rfl) he hP hD hS
            · replace he := he.trans (if_pos c23)
              refine lv_iconst (v := 1) hx hb dX0_agrees_102 (by decide) ?_
              refine lv_goto (tgt := 107) hx hb dX0_agrees_103 (by decide) ?_
              refine lv_icmp_eq (tgt := 112) hx hb dX0_agrees_107 (by decide) (fun c25 => ?_) (fun c25 => ?_)
              · replace he := he.trans (if_pos c25)
                refine lv_iinc (v := (v3_4 + 1)) (lv' := [(4, .int (v3_4 + 1)), (8, .int r74), (7, .int (1 : Int32)), (6, .int r29), (5, .int r18), (0, .ref y), (1, .ref t), (2, .ref g), (3, .int a3)]) hx hb dX0_agrees_112 hl (k := 4) rfl rfl (by decide) rfl (fun ls hl => ?_)
                refine lv_goto (tgt := 3) hx hb dX0_agrees_115 (by decide) ?_
                exact ih3 (v3_4 + 1) he _ _ _ hP hD hS (lv_sub hl [0, 5, 6, 7, 8] rfl)
              · replace he := he.trans (if_neg c25)
                refine lv_iconst (v := 0) hx hb dX0_agrees_110 (by decide) ?_
                exact hret (0 : Int32) () _ _ _ _ dX0_agrees_111 (Or.inl rfl) he hP hD hS
          · replace he := he.trans (if_pos c19)
            refine lv_iconst (v := 1) hx hb dX0_agrees_64 (by decide) ?_
            refine lv_goto (tgt := 77) hx hb dX0_agrees_65 (by decide) ?_
            refine lv_istore (lv' := [(8, .int (1 : Int32)), (7, .int (1 : Int32)), (6, .int r29), (5, .int r18), (4, .int v3_4), (0, .ref y), (1, .ref t), (2, .ref g), (3, .int a3)]) hx hb dX0_agrees_77 hl (by decide) rfl (fun ls hl => ?_)
            refine lv_aload_n hx hb dX0_agrees_79 rfl (lv_at hl 6 rfl) ?_
            refine lv_iload hx hb dX0_agrees_80 (lv_at hl 0 rfl) ?_
            refine lv_iload hx hb dX0_agrees_82 (lv_at hl 1 rfl) ?_
            refine lv_iload hx hb dX0_agrees_84 (lv_at hl 2 rfl) ?_
            have n26_ : fX5_isWarm ti_9 ti_10 (1 : Int32) (1 : Int32) r29 ≠ none := fun z => hne (he.trans (xbd_none z))
            refine xci (va_runV (As := [.int (1 : Int32), .int (1 : Int32), .int r29]) (rest := []) ⟨hx, hb, hml, hown, hts⟩ (c_X5_isWarm l D cI cP H.size t tr ta ti_4 ti_5 ti_6 ti_7 ti_8 ti_9 ti_10 tk_0 tk_1 tk_2 tk_3 (1 : Int32) (1 : Int32) r29 n26_) (cwV 3 hts gX0_agrees_X5_isWarm rfl rfl rfl (by decide +kernel) ⟨Nat.le_of_ble_eq_true rfl, Nat.le_of_ble_eq_true rfl⟩) (xPV hN hK hP hD [7, 8, 9, 10, 11, 12, 13, 14, 15] W_X0_agrees_c_X5_isWarm_7_8_9_10_11_12_13_14_15 (by decide) (ci := 5) (j := 7) rfl W_X0_agrees_o7) rfl rfl hl.1 rfl (lv_room (Nat.le_of_ble_eq_true rfl)) dX0_agrees_86 ⟨Nat.le_of_ble_eq_true rfl, Nat.le_of_ble_eq_true rfl⟩) hP hD hS hA [7, 8, 9, 10, 11, 12, 13, 14, 15] W_X0_agrees_c_X5_isWarm_7_8_9_10_11_12_13_14_15 (fun _ => rfl) (fun r86 u86 H locs hw hP hD hS => ?_)
            rw [W_X0_agrees_x_X5_isWarm_7_8_9_10_11_12_13_14_15] at hP hD
            replace he := he.trans (xbd_some hw)
            refine lv_aload_n hx hb dX0_agrees_89 rfl (lv_at hl 5 rfl) ?_
            refine va_get (D := D) (ci := 0) (v := .ref (yr 2)) (C := RX0) (T := TX0) (N := 4) hx hb hts hi_X0_agrees_0 hown hK hP 0 W_X0_agrees_o0 rfl 2 (by decide) (hts (.fieldLink RX0 23 "BlindLanterns$Felt" "warmths" "LBlindLanterns$Row;") (List.mem_of_getElem? (i := 4) rfl)) (fun _ h9 => h9) rfl dX0_agrees_90 ?_
            refine lv_iload hx hb dX0_agrees_93 (lv_at hl 4 rfl) ?_
            have n27_ : fX3_get yk_2 v3_4 10 ≠ none := fun z => hne (he.trans (xbd_none z))
            refine xci (va_runV (As := [.int v3_4]) (rest := [.int r86]) ⟨hx, hb, hml, hown, hts⟩ (c_X3_get l D cI cP H.size (yr 2) (ya 2) 10 yk_2 v3_4 n27_) (cwV 1 hts gX0_agrees_X3_get rfl rfl rfl (by decide +kernel) ⟨Nat.le_of_ble_eq_true rfl, Nat.le_of_ble_eq_true rfl⟩) (xPV hN hK hP hD [5, 6] W_X0_agrees_c_X3_get_5_6 (by decide) (ci := 3) (j := 5) rfl W_X0_agrees_o5) rfl rfl hl.1 rfl (lv_room (Nat.le_of_ble_eq_true rfl)) dX0_agrees_95 ⟨Nat.le_of_ble_eq_true rfl, Nat.le_of_ble_eq_true rfl⟩) hP hD hS hA [5, 6] W_X0_agrees_c_X3_get_5_6 (fun _ => rfl) (fun r95 u95 H locs hw hP hD hS => ?_)
            rw [W_X0_agrees_x_X3_get_5_6] at hP hD
            replace he := he.trans (xbd_some hw)
            refine lv_iconst (v := 1) hx hb dX0_agrees_98 (by decide) ?_
            refine lv_icmp_ne (tgt := 106) hx hb dX0_agrees_99 (by decide) (fun c28 => ?_) (fun c28 => ?_)
            · replace he := he.trans (if_neg c28)
              refine lv_iconst (v := 0) hx hb dX0_agrees_106 (by decide) ?_
              refine lv_icmp_eq (tgt := 112) hx hb dX0_agrees_107 (by decide) (fun c29 => ?_) (fun c29 => ?_)
              · replace he := he.trans (if_pos c29)
                refine lv_iinc (v := (v3_4 + 1)) (lv' := [(4, .int (v3_4 + 1)), (8, .int (1 : Int32)), (7, .int (1 : Int32)), (6, .int r29), (5, .int r18), (0, .ref y), (1, .ref t), (2, .ref g), (3, .int a3)]) hx hb dX0_agrees_112 hl (k := 4) rfl rfl (by decide) rfl (fun ls hl => ?_)
                refine lv_goto (tgt := 3) hx hb dX0_agrees_115 (by decide) ?_
                exact ih3 (v3_4 + 1) he _ _ _ hP hD hS (lv_sub hl [0, 5, 6, 7, 8] rfl)
              · replace he := he.trans (if_neg c29)
                refine lv_iconst (v := 0) hx hb dX0_agrees_110 (by decide) ?_
                exact hret (0 : Int32) () _ _ _ _ dX0_agrees_111 (Or.inl rfl) he hP hD hS
            · replace he := he.trans (if_pos c28)
              refine lv_iconst (v := 1) hx hb dX0_agrees_102 (by decide) ?_
              refine lv_goto (tgt := 107) hx hb dX0_agrees_103 (by decide) ?_
              refine lv_icmp_eq (tgt := 112) hx hb dX0_agrees_107 (by decide) (fun c30 => ?_) (fun c30 => ?_)
              · replace he := he.trans (if_pos c30)
                refine lv_iinc (v := (v3_4 + 1)) (lv' := [(4, .int (v3_4 + 1)), (8, .int (1 : Int32)), (7, .int (1 : Int32)), (6, .int r29), (5, .int r18), (0, .ref y), (1, .ref t), (2, .ref g), (3, .int a3)]) hx hb dX0_agrees_112 hl (k := 4) rfl rfl (by decide) rfl (fun ls hl => ?_)
                refine lv_goto (tgt := 3) hx hb dX0_agrees_115 (by decide) ?_
                exact ih3 (v3_4 + 1) he _ _ _ hP hD hS (lv_sub hl [0, 5, 6, 7, 8] rfl)
              · replace he := he.trans (if_neg c30)
                refine lv_iconst (v := 0) hx hb dX0_agrees_110 (by decide) ?_
                exact hret (0 : Int32) () _ _ _ _ dX0_agrees_111 (Or.inl rfl) he hP hD hS
  refine lv_iconst (v := 0) hx hb dX0_agrees_0 (by decide) ?_
  refine lv_istore (lv' := [(4, .int (0 : Int32)), (0, .ref y), (1, .ref t), (2, .ref g), (3, .int a3)]) hx hb dX0_agrees_1 hl (by decide) rfl (fun ls hl => ?_)
  exact L3_4 F (0 : Int32) he _ _ _ hP hD hS (lv_sub hl [0, 1, 2, 3, 4] rfl)

def fX1_isLit (qi_3 : Int32) (a1 : Int32) : Option (Int32) :=
  if ((qi_3 >>> (a1 &&& 31)) &&& (1 : Int32)) = (1 : Int32) then (some (1 : Int32)) else (some (0 : Int32))
theorem hi_X1_isLit_1 : ∀ w ∈ wsX10, w ∈ wsX1_isLit := fun _ h => (List.mem_cons_of_mem _ (List.mem_append_right _ h))
def W_X1_isLit (cI cP : ClassId) (q : Nat) (qr : Nat → Nat) (qa : Nat → Nat) (qi_2 : Int32) (qi_3 : Int32) (qi_4 : Int32) (qk_0 : Nat → Int32) (qk_1 : Nat → Int32) : va_W := (wPass cI q qr qa qi_2 qi_3 qi_4 qk_0 qk_1)
theorem W_X1_isLit_o0 {cI cP : ClassId} {q : Nat} {qr : Nat → Nat} {qa : Nat → Nat} {qi_2 : Int32} {qi_3 : Int32} {qi_4 : Int32} {qk_0 : Nat → Int32} {qk_1 : Nat → Int32} : (W_X1_isLit cI cP q qr qa qi_2 qi_3 qi_4 qk_0 qk_1)[0]? = some (q, .inr (1, [.ref (qr 0), .ref (qr 1), .int qi_2, .int qi_3, .int qi_4])) := rfl
set_option maxHeartbeats 4000000 in
set_option maxRecDepth 100000 in
theorem c_X1_isLit (l : Launch) (D : va_G) (cI cP : ClassId) (sz : Nat) (q : Nat) (qr : Nat → Nat) (qa : Nat → Nat) (qi_2 : Int32) (qi_3 : Int32) (qi_4 : Int32) (qk_0 : Nat → Int32) (qk_1 : Nat → Int32) (a1 : Int32) (hne : fX1_isLit qi_3 a1 ≠ none) : xMi l yX1_isLit wsX1_isLit ({ frames := 0, cells := 0, slots := 0, locals := 0 } : Room) D (xT cI cP) [.ref q, .int a1] (W_X1_isLit cI cP q qr qa qi_2 qi_3 qi_4 qk_0 qk_1) sz (fun r (_ : Unit) => fX1_isLit qi_3 a1 = some r) (fun u => W_X1_isLit cI cP q qr qa qi_2 qi_3 qi_4 qk_0 qk_1) 0 0 := by
  refine xMz_of (cc := cX1_isLit) (maxL := 2) (by decide +kernel) rfl (Nat.le_of_ble_eq_true rfl) ?_
  intro p e s m args below meth c A ls hx hb hml hown hts hname hN hK hA hP hD hS hl Q hret
  have he := fX1_isLit.eq_1 qi_3 a1
  have hl : lv_has ls 2 [(0, .ref q), (1, .int a1)] := hl
  refine lv_aload_n hx hb dX1_isLit_0 rfl (lv_at hl 0 rfl) ?_
  refine va_get (D := D) (ci := 1) (v := .int qi_3) (C := RX1) (T := TX1) (N := 5) hx hb hts hi_X1_isLit_1 hown hK hP 0 W_X1_isLit_o0 rfl 3 (by decide) (hts (.fieldLink RX1 44 "BlindLanterns$Pass" "lit" "I") (List.mem_of_getElem? (i := 1) rfl)) (fun _ h9 => h9) rfl dX1_isLit_1 ?_
  refine lv_iload_n hx hb dX1_isLit_4 rfl (lv_at hl 1 rfl) ?_
  refine lv_ishr hx hb dX1_isLit_5 ?_
  refine lv_iconst (v := 1) hx hb dX1_isLit_6 (by decide) ?_
  refine lv_iand hx hb dX1_isLit_7 ?_
  refine lv_iconst (v := 1) hx hb dX1_isLit_8 (by decide) ?_
  refine lv_icmp_ne (tgt := 16) hx hb dX1_isLit_9 (by decide) (fun c1 => ?_) (fun c1 => ?_)
  · replace he := he.trans (if_neg c1)
    refine lv_iconst (v := 0) hx hb dX1_isLit_16 (by decide) ?_
    exact hret (0 : Int32) () _ _ _ _ dX1_isLit_17 (Or.inl rfl) he hP hD hS
  · replace he := he.trans (if_pos c1)
    refine lv_iconst (v := 1) hx hb dX1_isLit_12 (by decide) ?_
    refine lv_goto (tgt := 17) hx hb dX1_isLit_13 (by decide) ?_
    exact hret (1 : Int32) () _ _ _ _ dX1_isLit_17 (Or.inr rfl) he hP hD hS

def fX1_lanternAt_L2 (qi_2 : Int32) (qk_0 : Nat → Int32) (a1 : Int32) (k2 : Int32 → Option (Int32)) : Nat → Int32 → Option (Int32)
  | 0, _ => none
  | n2 + 1, v2_2 => if qi_2 ≤ v2_2 then (k2 v2_2) else (xbd (fX3_get qk_0 v2_2 6) (fun (r15 : Int32) => if r15 = a1 then (some v2_2) else (fX1_lanternAt_L2 qi_2 qk_0 a1 k2 n2 (v2_2 + 1))))
def fX1_lanternAt (F : Nat) (qi_2 : Int32) (qk_0 : Nat → Int32) (a1 : Int32) : Option (Int32) :=
  fX1_lanternAt_L2 qi_2 qk_0 a1 (fun (v2_2 : Int32) => some (0 : Int32)) F (0 : Int32)
theorem hi_X1_lanternAt_1 : ∀ w ∈ wsX10, w ∈ wsX1_lanternAt := fun _ h => (List.mem_cons_of_mem _ (List.mem_append_left _ (List.mem_append_right _ h)))
def W_X1_lanternAt (cI cP : ClassId) (q : Nat) (qr : Nat → Nat) (qa : Nat → Nat) (qi_2 : Int32) (qi_3 : Int32) (qi_4 : Int32) (qk_0 : Nat → Int32) (qk_1 : Nat → Int32) : va_W := (wPass cI q qr qa qi_2 qi_3 qi_4 qk_0 qk_1)
theorem W_X1_lanternAt_o0 {cI cP : ClassId} {q : Nat} {qr : Nat → Nat} {qa : Nat → Nat} {qi_2 : Int32} {qi_3 : Int32} {qi_4 : Int32} {qk_0 : Nat → Int32} {qk_1 : Nat → Int32} : (W_X1_lanternAt cI cP q qr qa qi_2 qi_3 qi_4 qk_0 qk_1)[0]? = some (q, .inr (1, [.ref (qr 0), .ref (qr 1), .int qi_2, .int qi_3, .int qi_4])) := rfl
theorem W_X1_lanternAt_c_X3_get_1_2 {cI cP : ClassId} {q : Nat} {qr : Nat → Nat} {qa : Nat → Nat} {qi_2 : Int32} {qi_3 : Int32} {qi_4 : Int32} {qk_0 : Nat → Int32} {qk_1 : Nat → Int32} : ([1, 2] : List Nat).map (fun i => (W_X1_lanternAt cI cP q qr qa qi_2 qi_3 qi_4 qk_0 qk_1)[i]?) = (W_X3_get cI cP (qr 0) (qa 0) 6 qk_0).map some := rfl
theorem W_X1_lanternAt_x_X3_get_1_2 {cI cP : ClassId} {q : Nat} {qr : Nat → Nat} {qa : Nat → Nat} {qi_2 : Int32} {qi_3 : Int32} {qi_4 : Int32} {qk_0 : Nat → Int32} {qk_1 : Nat → Int32} : xset (W_X1_lanternAt cI cP q qr qa qi_2 qi_3 qi_4 qk_0 qk_1) [1, 2] (W_X3_get cI cP (qr 0) (qa 0) 6 qk_0) = W_X1_lanternAt cI cP q qr qa qi_2 qi_3 qi_4 qk_0 qk_1 := rfl
theorem W_X1_lanternAt_o1 {cI cP : ClassId} {q : Nat} {qr : Nat → Nat} {qa : Nat → Nat} {qi_2 : Int32} {qi_3 : Int32} {qi_4 : Int32} {qk_0 : Nat → Int32} {qk_1 : Nat → Int32} : (W_X1_lanternAt cI cP q qr qa qi_2 qi_3 qi_4 qk_0 qk_1)[1]? = some ((qr 0), .inr (3, [.ref (qa 0)])) := rfl
set_option maxHeartbeats 4000000 in
set_option maxRecDepth 100000 in
theorem c_X1_lanternAt (l : Launch) (D : va_G) (cI cP : ClassId) (sz : Nat) (q : Nat) (qr : Nat → Nat) (qa : Nat → Nat) (qi_2 : Int32) (qi_3 : Int32) (qi_4 : Int32) (qk_0 : Nat → Int32) (qk_1 : Nat → Int32) (F : Nat) (a1 : Int32) (hne : fX1_lanternAt F qi_2 qk_0 a1 ≠ none) : xMi l yX1_lanternAt wsX1_lanternAt ({ frames := 1, cells := 0, slots := 0, locals := 21 } : Room) D (xT cI cP) [.ref q, .int a1] (W_X1_lanternAt cI cP q qr qa qi_2 qi_3 qi_4 qk_0 qk_1) sz (fun r (_ : Unit) => fX1_lanternAt F qi_2 qk_0 a1 = some r) (fun u => W_X1_lanternAt cI cP q qr qa qi_2 qi_3 qi_4 qk_0 qk_1) 0 0 := by
  refine xMi_of (cc := cX1_lanternAt) (maxL := 3) (by decide +kernel) rfl (Nat.le_of_ble_eq_true rfl) ?_
  intro p e s m args below meth c A ls hx hb hml hown hts hname hN hK hA hP hD hS hl Q hret
  have he := fX1_lanternAt.eq_1 F qi_2 qk_0 a1
  have hl : lv_has ls 3 [(0, .ref q), (1, .int a1)] := hl
  have R2_0 : ∀ (v2_2 : Int32), fX1_lanternAt F qi_2 qk_0 a1 = (some (0 : Int32)) → ∀ (H : Heap) (locs : List Loc) (ls : Array Slot), va_P D vwCl (W_X1_lanternAt cI cP q qr qa qi_2 qi_3 qi_4 qk_0 qk_1) H → va_D A (W_X1_lanternAt cI cP q qr qa qi_2 qi_3 qi_4 qk_0 qk_1) → va_S A s.heap H locs → lv_has ls 3 [] → W p l e ({ frames := 1, cells := 0, slots := 0, locals := 21 } : Room) s m args below meth c H locs 0 0 Q (F0 m 30 ls []) := by
    intro v2_2 he H locs ls hP hD hS hl
    refine lv_iconst (v := 0) hx hb dX1_lanternAt_30 (by decide) ?_
    exact hret (0 : Int32) () _ _ _ _ dX1_lanternAt_31 he hP hD hS
  have L2_4 : ∀ (n2 : Nat) (v2_2 : Int32), fX1_lanternAt F qi_2 qk_0 a1 = fX1_lanternAt_L2 qi_2 qk_0 a1 (fun (v2_2 : Int32) => some (0 : Int32)) n2 v2_2 → ∀ (H : Heap) (locs : List Loc) (ls : Array Slot), va_P D vwCl (W_X1_lanternAt cI cP q qr qa qi_2 qi_3 qi_4 qk_0 qk_1) H → va_D A (W_X1_lanternAt cI cP q qr qa qi_2 qi_3 qi_4 qk_0 qk_1) → va_S A s.heap H locs → lv_has ls 3 [(2, .int v2_2), (0, .ref q), (1, .int a1)] → W p l e ({ frames := 1, cells := 0, slots := 0, locals := 21 } : Room) s m args below meth c H locs 0 0 Q (F0 m 2 ls []) := by
    intro n2
    induction n2 with
    | zero => intro v2_2 he; exact absurd he hne
    | succ n2 ih2 =>
      intro v2_2 he H locs ls hP hD hS hl
      replace he := he.trans (fX1_lanternAt_L2.eq_2 _ _ _ _ _ _)
      refine lv_iload_n hx hb dX1_lanternAt_2 rfl (lv_at hl 0 rfl) ?_
      refine lv_aload_n hx hb dX1_lanternAt_3 rfl (lv_at hl 1 rfl) ?_
      refine va_get (D := D) (ci := 1) (v := .int qi_2) (C := RX1) (T := TX1) (N := 5) hx hb hts hi_X1_lanternAt_1 hown hK hP 0 W_X1_lanternAt_o0 rfl 2 (by decide) (hts (.fieldLink RX1 29 "BlindLanterns$Pass" "men" "I") (List.mem_of_getElem? (i := 1) rfl)) (fun _ h9 => h9) rfl dX1_lanternAt_4 ?_
      refine lv_icmp_ge (tgt := 30) hx hb dX1_lanternAt_7 (by decide) (fun c1 => ?_) (fun c1 => ?_)
      · replace he := he.trans (if_pos c1)
        exact R2_0 v2_2 he _ _ _ hP hD hS (lv_sub hl [] rfl)
      · replace he := he.trans (if_neg c1)
        refine lv_aload_n hx hb dX1_lanternAt_10 rfl (lv_at hl 1 rfl) ?_
        refine va_get (D := D) (ci := 1) (v := .ref (qr 0)) (C := RX1) (T := TX1) (N := 5) hx hb hts hi_X1_lanternAt_1 hown hK hP 0 W_X1_lanternAt_o0 rfl 0 (by decide) (hts (.fieldLink RX1 14 "BlindLanterns$Pass" "postOf" "LBlindLanterns$Row;") (List.mem_of_getElem? (i := 2) rfl)) (fun _ h9 => h9) rfl dX1_lanternAt_11 ?_
        refine lv_iload_n hx hb dX1_lanternAt_14 rfl (lv_at hl 0 rfl) ?_
        have n2_ : fX3_get qk_0 v2_2 6 ≠ none := fun z => hne (he.trans (xbd_none z))
        refine xci (va_runV (As := [.int v2_2]) (rest := []) ⟨hx, hb, hml, hown, hts⟩ (c_X3_get l D cI cP H.size (qr 0) (qa 0) 6 qk_0 v2_2 n2_) (cwV 1 hts gX1_lanternAt_X3_get rfl rfl rfl (by decide +kernel) ⟨Nat.le_of_ble_eq_true rfl, Nat.le_of_ble_eq_true rfl⟩) (xPV hN hK hP hD [1, 2] W_X1_lanternAt_c_X3_get_1_2 (by decide) (ci := 3) (j := 1) rfl W_X1_lanternAt_o1) rfl rfl hl.1 rfl (lv_room (Nat.le_of_ble_eq_true rfl)) dX1_lanternAt_15 ⟨Nat.le_of_ble_eq_true rfl, Nat.le_of_ble_eq_true rfl⟩) hP hD hS hA [1, 2] W_X1_lanternAt_c_X3_get_1_2 (fun _ => rfl) (fun r15 u15 H locs hw hP hD hS => ?_)
        rw [W_X1_lanternAt_x_X3_get_1_2] at hP hD
        replace he := he.trans (xbd_some hw)
        refine lv_iload_n hx hb dX1_lanternAt_18 rfl (lv_at hl 2 rfl) ?_
        refine lv_icmp_ne (tgt := 24) hx hb dX1_lanternAt_19 (by decide) (fun c3 => ?_) (fun c3 => ?_)
        · replace he := he.trans (if_neg c3)
          refine lv_iinc (v := (v2_2 + 1)) (lv' := [(2, .int (v2_2 + 1)), (0, .ref q), (1, .int a1)]) hx hb dX1_lanternAt_24 hl (k := 0) rfl rfl (by decide) rfl (fun ls hl => ?_)
          refine lv_goto (tgt := 2) hx hb dX1_lanternAt_27 (by decide) ?_
          exact ih2 (v2_2 + 1) he _ _ _ hP hD hS (lv_sub hl [0, 1, 2] rfl)
        · replace he := he.trans (if_pos c3)
          refine lv_iload_n hx hb dX1_lanternAt_22 rfl (lv_at hl 0 rfl) ?_
          exact hret v2_2 () _ _ _ _ dX1_lanternAt_23 he hP hD hS
  refine lv_iconst (v := 0) hx hb dX1_lanternAt_0 (by decide) ?_
  refine lv_istore_n (lv' := [(2, .int (0 : Int32)), (0, .ref q), (1, .int a1)]) hx hb dX1_lanternAt_1 rfl hl (by decide) rfl (fun ls hl => ?_)
  exact L2_4 F (0 : Int32) he _ _ _ hP hD hS (lv_sub hl [0, 1, 2] rfl)

def fX1_litCount (qi_3 : Int32) : Option (Int32) :=
  xbd (fJ6_bitCount_0f7a4 qi_3) (fun (r4 : Int32) => some r4)
theorem hi_X1_litCount_1 : ∀ w ∈ wsX10, w ∈ wsX1_litCount := fun _ h => (List.mem_cons_of_mem _ (List.mem_append_right _ h))
def W_X1_litCount (cI cP : ClassId) (q : Nat) (qr : Nat → Nat) (qa : Nat → Nat) (qi_2 : Int32) (qi_3 : Int32) (qi_4 : Int32) (qk_0 : Nat → Int32) (qk_1 : Nat → Int32) : va_W := (wPass cI q qr qa qi_2 qi_3 qi_4 qk_0 qk_1)
theorem W_X1_litCount_o0 {cI cP : ClassId} {q : Nat} {qr : Nat → Nat} {qa : Nat → Nat} {qi_2 : Int32} {qi_3 : Int32} {qi_4 : Int32} {qk_0 : Nat → Int32} {qk_1 : Nat → Int32} : (W_X1_litCount cI cP q qr qa qi_2 qi_3 qi_4 qk_0 qk_1)[0]? = some (q, .inr (1, [.ref (qr 0), .ref (qr 1), .int qi_2, .int qi_3, .int qi_4])) := rfl
set_option maxHeartbeats 4000000 in
set_option maxRecDepth 100000 in
theorem c_X1_litCount (l : Launch) (D : va_G) (cI cP : ClassId) (sz : Nat) (q : Nat) (qr : Nat → Nat) (qa : Nat → Nat) (qi_2 : Int32) (qi_3 : Int32) (qi_4 : Int32) (qk_0 : Nat → Int32) (qk_1 : Nat → Int32) (hne : fX1_litCount qi_3 ≠ none) : xMi l yX1_litCount wsX1_litCount ({ frames := 1, cells := 0, slots := 0, locals := 20 } : Room) D (xT cI cP) [.ref q] (W_X1_litCount cI cP q qr qa qi_2 qi_3 qi_4 qk_0 qk_1) sz (fun r (_ : Unit) => fX1_litCount qi_3 = some r) (fun u => W_X1_litCount cI cP q qr qa qi_2 qi_3 qi_4 qk_0 qk_1) 0 0 := by
  refine xMi_of (cc := cX1_litCount) (maxL := 1) (by decide +kernel) rfl (Nat.le_of_ble_eq_true rfl) ?_
  intro p e s m args below meth c A ls hx hb hml hown hts hname hN hK hA hP hD hS hl Q hret
  have he := fX1_litCount.eq_1 qi_3
  have hl : lv_has ls 1 [(0, .ref q)] := hl
  refine lv_aload_n hx hb dX1_litCount_0 rfl (lv_at hl 0 rfl) ?_
  refine va_get (D := D) (ci := 1) (v := .int qi_3) (C := RX1) (T := TX1) (N := 5) hx hb hts hi_X1_litCount_1 hown hK hP 0 W_X1_litCount_o0 rfl 3 (by decide) (hts (.fieldLink RX1 44 "BlindLanterns$Pass" "lit" "I") (List.mem_of_getElem? (i := 1) rfl)) (fun _ h9 => h9) rfl dX1_litCount_1 ?_
  have n1_ : fJ6_bitCount_0f7a4 qi_3 ≠ none := fun z => hne (he.trans (xbd_none z))
  refine xci0 (va_runS (As := [.int qi_3]) (rest := []) ⟨hx, hb, hml, hown, hts⟩ (c_J6_bitCount_0f7a4 l D cI cP s.heap.size  qi_3 n1_) (va_cwS 1 hts gX1_litCount_J6_bitCount_0f7a4 rfl rfl rfl (by decide +kernel) ⟨Nat.le_of_ble_eq_true rfl, Nat.le_of_ble_eq_true rfl⟩) (xPS0 hN hK) rfl rfl hl.1 rfl (lv_room (Nat.le_of_ble_eq_true rfl)) dX1_litCount_4 ⟨Nat.le_of_ble_eq_true rfl, Nat.le_of_ble_eq_true rfl⟩) hP hD hS hA (fun r4 u4 H locs hw hP hD hS => ?_)
  replace he := he.trans (xbd_some hw)
  exact hret r4 () _ _ _ _ dX1_litCount_7 he hP hD hS

def fX1_oilInAll_L4 (qi_2 : Int32) (qk_1 : Nat → Int32) (k4 : Int32 → Int32 → Option (Int32)) : Nat → Int32 → Int32 → Option (Int32)
  | 0, _, _ => none
  | n4 + 1, v4_2, v4_1 => if qi_2 ≤ v4_2 then (k4 v4_2 v4_1) else (xbd (fX3_get qk_1 v4_2 6) (fun (r18 : Int32) => fX1_oilInAll_L4 qi_2 qk_1 k4 n4 (v4_2 + 1) (v4_1 + r18)))
def fX1_oilInAll (F : Nat) (qi_2 : Int32) (qk_1 : Nat → Int32) : Option (Int32) :=
  fX1_oilInAll_L4 qi_2 qk_1 (fun (v4_2 : Int32) (v4_1 : Int32) => some v4_1) F (0 : Int32) (0 : Int32)
theorem hi_X1_oilInAll_1 : ∀ w ∈ wsX10, w ∈ wsX1_oilInAll := fun _ h => (List.mem_cons_of_mem _ (List.mem_append_left _ (List.mem_append_right _ h)))
def W_X1_oilInAll (cI cP : ClassId) (q : Nat) (qr : Nat → Nat) (qa : Nat → Nat) (qi_2 : Int32) (qi_3 : Int32) (qi_4 : Int32) (qk_0 : Nat → Int32) (qk_1 : Nat → Int32) : va_W := (wPass cI q qr qa qi_2 qi_3 qi_4 qk_0 qk_1)
theorem W_X1_oilInAll_o0 {cI cP : ClassId} {q : Nat} {qr : Nat → Nat} {qa : Nat → Nat} {qi_2 : Int32} {qi_3 : Int32} {qi_4 : Int32} {qk_0 : Nat → Int32} {qk_1 : Nat → Int32} : (W_X1_oilInAll cI cP q qr qa qi_2 qi_3 qi_4 qk_0 qk_1)[0]? = some (q, .inr (1, [.ref (qr 0), .ref (qr 1), .int qi_2, .int qi_3, .int qi_4])) := rfl
theorem W_X1_oilInAll_c_X3_get_3_4 {cI cP : ClassId} {q : Nat} {qr : Nat → Nat} {qa : Nat → Nat} {qi_2 : Int32} {qi_3 : Int32} {qi_4 : Int32} {qk_0 : Nat → Int32} {qk_1 : Nat → Int32} : ([3, 4] : List Nat).map (fun i => (W_X1_oilInAll cI cP q qr qa qi_2 qi_3 qi_4 qk_0 qk_1)[i]?) = (W_X3_get cI cP (qr 1) (qa 1) 6 qk_1).map some := rfl
theorem W_X1_oilInAll_x_X3_get_3_4 {cI cP : ClassId} {q : Nat} {qr : Nat → Nat} {qa : Nat → Nat} {qi_2 : Int32} {qi_3 : Int32} {qi_4 : Int32} {qk_0 : Nat → Int32} {qk_1 : Nat → Int32} : xset (W_X1_oilInAll cI cP q qr qa qi_2 qi_3 qi_4 qk_0 qk_1) [3, 4] (W_X3_get cI cP (qr 1) (qa 1) 6 qk_1) = W_X1_oilInAll cI cP q qr qa qi_2 qi_3 qi_4 qk_0 qk_1 := rfl
theorem W_X1_oilInAll_o3 {cI cP : ClassId} {q : Nat} {qr : Nat → Nat} {qa : Nat → Nat} {qi_2 : Int32} {qi_3 : Int32} {qi_4 : Int32} {qk_0 : Nat → Int32} {qk_1 : Nat → Int32} : (W_X1_oilInAll cI cP q qr qa qi_2 qi_3 qi_4 qk_0 qk_1)[3]? = some ((qr 1), .inr (3, [.ref (qa 1)])) := rfl
set_option maxHeartbeats 4000000 in
set_option maxRecDepth 100000 in
theorem c_X1_oilInAll (l : Launch) (D : va_G) (cI cP : ClassId) (sz : Nat) (q : Nat) (qr : Nat → Nat) (qa : Nat → Nat) (qi_2 : Int32) (qi_3 : Int32) (qi_4 : Int32) (qk_0 : Nat → Int32) (qk_1 : Nat → Int32) (F : Nat) (hne : fX1_oilInAll F qi_2 qk_1 ≠ none) : xMi l yX1_oilInAll wsX1_oilInAll ({ frames := 1, cells := 0, slots := 0, locals := 21 } : Room) D (xT cI cP) [.ref q] (W_X1_oilInAll cI cP q qr qa qi_2 qi_3 qi_4 qk_0 qk_1) sz (fun r (_ : Unit) => fX1_oilInAll F qi_2 qk_1 = some r) (fun u => W_X1_oilInAll cI cP q qr qa qi_2 qi_3 qi_4 qk_0 qk_1) 0 0 := by
  refine xMi_of (cc := cX1_oilInAll) (maxL := 3) (by decide +kernel) rfl (Nat.le_of_ble_eq_true rfl) ?_
  intro p e s m args below meth c A ls hx hb hml hown hts hname hN hK hA hP hD hS hl Q hret
  have he := fX1_oilInAll.eq_1 F qi_2 qk_1
  have hl : lv_has ls 3 [(0, .ref q)] := hl
  have R4_0 : ∀ (v4_2 : Int32) (v4_1 : Int32), fX1_oilInAll F qi_2 qk_1 = (some v4_1) → ∀ (H : Heap) (locs : List Loc) (ls : Array Slot), va_P D vwCl (W_X1_oilInAll cI cP q qr qa qi_2 qi_3 qi_4 qk_0 qk_1) H → va_D A (W_X1_oilInAll cI cP q qr qa qi_2 qi_3 qi_4 qk_0 qk_1) → va_S A s.heap H locs → lv_has ls 3 [(1, .int v4_1)] → W p l e ({ frames := 1, cells := 0, slots := 0, locals := 21 } : Room) s m args below meth c H locs 0 0 Q (F0 m 29 ls []) := by
    intro v4_2 v4_1 he H locs ls hP hD hS hl
    refine lv_iload_n hx hb dX1_oilInAll_29 rfl (lv_at hl 0 rfl) ?_
    exact hret v4_1 () _ _ _ _ dX1_oilInAll_30 he hP hD hS
  have L4_4 : ∀ (n4 : Nat) (v4_2 : Int32) (v4_1 : Int32), fX1_oilInAll F qi_2 qk_1 = fX1_oilInAll_L4 qi_2 qk_1 (fun (v4_2 : Int32) (v4_1 : Int32) => some v4_1) n4 v4_2 v4_1 → ∀ (H : Heap) (locs : List Loc) (ls : Array Slot), va_P D vwCl (W_X1_oilInAll cI cP q qr qa qi_2 qi_3 qi_4 qk_0 qk_1) H → va_D A (W_X1_oilInAll cI cP q qr qa qi_2 qi_3 qi_4 qk_0 qk_1) → va_S A s.heap H locs → lv_has ls 3 [(2, .int v4_2), (1, .int v4_1), (0, .ref q)] → W p l e ({ frames := 1, cells := 0, slots := 0, locals := 21 } : Room) s m args below meth c H locs 0 0 Q (F0 m 4 ls []) := by
    intro n4
    induction n4 with
    | zero => intro v4_2 v4_1 he; exact absurd he hne
    | succ n4 ih4 =>
      intro v4_2 v4_1 he H locs ls hP hD hS hl
      replace he := he.trans (fX1_oilInAll_L4.eq_2 _ _ _ _ _ _)
      refine lv_iload_n hx hb dX1_oilInAll_4 rfl (lv_at hl 0 rfl) ?_
      refine lv_aload_n hx hb dX1_oilInAll_5 rfl (lv_at hl 2 rfl) ?_
      refine va_get (D := D) (ci := 1) (v := .int qi_2) (C := RX1) (T := TX1) (N := 5) hx hb hts hi_X1_oilInAll_1 hown hK hP 0 W_X1_oilInAll_o0 rfl 2 (by decide) (hts (.fieldLink RX1 29 "BlindLanterns$Pass" "men" "I") (List.mem_of_getElem? (i := 1) rfl)) (fun _ h9 => h9) rfl dX1_oilInAll_6 ?_
      refine lv_icmp_ge (tgt := 29) hx hb dX1_oilInAll_9 (by decide) (fun c1 => ?_) (fun c1 => ?_)
      · replace he := he.trans (if_pos c1)
        exact R4_0 v4_2 v4_1 he _ _ _ hP hD hS (lv_sub hl [1] rfl)
      · replace he := he.trans (if_neg c1)
        refine lv_iload_n hx hb dX1_oilInAll_12 rfl (lv_at hl 1 rfl) ?_
        refine lv_aload_n hx hb dX1_oilInAll_13 rfl (lv_at hl 2 rfl) ?_
        refine va_get (D := D) (ci := 1) (v := .ref (qr 1)) (C := RX1) (T := TX1) (N := 5) hx hb hts hi_X1_oilInAll_1 hown hK hP 0 W_X1_oilInAll_o0 rfl 1 (by decide) (hts (.fieldLink RX1 20 "BlindLanterns$Pass" "oilOf" "LBlindLanterns$Row;") (List.mem_of_getElem? (i := 2) rfl)) (fun _ h9 => h9) rfl dX1_oilInAll_14 ?_
        refine lv_iload_n hx hb dX1_oilInAll_17 rfl (lv_at hl 0 rfl) ?_
        have n2_ : fX3_get qk_1 v4_2 6 ≠ none := fun z => hne (he.trans (xbd_none z))
        refine xci (va_runV (As := [.int v4_2]) (rest := [.int v4_1]) ⟨hx, hb, hml, hown, hts⟩ (c_X3_get l D cI cP H.size (qr 1) (qa 1) 6 qk_1 v4_2 n2_) (cwV 1 hts gX1_oilInAll_X3_get rfl rfl rfl (by decide +kernel) ⟨Nat.le_of_ble_eq_true rfl, Nat.le_of_ble_eq_true rfl⟩) (xPV hN hK hP hD [3, 4] W_X1_oilInAll_c_X3_get_3_4 (by decide) (ci := 3) (j := 3) rfl W_X1_oilInAll_o3) rfl rfl hl.1 rfl (lv_room (Nat.le_of_ble_eq_true rfl)) dX1_oilInAll_18 ⟨Nat.le_of_ble_eq_true rfl, Nat.le_of_ble_eq_true rfl⟩) hP hD hS hA [3, 4] W_X1_oilInAll_c_X3_get_3_4 (fun _ => rfl) (fun r18 u18 H locs hw hP hD hS => ?_)
        rw [W_X1_oilInAll_x_X3_get_3_4] at hP hD
        replace he := he.trans (xbd_some hw)
        refine lv_iadd hx hb dX1_oilInAll_21 ?_
        refine lv_istore_n (lv' := [(1, .int (v4_1 + r18)), (2, .int v4_2), (0, .ref q)]) hx hb dX1_oilInAll_22 rfl hl (by decide) rfl (fun ls hl => ?_)
        refine lv_iinc (v := (v4_2 + 1)) (lv' := [(2, .int (v4_2 + 1)), (1, .int (v4_1 + r18)), (0, .ref q)]) hx hb dX1_oilInAll_23 hl (k := 1) rfl rfl (by decide) rfl (fun ls hl => ?_)
        refine lv_goto (tgt := 4) hx hb dX1_oilInAll_26 (by decide) ?_
        exact ih4 (v4_2 + 1) (v4_1 + r18) he _ _ _ hP hD hS (lv_sub hl [0, 1, 2] rfl)
  refine lv_iconst (v := 0) hx hb dX1_oilInAll_0 (by decide) ?_
  refine lv_istore_n (lv' := [(1, .int (0 : Int32)), (0, .ref q)]) hx hb dX1_oilInAll_1 rfl hl (by decide) rfl (fun ls hl => ?_)
  refine lv_iconst (v := 0) hx hb dX1_oilInAll_2 (by decide) ?_
  refine lv_istore_n (lv' := [(2, .int (0 : Int32)), (1, .int (0 : Int32)), (0, .ref q)]) hx hb dX1_oilInAll_3 rfl hl (by decide) rfl (fun ls hl => ?_)
  exact L4_4 F (0 : Int32) (0 : Int32) he _ _ _ hP hD hS (lv_sub hl [0, 1, 2] rfl)

def fX1_litFor (qi_3 : Int32) (qk_1 : Nat → Int32) (a1 : Int32) (a2 : Int32) : Option (Int32) :=
  xbd (fX1_isLit qi_3 a1) (fun (r2 : Int32) => if r2 = 0 then (some (0 : Int32)) else (xbd (fX3_get qk_1 a1 6) (fun (r13 : Int32) => some (if a2 < r13 then a2 else r13))))
theorem hi_X1_litFor_1 : ∀ w ∈ wsX10, w ∈ wsX1_litFor := fun _ h => (List.mem_cons_of_mem _ (List.mem_append_left _ (List.mem_append_right _ h)))
def W_X1_litFor (cI cP : ClassId) (q : Nat) (qr : Nat → Nat) (qa : Nat → Nat) (qi_2 : Int32) (qi_3 : Int32) (qi_4 : Int32) (qk_0 : Nat → Int32) (qk_1 : Nat → Int32) : va_W := (wPass cI q qr qa qi_2 qi_3 qi_4 qk_0 qk_1)
theorem W_X1_litFor_c_X1_isLit_0_1_2_3_4 {cI cP : ClassId} {q : Nat} {qr : Nat → Nat} {qa : Nat → Nat} {qi_2 : Int32} {qi_3 : Int32} {qi_4 : Int32} {qk_0 : Nat → Int32} {qk_1 : Nat → Int32} : ([0, 1, 2, 3, 4] : List Nat).map (fun i => (W_X1_litFor cI cP q qr qa qi_2 qi_3 qi_4 qk_0 qk_1)[i]?) = (W_X1_isLit cI cP q qr qa qi_2 qi_3 qi_4 qk_0 qk_1).map some := rfl
theorem W_X1_litFor_x_X1_isLit_0_1_2_3_4 {cI cP : ClassId} {q : Nat} {qr : Nat → Nat} {qa : Nat → Nat} {qi_2 : Int32} {qi_3 : Int32} {qi_4 : Int32} {qk_0 : Nat → Int32} {qk_1 : Nat → Int32} : xset (W_X1_litFor cI cP q qr qa qi_2 qi_3 qi_4 qk_0 qk_1) [0, 1, 2, 3, 4] (W_X1_isLit cI cP q qr qa qi_2 qi_3 qi_4 qk_0 qk_1) = W_X1_litFor cI cP q qr qa qi_2 qi_3 qi_4 qk_0 qk_1 := rfl
theorem W_X1_litFor_o0 {cI cP : ClassId} {q : Nat} {qr : Nat → Nat} {qa : Nat → Nat} {qi_2 : Int32} {qi_3 : Int32} {qi_4 : Int32} {qk_0 : Nat → Int32} {qk_1 : Nat → Int32} : (W_X1_litFor cI cP q qr qa qi_2 qi_3 qi_4 qk_0 qk_1)[0]? = some (q, .inr (1, [.ref (qr 0), .ref (qr 1), .int qi_2, .int qi_3, .int qi_4])) := rfl
theorem W_X1_litFor_c_X3_get_3_4 {cI cP : ClassId} {q : Nat} {qr : Nat → Nat} {qa : Nat → Nat} {qi_2 : Int32} {qi_3 : Int32} {qi_4 : Int32} {qk_0 : Nat → Int32} {qk_1 : Nat → Int32} : ([3, 4] : List Nat).map (fun i => (W_X1_litFor cI cP q qr qa qi_2 qi_3 qi_4 qk_0 qk_1)[i]?) = (W_X3_get cI cP (qr 1) (qa 1) 6 qk_1).map some := rfl
theorem W_X1_litFor_x_X3_get_3_4 {cI cP : ClassId} {q : Nat} {qr : Nat → Nat} {qa : Nat → Nat} {qi_2 : Int32} {qi_3 : Int32} {qi_4 : Int32} {qk_0 : Nat → Int32} {qk_1 : Nat → Int32} : xset (W_X1_litFor cI cP q qr qa qi_2 qi_3 qi_4 qk_0 qk_1) [3, 4] (W_X3_get cI cP (qr 1) (qa 1) 6 qk_1) = W_X1_litFor cI cP q qr qa qi_2 qi_3 qi_4 qk_0 qk_1 := rfl
theorem W_X1_litFor_o3 {cI cP : ClassId} {q : Nat} {qr : Nat → Nat} {qa : Nat → Nat} {qi_2 : Int32} {qi_3 : Int32} {qi_4 : Int32} {qk_0 : Nat → Int32} {qk_1 : Nat → Int32} : (W_X1_litFor cI cP q qr qa qi_2 qi_3 qi_4 qk_0 qk_1)[3]? = some ((qr 1), .inr (3, [.ref (qa 1)])) := rfl
set_option maxHeartbeats 4000000 in
set_option maxRecDepth 100000 in
theorem c_X1_litFor (l : Launch) (D : va_G) (cI cP : ClassId) (sz : Nat) (q : Nat) (qr : Nat → Nat) (qa : Nat → Nat) (qi_2 : Int32) (qi_3 : Int32) (qi_4 : Int32) (qk_0 : Nat → Int32) (qk_1 : Nat → Int32) (a1 : Int32) (a2 : Int32) (hne : fX1_litFor qi_3 qk_1 a1 a2 ≠ none) : xMi l yX1_litFor wsX1_litFor ({ frames := 1, cells := 0, slots := 0, locals := 21 } : Room) D (xT cI cP) [.ref q, .int a1, .int a2] (W_X1_litFor cI cP q qr qa qi_2 qi_3 qi_4 qk_0 qk_1) sz (fun r (_ : Unit) => fX1_litFor qi_3 qk_1 a1 a2 = some r) (fun u => W_X1_litFor cI cP q qr qa qi_2 qi_3 qi_4 qk_0 qk_1) 0 0 := by
  refine xMi_of (cc := cX1_litFor) (maxL := 3) (by decide +kernel) rfl (Nat.le_of_ble_eq_true rfl) ?_
  intro p e s m args below meth c A ls hx hb hml hown hts hname hN hK hA hP hD hS hl Q hret
  have he := fX1_litFor.eq_1 qi_3 qk_1 a1 a2
  have hl : lv_has ls 3 [(0, .ref q), (1, .int a1), (2, .int a2)] := hl
  refine lv_aload_n hx hb dX1_litFor_0 rfl (lv_at hl 0 rfl) ?_
  refine lv_iload_n hx hb dX1_litFor_1 rfl (lv_at hl 1 rfl) ?_
  have n1_ : fX1_isLit qi_3 a1 ≠ none := fun z => hne (he.trans (xbd_none z))
  refine xci (va_runV (As := [.int a1]) (rest := []) ⟨hx, hb, hml, hown, hts⟩ (c_X1_isLit l D cI cP s.heap.size q qr qa qi_2 qi_3 qi_4 qk_0 qk_1 a1 n1_) (cwV 1 hts gX1_litFor_X1_isLit rfl rfl rfl (by decide +kernel) ⟨Nat.le_of_ble_eq_true rfl, Nat.le_of_ble_eq_true rfl⟩) (xPV hN hK hP hD [0, 1, 2, 3, 4] W_X1_litFor_c_X1_isLit_0_1_2_3_4 (by decide) (ci := 1) (j := 0) rfl W_X1_litFor_o0) rfl rfl hl.1 rfl (lv_room (Nat.le_of_ble_eq_true rfl)) dX1_litFor_2 ⟨Nat.le_of_ble_eq_true rfl, Nat.le_of_ble_eq_true rfl⟩) hP hD hS hA [0, 1, 2, 3, 4] W_X1_litFor_c_X1_isLit_0_1_2_3_4 (fun _ => rfl) (fun r2 u2 H locs hw hP hD hS => ?_)
  rw [W_X1_litFor_x_X1_isLit_0_1_2_3_4] at hP hD
  replace he := he.trans (xbd_some hw)
  refine lv_if_eq (tgt := 23) hx hb dX1_litFor_5 (by decide) (fun c2 => ?_) (fun c2 => ?_)
  · replace he := he.trans (if_pos c2)
    refine lv_iconst (v := 0) hx hb dX1_litFor_23 (by decide) ?_
    exact hret (0 : Int32) () _ _ _ _ dX1_litFor_24 he hP hD hS
  · replace he := he.trans (if_neg c2)
    refine lv_aload_n hx hb dX1_litFor_8 rfl (lv_at hl 0 rfl) ?_
    refine va_get (D := D) (ci := 1) (v := .ref (qr 1)) (C := RX1) (T := TX1) (N := 5) hx hb hts hi_X1_litFor_1 hown hK hP 0 W_X1_litFor_o0 rfl 1 (by decide) (hts (.fieldLink RX1 20 "BlindLanterns$Pass" "oilOf" "LBlindLanterns$Row;") (List.mem_of_getElem? (i := 1) rfl)) (fun _ h9 => h9) rfl dX1_litFor_9 ?_
    refine lv_iload_n hx hb dX1_litFor_12 rfl (lv_at hl 1 rfl) ?_
    have n3_ : fX3_get qk_1 a1 6 ≠ none := fun z => hne (he.trans (xbd_none z))
    refine xci (va_runV (As := [.int a1]) (rest := []) ⟨hx, hb, hml, hown, hts⟩ (c_X3_get l D cI cP H.size (qr 1) (qa 1) 6 qk_1 a1 n3_) (cwV 1 hts gX1_litFor_X3_get rfl rfl rfl (by decide +kernel) ⟨Nat.le_of_ble_eq_true rfl, Nat.le_of_ble_eq_true rfl⟩) (xPV hN hK hP hD [3, 4] W_X1_litFor_c_X3_get_3_4 (by decide) (ci := 3) (j := 3) rfl W_X1_litFor_o3) rfl rfl hl.1 rfl (lv_room (Nat.le_of_ble_eq_true rfl)) dX1_litFor_13 ⟨Nat.le_of_ble_eq_true rfl, Nat.le_of_ble_eq_true rfl⟩) hP hD hS hA [3, 4] W_X1_litFor_c_X3_get_3_4 (fun _ => rfl) (fun r13 u13 H locs hw hP hD hS => ?_)
    rw [W_X1_litFor_x_X3_get_3_4] at hP hD
    replace he := he.trans (xbd_some hw)
    refine lv_iload_n hx hb dX1_litFor_16 rfl (lv_at hl 2 rfl) ?_
    refine va_mmin hx hb (hml.trans hl.1.symm) hown (hts (.methodLink RX1 61 Lib.Math.min.name) (List.mem_of_getElem? (i := 2) rfl)) (hts (.static Lib.Math.min.name) (List.mem_of_getElem? (i := 3) rfl)) (hts (.initialized "java/lang/Math") (List.mem_of_getElem? (i := 4) rfl)) (hts (.code Lib.Math.min.name Lib.Math.min.code 2 (some .int)) (List.mem_of_getElem? (i := 5) rfl)) (Nat.le_of_ble_eq_true rfl) (Nat.le_of_ble_eq_true rfl) (Nat.le_of_ble_eq_true rfl) (Nat.le_of_ble_eq_true rfl) dX1_litFor_17 ?_
    refine lv_goto (tgt := 24) hx hb dX1_litFor_20 (by decide) ?_
    exact hret (if a2 < r13 then a2 else r13) () _ _ _ _ dX1_litFor_24 he hP hD hS

def fX1_begin_L10 (ti_4 : Int32) (k10 : Int32 → (Nat → Int32) → Option (Int32 × Int32 × Int32 × (Nat → Int32) × (Nat → Int32))) : Nat → Int32 → (Nat → Int32) → Option (Int32 × Int32 × Int32 × (Nat → Int32) × (Nat → Int32))
  | 0, _, _ => none
  | n10 + 1, v10_2, w10_qk_0 => if ti_4 ≤ v10_2 then (k10 v10_2 w10_qk_0) else (xbd (fX3_set w10_qk_0 v10_2 v10_2 6) (fun (u24 : (Nat → Int32)) => fX1_begin_L10 ti_4 k10 n10 (v10_2 + 1) u24))
def fX1_begin (F : Nat) (qk_0 : Nat → Int32) (qk_1 : Nat → Int32) (ti_4 : Int32) (ti_5 : Int32) (tk_1 : Nat → Int32) : Option (Int32 × Int32 × Int32 × (Nat → Int32) × (Nat → Int32)) :=
  fX1_begin_L10 ti_4 (fun (v10_2 : Int32) (w10_qk_0 : Nat → Int32) => xbd (fX3_copy F qk_1 tk_1 6 6) (fun (u41 : (Nat → Int32)) => some (ti_4, ti_5, (0 : Int32), w10_qk_0, u41))) F (0 : Int32) qk_0
theorem hi_X1_begin_1 : ∀ w ∈ wsX10, w ∈ wsX1_begin := fun _ h => (List.mem_cons_of_mem _ (List.mem_append_left _ (List.mem_append_right _ h)))
theorem hi_X1_begin_5 : ∀ w ∈ wsX50, w ∈ wsX1_begin := fun _ h => (List.mem_cons_of_mem _ (List.mem_append_left _ (List.mem_append_left _ (List.mem_append_right _ h))))
def W_X1_begin (cI cP : ClassId) (q : Nat) (qr : Nat → Nat) (qa : Nat → Nat) (qi_2 : Int32) (qi_3 : Int32) (qi_4 : Int32) (qk_0 : Nat → Int32) (qk_1 : Nat → Int32) (t : Nat) (tr : Nat → Nat) (ta : Nat → Nat) (ti_4 : Int32) (ti_5 : Int32) (ti_6 : Int32) (ti_7 : Int32) (ti_8 : Int32) (ti_9 : Int32) (ti_10 : Int32) (tk_0 : Nat → Int32) (tk_1 : Nat → Int32) (tk_2 : Nat → Int32) (tk_3 : Nat → Int32) : va_W := (wPass cI q qr qa qi_2 qi_3 qi_4 qk_0 qk_1) ++ ((wTold cI t tr ta ti_4 ti_5 ti_6 ti_7 ti_8 ti_9 ti_10 tk_0 tk_1 tk_2 tk_3))
theorem W_X1_begin_o5 {cI cP : ClassId} {q : Nat} {qr : Nat → Nat} {qa : Nat → Nat} {qi_2 : Int32} {qi_3 : Int32} {qi_4 : Int32} {qk_0 : Nat → Int32} {qk_1 : Nat → Int32} {t : Nat} {tr : Nat → Nat} {ta : Nat → Nat} {ti_4 : Int32} {ti_5 : Int32} {ti_6 : Int32} {ti_7 : Int32} {ti_8 : Int32} {ti_9 : Int32} {ti_10 : Int32} {tk_0 : Nat → Int32} {tk_1 : Nat → Int32} {tk_2 : Nat → Int32} {tk_3 : Nat → Int32} : (W_X1_begin cI cP q qr qa qi_2 qi_3 qi_4 qk_0 qk_1 t tr ta ti_4 ti_5 ti_6 ti_7 ti_8 ti_9 ti_10 tk_0 tk_1 tk_2 tk_3)[5]? = some (t, .inr (5, [.ref (tr 0), .ref (tr 1), .ref (tr 2), .ref (tr 3), .int ti_4, .int ti_5, .int ti_6, .int ti_7, .int ti_8, .int ti_9, .int ti_10])) := rfl
theorem W_X1_begin_o0 {cI cP : ClassId} {q : Nat} {qr : Nat → Nat} {qa : Nat → Nat} {qi_2 : Int32} {qi_3 : Int32} {qi_4 : Int32} {qk_0 : Nat → Int32} {qk_1 : Nat → Int32} {t : Nat} {tr : Nat → Nat} {ta : Nat → Nat} {ti_4 : Int32} {ti_5 : Int32} {ti_6 : Int32} {ti_7 : Int32} {ti_8 : Int32} {ti_9 : Int32} {ti_10 : Int32} {tk_0 : Nat → Int32} {tk_1 : Nat → Int32} {tk_2 : Nat → Int32} {tk_3 : Nat → Int32} : (W_X1_begin cI cP q qr qa qi_2 qi_3 qi_4 qk_0 qk_1 t tr ta ti_4 ti_5 ti_6 ti_7 ti_8 ti_9 ti_10 tk_0 tk_1 tk_2 tk_3)[0]? = some (q, .inr (1, [.ref (qr 0), .ref (qr 1), .int qi_2, .int qi_3, .int qi_4])) := rfl
theorem W_X1_begin_p0_2 {cI cP : ClassId} {q : Nat} {qr : Nat → Nat} {qa : Nat → Nat} {qi_2 : Int32} {qi_3 : Int32} {qi_4 : Int32} {qk_0 : Nat → Int32} {qk_1 : Nat → Int32} {t : Nat} {tr : Nat → Nat} {ta : Nat → Nat} {ti_4 : Int32} {ti_5 : Int32} {ti_6 : Int32} {ti_7 : Int32} {ti_8 : Int32} {ti_9 : Int32} {ti_10 : Int32} {tk_0 : Nat → Int32} {tk_1 : Nat → Int32} {tk_2 : Nat → Int32} {tk_3 : Nat → Int32} {v9 : Int32} : (W_X1_begin cI cP q qr qa qi_2 qi_3 qi_4 qk_0 qk_1 t tr ta ti_4 ti_5 ti_6 ti_7 ti_8 ti_9 ti_10 tk_0 tk_1 tk_2 tk_3).set 0 (q, .inr (1, [.ref (qr 0), .ref (qr 1), .int qi_2, .int qi_3, .int qi_4].set 2 (.int v9))) = W_X1_begin cI cP q qr qa v9 qi_3 qi_4 qk_0 qk_1 t tr ta ti_4 ti_5 ti_6 ti_7 ti_8 ti_9 ti_10 tk_0 tk_1 tk_2 tk_3 := rfl
theorem W_X1_begin_c_X3_copy_3_4_8_9 {cI cP : ClassId} {q : Nat} {qr : Nat → Nat} {qa : Nat → Nat} {qi_2 : Int32} {qi_3 : Int32} {qi_4 : Int32} {qk_0 : Nat → Int32} {qk_1 : Nat → Int32} {t : Nat} {tr : Nat → Nat} {ta : Nat → Nat} {ti_4 : Int32} {ti_5 : Int32} {ti_6 : Int32} {ti_7 : Int32} {ti_8 : Int32} {ti_9 : Int32} {ti_10 : Int32} {tk_0 : Nat → Int32} {tk_1 : Nat → Int32} {tk_2 : Nat → Int32} {tk_3 : Nat → Int32} : ([3, 4, 8, 9] : List Nat).map (fun i => (W_X1_begin cI cP q qr qa qi_2 qi_3 qi_4 qk_0 qk_1 t tr ta ti_4 ti_5 ti_6 ti_7 ti_8 ti_9 ti_10 tk_0 tk_1 tk_2 tk_3)[i]?) = (W_X3_copy cI cP (qr 1) (qa 1) 6 qk_1 (tr 1) (ta 1) 6 tk_1).map some := rfl
theorem W_X1_begin_x_X3_copy_3_4_8_9 {cI cP : ClassId} {q : Nat} {qr : Nat → Nat} {qa : Nat → Nat} {qi_2 : Int32} {qi_3 : Int32} {qi_4 : Int32} {qk_0 : Nat → Int32} {qk_1 : Nat → Int32} {t : Nat} {tr : Nat → Nat} {ta : Nat → Nat} {ti_4 : Int32} {ti_5 : Int32} {ti_6 : Int32} {ti_7 : Int32} {ti_8 : Int32} {ti_9 : Int32} {ti_10 : Int32} {tk_0 : Nat → Int32} {tk_1 : Nat → Int32} {tk_2 : Nat → Int32} {tk_3 : Nat → Int32} {n0_ : Nat → Int32} : xset (W_X1_begin cI cP q qr qa qi_2 qi_3 qi_4 qk_0 qk_1 t tr ta ti_4 ti_5 ti_6 ti_7 ti_8 ti_9 ti_10 tk_0 tk_1 tk_2 tk_3) [3, 4, 8, 9] (W_X3_copy cI cP (qr 1) (qa 1) 6 n0_ (tr 1) (ta 1) 6 tk_1) = W_X1_begin cI cP q qr qa qi_2 qi_3 qi_4 qk_0 n0_ t tr ta ti_4 ti_5 ti_6 ti_7 ti_8 ti_9 ti_10 tk_0 tk_1 tk_2 tk_3 := rfl
theorem W_X1_begin_o3 {cI cP : ClassId} {q : Nat} {qr : Nat → Nat} {qa : Nat → Nat} {qi_2 : Int32} {qi_3 : Int32} {qi_4 : Int32} {qk_0 : Nat → Int32} {qk_1 : Nat → Int32} {t : Nat} {tr : Nat → Nat} {ta : Nat → Nat} {ti_4 : Int32} {ti_5 : Int32} {ti_6 : Int32} {ti_7 : Int32} {ti_8 : Int32} {ti_9 : Int32} {ti_10 : Int32} {tk_0 : Nat → Int32} {tk_1 : Nat → Int32} {tk_2 : Nat → Int32} {tk_3 : Nat → Int32} : (W_X1_begin cI cP q qr qa qi_2 qi_3 qi_4 qk_0 qk_1 t tr ta ti_4 ti_5 ti_6 ti_7 ti_8 ti_9 ti_10 tk_0 tk_1 tk_2 tk_3)[3]? = some ((qr 1), .inr (3, [.ref (qa 1)])) := rfl
theorem W_X1_begin_p0_3 {cI cP : ClassId} {q : Nat} {qr : Nat → Nat} {qa : Nat → Nat} {qi_2 : Int32} {qi_3 : Int32} {qi_4 : Int32} {qk_0 : Nat → Int32} {qk_1 : Nat → Int32} {t : Nat} {tr : Nat → Nat} {ta : Nat → Nat} {ti_4 : Int32} {ti_5 : Int32} {ti_6 : Int32} {ti_7 : Int32} {ti_8 : Int32} {ti_9 : Int32} {ti_10 : Int32} {tk_0 : Nat → Int32} {tk_1 : Nat → Int32} {tk_2 : Nat → Int32} {tk_3 : Nat → Int32} {v9 : Int32} : (W_X1_begin cI cP q qr qa qi_2 qi_3 qi_4 qk_0 qk_1 t tr ta ti_4 ti_5 ti_6 ti_7 ti_8 ti_9 ti_10 tk_0 tk_1 tk_2 tk_3).set 0 (q, .inr (1, [.ref (qr 0), .ref (qr 1), .int qi_2, .int qi_3, .int qi_4].set 3 (.int v9))) = W_X1_begin cI cP q qr qa qi_2 v9 qi_4 qk_0 qk_1 t tr ta ti_4 ti_5 ti_6 ti_7 ti_8 ti_9 ti_10 tk_0 tk_1 tk_2 tk_3 := rfl
theorem W_X1_begin_p0_4 {cI cP : ClassId} {q : Nat} {qr : Nat → Nat} {qa : Nat → Nat} {qi_2 : Int32} {qi_3 : Int32} {qi_4 : Int32} {qk_0 : Nat → Int32} {qk_1 : Nat → Int32} {t : Nat} {tr : Nat → Nat} {ta : Nat → Nat} {ti_4 : Int32} {ti_5 : Int32} {ti_6 : Int32} {ti_7 : Int32} {ti_8 : Int32} {ti_9 : Int32} {ti_10 : Int32} {tk_0 : Nat → Int32} {tk_1 : Nat → Int32} {tk_2 : Nat → Int32} {tk_3 : Nat → Int32} {v9 : Int32} : (W_X1_begin cI cP q qr qa qi_2 qi_3 qi_4 qk_0 qk_1 t tr ta ti_4 ti_5 ti_6 ti_7 ti_8 ti_9 ti_10 tk_0 tk_1 tk_2 tk_3).set 0 (q, .inr (1, [.ref (qr 0), .ref (qr 1), .int qi_2, .int qi_3, .int qi_4].set 4 (.int v9))) = W_X1_begin cI cP q qr qa qi_2 qi_3 v9 qk_0 qk_1 t tr ta ti_4 ti_5 ti_6 ti_7 ti_8 ti_9 ti_10 tk_0 tk_1 tk_2 tk_3 := rfl
theorem W_X1_begin_c_X3_set_1_2 {cI cP : ClassId} {q : Nat} {qr : Nat → Nat} {qa : Nat → Nat} {qi_2 : Int32} {qi_3 : Int32} {qi_4 : Int32} {qk_0 : Nat → Int32} {qk_1 : Nat → Int32} {t : Nat} {tr : Nat → Nat} {ta : Nat → Nat} {ti_4 : Int32} {ti_5 : Int32} {ti_6 : Int32} {ti_7 : Int32} {ti_8 : Int32} {ti_9 : Int32} {ti_10 : Int32} {tk_0 : Nat → Int32} {tk_1 : Nat → Int32} {tk_2 : Nat → Int32} {tk_3 : Nat → Int32} : ([1, 2] : List Nat).map (fun i => (W_X1_begin cI cP q qr qa qi_2 qi_3 qi_4 qk_0 qk_1 t tr ta ti_4 ti_5 ti_6 ti_7 ti_8 ti_9 ti_10 tk_0 tk_1 tk_2 tk_3)[i]?) = (W_X3_set cI cP (qr 0) (qa 0) 6 qk_0).map some := rfl
theorem W_X1_begin_x_X3_set_1_2 {cI cP : ClassId} {q : Nat} {qr : Nat → Nat} {qa : Nat → Nat} {qi_2 : Int32} {qi_3 : Int32} {qi_4 : Int32} {qk_0 : Nat → Int32} {qk_1 : Nat → Int32} {t : Nat} {tr : Nat → Nat} {ta : Nat → Nat} {ti_4 : Int32} {ti_5 : Int32} {ti_6 : Int32} {ti_7 : Int32} {ti_8 : Int32} {ti_9 : Int32} {ti_10 : Int32} {tk_0 : Nat → Int32} {tk_1 : Nat → Int32} {tk_2 : Nat → Int32} {tk_3 : Nat → Int32} {n0_ : Nat → Int32} : xset (W_X1_begin cI cP q qr qa qi_2 qi_3 qi_4 qk_0 qk_1 t tr ta ti_4 ti_5 ti_6 ti_7 ti_8 ti_9 ti_10 tk_0 tk_1 tk_2 tk_3) [1, 2] (W_X3_set cI cP (qr 0) (qa 0) 6 n0_) = W_X1_begin cI cP q qr qa qi_2 qi_3 qi_4 n0_ qk_1 t tr ta ti_4 ti_5 ti_6 ti_7 ti_8 ti_9 ti_10 tk_0 tk_1 tk_2 tk_3 := rfl
theorem W_X1_begin_o1 {cI cP : ClassId} {q : Nat} {qr : Nat → Nat} {qa : Nat → Nat} {qi_2 : Int32} {qi_3 : Int32} {qi_4 : Int32} {qk_0 : Nat → Int32} {qk_1 : Nat → Int32} {t : Nat} {tr : Nat → Nat} {ta : Nat → Nat} {ti_4 : Int32} {ti_5 : Int32} {ti_6 : Int32} {ti_7 : Int32} {ti_8 : Int32} {ti_9 : Int32} {ti_10 : Int32} {tk_0 : Nat → Int32} {tk_1 : Nat → Int32} {tk_2 : Nat → Int32} {tk_3 : Nat → Int32} : (W_X1_begin cI cP q qr qa qi_2 qi_3 qi_4 qk_0 qk_1 t tr ta ti_4 ti_5 ti_6 ti_7 ti_8 ti_9 ti_10 tk_0 tk_1 tk_2 tk_3)[1]? = some ((qr 0), .inr (3, [.ref (qa 0)])) := rfl
set_option maxHeartbeats 4000000 in
set_option maxRecDepth 100000 in
theorem c_X1_begin (l : Launch) (D : va_G) (cI cP : ClassId) (sz : Nat) (q : Nat) (qr : Nat → Nat) (qa : Nat → Nat) (qi_2 : Int32) (qi_3 : Int32) (qi_4 : Int32) (qk_0 : Nat → Int32) (qk_1 : Nat → Int32) (t : Nat) (tr : Nat → Nat) (ta : Nat → Nat) (ti_4 : Int32) (ti_5 : Int32) (ti_6 : Int32) (ti_7 : Int32) (ti_8 : Int32) (ti_9 : Int32) (ti_10 : Int32) (tk_0 : Nat → Int32) (tk_1 : Nat → Int32) (tk_2 : Nat → Int32) (tk_3 : Nat → Int32) (F : Nat) (hne : fX1_begin F qk_0 qk_1 ti_4 ti_5 tk_1 ≠ none) : xMv l yX1_begin wsX1_begin ({ frames := 2, cells := 0, slots := 0, locals := 43 } : Room) D (xT cI cP) [.ref q, .ref t] (W_X1_begin cI cP q qr qa qi_2 qi_3 qi_4 qk_0 qk_1 t tr ta ti_4 ti_5 ti_6 ti_7 ti_8 ti_9 ti_10 tk_0 tk_1 tk_2 tk_3) sz (fun (u : (Int32 × Int32 × Int32 × (Nat → Int32) × (Nat → Int32))) => fX1_begin F qk_0 qk_1 ti_4 ti_5 tk_1 = some u) (fun u => W_X1_begin cI cP q qr qa u.1 u.2.1 u.2.2.1 u.2.2.2.1 u.2.2.2.2 t tr ta ti_4 ti_5 ti_6 ti_7 ti_8 ti_9 ti_10 tk_0 tk_1 tk_2 tk_3) 0 0 := by
  refine xMv_of (cc := cX1_begin) (maxL := 3) (by decide +kernel) rfl (Nat.le_of_ble_eq_true rfl) ?_
  intro p e s m args below meth c A ls hx hb hml hown hts hname hN hK hA hP hD hS hl Q hret
  have he := fX1_begin.eq_1 F qk_0 qk_1 ti_4 ti_5 tk_1
  have hl : lv_has ls 3 [(0, .ref q), (1, .ref t)] := hl
  have R10_0 : ∀ (v10_2 : Int32) (w10_qk_0 : Nat → Int32), fX1_begin F qk_0 qk_1 ti_4 ti_5 tk_1 = (xbd (fX3_copy F qk_1 tk_1 6 6) (fun (u41 : (Nat → Int32)) => some (ti_4, ti_5, (0 : Int32), w10_qk_0, u41))) → ∀ (H : Heap) (locs : List Loc) (ls : Array Slot), va_P D vwCl (W_X1_begin cI cP q qr qa ti_4 qi_3 qi_4 w10_qk_0 qk_1 t tr ta ti_4 ti_5 ti_6 ti_7 ti_8 ti_9 ti_10 tk_0 tk_1 tk_2 tk_3) H → va_D A (W_X1_begin cI cP q qr qa ti_4 qi_3 qi_4 w10_qk_0 qk_1 t tr ta ti_4 ti_5 ti_6 ti_7 ti_8 ti_9 ti_10 tk_0 tk_1 tk_2 tk_3) → va_S A s.heap H locs → lv_has ls 3 [(0, .ref q), (1, .ref t)] → W p l e ({ frames := 2, cells := 0, slots := 0, locals := 43 } : Room) s m args below meth c H locs 0 0 Q (F0 m 33 ls []) := by
    intro v10_2 w10_qk_0 he H locs ls hP hD hS hl
    refine lv_aload_n hx hb dX1_begin_33 rfl (lv_at hl 0 rfl) ?_
    refine va_get (D := D) (ci := 1) (v := .ref (qr 1)) (C := RX1) (T := TX1) (N := 5) hx hb hts hi_X1_begin_1 hown hK hP 0 W_X1_begin_o0 rfl 1 (by decide) (hts (.fieldLink RX1 20 "BlindLanterns$Pass" "oilOf" "LBlindLanterns$Row;") (List.mem_of_getElem? (i := 3) rfl)) (fun _ h9 => h9) rfl dX1_begin_34 ?_
    refine lv_aload_n hx hb dX1_begin_37 rfl (lv_at hl 1 rfl) ?_
    refine va_getN (D := D) (ci := 5) (v := .ref (tr 1)) (C := RX5) (T := TX5) (N := 11) hx hb hts hi_X1_begin_5 hown hK hP 5 W_X1_begin_o5 rfl 1 (by decide) (va_Nw.use rfl (hN.1 (.fieldLinkNest RX1 34 "BlindLanterns$Told" "oilAtFirst" "LBlindLanterns$Row;" "BlindLanterns") (List.mem_of_getElem? (i := 13) rfl))) (fun _ h9 => h9) rfl dX1_begin_38 ?_
    have n1_ : fX3_copy F qk_1 tk_1 6 6 ≠ none := fun z => hne (he.trans (xbd_none z))
    refine xcv (va_runV (As := [.ref (tr 1)]) (rest := []) ⟨hx, hb, hml, hown, hts⟩ (c_X3_copy l D cI cP H.size (qr 1) (qa 1) 6 qk_1 (tr 1) (ta 1) 6 tk_1 F  n1_) (cwV 1 hts gX1_begin_X3_copy rfl rfl rfl (by decide +kernel) ⟨Nat.le_of_ble_eq_true rfl, Nat.le_of_ble_eq_true rfl⟩) (xPV hN hK hP hD [3, 4, 8, 9] W_X1_begin_c_X3_copy_3_4_8_9 (by decide) (ci := 3) (j := 3) rfl W_X1_begin_o3) rfl rfl hl.1 rfl (lv_room (Nat.le_of_ble_eq_true rfl)) dX1_begin_41 ⟨Nat.le_of_ble_eq_true rfl, Nat.le_of_ble_eq_true rfl⟩) hP hD hS hA [3, 4, 8, 9] W_X1_begin_c_X3_copy_3_4_8_9 (fun _ => rfl) (fun u41 H locs hw hP hD hS => ?_)
    rw [W_X1_begin_x_X3_copy_3_4_8_9] at hP hD
    replace he := he.trans (xbd_some hw)
    refine lv_aload_n hx hb dX1_begin_44 rfl (lv_at hl 0 rfl) ?_
    refine lv_aload_n hx hb dX1_begin_45 rfl (lv_at hl 1 rfl) ?_
    refine va_getN (D := D) (ci := 5) (v := .int ti_5) (C := RX5) (T := TX5) (N := 11) hx hb hts hi_X1_begin_5 hown hK hP 5 W_X1_begin_o5 rfl 5 (by decide) (va_Nw.use rfl (hN.1 (.fieldLinkNest RX1 41 "BlindLanterns$Told" "lit" "I" "BlindLanterns") (List.mem_of_getElem? (i := 16) rfl))) (fun _ h9 => h9) rfl dX1_begin_46 ?_
    refine va_put (D := D) (ci := 1) (v := .int ti_5) (ty := .int) (C := RX1) (T := TX1) (N := 5) hx hb hts hi_X1_begin_1 tyX1 tyX1_ok nmX1 hown hK hP hD hS 0 W_X1_begin_o0 rfl 3 (by decide) (hts (.fieldLink RX1 44 "BlindLanterns$Pass" "lit" "I") (List.mem_of_getElem? (i := 4) rfl)) (fun _ h9 => h9) rfl (by decide +kernel) rfl rfl (Nat.le_of_ble_eq_true rfl) dX1_begin_49 (fun H locs hP hD hS => ?_)
    rw [W_X1_begin_p0_3] at hP hD
    refine lv_aload_n hx hb dX1_begin_52 rfl (lv_at hl 0 rfl) ?_
    refine lv_iconst (v := 0) hx hb dX1_begin_53 (by decide) ?_
    refine va_put (D := D) (ci := 1) (v := .int (0 : Int32)) (ty := .int) (C := RX1) (T := TX1) (N := 5) hx hb hts hi_X1_begin_1 tyX1 tyX1_ok nmX1 hown hK hP hD hS 0 W_X1_begin_o0 rfl 4 (by decide) (hts (.fieldLink RX1 45 "BlindLanterns$Pass" "bell" "I") (List.mem_of_getElem? (i := 5) rfl)) (fun _ h9 => h9) rfl (by decide +kernel) rfl rfl (Nat.le_of_ble_eq_true rfl) dX1_begin_54 (fun H locs hP hD hS => ?_)
    rw [W_X1_begin_p0_4] at hP hD
    exact hret (ti_4, ti_5, (0 : Int32), w10_qk_0, u41) _ _ _ _ dX1_begin_57 he hP hD hS
  have L10_20 : ∀ (n10 : Nat) (v10_2 : Int32) (w10_qk_0 : Nat → Int32), fX1_begin F qk_0 qk_1 ti_4 ti_5 tk_1 = fX1_begin_L10 ti_4 (fun (v10_2 : Int32) (w10_qk_0 : Nat → Int32) => xbd (fX3_copy F qk_1 tk_1 6 6) (fun (u41 : (Nat → Int32)) => some (ti_4, ti_5, (0 : Int32), w10_qk_0, u41))) n10 v10_2 w10_qk_0 → ∀ (H : Heap) (locs : List Loc) (ls : Array Slot), va_P D vwCl (W_X1_begin cI cP q qr qa ti_4 qi_3 qi_4 w10_qk_0 qk_1 t tr ta ti_4 ti_5 ti_6 ti_7 ti_8 ti_9 ti_10 tk_0 tk_1 tk_2 tk_3) H → va_D A (W_X1_begin cI cP q qr qa ti_4 qi_3 qi_4 w10_qk_0 qk_1 t tr ta ti_4 ti_5 ti_6 ti_7 ti_8 ti_9 ti_10 tk_0 tk_1 tk_2 tk_3) → va_S A s.heap H locs → lv_has ls 3 [(2, .int v10_2), (0, .ref q), (1, .ref t)] → W p l e ({ frames := 2, cells := 0, slots := 0, locals := 43 } : Room) s m args below meth c H locs 0 0 Q (F0 m 10 ls []) := by
    intro n10
    induction n10 with
    | zero => intro v10_2 w10_qk_0 he; exact absurd he hne
    | succ n10 ih10 =>
      intro v10_2 w10_qk_0 he H locs ls hP hD hS hl
      replace he := he.trans (fX1_begin_L10.eq_2 _ _ _ _ _)
      refine lv_iload_n hx hb dX1_begin_10 rfl (lv_at hl 0 rfl) ?_
      refine lv_aload_n hx hb dX1_begin_11 rfl (lv_at hl 1 rfl) ?_
      refine va_get (D := D) (ci := 1) (v := .int ti_4) (C := RX1) (T := TX1) (N := 5) hx hb hts hi_X1_begin_1 hown hK hP 0 W_X1_begin_o0 rfl 2 (by decide) (hts (.fieldLink RX1 29 "BlindLanterns$Pass" "men" "I") (List.mem_of_getElem? (i := 1) rfl)) (fun _ h9 => h9) rfl dX1_begin_12 ?_
      refine lv_icmp_ge (tgt := 33) hx hb dX1_begin_15 (by decide) (fun c2 => ?_) (fun c2 => ?_)
      · replace he := he.trans (if_pos c2)
        exact R10_0 v10_2 w10_qk_0 he _ _ _ hP hD hS (lv_sub hl [1, 2] rfl)
      · replace he := he.trans (if_neg c2)
        refine lv_aload_n hx hb dX1_begin_18 rfl (lv_at hl 1 rfl) ?_
        refine va_get (D := D) (ci := 1) (v := .ref (qr 0)) (C := RX1) (T := TX1) (N := 5) hx hb hts hi_X1_begin_1 hown hK hP 0 W_X1_begin_o0 rfl 0 (by decide) (hts (.fieldLink RX1 14 "BlindLanterns$Pass" "postOf" "LBlindLanterns$Row;") (List.mem_of_getElem? (i := 2) rfl)) (fun _ h9 => h9) rfl dX1_begin_19 ?_
        refine lv_iload_n hx hb dX1_begin_22 rfl (lv_at hl 0 rfl) ?_
        refine lv_iload_n hx hb dX1_begin_23 rfl (lv_at hl 0 rfl) ?_
        have n3_ : fX3_set w10_qk_0 v10_2 v10_2 6 ≠ none := fun z => hne (he.trans (xbd_none z))
        refine xcv (va_runV (As := [.int v10_2, .int v10_2]) (rest := []) ⟨hx, hb, hml, hown, hts⟩ (c_X3_set l D cI cP H.size (qr 0) (qa 0) 6 w10_qk_0 v10_2 v10_2 n3_) (cwV 2 hts gX1_begin_X3_set rfl rfl rfl (by decide +kernel) ⟨Nat.le_of_ble_eq_true rfl, Nat.le_of_ble_eq_true rfl⟩) (xPV hN hK hP hD [1, 2] W_X1_begin_c_X3_set_1_2 (by decide) (ci := 3) (j := 1) rfl W_X1_begin_o1) rfl rfl hl.1 rfl (lv_room (Nat.le_of_ble_eq_true rfl)) dX1_begin_24 ⟨Nat.le_of_ble_eq_true rfl, Nat.le_of_ble_eq_true rfl⟩) hP hD hS hA [1, 2] W_X1_begin_c_X3_set_1_2 (fun _ => rfl) (fun u24 H locs hw hP hD hS => ?_)
        rw [W_X1_begin_x_X3_set_1_2] at hP hD
        replace he := he.trans (xbd_some hw)
        refine lv_iinc (v := (v10_2 + 1)) (lv' := [(2, .int (v10_2 + 1)), (0, .ref q), (1, .ref t)]) hx hb dX1_begin_27 hl (k := 0) rfl rfl (by decide) rfl (fun ls hl => ?_)
        refine lv_goto (tgt := 10) hx hb dX1_begin_30 (by decide) ?_
        exact ih10 (v10_2 + 1) u24 he _ _ _ hP hD hS (lv_sub hl [0, 1, 2] rfl)
  refine lv_aload_n hx hb dX1_begin_0 rfl (lv_at hl 0 rfl) ?_
  refine lv_aload_n hx hb dX1_begin_1 rfl (lv_at hl 1 rfl) ?_
  refine va_getN (D := D) (ci := 5) (v := .int ti_4) (C := RX5) (T := TX5) (N := 11) hx hb hts hi_X1_begin_5 hown hK hP 5 W_X1_begin_o5 rfl 4 (by decide) (va_Nw.use rfl (hN.1 (.fieldLinkNest RX1 23 "BlindLanterns$Told" "men" "I" "BlindLanterns") (List.mem_of_getElem? (i := 14) rfl))) (fun _ h9 => h9) rfl dX1_begin_2 ?_
  refine va_put (D := D) (ci := 1) (v := .int ti_4) (ty := .int) (C := RX1) (T := TX1) (N := 5) hx hb hts hi_X1_begin_1 tyX1 tyX1_ok nmX1 hown hK hP hD hS 0 W_X1_begin_o0 rfl 2 (by decide) (hts (.fieldLink RX1 29 "BlindLanterns$Pass" "men" "I") (List.mem_of_getElem? (i := 1) rfl)) (fun _ h9 => h9) rfl (by decide +kernel) rfl rfl (Nat.le_of_ble_eq_true rfl) dX1_begin_5 (fun H locs hP hD hS => ?_)
  rw [W_X1_begin_p0_2] at hP hD
  refine lv_iconst (v := 0) hx hb dX1_begin_8 (by decide) ?_
  refine lv_istore_n (lv' := [(2, .int (0 : Int32)), (0, .ref q), (1, .ref t)]) hx hb dX1_begin_9 rfl hl (by decide) rfl (fun ls hl => ?_)
  exact L10_20 F (0 : Int32) qk_0 he _ _ _ hP hD hS (lv_sub hl [0, 1, 2] rfl)

def fX1_copy (F : Nat) (qk_0 : Nat → Int32) (qk_1 : Nat → Int32) (oi_2 : Int32) (oi_3 : Int32) (oi_4 : Int32) (ok_0 : Nat → Int32) (ok_1 : Nat → Int32) : Option (Int32 × Int32 × Int32 × (Nat → Int32) × (Nat → Int32)) :=
  xbd (fX3_copy F qk_0 ok_0 6 6) (fun (u16 : (Nat → Int32)) => xbd (fX3_copy F qk_1 ok_1 6 6) (fun (u27 : (Nat → Int32)) => some (oi_2, oi_3, oi_4, u16, u27)))
theorem hi_X1_copy_1 : ∀ w ∈ wsX10, w ∈ wsX1_copy := fun _ h => (List.mem_cons_of_mem _ (List.mem_append_left _ (List.mem_append_right _ h)))
def W_X1_copy (cI cP : ClassId) (q : Nat) (qr : Nat → Nat) (qa : Nat → Nat) (qi_2 : Int32) (qi_3 : Int32) (qi_4 : Int32) (qk_0 : Nat → Int32) (qk_1 : Nat → Int32) (o : Nat) (or : Nat → Nat) (oa : Nat → Nat) (oi_2 : Int32) (oi_3 : Int32) (oi_4 : Int32) (ok_0 : Nat → Int32) (ok_1 : Nat → Int32) : va_W := (wPass cI q qr qa qi_2 qi_3 qi_4 qk_0 qk_1) ++ ((wPass cI o or oa oi_2 oi_3 oi_4 ok_0 ok_1))
theorem W_X1_copy_o5 {cI cP : ClassId} {q : Nat} {qr : Nat → Nat} {qa : Nat → Nat} {qi_2 : Int32} {qi_3 : Int32} {qi_4 : Int32} {qk_0 : Nat → Int32} {qk_1 : Nat → Int32} {o : Nat} {or : Nat → Nat} {oa : Nat → Nat} {oi_2 : Int32} {oi_3 : Int32} {oi_4 : Int32} {ok_0 : Nat → Int32} {ok_1 : Nat → Int32} : (W_X1_copy cI cP q qr qa qi_2 qi_3 qi_4 qk_0 qk_1 o or oa oi_2 oi_3 oi_4 ok_0 ok_1)[5]? = some (o, .inr (1, [.ref (or 0), .ref (or 1), .int oi_2, .int oi_3, .int oi_4])) := rfl
theorem W_X1_copy_o0 {cI cP : ClassId} {q : Nat} {qr : Nat → Nat} {qa : Nat → Nat} {qi_2 : Int32} {qi_3 : Int32} {qi_4 : Int32} {qk_0 : Nat → Int32} {qk_1 : Nat → Int32} {o : Nat} {or : Nat → Nat} {oa : Nat → Nat} {oi_2 : Int32} {oi_3 : Int32} {oi_4 : Int32} {ok_0 : Nat → Int32} {ok_1 : Nat → Int32} : (W_X1_copy cI cP q qr qa qi_2 qi_3 qi_4 qk_0 qk_1 o or oa oi_2 oi_3 oi_4 ok_0 ok_1)[0]? = some (q, .inr (1, [.ref (qr 0), .ref (qr 1), .int qi_2, .int qi_3, .int qi_4])) := rfl
theorem W_X1_copy_p0_2 {cI cP : ClassId} {q : Nat} {qr : Nat → Nat} {qa : Nat → Nat} {qi_2 : Int32} {qi_3 : Int32} {qi_4 : Int32} {qk_0 : Nat → Int32} {qk_1 : Nat → Int32} {o : Nat} {or : Nat → Nat} {oa : Nat → Nat} {oi_2 : Int32} {oi_3 : Int32} {oi_4 : Int32} {ok_0 : Nat → Int32} {ok_1 : Nat → Int32} {v9 : Int32} : (W_X1_copy cI cP q qr qa qi_2 qi_3 qi_4 qk_0 qk_1 o or oa oi_2 oi_3 oi_4 ok_0 ok_1).set 0 (q, .inr (1, [.ref (qr 0), .ref (qr 1), .int qi_2, .int qi_3, .int qi_4].set 2 (.int v9))) = W_X1_copy cI cP q qr qa v9 qi_3 qi_4 qk_0 qk_1 o or oa oi_2 oi_3 oi_4 ok_0 ok_1 := rfl
theorem W_X1_copy_c_X3_copy_1_2_6_7 {cI cP : ClassId} {q : Nat} {qr : Nat → Nat} {qa : Nat → Nat} {qi_2 : Int32} {qi_3 : Int32} {qi_4 : Int32} {qk_0 : Nat → Int32} {qk_1 : Nat → Int32} {o : Nat} {or : Nat → Nat} {oa : Nat → Nat} {oi_2 : Int32} {oi_3 : Int32} {oi_4 : Int32} {ok_0 : Nat → Int32} {ok_1 : Nat → Int32} : ([1, 2, 6, 7] : List Nat).map (fun i => (W_X1_copy cI cP q qr qa qi_2 qi_3 qi_4 qk_0 qk_1 o or oa oi_2 oi_3 oi_4 ok_0 ok_1)[i]?) = (W_X3_copy cI cP (qr 0) (qa 0) 6 qk_0 (or 0) (oa 0) 6 ok_0).map some := rfl
theorem W_X1_copy_x_X3_copy_1_2_6_7 {cI cP : ClassId} {q : Nat} {qr : Nat → Nat} {qa : Nat → Nat} {qi_2 : Int32} {qi_3 : Int32} {qi_4 : Int32} {qk_0 : Nat → Int32} {qk_1 : Nat → Int32} {o : Nat} {or : Nat → Nat} {oa : Nat → Nat} {oi_2 : Int32} {oi_3 : Int32} {oi_4 : Int32} {ok_0 : Nat → Int32} {ok_1 : Nat → Int32} {n0_ : Nat → Int32} : xset (W_X1_copy cI cP q qr qa qi_2 qi_3 qi_4 qk_0 qk_1 o or oa oi_2 oi_3 oi_4 ok_0 ok_1) [1, 2, 6, 7] (W_X3_copy cI cP (qr 0) (qa 0) 6 n0_ (or 0) (oa 0) 6 ok_0) = W_X1_copy cI cP q qr qa qi_2 qi_3 qi_4 n0_ qk_1 o or oa oi_2 oi_3 oi_4 ok_0 ok_1 := rfl
theorem W_X1_copy_o1 {cI cP : ClassId} {q : Nat} {qr : Nat → Nat} {qa : Nat → Nat} {qi_2 : Int32} {qi_3 : Int32} {qi_4 : Int32} {qk_0 : Nat → Int32} {qk_1 : Nat → Int32} {o : Nat} {or : Nat → Nat} {oa : Nat → Nat} {oi_2 : Int32} {oi_3 : Int32} {oi_4 : Int32} {ok_0 : Nat → Int32} {ok_1 : Nat → Int32} : (W_X1_copy cI cP q qr qa qi_2 qi_3 qi_4 qk_0 qk_1 o or oa oi_2 oi_3 oi_4 ok_0 ok_1)[1]? = some ((qr 0), .inr (3, [.ref (qa 0)])) := rfl
theorem W_X1_copy_c_X3_copy_3_4_8_9 {cI cP : ClassId} {q : Nat} {qr : Nat → Nat} {qa : Nat → Nat} {qi_2 : Int32} {qi_3 : Int32} {qi_4 : Int32} {qk_0 : Nat → Int32} {qk_1 : Nat → Int32} {o : Nat} {or : Nat → Nat} {oa : Nat → Nat} {oi_2 : Int32} {oi_3 : Int32} {oi_4 : Int32} {ok_0 : Nat → Int32} {ok_1 : Nat → Int32} : ([3, 4, 8, 9] : List Nat).map (fun i => (W_X1_copy cI cP q qr qa qi_2 qi_3 qi_4 qk_0 qk_1 o or oa oi_2 oi_3 oi_4 ok_0 ok_1)[i]?) = (W_X3_copy cI cP (qr 1) (qa 1) 6 qk_1 (or 1) (oa 1) 6 ok_1).map some := rfl
theorem W_X1_copy_x_X3_copy_3_4_8_9 {cI cP : ClassId} {q : Nat} {qr : Nat → Nat} {qa : Nat → Nat} {qi_2 : Int32} {qi_3 : Int32} {qi_4 : Int32} {qk_0 : Nat → Int32} {qk_1 : Nat → Int32} {o : Nat} {or : Nat → Nat} {oa : Nat → Nat} {oi_2 : Int32} {oi_3 : Int32} {oi_4 : Int32} {ok_0 : Nat → Int32} {ok_1 : Nat → Int32} {n0_ : Nat → Int32} : xset (W_X1_copy cI cP q qr qa qi_2 qi_3 qi_4 qk_0 qk_1 o or oa oi_2 oi_3 oi_4 ok_0 ok_1) [3, 4, 8, 9] (W_X3_copy cI cP (qr 1) (qa 1) 6 n0_ (or 1) (oa 1) 6 ok_1) = W_X1_copy cI cP q qr qa qi_2 qi_3 qi_4 qk_0 n0_ o or oa oi_2 oi_3 oi_4 ok_0 ok_1 := rfl
theorem W_X1_copy_o3 {cI cP : ClassId} {q : Nat} {qr : Nat → Nat} {qa : Nat → Nat} {qi_2 : Int32} {qi_3 : Int32} {qi_4 : Int32} {qk_0 : Nat → Int32} {qk_1 : Nat → Int32} {o : Nat} {or : Nat → Nat} {oa : Nat → Nat} {oi_2 : Int32} {oi_3 : Int32} {oi_4 : Int32} {ok_0 : Nat → Int32} {ok_1 : Nat → Int32} : (W_X1_copy cI cP q qr qa qi_2 qi_3 qi_4 qk_0 qk_1 o or oa oi_2 oi_3 oi_4 ok_0 ok_1)[3]? = some ((qr 1), .inr (3, [.ref (qa 1)])) := rfl
theorem W_X1_copy_p0_3 {cI cP : ClassId} {q : Nat} {qr : Nat → Nat} {qa : Nat → Nat} {qi_2 : Int32} {qi_3 : Int32} {qi_4 : Int32} {qk_0 : Nat → Int32} {qk_1 : Nat → Int32} {o : Nat} {or : Nat → Nat} {oa : Nat → Nat} {oi_2 : Int32} {oi_3 : Int32} {oi_4 : Int32} {ok_0 : Nat → Int32} {ok_1 : Nat → Int32} {v9 : Int32} : (W_X1_copy cI cP q qr qa qi_2 qi_3 qi_4 qk_0 qk_1 o or oa oi_2 oi_3 oi_4 ok_0 ok_1).set 0 (q, .inr (1, [.ref (qr 0), .ref (qr 1), .int qi_2, .int qi_3, .int qi_4].set 3 (.int v9))) = W_X1_copy cI cP q qr qa qi_2 v9 qi_4 qk_0 qk_1 o or oa oi_2 oi_3 oi_4 ok_0 ok_1 := rfl
theorem W_X1_copy_p0_4 {cI cP : ClassId} {q : Nat} {qr : Nat → Nat} {qa : Nat → Nat} {qi_2 : Int32} {qi_3 : Int32} {qi_4 : Int32} {qk_0 : Nat → Int32} {qk_1 : Nat → Int32} {o : Nat} {or : Nat → Nat} {oa : Nat → Nat} {oi_2 : Int32} {oi_3 : Int32} {oi_4 : Int32} {ok_0 : Nat → Int32} {ok_1 : Nat → Int32} {v9 : Int32} : (W_X1_copy cI cP q qr qa qi_2 qi_3 qi_4 qk_0 qk_1 o or oa oi_2 oi_3 oi_4 ok_0 ok_1).set 0 (q, .inr (1, [.ref (qr 0), .ref (qr 1), .int qi_2, .int qi_3, .int qi_4].set 4 (.int v9))) = W_X1_copy cI cP q qr qa qi_2 qi_3 v9 qk_0 qk_1 o or oa oi_2 oi_3 oi_4 ok_0 ok_1 := rfl
set_option maxHeartbeats 4000000 in
set_option maxRecDepth 100000 in
theorem c_X1_copy (l : Launch) (D : va_G) (cI cP : ClassId) (sz : Nat) (q : Nat) (qr : Nat → Nat) (qa : Nat → Nat) (qi_2 : Int32) (qi_3 : Int32) (qi_4 : Int32) (qk_0 : Nat → Int32) (qk_1 : Nat → Int32) (o : Nat) (or : Nat → Nat) (oa : Nat → Nat) (oi_2 : Int32) (oi_3 : Int32) (oi_4 : Int32) (ok_0 : Nat → Int32) (ok_1 : Nat → Int32) (F : Nat) (hne : fX1_copy F qk_0 qk_1 oi_2 oi_3 oi_4 ok_0 ok_1 ≠ none) : xMv l yX1_copy wsX1_copy ({ frames := 2, cells := 0, slots := 0, locals := 43 } : Room) D (xT cI cP) [.ref q, .ref o] (W_X1_copy cI cP q qr qa qi_2 qi_3 qi_4 qk_0 qk_1 o or oa oi_2 oi_3 oi_4 ok_0 ok_1) sz (fun (u : (Int32 × Int32 × Int32 × (Nat → Int32) × (Nat → Int32))) => fX1_copy F qk_0 qk_1 oi_2 oi_3 oi_4 ok_0 ok_1 = some u) (fun u => W_X1_copy cI cP q qr qa u.1 u.2.1 u.2.2.1 u.2.2.2.1 u.2.2.2.2 o or oa oi_2 oi_3 oi_4 ok_0 ok_1) 0 0 := by
  refine xMv_of (cc := cX1_copy) (maxL := 2) (by decide +kernel) rfl (Nat.le_of_ble_eq_true rfl) ?_
  intro p e s m args below meth c A ls hx hb hml hown hts hname hN hK hA hP hD hS hl Q hret
  have he := fX1_copy.eq_1 F qk_0 qk_1 oi_2 oi_3 oi_4 ok_0 ok_1
  have hl : lv_has ls 2 [(0, .ref q), (1, .ref o)] := hl
  refine lv_aload_n hx hb dX1_copy_0 rfl (lv_at hl 0 rfl) ?_
  refine lv_aload_n hx hb dX1_copy_1 rfl (lv_at hl 1 rfl) ?_
  refine va_get (D := D) (ci := 1) (v := .int oi_2) (C := RX1) (T := TX1) (N := 5) hx hb hts hi_X1_copy_1 hown hK hP 5 W_X1_copy_o5 rfl 2 (by decide) (hts (.fieldLink RX1 29 "BlindLanterns$Pass" "men" "I") (List.mem_of_getElem? (i := 1) rfl)) (fun _ h9 => h9) rfl dX1_copy_2 ?_
  refine va_put (D := D) (ci := 1) (v := .int oi_2) (ty := .int) (C := RX1) (T := TX1) (N := 5) hx hb hts hi_X1_copy_1 tyX1 tyX1_ok nmX1 hown hK hP hD hS 0 W_X1_copy_o0 rfl 2 (by decide) (hts (.fieldLink RX1 29 "BlindLanterns$Pass" "men" "I") (List.mem_of_getElem? (i := 1) rfl)) (fun _ h9 => h9) rfl (by decide +kernel) rfl rfl (Nat.le_of_ble_eq_true rfl) dX1_copy_5 (fun H locs hP hD hS => ?_)
  rw [W_X1_copy_p0_2] at hP hD
  refine lv_aload_n hx hb dX1_copy_8 rfl (lv_at hl 0 rfl) ?_
  refine va_get (D := D) (ci := 1) (v := .ref (qr 0)) (C := RX1) (T := TX1) (N := 5) hx hb hts hi_X1_copy_1 hown hK hP 0 W_X1_copy_o0 rfl 0 (by decide) (hts (.fieldLink RX1 14 "BlindLanterns$Pass" "postOf" "LBlindLanterns$Row;") (List.mem_of_getElem? (i := 2) rfl)) (fun _ h9 => h9) rfl dX1_copy_9 ?_
  refine lv_aload_n hx hb dX1_copy_12 rfl (lv_at hl 1 rfl) ?_
  refine va_get (D := D) (ci := 1) (v := .ref (or 0)) (C := RX1) (T := TX1) (N := 5) hx hb hts hi_X1_copy_1 hown hK hP 5 W_X1_copy_o5 rfl 0 (by decide) (hts (.fieldLink RX1 14 "BlindLanterns$Pass" "postOf" "LBlindLanterns$Row;") (List.mem_of_getElem? (i := 2) rfl)) (fun _ h9 => h9) rfl dX1_copy_13 ?_
  have n1_ : fX3_copy F qk_0 ok_0 6 6 ≠ none := fun z => hne (he.trans (xbd_none z))
  refine xcv (va_runV (As := [.ref (or 0)]) (rest := []) ⟨hx, hb, hml, hown, hts⟩ (c_X3_copy l D cI cP H.size (qr 0) (qa 0) 6 qk_0 (or 0) (oa 0) 6 ok_0 F  n1_) (cwV 1 hts gX1_copy_X3_copy rfl rfl rfl (by decide +kernel) ⟨Nat.le_of_ble_eq_true rfl, Nat.le_of_ble_eq_true rfl⟩) (xPV hN hK hP hD [1, 2, 6, 7] W_X1_copy_c_X3_copy_1_2_6_7 (by decide) (ci := 3) (j := 1) rfl W_X1_copy_o1) rfl rfl hl.1 rfl (lv_room (Nat.le_of_ble_eq_true rfl)) dX1_copy_16 ⟨Nat.le_of_ble_eq_true rfl, Nat.le_of_ble_eq_true rfl⟩) hP hD hS hA [1, 2, 6, 7] W_X1_copy_c_X3_copy_1_2_6_7 (fun _ => rfl) (fun u16 H locs hw hP hD hS => ?_)
  rw [W_X1_copy_x_X3_copy_1_2_6_7] at hP hD
  replace he := he.trans (xbd_some hw)
  refine lv_aload_n hx hb dX1_copy_19 rfl (lv_at hl 0 rfl) ?_
  refine va_get (D := D) (ci := 1) (v := .ref (qr 1)) (C := RX1) (T := TX1) (N := 5) hx hb hts hi_X1_copy_1 hown hK hP 0 W_X1_copy_o0 rfl 1 (by decide) (hts (.fieldLink RX1 20 "BlindLanterns$Pass" "oilOf" "LBlindLanterns$Row;") (List.mem_of_getElem? (i := 3) rfl)) (fun _ h9 => h9) rfl dX1_copy_20 ?_
  refine lv_aload_n hx hb dX1_copy_23 rfl (lv_at hl 1 rfl) ?_
  refine va_get (D := D) (ci := 1) (v := .ref (or 1)) (C := RX1) (T := TX1) (N := 5) hx hb hts hi_X1_copy_1 hown hK hP 5 W_X1_copy_o5 rfl 1 (by decide) (hts (.fieldLink RX1 20 "BlindLanterns$Pass" "oilOf" "LBlindLanterns$Row;") (List.mem_of_getElem? (i := 3) rfl)) (fun _ h9 => h9) rfl dX1_copy_24 ?_
  have n2_ : fX3_copy F qk_1 ok_1 6 6 ≠ none := fun z => hne (he.trans (xbd_none z))
  refine xcv (va_runV (As := [.ref (or 1)]) (rest := []) ⟨hx, hb, hml, hown, hts⟩ (c_X3_copy l D cI cP H.size (qr 1) (qa 1) 6 qk_1 (or 1) (oa 1) 6 ok_1 F  n2_) (cwV 1 hts gX1_copy_X3_copy rfl rfl rfl (by decide +kernel) ⟨Nat.le_of_ble_eq_true rfl, Nat.le_of_ble_eq_true rfl⟩) (xPV hN hK hP hD [3, 4, 8, 9] W_X1_copy_c_X3_copy_3_4_8_9 (by decide) (ci := 3) (j := 3) rfl W_X1_copy_o3) rfl rfl hl.1 rfl (lv_room (Nat.le_of_ble_eq_true rfl)) dX1_copy_27 ⟨Nat.le_of_ble_eq_true rfl, Nat.le_of_ble_eq_true rfl⟩) hP hD hS hA [3, 4, 8, 9] W_X1_copy_c_X3_copy_3_4_8_9 (fun _ => rfl) (fun u27 H locs hw hP hD hS => ?_)
  rw [W_X1_copy_x_X3_copy_3_4_8_9] at hP hD
  replace he := he.trans (xbd_some hw)
  refine lv_aload_n hx hb dX1_copy_30 rfl (lv_at hl 0 rfl) ?_
  refine lv_aload_n hx hb dX1_copy_31 rfl (lv_at hl 1 rfl) ?_
  refine va_get (D := D) (ci := 1) (v := .int oi_3) (C := RX1) (T := TX1) (N := 5) hx hb hts hi_X1_copy_1 hown hK hP 5 W_X1_copy_o5 rfl 3 (by decide) (hts (.fieldLink RX1 44 "BlindLanterns$Pass" "lit" "I") (List.mem_of_getElem? (i := 4) rfl)) (fun _ h9 => h9) rfl dX1_copy_32 ?_
  refine va_put (D := D) (ci := 1) (v := .int oi_3) (ty := .int) (C := RX1) (T := TX1) (N := 5) hx hb hts hi_X1_copy_1 tyX1 tyX1_ok nmX1 hown hK hP hD hS 0 W_X1_copy_o0 rfl 3 (by decide) (hts (.fieldLink RX1 44 "BlindLanterns$Pass" "lit" "I") (List.mem_of_getElem? (i := 4) rfl)) (fun _ h9 => h9) rfl (by decide +kernel) rfl rfl (Nat.le_of_ble_eq_true rfl) dX1_copy_35 (fun H locs hP hD hS => ?_)
  rw [W_X1_copy_p0_3] at hP hD
  refine lv_aload_n hx hb dX1_copy_38 rfl (lv_at hl 0 rfl) ?_
  refine lv_aload_n hx hb dX1_copy_39 rfl (lv_at hl 1 rfl) ?_
  refine va_get (D := D) (ci := 1) (v := .int oi_4) (C := RX1) (T := TX1) (N := 5) hx hb hts hi_X1_copy_1 hown hK hP 5 W_X1_copy_o5 rfl 4 (by decide) (hts (.fieldLink RX1 45 "BlindLanterns$Pass" "bell" "I") (List.mem_of_getElem? (i := 5) rfl)) (fun _ h9 => h9) rfl dX1_copy_40 ?_
  refine va_put (D := D) (ci := 1) (v := .int oi_4) (ty := .int) (C := RX1) (T := TX1) (N := 5) hx hb hts hi_X1_copy_1 tyX1 tyX1_ok nmX1 hown hK hP hD hS 0 W_X1_copy_o0 rfl 4 (by decide) (hts (.fieldLink RX1 45 "BlindLanterns$Pass" "bell" "I") (List.mem_of_getElem? (i := 5) rfl)) (fun _ h9 => h9) rfl (by decide +kernel) rfl rfl (Nat.le_of_ble_eq_true rfl) dX1_copy_43 (fun H locs hP hD hS => ?_)
  rw [W_X1_copy_p0_4] at hP hD
  exact hret (oi_2, oi_3, oi_4, u16, u27) _ _ _ _ dX1_copy_46 he hP hD hS

def fX1_goOn_L3 (qi_2 : Int32) (ti_4 : Int32) (ti_7 : Int32) (gf : Nat → Int32) (a2 : Int32) (gn : Nat) (k3 : Int32 → Int32 → (Nat → Int32) → (Nat → Int32) → Option (Int32 × Int32 × (Nat → Int32) × (Nat → Int32))) : Nat → Int32 → Int32 → (Nat → Int32) → (Nat → Int32) → Option (Int32 × Int32 × (Nat → Int32) × (Nat → Int32))
  | 0, _, _, _, _ => none
  | n3 + 1, v3_4, w3_qi_3, w3_qk_0, w3_qk_1 => if qi_2 ≤ v3_4 then (k3 v3_4 w3_qi_3 w3_qk_0 w3_qk_1) else (xbd (fX3_get w3_qk_0 v3_4 6) (fun (r18 : Int32) => xbd (fX3_get gf r18 gn) (fun (r26 : Int32) => xbd (fX1_isLit w3_qi_3 v3_4) (fun (r34 : Int32) => if r34 = 0 then (xbd (fX5_round ti_4 (r18 + (a2 * ti_7))) (fun (r145 : Int32) => xbd (fX3_set w3_qk_0 v3_4 r145 6) (fun (u148 : (Nat → Int32)) => fX1_goOn_L3 qi_2 ti_4 ti_7 gf a2 gn k3 n3 (v3_4 + 1) w3_qi_3 u148 w3_qk_1))) else (xbd (fX3_get w3_qk_1 v3_4 6) (fun (r47 : Int32) => xbd (fX1_litFor w3_qi_3 w3_qk_1 v3_4 r26) (fun (r68 : Int32) => if a2 < r68 then (xbd (fX3_get w3_qk_1 v3_4 6) (fun (r93 : Int32) => xbd (fX3_set w3_qk_1 v3_4 (r93 - (if (if (r26 - (1 : Int32)) < r47 then (r26 - (1 : Int32)) else r47) < a2 then (if (r26 - (1 : Int32)) < r47 then (r26 - (1 : Int32)) else r47) else a2)) 6) (fun (u99 : (Nat → Int32)) => xbd (fX5_round ti_4 (r18 + (a2 * ti_7))) (fun (r145 : Int32) => xbd (fX3_set w3_qk_0 v3_4 r145 6) (fun (u148 : (Nat → Int32)) => fX1_goOn_L3 qi_2 ti_4 ti_7 gf a2 gn k3 n3 (v3_4 + 1) w3_qi_3 u148 u99))))) else (xbd (fX3_get w3_qk_1 v3_4 6) (fun (r93 : Int32) => xbd (fX3_set w3_qk_1 v3_4 (r93 - (if (if (r26 - (1 : Int32)) < r47 then (r26 - (1 : Int32)) else r47) < a2 then (if (r26 - (1 : Int32)) < r47 then (r26 - (1 : Int32)) else r47) else a2)) 6) (fun (u99 : (Nat → Int32)) => xbd (fX5_round ti_4 (r18 + (a2 * ti_7))) (fun (r145 : Int32) => xbd (fX3_set w3_qk_0 v3_4 r145 6) (fun (u148 : (Nat → Int32)) => fX1_goOn_L3 qi_2 ti_4 ti_7 gf a2 gn k3 n3 (v3_4 + 1) (w3_qi_3 &&& (((1 : Int32) <<< (v3_4 &&& 31)) ^^^ (-1 : Int32))) u148 u99))))))))))))
def fX1_goOn (F : Nat) (qi_2 : Int32) (qi_3 : Int32) (qi_4 : Int32) (qk_0 : Nat → Int32) (qk_1 : Nat → Int32) (ti_4 : Int32) (ti_7 : Int32) (gf : Nat → Int32) (a2 : Int32) (gn : Nat) : Option (Int32 × Int32 × (Nat → Int32) × (Nat → Int32)) :=
  fX1_goOn_L3 qi_2 ti_4 ti_7 gf a2 gn (fun (v3_4 : Int32) (w3_qi_3 : Int32) (w3_qk_0 : Nat → Int32) (w3_qk_1 : Nat → Int32) => some (w3_qi_3, (qi_4 + a2), w3_qk_0, w3_qk_1)) F (0 : Int32) qi_3 qk_0 qk_1
theorem hi_X1_goOn_1 : ∀ w ∈ wsX10, w ∈ wsX1_goOn := fun _ h => (List.mem_cons_of_mem _ (List.mem_append_left _ (List.mem_append_left _ (List.mem_append_right _ h))))
theorem hi_X1_goOn_5 : ∀ w ∈ wsX50, w ∈ wsX1_goOn := fun _ h => (List.mem_cons_of_mem _ (List.mem_append_left _ (List.mem_append_right _ h)))
def W_X1_goOn (cI cP : ClassId) (q : Nat) (qr : Nat → Nat) (qa : Nat → Nat) (qi_2 : Int32) (qi_3 : Int32) (qi_4 : Int32) (qk_0 : Nat → Int32) (qk_1 : Nat → Int32) (t : Nat) (tr : Nat → Nat) (ta : Nat → Nat) (ti_4 : Int32) (ti_5 : Int32) (ti_6 : Int32) (ti_7 : Int32) (ti_8 : Int32) (ti_9 : Int32) (ti_10 : Int32) (tk_0 : Nat → Int32) (tk_1 : Nat → Int32) (tk_2 : Nat → Int32) (tk_3 : Nat → Int32) (g : Nat) (ga : Nat) (gn : Nat) (gf : Nat → Int32) : va_W := (wPass cI q qr qa qi_2 qi_3 qi_4 qk_0 qk_1) ++ ((wTold cI t tr ta ti_4 ti_5 ti_6 ti_7 ti_8 ti_9 ti_10 tk_0 tk_1 tk_2 tk_3) ++ ((wRow cI g ga gn gf)))
theorem W_X1_goOn_o0 {cI cP : ClassId} {q : Nat} {qr : Nat → Nat} {qa : Nat → Nat} {qi_2 : Int32} {qi_3 : Int32} {qi_4 : Int32} {qk_0 : Nat → Int32} {qk_1 : Nat → Int32} {t : Nat} {tr : Nat → Nat} {ta : Nat → Nat} {ti_4 : Int32} {ti_5 : Int32} {ti_6 : Int32} {ti_7 : Int32} {ti_8 : Int32} {ti_9 : Int32} {ti_10 : Int32} {tk_0 : Nat → Int32} {tk_1 : Nat → Int32} {tk_2 : Nat → Int32} {tk_3 : Nat → Int32} {g : Nat} {ga : Nat} {gn : Nat} {gf : Nat → Int32} : (W_X1_goOn cI cP q qr qa qi_2 qi_3 qi_4 qk_0 qk_1 t tr ta ti_4 ti_5 ti_6 ti_7 ti_8 ti_9 ti_10 tk_0 tk_1 tk_2 tk_3 g ga gn gf)[0]? = some (q, .inr (1, [.ref (qr 0), .ref (qr 1), .int qi_2, .int qi_3, .int qi_4])) := rfl
theorem W_X1_goOn_p0_4 {cI cP : ClassId} {q : Nat} {qr : Nat → Nat} {qa : Nat → Nat} {qi_2 : Int32} {qi_3 : Int32} {qi_4 : Int32} {qk_0 : Nat → Int32} {qk_1 : Nat → Int32} {t : Nat} {tr : Nat → Nat} {ta : Nat → Nat} {ti_4 : Int32} {ti_5 : Int32} {ti_6 : Int32} {ti_7 : Int32} {ti_8 : Int32} {ti_9 : Int32} {ti_10 : Int32} {tk_0 : Nat → Int32} {tk_1 : Nat → Int32} {tk_2 : Nat → Int32} {tk_3 : Nat → Int32} {g : Nat} {ga : Nat} {gn : Nat} {gf : Nat → Int32} {v9 : Int32} : (W_X1_goOn cI cP q qr qa qi_2 qi_3 qi_4 qk_0 qk_1 t tr ta ti_4 ti_5 ti_6 ti_7 ti_8 ti_9 ti_10 tk_0 tk_1 tk_2 tk_3 g ga gn gf).set 0 (q, .inr (1, [.ref (qr 0), .ref (qr 1), .int qi_2, .int qi_3, .int qi_4].set 4 (.int v9))) = W_X1_goOn cI cP q qr qa qi_2 qi_3 v9 qk_0 qk_1 t tr ta ti_4 ti_5 ti_6 ti_7 ti_8 ti_9 ti_10 tk_0 tk_1 tk_2 tk_3 g ga gn gf := rfl
theorem W_X1_goOn_c_X3_get_1_2 {cI cP : ClassId} {q : Nat} {qr : Nat → Nat} {qa : Nat → Nat} {qi_2 : Int32} {qi_3 : Int32} {qi_4 : Int32} {qk_0 : Nat → Int32} {qk_1 : Nat → Int32} {t : Nat} {tr : Nat → Nat} {ta : Nat → Nat} {ti_4 : Int32} {ti_5 : Int32} {ti_6 : Int32} {ti_7 : Int32} {ti_8 : Int32} {ti_9 : Int32} {ti_10 : Int32} {tk_0 : Nat → Int32} {tk_1 : Nat → Int32} {tk_2 : Nat → Int32} {tk_3 : Nat → Int32} {g : Nat} {ga : Nat} {gn : Nat} {gf : Nat → Int32} : ([1, 2] : List Nat).map (fun i => (W_X1_goOn cI cP q qr qa qi_2 qi_3 qi_4 qk_0 qk_1 t tr ta ti_4 ti_5 ti_6 ti_7 ti_8 ti_9 ti_10 tk_0 tk_1 tk_2 tk_3 g ga gn gf)[i]?) = (W_X3_get cI cP (qr 0) (qa 0) 6 qk_0).map some := rfl
theorem W_X1_goOn_x_X3_get_1_2 {cI cP : ClassId} {q : Nat} {qr : Nat → Nat} {qa : Nat → Nat} {qi_2 : Int32} {qi_3 : Int32} {qi_4 : Int32} {qk_0 : Nat → Int32} {qk_1 : Nat → Int32} {t : Nat} {tr : Nat → Nat} {ta : Nat → Nat} {ti_4 : Int32} {ti_5 : Int32} {ti_6 : Int32} {ti_7 : Int32} {ti_8 : Int32} {ti_9 : Int32} {ti_10 : Int32} {tk_0 : Nat → Int32} {tk_1 : Nat → Int32} {tk_2 : Nat → Int32} {tk_3 : Nat → Int32} {g : Nat} {ga : Nat} {gn : Nat} {gf : Nat → Int32} : xset (W_X1_goOn cI cP q qr qa qi_2 qi_3 qi_4 qk_0 qk_1 t tr ta ti_4 ti_5 ti_6 ti_7 ti_8 ti_9 ti_10 tk_0 tk_1 tk_2 tk_3 g ga gn gf) [1, 2] (W_X3_get cI cP (qr 0) (qa 0) 6 qk_0) = W_X1_goOn cI cP q qr qa qi_2 qi_3 qi_4 qk_0 qk_1 t tr ta ti_4 ti_5 ti_6 ti_7 ti_8 ti_9 ti_10 tk_0 tk_1 tk_2 tk_3 g ga gn gf := rfl
theorem W_X1_goOn_o1 {cI cP : ClassId} {q : Nat} {qr : Nat → Nat} {qa : Nat → Nat} {qi_2 : Int32} {qi_3 : Int32} {qi_4 : Int32} {qk_0 : Nat → Int32} {qk_1 : Nat → Int32} {t : Nat} {tr : Nat → Nat} {ta : Nat → Nat} {ti_4 : Int32} {ti_5 : Int32} {ti_6 : Int32} {ti_7 : Int32} {ti_8 : Int32} {ti_9 : Int32} {ti_10 : Int32} {tk_0 : Nat → Int32} {tk_1 : Nat → Int32} {tk_2 : Nat → Int32} {tk_3 : Nat → Int32} {g : Nat} {ga : Nat} {gn : Nat} {gf : Nat → Int32} : (W_X1_goOn cI cP q qr qa qi_2 qi_3 qi_4 qk_0 qk_1 t tr ta ti_4 ti_5 ti_6 ti_7 ti_8 ti_9 ti_10 tk_0 tk_1 tk_2 tk_3 g ga gn gf)[1]? = some ((qr 0), .inr (3, [.ref (qa 0)])) := rfl
theorem W_X1_goOn_c_X3_get_14_15 {cI cP : ClassId} {q : Nat} {qr : Nat → Nat} {qa : Nat → Nat} {qi_2 : Int32} {qi_3 : Int32} {qi_4 : Int32} {qk_0 : Nat → Int32} {qk_1 : Nat → Int32} {t : Nat} {tr : Nat → Nat} {ta : Nat → Nat} {ti_4 : Int32} {ti_5 : Int32} {ti_6 : Int32} {ti_7 : Int32} {ti_8 : Int32} {ti_9 : Int32} {ti_10 : Int32} {tk_0 : Nat → Int32} {tk_1 : Nat → Int32} {tk_2 : Nat → Int32} {tk_3 : Nat → Int32} {g : Nat} {ga : Nat} {gn : Nat} {gf : Nat → Int32} : ([14, 15] : List Nat).map (fun i => (W_X1_goOn cI cP q qr qa qi_2 qi_3 qi_4 qk_0 qk_1 t tr ta ti_4 ti_5 ti_6 ti_7 ti_8 ti_9 ti_10 tk_0 tk_1 tk_2 tk_3 g ga gn gf)[i]?) = (W_X3_get cI cP g ga gn gf).map some := rfl
theorem W_X1_goOn_x_X3_get_14_15 {cI cP : ClassId} {q : Nat} {qr : Nat → Nat} {qa : Nat → Nat} {qi_2 : Int32} {qi_3 : Int32} {qi_4 : Int32} {qk_0 : Nat → Int32} {qk_1 : Nat → Int32} {t : Nat} {tr : Nat → Nat} {ta : Nat → Nat} {ti_4 : Int32} {ti_5 : Int32} {ti_6 : Int32} {ti_7 : Int32} {ti_8 : Int32} {ti_9 : Int32} {ti_10 : Int32} {tk_0 : Nat → Int32} {tk_1 : Nat → Int32} {tk_2 : Nat → Int32} {tk_3 : Nat → Int32} {g : Nat} {ga : Nat} {gn : Nat} {gf : Nat → Int32} : xset (W_X1_goOn cI cP q qr qa qi_2 qi_3 qi_4 qk_0 qk_1 t tr ta ti_4 ti_5 ti_6 ti_7 ti_8 ti_9 ti_10 tk_0 tk_1 tk_2 tk_3 g ga gn gf) [14, 15] (W_X3_get cI cP g ga gn gf) = W_X1_goOn cI cP q qr qa qi_2 qi_3 qi_4 qk_0 qk_1 t tr ta ti_4 ti_5 ti_6 ti_7 ti_8 ti_9 ti_10 tk_0 tk_1 tk_2 tk_3 g ga gn gf := rfl
theorem W_X1_goOn_o14 {cI cP : ClassId} {q : Nat} {qr : Nat → Nat} {qa : Nat → Nat} {qi_2 : Int32} {qi_3 : Int32} {qi_4 : Int32} {qk_0 : Nat → Int32} {qk_1 : Nat → Int32} {t : Nat} {tr : Nat → Nat} {ta : Nat → Nat} {ti_4 : Int32} {ti_5 : Int32} {ti_6 : Int32} {ti_7 : Int32} {ti_8 : Int32} {ti_9 : Int32} {ti_10 : Int32} {tk_0 : Nat → Int32} {tk_1 : Nat → Int32} {tk_2 : Nat → Int32} {tk_3 : Nat → Int32} {g : Nat} {ga : Nat} {gn : Nat} {gf : Nat → Int32} : (W_X1_goOn cI cP q qr qa qi_2 qi_3 qi_4 qk_0 qk_1 t tr ta ti_4 ti_5 ti_6 ti_7 ti_8 ti_9 ti_10 tk_0 tk_1 tk_2 tk_3 g ga gn gf)[14]? = some (g, .inr (3, [.ref ga])) := rfl
theorem W_X1_goOn_c_X1_isLit_0_1_2_3_4 {cI cP : ClassId} {q : Nat} {qr : Nat → Nat} {qa : Nat → Nat} {qi_2 : Int32} {qi_3 : Int32} {qi_4 : Int32} {qk_0 : Nat → Int32} {qk_1 : Nat → Int32} {t : Nat} {tr : Nat → Nat} {ta : Nat → Nat} {ti_4 : Int32} {ti_5 : Int32} {ti_6 : Int32} {ti_7 : Int32} {ti_8 : Int32} {ti_9 : Int32} {ti_10 : Int32} {tk_0 : Nat → Int32} {tk_1 : Nat → Int32} {tk_2 : Nat → Int32} {tk_3 : Nat → Int32} {g : Nat} {ga : Nat} {gn : Nat} {gf : Nat → Int32} : ([0, 1, 2, 3, 4] : List Nat).map (fun i => (W_X1_goOn cI cP q qr qa qi_2 qi_3 qi_4 qk_0 qk_1 t tr ta ti_4 ti_5 ti_6 ti_7 ti_8 ti_9 ti_10 tk_0 tk_1 tk_2 tk_3 g ga gn gf)[i]?) = (W_X1_isLit cI cP q qr qa qi_2 qi_3 qi_4 qk_0 qk_1).map some := rfl
theorem W_X1_goOn_x_X1_isLit_0_1_2_3_4 {cI cP : ClassId} {q : Nat} {qr : Nat → Nat} {qa : Nat → Nat} {qi_2 : Int32} {qi_3 : Int32} {qi_4 : Int32} {qk_0 : Nat → Int32} {qk_1 : Nat → Int32} {t : Nat} {tr : Nat → Nat} {ta : Nat → Nat} {ti_4 : Int32} {ti_5 : Int32} {ti_6 : Int32} {ti_7 : Int32} {ti_8 : Int32} {ti_9 : Int32} {ti_10 : Int32} {tk_0 : Nat → Int32} {tk_1 : Nat → Int32} {tk_2 : Nat → Int32} {tk_3 : Nat → Int32} {g : Nat} {ga : Nat} {gn : Nat} {gf : Nat → Int32} : xset (W_X1_goOn cI cP q qr qa qi_2 qi_3 qi_4 qk_0 qk_1 t tr ta ti_4 ti_5 ti_6 ti_7 ti_8 ti_9 ti_10 tk_0 tk_1 tk_2 tk_3 g ga gn gf) [0, 1, 2, 3, 4] (W_X1_isLit cI cP q qr qa qi_2 qi_3 qi_4 qk_0 qk_1) = W_X1_goOn cI cP q qr qa qi_2 qi_3 qi_4 qk_0 qk_1 t tr ta ti_4 ti_5 ti_6 ti_7 ti_8 ti_9 ti_10 tk_0 tk_1 tk_2 tk_3 g ga gn gf := rfl
theorem W_X1_goOn_o5 {cI cP : ClassId} {q : Nat} {qr : Nat → Nat} {qa : Nat → Nat} {qi_2 : Int32} {qi_3 : Int32} {qi_4 : Int32} {qk_0 : Nat → Int32} {qk_1 : Nat → Int32} {t : Nat} {tr : Nat → Nat} {ta : Nat → Nat} {ti_4 : Int32} {ti_5 : Int32} {ti_6 : Int32} {ti_7 : Int32} {ti_8 : Int32} {ti_9 : Int32} {ti_10 : Int32} {tk_0 : Nat → Int32} {tk_1 : Nat → Int32} {tk_2 : Nat → Int32} {tk_3 : Nat → Int32} {g : Nat} {ga : Nat} {gn : Nat} {gf : Nat → Int32} : (W_X1_goOn cI cP q qr qa qi_2 qi_3 qi_4 qk_0 qk_1 t tr ta ti_4 ti_5 ti_6 ti_7 ti_8 ti_9 ti_10 tk_0 tk_1 tk_2 tk_3 g ga gn gf)[5]? = some (t, .inr (5, [.ref (tr 0), .ref (tr 1), .ref (tr 2), .ref (tr 3), .int ti_4, .int ti_5, .int ti_6, .int ti_7, .int ti_8, .int ti_9, .int ti_10])) := rfl
theorem W_X1_goOn_c_X5_round_5_6_7_8_9_10_11_12_13 {cI cP : ClassId} {q : Nat} {qr : Nat → Nat} {qa : Nat → Nat} {qi_2 : Int32} {qi_3 : Int32} {qi_4 : Int32} {qk_0 : Nat → Int32} {qk_1 : Nat → Int32} {t : Nat} {tr : Nat → Nat} {ta : Nat → Nat} {ti_4 : Int32} {ti_5 : Int32} {ti_6 : Int32} {ti_7 : Int32} {ti_8 : Int32} {ti_9 : Int32} {ti_10 : Int32} {tk_0 : Nat → Int32} {tk_1 : Nat → Int32} {tk_2 : Nat → Int32} {tk_3 : Nat → Int32} {g : Nat} {ga : Nat} {gn : Nat} {gf : Nat → Int32} : ([5, 6, 7, 8, 9, 10, 11, 12, 13] : List Nat).map (fun i => (W_X1_goOn cI cP q qr qa qi_2 qi_3 qi_4 qk_0 qk_1 t tr ta ti_4 ti_5 ti_6 ti_7 ti_8 ti_9 ti_10 tk_0 tk_1 tk_2 tk_3 g ga gn gf)[i]?) = (W_X5_round cI cP t tr ta ti_4 ti_5 ti_6 ti_7 ti_8 ti_9 ti_10 tk_0 tk_1 tk_2 tk_3).map some := rfl
theorem W_X1_goOn_x_X5_round_5_6_7_8_9_10_11_12_13 {cI cP : ClassId} {q : Nat} {qr : Nat → Nat} {qa : Nat → Nat} {qi_2 : Int32} {qi_3 : Int32} {qi_4 : Int32} {qk_0 : Nat → Int32} {qk_1 : Nat → Int32} {t : Nat} {tr : Nat → Nat} {ta : Nat → Nat} {ti_4 : Int32} {ti_5 : Int32} {ti_6 : Int32} {ti_7 : Int32} {ti_8 : Int32} {ti_9 : Int32} {ti_10 : Int32} {tk_0 : Nat → Int32} {tk_1 : Nat → Int32} {tk_2 : Nat → Int32} {tk_3 : Nat → Int32} {g : Nat} {ga : Nat} {gn : Nat} {gf : Nat → Int32} : xset (W_X1_goOn cI cP q qr qa qi_2 qi_3 qi_4 qk_0 qk_1 t tr ta ti_4 ti_5 ti_6 ti_7 ti_8 ti_9 ti_10 tk_0 tk_1 tk_2 tk_3 g ga gn gf) [5, 6, 7, 8, 9, 10, 11, 12, 13] (W_X5_round cI cP t tr ta ti_4 ti_5 ti_6 ti_7 ti_8 ti_9 ti_10 tk_0 tk_1 tk_2 tk_3) = W_X1_goOn cI cP q qr qa qi_2 qi_3 qi_4 qk_0 qk_1 t tr ta ti_4 ti_5 ti_6 ti_7 ti_8 ti_9 ti_10 tk_0 tk_1 tk_2 tk_3 g ga gn gf := rfl
theorem W_X1_goOn_c_X3_set_1_2 {cI cP : ClassId} {q : Nat} {qr : Nat → Nat} {qa : Nat → Nat} {qi_2 : Int32} {qi_3 : Int32} {qi_4 : Int32} {qk_0 : Nat → Int32} {qk_1 : Nat → Int32} {t : Nat} {tr : Nat → Nat} {ta : Nat → Nat} {ti_4 : Int32} {ti_5 : Int32} {ti_6 : Int32} {ti_7 : Int32} {ti_8 : Int32} {ti_9 : Int32} {ti_10 : Int32} {tk_0 : Nat → Int32} {tk_1 : Nat → Int32} {tk_2 : Nat → Int32} {tk_3 : Nat → Int32} {g : Nat} {ga : Nat} {gn : Nat} {gf : Nat → Int32} : ([1, 2] : List Nat).map (fun i => (W_X1_goOn cI cP q qr qa qi_2 qi_3 qi_4 qk_0 qk_1 t tr ta ti_4 ti_5 ti_6 ti_7 ti_8 ti_9 ti_10 tk_0 tk_1 tk_2 tk_3 g ga gn gf)[i]?) = (W_X3_set cI cP (qr 0) (qa 0) 6 qk_0).map some := rfl
theorem W_X1_goOn_x_X3_set_1_2 {cI cP : ClassId} {q : Nat} {qr : Nat → Nat} {qa : Nat → Nat} {qi_2 : Int32} {qi_3 : Int32} {qi_4 : Int32} {qk_0 : Nat → Int32} {qk_1 : Nat → Int32} {t : Nat} {tr : Nat → Nat} {ta : Nat → Nat} {ti_4 : Int32} {ti_5 : Int32} {ti_6 : Int32} {ti_7 : Int32} {ti_8 : Int32} {ti_9 : Int32} {ti_10 : Int32} {tk_0 : Nat → Int32} {tk_1 : Nat → Int32} {tk_2 : Nat → Int32} {tk_3 : Nat → Int32} {g : Nat} {ga : Nat} {gn : Nat} {gf : Nat → Int32} {n0_ : Nat → Int32} : xset (W_X1_goOn cI cP q qr qa qi_2 qi_3 qi_4 qk_0 qk_1 t tr ta ti_4 ti_5 ti_6 ti_7 ti_8 ti_9 ti_10 tk_0 tk_1 tk_2 tk_3 g ga gn gf) [1, 2] (W_X3_set cI cP (qr 0) (qa 0) 6 n0_) = W_X1_goOn cI cP q qr qa qi_2 qi_3 qi_4 n0_ qk_1 t tr ta ti_4 ti_5 ti_6 ti_7 ti_8 ti_9 ti_10 tk_0 tk_1 tk_2 tk_3 g ga gn gf := rfl
theorem W_X1_goOn_c_X3_get_3_4 {cI cP : ClassId} {q : Nat} {qr : Nat → Nat} {qa : Nat → Nat} {qi_2 : Int32} {qi_3 : Int32} {qi_4 : Int32} {qk_0 : Nat → Int32} {qk_1 : Nat → Int32} {t : Nat} {tr : Nat → Nat} {ta : Nat → Nat} {ti_4 : Int32} {ti_5 : Int32} {ti_6 : Int32} {ti_7 : Int32} {ti_8 : Int32} {ti_9 : Int32} {ti_10 : Int32} {tk_0 : Nat → Int32} {tk_1 : Nat → Int32} {tk_2 : Nat → Int32} {tk_3 : Nat → Int32} {g : Nat} {ga : Nat} {gn : Nat} {gf : Nat → Int32} : ([3, 4] : List Nat).map (fun i => (W_X1_goOn cI cP q qr qa qi_2 qi_3 qi_4 qk_0 qk_1 t tr ta ti_4 ti_5 ti_6 ti_7 ti_8 ti_9 ti_10 tk_0 tk_1 tk_2 tk_3 g ga gn gf)[i]?) = (W_X3_get cI cP (qr 1) (qa 1) 6 qk_1).map some := rfl
theorem W_X1_goOn_x_X3_get_3_4 {cI cP : ClassId} {q : Nat} {qr : Nat → Nat} {qa : Nat → Nat} {qi_2 : Int32} {qi_3 : Int32} {qi_4 : Int32} {qk_0 : Nat → Int32} {qk_1 : Nat → Int32} {t : Nat} {tr : Nat → Nat} {ta : Nat → Nat} {ti_4 : Int32} {ti_5 : Int32} {ti_6 : Int32} {ti_7 : Int32} {ti_8 : Int32} {ti_9 : Int32} {ti_10 : Int32} {tk_0 : Nat → Int32} {tk_1 : Nat → Int32} {tk_2 : Nat → Int32} {tk_3 : Nat → Int32} {g : Nat} {ga : Nat} {gn : Nat} {gf : Nat → Int32} : xset (W_X1_goOn cI cP q qr qa qi_2 qi_3 qi_4 qk_0 qk_1 t tr ta ti_4 ti_5 ti_6 ti_7 ti_8 ti_9 ti_10 tk_0 tk_1 tk_2 tk_3 g ga gn gf) [3, 4] (W_X3_get cI cP (qr 1) (qa 1) 6 qk_1) = W_X1_goOn cI cP q qr qa qi_2 qi_3 qi_4 qk_0 qk_1 t tr ta ti_4 ti_5 ti_6 ti_7 ti_8 ti_9 ti_10 tk_0 tk_1 tk_2 tk_3 g ga gn gf := rfl
theorem W_X1_goOn_o3 {cI cP : ClassId} {q : Nat} {qr : Nat → Nat} {qa : Nat → Nat} {qi_2 : Int32} {qi_3 : Int32} {qi_4 : Int32} {qk_0 : Nat → Int32} {qk_1 : Nat → Int32} {t : Nat} {tr : Nat → Nat} {ta : Nat → Nat} {ti_4 : Int32} {ti_5 : Int32} {ti_6 : Int32} {ti_7 : Int32} {ti_8 : Int32} {ti_9 : Int32} {ti_10 : Int32} {tk_0 : Nat → Int32} {tk_1 : Nat → Int32} {tk_2 : Nat → Int32} {tk_3 : Nat → Int32} {g : Nat} {ga : Nat} {gn : Nat} {gf : Nat → Int32} : (W_X1_goOn cI cP q qr qa qi_2 qi_3 qi_4 qk_0 qk_1 t tr ta ti_4 ti_5 ti_6 ti_7 ti_8 ti_9 ti_10 tk_0 tk_1 tk_2 tk_3 g ga gn gf)[3]? = some ((qr 1), .inr (3, [.ref (qa 1)])) := rfl
theorem W_X1_goOn_c_X1_litFor_0_1_2_3_4 {cI cP : ClassId} {q : Nat} {qr : Nat → Nat} {qa : Nat → Nat} {qi_2 : Int32} {qi_3 : Int32} {qi_4 : Int32} {qk_0 : Nat → Int32} {qk_1 : Nat → Int32} {t : Nat} {tr : Nat → Nat} {ta : Nat → Nat} {ti_4 : Int32} {ti_5 : Int32} {ti_6 : Int32} {ti_7 : Int32} {ti_8 : Int32} {ti_9 : Int32} {ti_10 : Int32} {tk_0 : Nat → Int32} {tk_1 : Nat → Int32} {tk_2 : Nat → Int32} {tk_3 : Nat → Int32} {g : Nat} {ga : Nat} {gn : Nat} {gf : Nat → Int32} : ([0, 1, 2, 3, 4] : List Nat).map (fun i => (W_X1_goOn cI cP q qr qa qi_2 qi_3 qi_4 qk_0 qk_1 t tr ta ti_4 ti_5 ti_6 ti_7 ti_8 ti_9 ti_10 tk_0 tk_1 tk_2 tk_3 g ga gn gf)[i]?) = (W_X1_litFor cI cP q qr qa qi_2 qi_3 qi_4 qk_0 qk_1).map some := rfl
theorem W_X1_goOn_x_X1_litFor_0_1_2_3_4 {cI cP : ClassId} {q : Nat} {qr : Nat → Nat} {qa : Nat → Nat} {qi_2 : Int32} {qi_3 : Int32} {qi_4 : Int32} {qk_0 : Nat → Int32} {qk_1 : Nat → Int32} {t : Nat} {tr : Nat → Nat} {ta : Nat → Nat} {ti_4 : Int32} {ti_5 : Int32} {ti_6 : Int32} {ti_7 : Int32} {ti_8 : Int32} {ti_9 : Int32} {ti_10 : Int32} {tk_0 : Nat → Int32} {tk_1 : Nat → Int32} {tk_2 : Nat → Int32} {tk_3 : Nat → Int32} {g : Nat} {ga : Nat} {gn : Nat} {gf : Nat → Int32} : xset (W_X1_goOn cI cP q qr qa qi_2 qi_3 qi_4 qk_0 qk_1 t tr ta ti_4 ti_5 ti_6 ti_7 ti_8 ti_9 ti_10 tk_0 tk_1 tk_2 tk_3 g ga gn gf) [0, 1, 2, 3, 4] (W_X1_litFor cI cP q qr qa qi_2 qi_3 qi_4 qk_0 qk_1) = W_X1_goOn cI cP q qr qa qi_2 qi_3 qi_4 qk_0 qk_1 t tr ta ti_4 ti_5 ti_6 ti_7 ti_8 ti_9 ti_10 tk_0 tk_1 tk_2 tk_3 g ga gn gf := rfl
theorem W_X1_goOn_c_X3_set_3_4 {cI cP : ClassId} {q : Nat} {qr : Nat → Nat} {qa : Nat → Nat} {qi_2 : Int32} {qi_3 : Int32} {qi_4 : Int32} {qk_0 : Nat → Int32} {qk_1 : Nat → Int32} {t : Nat} {tr : Nat → Nat} {ta : Nat → Nat} {ti_4 : Int32} {ti_5 : Int32} {ti_6 : Int32} {ti_7 : Int32} {ti_8 : Int32} {ti_9 : Int32} {ti_10 : Int32} {tk_0 : Nat → Int32} {tk_1 : Nat → Int32} {tk_2 : Nat → Int32} {tk_3 : Nat → Int32} {g : Nat} {ga : Nat} {gn : Nat} {gf : Nat → Int32} : ([3, 4] : List Nat).map (fun i => (W_X1_goOn cI cP q qr qa qi_2 qi_3 qi_4 qk_0 qk_1 t tr ta ti_4 ti_5 ti_6 ti_7 ti_8 ti_9 ti_10 tk_0 tk_1 tk_2 tk_3 g ga gn gf)[i]?) = (W_X3_set cI cP (qr 1) (qa 1) 6 qk_1).map some := rfl
theorem W_X1_goOn_x_X3_set_3_4 {cI cP : ClassId} {q : Nat} {qr : Nat → Nat} {qa : Nat → Nat} {qi_2 : Int32} {qi_3 : Int32} {qi_4 : Int32} {qk_0 : Nat → Int32} {qk_1 : Nat → Int32} {t : Nat} {tr : Nat → Nat} {ta : Nat → Nat} {ti_4 : Int32} {ti_5 : Int32} {ti_6 : Int32} {ti_7 : Int32} {ti_8 : Int32} {ti_9 : Int32} {ti_10 : Int32} {tk_0 : Nat → Int32} {tk_1 : Nat → Int32} {tk_2 : Nat → Int32} {tk_3 : Nat → Int32} {g : Nat} {ga : Nat} {gn : Nat} {gf : Nat → Int32} {n0_ : Nat → Int32} : xset (W_X1_goOn cI cP q qr qa qi_2 qi_3 qi_4 qk_0 qk_1 t tr ta ti_4 ti_5 ti_6 ti_7 ti_8 ti_9 ti_10 tk_0 tk_1 tk_2 tk_3 g ga gn gf) [3, 4] (W_X3_set cI cP (qr 1) (qa 1) 6 n0_) = W_X1_goOn cI cP q qr qa qi_2 qi_3 qi_4 qk_0 n0_ t tr ta ti_4 ti_5 ti_6 ti_7 ti_8 ti_9 ti_10 tk_0 tk_1 tk_2 tk_3 g ga gn gf := rfl
theorem W_X1_goOn_p0_3 {cI cP : ClassId} {q : Nat} {qr : Nat → Nat} {qa : Nat → Nat} {qi_2 : Int32} {qi_3 : Int32} {qi_4 : Int32} {qk_0 : Nat → Int32} {qk_1 : Nat → Int32} {t : Nat} {tr : Nat → Nat} {ta : Nat → Nat} {ti_4 : Int32} {ti_5 : Int32} {ti_6 : Int32} {ti_7 : Int32} {ti_8 : Int32} {ti_9 : Int32} {ti_10 : Int32} {tk_0 : Nat → Int32} {tk_1 : Nat → Int32} {tk_2 : Nat → Int32} {tk_3 : Nat → Int32} {g : Nat} {ga : Nat} {gn : Nat} {gf : Nat → Int32} {v9 : Int32} : (W_X1_goOn cI cP q qr qa qi_2 qi_3 qi_4 qk_0 qk_1 t tr ta ti_4 ti_5 ti_6 ti_7 ti_8 ti_9 ti_10 tk_0 tk_1 tk_2 tk_3 g ga gn gf).set 0 (q, .inr (1, [.ref (qr 0), .ref (qr 1), .int qi_2, .int qi_3, .int qi_4].set 3 (.int v9))) = W_X1_goOn cI cP q qr qa qi_2 v9 qi_4 qk_0 qk_1 t tr ta ti_4 ti_5 ti_6 ti_7 ti_8 ti_9 ti_10 tk_0 tk_1 tk_2 tk_3 g ga gn gf := rfl
set_option maxHeartbeats 4000000 in
set_option maxRecDepth 100000 in
theorem c_X1_goOn (l : Launch) (D : va_G) (cI cP : ClassId) (sz : Nat) (q : Nat) (qr : Nat → Nat) (qa : Nat → Nat) (qi_2 : Int32) (qi_3 : Int32) (qi_4 : Int32) (qk_0 : Nat → Int32) (qk_1 : Nat → Int32) (t : Nat) (tr : Nat → Nat) (ta : Nat → Nat) (ti_4 : Int32) (ti_5 : Int32) (ti_6 : Int32) (ti_7 : Int32) (ti_8 : Int32) (ti_9 : Int32) (ti_10 : Int32) (tk_0 : Nat → Int32) (tk_1 : Nat → Int32) (tk_2 : Nat → Int32) (tk_3 : Nat → Int32) (g : Nat) (ga : Nat) (gn : Nat) (gf : Nat → Int32) (F : Nat) (a2 : Int32) (hne : fX1_goOn F qi_2 qi_3 qi_4 qk_0 qk_1 ti_4 ti_7 gf a2 gn ≠ none) : xMv l yX1_goOn wsX1_goOn ({ frames := 2, cells := 0, slots := 0, locals := 43 } : Room) D (xT cI cP) [.ref q, .ref t, .int a2, .ref g] (W_X1_goOn cI cP q qr qa qi_2 qi_3 qi_4 qk_0 qk_1 t tr ta ti_4 ti_5 ti_6 ti_7 ti_8 ti_9 ti_10 tk_0 tk_1 tk_2 tk_3 g ga gn gf) sz (fun (u : (Int32 × Int32 × (Nat → Int32) × (Nat → Int32))) => fX1_goOn F qi_2 qi_3 qi_4 qk_0 qk_1 ti_4 ti_7 gf a2 gn = some u) (fun u => W_X1_goOn cI cP q qr qa qi_2 u.1 u.2.1 u.2.2.1 u.2.2.2 t tr ta ti_4 ti_5 ti_6 ti_7 ti_8 ti_9 ti_10 tk_0 tk_1 tk_2 tk_3 g ga gn gf) 0 0 := by
  refine xMv_of (cc := cX1_goOn) (maxL := 9) (by decide +kernel) rfl (Nat.le_of_ble_eq_true rfl) ?_
  intro p e s m args below meth c A ls hx hb hml hown hts hname hN hK hA hP hD hS hl Q hret
  have he := fX1_goOn.eq_1 F qi_2 qi_3 qi_4 qk_0 qk_1 ti_4 ti_7 gf a2 gn
  have hl : lv_has ls 9 [(0, .ref q), (1, .ref t), (2, .int a2), (3, .ref g)] := hl
  have R3_0 : ∀ (v3_4 : Int32) (w3_qi_3 : Int32) (w3_qk_0 : Nat → Int32) (w3_qk_1 : Nat → Int32), fX1_goOn F qi_2 qi_3 qi_4 qk_0 qk_1 ti_4 ti_7 gf a2 gn = (some (w3_qi_3, (qi_4 + a2), w3_qk_0, w3_qk_1)) → ∀ (H : Heap) (locs : List Loc) (ls : Array Slot), va_P D vwCl (W_X1_goOn cI cP q qr qa qi_2 w3_qi_3 qi_4 w3_qk_0 w3_qk_1 t tr ta ti_4 ti_5 ti_6 ti_7 ti_8 ti_9 ti_10 tk_0 tk_1 tk_2 tk_3 g ga gn gf) H → va_D A (W_X1_goOn cI cP q qr qa qi_2 w3_qi_3 qi_4 w3_qk_0 w3_qk_1 t tr ta ti_4 ti_5 ti_6 ti_7 ti_8 ti_9 ti_10 tk_0 tk_1 tk_2 tk_3 g ga gn gf) → va_S A s.heap H locs → lv_has ls 9 [(0, .ref q), (2, .int a2)] → W p l e ({ frames := 2, cells := 0, slots := 0, locals := 43 } : Room) s m args below meth c H locs 0 0 Q (F0 m 157 ls []) := by
    intro v3_4 w3_qi_3 w3_qk_0 w3_qk_1 he H locs ls hP hD hS hl
    refine lv_aload_n hx hb dX1_goOn_157 rfl (lv_at hl 0 rfl) ?_
    refine lv_dup hx hb dX1_goOn_158 rfl ?_
    refine va_get (D := D) (ci := 1) (v := .int qi_4) (C := RX1) (T := TX1) (N := 5) hx hb hts hi_X1_goOn_1 hown hK hP 0 W_X1_goOn_o0 rfl 4 (by decide) (hts (.fieldLink RX1 45 "BlindLanterns$Pass" "bell" "I") (List.mem_of_getElem? (i := 9) rfl)) (fun _ h9 => h9) rfl dX1_goOn_159 ?_
    refine lv_iload_n hx hb dX1_goOn_162 rfl (lv_at hl 1 rfl) ?_
    refine lv_iadd hx hb dX1_goOn_163 ?_
    refine va_put (D := D) (ci := 1) (v := .int (qi_4 + a2)) (ty := .int) (C := RX1) (T := TX1) (N := 5) hx hb hts hi_X1_goOn_1 tyX1 tyX1_ok nmX1 hown hK hP hD hS 0 W_X1_goOn_o0 rfl 4 (by decide) (hts (.fieldLink RX1 45 "BlindLanterns$Pass" "bell" "I") (List.mem_of_getElem? (i := 9) rfl)) (fun _ h9 => h9) rfl (by decide +kernel) rfl rfl (Nat.le_of_ble_eq_true rfl) dX1_goOn_164 (fun H locs hP hD hS => ?_)
    rw [W_X1_goOn_p0_4] at hP hD
    exact hret (w3_qi_3, (qi_4 + a2), w3_qk_0, w3_qk_1) _ _ _ _ dX1_goOn_167 he hP hD hS
  have L3_10 : ∀ (n3 : Nat) (v3_4 : Int32) (w3_qi_3 : Int32) (w3_qk_0 : Nat → Int32) (w3_qk_1 : Nat → Int32), fX1_goOn F qi_2 qi_3 qi_4 qk_0 qk_1 ti_4 ti_7 gf a2 gn = fX1_goOn_L3 qi_2 ti_4 ti_7 gf a2 gn (fun (v3_4 : Int32) (w3_qi_3 : Int32) (w3_qk_0 : Nat → Int32) (w3_qk_1 : Nat → Int32) => some (w3_qi_3, (qi_4 + a2), w3_qk_0, w3_qk_1)) n3 v3_4 w3_qi_3 w3_qk_0 w3_qk_1 → ∀ (H : Heap) (locs : List Loc) (ls : Array Slot), va_P D vwCl (W_X1_goOn cI cP q qr qa qi_2 w3_qi_3 qi_4 w3_qk_0 w3_qk_1 t tr ta ti_4 ti_5 ti_6 ti_7 ti_8 ti_9 ti_10 tk_0 tk_1 tk_2 tk_3 g ga gn gf) H → va_D A (W_X1_goOn cI cP q qr qa qi_2 w3_qi_3 qi_4 w3_qk_0 w3_qk_1 t tr ta ti_4 ti_5 ti_6 ti_7 ti_8 ti_9 ti_10 tk_0 tk_1 tk_2 tk_3 g ga gn gf) → va_S A s.heap H locs → lv_has ls 9 [(4, .int v3_4), (0, .ref q), (1, .ref t), (2, .int a2), (3, .ref g)] → W p l e ({ frames := 2, cells := 0, slots := 0, locals := 43 } : Room) s m args below meth c H locs 0 0 Q (F0 m 3 ls []) := by
    intro n3
    induction n3 with
    | zero => intro v3_4 w3_qi_3 w3_qk_0 w3_qk_1 he; exact absurd he hne
    | succ n3 ih3 =>
      intro v3_4 w3_qi_3 w3_qk_0 w3_qk_1 he H locs ls hP hD hS hl
      replace he := he.trans (fX1_goOn_L3.eq_2 _ _ _ _ _ _ _ _ _ _ _ _)
      refine lv_iload hx hb dX1_goOn_3 (lv_at hl 0 rfl) ?_
      refine lv_aload_n hx hb dX1_goOn_5 rfl (lv_at hl 1 rfl) ?_
      refine va_get (D := D) (ci := 1) (v := .int qi_2) (C := RX1) (T := TX1) (N := 5) hx hb hts hi_X1_goOn_1 hown hK hP 0 W_X1_goOn_o0 rfl 2 (by decide) (hts (.fieldLink RX1 29 "BlindLanterns$Pass" "men" "I") (List.mem_of_getElem? (i := 1) rfl)) (fun _ h9 => h9) rfl dX1_goOn_6 ?_
      refine lv_icmp_ge (tgt := 157) hx hb dX1_goOn_9 (by decide) (fun c1 => ?_) (fun c1 => ?_)
      · replace he := he.trans (if_pos c1)
        exact R3_0 v3_4 w3_qi_3 w3_qk_0 w3_qk_1 he _ _ _ hP hD hS (lv_sub hl [1, 3] rfl)
      · replace he := he.trans (if_neg c1)
        refine lv_aload_n hx hb dX1_goOn_12 rfl (lv_at hl 1 rfl) ?_
        refine va_get (D := D) (ci := 1) (v := .ref (qr 0)) (C := RX1) (T := TX1) (N := 5) hx hb hts hi_X1_goOn_1 hown hK hP 0 W_X1_goOn_o0 rfl 0 (by decide) (hts (.fieldLink RX1 14 "BlindLanterns$Pass" "postOf" "LBlindLanterns$Row;") (List.mem_of_getElem? (i := 2) rfl)) (fun _ h9 => h9) rfl dX1_goOn_13 ?_
        refine lv_iload hx hb dX1_goOn_16 (lv_at hl 0 rfl) ?_
        have n2_ : fX3_get w3_qk_0 v3_4 6 ≠ none := fun z => hne (he.trans (xbd_none z))
        refine xci (va_runV (As := [.int v3_4]) (rest := []) ⟨hx, hb, hml, hown, hts⟩ (c_X3_get l D cI cP H.size (qr 0) (qa 0) 6 w3_qk_0 v3_4 n2_) (cwV 1 hts gX1_goOn_X3_get rfl rfl rfl (by decide +kernel) ⟨Nat.le_of_ble_eq_true rfl, Nat.le_of_ble_eq_true rfl⟩) (xPV hN hK hP hD [1, 2] W_X1_goOn_c_X3_get_1_2 (by decide) (ci := 3) (j := 1) rfl W_X1_goOn_o1) rfl rfl hl.1 rfl (lv_room (Nat.le_of_ble_eq_true rfl)) dX1_goOn_18 ⟨Nat.le_of_ble_eq_true rfl, Nat.le_of_ble_eq_true rfl⟩) hP hD hS hA [1, 2] W_X1_goOn_c_X3_get_1_2 (fun _ => rfl) (fun r18 u18 H locs hw hP hD hS => ?_)
        rw [W_X1_goOn_x_X3_get_1_2] at hP hD
        replace he := he.trans (xbd_some hw)
        refine lv_istore (lv' := [(5, .int r18), (4, .int v3_4), (0, .ref q), (1, .ref t), (2, .int a2), (3, .ref g)]) hx hb dX1_goOn_21 hl (by decide) rfl (fun ls hl => ?_)
        refine lv_aload_n hx hb dX1_goOn_23 rfl (lv_at hl 5 rfl) ?_
        refine lv_iload hx hb dX1_goOn_24 (lv_at hl 0 rfl) ?_
        have n3_ : fX3_get gf r18 gn ≠ none := fun z => hne (he.trans (xbd_none z))
        refine xci (va_runV (As := [.int r18]) (rest := []) ⟨hx, hb, hml, hown, hts⟩ (c_X3_get l D cI cP H.size g ga gn gf r18 n3_) (cwV 1 hts gX1_goOn_X3_get rfl rfl rfl (by decide +kernel) ⟨Nat.le_of_ble_eq_true rfl, Nat.le_of_ble_eq_true rfl⟩) (xPV hN hK hP hD [14, 15] W_X1_goOn_c_X3_get_14_15 (by decide) (ci := 3) (j := 14) rfl W_X1_goOn_o14) rfl rfl hl.1 rfl (lv_room (Nat.le_of_ble_eq_true rfl)) dX1_goOn_26 ⟨Nat.le_of_ble_eq_true rfl, Nat.le_of_ble_eq_true rfl⟩) hP hD hS hA [14, 15] W_X1_goOn_c_X3_get_14_15 (fun _ => rfl) (fun r26 u26 H locs hw hP hD hS => ?_)
        rw [W_X1_goOn_x_X3_get_14_15] at hP hD
        replace he := he.trans (xbd_some hw)
        refine lv_istore (lv' := [(6, .int r26), (5, .int r18), (4, .int v3_4), (0, .ref q), (1, .ref t), (2, .int a2), (3, .ref g)]) hx hb dX1_goOn_29 hl (by decide) rfl (fun ls hl => ?_)
        refine lv_aload_n hx hb dX1_goOn_31 rfl (lv_at hl 3 rfl) ?_
        refine lv_iload hx hb dX1_goOn_32 (lv_at hl 2 rfl) ?_
        have n4_ : fX1_isLit w3_qi_3 v3_4 ≠ none := fun z => hne (he.trans (xbd_none z))
        refine xci (va_runV (As := [.int v3_4]) (rest := []) ⟨hx, hb, hml, hown, hts⟩ (c_X1_isLit l D cI cP H.size q qr qa qi_2 w3_qi_3 qi_4 w3_qk_0 w3_qk_1 v3_4 n4_) (cwV 1 hts gX1_goOn_X1_isLit rfl rfl rfl (by decide +kernel) ⟨Nat.le_of_ble_eq_true rfl, Nat.le_of_ble_eq_true rfl⟩) (xPV hN hK hP hD [0, 1, 2, 3, 4] W_X1_goOn_c_X1_isLit_0_1_2_3_4 (by decide) (ci := 1) (j := 0) rfl W_X1_goOn_o0) rfl rfl hl.1 rfl (lv_room (Nat.le_of_ble_eq_true rfl)) dX1_goOn_34 ⟨Nat.le_of_ble_eq_true rfl, Nat.le_of_ble_eq_true rfl⟩) hP hD hS hA [0, 1, 2, 3, 4] W_X1_goOn_c_X1_isLit_0_1_2_3_4 (fun _ => rfl) (fun r34 u34 H locs hw hP hD hS => ?_)
        rw [W_X1_goOn_x_X1_isLit_0_1_2_3_4] at hP hD
        replace he := he.trans (xbd_some hw)
        refine lv_if_eq (tgt := 129) hx hb dX1_goOn_37 (by decide) (fun c5 => ?_) (fun c5 => ?_)
        · replace he := he.trans (if_pos c5)
          refine lv_aload_n hx hb dX1_goOn_129 rfl (lv_at hl 3 rfl) ?_
          refine va_get (D := D) (ci := 1) (v := .ref (qr 0)) (C := RX1) (T := TX1) (N := 5) hx hb hts hi_X1_goOn_1 hown hK hP 0 W_X1_goOn_o0 rfl 0 (by decide) (hts (.fieldLink RX1 14 "BlindLanterns$Pass" "postOf" "LBlindLanterns$Row;") (List.mem_of_getElem? (i := 2) rfl)) (fun _ h9 => h9) rfl dX1_goOn_130 ?_
          refine lv_iload hx hb dX1_goOn_133 (lv_at hl 2 rfl) ?_
          refine lv_aload_n hx hb dX1_goOn_135 rfl (lv_at hl 4 rfl) ?_
          refine lv_iload hx hb dX1_goOn_136 (lv_at hl 1 rfl) ?_
          refine lv_iload_n hx hb dX1_goOn_138 rfl (lv_at hl 5 rfl) ?_
          refine lv_aload_n hx hb dX1_goOn_139 rfl (lv_at hl 4 rfl) ?_
          refine va_getN (D := D) (ci := 5) (v := .int ti_7) (C := RX5) (T := TX5) (N := 11) hx hb hts hi_X1_goOn_5 hown hK hP 5 W_X1_goOn_o5 rfl 7 (by decide) (va_Nw.use rfl (hN.1 (.fieldLinkNest RX1 70 "BlindLanterns$Told" "step" "I" "BlindLanterns") (List.mem_of_getElem? (i := 18) rfl))) (fun _ h9 => h9) rfl dX1_goOn_140 ?_
          refine lv_imul hx hb dX1_goOn_143 ?_
          refine lv_iadd hx hb dX1_goOn_144 ?_
          have n6_ : fX5_round ti_4 (r18 + (a2 * ti_7)) ≠ none := fun z => hne (he.trans (xbd_none z))
          refine xci (va_runV (As := [.int (r18 + (a2 * ti_7))]) (rest := [.int v3_4, .ref (qr 0)]) ⟨hx, hb, hml, hown, hts⟩ (c_X5_round l D cI cP H.size t tr ta ti_4 ti_5 ti_6 ti_7 ti_8 ti_9 ti_10 tk_0 tk_1 tk_2 tk_3 (r18 + (a2 * ti_7)) n6_) (cwV 1 hts gX1_goOn_X5_round rfl rfl rfl (by decide +kernel) ⟨Nat.le_of_ble_eq_true rfl, Nat.le_of_ble_eq_true rfl⟩) (xPV hN hK hP hD [5, 6, 7, 8, 9, 10, 11, 12, 13] W_X1_goOn_c_X5_round_5_6_7_8_9_10_11_12_13 (by decide) (ci := 5) (j := 5) rfl W_X1_goOn_o5) rfl rfl hl.1 rfl (lv_room (Nat.le_of_ble_eq_true rfl)) dX1_goOn_145 ⟨Nat.le_of_ble_eq_true rfl, Nat.le_of_ble_eq_true rfl⟩) hP hD hS hA [5, 6, 7, 8, 9, 10, 11, 12, 13] W_X1_goOn_c_X5_round_5_6_7_8_9_10_11_12_13 (fun _ => rfl) (fun r145 u145 H locs hw hP hD hS => ?_)
          rw [W_X1_goOn_x_X5_round_5_6_7_8_9_10_11_12_13] at hP hD
          replace he := he.trans (xbd_some hw)
          have n7_ : fX3_set w3_qk_0 v3_4 r145 6 ≠ none := fun z => hne (he.trans (xbd_none z))
          refine xcv (va_runV (As := [.int v3_4, .int r145]) (rest := []) ⟨hx, hb, hml, hown, hts⟩ (c_X3_set l D cI cP H.size (qr 0) (qa 0) 6 w3_qk_0 v3_4 r145 n7_) (cwV 2 hts gX1_goOn_X3_set rfl rfl rfl (by decide +kernel) ⟨Nat.le_of_ble_eq_true rfl, Nat.le_of_ble_eq_true rfl⟩) (xPV hN hK hP hD [1, 2] W_X1_goOn_c_X3_set_1_2 (by decide) (ci := 3) (j := 1) rfl W_X1_goOn_o1) rfl rfl hl.1 rfl (lv_room (Nat.le_of_ble_eq_true rfl)) dX1_goOn_148 ⟨Nat.le_of_ble_eq_true rfl, Nat.le_of_ble_eq_true rfl⟩) hP hD hS hA [1, 2] W_X1_goOn_c_X3_set_1_2 (fun _ => rfl) (fun u148 H locs hw hP hD hS => ?_)
          rw [W_X1_goOn_x_X3_set_1_2] at hP hD
          replace he := he.trans (xbd_some hw)
          refine lv_iinc (v := (v3_4 + 1)) (lv' := [(4, .int (v3_4 + 1)), (6, .int r26), (5, .int r18), (0, .ref q), (1, .ref t), (2, .int a2), (3, .ref g)]) hx hb dX1_goOn_151 hl (k := 2) rfl rfl (by decide) rfl (fun ls hl => ?_)
          refine lv_goto (tgt := 3) hx hb dX1_goOn_154 (by decide) ?_
          exact ih3 (v3_4 + 1) w3_qi_3 u148 w3_qk_1 he _ _ _ hP hD hS (lv_sub hl [0, 3, 4, 5, 6] rfl)
        · replace he := he.trans (if_neg c5)
          refine lv_iload_n hx hb dX1_goOn_40 rfl (lv_at hl 5 rfl) ?_
          refine lv_aload_n hx hb dX1_goOn_41 rfl (lv_at hl 3 rfl) ?_
          refine va_get (D := D) (ci := 1) (v := .ref (qr 1)) (C := RX1) (T := TX1) (N := 5) hx hb hts hi_X1_goOn_1 hown hK hP 0 W_X1_goOn_o0 rfl 1 (by decide) (hts (.fieldLink RX1 20 "BlindLanterns$Pass" "oilOf" "LBlindLanterns$Row;") (List.mem_of_getElem? (i := 3) rfl)) (fun _ h9 => h9) rfl dX1_goOn_42 ?_
          refine lv_iload hx hb dX1_goOn_45 (lv_at hl 2 rfl) ?_
          have n8_ : fX3_get w3_qk_1 v3_4 6 ≠ none := fun z => hne (he.trans (xbd_none z))
          refine xci (va_runV (As := [.int v3_4]) (rest := [.int a2]) ⟨hx, hb, hml, hown, hts⟩ (c_X3_get l D cI cP H.size (qr 1) (qa 1) 6 w3_qk_1 v3_4 n8_) (cwV 1 hts gX1_goOn_X3_get rfl rfl rfl (by decide +kernel) ⟨Nat.le_of_ble_eq_true rfl, Nat.le_of_ble_eq_true rfl⟩) (xPV hN hK hP hD [3, 4] W_X1_goOn_c_X3_get_3_4 (by decide) (ci := 3) (j := 3) rfl W_X1_goOn_o3) rfl rfl hl.1 rfl (lv_room (Nat.le_of_ble_eq_true rfl)) dX1_goOn_47 ⟨Nat.le_of_ble_eq_true rfl, Nat.le_of_ble_eq_true rfl⟩) hP hD hS hA [3, 4] W_X1_goOn_c_X3_get_3_4 (fun _ => rfl) (fun r47 u47 H locs hw hP hD hS => ?_)
          rw [W_X1_goOn_x_X3_get_3_4] at hP hD
          replace he := he.trans (xbd_some hw)
          refine lv_iload hx hb dX1_goOn_50 (lv_at hl 0 rfl) ?_
          refine lv_iconst (v := 1) hx hb dX1_goOn_52 (by decide) ?_
          refine lv_isub hx hb dX1_goOn_53 ?_
          refine va_mmin hx hb (hml.trans hl.1.symm) hown (hts (.methodLink RX1 61 Lib.Math.min.name) (List.mem_of_getElem? (i := 4) rfl)) (hts (.static Lib.Math.min.name) (List.mem_of_getElem? (i := 5) rfl)) (hts (.initialized RJ9) (List.mem_of_getElem? (i := 37) rfl)) (hts (.code Lib.Math.min.name Lib.Math.min.code 2 (some .int)) (List.mem_of_getElem? (i := 7) rfl)) (Nat.le_of_ble_eq_true rfl) (Nat.le_of_ble_eq_true rfl) (Nat.le_of_ble_eq_true rfl) (Nat.le_of_ble_eq_true rfl) dX1_goOn_54 ?_
          refine va_mmin hx hb (hml.trans hl.1.symm) hown (hts (.methodLink RX1 61 Lib.Math.min.name) (List.mem_of_getElem? (i := 4) rfl)) (hts (.static Lib.Math.min.name) (List.mem_of_getElem? (i := 5) rfl)) (hts (.initialized RJ9) (List.mem_of_getElem? (i := 37) rfl)) (hts (.code Lib.Math.min.name Lib.Math.min.code 2 (some .int)) (List.mem_of_getElem? (i := 7) rfl)) (Nat.le_of_ble_eq_true rfl) (Nat.le_of_ble_eq_true rfl) (Nat.le_of_ble_eq_true rfl) (Nat.le_of_ble_eq_true rfl) dX1_goOn_57 ?_
          refine lv_istore (lv' := [(7, .int (if (if (r26 - (1 : Int32)) < r47 then (r26 - (1 : Int32)) else r47) < a2 then (if (r26 - (1 : Int32)) < r47 then (r26 - (1 : Int32)) else r47) else a2)), (6, .int r26), (5, .int r18), (4, .int v3_4), (0, .ref q), (1, .ref t), (2, .int a2), (3, .ref g)]) hx hb dX1_goOn_60 hl (by decide) rfl (fun ls hl => ?_)
          refine lv_iload_n hx hb dX1_goOn_62 rfl (lv_at hl 6 rfl) ?_
          refine lv_aload_n hx hb dX1_goOn_63 rfl (lv_at hl 4 rfl) ?_
          refine lv_iload hx hb dX1_goOn_64 (lv_at hl 3 rfl) ?_
          refine lv_iload hx hb dX1_goOn_66 (lv_at hl 1 rfl) ?_
          have n9_ : fX1_litFor w3_qi_3 w3_qk_1 v3_4 r26 ≠ none := fun z => hne (he.trans (xbd_none z))
          refine xci (va_runV (As := [.int v3_4, .int r26]) (rest := [.int a2]) ⟨hx, hb, hml, hown, hts⟩ (c_X1_litFor l D cI cP H.size q qr qa qi_2 w3_qi_3 qi_4 w3_qk_0 w3_qk_1 v3_4 r26 n9_) (cwV 2 hts gX1_goOn_X1_litFor rfl rfl rfl (by decide +kernel) ⟨Nat.le_of_ble_eq_true rfl, Nat.le_of_ble_eq_true rfl⟩) (xPV hN hK hP hD [0, 1, 2, 3, 4] W_X1_goOn_c_X1_litFor_0_1_2_3_4 (by decide) (ci := 1) (j := 0) rfl W_X1_goOn_o0) rfl rfl hl.1 rfl (lv_room (Nat.le_of_ble_eq_true rfl)) dX1_goOn_68 ⟨Nat.le_of_ble_eq_true rfl, Nat.le_of_ble_eq_true rfl⟩) hP hD hS hA [0, 1, 2, 3, 4] W_X1_goOn_c_X1_litFor_0_1_2_3_4 (fun _ => rfl) (fun r68 u68 H locs hw hP hD hS => ?_)
          rw [W_X1_goOn_x_X1_litFor_0_1_2_3_4] at hP hD
          replace he := he.trans (xbd_some hw)
          refine lv_icmp_lt (tgt := 78) hx hb dX1_goOn_71 (by decide) (fun c10 => ?_) (fun c10 => ?_)
          · replace he := he.trans (if_pos c10)
            refine lv_iconst (v := 0) hx hb dX1_goOn_78 (by decide) ?_
            refine lv_istore (lv' := [(8, .int (0 : Int32)), (7, .int (if (if (r26 - (1 : Int32)) < r47 then (r26 - (1 : Int32)) else r47) < a2 then (if (r26 - (1 : Int32)) < r47 then (r26 - (1 : Int32)) else r47) else a2)), (6, .int r26), (5, .int r18), (4, .int v3_4), (0, .ref q), (1, .ref t), (2, .int a2), (3, .ref g)]) hx hb dX1_goOn_79 hl (by decide) rfl (fun ls hl => ?_)
            refine lv_aload_n hx hb dX1_goOn_81 rfl (lv_at hl 5 rfl) ?_
            refine va_get (D := D) (ci := 1) (v := .ref (qr 1)) (C := RX1) (T := TX1) (N := 5) hx hb hts hi_X1_goOn_1 hown hK hP 0 W_X1_goOn_o0 rfl 1 (by decide) (hts (.fieldLink RX1 20 "BlindLanterns$Pass" "oilOf" "LBlindLanterns$Row;") (List.mem_of_getElem? (i := 3) rfl)) (fun _ h9 => h9) rfl dX1_goOn_82 ?_
            refine lv_iload hx hb dX1_goOn_85 (lv_at hl 4 rfl) ?_
            refine lv_aload_n hx hb dX1_goOn_87 rfl (lv_at hl 5 rfl) ?_
            refine va_get (D := D) (ci := 1) (v := .ref (qr 1)) (C := RX1) (T := TX1) (N := 5) hx hb hts hi_X1_goOn_1 hown hK hP 0 W_X1_goOn_o0 rfl 1 (by decide) (hts (.fieldLink RX1 20 "BlindLanterns$Pass" "oilOf" "LBlindLanterns$Row;") (List.mem_of_getElem? (i := 3) rfl)) (fun _ h9 => h9) rfl dX1_goOn_88 ?_
            refine lv_iload hx hb dX1_goOn_91 (lv_at hl 4 rfl) ?_
            have n11_ : fX3_get w3_qk_1 v3_4 6 ≠ none := fun z => hne (he.trans (xbd_none z))
            refine xci (va_runV (As := [.int v3_4]) (rest := [.int v3_4, .ref (qr 1)]) ⟨hx, hb, hml, hown, hts⟩ (c_X3_get l D cI cP H.size (qr 1) (qa 1) 6 w3_qk_1 v3_4 n11_) (cwV 1 hts gX1_goOn_X3_get rfl rfl rfl (by decide +kernel) ⟨Nat.le_of_ble_eq_true rfl, Nat.le_of_ble_eq_true rfl⟩) (xPV hN hK hP hD [3, 4] W_X1_goOn_c_X3_get_3_4 (by decide) (ci := 3) (j := 3) rfl W_X1_goOn_o3) rfl rfl hl.1 rfl (lv_room (Nat.le_of_ble_eq_true rfl)) dX1_goOn_93 ⟨Nat.le_of_ble_eq_true rfl, Nat.le_of_ble_eq_true rfl⟩) hP hD hS hA [3, 4] W_X1_goOn_c_X3_get_3_4 (fun _ => rfl) (fun r93 u93 H locs hw hP hD hS => ?_)
            rw [W_X1_goOn_x_X3_get_3_4] at hP hD
            replace he := he.trans (xbd_some hw)
            refine lv_iload hx hb dX1_goOn_96 (lv_at hl 1 rfl) ?_
            refine lv_isub hx hb dX1_goOn_98 ?_
            have n12_ : fX3_set w3_qk_1 v3_4 (r93 - (if (if (r26 - (1 : Int32)) < r47 then (r26 - (1 : Int32)) else r47) < a2 then (if (r26 - (1 : Int32)) < r47 then (r26 - (1 : Int32)) else r47) else a2)) 6 ≠ none := fun z => hne (he.trans (xbd_none z))
            refine xcv (va_runV (As := [.int v3_4, .int (r93 - (if (if (r26 - (1 : Int32)) < r47 then (r26 - (1 : Int32)) else r47) < a2 then (if (r26 - (1 : Int32)) < r47 then (r26 - (1 : Int32)) else r47) else a2))]) (rest := []) ⟨hx, hb, hml, hown, hts⟩ (c_X3_set l D cI cP H.size (qr 1) (qa 1) 6 w3_qk_1 v3_4 (r93 - (if (if (r26 - (1 : Int32)) < r47 then (r26 - (1 : Int32)) else r47) < a2 then (if (r26 - (1 : Int32)) < r47 then (r26 - (1 : Int32)) else r47) else a2)) n12_) (cwV 2 hts gX1_goOn_X3_set rfl rfl rfl (by decide +kernel) ⟨Nat.le_of_ble_eq_true rfl, Nat.le_of_ble_eq_true rfl⟩) (xPV hN hK hP hD [3, 4] W_X1_goOn_c_X3_set_3_4 (by decide) (ci := 3) (j := 3) rfl W_X1_goOn_o3) rfl rfl hl.1 rfl (lv_room (Nat.le_of_ble_eq_true rfl)) dX1_goOn_99 ⟨Nat.le_of_ble_eq_true rfl, Nat.le_of_ble_eq_true rfl⟩) hP hD hS hA [3, 4] W_X1_goOn_c_X3_set_3_4 (fun _ => rfl) (fun u99 H locs hw hP hD hS => ?_)
            rw [W_X1_goOn_x_X3_set_3_4] at hP hD
            replace he := he.trans (xbd_some hw)
            refine lv_aload_n hx hb dX1_goOn_102 rfl (lv_at hl 5 rfl) ?_
            refine lv_iload hx hb dX1_goOn_103 (lv_at hl 0 rfl) ?_
            refine lv_if_eq (tgt := 122) hx hb dX1_goOn_105 (by decide) (fun _ => ?_) (fun c0 => absurd (by decide) c0)
            refine lv_aload_n hx hb dX1_goOn_122 rfl (lv_at hl 5 rfl) ?_
            refine va_get (D := D) (ci := 1) (v := .int w3_qi_3) (C := RX1) (T := TX1) (N := 5) hx hb hts hi_X1_goOn_1 hown hK hP 0 W_X1_goOn_o0 rfl 3 (by decide) (hts (.fieldLink RX1 44 "BlindLanterns$Pass" "lit" "I") (List.mem_of_getElem? (i := 8) rfl)) (fun _ h9 => h9) rfl dX1_goOn_123 ?_
            refine va_put (D := D) (ci := 1) (v := .int w3_qi_3) (ty := .int) (C := RX1) (T := TX1) (N := 5) hx hb hts hi_X1_goOn_1 tyX1 tyX1_ok nmX1 hown hK hP hD hS 0 W_X1_goOn_o0 rfl 3 (by decide) (hts (.fieldLink RX1 44 "BlindLanterns$Pass" "lit" "I") (List.mem_of_getElem? (i := 8) rfl)) (fun _ h9 => h9) rfl (by decide +kernel) rfl rfl (Nat.le_of_ble_eq_true rfl) dX1_goOn_126 (fun H locs hP hD hS => ?_)
            rw [W_X1_goOn_p0_3] at hP hD
            refine lv_aload_n hx hb dX1_goOn_129 rfl (lv_at hl 5 rfl) ?_
            refine va_get (D := D) (ci := 1) (v := .ref (qr 0)) (C := RX1) (T := TX1) (N := 5) hx hb hts hi_X1_goOn_1 hown hK hP 0 W_X1_goOn_o0 rfl 0 (by decide) (hts (.fieldLink RX1 14 "BlindLanterns$Pass" "postOf" "LBlindLanterns$Row;") (List.mem_of_getElem? (i := 2) rfl)) (fun _ h9 => h9) rfl dX1_goOn_130 ?_
            refine lv_iload hx hb dX1_goOn_133 (lv_at hl 4 rfl) ?_
            refine lv_aload_n hx hb dX1_goOn_135 rfl (lv_at hl 6 rfl) ?_
            refine lv_iload hx hb dX1_goOn_136 (lv_at hl 3 rfl) ?_
            refine lv_iload_n hx hb dX1_goOn_138 rfl (lv_at hl 7 rfl) ?_
            refine lv_aload_n hx hb dX1_goOn_139 rfl (lv_at hl 6 rfl) ?_
            refine va_getN (D := D) (ci := 5) (v := .int ti_7) (C := RX5) (T := TX5) (N := 11) hx hb hts hi_X1_goOn_5 hown hK hP 5 W_X1_goOn_o5 rfl 7 (by decide) (va_Nw.use rfl (hN.1 (.fieldLinkNest RX1 70 "BlindLanterns$Told" "step" "I" "BlindLanterns") (List.mem_of_getElem? (i := 18) rfl))) (fun _ h9 => h9) rfl dX1_goOn_140 ?_
            refine lv_imul hx hb dX1_goOn_143 ?_
            refine lv_iadd hx hb dX1_goOn_144 ?_
            have n13_ : fX5_round ti_4 (r18 + (a2 * ti_7)) ≠ none := fun z => hne (he.trans (xbd_none z))
            refine xci (va_runV (As := [.int (r18 + (a2 * ti_7))]) (rest := [.int v3_4, .ref (qr 0)]) ⟨hx, hb, hml, hown, hts⟩ (c_X5_round l D cI cP H.size t tr ta ti_4 ti_5 ti_6 ti_7 ti_8 ti_9 ti_10 tk_0 tk_1 tk_2 tk_3 (r18 + (a2 * ti_7)) n13_) (cwV 1 hts gX1_goOn_X5_round rfl rfl rfl (by decide +kernel) ⟨Nat.le_of_ble_eq_true rfl, Nat.le_of_ble_eq_true rfl⟩) (xPV hN hK hP hD [5, 6, 7, 8, 9, 10, 11, 12, 13] W_X1_goOn_c_X5_round_5_6_7_8_9_10_11_12_13 (by decide) (ci := 5) (j := 5) rfl W_X1_goOn_o5) rfl rfl hl.1 rfl (lv_room (Nat.le_of_ble_eq_true rfl)) dX1_goOn_145 ⟨Nat.le_of_ble_eq_true rfl, Nat.le_of_ble_eq_true rfl⟩) hP hD hS hA [5, 6, 7, 8, 9, 10, 11, 12, 13] W_X1_goOn_c_X5_round_5_6_7_8_9_10_11_12_13 (fun _ => rfl) (fun r145 u145 H locs hw hP hD hS => ?_)
            rw [W_X1_goOn_x_X5_round_5_6_7_8_9_10_11_12_13] at hP hD
            replace he := he.trans (xbd_some hw)
            have n14_ : fX3_set w3_qk_0 v3_4 r145 6 ≠ none := fun z => hne (he.trans (xbd_none z))
            refine xcv (va_runV (As := [.int v3_4, .int r145]) (rest := []) ⟨hx, hb, hml, hown, hts⟩ (c_X3_set l D cI cP H.size (qr 0) (qa 0) 6 w3_qk_0 v3_4 r145 n14_) (cwV 2 hts gX1_goOn_X3_set rfl rfl rfl (by decide +kernel) ⟨Nat.le_of_ble_eq_true rfl, Nat.le_of_ble_eq_true rfl⟩) (xPV hN hK hP hD [1, 2] W_X1_goOn_c_X3_set_1_2 (by decide) (ci := 3) (j := 1) rfl W_X1_goOn_o1) rfl rfl hl.1 rfl (lv_room (Nat.le_of_ble_eq_true rfl)) dX1_goOn_148 ⟨Nat.le_of_ble_eq_true rfl, Nat.le_of_ble_eq_true rfl⟩) hP hD hS hA [1, 2] W_X1_goOn_c_X3_set_1_2 (fun _ => rfl) (fun u148 H locs hw hP hD hS => ?_)
            rw [W_X1_goOn_x_X3_set_1_2] at hP hD
            replace he := he.trans (xbd_some hw)
            refine lv_iinc (v := (v3_4 + 1)) (lv' := [(4, .int (v3_4 + 1)), (8, .int (0 : Int32)), (7, .int (if (if (r26 - (1 : Int32)) < r47 then (r26 - (1 : Int32)) else r47) < a2 then (if (r26 - (1 : Int32)) < r47 then (r26 - (1 : Int32)) else r47) else a2)), (6, .int r26), (5, .int r18), (0, .ref q), (1, .ref t), (2, .int a2), (3, .ref g)]) hx hb dX1_goOn_151 hl (k := 4) rfl rfl (by decide) rfl (fun ls hl => ?_)
            refine lv_goto (tgt := 3) hx hb dX1_goOn_154 (by decide) ?_
            exact ih3 (v3_4 + 1) w3_qi_3 u148 u99 he _ _ _ hP hD hS (lv_sub hl [0, 5, 6, 7, 8] rfl)
          · replace he := he.trans (if_neg c10)
            refine lv_iconst (v := 1) hx hb dX1_goOn_74 (by decide) ?_
            refine lv_goto (tgt := 79) hx hb dX1_goOn_75 (by decide) ?_
            refine lv_istore (lv' := [(8, .int (1 : Int32)), (7, .int (if (if (r26 - (1 : Int32)) < r47 then (r26 - (1 : Int32)) else r47) < a2 then (if (r26 - (1 : Int32)) < r47 then (r26 - (1 : Int32)) else r47) else a2)), (6, .int r26), (5, .int r18), (4, .int v3_4), (0, .ref q), (1, .ref t), (2, .int a2), (3, .ref g)]) hx hb dX1_goOn_79 hl (by decide) rfl (fun ls hl => ?_)
            refine lv_aload_n hx hb dX1_goOn_81 rfl (lv_at hl 5 rfl) ?_
            refine va_get (D := D) (ci := 1) (v := .ref (qr 1)) (C := RX1) (T := TX1) (N := 5) hx hb hts hi_X1_goOn_1 hown hK hP 0 W_X1_goOn_o0 rfl 1 (by decide) (hts (.fieldLink RX1 20 "BlindLanterns$Pass" "oilOf" "LBlindLanterns$Row;") (List.mem_of_getElem? (i := 3) rfl)) (fun _ h9 => h9) rfl dX1_goOn_82 ?_
            refine lv_iload hx hb dX1_goOn_85 (lv_at hl 4 rfl) ?_
            refine lv_aload_n hx hb dX1_goOn_87 rfl (lv_at hl 5 rfl) ?_
            refine va_get (D := D) (ci := 1) (v := .ref (qr 1)) (C := RX1) (T := TX1) (N := 5) hx hb hts hi_X1_goOn_1 hown hK hP 0 W_X1_goOn_o0 rfl 1 (by decide) (hts (.fieldLink RX1 20 "BlindLanterns$Pass" "oilOf" "LBlindLanterns$Row;") (List.mem_of_getElem? (i := 3) rfl)) (fun _ h9 => h9) rfl dX1_goOn_88 ?_
            refine lv_iload hx hb dX1_goOn_91 (lv_at hl 4 rfl) ?_
            have n15_ : fX3_get w3_qk_1 v3_4 6 ≠ none := fun z => hne (he.trans (xbd_none z))
            refine xci (va_runV (As := [.int v3_4]) (rest := [.int v3_4, .ref (qr 1)]) ⟨hx, hb, hml, hown, hts⟩ (c_X3_get l D cI cP H.size (qr 1) (qa 1) 6 w3_qk_1 v3_4 n15_) (cwV 1 hts gX1_goOn_X3_get rfl rfl rfl (by decide +kernel) ⟨Nat.le_of_ble_eq_true rfl, Nat.le_of_ble_eq_true rfl⟩) (xPV hN hK hP hD [3, 4] W_X1_goOn_c_X3_get_3_4 (by decide) (ci := 3) (j := 3) rfl W_X1_goOn_o3) rfl rfl hl.1 rfl (lv_room (Nat.le_of_ble_eq_true rfl)) dX1_goOn_93 ⟨Nat.le_of_ble_eq_true rfl, Nat.le_of_ble_eq_true rfl⟩) hP hD hS hA [3, 4] W_X1_goOn_c_X3_get_3_4 (fun _ => rfl) (fun r93 u93 H locs hw hP hD hS => ?_)
            rw [W_X1_goOn_x_X3_get_3_4] at hP hD
            replace he := he.trans (xbd_some hw)
            refine lv_iload hx hb dX1_goOn_96 (lv_at hl 1 rfl) ?_
            refine lv_isub hx hb dX1_goOn_98 ?_
            have n16_ : fX3_set w3_qk_1 v3_4 (r93 - (if (if (r26 - (1 : Int32)) < r47 then (r26 - (1 : Int32)) else r47) < a2 then (if (r26 - (1 : Int32)) < r47 then (r26 - (1 : Int32)) else r47) else a2)) 6 ≠ none := fun z => hne (he.trans (xbd_none z))
            refine xcv (va_runV (As := [.int v3_4, .int (r93 - (if (if (r26 - (1 : Int32)) < r47 then (r26 - (1 : Int32)) else r47) < a2 then (if (r26 - (1 : Int32)) < r47 then (r26 - (1 : Int32)) else r47) else a2))]) (rest := []) ⟨hx, hb, hml, hown, hts⟩ (c_X3_set l D cI cP H.size (qr 1) (qa 1) 6 w3_qk_1 v3_4 (r93 - (if (if (r26 - (1 : Int32)) < r47 then (r26 - (1 : Int32)) else r47) < a2 then (if (r26 - (1 : Int32)) < r47 then (r26 - (1 : Int32)) else r47) else a2)) n16_) (cwV 2 hts gX1_goOn_X3_set rfl rfl rfl (by decide +kernel) ⟨Nat.le_of_ble_eq_true rfl, Nat.le_of_ble_eq_true rfl⟩) (xPV hN hK hP hD [3, 4] W_X1_goOn_c_X3_set_3_4 (by decide) (ci := 3) (j := 3) rfl W_X1_goOn_o3) rfl rfl hl.1 rfl (lv_room (Nat.le_of_ble_eq_true rfl)) dX1_goOn_99 ⟨Nat.le_of_ble_eq_true rfl, Nat.le_of_ble_eq_true rfl⟩) hP hD hS hA [3, 4] W_X1_goOn_c_X3_set_3_4 (fun _ => rfl) (fun u99 H locs hw hP hD hS => ?_)
            rw [W_X1_goOn_x_X3_set_3_4] at hP hD
            replace he := he.trans (xbd_some hw)
            refine lv_aload_n hx hb dX1_goOn_102 rfl (lv_at hl 5 rfl) ?_
            refine lv_iload hx hb dX1_goOn_103 (lv_at hl 0 rfl) ?_
            refine lv_if_eq (tgt := 122) hx hb dX1_goOn_105 (by decide) (fun c0 => absurd c0 (by decide)) (fun _ => ?_)
            refine lv_aload_n hx hb dX1_goOn_108 rfl (lv_at hl 5 rfl) ?_
            refine va_get (D := D) (ci := 1) (v := .int w3_qi_3) (C := RX1) (T := TX1) (N := 5) hx hb hts hi_X1_goOn_1 hown hK hP 0 W_X1_goOn_o0 rfl 3 (by decide) (hts (.fieldLink RX1 44 "BlindLanterns$Pass" "lit" "I") (List.mem_of_getElem? (i := 8) rfl)) (fun _ h9 => h9) rfl dX1_goOn_109 ?_
            refine lv_iconst (v := 1) hx hb dX1_goOn_112 (by decide) ?_
            refine lv_iload hx hb dX1_goOn_113 (lv_at hl 4 rfl) ?_
            refine lv_ishl hx hb dX1_goOn_115 ?_
            refine lv_iconst (v := -1) hx hb dX1_goOn_116 (by decide) ?_
            refine lv_ixor hx hb dX1_goOn_117 ?_
            refine lv_iand hx hb dX1_goOn_118 ?_
            refine lv_goto (tgt := 126) hx hb dX1_goOn_119 (by decide) ?_
            refine va_put (D := D) (ci := 1) (v := .int (w3_qi_3 &&& (((1 : Int32) <<< (v3_4 &&& 31)) ^^^ (-1 : Int32)))) (ty := .int) (C := RX1) (T := TX1) (N := 5) hx hb hts hi_X1_goOn_1 tyX1 tyX1_ok nmX1 hown hK hP hD hS 0 W_X1_goOn_o0 rfl 3 (by decide) (hts (.fieldLink RX1 44 "BlindLanterns$Pass" "lit" "I") (List.mem_of_getElem? (i := 8) rfl)) (fun _ h9 => h9) rfl (by decide +kernel) rfl rfl (Nat.le_of_ble_eq_true rfl) dX1_goOn_126 (fun H locs hP hD hS => ?_)
            rw [W_X1_goOn_p0_3] at hP hD
            refine lv_aload_n hx hb dX1_goOn_129 rfl (lv_at hl 5 rfl) ?_
            refine va_get (D := D) (ci := 1) (v := .ref (qr 0)) (C := RX1) (T := TX1) (N := 5) hx hb hts hi_X1_goOn_1 hown hK hP 0 W_X1_goOn_o0 rfl 0 (by decide) (hts (.fieldLink RX1 14 "BlindLanterns$Pass" "postOf" "LBlindLanterns$Row;") (List.mem_of_getElem? (i := 2) rfl)) (fun _ h9 => h9) rfl dX1_goOn_130 ?_
            refine lv_iload hx hb dX1_goOn_133 (lv_at hl 4 rfl) ?_
            refine lv_aload_n hx hb dX1_goOn_135 rfl (lv_at hl 6 rfl) ?_
            refine lv_iload hx hb dX1_goOn_136 (lv_at hl 3 rfl) ?_
            refine lv_iload_n hx hb dX1_goOn_138 rfl (lv_at hl 7 rfl) ?_
            refine lv_aload_n hx hb dX1_goOn_139 rfl (lv_at hl 6 rfl) ?_
            refine va_getN (D := D) (ci := 5) (v := .int ti_7) (C := RX5) (T := TX5) (N := 11) hx hb hts hi_X1_goOn_5 hown hK hP 5 W_X1_goOn_o5 rfl 7 (by decide) (va_Nw.use rfl (hN.1 (.fieldLinkNest RX1 70 "BlindLanterns$Told" "step" "I" "BlindLanterns") (List.mem_of_getElem? (i := 18) rfl))) (fun _ h9 => h9) rfl dX1_goOn_140 ?_
            refine lv_imul hx hb dX1_goOn_143 ?_
            refine lv_iadd hx hb dX1_goOn_144 ?_
            have n17_ : fX5_round ti_4 (r18 + (a2 * ti_7)) ≠ none := fun z => hne (he.trans (xbd_none z))
            refine xci (va_runV (As := [.int (r18 + (a2 * ti_7))]) (rest := [.int v3_4, .ref (qr 0)]) ⟨hx, hb, hml, hown, hts⟩ (c_X5_round l D cI cP H.size t tr ta ti_4 ti_5 ti_6 ti_7 ti_8 ti_9 ti_10 tk_0 tk_1 tk_2 tk_3 (r18 + (a2 * ti_7)) n17_) (cwV 1 hts gX1_goOn_X5_round rfl rfl rfl (by decide +kernel) ⟨Nat.le_of_ble_eq_true rfl, Nat.le_of_ble_eq_true rfl⟩) (xPV hN hK hP hD [5, 6, 7, 8, 9, 10, 11, 12, 13] W_X1_goOn_c_X5_round_5_6_7_8_9_10_11_12_13 (by decide) (ci := 5) (j := 5) rfl W_X1_goOn_o5) rfl rfl hl.1 rfl (lv_room (Nat.le_of_ble_eq_true rfl)) dX1_goOn_145 ⟨Nat.le_of_ble_eq_true rfl, Nat.le_of_ble_eq_true rfl⟩) hP hD hS hA [5, 6, 7, 8, 9, 10, 11, 12, 13] W_X1_goOn_c_X5_round_5_6_7_8_9_10_11_12_13 (fun _ => rfl) (fun r145 u145 H locs hw hP hD hS => ?_)
            rw [W_X1_goOn_x_X5_round_5_6_7_8_9_10_11_12_13] at hP hD
            replace he := he.trans (xbd_some hw)
            have n18_ : fX3_set w3_qk_0 v3_4 r145 6 ≠ none := fun z => hne (he.trans (xbd_none z))
            refine xcv (va_runV (As := [.int v3_4, .int r145]) (rest := []) ⟨hx, hb, hml, hown, hts⟩ (c_X3_set l D cI cP H.size (qr 0) (qa 0) 6 w3_qk_0 v3_4 r145 n18_) (cwV 2 hts gX1_goOn_X3_set rfl rfl rfl (by decide +kernel) ⟨Nat.le_of_ble_eq_true rfl, Nat.le_of_ble_eq_true rfl⟩) (xPV hN hK hP hD [1, 2] W_X1_goOn_c_X3_set_1_2 (by decide) (ci := 3) (j := 1) rfl W_X1_goOn_o1) rfl rfl hl.1 rfl (lv_room (Nat.le_of_ble_eq_true rfl)) dX1_goOn_148 ⟨Nat.le_of_ble_eq_true rfl, Nat.le_of_ble_eq_true rfl⟩) hP hD hS hA [1, 2] W_X1_goOn_c_X3_set_1_2 (fun _ => rfl) (fun u148 H locs hw hP hD hS => ?_)
            rw [W_X1_goOn_x_X3_set_1_2] at hP hD
            replace he := he.trans (xbd_some hw)
            refine lv_iinc (v := (v3_4 + 1)) (lv' := [(4, .int (v3_4 + 1)), (8, .int (1 : Int32)), (7, .int (if (if (r26 - (1 : Int32)) < r47 then (r26 - (1 : Int32)) else r47) < a2 then (if (r26 - (1 : Int32)) < r47 then (r26 - (1 : Int32)) else r47) else a2)), (6, .int r26), (5, .int r18), (0, .ref q), (1, .ref t), (2, .int a2), (3, .ref g)]) hx hb dX1_goOn_151 hl (k := 4) rfl rfl (by decide) rfl (fun ls hl => ?_)
            refine lv_goto (tgt := 3) hx hb dX1_goOn_154 (by decide) ?_
            exact ih3 (v3_4 + 1) (w3_qi_3 &&& (((1 : Int32) <<< (v3_4 &&& 31)) ^^^ (-1 : Int32))) u148 u99 he _ _ _ hP hD hS (lv_sub hl [0, 5, 6, 7, 8] rfl)
  refine lv_iconst (v := 0) hx hb dX1_goOn_0 (by decide) ?_
  refine lv_istore (lv' := [(4, .int (0 : Int32)), (0, .ref q), (1, .ref t), (2, .int a2), (3, .ref g)]) hx hb dX1_goOn_1 hl (by decide) rfl (fun ls hl => ?_)
  exact L3_10 F (0 : Int32) qi_3 qk_0 qk_1 he _ _ _ hP hD hS (lv_sub hl [0, 1, 2, 3, 4] rfl)
