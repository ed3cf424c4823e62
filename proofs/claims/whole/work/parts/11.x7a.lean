def fX7_in (a1 : Int32) (a2 : Int32) (a3 : Int32) : Option (Int32) :=
  if a1 < a2 then (some (0 : Int32)) else (if a3 < a1 then (some (0 : Int32)) else (some (1 : Int32)))
set_option maxHeartbeats 4000000 in
set_option maxRecDepth 100000 in
theorem c_X7_in (l : Launch) (D : va_G) (cI cP : ClassId) (sz : Nat) (a1 : Int32) (a2 : Int32) (a3 : Int32) (hne : fX7_in a1 a2 a3 ≠ none) : xMi l yX7_in wsX7_in ({ frames := 0, cells := 0, slots := 0, locals := 0 } : Room) D (xT cI cP) [.int a1, .int a2, .int a3] (([] : va_W)) sz (fun r (_ : Unit) => fX7_in a1 a2 a3 = some r) (fun u => ([] : va_W)) 0 0 := by
  refine xMz_of (cc := cX7_in) (maxL := 3) (by decide +kernel) rfl (Nat.le_of_ble_eq_true rfl) ?_
  intro p e s m args below meth c A ls hx hb hml hown hts hname hN hK hA hP hD hS hl Q hret
  have he := fX7_in.eq_1 a1 a2 a3
  have hl : lv_has ls 3 [(0, .int a1), (1, .int a2), (2, .int a3)] := hl
  refine lv_iload_n hx hb dX7_in_0 rfl (lv_at hl 0 rfl) ?_
  refine lv_iload_n hx hb dX7_in_1 rfl (lv_at hl 1 rfl) ?_
  refine lv_icmp_lt (tgt := 14) hx hb dX7_in_2 (by decide) (fun c1 => ?_) (fun c1 => ?_)
  · replace he := he.trans (if_pos c1)
    refine lv_iconst (v := 0) hx hb dX7_in_14 (by decide) ?_
    exact hret (0 : Int32) () _ _ _ _ dX7_in_15 (Or.inl rfl) he hP hD hS
  · replace he := he.trans (if_neg c1)
    refine lv_iload_n hx hb dX7_in_5 rfl (lv_at hl 0 rfl) ?_
    refine lv_iload_n hx hb dX7_in_6 rfl (lv_at hl 2 rfl) ?_
    refine lv_icmp_gt (tgt := 14) hx hb dX7_in_7 (by decide) (fun c2 => ?_) (fun c2 => ?_)
    · replace he := he.trans (if_pos c2)
      refine lv_iconst (v := 0) hx hb dX7_in_14 (by decide) ?_
      exact hret (0 : Int32) () _ _ _ _ dX7_in_15 (Or.inl rfl) he hP hD hS
    · replace he := he.trans (if_neg c2)
      refine lv_iconst (v := 1) hx hb dX7_in_10 (by decide) ?_
      refine lv_goto (tgt := 15) hx hb dX7_in_11 (by decide) ?_
      exact hret (1 : Int32) () _ _ _ _ dX7_in_15 (Or.inr rfl) he hP hD hS

def fX7_has (a1 : Int32) (a2 : Int32) : Option (Int32) :=
  if ((a1 >>> (a2 &&& 31)) &&& (1 : Int32)) = (1 : Int32) then (some (1 : Int32)) else (some (0 : Int32))
set_option maxHeartbeats 4000000 in
set_option maxRecDepth 100000 in
theorem c_X7_has (l : Launch) (D : va_G) (cI cP : ClassId) (sz : Nat) (a1 : Int32) (a2 : Int32) (hne : fX7_has a1 a2 ≠ none) : xMi l yX7_has wsX7_has ({ frames := 0, cells := 0, slots := 0, locals := 0 } : Room) D (xT cI cP) [.int a1, .int a2] (([] : va_W)) sz (fun r (_ : Unit) => fX7_has a1 a2 = some r) (fun u => ([] : va_W)) 0 0 := by
  refine xMz_of (cc := cX7_has) (maxL := 2) (by decide +kernel) rfl (Nat.le_of_ble_eq_true rfl) ?_
  intro p e s m args below meth c A ls hx hb hml hown hts hname hN hK hA hP hD hS hl Q hret
  have he := fX7_has.eq_1 a1 a2
  have hl : lv_has ls 2 [(0, .int a1), (1, .int a2)] := hl
  refine lv_iload_n hx hb dX7_has_0 rfl (lv_at hl 0 rfl) ?_
  refine lv_iload_n hx hb dX7_has_1 rfl (lv_at hl 1 rfl) ?_
  refine lv_ishr hx hb dX7_has_2 ?_
  refine lv_iconst (v := 1) hx hb dX7_has_3 (by decide) ?_
  refine lv_iand hx hb dX7_has_4 ?_
  refine lv_iconst (v := 1) hx hb dX7_has_5 (by decide) ?_
  refine lv_icmp_ne (tgt := 13) hx hb dX7_has_6 (by decide) (fun c1 => ?_) (fun c1 => ?_)
  · replace he := he.trans (if_neg c1)
    refine lv_iconst (v := 0) hx hb dX7_has_13 (by decide) ?_
    exact hret (0 : Int32) () _ _ _ _ dX7_has_14 (Or.inl rfl) he hP hD hS
  · replace he := he.trans (if_pos c1)
    refine lv_iconst (v := 1) hx hb dX7_has_9 (by decide) ?_
    refine lv_goto (tgt := 14) hx hb dX7_has_10 (by decide) ?_
    exact hret (1 : Int32) () _ _ _ _ dX7_has_14 (Or.inr rfl) he hP hD hS

def fX7_bit (a1 : Int32) : Option (Int32) :=
  if a1 = 0 then (some (0 : Int32)) else (some (1 : Int32))
set_option maxHeartbeats 4000000 in
set_option maxRecDepth 100000 in
theorem c_X7_bit (l : Launch) (D : va_G) (cI cP : ClassId) (sz : Nat) (a1 : Int32) (hne : fX7_bit a1 ≠ none) : xMi l yX7_bit wsX7_bit ({ frames := 0, cells := 0, slots := 0, locals := 0 } : Room) D (xT cI cP) [.int a1] (([] : va_W)) sz (fun r (_ : Unit) => fX7_bit a1 = some r) (fun u => ([] : va_W)) 0 0 := by
  refine xMi_of (cc := cX7_bit) (maxL := 1) (by decide +kernel) rfl (Nat.le_of_ble_eq_true rfl) ?_
  intro p e s m args below meth c A ls hx hb hml hown hts hname hN hK hA hP hD hS hl Q hret
  have he := fX7_bit.eq_1 a1
  have hl : lv_has ls 1 [(0, .int a1)] := hl
  refine lv_iload_n hx hb dX7_bit_0 rfl (lv_at hl 0 rfl) ?_
  refine lv_if_eq (tgt := 8) hx hb dX7_bit_1 (by decide) (fun c1 => ?_) (fun c1 => ?_)
  · replace he := he.trans (if_pos c1)
    refine lv_iconst (v := 0) hx hb dX7_bit_8 (by decide) ?_
    exact hret (0 : Int32) () _ _ _ _ dX7_bit_9 he hP hD hS
  · replace he := he.trans (if_neg c1)
    refine lv_iconst (v := 1) hx hb dX7_bit_4 (by decide) ?_
    refine lv_goto (tgt := 9) hx hb dX7_bit_5 (by decide) ?_
    exact hret (1 : Int32) () _ _ _ _ dX7_bit_9 he hP hD hS

def fX7_isMan (moi_13 : Int32) (a1 : Int32) : Option (Int32) :=
  xbd (fX7_in a1 (0 : Int32) (moi_13 - (1 : Int32))) (fun (r8 : Int32) => if r8 = 0 ∨ r8 = 1 then some r8 else none)
theorem hi_X7_isMan_7 : ∀ w ∈ wsX70, w ∈ wsX7_isMan := fun _ h => (List.mem_cons_of_mem _ (List.mem_append_right _ h))
set_option maxHeartbeats 4000000 in
set_option maxRecDepth 100000 in
theorem c_X7_isMan (l : Launch) (D : va_G) (cI cP : ClassId) (sz : Nat) (mo : Nat) (mor : Nat → Nat) (moi_0 : Int32) (moi_2 : Int32) (moi_4 : Int32) (moi_8 : Int32) (moi_9 : Int32) (moi_11 : Int32) (moi_12 : Int32) (moi_13 : Int32) (moi_17 : Int32) (moi_18 : Int32) (moi_20 : Int32) (moi_21 : Int32) (moi_24 : Int32) (moi_26 : Int32) (moi_28 : Int32) (moi_30 : Int32) (moi_31 : Int32) (moi_32 : Int32) (mok_1 : Nat → Int32) (mok_3 : Nat → Int32) (mok_5 : Nat → Int32) (mok_6 : Nat → Int32) (mok_7 : Nat → Int32) (mok_10 : Nat → Int32) (mok_14 : Nat → Int32) (mok_15 : Nat → Int32) (mok_16 : Nat → Int32) (mok_19 : Nat → Int32) (mok_22 : Nat → Int32) (mok_23 : Nat → Int32) (mok_25 : Nat → Int32) (mok_27 : Nat → Int32) (mok_29 : Nat → Int32) (mok_33 : Nat → Int32) (mok_34 : Nat → Int32) (a1 : Int32) (hne : fX7_isMan moi_13 a1 ≠ none) : xMi l yX7_isMan wsX7_isMan ({ frames := 1, cells := 0, slots := 0, locals := 22 } : Room) D (xT cI cP) [.ref mo, .int a1] (wM cI mo mor moi_0 moi_2 moi_4 moi_8 moi_9 moi_11 moi_12 moi_13 moi_17 moi_18 moi_20 moi_21 moi_24 moi_26 moi_28 moi_30 moi_31 moi_32 mok_1 mok_3 mok_5 mok_6 mok_7 mok_10 mok_14 mok_15 mok_16 mok_19 mok_22 mok_23 mok_25 mok_27 mok_29 mok_33 mok_34) sz (fun r (_ : Unit) => fX7_isMan moi_13 a1 = some r) (fun u => wM cI mo mor moi_0 moi_2 moi_4 moi_8 moi_9 moi_11 moi_12 moi_13 moi_17 moi_18 moi_20 moi_21 moi_24 moi_26 moi_28 moi_30 moi_31 moi_32 mok_1 mok_3 mok_5 mok_6 mok_7 mok_10 mok_14 mok_15 mok_16 mok_19 mok_22 mok_23 mok_25 mok_27 mok_29 mok_33 mok_34) 0 0 := by
  refine xMz_of (cc := cX7_isMan) (maxL := 2) (by decide +kernel) rfl (Nat.le_of_ble_eq_true rfl) ?_
  intro p e s m args below meth c A ls hx hb hml hown hts hname hN hK hA hP hD hS hl Q hret
  have he := fX7_isMan.eq_1 moi_13 a1
  have hl : lv_has ls 2 [(0, .ref mo), (1, .int a1)] := hl
  refine lv_iload_n hx hb dX7_isMan_0 rfl (lv_at hl 1 rfl) ?_
  refine lv_iconst (v := 0) hx hb dX7_isMan_1 (by decide) ?_
  refine lv_aload_n hx hb dX7_isMan_2 rfl (lv_at hl 0 rfl) ?_
  refine va_get (D := D) (ci := 7) (v := .int moi_13) (C := RX7) (T := TX7) (N := 35) hx hb hts hi_X7_isMan_7 hown hK hP 0 wM_0 rfl 13 (by decide) (hts (.fieldLink RX7 71 "BlindLanternsModel" "men" "I") (List.mem_of_getElem? (i := 1) rfl)) (fun _ h9 => h9) xMf_13 dX7_isMan_3 ?_
  refine lv_iconst (v := 1) hx hb dX7_isMan_6 (by decide) ?_
  refine lv_isub hx hb dX7_isMan_7 ?_
  have n1_ : fX7_in a1 (0 : Int32) (moi_13 - (1 : Int32)) ≠ none := fun z => hne (he.trans (xbd_none z))
  refine xci0 (va_runS (As := [.int a1, .int (0 : Int32), .int (moi_13 - (1 : Int32))]) (rest := []) ⟨hx, hb, hml, hown, hts⟩ (c_X7_in l D cI cP s.heap.size  a1 (0 : Int32) (moi_13 - (1 : Int32)) n1_) (va_cwS 3 hts gX7_isMan_X7_in rfl rfl rfl (by decide +kernel) ⟨Nat.le_of_ble_eq_true rfl, Nat.le_of_ble_eq_true rfl⟩) (xPS0 hN hK) rfl rfl hl.1 rfl (lv_room (Nat.le_of_ble_eq_true rfl)) dX7_isMan_8 ⟨Nat.le_of_ble_eq_true rfl, Nat.le_of_ble_eq_true rfl⟩) hP hD hS hA (fun r8 u8 H locs hw hP hD hS => ?_)
  replace he := he.trans (xbd_some hw)
  by_cases g2 : r8 = 0 ∨ r8 = 1
  · replace he := he.trans (if_pos g2)
    exact hret r8 () _ _ _ _ dX7_isMan_11 g2 he hP hD hS
  exact absurd (he.trans (if_neg g2)) hne

def fX7_isLantern (moi_4 : Int32) (mok_3 : Nat → Int32) : Option (Int32) :=
  xbd (fX7_in (mok_3 (0 : Int32).toNatClampNeg) (0 : Int32) (moi_4 - (1 : Int32))) (fun (r13 : Int32) => if r13 = 0 ∨ r13 = 1 then some r13 else none)
theorem hi_X7_isLantern_7 : ∀ w ∈ wsX70, w ∈ wsX7_isLantern := fun _ h => (List.mem_cons_of_mem _ (List.mem_append_right _ h))
set_option maxHeartbeats 4000000 in
set_option maxRecDepth 100000 in
theorem c_X7_isLantern (l : Launch) (D : va_G) (cI cP : ClassId) (sz : Nat) (mo : Nat) (mor : Nat → Nat) (moi_0 : Int32) (moi_2 : Int32) (moi_4 : Int32) (moi_8 : Int32) (moi_9 : Int32) (moi_11 : Int32) (moi_12 : Int32) (moi_13 : Int32) (moi_17 : Int32) (moi_18 : Int32) (moi_20 : Int32) (moi_21 : Int32) (moi_24 : Int32) (moi_26 : Int32) (moi_28 : Int32) (moi_30 : Int32) (moi_31 : Int32) (moi_32 : Int32) (mok_1 : Nat → Int32) (mok_3 : Nat → Int32) (mok_5 : Nat → Int32) (mok_6 : Nat → Int32) (mok_7 : Nat → Int32) (mok_10 : Nat → Int32) (mok_14 : Nat → Int32) (mok_15 : Nat → Int32) (mok_16 : Nat → Int32) (mok_19 : Nat → Int32) (mok_22 : Nat → Int32) (mok_23 : Nat → Int32) (mok_25 : Nat → Int32) (mok_27 : Nat → Int32) (mok_29 : Nat → Int32) (mok_33 : Nat → Int32) (mok_34 : Nat → Int32) (hne : fX7_isLantern moi_4 mok_3 ≠ none) : xMi l yX7_isLantern wsX7_isLantern ({ frames := 1, cells := 0, slots := 0, locals := 22 } : Room) D (xT cI cP) [.ref mo] (wM cI mo mor moi_0 moi_2 moi_4 moi_8 moi_9 moi_11 moi_12 moi_13 moi_17 moi_18 moi_20 moi_21 moi_24 moi_26 moi_28 moi_30 moi_31 moi_32 mok_1 mok_3 mok_5 mok_6 mok_7 mok_10 mok_14 mok_15 mok_16 mok_19 mok_22 mok_23 mok_25 mok_27 mok_29 mok_33 mok_34) sz (fun r (_ : Unit) => fX7_isLantern moi_4 mok_3 = some r) (fun u => wM cI mo mor moi_0 moi_2 moi_4 moi_8 moi_9 moi_11 moi_12 moi_13 moi_17 moi_18 moi_20 moi_21 moi_24 moi_26 moi_28 moi_30 moi_31 moi_32 mok_1 mok_3 mok_5 mok_6 mok_7 mok_10 mok_14 mok_15 mok_16 mok_19 mok_22 mok_23 mok_25 mok_27 mok_29 mok_33 mok_34) 0 0 := by
  refine xMz_of (cc := cX7_isLantern) (maxL := 1) (by decide +kernel) rfl (Nat.le_of_ble_eq_true rfl) ?_
  intro p e s m args below meth c A ls hx hb hml hown hts hname hN hK hA hP hD hS hl Q hret
  have he := fX7_isLantern.eq_1 moi_4 mok_3
  have hl : lv_has ls 1 [(0, .ref mo)] := hl
  refine lv_aload_n hx hb dX7_isLantern_0 rfl (lv_at hl 0 rfl) ?_
  refine va_get (D := D) (ci := 7) (v := .ref (mor 3)) (C := RX7) (T := TX7) (N := 35) hx hb hts hi_X7_isLantern_7 hown hK hP 0 wM_0 rfl 3 (by decide) (hts (.fieldLink RX7 13 "BlindLanternsModel" "number" "[I") (List.mem_of_getElem? (i := 1) rfl)) (fun _ h9 => h9) xMf_3 dX7_isLantern_1 ?_
  refine lv_iconst (v := 0) hx hb dX7_isLantern_4 (by decide) ?_
  refine va_iald hx hb hK hP 2 0 wM_a3 rfl (x_in rfl) dX7_isLantern_5 ?_
  refine lv_iconst (v := 0) hx hb dX7_isLantern_6 (by decide) ?_
  refine lv_aload_n hx hb dX7_isLantern_7 rfl (lv_at hl 0 rfl) ?_
  refine va_get (D := D) (ci := 7) (v := .int moi_4) (C := RX7) (T := TX7) (N := 35) hx hb hts hi_X7_isLantern_7 hown hK hP 0 wM_0 rfl 4 (by decide) (hts (.fieldLink RX7 96 "BlindLanternsModel" "readMen" "I") (List.mem_of_getElem? (i := 2) rfl)) (fun _ h9 => h9) xMf_4 dX7_isLantern_8 ?_
  refine lv_iconst (v := 1) hx hb dX7_isLantern_11 (by decide) ?_
  refine lv_isub hx hb dX7_isLantern_12 ?_
  have n1_ : fX7_in (mok_3 (0 : Int32).toNatClampNeg) (0 : Int32) (moi_4 - (1 : Int32)) ≠ none := fun z => hne (he.trans (xbd_none z))
  refine xci0 (va_runS (As := [.int (mok_3 (0 : Int32).toNatClampNeg), .int (0 : Int32), .int (moi_4 - (1 : Int32))]) (rest := []) ⟨hx, hb, hml, hown, hts⟩ (c_X7_in l D cI cP s.heap.size  (mok_3 (0 : Int32).toNatClampNeg) (0 : Int32) (moi_4 - (1 : Int32)) n1_) (va_cwS 3 hts gX7_isLantern_X7_in rfl rfl rfl (by decide +kernel) ⟨Nat.le_of_ble_eq_true rfl, Nat.le_of_ble_eq_true rfl⟩) (xPS0 hN hK) rfl rfl hl.1 rfl (lv_room (Nat.le_of_ble_eq_true rfl)) dX7_isLantern_13 ⟨Nat.le_of_ble_eq_true rfl, Nat.le_of_ble_eq_true rfl⟩) hP hD hS hA (fun r13 u13 H locs hw hP hD hS => ?_)
  replace he := he.trans (xbd_some hw)
  by_cases g2 : r13 = 0 ∨ r13 = 1
  · replace he := he.trans (if_pos g2)
    exact hret r13 () _ _ _ _ dX7_isLantern_16 g2 he hP hD hS
  exact absurd (he.trans (if_neg g2)) hne

def fX7_isSet (moi_13 : Int32) (a1 : Int32) : Option (Int32) :=
  xbd (fX7_in a1 (0 : Int32) (((1 : Int32) <<< (moi_13 &&& 31)) - (1 : Int32))) (fun (r10 : Int32) => if r10 = 0 ∨ r10 = 1 then some r10 else none)
theorem hi_X7_isSet_7 : ∀ w ∈ wsX70, w ∈ wsX7_isSet := fun _ h => (List.mem_cons_of_mem _ (List.mem_append_right _ h))
set_option maxHeartbeats 4000000 in
set_option maxRecDepth 100000 in
theorem c_X7_isSet (l : Launch) (D : va_G) (cI cP : ClassId) (sz : Nat) (mo : Nat) (mor : Nat → Nat) (moi_0 : Int32) (moi_2 : Int32) (moi_4 : Int32) (moi_8 : Int32) (moi_9 : Int32) (moi_11 : Int32) (moi_12 : Int32) (moi_13 : Int32) (moi_17 : Int32) (moi_18 : Int32) (moi_20 : Int32) (moi_21 : Int32) (moi_24 : Int32) (moi_26 : Int32) (moi_28 : Int32) (moi_30 : Int32) (moi_31 : Int32) (moi_32 : Int32) (mok_1 : Nat → Int32) (mok_3 : Nat → Int32) (mok_5 : Nat → Int32) (mok_6 : Nat → Int32) (mok_7 : Nat → Int32) (mok_10 : Nat → Int32) (mok_14 : Nat → Int32) (mok_15 : Nat → Int32) (mok_16 : Nat → Int32) (mok_19 : Nat → Int32) (mok_22 : Nat → Int32) (mok_23 : Nat → Int32) (mok_25 : Nat → Int32) (mok_27 : Nat → Int32) (mok_29 : Nat → Int32) (mok_33 : Nat → Int32) (mok_34 : Nat → Int32) (a1 : Int32) (hne : fX7_isSet moi_13 a1 ≠ none) : xMi l yX7_isSet wsX7_isSet ({ frames := 1, cells := 0, slots := 0, locals := 22 } : Room) D (xT cI cP) [.ref mo, .int a1] (wM cI mo mor moi_0 moi_2 moi_4 moi_8 moi_9 moi_11 moi_12 moi_13 moi_17 moi_18 moi_20 moi_21 moi_24 moi_26 moi_28 moi_30 moi_31 moi_32 mok_1 mok_3 mok_5 mok_6 mok_7 mok_10 mok_14 mok_15 mok_16 mok_19 mok_22 mok_23 mok_25 mok_27 mok_29 mok_33 mok_34) sz (fun r (_ : Unit) => fX7_isSet moi_13 a1 = some r) (fun u => wM cI mo mor moi_0 moi_2 moi_4 moi_8 moi_9 moi_11 moi_12 moi_13 moi_17 moi_18 moi_20 moi_21 moi_24 moi_26 moi_28 moi_30 moi_31 moi_32 mok_1 mok_3 mok_5 mok_6 mok_7 mok_10 mok_14 mok_15 mok_16 mok_19 mok_22 mok_23 mok_25 mok_27 mok_29 mok_33 mok_34) 0 0 := by
  refine xMz_of (cc := cX7_isSet) (maxL := 2) (by decide +kernel) rfl (Nat.le_of_ble_eq_true rfl) ?_
  intro p e s m args below meth c A ls hx hb hml hown hts hname hN hK hA hP hD hS hl Q hret
  have he := fX7_isSet.eq_1 moi_13 a1
  have hl : lv_has ls 2 [(0, .ref mo), (1, .int a1)] := hl
  refine lv_iload_n hx hb dX7_isSet_0 rfl (lv_at hl 1 rfl) ?_
  refine lv_iconst (v := 0) hx hb dX7_isSet_1 (by decide) ?_
  refine lv_iconst (v := 1) hx hb dX7_isSet_2 (by decide) ?_
  refine lv_aload_n hx hb dX7_isSet_3 rfl (lv_at hl 0 rfl) ?_
  refine va_get (D := D) (ci := 7) (v := .int moi_13) (C := RX7) (T := TX7) (N := 35) hx hb hts hi_X7_isSet_7 hown hK hP 0 wM_0 rfl 13 (by decide) (hts (.fieldLink RX7 71 "BlindLanternsModel" "men" "I") (List.mem_of_getElem? (i := 1) rfl)) (fun _ h9 => h9) xMf_13 dX7_isSet_4 ?_
  refine lv_ishl hx hb dX7_isSet_7 ?_
  refine lv_iconst (v := 1) hx hb dX7_isSet_8 (by decide) ?_
  refine lv_isub hx hb dX7_isSet_9 ?_
  have n1_ : fX7_in a1 (0 : Int32) (((1 : Int32) <<< (moi_13 &&& 31)) - (1 : Int32)) ≠ none := fun z => hne (he.trans (xbd_none z))
  refine xci0 (va_runS (As := [.int a1, .int (0 : Int32), .int (((1 : Int32) <<< (moi_13 &&& 31)) - (1 : Int32))]) (rest := []) ⟨hx, hb, hml, hown, hts⟩ (c_X7_in l D cI cP s.heap.size  a1 (0 : Int32) (((1 : Int32) <<< (moi_13 &&& 31)) - (1 : Int32)) n1_) (va_cwS 3 hts gX7_isSet_X7_in rfl rfl rfl (by decide +kernel) ⟨Nat.le_of_ble_eq_true rfl, Nat.le_of_ble_eq_true rfl⟩) (xPS0 hN hK) rfl rfl hl.1 rfl (lv_room (Nat.le_of_ble_eq_true rfl)) dX7_isSet_10 ⟨Nat.le_of_ble_eq_true rfl, Nat.le_of_ble_eq_true rfl⟩) hP hD hS hA (fun r10 u10 H locs hw hP hD hS => ?_)
  replace he := he.trans (xbd_some hw)
  by_cases g2 : r10 = 0 ∨ r10 = 1
  · replace he := he.trans (if_pos g2)
    exact hret r10 () _ _ _ _ dX7_isSet_13 g2 he hP hD hS
  exact absurd (he.trans (if_neg g2)) hne

def fX7_begin_now_L2 (mok_15 : Nat → Int32) (mok_16 : Nat → Int32) (k2 : Int32 → (Nat → Int32) → Option ((Nat → Int32))) : Nat → Int32 → (Nat → Int32) → Option ((Nat → Int32))
  | 0, _, _ => none
  | n2 + 1, v2_2, w2_mok_22 => if (6 : Int32) ≤ v2_2 then (k2 v2_2 w2_mok_22) else (if v2_2 < 0 ∨ 19 ≤ v2_2.toNatClampNeg then none else (if v2_2 < 0 ∨ 6 ≤ v2_2.toNatClampNeg then none else (if 0 ≤ (mok_15 v2_2.toNatClampNeg) then (if v2_2 < 0 ∨ 6 ≤ v2_2.toNatClampNeg then none else (if ((6 : Int32) + v2_2) < 0 ∨ 19 ≤ ((6 : Int32) + v2_2).toNatClampNeg then none else (if v2_2 < 0 ∨ 6 ≤ v2_2.toNatClampNeg then none else (if ((12 : Int32) + v2_2) < 0 ∨ 19 ≤ ((12 : Int32) + v2_2).toNatClampNeg then none else (fX7_begin_now_L2 mok_15 mok_16 k2 n2 (v2_2 + 1) (upd (upd (upd w2_mok_22 v2_2.toNatClampNeg v2_2) ((6 : Int32) + v2_2).toNatClampNeg (mok_15 v2_2.toNatClampNeg)) ((12 : Int32) + v2_2).toNatClampNeg (mok_16 v2_2.toNatClampNeg))))))) else (if ((6 : Int32) + v2_2) < 0 ∨ 19 ≤ ((6 : Int32) + v2_2).toNatClampNeg then none else (if v2_2 < 0 ∨ 6 ≤ v2_2.toNatClampNeg then none else (if ((12 : Int32) + v2_2) < 0 ∨ 19 ≤ ((12 : Int32) + v2_2).toNatClampNeg then none else (fX7_begin_now_L2 mok_15 mok_16 k2 n2 (v2_2 + 1) (upd (upd (upd w2_mok_22 v2_2.toNatClampNeg v2_2) ((6 : Int32) + v2_2).toNatClampNeg (0 : Int32)) ((12 : Int32) + v2_2).toNatClampNeg (mok_16 v2_2.toNatClampNeg)))))))))
def fX7_begin_now (F : Nat) (mok_15 : Nat → Int32) (mok_16 : Nat → Int32) (mok_22 : Nat → Int32) : Option ((Nat → Int32)) :=
  fX7_begin_now_L2 mok_15 mok_16 (fun (v2_2 : Int32) (w2_mok_22 : Nat → Int32) => some (upd w2_mok_22 (18 : Int32).toNatClampNeg (0 : Int32))) F (0 : Int32) mok_22
theorem hi_X7_begin_now_7 : ∀ w ∈ wsX70, w ∈ wsX7_begin := fun _ h => (List.mem_cons_of_mem _ (List.mem_append_right _ h))
set_option maxHeartbeats 4000000 in
set_option maxRecDepth 100000 in
theorem c_X7_begin_now (l : Launch) (D : va_G) (cI cP : ClassId) (sz : Nat) (mo : Nat) (mor : Nat → Nat) (moi_0 : Int32) (moi_2 : Int32) (moi_4 : Int32) (moi_8 : Int32) (moi_9 : Int32) (moi_11 : Int32) (moi_12 : Int32) (moi_13 : Int32) (moi_17 : Int32) (moi_18 : Int32) (moi_20 : Int32) (moi_21 : Int32) (moi_24 : Int32) (moi_26 : Int32) (moi_28 : Int32) (moi_30 : Int32) (moi_31 : Int32) (moi_32 : Int32) (mok_1 : Nat → Int32) (mok_3 : Nat → Int32) (mok_5 : Nat → Int32) (mok_6 : Nat → Int32) (mok_7 : Nat → Int32) (mok_10 : Nat → Int32) (mok_14 : Nat → Int32) (mok_15 : Nat → Int32) (mok_16 : Nat → Int32) (mok_19 : Nat → Int32) (mok_22 : Nat → Int32) (mok_23 : Nat → Int32) (mok_25 : Nat → Int32) (mok_27 : Nat → Int32) (mok_29 : Nat → Int32) (mok_33 : Nat → Int32) (mok_34 : Nat → Int32) (F : Nat) (hne : fX7_begin_now F mok_15 mok_16 mok_22 ≠ none) : xMv l yX7_begin wsX7_begin ({ frames := 0, cells := 0, slots := 0, locals := 0 } : Room) D (xT cI cP) [.ref mo, .ref (mor 22)] (wM cI mo mor moi_0 moi_2 moi_4 moi_8 moi_9 moi_11 moi_12 moi_13 moi_17 moi_18 moi_20 moi_21 moi_24 moi_26 moi_28 moi_30 moi_31 moi_32 mok_1 mok_3 mok_5 mok_6 mok_7 mok_10 mok_14 mok_15 mok_16 mok_19 mok_22 mok_23 mok_25 mok_27 mok_29 mok_33 mok_34) sz (fun (u : ((Nat → Int32))) => fX7_begin_now F mok_15 mok_16 mok_22 = some u) (fun u => wM cI mo mor moi_0 moi_2 moi_4 moi_8 moi_9 moi_11 moi_12 moi_13 moi_17 moi_18 moi_20 moi_21 moi_24 moi_26 moi_28 moi_30 moi_31 moi_32 mok_1 mok_3 mok_5 mok_6 mok_7 mok_10 mok_14 mok_15 mok_16 mok_19 u mok_23 mok_25 mok_27 mok_29 mok_33 mok_34) 0 0 := by
  refine xMv_of (cc := cX7_begin) (maxL := 3) (by decide +kernel) rfl (Nat.le_of_ble_eq_true rfl) ?_
  intro p e s m args below meth c A ls hx hb hml hown hts hname hN hK hA hP hD hS hl Q hret
  have he := fX7_begin_now.eq_1 F mok_15 mok_16 mok_22
  have hl : lv_has ls 3 [(0, .ref mo), (1, .ref (mor 22))] := hl
  have R2_0 : ∀ (v2_2 : Int32) (w2_mok_22 : Nat → Int32), fX7_begin_now F mok_15 mok_16 mok_22 = (some (upd w2_mok_22 (18 : Int32).toNatClampNeg (0 : Int32))) → ∀ (H : Heap) (locs : List Loc) (ls : Array Slot), va_P D vwCl (wM cI mo mor moi_0 moi_2 moi_4 moi_8 moi_9 moi_11 moi_12 moi_13 moi_17 moi_18 moi_20 moi_21 moi_24 moi_26 moi_28 moi_30 moi_31 moi_32 mok_1 mok_3 mok_5 mok_6 mok_7 mok_10 mok_14 mok_15 mok_16 mok_19 w2_mok_22 mok_23 mok_25 mok_27 mok_29 mok_33 mok_34) H → va_D A (wM cI mo mor moi_0 moi_2 moi_4 moi_8 moi_9 moi_11 moi_12 moi_13 moi_17 moi_18 moi_20 moi_21 moi_24 moi_26 moi_28 moi_30 moi_31 moi_32 mok_1 mok_3 mok_5 mok_6 mok_7 mok_10 mok_14 mok_15 mok_16 mok_19 w2_mok_22 mok_23 mok_25 mok_27 mok_29 mok_33 mok_34) → va_S A s.heap H locs → lv_has ls 3 [(1, .ref (mor 22))] → W p l e ({ frames := 0, cells := 0, slots := 0, locals := 0 } : Room) s m args below meth c H locs 0 0 Q (F0 m 55 ls []) := by
    intro v2_2 w2_mok_22 he H locs ls hP hD hS hl
    refine lv_aload_n hx hb dX7_begin_55 rfl (lv_at hl 0 rfl) ?_
    refine lv_bipush (v := 18) hx hb dX7_begin_56 (by decide) ?_
    refine lv_iconst (v := 0) hx hb dX7_begin_58 (by decide) ?_
    refine va_iast hx hb hK hP hD hS 11 0 wM_a22 rfl (x_in rfl) dX7_begin_59 (fun H locs hP hD hS => ?_)
    rw [wM_s22] at hP hD
    exact hret (upd w2_mok_22 (18 : Int32).toNatClampNeg (0 : Int32)) _ _ _ _ dX7_begin_60 he hP hD hS
  have L2_8 : ∀ (n2 : Nat) (v2_2 : Int32) (w2_mok_22 : Nat → Int32), fX7_begin_now F mok_15 mok_16 mok_22 = fX7_begin_now_L2 mok_15 mok_16 (fun (v2_2 : Int32) (w2_mok_22 : Nat → Int32) => some (upd w2_mok_22 (18 : Int32).toNatClampNeg (0 : Int32))) n2 v2_2 w2_mok_22 → ∀ (H : Heap) (locs : List Loc) (ls : Array Slot), va_P D vwCl (wM cI mo mor moi_0 moi_2 moi_4 moi_8 moi_9 moi_11 moi_12 moi_13 moi_17 moi_18 moi_20 moi_21 moi_24 moi_26 moi_28 moi_30 moi_31 moi_32 mok_1 mok_3 mok_5 mok_6 mok_7 mok_10 mok_14 mok_15 mok_16 mok_19 w2_mok_22 mok_23 mok_25 mok_27 mok_29 mok_33 mok_34) H → va_D A (wM cI mo mor moi_0 moi_2 moi_4 moi_8 moi_9 moi_11 moi_12 moi_13 moi_17 moi_18 moi_20 moi_21 moi_24 moi_26 moi_28 moi_30 moi_31 moi_32 mok_1 mok_3 mok_5 mok_6 mok_7 mok_10 mok_14 mok_15 mok_16 mok_19 w2_mok_22 mok_23 mok_25 mok_27 mok_29 mok_33 mok_34) → va_S A s.heap H locs → lv_has ls 3 [(2, .int v2_2), (0, .ref mo), (1, .ref (mor 22))] → W p l e ({ frames := 0, cells := 0, slots := 0, locals := 0 } : Room) s m args below meth c H locs 0 0 Q (F0 m 2 ls []) := by
    intro n2
    induction n2 with
    | zero => intro v2_2 w2_mok_22 he; exact absurd he hne
    | succ n2 ih2 =>
      intro v2_2 w2_mok_22 he H locs ls hP hD hS hl
      replace he := he.trans (fX7_begin_now_L2.eq_2 _ _ _ _ _ _)
      refine lv_iload_n hx hb dX7_begin_2 rfl (lv_at hl 0 rfl) ?_
      refine lv_bipush (v := 6) hx hb dX7_begin_3 (by decide) ?_
      refine lv_icmp_ge (tgt := 55) hx hb dX7_begin_5 (by decide) (fun c1 => ?_) (fun c1 => ?_)
      · replace he := he.trans (if_pos c1)
        exact R2_0 v2_2 w2_mok_22 he _ _ _ hP hD hS (lv_sub hl [2] rfl)
      · replace he := he.trans (if_neg c1)
        refine lv_aload_n hx hb dX7_begin_8 rfl (lv_at hl 2 rfl) ?_
        refine lv_iload_n hx hb dX7_begin_9 rfl (lv_at hl 0 rfl) ?_
        refine lv_iload_n hx hb dX7_begin_10 rfl (lv_at hl 0 rfl) ?_
        by_cases g2 : v2_2 < 0 ∨ 19 ≤ v2_2.toNatClampNeg
        · exact absurd (he.trans (if_pos g2)) hne
        replace he := he.trans (if_neg g2)
        refine va_iast hx hb hK hP hD hS 11 0 wM_a22 rfl g2 dX7_begin_11 (fun H locs hP hD hS => ?_)
        rw [wM_s22] at hP hD
        refine lv_aload_n hx hb dX7_begin_12 rfl (lv_at hl 2 rfl) ?_
        refine lv_bipush (v := 6) hx hb dX7_begin_13 (by decide) ?_
        refine lv_iload_n hx hb dX7_begin_15 rfl (lv_at hl 0 rfl) ?_
        refine lv_iadd hx hb dX7_begin_16 ?_
        refine lv_aload_n hx hb dX7_begin_17 rfl (lv_at hl 1 rfl) ?_
        refine va_get (D := D) (ci := 7) (v := .ref (mor 15)) (C := RX7) (T := TX7) (N := 35) hx hb hts hi_X7_begin_now_7 hown hK hP 0 wM_0 rfl 15 (by decide) (hts (.fieldLink RX7 31 "BlindLanternsModel" "oil" "[I") (List.mem_of_getElem? (i := 1) rfl)) (fun _ h9 => h9) xMf_15 dX7_begin_18 ?_
        refine lv_iload_n hx hb dX7_begin_21 rfl (lv_at hl 0 rfl) ?_
        by_cases g3 : v2_2 < 0 ∨ 6 ≤ v2_2.toNatClampNeg
        · exact absurd (he.trans (if_pos g3)) hne
        replace he := he.trans (if_neg g3)
        refine va_iald hx hb hK hP 8 0 wM_a15 rfl g3 dX7_begin_22 ?_
        refine lv_if_ge (tgt := 30) hx hb dX7_begin_23 (by decide) (fun c4 => ?_) (fun c4 => ?_)
        · replace he := he.trans (if_pos c4)
          refine lv_aload_n hx hb dX7_begin_30 rfl (lv_at hl 1 rfl) ?_
          refine va_get (D := D) (ci := 7) (v := .ref (mor 15)) (C := RX7) (T := TX7) (N := 35) hx hb hts hi_X7_begin_now_7 hown hK hP 0 wM_0 rfl 15 (by decide) (hts (.fieldLink RX7 31 "BlindLanternsModel" "oil" "[I") (List.mem_of_getElem? (i := 1) rfl)) (fun _ h9 => h9) xMf_15 dX7_begin_31 ?_
          refine lv_iload_n hx hb dX7_begin_34 rfl (lv_at hl 0 rfl) ?_
          by_cases g5 : v2_2 < 0 ∨ 6 ≤ v2_2.toNatClampNeg
          · exact absurd (he.trans (if_pos g5)) hne
          replace he := he.trans (if_neg g5)
          refine va_iald hx hb hK hP 8 0 wM_a15 rfl g5 dX7_begin_35 ?_
          by_cases g6 : ((6 : Int32) + v2_2) < 0 ∨ 19 ≤ ((6 : Int32) + v2_2).toNatClampNeg
          · exact absurd (he.trans (if_pos g6)) hne
          replace he := he.trans (if_neg g6)
          refine va_iast hx hb hK hP hD hS 11 0 wM_a22 rfl g6 dX7_begin_36 (fun H locs hP hD hS => ?_)
          rw [wM_s22] at hP hD
          refine lv_aload_n hx hb dX7_begin_37 rfl (lv_at hl 2 rfl) ?_
          refine lv_bipush (v := 12) hx hb dX7_begin_38 (by decide) ?_
          refine lv_iload_n hx hb dX7_begin_40 rfl (lv_at hl 0 rfl) ?_
          refine lv_iadd hx hb dX7_begin_41 ?_
          refine lv_aload_n hx hb dX7_begin_42 rfl (lv_at hl 1 rfl) ?_
          refine va_get (D := D) (ci := 7) (v := .ref (mor 16)) (C := RX7) (T := TX7) (N := 35) hx hb hts hi_X7_begin_now_7 hown hK hP 0 wM_0 rfl 16 (by decide) (hts (.fieldLink RX7 34 "BlindLanternsModel" "lit" "[I") (List.mem_of_getElem? (i := 2) rfl)) (fun _ h9 => h9) xMf_16 dX7_begin_43 ?_
          refine lv_iload_n hx hb dX7_begin_46 rfl (lv_at hl 0 rfl) ?_
          by_cases g7 : v2_2 < 0 ∨ 6 ≤ v2_2.toNatClampNeg
          · exact absurd (he.trans (if_pos g7)) hne
          replace he := he.trans (if_neg g7)
          refine va_iald hx hb hK hP 9 0 wM_a16 rfl g7 dX7_begin_47 ?_
          by_cases g8 : ((12 : Int32) + v2_2) < 0 ∨ 19 ≤ ((12 : Int32) + v2_2).toNatClampNeg
          · exact absurd (he.trans (if_pos g8)) hne
          replace he := he.trans (if_neg g8)
          refine va_iast hx hb hK hP hD hS 11 0 wM_a22 rfl g8 dX7_begin_48 (fun H locs hP hD hS => ?_)
          rw [wM_s22] at hP hD
          refine lv_iinc (v := (v2_2 + 1)) (lv' := [(2, .int (v2_2 + 1)), (0, .ref mo), (1, .ref (mor 22))]) hx hb dX7_begin_49 hl (k := 0) rfl rfl (by decide) rfl (fun ls hl => ?_)
          refine lv_goto (tgt := 2) hx hb dX7_begin_52 (by decide) ?_
          exact ih2 (v2_2 + 1) (upd (upd (upd w2_mok_22 v2_2.toNatClampNeg v2_2) ((6 : Int32) + v2_2).toNatClampNeg (mok_15 v2_2.toNatClampNeg)) ((12 : Int32) + v2_2).toNatClampNeg (mok_16 v2_2.toNatClampNeg)) he _ _ _ hP hD hS (lv_sub hl [0, 1, 2] rfl)
        · replace he := he.trans (if_neg c4)
          refine lv_iconst (v := 0) hx hb dX7_begin_26 (by decide) ?_
          refine lv_goto (tgt := 36) hx hb dX7_begin_27 (by decide) ?_
          by_cases g9 : ((6 : Int32) + v2_2) < 0 ∨ 19 ≤ ((6 : Int32) + v2_2).toNatClampNeg
          · exact absurd (he.trans (if_pos g9)) hne
          replace he := he.trans (if_neg g9)
          refine va_iast hx hb hK hP hD hS 11 0 wM_a22 rfl g9 dX7_begin_36 (fun H locs hP hD hS => ?_)
          rw [wM_s22] at hP hD
          refine lv_aload_n hx hb dX7_begin_37 rfl (lv_at hl 2 rfl) ?_
          refine lv_bipush (v := 12) hx hb dX7_begin_38 (by decide) ?_
          refine lv_iload_n hx hb dX7_begin_40 rfl (lv_at hl 0 rfl) ?_
          refine lv_iadd hx hb dX7_begin_41 ?_
          refine lv_aload_n hx hb dX7_begin_42 rfl (lv_at hl 1 rfl) ?_
          refine va_get (D := D) (ci := 7) (v := .ref (mor 16)) (C := RX7) (T := TX7) (N := 35) hx hb hts hi_X7_begin_now_7 hown hK hP 0 wM_0 rfl 16 (by decide) (hts (.fieldLink RX7 34 "BlindLanternsModel" "lit" "[I") (List.mem_of_getElem? (i := 2) rfl)) (fun _ h9 => h9) xMf_16 dX7_begin_43 ?_
          refine lv_iload_n hx hb dX7_begin_46 rfl (lv_at hl 0 rfl) ?_
          by_cases g10 : v2_2 < 0 ∨ 6 ≤ v2_2.toNatClampNeg
          · exact absurd (he.trans (if_pos g10)) hne
          replace he := he.trans (if_neg g10)
          refine va_iald hx hb hK hP 9 0 wM_a16 rfl g10 dX7_begin_47 ?_
          by_cases g11 : ((12 : Int32) + v2_2) < 0 ∨ 19 ≤ ((12 : Int32) + v2_2).toNatClampNeg
          · exact absurd (he.trans (if_pos g11)) hne
          replace he := he.trans (if_neg g11)
          refine va_iast hx hb hK hP hD hS 11 0 wM_a22 rfl g11 dX7_begin_48 (fun H locs hP hD hS => ?_)
          rw [wM_s22] at hP hD
          refine lv_iinc (v := (v2_2 + 1)) (lv' := [(2, .int (v2_2 + 1)), (0, .ref mo), (1, .ref (mor 22))]) hx hb dX7_begin_49 hl (k := 0) rfl rfl (by decide) rfl (fun ls hl => ?_)
          refine lv_goto (tgt := 2) hx hb dX7_begin_52 (by decide) ?_
          exact ih2 (v2_2 + 1) (upd (upd (upd w2_mok_22 v2_2.toNatClampNeg v2_2) ((6 : Int32) + v2_2).toNatClampNeg (0 : Int32)) ((12 : Int32) + v2_2).toNatClampNeg (mok_16 v2_2.toNatClampNeg)) he _ _ _ hP hD hS (lv_sub hl [0, 1, 2] rfl)
  refine lv_iconst (v := 0) hx hb dX7_begin_0 (by decide) ?_
  refine lv_istore_n (lv' := [(2, .int (0 : Int32)), (0, .ref mo), (1, .ref (mor 22))]) hx hb dX7_begin_1 rfl hl (by decide) rfl (fun ls hl => ?_)
  exact L2_8 F (0 : Int32) mok_22 he _ _ _ hP hD hS (lv_sub hl [0, 1, 2] rfl)

def fX7_begin_tried_L2 (mok_15 : Nat → Int32) (mok_16 : Nat → Int32) (k2 : Int32 → (Nat → Int32) → Option ((Nat → Int32))) : Nat → Int32 → (Nat → Int32) → Option ((Nat → Int32))
  | 0, _, _ => none
  | n2 + 1, v2_2, w2_mok_23 => if (6 : Int32) ≤ v2_2 then (k2 v2_2 w2_mok_23) else (if v2_2 < 0 ∨ 19 ≤ v2_2.toNatClampNeg then none else (if v2_2 < 0 ∨ 6 ≤ v2_2.toNatClampNeg then none else (if 0 ≤ (mok_15 v2_2.toNatClampNeg) then (if v2_2 < 0 ∨ 6 ≤ v2_2.toNatClampNeg then none else (if ((6 : Int32) + v2_2) < 0 ∨ 19 ≤ ((6 : Int32) + v2_2).toNatClampNeg then none else (if v2_2 < 0 ∨ 6 ≤ v2_2.toNatClampNeg then none else (if ((12 : Int32) + v2_2) < 0 ∨ 19 ≤ ((12 : Int32) + v2_2).toNatClampNeg then none else (fX7_begin_tried_L2 mok_15 mok_16 k2 n2 (v2_2 + 1) (upd (upd (upd w2_mok_23 v2_2.toNatClampNeg v2_2) ((6 : Int32) + v2_2).toNatClampNeg (mok_15 v2_2.toNatClampNeg)) ((12 : Int32) + v2_2).toNatClampNeg (mok_16 v2_2.toNatClampNeg))))))) else (if ((6 : Int32) + v2_2) < 0 ∨ 19 ≤ ((6 : Int32) + v2_2).toNatClampNeg then none else (if v2_2 < 0 ∨ 6 ≤ v2_2.toNatClampNeg then none else (if ((12 : Int32) + v2_2) < 0 ∨ 19 ≤ ((12 : Int32) + v2_2).toNatClampNeg then none else (fX7_begin_tried_L2 mok_15 mok_16 k2 n2 (v2_2 + 1) (upd (upd (upd w2_mok_23 v2_2.toNatClampNeg v2_2) ((6 : Int32) + v2_2).toNatClampNeg (0 : Int32)) ((12 : Int32) + v2_2).toNatClampNeg (mok_16 v2_2.toNatClampNeg)))))))))
def fX7_begin_tried (F : Nat) (mok_15 : Nat → Int32) (mok_16 : Nat → Int32) (mok_23 : Nat → Int32) : Option ((Nat → Int32)) :=
  fX7_begin_tried_L2 mok_15 mok_16 (fun (v2_2 : Int32) (w2_mok_23 : Nat → Int32) => some (upd w2_mok_23 (18 : Int32).toNatClampNeg (0 : Int32))) F (0 : Int32) mok_23
theorem hi_X7_begin_tried_7 : ∀ w ∈ wsX70, w ∈ wsX7_begin := fun _ h => (List.mem_cons_of_mem _ (List.mem_append_right _ h))
set_option maxHeartbeats 4000000 in
set_option maxRecDepth 100000 in
theorem c_X7_begin_tried (l : Launch) (D : va_G) (cI cP : ClassId) (sz : Nat) (mo : Nat) (mor : Nat → Nat) (moi_0 : Int32) (moi_2 : Int32) (moi_4 : Int32) (moi_8 : Int32) (moi_9 : Int32) (moi_11 : Int32) (moi_12 : Int32) (moi_13 : Int32) (moi_17 : Int32) (moi_18 : Int32) (moi_20 : Int32) (moi_21 : Int32) (moi_24 : Int32) (moi_26 : Int32) (moi_28 : Int32) (moi_30 : Int32) (moi_31 : Int32) (moi_32 : Int32) (mok_1 : Nat → Int32) (mok_3 : Nat → Int32) (mok_5 : Nat → Int32) (mok_6 : Nat → Int32) (mok_7 : Nat → Int32) (mok_10 : Nat → Int32) (mok_14 : Nat → Int32) (mok_15 : Nat → Int32) (mok_16 : Nat → Int32) (mok_19 : Nat → Int32) (mok_22 : Nat → Int32) (mok_23 : Nat → Int32) (mok_25 : Nat → Int32) (mok_27 : Nat → Int32) (mok_29 : Nat → Int32) (mok_33 : Nat → Int32) (mok_34 : Nat → Int32) (F : Nat) (hne : fX7_begin_tried F mok_15 mok_16 mok_23 ≠ none) : xMv l yX7_begin wsX7_begin ({ frames := 0, cells := 0, slots := 0, locals := 0 } : Room) D (xT cI cP) [.ref mo, .ref (mor 23)] (wM cI mo mor moi_0 moi_2 moi_4 moi_8 moi_9 moi_11 moi_12 moi_13 moi_17 moi_18 moi_20 moi_21 moi_24 moi_26 moi_28 moi_30 moi_31 moi_32 mok_1 mok_3 mok_5 mok_6 mok_7 mok_10 mok_14 mok_15 mok_16 mok_19 mok_22 mok_23 mok_25 mok_27 mok_29 mok_33 mok_34) sz (fun (u : ((Nat → Int32))) => fX7_begin_tried F mok_15 mok_16 mok_23 = some u) (fun u => wM cI mo mor moi_0 moi_2 moi_4 moi_8 moi_9 moi_11 moi_12 moi_13 moi_17 moi_18 moi_20 moi_21 moi_24 moi_26 moi_28 moi_30 moi_31 moi_32 mok_1 mok_3 mok_5 mok_6 mok_7 mok_10 mok_14 mok_15 mok_16 mok_19 mok_22 u mok_25 mok_27 mok_29 mok_33 mok_34) 0 0 := by
  refine xMv_of (cc := cX7_begin) (maxL := 3) (by decide +kernel) rfl (Nat.le_of_ble_eq_true rfl) ?_
  intro p e s m args below meth c A ls hx hb hml hown hts hname hN hK hA hP hD hS hl Q hret
  have he := fX7_begin_tried.eq_1 F mok_15 mok_16 mok_23
  have hl : lv_has ls 3 [(0, .ref mo), (1, .ref (mor 23))] := hl
  have R2_0 : ∀ (v2_2 : Int32) (w2_mok_23 : Nat → Int32), fX7_begin_tried F mok_15 mok_16 mok_23 = (some (upd w2_mok_23 (18 : Int32).toNatClampNeg (0 : Int32))) → ∀ (H : Heap) (locs : List Loc) (ls : Array Slot), va_P D vwCl (wM cI mo mor moi_0 moi_2 moi_4 moi_8 moi_9 moi_11 moi_12 moi_13 moi_17 moi_18 moi_20 moi_21 moi_24 moi_26 moi_28 moi_30 moi_31 moi_32 mok_1 mok_3 mok_5 mok_6 mok_7 mok_10 mok_14 mok_15 mok_16 mok_19 mok_22 w2_mok_23 mok_25 mok_27 mok_29 mok_33 mok_34) H → va_D A (wM cI mo mor moi_0 moi_2 moi_4 moi_8 moi_9 moi_11 moi_12 moi_13 moi_17 moi_18 moi_20 moi_21 moi_24 moi_26 moi_28 moi_30 moi_31 moi_32 mok_1 mok_3 mok_5 mok_6 mok_7 mok_10 mok_14 mok_15 mok_16 mok_19 mok_22 w2_mok_23 mok_25 mok_27 mok_29 mok_33 mok_34) → va_S A s.heap H locs → lv_has ls 3 [(1, .ref (mor 23))] → W p l e ({ frames := 0, cells := 0, slots := 0, locals := 0 } : Room) s m args below meth c H locs 0 0 Q (F0 m 55 ls []) := by
    intro v2_2 w2_mok_23 he H locs ls hP hD hS hl
    refine lv_aload_n hx hb dX7_begin_55 rfl (lv_at hl 0 rfl) ?_
    refine lv_bipush (v := 18) hx hb dX7_begin_56 (by decide) ?_
    refine lv_iconst (v := 0) hx hb dX7_begin_58 (by decide) ?_
    refine va_iast hx hb hK hP hD hS 12 0 wM_a23 rfl (x_in rfl) dX7_begin_59 (fun H locs hP hD hS => ?_)
    rw [wM_s23] at hP hD
    exact hret (upd w2_mok_23 (18 : Int32).toNatClampNeg (0 : Int32)) _ _ _ _ dX7_begin_60 he hP hD hS
  have L2_8 : ∀ (n2 : Nat) (v2_2 : Int32) (w2_mok_23 : Nat → Int32), fX7_begin_tried F mok_15 mok_16 mok_23 = fX7_begin_tried_L2 mok_15 mok_16 (fun (v2_2 : Int32) (w2_mok_23 : Nat → Int32) => some (upd w2_mok_23 (18 : Int32).toNatClampNeg (0 : Int32))) n2 v2_2 w2_mok_23 → ∀ (H : Heap) (locs : List Loc) (ls : Array Slot), va_P D vwCl (wM cI mo mor moi_0 moi_2 moi_4 moi_8 moi_9 moi_11 moi_12 moi_13 moi_17 moi_18 moi_20 moi_21 moi_24 moi_26 moi_28 moi_30 moi_31 moi_32 mok_1 mok_3 mok_5 mok_6 mok_7 mok_10 mok_14 mok_15 mok_16 mok_19 mok_22 w2_mok_23 mok_25 mok_27 mok_29 mok_33 mok_34) H → va_D A (wM cI mo mor moi_0 moi_2 moi_4 moi_8 moi_9 moi_11 moi_12 moi_13 moi_17 moi_18 moi_20 moi_21 moi_24 moi_26 moi_28 moi_30 moi_31 moi_32 mok_1 mok_3 mok_5 mok_6 mok_7 mok_10 mok_14 mok_15 mok_16 mok_19 mok_22 w2_mok_23 mok_25 mok_27 mok_29 mok_33 mok_34) → va_S A s.heap H locs → lv_has ls 3 [(2, .int v2_2), (0, .ref mo), (1, .ref (mor 23))] → W p l e ({ frames := 0, cells := 0, slots := 0, locals := 0 } : Room) s m args below meth c H locs 0 0 Q (F0 m 2 ls []) := by
    intro n2
    induction n2 with
    | zero => intro v2_2 w2_mok_23 he; exact absurd he hne
    | succ n2 ih2 =>
      intro v2_2 w2_mok_23 he H locs ls hP hD hS hl
      replace he := he.trans (fX7_begin_tried_L2.eq_2 _ _ _ _ _ _)
      refine lv_iload_n hx hb dX7_begin_2 rfl (lv_at hl 0 rfl) ?_
      refine lv_bipush (v := 6) hx hb dX7_begin_3 (by decide) ?_
      refine lv_icmp_ge (tgt := 55) hx hb dX7_begin_5 (by decide) (fun c1 => ?_) (fun c1 => ?_)
      · replace he := he.trans (if_pos c1)
        exact R2_0 v2_2 w2_mok_23 he _ _ _ hP hD hS (lv_sub hl [2] rfl)
      · replace he := he.trans (if_neg c1)
        refine lv_aload_n hx hb dX7_begin_8 rfl (lv_at hl 2 rfl) ?_
        refine lv_iload_n hx hb dX7_begin_9 rfl (lv_at hl 0 rfl) ?_
        refine lv_iload_n hx hb dX7_begin_10 rfl (lv_at hl 0 rfl) ?_
        by_cases g2 : v2_2 < 0 ∨ 19 ≤ v2_2.toNatClampNeg
        · exact absurd (he.trans (if_pos g2)) hne
        replace he := he.trans (if_neg g2)
        refine va_iast hx hb hK hP hD hS 12 0 wM_a23 rfl g2 dX7_begin_11 (fun H locs hP hD hS => ?_)
        rw [wM_s23] at hP hD
        refine lv_aload_n hx hb dX7_begin_12 rfl (lv_at hl 2 rfl) ?_
        refine lv_bipush (v := 6) hx hb dX7_begin_13 (by decide) ?_
        refine lv_iload_n hx hb dX7_begin_15 rfl (lv_at hl 0 rfl) ?_
        refine lv_iadd hx hb dX7_begin_16 ?_
        refine lv_aload_n hx hb dX7_begin_17 rfl (lv_at hl 1 rfl) ?_
        refine va_get (D := D) (ci := 7) (v := .ref (mor 15)) (C := RX7) (T := TX7) (N := 35) hx hb hts hi_X7_begin_tried_7 hown hK hP 0 wM_0 rfl 15 (by decide) (hts (.fieldLink RX7 31 "BlindLanternsModel" "oil" "[I") (List.mem_of_getElem? (i := 1) rfl)) (fun _ h9 => h9) xMf_15 dX7_begin_18 ?_
        refine lv_iload_n hx hb dX7_begin_21 rfl (lv_at hl 0 rfl) ?_
        by_cases g3 : v2_2 < 0 ∨ 6 ≤ v2_2.toNatClampNeg
        · exact absurd (he.trans (if_pos g3)) hne
        replace he := he.trans (if_neg g3)
        refine va_iald hx hb hK hP 8 0 wM_a15 rfl g3 dX7_begin_22 ?_
        refine lv_if_ge (tgt := 30) hx hb dX7_begin_23 (by decide) (fun c4 => ?_) (fun c4 => ?_)
        · replace he := he.trans (if_pos c4)
          refine lv_aload_n hx hb dX7_begin_30 rfl (lv_at hl 1 rfl) ?_
          refine va_get (D := D) (ci := 7) (v := .ref (mor 15)) (C := RX7) (T := TX7) (N := 35) hx hb hts hi_X7_begin_tried_7 hown hK hP 0 wM_0 rfl 15 (by decide) (hts (.fieldLink RX7 31 "BlindLanternsModel" "oil" "[I") (List.mem_of_getElem? (i := 1) rfl)) (fun _ h9 => h9) xMf_15 dX7_begin_31 ?_
          refine lv_iload_n hx hb dX7_begin_34 rfl (lv_at hl 0 rfl) ?_
          by_cases g5 : v2_2 < 0 ∨ 6 ≤ v2_2.toNatClampNeg
          · exact absurd (he.trans (if_pos g5)) hne
          replace he := he.trans (if_neg g5)
          refine va_iald hx hb hK hP 8 0 wM_a15 rfl g5 dX7_begin_35 ?_
          by_cases g6 : ((6 : Int32) + v2_2) < 0 ∨ 19 ≤ ((6 : Int32) + v2_2).toNatClampNeg
          · exact absurd (he.trans (if_pos g6)) hne
          replace he := he.trans (if_neg g6)
          refine va_iast hx hb hK hP hD hS 12 0 wM_a23 rfl g6 dX7_begin_36 (fun H locs hP hD hS => ?_)
          rw [wM_s23] at hP hD
          refine lv_aload_n hx hb dX7_begin_37 rfl (lv_at hl 2 rfl) ?_
          refine lv_bipush (v := 12) hx hb dX7_begin_38 (by decide) ?_
          refine lv_iload_n hx hb dX7_begin_40 rfl (lv_at hl 0 rfl) ?_
          refine lv_iadd hx hb dX7_begin_41 ?_
          refine lv_aload_n hx hb dX7_begin_42 rfl (lv_at hl 1 rfl) ?_
          refine va_get (D := D) (ci := 7) (v := .ref (mor 16)) (C := RX7) (T := TX7) (N := 35) hx hb hts hi_X7_begin_tried_7 hown hK hP 0 wM_0 rfl 16 (by decide) (hts (.fieldLink RX7 34 "BlindLanternsModel" "lit" "[I") (List.mem_of_getElem? (i := 2) rfl)) (fun _ h9 => h9) xMf_16 dX7_begin_43 ?_
          refine lv_iload_n hx hb dX7_begin_46 rfl (lv_at hl 0 rfl) ?_
          by_cases g7 : v2_2 < 0 ∨ 6 ≤ v2_2.toNatClampNeg
          · exact absurd (he.trans (if_pos g7)) hne
          replace he := he.trans (if_neg g7)
          refine va_iald hx hb hK hP 9 0 wM_a16 rfl g7 dX7_begin_47 ?_
          by_cases g8 : ((12 : Int32) + v2_2) < 0 ∨ 19 ≤ ((12 : Int32) + v2_2).toNatClampNeg
          · exact absurd (he.trans (if_pos g8)) hne
          replace he := he.trans (if_neg g8)
          refine va_iast hx hb hK hP hD hS 12 0 wM_a23 rfl g8 dX7_begin_48 (fun H locs hP hD hS => ?_)
          rw [wM_s23] at hP hD
          refine lv_iinc (v := (v2_2 + 1)) (lv' := [(2, .int (v2_2 + 1)), (0, .ref mo), (1, .ref (mor 23))]) hx hb dX7_begin_49 hl (k := 0) rfl rfl (by decide) rfl (fun ls hl => ?_)
          refine lv_goto (tgt := 2) hx hb dX7_begin_52 (by decide) ?_
          exact ih2 (v2_2 + 1) (upd (upd (upd w2_mok_23 v2_2.toNatClampNeg v2_2) ((6 : Int32) + v2_2).toNatClampNeg (mok_15 v2_2.toNatClampNeg)) ((12 : Int32) + v2_2).toNatClampNeg (mok_16 v2_2.toNatClampNeg)) he _ _ _ hP hD hS (lv_sub hl [0, 1, 2] rfl)
        · replace he := he.trans (if_neg c4)
          refine lv_iconst (v := 0) hx hb dX7_begin_26 (by decide) ?_
          refine lv_goto (tgt := 36) hx hb dX7_begin_27 (by decide) ?_
          by_cases g9 : ((6 : Int32) + v2_2) < 0 ∨ 19 ≤ ((6 : Int32) + v2_2).toNatClampNeg
          · exact absurd (he.trans (if_pos g9)) hne
          replace he := he.trans (if_neg g9)
          refine va_iast hx hb hK hP hD hS 12 0 wM_a23 rfl g9 dX7_begin_36 (fun H locs hP hD hS => ?_)
          rw [wM_s23] at hP hD
          refine lv_aload_n hx hb dX7_begin_37 rfl (lv_at hl 2 rfl) ?_
          refine lv_bipush (v := 12) hx hb dX7_begin_38 (by decide) ?_
          refine lv_iload_n hx hb dX7_begin_40 rfl (lv_at hl 0 rfl) ?_
          refine lv_iadd hx hb dX7_begin_41 ?_
          refine lv_aload_n hx hb dX7_begin_42 rfl (lv_at hl 1 rfl) ?_
          refine va_get (D := D) (ci := 7) (v := .ref (mor 16)) (C := RX7) (T := TX7) (N := 35) hx hb hts hi_X7_begin_tried_7 hown hK hP 0 wM_0 rfl 16 (by decide) (hts (.fieldLink RX7 34 "BlindLanternsModel" "lit" "[I") (List.mem_of_getElem? (i := 2) rfl)) (fun _ h9 => h9) xMf_16 dX7_begin_43 ?_
          refine lv_iload_n hx hb dX7_begin_46 rfl (lv_at hl 0 rfl) ?_
          by_cases g10 : v2_2 < 0 ∨ 6 ≤ v2_2.toNatClampNeg
          · exact absurd (he.trans (if_pos g10)) hne
          replace he := he.trans (if_neg g10)
          refine va_iald hx hb hK hP 9 0 wM_a16 rfl g10 dX7_begin_47 ?_
          by_cases g11 : ((12 : Int32) + v2_2) < 0 ∨ 19 ≤ ((12 : Int32) + v2_2).toNatClampNeg
          · exact absurd (he.trans (if_pos g11)) hne
          replace he := he.trans (if_neg g11)
          refine va_iast hx hb hK hP hD hS 12 0 wM_a23 rfl g11 dX7_begin_48 (fun H locs hP hD hS => ?_)
          rw [wM_s23] at hP hD
          refine lv_iinc (v := (v2_2 + 1)) (lv' := [(2, .int (v2_2 + 1)), (0, .ref mo), (1, .ref (mor 23))]) hx hb dX7_begin_49 hl (k := 0) rfl rfl (by decide) rfl (fun ls hl => ?_)
          refine lv_goto (tgt := 2) hx hb dX7_begin_52 (by decide) ?_
          exact ih2 (v2_2 + 1) (upd (upd (upd w2_mok_23 v2_2.toNatClampNeg v2_2) ((6 : Int32) + v2_2).toNatClampNeg (0 : Int32)) ((12 : Int32) + v2_2).toNatClampNeg (mok_16 v2_2.toNatClampNeg)) he _ _ _ hP hD hS (lv_sub hl [0, 1, 2] rfl)
  refine lv_iconst (v := 0) hx hb dX7_begin_0 (by decide) ?_
  refine lv_istore_n (lv' := [(2, .int (0 : Int32)), (0, .ref mo), (1, .ref (mor 23))]) hx hb dX7_begin_1 rfl hl (by decide) rfl (fun ls hl => ?_)
  exact L2_8 F (0 : Int32) mok_23 he _ _ _ hP hD hS (lv_sub hl [0, 1, 2] rfl)

def fX7_copy_now_tried_L3 (mok_22 : Nat → Int32) (a2 : Int32) (a4 : Int32) (k3 : Int32 → (Nat → Int32) → Option ((Nat → Int32))) : Nat → Int32 → (Nat → Int32) → Option ((Nat → Int32))
  | 0, _, _ => none
  | n3 + 1, v3_4, w3_mok_23 => if (19 : Int32) ≤ v3_4 then (k3 v3_4 w3_mok_23) else (if (a2 + v3_4) < 0 ∨ 19 ≤ (a2 + v3_4).toNatClampNeg then none else (if (a4 + v3_4) < 0 ∨ 19 ≤ (a4 + v3_4).toNatClampNeg then none else (fX7_copy_now_tried_L3 mok_22 a2 a4 k3 n3 (v3_4 + 1) (upd w3_mok_23 (a4 + v3_4).toNatClampNeg (mok_22 (a2 + v3_4).toNatClampNeg)))))
def fX7_copy_now_tried (F : Nat) (mok_22 : Nat → Int32) (mok_23 : Nat → Int32) (a2 : Int32) (a4 : Int32) : Option ((Nat → Int32)) :=
  fX7_copy_now_tried_L3 mok_22 a2 a4 (fun (v3_4 : Int32) (w3_mok_23 : Nat → Int32) => some w3_mok_23) F (0 : Int32) mok_23
set_option maxHeartbeats 4000000 in
set_option maxRecDepth 100000 in
theorem c_X7_copy_now_tried (l : Launch) (D : va_G) (cI cP : ClassId) (sz : Nat) (mo : Nat) (mor : Nat → Nat) (moi_0 : Int32) (moi_2 : Int32) (moi_4 : Int32) (moi_8 : Int32) (moi_9 : Int32) (moi_11 : Int32) (moi_12 : Int32) (moi_13 : Int32) (moi_17 : Int32) (moi_18 : Int32) (moi_20 : Int32) (moi_21 : Int32) (moi_24 : Int32) (moi_26 : Int32) (moi_28 : Int32) (moi_30 : Int32) (moi_31 : Int32) (moi_32 : Int32) (mok_1 : Nat → Int32) (mok_3 : Nat → Int32) (mok_5 : Nat → Int32) (mok_6 : Nat → Int32) (mok_7 : Nat → Int32) (mok_10 : Nat → Int32) (mok_14 : Nat → Int32) (mok_15 : Nat → Int32) (mok_16 : Nat → Int32) (mok_19 : Nat → Int32) (mok_22 : Nat → Int32) (mok_23 : Nat → Int32) (mok_25 : Nat → Int32) (mok_27 : Nat → Int32) (mok_29 : Nat → Int32) (mok_33 : Nat → Int32) (mok_34 : Nat → Int32) (F : Nat) (a2 : Int32) (a4 : Int32) (hne : fX7_copy_now_tried F mok_22 mok_23 a2 a4 ≠ none) : xMv l yX7_copy wsX7_copy ({ frames := 0, cells := 0, slots := 0, locals := 0 } : Room) D (xT cI cP) [.ref (mor 22), .int a2, .ref (mor 23), .int a4] (wM cI mo mor moi_0 moi_2 moi_4 moi_8 moi_9 moi_11 moi_12 moi_13 moi_17 moi_18 moi_20 moi_21 moi_24 moi_26 moi_28 moi_30 moi_31 moi_32 mok_1 mok_3 mok_5 mok_6 mok_7 mok_10 mok_14 mok_15 mok_16 mok_19 mok_22 mok_23 mok_25 mok_27 mok_29 mok_33 mok_34) sz (fun (u : ((Nat → Int32))) => fX7_copy_now_tried F mok_22 mok_23 a2 a4 = some u) (fun u => wM cI mo mor moi_0 moi_2 moi_4 moi_8 moi_9 moi_11 moi_12 moi_13 moi_17 moi_18 moi_20 moi_21 moi_24 moi_26 moi_28 moi_30 moi_31 moi_32 mok_1 mok_3 mok_5 mok_6 mok_7 mok_10 mok_14 mok_15 mok_16 mok_19 mok_22 u mok_25 mok_27 mok_29 mok_33 mok_34) 0 0 := by
  refine xMv_of (cc := cX7_copy) (maxL := 5) (by decide +kernel) rfl (Nat.le_of_ble_eq_true rfl) ?_
  intro p e s m args below meth c A ls hx hb hml hown hts hname hN hK hA hP hD hS hl Q hret
  have he := fX7_copy_now_tried.eq_1 F mok_22 mok_23 a2 a4
  have hl : lv_has ls 5 [(0, .ref (mor 22)), (1, .int a2), (2, .ref (mor 23)), (3, .int a4)] := hl
  have R3_0 : ∀ (v3_4 : Int32) (w3_mok_23 : Nat → Int32), fX7_copy_now_tried F mok_22 mok_23 a2 a4 = (some w3_mok_23) → ∀ (H : Heap) (locs : List Loc) (ls : Array Slot), va_P D vwCl (wM cI mo mor moi_0 moi_2 moi_4 moi_8 moi_9 moi_11 moi_12 moi_13 moi_17 moi_18 moi_20 moi_21 moi_24 moi_26 moi_28 moi_30 moi_31 moi_32 mok_1 mok_3 mok_5 mok_6 mok_7 mok_10 mok_14 mok_15 mok_16 mok_19 mok_22 w3_mok_23 mok_25 mok_27 mok_29 mok_33 mok_34) H → va_D A (wM cI mo mor moi_0 moi_2 moi_4 moi_8 moi_9 moi_11 moi_12 moi_13 moi_17 moi_18 moi_20 moi_21 moi_24 moi_26 moi_28 moi_30 moi_31 moi_32 mok_1 mok_3 mok_5 mok_6 mok_7 mok_10 mok_14 mok_15 mok_16 mok_19 mok_22 w3_mok_23 mok_25 mok_27 mok_29 mok_33 mok_34) → va_S A s.heap H locs → lv_has ls 5 [] → W p l e ({ frames := 0, cells := 0, slots := 0, locals := 0 } : Room) s m args below meth c H locs 0 0 Q (F0 m 28 ls []) := by
    intro v3_4 w3_mok_23 he H locs ls hP hD hS hl
    exact hret w3_mok_23 _ _ _ _ dX7_copy_28 he hP hD hS
  have L3_3 : ∀ (n3 : Nat) (v3_4 : Int32) (w3_mok_23 : Nat → Int32), fX7_copy_now_tried F mok_22 mok_23 a2 a4 = fX7_copy_now_tried_L3 mok_22 a2 a4 (fun (v3_4 : Int32) (w3_mok_23 : Nat → Int32) => some w3_mok_23) n3 v3_4 w3_mok_23 → ∀ (H : Heap) (locs : List Loc) (ls : Array Slot), va_P D vwCl (wM cI mo mor moi_0 moi_2 moi_4 moi_8 moi_9 moi_11 moi_12 moi_13 moi_17 moi_18 moi_20 moi_21 moi_24 moi_26 moi_28 moi_30 moi_31 moi_32 mok_1 mok_3 mok_5 mok_6 mok_7 mok_10 mok_14 mok_15 mok_16 mok_19 mok_22 w3_mok_23 mok_25 mok_27 mok_29 mok_33 mok_34) H → va_D A (wM cI mo mor moi_0 moi_2 moi_4 moi_8 moi_9 moi_11 moi_12 moi_13 moi_17 moi_18 moi_20 moi_21 moi_24 moi_26 moi_28 moi_30 moi_31 moi_32 mok_1 mok_3 mok_5 mok_6 mok_7 mok_10 mok_14 mok_15 mok_16 mok_19 mok_22 w3_mok_23 mok_25 mok_27 mok_29 mok_33 mok_34) → va_S A s.heap H locs → lv_has ls 5 [(4, .int v3_4), (0, .ref (mor 22)), (1, .int a2), (2, .ref (mor 23)), (3, .int a4)] → W p l e ({ frames := 0, cells := 0, slots := 0, locals := 0 } : Room) s m args below meth c H locs 0 0 Q (F0 m 3 ls []) := by
    intro n3
    induction n3 with
    | zero => intro v3_4 w3_mok_23 he; exact absurd he hne
    | succ n3 ih3 =>
      intro v3_4 w3_mok_23 he H locs ls hP hD hS hl
      replace he := he.trans (fX7_copy_now_tried_L3.eq_2 _ _ _ _ _ _ _)
      refine lv_iload hx hb dX7_copy_3 (lv_at hl 0 rfl) ?_
      refine lv_bipush (v := 19) hx hb dX7_copy_5 (by decide) ?_
      refine lv_icmp_ge (tgt := 28) hx hb dX7_copy_7 (by decide) (fun c1 => ?_) (fun c1 => ?_)
      · replace he := he.trans (if_pos c1)
        exact R3_0 v3_4 w3_mok_23 he _ _ _ hP hD hS (lv_sub hl [] rfl)
      · replace he := he.trans (if_neg c1)
        refine lv_aload_n hx hb dX7_copy_10 rfl (lv_at hl 3 rfl) ?_
        refine lv_iload_n hx hb dX7_copy_11 rfl (lv_at hl 4 rfl) ?_
        refine lv_iload hx hb dX7_copy_12 (lv_at hl 0 rfl) ?_
        refine lv_iadd hx hb dX7_copy_14 ?_
        refine lv_aload_n hx hb dX7_copy_15 rfl (lv_at hl 1 rfl) ?_
        refine lv_iload_n hx hb dX7_copy_16 rfl (lv_at hl 2 rfl) ?_
        refine lv_iload hx hb dX7_copy_17 (lv_at hl 0 rfl) ?_
        refine lv_iadd hx hb dX7_copy_19 ?_
        by_cases g2 : (a2 + v3_4) < 0 ∨ 19 ≤ (a2 + v3_4).toNatClampNeg
        · exact absurd (he.trans (if_pos g2)) hne
        replace he := he.trans (if_neg g2)
        refine va_iald hx hb hK hP 11 0 wM_a22 rfl g2 dX7_copy_20 ?_
        by_cases g3 : (a4 + v3_4) < 0 ∨ 19 ≤ (a4 + v3_4).toNatClampNeg
        · exact absurd (he.trans (if_pos g3)) hne
        replace he := he.trans (if_neg g3)
        refine va_iast hx hb hK hP hD hS 12 0 wM_a23 rfl g3 dX7_copy_21 (fun H locs hP hD hS => ?_)
        rw [wM_s23] at hP hD
        refine lv_iinc (v := (v3_4 + 1)) (lv' := [(4, .int (v3_4 + 1)), (0, .ref (mor 22)), (1, .int a2), (2, .ref (mor 23)), (3, .int a4)]) hx hb dX7_copy_22 hl (k := 0) rfl rfl (by decide) rfl (fun ls hl => ?_)
        refine lv_goto (tgt := 3) hx hb dX7_copy_25 (by decide) ?_
        exact ih3 (v3_4 + 1) (upd w3_mok_23 (a4 + v3_4).toNatClampNeg (mok_22 (a2 + v3_4).toNatClampNeg)) he _ _ _ hP hD hS (lv_sub hl [0, 1, 2, 3, 4] rfl)
  refine lv_iconst (v := 0) hx hb dX7_copy_0 (by decide) ?_
  refine lv_istore (lv' := [(4, .int (0 : Int32)), (0, .ref (mor 22)), (1, .int a2), (2, .ref (mor 23)), (3, .int a4)]) hx hb dX7_copy_1 hl (by decide) rfl (fun ls hl => ?_)
  exact L3_3 F (0 : Int32) mok_23 he _ _ _ hP hD hS (lv_sub hl [0, 1, 2, 3, 4] rfl)

def fX7_copy_now_back_L3 (mok_22 : Nat → Int32) (a2 : Int32) (a4 : Int32) (k3 : Int32 → (Nat → Int32) → Option ((Nat → Int32))) : Nat → Int32 → (Nat → Int32) → Option ((Nat → Int32))
  | 0, _, _ => none
  | n3 + 1, v3_4, w3_mok_25 => if (19 : Int32) ≤ v3_4 then (k3 v3_4 w3_mok_25) else (if (a2 + v3_4) < 0 ∨ 19 ≤ (a2 + v3_4).toNatClampNeg then none else (if (a4 + v3_4) < 0 ∨ 152 ≤ (a4 + v3_4).toNatClampNeg then none else (fX7_copy_now_back_L3 mok_22 a2 a4 k3 n3 (v3_4 + 1) (upd w3_mok_25 (a4 + v3_4).toNatClampNeg (mok_22 (a2 + v3_4).toNatClampNeg)))))
def fX7_copy_now_back (F : Nat) (mok_22 : Nat → Int32) (mok_25 : Nat → Int32) (a2 : Int32) (a4 : Int32) : Option ((Nat → Int32)) :=
  fX7_copy_now_back_L3 mok_22 a2 a4 (fun (v3_4 : Int32) (w3_mok_25 : Nat → Int32) => some w3_mok_25) F (0 : Int32) mok_25
set_option maxHeartbeats 4000000 in
set_option maxRecDepth 100000 in
theorem c_X7_copy_now_back (l : Launch) (D : va_G) (cI cP : ClassId) (sz : Nat) (mo : Nat) (mor : Nat → Nat) (moi_0 : Int32) (moi_2 : Int32) (moi_4 : Int32) (moi_8 : Int32) (moi_9 : Int32) (moi_11 : Int32) (moi_12 : Int32) (moi_13 : Int32) (moi_17 : Int32) (moi_18 : Int32) (moi_20 : Int32) (moi_21 : Int32) (moi_24 : Int32) (moi_26 : Int32) (moi_28 : Int32) (moi_30 : Int32) (moi_31 : Int32) (moi_32 : Int32) (mok_1 : Nat → Int32) (mok_3 : Nat → Int32) (mok_5 : Nat → Int32) (mok_6 : Nat → Int32) (mok_7 : Nat → Int32) (mok_10 : Nat → Int32) (mok_14 : Nat → Int32) (mok_15 : Nat → Int32) (mok_16 : Nat → Int32) (mok_19 : Nat → Int32) (mok_22 : Nat → Int32) (mok_23 : Nat → Int32) (mok_25 : Nat → Int32) (mok_27 : Nat → Int32) (mok_29 : Nat → Int32) (mok_33 : Nat → Int32) (mok_34 : Nat → Int32) (F : Nat) (a2 : Int32) (a4 : Int32) (hne : fX7_copy_now_back F mok_22 mok_25 a2 a4 ≠ none) : xMv l yX7_copy wsX7_copy ({ frames := 0, cells := 0, slots := 0, locals := 0 } : Room) D (xT cI cP) [.ref (mor 22), .int a2, .ref (mor 25), .int a4] (wM cI mo mor moi_0 moi_2 moi_4 moi_8 moi_9 moi_11 moi_12 moi_13 moi_17 moi_18 moi_20 moi_21 moi_24 moi_26 moi_28 moi_30 moi_31 moi_32 mok_1 mok_3 mok_5 mok_6 mok_7 mok_10 mok_14 mok_15 mok_16 mok_19 mok_22 mok_23 mok_25 mok_27 mok_29 mok_33 mok_34) sz (fun (u : ((Nat → Int32))) => fX7_copy_now_back F mok_22 mok_25 a2 a4 = some u) (fun u => wM cI mo mor moi_0 moi_2 moi_4 moi_8 moi_9 moi_11 moi_12 moi_13 moi_17 moi_18 moi_20 moi_21 moi_24 moi_26 moi_28 moi_30 moi_31 moi_32 mok_1 mok_3 mok_5 mok_6 mok_7 mok_10 mok_14 mok_15 mok_16 mok_19 mok_22 mok_23 u mok_27 mok_29 mok_33 mok_34) 0 0 := by
  refine xMv_of (cc := cX7_copy) (maxL := 5) (by decide +kernel) rfl (Nat.le_of_ble_eq_true rfl) ?_
  intro p e s m args below meth c A ls hx hb hml hown hts hname hN hK hA hP hD hS hl Q hret
  have he := fX7_copy_now_back.eq_1 F mok_22 mok_25 a2 a4
  have hl : lv_has ls 5 [(0, .ref (mor 22)), (1, .int a2), (2, .ref (mor 25)), (3, .int a4)] := hl
  have R3_0 : ∀ (v3_4 : Int32) (w3_mok_25 : Nat → Int32), fX7_copy_now_back F mok_22 mok_25 a2 a4 = (some w3_mok_25) → ∀ (H : Heap) (locs : List Loc) (ls : Array Slot), va_P D vwCl (wM cI mo mor moi_0 moi_2 moi_4 moi_8 moi_9 moi_11 moi_12 moi_13 moi_17 moi_18 moi_20 moi_21 moi_24 moi_26 moi_28 moi_30 moi_31 moi_32 mok_1 mok_3 mok_5 mok_6 mok_7 mok_10 mok_14 mok_15 mok_16 mok_19 mok_22 mok_23 w3_mok_25 mok_27 mok_29 mok_33 mok_34) H → va_D A (wM cI mo mor moi_0 moi_2 moi_4 moi_8 moi_9 moi_11 moi_12 moi_13 moi_17 moi_18 moi_20 moi_21 moi_24 moi_26 moi_28 moi_30 moi_31 moi_32 mok_1 mok_3 mok_5 mok_6 mok_7 mok_10 mok_14 mok_15 mok_16 mok_19 mok_22 mok_23 w3_mok_25 mok_27 mok_29 mok_33 mok_34) → va_S A s.heap H locs → lv_has ls 5 [] → W p l e ({ frames := 0, cells := 0, slots := 0, locals := 0 } : Room) s m args below meth c H locs 0 0 Q (F0 m 28 ls []) := by
    intro v3_4 w3_mok_25 he H locs ls hP hD hS hl
    exact hret w3_mok_25 _ _ _ _ dX7_copy_28 he hP hD hS
  have L3_3 : ∀ (n3 : Nat) (v3_4 : Int32) (w3_mok_25 : Nat → Int32), fX7_copy_now_back F mok_22 mok_25 a2 a4 = fX7_copy_now_back_L3 mok_22 a2 a4 (fun (v3_4 : Int32) (w3_mok_25 : Nat → Int32) => some w3_mok_25) n3 v3_4 w3_mok_25 → ∀ (H : Heap) (locs : List Loc) (ls : Array Slot), va_P D vwCl (wM cI mo mor moi_0 moi_2 moi_4 moi_8 moi_9 moi_11 moi_12 moi_13 moi_17 moi_18 moi_20 moi_21 moi_24 moi_26 moi_28 moi_30 moi_31 moi_32 mok_1 mok_3 mok_5 mok_6 mok_7 mok_10 mok_14 mok_15 mok_16 mok_19 mok_22 mok_23 w3_mok_25 mok_27 mok_29 mok_33 mok_34) H → va_D A (wM cI mo mor moi_0 moi_2 moi_4 moi_8 moi_9 moi_11 moi_12 moi_13 moi_17 moi_18 moi_20 moi_21 moi_24 moi_26 moi_28 moi_30 moi_31 moi_32 mok_1 mok_3 mok_5 mok_6 mok_7 mok_10 mok_14 mok_15 mok_16 mok_19 mok_22 mok_23 w3_mok_25 mok_27 mok_29 mok_33 mok_34) → va_S A s.heap H locs → lv_has ls 5 [(4, .int v3_4), (0, .ref (mor 22)), (1, .int a2), (2, .ref (mor 25)), (3, .int a4)] → W p l e ({ frames := 0, cells := 0, slots := 0, locals := 0 } : Room) s m args below meth c H locs 0 0 Q (F0 m 3 ls []) := by
    intro n3
    induction n3 with
    | zero => intro v3_4 w3_mok_25 he; exact absurd he hne
    | succ n3 ih3 =>
      intro v3_4 w3_mok_25 he H locs ls hP hD hS hl
      replace he := he.trans (fX7_copy_now_back_L3.eq_2 _ _ _ _ _ _ _)
      refine lv_iload hx hb dX7_copy_3 (lv_at hl 0 rfl) ?_
      refine lv_bipush (v := 19) hx hb dX7_copy_5 (by decide) ?_
      refine lv_icmp_ge (tgt := 28) hx hb dX7_copy_7 (by decide) (fun c1 => ?_) (fun c1 => ?_)
      · replace he := he.trans (if_pos c1)
        exact R3_0 v3_4 w3_mok_25 he _ _ _ hP hD hS (lv_sub hl [] rfl)
      · replace he := he.trans (if_neg c1)
        refine lv_aload_n hx hb dX7_copy_10 rfl (lv_at hl 3 rfl) ?_
        refine lv_iload_n hx hb dX7_copy_11 rfl (lv_at hl 4 rfl) ?_
        refine lv_iload hx hb dX7_copy_12 (lv_at hl 0 rfl) ?_
        refine lv_iadd hx hb dX7_copy_14 ?_
        refine lv_aload_n hx hb dX7_copy_15 rfl (lv_at hl 1 rfl) ?_
        refine lv_iload_n hx hb dX7_copy_16 rfl (lv_at hl 2 rfl) ?_
        refine lv_iload hx hb dX7_copy_17 (lv_at hl 0 rfl) ?_
        refine lv_iadd hx hb dX7_copy_19 ?_
        by_cases g2 : (a2 + v3_4) < 0 ∨ 19 ≤ (a2 + v3_4).toNatClampNeg
        · exact absurd (he.trans (if_pos g2)) hne
        replace he := he.trans (if_neg g2)
        refine va_iald hx hb hK hP 11 0 wM_a22 rfl g2 dX7_copy_20 ?_
        by_cases g3 : (a4 + v3_4) < 0 ∨ 152 ≤ (a4 + v3_4).toNatClampNeg
        · exact absurd (he.trans (if_pos g3)) hne
        replace he := he.trans (if_neg g3)
        refine va_iast hx hb hK hP hD hS 13 0 wM_a25 rfl g3 dX7_copy_21 (fun H locs hP hD hS => ?_)
        rw [wM_s25] at hP hD
        refine lv_iinc (v := (v3_4 + 1)) (lv' := [(4, .int (v3_4 + 1)), (0, .ref (mor 22)), (1, .int a2), (2, .ref (mor 25)), (3, .int a4)]) hx hb dX7_copy_22 hl (k := 0) rfl rfl (by decide) rfl (fun ls hl => ?_)
        refine lv_goto (tgt := 3) hx hb dX7_copy_25 (by decide) ?_
        exact ih3 (v3_4 + 1) (upd w3_mok_25 (a4 + v3_4).toNatClampNeg (mok_22 (a2 + v3_4).toNatClampNeg)) he _ _ _ hP hD hS (lv_sub hl [0, 1, 2, 3, 4] rfl)
  refine lv_iconst (v := 0) hx hb dX7_copy_0 (by decide) ?_
  refine lv_istore (lv' := [(4, .int (0 : Int32)), (0, .ref (mor 22)), (1, .int a2), (2, .ref (mor 25)), (3, .int a4)]) hx hb dX7_copy_1 hl (by decide) rfl (fun ls hl => ?_)
  exact L3_3 F (0 : Int32) mok_25 he _ _ _ hP hD hS (lv_sub hl [0, 1, 2, 3, 4] rfl)

def fX7_copy_back_now_L3 (mok_25 : Nat → Int32) (a2 : Int32) (a4 : Int32) (k3 : Int32 → (Nat → Int32) → Option ((Nat → Int32))) : Nat → Int32 → (Nat → Int32) → Option ((Nat → Int32))
  | 0, _, _ => none
  | n3 + 1, v3_4, w3_mok_22 => if (19 : Int32) ≤ v3_4 then (k3 v3_4 w3_mok_22) else (if (a2 + v3_4) < 0 ∨ 152 ≤ (a2 + v3_4).toNatClampNeg then none else (if (a4 + v3_4) < 0 ∨ 19 ≤ (a4 + v3_4).toNatClampNeg then none else (fX7_copy_back_now_L3 mok_25 a2 a4 k3 n3 (v3_4 + 1) (upd w3_mok_22 (a4 + v3_4).toNatClampNeg (mok_25 (a2 + v3_4).toNatClampNeg)))))
def fX7_copy_back_now (F : Nat) (mok_22 : Nat → Int32) (mok_25 : Nat → Int32) (a2 : Int32) (a4 : Int32) : Option ((Nat → Int32)) :=
  fX7_copy_back_now_L3 mok_25 a2 a4 (fun (v3_4 : Int32) (w3_mok_22 : Nat → Int32) => some w3_mok_22) F (0 : Int32) mok_22
set_option maxHeartbeats 4000000 in
set_option maxRecDepth 100000 in
theorem c_X7_copy_back_now (l : Launch) (D : va_G) (cI cP : ClassId) (sz : Nat) (mo : Nat) (mor : Nat → Nat) (moi_0 : Int32) (moi_2 : Int32) (moi_4 : Int32) (moi_8 : Int32) (moi_9 : Int32) (moi_11 : Int32) (moi_12 : Int32) (moi_13 : Int32) (moi_17 : Int32) (moi_18 : Int32) (moi_20 : Int32) (moi_21 : Int32) (moi_24 : Int32) (moi_26 : Int32) (moi_28 : Int32) (moi_30 : Int32) (moi_31 : Int32) (moi_32 : Int32) (mok_1 : Nat → Int32) (mok_3 : Nat → Int32) (mok_5 : Nat → Int32) (mok_6 : Nat → Int32) (mok_7 : Nat → Int32) (mok_10 : Nat → Int32) (mok_14 : Nat → Int32) (mok_15 : Nat → Int32) (mok_16 : Nat → Int32) (mok_19 : Nat → Int32) (mok_22 : Nat → Int32) (mok_23 : Nat → Int32) (mok_25 : Nat → Int32) (mok_27 : Nat → Int32) (mok_29 : Nat → Int32) (mok_33 : Nat → Int32) (mok_34 : Nat → Int32) (F : Nat) (a2 : Int32) (a4 : Int32) (hne : fX7_copy_back_now F mok_22 mok_25 a2 a4 ≠ none) : xMv l yX7_copy wsX7_copy ({ frames := 0, cells := 0, slots := 0, locals := 0 } : Room) D (xT cI cP) [.ref (mor 25), .int a2, .ref (mor 22), .int a4] (wM cI mo mor moi_0 moi_2 moi_4 moi_8 moi_9 moi_11 moi_12 moi_13 moi_17 moi_18 moi_20 moi_21 moi_24 moi_26 moi_28 moi_30 moi_31 moi_32 mok_1 mok_3 mok_5 mok_6 mok_7 mok_10 mok_14 mok_15 mok_16 mok_19 mok_22 mok_23 mok_25 mok_27 mok_29 mok_33 mok_34) sz (fun (u : ((Nat → Int32))) => fX7_copy_back_now F mok_22 mok_25 a2 a4 = some u) (fun u => wM cI mo mor moi_0 moi_2 moi_4 moi_8 moi_9 moi_11 moi_12 moi_13 moi_17 moi_18 moi_20 moi_21 moi_24 moi_26 moi_28 moi_30 moi_31 moi_32 mok_1 mok_3 mok_5 mok_6 mok_7 mok_10 mok_14 mok_15 mok_16 mok_19 u mok_23 mok_25 mok_27 mok_29 mok_33 mok_34) 0 0 := by
  refine xMv_of (cc := cX7_copy) (maxL := 5) (by decide +kernel) rfl (Nat.le_of_ble_eq_true rfl) ?_
  intro p e s m args below meth c A ls hx hb hml hown hts hname hN hK hA hP hD hS hl Q hret
  have he := fX7_copy_back_now.eq_1 F mok_22 mok_25 a2 a4
  have hl : lv_has ls 5 [(0, .ref (mor 25)), (1, .int a2), (2, .ref (mor 22)), (3, .int a4)] := hl
  have R3_0 : ∀ (v3_4 : Int32) (w3_mok_22 : Nat → Int32), fX7_copy_back_now F mok_22 mok_25 a2 a4 = (some w3_mok_22) → ∀ (H : Heap) (locs : List Loc) (ls : Array Slot), va_P D vwCl (wM cI mo mor moi_0 moi_2 moi_4 moi_8 moi_9 moi_11 moi_12 moi_13 moi_17 moi_18 moi_20 moi_21 moi_24 moi_26 moi_28 moi_30 moi_31 moi_32 mok_1 mok_3 mok_5 mok_6 mok_7 mok_10 mok_14 mok_15 mok_16 mok_19 w3_mok_22 mok_23 mok_25 mok_27 mok_29 mok_33 mok_34) H → va_D A (wM cI mo mor moi_0 moi_2 moi_4 moi_8 moi_9 moi_11 moi_12 moi_13 moi_17 moi_18 moi_20 moi_21 moi_24 moi_26 moi_28 moi_30 moi_31 moi_32 mok_1 mok_3 mok_5 mok_6 mok_7 mok_10 mok_14 mok_15 mok_16 mok_19 w3_mok_22 mok_23 mok_25 mok_27 mok_29 mok_33 mok_34) → va_S A s.heap H locs → lv_has ls 5 [] → W p l e ({ frames := 0, cells := 0, slots := 0, locals := 0 } : Room) s m args below meth c H locs 0 0 Q (F0 m 28 ls []) := by
    intro v3_4 w3_mok_22 he H locs ls hP hD hS hl
    exact hret w3_mok_22 _ _ _ _ dX7_copy_28 he hP hD hS
  have L3_3 : ∀ (n3 : Nat) (v3_4 : Int32) (w3_mok_22 : Nat → Int32), fX7_copy_back_now F mok_22 mok_25 a2 a4 = fX7_copy_back_now_L3 mok_25 a2 a4 (fun (v3_4 : Int32) (w3_mok_22 : Nat → Int32) => some w3_mok_22) n3 v3_4 w3_mok_22 → ∀ (H : Heap) (locs : List Loc) (ls : Array Slot), va_P D vwCl (wM cI mo mor moi_0 moi_2 moi_4 moi_8 moi_9 moi_11 moi_12 moi_13 moi_17 moi_18 moi_20 moi_21 moi_24 moi_26 moi_28 moi_30 moi_31 moi_32 mok_1 mok_3 mok_5 mok_6 mok_7 mok_10 mok_14 mok_15 mok_16 mok_19 w3_mok_22 mok_23 mok_25 mok_27 mok_29 mok_33 mok_34) H → va_D A (wM cI mo mor moi_0 moi_2 moi_4 moi_8 moi_9 moi_11 moi_12 moi_13 moi_17 moi_18 moi_20 moi_21 moi_24 moi_26 moi_28 moi_30 moi_31 moi_32 mok_1 mok_3 mok_5 mok_6 mok_7 mok_10 mok_14 mok_15 mok_16 mok_19 w3_mok_22 mok_23 mok_25 mok_27 mok_29 mok_33 mok_34) → va_S A s.heap H locs → lv_has ls 5 [(4, .int v3_4), (0, .ref (mor 25)), (1, .int a2), (2, .ref (mor 22)), (3, .int a4)] → W p l e ({ frames := 0, cells := 0, slots := 0, locals := 0 } : Room) s m args below meth c H locs 0 0 Q (F0 m 3 ls []) := by
    intro n3
    induction n3 with
    | zero => intro v3_4 w3_mok_22 he; exact absurd he hne
    | succ n3 ih3 =>
      intro v3_4 w3_mok_22 he H locs ls hP hD hS hl
      replace he := he.trans (fX7_copy_back_now_L3.eq_2 _ _ _ _ _ _ _)
      refine lv_iload hx hb dX7_copy_3 (lv_at hl 0 rfl) ?_
      refine lv_bipush (v := 19) hx hb dX7_copy_5 (by decide) ?_
      refine lv_icmp_ge (tgt := 28) hx hb dX7_copy_7 (by decide) (fun c1 => ?_) (fun c1 => ?_)
      · replace he := he.trans (if_pos c1)
        exact R3_0 v3_4 w3_mok_22 he _ _ _ hP hD hS (lv_sub hl [] rfl)
      · replace he := he.trans (if_neg c1)
        refine lv_aload_n hx hb dX7_copy_10 rfl (lv_at hl 3 rfl) ?_
        refine lv_iload_n hx hb dX7_copy_11 rfl (lv_at hl 4 rfl) ?_
        refine lv_iload hx hb dX7_copy_12 (lv_at hl 0 rfl) ?_
        refine lv_iadd hx hb dX7_copy_14 ?_
        refine lv_aload_n hx hb dX7_copy_15 rfl (lv_at hl 1 rfl) ?_
        refine lv_iload_n hx hb dX7_copy_16 rfl (lv_at hl 2 rfl) ?_
        refine lv_iload hx hb dX7_copy_17 (lv_at hl 0 rfl) ?_
        refine lv_iadd hx hb dX7_copy_19 ?_
        by_cases g2 : (a2 + v3_4) < 0 ∨ 152 ≤ (a2 + v3_4).toNatClampNeg
        · exact absurd (he.trans (if_pos g2)) hne
        replace he := he.trans (if_neg g2)
        refine va_iald hx hb hK hP 13 0 wM_a25 rfl g2 dX7_copy_20 ?_
        by_cases g3 : (a4 + v3_4) < 0 ∨ 19 ≤ (a4 + v3_4).toNatClampNeg
        · exact absurd (he.trans (if_pos g3)) hne
        replace he := he.trans (if_neg g3)
        refine va_iast hx hb hK hP hD hS 11 0 wM_a22 rfl g3 dX7_copy_21 (fun H locs hP hD hS => ?_)
        rw [wM_s22] at hP hD
        refine lv_iinc (v := (v3_4 + 1)) (lv' := [(4, .int (v3_4 + 1)), (0, .ref (mor 25)), (1, .int a2), (2, .ref (mor 22)), (3, .int a4)]) hx hb dX7_copy_22 hl (k := 0) rfl rfl (by decide) rfl (fun ls hl => ?_)
        refine lv_goto (tgt := 3) hx hb dX7_copy_25 (by decide) ?_
        exact ih3 (v3_4 + 1) (upd w3_mok_22 (a4 + v3_4).toNatClampNeg (mok_25 (a2 + v3_4).toNatClampNeg)) he _ _ _ hP hD hS (lv_sub hl [0, 1, 2, 3, 4] rfl)
  refine lv_iconst (v := 0) hx hb dX7_copy_0 (by decide) ?_
  refine lv_istore (lv' := [(4, .int (0 : Int32)), (0, .ref (mor 25)), (1, .int a2), (2, .ref (mor 22)), (3, .int a4)]) hx hb dX7_copy_1 hl (by decide) rfl (fun ls hl => ?_)
  exact L3_3 F (0 : Int32) mok_22 he _ _ _ hP hD hS (lv_sub hl [0, 1, 2, 3, 4] rfl)

def fX7_copy_now_keep_L3 (mok_22 : Nat → Int32) (a2 : Int32) (a4 : Int32) (k3 : Int32 → (Nat → Int32) → Option ((Nat → Int32))) : Nat → Int32 → (Nat → Int32) → Option ((Nat → Int32))
  | 0, _, _ => none
  | n3 + 1, v3_4, w3_mok_27 => if (19 : Int32) ≤ v3_4 then (k3 v3_4 w3_mok_27) else (if (a2 + v3_4) < 0 ∨ 19 ≤ (a2 + v3_4).toNatClampNeg then none else (if (a4 + v3_4) < 0 ∨ 38 ≤ (a4 + v3_4).toNatClampNeg then none else (fX7_copy_now_keep_L3 mok_22 a2 a4 k3 n3 (v3_4 + 1) (upd w3_mok_27 (a4 + v3_4).toNatClampNeg (mok_22 (a2 + v3_4).toNatClampNeg)))))
def fX7_copy_now_keep (F : Nat) (mok_22 : Nat → Int32) (mok_27 : Nat → Int32) (a2 : Int32) (a4 : Int32) : Option ((Nat → Int32)) :=
  fX7_copy_now_keep_L3 mok_22 a2 a4 (fun (v3_4 : Int32) (w3_mok_27 : Nat → Int32) => some w3_mok_27) F (0 : Int32) mok_27
set_option maxHeartbeats 4000000 in
set_option maxRecDepth 100000 in
theorem c_X7_copy_now_keep (l : Launch) (D : va_G) (cI cP : ClassId) (sz : Nat) (mo : Nat) (mor : Nat → Nat) (moi_0 : Int32) (moi_2 : Int32) (moi_4 : Int32) (moi_8 : Int32) (moi_9 : Int32) (moi_11 : Int32) (moi_12 : Int32) (moi_13 : Int32) (moi_17 : Int32) (moi_18 : Int32) (moi_20 : Int32) (moi_21 : Int32) (moi_24 : Int32) (moi_26 : Int32) (moi_28 : Int32) (moi_30 : Int32) (moi_31 : Int32) (moi_32 : Int32) (mok_1 : Nat → Int32) (mok_3 : Nat → Int32) (mok_5 : Nat → Int32) (mok_6 : Nat → Int32) (mok_7 : Nat → Int32) (mok_10 : Nat → Int32) (mok_14 : Nat → Int32) (mok_15 : Nat → Int32) (mok_16 : Nat → Int32) (mok_19 : Nat → Int32) (mok_22 : Nat → Int32) (mok_23 : Nat → Int32) (mok_25 : Nat → Int32) (mok_27 : Nat → Int32) (mok_29 : Nat → Int32) (mok_33 : Nat → Int32) (mok_34 : Nat → Int32) (F : Nat) (a2 : Int32) (a4 : Int32) (hne : fX7_copy_now_keep F mok_22 mok_27 a2 a4 ≠ none) : xMv l yX7_copy wsX7_copy ({ frames := 0, cells := 0, slots := 0, locals := 0 } : Room) D (xT cI cP) [.ref (mor 22), .int a2, .ref (mor 27), .int a4] (wM cI mo mor moi_0 moi_2 moi_4 moi_8 moi_9 moi_11 moi_12 moi_13 moi_17 moi_18 moi_20 moi_21 moi_24 moi_26 moi_28 moi_30 moi_31 moi_32 mok_1 mok_3 mok_5 mok_6 mok_7 mok_10 mok_14 mok_15 mok_16 mok_19 mok_22 mok_23 mok_25 mok_27 mok_29 mok_33 mok_34) sz (fun (u : ((Nat → Int32))) => fX7_copy_now_keep F mok_22 mok_27 a2 a4 = some u) (fun u => wM cI mo mor moi_0 moi_2 moi_4 moi_8 moi_9 moi_11 moi_12 moi_13 moi_17 moi_18 moi_20 moi_21 moi_24 moi_26 moi_28 moi_30 moi_31 moi_32 mok_1 mok_3 mok_5 mok_6 mok_7 mok_10 mok_14 mok_15 mok_16 mok_19 mok_22 mok_23 mok_25 u mok_29 mok_33 mok_34) 0 0 := by
  refine xMv_of (cc := cX7_copy) (maxL := 5) (by decide +kernel) rfl (Nat.le_of_ble_eq_true rfl) ?_
  intro p e s m args below meth c A ls hx hb hml hown hts hname hN hK hA hP hD hS hl Q hret
  have he := fX7_copy_now_keep.eq_1 F mok_22 mok_27 a2 a4
  have hl : lv_has ls 5 [(0, .ref (mor 22)), (1, .int a2), (2, .ref (mor 27)), (3, .int a4)] := hl
  have R3_0 : ∀ (v3_4 : Int32) (w3_mok_27 : Nat → Int32), fX7_copy_now_keep F mok_22 mok_27 a2 a4 = (some w3_mok_27) → ∀ (H : Heap) (locs : List Loc) (ls : Array Slot), va_P D vwCl (wM cI mo mor moi_0 moi_2 moi_4 moi_8 moi_9 moi_11 moi_12 moi_13 moi_17 moi_18 moi_20 moi_21 moi_24 moi_26 moi_28 moi_30 moi_31 moi_32 mok_1 mok_3 mok_5 mok_6 mok_7 mok_10 mok_14 mok_15 mok_16 mok_19 mok_22 mok_23 mok_25 w3_mok_27 mok_29 mok_33 mok_34) H → va_D A (wM cI mo mor moi_0 moi_2 moi_4 moi_8 moi_9 moi_11 moi_12 moi_13 moi_17 moi_18 moi_20 moi_21 moi_24 moi_26 moi_28 moi_30 moi_31 moi_32 mok_1 mok_3 mok_5 mok_6 mok_7 mok_10 mok_14 mok_15 mok_16 mok_19 mok_22 mok_23 mok_25 w3_mok_27 mok_29 mok_33 mok_34) → va_S A s.heap H locs → lv_has ls 5 [] → W p l e ({ frames := 0, cells := 0, slots := 0, locals := 0 } : Room) s m args below meth c H locs 0 0 Q (F0 m 28 ls []) := by
    intro v3_4 w3_mok_27 he H locs ls hP hD hS hl
    exact hret w3_mok_27 _ _ _ _ dX7_copy_28 he hP hD hS
  have L3_3 : ∀ (n3 : Nat) (v3_4 : Int32) (w3_mok_27 : Nat → Int32), fX7_copy_now_keep F mok_22 mok_27 a2 a4 = fX7_copy_now_keep_L3 mok_22 a2 a4 (fun (v3_4 : Int32) (w3_mok_27 : Nat → Int32) => some w3_mok_27) n3 v3_4 w3_mok_27 → ∀ (H : Heap) (locs : List Loc) (ls : Array Slot), va_P D vwCl (wM cI mo mor moi_0 moi_2 moi_4 moi_8 moi_9 moi_11 moi_12 moi_13 moi_17 moi_18 moi_20 moi_21 moi_24 moi_26 moi_28 moi_30 moi_31 moi_32 mok_1 mok_3 mok_5 mok_6 mok_7 mok_10 mok_14 mok_15 mok_16 mok_19 mok_22 mok_23 mok_25 w3_mok_27 mok_29 mok_33 mok_34) H → va_D A (wM cI mo mor moi_0 moi_2 moi_4 moi_8 moi_9 moi_11 moi_12 moi_13 moi_17 moi_18 moi_20 moi_21 moi_24 moi_26 moi_28 moi_30 moi_31 moi_32 mok_1 mok_3 mok_5 mok_6 mok_7 mok_10 mok_14 mok_15 mok_16 mok_19 mok_22 mok_23 mok_25 w3_mok_27 mok_29 mok_33 mok_34) → va_S A s.heap H locs → lv_has ls 5 [(4, .int v3_4), (0, .ref (mor 22)), (1, .int a2), (2, .ref (mor 27)), (3, .int a4)] → W p l e ({ frames := 0, cells := 0, slots := 0, locals := 0 } : Room) s m args below meth c H locs 0 0 Q (F0 m 3 ls []) := by
    intro n3
    induction n3 with
    | zero => intro v3_4 w3_mok_27 he; exact absurd he hne
    | succ n3 ih3 =>
      intro v3_4 w3_mok_27 he H locs ls hP hD hS hl
      replace he := he.trans (fX7_copy_now_keep_L3.eq_2 _ _ _ _ _ _ _)
      refine lv_iload hx hb dX7_copy_3 (lv_at hl 0 rfl) ?_
      refine lv_bipush (v := 19) hx hb dX7_copy_5 (by decide) ?_
      refine lv_icmp_ge (tgt := 28) hx hb dX7_copy_7 (by decide) (fun c1 => ?_) (fun c1 => ?_)
      · replace he := he.trans (if_pos c1)
        exact R3_0 v3_4 w3_mok_27 he _ _ _ hP hD hS (lv_sub hl [] rfl)
      · replace he := he.trans (if_neg c1)
        refine lv_aload_n hx hb dX7_copy_10 rfl (lv_at hl 3 rfl) ?_
        refine lv_iload_n hx hb dX7_copy_11 rfl (lv_at hl 4 rfl) ?_
        refine lv_iload hx hb dX7_copy_12 (lv_at hl 0 rfl) ?_
        refine lv_iadd hx hb dX7_copy_14 ?_
        refine lv_aload_n hx hb dX7_copy_15 rfl (lv_at hl 1 rfl) ?_
        refine lv_iload_n hx hb dX7_copy_16 rfl (lv_at hl 2 rfl) ?_
        refine lv_iload hx hb dX7_copy_17 (lv_at hl 0 rfl) ?_
        refine lv_iadd hx hb dX7_copy_19 ?_
        by_cases g2 : (a2 + v3_4) < 0 ∨ 19 ≤ (a2 + v3_4).toNatClampNeg
        · exact absurd (he.trans (if_pos g2)) hne
        replace he := he.trans (if_neg g2)
        refine va_iald hx hb hK hP 11 0 wM_a22 rfl g2 dX7_copy_20 ?_
        by_cases g3 : (a4 + v3_4) < 0 ∨ 38 ≤ (a4 + v3_4).toNatClampNeg
        · exact absurd (he.trans (if_pos g3)) hne
        replace he := he.trans (if_neg g3)
        refine va_iast hx hb hK hP hD hS 14 0 wM_a27 rfl g3 dX7_copy_21 (fun H locs hP hD hS => ?_)
        rw [wM_s27] at hP hD
        refine lv_iinc (v := (v3_4 + 1)) (lv' := [(4, .int (v3_4 + 1)), (0, .ref (mor 22)), (1, .int a2), (2, .ref (mor 27)), (3, .int a4)]) hx hb dX7_copy_22 hl (k := 0) rfl rfl (by decide) rfl (fun ls hl => ?_)
        refine lv_goto (tgt := 3) hx hb dX7_copy_25 (by decide) ?_
        exact ih3 (v3_4 + 1) (upd w3_mok_27 (a4 + v3_4).toNatClampNeg (mok_22 (a2 + v3_4).toNatClampNeg)) he _ _ _ hP hD hS (lv_sub hl [0, 1, 2, 3, 4] rfl)
  refine lv_iconst (v := 0) hx hb dX7_copy_0 (by decide) ?_
  refine lv_istore (lv' := [(4, .int (0 : Int32)), (0, .ref (mor 22)), (1, .int a2), (2, .ref (mor 27)), (3, .int a4)]) hx hb dX7_copy_1 hl (by decide) rfl (fun ls hl => ?_)
  exact L3_3 F (0 : Int32) mok_27 he _ _ _ hP hD hS (lv_sub hl [0, 1, 2, 3, 4] rfl)

def fX7_copy_keep_now_L3 (mok_27 : Nat → Int32) (a2 : Int32) (a4 : Int32) (k3 : Int32 → (Nat → Int32) → Option ((Nat → Int32))) : Nat → Int32 → (Nat → Int32) → Option ((Nat → Int32))
  | 0, _, _ => none
  | n3 + 1, v3_4, w3_mok_22 => if (19 : Int32) ≤ v3_4 then (k3 v3_4 w3_mok_22) else (if (a2 + v3_4) < 0 ∨ 38 ≤ (a2 + v3_4).toNatClampNeg then none else (if (a4 + v3_4) < 0 ∨ 19 ≤ (a4 + v3_4).toNatClampNeg then none else (fX7_copy_keep_now_L3 mok_27 a2 a4 k3 n3 (v3_4 + 1) (upd w3_mok_22 (a4 + v3_4).toNatClampNeg (mok_27 (a2 + v3_4).toNatClampNeg)))))
def fX7_copy_keep_now (F : Nat) (mok_22 : Nat → Int32) (mok_27 : Nat → Int32) (a2 : Int32) (a4 : Int32) : Option ((Nat → Int32)) :=
  fX7_copy_keep_now_L3 mok_27 a2 a4 (fun (v3_4 : Int32) (w3_mok_22 : Nat → Int32) => some w3_mok_22) F (0 : Int32) mok_22
set_option maxHeartbeats 4000000 in
set_option maxRecDepth 100000 in
theorem c_X7_copy_keep_now (l : Launch) (D : va_G) (cI cP : ClassId) (sz : Nat) (mo : Nat) (mor : Nat → Nat) (moi_0 : Int32) (moi_2 : Int32) (moi_4 : Int32) (moi_8 : Int32) (moi_9 : Int32) (moi_11 : Int32) (moi_12 : Int32) (moi_13 : Int32) (moi_17 : Int32) (moi_18 : Int32) (moi_20 : Int32) (moi_21 : Int32) (moi_24 : Int32) (moi_26 : Int32) (moi_28 : Int32) (moi_30 : Int32) (moi_31 : Int32) (moi_32 : Int32) (mok_1 : Nat → Int32) (mok_3 : Nat → Int32) (mok_5 : Nat → Int32) (mok_6 : Nat → Int32) (mok_7 : Nat → Int32) (mok_10 : Nat → Int32) (mok_14 : Nat → Int32) (mok_15 : Nat → Int32) (mok_16 : Nat → Int32) (mok_19 : Nat → Int32) (mok_22 : Nat → Int32) (mok_23 : Nat → Int32) (mok_25 : Nat → Int32) (mok_27 : Nat → Int32) (mok_29 : Nat → Int32) (mok_33 : Nat → Int32) (mok_34 : Nat → Int32) (F : Nat) (a2 : Int32) (a4 : Int32) (hne : fX7_copy_keep_now F mok_22 mok_27 a2 a4 ≠ none) : xMv l yX7_copy wsX7_copy ({ frames := 0, cells := 0, slots := 0, locals := 0 } : Room) D (xT cI cP) [.ref (mor 27), .int a2, .ref (mor 22), .int a4] (wM cI mo mor moi_0 moi_2 moi_4 moi_8 moi_9 moi_11 moi_12 moi_13 moi_17 moi_18 moi_20 moi_21 moi_24 moi_26 moi_28 moi_30 moi_31 moi_32 mok_1 mok_3 mok_5 mok_6 mok_7 mok_10 mok_14 mok_15 mok_16 mok_19 mok_22 mok_23 mok_25 mok_27 mok_29 mok_33 mok_34) sz (fun (u : ((Nat → Int32))) => fX7_copy_keep_now F mok_22 mok_27 a2 a4 = some u) (fun u => wM cI mo mor moi_0 moi_2 moi_4 moi_8 moi_9 moi_11 moi_12 moi_13 moi_17 moi_18 moi_20 moi_21 moi_24 moi_26 moi_28 moi_30 moi_31 moi_32 mok_1 mok_3 mok_5 mok_6 mok_7 mok_10 mok_14 mok_15 mok_16 mok_19 u mok_23 mok_25 mok_27 mok_29 mok_33 mok_34) 0 0 := by
  refine xMv_of (cc := cX7_copy) (maxL := 5) (by decide +kernel) rfl (Nat.le_of_ble_eq_true rfl) ?_
  intro p e s m args below meth c A ls hx hb hml hown hts hname hN hK hA hP hD hS hl Q hret
  have he := fX7_copy_keep_now.eq_1 F mok_22 mok_27 a2 a4
  have hl : lv_has ls 5 [(0, .ref (mor 27)), (1, .int a2), (2, .ref (mor 22)), (3, .int a4)] := hl
  have R3_0 : ∀ (v3_4 : Int32) (w3_mok_22 : Nat → Int32), fX7_copy_keep_now F mok_22 mok_27 a2 a4 = (some w3_mok_22) → ∀ (H : Heap) (locs : List Loc) (ls : Array Slot), va_P D vwCl (wM cI mo mor moi_0 moi_2 moi_4 moi_8 moi_9 moi_11 moi_12 moi_13 moi_17 moi_18 moi_20 moi_21 moi_24 moi_26 moi_28 moi_30 moi_31 moi_32 mok_1 mok_3 mok_5 mok_6 mok_7 mok_10 mok_14 mok_15 mok_16 mok_19 w3_mok_22 mok_23 mok_25 mok_27 mok_29 mok_33 mok_34) H → va_D A (wM cI mo mor moi_0 moi_2 moi_4 moi_8 moi_9 moi_11 moi_12 moi_13 moi_17 moi_18 moi_20 moi_21 moi_24 moi_26 moi_28 moi_30 moi_31 moi_32 mok_1 mok_3 mok_5 mok_6 mok_7 mok_10 mok_14 mok_15 mok_16 mok_19 w3_mok_22 mok_23 mok_25 mok_27 mok_29 mok_33 mok_34) → va_S A s.heap H locs → lv_has ls 5 [] → W p l e ({ frames := 0, cells := 0, slots := 0, locals := 0 } : Room) s m args below meth c H locs 0 0 Q (F0 m 28 ls []) := by
    intro v3_4 w3_mok_22 he H locs ls hP hD hS hl
    exact hret w3_mok_22 _ _ _ _ dX7_copy_28 he hP hD hS
  have L3_3 : ∀ (n3 : Nat) (v3_4 : Int32) (w3_mok_22 : Nat → Int32), fX7_copy_keep_now F mok_22 mok_27 a2 a4 = fX7_copy_keep_now_L3 mok_27 a2 a4 (fun (v3_4 : Int32) (w3_mok_22 : Nat → Int32) => some w3_mok_22) n3 v3_4 w3_mok_22 → ∀ (H : Heap) (locs : List Loc) (ls : Array Slot), va_P D vwCl (wM cI mo mor moi_0 moi_2 moi_4 moi_8 moi_9 moi_11 moi_12 moi_13 moi_17 moi_18 moi_20 moi_21 moi_24 moi_26 moi_28 moi_30 moi_31 moi_32 mok_1 mok_3 mok_5 mok_6 mok_7 mok_10 mok_14 mok_15 mok_16 mok_19 w3_mok_22 mok_23 mok_25 mok_27 mok_29 mok_33 mok_34) H → va_D A (wM cI mo mor moi_0 moi_2 moi_4 moi_8 moi_9 moi_11 moi_12 moi_13 moi_17 moi_18 moi_20 moi_21 moi_24 moi_26 moi_28 moi_30 moi_31 moi_32 mok_1 mok_3 mok_5 mok_6 mok_7 mok_10 mok_14 mok_15 mok_16 mok_19 w3_mok_22 mok_23 mok_25 mok_27 mok_29 mok_33 mok_34) → va_S A s.heap H locs → lv_has ls 5 [(4, .int v3_4), (0, .ref (mor 27)), (1, .int a2), (2, .ref (mor 22)), (3, .int a4)] → W p l e ({ frames := 0, cells := 0, slots := 0, locals := 0 } : Room) s m args below meth c H locs 0 0 Q (F0 m 3 ls []) := by
    intro n3
    induction n3 with
    | zero => intro v3_4 w3_mok_22 he; exact absurd he hne
    | succ n3 ih3 =>
      intro v3_4 w3_mok_22 he H locs ls hP hD hS hl
      replace he := he.trans (fX7_copy_keep_now_L3.eq_2 _ _ _ _ _ _ _)
      refine lv_iload hx hb dX7_copy_3 (lv_at hl 0 rfl) ?_
      refine lv_bipush (v := 19) hx hb dX7_copy_5 (by decide) ?_
      refine lv_icmp_ge (tgt := 28) hx hb dX7_copy_7 (by decide) (fun c1 => ?_) (fun c1 => ?_)
      · replace he := he.trans (if_pos c1)
        exact R3_0 v3_4 w3_mok_22 he _ _ _ hP hD hS (lv_sub hl [] rfl)
      · replace he := he.trans (if_neg c1)
        refine lv_aload_n hx hb dX7_copy_10 rfl (lv_at hl 3 rfl) ?_
        refine lv_iload_n hx hb dX7_copy_11 rfl (lv_at hl 4 rfl) ?_
        refine lv_iload hx hb dX7_copy_12 (lv_at hl 0 rfl) ?_
        refine lv_iadd hx hb dX7_copy_14 ?_
        refine lv_aload_n hx hb dX7_copy_15 rfl (lv_at hl 1 rfl) ?_
        refine lv_iload_n hx hb dX7_copy_16 rfl (lv_at hl 2 rfl) ?_
        refine lv_iload hx hb dX7_copy_17 (lv_at hl 0 rfl) ?_
        refine lv_iadd hx hb dX7_copy_19 ?_
        by_cases g2 : (a2 + v3_4) < 0 ∨ 38 ≤ (a2 + v3_4).toNatClampNeg
        · exact absurd (he.trans (if_pos g2)) hne
        replace he := he.trans (if_neg g2)
        refine va_iald hx hb hK hP 14 0 wM_a27 rfl g2 dX7_copy_20 ?_
        by_cases g3 : (a4 + v3_4) < 0 ∨ 19 ≤ (a4 + v3_4).toNatClampNeg
        · exact absurd (he.trans (if_pos g3)) hne
        replace he := he.trans (if_neg g3)
        refine va_iast hx hb hK hP hD hS 11 0 wM_a22 rfl g3 dX7_copy_21 (fun H locs hP hD hS => ?_)
        rw [wM_s22] at hP hD
        refine lv_iinc (v := (v3_4 + 1)) (lv' := [(4, .int (v3_4 + 1)), (0, .ref (mor 27)), (1, .int a2), (2, .ref (mor 22)), (3, .int a4)]) hx hb dX7_copy_22 hl (k := 0) rfl rfl (by decide) rfl (fun ls hl => ?_)
        refine lv_goto (tgt := 3) hx hb dX7_copy_25 (by decide) ?_
        exact ih3 (v3_4 + 1) (upd w3_mok_22 (a4 + v3_4).toNatClampNeg (mok_27 (a2 + v3_4).toNatClampNeg)) he _ _ _ hP hD hS (lv_sub hl [0, 1, 2, 3, 4] rfl)
  refine lv_iconst (v := 0) hx hb dX7_copy_0 (by decide) ?_
  refine lv_istore (lv' := [(4, .int (0 : Int32)), (0, .ref (mor 27)), (1, .int a2), (2, .ref (mor 22)), (3, .int a4)]) hx hb dX7_copy_1 hl (by decide) rfl (fun ls hl => ?_)
  exact L3_3 F (0 : Int32) mok_22 he _ _ _ hP hD hS (lv_sub hl [0, 1, 2, 3, 4] rfl)

def fX7_ring_now_L142 (moi_13 : Int32) (k142 : Int32 → (Nat → Int32) → Option ((Nat → Int32) × (Nat → Int32))) : Nat → Int32 → (Nat → Int32) → Option ((Nat → Int32) × (Nat → Int32))
  | 0, _, _ => none
  | n142 + 1, v142_2, w142_mok_22 => if moi_13 ≤ v142_2 then (k142 v142_2 w142_mok_22) else (if ((6 : Int32) + v142_2) < 0 ∨ 19 ≤ ((6 : Int32) + v142_2).toNatClampNeg then none else (if ((12 : Int32) + v142_2) < 0 ∨ 19 ≤ ((12 : Int32) + v142_2).toNatClampNeg then none else (if ((6 : Int32) + v142_2) < 0 ∨ 19 ≤ ((6 : Int32) + v142_2).toNatClampNeg then none else (if ((6 : Int32) + v142_2) < 0 ∨ 19 ≤ ((6 : Int32) + v142_2).toNatClampNeg then none else (if ((upd w142_mok_22 ((6 : Int32) + v142_2).toNatClampNeg ((w142_mok_22 ((6 : Int32) + v142_2).toNatClampNeg) - (w142_mok_22 ((12 : Int32) + v142_2).toNatClampNeg))) ((6 : Int32) + v142_2).toNatClampNeg) = 0 then (if ((12 : Int32) + v142_2) < 0 ∨ 19 ≤ ((12 : Int32) + v142_2).toNatClampNeg then none else (fX7_ring_now_L142 moi_13 k142 n142 (v142_2 + 1) (upd (upd w142_mok_22 ((6 : Int32) + v142_2).toNatClampNeg ((w142_mok_22 ((6 : Int32) + v142_2).toNatClampNeg) - (w142_mok_22 ((12 : Int32) + v142_2).toNatClampNeg))) ((12 : Int32) + v142_2).toNatClampNeg (0 : Int32)))) else (if ((12 : Int32) + v142_2) < 0 ∨ 19 ≤ ((12 : Int32) + v142_2).toNatClampNeg then none else (if ((12 : Int32) + v142_2) < 0 ∨ 19 ≤ ((12 : Int32) + v142_2).toNatClampNeg then none else (fX7_ring_now_L142 moi_13 k142 n142 (v142_2 + 1) (upd (upd w142_mok_22 ((6 : Int32) + v142_2).toNatClampNeg ((w142_mok_22 ((6 : Int32) + v142_2).toNatClampNeg) - (w142_mok_22 ((12 : Int32) + v142_2).toNatClampNeg))) ((12 : Int32) + v142_2).toNatClampNeg ((upd w142_mok_22 ((6 : Int32) + v142_2).toNatClampNeg ((w142_mok_22 ((6 : Int32) + v142_2).toNatClampNeg) - (w142_mok_22 ((12 : Int32) + v142_2).toNatClampNeg))) ((12 : Int32) + v142_2).toNatClampNeg))))))))))
def fX7_ring_now_L70 (moi_18 : Int32) (mok_19 : Nat → Int32) (k70 : Int32 → (Nat → Int32) → Option ((Nat → Int32) × (Nat → Int32))) : Nat → Int32 → (Nat → Int32) → Option ((Nat → Int32) × (Nat → Int32))
  | 0, _, _ => none
  | n70 + 1, v70_2, w70_mok_22 => if moi_18 ≤ v70_2 then (k70 v70_2 w70_mok_22) else (if ((2 : Int32) * v70_2) < 0 ∨ 12 ≤ ((2 : Int32) * v70_2).toNatClampNeg then none else (if (mok_19 ((2 : Int32) * v70_2).toNatClampNeg) = (w70_mok_22 (18 : Int32).toNatClampNeg) then (if (((2 : Int32) * v70_2) + (1 : Int32)) < 0 ∨ 12 ≤ (((2 : Int32) * v70_2) + (1 : Int32)).toNatClampNeg then none else (if (mok_19 (((2 : Int32) * v70_2) + (1 : Int32)).toNatClampNeg) < 0 ∨ 19 ≤ (mok_19 (((2 : Int32) * v70_2) + (1 : Int32)).toNatClampNeg).toNatClampNeg then none else (if ((12 : Int32) + (w70_mok_22 (mok_19 (((2 : Int32) * v70_2) + (1 : Int32)).toNatClampNeg).toNatClampNeg)) < 0 ∨ 19 ≤ ((12 : Int32) + (w70_mok_22 (mok_19 (((2 : Int32) * v70_2) + (1 : Int32)).toNatClampNeg).toNatClampNeg)).toNatClampNeg then none else (fX7_ring_now_L70 moi_18 mok_19 k70 n70 (v70_2 + 1) (upd w70_mok_22 ((12 : Int32) + (w70_mok_22 (mok_19 (((2 : Int32) * v70_2) + (1 : Int32)).toNatClampNeg).toNatClampNeg)).toNatClampNeg (0 : Int32)))))) else (fX7_ring_now_L70 moi_18 mok_19 k70 n70 (v70_2 + 1) w70_mok_22)))
def fX7_ring_now_L45 (moi_13 : Int32) (w10_mok_33 : Nat → Int32) (k45 : Int32 → (Nat → Int32) → Option ((Nat → Int32) × (Nat → Int32))) : Nat → Int32 → (Nat → Int32) → Option ((Nat → Int32) × (Nat → Int32))
  | 0, _, _ => none
  | n45 + 1, v45_2, w45_mok_22 => if moi_13 ≤ v45_2 then (k45 v45_2 w45_mok_22) else (if v45_2 < 0 ∨ 6 ≤ v45_2.toNatClampNeg then none else (if v45_2 < 0 ∨ 19 ≤ v45_2.toNatClampNeg then none else (fX7_ring_now_L45 moi_13 w10_mok_33 k45 n45 (v45_2 + 1) (upd w45_mok_22 v45_2.toNatClampNeg (w10_mok_33 v45_2.toNatClampNeg)))))
def fX7_ring_now_L10 (moi_13 : Int32) (moi_17 : Int32) (mok_22 : Nat → Int32) (k10 : Int32 → (Nat → Int32) → Option ((Nat → Int32) × (Nat → Int32))) : Nat → Int32 → (Nat → Int32) → Option ((Nat → Int32) × (Nat → Int32))
  | 0, _, _ => none
  | n10 + 1, v10_2, w10_mok_33 => if moi_13 ≤ v10_2 then (k10 v10_2 w10_mok_33) else (if moi_13 = 0 then none else (if v10_2 < 0 ∨ 19 ≤ v10_2.toNatClampNeg then none else (if ((v10_2 + moi_17) - (v10_2 + moi_17) / moi_13 * moi_13) < 0 ∨ 6 ≤ ((v10_2 + moi_17) - (v10_2 + moi_17) / moi_13 * moi_13).toNatClampNeg then none else (fX7_ring_now_L10 moi_13 moi_17 mok_22 k10 n10 (v10_2 + 1) (upd w10_mok_33 ((v10_2 + moi_17) - (v10_2 + moi_17) / moi_13 * moi_13).toNatClampNeg ((upd mok_22 (18 : Int32).toNatClampNeg ((mok_22 (18 : Int32).toNatClampNeg) + (1 : Int32))) v10_2.toNatClampNeg))))))
def fX7_ring_now (F : Nat) (moi_13 : Int32) (moi_17 : Int32) (moi_18 : Int32) (moi_30 : Int32) (moi_31 : Int32) (mok_19 : Nat → Int32) (mok_22 : Nat → Int32) (mok_33 : Nat → Int32) : Option ((Nat → Int32) × (Nat → Int32)) :=
  fX7_ring_now_L10 moi_13 moi_17 mok_22 (fun (v10_2 : Int32) (w10_mok_33 : Nat → Int32) => fX7_ring_now_L45 moi_13 w10_mok_33 (fun (v45_2 : Int32) (w45_mok_22 : Nat → Int32) => fX7_ring_now_L70 moi_18 mok_19 (fun (v70_2 : Int32) (w70_mok_22 : Nat → Int32) => if moi_30 = (w70_mok_22 (18 : Int32).toNatClampNeg) then (if moi_31 < 0 ∨ 19 ≤ moi_31.toNatClampNeg then none else (if ((12 : Int32) + (w70_mok_22 moi_31.toNatClampNeg)) < 0 ∨ 19 ≤ ((12 : Int32) + (w70_mok_22 moi_31.toNatClampNeg)).toNatClampNeg then none else (fX7_ring_now_L142 moi_13 (fun (v142_2 : Int32) (w142_mok_22 : Nat → Int32) => some (w142_mok_22, w10_mok_33)) F (0 : Int32) (upd w70_mok_22 ((12 : Int32) + (w70_mok_22 moi_31.toNatClampNeg)).toNatClampNeg (0 : Int32))))) else (fX7_ring_now_L142 moi_13 (fun (v142_2 : Int32) (w142_mok_22 : Nat → Int32) => some (w142_mok_22, w10_mok_33)) F (0 : Int32) w70_mok_22)) F (0 : Int32) w45_mok_22) F (0 : Int32) (upd mok_22 (18 : Int32).toNatClampNeg ((mok_22 (18 : Int32).toNatClampNeg) + (1 : Int32)))) F (0 : Int32) mok_33
theorem hi_X7_ring_now_7 : ∀ w ∈ wsX70, w ∈ wsX7_ring := fun _ h => (List.mem_cons_of_mem _ (List.mem_append_right _ h))
set_option maxHeartbeats 4000000 in
set_option maxRecDepth 100000 in
theorem c_X7_ring_now (l : Launch) (D : va_G) (cI cP : ClassId) (sz : Nat) (mo : Nat) (mor : Nat → Nat) (moi_0 : Int32) (moi_2 : Int32) (moi_4 : Int32) (moi_8 : Int32) (moi_9 : Int32) (moi_11 : Int32) (moi_12 : Int32) (moi_13 : Int32) (moi_17 : Int32) (moi_18 : Int32) (moi_20 : Int32) (moi_21 : Int32) (moi_24 : Int32) (moi_26 : Int32) (moi_28 : Int32) (moi_30 : Int32) (moi_31 : Int32) (moi_32 : Int32) (mok_1 : Nat → Int32) (mok_3 : Nat → Int32) (mok_5 : Nat → Int32) (mok_6 : Nat → Int32) (mok_7 : Nat → Int32) (mok_10 : Nat → Int32) (mok_14 : Nat → Int32) (mok_15 : Nat → Int32) (mok_16 : Nat → Int32) (mok_19 : Nat → Int32) (mok_22 : Nat → Int32) (mok_23 : Nat → Int32) (mok_25 : Nat → Int32) (mok_27 : Nat → Int32) (mok_29 : Nat → Int32) (mok_33 : Nat → Int32) (mok_34 : Nat → Int32) (F : Nat) (hne : fX7_ring_now F moi_13 moi_17 moi_18 moi_30 moi_31 mok_19 mok_22 mok_33 ≠ none) : xMv l yX7_ring wsX7_ring ({ frames := 0, cells := 0, slots := 0, locals := 0 } : Room) D (xT cI cP) [.ref mo, .ref (mor 22)] (wM cI mo mor moi_0 moi_2 moi_4 moi_8 moi_9 moi_11 moi_12 moi_13 moi_17 moi_18 moi_20 moi_21 moi_24 moi_26 moi_28 moi_30 moi_31 moi_32 mok_1 mok_3 mok_5 mok_6 mok_7 mok_10 mok_14 mok_15 mok_16 mok_19 mok_22 mok_23 mok_25 mok_27 mok_29 mok_33 mok_34) sz (fun (u : ((Nat → Int32) × (Nat → Int32))) => fX7_ring_now F moi_13 moi_17 moi_18 moi_30 moi_31 mok_19 mok_22 mok_33 = some u) (fun u => wM cI mo mor moi_0 moi_2 moi_4 moi_8 moi_9 moi_11 moi_12 moi_13 moi_17 moi_18 moi_20 moi_21 moi_24 moi_26 moi_28 moi_30 moi_31 moi_32 mok_1 mok_3 mok_5 mok_6 mok_7 mok_10 mok_14 mok_15 mok_16 mok_19 u.1 mok_23 mok_25 mok_27 mok_29 u.2 mok_34) 0 0 := by
  refine xMv_of (cc := cX7_ring) (maxL := 3) (by decide +kernel) rfl (Nat.le_of_ble_eq_true rfl) ?_
  intro p e s m args below meth c A ls hx hb hml hown hts hname hN hK hA hP hD hS hl Q hret
  have he := fX7_ring_now.eq_1 F moi_13 moi_17 moi_18 moi_30 moi_31 mok_19 mok_22 mok_33
  have hl : lv_has ls 3 [(0, .ref mo), (1, .ref (mor 22))] := hl
  have R142_0 : ∀ (w10_mok_33 : Nat → Int32) (v142_2 : Int32) (w142_mok_22 : Nat → Int32), fX7_ring_now F moi_13 moi_17 moi_18 moi_30 moi_31 mok_19 mok_22 mok_33 = (some (w142_mok_22, w10_mok_33)) → ∀ (H : Heap) (locs : List Loc) (ls : Array Slot), va_P D vwCl (wM cI mo mor moi_0 moi_2 moi_4 moi_8 moi_9 moi_11 moi_12 moi_13 moi_17 moi_18 moi_20 moi_21 moi_24 moi_26 moi_28 moi_30 moi_31 moi_32 mok_1 mok_3 mok_5 mok_6 mok_7 mok_10 mok_14 mok_15 mok_16 mok_19 w142_mok_22 mok_23 mok_25 mok_27 mok_29 w10_mok_33 mok_34) H → va_D A (wM cI mo mor moi_0 moi_2 moi_4 moi_8 moi_9 moi_11 moi_12 moi_13 moi_17 moi_18 moi_20 moi_21 moi_24 moi_26 moi_28 moi_30 moi_31 moi_32 mok_1 mok_3 mok_5 mok_6 mok_7 mok_10 mok_14 mok_15 mok_16 mok_19 w142_mok_22 mok_23 mok_25 mok_27 mok_29 w10_mok_33 mok_34) → va_S A s.heap H locs → lv_has ls 3 [] → W p l e ({ frames := 0, cells := 0, slots := 0, locals := 0 } : Room) s m args below meth c H locs 0 0 Q (F0 m 196 ls []) := by
    intro w10_mok_33 v142_2 w142_mok_22 he H locs ls hP hD hS hl
    exact hret (w142_mok_22, w10_mok_33) _ _ _ _ dX7_ring_196 he hP hD hS
  have L142_3 : ∀ (w10_mok_33 : Nat → Int32) (n142 : Nat) (v142_2 : Int32) (w142_mok_22 : Nat → Int32), fX7_ring_now F moi_13 moi_17 moi_18 moi_30 moi_31 mok_19 mok_22 mok_33 = fX7_ring_now_L142 moi_13 (fun (v142_2 : Int32) (w142_mok_22 : Nat → Int32) => some (w142_mok_22, w10_mok_33)) n142 v142_2 w142_mok_22 → ∀ (H : Heap) (locs : List Loc) (ls : Array Slot), va_P D vwCl (wM cI mo mor moi_0 moi_2 moi_4 moi_8 moi_9 moi_11 moi_12 moi_13 moi_17 moi_18 moi_20 moi_21 moi_24 moi_26 moi_28 moi_30 moi_31 moi_32 mok_1 mok_3 mok_5 mok_6 mok_7 mok_10 mok_14 mok_15 mok_16 mok_19 w142_mok_22 mok_23 mok_25 mok_27 mok_29 w10_mok_33 mok_34) H → va_D A (wM cI mo mor moi_0 moi_2 moi_4 moi_8 moi_9 moi_11 moi_12 moi_13 moi_17 moi_18 moi_20 moi_21 moi_24 moi_26 moi_28 moi_30 moi_31 moi_32 mok_1 mok_3 mok_5 mok_6 mok_7 mok_10 mok_14 mok_15 mok_16 mok_19 w142_mok_22 mok_23 mok_25 mok_27 mok_29 w10_mok_33 mok_34) → va_S A s.heap H locs → lv_has ls 3 [(2, .int v142_2), (0, .ref mo), (1, .ref (mor 22))] → W p l e ({ frames := 0, cells := 0, slots := 0, locals := 0 } : Room) s m args below meth c H locs 0 0 Q (F0 m 142 ls []) := by
    intro w10_mok_33 n142
    induction n142 with
    | zero => intro v142_2 w142_mok_22 he; exact absurd he hne
    | succ n142 ih142 =>
      intro v142_2 w142_mok_22 he H locs ls hP hD hS hl
      replace he := he.trans (fX7_ring_now_L142.eq_2 _ _ _ _ _)
      refine lv_iload_n hx hb dX7_ring_142 rfl (lv_at hl 0 rfl) ?_
      refine lv_aload_n hx hb dX7_ring_143 rfl (lv_at hl 1 rfl) ?_
      refine va_get (D := D) (ci := 7) (v := .int moi_13) (C := RX7) (T := TX7) (N := 35) hx hb hts hi_X7_ring_now_7 hown hK hP 0 wM_0 rfl 13 (by decide) (hts (.fieldLink RX7 71 "BlindLanternsModel" "men" "I") (List.mem_of_getElem? (i := 1) rfl)) (fun _ h9 => h9) xMf_13 dX7_ring_144 ?_
      refine lv_icmp_ge (tgt := 196) hx hb dX7_ring_147 (by decide) (fun c2 => ?_) (fun c2 => ?_)
      · replace he := he.trans (if_pos c2)
        exact R142_0 w10_mok_33 v142_2 w142_mok_22 he _ _ _ hP hD hS (lv_sub hl [] rfl)
      · replace he := he.trans (if_neg c2)
        refine lv_aload_n hx hb dX7_ring_150 rfl (lv_at hl 2 rfl) ?_
        refine lv_bipush (v := 6) hx hb dX7_ring_151 (by decide) ?_
        refine lv_iload_n hx hb dX7_ring_153 rfl (lv_at hl 0 rfl) ?_
        refine lv_iadd hx hb dX7_ring_154 ?_
        refine lv_dup2_11 hx hb dX7_ring_155 rfl rfl ?_
        by_cases g3 : ((6 : Int32) + v142_2) < 0 ∨ 19 ≤ ((6 : Int32) + v142_2).toNatClampNeg
        · exact absurd (he.trans (if_pos g3)) hne
        replace he := he.trans (if_neg g3)
        refine va_iald hx hb hK hP 11 0 wM_a22 rfl g3 dX7_ring_156 ?_
        refine lv_aload_n hx hb dX7_ring_157 rfl (lv_at hl 2 rfl) ?_
        refine lv_bipush (v := 12) hx hb dX7_ring_158 (by decide) ?_
        refine lv_iload_n hx hb dX7_ring_160 rfl (lv_at hl 0 rfl) ?_
        refine lv_iadd hx hb dX7_ring_161 ?_
        by_cases g4 : ((12 : Int32) + v142_2) < 0 ∨ 19 ≤ ((12 : Int32) + v142_2).toNatClampNeg
        · exact absurd (he.trans (if_pos g4)) hne
        replace he := he.trans (if_neg g4)
        refine va_iald hx hb hK hP 11 0 wM_a22 rfl g4 dX7_ring_162 ?_
        refine lv_isub hx hb dX7_ring_163 ?_
        by_cases g5 : ((6 : Int32) + v142_2) < 0 ∨ 19 ≤ ((6 : Int32) + v142_2).toNatClampNeg
        · exact absurd (he.trans (if_pos g5)) hne
        replace he := he.trans (if_neg g5)
        refine va_iast hx hb hK hP hD hS 11 0 wM_a22 rfl g5 dX7_ring_164 (fun H locs hP hD hS => ?_)
        rw [wM_s22] at hP hD
        refine lv_aload_n hx hb dX7_ring_165 rfl (lv_at hl 2 rfl) ?_
        refine lv_bipush (v := 12) hx hb dX7_ring_166 (by decide) ?_
        refine lv_iload_n hx hb dX7_ring_168 rfl (lv_at hl 0 rfl) ?_
        refine lv_iadd hx hb dX7_ring_169 ?_
        refine lv_aload_n hx hb dX7_ring_170 rfl (lv_at hl 2 rfl) ?_
        refine lv_bipush (v := 6) hx hb dX7_ring_171 (by decide) ?_
        refine lv_iload_n hx hb dX7_ring_173 rfl (lv_at hl 0 rfl) ?_
        refine lv_iadd hx hb dX7_ring_174 ?_
        by_cases g6 : ((6 : Int32) + v142_2) < 0 ∨ 19 ≤ ((6 : Int32) + v142_2).toNatClampNeg
        · exact absurd (he.trans (if_pos g6)) hne
        replace he := he.trans (if_neg g6)
        refine va_iald hx hb hK hP 11 0 wM_a22 rfl g6 dX7_ring_175 ?_
        refine lv_if_ne (tgt := 183) hx hb dX7_ring_176 (by decide) (fun c7 => ?_) (fun c7 => ?_)
        · replace he := he.trans (if_neg c7)
          refine lv_aload_n hx hb dX7_ring_183 rfl (lv_at hl 2 rfl) ?_
          refine lv_bipush (v := 12) hx hb dX7_ring_184 (by decide) ?_
          refine lv_iload_n hx hb dX7_ring_186 rfl (lv_at hl 0 rfl) ?_
          refine lv_iadd hx hb dX7_ring_187 ?_
          by_cases g8 : ((12 : Int32) + v142_2) < 0 ∨ 19 ≤ ((12 : Int32) + v142_2).toNatClampNeg
          · exact absurd (he.trans (if_pos g8)) hne
          replace he := he.trans (if_neg g8)
          refine va_iald hx hb hK hP 11 0 wM_a22 rfl g8 dX7_ring_188 ?_
          by_cases g9 : ((12 : Int32) + v142_2) < 0 ∨ 19 ≤ ((12 : Int32) + v142_2).toNatClampNeg
          · exact absurd (he.trans (if_pos g9)) hne
          replace he := he.trans (if_neg g9)
          refine va_iast hx hb hK hP hD hS 11 0 wM_a22 rfl g9 dX7_ring_189 (fun H locs hP hD hS => ?_)
          rw [wM_s22] at hP hD
          refine lv_iinc (v := (v142_2 + 1)) (lv' := [(2, .int (v142_2 + 1)), (0, .ref mo), (1, .ref (mor 22))]) hx hb dX7_ring_190 hl (k := 0) rfl rfl (by decide) rfl (fun ls hl => ?_)
          refine lv_goto (tgt := 142) hx hb dX7_ring_193 (by decide) ?_
          exact ih142 (v142_2 + 1) (upd (upd w142_mok_22 ((6 : Int32) + v142_2).toNatClampNeg ((w142_mok_22 ((6 : Int32) + v142_2).toNatClampNeg) - (w142_mok_22 ((12 : Int32) + v142_2).toNatClampNeg))) ((12 : Int32) + v142_2).toNatClampNeg ((upd w142_mok_22 ((6 : Int32) + v142_2).toNatClampNeg ((w142_mok_22 ((6 : Int32) + v142_2).toNatClampNeg) - (w142_mok_22 ((12 : Int32) + v142_2).toNatClampNeg))) ((12 : Int32) + v142_2).toNatClampNeg)) he _ _ _ hP hD hS (lv_sub hl [0, 1, 2] rfl)
        · replace he := he.trans (if_pos c7)
          refine lv_iconst (v := 0) hx hb dX7_ring_179 (by decide) ?_
          refine lv_goto (tgt := 189) hx hb dX7_ring_180 (by decide) ?_
          by_cases g10 : ((12 : Int32) + v142_2) < 0 ∨ 19 ≤ ((12 : Int32) + v142_2).toNatClampNeg
          · exact absurd (he.trans (if_pos g10)) hne
          replace he := he.trans (if_neg g10)
          refine va_iast hx hb hK hP hD hS 11 0 wM_a22 rfl g10 dX7_ring_189 (fun H locs hP hD hS => ?_)
          rw [wM_s22] at hP hD
          refine lv_iinc (v := (v142_2 + 1)) (lv' := [(2, .int (v142_2 + 1)), (0, .ref mo), (1, .ref (mor 22))]) hx hb dX7_ring_190 hl (k := 0) rfl rfl (by decide) rfl (fun ls hl => ?_)
          refine lv_goto (tgt := 142) hx hb dX7_ring_193 (by decide) ?_
          exact ih142 (v142_2 + 1) (upd (upd w142_mok_22 ((6 : Int32) + v142_2).toNatClampNeg ((w142_mok_22 ((6 : Int32) + v142_2).toNatClampNeg) - (w142_mok_22 ((12 : Int32) + v142_2).toNatClampNeg))) ((12 : Int32) + v142_2).toNatClampNeg (0 : Int32)) he _ _ _ hP hD hS (lv_sub hl [0, 1, 2] rfl)
  have R70_81 : ∀ (w10_mok_33 : Nat → Int32) (v70_2 : Int32) (w70_mok_22 : Nat → Int32), fX7_ring_now F moi_13 moi_17 moi_18 moi_30 moi_31 mok_19 mok_22 mok_33 = (if moi_30 = (w70_mok_22 (18 : Int32).toNatClampNeg) then (if moi_31 < 0 ∨ 19 ≤ moi_31.toNatClampNeg then none else (if ((12 : Int32) + (w70_mok_22 moi_31.toNatClampNeg)) < 0 ∨ 19 ≤ ((12 : Int32) + (w70_mok_22 moi_31.toNatClampNeg)).toNatClampNeg then none else (fX7_ring_now_L142 moi_13 (fun (v142_2 : Int32) (w142_mok_22 : Nat → Int32) => some (w142_mok_22, w10_mok_33)) F (0 : Int32) (upd w70_mok_22 ((12 : Int32) + (w70_mok_22 moi_31.toNatClampNeg)).toNatClampNeg (0 : Int32))))) else (fX7_ring_now_L142 moi_13 (fun (v142_2 : Int32) (w142_mok_22 : Nat → Int32) => some (w142_mok_22, w10_mok_33)) F (0 : Int32) w70_mok_22)) → ∀ (H : Heap) (locs : List Loc) (ls : Array Slot), va_P D vwCl (wM cI mo mor moi_0 moi_2 moi_4 moi_8 moi_9 moi_11 moi_12 moi_13 moi_17 moi_18 moi_20 moi_21 moi_24 moi_26 moi_28 moi_30 moi_31 moi_32 mok_1 mok_3 mok_5 mok_6 mok_7 mok_10 mok_14 mok_15 mok_16 mok_19 w70_mok_22 mok_23 mok_25 mok_27 mok_29 w10_mok_33 mok_34) H → va_D A (wM cI mo mor moi_0 moi_2 moi_4 moi_8 moi_9 moi_11 moi_12 moi_13 moi_17 moi_18 moi_20 moi_21 moi_24 moi_26 moi_28 moi_30 moi_31 moi_32 mok_1 mok_3 mok_5 mok_6 mok_7 mok_10 mok_14 mok_15 mok_16 mok_19 w70_mok_22 mok_23 mok_25 mok_27 mok_29 w10_mok_33 mok_34) → va_S A s.heap H locs → lv_has ls 3 [(0, .ref mo), (1, .ref (mor 22))] → W p l e ({ frames := 0, cells := 0, slots := 0, locals := 0 } : Room) s m args below meth c H locs 0 0 Q (F0 m 117 ls []) := by
    intro w10_mok_33 v70_2 w70_mok_22 he H locs ls hP hD hS hl
    refine lv_aload_n hx hb dX7_ring_117 rfl (lv_at hl 0 rfl) ?_
    refine va_get (D := D) (ci := 7) (v := .int moi_30) (C := RX7) (T := TX7) (N := 35) hx hb hts hi_X7_ring_now_7 hown hK hP 0 wM_0 rfl 30 (by decide) (hts (.fieldLink RX7 55 "BlindLanternsModel" "atBell" "I") (List.mem_of_getElem? (i := 6) rfl)) (fun _ h9 => h9) xMf_30 dX7_ring_118 ?_
    refine lv_aload_n hx hb dX7_ring_121 rfl (lv_at hl 1 rfl) ?_
    refine lv_bipush (v := 18) hx hb dX7_ring_122 (by decide) ?_
    refine va_iald hx hb hK hP 11 0 wM_a22 rfl (x_in rfl) dX7_ring_124 ?_
    refine lv_icmp_ne (tgt := 140) hx hb dX7_ring_125 (by decide) (fun c1 => ?_) (fun c1 => ?_)
    · replace he := he.trans (if_neg c1)
      refine lv_iconst (v := 0) hx hb dX7_ring_140 (by decide) ?_
      refine lv_istore_n (lv' := [(2, .int (0 : Int32)), (0, .ref mo), (1, .ref (mor 22))]) hx hb dX7_ring_141 rfl hl (by decide) rfl (fun ls hl => ?_)
      exact L142_3 w10_mok_33 F (0 : Int32) w70_mok_22 he _ _ _ hP hD hS (lv_sub hl [0, 1, 2] rfl)
    · replace he := he.trans (if_pos c1)
      refine lv_aload_n hx hb dX7_ring_128 rfl (lv_at hl 1 rfl) ?_
      refine lv_bipush (v := 12) hx hb dX7_ring_129 (by decide) ?_
      refine lv_aload_n hx hb dX7_ring_131 rfl (lv_at hl 1 rfl) ?_
      refine lv_aload_n hx hb dX7_ring_132 rfl (lv_at hl 0 rfl) ?_
      refine va_get (D := D) (ci := 7) (v := .int moi_31) (C := RX7) (T := TX7) (N := 35) hx hb hts hi_X7_ring_now_7 hown hK hP 0 wM_0 rfl 31 (by decide) (hts (.fieldLink RX7 59 "BlindLanternsModel" "atPost" "I") (List.mem_of_getElem? (i := 7) rfl)) (fun _ h9 => h9) xMf_31 dX7_ring_133 ?_
      by_cases g11 : moi_31 < 0 ∨ 19 ≤ moi_31.toNatClampNeg
      · exact absurd (he.trans (if_pos g11)) hne
      replace he := he.trans (if_neg g11)
      refine va_iald hx hb hK hP 11 0 wM_a22 rfl g11 dX7_ring_136 ?_
      refine lv_iadd hx hb dX7_ring_137 ?_
      refine lv_iconst (v := 0) hx hb dX7_ring_138 (by decide) ?_
      by_cases g12 : ((12 : Int32) + (w70_mok_22 moi_31.toNatClampNeg)) < 0 ∨ 19 ≤ ((12 : Int32) + (w70_mok_22 moi_31.toNatClampNeg)).toNatClampNeg
      · exact absurd (he.trans (if_pos g12)) hne
      replace he := he.trans (if_neg g12)
      refine va_iast hx hb hK hP hD hS 11 0 wM_a22 rfl g12 dX7_ring_139 (fun H locs hP hD hS => ?_)
      rw [wM_s22] at hP hD
      refine lv_iconst (v := 0) hx hb dX7_ring_140 (by decide) ?_
      refine lv_istore_n (lv' := [(2, .int (0 : Int32)), (0, .ref mo), (1, .ref (mor 22))]) hx hb dX7_ring_141 rfl hl (by decide) rfl (fun ls hl => ?_)
      exact L142_3 w10_mok_33 F (0 : Int32) (upd w70_mok_22 ((12 : Int32) + (w70_mok_22 moi_31.toNatClampNeg)).toNatClampNeg (0 : Int32)) he _ _ _ hP hD hS (lv_sub hl [0, 1, 2] rfl)
  have L70_113 : ∀ (w10_mok_33 : Nat → Int32) (n70 : Nat) (v70_2 : Int32) (w70_mok_22 : Nat → Int32), fX7_ring_now F moi_13 moi_17 moi_18 moi_30 moi_31 mok_19 mok_22 mok_33 = fX7_ring_now_L70 moi_18 mok_19 (fun (v70_2 : Int32) (w70_mok_22 : Nat → Int32) => if moi_30 = (w70_mok_22 (18 : Int32).toNatClampNeg) then (if moi_31 < 0 ∨ 19 ≤ moi_31.toNatClampNeg then none else (if ((12 : Int32) + (w70_mok_22 moi_31.toNatClampNeg)) < 0 ∨ 19 ≤ ((12 : Int32) + (w70_mok_22 moi_31.toNatClampNeg)).toNatClampNeg then none else (fX7_ring_now_L142 moi_13 (fun (v142_2 : Int32) (w142_mok_22 : Nat → Int32) => some (w142_mok_22, w10_mok_33)) F (0 : Int32) (upd w70_mok_22 ((12 : Int32) + (w70_mok_22 moi_31.toNatClampNeg)).toNatClampNeg (0 : Int32))))) else (fX7_ring_now_L142 moi_13 (fun (v142_2 : Int32) (w142_mok_22 : Nat → Int32) => some (w142_mok_22, w10_mok_33)) F (0 : Int32) w70_mok_22)) n70 v70_2 w70_mok_22 → ∀ (H : Heap) (locs : List Loc) (ls : Array Slot), va_P D vwCl (wM cI mo mor moi_0 moi_2 moi_4 moi_8 moi_9 moi_11 moi_12 moi_13 moi_17 moi_18 moi_20 moi_21 moi_24 moi_26 moi_28 moi_30 moi_31 moi_32 mok_1 mok_3 mok_5 mok_6 mok_7 mok_10 mok_14 mok_15 mok_16 mok_19 w70_mok_22 mok_23 mok_25 mok_27 mok_29 w10_mok_33 mok_34) H → va_D A (wM cI mo mor moi_0 moi_2 moi_4 moi_8 moi_9 moi_11 moi_12 moi_13 moi_17 moi_18 moi_20 moi_21 moi_24 moi_26 moi_28 moi_30 moi_31 moi_32 mok_1 mok_3 mok_5 mok_6 mok_7 mok_10 mok_14 mok_15 mok_16 mok_19 w70_mok_22 mok_23 mok_25 mok_27 mok_29 w10_mok_33 mok_34) → va_S A s.heap H locs → lv_has ls 3 [(2, .int v70_2), (0, .ref mo), (1, .ref (mor 22))] → W p l e ({ frames := 0, cells := 0, slots := 0, locals := 0 } : Room) s m args below meth c H locs 0 0 Q (F0 m 70 ls []) := by
    intro w10_mok_33 n70
    induction n70 with
    | zero => intro v70_2 w70_mok_22 he; exact absurd he hne
    | succ n70 ih70 =>
      intro v70_2 w70_mok_22 he H locs ls hP hD hS hl
      replace he := he.trans (fX7_ring_now_L70.eq_2 _ _ _ _ _ _)
      refine lv_iload_n hx hb dX7_ring_70 rfl (lv_at hl 0 rfl) ?_
      refine lv_aload_n hx hb dX7_ring_71 rfl (lv_at hl 1 rfl) ?_
      refine va_get (D := D) (ci := 7) (v := .int moi_18) (C := RX7) (T := TX7) (N := 35) hx hb hts hi_X7_ring_now_7 hown hK hP 0 wM_0 rfl 18 (by decide) (hts (.fieldLink RX7 126 "BlindLanternsModel" "draughts" "I") (List.mem_of_getElem? (i := 4) rfl)) (fun _ h9 => h9) xMf_18 dX7_ring_72 ?_
      refine lv_icmp_ge (tgt := 117) hx hb dX7_ring_75 (by decide) (fun c22 => ?_) (fun c22 => ?_)
      · replace he := he.trans (if_pos c22)
        exact R70_81 w10_mok_33 v70_2 w70_mok_22 he _ _ _ hP hD hS (lv_sub hl [1, 2] rfl)
      · replace he := he.trans (if_neg c22)
        refine lv_aload_n hx hb dX7_ring_78 rfl (lv_at hl 1 rfl) ?_
        refine va_get (D := D) (ci := 7) (v := .ref (mor 19)) (C := RX7) (T := TX7) (N := 35) hx hb hts hi_X7_ring_now_7 hown hK hP 0 wM_0 rfl 19 (by decide) (hts (.fieldLink RX7 37 "BlindLanternsModel" "draught" "[I") (List.mem_of_getElem? (i := 5) rfl)) (fun _ h9 => h9) xMf_19 dX7_ring_79 ?_
        refine lv_iconst (v := 2) hx hb dX7_ring_82 (by decide) ?_
        refine lv_iload_n hx hb dX7_ring_83 rfl (lv_at hl 0 rfl) ?_
        refine lv_imul hx hb dX7_ring_84 ?_
        by_cases g23 : ((2 : Int32) * v70_2) < 0 ∨ 12 ≤ ((2 : Int32) * v70_2).toNatClampNeg
        · exact absurd (he.trans (if_pos g23)) hne
        replace he := he.trans (if_neg g23)
        refine va_iald hx hb hK hP 10 0 wM_a19 rfl g23 dX7_ring_85 ?_
        refine lv_aload_n hx hb dX7_ring_86 rfl (lv_at hl 2 rfl) ?_
        refine lv_bipush (v := 18) hx hb dX7_ring_87 (by decide) ?_
        refine va_iald hx hb hK hP 11 0 wM_a22 rfl (x_in rfl) dX7_ring_89 ?_
        refine lv_icmp_ne (tgt := 111) hx hb dX7_ring_90 (by decide) (fun c24 => ?_) (fun c24 => ?_)
        · replace he := he.trans (if_neg c24)
          refine lv_iinc (v := (v70_2 + 1)) (lv' := [(2, .int (v70_2 + 1)), (0, .ref mo), (1, .ref (mor 22))]) hx hb dX7_ring_111 hl (k := 0) rfl rfl (by decide) rfl (fun ls hl => ?_)
          refine lv_goto (tgt := 70) hx hb dX7_ring_114 (by decide) ?_
          exact ih70 (v70_2 + 1) w70_mok_22 he _ _ _ hP hD hS (lv_sub hl [0, 1, 2] rfl)
        · replace he := he.trans (if_pos c24)
          refine lv_aload_n hx hb dX7_ring_93 rfl (lv_at hl 2 rfl) ?_
          refine lv_bipush (v := 12) hx hb dX7_ring_94 (by decide) ?_
          refine lv_aload_n hx hb dX7_ring_96 rfl (lv_at hl 2 rfl) ?_
          refine lv_aload_n hx hb dX7_ring_97 rfl (lv_at hl 1 rfl) ?_
          refine va_get (D := D) (ci := 7) (v := .ref (mor 19)) (C := RX7) (T := TX7) (N := 35) hx hb hts hi_X7_ring_now_7 hown hK hP 0 wM_0 rfl 19 (by decide) (hts (.fieldLink RX7 37 "BlindLanternsModel" "draught" "[I") (List.mem_of_getElem? (i := 5) rfl)) (fun _ h9 => h9) xMf_19 dX7_ring_98 ?_
          refine lv_iconst (v := 2) hx hb dX7_ring_101 (by decide) ?_
          refine lv_iload_n hx hb dX7_ring_102 rfl (lv_at hl 0 rfl) ?_
          refine lv_imul hx hb dX7_ring_103 ?_
          refine lv_iconst (v := 1) hx hb dX7_ring_104 (by decide) ?_
          refine lv_iadd hx hb dX7_ring_105 ?_
          by_cases g25 : (((2 : Int32) * v70_2) + (1 : Int32)) < 0 ∨ 12 ≤ (((2 : Int32) * v70_2) + (1 : Int32)).toNatClampNeg
          · exact absurd (he.trans (if_pos g25)) hne
          replace he := he.trans (if_neg g25)
          refine va_iald hx hb hK hP 10 0 wM_a19 rfl g25 dX7_ring_106 ?_
          by_cases g26 : (mok_19 (((2 : Int32) * v70_2) + (1 : Int32)).toNatClampNeg) < 0 ∨ 19 ≤ (mok_19 (((2 : Int32) * v70_2) + (1 : Int32)).toNatClampNeg).toNatClampNeg
          · exact absurd (he.trans (if_pos g26)) hne
          replace he := he.trans (if_neg g26)
          refine va_iald hx hb hK hP 11 0 wM_a22 rfl g26 dX7_ring_107 ?_
          refine lv_iadd hx hb dX7_ring_108 ?_
          refine lv_iconst (v := 0) hx hb dX7_ring_109 (by decide) ?_
          by_cases g27 : ((12 : Int32) + (w70_mok_22 (mok_19 (((2 : Int32) * v70_2) + (1 : Int32)).toNatClampNeg).toNatClampNeg)) < 0 ∨ 19 ≤ ((12 : Int32) + (w70_mok_22 (mok_19 (((2 : Int32) * v70_2) + (1 : Int32)).toNatClampNeg).toNatClampNeg)).toNatClampNeg
          · exact absurd (he.trans (if_pos g27)) hne
          replace he := he.trans (if_neg g27)
          refine va_iast hx hb hK hP hD hS 11 0 wM_a22 rfl g27 dX7_ring_110 (fun H locs hP hD hS => ?_)
          rw [wM_s22] at hP hD
          refine lv_iinc (v := (v70_2 + 1)) (lv' := [(2, .int (v70_2 + 1)), (0, .ref mo), (1, .ref (mor 22))]) hx hb dX7_ring_111 hl (k := 0) rfl rfl (by decide) rfl (fun ls hl => ?_)
          refine lv_goto (tgt := 70) hx hb dX7_ring_114 (by decide) ?_
          exact ih70 (v70_2 + 1) (upd w70_mok_22 ((12 : Int32) + (w70_mok_22 (mok_19 (((2 : Int32) * v70_2) + (1 : Int32)).toNatClampNeg).toNatClampNeg)).toNatClampNeg (0 : Int32)) he _ _ _ hP hD hS (lv_sub hl [0, 1, 2] rfl)
  have R45_173 : ∀ (w10_mok_33 : Nat → Int32) (v45_2 : Int32) (w45_mok_22 : Nat → Int32), fX7_ring_now F moi_13 moi_17 moi_18 moi_30 moi_31 mok_19 mok_22 mok_33 = (fX7_ring_now_L70 moi_18 mok_19 (fun (v70_2 : Int32) (w70_mok_22 : Nat → Int32) => if moi_30 = (w70_mok_22 (18 : Int32).toNatClampNeg) then (if moi_31 < 0 ∨ 19 ≤ moi_31.toNatClampNeg then none else (if ((12 : Int32) + (w70_mok_22 moi_31.toNatClampNeg)) < 0 ∨ 19 ≤ ((12 : Int32) + (w70_mok_22 moi_31.toNatClampNeg)).toNatClampNeg then none else (fX7_ring_now_L142 moi_13 (fun (v142_2 : Int32) (w142_mok_22 : Nat → Int32) => some (w142_mok_22, w10_mok_33)) F (0 : Int32) (upd w70_mok_22 ((12 : Int32) + (w70_mok_22 moi_31.toNatClampNeg)).toNatClampNeg (0 : Int32))))) else (fX7_ring_now_L142 moi_13 (fun (v142_2 : Int32) (w142_mok_22 : Nat → Int32) => some (w142_mok_22, w10_mok_33)) F (0 : Int32) w70_mok_22)) F (0 : Int32) w45_mok_22) → ∀ (H : Heap) (locs : List Loc) (ls : Array Slot), va_P D vwCl (wM cI mo mor moi_0 moi_2 moi_4 moi_8 moi_9 moi_11 moi_12 moi_13 moi_17 moi_18 moi_20 moi_21 moi_24 moi_26 moi_28 moi_30 moi_31 moi_32 mok_1 mok_3 mok_5 mok_6 mok_7 mok_10 mok_14 mok_15 mok_16 mok_19 w45_mok_22 mok_23 mok_25 mok_27 mok_29 w10_mok_33 mok_34) H → va_D A (wM cI mo mor moi_0 moi_2 moi_4 moi_8 moi_9 moi_11 moi_12 moi_13 moi_17 moi_18 moi_20 moi_21 moi_24 moi_26 moi_28 moi_30 moi_31 moi_32 mok_1 mok_3 mok_5 mok_6 mok_7 mok_10 mok_14 mok_15 mok_16 mok_19 w45_mok_22 mok_23 mok_25 mok_27 mok_29 w10_mok_33 mok_34) → va_S A s.heap H locs → lv_has ls 3 [(0, .ref mo), (1, .ref (mor 22))] → W p l e ({ frames := 0, cells := 0, slots := 0, locals := 0 } : Room) s m args below meth c H locs 0 0 Q (F0 m 68 ls []) := by
    intro w10_mok_33 v45_2 w45_mok_22 he H locs ls hP hD hS hl
    refine lv_iconst (v := 0) hx hb dX7_ring_68 (by decide) ?_
    refine lv_istore_n (lv' := [(2, .int (0 : Int32)), (0, .ref mo), (1, .ref (mor 22))]) hx hb dX7_ring_69 rfl hl (by decide) rfl (fun ls hl => ?_)
    exact L70_113 w10_mok_33 F (0 : Int32) w45_mok_22 he _ _ _ hP hD hS (lv_sub hl [0, 1, 2] rfl)
  have L45_178 : ∀ (w10_mok_33 : Nat → Int32) (n45 : Nat) (v45_2 : Int32) (w45_mok_22 : Nat → Int32), fX7_ring_now F moi_13 moi_17 moi_18 moi_30 moi_31 mok_19 mok_22 mok_33 = fX7_ring_now_L45 moi_13 w10_mok_33 (fun (v45_2 : Int32) (w45_mok_22 : Nat → Int32) => fX7_ring_now_L70 moi_18 mok_19 (fun (v70_2 : Int32) (w70_mok_22 : Nat → Int32) => if moi_30 = (w70_mok_22 (18 : Int32).toNatClampNeg) then (if moi_31 < 0 ∨ 19 ≤ moi_31.toNatClampNeg then none else (if ((12 : Int32) + (w70_mok_22 moi_31.toNatClampNeg)) < 0 ∨ 19 ≤ ((12 : Int32) + (w70_mok_22 moi_31.toNatClampNeg)).toNatClampNeg then none else (fX7_ring_now_L142 moi_13 (fun (v142_2 : Int32) (w142_mok_22 : Nat → Int32) => some (w142_mok_22, w10_mok_33)) F (0 : Int32) (upd w70_mok_22 ((12 : Int32) + (w70_mok_22 moi_31.toNatClampNeg)).toNatClampNeg (0 : Int32))))) else (fX7_ring_now_L142 moi_13 (fun (v142_2 : Int32) (w142_mok_22 : Nat → Int32) => some (w142_mok_22, w10_mok_33)) F (0 : Int32) w70_mok_22)) F (0 : Int32) w45_mok_22) n45 v45_2 w45_mok_22 → ∀ (H : Heap) (locs : List Loc) (ls : Array Slot), va_P D vwCl (wM cI mo mor moi_0 moi_2 moi_4 moi_8 moi_9 moi_11 moi_12 moi_13 moi_17 moi_18 moi_20 moi_21 moi_24 moi_26 moi_28 moi_30 moi_31 moi_32 mok_1 mok_3 mok_5 mok_6 mok_7 mok_10 mok_14 mok_15 mok_16 mok_19 w45_mok_22 mok_23 mok_25 mok_27 mok_29 w10_mok_33 mok_34) H → va_D A (wM cI mo mor moi_0 moi_2 moi_4 moi_8 moi_9 moi_11 moi_12 moi_13 moi_17 moi_18 moi_20 moi_21 moi_24 moi_26 moi_28 moi_30 moi_31 moi_32 mok_1 mok_3 mok_5 mok_6 mok_7 mok_10 mok_14 mok_15 mok_16 mok_19 w45_mok_22 mok_23 mok_25 mok_27 mok_29 w10_mok_33 mok_34) → va_S A s.heap H locs → lv_has ls 3 [(2, .int v45_2), (0, .ref mo), (1, .ref (mor 22))] → W p l e ({ frames := 0, cells := 0, slots := 0, locals := 0 } : Room) s m args below meth c H locs 0 0 Q (F0 m 45 ls []) := by
    intro w10_mok_33 n45
    induction n45 with
    | zero => intro v45_2 w45_mok_22 he; exact absurd he hne
    | succ n45 ih45 =>
      intro v45_2 w45_mok_22 he H locs ls hP hD hS hl
      replace he := he.trans (fX7_ring_now_L45.eq_2 _ _ _ _ _ _)
      refine lv_iload_n hx hb dX7_ring_45 rfl (lv_at hl 0 rfl) ?_
      refine lv_aload_n hx hb dX7_ring_46 rfl (lv_at hl 1 rfl) ?_
      refine va_get (D := D) (ci := 7) (v := .int moi_13) (C := RX7) (T := TX7) (N := 35) hx hb hts hi_X7_ring_now_7 hown hK hP 0 wM_0 rfl 13 (by decide) (hts (.fieldLink RX7 71 "BlindLanternsModel" "men" "I") (List.mem_of_getElem? (i := 1) rfl)) (fun _ h9 => h9) xMf_13 dX7_ring_47 ?_
      refine lv_icmp_ge (tgt := 68) hx hb dX7_ring_50 (by decide) (fun c28 => ?_) (fun c28 => ?_)
      · replace he := he.trans (if_pos c28)
        exact R45_173 w10_mok_33 v45_2 w45_mok_22 he _ _ _ hP hD hS (lv_sub hl [1, 2] rfl)
      · replace he := he.trans (if_neg c28)
        refine lv_aload_n hx hb dX7_ring_53 rfl (lv_at hl 2 rfl) ?_
        refine lv_iload_n hx hb dX7_ring_54 rfl (lv_at hl 0 rfl) ?_
        refine lv_aload_n hx hb dX7_ring_55 rfl (lv_at hl 1 rfl) ?_
        refine va_get (D := D) (ci := 7) (v := .ref (mor 33)) (C := RX7) (T := TX7) (N := 35) hx hb hts hi_X7_ring_now_7 hown hK hP 0 wM_0 rfl 33 (by decide) (hts (.fieldLink RX7 65 "BlindLanternsModel" "moved" "[I") (List.mem_of_getElem? (i := 2) rfl)) (fun _ h9 => h9) xMf_33 dX7_ring_56 ?_
        refine lv_iload_n hx hb dX7_ring_59 rfl (lv_at hl 0 rfl) ?_
        by_cases g29 : v45_2 < 0 ∨ 6 ≤ v45_2.toNatClampNeg
        · exact absurd (he.trans (if_pos g29)) hne
        replace he := he.trans (if_neg g29)
        refine va_iald hx hb hK hP 16 0 wM_a33 rfl g29 dX7_ring_60 ?_
        by_cases g30 : v45_2 < 0 ∨ 19 ≤ v45_2.toNatClampNeg
        · exact absurd (he.trans (if_pos g30)) hne
        replace he := he.trans (if_neg g30)
        refine va_iast hx hb hK hP hD hS 11 0 wM_a22 rfl g30 dX7_ring_61 (fun H locs hP hD hS => ?_)
        rw [wM_s22] at hP hD
        refine lv_iinc (v := (v45_2 + 1)) (lv' := [(2, .int (v45_2 + 1)), (0, .ref mo), (1, .ref (mor 22))]) hx hb dX7_ring_62 hl (k := 0) rfl rfl (by decide) rfl (fun ls hl => ?_)
        refine lv_goto (tgt := 45) hx hb dX7_ring_65 (by decide) ?_
        exact ih45 (v45_2 + 1) (upd w45_mok_22 v45_2.toNatClampNeg (w10_mok_33 v45_2.toNatClampNeg)) he _ _ _ hP hD hS (lv_sub hl [0, 1, 2] rfl)
  have R10_209 : ∀ (v10_2 : Int32) (w10_mok_33 : Nat → Int32), fX7_ring_now F moi_13 moi_17 moi_18 moi_30 moi_31 mok_19 mok_22 mok_33 = (fX7_ring_now_L45 moi_13 w10_mok_33 (fun (v45_2 : Int32) (w45_mok_22 : Nat → Int32) => fX7_ring_now_L70 moi_18 mok_19 (fun (v70_2 : Int32) (w70_mok_22 : Nat → Int32) => if moi_30 = (w70_mok_22 (18 : Int32).toNatClampNeg) then (if moi_31 < 0 ∨ 19 ≤ moi_31.toNatClampNeg then none else (if ((12 : Int32) + (w70_mok_22 moi_31.toNatClampNeg)) < 0 ∨ 19 ≤ ((12 : Int32) + (w70_mok_22 moi_31.toNatClampNeg)).toNatClampNeg then none else (fX7_ring_now_L142 moi_13 (fun (v142_2 : Int32) (w142_mok_22 : Nat → Int32) => some (w142_mok_22, w10_mok_33)) F (0 : Int32) (upd w70_mok_22 ((12 : Int32) + (w70_mok_22 moi_31.toNatClampNeg)).toNatClampNeg (0 : Int32))))) else (fX7_ring_now_L142 moi_13 (fun (v142_2 : Int32) (w142_mok_22 : Nat → Int32) => some (w142_mok_22, w10_mok_33)) F (0 : Int32) w70_mok_22)) F (0 : Int32) w45_mok_22) F (0 : Int32) (upd mok_22 (18 : Int32).toNatClampNeg ((mok_22 (18 : Int32).toNatClampNeg) + (1 : Int32)))) → ∀ (H : Heap) (locs : List Loc) (ls : Array Slot), va_P D vwCl (wM cI mo mor moi_0 moi_2 moi_4 moi_8 moi_9 moi_11 moi_12 moi_13 moi_17 moi_18 moi_20 moi_21 moi_24 moi_26 moi_28 moi_30 moi_31 moi_32 mok_1 mok_3 mok_5 mok_6 mok_7 mok_10 mok_14 mok_15 mok_16 mok_19 (upd mok_22 (18 : Int32).toNatClampNeg ((mok_22 (18 : Int32).toNatClampNeg) + (1 : Int32))) mok_23 mok_25 mok_27 mok_29 w10_mok_33 mok_34) H → va_D A (wM cI mo mor moi_0 moi_2 moi_4 moi_8 moi_9 moi_11 moi_12 moi_13 moi_17 moi_18 moi_20 moi_21 moi_24 moi_26 moi_28 moi_30 moi_31 moi_32 mok_1 mok_3 mok_5 mok_6 mok_7 mok_10 mok_14 mok_15 mok_16 mok_19 (upd mok_22 (18 : Int32).toNatClampNeg ((mok_22 (18 : Int32).toNatClampNeg) + (1 : Int32))) mok_23 mok_25 mok_27 mok_29 w10_mok_33 mok_34) → va_S A s.heap H locs → lv_has ls 3 [(0, .ref mo), (1, .ref (mor 22))] → W p l e ({ frames := 0, cells := 0, slots := 0, locals := 0 } : Room) s m args below meth c H locs 0 0 Q (F0 m 43 ls []) := by
    intro v10_2 w10_mok_33 he H locs ls hP hD hS hl
    refine lv_iconst (v := 0) hx hb dX7_ring_43 (by decide) ?_
    refine lv_istore_n (lv' := [(2, .int (0 : Int32)), (0, .ref mo), (1, .ref (mor 22))]) hx hb dX7_ring_44 rfl hl (by decide) rfl (fun ls hl => ?_)
    exact L45_178 w10_mok_33 F (0 : Int32) (upd mok_22 (18 : Int32).toNatClampNeg ((mok_22 (18 : Int32).toNatClampNeg) + (1 : Int32))) he _ _ _ hP hD hS (lv_sub hl [0, 1, 2] rfl)
  have L10_214 : ∀ (n10 : Nat) (v10_2 : Int32) (w10_mok_33 : Nat → Int32), fX7_ring_now F moi_13 moi_17 moi_18 moi_30 moi_31 mok_19 mok_22 mok_33 = fX7_ring_now_L10 moi_13 moi_17 mok_22 (fun (v10_2 : Int32) (w10_mok_33 : Nat → Int32) => fX7_ring_now_L45 moi_13 w10_mok_33 (fun (v45_2 : Int32) (w45_mok_22 : Nat → Int32) => fX7_ring_now_L70 moi_18 mok_19 (fun (v70_2 : Int32) (w70_mok_22 : Nat → Int32) => if moi_30 = (w70_mok_22 (18 : Int32).toNatClampNeg) then (if moi_31 < 0 ∨ 19 ≤ moi_31.toNatClampNeg then none else (if ((12 : Int32) + (w70_mok_22 moi_31.toNatClampNeg)) < 0 ∨ 19 ≤ ((12 : Int32) + (w70_mok_22 moi_31.toNatClampNeg)).toNatClampNeg then none else (fX7_ring_now_L142 moi_13 (fun (v142_2 : Int32) (w142_mok_22 : Nat → Int32) => some (w142_mok_22, w10_mok_33)) F (0 : Int32) (upd w70_mok_22 ((12 : Int32) + (w70_mok_22 moi_31.toNatClampNeg)).toNatClampNeg (0 : Int32))))) else (fX7_ring_now_L142 moi_13 (fun (v142_2 : Int32) (w142_mok_22 : Nat → Int32) => some (w142_mok_22, w10_mok_33)) F (0 : Int32) w70_mok_22)) F (0 : Int32) w45_mok_22) F (0 : Int32) (upd mok_22 (18 : Int32).toNatClampNeg ((mok_22 (18 : Int32).toNatClampNeg) + (1 : Int32)))) n10 v10_2 w10_mok_33 → ∀ (H : Heap) (locs : List Loc) (ls : Array Slot), va_P D vwCl (wM cI mo mor moi_0 moi_2 moi_4 moi_8 moi_9 moi_11 moi_12 moi_13 moi_17 moi_18 moi_20 moi_21 moi_24 moi_26 moi_28 moi_30 moi_31 moi_32 mok_1 mok_3 mok_5 mok_6 mok_7 mok_10 mok_14 mok_15 mok_16 mok_19 (upd mok_22 (18 : Int32).toNatClampNeg ((mok_22 (18 : Int32).toNatClampNeg) + (1 : Int32))) mok_23 mok_25 mok_27 mok_29 w10_mok_33 mok_34) H → va_D A (wM cI mo mor moi_0 moi_2 moi_4 moi_8 moi_9 moi_11 moi_12 moi_13 moi_17 moi_18 moi_20 moi_21 moi_24 moi_26 moi_28 moi_30 moi_31 moi_32 mok_1 mok_3 mok_5 mok_6 mok_7 mok_10 mok_14 mok_15 mok_16 mok_19 (upd mok_22 (18 : Int32).toNatClampNeg ((mok_22 (18 : Int32).toNatClampNeg) + (1 : Int32))) mok_23 mok_25 mok_27 mok_29 w10_mok_33 mok_34) → va_S A s.heap H locs → lv_has ls 3 [(2, .int v10_2), (0, .ref mo), (1, .ref (mor 22))] → W p l e ({ frames := 0, cells := 0, slots := 0, locals := 0 } : Room) s m args below meth c H locs 0 0 Q (F0 m 10 ls []) := by
    intro n10
    induction n10 with
    | zero => intro v10_2 w10_mok_33 he; exact absurd he hne
    | succ n10 ih10 =>
      intro v10_2 w10_mok_33 he H locs ls hP hD hS hl
      replace he := he.trans (fX7_ring_now_L10.eq_2 _ _ _ _ _ _ _)
      refine lv_iload_n hx hb dX7_ring_10 rfl (lv_at hl 0 rfl) ?_
      refine lv_aload_n hx hb dX7_ring_11 rfl (lv_at hl 1 rfl) ?_
      refine va_get (D := D) (ci := 7) (v := .int moi_13) (C := RX7) (T := TX7) (N := 35) hx hb hts hi_X7_ring_now_7 hown hK hP 0 wM_0 rfl 13 (by decide) (hts (.fieldLink RX7 71 "BlindLanternsModel" "men" "I") (List.mem_of_getElem? (i := 1) rfl)) (fun _ h9 => h9) xMf_13 dX7_ring_12 ?_
      refine lv_icmp_ge (tgt := 43) hx hb dX7_ring_15 (by decide) (fun c31 => ?_) (fun c31 => ?_)
      · replace he := he.trans (if_pos c31)
        exact R10_209 v10_2 w10_mok_33 he _ _ _ hP hD hS (lv_sub hl [1, 2] rfl)
      · replace he := he.trans (if_neg c31)
        refine lv_aload_n hx hb dX7_ring_18 rfl (lv_at hl 1 rfl) ?_
        refine va_get (D := D) (ci := 7) (v := .ref (mor 33)) (C := RX7) (T := TX7) (N := 35) hx hb hts hi_X7_ring_now_7 hown hK hP 0 wM_0 rfl 33 (by decide) (hts (.fieldLink RX7 65 "BlindLanternsModel" "moved" "[I") (List.mem_of_getElem? (i := 2) rfl)) (fun _ h9 => h9) xMf_33 dX7_ring_19 ?_
        refine lv_iload_n hx hb dX7_ring_22 rfl (lv_at hl 0 rfl) ?_
        refine lv_aload_n hx hb dX7_ring_23 rfl (lv_at hl 1 rfl) ?_
        refine va_get (D := D) (ci := 7) (v := .int moi_17) (C := RX7) (T := TX7) (N := 35) hx hb hts hi_X7_ring_now_7 hown hK hP 0 wM_0 rfl 17 (by decide) (hts (.fieldLink RX7 74 "BlindLanternsModel" "on" "I") (List.mem_of_getElem? (i := 3) rfl)) (fun _ h9 => h9) xMf_17 dX7_ring_24 ?_
        refine lv_iadd hx hb dX7_ring_27 ?_
        refine lv_aload_n hx hb dX7_ring_28 rfl (lv_at hl 1 rfl) ?_
        refine va_get (D := D) (ci := 7) (v := .int moi_13) (C := RX7) (T := TX7) (N := 35) hx hb hts hi_X7_ring_now_7 hown hK hP 0 wM_0 rfl 13 (by decide) (hts (.fieldLink RX7 71 "BlindLanternsModel" "men" "I") (List.mem_of_getElem? (i := 1) rfl)) (fun _ h9 => h9) xMf_13 dX7_ring_29 ?_
        by_cases g32 : moi_13 = 0
        · exact absurd (he.trans (if_pos g32)) hne
        replace he := he.trans (if_neg g32)
        refine lv_irem hx hb dX7_ring_32 g32 ?_
        refine lv_aload_n hx hb dX7_ring_33 rfl (lv_at hl 2 rfl) ?_
        refine lv_iload_n hx hb dX7_ring_34 rfl (lv_at hl 0 rfl) ?_
        by_cases g33 : v10_2 < 0 ∨ 19 ≤ v10_2.toNatClampNeg
        · exact absurd (he.trans (if_pos g33)) hne
        replace he := he.trans (if_neg g33)
        refine va_iald hx hb hK hP 11 0 wM_a22 rfl g33 dX7_ring_35 ?_
        by_cases g34 : ((v10_2 + moi_17) - (v10_2 + moi_17) / moi_13 * moi_13) < 0 ∨ 6 ≤ ((v10_2 + moi_17) - (v10_2 + moi_17) / moi_13 * moi_13).toNatClampNeg
        · exact absurd (he.trans (if_pos g34)) hne
        replace he := he.trans (if_neg g34)
        refine va_iast hx hb hK hP hD hS 16 0 wM_a33 rfl g34 dX7_ring_36 (fun H locs hP hD hS => ?_)
        rw [wM_s33] at hP hD
        refine lv_iinc (v := (v10_2 + 1)) (lv' := [(2, .int (v10_2 + 1)), (0, .ref mo), (1, .ref (mor 22))]) hx hb dX7_ring_37 hl (k := 0) rfl rfl (by decide) rfl (fun ls hl => ?_)
        refine lv_goto (tgt := 10) hx hb dX7_ring_40 (by decide) ?_
        exact ih10 (v10_2 + 1) (upd w10_mok_33 ((v10_2 + moi_17) - (v10_2 + moi_17) / moi_13 * moi_13).toNatClampNeg ((upd mok_22 (18 : Int32).toNatClampNeg ((mok_22 (18 : Int32).toNatClampNeg) + (1 : Int32))) v10_2.toNatClampNeg)) he _ _ _ hP hD hS (lv_sub hl [0, 1, 2] rfl)
  refine lv_aload_n hx hb dX7_ring_0 rfl (lv_at hl 1 rfl) ?_
  refine lv_bipush (v := 18) hx hb dX7_ring_1 (by decide) ?_
  refine lv_dup2_11 hx hb dX7_ring_3 rfl rfl ?_
  refine va_iald hx hb hK hP 11 0 wM_a22 rfl (x_in rfl) dX7_ring_4 ?_
  refine lv_iconst (v := 1) hx hb dX7_ring_5 (by decide) ?_
  refine lv_iadd hx hb dX7_ring_6 ?_
  refine va_iast hx hb hK hP hD hS 11 0 wM_a22 rfl (x_in rfl) dX7_ring_7 (fun H locs hP hD hS => ?_)
  rw [wM_s22] at hP hD
  refine lv_iconst (v := 0) hx hb dX7_ring_8 (by decide) ?_
  refine lv_istore_n (lv' := [(2, .int (0 : Int32)), (0, .ref mo), (1, .ref (mor 22))]) hx hb dX7_ring_9 rfl hl (by decide) rfl (fun ls hl => ?_)
  exact L10_214 F (0 : Int32) mok_33 he _ _ _ hP hD hS (lv_sub hl [0, 1, 2] rfl)

def fX7_ring_tried_L142 (moi_13 : Int32) (k142 : Int32 → (Nat → Int32) → Option ((Nat → Int32) × (Nat → Int32))) : Nat → Int32 → (Nat → Int32) → Option ((Nat → Int32) × (Nat → Int32))
  | 0, _, _ => none
  | n142 + 1, v142_2, w142_mok_23 => if moi_13 ≤ v142_2 then (k142 v142_2 w142_mok_23) else (if ((6 : Int32) + v142_2) < 0 ∨ 19 ≤ ((6 : Int32) + v142_2).toNatClampNeg then none else (if ((12 : Int32) + v142_2) < 0 ∨ 19 ≤ ((12 : Int32) + v142_2).toNatClampNeg then none else (if ((6 : Int32) + v142_2) < 0 ∨ 19 ≤ ((6 : Int32) + v142_2).toNatClampNeg then none else (if ((6 : Int32) + v142_2) < 0 ∨ 19 ≤ ((6 : Int32) + v142_2).toNatClampNeg then none else (if ((upd w142_mok_23 ((6 : Int32) + v142_2).toNatClampNeg ((w142_mok_23 ((6 : Int32) + v142_2).toNatClampNeg) - (w142_mok_23 ((12 : Int32) + v142_2).toNatClampNeg))) ((6 : Int32) + v142_2).toNatClampNeg) = 0 then (if ((12 : Int32) + v142_2) < 0 ∨ 19 ≤ ((12 : Int32) + v142_2).toNatClampNeg then none else (fX7_ring_tried_L142 moi_13 k142 n142 (v142_2 + 1) (upd (upd w142_mok_23 ((6 : Int32) + v142_2).toNatClampNeg ((w142_mok_23 ((6 : Int32) + v142_2).toNatClampNeg) - (w142_mok_23 ((12 : Int32) + v142_2).toNatClampNeg))) ((12 : Int32) + v142_2).toNatClampNeg (0 : Int32)))) else (if ((12 : Int32) + v142_2) < 0 ∨ 19 ≤ ((12 : Int32) + v142_2).toNatClampNeg then none else (if ((12 : Int32) + v142_2) < 0 ∨ 19 ≤ ((12 : Int32) + v142_2).toNatClampNeg then none else (fX7_ring_tried_L142 moi_13 k142 n142 (v142_2 + 1) (upd (upd w142_mok_23 ((6 : Int32) + v142_2).toNatClampNeg ((w142_mok_23 ((6 : Int32) + v142_2).toNatClampNeg) - (w142_mok_23 ((12 : Int32) + v142_2).toNatClampNeg))) ((12 : Int32) + v142_2).toNatClampNeg ((upd w142_mok_23 ((6 : Int32) + v142_2).toNatClampNeg ((w142_mok_23 ((6 : Int32) + v142_2).toNatClampNeg) - (w142_mok_23 ((12 : Int32) + v142_2).toNatClampNeg))) ((12 : Int32) + v142_2).toNatClampNeg))))))))))
def fX7_ring_tried_L70 (moi_18 : Int32) (mok_19 : Nat → Int32) (k70 : Int32 → (Nat → Int32) → Option ((Nat → Int32) × (Nat → Int32))) : Nat → Int32 → (Nat → Int32) → Option ((Nat → Int32) × (Nat → Int32))
  | 0, _, _ => none
  | n70 + 1, v70_2, w70_mok_23 => if moi_18 ≤ v70_2 then (k70 v70_2 w70_mok_23) else (if ((2 : Int32) * v70_2) < 0 ∨ 12 ≤ ((2 : Int32) * v70_2).toNatClampNeg then none else (if (mok_19 ((2 : Int32) * v70_2).toNatClampNeg) = (w70_mok_23 (18 : Int32).toNatClampNeg) then (if (((2 : Int32) * v70_2) + (1 : Int32)) < 0 ∨ 12 ≤ (((2 : Int32) * v70_2) + (1 : Int32)).toNatClampNeg then none else (if (mok_19 (((2 : Int32) * v70_2) + (1 : Int32)).toNatClampNeg) < 0 ∨ 19 ≤ (mok_19 (((2 : Int32) * v70_2) + (1 : Int32)).toNatClampNeg).toNatClampNeg then none else (if ((12 : Int32) + (w70_mok_23 (mok_19 (((2 : Int32) * v70_2) + (1 : Int32)).toNatClampNeg).toNatClampNeg)) < 0 ∨ 19 ≤ ((12 : Int32) + (w70_mok_23 (mok_19 (((2 : Int32) * v70_2) + (1 : Int32)).toNatClampNeg).toNatClampNeg)).toNatClampNeg then none else (fX7_ring_tried_L70 moi_18 mok_19 k70 n70 (v70_2 + 1) (upd w70_mok_23 ((12 : Int32) + (w70_mok_23 (mok_19 (((2 : Int32) * v70_2) + (1 : Int32)).toNatClampNeg).toNatClampNeg)).toNatClampNeg (0 : Int32)))))) else (fX7_ring_tried_L70 moi_18 mok_19 k70 n70 (v70_2 + 1) w70_mok_23)))
def fX7_ring_tried_L45 (moi_13 : Int32) (w10_mok_33 : Nat → Int32) (k45 : Int32 → (Nat → Int32) → Option ((Nat → Int32) × (Nat → Int32))) : Nat → Int32 → (Nat → Int32) → Option ((Nat → Int32) × (Nat → Int32))
  | 0, _, _ => none
  | n45 + 1, v45_2, w45_mok_23 => if moi_13 ≤ v45_2 then (k45 v45_2 w45_mok_23) else (if v45_2 < 0 ∨ 6 ≤ v45_2.toNatClampNeg then none else (if v45_2 < 0 ∨ 19 ≤ v45_2.toNatClampNeg then none else (fX7_ring_tried_L45 moi_13 w10_mok_33 k45 n45 (v45_2 + 1) (upd w45_mok_23 v45_2.toNatClampNeg (w10_mok_33 v45_2.toNatClampNeg)))))
def fX7_ring_tried_L10 (moi_13 : Int32) (moi_17 : Int32) (mok_23 : Nat → Int32) (k10 : Int32 → (Nat → Int32) → Option ((Nat → Int32) × (Nat → Int32))) : Nat → Int32 → (Nat → Int32) → Option ((Nat → Int32) × (Nat → Int32))
  | 0, _, _ => none
  | n10 + 1, v10_2, w10_mok_33 => if moi_13 ≤ v10_2 then (k10 v10_2 w10_mok_33) else (if moi_13 = 0 then none else (if v10_2 < 0 ∨ 19 ≤ v10_2.toNatClampNeg then none else (if ((v10_2 + moi_17) - (v10_2 + moi_17) / moi_13 * moi_13) < 0 ∨ 6 ≤ ((v10_2 + moi_17) - (v10_2 + moi_17) / moi_13 * moi_13).toNatClampNeg then none else (fX7_ring_tried_L10 moi_13 moi_17 mok_23 k10 n10 (v10_2 + 1) (upd w10_mok_33 ((v10_2 + moi_17) - (v10_2 + moi_17) / moi_13 * moi_13).toNatClampNeg ((upd mok_23 (18 : Int32).toNatClampNeg ((mok_23 (18 : Int32).toNatClampNeg) + (1 : Int32))) v10_2.toNatClampNeg))))))
def fX7_ring_tried (F : Nat) (moi_13 : Int32) (moi_17 : Int32) (moi_18 : Int32) (moi_30 : Int32) (moi_31 : Int32) (mok_19 : Nat → Int32) (mok_23 : Nat → Int32) (mok_33 : Nat → Int32) : Option ((Nat → Int32) × (Nat → Int32)) :=
  fX7_ring_tried_L10 moi_13 moi_17 mok_23 (fun (v10_2 : Int32) (w10_mok_33 : Nat → Int32) => fX7_ring_tried_L45 moi_13 w10_mok_33 (fun (v45_2 : Int32) (w45_mok_23 : Nat → Int32) => fX7_ring_tried_L70 moi_18 mok_19 (fun (v70_2 : Int32) (w70_mok_23 : Nat → Int32) => if moi_30 = (w70_mok_23 (18 : Int32).toNatClampNeg) then (if moi_31 < 0 ∨ 19 ≤ moi_31.toNatClampNeg then none else (if ((12 : Int32) + (w70_mok_23 moi_31.toNatClampNeg)) < 0 ∨ 19 ≤ ((12 : Int32) + (w70_mok_23 moi_31.toNatClampNeg)).toNatClampNeg then none else (fX7_ring_tried_L142 moi_13 (fun (v142_2 : Int32) (w142_mok_23 : Nat → Int32) => some (w142_mok_23, w10_mok_33)) F (0 : Int32) (upd w70_mok_23 ((12 : Int32) + (w70_mok_23 moi_31.toNatClampNeg)).toNatClampNeg (0 : Int32))))) else (fX7_ring_tried_L142 moi_13 (fun (v142_2 : Int32) (w142_mok_23 : Nat → Int32) => some (w142_mok_23, w10_mok_33)) F (0 : Int32) w70_mok_23)) F (0 : Int32) w45_mok_23) F (0 : Int32) (upd mok_23 (18 : Int32).toNatClampNeg ((mok_23 (18 : Int32).toNatClampNeg) + (1 : Int32)))) F (0 : Int32) mok_33
theorem hi_X7_ring_tried_7 : ∀ w ∈ wsX70, w ∈ wsX7_ring := fun _ h => (List.mem_cons_of_mem _ (List.mem_append_right _ h))
set_option maxHeartbeats 4000000 in
set_option maxRecDepth 100000 in
theorem c_X7_ring_tried (l : Launch) (D : va_G) (cI cP : ClassId) (sz : Nat) (mo : Nat) (mor : Nat → Nat) (moi_0 : Int32) (moi_2 : Int32) (moi_4 : Int32) (moi_8 : Int32) (moi_9 : Int32) (moi_11 : Int32) (moi_12 : Int32) (moi_13 : Int32) (moi_17 : Int32) (moi_18 : Int32) (moi_20 : Int32) (moi_21 : Int32) (moi_24 : Int32) (moi_26 : Int32) (moi_28 : Int32) (moi_30 : Int32) (moi_31 : Int32) (moi_32 : Int32) (mok_1 : Nat → Int32) (mok_3 : Nat → Int32) (mok_5 : Nat → Int32) (mok_6 : Nat → Int32) (mok_7 : Nat → Int32) (mok_10 : Nat → Int32) (mok_14 : Nat → Int32) (mok_15 : Nat → Int32) (mok_16 : Nat → Int32) (mok_19 : Nat → Int32) (mok_22 : Nat → Int32) (mok_23 : Nat → Int32) (mok_25 : Nat → Int32) (mok_27 : Nat → Int32) (mok_29 : Nat → Int32) (mok_33 : Nat → Int32) (mok_34 : Nat → Int32) (F : Nat) (hne : fX7_ring_tried F moi_13 moi_17 moi_18 moi_30 moi_31 mok_19 mok_23 mok_33 ≠ none) : xMv l yX7_ring wsX7_ring ({ frames := 0, cells := 0, slots := 0, locals := 0 } : Room) D (xT cI cP) [.ref mo, .ref (mor 23)] (wM cI mo mor moi_0 moi_2 moi_4 moi_8 moi_9 moi_11 moi_12 moi_13 moi_17 moi_18 moi_20 moi_21 moi_24 moi_26 moi_28 moi_30 moi_31 moi_32 mok_1 mok_3 mok_5 mok_6 mok_7 mok_10 mok_14 mok_15 mok_16 mok_19 mok_22 mok_23 mok_25 mok_27 mok_29 mok_33 mok_34) sz (fun (u : ((Nat → Int32) × (Nat → Int32))) => fX7_ring_tried F moi_13 moi_17 moi_18 moi_30 moi_31 mok_19 mok_23 mok_33 = some u) (fun u => wM cI mo mor moi_0 moi_2 moi_4 moi_8 moi_9 moi_11 moi_12 moi_13 moi_17 moi_18 moi_20 moi_21 moi_24 moi_26 moi_28 moi_30 moi_31 moi_32 mok_1 mok_3 mok_5 mok_6 mok_7 mok_10 mok_14 mok_15 mok_16 mok_19 mok_22 u.1 mok_25 mok_27 mok_29 u.2 mok_34) 0 0 := by
  refine xMv_of (cc := cX7_ring) (maxL := 3) (by decide +kernel) rfl (Nat.le_of_ble_eq_true rfl) ?_
  intro p e s m args below meth c A ls hx hb hml hown hts hname hN hK hA hP hD hS hl Q hret
  have he := fX7_ring_tried.eq_1 F moi_13 moi_17 moi_18 moi_30 moi_31 mok_19 mok_23 mok_33
  have hl : lv_has ls 3 [(0, .ref mo), (1, .ref (mor 23))] := hl
  have R142_0 : ∀ (w10_mok_33 : Nat → Int32) (v142_2 : Int32) (w142_mok_23 : Nat → Int32), fX7_ring_tried F moi_13 moi_17 moi_18 moi_30 moi_31 mok_19 mok_23 mok_33 = (some (w142_mok_23, w10_mok_33)) → ∀ (H : Heap) (locs : List Loc) (ls : Array Slot), va_P D vwCl (wM cI mo mor moi_0 moi_2 moi_4 moi_8 moi_9 moi_11 moi_12 moi_13 moi_17 moi_18 moi_20 moi_21 moi_24 moi_26 moi_28 moi_30 moi_31 moi_32 mok_1 mok_3 mok_5 mok_6 mok_7 mok_10 mok_14 mok_15 mok_16 mok_19 mok_22 w142_mok_23 mok_25 mok_27 mok_29 w10_mok_33 mok_34) H → va_D A (wM cI mo mor moi_0 moi_2 moi_4 moi_8 moi_9 moi_11 moi_12 moi_13 moi_17 moi_18 moi_20 moi_21 moi_24 moi_26 moi_28 moi_30 moi_31 moi_32 mok_1 mok_3 mok_5 mok_6 mok_7 mok_10 mok_14 mok_15 mok_16 mok_19 mok_22 w142_mok_23 mok_25 mok_27 mok_29 w10_mok_33 mok_34) → va_S A s.heap H locs → lv_has ls 3 [] → W p l e ({ frames := 0, cells := 0, slots := 0, locals := 0 } : Room) s m args below meth c H locs 0 0 Q (F0 m 196 ls []) := by
    intro w10_mok_33 v142_2 w142_mok_23 he H locs ls hP hD hS hl
    exact hret (w142_mok_23, w10_mok_33) _ _ _ _ dX7_ring_196 he hP hD hS
  have L142_3 : ∀ (w10_mok_33 : Nat → Int32) (n142 : Nat) (v142_2 : Int32) (w142_mok_23 : Nat → Int32), fX7_ring_tried F moi_13 moi_17 moi_18 moi_30 moi_31 mok_19 mok_23 mok_33 = fX7_ring_tried_L142 moi_13 (fun (v142_2 : Int32) (w142_mok_23 : Nat → Int32) => some (w142_mok_23, w10_mok_33)) n142 v142_2 w142_mok_23 → ∀ (H : Heap) (locs : List Loc) (ls : Array Slot), va_P D vwCl (wM cI mo mor moi_0 moi_2 moi_4 moi_8 moi_9 moi_11 moi_12 moi_13 moi_17 moi_18 moi_20 moi_21 moi_24 moi_26 moi_28 moi_30 moi_31 moi_32 mok_1 mok_3 mok_5 mok_6 mok_7 mok_10 mok_14 mok_15 mok_16 mok_19 mok_22 w142_mok_23 mok_25 mok_27 mok_29 w10_mok_33 mok_34) H → va_D A (wM cI mo mor moi_0 moi_2 moi_4 moi_8 moi_9 moi_11 moi_12 moi_13 moi_17 moi_18 moi_20 moi_21 moi_24 moi_26 moi_28 moi_30 moi_31 moi_32 mok_1 mok_3 mok_5 mok_6 mok_7 mok_10 mok_14 mok_15 mok_16 mok_19 mok_22 w142_mok_23 mok_25 mok_27 mok_29 w10_mok_33 mok_34) → va_S A s.heap H locs → lv_has ls 3 [(2, .int v142_2), (0, .ref mo), (1, .ref (mor 23))] → W p l e ({ frames := 0, cells := 0, slots := 0, locals := 0 } : Room) s m args below meth c H locs 0 0 Q (F0 m 142 ls []) := by
    intro w10_mok_33 n142
    induction n142 with
    | zero => intro v142_2 w142_mok_23 he; exact absurd he hne
    | succ n142 ih142 =>
      intro v142_2 w142_mok_23 he H locs ls hP hD hS hl
      replace he := he.trans (fX7_ring_tried_L142.eq_2 _ _ _ _ _)
      refine lv_iload_n hx hb dX7_ring_142 rfl (lv_at hl 0 rfl) ?_
      refine lv_aload_n hx hb dX7_ring_143 rfl (lv_at hl 1 rfl) ?_
      refine va_get (D := D) (ci := 7) (v := .int moi_13) (C := RX7) (T := TX7) (N := 35) hx hb hts hi_X7_ring_tried_7 hown hK hP 0 wM_0 rfl 13 (by decide) (hts (.fieldLink RX7 71 "BlindLanternsModel" "men" "I") (List.mem_of_getElem? (i := 1) rfl)) (fun _ h9 => h9) xMf_13 dX7_ring_144 ?_
      refine lv_icmp_ge (tgt := 196) hx hb dX7_ring_147 (by decide) (fun c2 => ?_) (fun c2 => ?_)
      · replace he := he.trans (if_pos c2)
        exact R142_0 w10_mok_33 v142_2 w142_mok_23 he _ _ _ hP hD hS (lv_sub hl [] rfl)
      · replace he := he.trans (if_neg c2)
        refine lv_aload_n hx hb dX7_ring_150 rfl (lv_at hl 2 rfl) ?_
        refine lv_bipush (v := 6) hx hb dX7_ring_151 (by decide) ?_
        refine lv_iload_n hx hb dX7_ring_153 rfl (lv_at hl 0 rfl) ?_
        refine lv_iadd hx hb dX7_ring_154 ?_
        refine lv_dup2_11 hx hb dX7_ring_155 rfl rfl ?_
        by_cases g3 : ((6 : Int32) + v142_2) < 0 ∨ 19 ≤ ((6 : Int32) + v142_2).toNatClampNeg
        · exact absurd (he.trans (if_pos g3)) hne
        replace he := he.trans (if_neg g3)
        refine va_iald hx hb hK hP 12 0 wM_a23 rfl g3 dX7_ring_156 ?_
        refine lv_aload_n hx hb dX7_ring_157 rfl (lv_at hl 2 rfl) ?_
        refine lv_bipush (v := 12) hx hb dX7_ring_158 (by decide) ?_
        refine lv_iload_n hx hb dX7_ring_160 rfl (lv_at hl 0 rfl) ?_
        refine lv_iadd hx hb dX7_ring_161 ?_
        by_cases g4 : ((12 : Int32) + v142_2) < 0 ∨ 19 ≤ ((12 : Int32) + v142_2).toNatClampNeg
        · exact absurd (he.trans (if_pos g4)) hne
        replace he := he.trans (if_neg g4)
        refine va_iald hx hb hK hP 12 0 wM_a23 rfl g4 dX7_ring_162 ?_
        refine lv_isub hx hb dX7_ring_163 ?_
        by_cases g5 : ((6 : Int32) + v142_2) < 0 ∨ 19 ≤ ((6 : Int32) + v142_2).toNatClampNeg
        · exact absurd (he.trans (if_pos g5)) hne
        replace he := he.trans (if_neg g5)
        refine va_iast hx hb hK hP hD hS 12 0 wM_a23 rfl g5 dX7_ring_164 (fun H locs hP hD hS => ?_)
        rw [wM_s23] at hP hD
        refine lv_aload_n hx hb dX7_ring_165 rfl (lv_at hl 2 rfl) ?_
        refine lv_bipush (v := 12) hx hb dX7_ring_166 (by decide) ?_
        refine lv_iload_n hx hb dX7_ring_168 rfl (lv_at hl 0 rfl) ?_
        refine lv_iadd hx hb dX7_ring_169 ?_
        refine lv_aload_n hx hb dX7_ring_170 rfl (lv_at hl 2 rfl) ?_
        refine lv_bipush (v := 6) hx hb dX7_ring_171 (by decide) ?_
        refine lv_iload_n hx hb dX7_ring_173 rfl (lv_at hl 0 rfl) ?_
        refine lv_iadd hx hb dX7_ring_174 ?_
        by_cases g6 : ((6 : Int32) + v142_2) < 0 ∨ 19 ≤ ((6 : Int32) + v142_2).toNatClampNeg
        · exact absurd (he.trans (if_pos g6)) hne
        replace he := he.trans (if_neg g6)
        refine va_iald hx hb hK hP 12 0 wM_a23 rfl g6 dX7_ring_175 ?_
        refine lv_if_ne (tgt := 183) hx hb dX7_ring_176 (by decide) (fun c7 => ?_) (fun c7 => ?_)
        · replace he := he.trans (if_neg c7)
          refine lv_aload_n hx hb dX7_ring_183 rfl (lv_at hl 2 rfl) ?_
          refine lv_bipush (v := 12) hx hb dX7_ring_184 (by decide) ?_
          refine lv_iload_n hx hb dX7_ring_186 rfl (lv_at hl 0 rfl) ?_
          refine lv_iadd hx hb dX7_ring_187 ?_
          by_cases g8 : ((12 : Int32) + v142_2) < 0 ∨ 19 ≤ ((12 : Int32) + v142_2).toNatClampNeg
          · exact absurd (he.trans (if_pos g8)) hne
          replace he := he.trans (if_neg g8)
          refine va_iald hx hb hK hP 12 0 wM_a23 rfl g8 dX7_ring_188 ?_
          by_cases g9 : ((12 : Int32) + v142_2) < 0 ∨ 19 ≤ ((12 : Int32) + v142_2).toNatClampNeg
          · exact absurd (he.trans (if_pos g9)) hne
          replace he := he.trans (if_neg g9)
          refine va_iast hx hb hK hP hD hS 12 0 wM_a23 rfl g9 dX7_ring_189 (fun H locs hP hD hS => ?_)
          rw [wM_s23] at hP hD
          refine lv_iinc (v := (v142_2 + 1)) (lv' := [(2, .int (v142_2 + 1)), (0, .ref mo), (1, .ref (mor 23))]) hx hb dX7_ring_190 hl (k := 0) rfl rfl (by decide) rfl (fun ls hl => ?_)
          refine lv_goto (tgt := 142) hx hb dX7_ring_193 (by decide) ?_
          exact ih142 (v142_2 + 1) (upd (upd w142_mok_23 ((6 : Int32) + v142_2).toNatClampNeg ((w142_mok_23 ((6 : Int32) + v142_2).toNatClampNeg) - (w142_mok_23 ((12 : Int32) + v142_2).toNatClampNeg))) ((12 : Int32) + v142_2).toNatClampNeg ((upd w142_mok_23 ((6 : Int32) + v142_2).toNatClampNeg ((w142_mok_23 ((6 : Int32) + v142_2).toNatClampNeg) - (w142_mok_23 ((12 : Int32) + v142_2).toNatClampNeg))) ((12 : Int32) + v142_2).toNatClampNeg)) he _ _ _ hP hD hS (lv_sub hl [0, 1, 2] rfl)
        · replace he := he.trans (if_pos c7)
          refine lv_iconst (v := 0) hx hb dX7_ring_179 (by decide) ?_
          refine lv_goto (tgt := 189) hx hb dX7_ring_180 (by decide) ?_
          by_cases g10 : ((12 : Int32) + v142_2) < 0 ∨ 19 ≤ ((12 : Int32) + v142_2).toNatClampNeg
          · exact absurd (he.trans (if_pos g10)) hne
          replace he := he.trans (if_neg g10)
          refine va_iast hx hb hK hP hD hS 12 0 wM_a23 rfl g10 dX7_ring_189 (fun H locs hP hD hS => ?_)
          rw [wM_s23] at hP hD
          refine lv_iinc (v := (v142_2 + 1)) (lv' := [(2, .int (v142_2 + 1)), (0, .ref mo), (1, .ref (mor 23))]) hx hb dX7_ring_190 hl (k := 0) rfl rfl (by decide) rfl (fun ls hl => ?_)
          refine lv_goto (tgt := 142) hx hb dX7_ring_193 (by decide) ?_
          exact ih142 (v142_2 + 1) (upd (upd w142_mok_23 ((6 : Int32) + v142_2).toNatClampNeg ((w142_mok_23 ((6 : Int32) + v142_2).toNatClampNeg) - (w142_mok_23 ((12 : Int32) + v142_2).toNatClampNeg))) ((12 : Int32) + v142_2).toNatClampNeg (0 : Int32)) he _ _ _ hP hD hS (lv_sub hl [0, 1, 2] rfl)
  have R70_81 : ∀ (w10_mok_33 : Nat → Int32) (v70_2 : Int32) (w70_mok_23 : Nat → Int32), fX7_ring_tried F moi_13 moi_17 moi_18 moi_30 moi_31 mok_19 mok_23 mok_33 = (if moi_30 = (w70_mok_23 (18 : Int32).toNatClampNeg) then (if moi_31 < 0 ∨ 19 ≤ moi_31.toNatClampNeg then none else (if ((12 : Int32) + (w70_mok_23 moi_31.toNatClampNeg)) < 0 ∨ 19 ≤ ((12 : Int32) + (w70_mok_23 moi_31.toNatClampNeg)).toNatClampNeg then none else (fX7_ring_tried_L142 moi_13 (fun (v142_2 : Int32) (w142_mok_23 : Nat → Int32) => some (w142_mok_23, w10_mok_33)) F (0 : Int32) (upd w70_mok_23 ((12 : Int32) + (w70_mok_23 moi_31.toNatClampNeg)).toNatClampNeg (0 : Int32))))) else (fX7_ring_tried_L142 moi_13 (fun (v142_2 : Int32) (w142_mok_23 : Nat → Int32) => some (w142_mok_23, w10_mok_33)) F (0 : Int32) w70_mok_23)) → ∀ (H : Heap) (locs : List Loc) (ls : Array Slot), va_P D vwCl (wM cI mo mor moi_0 moi_2 moi_4 moi_8 moi_9 moi_11 moi_12 moi_13 moi_17 moi_18 moi_20 moi_21 moi_24 moi_26 moi_28 moi_30 moi_31 moi_32 mok_1 mok_3 mok_5 mok_6 mok_7 mok_10 mok_14 mok_15 mok_16 mok_19 mok_22 w70_mok_23 mok_25 mok_27 mok_29 w10_mok_33 mok_34) H → va_D A (wM cI mo mor moi_0 moi_2 moi_4 moi_8 moi_9 moi_11 moi_12 moi_13 moi_17 moi_18 moi_20 moi_21 moi_24 moi_26 moi_28 moi_30 moi_31 moi_32 mok_1 mok_3 mok_5 mok_6 mok_7 mok_10 mok_14 mok_15 mok_16 mok_19 mok_22 w70_mok_23 mok_25 mok_27 mok_29 w10_mok_33 mok_34) → va_S A s.heap H locs → lv_has ls 3 [(0, .ref mo), (1, .ref (mor 23))] → W p l e ({ frames := 0, cells := 0, slots := 0, locals := 0 } : Room) s m args below meth c H locs 0 0 Q (F0 m 117 ls []) := by
    intro w10_mok_33 v70_2 w70_mok_23 he H locs ls hP hD hS hl
    refine lv_aload_n hx hb dX7_ring_117 rfl (lv_at hl 0 rfl) ?_
    refine va_get (D := D) (ci := 7) (v := .int moi_30) (C := RX7) (T := TX7) (N := 35) hx hb hts hi_X7_ring_tried_7 hown hK hP 0 wM_0 rfl 30 (by decide) (hts (.fieldLink RX7 55 "BlindLanternsModel" "atBell" "I") (List.mem_of_getElem? (i := 6) rfl)) (fun _ h9 => h9) xMf_30 dX7_ring_118 ?_
    refine lv_aload_n hx hb dX7_ring_121 rfl (lv_at hl 1 rfl) ?_
    refine lv_bipush (v := 18) hx hb dX7_ring_122 (by decide) ?_
    refine va_iald hx hb hK hP 12 0 wM_a23 rfl (x_in rfl) dX7_ring_124 ?_
    refine lv_icmp_ne (tgt := 140) hx hb dX7_ring_125 (by decide) (fun c1 => ?_) (fun c1 => ?_)
    · replace he := he.trans (if_neg c1)
      refine lv_iconst (v := 0) hx hb dX7_ring_140 (by decide) ?_
      refine lv_istore_n (lv' := [(2, .int (0 : Int32)), (0, .ref mo), (1, .ref (mor 23))]) hx hb dX7_ring_141 rfl hl (by decide) rfl (fun ls hl => ?_)
      exact L142_3 w10_mok_33 F (0 : Int32) w70_mok_23 he _ _ _ hP hD hS (lv_sub hl [0, 1, 2] rfl)
    · replace he := he.trans (if_pos c1)
      refine lv_aload_n hx hb dX7_ring_128 rfl (lv_at hl 1 rfl) ?_
      refine lv_bipush (v := 12) hx hb dX7_ring_129 (by decide) ?_
      refine lv_aload_n hx hb dX7_ring_131 rfl (lv_at hl 1 rfl) ?_
      refine lv_aload_n hx hb dX7_ring_132 rfl (lv_at hl 0 rfl) ?_
      refine va_get (D := D) (ci := 7) (v := .int moi_31) (C := RX7) (T := TX7) (N := 35) hx hb hts hi_X7_ring_tried_7 hown hK hP 0 wM_0 rfl 31 (by decide) (hts (.fieldLink RX7 59 "BlindLanternsModel" "atPost" "I") (List.mem_of_getElem? (i := 7) rfl)) (fun _ h9 => h9) xMf_31 dX7_ring_133 ?_
      by_cases g11 : moi_31 < 0 ∨ 19 ≤ moi_31.toNatClampNeg
      · exact absurd (he.trans (if_pos g11)) hne
      replace he := he.trans (if_neg g11)
      refine va_iald hx hb hK hP 12 0 wM_a23 rfl g11 dX7_ring_136 ?_
      refine lv_iadd hx hb dX7_ring_137 ?_
      refine lv_iconst (v := 0) hx hb dX7_ring_138 (by decide) ?_
      by_cases g12 : ((12 : Int32) + (w70_mok_23 moi_31.toNatClampNeg)) < 0 ∨ 19 ≤ ((12 : Int32) + (w70_mok_23 moi_31.toNatClampNeg)).toNatClampNeg
      · exact absurd (he.trans (if_pos g12)) hne
      replace he := he.trans (if_neg g12)
      refine va_iast hx hb hK hP hD hS 12 0 wM_a23 rfl g12 dX7_ring_139 (fun H locs hP hD hS => ?_)
      rw [wM_s23] at hP hD
      refine lv_iconst (v := 0) hx hb dX7_ring_140 (by decide) ?_
      refine lv_istore_n (lv' := [(2, .int (0 : Int32)), (0, .ref mo), (1, .ref (mor 23))]) hx hb dX7_ring_141 rfl hl (by decide) rfl (fun ls hl => ?_)
      exact L142_3 w10_mok_33 F (0 : Int32) (upd w70_mok_23 ((12 : Int32) + (w70_mok_23 moi_31.toNatClampNeg)).toNatClampNeg (0 : Int32)) he _ _ _ hP hD hS (lv_sub hl [0, 1, 2] rfl)
  have L70_113 : ∀ (w10_mok_33 : Nat → Int32) (n70 : Nat) (v70_2 : Int32) (w70_mok_23 : Nat → Int32), fX7_ring_tried F moi_13 moi_17 moi_18 moi_30 moi_31 mok_19 mok_23 mok_33 = fX7_ring_tried_L70 moi_18 mok_19 (fun (v70_2 : Int32) (w70_mok_23 : Nat → Int32) => if moi_30 = (w70_mok_23 (18 : Int32).toNatClampNeg) then (if moi_31 < 0 ∨ 19 ≤ moi_31.toNatClampNeg then none else (if ((12 : Int32) + (w70_mok_23 moi_31.toNatClampNeg)) < 0 ∨ 19 ≤ ((12 : Int32) + (w70_mok_23 moi_31.toNatClampNeg)).toNatClampNeg then none else (fX7_ring_tried_L142 moi_13 (fun (v142_2 : Int32) (w142_mok_23 : Nat → Int32) => some (w142_mok_23, w10_mok_33)) F (0 : Int32) (upd w70_mok_23 ((12 : Int32) + (w70_mok_23 moi_31.toNatClampNeg)).toNatClampNeg (0 : Int32))))) else (fX7_ring_tried_L142 moi_13 (fun (v142_2 : Int32) (w142_mok_23 : Nat → Int32) => some (w142_mok_23, w10_mok_33)) F (0 : Int32) w70_mok_23)) n70 v70_2 w70_mok_23 → ∀ (H : Heap) (locs : List Loc) (ls : Array Slot), va_P D vwCl (wM cI mo mor moi_0 moi_2 moi_4 moi_8 moi_9 moi_11 moi_12 moi_13 moi_17 moi_18 moi_20 moi_21 moi_24 moi_26 moi_28 moi_30 moi_31 moi_32 mok_1 mok_3 mok_5 mok_6 mok_7 mok_10 mok_14 mok_15 mok_16 mok_19 mok_22 w70_mok_23 mok_25 mok_27 mok_29 w10_mok_33 mok_34) H → va_D A (wM cI mo mor moi_0 moi_2 moi_4 moi_8 moi_9 moi_11 moi_12 moi_13 moi_17 moi_18 moi_20 moi_21 moi_24 moi_26 moi_28 moi_30 moi_31 moi_32 mok_1 mok_3 mok_5 mok_6 mok_7 mok_10 mok_14 mok_15 mok_16 mok_19 mok_22 w70_mok_23 mok_25 mok_27 mok_29 w10_mok_33 mok_34) → va_S A s.heap H locs → lv_has ls 3 [(2, .int v70_2), (0, .ref mo), (1, .ref (mor 23))] → W p l e ({ frames := 0, cells := 0, slots := 0, locals := 0 } : Room) s m args below meth c H locs 0 0 Q (F0 m 70 ls []) := by
    intro w10_mok_33 n70
    induction n70 with
    | zero => intro v70_2 w70_mok_23 he; exact absurd he hne
    | succ n70 ih70 =>
      intro v70_2 w70_mok_23 he H locs ls hP hD hS hl
      replace he := he.trans (fX7_ring_tried_L70.eq_2 _ _ _ _ _ _)
      refine lv_iload_n hx hb dX7_ring_70 rfl (lv_at hl 0 rfl) ?_
      refine lv_aload_n hx hb dX7_ring_71 rfl (lv_at hl 1 rfl) ?_
      refine va_get (D := D) (ci := 7) (v := .int moi_18) (C := RX7) (T := TX7) (N := 35) hx hb hts hi_X7_ring_tried_7 hown hK hP 0 wM_0 rfl 18 (by decide) (hts (.fieldLink RX7 126 "BlindLanternsModel" "draughts" "I") (List.mem_of_getElem? (i := 4) rfl)) (fun _ h9 => h9) xMf_18 dX7_ring_72 ?_
      refine lv_icmp_ge (tgt := 117) hx hb dX7_ring_75 (by decide) (fun c22 => ?_) (fun c22 => ?_)
      · replace he := he.trans (if_pos c22)
        exact R70_81 w10_mok_33 v70_2 w70_mok_23 he _ _ _ hP hD hS (lv_sub hl [1, 2] rfl)
      · replace he := he.trans (if_neg c22)
        refine lv_aload_n hx hb dX7_ring_78 rfl (lv_at hl 1 rfl) ?_
        refine va_get (D := D) (ci := 7) (v := .ref (mor 19)) (C := RX7) (T := TX7) (N := 35) hx hb hts hi_X7_ring_tried_7 hown hK hP 0 wM_0 rfl 19 (by decide) (hts (.fieldLink RX7 37 "BlindLanternsModel" "draught" "[I") (List.mem_of_getElem? (i := 5) rfl)) (fun _ h9 => h9) xMf_19 dX7_ring_79 ?_
        refine lv_iconst (v := 2) hx hb dX7_ring_82 (by decide) ?_
        refine lv_iload_n hx hb dX7_ring_83 rfl (lv_at hl 0 rfl) ?_
        refine lv_imul hx hb dX7_ring_84 ?_
        by_cases g23 : ((2 : Int32) * v70_2) < 0 ∨ 12 ≤ ((2 : Int32) * v70_2).toNatClampNeg
        · exact absurd (he.trans (if_pos g23)) hne
        replace he := he.trans (if_neg g23)
        refine va_iald hx hb hK hP 10 0 wM_a19 rfl g23 dX7_ring_85 ?_
        refine lv_aload_n hx hb dX7_ring_86 rfl (lv_at hl 2 rfl) ?_
        refine lv_bipush (v := 18) hx hb dX7_ring_87 (by decide) ?_
        refine va_iald hx hb hK hP 12 0 wM_a23 rfl (x_in rfl) dX7_ring_89 ?_
        refine lv_icmp_ne (tgt := 111) hx hb dX7_ring_90 (by decide) (fun c24 => ?_) (fun c24 => ?_)
        · replace he := he.trans (if_neg c24)
          refine lv_iinc (v := (v70_2 + 1)) (lv' := [(2, .int (v70_2 + 1)), (0, .ref mo), (1, .ref (mor 23))]) hx hb dX7_ring_111 hl (k := 0) rfl rfl (by decide) rfl (fun ls hl => ?_)
          refine lv_goto (tgt := 70) hx hb dX7_ring_114 (by decide) ?_
          exact ih70 (v70_2 + 1) w70_mok_23 he _ _ _ hP hD hS (lv_sub hl [0, 1, 2] rfl)
        · replace he := he.trans (if_pos c24)
          refine lv_aload_n hx hb dX7_ring_93 rfl (lv_at hl 2 rfl) ?_
          refine lv_bipush (v := 12) hx hb dX7_ring_94 (by decide) ?_
          refine lv_aload_n hx hb dX7_ring_96 rfl (lv_at hl 2 rfl) ?_
          refine lv_aload_n hx hb dX7_ring_97 rfl (lv_at hl 1 rfl) ?_
          refine va_get (D := D) (ci := 7) (v := .ref (mor 19)) (C := RX7) (T := TX7) (N := 35) hx hb hts hi_X7_ring_tried_7 hown hK hP 0 wM_0 rfl 19 (by decide) (hts (.fieldLink RX7 37 "BlindLanternsModel" "draught" "[I") (List.mem_of_getElem? (i := 5) rfl)) (fun _ h9 => h9) xMf_19 dX7_ring_98 ?_
          refine lv_iconst (v := 2) hx hb dX7_ring_101 (by decide) ?_
          refine lv_iload_n hx hb dX7_ring_102 rfl (lv_at hl 0 rfl) ?_
          refine lv_imul hx hb dX7_ring_103 ?_
          refine lv_iconst (v := 1) hx hb dX7_ring_104 (by decide) ?_
          refine lv_iadd hx hb dX7_ring_105 ?_
          by_cases g25 : (((2 : Int32) * v70_2) + (1 : Int32)) < 0 ∨ 12 ≤ (((2 : Int32) * v70_2) + (1 : Int32)).toNatClampNeg
          · exact absurd (he.trans (if_pos g25)) hne
          replace he := he.trans (if_neg g25)
          refine va_iald hx hb hK hP 10 0 wM_a19 rfl g25 dX7_ring_106 ?_
          by_cases g26 : (mok_19 (((2 : Int32) * v70_2) + (1 : Int32)).toNatClampNeg) < 0 ∨ 19 ≤ (mok_19 (((2 : Int32) * v70_2) + (1 : Int32)).toNatClampNeg).toNatClampNeg
          · exact absurd (he.trans (if_pos g26)) hne
          replace he := he.trans (if_neg g26)
          refine va_iald hx hb hK hP 12 0 wM_a23 rfl g26 dX7_ring_107 ?_
          refine lv_iadd hx hb dX7_ring_108 ?_
          refine lv_iconst (v := 0) hx hb dX7_ring_109 (by decide) ?_
          by_cases g27 : ((12 : Int32) + (w70_mok_23 (mok_19 (((2 : Int32) * v70_2) + (1 : Int32)).toNatClampNeg).toNatClampNeg)) < 0 ∨ 19 ≤ ((12 : Int32) + (w70_mok_23 (mok_19 (((2 : Int32) * v70_2) + (1 : Int32)).toNatClampNeg).toNatClampNeg)).toNatClampNeg
          · exact absurd (he.trans (if_pos g27)) hne
          replace he := he.trans (if_neg g27)
          refine va_iast hx hb hK hP hD hS 12 0 wM_a23 rfl g27 dX7_ring_110 (fun H locs hP hD hS => ?_)
          rw [wM_s23] at hP hD
          refine lv_iinc (v := (v70_2 + 1)) (lv' := [(2, .int (v70_2 + 1)), (0, .ref mo), (1, .ref (mor 23))]) hx hb dX7_ring_111 hl (k := 0) rfl rfl (by decide) rfl (fun ls hl => ?_)
          refine lv_goto (tgt := 70) hx hb dX7_ring_114 (by decide) ?_
          exact ih70 (v70_2 + 1) (upd w70_mok_23 ((12 : Int32) + (w70_mok_23 (mok_19 (((2 : Int32) * v70_2) + (1 : Int32)).toNatClampNeg).toNatClampNeg)).toNatClampNeg (0 : Int32)) he _ _ _ hP hD hS (lv_sub hl [0, 1, 2] rfl)
  have R45_173 : ∀ (w10_mok_33 : Nat → Int32) (v45_2 : Int32) (w45_mok_23 : Nat → Int32), fX7_ring_tried F moi_13 moi_17 moi_18 moi_30 moi_31 mok_19 mok_23 mok_33 = (fX7_ring_tried_L70 moi_18 mok_19 (fun (v70_2 : Int32) (w70_mok_23 : Nat → Int32) => if moi_30 = (w70_mok_23 (18 : Int32).toNatClampNeg) then (if moi_31 < 0 ∨ 19 ≤ moi_31.toNatClampNeg then none else (if ((12 : Int32) + (w70_mok_23 moi_31.toNatClampNeg)) < 0 ∨ 19 ≤ ((12 : Int32) + (w70_mok_23 moi_31.toNatClampNeg)).toNatClampNeg then none else (fX7_ring_tried_L142 moi_13 (fun (v142_2 : Int32) (w142_mok_23 : Nat → Int32) => some (w142_mok_23, w10_mok_33)) F (0 : Int32) (upd w70_mok_23 ((12 : Int32) + (w70_mok_23 moi_31.toNatClampNeg)).toNatClampNeg (0 : Int32))))) else (fX7_ring_tried_L142 moi_13 (fun (v142_2 : Int32) (w142_mok_23 : Nat → Int32) => some (w142_mok_23, w10_mok_33)) F (0 : Int32) w70_mok_23)) F (0 : Int32) w45_mok_23) → ∀ (H : Heap) (locs : List Loc) (ls : Array Slot), va_P D vwCl (wM cI mo mor moi_0 moi_2 moi_4 moi_8 moi_9 moi_11 moi_12 moi_13 moi_17 moi_18 moi_20 moi_21 moi_24 moi_26 moi_28 moi_30 moi_31 moi_32 mok_1 mok_3 mok_5 mok_6 mok_7 mok_10 mok_14 mok_15 mok_16 mok_19 mok_22 w45_mok_23 mok_25 mok_27 mok_29 w10_mok_33 mok_34) H → va_D A (wM cI mo mor moi_0 moi_2 moi_4 moi_8 moi_9 moi_11 moi_12 moi_13 moi_17 moi_18 moi_20 moi_21 moi_24 moi_26 moi_28 moi_30 moi_31 moi_32 mok_1 mok_3 mok_5 mok_6 mok_7 mok_10 mok_14 mok_15 mok_16 mok_19 mok_22 w45_mok_23 mok_25 mok_27 mok_29 w10_mok_33 mok_34) → va_S A s.heap H locs → lv_has ls 3 [(0, .ref mo), (1, .ref (mor 23))] → W p l e ({ frames := 0, cells := 0, slots := 0, locals := 0 } : Room) s m args below meth c H locs 0 0 Q (F0 m 68 ls []) := by
    intro w10_mok_33 v45_2 w45_mok_23 he H locs ls hP hD hS hl
    refine lv_iconst (v := 0) hx hb dX7_ring_68 (by decide) ?_
    refine lv_istore_n (lv' := [(2, .int (0 : Int32)), (0, .ref mo), (1, .ref (mor 23))]) hx hb dX7_ring_69 rfl hl (by decide) rfl (fun ls hl => ?_)
    exact L70_113 w10_mok_33 F (0 : Int32) w45_mok_23 he _ _ _ hP hD hS (lv_sub hl [0, 1, 2] rfl)
  have L45_178 : ∀ (w10_mok_33 : Nat → Int32) (n45 : Nat) (v45_2 : Int32) (w45_mok_23 : Nat → Int32), fX7_ring_tried F moi_13 moi_17 moi_18 moi_30 moi_31 mok_19 mok_23 mok_33 = fX7_ring_tried_L45 moi_13 w10_mok_33 (fun (v45_2 : Int32) (w45_mok_23 : Nat → Int32) => fX7_ring_tried_L70 moi_18 mok_19 (fun (v70_2 : Int32) (w70_mok_23 : Nat → Int32) => if moi_30 = (w70_mok_23 (18 : Int32).toNatClampNeg) then (if moi_31 < 0 ∨ 19 ≤ moi_31.toNatClampNeg then none else (if ((12 : Int32) + (w70_mok_23 moi_31.toNatClampNeg)) < 0 ∨ 19 ≤ ((12 : Int32) + (w70_mok_23 moi_31.toNatClampNeg)).toNatClampNeg then none else (fX7_ring_tried_L142 moi_13 (fun (v142_2 : Int32) (w142_mok_23 : Nat → Int32) => some (w142_mok_23, w10_mok_33)) F (0 : Int32) (upd w70_mok_23 ((12 : Int32) + (w70_mok_23 moi_31.toNatClampNeg)).toNatClampNeg (0 : Int32))))) else (fX7_ring_tried_L142 moi_13 (fun (v142_2 : Int32) (w142_mok_23 : Nat → Int32) => some (w142_mok_23, w10_mok_33)) F (0 : Int32) w70_mok_23)) F (0 : Int32) w45_mok_23) n45 v45_2 w45_mok_23 → ∀ (H : Heap) (locs : List Loc) (ls : Array Slot), va_P D vwCl (wM cI mo mor moi_0 moi_2 moi_4 moi_8 moi_9 moi_11 moi_12 moi_13 moi_17 moi_18 moi_20 moi_21 moi_24 moi_26 moi_28 moi_30 moi_31 moi_32 mok_1 mok_3 mok_5 mok_6 mok_7 mok_10 mok_14 mok_15 mok_16 mok_19 mok_22 w45_mok_23 mok_25 mok_27 mok_29 w10_mok_33 mok_34) H → va_D A (wM cI mo mor moi_0 moi_2 moi_4 moi_8 moi_9 moi_11 moi_12 moi_13 moi_17 moi_18 moi_20 moi_21 moi_24 moi_26 moi_28 moi_30 moi_31 moi_32 mok_1 mok_3 mok_5 mok_6 mok_7 mok_10 mok_14 mok_15 mok_16 mok_19 mok_22 w45_mok_23 mok_25 mok_27 mok_29 w10_mok_33 mok_34) → va_S A s.heap H locs → lv_has ls 3 [(2, .int v45_2), (0, .ref mo), (1, .ref (mor 23))] → W p l e ({ frames := 0, cells := 0, slots := 0, locals := 0 } : Room) s m args below meth c H locs 0 0 Q (F0 m 45 ls []) := by
    intro w10_mok_33 n45
    induction n45 with
    | zero => intro v45_2 w45_mok_23 he; exact absurd he hne
    | succ n45 ih45 =>
      intro v45_2 w45_mok_23 he H locs ls hP hD hS hl
      replace he := he.trans (fX7_ring_tried_L45.eq_2 _ _ _ _ _ _)
      refine lv_iload_n hx hb dX7_ring_45 rfl (lv_at hl 0 rfl) ?_
      refine lv_aload_n hx hb dX7_ring_46 rfl (lv_at hl 1 rfl) ?_
      refine va_get (D := D) (ci := 7) (v := .int moi_13) (C := RX7) (T := TX7) (N := 35) hx hb hts hi_X7_ring_tried_7 hown hK hP 0 wM_0 rfl 13 (by decide) (hts (.fieldLink RX7 71 "BlindLanternsModel" "men" "I") (List.mem_of_getElem? (i := 1) rfl)) (fun _ h9 => h9) xMf_13 dX7_ring_47 ?_
      refine lv_icmp_ge (tgt := 68) hx hb dX7_ring_50 (by decide) (fun c28 => ?_) (fun c28 => ?_)
      · replace he := he.trans (if_pos c28)
        exact R45_173 w10_mok_33 v45_2 w45_mok_23 he _ _ _ hP hD hS (lv_sub hl [1, 2] rfl)
      · replace he := he.trans (if_neg c28)
        refine lv_aload_n hx hb dX7_ring_53 rfl (lv_at hl 2 rfl) ?_
        refine lv_iload_n hx hb dX7_ring_54 rfl (lv_at hl 0 rfl) ?_
        refine lv_aload_n hx hb dX7_ring_55 rfl (lv_at hl 1 rfl) ?_
        refine va_get (D := D) (ci := 7) (v := .ref (mor 33)) (C := RX7) (T := TX7) (N := 35) hx hb hts hi_X7_ring_tried_7 hown hK hP 0 wM_0 rfl 33 (by decide) (hts (.fieldLink RX7 65 "BlindLanternsModel" "moved" "[I") (List.mem_of_getElem? (i := 2) rfl)) (fun _ h9 => h9) xMf_33 dX7_ring_56 ?_
        refine lv_iload_n hx hb dX7_ring_59 rfl (lv_at hl 0 rfl) ?_
        by_cases g29 : v45_2 < 0 ∨ 6 ≤ v45_2.toNatClampNeg
        · exact absurd (he.trans (if_pos g29)) hne
        replace he := he.trans (if_neg g29)
        refine va_iald hx hb hK hP 16 0 wM_a33 rfl g29 dX7_ring_60 ?_
        by_cases g30 : v45_2 < 0 ∨ 19 ≤ v45_2.toNatClampNeg
        · exact absurd (he.trans (if_pos g30)) hne
        replace he := he.trans (if_neg g30)
        refine va_iast hx hb hK hP hD hS 12 0 wM_a23 rfl g30 dX7_ring_61 (fun H locs hP hD hS => ?_)
        rw [wM_s23] at hP hD
        refine lv_iinc (v := (v45_2 + 1)) (lv' := [(2, .int (v45_2 + 1)), (0, .ref mo), (1, .ref (mor 23))]) hx hb dX7_ring_62 hl (k := 0) rfl rfl (by decide) rfl (fun ls hl => ?_)
        refine lv_goto (tgt := 45) hx hb dX7_ring_65 (by decide) ?_
        exact ih45 (v45_2 + 1) (upd w45_mok_23 v45_2.toNatClampNeg (w10_mok_33 v45_2.toNatClampNeg)) he _ _ _ hP hD hS (lv_sub hl [0, 1, 2] rfl)
  have R10_209 : ∀ (v10_2 : Int32) (w10_mok_33 : Nat → Int32), fX7_ring_tried F moi_13 moi_17 moi_18 moi_30 moi_31 mok_19 mok_23 mok_33 = (fX7_ring_tried_L45 moi_13 w10_mok_33 (fun (v45_2 : Int32) (w45_mok_23 : Nat → Int32) => fX7_ring_tried_L70 moi_18 mok_19 (fun (v70_2 : Int32) (w70_mok_23 : Nat → Int32) => if moi_30 = (w70_mok_23 (18 : Int32).toNatClampNeg) then (if moi_31 < 0 ∨ 19 ≤ moi_31.toNatClampNeg then none else (if ((12 : Int32) + (w70_mok_23 moi_31.toNatClampNeg)) < 0 ∨ 19 ≤ ((12 : Int32) + (w70_mok_23 moi_31.toNatClampNeg)).toNatClampNeg then none else (fX7_ring_tried_L142 moi_13 (fun (v142_2 : Int32) (w142_mok_23 : Nat → Int32) => some (w142_mok_23, w10_mok_33)) F (0 : Int32) (upd w70_mok_23 ((12 : Int32) + (w70_mok_23 moi_31.toNatClampNeg)).toNatClampNeg (0 : Int32))))) else (fX7_ring_tried_L142 moi_13 (fun (v142_2 : Int32) (w142_mok_23 : Nat → Int32) => some (w142_mok_23, w10_mok_33)) F (0 : Int32) w70_mok_23)) F (0 : Int32) w45_mok_23) F (0 : Int32) (upd mok_23 (18 : Int32).toNatClampNeg ((mok_23 (18 : Int32).toNatClampNeg) + (1 : Int32)))) → ∀ (H : Heap) (locs : List Loc) (ls : Array Slot), va_P D vwCl (wM cI mo mor moi_0 moi_2 moi_4 moi_8 moi_9 moi_11 moi_12 moi_13 moi_17 moi_18 moi_20 moi_21 moi_24 moi_26 moi_28 moi_30 moi_31 moi_32 mok_1 mok_3 mok_5 mok_6 mok_7 mok_10 mok_14 mok_15 mok_16 mok_19 mok_22 (upd mok_23 (18 : Int32).toNatClampNeg ((mok_23 (18 : Int32).toNatClampNeg) + (1 : Int32))) mok_25 mok_27 mok_29 w10_mok_33 mok_34) H → va_D A (wM cI mo mor moi_0 moi_2 moi_4 moi_8 moi_9 moi_11 moi_12 moi_13 moi_17 moi_18 moi_20 moi_21 moi_24 moi_26 moi_28 moi_30 moi_31 moi_32 mok_1 mok_3 mok_5 mok_6 mok_7 mok_10 mok_14 mok_15 mok_16 mok_19 mok_22 (upd mok_23 (18 : Int32).toNatClampNeg ((mok_23 (18 : Int32).toNatClampNeg) + (1 : Int32))) mok_25 mok_27 mok_29 w10_mok_33 mok_34) → va_S A s.heap H locs → lv_has ls 3 [(0, .ref mo), (1, .ref (mor 23))] → W p l e ({ frames := 0, cells := 0, slots := 0, locals := 0 } : Room) s m args below meth c H locs 0 0 Q (F0 m 43 ls []) := by
    intro v10_2 w10_mok_33 he H locs ls hP hD hS hl
    refine lv_iconst (v := 0) hx hb dX7_ring_43 (by decide) ?_
    refine lv_istore_n (lv' := [(2, .int (0 : Int32)), (0, .ref mo), (1, .ref (mor 23))]) hx hb dX7_ring_44 rfl hl (by decide) rfl (fun ls hl => ?_)
    exact L45_178 w10_mok_33 F (0 : Int32) (upd mok_23 (18 : Int32).toNatClampNeg ((mok_23 (18 : Int32).toNatClampNeg) + (1 : Int32))) he _ _ _ hP hD hS (lv_sub hl [0, 1, 2] rfl)
  have L10_214 : ∀ (n10 : Nat) (v10_2 : Int32) (w10_mok_33 : Nat → Int32), fX7_ring_tried F moi_13 moi_17 moi_18 moi_30 moi_31 mok_19 mok_23 mok_33 = fX7_ring_tried_L10 moi_13 moi_17 mok_23 (fun (v10_2 : Int32) (w10_mok_33 : Nat → Int32) => fX7_ring_tried_L45 moi_13 w10_mok_33 (fun (v45_2 : Int32) (w45_mok_23 : Nat → Int32) => fX7_ring_tried_L70 moi_18 mok_19 (fun (v70_2 : Int32) (w70_mok_23 : Nat → Int32) => if moi_30 = (w70_mok_23 (18 : Int32).toNatClampNeg) then (if moi_31 < 0 ∨ 19 ≤ moi_31.toNatClampNeg then none else (if ((12 : Int32) + (w70_mok_23 moi_31.toNatClampNeg)) < 0 ∨ 19 ≤ ((12 : Int32) + (w70_mok_23 moi_31.toNatClampNeg)).toNatClampNeg then none else (fX7_ring_tried_L142 moi_13 (fun (v142_2 : Int32) (w142_mok_23 : Nat → Int32) => some (w142_mok_23, w10_mok_33)) F (0 : Int32) (upd w70_mok_23 ((12 : Int32) + (w70_mok_23 moi_31.toNatClampNeg)).toNatClampNeg (0 : Int32))))) else (fX7_ring_tried_L142 moi_13 (fun (v142_2 : Int32) (w142_mok_23 : Nat → Int32) => some (w142_mok_23, w10_mok_33)) F (0 : Int32) w70_mok_23)) F (0 : Int32) w45_mok_23) F (0 : Int32) (upd mok_23 (18 : Int32).toNatClampNeg ((mok_23 (18 : Int32).toNatClampNeg) + (1 : Int32)))) n10 v10_2 w10_mok_33 → ∀ (H : Heap) (locs : List Loc) (ls : Array Slot), va_P D vwCl (wM cI mo mor moi_0 moi_2 moi_4 moi_8 moi_9 moi_11 moi_12 moi_13 moi_17 moi_18 moi_20 moi_21 moi_24 moi_26 moi_28 moi_30 moi_31 moi_32 mok_1 mok_3 mok_5 mok_6 mok_7 mok_10 mok_14 mok_15 mok_16 mok_19 mok_22 (upd mok_23 (18 : Int32).toNatClampNeg ((mok_23 (18 : Int32).toNatClampNeg) + (1 : Int32))) mok_25 mok_27 mok_29 w10_mok_33 mok_34) H → va_D A (wM cI mo mor moi_0 moi_2 moi_4 moi_8 moi_9 moi_11 moi_12 moi_13 moi_17 moi_18 moi_20 moi_21 moi_24 moi_26 moi_28 moi_30 moi_31 moi_32 mok_1 mok_3 mok_5 mok_6 mok_7 mok_10 mok_14 mok_15 mok_16 mok_19 mok_22 (upd mok_23 (18 : Int32).toNatClampNeg ((mok_23 (18 : Int32).toNatClampNeg) + (1 : Int32))) mok_25 mok_27 mok_29 w10_mok_33 mok_34) → va_S A s.heap H locs → lv_has ls 3 [(2, .int v10_2), (0, .ref mo), (1, .ref (mor 23))] → W p l e ({ frames := 0, cells := 0, slots := 0, locals := 0 } : Room) s m args below meth c H locs 0 0 Q (F0 m 10 ls []) := by
    intro n10
    induction n10 with
    | zero => intro v10_2 w10_mok_33 he; exact absurd he hne
    | succ n10 ih10 =>
      intro v10_2 w10_mok_33 he H locs ls hP hD hS hl
      replace he := he.trans (fX7_ring_tried_L10.eq_2 _ _ _ _ _ _ _)
      refine lv_iload_n hx hb dX7_ring_10 rfl (lv_at hl 0 rfl) ?_
      refine lv_aload_n hx hb dX7_ring_11 rfl (lv_at hl 1 rfl) ?_
      refine va_get (D := D) (ci := 7) (v := .int moi_13) (C := RX7) (T := TX7) (N := 35) hx hb hts hi_X7_ring_tried_7 hown hK hP 0 wM_0 rfl 13 (by decide) (hts (.fieldLink RX7 71 "BlindLanternsModel" "men" "I") (List.mem_of_getElem? (i := 1) rfl)) (fun _ h9 => h9) xMf_13 dX7_ring_12 ?_
      refine lv_icmp_ge (tgt := 43) hx hb dX7_ring_15 (by decide) (fun c31 => ?_) (fun c31 => ?_)
      · replace he := he.trans (if_pos c31)
        exact R10_209 v10_2 w10_mok_33 he _ _ _ hP hD hS (lv_sub hl [1, 2] rfl)
      · replace he := he.trans (if_neg c31)
        refine lv_aload_n hx hb dX7_ring_18 rfl (lv_at hl 1 rfl) ?_
        refine va_get (D := D) (ci := 7) (v := .ref (mor 33)) (C := RX7) (T := TX7) (N := 35) hx hb hts hi_X7_ring_tried_7 hown hK hP 0 wM_0 rfl 33 (by decide) (hts (.fieldLink RX7 65 "BlindLanternsModel" "moved" "[I") (List.mem_of_getElem? (i := 2) rfl)) (fun _ h9 => h9) xMf_33 dX7_ring_19 ?_
        refine lv_iload_n hx hb dX7_ring_22 rfl (lv_at hl 0 rfl) ?_
        refine lv_aload_n hx hb dX7_ring_23 rfl (lv_at hl 1 rfl) ?_
        refine va_get (D := D) (ci := 7) (v := .int moi_17) (C := RX7) (T := TX7) (N := 35) hx hb hts hi_X7_ring_tried_7 hown hK hP 0 wM_0 rfl 17 (by decide) (hts (.fieldLink RX7 74 "BlindLanternsModel" "on" "I") (List.mem_of_getElem? (i := 3) rfl)) (fun _ h9 => h9) xMf_17 dX7_ring_24 ?_
        refine lv_iadd hx hb dX7_ring_27 ?_
        refine lv_aload_n hx hb dX7_ring_28 rfl (lv_at hl 1 rfl) ?_
        refine va_get (D := D) (ci := 7) (v := .int moi_13) (C := RX7) (T := TX7) (N := 35) hx hb hts hi_X7_ring_tried_7 hown hK hP 0 wM_0 rfl 13 (by decide) (hts (.fieldLink RX7 71 "BlindLanternsModel" "men" "I") (List.mem_of_getElem? (i := 1) rfl)) (fun _ h9 => h9) xMf_13 dX7_ring_29 ?_
        by_cases g32 : moi_13 = 0
        · exact absurd (he.trans (if_pos g32)) hne
        replace he := he.trans (if_neg g32)
        refine lv_irem hx hb dX7_ring_32 g32 ?_
        refine lv_aload_n hx hb dX7_ring_33 rfl (lv_at hl 2 rfl) ?_
        refine lv_iload_n hx hb dX7_ring_34 rfl (lv_at hl 0 rfl) ?_
        by_cases g33 : v10_2 < 0 ∨ 19 ≤ v10_2.toNatClampNeg
        · exact absurd (he.trans (if_pos g33)) hne
        replace he := he.trans (if_neg g33)
        refine va_iald hx hb hK hP 12 0 wM_a23 rfl g33 dX7_ring_35 ?_
        by_cases g34 : ((v10_2 + moi_17) - (v10_2 + moi_17) / moi_13 * moi_13) < 0 ∨ 6 ≤ ((v10_2 + moi_17) - (v10_2 + moi_17) / moi_13 * moi_13).toNatClampNeg
        · exact absurd (he.trans (if_pos g34)) hne
        replace he := he.trans (if_neg g34)
        refine va_iast hx hb hK hP hD hS 16 0 wM_a33 rfl g34 dX7_ring_36 (fun H locs hP hD hS => ?_)
        rw [wM_s33] at hP hD
        refine lv_iinc (v := (v10_2 + 1)) (lv' := [(2, .int (v10_2 + 1)), (0, .ref mo), (1, .ref (mor 23))]) hx hb dX7_ring_37 hl (k := 0) rfl rfl (by decide) rfl (fun ls hl => ?_)
        refine lv_goto (tgt := 10) hx hb dX7_ring_40 (by decide) ?_
        exact ih10 (v10_2 + 1) (upd w10_mok_33 ((v10_2 + moi_17) - (v10_2 + moi_17) / moi_13 * moi_13).toNatClampNeg ((upd mok_23 (18 : Int32).toNatClampNeg ((mok_23 (18 : Int32).toNatClampNeg) + (1 : Int32))) v10_2.toNatClampNeg)) he _ _ _ hP hD hS (lv_sub hl [0, 1, 2] rfl)
  refine lv_aload_n hx hb dX7_ring_0 rfl (lv_at hl 1 rfl) ?_
  refine lv_bipush (v := 18) hx hb dX7_ring_1 (by decide) ?_
  refine lv_dup2_11 hx hb dX7_ring_3 rfl rfl ?_
  refine va_iald hx hb hK hP 12 0 wM_a23 rfl (x_in rfl) dX7_ring_4 ?_
  refine lv_iconst (v := 1) hx hb dX7_ring_5 (by decide) ?_
  refine lv_iadd hx hb dX7_ring_6 ?_
  refine va_iast hx hb hK hP hD hS 12 0 wM_a23 rfl (x_in rfl) dX7_ring_7 (fun H locs hP hD hS => ?_)
  rw [wM_s23] at hP hD
  refine lv_iconst (v := 0) hx hb dX7_ring_8 (by decide) ?_
  refine lv_istore_n (lv' := [(2, .int (0 : Int32)), (0, .ref mo), (1, .ref (mor 23))]) hx hb dX7_ring_9 rfl hl (by decide) rfl (fun ls hl => ?_)
  exact L10_214 F (0 : Int32) mok_33 he _ _ _ hP hD hS (lv_sub hl [0, 1, 2] rfl)

def fX7_isLit_now (mok_22 : Nat → Int32) (a2 : Int32) : Option (Int32) :=
  if a2 < 0 ∨ 19 ≤ a2.toNatClampNeg then none else (if ((12 : Int32) + (mok_22 a2.toNatClampNeg)) < 0 ∨ 19 ≤ ((12 : Int32) + (mok_22 a2.toNatClampNeg)).toNatClampNeg then none else (if (mok_22 ((12 : Int32) + (mok_22 a2.toNatClampNeg)).toNatClampNeg) = (1 : Int32) then (some (1 : Int32)) else (some (0 : Int32))))
set_option maxHeartbeats 4000000 in
set_option maxRecDepth 100000 in
theorem c_X7_isLit_now (l : Launch) (D : va_G) (cI cP : ClassId) (sz : Nat) (mo : Nat) (mor : Nat → Nat) (moi_0 : Int32) (moi_2 : Int32) (moi_4 : Int32) (moi_8 : Int32) (moi_9 : Int32) (moi_11 : Int32) (moi_12 : Int32) (moi_13 : Int32) (moi_17 : Int32) (moi_18 : Int32) (moi_20 : Int32) (moi_21 : Int32) (moi_24 : Int32) (moi_26 : Int32) (moi_28 : Int32) (moi_30 : Int32) (moi_31 : Int32) (moi_32 : Int32) (mok_1 : Nat → Int32) (mok_3 : Nat → Int32) (mok_5 : Nat → Int32) (mok_6 : Nat → Int32) (mok_7 : Nat → Int32) (mok_10 : Nat → Int32) (mok_14 : Nat → Int32) (mok_15 : Nat → Int32) (mok_16 : Nat → Int32) (mok_19 : Nat → Int32) (mok_22 : Nat → Int32) (mok_23 : Nat → Int32) (mok_25 : Nat → Int32) (mok_27 : Nat → Int32) (mok_29 : Nat → Int32) (mok_33 : Nat → Int32) (mok_34 : Nat → Int32) (a2 : Int32) (hne : fX7_isLit_now mok_22 a2 ≠ none) : xMi l yX7_isLit wsX7_isLit ({ frames := 0, cells := 0, slots := 0, locals := 0 } : Room) D (xT cI cP) [.ref mo, .ref (mor 22), .int a2] (wM cI mo mor moi_0 moi_2 moi_4 moi_8 moi_9 moi_11 moi_12 moi_13 moi_17 moi_18 moi_20 moi_21 moi_24 moi_26 moi_28 moi_30 moi_31 moi_32 mok_1 mok_3 mok_5 mok_6 mok_7 mok_10 mok_14 mok_15 mok_16 mok_19 mok_22 mok_23 mok_25 mok_27 mok_29 mok_33 mok_34) sz (fun r (_ : Unit) => fX7_isLit_now mok_22 a2 = some r) (fun u => wM cI mo mor moi_0 moi_2 moi_4 moi_8 moi_9 moi_11 moi_12 moi_13 moi_17 moi_18 moi_20 moi_21 moi_24 moi_26 moi_28 moi_30 moi_31 moi_32 mok_1 mok_3 mok_5 mok_6 mok_7 mok_10 mok_14 mok_15 mok_16 mok_19 mok_22 mok_23 mok_25 mok_27 mok_29 mok_33 mok_34) 0 0 := by
  refine xMz_of (cc := cX7_isLit) (maxL := 3) (by decide +kernel) rfl (Nat.le_of_ble_eq_true rfl) ?_
  intro p e s m args below meth c A ls hx hb hml hown hts hname hN hK hA hP hD hS hl Q hret
  have he := fX7_isLit_now.eq_1 mok_22 a2
  have hl : lv_has ls 3 [(0, .ref mo), (1, .ref (mor 22)), (2, .int a2)] := hl
  refine lv_aload_n hx hb dX7_isLit_0 rfl (lv_at hl 1 rfl) ?_
  refine lv_bipush (v := 12) hx hb dX7_isLit_1 (by decide) ?_
  refine lv_aload_n hx hb dX7_isLit_3 rfl (lv_at hl 1 rfl) ?_
  refine lv_iload_n hx hb dX7_isLit_4 rfl (lv_at hl 2 rfl) ?_
  by_cases g1 : a2 < 0 ∨ 19 ≤ a2.toNatClampNeg
  · exact absurd (he.trans (if_pos g1)) hne
  replace he := he.trans (if_neg g1)
  refine va_iald hx hb hK hP 11 0 wM_a22 rfl g1 dX7_isLit_5 ?_
  refine lv_iadd hx hb dX7_isLit_6 ?_
  by_cases g2 : ((12 : Int32) + (mok_22 a2.toNatClampNeg)) < 0 ∨ 19 ≤ ((12 : Int32) + (mok_22 a2.toNatClampNeg)).toNatClampNeg
  · exact absurd (he.trans (if_pos g2)) hne
  replace he := he.trans (if_neg g2)
  refine va_iald hx hb hK hP 11 0 wM_a22 rfl g2 dX7_isLit_7 ?_
  refine lv_iconst (v := 1) hx hb dX7_isLit_8 (by decide) ?_
  refine lv_icmp_ne (tgt := 16) hx hb dX7_isLit_9 (by decide) (fun c3 => ?_) (fun c3 => ?_)
  · replace he := he.trans (if_neg c3)
    refine lv_iconst (v := 0) hx hb dX7_isLit_16 (by decide) ?_
    exact hret (0 : Int32) () _ _ _ _ dX7_isLit_17 (Or.inl rfl) he hP hD hS
  · replace he := he.trans (if_pos c3)
    refine lv_iconst (v := 1) hx hb dX7_isLit_12 (by decide) ?_
    refine lv_goto (tgt := 17) hx hb dX7_isLit_13 (by decide) ?_
    exact hret (1 : Int32) () _ _ _ _ dX7_isLit_17 (Or.inr rfl) he hP hD hS

def fX7_isLit_tried (mok_23 : Nat → Int32) (a2 : Int32) : Option (Int32) :=
  if a2 < 0 ∨ 19 ≤ a2.toNatClampNeg then none else (if ((12 : Int32) + (mok_23 a2.toNatClampNeg)) < 0 ∨ 19 ≤ ((12 : Int32) + (mok_23 a2.toNatClampNeg)).toNatClampNeg then none else (if (mok_23 ((12 : Int32) + (mok_23 a2.toNatClampNeg)).toNatClampNeg) = (1 : Int32) then (some (1 : Int32)) else (some (0 : Int32))))
set_option maxHeartbeats 4000000 in
set_option maxRecDepth 100000 in
theorem c_X7_isLit_tried (l : Launch) (D : va_G) (cI cP : ClassId) (sz : Nat) (mo : Nat) (mor : Nat → Nat) (moi_0 : Int32) (moi_2 : Int32) (moi_4 : Int32) (moi_8 : Int32) (moi_9 : Int32) (moi_11 : Int32) (moi_12 : Int32) (moi_13 : Int32) (moi_17 : Int32) (moi_18 : Int32) (moi_20 : Int32) (moi_21 : Int32) (moi_24 : Int32) (moi_26 : Int32) (moi_28 : Int32) (moi_30 : Int32) (moi_31 : Int32) (moi_32 : Int32) (mok_1 : Nat → Int32) (mok_3 : Nat → Int32) (mok_5 : Nat → Int32) (mok_6 : Nat → Int32) (mok_7 : Nat → Int32) (mok_10 : Nat → Int32) (mok_14 : Nat → Int32) (mok_15 : Nat → Int32) (mok_16 : Nat → Int32) (mok_19 : Nat → Int32) (mok_22 : Nat → Int32) (mok_23 : Nat → Int32) (mok_25 : Nat → Int32) (mok_27 : Nat → Int32) (mok_29 : Nat → Int32) (mok_33 : Nat → Int32) (mok_34 : Nat → Int32) (a2 : Int32) (hne : fX7_isLit_tried mok_23 a2 ≠ none) : xMi l yX7_isLit wsX7_isLit ({ frames := 0, cells := 0, slots := 0, locals := 0 } : Room) D (xT cI cP) [.ref mo, .ref (mor 23), .int a2] (wM cI mo mor moi_0 moi_2 moi_4 moi_8 moi_9 moi_11 moi_12 moi_13 moi_17 moi_18 moi_20 moi_21 moi_24 moi_26 moi_28 moi_30 moi_31 moi_32 mok_1 mok_3 mok_5 mok_6 mok_7 mok_10 mok_14 mok_15 mok_16 mok_19 mok_22 mok_23 mok_25 mok_27 mok_29 mok_33 mok_34) sz (fun r (_ : Unit) => fX7_isLit_tried mok_23 a2 = some r) (fun u => wM cI mo mor moi_0 moi_2 moi_4 moi_8 moi_9 moi_11 moi_12 moi_13 moi_17 moi_18 moi_20 moi_21 moi_24 moi_26 moi_28 moi_30 moi_31 moi_32 mok_1 mok_3 mok_5 mok_6 mok_7 mok_10 mok_14 mok_15 mok_16 mok_19 mok_22 mok_23 mok_25 mok_27 mok_29 mok_33 mok_34) 0 0 := by
  refine xMz_of (cc := cX7_isLit) (maxL := 3) (by decide +kernel) rfl (Nat.le_of_ble_eq_true rfl) ?_
  intro p e s m args below meth c A ls hx hb hml hown hts hname hN hK hA hP hD hS hl Q hret
  have he := fX7_isLit_tried.eq_1 mok_23 a2
  have hl : lv_has ls 3 [(0, .ref mo), (1, .ref (mor 23)), (2, .int a2)] := hl
  refine lv_aload_n hx hb dX7_isLit_0 rfl (lv_at hl 1 rfl) ?_
  refine lv_bipush (v := 12) hx hb dX7_isLit_1 (by decide) ?_
  refine lv_aload_n hx hb dX7_isLit_3 rfl (lv_at hl 1 rfl) ?_
  refine lv_iload_n hx hb dX7_isLit_4 rfl (lv_at hl 2 rfl) ?_
  by_cases g1 : a2 < 0 ∨ 19 ≤ a2.toNatClampNeg
  · exact absurd (he.trans (if_pos g1)) hne
  replace he := he.trans (if_neg g1)
  refine va_iald hx hb hK hP 12 0 wM_a23 rfl g1 dX7_isLit_5 ?_
  refine lv_iadd hx hb dX7_isLit_6 ?_
  by_cases g2 : ((12 : Int32) + (mok_23 a2.toNatClampNeg)) < 0 ∨ 19 ≤ ((12 : Int32) + (mok_23 a2.toNatClampNeg)).toNatClampNeg
  · exact absurd (he.trans (if_pos g2)) hne
  replace he := he.trans (if_neg g2)
  refine va_iald hx hb hK hP 12 0 wM_a23 rfl g2 dX7_isLit_7 ?_
  refine lv_iconst (v := 1) hx hb dX7_isLit_8 (by decide) ?_
  refine lv_icmp_ne (tgt := 16) hx hb dX7_isLit_9 (by decide) (fun c3 => ?_) (fun c3 => ?_)
  · replace he := he.trans (if_neg c3)
    refine lv_iconst (v := 0) hx hb dX7_isLit_16 (by decide) ?_
    exact hret (0 : Int32) () _ _ _ _ dX7_isLit_17 (Or.inl rfl) he hP hD hS
  · replace he := he.trans (if_pos c3)
    refine lv_iconst (v := 1) hx hb dX7_isLit_12 (by decide) ?_
    refine lv_goto (tgt := 17) hx hb dX7_isLit_13 (by decide) ?_
    exact hret (1 : Int32) () _ _ _ _ dX7_isLit_17 (Or.inr rfl) he hP hD hS

def fX7_isWarm_now (moi_20 : Int32) (moi_21 : Int32) (moi_32 : Int32) (mok_14 : Nat → Int32) (mok_22 : Nat → Int32) (a2 : Int32) : Option (Int32) :=
  xbd (fX7_isLit_now mok_22 a2) (fun (r3 : Int32) => if r3 = 0 then (xbd (fX7_in (mok_22 (18 : Int32).toNatClampNeg) moi_20 moi_21) (fun (r21 : Int32) => if r21 = 0 then (if a2 = moi_32 then (some (0 : Int32)) else (if a2 < 0 ∨ 6 ≤ a2.toNatClampNeg then none else (if (mok_14 a2.toNatClampNeg) = 0 then (some (0 : Int32)) else (if (mok_14 a2.toNatClampNeg) = (2 : Int32) then (some (1 : Int32)) else (some (0 : Int32)))))) else (if a2 = moi_32 then (some (0 : Int32)) else (if a2 < 0 ∨ 6 ≤ a2.toNatClampNeg then none else (if (mok_14 a2.toNatClampNeg) = 0 then (some (1 : Int32)) else (if (mok_14 a2.toNatClampNeg) = (2 : Int32) then (some (0 : Int32)) else (some (0 : Int32)))))))) else (if a2 = moi_32 then (some (0 : Int32)) else (if a2 < 0 ∨ 6 ≤ a2.toNatClampNeg then none else (if (mok_14 a2.toNatClampNeg) = 0 then (some (1 : Int32)) else (if (mok_14 a2.toNatClampNeg) = (2 : Int32) then (some (0 : Int32)) else (some (0 : Int32)))))))
theorem hi_X7_isWarm_now_7 : ∀ w ∈ wsX70, w ∈ wsX7_isWarm := fun _ h => (List.mem_cons_of_mem _ (List.mem_append_right _ h))
set_option maxHeartbeats 4000000 in
set_option maxRecDepth 100000 in
theorem c_X7_isWarm_now (l : Launch) (D : va_G) (cI cP : ClassId) (sz : Nat) (mo : Nat) (mor : Nat → Nat) (moi_0 : Int32) (moi_2 : Int32) (moi_4 : Int32) (moi_8 : Int32) (moi_9 : Int32) (moi_11 : Int32) (moi_12 : Int32) (moi_13 : Int32) (moi_17 : Int32) (moi_18 : Int32) (moi_20 : Int32) (moi_21 : Int32) (moi_24 : Int32) (moi_26 : Int32) (moi_28 : Int32) (moi_30 : Int32) (moi_31 : Int32) (moi_32 : Int32) (mok_1 : Nat → Int32) (mok_3 : Nat → Int32) (mok_5 : Nat → Int32) (mok_6 : Nat → Int32) (mok_7 : Nat → Int32) (mok_10 : Nat → Int32) (mok_14 : Nat → Int32) (mok_15 : Nat → Int32) (mok_16 : Nat → Int32) (mok_19 : Nat → Int32) (mok_22 : Nat → Int32) (mok_23 : Nat → Int32) (mok_25 : Nat → Int32) (mok_27 : Nat → Int32) (mok_29 : Nat → Int32) (mok_33 : Nat → Int32) (mok_34 : Nat → Int32) (a2 : Int32) (hne : fX7_isWarm_now moi_20 moi_21 moi_32 mok_14 mok_22 a2 ≠ none) : xMi l yX7_isWarm wsX7_isWarm ({ frames := 1, cells := 0, slots := 0, locals := 22 } : Room) D (xT cI cP) [.ref mo, .ref (mor 22), .int a2] (wM cI mo mor moi_0 moi_2 moi_4 moi_8 moi_9 moi_11 moi_12 moi_13 moi_17 moi_18 moi_20 moi_21 moi_24 moi_26 moi_28 moi_30 moi_31 moi_32 mok_1 mok_3 mok_5 mok_6 mok_7 mok_10 mok_14 mok_15 mok_16 mok_19 mok_22 mok_23 mok_25 mok_27 mok_29 mok_33 mok_34) sz (fun r (_ : Unit) => fX7_isWarm_now moi_20 moi_21 moi_32 mok_14 mok_22 a2 = some r) (fun u => wM cI mo mor moi_0 moi_2 moi_4 moi_8 moi_9 moi_11 moi_12 moi_13 moi_17 moi_18 moi_20 moi_21 moi_24 moi_26 moi_28 moi_30 moi_31 moi_32 mok_1 mok_3 mok_5 mok_6 mok_7 mok_10 mok_14 mok_15 mok_16 mok_19 mok_22 mok_23 mok_25 mok_27 mok_29 mok_33 mok_34) 0 0 := by
  refine xMz_of (cc := cX7_isWarm) (maxL := 5) (by decide +kernel) rfl (Nat.le_of_ble_eq_true rfl) ?_
  intro p e s m args below meth c A ls hx hb hml hown hts hname hN hK hA hP hD hS hl Q hret
  have he := fX7_isWarm_now.eq_1 moi_20 moi_21 moi_32 mok_14 mok_22 a2
  have hl : lv_has ls 5 [(0, .ref mo), (1, .ref (mor 22)), (2, .int a2)] := hl
  refine lv_aload_n hx hb dX7_isWarm_0 rfl (lv_at hl 0 rfl) ?_
  refine lv_aload_n hx hb dX7_isWarm_1 rfl (lv_at hl 1 rfl) ?_
  refine lv_iload_n hx hb dX7_isWarm_2 rfl (lv_at hl 2 rfl) ?_
  have n1_ : fX7_isLit_now mok_22 a2 ≠ none := fun z => hne (he.trans (xbd_none z))
  refine xciW (va_runV (As := [.ref (mor 22), .int a2]) (rest := []) ⟨hx, hb, hml, hown, hts⟩ (c_X7_isLit_now l D cI cP s.heap.size mo mor moi_0 moi_2 moi_4 moi_8 moi_9 moi_11 moi_12 moi_13 moi_17 moi_18 moi_20 moi_21 moi_24 moi_26 moi_28 moi_30 moi_31 moi_32 mok_1 mok_3 mok_5 mok_6 mok_7 mok_10 mok_14 mok_15 mok_16 mok_19 mok_22 mok_23 mok_25 mok_27 mok_29 mok_33 mok_34 a2 n1_) (cwV 2 hts gX7_isWarm_X7_isLit rfl rfl rfl (by decide +kernel) ⟨Nat.le_of_ble_eq_true rfl, Nat.le_of_ble_eq_true rfl⟩) (xPVW hN hK hP hD (ci := 7) (j := 0) rfl wM_0) rfl rfl hl.1 rfl (lv_room (Nat.le_of_ble_eq_true rfl)) dX7_isWarm_3 ⟨Nat.le_of_ble_eq_true rfl, Nat.le_of_ble_eq_true rfl⟩) hD hS hA (fun r3 u3 H locs hw hP hD hS => ?_)
  have hP : va_P D vwCl (wM cI mo mor moi_0 moi_2 moi_4 moi_8 moi_9 moi_11 moi_12 moi_13 moi_17 moi_18 moi_20 moi_21 moi_24 moi_26 moi_28 moi_30 moi_31 moi_32 mok_1 mok_3 mok_5 mok_6 mok_7 mok_10 mok_14 mok_15 mok_16 mok_19 mok_22 mok_23 mok_25 mok_27 mok_29 mok_33 mok_34) H := hP
  have hD : va_D A (wM cI mo mor moi_0 moi_2 moi_4 moi_8 moi_9 moi_11 moi_12 moi_13 moi_17 moi_18 moi_20 moi_21 moi_24 moi_26 moi_28 moi_30 moi_31 moi_32 mok_1 mok_3 mok_5 mok_6 mok_7 mok_10 mok_14 mok_15 mok_16 mok_19 mok_22 mok_23 mok_25 mok_27 mok_29 mok_33 mok_34) := hD
  replace he := he.trans (xbd_some hw)
  refine lv_if_ne (tgt := 27) hx hb dX7_isWarm_6 (by decide) (fun c2 => ?_) (fun c2 => ?_)
  · replace he := he.trans (if_neg c2)
    refine lv_iconst (v := 1) hx hb dX7_isWarm_27 (by decide) ?_
    refine lv_goto (tgt := 32) hx hb dX7_isWarm_28 (by decide) ?_
    refine lv_istore_n (lv' := [(3, .int (1 : Int32)), (0, .ref mo), (1, .ref (mor 22)), (2, .int a2)]) hx hb dX7_isWarm_32 rfl hl (by decide) rfl (fun ls hl => ?_)
    refine lv_iload_n hx hb dX7_isWarm_33 rfl (lv_at hl 3 rfl) ?_
    refine lv_aload_n hx hb dX7_isWarm_34 rfl (lv_at hl 1 rfl) ?_
    refine va_get (D := D) (ci := 7) (v := .int moi_32) (C := RX7) (T := TX7) (N := 35) hx hb hts hi_X7_isWarm_now_7 hown hK hP 0 wM_0 rfl 32 (by decide) (hts (.fieldLink RX7 62 "BlindLanternsModel" "cold" "I") (List.mem_of_getElem? (i := 3) rfl)) (fun _ h9 => h9) xMf_32 dX7_isWarm_35 ?_
    refine lv_icmp_ne (tgt := 45) hx hb dX7_isWarm_38 (by decide) (fun c3 => ?_) (fun c3 => ?_)
    · replace he := he.trans (if_neg c3)
      refine lv_aload_n hx hb dX7_isWarm_45 rfl (lv_at hl 1 rfl) ?_
      refine va_get (D := D) (ci := 7) (v := .ref (mor 14)) (C := RX7) (T := TX7) (N := 35) hx hb hts hi_X7_isWarm_now_7 hown hK hP 0 wM_0 rfl 14 (by decide) (hts (.fieldLink RX7 28 "BlindLanternsModel" "kind" "[I") (List.mem_of_getElem? (i := 4) rfl)) (fun _ h9 => h9) xMf_14 dX7_isWarm_46 ?_
      refine lv_iload_n hx hb dX7_isWarm_49 rfl (lv_at hl 3 rfl) ?_
      by_cases g4 : a2 < 0 ∨ 6 ≤ a2.toNatClampNeg
      · exact absurd (he.trans (if_pos g4)) hne
      replace he := he.trans (if_neg g4)
      refine va_iald hx hb hK hP 7 0 wM_a14 rfl g4 dX7_isWarm_50 ?_
      refine lv_istore (lv' := [(4, .int (mok_14 a2.toNatClampNeg)), (3, .int (1 : Int32)), (0, .ref mo), (1, .ref (mor 22)), (2, .int a2)]) hx hb dX7_isWarm_51 hl (by decide) rfl (fun ls hl => ?_)
      refine lv_iload hx hb dX7_isWarm_53 (lv_at hl 0 rfl) ?_
      refine lv_if_ne (tgt := 62) hx hb dX7_isWarm_55 (by decide) (fun c5 => ?_) (fun c5 => ?_)
      · replace he := he.trans (if_neg c5)
        refine lv_iload hx hb dX7_isWarm_62 (lv_at hl 0 rfl) ?_
        refine lv_iconst (v := 2) hx hb dX7_isWarm_64 (by decide) ?_
        refine lv_icmp_ne (tgt := 76) hx hb dX7_isWarm_65 (by decide) (fun c6 => ?_) (fun c6 => ?_)
        · replace he := he.trans (if_neg c6)
          refine lv_iconst (v := 0) hx hb dX7_isWarm_76 (by decide) ?_
          exact hret (0 : Int32) () _ _ _ _ dX7_isWarm_77 (Or.inl rfl) he hP hD hS
        · replace he := he.trans (if_pos c6)
          refine lv_iload_n hx hb dX7_isWarm_68 rfl (lv_at hl 1 rfl) ?_
          refine lv_if_ne (tgt := 76) hx hb dX7_isWarm_69 (by decide) (fun _ => ?_) (fun c0 => absurd c0 (by decide))
          refine lv_iconst (v := 0) hx hb dX7_isWarm_76 (by decide) ?_
          exact hret (0 : Int32) () _ _ _ _ dX7_isWarm_77 (Or.inl rfl) he hP hD hS
      · replace he := he.trans (if_pos c5)
        refine lv_iload_n hx hb dX7_isWarm_58 rfl (lv_at hl 1 rfl) ?_
        refine lv_goto (tgt := 77) hx hb dX7_isWarm_59 (by decide) ?_
        exact hret (1 : Int32) () _ _ _ _ dX7_isWarm_77 (Or.inr rfl) he hP hD hS
    · replace he := he.trans (if_pos c3)
      refine lv_iconst (v := 1) hx hb dX7_isWarm_41 (by decide) ?_
      refine lv_goto (tgt := 51) hx hb dX7_isWarm_42 (by decide) ?_
      refine lv_istore (lv' := [(4, .int (1 : Int32)), (3, .int (1 : Int32)), (0, .ref mo), (1, .ref (mor 22)), (2, .int a2)]) hx hb dX7_isWarm_51 hl (by decide) rfl (fun ls hl => ?_)
      refine lv_iload hx hb dX7_isWarm_53 (lv_at hl 0 rfl) ?_
      refine lv_if_ne (tgt := 62) hx hb dX7_isWarm_55 (by decide) (fun _ => ?_) (fun c0 => absurd c0 (by decide))
      refine lv_iload hx hb dX7_isWarm_62 (lv_at hl 0 rfl) ?_
      refine lv_iconst (v := 2) hx hb dX7_isWarm_64 (by decide) ?_
      refine lv_icmp_ne (tgt := 76) hx hb dX7_isWarm_65 (by decide) (fun _ => ?_) (fun c0 => absurd c0 (by decide))
      refine lv_iconst (v := 0) hx hb dX7_isWarm_76 (by decide) ?_
      exact hret (0 : Int32) () _ _ _ _ dX7_isWarm_77 (Or.inl rfl) he hP hD hS
  · replace he := he.trans (if_pos c2)
    refine lv_aload_n hx hb dX7_isWarm_9 rfl (lv_at hl 1 rfl) ?_
    refine lv_bipush (v := 18) hx hb dX7_isWarm_10 (by decide) ?_
    refine va_iald hx hb hK hP 11 0 wM_a22 rfl (x_in rfl) dX7_isWarm_12 ?_
    refine lv_aload_n hx hb dX7_isWarm_13 rfl (lv_at hl 0 rfl) ?_
    refine va_get (D := D) (ci := 7) (v := .int moi_20) (C := RX7) (T := TX7) (N := 35) hx hb hts hi_X7_isWarm_now_7 hown hK hP 0 wM_0 rfl 20 (by decide) (hts (.fieldLink RX7 77 "BlindLanternsModel" "sun" "I") (List.mem_of_getElem? (i := 1) rfl)) (fun _ h9 => h9) xMf_20 dX7_isWarm_14 ?_
    refine lv_aload_n hx hb dX7_isWarm_17 rfl (lv_at hl 0 rfl) ?_
    refine va_get (D := D) (ci := 7) (v := .int moi_21) (C := RX7) (T := TX7) (N := 35) hx hb hts hi_X7_isWarm_now_7 hown hK hP 0 wM_0 rfl 21 (by decide) (hts (.fieldLink RX7 129 "BlindLanternsModel" "dark" "I") (List.mem_of_getElem? (i := 2) rfl)) (fun _ h9 => h9) xMf_21 dX7_isWarm_18 ?_
    have n7_ : fX7_in (mok_22 (18 : Int32).toNatClampNeg) moi_20 moi_21 ≠ none := fun z => hne (he.trans (xbd_none z))
    refine xci0 (va_runS (As := [.int (mok_22 (18 : Int32).toNatClampNeg), .int moi_20, .int moi_21]) (rest := []) ⟨hx, hb, hml, hown, hts⟩ (c_X7_in l D cI cP H.size  (mok_22 (18 : Int32).toNatClampNeg) moi_20 moi_21 n7_) (va_cwS 3 hts gX7_isWarm_X7_in rfl rfl rfl (by decide +kernel) ⟨Nat.le_of_ble_eq_true rfl, Nat.le_of_ble_eq_true rfl⟩) (xPS0 hN hK) rfl rfl hl.1 rfl (lv_room (Nat.le_of_ble_eq_true rfl)) dX7_isWarm_21 ⟨Nat.le_of_ble_eq_true rfl, Nat.le_of_ble_eq_true rfl⟩) hP hD hS hA (fun r21 u21 H locs hw hP hD hS => ?_)
    replace he := he.trans (xbd_some hw)
    refine lv_if_eq (tgt := 31) hx hb dX7_isWarm_24 (by decide) (fun c8 => ?_) (fun c8 => ?_)
    · replace he := he.trans (if_pos c8)
      refine lv_iconst (v := 0) hx hb dX7_isWarm_31 (by decide) ?_
      refine lv_istore_n (lv' := [(3, .int (0 : Int32)), (0, .ref mo), (1, .ref (mor 22)), (2, .int a2)]) hx hb dX7_isWarm_32 rfl hl (by decide) rfl (fun ls hl => ?_)
      refine lv_iload_n hx hb dX7_isWarm_33 rfl (lv_at hl 3 rfl) ?_
      refine lv_aload_n hx hb dX7_isWarm_34 rfl (lv_at hl 1 rfl) ?_
      refine va_get (D := D) (ci := 7) (v := .int moi_32) (C := RX7) (T := TX7) (N := 35) hx hb hts hi_X7_isWarm_now_7 hown hK hP 0 wM_0 rfl 32 (by decide) (hts (.fieldLink RX7 62 "BlindLanternsModel" "cold" "I") (List.mem_of_getElem? (i := 3) rfl)) (fun _ h9 => h9) xMf_32 dX7_isWarm_35 ?_
      refine lv_icmp_ne (tgt := 45) hx hb dX7_isWarm_38 (by decide) (fun c9 => ?_) (fun c9 => ?_)
      · replace he := he.trans (if_neg c9)
        refine lv_aload_n hx hb dX7_isWarm_45 rfl (lv_at hl 1 rfl) ?_
        refine va_get (D := D) (ci := 7) (v := .ref (mor 14)) (C := RX7) (T := TX7) (N := 35) hx hb hts hi_X7_isWarm_now_7 hown hK hP 0 wM_0 rfl 14 (by decide) (hts (.fieldLink RX7 28 "BlindLanternsModel" "kind" "[I") (List.mem_of_getElem? (i := 4) rfl)) (fun _ h9 => h9) xMf_14 dX7_isWarm_46 ?_
        refine lv_iload_n hx hb dX7_isWarm_49 rfl (lv_at hl 3 rfl) ?_
        by_cases g10 : a2 < 0 ∨ 6 ≤ a2.toNatClampNeg
        · exact absurd (he.trans (if_pos g10)) hne
        replace he := he.trans (if_neg g10)
        refine va_iald hx hb hK hP 7 0 wM_a14 rfl g10 dX7_isWarm_50 ?_
        refine lv_istore (lv' := [(4, .int (mok_14 a2.toNatClampNeg)), (3, .int (0 : Int32)), (0, .ref mo), (1, .ref (mor 22)), (2, .int a2)]) hx hb dX7_isWarm_51 hl (by decide) rfl (fun ls hl => ?_)
        refine lv_iload hx hb dX7_isWarm_53 (lv_at hl 0 rfl) ?_
        refine lv_if_ne (tgt := 62) hx hb dX7_isWarm_55 (by decide) (fun c11 => ?_) (fun c11 => ?_)
        · replace he := he.trans (if_neg c11)
          refine lv_iload hx hb dX7_isWarm_62 (lv_at hl 0 rfl) ?_
          refine lv_iconst (v := 2) hx hb dX7_isWarm_64 (by decide) ?_
          refine lv_icmp_ne (tgt := 76) hx hb dX7_isWarm_65 (by decide) (fun c12 => ?_) (fun c12 => ?_)
          · replace he := he.trans (if_neg c12)
            refine lv_iconst (v := 0) hx hb dX7_isWarm_76 (by decide) ?_
            exact hret (0 : Int32) () _ _ _ _ dX7_isWarm_77 (Or.inl rfl) he hP hD hS
          · replace he := he.trans (if_pos c12)
            refine lv_iload_n hx hb dX7_isWarm_68 rfl (lv_at hl 1 rfl) ?_
            refine lv_if_ne (tgt := 76) hx hb dX7_isWarm_69 (by decide) (fun c0 => absurd rfl c0) (fun _ => ?_)
            refine lv_iconst (v := 1) hx hb dX7_isWarm_72 (by decide) ?_
            refine lv_goto (tgt := 77) hx hb dX7_isWarm_73 (by decide) ?_
            exact hret (1 : Int32) () _ _ _ _ dX7_isWarm_77 (Or.inr rfl) he hP hD hS
        · replace he := he.trans (if_pos c11)
          refine lv_iload_n hx hb dX7_isWarm_58 rfl (lv_at hl 1 rfl) ?_
          refine lv_goto (tgt := 77) hx hb dX7_isWarm_59 (by decide) ?_
          exact hret (0 : Int32) () _ _ _ _ dX7_isWarm_77 (Or.inl rfl) he hP hD hS
      · replace he := he.trans (if_pos c9)
        refine lv_iconst (v := 1) hx hb dX7_isWarm_41 (by decide) ?_
        refine lv_goto (tgt := 51) hx hb dX7_isWarm_42 (by decide) ?_
        refine lv_istore (lv' := [(4, .int (1 : Int32)), (3, .int (0 : Int32)), (0, .ref mo), (1, .ref (mor 22)), (2, .int a2)]) hx hb dX7_isWarm_51 hl (by decide) rfl (fun ls hl => ?_)
        refine lv_iload hx hb dX7_isWarm_53 (lv_at hl 0 rfl) ?_
        refine lv_if_ne (tgt := 62) hx hb dX7_isWarm_55 (by decide) (fun _ => ?_) (fun c0 => absurd c0 (by decide))
        refine lv_iload hx hb dX7_isWarm_62 (lv_at hl 0 rfl) ?_
        refine lv_iconst (v := 2) hx hb dX7_isWarm_64 (by decide) ?_
        refine lv_icmp_ne (tgt := 76) hx hb dX7_isWarm_65 (by decide) (fun _ => ?_) (fun c0 => absurd c0 (by decide))
        refine lv_iconst (v := 0) hx hb dX7_isWarm_76 (by decide) ?_
        exact hret (0 : Int32) () _ _ _ _ dX7_isWarm_77 (Or.inl rfl) he hP hD hS
    · replace he := he.trans (if_neg c8)
      refine lv_iconst (v := 1) hx hb dX7_isWarm_27 (by decide) ?_
      refine lv_goto (tgt := 32) hx hb dX7_isWarm_28 (by decide) ?_
      refine lv_istore_n (lv' := [(3, .int (1 : Int32)), (0, .ref mo), (1, .ref (mor 22)), (2, .int a2)]) hx hb dX7_isWarm_32 rfl hl (by decide) rfl (fun ls hl => ?_)
      refine lv_iload_n hx hb dX7_isWarm_33 rfl (lv_at hl 3 rfl) ?_
      refine lv_aload_n hx hb dX7_isWarm_34 rfl (lv_at hl 1 rfl) ?_
      refine va_get (D := D) (ci := 7) (v := .int moi_32) (C := RX7) (T := TX7) (N := 35) hx hb hts hi_X7_isWarm_now_7 hown hK hP 0 wM_0 rfl 32 (by decide) (hts (.fieldLink RX7 62 "BlindLanternsModel" "cold" "I") (List.mem_of_getElem? (i := 3) rfl)) (fun _ h9 => h9) xMf_32 dX7_isWarm_35 ?_
      refine lv_icmp_ne (tgt := 45) hx hb dX7_isWarm_38 (by decide) (fun c13 => ?_) (fun c13 => ?_)
      · replace he := he.trans (if_neg c13)
        refine lv_aload_n hx hb dX7_isWarm_45 rfl (lv_at hl 1 rfl) ?_
        refine va_get (D := D) (ci := 7) (v := .ref (mor 14)) (C := RX7) (T := TX7) (N := 35) hx hb hts hi_X7_isWarm_now_7 hown hK hP 0 wM_0 rfl 14 (by decide) (hts (.fieldLink RX7 28 "BlindLanternsModel" "kind" "[I") (List.mem_of_getElem? (i := 4) rfl)) (fun _ h9 => h9) xMf_14 dX7_isWarm_46 ?_
        refine lv_iload_n hx hb dX7_isWarm_49 rfl (lv_at hl 3 rfl) ?_
        by_cases g14 : a2 < 0 ∨ 6 ≤ a2.toNatClampNeg
        · exact absurd (he.trans (if_pos g14)) hne
        replace he := he.trans (if_neg g14)
        refine va_iald hx hb hK hP 7 0 wM_a14 rfl g14 dX7_isWarm_50 ?_
        refine lv_istore (lv' := [(4, .int (mok_14 a2.toNatClampNeg)), (3, .int (1 : Int32)), (0, .ref mo), (1, .ref (mor 22)), (2, .int a2)]) hx hb dX7_isWarm_51 hl (by decide) rfl (fun ls hl => ?_)
        refine lv_iload hx hb dX7_isWarm_53 (lv_at hl 0 rfl) ?_
        refine lv_if_ne (tgt := 62) hx hb dX7_isWarm_55 (by decide) (fun c15 => ?_) (fun c15 => ?_)
        · replace he := he.trans (if_neg c15)
          refine lv_iload hx hb dX7_isWarm_62 (lv_at hl 0 rfl) ?_
          refine lv_iconst (v := 2) hx hb dX7_isWarm_64 (by decide) ?_
          refine lv_icmp_ne (tgt := 76) hx hb dX7_isWarm_65 (by decide) (fun c16 => ?_) (fun c16 => ?_)
          · replace he := he.trans (if_neg c16)
            refine lv_iconst (v := 0) hx hb dX7_isWarm_76 (by decide) ?_
            exact hret (0 : Int32) () _ _ _ _ dX7_isWarm_77 (Or.inl rfl) he hP hD hS
          · replace he := he.trans (if_pos c16)
            refine lv_iload_n hx hb dX7_isWarm_68 rfl (lv_at hl 1 rfl) ?_
            refine lv_if_ne (tgt := 76) hx hb dX7_isWarm_69 (by decide) (fun _ => ?_) (fun c0 => absurd c0 (by decide))
            refine lv_iconst (v := 0) hx hb dX7_isWarm_76 (by decide) ?_
            exact hret (0 : Int32) () _ _ _ _ dX7_isWarm_77 (Or.inl rfl) he hP hD hS
        · replace he := he.trans (if_pos c15)
          refine lv_iload_n hx hb dX7_isWarm_58 rfl (lv_at hl 1 rfl) ?_
          refine lv_goto (tgt := 77) hx hb dX7_isWarm_59 (by decide) ?_
          exact hret (1 : Int32) () _ _ _ _ dX7_isWarm_77 (Or.inr rfl) he hP hD hS
      · replace he := he.trans (if_pos c13)
        refine lv_iconst (v := 1) hx hb dX7_isWarm_41 (by decide) ?_
        refine lv_goto (tgt := 51) hx hb dX7_isWarm_42 (by decide) ?_
        refine lv_istore (lv' := [(4, .int (1 : Int32)), (3, .int (1 : Int32)), (0, .ref mo), (1, .ref (mor 22)), (2, .int a2)]) hx hb dX7_isWarm_51 hl (by decide) rfl (fun ls hl => ?_)
        refine lv_iload hx hb dX7_isWarm_53 (lv_at hl 0 rfl) ?_
        refine lv_if_ne (tgt := 62) hx hb dX7_isWarm_55 (by decide) (fun _ => ?_) (fun c0 => absurd c0 (by decide))
        refine lv_iload hx hb dX7_isWarm_62 (lv_at hl 0 rfl) ?_
        refine lv_iconst (v := 2) hx hb dX7_isWarm_64 (by decide) ?_
        refine lv_icmp_ne (tgt := 76) hx hb dX7_isWarm_65 (by decide) (fun _ => ?_) (fun c0 => absurd c0 (by decide))
        refine lv_iconst (v := 0) hx hb dX7_isWarm_76 (by decide) ?_
        exact hret (0 : Int32) () _ _ _ _ dX7_isWarm_77 (Or.inl rfl) he hP hD hS

def fX7_isWarm_tried (moi_20 : Int32) (moi_21 : Int32) (moi_32 : Int32) (mok_14 : Nat → Int32) (mok_23 : Nat → Int32) (a2 : Int32) : Option (Int32) :=
  xbd (fX7_isLit_tried mok_23 a2) (fun (r3 : Int32) => if r3 = 0 then (xbd (fX7_in (mok_23 (18 : Int32).toNatClampNeg) moi_20 moi_21) (fun (r21 : Int32) => if r21 = 0 then (if a2 = moi_32 then (some (0 : Int32)) else (if a2 < 0 ∨ 6 ≤ a2.toNatClampNeg then none else (if (mok_14 a2.toNatClampNeg) = 0 then (some (0 : Int32)) else (if (mok_14 a2.toNatClampNeg) = (2 : Int32) then (some (1 : Int32)) else (some (0 : Int32)))))) else (if a2 = moi_32 then (some (0 : Int32)) else (if a2 < 0 ∨ 6 ≤ a2.toNatClampNeg then none else (if (mok_14 a2.toNatClampNeg) = 0 then (some (1 : Int32)) else (if (mok_14 a2.toNatClampNeg) = (2 : Int32) then (some (0 : Int32)) else (some (0 : Int32)))))))) else (if a2 = moi_32 then (some (0 : Int32)) else (if a2 < 0 ∨ 6 ≤ a2.toNatClampNeg then none else (if (mok_14 a2.toNatClampNeg) = 0 then (some (1 : Int32)) else (if (mok_14 a2.toNatClampNeg) = (2 : Int32) then (some (0 : Int32)) else (some (0 : Int32)))))))
theorem hi_X7_isWarm_tried_7 : ∀ w ∈ wsX70, w ∈ wsX7_isWarm := fun _ h => (List.mem_cons_of_mem _ (List.mem_append_right _ h))
set_option maxHeartbeats 4000000 in
set_option maxRecDepth 100000 in
theorem c_X7_isWarm_tried (l : Launch) (D : va_G) (cI cP : ClassId) (sz : Nat) (mo : Nat) (mor : Nat → Nat) (moi_0 : Int32) (moi_2 : Int32) (moi_4 : Int32) (moi_8 : Int32) (moi_9 : Int32) (moi_11 : Int32) (moi_12 : Int32) (moi_13 : Int32) (moi_17 : Int32) (moi_18 : Int32) (moi_20 : Int32) (moi_21 : Int32) (moi_24 : Int32) (moi_26 : Int32) (moi_28 : Int32) (moi_30 : Int32) (moi_31 : Int32) (moi_32 : Int32) (mok_1 : Nat → Int32) (mok_3 : Nat → Int32) (mok_5 : Nat → Int32) (mok_6 : Nat → Int32) (mok_7 : Nat → Int32) (mok_10 : Nat → Int32) (mok_14 : Nat → Int32) (mok_15 : Nat → Int32) (mok_16 : Nat → Int32) (mok_19 : Nat → Int32) (mok_22 : Nat → Int32) (mok_23 : Nat → Int32) (mok_25 : Nat → Int32) (mok_27 : Nat → Int32) (mok_29 : Nat → Int32) (mok_33 : Nat → Int32) (mok_34 : Nat → Int32) (a2 : Int32) (hne : fX7_isWarm_tried moi_20 moi_21 moi_32 mok_14 mok_23 a2 ≠ none) : xMi l yX7_isWarm wsX7_isWarm ({ frames := 1, cells := 0, slots := 0, locals := 22 } : Room) D (xT cI cP) [.ref mo, .ref (mor 23), .int a2] (wM cI mo mor moi_0 moi_2 moi_4 moi_8 moi_9 moi_11 moi_12 moi_13 moi_17 moi_18 moi_20 moi_21 moi_24 moi_26 moi_28 moi_30 moi_31 moi_32 mok_1 mok_3 mok_5 mok_6 mok_7 mok_10 mok_14 mok_15 mok_16 mok_19 mok_22 mok_23 mok_25 mok_27 mok_29 mok_33 mok_34) sz (fun r (_ : Unit) => fX7_isWarm_tried moi_20 moi_21 moi_32 mok_14 mok_23 a2 = some r) (fun u => wM cI mo mor moi_0 moi_2 moi_4 moi_8 moi_9 moi_11 moi_12 moi_13 moi_17 moi_18 moi_20 moi_21 moi_24 moi_26 moi_28 moi_30 moi_31 moi_32 mok_1 mok_3 mok_5 mok_6 mok_7 mok_10 mok_14 mok_15 mok_16 mok_19 mok_22 mok_23 mok_25 mok_27 mok_29 mok_33 mok_34) 0 0 := by
  refine xMz_of (cc := cX7_isWarm) (maxL := 5) (by decide +kernel) rfl (Nat.le_of_ble_eq_true rfl) ?_
  intro p e s m args below meth c A ls hx hb hml hown hts hname hN hK hA hP hD hS hl Q hret
  have he := fX7_isWarm_tried.eq_1 moi_20 moi_21 moi_32 mok_14 mok_23 a2
  have hl : lv_has ls 5 [(0, .ref mo), (1, .ref (mor 23)), (2, .int a2)] := hl
  refine lv_aload_n hx hb dX7_isWarm_0 rfl (lv_at hl 0 rfl) ?_
  refine lv_aload_n hx hb dX7_isWarm_1 rfl (lv_at hl 1 rfl) ?_
  refine lv_iload_n hx hb dX7_isWarm_2 rfl (lv_at hl 2 rfl) ?_
  have n1_ : fX7_isLit_tried mok_23 a2 ≠ none := fun z => hne (he.trans (xbd_none z))
  refine xciW (va_runV (As := [.ref (mor 23), .int a2]) (rest := []) ⟨hx, hb, hml, hown, hts⟩ (c_X7_isLit_tried l D cI cP s.heap.size mo mor moi_0 moi_2 moi_4 moi_8 moi_9 moi_11 moi_12 moi_13 moi_17 moi_18 moi_20 moi_21 moi_24 moi_26 moi_28 moi_30 moi_31 moi_32 mok_1 mok_3 mok_5 mok_6 mok_7 mok_10 mok_14 mok_15 mok_16 mok_19 mok_22 mok_23 mok_25 mok_27 mok_29 mok_33 mok_34 a2 n1_) (cwV 2 hts gX7_isWarm_X7_isLit rfl rfl rfl (by decide +kernel) ⟨Nat.le_of_ble_eq_true rfl, Nat.le_of_ble_eq_true rfl⟩) (xPVW hN hK hP hD (ci := 7) (j := 0) rfl wM_0) rfl rfl hl.1 rfl (lv_room (Nat.le_of_ble_eq_true rfl)) dX7_isWarm_3 ⟨Nat.le_of_ble_eq_true rfl, Nat.le_of_ble_eq_true rfl⟩) hD hS hA (fun r3 u3 H locs hw hP hD hS => ?_)
  have hP : va_P D vwCl (wM cI mo mor moi_0 moi_2 moi_4 moi_8 moi_9 moi_11 moi_12 moi_13 moi_17 moi_18 moi_20 moi_21 moi_24 moi_26 moi_28 moi_30 moi_31 moi_32 mok_1 mok_3 mok_5 mok_6 mok_7 mok_10 mok_14 mok_15 mok_16 mok_19 mok_22 mok_23 mok_25 mok_27 mok_29 mok_33 mok_34) H := hP
  have hD : va_D A (wM cI mo mor moi_0 moi_2 moi_4 moi_8 moi_9 moi_11 moi_12 moi_13 moi_17 moi_18 moi_20 moi_21 moi_24 moi_26 moi_28 moi_30 moi_31 moi_32 mok_1 mok_3 mok_5 mok_6 mok_7 mok_10 mok_14 mok_15 mok_16 mok_19 mok_22 mok_23 mok_25 mok_27 mok_29 mok_33 mok_34) := hD
  replace he := he.trans (xbd_some hw)
  refine lv_if_ne (tgt := 27) hx hb dX7_isWarm_6 (by decide) (fun c2 => ?_) (fun c2 => ?_)
  · replace he := he.trans (if_neg c2)
    refine lv_iconst (v := 1) hx hb dX7_isWarm_27 (by decide) ?_
    refine lv_goto (tgt := 32) hx hb dX7_isWarm_28 (by decide) ?_
    refine lv_istore_n (lv' := [(3, .int (1 : Int32)), (0, .ref mo), (1, .ref (mor 23)), (2, .int a2)]) hx hb dX7_isWarm_32 rfl hl (by decide) rfl (fun ls hl => ?_)
    refine lv_iload_n hx hb dX7_isWarm_33 rfl (lv_at hl 3 rfl) ?_
    refine lv_aload_n hx hb dX7_isWarm_34 rfl (lv_at hl 1 rfl) ?_
    refine va_get (D := D) (ci := 7) (v := .int moi_32) (C := RX7) (T := TX7) (N := 35) hx hb hts hi_X7_isWarm_tried_7 hown hK hP 0 wM_0 rfl 32 (by decide) (hts (.fieldLink RX7 62 "BlindLanternsModel" "cold" "I") (List.mem_of_getElem? (i := 3) rfl)) (fun _ h9 => h9) xMf_32 dX7_isWarm_35 ?_
    refine lv_icmp_ne (tgt := 45) hx hb dX7_isWarm_38 (by decide) (fun c3 => ?_) (fun c3 => ?_)
    · replace he := he.trans (if_neg c3)
      refine lv_aload_n hx hb dX7_isWarm_45 rfl (lv_at hl 1 rfl) ?_
      refine va_get (D := D) (ci := 7) (v := .ref (mor 14)) (C := RX7) (T := TX7) (N := 35) hx hb hts hi_X7_isWarm_tried_7 hown hK hP 0 wM_0 rfl 14 (by decide) (hts (.fieldLink RX7 28 "BlindLanternsModel" "kind" "[I") (List.mem_of_getElem? (i := 4) rfl)) (fun _ h9 => h9) xMf_14 dX7_isWarm_46 ?_
      refine lv_iload_n hx hb dX7_isWarm_49 rfl (lv_at hl 3 rfl) ?_
      by_cases g4 : a2 < 0 ∨ 6 ≤ a2.toNatClampNeg
      · exact absurd (he.trans (if_pos g4)) hne
      replace he := he.trans (if_neg g4)
      refine va_iald hx hb hK hP 7 0 wM_a14 rfl g4 dX7_isWarm_50 ?_
      refine lv_istore (lv' := [(4, .int (mok_14 a2.toNatClampNeg)), (3, .int (1 : Int32)), (0, .ref mo), (1, .ref (mor 23)), (2, .int a2)]) hx hb dX7_isWarm_51 hl (by decide) rfl (fun ls hl => ?_)
      refine lv_iload hx hb dX7_isWarm_53 (lv_at hl 0 rfl) ?_
      refine lv_if_ne (tgt := 62) hx hb dX7_isWarm_55 (by decide) (fun c5 => ?_) (fun c5 => ?_)
      · replace he := he.trans (if_neg c5)
        refine lv_iload hx hb dX7_isWarm_62 (lv_at hl 0 rfl) ?_
        refine lv_iconst (v := 2) hx hb dX7_isWarm_64 (by decide) ?_
        refine lv_icmp_ne (tgt := 76) hx hb dX7_isWarm_65 (by decide) (fun c6 => ?_) (fun c6 => ?_)
        · replace he := he.trans (if_neg c6)
          refine lv_iconst (v := 0) hx hb dX7_isWarm_76 (by decide) ?_
          exact hret (0 : Int32) () _ _ _ _ dX7_isWarm_77 (Or.inl rfl) he hP hD hS
        · replace he := he.trans (if_pos c6)
          refine lv_iload_n hx hb dX7_isWarm_68 rfl (lv_at hl 1 rfl) ?_
          refine lv_if_ne (tgt := 76) hx hb dX7_isWarm_69 (by decide) (fun _ => ?_) (fun c0 => absurd c0 (by decide))
          refine lv_iconst (v := 0) hx hb dX7_isWarm_76 (by decide) ?_
          exact hret (0 : Int32) () _ _ _ _ dX7_isWarm_77 (Or.inl rfl) he hP hD hS
      · replace he := he.trans (if_pos c5)
        refine lv_iload_n hx hb dX7_isWarm_58 rfl (lv_at hl 1 rfl) ?_
        refine lv_goto (tgt := 77) hx hb dX7_isWarm_59 (by decide) ?_
        exact hret (1 : Int32) () _ _ _ _ dX7_isWarm_77 (Or.inr rfl) he hP hD hS
    · replace he := he.trans (if_pos c3)
      refine lv_iconst (v := 1) hx hb dX7_isWarm_41 (by decide) ?_
      refine lv_goto (tgt := 51) hx hb dX7_isWarm_42 (by decide) ?_
      refine lv_istore (lv' := [(4, .int (1 : Int32)), (3, .int (1 : Int32)), (0, .ref mo), (1, .ref (mor 23)), (2, .int a2)]) hx hb dX7_isWarm_51 hl (by decide) rfl (fun ls hl => ?_)
      refine lv_iload hx hb dX7_isWarm_53 (lv_at hl 0 rfl) ?_
      refine lv_if_ne (tgt := 62) hx hb dX7_isWarm_55 (by decide) (fun _ => ?_) (fun c0 => absurd c0 (by decide))
      refine lv_iload hx hb dX7_isWarm_62 (lv_at hl 0 rfl) ?_
      refine lv_iconst (v := 2) hx hb dX7_isWarm_64 (by decide) ?_
      refine lv_icmp_ne (tgt := 76) hx hb dX7_isWarm_65 (by decide) (fun _ => ?_) (fun c0 => absurd c0 (by decide))
      refine lv_iconst (v := 0) hx hb dX7_isWarm_76 (by decide) ?_
      exact hret (0 : Int32) () _ _ _ _ dX7_isWarm_77 (Or.inl rfl) he hP hD hS
  · replace he := he.trans (if_pos c2)
    refine lv_aload_n hx hb dX7_isWarm_9 rfl (lv_at hl 1 rfl) ?_
    refine lv_bipush (v := 18) hx hb dX7_isWarm_10 (by decide) ?_
    refine va_iald hx hb hK hP 12 0 wM_a23 rfl (x_in rfl) dX7_isWarm_12 ?_
    refine lv_aload_n hx hb dX7_isWarm_13 rfl (lv_at hl 0 rfl) ?_
    refine va_get (D := D) (ci := 7) (v := .int moi_20) (C := RX7) (T := TX7) (N := 35) hx hb hts hi_X7_isWarm_tried_7 hown hK hP 0 wM_0 rfl 20 (by decide) (hts (.fieldLink RX7 77 "BlindLanternsModel" "sun" "I") (List.mem_of_getElem? (i := 1) rfl)) (fun _ h9 => h9) xMf_20 dX7_isWarm_14 ?_
    refine lv_aload_n hx hb dX7_isWarm_17 rfl (lv_at hl 0 rfl) ?_
    refine va_get (D := D) (ci := 7) (v := .int moi_21) (C := RX7) (T := TX7) (N := 35) hx hb hts hi_X7_isWarm_tried_7 hown hK hP 0 wM_0 rfl 21 (by decide) (hts (.fieldLink RX7 129 "BlindLanternsModel" "dark" "I") (List.mem_of_getElem? (i := 2) rfl)) (fun _ h9 => h9) xMf_21 dX7_isWarm_18 ?_
    have n7_ : fX7_in (mok_23 (18 : Int32).toNatClampNeg) moi_20 moi_21 ≠ none := fun z => hne (he.trans (xbd_none z))
    refine xci0 (va_runS (As := [.int (mok_23 (18 : Int32).toNatClampNeg), .int moi_20, .int moi_21]) (rest := []) ⟨hx, hb, hml, hown, hts⟩ (c_X7_in l D cI cP H.size  (mok_23 (18 : Int32).toNatClampNeg) moi_20 moi_21 n7_) (va_cwS 3 hts gX7_isWarm_X7_in rfl rfl rfl (by decide +kernel) ⟨Nat.le_of_ble_eq_true rfl, Nat.le_of_ble_eq_true rfl⟩) (xPS0 hN hK) rfl rfl hl.1 rfl (lv_room (Nat.le_of_ble_eq_true rfl)) dX7_isWarm_21 ⟨Nat.le_of_ble_eq_true rfl, Nat.le_of_ble_eq_true rfl⟩) hP hD hS hA (fun r21 u21 H locs hw hP hD hS => ?_)
    replace he := he.trans (xbd_some hw)
    refine lv_if_eq (tgt := 31) hx hb dX7_isWarm_24 (by decide) (fun c8 => ?_) (fun c8 => ?_)
    · replace he := he.trans (if_pos c8)
      refine lv_iconst (v := 0) hx hb dX7_isWarm_31 (by decide) ?_
      refine lv_istore_n (lv' := [(3, .int (0 : Int32)), (0, .ref mo), (1, .ref (mor 23)), (2, .int a2)]) hx hb dX7_isWarm_32 rfl hl (by decide) rfl (fun ls hl => ?_)
      refine lv_iload_n hx hb dX7_isWarm_33 rfl (lv_at hl 3 rfl) ?_
      refine lv_aload_n hx hb dX7_isWarm_34 rfl (lv_at hl 1 rfl) ?_
      refine va_get (D := D) (ci := 7) (v := .int moi_32) (C := RX7) (T := TX7) (N := 35) hx hb hts hi_X7_isWarm_tried_7 hown hK hP 0 wM_0 rfl 32 (by decide) (hts (.fieldLink RX7 62 "BlindLanternsModel" "cold" "I") (List.mem_of_getElem? (i := 3) rfl)) (fun _ h9 => h9) xMf_32 dX7_isWarm_35 ?_
      refine lv_icmp_ne (tgt := 45) hx hb dX7_isWarm_38 (by decide) (fun c9 => ?_) (fun c9 => ?_)
      · replace he := he.trans (if_neg c9)
        refine lv_aload_n hx hb dX7_isWarm_45 rfl (lv_at hl 1 rfl) ?_
        refine va_get (D := D) (ci := 7) (v := .ref (mor 14)) (C := RX7) (T := TX7) (N := 35) hx hb hts hi_X7_isWarm_tried_7 hown hK hP 0 wM_0 rfl 14 (by decide) (hts (.fieldLink RX7 28 "BlindLanternsModel" "kind" "[I") (List.mem_of_getElem? (i := 4) rfl)) (fun _ h9 => h9) xMf_14 dX7_isWarm_46 ?_
        refine lv_iload_n hx hb dX7_isWarm_49 rfl (lv_at hl 3 rfl) ?_
        by_cases g10 : a2 < 0 ∨ 6 ≤ a2.toNatClampNeg
        · exact absurd (he.trans (if_pos g10)) hne
        replace he := he.trans (if_neg g10)
        refine va_iald hx hb hK hP 7 0 wM_a14 rfl g10 dX7_isWarm_50 ?_
        refine lv_istore (lv' := [(4, .int (mok_14 a2.toNatClampNeg)), (3, .int (0 : Int32)), (0, .ref mo), (1, .ref (mor 23)), (2, .int a2)]) hx hb dX7_isWarm_51 hl (by decide) rfl (fun ls hl => ?_)
        refine lv_iload hx hb dX7_isWarm_53 (lv_at hl 0 rfl) ?_
        refine lv_if_ne (tgt := 62) hx hb dX7_isWarm_55 (by decide) (fun c11 => ?_) (fun c11 => ?_)
        · replace he := he.trans (if_neg c11)
          refine lv_iload hx hb dX7_isWarm_62 (lv_at hl 0 rfl) ?_
          refine lv_iconst (v := 2) hx hb dX7_isWarm_64 (by decide) ?_
          refine lv_icmp_ne (tgt := 76) hx hb dX7_isWarm_65 (by decide) (fun c12 => ?_) (fun c12 => ?_)
          · replace he := he.trans (if_neg c12)
            refine lv_iconst (v := 0) hx hb dX7_isWarm_76 (by decide) ?_
            exact hret (0 : Int32) () _ _ _ _ dX7_isWarm_77 (Or.inl rfl) he hP hD hS
          · replace he := he.trans (if_pos c12)
            refine lv_iload_n hx hb dX7_isWarm_68 rfl (lv_at hl 1 rfl) ?_
            refine lv_if_ne (tgt := 76) hx hb dX7_isWarm_69 (by decide) (fun c0 => absurd rfl c0) (fun _ => ?_)
            refine lv_iconst (v := 1) hx hb dX7_isWarm_72 (by decide) ?_
            refine lv_goto (tgt := 77) hx hb dX7_isWarm_73 (by decide) ?_
            exact hret (1 : Int32) () _ _ _ _ dX7_isWarm_77 (Or.inr rfl) he hP hD hS
        · replace he := he.trans (if_pos c11)
          refine lv_iload_n hx hb dX7_isWarm_58 rfl (lv_at hl 1 rfl) ?_
          refine lv_goto (tgt := 77) hx hb dX7_isWarm_59 (by decide) ?_
          exact hret (0 : Int32) () _ _ _ _ dX7_isWarm_77 (Or.inl rfl) he hP hD hS
      · replace he := he.trans (if_pos c9)
        refine lv_iconst (v := 1) hx hb dX7_isWarm_41 (by decide) ?_
        refine lv_goto (tgt := 51) hx hb dX7_isWarm_42 (by decide) ?_
        refine lv_istore (lv' := [(4, .int (1 : Int32)), (3, .int (0 : Int32)), (0, .ref mo), (1, .ref (mor 23)), (2, .int a2)]) hx hb dX7_isWarm_51 hl (by decide) rfl (fun ls hl => ?_)
        refine lv_iload hx hb dX7_isWarm_53 (lv_at hl 0 rfl) ?_
        refine lv_if_ne (tgt := 62) hx hb dX7_isWarm_55 (by decide) (fun _ => ?_) (fun c0 => absurd c0 (by decide))
        refine lv_iload hx hb dX7_isWarm_62 (lv_at hl 0 rfl) ?_
        refine lv_iconst (v := 2) hx hb dX7_isWarm_64 (by decide) ?_
        refine lv_icmp_ne (tgt := 76) hx hb dX7_isWarm_65 (by decide) (fun _ => ?_) (fun c0 => absurd c0 (by decide))
        refine lv_iconst (v := 0) hx hb dX7_isWarm_76 (by decide) ?_
        exact hret (0 : Int32) () _ _ _ _ dX7_isWarm_77 (Or.inl rfl) he hP hD hS
    · replace he := he.trans (if_neg c8)
      refine lv_iconst (v := 1) hx hb dX7_isWarm_27 (by decide) ?_
      refine lv_goto (tgt := 32) hx hb dX7_isWarm_28 (by decide) ?_
      refine lv_istore_n (lv' := [(3, .int (1 : Int32)), (0, .ref mo), (1, .ref (mor 23)), (2, .int a2)]) hx hb dX7_isWarm_32 rfl hl (by decide) rfl (fun ls hl => ?_)
      refine lv_iload_n hx hb dX7_isWarm_33 rfl (lv_at hl 3 rfl) ?_
      refine lv_aload_n hx hb dX7_isWarm_34 rfl (lv_at hl 1 rfl) ?_
      refine va_get (D := D) (ci := 7) (v := .int moi_32) (C := RX7) (T := TX7) (N := 35) hx hb hts hi_X7_isWarm_tried_7 hown hK hP 0 wM_0 rfl 32 (by decide) (hts (.fieldLink RX7 62 "BlindLanternsModel" "cold" "I") (List.mem_of_getElem? (i := 3) rfl)) (fun _ h9 => h9) xMf_32 dX7_isWarm_35 ?_
      refine lv_icmp_ne (tgt := 45) hx hb dX7_isWarm_38 (by decide) (fun c13 => ?_) (fun c13 => ?_)
      · replace he := he.trans (if_neg c13)
        refine lv_aload_n hx hb dX7_isWarm_45 rfl (lv_at hl 1 rfl) ?_
        refine va_get (D := D) (ci := 7) (v := .ref (mor 14)) (C := RX7) (T := TX7) (N := 35) hx hb hts hi_X7_isWarm_tried_7 hown hK hP 0 wM_0 rfl 14 (by decide) (hts (.fieldLink RX7 28 "BlindLanternsModel" "kind" "[I") (List.mem_of_getElem? (i := 4) rfl)) (fun _ h9 => h9) xMf_14 dX7_isWarm_46 ?_
        refine lv_iload_n hx hb dX7_isWarm_49 rfl (lv_at hl 3 rfl) ?_
        by_cases g14 : a2 < 0 ∨ 6 ≤ a2.toNatClampNeg
        · exact absurd (he.trans (if_pos g14)) hne
        replace he := he.trans (if_neg g14)
        refine va_iald hx hb hK hP 7 0 wM_a14 rfl g14 dX7_isWarm_50 ?_
        refine lv_istore (lv' := [(4, .int (mok_14 a2.toNatClampNeg)), (3, .int (1 : Int32)), (0, .ref mo), (1, .ref (mor 23)), (2, .int a2)]) hx hb dX7_isWarm_51 hl (by decide) rfl (fun ls hl => ?_)
        refine lv_iload hx hb dX7_isWarm_53 (lv_at hl 0 rfl) ?_
        refine lv_if_ne (tgt := 62) hx hb dX7_isWarm_55 (by decide) (fun c15 => ?_) (fun c15 => ?_)
        · replace he := he.trans (if_neg c15)
          refine lv_iload hx hb dX7_isWarm_62 (lv_at hl 0 rfl) ?_
          refine lv_iconst (v := 2) hx hb dX7_isWarm_64 (by decide) ?_
          refine lv_icmp_ne (tgt := 76) hx hb dX7_isWarm_65 (by decide) (fun c16 => ?_) (fun c16 => ?_)
          · replace he := he.trans (if_neg c16)
            refine lv_iconst (v := 0) hx hb dX7_isWarm_76 (by decide) ?_
            exact hret (0 : Int32) () _ _ _ _ dX7_isWarm_77 (Or.inl rfl) he hP hD hS
          · replace he := he.trans (if_pos c16)
            refine lv_iload_n hx hb dX7_isWarm_68 rfl (lv_at hl 1 rfl) ?_
            refine lv_if_ne (tgt := 76) hx hb dX7_isWarm_69 (by decide) (fun _ => ?_) (fun c0 => absurd c0 (by decide))
            refine lv_iconst (v := 0) hx hb dX7_isWarm_76 (by decide) ?_
            exact hret (0 : Int32) () _ _ _ _ dX7_isWarm_77 (Or.inl rfl) he hP hD hS
        · replace he := he.trans (if_pos c15)
          refine lv_iload_n hx hb dX7_isWarm_58 rfl (lv_at hl 1 rfl) ?_
          refine lv_goto (tgt := 77) hx hb dX7_isWarm_59 (by decide) ?_
          exact hret (1 : Int32) () _ _ _ _ dX7_isWarm_77 (Or.inr rfl) he hP hD hS
      · replace he := he.trans (if_pos c13)
        refine lv_iconst (v := 1) hx hb dX7_isWarm_41 (by decide) ?_
        refine lv_goto (tgt := 51) hx hb dX7_isWarm_42 (by decide) ?_
        refine lv_istore (lv' := [(4, .int (1 : Int32)), (3, .int (1 : Int32)), (0, .ref mo), (1, .ref (mor 23)), (2, .int a2)]) hx hb dX7_isWarm_51 hl (by decide) rfl (fun ls hl => ?_)
        refine lv_iload hx hb dX7_isWarm_53 (lv_at hl 0 rfl) ?_
        refine lv_if_ne (tgt := 62) hx hb dX7_isWarm_55 (by decide) (fun _ => ?_) (fun c0 => absurd c0 (by decide))
        refine lv_iload hx hb dX7_isWarm_62 (lv_at hl 0 rfl) ?_
        refine lv_iconst (v := 2) hx hb dX7_isWarm_64 (by decide) ?_
        refine lv_icmp_ne (tgt := 76) hx hb dX7_isWarm_65 (by decide) (fun _ => ?_) (fun c0 => absurd c0 (by decide))
        refine lv_iconst (v := 0) hx hb dX7_isWarm_76 (by decide) ?_
        exact hret (0 : Int32) () _ _ _ _ dX7_isWarm_77 (Or.inl rfl) he hP hD hS

def fX7_litOf_now_L4 (moi_13 : Int32) (mok_22 : Nat → Int32) (k4 : Int32 → Int32 → Option (Int32)) : Nat → Int32 → Int32 → Option (Int32)
  | 0, _, _ => none
  | n4 + 1, v4_3, v4_2 => if moi_13 ≤ v4_3 then (k4 v4_3 v4_2) else (if ((12 : Int32) + v4_3) < 0 ∨ 19 ≤ ((12 : Int32) + v4_3).toNatClampNeg then none else (fX7_litOf_now_L4 moi_13 mok_22 k4 n4 (v4_3 + 1) (v4_2 + (mok_22 ((12 : Int32) + v4_3).toNatClampNeg))))
def fX7_litOf_now (F : Nat) (moi_13 : Int32) (mok_22 : Nat → Int32) : Option (Int32) :=
  fX7_litOf_now_L4 moi_13 mok_22 (fun (v4_3 : Int32) (v4_2 : Int32) => some v4_2) F (0 : Int32) (0 : Int32)
theorem hi_X7_litOf_now_7 : ∀ w ∈ wsX70, w ∈ wsX7_litOf := fun _ h => (List.mem_cons_of_mem _ (List.mem_append_right _ h))
set_option maxHeartbeats 4000000 in
set_option maxRecDepth 100000 in
theorem c_X7_litOf_now (l : Launch) (D : va_G) (cI cP : ClassId) (sz : Nat) (mo : Nat) (mor : Nat → Nat) (moi_0 : Int32) (moi_2 : Int32) (moi_4 : Int32) (moi_8 : Int32) (moi_9 : Int32) (moi_11 : Int32) (moi_12 : Int32) (moi_13 : Int32) (moi_17 : Int32) (moi_18 : Int32) (moi_20 : Int32) (moi_21 : Int32) (moi_24 : Int32) (moi_26 : Int32) (moi_28 : Int32) (moi_30 : Int32) (moi_31 : Int32) (moi_32 : Int32) (mok_1 : Nat → Int32) (mok_3 : Nat → Int32) (mok_5 : Nat → Int32) (mok_6 : Nat → Int32) (mok_7 : Nat → Int32) (mok_10 : Nat → Int32) (mok_14 : Nat → Int32) (mok_15 : Nat → Int32) (mok_16 : Nat → Int32) (mok_19 : Nat → Int32) (mok_22 : Nat → Int32) (mok_23 : Nat → Int32) (mok_25 : Nat → Int32) (mok_27 : Nat → Int32) (mok_29 : Nat → Int32) (mok_33 : Nat → Int32) (mok_34 : Nat → Int32) (F : Nat) (hne : fX7_litOf_now F moi_13 mok_22 ≠ none) : xMi l yX7_litOf wsX7_litOf ({ frames := 0, cells := 0, slots := 0, locals := 0 } : Room) D (xT cI cP) [.ref mo, .ref (mor 22)] (wM cI mo mor moi_0 moi_2 moi_4 moi_8 moi_9 moi_11 moi_12 moi_13 moi_17 moi_18 moi_20 moi_21 moi_24 moi_26 moi_28 moi_30 moi_31 moi_32 mok_1 mok_3 mok_5 mok_6 mok_7 mok_10 mok_14 mok_15 mok_16 mok_19 mok_22 mok_23 mok_25 mok_27 mok_29 mok_33 mok_34) sz (fun r (_ : Unit) => fX7_litOf_now F moi_13 mok_22 = some r) (fun u => wM cI mo mor moi_0 moi_2 moi_4 moi_8 moi_9 moi_11 moi_12 moi_13 moi_17 moi_18 moi_20 moi_21 moi_24 moi_26 moi_28 moi_30 moi_31 moi_32 mok_1 mok_3 mok_5 mok_6 mok_7 mok_10 mok_14 mok_15 mok_16 mok_19 mok_22 mok_23 mok_25 mok_27 mok_29 mok_33 mok_34) 0 0 := by
  refine xMi_of (cc := cX7_litOf) (maxL := 4) (by decide +kernel) rfl (Nat.le_of_ble_eq_true rfl) ?_
  intro p e s m args below meth c A ls hx hb hml hown hts hname hN hK hA hP hD hS hl Q hret
  have he := fX7_litOf_now.eq_1 F moi_13 mok_22
  have hl : lv_has ls 4 [(0, .ref mo), (1, .ref (mor 22))] := hl
  have R4_0 : ∀ (v4_3 : Int32) (v4_2 : Int32), fX7_litOf_now F moi_13 mok_22 = (some v4_2) → ∀ (H : Heap) (locs : List Loc) (ls : Array Slot), va_P D vwCl (wM cI mo mor moi_0 moi_2 moi_4 moi_8 moi_9 moi_11 moi_12 moi_13 moi_17 moi_18 moi_20 moi_21 moi_24 moi_26 moi_28 moi_30 moi_31 moi_32 mok_1 mok_3 mok_5 mok_6 mok_7 mok_10 mok_14 mok_15 mok_16 mok_19 mok_22 mok_23 mok_25 mok_27 mok_29 mok_33 mok_34) H → va_D A (wM cI mo mor moi_0 moi_2 moi_4 moi_8 moi_9 moi_11 moi_12 moi_13 moi_17 moi_18 moi_20 moi_21 moi_24 moi_26 moi_28 moi_30 moi_31 moi_32 mok_1 mok_3 mok_5 mok_6 mok_7 mok_10 mok_14 mok_15 mok_16 mok_19 mok_22 mok_23 mok_25 mok_27 mok_29 mok_33 mok_34) → va_S A s.heap H locs → lv_has ls 4 [(2, .int v4_2)] → W p l e ({ frames := 0, cells := 0, slots := 0, locals := 0 } : Room) s m args below meth c H locs 0 0 Q (F0 m 27 ls []) := by
    intro v4_3 v4_2 he H locs ls hP hD hS hl
    refine lv_iload_n hx hb dX7_litOf_27 rfl (lv_at hl 0 rfl) ?_
    exact hret v4_2 () _ _ _ _ dX7_litOf_28 he hP hD hS
  have L4_4 : ∀ (n4 : Nat) (v4_3 : Int32) (v4_2 : Int32), fX7_litOf_now F moi_13 mok_22 = fX7_litOf_now_L4 moi_13 mok_22 (fun (v4_3 : Int32) (v4_2 : Int32) => some v4_2) n4 v4_3 v4_2 → ∀ (H : Heap) (locs : List Loc) (ls : Array Slot), va_P D vwCl (wM cI mo mor moi_0 moi_2 moi_4 moi_8 moi_9 moi_11 moi_12 moi_13 moi_17 moi_18 moi_20 moi_21 moi_24 moi_26 moi_28 moi_30 moi_31 moi_32 mok_1 mok_3 mok_5 mok_6 mok_7 mok_10 mok_14 mok_15 mok_16 mok_19 mok_22 mok_23 mok_25 mok_27 mok_29 mok_33 mok_34) H → va_D A (wM cI mo mor moi_0 moi_2 moi_4 moi_8 moi_9 moi_11 moi_12 moi_13 moi_17 moi_18 moi_20 moi_21 moi_24 moi_26 moi_28 moi_30 moi_31 moi_32 mok_1 mok_3 mok_5 mok_6 mok_7 mok_10 mok_14 mok_15 mok_16 mok_19 mok_22 mok_23 mok_25 mok_27 mok_29 mok_33 mok_34) → va_S A s.heap H locs → lv_has ls 4 [(3, .int v4_3), (2, .int v4_2), (0, .ref mo), (1, .ref (mor 22))] → W p l e ({ frames := 0, cells := 0, slots := 0, locals := 0 } : Room) s m args below meth c H locs 0 0 Q (F0 m 4 ls []) := by
    intro n4
    induction n4 with
    | zero => intro v4_3 v4_2 he; exact absurd he hne
    | succ n4 ih4 =>
      intro v4_3 v4_2 he H locs ls hP hD hS hl
      replace he := he.trans (fX7_litOf_now_L4.eq_2 _ _ _ _ _ _)
      refine lv_iload_n hx hb dX7_litOf_4 rfl (lv_at hl 0 rfl) ?_
      refine lv_aload_n hx hb dX7_litOf_5 rfl (lv_at hl 2 rfl) ?_
      refine va_get (D := D) (ci := 7) (v := .int moi_13) (C := RX7) (T := TX7) (N := 35) hx hb hts hi_X7_litOf_now_7 hown hK hP 0 wM_0 rfl 13 (by decide) (hts (.fieldLink RX7 71 "BlindLanternsModel" "men" "I") (List.mem_of_getElem? (i := 1) rfl)) (fun _ h9 => h9) xMf_13 dX7_litOf_6 ?_
      refine lv_icmp_ge (tgt := 27) hx hb dX7_litOf_9 (by decide) (fun c1 => ?_) (fun c1 => ?_)
      · replace he := he.trans (if_pos c1)
        exact R4_0 v4_3 v4_2 he _ _ _ hP hD hS (lv_sub hl [1] rfl)
      · replace he := he.trans (if_neg c1)
        refine lv_iload_n hx hb dX7_litOf_12 rfl (lv_at hl 1 rfl) ?_
        refine lv_aload_n hx hb dX7_litOf_13 rfl (lv_at hl 3 rfl) ?_
        refine lv_bipush (v := 12) hx hb dX7_litOf_14 (by decide) ?_
        refine lv_iload_n hx hb dX7_litOf_16 rfl (lv_at hl 0 rfl) ?_
        refine lv_iadd hx hb dX7_litOf_17 ?_
        by_cases g2 : ((12 : Int32) + v4_3) < 0 ∨ 19 ≤ ((12 : Int32) + v4_3).toNatClampNeg
        · exact absurd (he.trans (if_pos g2)) hne
        replace he := he.trans (if_neg g2)
        refine va_iald hx hb hK hP 11 0 wM_a22 rfl g2 dX7_litOf_18 ?_
        refine lv_iadd hx hb dX7_litOf_19 ?_
        refine lv_istore_n (lv' := [(2, .int (v4_2 + (mok_22 ((12 : Int32) + v4_3).toNatClampNeg))), (3, .int v4_3), (0, .ref mo), (1, .ref (mor 22))]) hx hb dX7_litOf_20 rfl hl (by decide) rfl (fun ls hl => ?_)
        refine lv_iinc (v := (v4_3 + 1)) (lv' := [(3, .int (v4_3 + 1)), (2, .int (v4_2 + (mok_22 ((12 : Int32) + v4_3).toNatClampNeg))), (0, .ref mo), (1, .ref (mor 22))]) hx hb dX7_litOf_21 hl (k := 1) rfl rfl (by decide) rfl (fun ls hl => ?_)
        refine lv_goto (tgt := 4) hx hb dX7_litOf_24 (by decide) ?_
        exact ih4 (v4_3 + 1) (v4_2 + (mok_22 ((12 : Int32) + v4_3).toNatClampNeg)) he _ _ _ hP hD hS (lv_sub hl [0, 1, 2, 3] rfl)
  refine lv_iconst (v := 0) hx hb dX7_litOf_0 (by decide) ?_
  refine lv_istore_n (lv' := [(2, .int (0 : Int32)), (0, .ref mo), (1, .ref (mor 22))]) hx hb dX7_litOf_1 rfl hl (by decide) rfl (fun ls hl => ?_)
  refine lv_iconst (v := 0) hx hb dX7_litOf_2 (by decide) ?_
  refine lv_istore_n (lv' := [(3, .int (0 : Int32)), (2, .int (0 : Int32)), (0, .ref mo), (1, .ref (mor 22))]) hx hb dX7_litOf_3 rfl hl (by decide) rfl (fun ls hl => ?_)
  exact L4_4 F (0 : Int32) (0 : Int32) he _ _ _ hP hD hS (lv_sub hl [0, 1, 2, 3] rfl)

def fX7_litOf_tried_L4 (moi_13 : Int32) (mok_23 : Nat → Int32) (k4 : Int32 → Int32 → Option (Int32)) : Nat → Int32 → Int32 → Option (Int32)
  | 0, _, _ => none
  | n4 + 1, v4_3, v4_2 => if moi_13 ≤ v4_3 then (k4 v4_3 v4_2) else (if ((12 : Int32) + v4_3) < 0 ∨ 19 ≤ ((12 : Int32) + v4_3).toNatClampNeg then none else (fX7_litOf_tried_L4 moi_13 mok_23 k4 n4 (v4_3 + 1) (v4_2 + (mok_23 ((12 : Int32) + v4_3).toNatClampNeg))))
def fX7_litOf_tried (F : Nat) (moi_13 : Int32) (mok_23 : Nat → Int32) : Option (Int32) :=
  fX7_litOf_tried_L4 moi_13 mok_23 (fun (v4_3 : Int32) (v4_2 : Int32) => some v4_2) F (0 : Int32) (0 : Int32)
theorem hi_X7_litOf_tried_7 : ∀ w ∈ wsX70, w ∈ wsX7_litOf := fun _ h => (List.mem_cons_of_mem _ (List.mem_append_right _ h))
set_option maxHeartbeats 4000000 in
set_option maxRecDepth 100000 in
theorem c_X7_litOf_tried (l : Launch) (D : va_G) (cI cP : ClassId) (sz : Nat) (mo : Nat) (mor : Nat → Nat) (moi_0 : Int32) (moi_2 : Int32) (moi_4 : Int32) (moi_8 : Int32) (moi_9 : Int32) (moi_11 : Int32) (moi_12 : Int32) (moi_13 : Int32) (moi_17 : Int32) (moi_18 : Int32) (moi_20 : Int32) (moi_21 : Int32) (moi_24 : Int32) (moi_26 : Int32) (moi_28 : Int32) (moi_30 : Int32) (moi_31 : Int32) (moi_32 : Int32) (mok_1 : Nat → Int32) (mok_3 : Nat → Int32) (mok_5 : Nat → Int32) (mok_6 : Nat → Int32) (mok_7 : Nat → Int32) (mok_10 : Nat → Int32) (mok_14 : Nat → Int32) (mok_15 : Nat → Int32) (mok_16 : Nat → Int32) (mok_19 : Nat → Int32) (mok_22 : Nat → Int32) (mok_23 : Nat → Int32) (mok_25 : Nat → Int32) (mok_27 : Nat → Int32) (mok_29 : Nat → Int32) (mok_33 : Nat → Int32) (mok_34 : Nat → Int32) (F : Nat) (hne : fX7_litOf_tried F moi_13 mok_23 ≠ none) : xMi l yX7_litOf wsX7_litOf ({ frames := 0, cells := 0, slots := 0, locals := 0 } : Room) D (xT cI cP) [.ref mo, .ref (mor 23)] (wM cI mo mor moi_0 moi_2 moi_4 moi_8 moi_9 moi_11 moi_12 moi_13 moi_17 moi_18 moi_20 moi_21 moi_24 moi_26 moi_28 moi_30 moi_31 moi_32 mok_1 mok_3 mok_5 mok_6 mok_7 mok_10 mok_14 mok_15 mok_16 mok_19 mok_22 mok_23 mok_25 mok_27 mok_29 mok_33 mok_34) sz (fun r (_ : Unit) => fX7_litOf_tried F moi_13 mok_23 = some r) (fun u => wM cI mo mor moi_0 moi_2 moi_4 moi_8 moi_9 moi_11 moi_12 moi_13 moi_17 moi_18 moi_20 moi_21 moi_24 moi_26 moi_28 moi_30 moi_31 moi_32 mok_1 mok_3 mok_5 mok_6 mok_7 mok_10 mok_14 mok_15 mok_16 mok_19 mok_22 mok_23 mok_25 mok_27 mok_29 mok_33 mok_34) 0 0 := by
  refine xMi_of (cc := cX7_litOf) (maxL := 4) (by decide +kernel) rfl (Nat.le_of_ble_eq_true rfl) ?_
  intro p e s m args below meth c A ls hx hb hml hown hts hname hN hK hA hP hD hS hl Q hret
  have he := fX7_litOf_tried.eq_1 F moi_13 mok_23
  have hl : lv_has ls 4 [(0, .ref mo), (1, .ref (mor 23))] := hl
  have R4_0 : ∀ (v4_3 : Int32) (v4_2 : Int32), fX7_litOf_tried F moi_13 mok_23 = (some v4_2) → ∀ (H : Heap) (locs : List Loc) (ls : Array Slot), va_P D vwCl (wM cI mo mor moi_0 moi_2 moi_4 moi_8 moi_9 moi_11 moi_12 moi_13 moi_17 moi_18 moi_20 moi_21 moi_24 moi_26 moi_28 moi_30 moi_31 moi_32 mok_1 mok_3 mok_5 mok_6 mok_7 mok_10 mok_14 mok_15 mok_16 mok_19 mok_22 mok_23 mok_25 mok_27 mok_29 mok_33 mok_34) H → va_D A (wM cI mo mor moi_0 moi_2 moi_4 moi_8 moi_9 moi_11 moi_12 moi_13 moi_17 moi_18 moi_20 moi_21 moi_24 moi_26 moi_28 moi_30 moi_31 moi_32 mok_1 mok_3 mok_5 mok_6 mok_7 mok_10 mok_14 mok_15 mok_16 mok_19 mok_22 mok_23 mok_25 mok_27 mok_29 mok_33 mok_34) → va_S A s.heap H locs → lv_has ls 4 [(2, .int v4_2)] → W p l e ({ frames := 0, cells := 0, slots := 0, locals := 0 } : Room) s m args below meth c H locs 0 0 Q (F0 m 27 ls []) := by
    intro v4_3 v4_2 he H locs ls hP hD hS hl
    refine lv_iload_n hx hb dX7_litOf_27 rfl (lv_at hl 0 rfl) ?_
    exact hret v4_2 () _ _ _ _ dX7_litOf_28 he hP hD hS
  have L4_4 : ∀ (n4 : Nat) (v4_3 : Int32) (v4_2 : Int32), fX7_litOf_tried F moi_13 mok_23 = fX7_litOf_tried_L4 moi_13 mok_23 (fun (v4_3 : Int32) (v4_2 : Int32) => some v4_2) n4 v4_3 v4_2 → ∀ (H : Heap) (locs : List Loc) (ls : Array Slot), va_P D vwCl (wM cI mo mor moi_0 moi_2 moi_4 moi_8 moi_9 moi_11 moi_12 moi_13 moi_17 moi_18 moi_20 moi_21 moi_24 moi_26 moi_28 moi_30 moi_31 moi_32 mok_1 mok_3 mok_5 mok_6 mok_7 mok_10 mok_14 mok_15 mok_16 mok_19 mok_22 mok_23 mok_25 mok_27 mok_29 mok_33 mok_34) H → va_D A (wM cI mo mor moi_0 moi_2 moi_4 moi_8 moi_9 moi_11 moi_12 moi_13 moi_17 moi_18 moi_20 moi_21 moi_24 moi_26 moi_28 moi_30 moi_31 moi_32 mok_1 mok_3 mok_5 mok_6 mok_7 mok_10 mok_14 mok_15 mok_16 mok_19 mok_22 mok_23 mok_25 mok_27 mok_29 mok_33 mok_34) → va_S A s.heap H locs → lv_has ls 4 [(3, .int v4_3), (2, .int v4_2), (0, .ref mo), (1, .ref (mor 23))] → W p l e ({ frames := 0, cells := 0, slots := 0, locals := 0 } : Room) s m args below meth c H locs 0 0 Q (F0 m 4 ls []) := by
    intro n4
    induction n4 with
    | zero => intro v4_3 v4_2 he; exact absurd he hne
    | succ n4 ih4 =>
      intro v4_3 v4_2 he H locs ls hP hD hS hl
      replace he := he.trans (fX7_litOf_tried_L4.eq_2 _ _ _ _ _ _)
      refine lv_iload_n hx hb dX7_litOf_4 rfl (lv_at hl 0 rfl) ?_
      refine lv_aload_n hx hb dX7_litOf_5 rfl (lv_at hl 2 rfl) ?_
      refine va_get (D := D) (ci := 7) (v := .int moi_13) (C := RX7) (T := TX7) (N := 35) hx hb hts hi_X7_litOf_tried_7 hown hK hP 0 wM_0 rfl 13 (by decide) (hts (.fieldLink RX7 71 "BlindLanternsModel" "men" "I") (List.mem_of_getElem? (i := 1) rfl)) (fun _ h9 => h9) xMf_13 dX7_litOf_6 ?_
      refine lv_icmp_ge (tgt := 27) hx hb dX7_litOf_9 (by decide) (fun c1 => ?_) (fun c1 => ?_)
      · replace he := he.trans (if_pos c1)
        exact R4_0 v4_3 v4_2 he _ _ _ hP hD hS (lv_sub hl [1] rfl)
      · replace he := he.trans (if_neg c1)
        refine lv_iload_n hx hb dX7_litOf_12 rfl (lv_at hl 1 rfl) ?_
        refine lv_aload_n hx hb dX7_litOf_13 rfl (lv_at hl 3 rfl) ?_
        refine lv_bipush (v := 12) hx hb dX7_litOf_14 (by decide) ?_
        refine lv_iload_n hx hb dX7_litOf_16 rfl (lv_at hl 0 rfl) ?_
        refine lv_iadd hx hb dX7_litOf_17 ?_
        by_cases g2 : ((12 : Int32) + v4_3) < 0 ∨ 19 ≤ ((12 : Int32) + v4_3).toNatClampNeg
        · exact absurd (he.trans (if_pos g2)) hne
        replace he := he.trans (if_neg g2)
        refine va_iald hx hb hK hP 12 0 wM_a23 rfl g2 dX7_litOf_18 ?_
        refine lv_iadd hx hb dX7_litOf_19 ?_
        refine lv_istore_n (lv' := [(2, .int (v4_2 + (mok_23 ((12 : Int32) + v4_3).toNatClampNeg))), (3, .int v4_3), (0, .ref mo), (1, .ref (mor 23))]) hx hb dX7_litOf_20 rfl hl (by decide) rfl (fun ls hl => ?_)
        refine lv_iinc (v := (v4_3 + 1)) (lv' := [(3, .int (v4_3 + 1)), (2, .int (v4_2 + (mok_23 ((12 : Int32) + v4_3).toNatClampNeg))), (0, .ref mo), (1, .ref (mor 23))]) hx hb dX7_litOf_21 hl (k := 1) rfl rfl (by decide) rfl (fun ls hl => ?_)
        refine lv_goto (tgt := 4) hx hb dX7_litOf_24 (by decide) ?_
        exact ih4 (v4_3 + 1) (v4_2 + (mok_23 ((12 : Int32) + v4_3).toNatClampNeg)) he _ _ _ hP hD hS (lv_sub hl [0, 1, 2, 3] rfl)
  refine lv_iconst (v := 0) hx hb dX7_litOf_0 (by decide) ?_
  refine lv_istore_n (lv' := [(2, .int (0 : Int32)), (0, .ref mo), (1, .ref (mor 23))]) hx hb dX7_litOf_1 rfl hl (by decide) rfl (fun ls hl => ?_)
  refine lv_iconst (v := 0) hx hb dX7_litOf_2 (by decide) ?_
  refine lv_istore_n (lv' := [(3, .int (0 : Int32)), (2, .int (0 : Int32)), (0, .ref mo), (1, .ref (mor 23))]) hx hb dX7_litOf_3 rfl hl (by decide) rfl (fun ls hl => ?_)
  exact L4_4 F (0 : Int32) (0 : Int32) he _ _ _ hP hD hS (lv_sub hl [0, 1, 2, 3] rfl)

def fX7_oilOf_now_L4 (moi_13 : Int32) (mok_22 : Nat → Int32) (k4 : Int32 → Int32 → Option (Int32)) : Nat → Int32 → Int32 → Option (Int32)
  | 0, _, _ => none
  | n4 + 1, v4_3, v4_2 => if moi_13 ≤ v4_3 then (k4 v4_3 v4_2) else (if ((6 : Int32) + v4_3) < 0 ∨ 19 ≤ ((6 : Int32) + v4_3).toNatClampNeg then none else (fX7_oilOf_now_L4 moi_13 mok_22 k4 n4 (v4_3 + 1) (v4_2 + (mok_22 ((6 : Int32) + v4_3).toNatClampNeg))))
def fX7_oilOf_now (F : Nat) (moi_13 : Int32) (mok_22 : Nat → Int32) : Option (Int32) :=
  fX7_oilOf_now_L4 moi_13 mok_22 (fun (v4_3 : Int32) (v4_2 : Int32) => some v4_2) F (0 : Int32) (0 : Int32)
theorem hi_X7_oilOf_now_7 : ∀ w ∈ wsX70, w ∈ wsX7_oilOf := fun _ h => (List.mem_cons_of_mem _ (List.mem_append_right _ h))
set_option maxHeartbeats 4000000 in
set_option maxRecDepth 100000 in
theorem c_X7_oilOf_now (l : Launch) (D : va_G) (cI cP : ClassId) (sz : Nat) (mo : Nat) (mor : Nat → Nat) (moi_0 : Int32) (moi_2 : Int32) (moi_4 : Int32) (moi_8 : Int32) (moi_9 : Int32) (moi_11 : Int32) (moi_12 : Int32) (moi_13 : Int32) (moi_17 : Int32) (moi_18 : Int32) (moi_20 : Int32) (moi_21 : Int32) (moi_24 : Int32) (moi_26 : Int32) (moi_28 : Int32) (moi_30 : Int32) (moi_31 : Int32) (moi_32 : Int32) (mok_1 : Nat → Int32) (mok_3 : Nat → Int32) (mok_5 : Nat → Int32) (mok_6 : Nat → Int32) (mok_7 : Nat → Int32) (mok_10 : Nat → Int32) (mok_14 : Nat → Int32) (mok_15 : Nat → Int32) (mok_16 : Nat → Int32) (mok_19 : Nat → Int32) (mok_22 : Nat → Int32) (mok_23 : Nat → Int32) (mok_25 : Nat → Int32) (mok_27 : Nat → Int32) (mok_29 : Nat → Int32) (mok_33 : Nat → Int32) (mok_34 : Nat → Int32) (F : Nat) (hne : fX7_oilOf_now F moi_13 mok_22 ≠ none) : xMi l yX7_oilOf wsX7_oilOf ({ frames := 0, cells := 0, slots := 0, locals := 0 } : Room) D (xT cI cP) [.ref mo, .ref (mor 22)] (wM cI mo mor moi_0 moi_2 moi_4 moi_8 moi_9 moi_11 moi_12 moi_13 moi_17 moi_18 moi_20 moi_21 moi_24 moi_26 moi_28 moi_30 moi_31 moi_32 mok_1 mok_3 mok_5 mok_6 mok_7 mok_10 mok_14 mok_15 mok_16 mok_19 mok_22 mok_23 mok_25 mok_27 mok_29 mok_33 mok_34) sz (fun r (_ : Unit) => fX7_oilOf_now F moi_13 mok_22 = some r) (fun u => wM cI mo mor moi_0 moi_2 moi_4 moi_8 moi_9 moi_11 moi_12 moi_13 moi_17 moi_18 moi_20 moi_21 moi_24 moi_26 moi_28 moi_30 moi_31 moi_32 mok_1 mok_3 mok_5 mok_6 mok_7 mok_10 mok_14 mok_15 mok_16 mok_19 mok_22 mok_23 mok_25 mok_27 mok_29 mok_33 mok_34) 0 0 := by
  refine xMi_of (cc := cX7_oilOf) (maxL := 4) (by decide +kernel) rfl (Nat.le_of_ble_eq_true rfl) ?_
  intro p e s m args below meth c A ls hx hb hml hown hts hname hN hK hA hP hD hS hl Q hret
  have he := fX7_oilOf_now.eq_1 F moi_13 mok_22
  have hl : lv_has ls 4 [(0, .ref mo), (1, .ref (mor 22))] := hl
  have R4_0 : ∀ (v4_3 : Int32) (v4_2 : Int32), fX7_oilOf_now F moi_13 mok_22 = (some v4_2) → ∀ (H : Heap) (locs : List Loc) (ls : Array Slot), va_P D vwCl (wM cI mo mor moi_0 moi_2 moi_4 moi_8 moi_9 moi_11 moi_12 moi_13 moi_17 moi_18 moi_20 moi_21 moi_24 moi_26 moi_28 moi_30 moi_31 moi_32 mok_1 mok_3 mok_5 mok_6 mok_7 mok_10 mok_14 mok_15 mok_16 mok_19 mok_22 mok_23 mok_25 mok_27 mok_29 mok_33 mok_34) H → va_D A (wM cI mo mor moi_0 moi_2 moi_4 moi_8 moi_9 moi_11 moi_12 moi_13 moi_17 moi_18 moi_20 moi_21 moi_24 moi_26 moi_28 moi_30 moi_31 moi_32 mok_1 mok_3 mok_5 mok_6 mok_7 mok_10 mok_14 mok_15 mok_16 mok_19 mok_22 mok_23 mok_25 mok_27 mok_29 mok_33 mok_34) → va_S A s.heap H locs → lv_has ls 4 [(2, .int v4_2)] → W p l e ({ frames := 0, cells := 0, slots := 0, locals := 0 } : Room) s m args below meth c H locs 0 0 Q (F0 m 27 ls []) := by
    intro v4_3 v4_2 he H locs ls hP hD hS hl
    refine lv_iload_n hx hb dX7_oilOf_27 rfl (lv_at hl 0 rfl) ?_
    exact hret v4_2 () _ _ _ _ dX7_oilOf_28 he hP hD hS
  have L4_4 : ∀ (n4 : Nat) (v4_3 : Int32) (v4_2 : Int32), fX7_oilOf_now F moi_13 mok_22 = fX7_oilOf_now_L4 moi_13 mok_22 (fun (v4_3 : Int32) (v4_2 : Int32) => some v4_2) n4 v4_3 v4_2 → ∀ (H : Heap) (locs : List Loc) (ls : Array Slot), va_P D vwCl (wM cI mo mor moi_0 moi_2 moi_4 moi_8 moi_9 moi_11 moi_12 moi_13 moi_17 moi_18 moi_20 moi_21 moi_24 moi_26 moi_28 moi_30 moi_31 moi_32 mok_1 mok_3 mok_5 mok_6 mok_7 mok_10 mok_14 mok_15 mok_16 mok_19 mok_22 mok_23 mok_25 mok_27 mok_29 mok_33 mok_34) H → va_D A (wM cI mo mor moi_0 moi_2 moi_4 moi_8 moi_9 moi_11 moi_12 moi_13 moi_17 moi_18 moi_20 moi_21 moi_24 moi_26 moi_28 moi_30 moi_31 moi_32 mok_1 mok_3 mok_5 mok_6 mok_7 mok_10 mok_14 mok_15 mok_16 mok_19 mok_22 mok_23 mok_25 mok_27 mok_29 mok_33 mok_34) → va_S A s.heap H locs → lv_has ls 4 [(3, .int v4_3), (2, .int v4_2), (0, .ref mo), (1, .ref (mor 22))] → W p l e ({ frames := 0, cells := 0, slots := 0, locals := 0 } : Room) s m args below meth c H locs 0 0 Q (F0 m 4 ls []) := by
    intro n4
    induction n4 with
    | zero => intro v4_3 v4_2 he; exact absurd he hne
    | succ n4 ih4 =>
      intro v4_3 v4_2 he H locs ls hP hD hS hl
      replace he := he.trans (fX7_oilOf_now_L4.eq_2 _ _ _ _ _ _)
      refine lv_iload_n hx hb dX7_oilOf_4 rfl (lv_at hl 0 rfl) ?_
      refine lv_aload_n hx hb dX7_oilOf_5 rfl (lv_at hl 2 rfl) ?_
      refine va_get (D := D) (ci := 7) (v := .int moi_13) (C := RX7) (T := TX7) (N := 35) hx hb hts hi_X7_oilOf_now_7 hown hK hP 0 wM_0 rfl 13 (by decide) (hts (.fieldLink RX7 71 "BlindLanternsModel" "men" "I") (List.mem_of_getElem? (i := 1) rfl)) (fun _ h9 => h9) xMf_13 dX7_oilOf_6 ?_
      refine lv_icmp_ge (tgt := 27) hx hb dX7_oilOf_9 (by decide) (fun c1 => ?_) (fun c1 => ?_)
      · replace he := he.trans (if_pos c1)
        exact R4_0 v4_3 v4_2 he _ _ _ hP hD hS (lv_sub hl [1] rfl)
      · replace he := he.trans (if_neg c1)
        refine lv_iload_n hx hb dX7_oilOf_12 rfl (lv_at hl 1 rfl) ?_
        refine lv_aload_n hx hb dX7_oilOf_13 rfl (lv_at hl 3 rfl) ?_
        refine lv_bipush (v := 6) hx hb dX7_oilOf_14 (by decide) ?_
        refine lv_iload_n hx hb dX7_oilOf_16 rfl (lv_at hl 0 rfl) ?_
        refine lv_iadd hx hb dX7_oilOf_17 ?_
        by_cases g2 : ((6 : Int32) + v4_3) < 0 ∨ 19 ≤ ((6 : Int32) + v4_3).toNatClampNeg
        · exact absurd (he.trans (if_pos g2)) hne
        replace he := he.trans (if_neg g2)
        refine va_iald hx hb hK hP 11 0 wM_a22 rfl g2 dX7_oilOf_18 ?_
        refine lv_iadd hx hb dX7_oilOf_19 ?_
        refine lv_istore_n (lv' := [(2, .int (v4_2 + (mok_22 ((6 : Int32) + v4_3).toNatClampNeg))), (3, .int v4_3), (0, .ref mo), (1, .ref (mor 22))]) hx hb dX7_oilOf_20 rfl hl (by decide) rfl (fun ls hl => ?_)
        refine lv_iinc (v := (v4_3 + 1)) (lv' := [(3, .int (v4_3 + 1)), (2, .int (v4_2 + (mok_22 ((6 : Int32) + v4_3).toNatClampNeg))), (0, .ref mo), (1, .ref (mor 22))]) hx hb dX7_oilOf_21 hl (k := 1) rfl rfl (by decide) rfl (fun ls hl => ?_)
        refine lv_goto (tgt := 4) hx hb dX7_oilOf_24 (by decide) ?_
        exact ih4 (v4_3 + 1) (v4_2 + (mok_22 ((6 : Int32) + v4_3).toNatClampNeg)) he _ _ _ hP hD hS (lv_sub hl [0, 1, 2, 3] rfl)
  refine lv_iconst (v := 0) hx hb dX7_oilOf_0 (by decide) ?_
  refine lv_istore_n (lv' := [(2, .int (0 : Int32)), (0, .ref mo), (1, .ref (mor 22))]) hx hb dX7_oilOf_1 rfl hl (by decide) rfl (fun ls hl => ?_)
  refine lv_iconst (v := 0) hx hb dX7_oilOf_2 (by decide) ?_
  refine lv_istore_n (lv' := [(3, .int (0 : Int32)), (2, .int (0 : Int32)), (0, .ref mo), (1, .ref (mor 22))]) hx hb dX7_oilOf_3 rfl hl (by decide) rfl (fun ls hl => ?_)
  exact L4_4 F (0 : Int32) (0 : Int32) he _ _ _ hP hD hS (lv_sub hl [0, 1, 2, 3] rfl)

def fX7_oilOf_tried_L4 (moi_13 : Int32) (mok_23 : Nat → Int32) (k4 : Int32 → Int32 → Option (Int32)) : Nat → Int32 → Int32 → Option (Int32)
  | 0, _, _ => none
  | n4 + 1, v4_3, v4_2 => if moi_13 ≤ v4_3 then (k4 v4_3 v4_2) else (if ((6 : Int32) + v4_3) < 0 ∨ 19 ≤ ((6 : Int32) + v4_3).toNatClampNeg then none else (fX7_oilOf_tried_L4 moi_13 mok_23 k4 n4 (v4_3 + 1) (v4_2 + (mok_23 ((6 : Int32) + v4_3).toNatClampNeg))))
def fX7_oilOf_tried (F : Nat) (moi_13 : Int32) (mok_23 : Nat → Int32) : Option (Int32) :=
  fX7_oilOf_tried_L4 moi_13 mok_23 (fun (v4_3 : Int32) (v4_2 : Int32) => some v4_2) F (0 : Int32) (0 : Int32)
theorem hi_X7_oilOf_tried_7 : ∀ w ∈ wsX70, w ∈ wsX7_oilOf := fun _ h => (List.mem_cons_of_mem _ (List.mem_append_right _ h))
set_option maxHeartbeats 4000000 in
set_option maxRecDepth 100000 in
theorem c_X7_oilOf_tried (l : Launch) (D : va_G) (cI cP : ClassId) (sz : Nat) (mo : Nat) (mor : Nat → Nat) (moi_0 : Int32) (moi_2 : Int32) (moi_4 : Int32) (moi_8 : Int32) (moi_9 : Int32) (moi_11 : Int32) (moi_12 : Int32) (moi_13 : Int32) (moi_17 : Int32) (moi_18 : Int32) (moi_20 : Int32) (moi_21 : Int32) (moi_24 : Int32) (moi_26 : Int32) (moi_28 : Int32) (moi_30 : Int32) (moi_31 : Int32) (moi_32 : Int32) (mok_1 : Nat → Int32) (mok_3 : Nat → Int32) (mok_5 : Nat → Int32) (mok_6 : Nat → Int32) (mok_7 : Nat → Int32) (mok_10 : Nat → Int32) (mok_14 : Nat → Int32) (mok_15 : Nat → Int32) (mok_16 : Nat → Int32) (mok_19 : Nat → Int32) (mok_22 : Nat → Int32) (mok_23 : Nat → Int32) (mok_25 : Nat → Int32) (mok_27 : Nat → Int32) (mok_29 : Nat → Int32) (mok_33 : Nat → Int32) (mok_34 : Nat → Int32) (F : Nat) (hne : fX7_oilOf_tried F moi_13 mok_23 ≠ none) : xMi l yX7_oilOf wsX7_oilOf ({ frames := 0, cells := 0, slots := 0, locals := 0 } : Room) D (xT cI cP) [.ref mo, .ref (mor 23)] (wM cI mo mor moi_0 moi_2 moi_4 moi_8 moi_9 moi_11 moi_12 moi_13 moi_17 moi_18 moi_20 moi_21 moi_24 moi_26 moi_28 moi_30 moi_31 moi_32 mok_1 mok_3 mok_5 mok_6 mok_7 mok_10 mok_14 mok_15 mok_16 mok_19 mok_22 mok_23 mok_25 mok_27 mok_29 mok_33 mok_34) sz (fun r (_ : Unit) => fX7_oilOf_tried F moi_13 mok_23 = some r) (fun u => wM cI mo mor moi_0 moi_2 moi_4 moi_8 moi_9 moi_11 moi_12 moi_13 moi_17 moi_18 moi_20 moi_21 moi_24 moi_26 moi_28 moi_30 moi_31 moi_32 mok_1 mok_3 mok_5 mok_6 mok_7 mok_10 mok_14 mok_15 mok_16 mok_19 mok_22 mok_23 mok_25 mok_27 mok_29 mok_33 mok_34) 0 0 := by
  refine xMi_of (cc := cX7_oilOf) (maxL := 4) (by decide +kernel) rfl (Nat.le_of_ble_eq_true rfl) ?_
  intro p e s m args below meth c A ls hx hb hml hown hts hname hN hK hA hP hD hS hl Q hret
  have he := fX7_oilOf_tried.eq_1 F moi_13 mok_23
  have hl : lv_has ls 4 [(0, .ref mo), (1, .ref (mor 23))] := hl
  have R4_0 : ∀ (v4_3 : Int32) (v4_2 : Int32), fX7_oilOf_tried F moi_13 mok_23 = (some v4_2) → ∀ (H : Heap) (locs : List Loc) (ls : Array Slot), va_P D vwCl (wM cI mo mor moi_0 moi_2 moi_4 moi_8 moi_9 moi_11 moi_12 moi_13 moi_17 moi_18 moi_20 moi_21 moi_24 moi_26 moi_28 moi_30 moi_31 moi_32 mok_1 mok_3 mok_5 mok_6 mok_7 mok_10 mok_14 mok_15 mok_16 mok_19 mok_22 mok_23 mok_25 mok_27 mok_29 mok_33 mok_34) H → va_D A (wM cI mo mor moi_0 moi_2 moi_4 moi_8 moi_9 moi_11 moi_12 moi_13 moi_17 moi_18 moi_20 moi_21 moi_24 moi_26 moi_28 moi_30 moi_31 moi_32 mok_1 mok_3 mok_5 mok_6 mok_7 mok_10 mok_14 mok_15 mok_16 mok_19 mok_22 mok_23 mok_25 mok_27 mok_29 mok_33 mok_34) → va_S A s.heap H locs → lv_has ls 4 [(2, .int v4_2)] → W p l e ({ frames := 0, cells := 0, slots := 0, locals := 0 } : Room) s m args below meth c H locs 0 0 Q (F0 m 27 ls []) := by
    intro v4_3 v4_2 he H locs ls hP hD hS hl
    refine lv_iload_n hx hb dX7_oilOf_27 rfl (lv_at hl 0 rfl) ?_
    exact hret v4_2 () _ _ _ _ dX7_oilOf_28 he hP hD hS
  have L4_4 : ∀ (n4 : Nat) (v4_3 : Int32) (v4_2 : Int32), fX7_oilOf_tried F moi_13 mok_23 = fX7_oilOf_tried_L4 moi_13 mok_23 (fun (v4_3 : Int32) (v4_2 : Int32) => some v4_2) n4 v4_3 v4_2 → ∀ (H : Heap) (locs : List Loc) (ls : Array Slot), va_P D vwCl (wM cI mo mor moi_0 moi_2 moi_4 moi_8 moi_9 moi_11 moi_12 moi_13 moi_17 moi_18 moi_20 moi_21 moi_24 moi_26 moi_28 moi_30 moi_31 moi_32 mok_1 mok_3 mok_5 mok_6 mok_7 mok_10 mok_14 mok_15 mok_16 mok_19 mok_22 mok_23 mok_25 mok_27 mok_29 mok_33 mok_34) H → va_D A (wM cI mo mor moi_0 moi_2 moi_4 moi_8 moi_9 moi_11 moi_12 moi_13 moi_17 moi_18 moi_20 moi_21 moi_24 moi_26 moi_28 moi_30 moi_31 moi_32 mok_1 mok_3 mok_5 mok_6 mok_7 mok_10 mok_14 mok_15 mok_16 mok_19 mok_22 mok_23 mok_25 mok_27 mok_29 mok_33 mok_34) → va_S A s.heap H locs → lv_has ls 4 [(3, .int v4_3), (2, .int v4_2), (0, .ref mo), (1, .ref (mor 23))] → W p l e ({ frames := 0, cells := 0, slots := 0, locals := 0 } : Room) s m args below meth c H locs 0 0 Q (F0 m 4 ls []) := by
    intro n4
    induction n4 with
    | zero => intro v4_3 v4_2 he; exact absurd he hne
    | succ n4 ih4 =>
      intro v4_3 v4_2 he H locs ls hP hD hS hl
      replace he := he.trans (fX7_oilOf_tried_L4.eq_2 _ _ _ _ _ _)
      refine lv_iload_n hx hb dX7_oilOf_4 rfl (lv_at hl 0 rfl) ?_
      refine lv_aload_n hx hb dX7_oilOf_5 rfl (lv_at hl 2 rfl) ?_
      refine va_get (D := D) (ci := 7) (v := .int moi_13) (C := RX7) (T := TX7) (N := 35) hx hb hts hi_X7_oilOf_tried_7 hown hK hP 0 wM_0 rfl 13 (by decide) (hts (.fieldLink RX7 71 "BlindLanternsModel" "men" "I") (List.mem_of_getElem? (i := 1) rfl)) (fun _ h9 => h9) xMf_13 dX7_oilOf_6 ?_
      refine lv_icmp_ge (tgt := 27) hx hb dX7_oilOf_9 (by decide) (fun c1 => ?_) (fun c1 => ?_)
      · replace he := he.trans (if_pos c1)
        exact R4_0 v4_3 v4_2 he _ _ _ hP hD hS (lv_sub hl [1] rfl)
      · replace he := he.trans (if_neg c1)
        refine lv_iload_n hx hb dX7_oilOf_12 rfl (lv_at hl 1 rfl) ?_
        refine lv_aload_n hx hb dX7_oilOf_13 rfl (lv_at hl 3 rfl) ?_
        refine lv_bipush (v := 6) hx hb dX7_oilOf_14 (by decide) ?_
        refine lv_iload_n hx hb dX7_oilOf_16 rfl (lv_at hl 0 rfl) ?_
        refine lv_iadd hx hb dX7_oilOf_17 ?_
        by_cases g2 : ((6 : Int32) + v4_3) < 0 ∨ 19 ≤ ((6 : Int32) + v4_3).toNatClampNeg
        · exact absurd (he.trans (if_pos g2)) hne
        replace he := he.trans (if_neg g2)
        refine va_iald hx hb hK hP 12 0 wM_a23 rfl g2 dX7_oilOf_18 ?_
        refine lv_iadd hx hb dX7_oilOf_19 ?_
        refine lv_istore_n (lv' := [(2, .int (v4_2 + (mok_23 ((6 : Int32) + v4_3).toNatClampNeg))), (3, .int v4_3), (0, .ref mo), (1, .ref (mor 23))]) hx hb dX7_oilOf_20 rfl hl (by decide) rfl (fun ls hl => ?_)
        refine lv_iinc (v := (v4_3 + 1)) (lv' := [(3, .int (v4_3 + 1)), (2, .int (v4_2 + (mok_23 ((6 : Int32) + v4_3).toNatClampNeg))), (0, .ref mo), (1, .ref (mor 23))]) hx hb dX7_oilOf_21 hl (k := 1) rfl rfl (by decide) rfl (fun ls hl => ?_)
        refine lv_goto (tgt := 4) hx hb dX7_oilOf_24 (by decide) ?_
        exact ih4 (v4_3 + 1) (v4_2 + (mok_23 ((6 : Int32) + v4_3).toNatClampNeg)) he _ _ _ hP hD hS (lv_sub hl [0, 1, 2, 3] rfl)
  refine lv_iconst (v := 0) hx hb dX7_oilOf_0 (by decide) ?_
  refine lv_istore_n (lv' := [(2, .int (0 : Int32)), (0, .ref mo), (1, .ref (mor 23))]) hx hb dX7_oilOf_1 rfl hl (by decide) rfl (fun ls hl => ?_)
  refine lv_iconst (v := 0) hx hb dX7_oilOf_2 (by decide) ?_
  refine lv_istore_n (lv' := [(3, .int (0 : Int32)), (2, .int (0 : Int32)), (0, .ref mo), (1, .ref (mor 23))]) hx hb dX7_oilOf_3 rfl hl (by decide) rfl (fun ls hl => ?_)
  exact L4_4 F (0 : Int32) (0 : Int32) he _ _ _ hP hD hS (lv_sub hl [0, 1, 2, 3] rfl)

def fX7_darkIn_now_L4 (moi_13 : Int32) (mok_22 : Nat → Int32) (k4 : Int32 → Int32 → Option (Int32)) : Nat → Int32 → Int32 → Option (Int32)
  | 0, _, _ => none
  | n4 + 1, v4_3, v4_2 => if moi_13 ≤ v4_3 then (k4 v4_3 v4_2) else (xbd (fX7_isLit_now mok_22 v4_3) (fun (r16 : Int32) => if r16 = 0 then (fX7_darkIn_now_L4 moi_13 mok_22 k4 n4 (v4_3 + 1) (v4_2 ||| ((1 : Int32) <<< (v4_3 &&& 31)))) else (fX7_darkIn_now_L4 moi_13 mok_22 k4 n4 (v4_3 + 1) (v4_2 ||| (0 : Int32)))))
def fX7_darkIn_now (F : Nat) (moi_13 : Int32) (mok_22 : Nat → Int32) : Option (Int32) :=
  fX7_darkIn_now_L4 moi_13 mok_22 (fun (v4_3 : Int32) (v4_2 : Int32) => some v4_2) F (0 : Int32) (0 : Int32)
theorem hi_X7_darkIn_now_7 : ∀ w ∈ wsX70, w ∈ wsX7_darkIn := fun _ h => (List.mem_cons_of_mem _ (List.mem_append_right _ h))
set_option maxHeartbeats 4000000 in
set_option maxRecDepth 100000 in
theorem c_X7_darkIn_now (l : Launch) (D : va_G) (cI cP : ClassId) (sz : Nat) (mo : Nat) (mor : Nat → Nat) (moi_0 : Int32) (moi_2 : Int32) (moi_4 : Int32) (moi_8 : Int32) (moi_9 : Int32) (moi_11 : Int32) (moi_12 : Int32) (moi_13 : Int32) (moi_17 : Int32) (moi_18 : Int32) (moi_20 : Int32) (moi_21 : Int32) (moi_24 : Int32) (moi_26 : Int32) (moi_28 : Int32) (moi_30 : Int32) (moi_31 : Int32) (moi_32 : Int32) (mok_1 : Nat → Int32) (mok_3 : Nat → Int32) (mok_5 : Nat → Int32) (mok_6 : Nat → Int32) (mok_7 : Nat → Int32) (mok_10 : Nat → Int32) (mok_14 : Nat → Int32) (mok_15 : Nat → Int32) (mok_16 : Nat → Int32) (mok_19 : Nat → Int32) (mok_22 : Nat → Int32) (mok_23 : Nat → Int32) (mok_25 : Nat → Int32) (mok_27 : Nat → Int32) (mok_29 : Nat → Int32) (mok_33 : Nat → Int32) (mok_34 : Nat → Int32) (F : Nat) (hne : fX7_darkIn_now F moi_13 mok_22 ≠ none) : xMi l yX7_darkIn wsX7_darkIn ({ frames := 1, cells := 0, slots := 0, locals := 22 } : Room) D (xT cI cP) [.ref mo, .ref (mor 22)] (wM cI mo mor moi_0 moi_2 moi_4 moi_8 moi_9 moi_11 moi_12 moi_13 moi_17 moi_18 moi_20 moi_21 moi_24 moi_26 moi_28 moi_30 moi_31 moi_32 mok_1 mok_3 mok_5 mok_6 mok_7 mok_10 mok_14 mok_15 mok_16 mok_19 mok_22 mok_23 mok_25 mok_27 mok_29 mok_33 mok_34) sz (fun r (_ : Unit) => fX7_darkIn_now F moi_13 mok_22 = some r) (fun u => wM cI mo mor moi_0 moi_2 moi_4 moi_8 moi_9 moi_11 moi_12 moi_13 moi_17 moi_18 moi_20 moi_21 moi_24 moi_26 moi_28 moi_30 moi_31 moi_32 mok_1 mok_3 mok_5 mok_6 mok_7 mok_10 mok_14 mok_15 mok_16 mok_19 mok_22 mok_23 mok_25 mok_27 mok_29 mok_33 mok_34) 0 0 := by
  refine xMi_of (cc := cX7_darkIn) (maxL := 4) (by decide +kernel) rfl (Nat.le_of_ble_eq_true rfl) ?_
  intro p e s m args below meth c A ls hx hb hml hown hts hname hN hK hA hP hD hS hl Q hret
  have he := fX7_darkIn_now.eq_1 F moi_13 mok_22
  have hl : lv_has ls 4 [(0, .ref mo), (1, .ref (mor 22))] := hl
  have R4_0 : ∀ (v4_3 : Int32) (v4_2 : Int32), fX7_darkIn_now F moi_13 mok_22 = (some v4_2) → ∀ (H : Heap) (locs : List Loc) (ls : Array Slot), va_P D vwCl (wM cI mo mor moi_0 moi_2 moi_4 moi_8 moi_9 moi_11 moi_12 moi_13 moi_17 moi_18 moi_20 moi_21 moi_24 moi_26 moi_28 moi_30 moi_31 moi_32 mok_1 mok_3 mok_5 mok_6 mok_7 mok_10 mok_14 mok_15 mok_16 mok_19 mok_22 mok_23 mok_25 mok_27 mok_29 mok_33 mok_34) H → va_D A (wM cI mo mor moi_0 moi_2 moi_4 moi_8 moi_9 moi_11 moi_12 moi_13 moi_17 moi_18 moi_20 moi_21 moi_24 moi_26 moi_28 moi_30 moi_31 moi_32 mok_1 mok_3 mok_5 mok_6 mok_7 mok_10 mok_14 mok_15 mok_16 mok_19 mok_22 mok_23 mok_25 mok_27 mok_29 mok_33 mok_34) → va_S A s.heap H locs → lv_has ls 4 [(2, .int v4_2)] → W p l e ({ frames := 1, cells := 0, slots := 0, locals := 22 } : Room) s m args below meth c H locs 0 0 Q (F0 m 37 ls []) := by
    intro v4_3 v4_2 he H locs ls hP hD hS hl
    refine lv_iload_n hx hb dX7_darkIn_37 rfl (lv_at hl 0 rfl) ?_
    exact hret v4_2 () _ _ _ _ dX7_darkIn_38 he hP hD hS
  have L4_4 : ∀ (n4 : Nat) (v4_3 : Int32) (v4_2 : Int32), fX7_darkIn_now F moi_13 mok_22 = fX7_darkIn_now_L4 moi_13 mok_22 (fun (v4_3 : Int32) (v4_2 : Int32) => some v4_2) n4 v4_3 v4_2 → ∀ (H : Heap) (locs : List Loc) (ls : Array Slot), va_P D vwCl (wM cI mo mor moi_0 moi_2 moi_4 moi_8 moi_9 moi_11 moi_12 moi_13 moi_17 moi_18 moi_20 moi_21 moi_24 moi_26 moi_28 moi_30 moi_31 moi_32 mok_1 mok_3 mok_5 mok_6 mok_7 mok_10 mok_14 mok_15 mok_16 mok_19 mok_22 mok_23 mok_25 mok_27 mok_29 mok_33 mok_34) H → va_D A (wM cI mo mor moi_0 moi_2 moi_4 moi_8 moi_9 moi_11 moi_12 moi_13 moi_17 moi_18 moi_20 moi_21 moi_24 moi_26 moi_28 moi_30 moi_31 moi_32 mok_1 mok_3 mok_5 mok_6 mok_7 mok_10 mok_14 mok_15 mok_16 mok_19 mok_22 mok_23 mok_25 mok_27 mok_29 mok_33 mok_34) → va_S A s.heap H locs → lv_has ls 4 [(3, .int v4_3), (2, .int v4_2), (0, .ref mo), (1, .ref (mor 22))] → W p l e ({ frames := 1, cells := 0, slots := 0, locals := 22 } : Room) s m args below meth c H locs 0 0 Q (F0 m 4 ls []) := by
    intro n4
    induction n4 with
    | zero => intro v4_3 v4_2 he; exact absurd he hne
    | succ n4 ih4 =>
      intro v4_3 v4_2 he H locs ls hP hD hS hl
      replace he := he.trans (fX7_darkIn_now_L4.eq_2 _ _ _ _ _ _)
      refine lv_iload_n hx hb dX7_darkIn_4 rfl (lv_at hl 0 rfl) ?_
      refine lv_aload_n hx hb dX7_darkIn_5 rfl (lv_at hl 2 rfl) ?_
      refine va_get (D := D) (ci := 7) (v := .int moi_13) (C := RX7) (T := TX7) (N := 35) hx hb hts hi_X7_darkIn_now_7 hown hK hP 0 wM_0 rfl 13 (by decide) (hts (.fieldLink RX7 71 "BlindLanternsModel" "men" "I") (List.mem_of_getElem? (i := 1) rfl)) (fun _ h9 => h9) xMf_13 dX7_darkIn_6 ?_
      refine lv_icmp_ge (tgt := 37) hx hb dX7_darkIn_9 (by decide) (fun c1 => ?_) (fun c1 => ?_)
      · replace he := he.trans (if_pos c1)
        exact R4_0 v4_3 v4_2 he _ _ _ hP hD hS (lv_sub hl [1] rfl)
      · replace he := he.trans (if_neg c1)
        refine lv_iload_n hx hb dX7_darkIn_12 rfl (lv_at hl 1 rfl) ?_
        refine lv_aload_n hx hb dX7_darkIn_13 rfl (lv_at hl 2 rfl) ?_
        refine lv_aload_n hx hb dX7_darkIn_14 rfl (lv_at hl 3 rfl) ?_
        refine lv_iload_n hx hb dX7_darkIn_15 rfl (lv_at hl 0 rfl) ?_
        have n2_ : fX7_isLit_now mok_22 v4_3 ≠ none := fun z => hne (he.trans (xbd_none z))
        refine xciW (va_runV (As := [.ref (mor 22), .int v4_3]) (rest := [.int v4_2]) ⟨hx, hb, hml, hown, hts⟩ (c_X7_isLit_now l D cI cP H.size mo mor moi_0 moi_2 moi_4 moi_8 moi_9 moi_11 moi_12 moi_13 moi_17 moi_18 moi_20 moi_21 moi_24 moi_26 moi_28 moi_30 moi_31 moi_32 mok_1 mok_3 mok_5 mok_6 mok_7 mok_10 mok_14 mok_15 mok_16 mok_19 mok_22 mok_23 mok_25 mok_27 mok_29 mok_33 mok_34 v4_3 n2_) (cwV 2 hts gX7_darkIn_X7_isLit rfl rfl rfl (by decide +kernel) ⟨Nat.le_of_ble_eq_true rfl, Nat.le_of_ble_eq_true rfl⟩) (xPVW hN hK hP hD (ci := 7) (j := 0) rfl wM_0) rfl rfl hl.1 rfl (lv_room (Nat.le_of_ble_eq_true rfl)) dX7_darkIn_16 ⟨Nat.le_of_ble_eq_true rfl, Nat.le_of_ble_eq_true rfl⟩) hD hS hA (fun r16 u16 H locs hw hP hD hS => ?_)
        have hP : va_P D vwCl (wM cI mo mor moi_0 moi_2 moi_4 moi_8 moi_9 moi_11 moi_12 moi_13 moi_17 moi_18 moi_20 moi_21 moi_24 moi_26 moi_28 moi_30 moi_31 moi_32 mok_1 mok_3 mok_5 mok_6 mok_7 mok_10 mok_14 mok_15 mok_16 mok_19 mok_22 mok_23 mok_25 mok_27 mok_29 mok_33 mok_34) H := hP
        have hD : va_D A (wM cI mo mor moi_0 moi_2 moi_4 moi_8 moi_9 moi_11 moi_12 moi_13 moi_17 moi_18 moi_20 moi_21 moi_24 moi_26 moi_28 moi_30 moi_31 moi_32 mok_1 mok_3 mok_5 mok_6 mok_7 mok_10 mok_14 mok_15 mok_16 mok_19 mok_22 mok_23 mok_25 mok_27 mok_29 mok_33 mok_34) := hD
        replace he := he.trans (xbd_some hw)
        refine lv_if_eq (tgt := 26) hx hb dX7_darkIn_19 (by decide) (fun c3 => ?_) (fun c3 => ?_)
        · replace he := he.trans (if_pos c3)
          refine lv_iconst (v := 1) hx hb dX7_darkIn_26 (by decide) ?_
          refine lv_iload_n hx hb dX7_darkIn_27 rfl (lv_at hl 0 rfl) ?_
          refine lv_ishl hx hb dX7_darkIn_28 ?_
          refine lv_ior hx hb dX7_darkIn_29 ?_
          refine lv_istore_n (lv' := [(2, .int (v4_2 ||| ((1 : Int32) <<< (v4_3 &&& 31)))), (3, .int v4_3), (0, .ref mo), (1, .ref (mor 22))]) hx hb dX7_darkIn_30 rfl hl (by decide) rfl (fun ls hl => ?_)
          refine lv_iinc (v := (v4_3 + 1)) (lv' := [(3, .int (v4_3 + 1)), (2, .int (v4_2 ||| ((1 : Int32) <<< (v4_3 &&& 31)))), (0, .ref mo), (1, .ref (mor 22))]) hx hb dX7_darkIn_31 hl (k := 1) rfl rfl (by decide) rfl (fun ls hl => ?_)
          refine lv_goto (tgt := 4) hx hb dX7_darkIn_34 (by decide) ?_
          exact ih4 (v4_3 + 1) (v4_2 ||| ((1 : Int32) <<< (v4_3 &&& 31))) he _ _ _ hP hD hS (lv_sub hl [0, 1, 2, 3] rfl)
        · replace he := he.trans (if_neg c3)
          refine lv_iconst (v := 0) hx hb dX7_darkIn_22 (by decide) ?_
          refine lv_goto (tgt := 29) hx hb dX7_darkIn_23 (by decide) ?_
          refine lv_ior hx hb dX7_darkIn_29 ?_
          refine lv_istore_n (lv' := [(2, .int (v4_2 ||| (0 : Int32))), (3, .int v4_3), (0, .ref mo), (1, .ref (mor 22))]) hx hb dX7_darkIn_30 rfl hl (by decide) rfl (fun ls hl => ?_)
          refine lv_iinc (v := (v4_3 + 1)) (lv' := [(3, .int (v4_3 + 1)), (2, .int (v4_2 ||| (0 : Int32))), (0, .ref mo), (1, .ref (mor 22))]) hx hb dX7_darkIn_31 hl (k := 1) rfl rfl (by decide) rfl (fun ls hl => ?_)
          refine lv_goto (tgt := 4) hx hb dX7_darkIn_34 (by decide) ?_
          exact ih4 (v4_3 + 1) (v4_2 ||| (0 : Int32)) he _ _ _ hP hD hS (lv_sub hl [0, 1, 2, 3] rfl)
  refine lv_iconst (v := 0) hx hb dX7_darkIn_0 (by decide) ?_
  refine lv_istore_n (lv' := [(2, .int (0 : Int32)), (0, .ref mo), (1, .ref (mor 22))]) hx hb dX7_darkIn_1 rfl hl (by decide) rfl (fun ls hl => ?_)
  refine lv_iconst (v := 0) hx hb dX7_darkIn_2 (by decide) ?_
  refine lv_istore_n (lv' := [(3, .int (0 : Int32)), (2, .int (0 : Int32)), (0, .ref mo), (1, .ref (mor 22))]) hx hb dX7_darkIn_3 rfl hl (by decide) rfl (fun ls hl => ?_)
  exact L4_4 F (0 : Int32) (0 : Int32) he _ _ _ hP hD hS (lv_sub hl [0, 1, 2, 3] rfl)

def fX7_darkIn_tried_L4 (moi_13 : Int32) (mok_23 : Nat → Int32) (k4 : Int32 → Int32 → Option (Int32)) : Nat → Int32 → Int32 → Option (Int32)
  | 0, _, _ => none
  | n4 + 1, v4_3, v4_2 => if moi_13 ≤ v4_3 then (k4 v4_3 v4_2) else (xbd (fX7_isLit_tried mok_23 v4_3) (fun (r16 : Int32) => if r16 = 0 then (fX7_darkIn_tried_L4 moi_13 mok_23 k4 n4 (v4_3 + 1) (v4_2 ||| ((1 : Int32) <<< (v4_3 &&& 31)))) else (fX7_darkIn_tried_L4 moi_13 mok_23 k4 n4 (v4_3 + 1) (v4_2 ||| (0 : Int32)))))
def fX7_darkIn_tried (F : Nat) (moi_13 : Int32) (mok_23 : Nat → Int32) : Option (Int32) :=
  fX7_darkIn_tried_L4 moi_13 mok_23 (fun (v4_3 : Int32) (v4_2 : Int32) => some v4_2) F (0 : Int32) (0 : Int32)
theorem hi_X7_darkIn_tried_7 : ∀ w ∈ wsX70, w ∈ wsX7_darkIn := fun _ h => (List.mem_cons_of_mem _ (List.mem_append_right _ h))
set_option maxHeartbeats 4000000 in
set_option maxRecDepth 100000 in
theorem c_X7_darkIn_tried (l : Launch) (D : va_G) (cI cP : ClassId) (sz : Nat) (mo : Nat) (mor : Nat → Nat) (moi_0 : Int32) (moi_2 : Int32) (moi_4 : Int32) (moi_8 : Int32) (moi_9 : Int32) (moi_11 : Int32) (moi_12 : Int32) (moi_13 : Int32) (moi_17 : Int32) (moi_18 : Int32) (moi_20 : Int32) (moi_21 : Int32) (moi_24 : Int32) (moi_26 : Int32) (moi_28 : Int32) (moi_30 : Int32) (moi_31 : Int32) (moi_32 : Int32) (mok_1 : Nat → Int32) (mok_3 : Nat → Int32) (mok_5 : Nat → Int32) (mok_6 : Nat → Int32) (mok_7 : Nat → Int32) (mok_10 : Nat → Int32) (mok_14 : Nat → Int32) (mok_15 : Nat → Int32) (mok_16 : Nat → Int32) (mok_19 : Nat → Int32) (mok_22 : Nat → Int32) (mok_23 : Nat → Int32) (mok_25 : Nat → Int32) (mok_27 : Nat → Int32) (mok_29 : Nat → Int32) (mok_33 : Nat → Int32) (mok_34 : Nat → Int32) (F : Nat) (hne : fX7_darkIn_tried F moi_13 mok_23 ≠ none) : xMi l yX7_darkIn wsX7_darkIn ({ frames := 1, cells := 0, slots := 0, locals := 22 } : Room) D (xT cI cP) [.ref mo, .ref (mor 23)] (wM cI mo mor moi_0 moi_2 moi_4 moi_8 moi_9 moi_11 moi_12 moi_13 moi_17 moi_18 moi_20 moi_21 moi_24 moi_26 moi_28 moi_30 moi_31 moi_32 mok_1 mok_3 mok_5 mok_6 mok_7 mok_10 mok_14 mok_15 mok_16 mok_19 mok_22 mok_23 mok_25 mok_27 mok_29 mok_33 mok_34) sz (fun r (_ : Unit) => fX7_darkIn_tried F moi_13 mok_23 = some r) (fun u => wM cI mo mor moi_0 moi_2 moi_4 moi_8 moi_9 moi_11 moi_12 moi_13 moi_17 moi_18 moi_20 moi_21 moi_24 moi_26 moi_28 moi_30 moi_31 moi_32 mok_1 mok_3 mok_5 mok_6 mok_7 mok_10 mok_14 mok_15 mok_16 mok_19 mok_22 mok_23 mok_25 mok_27 mok_29 mok_33 mok_34) 0 0 := by
  refine xMi_of (cc := cX7_darkIn) (maxL := 4) (by decide +kernel) rfl (Nat.le_of_ble_eq_true rfl) ?_
  intro p e s m args below meth c A ls hx hb hml hown hts hname hN hK hA hP hD hS hl Q hret
  have he := fX7_darkIn_tried.eq_1 F moi_13 mok_23
  have hl : lv_has ls 4 [(0, .ref mo), (1, .ref (mor 23))] := hl
  have R4_0 : ∀ (v4_3 : Int32) (v4_2 : Int32), fX7_darkIn_tried F moi_13 mok_23 = (some v4_2) → ∀ (H : Heap) (locs : List Loc) (ls : Array Slot), va_P D vwCl (wM cI mo mor moi_0 moi_2 moi_4 moi_8 moi_9 moi_11 moi_12 moi_13 moi_17 moi_18 moi_20 moi_21 moi_24 moi_26 moi_28 moi_30 moi_31 moi_32 mok_1 mok_3 mok_5 mok_6 mok_7 mok_10 mok_14 mok_15 mok_16 mok_19 mok_22 mok_23 mok_25 mok_27 mok_29 mok_33 mok_34) H → va_D A (wM cI mo mor moi_0 moi_2 moi_4 moi_8 moi_9 moi_11 moi_12 moi_13 moi_17 moi_18 moi_20 moi_21 moi_24 moi_26 moi_28 moi_30 moi_31 moi_32 mok_1 mok_3 mok_5 mok_6 mok_7 mok_10 mok_14 mok_15 mok_16 mok_19 mok_22 mok_23 mok_25 mok_27 mok_29 mok_33 mok_34) → va_S A s.heap H locs → lv_has ls 4 [(2, .int v4_2)] → W p l e ({ frames := 1, cells := 0, slots := 0, locals := 22 } : Room) s m args below meth c H locs 0 0 Q (F0 m 37 ls []) := by
    intro v4_3 v4_2 he H locs ls hP hD hS hl
    refine lv_iload_n hx hb dX7_darkIn_37 rfl (lv_at hl 0 rfl) ?_
    exact hret v4_2 () _ _ _ _ dX7_darkIn_38 he hP hD hS
  have L4_4 : ∀ (n4 : Nat) (v4_3 : Int32) (v4_2 : Int32), fX7_darkIn_tried F moi_13 mok_23 = fX7_darkIn_tried_L4 moi_13 mok_23 (fun (v4_3 : Int32) (v4_2 : Int32) => some v4_2) n4 v4_3 v4_2 → ∀ (H : Heap) (locs : List Loc) (ls : Array Slot), va_P D vwCl (wM cI mo mor moi_0 moi_2 moi_4 moi_8 moi_9 moi_11 moi_12 moi_13 moi_17 moi_18 moi_20 moi_21 moi_24 moi_26 moi_28 moi_30 moi_31 moi_32 mok_1 mok_3 mok_5 mok_6 mok_7 mok_10 mok_14 mok_15 mok_16 mok_19 mok_22 mok_23 mok_25 mok_27 mok_29 mok_33 mok_34) H → va_D A (wM cI mo mor moi_0 moi_2 moi_4 moi_8 moi_9 moi_11 moi_12 moi_13 moi_17 moi_18 moi_20 moi_21 moi_24 moi_26 moi_28 moi_30 moi_31 moi_32 mok_1 mok_3 mok_5 mok_6 mok_7 mok_10 mok_14 mok_15 mok_16 mok_19 mok_22 mok_23 mok_25 mok_27 mok_29 mok_33 mok_34) → va_S A s.heap H locs → lv_has ls 4 [(3, .int v4_3), (2, .int v4_2), (0, .ref mo), (1, .ref (mor 23))] → W p l e ({ frames := 1, cells := 0, slots := 0, locals := 22 } : Room) s m args below meth c H locs 0 0 Q (F0 m 4 ls []) := by
    intro n4
    induction n4 with
    | zero => intro v4_3 v4_2 he; exact absurd he hne
    | succ n4 ih4 =>
      intro v4_3 v4_2 he H locs ls hP hD hS hl
      replace he := he.trans (fX7_darkIn_tried_L4.eq_2 _ _ _ _ _ _)
      refine lv_iload_n hx hb dX7_darkIn_4 rfl (lv_at hl 0 rfl) ?_
      refine lv_aload_n hx hb dX7_darkIn_5 rfl (lv_at hl 2 rfl) ?_
      refine va_get (D := D) (ci := 7) (v := .int moi_13) (C := RX7) (T := TX7) (N := 35) hx hb hts hi_X7_darkIn_tried_7 hown hK hP 0 wM_0 rfl 13 (by decide) (hts (.fieldLink RX7 71 "BlindLanternsModel" "men" "I") (List.mem_of_getElem? (i := 1) rfl)) (fun _ h9 => h9) xMf_13 dX7_darkIn_6 ?_
      refine lv_icmp_ge (tgt := 37) hx hb dX7_darkIn_9 (by decide) (fun c1 => ?_) (fun c1 => ?_)
      · replace he := he.trans (if_pos c1)
        exact R4_0 v4_3 v4_2 he _ _ _ hP hD hS (lv_sub hl [1] rfl)
      · replace he := he.trans (if_neg c1)
        refine lv_iload_n hx hb dX7_darkIn_12 rfl (lv_at hl 1 rfl) ?_
        refine lv_aload_n hx hb dX7_darkIn_13 rfl (lv_at hl 2 rfl) ?_
        refine lv_aload_n hx hb dX7_darkIn_14 rfl (lv_at hl 3 rfl) ?_
        refine lv_iload_n hx hb dX7_darkIn_15 rfl (lv_at hl 0 rfl) ?_
        have n2_ : fX7_isLit_tried mok_23 v4_3 ≠ none := fun z => hne (he.trans (xbd_none z))
        refine xciW (va_runV (As := [.ref (mor 23), .int v4_3]) (rest := [.int v4_2]) ⟨hx, hb, hml, hown, hts⟩ (c_X7_isLit_tried l D cI cP H.size mo mor moi_0 moi_2 moi_4 moi_8 moi_9 moi_11 moi_12 moi_13 moi_17 moi_18 moi_20 moi_21 moi_24 moi_26 moi_28 moi_30 moi_31 moi_32 mok_1 mok_3 mok_5 mok_6 mok_7 mok_10 mok_14 mok_15 mok_16 mok_19 mok_22 mok_23 mok_25 mok_27 mok_29 mok_33 mok_34 v4_3 n2_) (cwV 2 hts gX7_darkIn_X7_isLit rfl rfl rfl (by decide +kernel) ⟨Nat.le_of_ble_eq_true rfl, Nat.le_of_ble_eq_true rfl⟩) (xPVW hN hK hP hD (ci := 7) (j := 0) rfl wM_0) rfl rfl hl.1 rfl (lv_room (Nat.le_of_ble_eq_true rfl)) dX7_darkIn_16 ⟨Nat.le_of_ble_eq_true rfl, Nat.le_of_ble_eq_true rfl⟩) hD hS hA (fun r16 u16 H locs hw hP hD hS => ?_)
        have hP : va_P D vwCl (wM cI mo mor moi_0 moi_2 moi_4 moi_8 moi_9 moi_11 moi_12 moi_13 moi_17 moi_18 moi_20 moi_21 moi_24 moi_26 moi_28 moi_30 moi_31 moi_32 mok_1 mok_3 mok_5 mok_6 mok_7 mok_10 mok_14 mok_15 mok_16 mok_19 mok_22 mok_23 mok_25 mok_27 mok_29 mok_33 mok_34) H := hP
        have hD : va_D A (wM cI mo mor moi_0 moi_2 moi_4 moi_8 moi_9 moi_11 moi_12 moi_13 moi_17 moi_18 moi_20 moi_21 moi_24 moi_26 moi_28 moi_30 moi_31 moi_32 mok_1 mok_3 mok_5 mok_6 mok_7 mok_10 mok_14 mok_15 mok_16 mok_19 mok_22 mok_23 mok_25 mok_27 mok_29 mok_33 mok_34) := hD
        replace he := he.trans (xbd_some hw)
        refine lv_if_eq (tgt := 26) hx hb dX7_darkIn_19 (by decide) (fun c3 => ?_) (fun c3 => ?_)
        · replace he := he.trans (if_pos c3)
          refine lv_iconst (v := 1) hx hb dX7_darkIn_26 (by decide) ?_
          refine lv_iload_n hx hb dX7_darkIn_27 rfl (lv_at hl 0 rfl) ?_
          refine lv_ishl hx hb dX7_darkIn_28 ?_
          refine lv_ior hx hb dX7_darkIn_29 ?_
          refine lv_istore_n (lv' := [(2, .int (v4_2 ||| ((1 : Int32) <<< (v4_3 &&& 31)))), (3, .int v4_3), (0, .ref mo), (1, .ref (mor 23))]) hx hb dX7_darkIn_30 rfl hl (by decide) rfl (fun ls hl => ?_)
          refine lv_iinc (v := (v4_3 + 1)) (lv' := [(3, .int (v4_3 + 1)), (2, .int (v4_2 ||| ((1 : Int32) <<< (v4_3 &&& 31)))), (0, .ref mo), (1, .ref (mor 23))]) hx hb dX7_darkIn_31 hl (k := 1) rfl rfl (by decide) rfl (fun ls hl => ?_)
          refine lv_goto (tgt := 4) hx hb dX7_darkIn_34 (by decide) ?_
          exact ih4 (v4_3 + 1) (v4_2 ||| ((1 : Int32) <<< (v4_3 &&& 31))) he _ _ _ hP hD hS (lv_sub hl [0, 1, 2, 3] rfl)
        · replace he := he.trans (if_neg c3)
          refine lv_iconst (v := 0) hx hb dX7_darkIn_22 (by decide) ?_
          refine lv_goto (tgt := 29) hx hb dX7_darkIn_23 (by decide) ?_
          refine lv_ior hx hb dX7_darkIn_29 ?_
          refine lv_istore_n (lv' := [(2, .int (v4_2 ||| (0 : Int32))), (3, .int v4_3), (0, .ref mo), (1, .ref (mor 23))]) hx hb dX7_darkIn_30 rfl hl (by decide) rfl (fun ls hl => ?_)
          refine lv_iinc (v := (v4_3 + 1)) (lv' := [(3, .int (v4_3 + 1)), (2, .int (v4_2 ||| (0 : Int32))), (0, .ref mo), (1, .ref (mor 23))]) hx hb dX7_darkIn_31 hl (k := 1) rfl rfl (by decide) rfl (fun ls hl => ?_)
          refine lv_goto (tgt := 4) hx hb dX7_darkIn_34 (by decide) ?_
          exact ih4 (v4_3 + 1) (v4_2 ||| (0 : Int32)) he _ _ _ hP hD hS (lv_sub hl [0, 1, 2, 3] rfl)
  refine lv_iconst (v := 0) hx hb dX7_darkIn_0 (by decide) ?_
  refine lv_istore_n (lv' := [(2, .int (0 : Int32)), (0, .ref mo), (1, .ref (mor 23))]) hx hb dX7_darkIn_1 rfl hl (by decide) rfl (fun ls hl => ?_)
  refine lv_iconst (v := 0) hx hb dX7_darkIn_2 (by decide) ?_
  refine lv_istore_n (lv' := [(3, .int (0 : Int32)), (2, .int (0 : Int32)), (0, .ref mo), (1, .ref (mor 23))]) hx hb dX7_darkIn_3 rfl hl (by decide) rfl (fun ls hl => ?_)
  exact L4_4 F (0 : Int32) (0 : Int32) he _ _ _ hP hD hS (lv_sub hl [0, 1, 2, 3] rfl)
