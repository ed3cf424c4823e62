def fX7_in (a1 : Int32) (a2 : Int32) (a3 : Int32) : Option (Int32) :=
  if a1 < a2 then (some (0 : Int32)) else (if a3 < a1 then (some (0 : Int32)) else (some (1 : Int32)))
set_option maxHeartbeats 4000000 in
set_option maxRecDepth 100000 in
theorem c_X7_in (l : Launch) (D : va_G) (cI cP : ClassId) (sz : Nat) (a1 : Int32) (a2 : Int32) (a3 : Int32) (hne : fX7_in a1 a2 a3 ≠ none) : xMi l yX7_in wsX7_in ({ frames := 0, cells := 0, slots := 0, locals := 0 } : Room) D (xT cI cP) [.int a1, .int a2, .int a3] (([] : va_W)) sz (fun r (_ : Unit) => fX7_in a1 a2 a3 = some r) (fun u => ([] : va_W)) 0 0 := by
  refine xMz_of (cc := cX7_in) (maxL := 3) (by decide +kernel) rfl (Nat.le_of_ble_eq_true rfl) ?_
  intro p e s m args below meth c A ls hx hb hml hown hts hname hN hK hA hP hD hS hl Q hret
  have he := fX7_in.eq_1 a1 a2 a3
  have hl : lv_has ls 3 [(0, .int a1), (1, .int a2), (2, .int a3)] := hl
  refine lv_iload_n hx hb dX7_in_0 rfl (lv_at hl 0 rfl) ?_
  refine lv_iload_n hx hb dX7_in_1 rfl (lv_at hl 1 rfl) ?_
  refine lv_icmp_lt (tgt := 14) hx hb dX7_in_2 (by decide) (fun c1 => ?_) (fun c1 => ?_)
  · replace he := he.trans (if_pos c1)
    refine lv_iconst (v := 0) hx hb dX7_in_14 (by decide) ?_
    exact hret (0 : Int32) () _ _ _ _ dX7_in_15 (Or.inl rfl) he hP hD hS
  · replace he := he.trans (if_neg c1)
    refine lv_iload_n hx hb dX7_in_5 rfl (lv_at hl 0 rfl) ?_
    refine lv_iload_n hx hb dX7_in_6 rfl (lv_at hl 2 rfl) ?_
    refine lv_icmp_gt (tgt := 14) hx hb dX7_in_7 (by decide) (fun c2 => ?_) (fun c2 => ?_)
    · replace he := he.trans (if_pos c2)
      refine lv_iconst (v := 0) hx hb dX7_in_14 (by decide) ?_
      exact hret (0 : Int32) () _ _ _ _ dX7_in_15 (Or.inl rfl) he hP hD hS
    · replace he := he.trans (if_neg c2)
      refine lv_iconst (v := 1) hx hb dX7_in_10 (by decide) ?_
      refine lv_goto (tgt := 15) hx hb dX7_in_11 (by decide) ?_
      exact hret (1 : Int32) () _ _ _ _ dX7_in_15 (Or.inr rfl) he hP hD hS

def fX7_has (a1 : Int32) (a2 : Int32) : Option (Int32) :=
  if ((a1 >>> (a2 &&& 31)) &&& (1 : Int32)) = (1 : Int32) then (some (1 : Int32)) else (some (0 : Int32))
set_option maxHeartbeats 4000000 in
set_option maxRecDepth 100000 in
theorem c_X7_has (l : Launch) (D : va_G) (cI cP : ClassId) (sz : Nat) (a1 : Int32) (a2 : Int32) (hne : fX7_has a1 a2 ≠ none) : xMi l yX7_has wsX7_has ({ frames := 0, cells := 0, slots := 0, locals := 0 } : Room) D (xT cI cP) [.int a1, .int a2] (([] : va_W)) sz (fun r (_ : Unit) => fX7_has a1 a2 = some r) (fun u => ([] : va_W)) 0 0 := by
  refine xMz_of (cc := cX7_has) (maxL := 2) (by decide +kernel) rfl (Nat.le_of_ble_eq_true rfl) ?_
  intro p e s m args below meth c A ls hx hb hml hown hts hname hN hK hA hP hD hS hl Q hret
  have he := fX7_has.eq_1 a1 a2
  have hl : lv_has ls 2 [(0, .int a1), (1, .int a2)] := hl
  refine lv_iload_n hx hb dX7_has_0 rfl (lv_at hl 0 rfl) ?_
  refine lv_iload_n hx hb dX7_has_1 rfl (lv_at hl 1 rfl) ?_
  refine lv_ishr hx hb dX7_has_2 ?_
  refine lv_iconst (v := 1) hx hb dX7_has_3 (by decide) ?_
  refine lv_iand hx hb dX7_has_4 ?_
  refine lv_iconst (v := 1) hx hb dX7_has_5 (by decide) ?_
  refine lv_icmp_ne (tgt := 13) hx hb dX7_has_6 (by decide) (fun c1 => ?_) (fun c1 => ?_)
  · replace he := he.trans (if_neg c1)
    refine lv_iconst (v := 0) hx hb dX7_has_13 (by decide) ?_
    exact hret (0 : Int32) () _ _ _ _ dX7_has_14 (Or.inl rfl) he hP hD hS
  · replace he := he.trans (if_pos c1)
    refine lv_iconst (v := 1) hx hb dX7_has_9 (by decide) ?_
    refine lv_goto (tgt := 14) hx hb dX7_has_10 (by decide) ?_
    exact hret (1 : Int32) () _ _ _ _ dX7_has_14 (Or.inr rfl) he hP hD hS

def fX7_bit (a1 : Int32) : Option (Int32) :=
  if a1 = 0 then (some (0 : Int32)) else (some (1 : Int32))
set_option maxHeartbeats 4000000 in
set_option maxRecDepth 100000 in
theorem c_X7_bit (l : Launch) (D : va_G) (cI cP : ClassId) (sz : Nat) (a1 : Int32) (hne : fX7_bit a1 ≠ none) : xMi l yX7_bit wsX7_bit ({ frames := 0, cells := 0, slots := 0, locals := 0 } : Room) D (xT cI cP) [.int a1] (([] : va_W)) sz (fun r (_ : Unit) => fX7_bit a1 = some r) (fun u => ([] : va_W)) 0 0 := by
  refine xMi_of (cc := cX7_bit) (maxL := 1) (by decide +kernel) rfl (Nat.le_of_ble_eq_true rfl) ?_
  intro p e s m args below meth c A ls hx hb hml hown hts hname hN hK hA hP hD hS hl Q hret
  have he := fX7_bit.eq_1 a1
  have hl : lv_has ls 1 [(0, .int a1)] := hl
  refine lv_iload_n hx hb dX7_bit_0 rfl (lv_at hl 0 rfl) ?_
  refine lv_if_eq (tgt := 8) hx hb dX7_bit_1 (by decide) (fun c1 => ?_) (fun c1 => ?_)
  · replace he := he.trans (if_pos c1)
    refine lv_iconst (v := 0) hx hb dX7_bit_8 (by decide) ?_
    exact hret (0 : Int32) () _ _ _ _ dX7_bit_9 he hP hD hS
  · replace he := he.trans (if_neg c1)
    refine lv_iconst (v := 1) hx hb dX7_bit_4 (by decide) ?_
    refine lv_goto (tgt := 9) hx hb dX7_bit_5 (by decide) ?_
    exact hret (1 : Int32) () _ _ _ _ dX7_bit_9 he hP hD hS

def fX7_isMan (moi_13 : Int32) (a1 : Int32) : Option (Int32) :=
  xbd (fX7_in a1 (0 : Int32) (moi_13 - (1 : Int32))) (fun (r8 : Int32) => if r8 = 0 ∨ r8 = 1 then some r8 else none)
theorem hi_X7_isMan_7 : ∀ w ∈ wsX70, w ∈ wsX7_isMan := fun _ h => (List.mem_cons_of_mem _ (List.mem_append_right _ h))
set_option maxHeartbeats 4000000 in
set_option maxRecDepth 100000 in
theorem c_X7_isMan (l : Launch) (D : va_G) (cI cP : ClassId) (sz : Nat) (mo : Nat) (mor : Nat → Nat) (moi : Nat → Int32) (mok : Nat → Nat → Int32) (a1 : Int32) (hne : fX7_isMan (moi 13) a1 ≠ none) : xMi l yX7_isMan wsX7_isMan ({ frames := 1, cells := 0, slots := 0, locals := 22 } : Room) D (xT cI cP) [.ref mo, .int a1] (wM cI mo mor moi mok) sz (fun r (_ : Unit) => fX7_isMan (moi 13) a1 = some r) (fun u => wM cI mo mor moi mok) 0 0 := by
  refine xMz_of (cc := cX7_isMan) (maxL := 2) (by decide +kernel) rfl (Nat.le_of_ble_eq_true rfl) ?_
  intro p e s m args below meth c A ls hx hb hml hown hts hname hN hK hA hP hD hS hl Q hret
  have he := fX7_isMan.eq_1 (moi 13) a1
  have hl : lv_has ls 2 [(0, .ref mo), (1, .int a1)] := hl
  refine lv_iload_n hx hb dX7_isMan_0 rfl (lv_at hl 1 rfl) ?_
  refine lv_iconst (v := 0) hx hb dX7_isMan_1 (by decide) ?_
  refine lv_aload_n hx hb dX7_isMan_2 rfl (lv_at hl 0 rfl) ?_
  refine va_get (D := D) (ci := 7) (v := .int (moi 13)) (C := RX7) (T := TX7) (N := 35) hx hb hts hi_X7_isMan_7 hown hK hP 0 rfl rfl 13 (by decide) (hts (.fieldLink RX7 71 "BlindLanternsModel" "men" "I") (List.mem_of_getElem? (i := 1) rfl)) (fun _ h9 => h9) rfl dX7_isMan_3 ?_
  refine lv_iconst (v := 1) hx hb dX7_isMan_6 (by decide) ?_
  refine lv_isub hx hb dX7_isMan_7 ?_
  have n1_ : fX7_in a1 (0 : Int32) ((moi 13) - (1 : Int32)) ≠ none := fun z => hne (he.trans (xbd_none z))
  refine xci (va_runS (As := [.int a1, .int (0 : Int32), .int ((moi 13) - (1 : Int32))]) (rest := []) ⟨hx, hb, hml, hown, hts⟩ (c_X7_in l D cI cP s.heap.size  a1 (0 : Int32) ((moi 13) - (1 : Int32)) n1_) (va_cwS 3 hts gX7_isMan_X7_in rfl rfl rfl (by decide +kernel) ⟨Nat.le_of_ble_eq_true rfl, Nat.le_of_ble_eq_true rfl⟩) (xPS hN hK hP hD [] rfl (by decide)) rfl rfl hl.1 rfl (lv_room (Nat.le_of_ble_eq_true rfl)) dX7_isMan_8 ⟨Nat.le_of_ble_eq_true rfl, Nat.le_of_ble_eq_true rfl⟩) hP hD hS hA [] rfl (fun _ => rfl) (fun r8 u8 H locs hw hP hD hS => ?_)
  have hP : va_P D vwCl (wM cI mo mor moi mok) H := hP
  have hD : va_D A (wM cI mo mor moi mok) := hD
  replace he := he.trans (xbd_some hw)
  by_cases g2 : r8 = 0 ∨ r8 = 1
  · replace he := he.trans (if_pos g2)
    exact hret r8 () _ _ _ _ dX7_isMan_11 g2 he hP hD hS
  exact absurd (he.trans (if_neg g2)) hne

def fX7_isLantern (moi_4 : Int32) (mok_3 : Nat → Int32) : Option (Int32) :=
  xbd (fX7_in (mok_3 (0 : Int32).toNatClampNeg) (0 : Int32) (moi_4 - (1 : Int32))) (fun (r13 : Int32) => if r13 = 0 ∨ r13 = 1 then some r13 else none)
theorem hi_X7_isLantern_7 : ∀ w ∈ wsX70, w ∈ wsX7_isLantern := fun _ h => (List.mem_cons_of_mem _ (List.mem_append_right _ h))
set_option maxHeartbeats 4000000 in
set_option maxRecDepth 100000 in
theorem c_X7_isLantern (l : Launch) (D : va_G) (cI cP : ClassId) (sz : Nat) (mo : Nat) (mor : Nat → Nat) (moi : Nat → Int32) (mok : Nat → Nat → Int32) (hne : fX7_isLantern (moi 4) (mok 3) ≠ none) : xMi l yX7_isLantern wsX7_isLantern ({ frames := 1, cells := 0, slots := 0, locals := 22 } : Room) D (xT cI cP) [.ref mo] (wM cI mo mor moi mok) sz (fun r (_ : Unit) => fX7_isLantern (moi 4) (mok 3) = some r) (fun u => wM cI mo mor moi mok) 0 0 := by
  refine xMz_of (cc := cX7_isLantern) (maxL := 1) (by decide +kernel) rfl (Nat.le_of_ble_eq_true rfl) ?_
  intro p e s m args below meth c A ls hx hb hml hown hts hname hN hK hA hP hD hS hl Q hret
  have he := fX7_isLantern.eq_1 (moi 4) (mok 3)
  have hl : lv_has ls 1 [(0, .ref mo)] := hl
  refine lv_aload_n hx hb dX7_isLantern_0 rfl (lv_at hl 0 rfl) ?_
  refine va_get (D := D) (ci := 7) (v := .ref (mor 3)) (C := RX7) (T := TX7) (N := 35) hx hb hts hi_X7_isLantern_7 hown hK hP 0 rfl rfl 3 (by decide) (hts (.fieldLink RX7 13 "BlindLanternsModel" "number" "[I") (List.mem_of_getElem? (i := 1) rfl)) (fun _ h9 => h9) rfl dX7_isLantern_1 ?_
  refine lv_iconst (v := 0) hx hb dX7_isLantern_4 (by decide) ?_
  refine va_iald hx hb hK hP 2 0 rfl rfl (by decide) dX7_isLantern_5 ?_
  refine lv_iconst (v := 0) hx hb dX7_isLantern_6 (by decide) ?_
  refine lv_aload_n hx hb dX7_isLantern_7 rfl (lv_at hl 0 rfl) ?_
  refine va_get (D := D) (ci := 7) (v := .int (moi 4)) (C := RX7) (T := TX7) (N := 35) hx hb hts hi_X7_isLantern_7 hown hK hP 0 rfl rfl 4 (by decide) (hts (.fieldLink RX7 96 "BlindLanternsModel" "readMen" "I") (List.mem_of_getElem? (i := 2) rfl)) (fun _ h9 => h9) rfl dX7_isLantern_8 ?_
  refine lv_iconst (v := 1) hx hb dX7_isLantern_11 (by decide) ?_
  refine lv_isub hx hb dX7_isLantern_12 ?_
  have n1_ : fX7_in ((mok 3) (0 : Int32).toNatClampNeg) (0 : Int32) ((moi 4) - (1 : Int32)) ≠ none := fun z => hne (he.trans (xbd_none z))
  refine xci (va_runS (As := [.int ((mok 3) (0 : Int32).toNatClampNeg), .int (0 : Int32), .int ((moi 4) - (1 : Int32))]) (rest := []) ⟨hx, hb, hml, hown, hts⟩ (c_X7_in l D cI cP s.heap.size  ((mok 3) (0 : Int32).toNatClampNeg) (0 : Int32) ((moi 4) - (1 : Int32)) n1_) (va_cwS 3 hts gX7_isLantern_X7_in rfl rfl rfl (by decide +kernel) ⟨Nat.le_of_ble_eq_true rfl, Nat.le_of_ble_eq_true rfl⟩) (xPS hN hK hP hD [] rfl (by decide)) rfl rfl hl.1 rfl (lv_room (Nat.le_of_ble_eq_true rfl)) dX7_isLantern_13 ⟨Nat.le_of_ble_eq_true rfl, Nat.le_of_ble_eq_true rfl⟩) hP hD hS hA [] rfl (fun _ => rfl) (fun r13 u13 H locs hw hP hD hS => ?_)
  have hP : va_P D vwCl (wM cI mo mor moi mok) H := hP
  have hD : va_D A (wM cI mo mor moi mok) := hD
  replace he := he.trans (xbd_some hw)
  by_cases g2 : r13 = 0 ∨ r13 = 1
  · replace he := he.trans (if_pos g2)
    exact hret r13 () _ _ _ _ dX7_isLantern_16 g2 he hP hD hS
  exact absurd (he.trans (if_neg g2)) hne

def fX7_isSet (moi_13 : Int32) (a1 : Int32) : Option (Int32) :=
  xbd (fX7_in a1 (0 : Int32) (((1 : Int32) <<< (moi_13 &&& 31)) - (1 : Int32))) (fun (r10 : Int32) => if r10 = 0 ∨ r10 = 1 then some r10 else none)
theorem hi_X7_isSet_7 : ∀ w ∈ wsX70, w ∈ wsX7_isSet := fun _ h => (List.mem_cons_of_mem _ (List.mem_append_right _ h))
set_option maxHeartbeats 4000000 in
set_option maxRecDepth 100000 in
theorem c_X7_isSet (l : Launch) (D : va_G) (cI cP : ClassId) (sz : Nat) (mo : Nat) (mor : Nat → Nat) (moi : Nat → Int32) (mok : Nat → Nat → Int32) (a1 : Int32) (hne : fX7_isSet (moi 13) a1 ≠ none) : xMi l yX7_isSet wsX7_isSet ({ frames := 1, cells := 0, slots := 0, locals := 22 } : Room) D (xT cI cP) [.ref mo, .int a1] (wM cI mo mor moi mok) sz (fun r (_ : Unit) => fX7_isSet (moi 13) a1 = some r) (fun u => wM cI mo mor moi mok) 0 0 := by
  refine xMz_of (cc := cX7_isSet) (maxL := 2) (by decide +kernel) rfl (Nat.le_of_ble_eq_true rfl) ?_
  intro p e s m args below meth c A ls hx hb hml hown hts hname hN hK hA hP hD hS hl Q hret
  have he := fX7_isSet.eq_1 (moi 13) a1
  have hl : lv_has ls 2 [(0, .ref mo), (1, .int a1)] := hl
  refine lv_iload_n hx hb dX7_isSet_0 rfl (lv_at hl 1 rfl) ?_
  refine lv_iconst (v := 0) hx hb dX7_isSet_1 (by decide) ?_
  refine lv_iconst (v := 1) hx hb dX7_isSet_2 (by decide) ?_
  refine lv_aload_n hx hb dX7_isSet_3 rfl (lv_at hl 0 rfl) ?_
  refine va_get (D := D) (ci := 7) (v := .int (moi 13)) (C := RX7) (T := TX7) (N := 35) hx hb hts hi_X7_isSet_7 hown hK hP 0 rfl rfl 13 (by decide) (hts (.fieldLink RX7 71 "BlindLanternsModel" "men" "I") (List.mem_of_getElem? (i := 1) rfl)) (fun _ h9 => h9) rfl dX7_isSet_4 ?_
  refine lv_ishl hx hb dX7_isSet_7 ?_
  refine lv_iconst (v := 1) hx hb dX7_isSet_8 (by decide) ?_
  refine lv_isub hx hb dX7_isSet_9 ?_
  have n1_ : fX7_in a1 (0 : Int32) (((1 : Int32) <<< ((moi 13) &&& 31)) - (1 : Int32)) ≠ none := fun z => hne (he.trans (xbd_none z))
  refine xci (va_runS (As := [.int a1, .int (0 : Int32), .int (((1 : Int32) <<< ((moi 13) &&& 31)) - (1 : Int32))]) (rest := []) ⟨hx, hb, hml, hown, hts⟩ (c_X7_in l D cI cP s.heap.size  a1 (0 : Int32) (((1 : Int32) <<< ((moi 13) &&& 31)) - (1 : Int32)) n1_) (va_cwS 3 hts gX7_isSet_X7_in rfl rfl rfl (by decide +kernel) ⟨Nat.le_of_ble_eq_true rfl, Nat.le_of_ble_eq_true rfl⟩) (xPS hN hK hP hD [] rfl (by decide)) rfl rfl hl.1 rfl (lv_room (Nat.le_of_ble_eq_true rfl)) dX7_isSet_10 ⟨Nat.le_of_ble_eq_true rfl, Nat.le_of_ble_eq_true rfl⟩) hP hD hS hA [] rfl (fun _ => rfl) (fun r10 u10 H locs hw hP hD hS => ?_)
  have hP : va_P D vwCl (wM cI mo mor moi mok) H := hP
  have hD : va_D A (wM cI mo mor moi mok) := hD
  replace he := he.trans (xbd_some hw)
  by_cases g2 : r10 = 0 ∨ r10 = 1
  · replace he := he.trans (if_pos g2)
    exact hret r10 () _ _ _ _ dX7_isSet_13 g2 he hP hD hS
  exact absurd (he.trans (if_neg g2)) hne

def fX7_begin_now_L2 (mok_15 : Nat → Int32) (mok_16 : Nat → Int32) (k2 : Int32 → (Nat → Int32) → Option ((Nat → Int32))) : Nat → Int32 → (Nat → Int32) → Option ((Nat → Int32))
  | 0, _, _ => none
  | n2 + 1, v2_2, w2_mok_22 => if (6 : Int32) ≤ v2_2 then (k2 v2_2 w2_mok_22) else (if v2_2 < 0 ∨ 19 ≤ v2_2.toNatClampNeg then none else (if v2_2 < 0 ∨ 6 ≤ v2_2.toNatClampNeg then none else (if 0 ≤ (mok_15 v2_2.toNatClampNeg) then (if v2_2 < 0 ∨ 6 ≤ v2_2.toNatClampNeg then none else (if ((6 : Int32) + v2_2) < 0 ∨ 19 ≤ ((6 : Int32) + v2_2).toNatClampNeg then none else (if v2_2 < 0 ∨ 6 ≤ v2_2.toNatClampNeg then none else (if ((12 : Int32) + v2_2) < 0 ∨ 19 ≤ ((12 : Int32) + v2_2).toNatClampNeg then none else (fX7_begin_now_L2 mok_15 mok_16 k2 n2 (v2_2 + 1) (upd (upd (upd w2_mok_22 v2_2.toNatClampNeg v2_2) ((6 : Int32) + v2_2).toNatClampNeg (mok_15 v2_2.toNatClampNeg)) ((12 : Int32) + v2_2).toNatClampNeg (mok_16 v2_2.toNatClampNeg))))))) else (if ((6 : Int32) + v2_2) < 0 ∨ 19 ≤ ((6 : Int32) + v2_2).toNatClampNeg then none else (if v2_2 < 0 ∨ 6 ≤ v2_2.toNatClampNeg then none else (if ((12 : Int32) + v2_2) < 0 ∨ 19 ≤ ((12 : Int32) + v2_2).toNatClampNeg then none else (fX7_begin_now_L2 mok_15 mok_16 k2 n2 (v2_2 + 1) (upd (upd (upd w2_mok_22 v2_2.toNatClampNeg v2_2) ((6 : Int32) + v2_2).toNatClampNeg (0 : Int32)) ((12 : Int32) + v2_2).toNatClampNeg (mok_16 v2_2.toNatClampNeg)))))))))
def fX7_begin_now (F : Nat) (mok_15 : Nat → Int32) (mok_16 : Nat → Int32) (mok_22 : Nat → Int32) : Option ((Nat → Int32)) :=
  fX7_begin_now_L2 mok_15 mok_16 (fun (v2_2 : Int32) (w2_mok_22 : Nat → Int32) => some (upd w2_mok_22 (18 : Int32).toNatClampNeg (0 : Int32))) F (0 : Int32) mok_22
theorem hi_X7_begin_now_7 : ∀ w ∈ wsX70, w ∈ wsX7_begin := fun _ h => (List.mem_cons_of_mem _ (List.mem_append_right _ h))
set_option maxHeartbeats 4000000 in
set_option maxRecDepth 100000 in
theorem c_X7_begin_now (l : Launch) (D : va_G) (cI cP : ClassId) (sz : Nat) (mo : Nat) (mor : Nat → Nat) (moi : Nat → Int32) (mok : Nat → Nat → Int32) (F : Nat) (hne : fX7_begin_now F (mok 15) (mok 16) (mok 22) ≠ none) : xMv l yX7_begin wsX7_begin ({ frames := 0, cells := 0, slots := 0, locals := 0 } : Room) D (xT cI cP) [.ref mo, .ref (mor 22)] (wM cI mo mor moi mok) sz (fun (u : ((Nat → Int32))) => fX7_begin_now F (mok 15) (mok 16) (mok 22) = some u) (fun u => wM cI mo mor moi (va_up mok 22 u)) 0 0 := by
  refine xMv_of (cc := cX7_begin) (maxL := 3) (by decide +kernel) rfl (Nat.le_of_ble_eq_true rfl) ?_
  intro p e s m args below meth c A ls hx hb hml hown hts hname hN hK hA hP hD hS hl Q hret
  have he := fX7_begin_now.eq_1 F (mok 15) (mok 16) (mok 22)
  have hl : lv_has ls 3 [(0, .ref mo), (1, .ref (mor 22))] := hl
  refine lv_iconst (v := 0) hx hb dX7_begin_0 (by decide) ?_
  refine lv_istore_n (lv' := [(2, .int (0 : Int32)), (0, .ref mo), (1, .ref (mor 22))]) hx hb dX7_begin_1 rfl hl (by decide) rfl (fun ls hl => ?_)
  have L2 : ∀ (n2 : Nat) (v2_2 : Int32) (w2_mok_22 : Nat → Int32), fX7_begin_now F (mok 15) (mok 16) (mok 22) = fX7_begin_now_L2 (mok 15) (mok 16) (fun (v2_2 : Int32) (w2_mok_22 : Nat → Int32) => some (upd w2_mok_22 (18 : Int32).toNatClampNeg (0 : Int32))) n2 v2_2 w2_mok_22 → ∀ (H : Heap) (locs : List Loc) (ls : Array Slot), va_P D vwCl (wM cI mo mor moi (va_up mok 22 w2_mok_22)) H → va_D A (wM cI mo mor moi (va_up mok 22 w2_mok_22)) → va_S A s.heap H locs → lv_has ls 3 [(2, .int v2_2), (0, .ref mo), (1, .ref (mor 22))] → W p l e ({ frames := 0, cells := 0, slots := 0, locals := 0 } : Room) s m args below meth c H locs 0 0 Q (F0 m 2 ls []) := by
    intro n2
    induction n2 with
    | zero => intro v2_2 w2_mok_22 he; exact absurd he hne
    | succ n2 ih2 =>
      intro v2_2 w2_mok_22 he H locs ls hP hD hS hl
      replace he := he.trans (fX7_begin_now_L2.eq_2 _ _ _ _ _ _)
      refine lv_iload_n hx hb dX7_begin_2 rfl (lv_at hl 0 rfl) ?_
      refine lv_bipush (v := 6) hx hb dX7_begin_3 (by decide) ?_
      refine lv_icmp_ge (tgt := 55) hx hb dX7_begin_5 (by decide) (fun c1 => ?_) (fun c1 => ?_)
      · replace he := he.trans (if_pos c1)
        refine lv_aload_n hx hb dX7_begin_55 rfl (lv_at hl 2 rfl) ?_
        refine lv_bipush (v := 18) hx hb dX7_begin_56 (by decide) ?_
        refine lv_iconst (v := 0) hx hb dX7_begin_58 (by decide) ?_
        refine va_iast hx hb hK hP hD hS 11 0 rfl rfl (by decide) dX7_begin_59 (fun H locs hP hD hS => ?_)
        have hP : va_P D vwCl (wM cI mo mor moi (va_up mok 22 (upd w2_mok_22 (18 : Int32).toNatClampNeg (0 : Int32)))) H := hP
        have hD : va_D A (wM cI mo mor moi (va_up mok 22 (upd w2_mok_22 (18 : Int32).toNatClampNeg (0 : Int32)))) := hD
        exact hret (upd w2_mok_22 (18 : Int32).toNatClampNeg (0 : Int32)) _ _ _ _ dX7_begin_60 he hP hD hS
      · replace he := he.trans (if_neg c1)
        refine lv_aload_n hx hb dX7_begin_8 rfl (lv_at hl 2 rfl) ?_
        refine lv_iload_n hx hb dX7_begin_9 rfl (lv_at hl 0 rfl) ?_
        refine lv_iload_n hx hb dX7_begin_10 rfl (lv_at hl 0 rfl) ?_
        by_cases g2 : v2_2 < 0 ∨ 19 ≤ v2_2.toNatClampNeg
        · exact absurd (he.trans (if_pos g2)) hne
        replace he := he.trans (if_neg g2)
        refine va_iast hx hb hK hP hD hS 11 0 rfl rfl g2 dX7_begin_11 (fun H locs hP hD hS => ?_)
        have hP : va_P D vwCl (wM cI mo mor moi (va_up mok 22 (upd w2_mok_22 v2_2.toNatClampNeg v2_2))) H := hP
        have hD : va_D A (wM cI mo mor moi (va_up mok 22 (upd w2_mok_22 v2_2.toNatClampNeg v2_2))) := hD
        refine lv_aload_n hx hb dX7_begin_12 rfl (lv_at hl 2 rfl) ?_
        refine lv_bipush (v := 6) hx hb dX7_begin_13 (by decide) ?_
        refine lv_iload_n hx hb dX7_begin_15 rfl (lv_at hl 0 rfl) ?_
        refine lv_iadd hx hb dX7_begin_16 ?_
        refine lv_aload_n hx hb dX7_begin_17 rfl (lv_at hl 1 rfl) ?_
        refine va_get (D := D) (ci := 7) (v := .ref (mor 15)) (C := RX7) (T := TX7) (N := 35) hx hb hts hi_X7_begin_now_7 hown hK hP 0 rfl rfl 15 (by decide) (hts (.fieldLink RX7 31 "BlindLanternsModel" "oil" "[I") (List.mem_of_getElem? (i := 1) rfl)) (fun _ h9 => h9) rfl dX7_begin_18 ?_
        refine lv_iload_n hx hb dX7_begin_21 rfl (lv_at hl 0 rfl) ?_
        by_cases g3 : v2_2 < 0 ∨ 6 ≤ v2_2.toNatClampNeg
        · exact absurd (he.trans (if_pos g3)) hne
        replace he := he.trans (if_neg g3)
        refine va_iald hx hb hK hP 8 0 rfl rfl g3 dX7_begin_22 ?_
        refine lv_if_ge (tgt := 30) hx hb dX7_begin_23 (by decide) (fun c4 => ?_) (fun c4 => ?_)
        · replace he := he.trans (if_pos c4)
          refine lv_aload_n hx hb dX7_begin_30 rfl (lv_at hl 1 rfl) ?_
          refine va_get (D := D) (ci := 7) (v := .ref (mor 15)) (C := RX7) (T := TX7) (N := 35) hx hb hts hi_X7_begin_now_7 hown hK hP 0 rfl rfl 15 (by decide) (hts (.fieldLink RX7 31 "BlindLanternsModel" "oil" "[I") (List.mem_of_getElem? (i := 1) rfl)) (fun _ h9 => h9) rfl dX7_begin_31 ?_
          refine lv_iload_n hx hb dX7_begin_34 rfl (lv_at hl 0 rfl) ?_
          by_cases g5 : v2_2 < 0 ∨ 6 ≤ v2_2.toNatClampNeg
          · exact absurd (he.trans (if_pos g5)) hne
          replace he := he.trans (if_neg g5)
          refine va_iald hx hb hK hP 8 0 rfl rfl g5 dX7_begin_35 ?_
          by_cases g6 : ((6 : Int32) + v2_2) < 0 ∨ 19 ≤ ((6 : Int32) + v2_2).toNatClampNeg
          · exact absurd (he.trans (if_pos g6)) hne
          replace he := he.trans (if_neg g6)
          refine va_iast hx hb hK hP hD hS 11 0 rfl rfl g6 dX7_begin_36 (fun H locs hP hD hS => ?_)
          have hP : va_P D vwCl (wM cI mo mor moi (va_up mok 22 (upd (upd w2_mok_22 v2_2.toNatClampNeg v2_2) ((6 : Int32) + v2_2).toNatClampNeg ((mok 15) v2_2.toNatClampNeg)))) H := hP
          have hD : va_D A (wM cI mo mor moi (va_up mok 22 (upd (upd w2_mok_22 v2_2.toNatClampNeg v2_2) ((6 : Int32) + v2_2).toNatClampNeg ((mok 15) v2_2.toNatClampNeg)))) := hD
          refine lv_aload_n hx hb dX7_begin_37 rfl (lv_at hl 2 rfl) ?_
          refine lv_bipush (v := 12) hx hb dX7_begin_38 (by decide) ?_
          refine lv_iload_n hx hb dX7_begin_40 rfl (lv_at hl 0 rfl) ?_
          refine lv_iadd hx hb dX7_begin_41 ?_
          refine lv_aload_n hx hb dX7_begin_42 rfl (lv_at hl 1 rfl) ?_
          refine va_get (D := D) (ci := 7) (v := .ref (mor 16)) (C := RX7) (T := TX7) (N := 35) hx hb hts hi_X7_begin_now_7 hown hK hP 0 rfl rfl 16 (by decide) (hts (.fieldLink RX7 34 "BlindLanternsModel" "lit" "[I") (List.mem_of_getElem? (i := 2) rfl)) (fun _ h9 => h9) rfl dX7_begin_43 ?_
          refine lv_iload_n hx hb dX7_begin_46 rfl (lv_at hl 0 rfl) ?_
          by_cases g7 : v2_2 < 0 ∨ 6 ≤ v2_2.toNatClampNeg
          · exact absurd (he.trans (if_pos g7)) hne
          replace he := he.trans (if_neg g7)
          refine va_iald hx hb hK hP 9 0 rfl rfl g7 dX7_begin_47 ?_
          by_cases g8 : ((12 : Int32) + v2_2) < 0 ∨ 19 ≤ ((12 : Int32) + v2_2).toNatClampNeg
          · exact absurd (he.trans (if_pos g8)) hne
          replace he := he.trans (if_neg g8)
          refine va_iast hx hb hK hP hD hS 11 0 rfl rfl g8 dX7_begin_48 (fun H locs hP hD hS => ?_)
          have hP : va_P D vwCl (wM cI mo mor moi (va_up mok 22 (upd (upd (upd w2_mok_22 v2_2.toNatClampNeg v2_2) ((6 : Int32) + v2_2).toNatClampNeg ((mok 15) v2_2.toNatClampNeg)) ((12 : Int32) + v2_2).toNatClampNeg ((mok 16) v2_2.toNatClampNeg)))) H := hP
          have hD : va_D A (wM cI mo mor moi (va_up mok 22 (upd (upd (upd w2_mok_22 v2_2.toNatClampNeg v2_2) ((6 : Int32) + v2_2).toNatClampNeg ((mok 15) v2_2.toNatClampNeg)) ((12 : Int32) + v2_2).toNatClampNeg ((mok 16) v2_2.toNatClampNeg)))) := hD
          refine lv_iinc (v := (v2_2 + 1)) (lv' := [(2, .int (v2_2 + 1)), (0, .ref mo), (1, .ref (mor 22))]) hx hb dX7_begin_49 hl (k := 0) rfl rfl (by decide) rfl (fun ls hl => ?_)
          refine lv_goto (tgt := 2) hx hb dX7_begin_52 (by decide) ?_
          exact ih2 (v2_2 + 1) (upd (upd (upd w2_mok_22 v2_2.toNatClampNeg v2_2) ((6 : Int32) + v2_2).toNatClampNeg ((mok 15) v2_2.toNatClampNeg)) ((12 : Int32) + v2_2).toNatClampNeg ((mok 16) v2_2.toNatClampNeg)) he _ _ _ hP hD hS (lv_sub hl [0, 1, 2] rfl)
        · replace he := he.trans (if_neg c4)
          refine lv_iconst (v := 0) hx hb dX7_begin_26 (by decide) ?_
          refine lv_goto (tgt := 36) hx hb dX7_begin_27 (by decide) ?_
          by_cases g9 : ((6 : Int32) + v2_2) < 0 ∨ 19 ≤ ((6 : Int32) + v2_2).toNatClampNeg
          · exact absurd (he.trans (if_pos g9)) hne
          replace he := he.trans (if_neg g9)
          refine va_iast hx hb hK hP hD hS 11 0 rfl rfl g9 dX7_begin_36 (fun H locs hP hD hS => ?_)
          have hP : va_P D vwCl (wM cI mo mor moi (va_up mok 22 (upd (upd w2_mok_22 v2_2.toNatClampNeg v2_2) ((6 : Int32) + v2_2).toNatClampNeg (0 : Int32)))) H := hP
          have hD : va_D A (wM cI mo mor moi (va_up mok 22 (upd (upd w2_mok_22 v2_2.toNatClampNeg v2_2) ((6 : Int32) + v2_2).toNatClampNeg (0 : Int32)))) := hD
          refine lv_aload_n hx hb dX7_begin_37 rfl (lv_at hl 2 rfl) ?_
          refine lv_bipush (v := 12) hx hb dX7_begin_38 (by decide) ?_
          refine lv_iload_n hx hb dX7_begin_40 rfl (lv_at hl 0 rfl) ?_
          refine lv_iadd hx hb dX7_begin_41 ?_
          refine lv_aload_n hx hb dX7_begin_42 rfl (lv_at hl 1 rfl) ?_
          refine va_get (D := D) (ci := 7) (v := .ref (mor 16)) (C := RX7) (T := TX7) (N := 35) hx hb hts hi_X7_begin_now_7 hown hK hP 0 rfl rfl 16 (by decide) (hts (.fieldLink RX7 34 "BlindLanternsModel" "lit" "[I") (List.mem_of_getElem? (i := 2) rfl)) (fun _ h9 => h9) rfl dX7_begin_43 ?_
          refine lv_iload_n hx hb dX7_begin_46 rfl (lv_at hl 0 rfl) ?_
          by_cases g10 : v2_2 < 0 ∨ 6 ≤ v2_2.toNatClampNeg
          · exact absurd (he.trans (if_pos g10)) hne
          replace he := he.trans (if_neg g10)
          refine va_iald hx hb hK hP 9 0 rfl rfl g10 dX7_begin_47 ?_
          by_cases g11 : ((12 : Int32) + v2_2) < 0 ∨ 19 ≤ ((12 : Int32) + v2_2).toNatClampNeg
          · exact absurd (he.trans (if_pos g11)) hne
          replace he := he.trans (if_neg g11)
          refine va_iast hx hb hK hP hD hS 11 0 rfl rfl g11 dX7_begin_48 (fun H locs hP hD hS => ?_)
          have hP : va_P D vwCl (wM cI mo mor moi (va_up mok 22 (upd (upd (upd w2_mok_22 v2_2.toNatClampNeg v2_2) ((6 : Int32) + v2_2).toNatClampNeg (0 : Int32)) ((12 : Int32) + v2_2).toNatClampNeg ((mok 16) v2_2.toNatClampNeg)))) H := hP
          have hD : va_D A (wM cI mo mor moi (va_up mok 22 (upd (upd (upd w2_mok_22 v2_2.toNatClampNeg v2_2) ((6 : Int32) + v2_2).toNatClampNeg (0 : Int32)) ((12 : Int32) + v2_2).toNatClampNeg ((mok 16) v2_2.toNatClampNeg)))) := hD
          refine lv_iinc (v := (v2_2 + 1)) (lv' := [(2, .int (v2_2 + 1)), (0, .ref mo), (1, .ref (mor 22))]) hx hb dX7_begin_49 hl (k := 0) rfl rfl (by decide) rfl (fun ls hl => ?_)
          refine lv_goto (tgt := 2) hx hb dX7_begin_52 (by decide) ?_
          exact ih2 (v2_2 + 1) (upd (upd (upd w2_mok_22 v2_2.toNatClampNeg v2_2) ((6 : Int32) + v2_2).toNatClampNeg (0 : Int32)) ((12 : Int32) + v2_2).toNatClampNeg ((mok 16) v2_2.toNatClampNeg)) he _ _ _ hP hD hS (lv_sub hl [0, 1, 2] rfl)
  exact L2 F (0 : Int32) (mok 22) he _ _ _ hP hD hS (lv_sub hl [0, 1, 2] rfl)

def fX7_begin_tried_L2 (mok_15 : Nat → Int32) (mok_16 : Nat → Int32) (k2 : Int32 → (Nat → Int32) → Option ((Nat → Int32))) : Nat → Int32 → (Nat → Int32) → Option ((Nat → Int32))
  | 0, _, _ => none
  | n2 + 1, v2_2, w2_mok_23 => if (6 : Int32) ≤ v2_2 then (k2 v2_2 w2_mok_23) else (if v2_2 < 0 ∨ 19 ≤ v2_2.toNatClampNeg then none else (if v2_2 < 0 ∨ 6 ≤ v2_2.toNatClampNeg then none else (if 0 ≤ (mok_15 v2_2.toNatClampNeg) then (if v2_2 < 0 ∨ 6 ≤ v2_2.toNatClampNeg then none else (if ((6 : Int32) + v2_2) < 0 ∨ 19 ≤ ((6 : Int32) + v2_2).toNatClampNeg then none else (if v2_2 < 0 ∨ 6 ≤ v2_2.toNatClampNeg then none else (if ((12 : Int32) + v2_2) < 0 ∨ 19 ≤ ((12 : Int32) + v2_2).toNatClampNeg then none else (fX7_begin_tried_L2 mok_15 mok_16 k2 n2 (v2_2 + 1) (upd (upd (upd w2_mok_23 v2_2.toNatClampNeg v2_2) ((6 : Int32) + v2_2).toNatClampNeg (mok_15 v2_2.toNatClampNeg)) ((12 : Int32) + v2_2).toNatClampNeg (mok_16 v2_2.toNatClampNeg))))))) else (if ((6 : Int32) + v2_2) < 0 ∨ 19 ≤ ((6 : Int32) + v2_2).toNatClampNeg then none else (if v2_2 < 0 ∨ 6 ≤ v2_2.toNatClampNeg then none else (if ((12 : Int32) + v2_2) < 0 ∨ 19 ≤ ((12 : Int32) + v2_2).toNatClampNeg then none else (fX7_begin_tried_L2 mok_15 mok_16 k2 n2 (v2_2 + 1) (upd (upd (upd w2_mok_23 v2_2.toNatClampNeg v2_2) ((6 : Int32) + v2_2).toNatClampNeg (0 : Int32)) ((12 : Int32) + v2_2).toNatClampNeg (mok_16 v2_2.toNatClampNeg)))))))))
def fX7_begin_tried (F : Nat) (mok_15 : Nat → Int32) (mok_16 : Nat → Int32) (mok_23 : Nat → Int32) : Option ((Nat → Int32)) :=
  fX7_begin_tried_L2 mok_15 mok_16 (fun (v2_2 : Int32) (w2_mok_23 : Nat → Int32) => some (upd w2_mok_23 (18 : Int32).toNatClampNeg (0 : Int32))) F (0 : Int32) mok_23
theorem hi_X7_begin_tried_7 : ∀ w ∈ wsX70, w ∈ wsX7_begin := fun _ h => (List.mem_cons_of_mem _ (List.mem_append_right _ h))
set_option maxHeartbeats 4000000 in
set_option maxRecDepth 100000 in
theorem c_X7_begin_tried (l : Launch) (D : va_G) (cI cP : ClassId) (sz : Nat) (mo : Nat) (mor : Nat → Nat) (moi : Nat → Int32) (mok : Nat → Nat → Int32) (F : Nat) (hne : fX7_begin_tried F (mok 15) (mok 16) (mok 23) ≠ none) : xMv l yX7_begin wsX7_begin ({ frames := 0, cells := 0, slots := 0, locals := 0 } : Room) D (xT cI cP) [.ref mo, .ref (mor 23)] (wM cI mo mor moi mok) sz (fun (u : ((Nat → Int32))) => fX7_begin_tried F (mok 15) (mok 16) (mok 23) = some u) (fun u => wM cI mo mor moi (va_up mok 23 u)) 0 0 := by
  refine xMv_of (cc := cX7_begin) (maxL := 3) (by decide +kernel) rfl (Nat.le_of_ble_eq_true rfl) ?_
  intro p e s m args below meth c A ls hx hb hml hown hts hname hN hK hA hP hD hS hl Q hret
  have he := fX7_begin_tried.eq_1 F (mok 15) (mok 16) (mok 23)
  have hl : lv_has ls 3 [(0, .ref mo), (1, .ref (mor 23))] := hl
  refine lv_iconst (v := 0) hx hb dX7_begin_0 (by decide) ?_
  refine lv_istore_n (lv' := [(2, .int (0 : Int32)), (0, .ref mo), (1, .ref (mor 23))]) hx hb dX7_begin_1 rfl hl (by decide) rfl (fun ls hl => ?_)
  have L2 : ∀ (n2 : Nat) (v2_2 : Int32) (w2_mok_23 : Nat → Int32), fX7_begin_tried F (mok 15) (mok 16) (mok 23) = fX7_begin_tried_L2 (mok 15) (mok 16) (fun (v2_2 : Int32) (w2_mok_23 : Nat → Int32) => some (upd w2_mok_23 (18 : Int32).toNatClampNeg (0 : Int32))) n2 v2_2 w2_mok_23 → ∀ (H : Heap) (locs : List Loc) (ls : Array Slot), va_P D vwCl (wM cI mo mor moi (va_up mok 23 w2_mok_23)) H → va_D A (wM cI mo mor moi (va_up mok 23 w2_mok_23)) → va_S A s.heap H locs → lv_has ls 3 [(2, .int v2_2), (0, .ref mo), (1, .ref (mor 23))] → W p l e ({ frames := 0, cells := 0, slots := 0, locals := 0 } : Room) s m args below meth c H locs 0 0 Q (F0 m 2 ls []) := by
    intro n2
    induction n2 with
    | zero => intro v2_2 w2_mok_23 he; exact absurd he hne
    | succ n2 ih2 =>
      intro v2_2 w2_mok_23 he H locs ls hP hD hS hl
      replace he := he.trans (fX7_begin_tried_L2.eq_2 _ _ _ _ _ _)
      refine lv_iload_n hx hb dX7_begin_2 rfl (lv_at hl 0 rfl) ?_
      refine lv_bipush (v := 6) hx hb dX7_begin_3 (by decide) ?_
      refine lv_icmp_ge (tgt := 55) hx hb dX7_begin_5 (by decide) (fun c1 => ?_) (fun c1 => ?_)
      · replace he := he.trans (if_pos c1)
        refine lv_aload_n hx hb dX7_begin_55 rfl (lv_at hl 2 rfl) ?_
        refine lv_bipush (v := 18) hx hb dX7_begin_56 (by decide) ?_
        refine lv_iconst (v := 0) hx hb dX7_begin_58 (by decide) ?_
        refine va_iast hx hb hK hP hD hS 12 0 rfl rfl (by decide) dX7_begin_59 (fun H locs hP hD hS => ?_)
        have hP : va_P D vwCl (wM cI mo mor moi (va_up mok 23 (upd w2_mok_23 (18 : Int32).toNatClampNeg (0 : Int32)))) H := hP
        have hD : va_D A (wM cI mo mor moi (va_up mok 23 (upd w2_mok_23 (18 : Int32).toNatClampNeg (0 : Int32)))) := hD
        exact hret (upd w2_mok_23 (18 : Int32).toNatClampNeg (0 : Int32)) _ _ _ _ dX7_begin_60 he hP hD hS
      · replace he := he.trans (if_neg c1)
        refine lv_aload_n hx hb dX7_begin_8 rfl (lv_at hl 2 rfl) ?_
        refine lv_iload_n hx hb dX7_begin_9 rfl (lv_at hl 0 rfl) ?_
        refine lv_iload_n hx hb dX7_begin_10 rfl (lv_at hl 0 rfl) ?_
        by_cases g2 : v2_2 < 0 ∨ 19 ≤ v2_2.toNatClampNeg
        · exact absurd (he.trans (if_pos g2)) hne
        replace he := he.trans (if_neg g2)
        refine va_iast hx hb hK hP hD hS 12 0 rfl rfl g2 dX7_begin_11 (fun H locs hP hD hS => ?_)
        have hP : va_P D vwCl (wM cI mo mor moi (va_up mok 23 (upd w2_mok_23 v2_2.toNatClampNeg v2_2))) H := hP
        have hD : va_D A (wM cI mo mor moi (va_up mok 23 (upd w2_mok_23 v2_2.toNatClampNeg v2_2))) := hD
        refine lv_aload_n hx hb dX7_begin_12 rfl (lv_at hl 2 rfl) ?_
        refine lv_bipush (v := 6) hx hb dX7_begin_13 (by decide) ?_
        refine lv_iload_n hx hb dX7_begin_15 rfl (lv_at hl 0 rfl) ?_
        refine lv_iadd hx hb dX7_begin_16 ?_
        refine lv_aload_n hx hb dX7_begin_17 rfl (lv_at hl 1 rfl) ?_
        refine va_get (D := D) (ci := 7) (v := .ref (mor 15)) (C := RX7) (T := TX7) (N := 35) hx hb hts hi_X7_begin_tried_7 hown hK hP 0 rfl rfl 15 (by decide) (hts (.fieldLink RX7 31 "BlindLanternsModel" "oil" "[I") (List.mem_of_getElem? (i := 1) rfl)) (fun _ h9 => h9) rfl dX7_begin_18 ?_
        refine lv_iload_n hx hb dX7_begin_21 rfl (lv_at hl 0 rfl) ?_
        by_cases g3 : v2_2 < 0 ∨ 6 ≤ v2_2.toNatClampNeg
        · exact absurd (he.trans (if_pos g3)) hne
        replace he := he.trans (if_neg g3)
        refine va_iald hx hb hK hP 8 0 rfl rfl g3 dX7_begin_22 ?_
        refine lv_if_ge (tgt := 30) hx hb dX7_begin_23 (by decide) (fun c4 => ?_) (fun c4 => ?_)
        · replace he := he.trans (if_pos c4)
          refine lv_aload_n hx hb dX7_begin_30 rfl (lv_at hl 1 rfl) ?_
          refine va_get (D := D) (ci := 7) (v := .ref (mor 15)) (C := RX7) (T := TX7) (N := 35) hx hb hts hi_X7_begin_tried_7 hown hK hP 0 rfl rfl 15 (by decide) (hts (.fieldLink RX7 31 "BlindLanternsModel" "oil" "[I") (List.mem_of_getElem? (i := 1) rfl)) (fun _ h9 => h9) rfl dX7_begin_31 ?_
          refine lv_iload_n hx hb dX7_begin_34 rfl (lv_at hl 0 rfl) ?_
          by_cases g5 : v2_2 < 0 ∨ 6 ≤ v2_2.toNatClampNeg
          · exact absurd (he.trans (if_pos g5)) hne
          replace he := he.trans (if_neg g5)
          refine va_iald hx hb hK hP 8 0 rfl rfl g5 dX7_begin_35 ?_
          by_cases g6 : ((6 : Int32) + v2_2) < 0 ∨ 19 ≤ ((6 : Int32) + v2_2).toNatClampNeg
          · exact absurd (he.trans (if_pos g6)) hne
          replace he := he.trans (if_neg g6)
          refine va_iast hx hb hK hP hD hS 12 0 rfl rfl g6 dX7_begin_36 (fun H locs hP hD hS => ?_)
          have hP : va_P D vwCl (wM cI mo mor moi (va_up mok 23 (upd (upd w2_mok_23 v2_2.toNatClampNeg v2_2) ((6 : Int32) + v2_2).toNatClampNeg ((mok 15) v2_2.toNatClampNeg)))) H := hP
          have hD : va_D A (wM cI mo mor moi (va_up mok 23 (upd (upd w2_mok_23 v2_2.toNatClampNeg v2_2) ((6 : Int32) + v2_2).toNatClampNeg ((mok 15) v2_2.toNatClampNeg)))) := hD
          refine lv_aload_n hx hb dX7_begin_37 rfl (lv_at hl 2 rfl) ?_
          refine lv_bipush (v := 12) hx hb dX7_begin_38 (by decide) ?_
          refine lv_iload_n hx hb dX7_begin_40 rfl (lv_at hl 0 rfl) ?_
          refine lv_iadd hx hb dX7_begin_41 ?_
          refine lv_aload_n hx hb dX7_begin_42 rfl (lv_at hl 1 rfl) ?_
          refine va_get (D := D) (ci := 7) (v := .ref (mor 16)) (C := RX7) (T := TX7) (N := 35) hx hb hts hi_X7_begin_tried_7 hown hK hP 0 rfl rfl 16 (by decide) (hts (.fieldLink RX7 34 "BlindLanternsModel" "lit" "[I") (List.mem_of_getElem? (i := 2) rfl)) (fun _ h9 => h9) rfl dX7_begin_43 ?_
          refine lv_iload_n hx hb dX7_begin_46 rfl (lv_at hl 0 rfl) ?_
          by_cases g7 : v2_2 < 0 ∨ 6 ≤ v2_2.toNatClampNeg
          · exact absurd (he.trans (if_pos g7)) hne
          replace he := he.trans (if_neg g7)
          refine va_iald hx hb hK hP 9 0 rfl rfl g7 dX7_begin_47 ?_
          by_cases g8 : ((12 : Int32) + v2_2) < 0 ∨ 19 ≤ ((12 : Int32) + v2_2).toNatClampNeg
          · exact absurd (he.trans (if_pos g8)) hne
          replace he := he.trans (if_neg g8)
          refine va_iast hx hb hK hP hD hS 12 0 rfl rfl g8 dX7_begin_48 (fun H locs hP hD hS => ?_)
          have hP : va_P D vwCl (wM cI mo mor moi (va_up mok 23 (upd (upd (upd w2_mok_23 v2_2.toNatClampNeg v2_2) ((6 : Int32) + v2_2).toNatClampNeg ((mok 15) v2_2.toNatClampNeg)) ((12 : Int32) + v2_2).toNatClampNeg ((mok 16) v2_2.toNatClampNeg)))) H := hP
          have hD : va_D A (wM cI mo mor moi (va_up mok 23 (upd (upd (upd w2_mok_23 v2_2.toNatClampNeg v2_2) ((6 : Int32) + v2_2).toNatClampNeg ((mok 15) v2_2.toNatClampNeg)) ((12 : Int32) + v2_2).toNatClampNeg ((mok 16) v2_2.toNatClampNeg)))) := hD
          refine lv_iinc (v := (v2_2 + 1)) (lv' := [(2, .int (v2_2 + 1)), (0, .ref mo), (1, .ref (mor 23))]) hx hb dX7_begin_49 hl (k := 0) rfl rfl (by decide) rfl (fun ls hl => ?_)
          refine lv_goto (tgt := 2) hx hb dX7_begin_52 (by decide) ?_
          exact ih2 (v2_2 + 1) (upd (upd (upd w2_mok_23 v2_2.toNatClampNeg v2_2) ((6 : Int32) + v2_2).toNatClampNeg ((mok 15) v2_2.toNatClampNeg)) ((12 : Int32) + v2_2).toNatClampNeg ((mok 16) v2_2.toNatClampNeg)) he _ _ _ hP hD hS (lv_sub hl [0, 1, 2] rfl)
        · replace he := he.trans (if_neg c4)
          refine lv_iconst (v := 0) hx hb dX7_begin_26 (by decide) ?_
          refine lv_goto (tgt := 36) hx hb dX7_begin_27 (by decide) ?_
          by_cases g9 : ((6 : Int32) + v2_2) < 0 ∨ 19 ≤ ((6 : Int32) + v2_2).toNatClampNeg
          · exact absurd (he.trans (if_pos g9)) hne
          replace he := he.trans (if_neg g9)
          refine va_iast hx hb hK hP hD hS 12 0 rfl rfl g9 dX7_begin_36 (fun H locs hP hD hS => ?_)
          have hP : va_P D vwCl (wM cI mo mor moi (va_up mok 23 (upd (upd w2_mok_23 v2_2.toNatClampNeg v2_2) ((6 : Int32) + v2_2).toNatClampNeg (0 : Int32)))) H := hP
          have hD : va_D A (wM cI mo mor moi (va_up mok 23 (upd (upd w2_mok_23 v2_2.toNatClampNeg v2_2) ((6 : Int32) + v2_2).toNatClampNeg (0 : Int32)))) := hD
          refine lv_aload_n hx hb dX7_begin_37 rfl (lv_at hl 2 rfl) ?_
          refine lv_bipush (v := 12) hx hb dX7_begin_38 (by decide) ?_
          refine lv_iload_n hx hb dX7_begin_40 rfl (lv_at hl 0 rfl) ?_
          refine lv_iadd hx hb dX7_begin_41 ?_
          refine lv_aload_n hx hb dX7_begin_42 rfl (lv_at hl 1 rfl) ?_
          refine va_get (D := D) (ci := 7) (v := .ref (mor 16)) (C := RX7) (T := TX7) (N := 35) hx hb hts hi_X7_begin_tried_7 hown hK hP 0 rfl rfl 16 (by decide) (hts (.fieldLink RX7 34 "BlindLanternsModel" "lit" "[I") (List.mem_of_getElem? (i := 2) rfl)) (fun _ h9 => h9) rfl dX7_begin_43 ?_
          refine lv_iload_n hx hb dX7_begin_46 rfl (lv_at hl 0 rfl) ?_
          by_cases g10 : v2_2 < 0 ∨ 6 ≤ v2_2.toNatClampNeg
          · exact absurd (he.trans (if_pos g10)) hne
          replace he := he.trans (if_neg g10)
          refine va_iald hx hb hK hP 9 0 rfl rfl g10 dX7_begin_47 ?_
          by_cases g11 : ((12 : Int32) + v2_2) < 0 ∨ 19 ≤ ((12 : Int32) + v2_2).toNatClampNeg
          · exact absurd (he.trans (if_pos g11)) hne
          replace he := he.trans (if_neg g11)
          refine va_iast hx hb hK hP hD hS 12 0 rfl rfl g11 dX7_begin_48 (fun H locs hP hD hS => ?_)
          have hP : va_P D vwCl (wM cI mo mor moi (va_up mok 23 (upd (upd (upd w2_mok_23 v2_2.toNatClampNeg v2_2) ((6 : Int32) + v2_2).toNatClampNeg (0 : Int32)) ((12 : Int32) + v2_2).toNatClampNeg ((mok 16) v2_2.toNatClampNeg)))) H := hP
          have hD : va_D A (wM cI mo mor moi (va_up mok 23 (upd (upd (upd w2_mok_23 v2_2.toNatClampNeg v2_2) ((6 : Int32) + v2_2).toNatClampNeg (0 : Int32)) ((12 : Int32) + v2_2).toNatClampNeg ((mok 16) v2_2.toNatClampNeg)))) := hD
          refine lv_iinc (v := (v2_2 + 1)) (lv' := [(2, .int (v2_2 + 1)), (0, .ref mo), (1, .ref (mor 23))]) hx hb dX7_begin_49 hl (k := 0) rfl rfl (by decide) rfl (fun ls hl => ?_)
          refine lv_goto (tgt := 2) hx hb dX7_begin_52 (by decide) ?_
          exact ih2 (v2_2 + 1) (upd (upd (upd w2_mok_23 v2_2.toNatClampNeg v2_2) ((6 : Int32) + v2_2).toNatClampNeg (0 : Int32)) ((12 : Int32) + v2_2).toNatClampNeg ((mok 16) v2_2.toNatClampNeg)) he _ _ _ hP hD hS (lv_sub hl [0, 1, 2] rfl)
  exact L2 F (0 : Int32) (mok 23) he _ _ _ hP hD hS (lv_sub hl [0, 1, 2] rfl)

def fX7_copy_now_tried_L3 (mok_22 : Nat → Int32) (a2 : Int32) (a4 : Int32) (k3 : Int32 → (Nat → Int32) → Option ((Nat → Int32))) : Nat → Int32 → (Nat → Int32) → Option ((Nat → Int32))
  | 0, _, _ => none
  | n3 + 1, v3_4, w3_mok_23 => if (19 : Int32) ≤ v3_4 then (k3 v3_4 w3_mok_23) else (if (a2 + v3_4) < 0 ∨ 19 ≤ (a2 + v3_4).toNatClampNeg then none else (if (a4 + v3_4) < 0 ∨ 19 ≤ (a4 + v3_4).toNatClampNeg then none else (fX7_copy_now_tried_L3 mok_22 a2 a4 k3 n3 (v3_4 + 1) (upd w3_mok_23 (a4 + v3_4).toNatClampNeg (mok_22 (a2 + v3_4).toNatClampNeg)))))
def fX7_copy_now_tried (F : Nat) (mok_22 : Nat → Int32) (mok_23 : Nat → Int32) (a2 : Int32) (a4 : Int32) : Option ((Nat → Int32)) :=
  fX7_copy_now_tried_L3 mok_22 a2 a4 (fun (v3_4 : Int32) (w3_mok_23 : Nat → Int32) => some w3_mok_23) F (0 : Int32) mok_23
set_option maxHeartbeats 4000000 in
set_option maxRecDepth 100000 in
theorem c_X7_copy_now_tried (l : Launch) (D : va_G) (cI cP : ClassId) (sz : Nat) (mo : Nat) (mor : Nat → Nat) (moi : Nat → Int32) (mok : Nat → Nat → Int32) (F : Nat) (a2 : Int32) (a4 : Int32) (hne : fX7_copy_now_tried F (mok 22) (mok 23) a2 a4 ≠ none) : xMv l yX7_copy wsX7_copy ({ frames := 0, cells := 0, slots := 0, locals := 0 } : Room) D (xT cI cP) [.ref (mor 22), .int a2, .ref (mor 23), .int a4] (wM cI mo mor moi mok) sz (fun (u : ((Nat → Int32))) => fX7_copy_now_tried F (mok 22) (mok 23) a2 a4 = some u) (fun u => wM cI mo mor moi (va_up mok 23 u)) 0 0 := by
  refine xMv_of (cc := cX7_copy) (maxL := 5) (by decide +kernel) rfl (Nat.le_of_ble_eq_true rfl) ?_
  intro p e s m args below meth c A ls hx hb hml hown hts hname hN hK hA hP hD hS hl Q hret
  have he := fX7_copy_now_tried.eq_1 F (mok 22) (mok 23) a2 a4
  have hl : lv_has ls 5 [(0, .ref (mor 22)), (1, .int a2), (2, .ref (mor 23)), (3, .int a4)] := hl
  refine lv_iconst (v := 0) hx hb dX7_copy_0 (by decide) ?_
  refine lv_istore (lv' := [(4, .int (0 : Int32)), (0, .ref (mor 22)), (1, .int a2), (2, .ref (mor 23)), (3, .int a4)]) hx hb dX7_copy_1 hl (by decide) rfl (fun ls hl => ?_)
  have L3 : ∀ (n3 : Nat) (v3_4 : Int32) (w3_mok_23 : Nat → Int32), fX7_copy_now_tried F (mok 22) (mok 23) a2 a4 = fX7_copy_now_tried_L3 (mok 22) a2 a4 (fun (v3_4 : Int32) (w3_mok_23 : Nat → Int32) => some w3_mok_23) n3 v3_4 w3_mok_23 → ∀ (H : Heap) (locs : List Loc) (ls : Array Slot), va_P D vwCl (wM cI mo mor moi (va_up mok 23 w3_mok_23)) H → va_D A (wM cI mo mor moi (va_up mok 23 w3_mok_23)) → va_S A s.heap H locs → lv_has ls 5 [(4, .int v3_4), (0, .ref (mor 22)), (1, .int a2), (2, .ref (mor 23)), (3, .int a4)] → W p l e ({ frames := 0, cells := 0, slots := 0, locals := 0 } : Room) s m args below meth c H locs 0 0 Q (F0 m 3 ls []) := by
    intro n3
    induction n3 with
    | zero => intro v3_4 w3_mok_23 he; exact absurd he hne
    | succ n3 ih3 =>
      intro v3_4 w3_mok_23 he H locs ls hP hD hS hl
      replace he := he.trans (fX7_copy_now_tried_L3.eq_2 _ _ _ _ _ _ _)
      refine lv_iload hx hb dX7_copy_3 (lv_at hl 0 rfl) ?_
      refine lv_bipush (v := 19) hx hb dX7_copy_5 (by decide) ?_
      refine lv_icmp_ge (tgt := 28) hx hb dX7_copy_7 (by decide) (fun c1 => ?_) (fun c1 => ?_)
      · replace he := he.trans (if_pos c1)
        exact hret w3_mok_23 _ _ _ _ dX7_copy_28 he hP hD hS
      · replace he := he.trans (if_neg c1)
        refine lv_aload_n hx hb dX7_copy_10 rfl (lv_at hl 3 rfl) ?_
        refine lv_iload_n hx hb dX7_copy_11 rfl (lv_at hl 4 rfl) ?_
        refine lv_iload hx hb dX7_copy_12 (lv_at hl 0 rfl) ?_
        refine lv_iadd hx hb dX7_copy_14 ?_
        refine lv_aload_n hx hb dX7_copy_15 rfl (lv_at hl 1 rfl) ?_
        refine lv_iload_n hx hb dX7_copy_16 rfl (lv_at hl 2 rfl) ?_
        refine lv_iload hx hb dX7_copy_17 (lv_at hl 0 rfl) ?_
        refine lv_iadd hx hb dX7_copy_19 ?_
        by_cases g2 : (a2 + v3_4) < 0 ∨ 19 ≤ (a2 + v3_4).toNatClampNeg
        · exact absurd (he.trans (if_pos g2)) hne
        replace he := he.trans (if_neg g2)
        refine va_iald hx hb hK hP 11 0 rfl rfl g2 dX7_copy_20 ?_
        by_cases g3 : (a4 + v3_4) < 0 ∨ 19 ≤ (a4 + v3_4).toNatClampNeg
        · exact absurd (he.trans (if_pos g3)) hne
        replace he := he.trans (if_neg g3)
        refine va_iast hx hb hK hP hD hS 12 0 rfl rfl g3 dX7_copy_21 (fun H locs hP hD hS => ?_)
        have hP : va_P D vwCl (wM cI mo mor moi (va_up mok 23 (upd w3_mok_23 (a4 + v3_4).toNatClampNeg ((mok 22) (a2 + v3_4).toNatClampNeg)))) H := hP
        have hD : va_D A (wM cI mo mor moi (va_up mok 23 (upd w3_mok_23 (a4 + v3_4).toNatClampNeg ((mok 22) (a2 + v3_4).toNatClampNeg)))) := hD
        refine lv_iinc (v := (v3_4 + 1)) (lv' := [(4, .int (v3_4 + 1)), (0, .ref (mor 22)), (1, .int a2), (2, .ref (mor 23)), (3, .int a4)]) hx hb dX7_copy_22 hl (k := 0) rfl rfl (by decide) rfl (fun ls hl => ?_)
        refine lv_goto (tgt := 3) hx hb dX7_copy_25 (by decide) ?_
        exact ih3 (v3_4 + 1) (upd w3_mok_23 (a4 + v3_4).toNatClampNeg ((mok 22) (a2 + v3_4).toNatClampNeg)) he _ _ _ hP hD hS (lv_sub hl [0, 1, 2, 3, 4] rfl)
  exact L3 F (0 : Int32) (mok 23) he _ _ _ hP hD hS (lv_sub hl [0, 1, 2, 3, 4] rfl)

def fX7_copy_now_back_L3 (mok_22 : Nat → Int32) (a2 : Int32) (a4 : Int32) (k3 : Int32 → (Nat → Int32) → Option ((Nat → Int32))) : Nat → Int32 → (Nat → Int32) → Option ((Nat → Int32))
  | 0, _, _ => none
  | n3 + 1, v3_4, w3_mok_25 => if (19 : Int32) ≤ v3_4 then (k3 v3_4 w3_mok_25) else (if (a2 + v3_4) < 0 ∨ 19 ≤ (a2 + v3_4).toNatClampNeg then none else (if (a4 + v3_4) < 0 ∨ 152 ≤ (a4 + v3_4).toNatClampNeg then none else (fX7_copy_now_back_L3 mok_22 a2 a4 k3 n3 (v3_4 + 1) (upd w3_mok_25 (a4 + v3_4).toNatClampNeg (mok_22 (a2 + v3_4).toNatClampNeg)))))
def fX7_copy_now_back (F : Nat) (mok_22 : Nat → Int32) (mok_25 : Nat → Int32) (a2 : Int32) (a4 : Int32) : Option ((Nat → Int32)) :=
  fX7_copy_now_back_L3 mok_22 a2 a4 (fun (v3_4 : Int32) (w3_mok_25 : Nat → Int32) => some w3_mok_25) F (0 : Int32) mok_25
set_option maxHeartbeats 4000000 in
set_option maxRecDepth 100000 in
theorem c_X7_copy_now_back (l : Launch) (D : va_G) (cI cP : ClassId) (sz : Nat) (mo : Nat) (mor : Nat → Nat) (moi : Nat → Int32) (mok : Nat → Nat → Int32) (F : Nat) (a2 : Int32) (a4 : Int32) (hne : fX7_copy_now_back F (mok 22) (mok 25) a2 a4 ≠ none) : xMv l yX7_copy wsX7_copy ({ frames := 0, cells := 0, slots := 0, locals := 0 } : Room) D (xT cI cP) [.ref (mor 22), .int a2, .ref (mor 25), .int a4] (wM cI mo mor moi mok) sz (fun (u : ((Nat → Int32))) => fX7_copy_now_back F (mok 22) (mok 25) a2 a4 = some u) (fun u => wM cI mo mor moi (va_up mok 25 u)) 0 0 := by
  refine xMv_of (cc := cX7_copy) (maxL := 5) (by decide +kernel) rfl (Nat.le_of_ble_eq_true rfl) ?_
  intro p e s m args below meth c A ls hx hb hml hown hts hname hN hK hA hP hD hS hl Q hret
  have he := fX7_copy_now_back.eq_1 F (mok 22) (mok 25) a2 a4
  have hl : lv_has ls 5 [(0, .ref (mor 22)), (1, .int a2), (2, .ref (mor 25)), (3, .int a4)] := hl
  refine lv_iconst (v := 0) hx hb dX7_copy_0 (by decide) ?_
  refine lv_istore (lv' := [(4, .int (0 : Int32)), (0, .ref (mor 22)), (1, .int a2), (2, .ref (mor 25)), (3, .int a4)]) hx hb dX7_copy_1 hl (by decide) rfl (fun ls hl => ?_)
  have L3 : ∀ (n3 : Nat) (v3_4 : Int32) (w3_mok_25 : Nat → Int32), fX7_copy_now_back F (mok 22) (mok 25) a2 a4 = fX7_copy_now_back_L3 (mok 22) a2 a4 (fun (v3_4 : Int32) (w3_mok_25 : Nat → Int32) => some w3_mok_25) n3 v3_4 w3_mok_25 → ∀ (H : Heap) (locs : List Loc) (ls : Array Slot), va_P D vwCl (wM cI mo mor moi (va_up mok 25 w3_mok_25)) H → va_D A (wM cI mo mor moi (va_up mok 25 w3_mok_25)) → va_S A s.heap H locs → lv_has ls 5 [(4, .int v3_4), (0, .ref (mor 22)), (1, .int a2), (2, .ref (mor 25)), (3, .int a4)] → W p l e ({ frames := 0, cells := 0, slots := 0, locals := 0 } : Room) s m args below meth c H locs 0 0 Q (F0 m 3 ls []) := by
    intro n3
    induction n3 with
    | zero => intro v3_4 w3_mok_25 he; exact absurd he hne
    | succ n3 ih3 =>
      intro v3_4 w3_mok_25 he H locs ls hP hD hS hl
      replace he := he.trans (fX7_copy_now_back_L3.eq_2 _ _ _ _ _ _ _)
      refine lv_iload hx hb dX7_copy_3 (lv_at hl 0 rfl) ?_
      refine lv_bipush (v := 19) hx hb dX7_copy_5 (by decide) ?_
      refine lv_icmp_ge (tgt := 28) hx hb dX7_copy_7 (by decide) (fun c1 => ?_) (fun c1 => ?_)
      · replace he := he.trans (if_pos c1)
        exact hret w3_mok_25 _ _ _ _ dX7_copy_28 he hP hD hS
      · replace he := he.trans (if_neg c1)
        refine lv_aload_n hx hb dX7_copy_10 rfl (lv_at hl 3 rfl) ?_
        refine lv_iload_n hx hb dX7_copy_11 rfl (lv_at hl 4 rfl) ?_
        refine lv_iload hx hb dX7_copy_12 (lv_at hl 0 rfl) ?_
        refine lv_iadd hx hb dX7_copy_14 ?_
        refine lv_aload_n hx hb dX7_copy_15 rfl (lv_at hl 1 rfl) ?_
        refine lv_iload_n hx hb dX7_copy_16 rfl (lv_at hl 2 rfl) ?_
        refine lv_iload hx hb dX7_copy_17 (lv_at hl 0 rfl) ?_
        refine lv_iadd hx hb dX7_copy_19 ?_
        by_cases g2 : (a2 + v3_4) < 0 ∨ 19 ≤ (a2 + v3_4).toNatClampNeg
        · exact absurd (he.trans (if_pos g2)) hne
        replace he := he.trans (if_neg g2)
        refine va_iald hx hb hK hP 11 0 rfl rfl g2 dX7_copy_20 ?_
        by_cases g3 : (a4 + v3_4) < 0 ∨ 152 ≤ (a4 + v3_4).toNatClampNeg
        · exact absurd (he.trans (if_pos g3)) hne
        replace he := he.trans (if_neg g3)
        refine va_iast hx hb hK hP hD hS 13 0 rfl rfl g3 dX7_copy_21 (fun H locs hP hD hS => ?_)
        have hP : va_P D vwCl (wM cI mo mor moi (va_up mok 25 (upd w3_mok_25 (a4 + v3_4).toNatClampNeg ((mok 22) (a2 + v3_4).toNatClampNeg)))) H := hP
        have hD : va_D A (wM cI mo mor moi (va_up mok 25 (upd w3_mok_25 (a4 + v3_4).toNatClampNeg ((mok 22) (a2 + v3_4).toNatClampNeg)))) := hD
        refine lv_iinc (v := (v3_4 + 1)) (lv' := [(4, .int (v3_4 + 1)), (0, .ref (mor 22)), (1, .int a2), (2, .ref (mor 25)), (3, .int a4)]) hx hb dX7_copy_22 hl (k := 0) rfl rfl (by decide) rfl (fun ls hl => ?_)
        refine lv_goto (tgt := 3) hx hb dX7_copy_25 (by decide) ?_
        exact ih3 (v3_4 + 1) (upd w3_mok_25 (a4 + v3_4).toNatClampNeg ((mok 22) (a2 + v3_4).toNatClampNeg)) he _ _ _ hP hD hS (lv_sub hl [0, 1, 2, 3, 4] rfl)
  exact L3 F (0 : Int32) (mok 25) he _ _ _ hP hD hS (lv_sub hl [0, 1, 2, 3, 4] rfl)

def fX7_copy_back_now_L3 (mok_25 : Nat → Int32) (a2 : Int32) (a4 : Int32) (k3 : Int32 → (Nat → Int32) → Option ((Nat → Int32))) : Nat → Int32 → (Nat → Int32) → Option ((Nat → Int32))
  | 0, _, _ => none
  | n3 + 1, v3_4, w3_mok_22 => if (19 : Int32) ≤ v3_4 then (k3 v3_4 w3_mok_22) else (if (a2 + v3_4) < 0 ∨ 152 ≤ (a2 + v3_4).toNatClampNeg then none else (if (a4 + v3_4) < 0 ∨ 19 ≤ (a4 + v3_4).toNatClampNeg then none else (fX7_copy_back_now_L3 mok_25 a2 a4 k3 n3 (v3_4 + 1) (upd w3_mok_22 (a4 + v3_4).toNatClampNeg (mok_25 (a2 + v3_4).toNatClampNeg)))))
def fX7_copy_back_now (F : Nat) (mok_22 : Nat → Int32) (mok_25 : Nat → Int32) (a2 : Int32) (a4 : Int32) : Option ((Nat → Int32)) :=
  fX7_copy_back_now_L3 mok_25 a2 a4 (fun (v3_4 : Int32) (w3_mok_22 : Nat → Int32) => some w3_mok_22) F (0 : Int32) mok_22
set_option maxHeartbeats 4000000 in
set_option maxRecDepth 100000 in
theorem c_X7_copy_back_now (l : Launch) (D : va_G) (cI cP : ClassId) (sz : Nat) (mo : Nat) (mor : Nat → Nat) (moi : Nat → Int32) (mok : Nat → Nat → Int32) (F : Nat) (a2 : Int32) (a4 : Int32) (hne : fX7_copy_back_now F (mok 22) (mok 25) a2 a4 ≠ none) : xMv l yX7_copy wsX7_copy ({ frames := 0, cells := 0, slots := 0, locals := 0 } : Room) D (xT cI cP) [.ref (mor 25), .int a2, .ref (mor 22), .int a4] (wM cI mo mor moi mok) sz (fun (u : ((Nat → Int32))) => fX7_copy_back_now F (mok 22) (mok 25) a2 a4 = some u) (fun u => wM cI mo mor moi (va_up mok 22 u)) 0 0 := by
  refine xMv_of (cc := cX7_copy) (maxL := 5) (by decide +kernel) rfl (Nat.le_of_ble_eq_true rfl) ?_
  intro p e s m args below meth c A ls hx hb hml hown hts hname hN hK hA hP hD hS hl Q hret
  have he := fX7_copy_back_now.eq_1 F (mok 22) (mok 25) a2 a4
  have hl : lv_has ls 5 [(0, .ref (mor 25)), (1, .int a2), (2, .ref (mor 22)), (3, .int a4)] := hl
  refine lv_iconst (v := 0) hx hb dX7_copy_0 (by decide) ?_
  refine lv_istore (lv' := [(4, .int (0 : Int32)), (0, .ref (mor 25)), (1, .int a2), (2, .ref (mor 22)), (3, .int a4)]) hx hb dX7_copy_1 hl (by decide) rfl (fun ls hl => ?_)
  have L3 : ∀ (n3 : Nat) (v3_4 : Int32) (w3_mok_22 : Nat → Int32), fX7_copy_back_now F (mok 22) (mok 25) a2 a4 = fX7_copy_back_now_L3 (mok 25) a2 a4 (fun (v3_4 : Int32) (w3_mok_22 : Nat → Int32) => some w3_mok_22) n3 v3_4 w3_mok_22 → ∀ (H : Heap) (locs : List Loc) (ls : Array Slot), va_P D vwCl (wM cI mo mor moi (va_up mok 22 w3_mok_22)) H → va_D A (wM cI mo mor moi (va_up mok 22 w3_mok_22)) → va_S A s.heap H locs → lv_has ls 5 [(4, .int v3_4), (0, .ref (mor 25)), (1, .int a2), (2, .ref (mor 22)), (3, .int a4)] → W p l e ({ frames := 0, cells := 0, slots := 0, locals := 0 } : Room) s m args below meth c H locs 0 0 Q (F0 m 3 ls []) := by
    intro n3
    induction n3 with
    | zero => intro v3_4 w3_mok_22 he; exact absurd he hne
    | succ n3 ih3 =>
      intro v3_4 w3_mok_22 he H locs ls hP hD hS hl
      replace he := he.trans (fX7_copy_back_now_L3.eq_2 _ _ _ _ _ _ _)
      refine lv_iload hx hb dX7_copy_3 (lv_at hl 0 rfl) ?_
      refine lv_bipush (v := 19) hx hb dX7_copy_5 (by decide) ?_
      refine lv_icmp_ge (tgt := 28) hx hb dX7_copy_7 (by decide) (fun c1 => ?_) (fun c1 => ?_)
      · replace he := he.trans (if_pos c1)
        exact hret w3_mok_22 _ _ _ _ dX7_copy_28 he hP hD hS
      · replace he := he.trans (if_neg c1)
        refine lv_aload_n hx hb dX7_copy_10 rfl (lv_at hl 3 rfl) ?_
        refine lv_iload_n hx hb dX7_copy_11 rfl (lv_at hl 4 rfl) ?_
        refine lv_iload hx hb dX7_copy_12 (lv_at hl 0 rfl) ?_
        refine lv_iadd hx hb dX7_copy_14 ?_
        refine lv_aload_n hx hb dX7_copy_15 rfl (lv_at hl 1 rfl) ?_
        refine lv_iload_n hx hb dX7_copy_16 rfl (lv_at hl 2 rfl) ?_
        refine lv_iload hx hb dX7_copy_17 (lv_at hl 0 rfl) ?_
        refine lv_iadd hx hb dX7_copy_19 ?_
        by_cases g2 : (a2 + v3_4) < 0 ∨ 152 ≤ (a2 + v3_4).toNatClampNeg
        · exact absurd (he.trans (if_pos g2)) hne
        replace he := he.trans (if_neg g2)
        refine va_iald hx hb hK hP 13 0 rfl rfl g2 dX7_copy_20 ?_
        by_cases g3 : (a4 + v3_4) < 0 ∨ 19 ≤ (a4 + v3_4).toNatClampNeg
        · exact absurd (he.trans (if_pos g3)) hne
        replace he := he.trans (if_neg g3)
        refine va_iast hx hb hK hP hD hS 11 0 rfl rfl g3 dX7_copy_21 (fun H locs hP hD hS => ?_)
        have hP : va_P D vwCl (wM cI mo mor moi (va_up mok 22 (upd w3_mok_22 (a4 + v3_4).toNatClampNeg ((mok 25) (a2 + v3_4).toNatClampNeg)))) H := hP
        have hD : va_D A (wM cI mo mor moi (va_up mok 22 (upd w3_mok_22 (a4 + v3_4).toNatClampNeg ((mok 25) (a2 + v3_4).toNatClampNeg)))) := hD
        refine lv_iinc (v := (v3_4 + 1)) (lv' := [(4, .int (v3_4 + 1)), (0, .ref (mor 25)), (1, .int a2), (2, .ref (mor 22)), (3, .int a4)]) hx hb dX7_copy_22 hl (k := 0) rfl rfl (by decide) rfl (fun ls hl => ?_)
        refine lv_goto (tgt := 3) hx hb dX7_copy_25 (by decide) ?_
        exact ih3 (v3_4 + 1) (upd w3_mok_22 (a4 + v3_4).toNatClampNeg ((mok 25) (a2 + v3_4).toNatClampNeg)) he _ _ _ hP hD hS (lv_sub hl [0, 1, 2, 3, 4] rfl)
  exact L3 F (0 : Int32) (mok 22) he _ _ _ hP hD hS (lv_sub hl [0, 1, 2, 3, 4] rfl)

def fX7_copy_now_keep_L3 (mok_22 : Nat → Int32) (a2 : Int32) (a4 : Int32) (k3 : Int32 → (Nat → Int32) → Option ((Nat → Int32))) : Nat → Int32 → (Nat → Int32) → Option ((Nat → Int32))
  | 0, _, _ => none
  | n3 + 1, v3_4, w3_mok_27 => if (19 : Int32) ≤ v3_4 then (k3 v3_4 w3_mok_27) else (if (a2 + v3_4) < 0 ∨ 19 ≤ (a2 + v3_4).toNatClampNeg then none else (if (a4 + v3_4) < 0 ∨ 38 ≤ (a4 + v3_4).toNatClampNeg then none else (fX7_copy_now_keep_L3 mok_22 a2 a4 k3 n3 (v3_4 + 1) (upd w3_mok_27 (a4 + v3_4).toNatClampNeg (mok_22 (a2 + v3_4).toNatClampNeg)))))
def fX7_copy_now_keep (F : Nat) (mok_22 : Nat → Int32) (mok_27 : Nat → Int32) (a2 : Int32) (a4 : Int32) : Option ((Nat → Int32)) :=
  fX7_copy_now_keep_L3 mok_22 a2 a4 (fun (v3_4 : Int32) (w3_mok_27 : Nat → Int32) => some w3_mok_27) F (0 : Int32) mok_27
set_option maxHeartbeats 4000000 in
set_option maxRecDepth 100000 in
theorem c_X7_copy_now_keep (l : Launch) (D : va_G) (cI cP : ClassId) (sz : Nat) (mo : Nat) (mor : Nat → Nat) (moi : Nat → Int32) (mok : Nat → Nat → Int32) (F : Nat) (a2 : Int32) (a4 : Int32) (hne : fX7_copy_now_keep F (mok 22) (mok 27) a2 a4 ≠ none) : xMv l yX7_copy wsX7_copy ({ frames := 0, cells := 0, slots := 0, locals := 0 } : Room) D (xT cI cP) [.ref (mor 22), .int a2, .ref (mor 27), .int a4] (wM cI mo mor moi mok) sz (fun (u : ((Nat → Int32))) => fX7_copy_now_keep F (mok 22) (mok 27) a2 a4 = some u) (fun u => wM cI mo mor moi (va_up mok 27 u)) 0 0 := by
  refine xMv_of (cc := cX7_copy) (maxL := 5) (by decide +kernel) rfl (Nat.le_of_ble_eq_true rfl) ?_
  intro p e s m args below meth c A ls hx hb hml hown hts hname hN hK hA hP hD hS hl Q hret
  have he := fX7_copy_now_keep.eq_1 F (mok 22) (mok 27) a2 a4
  have hl : lv_has ls 5 [(0, .ref (mor 22)), (1, .int a2), (2, .ref (mor 27)), (3, .int a4)] := hl
  refine lv_iconst (v := 0) hx hb dX7_copy_0 (by decide) ?_
  refine lv_istore (lv' := [(4, .int (0 : Int32)), (0, .ref (mor 22)), (1, .int a2), (2, .ref (mor 27)), (3, .int a4)]) hx hb dX7_copy_1 hl (by decide) rfl (fun ls hl => ?_)
  have L3 : ∀ (n3 : Nat) (v3_4 : Int32) (w3_mok_27 : Nat → Int32), fX7_copy_now_keep F (mok 22) (mok 27) a2 a4 = fX7_copy_now_keep_L3 (mok 22) a2 a4 (fun (v3_4 : Int32) (w3_mok_27 : Nat → Int32) => some w3_mok_27) n3 v3_4 w3_mok_27 → ∀ (H : Heap) (locs : List Loc) (ls : Array Slot), va_P D vwCl (wM cI mo mor moi (va_up mok 27 w3_mok_27)) H → va_D A (wM cI mo mor moi (va_up mok 27 w3_mok_27)) → va_S A s.heap H locs → lv_has ls 5 [(4, .int v3_4), (0, .ref (mor 22)), (1, .int a2), (2, .ref (mor 27)), (3, .int a4)] → W p l e ({ frames := 0, cells := 0, slots := 0, locals := 0 } : Room) s m args below meth c H locs 0 0 Q (F0 m 3 ls []) := by
    intro n3
    induction n3 with
    | zero => intro v3_4 w3_mok_27 he; exact absurd he hne
    | succ n3 ih3 =>
      intro v3_4 w3_mok_27 he H locs ls hP hD hS hl
      replace he := he.trans (fX7_copy_now_keep_L3.eq_2 _ _ _ _ _ _ _)
      refine lv_iload hx hb dX7_copy_3 (lv_at hl 0 rfl) ?_
      refine lv_bipush (v := 19) hx hb dX7_copy_5 (by decide) ?_
      refine lv_icmp_ge (tgt := 28) hx hb dX7_copy_7 (by decide) (fun c1 => ?_) (fun c1 => ?_)
      · replace he := he.trans (if_pos c1)
        exact hret w3_mok_27 _ _ _ _ dX7_copy_28 he hP hD hS
      · replace he := he.trans (if_neg c1)
        refine lv_aload_n hx hb dX7_copy_10 rfl (lv_at hl 3 rfl) ?_
        refine lv_iload_n hx hb dX7_copy_11 rfl (lv_at hl 4 rfl) ?_
        refine lv_iload hx hb dX7_copy_12 (lv_at hl 0 rfl) ?_
        refine lv_iadd hx hb dX7_copy_14 ?_
        refine lv_aload_n hx hb dX7_copy_15 rfl (lv_at hl 1 rfl) ?_
        refine lv_iload_n hx hb dX7_copy_16 rfl (lv_at hl 2 rfl) ?_
        refine lv_iload hx hb dX7_copy_17 (lv_at hl 0 rfl) ?_
        refine lv_iadd hx hb dX7_copy_19 ?_
        by_cases g2 : (a2 + v3_4) < 0 ∨ 19 ≤ (a2 + v3_4).toNatClampNeg
        · exact absurd (he.trans (if_pos g2)) hne
        replace he := he.trans (if_neg g2)
        refine va_iald hx hb hK hP 11 0 rfl rfl g2 dX7_copy_20 ?_
        by_cases g3 : (a4 + v3_4) < 0 ∨ 38 ≤ (a4 + v3_4).toNatClampNeg
        · exact absurd (he.trans (if_pos g3)) hne
        replace he := he.trans (if_neg g3)
        refine va_iast hx hb hK hP hD hS 14 0 rfl rfl g3 dX7_copy_21 (fun H locs hP hD hS => ?_)
        have hP : va_P D vwCl (wM cI mo mor moi (va_up mok 27 (upd w3_mok_27 (a4 + v3_4).toNatClampNeg ((mok 22) (a2 + v3_4).toNatClampNeg)))) H := hP
        have hD : va_D A (wM cI mo mor moi (va_up mok 27 (upd w3_mok_27 (a4 + v3_4).toNatClampNeg ((mok 22) (a2 + v3_4).toNatClampNeg)))) := hD
        refine lv_iinc (v := (v3_4 + 1)) (lv' := [(4, .int (v3_4 + 1)), (0, .ref (mor 22)), (1, .int a2), (2, .ref (mor 27)), (3, .int a4)]) hx hb dX7_copy_22 hl (k := 0) rfl rfl (by decide) rfl (fun ls hl => ?_)
        refine lv_goto (tgt := 3) hx hb dX7_copy_25 (by decide) ?_
        exact ih3 (v3_4 + 1) (upd w3_mok_27 (a4 + v3_4).toNatClampNeg ((mok 22) (a2 + v3_4).toNatClampNeg)) he _ _ _ hP hD hS (lv_sub hl [0, 1, 2, 3, 4] rfl)
  exact L3 F (0 : Int32) (mok 27) he _ _ _ hP hD hS (lv_sub hl [0, 1, 2, 3, 4] rfl)

def fX7_copy_keep_now_L3 (mok_27 : Nat → Int32) (a2 : Int32) (a4 : Int32) (k3 : Int32 → (Nat → Int32) → Option ((Nat → Int32))) : Nat → Int32 → (Nat → Int32) → Option ((Nat → Int32))
  | 0, _, _ => none
  | n3 + 1, v3_4, w3_mok_22 => if (19 : Int32) ≤ v3_4 then (k3 v3_4 w3_mok_22) else (if (a2 + v3_4) < 0 ∨ 38 ≤ (a2 + v3_4).toNatClampNeg then none else (if (a4 + v3_4) < 0 ∨ 19 ≤ (a4 + v3_4).toNatClampNeg then none else (fX7_copy_keep_now_L3 mok_27 a2 a4 k3 n3 (v3_4 + 1) (upd w3_mok_22 (a4 + v3_4).toNatClampNeg (mok_27 (a2 + v3_4).toNatClampNeg)))))
def fX7_copy_keep_now (F : Nat) (mok_22 : Nat → Int32) (mok_27 : Nat → Int32) (a2 : Int32) (a4 : Int32) : Option ((Nat → Int32)) :=
  fX7_copy_keep_now_L3 mok_27 a2 a4 (fun (v3_4 : Int32) (w3_mok_22 : Nat → Int32) => some w3_mok_22) F (0 : Int32) mok_22
set_option maxHeartbeats 4000000 in
set_option maxRecDepth 100000 in
theorem c_X7_copy_keep_now (l : Launch) (D : va_G) (cI cP : ClassId) (sz : Nat) (mo : Nat) (mor : Nat → Nat) (moi : Nat → Int32) (mok : Nat → Nat → Int32) (F : Nat) (a2 : Int32) (a4 : Int32) (hne : fX7_copy_keep_now F (mok 22) (mok 27) a2 a4 ≠ none) : xMv l yX7_copy wsX7_copy ({ frames := 0, cells := 0, slots := 0, locals := 0 } : Room) D (xT cI cP) [.ref (mor 27), .int a2, .ref (mor 22), .int a4] (wM cI mo mor moi mok) sz (fun (u : ((Nat → Int32))) => fX7_copy_keep_now F (mok 22) (mok 27) a2 a4 = some u) (fun u => wM cI mo mor moi (va_up mok 22 u)) 0 0 := by
  refine xMv_of (cc := cX7_copy) (maxL := 5) (by decide +kernel) rfl (Nat.le_of_ble_eq_true rfl) ?_
  intro p e s m args below meth c A ls hx hb hml hown hts hname hN hK hA hP hD hS hl Q hret
  have he := fX7_copy_keep_now.eq_1 F (mok 22) (mok 27) a2 a4
  have hl : lv_has ls 5 [(0, .ref (mor 27)), (1, .int a2), (2, .ref (mor 22)), (3, .int a4)] := hl
  refine lv_iconst (v := 0) hx hb dX7_copy_0 (by decide) ?_
  refine lv_istore (lv' := [(4, .int (0 : Int32)), (0, .ref (mor 27)), (1, .int a2), (2, .ref (mor 22)), (3, .int a4)]) hx hb dX7_copy_1 hl (by decide) rfl (fun ls hl => ?_)
  have L3 : ∀ (n3 : Nat) (v3_4 : Int32) (w3_mok_22 : Nat → Int32), fX7_copy_keep_now F (mok 22) (mok 27) a2 a4 = fX7_copy_keep_now_L3 (mok 27) a2 a4 (fun (v3_4 : Int32) (w3_mok_22 : Nat → Int32) => some w3_mok_22) n3 v3_4 w3_mok_22 → ∀ (H : Heap) (locs : List Loc) (ls : Array Slot), va_P D vwCl (wM cI mo mor moi (va_up mok 22 w3_mok_22)) H → va_D A (wM cI mo mor moi (va_up mok 22 w3_mok_22)) → va_S A s.heap H locs → lv_has ls 5 [(4, .int v3_4), (0, .ref (mor 27)), (1, .int a2), (2, .ref (mor 22)), (3, .int a4)] → W p l e ({ frames := 0, cells := 0, slots := 0, locals := 0 } : Room) s m args below meth c H locs 0 0 Q (F0 m 3 ls []) := by
    intro n3
    induction n3 with
    | zero => intro v3_4 w3_mok_22 he; exact absurd he hne
    | succ n3 ih3 =>
      intro v3_4 w3_mok_22 he H locs ls hP hD hS hl
      replace he := he.trans (fX7_copy_keep_now_L3.eq_2 _ _ _ _ _ _ _)
      refine lv_iload hx hb dX7_copy_3 (lv_at hl 0 rfl) ?_
      refine lv_bipush (v := 19) hx hb dX7_copy_5 (by decide) ?_
      refine lv_icmp_ge (tgt := 28) hx hb dX7_copy_7 (by decide) (fun c1 => ?_) (fun c1 => ?_)
      · replace he := he.trans (if_pos c1)
        exact hret w3_mok_22 _ _ _ _ dX7_copy_28 he hP hD hS
      · replace he := he.trans (if_neg c1)
        refine lv_aload_n hx hb dX7_copy_10 rfl (lv_at hl 3 rfl) ?_
        refine lv_iload_n hx hb dX7_copy_11 rfl (lv_at hl 4 rfl) ?_
        refine lv_iload hx hb dX7_copy_12 (lv_at hl 0 rfl) ?_
        refine lv_iadd hx hb dX7_copy_14 ?_
        refine lv_aload_n hx hb dX7_copy_15 rfl (lv_at hl 1 rfl) ?_
        refine lv_iload_n hx hb dX7_copy_16 rfl (lv_at hl 2 rfl) ?_
        refine lv_iload hx hb dX7_copy_17 (lv_at hl 0 rfl) ?_
        refine lv_iadd hx hb dX7_copy_19 ?_
        by_cases g2 : (a2 + v3_4) < 0 ∨ 38 ≤ (a2 + v3_4).toNatClampNeg
        · exact absurd (he.trans (if_pos g2)) hne
        replace he := he.trans (if_neg g2)
        refine va_iald hx hb hK hP 14 0 rfl rfl g2 dX7_copy_20 ?_
        by_cases g3 : (a4 + v3_4) < 0 ∨ 19 ≤ (a4 + v3_4).toNatClampNeg
        · exact absurd (he.trans (if_pos g3)) hne
        replace he := he.trans (if_neg g3)
        refine va_iast hx hb hK hP hD hS 11 0 rfl rfl g3 dX7_copy_21 (fun H locs hP hD hS => ?_)
        have hP : va_P D vwCl (wM cI mo mor moi (va_up mok 22 (upd w3_mok_22 (a4 + v3_4).toNatClampNeg ((mok 27) (a2 + v3_4).toNatClampNeg)))) H := hP
        have hD : va_D A (wM cI mo mor moi (va_up mok 22 (upd w3_mok_22 (a4 + v3_4).toNatClampNeg ((mok 27) (a2 + v3_4).toNatClampNeg)))) := hD
        refine lv_iinc (v := (v3_4 + 1)) (lv' := [(4, .int (v3_4 + 1)), (0, .ref (mor 27)), (1, .int a2), (2, .ref (mor 22)), (3, .int a4)]) hx hb dX7_copy_22 hl (k := 0) rfl rfl (by decide) rfl (fun ls hl => ?_)
        refine lv_goto (tgt := 3) hx hb dX7_copy_25 (by decide) ?_
        exact ih3 (v3_4 + 1) (upd w3_mok_22 (a4 + v3_4).toNatClampNeg ((mok 27) (a2 + v3_4).toNatClampNeg)) he _ _ _ hP hD hS (lv_sub hl [0, 1, 2, 3, 4] rfl)
  exact L3 F (0 : Int32) (mok 22) he _ _ _ hP hD hS (lv_sub hl [0, 1, 2, 3, 4] rfl)

def fX7_ring_now_L142 (moi_13 : Int32) (k142 : Int32 → (Nat → Int32) → Option ((Nat → Int32) × (Nat → Int32))) : Nat → Int32 → (Nat → Int32) → Option ((Nat → Int32) × (Nat → Int32))
  | 0, _, _ => none
  | n142 + 1, v142_2, w142_mok_22 => if moi_13 ≤ v142_2 then (k142 v142_2 w142_mok_22) else (if ((6 : Int32) + v142_2) < 0 ∨ 19 ≤ ((6 : Int32) + v142_2).toNatClampNeg then none else (if ((12 : Int32) + v142_2) < 0 ∨ 19 ≤ ((12 : Int32) + v142_2).toNatClampNeg then none else (if ((6 : Int32) + v142_2) < 0 ∨ 19 ≤ ((6 : Int32) + v142_2).toNatClampNeg then none else (if ((6 : Int32) + v142_2) < 0 ∨ 19 ≤ ((6 : Int32) + v142_2).toNatClampNeg then none else (if ((upd w142_mok_22 ((6 : Int32) + v142_2).toNatClampNeg ((w142_mok_22 ((6 : Int32) + v142_2).toNatClampNeg) - (w142_mok_22 ((12 : Int32) + v142_2).toNatClampNeg))) ((6 : Int32) + v142_2).toNatClampNeg) = 0 then (if ((12 : Int32) + v142_2) < 0 ∨ 19 ≤ ((12 : Int32) + v142_2).toNatClampNeg then none else (fX7_ring_now_L142 moi_13 k142 n142 (v142_2 + 1) (upd (upd w142_mok_22 ((6 : Int32) + v142_2).toNatClampNeg ((w142_mok_22 ((6 : Int32) + v142_2).toNatClampNeg) - (w142_mok_22 ((12 : Int32) + v142_2).toNatClampNeg))) ((12 : Int32) + v142_2).toNatClampNeg (0 : Int32)))) else (if ((12 : Int32) + v142_2) < 0 ∨ 19 ≤ ((12 : Int32) + v142_2).toNatClampNeg then none else (if ((12 : Int32) + v142_2) < 0 ∨ 19 ≤ ((12 : Int32) + v142_2).toNatClampNeg then none else (fX7_ring_now_L142 moi_13 k142 n142 (v142_2 + 1) (upd (upd w142_mok_22 ((6 : Int32) + v142_2).toNatClampNeg ((w142_mok_22 ((6 : Int32) + v142_2).toNatClampNeg) - (w142_mok_22 ((12 : Int32) + v142_2).toNatClampNeg))) ((12 : Int32) + v142_2).toNatClampNeg ((upd w142_mok_22 ((6 : Int32) + v142_2).toNatClampNeg ((w142_mok_22 ((6 : Int32) + v142_2).toNatClampNeg) - (w142_mok_22 ((12 : Int32) + v142_2).toNatClampNeg))) ((12 : Int32) + v142_2).toNatClampNeg))))))))))
def fX7_ring_now_L70 (moi_18 : Int32) (mok_19 : Nat → Int32) (k70 : Int32 → (Nat → Int32) → Option ((Nat → Int32) × (Nat → Int32))) : Nat → Int32 → (Nat → Int32) → Option ((Nat → Int32) × (Nat → Int32))
  | 0, _, _ => none
  | n70 + 1, v70_2, w70_mok_22 => if moi_18 ≤ v70_2 then (k70 v70_2 w70_mok_22) else (if ((2 : Int32) * v70_2) < 0 ∨ 12 ≤ ((2 : Int32) * v70_2).toNatClampNeg then none else (if (mok_19 ((2 : Int32) * v70_2).toNatClampNeg) = (w70_mok_22 (18 : Int32).toNatClampNeg) then (if (((2 : Int32) * v70_2) + (1 : Int32)) < 0 ∨ 12 ≤ (((2 : Int32) * v70_2) + (1 : Int32)).toNatClampNeg then none else (if (mok_19 (((2 : Int32) * v70_2) + (1 : Int32)).toNatClampNeg) < 0 ∨ 19 ≤ (mok_19 (((2 : Int32) * v70_2) + (1 : Int32)).toNatClampNeg).toNatClampNeg then none else (if ((12 : Int32) + (w70_mok_22 (mok_19 (((2 : Int32) * v70_2) + (1 : Int32)).toNatClampNeg).toNatClampNeg)) < 0 ∨ 19 ≤ ((12 : Int32) + (w70_mok_22 (mok_19 (((2 : Int32) * v70_2) + (1 : Int32)).toNatClampNeg).toNatClampNeg)).toNatClampNeg then none else (fX7_ring_now_L70 moi_18 mok_19 k70 n70 (v70_2 + 1) (upd w70_mok_22 ((12 : Int32) + (w70_mok_22 (mok_19 (((2 : Int32) * v70_2) + (1 : Int32)).toNatClampNeg).toNatClampNeg)).toNatClampNeg (0 : Int32)))))) else (fX7_ring_now_L70 moi_18 mok_19 k70 n70 (v70_2 + 1) w70_mok_22)))
def fX7_ring_now_L45 (moi_13 : Int32) (w10_mok_33 : Nat → Int32) (k45 : Int32 → (Nat → Int32) → Option ((Nat → Int32) × (Nat → Int32))) : Nat → Int32 → (Nat → Int32) → Option ((Nat → Int32) × (Nat → Int32))
  | 0, _, _ => none
  | n45 + 1, v45_2, w45_mok_22 => if moi_13 ≤ v45_2 then (k45 v45_2 w45_mok_22) else (if v45_2 < 0 ∨ 6 ≤ v45_2.toNatClampNeg then none else (if v45_2 < 0 ∨ 19 ≤ v45_2.toNatClampNeg then none else (fX7_ring_now_L45 moi_13 w10_mok_33 k45 n45 (v45_2 + 1) (upd w45_mok_22 v45_2.toNatClampNeg (w10_mok_33 v45_2.toNatClampNeg)))))
def fX7_ring_now_L10 (moi_13 : Int32) (moi_17 : Int32) (mok_22 : Nat → Int32) (k10 : Int32 → (Nat → Int32) → Option ((Nat → Int32) × (Nat → Int32))) : Nat → Int32 → (Nat → Int32) → Option ((Nat → Int32) × (Nat → Int32))
  | 0, _, _ => none
  | n10 + 1, v10_2, w10_mok_33 => if moi_13 ≤ v10_2 then (k10 v10_2 w10_mok_33) else (if moi_13 = 0 then none else (if v10_2 < 0 ∨ 19 ≤ v10_2.toNatClampNeg then none else (if ((v10_2 + moi_17) - (v10_2 + moi_17) / moi_13 * moi_13) < 0 ∨ 6 ≤ ((v10_2 + moi_17) - (v10_2 + moi_17) / moi_13 * moi_13).toNatClampNeg then none else (fX7_ring_now_L10 moi_13 moi_17 mok_22 k10 n10 (v10_2 + 1) (upd w10_mok_33 ((v10_2 + moi_17) - (v10_2 + moi_17) / moi_13 * moi_13).toNatClampNeg ((upd mok_22 (18 : Int32).toNatClampNeg ((mok_22 (18 : Int32).toNatClampNeg) + (1 : Int32))) v10_2.toNatClampNeg))))))
def fX7_ring_now (F : Nat) (moi_13 : Int32) (moi_17 : Int32) (moi_18 : Int32) (moi_30 : Int32) (moi_31 : Int32) (mok_19 : Nat → Int32) (mok_22 : Nat → Int32) (mok_33 : Nat → Int32) : Option ((Nat → Int32) × (Nat → Int32)) :=
  fX7_ring_now_L10 moi_13 moi_17 mok_22 (fun (v10_2 : Int32) (w10_mok_33 : Nat → Int32) => fX7_ring_now_L45 moi_13 w10_mok_33 (fun (v45_2 : Int32) (w45_mok_22 : Nat → Int32) => fX7_ring_now_L70 moi_18 mok_19 (fun (v70_2 : Int32) (w70_mok_22 : Nat → Int32) => if moi_30 = (w70_mok_22 (18 : Int32).toNatClampNeg) then (if moi_31 < 0 ∨ 19 ≤ moi_31.toNatClampNeg then none else (if ((12 : Int32) + (w70_mok_22 moi_31.toNatClampNeg)) < 0 ∨ 19 ≤ ((12 : Int32) + (w70_mok_22 moi_31.toNatClampNeg)).toNatClampNeg then none else (fX7_ring_now_L142 moi_13 (fun (v142_2 : Int32) (w142_mok_22 : Nat → Int32) => some (w142_mok_22, w10_mok_33)) F (0 : Int32) (upd w70_mok_22 ((12 : Int32) + (w70_mok_22 moi_31.toNatClampNeg)).toNatClampNeg (0 : Int32))))) else (fX7_ring_now_L142 moi_13 (fun (v142_2 : Int32) (w142_mok_22 : Nat → Int32) => some (w142_mok_22, w10_mok_33)) F (0 : Int32) w70_mok_22)) F (0 : Int32) w45_mok_22) F (0 : Int32) (upd mok_22 (18 : Int32).toNatClampNeg ((mok_22 (18 : Int32).toNatClampNeg) + (1 : Int32)))) F (0 : Int32) mok_33
theorem hi_X7_ring_now_7 : ∀ w ∈ wsX70, w ∈ wsX7_ring := fun _ h => (List.mem_cons_of_mem _ (List.mem_append_right _ h))
set_option maxHeartbeats 4000000 in
set_option maxRecDepth 100000 in
theorem c_X7_ring_now (l : Launch) (D : va_G) (cI cP : ClassId) (sz : Nat) (mo : Nat) (mor : Nat → Nat) (moi : Nat → Int32) (mok : Nat → Nat → Int32) (F : Nat) (hne : fX7_ring_now F (moi 13) (moi 17) (moi 18) (moi 30) (moi 31) (mok 19) (mok 22) (mok 33) ≠ none) : xMv l yX7_ring wsX7_ring ({ frames := 0, cells := 0, slots := 0, locals := 0 } : Room) D (xT cI cP) [.ref mo, .ref (mor 22)] (wM cI mo mor moi mok) sz (fun (u : ((Nat → Int32) × (Nat → Int32))) => fX7_ring_now F (moi 13) (moi 17) (moi 18) (moi 30) (moi 31) (mok 19) (mok 22) (mok 33) = some u) (fun u => wM cI mo mor moi (va_up (va_up mok 22 u.1) 33 u.2)) 0 0 := by
  refine xMv_of (cc := cX7_ring) (maxL := 3) (by decide +kernel) rfl (Nat.le_of_ble_eq_true rfl) ?_
  intro p e s m args below meth c A ls hx hb hml hown hts hname hN hK hA hP hD hS hl Q hret
  have he := fX7_ring_now.eq_1 F (moi 13) (moi 17) (moi 18) (moi 30) (moi 31) (mok 19) (mok 22) (mok 33)
  have hl : lv_has ls 3 [(0, .ref mo), (1, .ref (mor 22))] := hl
  refine lv_aload_n hx hb dX7_ring_0 rfl (lv_at hl 1 rfl) ?_
  refine lv_bipush (v := 18) hx hb dX7_ring_1 (by decide) ?_
  refine lv_dup2_11 hx hb dX7_ring_3 rfl rfl ?_
  refine va_iald hx hb hK hP 11 0 rfl rfl (by decide) dX7_ring_4 ?_
  refine lv_iconst (v := 1) hx hb dX7_ring_5 (by decide) ?_
  refine lv_iadd hx hb dX7_ring_6 ?_
  refine va_iast hx hb hK hP hD hS 11 0 rfl rfl (by decide) dX7_ring_7 (fun H locs hP hD hS => ?_)
  have hP : va_P D vwCl (wM cI mo mor moi (va_up mok 22 (upd (mok 22) (18 : Int32).toNatClampNeg (((mok 22) (18 : Int32).toNatClampNeg) + (1 : Int32))))) H := hP
  have hD : va_D A (wM cI mo mor moi (va_up mok 22 (upd (mok 22) (18 : Int32).toNatClampNeg (((mok 22) (18 : Int32).toNatClampNeg) + (1 : Int32))))) := hD
  refine lv_iconst (v := 0) hx hb dX7_ring_8 (by decide) ?_
  refine lv_istore_n (lv' := [(2, .int (0 : Int32)), (0, .ref mo), (1, .ref (mor 22))]) hx hb dX7_ring_9 rfl hl (by decide) rfl (fun ls hl => ?_)
  have L10 : ∀ (n10 : Nat) (v10_2 : Int32) (w10_mok_33 : Nat → Int32), fX7_ring_now F (moi 13) (moi 17) (moi 18) (moi 30) (moi 31) (mok 19) (mok 22) (mok 33) = fX7_ring_now_L10 (moi 13) (moi 17) (mok 22) (fun (v10_2 : Int32) (w10_mok_33 : Nat → Int32) => fX7_ring_now_L45 (moi 13) w10_mok_33 (fun (v45_2 : Int32) (w45_mok_22 : Nat → Int32) => fX7_ring_now_L70 (moi 18) (mok 19) (fun (v70_2 : Int32) (w70_mok_22 : Nat → Int32) => if (moi 30) = (w70_mok_22 (18 : Int32).toNatClampNeg) then (if (moi 31) < 0 ∨ 19 ≤ (moi 31).toNatClampNeg then none else (if ((12 : Int32) + (w70_mok_22 (moi 31).toNatClampNeg)) < 0 ∨ 19 ≤ ((12 : Int32) + (w70_mok_22 (moi 31).toNatClampNeg)).toNatClampNeg then none else (fX7_ring_now_L142 (moi 13) (fun (v142_2 : Int32) (w142_mok_22 : Nat → Int32) => some (w142_mok_22, w10_mok_33)) F (0 : Int32) (upd w70_mok_22 ((12 : Int32) + (w70_mok_22 (moi 31).toNatClampNeg)).toNatClampNeg (0 : Int32))))) else (fX7_ring_now_L142 (moi 13) (fun (v142_2 : Int32) (w142_mok_22 : Nat → Int32) => some (w142_mok_22, w10_mok_33)) F (0 : Int32) w70_mok_22)) F (0 : Int32) w45_mok_22) F (0 : Int32) (upd (mok 22) (18 : Int32).toNatClampNeg (((mok 22) (18 : Int32).toNatClampNeg) + (1 : Int32)))) n10 v10_2 w10_mok_33 → ∀ (H : Heap) (locs : List Loc) (ls : Array Slot), va_P D vwCl (wM cI mo mor moi (va_up (va_up mok 22 (upd (mok 22) (18 : Int32).toNatClampNeg (((mok 22) (18 : Int32).toNatClampNeg) + (1 : Int32)))) 33 w10_mok_33)) H → va_D A (wM cI mo mor moi (va_up (va_up mok 22 (upd (mok 22) (18 : Int32).toNatClampNeg (((mok 22) (18 : Int32).toNatClampNeg) + (1 : Int32)))) 33 w10_mok_33)) → va_S A s.heap H locs → lv_has ls 3 [(2, .int v10_2), (0, .ref mo), (1, .ref (mor 22))] → W p l e ({ frames := 0, cells := 0, slots := 0, locals := 0 } : Room) s m args below meth c H locs 0 0 Q (F0 m 10 ls []) := by
    intro n10
    induction n10 with
    | zero => intro v10_2 w10_mok_33 he; exact absurd he hne
    | succ n10 ih10 =>
      intro v10_2 w10_mok_33 he H locs ls hP hD hS hl
      replace he := he.trans (fX7_ring_now_L10.eq_2 _ _ _ _ _ _ _)
      refine lv_iload_n hx hb dX7_ring_10 rfl (lv_at hl 0 rfl) ?_
      refine lv_aload_n hx hb dX7_ring_11 rfl (lv_at hl 1 rfl) ?_
      refine va_get (D := D) (ci := 7) (v := .int (moi 13)) (C := RX7) (T := TX7) (N := 35) hx hb hts hi_X7_ring_now_7 hown hK hP 0 rfl rfl 13 (by decide) (hts (.fieldLink RX7 71 "BlindLanternsModel" "men" "I") (List.mem_of_getElem? (i := 1) rfl)) (fun _ h9 => h9) rfl dX7_ring_12 ?_
      refine lv_icmp_ge (tgt := 43) hx hb dX7_ring_15 (by decide) (fun c100 => ?_) (fun c100 => ?_)
      · replace he := he.trans (if_pos c100)
        refine lv_iconst (v := 0) hx hb dX7_ring_43 (by decide) ?_
        refine lv_istore_n (lv' := [(2, .int (0 : Int32)), (0, .ref mo), (1, .ref (mor 22))]) hx hb dX7_ring_44 rfl hl (by decide) rfl (fun ls hl => ?_)
        have L45 : ∀ (n45 : Nat) (v45_2 : Int32) (w45_mok_22 : Nat → Int32), fX7_ring_now F (moi 13) (moi 17) (moi 18) (moi 30) (moi 31) (mok 19) (mok 22) (mok 33) = fX7_ring_now_L45 (moi 13) w10_mok_33 (fun (v45_2 : Int32) (w45_mok_22 : Nat → Int32) => fX7_ring_now_L70 (moi 18) (mok 19) (fun (v70_2 : Int32) (w70_mok_22 : Nat → Int32) => if (moi 30) = (w70_mok_22 (18 : Int32).toNatClampNeg) then (if (moi 31) < 0 ∨ 19 ≤ (moi 31).toNatClampNeg then none else (if ((12 : Int32) + (w70_mok_22 (moi 31).toNatClampNeg)) < 0 ∨ 19 ≤ ((12 : Int32) + (w70_mok_22 (moi 31).toNatClampNeg)).toNatClampNeg then none else (fX7_ring_now_L142 (moi 13) (fun (v142_2 : Int32) (w142_mok_22 : Nat → Int32) => some (w142_mok_22, w10_mok_33)) F (0 : Int32) (upd w70_mok_22 ((12 : Int32) + (w70_mok_22 (moi 31).toNatClampNeg)).toNatClampNeg (0 : Int32))))) else (fX7_ring_now_L142 (moi 13) (fun (v142_2 : Int32) (w142_mok_22 : Nat → Int32) => some (w142_mok_22, w10_mok_33)) F (0 : Int32) w70_mok_22)) F (0 : Int32) w45_mok_22) n45 v45_2 w45_mok_22 → ∀ (H : Heap) (locs : List Loc) (ls : Array Slot), va_P D vwCl (wM cI mo mor moi (va_up (va_up mok 22 w45_mok_22) 33 w10_mok_33)) H → va_D A (wM cI mo mor moi (va_up (va_up mok 22 w45_mok_22) 33 w10_mok_33)) → va_S A s.heap H locs → lv_has ls 3 [(2, .int v45_2), (0, .ref mo), (1, .ref (mor 22))] → W p l e ({ frames := 0, cells := 0, slots := 0, locals := 0 } : Room) s m args below meth c H locs 0 0 Q (F0 m 45 ls []) := by
          intro n45
          induction n45 with
          | zero => intro v45_2 w45_mok_22 he; exact absurd he hne
          | succ n45 ih45 =>
            intro v45_2 w45_mok_22 he H locs ls hP hD hS hl
            replace he := he.trans (fX7_ring_now_L45.eq_2 _ _ _ _ _ _)
            refine lv_iload_n hx hb dX7_ring_45 rfl (lv_at hl 0 rfl) ?_
            refine lv_aload_n hx hb dX7_ring_46 rfl (lv_at hl 1 rfl) ?_
            refine va_get (D := D) (ci := 7) (v := .int (moi 13)) (C := RX7) (T := TX7) (N := 35) hx hb hts hi_X7_ring_now_7 hown hK hP 0 rfl rfl 13 (by decide) (hts (.fieldLink RX7 71 "BlindLanternsModel" "men" "I") (List.mem_of_getElem? (i := 1) rfl)) (fun _ h9 => h9) rfl dX7_ring_47 ?_
            refine lv_icmp_ge (tgt := 68) hx hb dX7_ring_50 (by decide) (fun c149 => ?_) (fun c149 => ?_)
            · replace he := he.trans (if_pos c149)
              refine lv_iconst (v := 0) hx hb dX7_ring_68 (by decide) ?_
              refine lv_istore_n (lv' := [(2, .int (0 : Int32)), (0, .ref mo), (1, .ref (mor 22))]) hx hb dX7_ring_69 rfl hl (by decide) rfl (fun ls hl => ?_)
              have L70 : ∀ (n70 : Nat) (v70_2 : Int32) (w70_mok_22 : Nat → Int32), fX7_ring_now F (moi 13) (moi 17) (moi 18) (moi 30) (moi 31) (mok 19) (mok 22) (mok 33) = fX7_ring_now_L70 (moi 18) (mok 19) (fun (v70_2 : Int32) (w70_mok_22 : Nat → Int32) => if (moi 30) = (w70_mok_22 (18 : Int32).toNatClampNeg) then (if (moi 31) < 0 ∨ 19 ≤ (moi 31).toNatClampNeg then none else (if ((12 : Int32) + (w70_mok_22 (moi 31).toNatClampNeg)) < 0 ∨ 19 ≤ ((12 : Int32) + (w70_mok_22 (moi 31).toNatClampNeg)).toNatClampNeg then none else (fX7_ring_now_L142 (moi 13) (fun (v142_2 : Int32) (w142_mok_22 : Nat → Int32) => some (w142_mok_22, w10_mok_33)) F (0 : Int32) (upd w70_mok_22 ((12 : Int32) + (w70_mok_22 (moi 31).toNatClampNeg)).toNatClampNeg (0 : Int32))))) else (fX7_ring_now_L142 (moi 13) (fun (v142_2 : Int32) (w142_mok_22 : Nat → Int32) => some (w142_mok_22, w10_mok_33)) F (0 : Int32) w70_mok_22)) n70 v70_2 w70_mok_22 → ∀ (H : Heap) (locs : List Loc) (ls : Array Slot), va_P D vwCl (wM cI mo mor moi (va_up (va_up mok 22 w70_mok_22) 33 w10_mok_33)) H → va_D A (wM cI mo mor moi (va_up (va_up mok 22 w70_mok_22) 33 w10_mok_33)) → va_S A s.heap H locs → lv_has ls 3 [(2, .int v70_2), (0, .ref mo), (1, .ref (mor 22))] → W p l e ({ frames := 0, cells := 0, slots := 0, locals := 0 } : Room) s m args below meth c H locs 0 0 Q (F0 m 70 ls []) := by
                intro n70
                induction n70 with
                | zero => intro v70_2 w70_mok_22 he; exact absurd he hne
                | succ n70 ih70 =>
                  intro v70_2 w70_mok_22 he H locs ls hP hD hS hl
                  replace he := he.trans (fX7_ring_now_L70.eq_2 _ _ _ _ _ _)
                  refine lv_iload_n hx hb dX7_ring_70 rfl (lv_at hl 0 rfl) ?_
                  refine lv_aload_n hx hb dX7_ring_71 rfl (lv_at hl 1 rfl) ?_
                  refine va_get (D := D) (ci := 7) (v := .int (moi 18)) (C := RX7) (T := TX7) (N := 35) hx hb hts hi_X7_ring_now_7 hown hK hP 0 rfl rfl 18 (by decide) (hts (.fieldLink RX7 126 "BlindLanternsModel" "draughts" "I") (List.mem_of_getElem? (i := 4) rfl)) (fun _ h9 => h9) rfl dX7_ring_72 ?_
                  refine lv_icmp_ge (tgt := 117) hx hb dX7_ring_75 (by decide) (fun c171 => ?_) (fun c171 => ?_)
                  · replace he := he.trans (if_pos c171)
                    refine lv_aload_n hx hb dX7_ring_117 rfl (lv_at hl 1 rfl) ?_
                    refine va_get (D := D) (ci := 7) (v := .int (moi 30)) (C := RX7) (T := TX7) (N := 35) hx hb hts hi_X7_ring_now_7 hown hK hP 0 rfl rfl 30 (by decide) (hts (.fieldLink RX7 55 "BlindLanternsModel" "atBell" "I") (List.mem_of_getElem? (i := 6) rfl)) (fun _ h9 => h9) rfl dX7_ring_118 ?_
                    refine lv_aload_n hx hb dX7_ring_121 rfl (lv_at hl 2 rfl) ?_
                    refine lv_bipush (v := 18) hx hb dX7_ring_122 (by decide) ?_
                    refine va_iald hx hb hK hP 11 0 rfl rfl (by decide) dX7_ring_124 ?_
                    refine lv_icmp_ne (tgt := 140) hx hb dX7_ring_125 (by decide) (fun c172 => ?_) (fun c172 => ?_)
                    · replace he := he.trans (if_neg c172)
                      refine lv_iconst (v := 0) hx hb dX7_ring_140 (by decide) ?_
                      refine lv_istore_n (lv' := [(2, .int (0 : Int32)), (0, .ref mo), (1, .ref (mor 22))]) hx hb dX7_ring_141 rfl hl (by decide) rfl (fun ls hl => ?_)
                      have L142 : ∀ (n142 : Nat) (v142_2 : Int32) (w142_mok_22 : Nat → Int32), fX7_ring_now F (moi 13) (moi 17) (moi 18) (moi 30) (moi 31) (mok 19) (mok 22) (mok 33) = fX7_ring_now_L142 (moi 13) (fun (v142_2 : Int32) (w142_mok_22 : Nat → Int32) => some (w142_mok_22, w10_mok_33)) n142 v142_2 w142_mok_22 → ∀ (H : Heap) (locs : List Loc) (ls : Array Slot), va_P D vwCl (wM cI mo mor moi (va_up (va_up mok 22 w142_mok_22) 33 w10_mok_33)) H → va_D A (wM cI mo mor moi (va_up (va_up mok 22 w142_mok_22) 33 w10_mok_33)) → va_S A s.heap H locs → lv_has ls 3 [(2, .int v142_2), (0, .ref mo), (1, .ref (mor 22))] → W p l e ({ frames := 0, cells := 0, slots := 0, locals := 0 } : Room) s m args below meth c H locs 0 0 Q (F0 m 142 ls []) := by
                        intro n142
                        induction n142 with
                        | zero => intro v142_2 w142_mok_22 he; exact absurd he hne
                        | succ n142 ih142 =>
                          intro v142_2 w142_mok_22 he H locs ls hP hD hS hl
                          replace he := he.trans (fX7_ring_now_L142.eq_2 _ _ _ _ _)
                          refine lv_iload_n hx hb dX7_ring_142 rfl (lv_at hl 0 rfl) ?_
                          refine lv_aload_n hx hb dX7_ring_143 rfl (lv_at hl 1 rfl) ?_
                          refine va_get (D := D) (ci := 7) (v := .int (moi 13)) (C := RX7) (T := TX7) (N := 35) hx hb hts hi_X7_ring_now_7 hown hK hP 0 rfl rfl 13 (by decide) (hts (.fieldLink RX7 71 "BlindLanternsModel" "men" "I") (List.mem_of_getElem? (i := 1) rfl)) (fun _ h9 => h9) rfl dX7_ring_144 ?_
                          refine lv_icmp_ge (tgt := 196) hx hb dX7_ring_147 (by decide) (fun c173 => ?_) (fun c173 => ?_)
                          · replace he := he.trans (if_pos c173)
                            exact hret (w142_mok_22, w10_mok_33) _ _ _ _ dX7_ring_196 he hP hD hS
                          · replace he := he.trans (if_neg c173)
                            refine lv_aload_n hx hb dX7_ring_150 rfl (lv_at hl 2 rfl) ?_
                            refine lv_bipush (v := 6) hx hb dX7_ring_151 (by decide) ?_
                            refine lv_iload_n hx hb dX7_ring_153 rfl (lv_at hl 0 rfl) ?_
                            refine lv_iadd hx hb dX7_ring_154 ?_
                            refine lv_dup2_11 hx hb dX7_ring_155 rfl rfl ?_
                            by_cases g174 : ((6 : Int32) + v142_2) < 0 ∨ 19 ≤ ((6 : Int32) + v142_2).toNatClampNeg
                            · exact absurd (he.trans (if_pos g174)) hne
                            replace he := he.trans (if_neg g174)
                            refine va_iald hx hb hK hP 11 0 rfl rfl g174 dX7_ring_156 ?_
                            refine lv_aload_n hx hb dX7_ring_157 rfl (lv_at hl 2 rfl) ?_
                            refine lv_bipush (v := 12) hx hb dX7_ring_158 (by decide) ?_
                            refine lv_iload_n hx hb dX7_ring_160 rfl (lv_at hl 0 rfl) ?_
                            refine lv_iadd hx hb dX7_ring_161 ?_
                            by_cases g175 : ((12 : Int32) + v142_2) < 0 ∨ 19 ≤ ((12 : Int32) + v142_2).toNatClampNeg
                            · exact absurd (he.trans (if_pos g175)) hne
                            replace he := he.trans (if_neg g175)
                            refine va_iald hx hb hK hP 11 0 rfl rfl g175 dX7_ring_162 ?_
                            refine lv_isub hx hb dX7_ring_163 ?_
                            by_cases g176 : ((6 : Int32) + v142_2) < 0 ∨ 19 ≤ ((6 : Int32) + v142_2).toNatClampNeg
                            · exact absurd (he.trans (if_pos g176)) hne
                            replace he := he.trans (if_neg g176)
                            refine va_iast hx hb hK hP hD hS 11 0 rfl rfl g176 dX7_ring_164 (fun H locs hP hD hS => ?_)
                            have hP : va_P D vwCl (wM cI mo mor moi (va_up (va_up mok 22 (upd w142_mok_22 ((6 : Int32) + v142_2).toNatClampNeg ((w142_mok_22 ((6 : Int32) + v142_2).toNatClampNeg) - (w142_mok_22 ((12 : Int32) + v142_2).toNatClampNeg)))) 33 w10_mok_33)) H := hP
                            have hD : va_D A (wM cI mo mor moi (va_up (va_up mok 22 (upd w142_mok_22 ((6 : Int32) + v142_2).toNatClampNeg ((w142_mok_22 ((6 : Int32) + v142_2).toNatClampNeg) - (w142_mok_22 ((12 : Int32) + v142_2).toNatClampNeg)))) 33 w10_mok_33)) := hD
                            refine lv_aload_n hx hb dX7_ring_165 rfl (lv_at hl 2 rfl) ?_
                            refine lv_bipush (v := 12) hx hb dX7_ring_166 (by decide) ?_
                            refine lv_iload_n hx hb dX7_ring_168 rfl (lv_at hl 0 rfl) ?_
                            refine lv_iadd hx hb dX7_ring_169 ?_
                            refine lv_aload_n hx hb dX7_ring_170 rfl (lv_at hl 2 rfl) ?_
                            refine lv_bipush (v := 6) hx hb dX7_ring_171 (by decide) ?_
                            refine lv_iload_n hx hb dX7_ring_173 rfl (lv_at hl 0 rfl) ?_
                            refine lv_iadd hx hb dX7_ring_174 ?_
                            by_cases g177 : ((6 : Int32) + v142_2) < 0 ∨ 19 ≤ ((6 : Int32) + v142_2).toNatClampNeg
                            · exact absurd (he.trans (if_pos g177)) hne
                            replace he := he.trans (if_neg g177)
                            refine va_iald hx hb hK hP 11 0 rfl rfl g177 dX7_ring_175 ?_
                            refine lv_if_ne (tgt := 183) hx hb dX7_ring_176 (by decide) (fun c178 => ?_) (fun c178 => ?_)
                            · replace he := he.trans (if_neg c178)
                              refine lv_aload_n hx hb dX7_ring_183 rfl (lv_at hl 2 rfl) ?_
                              refine lv_bipush (v := 12) hx hb dX7_ring_184 (by decide) ?_
                              refine lv_iload_n hx hb dX7_ring_186 rfl (lv_at hl 0 rfl) ?_
                              refine lv_iadd hx hb dX7_ring_187 ?_
                              by_cases g179 : ((12 : Int32) + v142_2) < 0 ∨ 19 ≤ ((12 : Int32) + v142_2).toNatClampNeg
                              · exact absurd (he.trans (if_pos g179)) hne
                              replace he := he.trans (if_neg g179)
                              refine va_iald hx hb hK hP 11 0 rfl rfl g179 dX7_ring_188 ?_
                              by_cases g180 : ((12 : Int32) + v142_2) < 0 ∨ 19 ≤ ((12 : Int32) + v142_2).toNatClampNeg
                              · exact absurd (he.trans (if_pos g180)) hne
                              replace he := he.trans (if_neg g180)
                              refine va_iast hx hb hK hP hD hS 11 0 rfl rfl g180 dX7_ring_189 (fun H locs hP hD hS => ?_)
                              have hP : va_P D vwCl (wM cI mo mor moi (va_up (va_up mok 22 (upd (upd w142_mok_22 ((6 : Int32) + v142_2).toNatClampNeg ((w142_mok_22 ((6 : Int32) + v142_2).toNatClampNeg) - (w142_mok_22 ((12 : Int32) + v142_2).toNatClampNeg))) ((12 : Int32) + v142_2).toNatClampNeg ((upd w142_mok_22 ((6 : Int32) + v142_2).toNatClampNeg ((w142_mok_22 ((6 : Int32) + v142_2).toNatClampNeg) - (w142_mok_22 ((12 : Int32) + v142_2).toNatClampNeg))) ((12 : Int32) + v142_2).toNatClampNeg))) 33 w10_mok_33)) H := hP
                              have hD : va_D A (wM cI mo mor moi (va_up (va_up mok 22 (upd (upd w142_mok_22 ((6 : Int32) + v142_2).toNatClampNeg ((w142_mok_22 ((6 : Int32) + v142_2).toNatClampNeg) - (w142_mok_22 ((12 : Int32) + v142_2).toNatClampNeg))) ((12 : Int32) + v142_2).toNatClampNeg ((upd w142_mok_22 ((6 : Int32) + v142_2).toNatClampNeg ((w142_mok_22 ((6 : Int32) + v142_2).toNatClampNeg) - (w142_mok_22 ((12 : Int32) + v142_2).toNatClampNeg))) ((12 : Int32) + v142_2).toNatClampNeg))) 33 w10_mok_33)) := hD
                              refine lv_iinc (v := (v142_2 + 1)) (lv' := [(2, .int (v142_2 + 1)), (0, .ref mo), (1, .ref (mor 22))]) hx hb dX7_ring_190 hl (k := 0) rfl rfl (by decide) rfl (fun ls hl => ?_)
                              refine lv_goto (tgt := 142) hx hb dX7_ring_193 (by decide) ?_
                              exact ih142 (v142_2 + 1) (upd (upd w142_mok_22 ((6 : Int32) + v142_2).toNatClampNeg ((w142_mok_22 ((6 : Int32) + v142_2).toNatClampNeg) - (w142_mok_22 ((12 : Int32) + v142_2).toNatClampNeg))) ((12 : Int32) + v142_2).toNatClampNeg ((upd w142_mok_22 ((6 : Int32) + v142_2).toNatClampNeg ((w142_mok_22 ((6 : Int32) + v142_2).toNatClampNeg) - (w142_mok_22 ((12 : Int32) + v142_2).toNatClampNeg))) ((12 : Int32) + v142_2).toNatClampNeg)) he _ _ _ hP hD hS (lv_sub hl [0, 1, 2] rfl)
                            · replace he := he.trans (if_pos c178)
                              refine lv_iconst (v := 0) hx hb dX7_ring_179 (by decide) ?_
                              refine lv_goto (tgt := 189) hx hb dX7_ring_180 (by decide) ?_
                              by_cases g181 : ((12 : Int32) + v142_2) < 0 ∨ 19 ≤ ((12 : Int32) + v142_2).toNatClampNeg
                              · exact absurd (he.trans (if_pos g181)) hne
                              replace he := he.trans (if_neg g181)
                              refine va_iast hx hb hK hP hD hS 11 0 rfl rfl g181 dX7_ring_189 (fun H locs hP hD hS => ?_)
                              have hP : va_P D vwCl (wM cI mo mor moi (va_up (va_up mok 22 (upd (upd w142_mok_22 ((6 : Int32) + v142_2).toNatClampNeg ((w142_mok_22 ((6 : Int32) + v142_2).toNatClampNeg) - (w142_mok_22 ((12 : Int32) + v142_2).toNatClampNeg))) ((12 : Int32) + v142_2).toNatClampNeg (0 : Int32))) 33 w10_mok_33)) H := hP
                              have hD : va_D A (wM cI mo mor moi (va_up (va_up mok 22 (upd (upd w142_mok_22 ((6 : Int32) + v142_2).toNatClampNeg ((w142_mok_22 ((6 : Int32) + v142_2).toNatClampNeg) - (w142_mok_22 ((12 : Int32) + v142_2).toNatClampNeg))) ((12 : Int32) + v142_2).toNatClampNeg (0 : Int32))) 33 w10_mok_33)) := hD
                              refine lv_iinc (v := (v142_2 + 1)) (lv' := [(2, .int (v142_2 + 1)), (0, .ref mo), (1, .ref (mor 22))]) hx hb dX7_ring_190 hl (k := 0) rfl rfl (by decide) rfl (fun ls hl => ?_)
                              refine lv_goto (tgt := 142) hx hb dX7_ring_193 (by decide) ?_
                              exact ih142 (v142_2 + 1) (upd (upd w142_mok_22 ((6 : Int32) + v142_2).toNatClampNeg ((w142_mok_22 ((6 : Int32) + v142_2).toNatClampNeg) - (w142_mok_22 ((12 : Int32) + v142_2).toNatClampNeg))) ((12 : Int32) + v142_2).toNatClampNeg (0 : Int32)) he _ _ _ hP hD hS (lv_sub hl [0, 1, 2] rfl)
                      exact L142 F (0 : Int32) w70_mok_22 he _ _ _ hP hD hS (lv_sub hl [0, 1, 2] rfl)
                    · replace he := he.trans (if_pos c172)
                      refine lv_aload_n hx hb dX7_ring_128 rfl (lv_at hl 2 rfl) ?_
                      refine lv_bipush (v := 12) hx hb dX7_ring_129 (by decide) ?_
                      refine lv_aload_n hx hb dX7_ring_131 rfl (lv_at hl 2 rfl) ?_
                      refine lv_aload_n hx hb dX7_ring_132 rfl (lv_at hl 1 rfl) ?_
                      refine va_get (D := D) (ci := 7) (v := .int (moi 31)) (C := RX7) (T := TX7) (N := 35) hx hb hts hi_X7_ring_now_7 hown hK hP 0 rfl rfl 31 (by decide) (hts (.fieldLink RX7 59 "BlindLanternsModel" "atPost" "I") (List.mem_of_getElem? (i := 7) rfl)) (fun _ h9 => h9) rfl dX7_ring_133 ?_
                      by_cases g182 : (moi 31) < 0 ∨ 19 ≤ (moi 31).toNatClampNeg
                      · exact absurd (he.trans (if_pos g182)) hne
                      replace he := he.trans (if_neg g182)
                      refine va_iald hx hb hK hP 11 0 rfl rfl g182 dX7_ring_136 ?_
                      refine lv_iadd hx hb dX7_ring_137 ?_
                      refine lv_iconst (v := 0) hx hb dX7_ring_138 (by decide) ?_
                      by_cases g183 : ((12 : Int32) + (w70_mok_22 (moi 31).toNatClampNeg)) < 0 ∨ 19 ≤ ((12 : Int32) + (w70_mok_22 (moi 31).toNatClampNeg)).toNatClampNeg
                      · exact absurd (he.trans (if_pos g183)) hne
                      replace he := he.trans (if_neg g183)
                      refine va_iast hx hb hK hP hD hS 11 0 rfl rfl g183 dX7_ring_139 (fun H locs hP hD hS => ?_)
                      have hP : va_P D vwCl (wM cI mo mor moi (va_up (va_up mok 22 (upd w70_mok_22 ((12 : Int32) + (w70_mok_22 (moi 31).toNatClampNeg)).toNatClampNeg (0 : Int32))) 33 w10_mok_33)) H := hP
                      have hD : va_D A (wM cI mo mor moi (va_up (va_up mok 22 (upd w70_mok_22 ((12 : Int32) + (w70_mok_22 (moi 31).toNatClampNeg)).toNatClampNeg (0 : Int32))) 33 w10_mok_33)) := hD
                      refine lv_iconst (v := 0) hx hb dX7_ring_140 (by decide) ?_
                      refine lv_istore_n (lv' := [(2, .int (0 : Int32)), (0, .ref mo), (1, .ref (mor 22))]) hx hb dX7_ring_141 rfl hl (by decide) rfl (fun ls hl => ?_)
                      have L142 : ∀ (n142 : Nat) (v142_2 : Int32) (w142_mok_22 : Nat → Int32), fX7_ring_now F (moi 13) (moi 17) (moi 18) (moi 30) (moi 31) (mok 19) (mok 22) (mok 33) = fX7_ring_now_L142 (moi 13) (fun (v142_2 : Int32) (w142_mok_22 : Nat → Int32) => some (w142_mok_22, w10_mok_33)) n142 v142_2 w142_mok_22 → ∀ (H : Heap) (locs : List Loc) (ls : Array Slot), va_P D vwCl (wM cI mo mor moi (va_up (va_up mok 22 w142_mok_22) 33 w10_mok_33)) H → va_D A (wM cI mo mor moi (va_up (va_up mok 22 w142_mok_22) 33 w10_mok_33)) → va_S A s.heap H locs → lv_has ls 3 [(2, .int v142_2), (0, .ref mo), (1, .ref (mor 22))] → W p l e ({ frames := 0, cells := 0, slots := 0, locals := 0 } : Room) s m args below meth c H locs 0 0 Q (F0 m 142 ls []) := by
                        intro n142
                        induction n142 with
                        | zero => intro v142_2 w142_mok_22 he; exact absurd he hne
                        | succ n142 ih142 =>
                          intro v142_2 w142_mok_22 he H locs ls hP hD hS hl
                          replace he := he.trans (fX7_ring_now_L142.eq_2 _ _ _ _ _)
                          refine lv_iload_n hx hb dX7_ring_142 rfl (lv_at hl 0 rfl) ?_
                          refine lv_aload_n hx hb dX7_ring_143 rfl (lv_at hl 1 rfl) ?_
                          refine va_get (D := D) (ci := 7) (v := .int (moi 13)) (C := RX7) (T := TX7) (N := 35) hx hb hts hi_X7_ring_now_7 hown hK hP 0 rfl rfl 13 (by decide) (hts (.fieldLink RX7 71 "BlindLanternsModel" "men" "I") (List.mem_of_getElem? (i := 1) rfl)) (fun _ h9 => h9) rfl dX7_ring_144 ?_
                          refine lv_icmp_ge (tgt := 196) hx hb dX7_ring_147 (by decide) (fun c184 => ?_) (fun c184 => ?_)
                          · replace he := he.trans (if_pos c184)
                            exact hret (w142_mok_22, w10_mok_33) _ _ _ _ dX7_ring_196 he hP hD hS
                          · replace he := he.trans (if_neg c184)
                            refine lv_aload_n hx hb dX7_ring_150 rfl (lv_at hl 2 rfl) ?_
                            refine lv_bipush (v := 6) hx hb dX7_ring_151 (by decide) ?_
                            refine lv_iload_n hx hb dX7_ring_153 rfl (lv_at hl 0 rfl) ?_
                            refine lv_iadd hx hb dX7_ring_154 ?_
                            refine lv_dup2_11 hx hb dX7_ring_155 rfl rfl ?_
                            by_cases g185 : ((6 : Int32) + v142_2) < 0 ∨ 19 ≤ ((6 : Int32) + v142_2).toNatClampNeg
                            · exact absurd (he.trans (if_pos g185)) hne
                            replace he := he.trans (if_neg g185)
                            refine va_iald hx hb hK hP 11 0 rfl rfl g185 dX7_ring_156 ?_
                            refine lv_aload_n hx hb dX7_ring_157 rfl (lv_at hl 2 rfl) ?_
                            refine lv_bipush (v := 12) hx hb dX7_ring_158 (by decide) ?_
                            refine lv_iload_n hx hb dX7_ring_160 rfl (lv_at hl 0 rfl) ?_
                            refine lv_iadd hx hb dX7_ring_161 ?_
                            by_cases g186 : ((12 : Int32) + v142_2) < 0 ∨ 19 ≤ ((12 : Int32) + v142_2).toNatClampNeg
                            · exact absurd (he.trans (if_pos g186)) hne
                            replace he := he.trans (if_neg g186)
                            refine va_iald hx hb hK hP 11 0 rfl rfl g186 dX7_ring_162 ?_
                            refine lv_isub hx hb dX7_ring_163 ?_
                            by_cases g187 : ((6 : Int32) + v142_2) < 0 ∨ 19 ≤ ((6 : Int32) + v142_2).toNatClampNeg
                            · exact absurd (he.trans (if_pos g187)) hne
                            replace he := he.trans (if_neg g187)
                            refine va_iast hx hb hK hP hD hS 11 0 rfl rfl g187 dX7_ring_164 (fun H locs hP hD hS => ?_)
                            have hP : va_P D vwCl (wM cI mo mor moi (va_up (va_up mok 22 (upd w142_mok_22 ((6 : Int32) + v142_2).toNatClampNeg ((w142_mok_22 ((6 : Int32) + v142_2).toNatClampNeg) - (w142_mok_22 ((12 : Int32) + v142_2).toNatClampNeg)))) 33 w10_mok_33)) H := hP
                            have hD : va_D A (wM cI mo mor moi (va_up (va_up mok 22 (upd w142_mok_22 ((6 : Int32) + v142_2).toNatClampNeg ((w142_mok_22 ((6 : Int32) + v142_2).toNatClampNeg) - (w142_mok_22 ((12 : Int32) + v142_2).toNatClampNeg)))) 33 w10_mok_33)) := hD
                            refine lv_aload_n hx hb dX7_ring_165 rfl (lv_at hl 2 rfl) ?_
                            refine lv_bipush (v := 12) hx hb dX7_ring_166 (by decide) ?_
                            refine lv_iload_n hx hb dX7_ring_168 rfl (lv_at hl 0 rfl) ?_
                            refine lv_iadd hx hb dX7_ring_169 ?_
                            refine lv_aload_n hx hb dX7_ring_170 rfl (lv_at hl 2 rfl) ?_
                            refine lv_bipush (v := 6) hx hb dX7_ring_171 (by decide) ?_
                            refine lv_iload_n hx hb dX7_ring_173 rfl (lv_at hl 0 rfl) ?_
                            refine lv_iadd hx hb dX7_ring_174 ?_
                            by_cases g188 : ((6 : Int32) + v142_2) < 0 ∨ 19 ≤ ((6 : Int32) + v142_2).toNatClampNeg
                            · exact absurd (he.trans (if_pos g188)) hne
                            replace he := he.trans (if_neg g188)
                            refine va_iald hx hb hK hP 11 0 rfl rfl g188 dX7_ring_175 ?_
                            refine lv_if_ne (tgt := 183) hx hb dX7_ring_176 (by decide) (fun c189 => ?_) (fun c189 => ?_)
                            · replace he := he.trans (if_neg c189)
                              refine lv_aload_n hx hb dX7_ring_183 rfl (lv_at hl 2 rfl) ?_
                              refine lv_bipush (v := 12) hx hb dX7_ring_184 (by decide) ?_
                              refine lv_iload_n hx hb dX7_ring_186 rfl (lv_at hl 0 rfl) ?_
                              refine lv_iadd hx hb dX7_ring_187 ?_
                              by_cases g190 : ((12 : Int32) + v142_2) < 0 ∨ 19 ≤ ((12 : Int32) + v142_2).toNatClampNeg
                              · exact absurd (he.trans (if_pos g190)) hne
                              replace he := he.trans (if_neg g190)
                              refine va_iald hx hb hK hP 11 0 rfl rfl g190 dX7_ring_188 ?_
                              by_cases g191 : ((12 : Int32) + v142_2) < 0 ∨ 19 ≤ ((12 : Int32) + v142_2).toNatClampNeg
                              · exact absurd (he.trans (if_pos g191)) hne
                              replace he := he.trans (if_neg g191)
                              refine va_iast hx hb hK hP hD hS 11 0 rfl rfl g191 dX7_ring_189 (fun H locs hP hD hS => ?_)
                              have hP : va_P D vwCl (wM cI mo mor moi (va_up (va_up mok 22 (upd (upd w142_mok_22 ((6 : Int32) + v142_2).toNatClampNeg ((w142_mok_22 ((6 : Int32) + v142_2).toNatClampNeg) - (w142_mok_22 ((12 : Int32) + v142_2).toNatClampNeg))) ((12 : Int32) + v142_2).toNatClampNeg ((upd w142_mok_22 ((6 : Int32) + v142_2).toNatClampNeg ((w142_mok_22 ((6 : Int32) + v142_2).toNatClampNeg) - (w142_mok_22 ((12 : Int32) + v142_2).toNatClampNeg))) ((12 : Int32) + v142_2).toNatClampNeg))) 33 w10_mok_33)) H := hP
                              have hD : va_D A (wM cI mo mor moi (va_up (va_up mok 22 (upd (upd w142_mok_22 ((6 : Int32) + v142_2).toNatClampNeg ((w142_mok_22 ((6 : Int32) + v142_2).toNatClampNeg) - (w142_mok_22 ((12 : Int32) + v142_2).toNatClampNeg))) ((12 : Int32) + v142_2).toNatClampNeg ((upd w142_mok_22 ((6 : Int32) + v142_2).toNatClampNeg ((w142_mok_22 ((6 : Int32) + v142_2).toNatClampNeg) - (w142_mok_22 ((12 : Int32) + v142_2).toNatClampNeg))) ((12 : Int32) + v142_2).toNatClampNeg))) 33 w10_mok_33)) := hD
                              refine lv_iinc (v := (v142_2 + 1)) (lv' := [(2, .int (v142_2 + 1)), (0, .ref mo), (1, .ref (mor 22))]) hx hb dX7_ring_190 hl (k := 0) rfl rfl (by decide) rfl (fun ls hl => ?_)
                              refine lv_goto (tgt := 142) hx hb dX7_ring_193 (by decide) ?_
                              exact ih142 (v142_2 + 1) (upd (upd w142_mok_22 ((6 : Int32) + v142_2).toNatClampNeg ((w142_mok_22 ((6 : Int32) + v142_2).toNatClampNeg) - (w142_mok_22 ((12 : Int32) + v142_2).toNatClampNeg))) ((12 : Int32) + v142_2).toNatClampNeg ((upd w142_mok_22 ((6 : Int32) + v142_2).toNatClampNeg ((w142_mok_22 ((6 : Int32) + v142_2).toNatClampNeg) - (w142_mok_22 ((12 : Int32) + v142_2).toNatClampNeg))) ((12 : Int32) + v142_2).toNatClampNeg)) he _ _ _ hP hD hS (lv_sub hl [0, 1, 2] rfl)
                            · replace he := he.trans (if_pos c189)
                              refine lv_iconst (v := 0) hx hb dX7_ring_179 (by decide) ?_
                              refine lv_goto (tgt := 189) hx hb dX7_ring_180 (by decide) ?_
                              by_cases g192 : ((12 : Int32) + v142_2) < 0 ∨ 19 ≤ ((12 : Int32) + v142_2).toNatClampNeg
                              · exact absurd (he.trans (if_pos g192)) hne
                              replace he := he.trans (if_neg g192)
                              refine va_iast hx hb hK hP hD hS 11 0 rfl rfl g192 dX7_ring_189 (fun H locs hP hD hS => ?_)
                              have hP : va_P D vwCl (wM cI mo mor moi (va_up (va_up mok 22 (upd (upd w142_mok_22 ((6 : Int32) + v142_2).toNatClampNeg ((w142_mok_22 ((6 : Int32) + v142_2).toNatClampNeg) - (w142_mok_22 ((12 : Int32) + v142_2).toNatClampNeg))) ((12 : Int32) + v142_2).toNatClampNeg (0 : Int32))) 33 w10_mok_33)) H := hP
                              have hD : va_D A (wM cI mo mor moi (va_up (va_up mok 22 (upd (upd w142_mok_22 ((6 : Int32) + v142_2).toNatClampNeg ((w142_mok_22 ((6 : Int32) + v142_2).toNatClampNeg) - (w142_mok_22 ((12 : Int32) + v142_2).toNatClampNeg))) ((12 : Int32) + v142_2).toNatClampNeg (0 : Int32))) 33 w10_mok_33)) := hD
                              refine lv_iinc (v := (v142_2 + 1)) (lv' := [(2, .int (v142_2 + 1)), (0, .ref mo), (1, .ref (mor 22))]) hx hb dX7_ring_190 hl (k := 0) rfl rfl (by decide) rfl (fun ls hl => ?_)
                              refine lv_goto (tgt := 142) hx hb dX7_ring_193 (by decide) ?_
                              exact ih142 (v142_2 + 1) (upd (upd w142_mok_22 ((6 : Int32) + v142_2).toNatClampNeg ((w142_mok_22 ((6 : Int32) + v142_2).toNatClampNeg) - (w142_mok_22 ((12 : Int32) + v142_2).toNatClampNeg))) ((12 : Int32) + v142_2).toNatClampNeg (0 : Int32)) he _ _ _ hP hD hS (lv_sub hl [0, 1, 2] rfl)
                      exact L142 F (0 : Int32) (upd w70_mok_22 ((12 : Int32) + (w70_mok_22 (moi 31).toNatClampNeg)).toNatClampNeg (0 : Int32)) he _ _ _ hP hD hS (lv_sub hl [0, 1, 2] rfl)
                  · replace he := he.trans (if_neg c171)
                    refine lv_aload_n hx hb dX7_ring_78 rfl (lv_at hl 1 rfl) ?_
                    refine va_get (D := D) (ci := 7) (v := .ref (mor 19)) (C := RX7) (T := TX7) (N := 35) hx hb hts hi_X7_ring_now_7 hown hK hP 0 rfl rfl 19 (by decide) (hts (.fieldLink RX7 37 "BlindLanternsModel" "draught" "[I") (List.mem_of_getElem? (i := 5) rfl)) (fun _ h9 => h9) rfl dX7_ring_79 ?_
                    refine lv_iconst (v := 2) hx hb dX7_ring_82 (by decide) ?_
                    refine lv_iload_n hx hb dX7_ring_83 rfl (lv_at hl 0 rfl) ?_
                    refine lv_imul hx hb dX7_ring_84 ?_
                    by_cases g193 : ((2 : Int32) * v70_2) < 0 ∨ 12 ≤ ((2 : Int32) * v70_2).toNatClampNeg
                    · exact absurd (he.trans (if_pos g193)) hne
                    replace he := he.trans (if_neg g193)
                    refine va_iald hx hb hK hP 10 0 rfl rfl g193 dX7_ring_85 ?_
                    refine lv_aload_n hx hb dX7_ring_86 rfl (lv_at hl 2 rfl) ?_
                    refine lv_bipush (v := 18) hx hb dX7_ring_87 (by decide) ?_
                    refine va_iald hx hb hK hP 11 0 rfl rfl (by decide) dX7_ring_89 ?_
                    refine lv_icmp_ne (tgt := 111) hx hb dX7_ring_90 (by decide) (fun c194 => ?_) (fun c194 => ?_)
                    · replace he := he.trans (if_neg c194)
                      refine lv_iinc (v := (v70_2 + 1)) (lv' := [(2, .int (v70_2 + 1)), (0, .ref mo), (1, .ref (mor 22))]) hx hb dX7_ring_111 hl (k := 0) rfl rfl (by decide) rfl (fun ls hl => ?_)
                      refine lv_goto (tgt := 70) hx hb dX7_ring_114 (by decide) ?_
                      exact ih70 (v70_2 + 1) w70_mok_22 he _ _ _ hP hD hS (lv_sub hl [0, 1, 2] rfl)
                    · replace he := he.trans (if_pos c194)
                      refine lv_aload_n hx hb dX7_ring_93 rfl (lv_at hl 2 rfl) ?_
                      refine lv_bipush (v := 12) hx hb dX7_ring_94 (by decide) ?_
                      refine lv_aload_n hx hb dX7_ring_96 rfl (lv_at hl 2 rfl) ?_
                      refine lv_aload_n hx hb dX7_ring_97 rfl (lv_at hl 1 rfl) ?_
                      refine va_get (D := D) (ci := 7) (v := .ref (mor 19)) (C := RX7) (T := TX7) (N := 35) hx hb hts hi_X7_ring_now_7 hown hK hP 0 rfl rfl 19 (by decide) (hts (.fieldLink RX7 37 "BlindLanternsModel" "draught" "[I") (List.mem_of_getElem? (i := 5) rfl)) (fun _ h9 => h9) rfl dX7_ring_98 ?_
                      refine lv_iconst (v := 2) hx hb dX7_ring_101 (by decide) ?_
                      refine lv_iload_n hx hb dX7_ring_102 rfl (lv_at hl 0 rfl) ?_
                      refine lv_imul hx hb dX7_ring_103 ?_
                      refine lv_iconst (v := 1) hx hb dX7_ring_104 (by decide) ?_
                      refine lv_iadd hx hb dX7_ring_105 ?_
                      by_cases g195 : (((2 : Int32) * v70_2) + (1 : Int32)) < 0 ∨ 12 ≤ (((2 : Int32) * v70_2) + (1 : Int32)).toNatClampNeg
                      · exact absurd (he.trans (if_pos g195)) hne
                      replace he := he.trans (if_neg g195)
                      refine va_iald hx hb hK hP 10 0 rfl rfl g195 dX7_ring_106 ?_
                      by_cases g196 : ((mok 19) (((2 : Int32) * v70_2) + (1 : Int32)).toNatClampNeg) < 0 ∨ 19 ≤ ((mok 19) (((2 : Int32) * v70_2) + (1 : Int32)).toNatClampNeg).toNatClampNeg
                      · exact absurd (he.trans (if_pos g196)) hne
                      replace he := he.trans (if_neg g196)
                      refine va_iald hx hb hK hP 11 0 rfl rfl g196 dX7_ring_107 ?_
                      refine lv_iadd hx hb dX7_ring_108 ?_
                      refine lv_iconst (v := 0) hx hb dX7_ring_109 (by decide) ?_
                      by_cases g197 : ((12 : Int32) + (w70_mok_22 ((mok 19) (((2 : Int32) * v70_2) + (1 : Int32)).toNatClampNeg).toNatClampNeg)) < 0 ∨ 19 ≤ ((12 : Int32) + (w70_mok_22 ((mok 19) (((2 : Int32) * v70_2) + (1 : Int32)).toNatClampNeg).toNatClampNeg)).toNatClampNeg
                      · exact absurd (he.trans (if_pos g197)) hne
                      replace he := he.trans (if_neg g197)
                      refine va_iast hx hb hK hP hD hS 11 0 rfl rfl g197 dX7_ring_110 (fun H locs hP hD hS => ?_)
                      have hP : va_P D vwCl (wM cI mo mor moi (va_up (va_up mok 22 (upd w70_mok_22 ((12 : Int32) + (w70_mok_22 ((mok 19) (((2 : Int32) * v70_2) + (1 : Int32)).toNatClampNeg).toNatClampNeg)).toNatClampNeg (0 : Int32))) 33 w10_mok_33)) H := hP
                      have hD : va_D A (wM cI mo mor moi (va_up (va_up mok 22 (upd w70_mok_22 ((12 : Int32) + (w70_mok_22 ((mok 19) (((2 : Int32) * v70_2) + (1 : Int32)).toNatClampNeg).toNatClampNeg)).toNatClampNeg (0 : Int32))) 33 w10_mok_33)) := hD
                      refine lv_iinc (v := (v70_2 + 1)) (lv' := [(2, .int (v70_2 + 1)), (0, .ref mo), (1, .ref (mor 22))]) hx hb dX7_ring_111 hl (k := 0) rfl rfl (by decide) rfl (fun ls hl => ?_)
                      refine lv_goto (tgt := 70) hx hb dX7_ring_114 (by decide) ?_
                      exact ih70 (v70_2 + 1) (upd w70_mok_22 ((12 : Int32) + (w70_mok_22 ((mok 19) (((2 : Int32) * v70_2) + (1 : Int32)).toNatClampNeg).toNatClampNeg)).toNatClampNeg (0 : Int32)) he _ _ _ hP hD hS (lv_sub hl [0, 1, 2] rfl)
              exact L70 F (0 : Int32) w45_mok_22 he _ _ _ hP hD hS (lv_sub hl [0, 1, 2] rfl)
            · replace he := he.trans (if_neg c149)
              refine lv_aload_n hx hb dX7_ring_53 rfl (lv_at hl 2 rfl) ?_
              refine lv_iload_n hx hb dX7_ring_54 rfl (lv_at hl 0 rfl) ?_
              refine lv_aload_n hx hb dX7_ring_55 rfl (lv_at hl 1 rfl) ?_
              refine va_get (D := D) (ci := 7) (v := .ref (mor 33)) (C := RX7) (T := TX7) (N := 35) hx hb hts hi_X7_ring_now_7 hown hK hP 0 rfl rfl 33 (by decide) (hts (.fieldLink RX7 65 "BlindLanternsModel" "moved" "[I") (List.mem_of_getElem? (i := 2) rfl)) (fun _ h9 => h9) rfl dX7_ring_56 ?_
              refine lv_iload_n hx hb dX7_ring_59 rfl (lv_at hl 0 rfl) ?_
              by_cases g198 : v45_2 < 0 ∨ 6 ≤ v45_2.toNatClampNeg
              · exact absurd (he.trans (if_pos g198)) hne
              replace he := he.trans (if_neg g198)
              refine va_iald hx hb hK hP 16 0 rfl rfl g198 dX7_ring_60 ?_
              by_cases g199 : v45_2 < 0 ∨ 19 ≤ v45_2.toNatClampNeg
              · exact absurd (he.trans (if_pos g199)) hne
              replace he := he.trans (if_neg g199)
              refine va_iast hx hb hK hP hD hS 11 0 rfl rfl g199 dX7_ring_61 (fun H locs hP hD hS => ?_)
              have hP : va_P D vwCl (wM cI mo mor moi (va_up (va_up mok 22 (upd w45_mok_22 v45_2.toNatClampNeg (w10_mok_33 v45_2.toNatClampNeg))) 33 w10_mok_33)) H := hP
              have hD : va_D A (wM cI mo mor moi (va_up (va_up mok 22 (upd w45_mok_22 v45_2.toNatClampNeg (w10_mok_33 v45_2.toNatClampNeg))) 33 w10_mok_33)) := hD
              refine lv_iinc (v := (v45_2 + 1)) (lv' := [(2, .int (v45_2 + 1)), (0, .ref mo), (1, .ref (mor 22))]) hx hb dX7_ring_62 hl (k := 0) rfl rfl (by decide) rfl (fun ls hl => ?_)
              refine lv_goto (tgt := 45) hx hb dX7_ring_65 (by decide) ?_
              exact ih45 (v45_2 + 1) (upd w45_mok_22 v45_2.toNatClampNeg (w10_mok_33 v45_2.toNatClampNeg)) he _ _ _ hP hD hS (lv_sub hl [0, 1, 2] rfl)
        exact L45 F (0 : Int32) (upd (mok 22) (18 : Int32).toNatClampNeg (((mok 22) (18 : Int32).toNatClampNeg) + (1 : Int32))) he _ _ _ hP hD hS (lv_sub hl [0, 1, 2] rfl)
      · replace he := he.trans (if_neg c100)
        refine lv_aload_n hx hb dX7_ring_18 rfl (lv_at hl 1 rfl) ?_
        refine va_get (D := D) (ci := 7) (v := .ref (mor 33)) (C := RX7) (T := TX7) (N := 35) hx hb hts hi_X7_ring_now_7 hown hK hP 0 rfl rfl 33 (by decide) (hts (.fieldLink RX7 65 "BlindLanternsModel" "moved" "[I") (List.mem_of_getElem? (i := 2) rfl)) (fun _ h9 => h9) rfl dX7_ring_19 ?_
        refine lv_iload_n hx hb dX7_ring_22 rfl (lv_at hl 0 rfl) ?_
        refine lv_aload_n hx hb dX7_ring_23 rfl (lv_at hl 1 rfl) ?_
        refine va_get (D := D) (ci := 7) (v := .int (moi 17)) (C := RX7) (T := TX7) (N := 35) hx hb hts hi_X7_ring_now_7 hown hK hP 0 rfl rfl 17 (by decide) (hts (.fieldLink RX7 74 "BlindLanternsModel" "on" "I") (List.mem_of_getElem? (i := 3) rfl)) (fun _ h9 => h9) rfl dX7_ring_24 ?_
        refine lv_iadd hx hb dX7_ring_27 ?_
        refine lv_aload_n hx hb dX7_ring_28 rfl (lv_at hl 1 rfl) ?_
        refine va_get (D := D) (ci := 7) (v := .int (moi 13)) (C := RX7) (T := TX7) (N := 35) hx hb hts hi_X7_ring_now_7 hown hK hP 0 rfl rfl 13 (by decide) (hts (.fieldLink RX7 71 "BlindLanternsModel" "men" "I") (List.mem_of_getElem? (i := 1) rfl)) (fun _ h9 => h9) rfl dX7_ring_29 ?_
        by_cases g200 : (moi 13) = 0
        · exact absurd (he.trans (if_pos g200)) hne
        replace he := he.trans (if_neg g200)
        refine lv_irem hx hb dX7_ring_32 g200 ?_
        refine lv_aload_n hx hb dX7_ring_33 rfl (lv_at hl 2 rfl) ?_
        refine lv_iload_n hx hb dX7_ring_34 rfl (lv_at hl 0 rfl) ?_
        by_cases g201 : v10_2 < 0 ∨ 19 ≤ v10_2.toNatClampNeg
        · exact absurd (he.trans (if_pos g201)) hne
        replace he := he.trans (if_neg g201)
        refine va_iald hx hb hK hP 11 0 rfl rfl g201 dX7_ring_35 ?_
        by_cases g202 : ((v10_2 + (moi 17)) - (v10_2 + (moi 17)) / (moi 13) * (moi 13)) < 0 ∨ 6 ≤ ((v10_2 + (moi 17)) - (v10_2 + (moi 17)) / (moi 13) * (moi 13)).toNatClampNeg
        · exact absurd (he.trans (if_pos g202)) hne
        replace he := he.trans (if_neg g202)
        refine va_iast hx hb hK hP hD hS 16 0 rfl rfl g202 dX7_ring_36 (fun H locs hP hD hS => ?_)
        have hP : va_P D vwCl (wM cI mo mor moi (va_up (va_up mok 22 (upd (mok 22) (18 : Int32).toNatClampNeg (((mok 22) (18 : Int32).toNatClampNeg) + (1 : Int32)))) 33 (upd w10_mok_33 ((v10_2 + (moi 17)) - (v10_2 + (moi 17)) / (moi 13) * (moi 13)).toNatClampNeg ((upd (mok 22) (18 : Int32).toNatClampNeg (((mok 22) (18 : Int32).toNatClampNeg) + (1 : Int32))) v10_2.toNatClampNeg)))) H := hP
        have hD : va_D A (wM cI mo mor moi (va_up (va_up mok 22 (upd (mok 22) (18 : Int32).toNatClampNeg (((mok 22) (18 : Int32).toNatClampNeg) + (1 : Int32)))) 33 (upd w10_mok_33 ((v10_2 + (moi 17)) - (v10_2 + (moi 17)) / (moi 13) * (moi 13)).toNatClampNeg ((upd (mok 22) (18 : Int32).toNatClampNeg (((mok 22) (18 : Int32).toNatClampNeg) + (1 : Int32))) v10_2.toNatClampNeg)))) := hD
        refine lv_iinc (v := (v10_2 + 1)) (lv' := [(2, .int (v10_2 + 1)), (0, .ref mo), (1, .ref (mor 22))]) hx hb dX7_ring_37 hl (k := 0) rfl rfl (by decide) rfl (fun ls hl => ?_)
        refine lv_goto (tgt := 10) hx hb dX7_ring_40 (by decide) ?_
        exact ih10 (v10_2 + 1) (upd w10_mok_33 ((v10_2 + (moi 17)) - (v10_2 + (moi 17)) / (moi 13) * (moi 13)).toNatClampNeg ((upd (mok 22) (18 : Int32).toNatClampNeg (((mok 22) (18 : Int32).toNatClampNeg) + (1 : Int32))) v10_2.toNatClampNeg)) he _ _ _ hP hD hS (lv_sub hl [0, 1, 2] rfl)
  exact L10 F (0 : Int32) (mok 33) he _ _ _ hP hD hS (lv_sub hl [0, 1, 2] rfl)

def fX7_ring_tried_L142 (moi_13 : Int32) (k142 : Int32 → (Nat → Int32) → Option ((Nat → Int32) × (Nat → Int32))) : Nat → Int32 → (Nat → Int32) → Option ((Nat → Int32) × (Nat → Int32))
  | 0, _, _ => none
  | n142 + 1, v142_2, w142_mok_23 => if moi_13 ≤ v142_2 then (k142 v142_2 w142_mok_23) else (if ((6 : Int32) + v142_2) < 0 ∨ 19 ≤ ((6 : Int32) + v142_2).toNatClampNeg then none else (if ((12 : Int32) + v142_2) < 0 ∨ 19 ≤ ((12 : Int32) + v142_2).toNatClampNeg then none else (if ((6 : Int32) + v142_2) < 0 ∨ 19 ≤ ((6 : Int32) + v142_2).toNatClampNeg then none else (if ((6 : Int32) + v142_2) < 0 ∨ 19 ≤ ((6 : Int32) + v142_2).toNatClampNeg then none else (if ((upd w142_mok_23 ((6 : Int32) + v142_2).toNatClampNeg ((w142_mok_23 ((6 : Int32) + v142_2).toNatClampNeg) - (w142_mok_23 ((12 : Int32) + v142_2).toNatClampNeg))) ((6 : Int32) + v142_2).toNatClampNeg) = 0 then (if ((12 : Int32) + v142_2) < 0 ∨ 19 ≤ ((12 : Int32) + v142_2).toNatClampNeg then none else (fX7_ring_tried_L142 moi_13 k142 n142 (v142_2 + 1) (upd (upd w142_mok_23 ((6 : Int32) + v142_2).toNatClampNeg ((w142_mok_23 ((6 : Int32) + v142_2).toNatClampNeg) - (w142_mok_23 ((12 : Int32) + v142_2).toNatClampNeg))) ((12 : Int32) + v142_2).toNatClampNeg (0 : Int32)))) else (if ((12 : Int32) + v142_2) < 0 ∨ 19 ≤ ((12 : Int32) + v142_2).toNatClampNeg then none else (if ((12 : Int32) + v142_2) < 0 ∨ 19 ≤ ((12 : Int32) + v142_2).toNatClampNeg then none else (fX7_ring_tried_L142 moi_13 k142 n142 (v142_2 + 1) (upd (upd w142_mok_23 ((6 : Int32) + v142_2).toNatClampNeg ((w142_mok_23 ((6 : Int32) + v142_2).toNatClampNeg) - (w142_mok_23 ((12 : Int32) + v142_2).toNatClampNeg))) ((12 : Int32) + v142_2).toNatClampNeg ((upd w142_mok_23 ((6 : Int32) + v142_2).toNatClampNeg ((w142_mok_23 ((6 : Int32) + v142_2).toNatClampNeg) - (w142_mok_23 ((12 : Int32) + v142_2).toNatClampNeg))) ((12 : Int32) + v142_2).toNatClampNeg))))))))))
def fX7_ring_tried_L70 (moi_18 : Int32) (mok_19 : Nat → Int32) (k70 : Int32 → (Nat → Int32) → Option ((Nat → Int32) × (Nat → Int32))) : Nat → Int32 → (Nat → Int32) → Option ((Nat → Int32) × (Nat → Int32))
  | 0, _, _ => none
  | n70 + 1, v70_2, w70_mok_23 => if moi_18 ≤ v70_2 then (k70 v70_2 w70_mok_23) else (if ((2 : Int32) * v70_2) < 0 ∨ 12 ≤ ((2 : Int32) * v70_2).toNatClampNeg then none else (if (mok_19 ((2 : Int32) * v70_2).toNatClampNeg) = (w70_mok_23 (18 : Int32).toNatClampNeg) then (if (((2 : Int32) * v70_2) + (1 : Int32)) < 0 ∨ 12 ≤ (((2 : Int32) * v70_2) + (1 : Int32)).toNatClampNeg then none else (if (mok_19 (((2 : Int32) * v70_2) + (1 : Int32)).toNatClampNeg) < 0 ∨ 19 ≤ (mok_19 (((2 : Int32) * v70_2) + (1 : Int32)).toNatClampNeg).toNatClampNeg then none else (if ((12 : Int32) + (w70_mok_23 (mok_19 (((2 : Int32) * v70_2) + (1 : Int32)).toNatClampNeg).toNatClampNeg)) < 0 ∨ 19 ≤ ((12 : Int32) + (w70_mok_23 (mok_19 (((2 : Int32) * v70_2) + (1 : Int32)).toNatClampNeg).toNatClampNeg)).toNatClampNeg then none else (fX7_ring_tried_L70 moi_18 mok_19 k70 n70 (v70_2 + 1) (upd w70_mok_23 ((12 : Int32) + (w70_mok_23 (mok_19 (((2 : Int32) * v70_2) + (1 : Int32)).toNatClampNeg).toNatClampNeg)).toNatClampNeg (0 : Int32)))))) else (fX7_ring_tried_L70 moi_18 mok_19 k70 n70 (v70_2 + 1) w70_mok_23)))
def fX7_ring_tried_L45 (moi_13 : Int32) (w10_mok_33 : Nat → Int32) (k45 : Int32 → (Nat → Int32) → Option ((Nat → Int32) × (Nat → Int32))) : Nat → Int32 → (Nat → Int32) → Option ((Nat → Int32) × (Nat → Int32))
  | 0, _, _ => none
  | n45 + 1, v45_2, w45_mok_23 => if moi_13 ≤ v45_2 then (k45 v45_2 w45_mok_23) else (if v45_2 < 0 ∨ 6 ≤ v45_2.toNatClampNeg then none else (if v45_2 < 0 ∨ 19 ≤ v45_2.toNatClampNeg then none else (fX7_ring_tried_L45 moi_13 w10_mok_33 k45 n45 (v45_2 + 1) (upd w45_mok_23 v45_2.toNatClampNeg (w10_mok_33 v45_2.toNatClampNeg)))))
def fX7_ring_tried_L10 (moi_13 : Int32) (moi_17 : Int32) (mok_23 : Nat → Int32) (k10 : Int32 → (Nat → Int32) → Option ((Nat → Int32) × (Nat → Int32))) : Nat → Int32 → (Nat → Int32) → Option ((Nat → Int32) × (Nat → Int32))
  | 0, _, _ => none
  | n10 + 1, v10_2, w10_mok_33 => if moi_13 ≤ v10_2 then (k10 v10_2 w10_mok_33) else (if moi_13 = 0 then none else (if v10_2 < 0 ∨ 19 ≤ v10_2.toNatClampNeg then none else (if ((v10_2 + moi_17) - (v10_2 + moi_17) / moi_13 * moi_13) < 0 ∨ 6 ≤ ((v10_2 + moi_17) - (v10_2 + moi_17) / moi_13 * moi_13).toNatClampNeg then none else (fX7_ring_tried_L10 moi_13 moi_17 mok_23 k10 n10 (v10_2 + 1) (upd w10_mok_33 ((v10_2 + moi_17) - (v10_2 + moi_17) / moi_13 * moi_13).toNatClampNeg ((upd mok_23 (18 : Int32).toNatClampNeg ((mok_23 (18 : Int32).toNatClampNeg) + (1 : Int32))) v10_2.toNatClampNeg))))))
def fX7_ring_tried (F : Nat) (moi_13 : Int32) (moi_17 : Int32) (moi_18 : Int32) (moi_30 : Int32) (moi_31 : Int32) (mok_19 : Nat → Int32) (mok_23 : Nat → Int32) (mok_33 : Nat → Int32) : Option ((Nat → Int32) × (Nat → Int32)) :=
  fX7_ring_tried_L10 moi_13 moi_17 mok_23 (fun (v10_2 : Int32) (w10_mok_33 : Nat → Int32) => fX7_ring_tried_L45 moi_13 w10_mok_33 (fun (v45_2 : Int32) (w45_mok_23 : Nat → Int32) => fX7_ring_tried_L70 moi_18 mok_19 (fun (v70_2 : Int32) (w70_mok_23 : Nat → Int32) => if moi_30 = (w70_mok_23 (18 : Int32).toNatClampNeg) then (if moi_31 < 0 ∨ 19 ≤ moi_31.toNatClampNeg then none else (if ((12 : Int32) + (w70_mok_23 moi_31.toNatClampNeg)) < 0 ∨ 19 ≤ ((12 : Int32) + (w70_mok_23 moi_31.toNatClampNeg)).toNatClampNeg then none else (fX7_ring_tried_L142 moi_13 (fun (v142_2 : Int32) (w142_mok_23 : Nat → Int32) => some (w142_mok_23, w10_mok_33)) F (0 : Int32) (upd w70_mok_23 ((12 : Int32) + (w70_mok_23 moi_31.toNatClampNeg)).toNatClampNeg (0 : Int32))))) else (fX7_ring_tried_L142 moi_13 (fun (v142_2 : Int32) (w142_mok_23 : Nat → Int32) => some (w142_mok_23, w10_mok_33)) F (0 : Int32) w70_mok_23)) F (0 : Int32) w45_mok_23) F (0 : Int32) (upd mok_23 (18 : Int32).toNatClampNeg ((mok_23 (18 : Int32).toNatClampNeg) + (1 : Int32)))) F (0 : Int32) mok_33
theorem hi_X7_ring_tried_7 : ∀ w ∈ wsX70, w ∈ wsX7_ring := fun _ h => (List.mem_cons_of_mem _ (List.mem_append_right _ h))
set_option maxHeartbeats 4000000 in
set_option maxRecDepth 100000 in
theorem c_X7_ring_tried (l : Launch) (D : va_G) (cI cP : ClassId) (sz : Nat) (mo : Nat) (mor : Nat → Nat) (moi : Nat → Int32) (mok : Nat → Nat → Int32) (F : Nat) (hne : fX7_ring_tried F (moi 13) (moi 17) (moi 18) (moi 30) (moi 31) (mok 19) (mok 23) (mok 33) ≠ none) : xMv l yX7_ring wsX7_ring ({ frames := 0, cells := 0, slots := 0, locals := 0 } : Room) D (xT cI cP) [.ref mo, .ref (mor 23)] (wM cI mo mor moi mok) sz (fun (u : ((Nat → Int32) × (Nat → Int32))) => fX7_ring_tried F (moi 13) (moi 17) (moi 18) (moi 30) (moi 31) (mok 19) (mok 23) (mok 33) = some u) (fun u => wM cI mo mor moi (va_up (va_up mok 23 u.1) 33 u.2)) 0 0 := by
  refine xMv_of (cc := cX7_ring) (maxL := 3) (by decide +kernel) rfl (Nat.le_of_ble_eq_true rfl) ?_
  intro p e s m args below meth c A ls hx hb hml hown hts hname hN hK hA hP hD hS hl Q hret
  have he := fX7_ring_tried.eq_1 F (moi 13) (moi 17) (moi 18) (moi 30) (moi 31) (mok 19) (mok 23) (mok 33)
  have hl : lv_has ls 3 [(0, .ref mo), (1, .ref (mor 23))] := hl
  refine lv_aload_n hx hb dX7_ring_0 rfl (lv_at hl 1 rfl) ?_
  refine lv_bipush (v := 18) hx hb dX7_ring_1 (by decide) ?_
  refine lv_dup2_11 hx hb dX7_ring_3 rfl rfl ?_
  refine va_iald hx hb hK hP 12 0 rfl rfl (by decide) dX7_ring_4 ?_
  refine lv_iconst (v := 1) hx hb dX7_ring_5 (by decide) ?_
  refine lv_iadd hx hb dX7_ring_6 ?_
  refine va_iast hx hb hK hP hD hS 12 0 rfl rfl (by decide) dX7_ring_7 (fun H locs hP hD hS => ?_)
  have hP : va_P D vwCl (wM cI mo mor moi (va_up mok 23 (upd (mok 23) (18 : Int32).toNatClampNeg (((mok 23) (18 : Int32).toNatClampNeg) + (1 : Int32))))) H := hP
  have hD : va_D A (wM cI mo mor moi (va_up mok 23 (upd (mok 23) (18 : Int32).toNatClampNeg (((mok 23) (18 : Int32).toNatClampNeg) + (1 : Int32))))) := hD
  refine lv_iconst (v := 0) hx hb dX7_ring_8 (by decide) ?_
  refine lv_istore_n (lv' := [(2, .int (0 : Int32)), (0, .ref mo), (1, .ref (mor 23))]) hx hb dX7_ring_9 rfl hl (by decide) rfl (fun ls hl => ?_)
  have L10 : ∀ (n10 : Nat) (v10_2 : Int32) (w10_mok_33 : Nat → Int32), fX7_ring_tried F (moi 13) (moi 17) (moi 18) (moi 30) (moi 31) (mok 19) (mok 23) (mok 33) = fX7_ring_tried_L10 (moi 13) (moi 17) (mok 23) (fun (v10_2 : Int32) (w10_mok_33 : Nat → Int32) => fX7_ring_tried_L45 (moi 13) w10_mok_33 (fun (v45_2 : Int32) (w45_mok_23 : Nat → Int32) => fX7_ring_tried_L70 (moi 18) (mok 19) (fun (v70_2 : Int32) (w70_mok_23 : Nat → Int32) => if (moi 30) = (w70_mok_23 (18 : Int32).toNatClampNeg) then (if (moi 31) < 0 ∨ 19 ≤ (moi 31).toNatClampNeg then none else (if ((12 : Int32) + (w70_mok_23 (moi 31).toNatClampNeg)) < 0 ∨ 19 ≤ ((12 : Int32) + (w70_mok_23 (moi 31).toNatClampNeg)).toNatClampNeg then none else (fX7_ring_tried_L142 (moi 13) (fun (v142_2 : Int32) (w142_mok_23 : Nat → Int32) => some (w142_mok_23, w10_mok_33)) F (0 : Int32) (upd w70_mok_23 ((12 : Int32) + (w70_mok_23 (moi 31).toNatClampNeg)).toNatClampNeg (0 : Int32))))) else (fX7_ring_tried_L142 (moi 13) (fun (v142_2 : Int32) (w142_mok_23 : Nat → Int32) => some (w142_mok_23, w10_mok_33)) F (0 : Int32) w70_mok_23)) F (0 : Int32) w45_mok_23) F (0 : Int32) (upd (mok 23) (18 : Int32).toNatClampNeg (((mok 23) (18 : Int32).toNatClampNeg) + (1 : Int32)))) n10 v10_2 w10_mok_33 → ∀ (H : Heap) (locs : List Loc) (ls : Array Slot), va_P D vwCl (wM cI mo mor moi (va_up (va_up mok 23 (upd (mok 23) (18 : Int32).toNatClampNeg (((mok 23) (18 : Int32).toNatClampNeg) + (1 : Int32)))) 33 w10_mok_33)) H → va_D A (wM cI mo mor moi (va_up (va_up mok 23 (upd (mok 23) (18 : Int32).toNatClampNeg (((mok 23) (18 : Int32).toNatClampNeg) + (1 : Int32)))) 33 w10_mok_33)) → va_S A s.heap H locs → lv_has ls 3 [(2, .int v10_2), (0, .ref mo), (1, .ref (mor 23))] → W p l e ({ frames := 0, cells := 0, slots := 0, locals := 0 } : Room) s m args below meth c H locs 0 0 Q (F0 m 10 ls []) := by
    intro n10
    induction n10 with
    | zero => intro v10_2 w10_mok_33 he; exact absurd he hne
    | succ n10 ih10 =>
      intro v10_2 w10_mok_33 he H locs ls hP hD hS hl
      replace he := he.trans (fX7_ring_tried_L10.eq_2 _ _ _ _ _ _ _)
      refine lv_iload_n hx hb dX7_ring_10 rfl (lv_at hl 0 rfl) ?_
      refine lv_aload_n hx hb dX7_ring_11 rfl (lv_at hl 1 rfl) ?_
      refine va_get (D := D) (ci := 7) (v := .int (moi 13)) (C := RX7) (T := TX7) (N := 35) hx hb hts hi_X7_ring_tried_7 hown hK hP 0 rfl rfl 13 (by decide) (hts (.fieldLink RX7 71 "BlindLanternsModel" "men" "I") (List.mem_of_getElem? (i := 1) rfl)) (fun _ h9 => h9) rfl dX7_ring_12 ?_
      refine lv_icmp_ge (tgt := 43) hx hb dX7_ring_15 (by decide) (fun c100 => ?_) (fun c100 => ?_)
      · replace he := he.trans (if_pos c100)
        refine lv_iconst (v := 0) hx hb dX7_ring_43 (by decide) ?_
        refine lv_istore_n (lv' := [(2, .int (0 : Int32)), (0, .ref mo), (1, .ref (mor 23))]) hx hb dX7_ring_44 rfl hl (by decide) rfl (fun ls hl => ?_)
        have L45 : ∀ (n45 : Nat) (v45_2 : Int32) (w45_mok_23 : Nat → Int32), fX7_ring_tried F (moi 13) (moi 17) (moi 18) (moi 30) (moi 31) (mok 19) (mok 23) (mok 33) = fX7_ring_tried_L45 (moi 13) w10_mok_33 (fun (v45_2 : Int32) (w45_mok_23 : Nat → Int32) => fX7_ring_tried_L70 (moi 18) (mok 19) (fun (v70_2 : Int32) (w70_mok_23 : Nat → Int32) => if (moi 30) = (w70_mok_23 (18 : Int32).toNatClampNeg) then (if (moi 31) < 0 ∨ 19 ≤ (moi 31).toNatClampNeg then none else (if ((12 : Int32) + (w70_mok_23 (moi 31).toNatClampNeg)) < 0 ∨ 19 ≤ ((12 : Int32) + (w70_mok_23 (moi 31).toNatClampNeg)).toNatClampNeg then none else (fX7_ring_tried_L142 (moi 13) (fun (v142_2 : Int32) (w142_mok_23 : Nat → Int32) => some (w142_mok_23, w10_mok_33)) F (0 : Int32) (upd w70_mok_23 ((12 : Int32) + (w70_mok_23 (moi 31).toNatClampNeg)).toNatClampNeg (0 : Int32))))) else (fX7_ring_tried_L142 (moi 13) (fun (v142_2 : Int32) (w142_mok_23 : Nat → Int32) => some (w142_mok_23, w10_mok_33)) F (0 : Int32) w70_mok_23)) F (0 : Int32) w45_mok_23) n45 v45_2 w45_mok_23 → ∀ (H : Heap) (locs : List Loc) (ls : Array Slot), va_P D vwCl (wM cI mo mor moi (va_up (va_up mok 23 w45_mok_23) 33 w10_mok_33)) H → va_D A (wM cI mo mor moi (va_up (va_up mok 23 w45_mok_23) 33 w10_mok_33)) → va_S A s.heap H locs → lv_has ls 3 [(2, .int v45_2), (0, .ref mo), (1, .ref (mor 23))] → W p l e ({ frames := 0, cells := 0, slots := 0, locals := 0 } : Room) s m args below meth c H locs 0 0 Q (F0 m 45 ls []) := by
          intro n45
          induction n45 with
          | zero => intro v45_2 w45_mok_23 he; exact absurd he hne
          | succ n45 ih45 =>
            intro v45_2 w45_mok_23 he H locs ls hP hD hS hl
            replace he := he.trans (fX7_ring_tried_L45.eq_2 _ _ _ _ _ _)
            refine lv_iload_n hx hb dX7_ring_45 rfl (lv_at hl 0 rfl) ?_
            refine lv_aload_n hx hb dX7_ring_46 rfl (lv_at hl 1 rfl) ?_
            refine va_get (D := D) (ci := 7) (v := .int (moi 13)) (C := RX7) (T := TX7) (N := 35) hx hb hts hi_X7_ring_tried_7 hown hK hP 0 rfl rfl 13 (by decide) (hts (.fieldLink RX7 71 "BlindLanternsModel" "men" "I") (List.mem_of_getElem? (i := 1) rfl)) (fun _ h9 => h9) rfl dX7_ring_47 ?_
            refine lv_icmp_ge (tgt := 68) hx hb dX7_ring_50 (by decide) (fun c149 => ?_) (fun c149 => ?_)
            · replace he := he.trans (if_pos c149)
              refine lv_iconst (v := 0) hx hb dX7_ring_68 (by decide) ?_
              refine lv_istore_n (lv' := [(2, .int (0 : Int32)), (0, .ref mo), (1, .ref (mor 23))]) hx hb dX7_ring_69 rfl hl (by decide) rfl (fun ls hl => ?_)
              have L70 : ∀ (n70 : Nat) (v70_2 : Int32) (w70_mok_23 : Nat → Int32), fX7_ring_tried F (moi 13) (moi 17) (moi 18) (moi 30) (moi 31) (mok 19) (mok 23) (mok 33) = fX7_ring_tried_L70 (moi 18) (mok 19) (fun (v70_2 : Int32) (w70_mok_23 : Nat → Int32) => if (moi 30) = (w70_mok_23 (18 : Int32).toNatClampNeg) then (if (moi 31) < 0 ∨ 19 ≤ (moi 31).toNatClampNeg then none else (if ((12 : Int32) + (w70_mok_23 (moi 31).toNatClampNeg)) < 0 ∨ 19 ≤ ((12 : Int32) + (w70_mok_23 (moi 31).toNatClampNeg)).toNatClampNeg then none else (fX7_ring_tried_L142 (moi 13) (fun (v142_2 : Int32) (w142_mok_23 : Nat → Int32) => some (w142_mok_23, w10_mok_33)) F (0 : Int32) (upd w70_mok_23 ((12 : Int32) + (w70_mok_23 (moi 31).toNatClampNeg)).toNatClampNeg (0 : Int32))))) else (fX7_ring_tried_L142 (moi 13) (fun (v142_2 : Int32) (w142_mok_23 : Nat → Int32) => some (w142_mok_23, w10_mok_33)) F (0 : Int32) w70_mok_23)) n70 v70_2 w70_mok_23 → ∀ (H : Heap) (locs : List Loc) (ls : Array Slot), va_P D vwCl (wM cI mo mor moi (va_up (va_up mok 23 w70_mok_23) 33 w10_mok_33)) H → va_D A (wM cI mo mor moi (va_up (va_up mok 23 w70_mok_23) 33 w10_mok_33)) → va_S A s.heap H locs → lv_has ls 3 [(2, .int v70_2), (0, .ref mo), (1, .ref (mor 23))] → W p l e ({ frames := 0, cells := 0, slots := 0, locals := 0 } : Room) s m args below meth c H locs 0 0 Q (F0 m 70 ls []) := by
                intro n70
                induction n70 with
                | zero => intro v70_2 w70_mok_23 he; exact absurd he hne
                | succ n70 ih70 =>
                  intro v70_2 w70_mok_23 he H locs ls hP hD hS hl
                  replace he := he.trans (fX7_ring_tried_L70.eq_2 _ _ _ _ _ _)
                  refine lv_iload_n hx hb dX7_ring_70 rfl (lv_at hl 0 rfl) ?_
                  refine lv_aload_n hx hb dX7_ring_71 rfl (lv_at hl 1 rfl) ?_
                  refine va_get (D := D) (ci := 7) (v := .int (moi 18)) (C := RX7) (T := TX7) (N := 35) hx hb hts hi_X7_ring_tried_7 hown hK hP 0 rfl rfl 18 (by decide) (hts (.fieldLink RX7 126 "BlindLanternsModel" "draughts" "I") (List.mem_of_getElem? (i := 4) rfl)) (fun _ h9 => h9) rfl dX7_ring_72 ?_
                  refine lv_icmp_ge (tgt := 117) hx hb dX7_ring_75 (by decide) (fun c171 => ?_) (fun c171 => ?_)
                  · replace he := he.trans (if_pos c171)
                    refine lv_aload_n hx hb dX7_ring_117 rfl (lv_at hl 1 rfl) ?_
                    refine va_get (D := D) (ci := 7) (v := .int (moi 30)) (C := RX7) (T := TX7) (N := 35) hx hb hts hi_X7_ring_tried_7 hown hK hP 0 rfl rfl 30 (by decide) (hts (.fieldLink RX7 55 "BlindLanternsModel" "atBell" "I") (List.mem_of_getElem? (i := 6) rfl)) (fun _ h9 => h9) rfl dX7_ring_118 ?_
                    refine lv_aload_n hx hb dX7_ring_121 rfl (lv_at hl 2 rfl) ?_
                    refine lv_bipush (v := 18) hx hb dX7_ring_122 (by decide) ?_
                    refine va_iald hx hb hK hP 12 0 rfl rfl (by decide) dX7_ring_124 ?_
                    refine lv_icmp_ne (tgt := 140) hx hb dX7_ring_125 (by decide) (fun c172 => ?_) (fun c172 => ?_)
                    · replace he := he.trans (if_neg c172)
                      refine lv_iconst (v := 0) hx hb dX7_ring_140 (by decide) ?_
                      refine lv_istore_n (lv' := [(2, .int (0 : Int32)), (0, .ref mo), (1, .ref (mor 23))]) hx hb dX7_ring_141 rfl hl (by decide) rfl (fun ls hl => ?_)
                      have L142 : ∀ (n142 : Nat) (v142_2 : Int32) (w142_mok_23 : Nat → Int32), fX7_ring_tried F (moi 13) (moi 17) (moi 18) (moi 30) (moi 31) (mok 19) (mok 23) (mok 33) = fX7_ring_tried_L142 (moi 13) (fun (v142_2 : Int32) (w142_mok_23 : Nat → Int32) => some (w142_mok_23, w10_mok_33)) n142 v142_2 w142_mok_23 → ∀ (H : Heap) (locs : List Loc) (ls : Array Slot), va_P D vwCl (wM cI mo mor moi (va_up (va_up mok 23 w142_mok_23) 33 w10_mok_33)) H → va_D A (wM cI mo mor moi (va_up (va_up mok 23 w142_mok_23) 33 w10_mok_33)) → va_S A s.heap H locs → lv_has ls 3 [(2, .int v142_2), (0, .ref mo), (1, .ref (mor 23))] → W p l e ({ frames := 0, cells := 0, slots := 0, locals := 0 } : Room) s m args below meth c H locs 0 0 Q (F0 m 142 ls []) := by
                        intro n142
                        induction n142 with
                        | zero => intro v142_2 w142_mok_23 he; exact absurd he hne
                        | succ n142 ih142 =>
                          intro v142_2 w142_mok_23 he H locs ls hP hD hS hl
                          replace he := he.trans (fX7_ring_tried_L142.eq_2 _ _ _ _ _)
                          refine lv_iload_n hx hb dX7_ring_142 rfl (lv_at hl 0 rfl) ?_
                          refine lv_aload_n hx hb dX7_ring_143 rfl (lv_at hl 1 rfl) ?_
                          refine va_get (D := D) (ci := 7) (v := .int (moi 13)) (C := RX7) (T := TX7) (N := 35) hx hb hts hi_X7_ring_tried_7 hown hK hP 0 rfl rfl 13 (by decide) (hts (.fieldLink RX7 71 "BlindLanternsModel" "men" "I") (List.mem_of_getElem? (i := 1) rfl)) (fun _ h9 => h9) rfl dX7_ring_144 ?_
                          refine lv_icmp_ge (tgt := 196) hx hb dX7_ring_147 (by decide) (fun c173 => ?_) (fun c173 => ?_)
                          · replace he := he.trans (if_pos c173)
                            exact hret (w142_mok_23, w10_mok_33) _ _ _ _ dX7_ring_196 he hP hD hS
                          · replace he := he.trans (if_neg c173)
                            refine lv_aload_n hx hb dX7_ring_150 rfl (lv_at hl 2 rfl) ?_
                            refine lv_bipush (v := 6) hx hb dX7_ring_151 (by decide) ?_
                            refine lv_iload_n hx hb dX7_ring_153 rfl (lv_at hl 0 rfl) ?_
                            refine lv_iadd hx hb dX7_ring_154 ?_
                            refine lv_dup2_11 hx hb dX7_ring_155 rfl rfl ?_
                            by_cases g174 : ((6 : Int32) + v142_2) < 0 ∨ 19 ≤ ((6 : Int32) + v142_2).toNatClampNeg
                            · exact absurd (he.trans (if_pos g174)) hne
                            replace he := he.trans (if_neg g174)
                            refine va_iald hx hb hK hP 12 0 rfl rfl g174 dX7_ring_156 ?_
                            refine lv_aload_n hx hb dX7_ring_157 rfl (lv_at hl 2 rfl) ?_
                            refine lv_bipush (v := 12) hx hb dX7_ring_158 (by decide) ?_
                            refine lv_iload_n hx hb dX7_ring_160 rfl (lv_at hl 0 rfl) ?_
                            refine lv_iadd hx hb dX7_ring_161 ?_
                            by_cases g175 : ((12 : Int32) + v142_2) < 0 ∨ 19 ≤ ((12 : Int32) + v142_2).toNatClampNeg
                            · exact absurd (he.trans (if_pos g175)) hne
                            replace he := he.trans (if_neg g175)
                            refine va_iald hx hb hK hP 12 0 rfl rfl g175 dX7_ring_162 ?_
                            refine lv_isub hx hb dX7_ring_163 ?_
                            by_cases g176 : ((6 : Int32) + v142_2) < 0 ∨ 19 ≤ ((6 : Int32) + v142_2).toNatClampNeg
                            · exact absurd (he.trans (if_pos g176)) hne
                            replace he := he.trans (if_neg g176)
                            refine va_iast hx hb hK hP hD hS 12 0 rfl rfl g176 dX7_ring_164 (fun H locs hP hD hS => ?_)
                            have hP : va_P D vwCl (wM cI mo mor moi (va_up (va_up mok 23 (upd w142_mok_23 ((6 : Int32) + v142_2).toNatClampNeg ((w142_mok_23 ((6 : Int32) + v142_2).toNatClampNeg) - (w142_mok_23 ((12 : Int32) + v142_2).toNatClampNeg)))) 33 w10_mok_33)) H := hP
                            have hD : va_D A (wM cI mo mor moi (va_up (va_up mok 23 (upd w142_mok_23 ((6 : Int32) + v142_2).toNatClampNeg ((w142_mok_23 ((6 : Int32) + v142_2).toNatClampNeg) - (w142_mok_23 ((12 : Int32) + v142_2).toNatClampNeg)))) 33 w10_mok_33)) := hD
                            refine lv_aload_n hx hb dX7_ring_165 rfl (lv_at hl 2 rfl) ?_
                            refine lv_bipush (v := 12) hx hb dX7_ring_166 (by decide) ?_
                            refine lv_iload_n hx hb dX7_ring_168 rfl (lv_at hl 0 rfl) ?_
                            refine lv_iadd hx hb dX7_ring_169 ?_
                            refine lv_aload_n hx hb dX7_ring_170 rfl (lv_at hl 2 rfl) ?_
                            refine lv_bipush (v := 6) hx hb dX7_ring_171 (by decide) ?_
                            refine lv_iload_n hx hb dX7_ring_173 rfl (lv_at hl 0 rfl) ?_
                            refine lv_iadd hx hb dX7_ring_174 ?_
                            by_cases g177 : ((6 : Int32) + v142_2) < 0 ∨ 19 ≤ ((6 : Int32) + v142_2).toNatClampNeg
                            · exact absurd (he.trans (if_pos g177)) hne
                            replace he := he.trans (if_neg g177)
                            refine va_iald hx hb hK hP 12 0 rfl rfl g177 dX7_ring_175 ?_
                            refine lv_if_ne (tgt := 183) hx hb dX7_ring_176 (by decide) (fun c178 => ?_) (fun c178 => ?_)
                            · replace he := he.trans (if_neg c178)
                              refine lv_aload_n hx hb dX7_ring_183 rfl (lv_at hl 2 rfl) ?_
                              refine lv_bipush (v := 12) hx hb dX7_ring_184 (by decide) ?_
                              refine lv_iload_n hx hb dX7_ring_186 rfl (lv_at hl 0 rfl) ?_
                              refine lv_iadd hx hb dX7_ring_187 ?_
                              by_cases g179 : ((12 : Int32) + v142_2) < 0 ∨ 19 ≤ ((12 : Int32) + v142_2).toNatClampNeg
                              · exact absurd (he.trans (if_pos g179)) hne
                              replace he := he.trans (if_neg g179)
                              refine va_iald hx hb hK hP 12 0 rfl rfl g179 dX7_ring_188 ?_
                              by_cases g180 : ((12 : Int32) + v142_2) < 0 ∨ 19 ≤ ((12 : Int32) + v142_2).toNatClampNeg
                              · exact absurd (he.trans (if_pos g180)) hne
                              replace he := he.trans (if_neg g180)
                              refine va_iast hx hb hK hP hD hS 12 0 rfl rfl g180 dX7_ring_189 (fun H locs hP hD hS => ?_)
                              have hP : va_P D vwCl (wM cI mo mor moi (va_up (va_up mok 23 (upd (upd w142_mok_23 ((6 : Int32) + v142_2).toNatClampNeg ((w142_mok_23 ((6 : Int32) + v142_2).toNatClampNeg) - (w142_mok_23 ((12 : Int32) + v142_2).toNatClampNeg))) ((12 : Int32) + v142_2).toNatClampNeg ((upd w142_mok_23 ((6 : Int32) + v142_2).toNatClampNeg ((w142_mok_23 ((6 : Int32) + v142_2).toNatClampNeg) - (w142_mok_23 ((12 : Int32) + v142_2).toNatClampNeg))) ((12 : Int32) + v142_2).toNatClampNeg))) 33 w10_mok_33)) H := hP
                              have hD : va_D A (wM cI mo mor moi (va_up (va_up mok 23 (upd (upd w142_mok_23 ((6 : Int32) + v142_2).toNatClampNeg ((w142_mok_23 ((6 : Int32) + v142_2).toNatClampNeg) - (w142_mok_23 ((12 : Int32) + v142_2).toNatClampNeg))) ((12 : Int32) + v142_2).toNatClampNeg ((upd w142_mok_23 ((6 : Int32) + v142_2).toNatClampNeg ((w142_mok_23 ((6 : Int32) + v142_2).toNatClampNeg) - (w142_mok_23 ((12 : Int32) + v142_2).toNatClampNeg))) ((12 : Int32) + v142_2).toNatClampNeg))) 33 w10_mok_33)) := hD
                              refine lv_iinc (v := (v142_2 + 1)) (lv' := [(2, .int (v142_2 + 1)), (0, .ref mo), (1, .ref (mor 23))]) hx hb dX7_ring_190 hl (k := 0) rfl rfl (by decide) rfl (fun ls hl => ?_)
                              refine lv_goto (tgt := 142) hx hb dX7_ring_193 (by decide) ?_
                              exact ih142 (v142_2 + 1) (upd (upd w142_mok_23 ((6 : Int32) + v142_2).toNatClampNeg ((w142_mok_23 ((6 : Int32) + v142_2).toNatClampNeg) - (w142_mok_23 ((12 : Int32) + v142_2).toNatClampNeg))) ((12 : Int32) + v142_2).toNatClampNeg ((upd w142_mok_23 ((6 : Int32) + v142_2).toNatClampNeg ((w142_mok_23 ((6 : Int32) + v142_2).toNatClampNeg) - (w142_mok_23 ((12 : Int32) + v142_2).toNatClampNeg))) ((12 : Int32) + v142_2).toNatClampNeg)) he _ _ _ hP hD hS (lv_sub hl [0, 1, 2] rfl)
                            · replace he := he.trans (if_pos c178)
                              refine lv_iconst (v := 0) hx hb dX7_ring_179 (by decide) ?_
                              refine lv_goto (tgt := 189) hx hb dX7_ring_180 (by decide) ?_
                              by_cases g181 : ((12 : Int32) + v142_2) < 0 ∨ 19 ≤ ((12 : Int32) + v142_2).toNatClampNeg
                              · exact absurd (he.trans (if_pos g181)) hne
                              replace he := he.trans (if_neg g181)
                              refine va_iast hx hb hK hP hD hS 12 0 rfl rfl g181 dX7_ring_189 (fun H locs hP hD hS => ?_)
                              have hP : va_P D vwCl (wM cI mo mor moi (va_up (va_up mok 23 (upd (upd w142_mok_23 ((6 : Int32) + v142_2).toNatClampNeg ((w142_mok_23 ((6 : Int32) + v142_2).toNatClampNeg) - (w142_mok_23 ((12 : Int32) + v142_2).toNatClampNeg))) ((12 : Int32) + v142_2).toNatClampNeg (0 : Int32))) 33 w10_mok_33)) H := hP
                              have hD : va_D A (wM cI mo mor moi (va_up (va_up mok 23 (upd (upd w142_mok_23 ((6 : Int32) + v142_2).toNatClampNeg ((w142_mok_23 ((6 : Int32) + v142_2).toNatClampNeg) - (w142_mok_23 ((12 : Int32) + v142_2).toNatClampNeg))) ((12 : Int32) + v142_2).toNatClampNeg (0 : Int32))) 33 w10_mok_33)) := hD
                              refine lv_iinc (v := (v142_2 + 1)) (lv' := [(2, .int (v142_2 + 1)), (0, .ref mo), (1, .ref (mor 23))]) hx hb dX7_ring_190 hl (k := 0) rfl rfl (by decide) rfl (fun ls hl => ?_)
                              refine lv_goto (tgt := 142) hx hb dX7_ring_193 (by decide) ?_
                              exact ih142 (v142_2 + 1) (upd (upd w142_mok_23 ((6 : Int32) + v142_2).toNatClampNeg ((w142_mok_23 ((6 : Int32) + v142_2).toNatClampNeg) - (w142_mok_23 ((12 : Int32) + v142_2).toNatClampNeg))) ((12 : Int32) + v142_2).toNatClampNeg (0 : Int32)) he _ _ _ hP hD hS (lv_sub hl [0, 1, 2] rfl)
                      exact L142 F (0 : Int32) w70_mok_23 he _ _ _ hP hD hS (lv_sub hl [0, 1, 2] rfl)
                    · replace he := he.trans (if_pos c172)
                      refine lv_aload_n hx hb dX7_ring_128 rfl (lv_at hl 2 rfl) ?_
                      refine lv_bipush (v := 12) hx hb dX7_ring_129 (by decide) ?_
                      refine lv_aload_n hx hb dX7_ring_131 rfl (lv_at hl 2 rfl) ?_
                      refine lv_aload_n hx hb dX7_ring_132 rfl (lv_at hl 1 rfl) ?_
                      refine va_get (D := D) (ci := 7) (v := .int (moi 31)) (C := RX7) (T := TX7) (N := 35) hx hb hts hi_X7_ring_tried_7 hown hK hP 0 rfl rfl 31 (by decide) (hts (.fieldLink RX7 59 "BlindLanternsModel" "atPost" "I") (List.mem_of_getElem? (i := 7) rfl)) (fun _ h9 => h9) rfl dX7_ring_133 ?_
                      by_cases g182 : (moi 31) < 0 ∨ 19 ≤ (moi 31).toNatClampNeg
                      · exact absurd (he.trans (if_pos g182)) hne
                      replace he := he.trans (if_neg g182)
                      refine va_iald hx hb hK hP 12 0 rfl rfl g182 dX7_ring_136 ?_
                      refine lv_iadd hx hb dX7_ring_137 ?_
                      refine lv_iconst (v := 0) hx hb dX7_ring_138 (by decide) ?_
                      by_cases g183 : ((12 : Int32) + (w70_mok_23 (moi 31).toNatClampNeg)) < 0 ∨ 19 ≤ ((12 : Int32) + (w70_mok_23 (moi 31).toNatClampNeg)).toNatClampNeg
                      · exact absurd (he.trans (if_pos g183)) hne
                      replace he := he.trans (if_neg g183)
                      refine va_iast hx hb hK hP hD hS 12 0 rfl rfl g183 dX7_ring_139 (fun H locs hP hD hS => ?_)
                      have hP : va_P D vwCl (wM cI mo mor moi (va_up (va_up mok 23 (upd w70_mok_23 ((12 : Int32) + (w70_mok_23 (moi 31).toNatClampNeg)).toNatClampNeg (0 : Int32))) 33 w10_mok_33)) H := hP
                      have hD : va_D A (wM cI mo mor moi (va_up (va_up mok 23 (upd w70_mok_23 ((12 : Int32) + (w70_mok_23 (moi 31).toNatClampNeg)).toNatClampNeg (0 : Int32))) 33 w10_mok_33)) := hD
                      refine lv_iconst (v := 0) hx hb dX7_ring_140 (by decide) ?_
                      refine lv_istore_n (lv' := [(2, .int (0 : Int32)), (0, .ref mo), (1, .ref (mor 23))]) hx hb dX7_ring_141 rfl hl (by decide) rfl (fun ls hl => ?_)
                      have L142 : ∀ (n142 : Nat) (v142_2 : Int32) (w142_mok_23 : Nat → Int32), fX7_ring_tried F (moi 13) (moi 17) (moi 18) (moi 30) (moi 31) (mok 19) (mok 23) (mok 33) = fX7_ring_tried_L142 (moi 13) (fun (v142_2 : Int32) (w142_mok_23 : Nat → Int32) => some (w142_mok_23, w10_mok_33)) n142 v142_2 w142_mok_23 → ∀ (H : Heap) (locs : List Loc) (ls : Array Slot), va_P D vwCl (wM cI mo mor moi (va_up (va_up mok 23 w142_mok_23) 33 w10_mok_33)) H → va_D A (wM cI mo mor moi (va_up (va_up mok 23 w142_mok_23) 33 w10_mok_33)) → va_S A s.heap H locs → lv_has ls 3 [(2, .int v142_2), (0, .ref mo), (1, .ref (mor 23))] → W p l e ({ frames := 0, cells := 0, slots := 0, locals := 0 } : Room) s m args below meth c H locs 0 0 Q (F0 m 142 ls []) := by
                        intro n142
                        induction n142 with
                        | zero => intro v142_2 w142_mok_23 he; exact absurd he hne
                        | succ n142 ih142 =>
                          intro v142_2 w142_mok_23 he H locs ls hP hD hS hl
                          replace he := he.trans (fX7_ring_tried_L142.eq_2 _ _ _ _ _)
                          refine lv_iload_n hx hb dX7_ring_142 rfl (lv_at hl 0 rfl) ?_
                          refine lv_aload_n hx hb dX7_ring_143 rfl (lv_at hl 1 rfl) ?_
                          refine va_get (D := D) (ci := 7) (v := .int (moi 13)) (C := RX7) (T := TX7) (N := 35) hx hb hts hi_X7_ring_tried_7 hown hK hP 0 rfl rfl 13 (by decide) (hts (.fieldLink RX7 71 "BlindLanternsModel" "men" "I") (List.mem_of_getElem? (i := 1) rfl)) (fun _ h9 => h9) rfl dX7_ring_144 ?_
                          refine lv_icmp_ge (tgt := 196) hx hb dX7_ring_147 (by decide) (fun c184 => ?_) (fun c184 => ?_)
                          · replace he := he.trans (if_pos c184)
                            exact hret (w142_mok_23, w10_mok_33) _ _ _ _ dX7_ring_196 he hP hD hS
                          · replace he := he.trans (if_neg c184)
                            refine lv_aload_n hx hb dX7_ring_150 rfl (lv_at hl 2 rfl) ?_
                            refine lv_bipush (v := 6) hx hb dX7_ring_151 (by decide) ?_
                            refine lv_iload_n hx hb dX7_ring_153 rfl (lv_at hl 0 rfl) ?_
                            refine lv_iadd hx hb dX7_ring_154 ?_
                            refine lv_dup2_11 hx hb dX7_ring_155 rfl rfl ?_
                            by_cases g185 : ((6 : Int32) + v142_2) < 0 ∨ 19 ≤ ((6 : Int32) + v142_2).toNatClampNeg
                            · exact absurd (he.trans (if_pos g185)) hne
                            replace he := he.trans (if_neg g185)
                            refine va_iald hx hb hK hP 12 0 rfl rfl g185 dX7_ring_156 ?_
                            refine lv_aload_n hx hb dX7_ring_157 rfl (lv_at hl 2 rfl) ?_
                            refine lv_bipush (v := 12) hx hb dX7_ring_158 (by decide) ?_
                            refine lv_iload_n hx hb dX7_ring_160 rfl (lv_at hl 0 rfl) ?_
                            refine lv_iadd hx hb dX7_ring_161 ?_
                            by_cases g186 : ((12 : Int32) + v142_2) < 0 ∨ 19 ≤ ((12 : Int32) + v142_2).toNatClampNeg
                            · exact absurd (he.trans (if_pos g186)) hne
                            replace he := he.trans (if_neg g186)
                            refine va_iald hx hb hK hP 12 0 rfl rfl g186 dX7_ring_162 ?_
                            refine lv_isub hx hb dX7_ring_163 ?_
                            by_cases g187 : ((6 : Int32) + v142_2) < 0 ∨ 19 ≤ ((6 : Int32) + v142_2).toNatClampNeg
                            · exact absurd (he.trans (if_pos g187)) hne
                            replace he := he.trans (if_neg g187)
                            refine va_iast hx hb hK hP hD hS 12 0 rfl rfl g187 dX7_ring_164 (fun H locs hP hD hS => ?_)
                            have hP : va_P D vwCl (wM cI mo mor moi (va_up (va_up mok 23 (upd w142_mok_23 ((6 : Int32) + v142_2).toNatClampNeg ((w142_mok_23 ((6 : Int32) + v142_2).toNatClampNeg) - (w142_mok_23 ((12 : Int32) + v142_2).toNatClampNeg)))) 33 w10_mok_33)) H := hP
                            have hD : va_D A (wM cI mo mor moi (va_up (va_up mok 23 (upd w142_mok_23 ((6 : Int32) + v142_2).toNatClampNeg ((w142_mok_23 ((6 : Int32) + v142_2).toNatClampNeg) - (w142_mok_23 ((12 : Int32) + v142_2).toNatClampNeg)))) 33 w10_mok_33)) := hD
                            refine lv_aload_n hx hb dX7_ring_165 rfl (lv_at hl 2 rfl) ?_
                            refine lv_bipush (v := 12) hx hb dX7_ring_166 (by decide) ?_
                            refine lv_iload_n hx hb dX7_ring_168 rfl (lv_at hl 0 rfl) ?_
                            refine lv_iadd hx hb dX7_ring_169 ?_
                            refine lv_aload_n hx hb dX7_ring_170 rfl (lv_at hl 2 rfl) ?_
                            refine lv_bipush (v := 6) hx hb dX7_ring_171 (by decide) ?_
                            refine lv_iload_n hx hb dX7_ring_173 rfl (lv_at hl 0 rfl) ?_
                            refine lv_iadd hx hb dX7_ring_174 ?_
                            by_cases g188 : ((6 : Int32) + v142_2) < 0 ∨ 19 ≤ ((6 : Int32) + v142_2).toNatClampNeg
                            · exact absurd (he.trans (if_pos g188)) hne
                            replace he := he.trans (if_neg g188)
                            refine va_iald hx hb hK hP 12 0 rfl rfl g188 dX7_ring_175 ?_
                            refine lv_if_ne (tgt := 183) hx hb dX7_ring_176 (by decide) (fun c189 => ?_) (fun c189 => ?_)
                            · replace he := he.trans (if_neg c189)
                              refine lv_aload_n hx hb dX7_ring_183 rfl (lv_at hl 2 rfl) ?_
                              refine lv_bipush (v := 12) hx hb dX7_ring_184 (by decide) ?_
                              refine lv_iload_n hx hb dX7_ring_186 rfl (lv_at hl 0 rfl) ?_
                              refine lv_iadd hx hb dX7_ring_187 ?_
                              by_cases g190 : ((12 : Int32) + v142_2) < 0 ∨ 19 ≤ ((12 : Int32) + v142_2).toNatClampNeg
                              · exact absurd (he.trans (if_pos g190)) hne
                              replace he := he.trans (if_neg g190)
                              refine va_iald hx hb hK hP 12 0 rfl rfl g190 dX7_ring_188 ?_
                              by_cases g191 : ((12 : Int32) + v142_2) < 0 ∨ 19 ≤ ((12 : Int32) + v142_2).toNatClampNeg
                              · exact absurd (he.trans (if_pos g191)) hne
                              replace he := he.trans (if_neg g191)
                              refine va_iast hx hb hK hP hD hS 12 0 rfl rfl g191 dX7_ring_189 (fun H locs hP hD hS => ?_)
                              have hP : va_P D vwCl (wM cI mo mor moi (va_up (va_up mok 23 (upd (upd w142_mok_23 ((6 : Int32) + v142_2).toNatClampNeg ((w142_mok_23 ((6 : Int32) + v142_2).toNatClampNeg) - (w142_mok_23 ((12 : Int32) + v142_2).toNatClampNeg))) ((12 : Int32) + v142_2).toNatClampNeg ((upd w142_mok_23 ((6 : Int32) + v142_2).toNatClampNeg ((w142_mok_23 ((6 : Int32) + v142_2).toNatClampNeg) - (w142_mok_23 ((12 : Int32) + v142_2).toNatClampNeg))) ((12 : Int32) + v142_2).toNatClampNeg))) 33 w10_mok_33)) H := hP
                              have hD : va_D A (wM cI mo mor moi (va_up (va_up mok 23 (upd (upd w142_mok_23 ((6 : Int32) + v142_2).toNatClampNeg ((w142_mok_23 ((6 : Int32) + v142_2).toNatClampNeg) - (w142_mok_23 ((12 : Int32) + v142_2).toNatClampNeg))) ((12 : Int32) + v142_2).toNatClampNeg ((upd w142_mok_23 ((6 : Int32) + v142_2).toNatClampNeg ((w142_mok_23 ((6 : Int32) + v142_2).toNatClampNeg) - (w142_mok_23 ((12 : Int32) + v142_2).toNatClampNeg))) ((12 : Int32) + v142_2).toNatClampNeg))) 33 w10_mok_33)) := hD
                              refine lv_iinc (v := (v142_2 + 1)) (lv' := [(2, .int (v142_2 + 1)), (0, .ref mo), (1, .ref (mor 23))]) hx hb dX7_ring_190 hl (k := 0) rfl rfl (by decide) rfl (fun ls hl => ?_)
                              refine lv_goto (tgt := 142) hx hb dX7_ring_193 (by decide) ?_
                              exact ih142 (v142_2 + 1) (upd (upd w142_mok_23 ((6 : Int32) + v142_2).toNatClampNeg ((w142_mok_23 ((6 : Int32) + v142_2).toNatClampNeg) - (w142_mok_23 ((12 : Int32) + v142_2).toNatClampNeg))) ((12 : Int32) + v142_2).toNatClampNeg ((upd w142_mok_23 ((6 : Int32) + v142_2).toNatClampNeg ((w142_mok_23 ((6 : Int32) + v142_2).toNatClampNeg) - (w142_mok_23 ((12 : Int32) + v142_2).toNatClampNeg))) ((12 : Int32) + v142_2).toNatClampNeg)) he _ _ _ hP hD hS (lv_sub hl [0, 1, 2] rfl)
                            · replace he := he.trans (if_pos c189)
                              refine lv_iconst (v := 0) hx hb dX7_ring_179 (by decide) ?_
                              refine lv_goto (tgt := 189) hx hb dX7_ring_180 (by decide) ?_
                              by_cases g192 : ((12 : Int32) + v142_2) < 0 ∨ 19 ≤ ((12 : Int32) + v142_2).toNatClampNeg
                              · exact absurd (he.trans (if_pos g192)) hne
                              replace he := he.trans (if_neg g192)
                              refine va_iast hx hb hK hP hD hS 12 0 rfl rfl g192 dX7_ring_189 (fun H locs hP hD hS => ?_)
                              have hP : va_P D vwCl (wM cI mo mor moi (va_up (va_up mok 23 (upd (upd w142_mok_23 ((6 : Int32) + v142_2).toNatClampNeg ((w142_mok_23 ((6 : Int32) + v142_2).toNatClampNeg) - (w142_mok_23 ((12 : Int32) + v142_2).toNatClampNeg))) ((12 : Int32) + v142_2).toNatClampNeg (0 : Int32))) 33 w10_mok_33)) H := hP
                              have hD : va_D A (wM cI mo mor moi (va_up (va_up mok 23 (upd (upd w142_mok_23 ((6 : Int32) + v142_2).toNatClampNeg ((w142_mok_23 ((6 : Int32) + v142_2).toNatClampNeg) - (w142_mok_23 ((12 : Int32) + v142_2).toNatClampNeg))) ((12 : Int32) + v142_2).toNatClampNeg (0 : Int32))) 33 w10_mok_33)) := hD
                              refine lv_iinc (v := (v142_2 + 1)) (lv' := [(2, .int (v142_2 + 1)), (0, .ref mo), (1, .ref (mor 23))]) hx hb dX7_ring_190 hl (k := 0) rfl rfl (by decide) rfl (fun ls hl => ?_)
                              refine lv_goto (tgt := 142) hx hb dX7_ring_193 (by decide) ?_
                              exact ih142 (v142_2 + 1) (upd (upd w142_mok_23 ((6 : Int32) + v142_2).toNatClampNeg ((w142_mok_23 ((6 : Int32) + v142_2).toNatClampNeg) - (w142_mok_23 ((12 : Int32) + v142_2).toNatClampNeg))) ((12 : Int32) + v142_2).toNatClampNeg (0 : Int32)) he _ _ _ hP hD hS (lv_sub hl [0, 1, 2] rfl)
                      exact L142 F (0 : Int32) (upd w70_mok_23 ((12 : Int32) + (w70_mok_23 (moi 31).toNatClampNeg)).toNatClampNeg (0 : Int32)) he _ _ _ hP hD hS (lv_sub hl [0, 1, 2] rfl)
                  · replace he := he.trans (if_neg c171)
                    refine lv_aload_n hx hb dX7_ring_78 rfl (lv_at hl 1 rfl) ?_
                    refine va_get (D := D) (ci := 7) (v := .ref (mor 19)) (C := RX7) (T := TX7) (N := 35) hx hb hts hi_X7_ring_tried_7 hown hK hP 0 rfl rfl 19 (by decide) (hts (.fieldLink RX7 37 "BlindLanternsModel" "draught" "[I") (List.mem_of_getElem? (i := 5) rfl)) (fun _ h9 => h9) rfl dX7_ring_79 ?_
                    refine lv_iconst (v := 2) hx hb dX7_ring_82 (by decide) ?_
                    refine lv_iload_n hx hb dX7_ring_83 rfl (lv_at hl 0 rfl) ?_
                    refine lv_imul hx hb dX7_ring_84 ?_
                    by_cases g193 : ((2 : Int32) * v70_2) < 0 ∨ 12 ≤ ((2 : Int32) * v70_2).toNatClampNeg
                    · exact absurd (he.trans (if_pos g193)) hne
                    replace he := he.trans (if_neg g193)
                    refine va_iald hx hb hK hP 10 0 rfl rfl g193 dX7_ring_85 ?_
                    refine lv_aload_n hx hb dX7_ring_86 rfl (lv_at hl 2 rfl) ?_
                    refine lv_bipush (v := 18) hx hb dX7_ring_87 (by decide) ?_
                    refine va_iald hx hb hK hP 12 0 rfl rfl (by decide) dX7_ring_89 ?_
                    refine lv_icmp_ne (tgt := 111) hx hb dX7_ring_90 (by decide) (fun c194 => ?_) (fun c194 => ?_)
                    · replace he := he.trans (if_neg c194)
                      refine lv_iinc (v := (v70_2 + 1)) (lv' := [(2, .int (v70_2 + 1)), (0, .ref mo), (1, .ref (mor 23))]) hx hb dX7_ring_111 hl (k := 0) rfl rfl (by decide) rfl (fun ls hl => ?_)
                      refine lv_goto (tgt := 70) hx hb dX7_ring_114 (by decide) ?_
                      exact ih70 (v70_2 + 1) w70_mok_23 he _ _ _ hP hD hS (lv_sub hl [0, 1, 2] rfl)
                    · replace he := he.trans (if_pos c194)
                      refine lv_aload_n hx hb dX7_ring_93 rfl (lv_at hl 2 rfl) ?_
                      refine lv_bipush (v := 12) hx hb dX7_ring_94 (by decide) ?_
                      refine lv_aload_n hx hb dX7_ring_96 rfl (lv_at hl 2 rfl) ?_
                      refine lv_aload_n hx hb dX7_ring_97 rfl (lv_at hl 1 rfl) ?_
                      refine va_get (D := D) (ci := 7) (v := .ref (mor 19)) (C := RX7) (T := TX7) (N := 35) hx hb hts hi_X7_ring_tried_7 hown hK hP 0 rfl rfl 19 (by decide) (hts (.fieldLink RX7 37 "BlindLanternsModel" "draught" "[I") (List.mem_of_getElem? (i := 5) rfl)) (fun _ h9 => h9) rfl dX7_ring_98 ?_
                      refine lv_iconst (v := 2) hx hb dX7_ring_101 (by decide) ?_
                      refine lv_iload_n hx hb dX7_ring_102 rfl (lv_at hl 0 rfl) ?_
                      refine lv_imul hx hb dX7_ring_103 ?_
                      refine lv_iconst (v := 1) hx hb dX7_ring_104 (by decide) ?_
                      refine lv_iadd hx hb dX7_ring_105 ?_
                      by_cases g195 : (((2 : Int32) * v70_2) + (1 : Int32)) < 0 ∨ 12 ≤ (((2 : Int32) * v70_2) + (1 : Int32)).toNatClampNeg
                      · exact absurd (he.trans (if_pos g195)) hne
                      replace he := he.trans (if_neg g195)
                      refine va_iald hx hb hK hP 10 0 rfl rfl g195 dX7_ring_106 ?_
                      by_cases g196 : ((mok 19) (((2 : Int32) * v70_2) + (1 : Int32)).toNatClampNeg) < 0 ∨ 19 ≤ ((mok 19) (((2 : Int32) * v70_2) + (1 : Int32)).toNatClampNeg).toNatClampNeg
                      · exact absurd (he.trans (if_pos g196)) hne
                      replace he := he.trans (if_neg g196)
                      refine va_iald hx hb hK hP 12 0 rfl rfl g196 dX7_ring_107 ?_
                      refine lv_iadd hx hb dX7_ring_108 ?_
                      refine lv_iconst (v := 0) hx hb dX7_ring_109 (by decide) ?_
                      by_cases g197 : ((12 : Int32) + (w70_mok_23 ((mok 19) (((2 : Int32) * v70_2) + (1 : Int32)).toNatClampNeg).toNatClampNeg)) < 0 ∨ 19 ≤ ((12 : Int32) + (w70_mok_23 ((mok 19) (((2 : Int32) * v70_2) + (1 : Int32)).toNatClampNeg).toNatClampNeg)).toNatClampNeg
                      · exact absurd (he.trans (if_pos g197)) hne
                      replace he := he.trans (if_neg g197)
                      refine va_iast hx hb hK hP hD hS 12 0 rfl rfl g197 dX7_ring_110 (fun H locs hP hD hS => ?_)
                      have hP : va_P D vwCl (wM cI mo mor moi (va_up (va_up mok 23 (upd w70_mok_23 ((12 : Int32) + (w70_mok_23 ((mok 19) (((2 : Int32) * v70_2) + (1 : Int32)).toNatClampNeg).toNatClampNeg)).toNatClampNeg (0 : Int32))) 33 w10_mok_33)) H := hP
                      have hD : va_D A (wM cI mo mor moi (va_up (va_up mok 23 (upd w70_mok_23 ((12 : Int32) + (w70_mok_23 ((mok 19) (((2 : Int32) * v70_2) + (1 : Int32)).toNatClampNeg).toNatClampNeg)).toNatClampNeg (0 : Int32))) 33 w10_mok_33)) := hD
                      refine lv_iinc (v := (v70_2 + 1)) (lv' := [(2, .int (v70_2 + 1)), (0, .ref mo), (1, .ref (mor 23))]) hx hb dX7_ring_111 hl (k := 0) rfl rfl (by decide) rfl (fun ls hl => ?_)
                      refine lv_goto (tgt := 70) hx hb dX7_ring_114 (by decide) ?_
                      exact ih70 (v70_2 + 1) (upd w70_mok_23 ((12 : Int32) + (w70_mok_23 ((mok 19) (((2 : Int32) * v70_2) + (1 : Int32)).toNatClampNeg).toNatClampNeg)).toNatClampNeg (0 : Int32)) he _ _ _ hP hD hS (lv_sub hl [0, 1, 2] rfl)
              exact L70 F (0 : Int32) w45_mok_23 he _ _ _ hP hD hS (lv_sub hl [0, 1, 2] rfl)
            · replace he := he.trans (if_neg c149)
              refine lv_aload_n hx hb dX7_ring_53 rfl (lv_at hl 2 rfl) ?_
              refine lv_iload_n hx hb dX7_ring_54 rfl (lv_at hl 0 rfl) ?_
              refine lv_aload_n hx hb dX7_ring_55 rfl (lv_at hl 1 rfl) ?_
              refine va_get (D := D) (ci := 7) (v := .ref (mor 33)) (C := RX7) (T := TX7) (N := 35) hx hb hts hi_X7_ring_tried_7 hown hK hP 0 rfl rfl 33 (by decide) (hts (.fieldLink RX7 65 "BlindLanternsModel" "moved" "[I") (List.mem_of_getElem? (i := 2) rfl)) (fun _ h9 => h9) rfl dX7_ring_56 ?_
              refine lv_iload_n hx hb dX7_ring_59 rfl (lv_at hl 0 rfl) ?_
              by_cases g198 : v45_2 < 0 ∨ 6 ≤ v45_2.toNatClampNeg
              · exact absurd (he.trans (if_pos g198)) hne
              replace he := he.trans (if_neg g198)
              refine va_iald hx hb hK hP 16 0 rfl rfl g198 dX7_ring_60 ?_
              by_cases g199 : v45_2 < 0 ∨ 19 ≤ v45_2.toNatClampNeg
              · exact absurd (he.trans (if_pos g199)) hne
              replace he := he.trans (if_neg g199)
              refine va_iast hx hb hK hP hD hS 12 0 rfl rfl g199 dX7_ring_61 (fun H locs hP hD hS => ?_)
              have hP : va_P D vwCl (wM cI mo mor moi (va_up (va_up mok 23 (upd w45_mok_23 v45_2.toNatClampNeg (w10_mok_33 v45_2.toNatClampNeg))) 33 w10_mok_33)) H := hP
              have hD : va_D A (wM cI mo mor moi (va_up (va_up mok 23 (upd w45_mok_23 v45_2.toNatClampNeg (w10_mok_33 v45_2.toNatClampNeg))) 33 w10_mok_33)) := hD
              refine lv_iinc (v := (v45_2 + 1)) (lv' := [(2, .int (v45_2 + 1)), (0, .ref mo), (1, .ref (mor 23))]) hx hb dX7_ring_62 hl (k := 0) rfl rfl (by decide) rfl (fun ls hl => ?_)
              refine lv_goto (tgt := 45) hx hb dX7_ring_65 (by decide) ?_
              exact ih45 (v45_2 + 1) (upd w45_mok_23 v45_2.toNatClampNeg (w10_mok_33 v45_2.toNatClampNeg)) he _ _ _ hP hD hS (lv_sub hl [0, 1, 2] rfl)
        exact L45 F (0 : Int32) (upd (mok 23) (18 : Int32).toNatClampNeg (((mok 23) (18 : Int32).toNatClampNeg) + (1 : Int32))) he _ _ _ hP hD hS (lv_sub hl [0, 1, 2] rfl)
      · replace he := he.trans (if_neg c100)
        refine lv_aload_n hx hb dX7_ring_18 rfl (lv_at hl 1 rfl) ?_
        refine va_get (D := D) (ci := 7) (v := .ref (mor 33)) (C := RX7) (T := TX7) (N := 35) hx hb hts hi_X7_ring_tried_7 hown hK hP 0 rfl rfl 33 (by decide) (hts (.fieldLink RX7 65 "BlindLanternsModel" "moved" "[I") (List.mem_of_getElem? (i := 2) rfl)) (fun _ h9 => h9) rfl dX7_ring_19 ?_
        refine lv_iload_n hx hb dX7_ring_22 rfl (lv_at hl 0 rfl) ?_
        refine lv_aload_n hx hb dX7_ring_23 rfl (lv_at hl 1 rfl) ?_
        refine va_get (D := D) (ci := 7) (v := .int (moi 17)) (C := RX7) (T := TX7) (N := 35) hx hb hts hi_X7_ring_tried_7 hown hK hP 0 rfl rfl 17 (by decide) (hts (.fieldLink RX7 74 "BlindLanternsModel" "on" "I") (List.mem_of_getElem? (i := 3) rfl)) (fun _ h9 => h9) rfl dX7_ring_24 ?_
        refine lv_iadd hx hb dX7_ring_27 ?_
        refine lv_aload_n hx hb dX7_ring_28 rfl (lv_at hl 1 rfl) ?_
        refine va_get (D := D) (ci := 7) (v := .int (moi 13)) (C := RX7) (T := TX7) (N := 35) hx hb hts hi_X7_ring_tried_7 hown hK hP 0 rfl rfl 13 (by decide) (hts (.fieldLink RX7 71 "BlindLanternsModel" "men" "I") (List.mem_of_getElem? (i := 1) rfl)) (fun _ h9 => h9) rfl dX7_ring_29 ?_
        by_cases g200 : (moi 13) = 0
        · exact absurd (he.trans (if_pos g200)) hne
        replace he := he.trans (if_neg g200)
        refine lv_irem hx hb dX7_ring_32 g200 ?_
        refine lv_aload_n hx hb dX7_ring_33 rfl (lv_at hl 2 rfl) ?_
        refine lv_iload_n hx hb dX7_ring_34 rfl (lv_at hl 0 rfl) ?_
        by_cases g201 : v10_2 < 0 ∨ 19 ≤ v10_2.toNatClampNeg
        · exact absurd (he.trans (if_pos g201)) hne
        replace he := he.trans (if_neg g201)
        refine va_iald hx hb hK hP 12 0 rfl rfl g201 dX7_ring_35 ?_
        by_cases g202 : ((v10_2 + (moi 17)) - (v10_2 + (moi 17)) / (moi 13) * (moi 13)) < 0 ∨ 6 ≤ ((v10_2 + (moi 17)) - (v10_2 + (moi 17)) / (moi 13) * (moi 13)).toNatClampNeg
        · exact absurd (he.trans (if_pos g202)) hne
        replace he := he.trans (if_neg g202)
        refine va_iast hx hb hK hP hD hS 16 0 rfl rfl g202 dX7_ring_36 (fun H locs hP hD hS => ?_)
        have hP : va_P D vwCl (wM cI mo mor moi (va_up (va_up mok 23 (upd (mok 23) (18 : Int32).toNatClampNeg (((mok 23) (18 : Int32).toNatClampNeg) + (1 : Int32)))) 33 (upd w10_mok_33 ((v10_2 + (moi 17)) - (v10_2 + (moi 17)) / (moi 13) * (moi 13)).toNatClampNeg ((upd (mok 23) (18 : Int32).toNatClampNeg (((mok 23) (18 : Int32).toNatClampNeg) + (1 : Int32))) v10_2.toNatClampNeg)))) H := hP
        have hD : va_D A (wM cI mo mor moi (va_up (va_up mok 23 (upd (mok 23) (18 : Int32).toNatClampNeg (((mok 23) (18 : Int32).toNatClampNeg) + (1 : Int32)))) 33 (upd w10_mok_33 ((v10_2 + (moi 17)) - (v10_2 + (moi 17)) / (moi 13) * (moi 13)).toNatClampNeg ((upd (mok 23) (18 : Int32).toNatClampNeg (((mok 23) (18 : Int32).toNatClampNeg) + (1 : Int32))) v10_2.toNatClampNeg)))) := hD
        refine lv_iinc (v := (v10_2 + 1)) (lv' := [(2, .int (v10_2 + 1)), (0, .ref mo), (1, .ref (mor 23))]) hx hb dX7_ring_37 hl (k := 0) rfl rfl (by decide) rfl (fun ls hl => ?_)
        refine lv_goto (tgt := 10) hx hb dX7_ring_40 (by decide) ?_
        exact ih10 (v10_2 + 1) (upd w10_mok_33 ((v10_2 + (moi 17)) - (v10_2 + (moi 17)) / (moi 13) * (moi 13)).toNatClampNeg ((upd (mok 23) (18 : Int32).toNatClampNeg (((mok 23) (18 : Int32).toNatClampNeg) + (1 : Int32))) v10_2.toNatClampNeg)) he _ _ _ hP hD hS (lv_sub hl [0, 1, 2] rfl)
  exact L10 F (0 : Int32) (mok 33) he _ _ _ hP hD hS (lv_sub hl [0, 1, 2] rfl)

def fX7_isLit_now (mok_22 : Nat → Int32) (a2 : Int32) : Option (Int32) :=
  if a2 < 0 ∨ 19 ≤ a2.toNatClampNeg then none else (if ((12 : Int32) + (mok_22 a2.toNatClampNeg)) < 0 ∨ 19 ≤ ((12 : Int32) + (mok_22 a2.toNatClampNeg)).toNatClampNeg then none else (if (mok_22 ((12 : Int32) + (mok_22 a2.toNatClampNeg)).toNatClampNeg) = (1 : Int32) then (some (1 : Int32)) else (some (0 : Int32))))
set_option maxHeartbeats 4000000 in
set_option maxRecDepth 100000 in
theorem c_X7_isLit_now (l : Launch) (D : va_G) (cI cP : ClassId) (sz : Nat) (mo : Nat) (mor : Nat → Nat) (moi : Nat → Int32) (mok : Nat → Nat → Int32) (a2 : Int32) (hne : fX7_isLit_now (mok 22) a2 ≠ none) : xMi l yX7_isLit wsX7_isLit ({ frames := 0, cells := 0, slots := 0, locals := 0 } : Room) D (xT cI cP) [.ref mo, .ref (mor 22), .int a2] (wM cI mo mor moi mok) sz (fun r (_ : Unit) => fX7_isLit_now (mok 22) a2 = some r) (fun u => wM cI mo mor moi mok) 0 0 := by
  refine xMz_of (cc := cX7_isLit) (maxL := 3) (by decide +kernel) rfl (Nat.le_of_ble_eq_true rfl) ?_
  intro p e s m args below meth c A ls hx hb hml hown hts hname hN hK hA hP hD hS hl Q hret
  have he := fX7_isLit_now.eq_1 (mok 22) a2
  have hl : lv_has ls 3 [(0, .ref mo), (1, .ref (mor 22)), (2, .int a2)] := hl
  refine lv_aload_n hx hb dX7_isLit_0 rfl (lv_at hl 1 rfl) ?_
  refine lv_bipush (v := 12) hx hb dX7_isLit_1 (by decide) ?_
  refine lv_aload_n hx hb dX7_isLit_3 rfl (lv_at hl 1 rfl) ?_
  refine lv_iload_n hx hb dX7_isLit_4 rfl (lv_at hl 2 rfl) ?_
  by_cases g1 : a2 < 0 ∨ 19 ≤ a2.toNatClampNeg
  · exact absurd (he.trans (if_pos g1)) hne
  replace he := he.trans (if_neg g1)
  refine va_iald hx hb hK hP 11 0 rfl rfl g1 dX7_isLit_5 ?_
  refine lv_iadd hx hb dX7_isLit_6 ?_
  by_cases g2 : ((12 : Int32) + ((mok 22) a2.toNatClampNeg)) < 0 ∨ 19 ≤ ((12 : Int32) + ((mok 22) a2.toNatClampNeg)).toNatClampNeg
  · exact absurd (he.trans (if_pos g2)) hne
  replace he := he.trans (if_neg g2)
  refine va_iald hx hb hK hP 11 0 rfl rfl g2 dX7_isLit_7 ?_
  refine lv_iconst (v := 1) hx hb dX7_isLit_8 (by decide) ?_
  refine lv_icmp_ne (tgt := 16) hx hb dX7_isLit_9 (by decide) (fun c3 => ?_) (fun c3 => ?_)
  · replace he := he.trans (if_neg c3)
    refine lv_iconst (v := 0) hx hb dX7_isLit_16 (by decide) ?_
    exact hret (0 : Int32) () _ _ _ _ dX7_isLit_17 (Or.inl rfl) he hP hD hS
  · replace he := he.trans (if_pos c3)
    refine lv_iconst (v := 1) hx hb dX7_isLit_12 (by decide) ?_
    refine lv_goto (tgt := 17) hx hb dX7_isLit_13 (by decide) ?_
    exact hret (1 : Int32) () _ _ _ _ dX7_isLit_17 (Or.inr rfl) he hP hD hS

def fX7_isLit_tried (mok_23 : Nat → Int32) (a2 : Int32) : Option (Int32) :=
  if a2 < 0 ∨ 19 ≤ a2.toNatClampNeg then none else (if ((12 : Int32) + (mok_23 a2.toNatClampNeg)) < 0 ∨ 19 ≤ ((12 : Int32) + (mok_23 a2.toNatClampNeg)).toNatClampNeg then none else (if (mok_23 ((12 : Int32) + (mok_23 a2.toNatClampNeg)).toNatClampNeg) = (1 : Int32) then (some (1 : Int32)) else (some (0 : Int32))))
set_option maxHeartbeats 4000000 in
set_option maxRecDepth 100000 in
theorem c_X7_isLit_tried (l : Launch) (D : va_G) (cI cP : ClassId) (sz : Nat) (mo : Nat) (mor : Nat → Nat) (moi : Nat → Int32) (mok : Nat → Nat → Int32) (a2 : Int32) (hne : fX7_isLit_tried (mok 23) a2 ≠ none) : xMi l yX7_isLit wsX7_isLit ({ frames := 0, cells := 0, slots := 0, locals := 0 } : Room) D (xT cI cP) [.ref mo, .ref (mor 23), .int a2] (wM cI mo mor moi mok) sz (fun r (_ : Unit) => fX7_isLit_tried (mok 23) a2 = some r) (fun u => wM cI mo mor moi mok) 0 0 := by
  refine xMz_of (cc := cX7_isLit) (maxL := 3) (by decide +kernel) rfl (Nat.le_of_ble_eq_true rfl) ?_
  intro p e s m args below meth c A ls hx hb hml hown hts hname hN hK hA hP hD hS hl Q hret
  have he := fX7_isLit_tried.eq_1 (mok 23) a2
  have hl : lv_has ls 3 [(0, .ref mo), (1, .ref (mor 23)), (2, .int a2)] := hl
  refine lv_aload_n hx hb dX7_isLit_0 rfl (lv_at hl 1 rfl) ?_
  refine lv_bipush (v := 12) hx hb dX7_isLit_1 (by decide) ?_
  refine lv_aload_n hx hb dX7_isLit_3 rfl (lv_at hl 1 rfl) ?_
  refine lv_iload_n hx hb dX7_isLit_4 rfl (lv_at hl 2 rfl) ?_
  by_cases g1 : a2 < 0 ∨ 19 ≤ a2.toNatClampNeg
  · exact absurd (he.trans (if_pos g1)) hne
  replace he := he.trans (if_neg g1)
  refine va_iald hx hb hK hP 12 0 rfl rfl g1 dX7_isLit_5 ?_
  refine lv_iadd hx hb dX7_isLit_6 ?_
  by_cases g2 : ((12 : Int32) + ((mok 23) a2.toNatClampNeg)) < 0 ∨ 19 ≤ ((12 : Int32) + ((mok 23) a2.toNatClampNeg)).toNatClampNeg
  · exact absurd (he.trans (if_pos g2)) hne
  replace he := he.trans (if_neg g2)
  refine va_iald hx hb hK hP 12 0 rfl rfl g2 dX7_isLit_7 ?_
  refine lv_iconst (v := 1) hx hb dX7_isLit_8 (by decide) ?_
  refine lv_icmp_ne (tgt := 16) hx hb dX7_isLit_9 (by decide) (fun c3 => ?_) (fun c3 => ?_)
  · replace he := he.trans (if_neg c3)
    refine lv_iconst (v := 0) hx hb dX7_isLit_16 (by decide) ?_
    exact hret (0 : Int32) () _ _ _ _ dX7_isLit_17 (Or.inl rfl) he hP hD hS
  · replace he := he.trans (if_pos c3)
    refine lv_iconst (v := 1) hx hb dX7_isLit_12 (by decide) ?_
    refine lv_goto (tgt := 17) hx hb dX7_isLit_13 (by decide) ?_
    exact hret (1 : Int32) () _ _ _ _ dX7_isLit_17 (Or.inr rfl) he hP hD hS

def fX7_isWarm_now (moi_20 : Int32) (moi_21 : Int32) (moi_32 : Int32) (mok_14 : Nat → Int32) (mok_22 : Nat → Int32) (a2 : Int32) : Option (Int32) :=
  xbd (fX7_isLit_now mok_22 a2) (fun (r3 : Int32) => if r3 = 0 then (xbd (fX7_in (mok_22 (18 : Int32).toNatClampNeg) moi_20 moi_21) (fun (r21 : Int32) => if r21 = 0 then (if a2 = moi_32 then (some (0 : Int32)) else (if a2 < 0 ∨ 6 ≤ a2.toNatClampNeg then none else (if (mok_14 a2.toNatClampNeg) = 0 then (some (0 : Int32)) else (if (mok_14 a2.toNatClampNeg) = (2 : Int32) then (some (1 : Int32)) else (some (0 : Int32)))))) else (if a2 = moi_32 then (some (0 : Int32)) else (if a2 < 0 ∨ 6 ≤ a2.toNatClampNeg then none else (if (mok_14 a2.toNatClampNeg) = 0 then (some (1 : Int32)) else (if (mok_14 a2.toNatClampNeg) = (2 : Int32) then (some (0 : Int32)) else (some (0 : Int32)))))))) else (if a2 = moi_32 then (some (0 : Int32)) else (if a2 < 0 ∨ 6 ≤ a2.toNatClampNeg then none else (if (mok_14 a2.toNatClampNeg) = 0 then (some (1 : Int32)) else (if (mok_14 a2.toNatClampNeg) = (2 : Int32) then (some (0 : Int32)) else (some (0 : Int32)))))))
theorem hi_X7_isWarm_now_7 : ∀ w ∈ wsX70, w ∈ wsX7_isWarm := fun _ h => (List.mem_cons_of_mem _ (List.mem_append_right _ h))
set_option maxHeartbeats 4000000 in
set_option maxRecDepth 100000 in
theorem c_X7_isWarm_now (l : Launch) (D : va_G) (cI cP : ClassId) (sz : Nat) (mo : Nat) (mor : Nat → Nat) (moi : Nat → Int32) (mok : Nat → Nat → Int32) (a2 : Int32) (hne : fX7_isWarm_now (moi 20) (moi 21) (moi 32) (mok 14) (mok 22) a2 ≠ none) : xMi l yX7_isWarm wsX7_isWarm ({ frames := 1, cells := 0, slots := 0, locals := 22 } : Room) D (xT cI cP) [.ref mo, .ref (mor 22), .int a2] (wM cI mo mor moi mok) sz (fun r (_ : Unit) => fX7_isWarm_now (moi 20) (moi 21) (moi 32) (mok 14) (mok 22) a2 = some r) (fun u => wM cI mo mor moi mok) 0 0 := by
  refine xMz_of (cc := cX7_isWarm) (maxL := 5) (by decide +kernel) rfl (Nat.le_of_ble_eq_true rfl) ?_
  intro p e s m args below meth c A ls hx hb hml hown hts hname hN hK hA hP hD hS hl Q hret
  have he := fX7_isWarm_now.eq_1 (moi 20) (moi 21) (moi 32) (mok 14) (mok 22) a2
  have hl : lv_has ls 5 [(0, .ref mo), (1, .ref (mor 22)), (2, .int a2)] := hl
  refine lv_aload_n hx hb dX7_isWarm_0 rfl (lv_at hl 0 rfl) ?_
  refine lv_aload_n hx hb dX7_isWarm_1 rfl (lv_at hl 1 rfl) ?_
  refine lv_iload_n hx hb dX7_isWarm_2 rfl (lv_at hl 2 rfl) ?_
  have n1_ : fX7_isLit_now (mok 22) a2 ≠ none := fun z => hne (he.trans (xbd_none z))
  refine xci (va_runV (As := [.ref (mor 22), .int a2]) (rest := []) ⟨hx, hb, hml, hown, hts⟩ (c_X7_isLit_now l D cI cP s.heap.size mo mor moi mok a2 n1_) (cwV 2 hts gX7_isWarm_X7_isLit rfl rfl rfl (by decide +kernel) ⟨Nat.le_of_ble_eq_true rfl, Nat.le_of_ble_eq_true rfl⟩) (xPV hN hK hP hD [0, 1, 2, 3, 4, 5, 6, 7, 8, 9, 10, 11, 12, 13, 14, 15, 16, 17] rfl (by decide) (ci := 7) (j := 0) rfl rfl) rfl rfl hl.1 rfl (lv_room (Nat.le_of_ble_eq_true rfl)) dX7_isWarm_3 ⟨Nat.le_of_ble_eq_true rfl, Nat.le_of_ble_eq_true rfl⟩) hP hD hS hA [0, 1, 2, 3, 4, 5, 6, 7, 8, 9, 10, 11, 12, 13, 14, 15, 16, 17] rfl (fun _ => rfl) (fun r3 u3 H locs hw hP hD hS => ?_)
  have hP : va_P D vwCl (wM cI mo mor moi mok) H := hP
  have hD : va_D A (wM cI mo mor moi mok) := hD
  replace he := he.trans (xbd_some hw)
  refine lv_if_ne (tgt := 27) hx hb dX7_isWarm_6 (by decide) (fun c2 => ?_) (fun c2 => ?_)
  · replace he := he.trans (if_neg c2)
    refine lv_iconst (v := 1) hx hb dX7_isWarm_27 (by decide) ?_
    refine lv_goto (tgt := 32) hx hb dX7_isWarm_28 (by decide) ?_
    refine lv_istore_n (lv' := [(3, .int (1 : Int32)), (0, .ref mo), (1, .ref (mor 22)), (2, .int a2)]) hx hb dX7_isWarm_32 rfl hl (by decide) rfl (fun ls hl => ?_)
    refine lv_iload_n hx hb dX7_isWarm_33 rfl (lv_at hl 3 rfl) ?_
    refine lv_aload_n hx hb dX7_isWarm_34 rfl (lv_at hl 1 rfl) ?_
    refine va_get (D := D) (ci := 7) (v := .int (moi 32)) (C := RX7) (T := TX7) (N := 35) hx hb hts hi_X7_isWarm_now_7 hown hK hP 0 rfl rfl 32 (by decide) (hts (.fieldLink RX7 62 "BlindLanternsModel" "cold" "I") (List.mem_of_getElem? (i := 3) rfl)) (fun _ h9 => h9) rfl dX7_isWarm_35 ?_
    refine lv_icmp_ne (tgt := 45) hx hb dX7_isWarm_38 (by decide) (fun c3 => ?_) (fun c3 => ?_)
    · replace he := he.trans (if_neg c3)
      refine lv_aload_n hx hb dX7_isWarm_45 rfl (lv_at hl 1 rfl) ?_
      refine va_get (D := D) (ci := 7) (v := .ref (mor 14)) (C := RX7) (T := TX7) (N := 35) hx hb hts hi_X7_isWarm_now_7 hown hK hP 0 rfl rfl 14 (by decide) (hts (.fieldLink RX7 28 "BlindLanternsModel" "kind" "[I") (List.mem_of_getElem? (i := 4) rfl)) (fun _ h9 => h9) rfl dX7_isWarm_46 ?_
      refine lv_iload_n hx hb dX7_isWarm_49 rfl (lv_at hl 3 rfl) ?_
      by_cases g4 : a2 < 0 ∨ 6 ≤ a2.toNatClampNeg
      · exact absurd (he.trans (if_pos g4)) hne
      replace he := he.trans (if_neg g4)
      refine va_iald hx hb hK hP 7 0 rfl rfl g4 dX7_isWarm_50 ?_
      refine lv_istore (lv' := [(4, .int ((mok 14) a2.toNatClampNeg)), (3, .int (1 : Int32)), (0, .ref mo), (1, .ref (mor 22)), (2, .int a2)]) hx hb dX7_isWarm_51 hl (by decide) rfl (fun ls hl => ?_)
      refine lv_iload hx hb dX7_isWarm_53 (lv_at hl 0 rfl) ?_
      refine lv_if_ne (tgt := 62) hx hb dX7_isWarm_55 (by decide) (fun c5 => ?_) (fun c5 => ?_)
      · replace he := he.trans (if_neg c5)
        refine lv_iload hx hb dX7_isWarm_62 (lv_at hl 0 rfl) ?_
        refine lv_iconst (v := 2) hx hb dX7_isWarm_64 (by decide) ?_
        refine lv_icmp_ne (tgt := 76) hx hb dX7_isWarm_65 (by decide) (fun c6 => ?_) (fun c6 => ?_)
        · replace he := he.trans (if_neg c6)
          refine lv_iconst (v := 0) hx hb dX7_isWarm_76 (by decide) ?_
          exact hret (0 : Int32) () _ _ _ _ dX7_isWarm_77 (Or.inl rfl) he hP hD hS
        · replace he := he.trans (if_pos c6)
          refine lv_iload_n hx hb dX7_isWarm_68 rfl (lv_at hl 1 rfl) ?_
          refine lv_if_ne (tgt := 76) hx hb dX7_isWarm_69 (by decide) (fun _ => ?_) (fun c0 => absurd (by decide) c0)
          refine lv_iconst (v := 0) hx hb dX7_isWarm_76 (by decide) ?_
          exact hret (0 : Int32) () _ _ _ _ dX7_isWarm_77 (Or.inl rfl) he hP hD hS
      · replace he := he.trans (if_pos c5)
        refine lv_iload_n hx hb dX7_isWarm_58 rfl (lv_at hl 1 rfl) ?_
        refine lv_goto (tgt := 77) hx hb dX7_isWarm_59 (by decide) ?_
        exact hret (1 : Int32) () _ _ _ _ dX7_isWarm_77 (Or.inr rfl) he hP hD hS
    · replace he := he.trans (if_pos c3)
      refine lv_iconst (v := 1) hx hb dX7_isWarm_41 (by decide) ?_
      refine lv_goto (tgt := 51) hx hb dX7_isWarm_42 (by decide) ?_
      refine lv_istore (lv' := [(4, .int (1 : Int32)), (3, .int (1 : Int32)), (0, .ref mo), (1, .ref (mor 22)), (2, .int a2)]) hx hb dX7_isWarm_51 hl (by decide) rfl (fun ls hl => ?_)
      refine lv_iload hx hb dX7_isWarm_53 (lv_at hl 0 rfl) ?_
      refine lv_if_ne (tgt := 62) hx hb dX7_isWarm_55 (by decide) (fun _ => ?_) (fun c0 => absurd (by decide) c0)
      refine lv_iload hx hb dX7_isWarm_62 (lv_at hl 0 rfl) ?_
      refine lv_iconst (v := 2) hx hb dX7_isWarm_64 (by decide) ?_
      refine lv_icmp_ne (tgt := 76) hx hb dX7_isWarm_65 (by decide) (fun _ => ?_) (fun c0 => absurd (by decide) c0)
      refine lv_iconst (v := 0) hx hb dX7_isWarm_76 (by decide) ?_
      exact hret (0 : Int32) () _ _ _ _ dX7_isWarm_77 (Or.inl rfl) he hP hD hS
  · replace he := he.trans (if_pos c2)
    refine lv_aload_n hx hb dX7_isWarm_9 rfl (lv_at hl 1 rfl) ?_
    refine lv_bipush (v := 18) hx hb dX7_isWarm_10 (by decide) ?_
    refine va_iald hx hb hK hP 11 0 rfl rfl (by decide) dX7_isWarm_12 ?_
    refine lv_aload_n hx hb dX7_isWarm_13 rfl (lv_at hl 0 rfl) ?_
    refine va_get (D := D) (ci := 7) (v := .int (moi 20)) (C := RX7) (T := TX7) (N := 35) hx hb hts hi_X7_isWarm_now_7 hown hK hP 0 rfl rfl 20 (by decide) (hts (.fieldLink RX7 77 "BlindLanternsModel" "sun" "I") (List.mem_of_getElem? (i := 1) rfl)) (fun _ h9 => h9) rfl dX7_isWarm_14 ?_
    refine lv_aload_n hx hb dX7_isWarm_17 rfl (lv_at hl 0 rfl) ?_
    refine va_get (D := D) (ci := 7) (v := .int (moi 21)) (C := RX7) (T := TX7) (N := 35) hx hb hts hi_X7_isWarm_now_7 hown hK hP 0 rfl rfl 21 (by decide) (hts (.fieldLink RX7 129 "BlindLanternsModel" "dark" "I") (List.mem_of_getElem? (i := 2) rfl)) (fun _ h9 => h9) rfl dX7_isWarm_18 ?_
    have n7_ : fX7_in ((mok 22) (18 : Int32).toNatClampNeg) (moi 20) (moi 21) ≠ none := fun z => hne (he.trans (xbd_none z))
    refine xci (va_runS (As := [.int ((mok 22) (18 : Int32).toNatClampNeg), .int (moi 20), .int (moi 21)]) (rest := []) ⟨hx, hb, hml, hown, hts⟩ (c_X7_in l D cI cP H.size  ((mok 22) (18 : Int32).toNatClampNeg) (moi 20) (moi 21) n7_) (va_cwS 3 hts gX7_isWarm_X7_in rfl rfl rfl (by decide +kernel) ⟨Nat.le_of_ble_eq_true rfl, Nat.le_of_ble_eq_true rfl⟩) (xPS hN hK hP hD [] rfl (by decide)) rfl rfl hl.1 rfl (lv_room (Nat.le_of_ble_eq_true rfl)) dX7_isWarm_21 ⟨Nat.le_of_ble_eq_true rfl, Nat.le_of_ble_eq_true rfl⟩) hP hD hS hA [] rfl (fun _ => rfl) (fun r21 u21 H locs hw hP hD hS => ?_)
    have hP : va_P D vwCl (wM cI mo mor moi mok) H := hP
    have hD : va_D A (wM cI mo mor moi mok) := hD
    replace he := he.trans (xbd_some hw)
    refine lv_if_eq (tgt := 31) hx hb dX7_isWarm_24 (by decide) (fun c8 => ?_) (fun c8 => ?_)
    · replace he := he.trans (if_pos c8)
      refine lv_iconst (v := 0) hx hb dX7_isWarm_31 (by decide) ?_
      refine lv_istore_n (lv' := [(3, .int (0 : Int32)), (0, .ref mo), (1, .ref (mor 22)), (2, .int a2)]) hx hb dX7_isWarm_32 rfl hl (by decide) rfl (fun ls hl => ?_)
      refine lv_iload_n hx hb dX7_isWarm_33 rfl (lv_at hl 3 rfl) ?_
      refine lv_aload_n hx hb dX7_isWarm_34 rfl (lv_at hl 1 rfl) ?_
      refine va_get (D := D) (ci := 7) (v := .int (moi 32)) (C := RX7) (T := TX7) (N := 35) hx hb hts hi_X7_isWarm_now_7 hown hK hP 0 rfl rfl 32 (by decide) (hts (.fieldLink RX7 62 "BlindLanternsModel" "cold" "I") (List.mem_of_getElem? (i := 3) rfl)) (fun _ h9 => h9) rfl dX7_isWarm_35 ?_
      refine lv_icmp_ne (tgt := 45) hx hb dX7_isWarm_38 (by decide) (fun c9 => ?_) (fun c9 => ?_)
      · replace he := he.trans (if_neg c9)
        refine lv_aload_n hx hb dX7_isWarm_45 rfl (lv_at hl 1 rfl) ?_
        refine va_get (D := D) (ci := 7) (v := .ref (mor 14)) (C := RX7) (T := TX7) (N := 35) hx hb hts hi_X7_isWarm_now_7 hown hK hP 0 rfl rfl 14 (by decide) (hts (.fieldLink RX7 28 "BlindLanternsModel" "kind" "[I") (List.mem_of_getElem? (i := 4) rfl)) (fun _ h9 => h9) rfl dX7_isWarm_46 ?_
        refine lv_iload_n hx hb dX7_isWarm_49 rfl (lv_at hl 3 rfl) ?_
        by_cases g10 : a2 < 0 ∨ 6 ≤ a2.toNatClampNeg
        · exact absurd (he.trans (if_pos g10)) hne
        replace he := he.trans (if_neg g10)
        refine va_iald hx hb hK hP 7 0 rfl rfl g10 dX7_isWarm_50 ?_
        refine lv_istore (lv' := [(4, .int ((mok 14) a2.toNatClampNeg)), (3, .int (0 : Int32)), (0, .ref mo), (1, .ref (mor 22)), (2, .int a2)]) hx hb dX7_isWarm_51 hl (by decide) rfl (fun ls hl => ?_)
        refine lv_iload hx hb dX7_isWarm_53 (lv_at hl 0 rfl) ?_
        refine lv_if_ne (tgt := 62) hx hb dX7_isWarm_55 (by decide) (fun c11 => ?_) (fun c11 => ?_)
        · replace he := he.trans (if_neg c11)
          refine lv_iload hx hb dX7_isWarm_62 (lv_at hl 0 rfl) ?_
          refine lv_iconst (v := 2) hx hb dX7_isWarm_64 (by decide) ?_
          refine lv_icmp_ne (tgt := 76) hx hb dX7_isWarm_65 (by decide) (fun c12 => ?_) (fun c12 => ?_)
          · replace he := he.trans (if_neg c12)
            refine lv_iconst (v := 0) hx hb dX7_isWarm_76 (by decide) ?_
            exact hret (0 : Int32) () _ _ _ _ dX7_isWarm_77 (Or.inl rfl) he hP hD hS
          · replace he := he.trans (if_pos c12)
            refine lv_iload_n hx hb dX7_isWarm_68 rfl (lv_at hl 1 rfl) ?_
            refine lv_if_ne (tgt := 76) hx hb dX7_isWarm_69 (by decide) (fun c0 => absurd c0 (by decide)) (fun _ => ?_)
            refine lv_iconst (v := 1) hx hb dX7_isWarm_72 (by decide) ?_
            refine lv_goto (tgt := 77) hx hb dX7_isWarm_73 (by decide) ?_
            exact hret (1 : Int32) () _ _ _ _ dX7_isWarm_77 (Or.inr rfl) he hP hD hS
        · replace he := he.trans (if_pos c11)
          refine lv_iload_n hx hb dX7_isWarm_58 rfl (lv_at hl 1 rfl) ?_
          refine lv_goto (tgt := 77) hx hb dX7_isWarm_59 (by decide) ?_
          exact hret (0 : Int32) () _ _ _ _ dX7_isWarm_77 (Or.inl rfl) he hP hD hS
      · replace he := he.trans (if_pos c9)
        refine lv_iconst (v := 1) hx hb dX7_isWarm_41 (by decide) ?_
        refine lv_goto (tgt := 51) hx hb dX7_isWarm_42 (by decide) ?_
        refine lv_istore (lv' := [(4, .int (1 : Int32)), (3, .int (0 : Int32)), (0, .ref mo), (1, .ref (mor 22)), (2, .int a2)]) hx hb dX7_isWarm_51 hl (by decide) rfl (fun ls hl => ?_)
        refine lv_iload hx hb dX7_isWarm_53 (lv_at hl 0 rfl) ?_
        refine lv_if_ne (tgt := 62) hx hb dX7_isWarm_55 (by decide) (fun _ => ?_) (fun c0 => absurd (by decide) c0)
        refine lv_iload hx hb dX7_isWarm_62 (lv_at hl 0 rfl) ?_
        refine lv_iconst (v := 2) hx hb dX7_isWarm_64 (by decide) ?_
        refine lv_icmp_ne (tgt := 76) hx hb dX7_isWarm_65 (by decide) (fun _ => ?_) (fun c0 => absurd (by decide) c0)
        refine lv_iconst (v := 0) hx hb dX7_isWarm_76 (by decide) ?_
        exact hret (0 : Int32) () _ _ _ _ dX7_isWarm_77 (Or.inl rfl) he hP hD hS
    · replace he := he.trans (if_neg c8)
      refine lv_iconst (v := 1) hx hb dX7_isWarm_27 (by decide) ?_
      refine lv_goto (tgt := 32) hx hb dX7_isWarm_28 (by decide) ?_
      refine lv_istore_n (lv' := [(3, .int (1 : Int32)), (0, .ref mo), (1, .ref (mor 22)), (2, .int a2)]) hx hb dX7_isWarm_32 rfl hl (by decide) rfl (fun ls hl => ?_)
      refine lv_iload_n hx hb dX7_isWarm_33 rfl (lv_at hl 3 rfl) ?_
      refine lv_aload_n hx hb dX7_isWarm_34 rfl (lv_at hl 1 rfl) ?_
      refine va_get (D := D) (ci := 7) (v := .int (moi 32)) (C := RX7) (T := TX7) (N := 35) hx hb hts hi_X7_isWarm_now_7 hown hK hP 0 rfl rfl 32 (by decide) (hts (.fieldLink RX7 62 "BlindLanternsModel" "cold" "I") (List.mem_of_getElem? (i := 3) rfl)) (fun _ h9 => h9) rfl dX7_isWarm_35 ?_
      refine lv_icmp_ne (tgt := 45) hx hb dX7_isWarm_38 (by decide) (fun c13 => ?_) (fun c13 => ?_)
      · replace he := he.trans (if_neg c13)
        refine lv_aload_n hx hb dX7_isWarm_45 rfl (lv_at hl 1 rfl) ?_
        refine va_get (D := D) (ci := 7) (v := .ref (mor 14)) (C := RX7) (T := TX7) (N := 35) hx hb hts hi_X7_isWarm_now_7 hown hK hP 0 rfl rfl 14 (by decide) (hts (.fieldLink RX7 28 "BlindLanternsModel" "kind" "[I") (List.mem_of_getElem? (i := 4) rfl)) (fun _ h9 => h9) rfl dX7_isWarm_46 ?_
        refine lv_iload_n hx hb dX7_isWarm_49 rfl (lv_at hl 3 rfl) ?_
        by_cases g14 : a2 < 0 ∨ 6 ≤ a2.toNatClampNeg
        · exact absurd (he.trans (if_pos g14)) hne
        replace he := he.trans (if_neg g14)
        refine va_iald hx hb hK hP 7 0 rfl rfl g14 dX7_isWarm_50 ?_
        refine lv_istore (lv' := [(4, .int ((mok 14) a2.toNatClampNeg)), (3, .int (1 : Int32)), (0, .ref mo), (1, .ref (mor 22)), (2, .int a2)]) hx hb dX7_isWarm_51 hl (by decide) rfl (fun ls hl => ?_)
        refine lv_iload hx hb dX7_isWarm_53 (lv_at hl 0 rfl) ?_
        refine lv_if_ne (tgt := 62) hx hb dX7_isWarm_55 (by decide) (fun c15 => ?_) (fun c15 => ?_)
        · replace he := he.trans (if_neg c15)
          refine lv_iload hx hb dX7_isWarm_62 (lv_at hl 0 rfl) ?_
          refine lv_iconst (v := 2) hx hb dX7_isWarm_64 (by decide) ?_
          refine lv_icmp_ne (tgt := 76) hx hb dX7_isWarm_65 (by decide) (fun c16 => ?_) (fun c16 => ?_)
          · replace he := he.trans (if_neg c16)
            refine lv_iconst (v := 0) hx hb dX7_isWarm_76 (by decide) ?_
            exact hret (0 : Int32) () _ _ _ _ dX7_isWarm_77 (Or.inl rfl) he hP hD hS
          · replace he := he.trans (if_pos c16)
            refine lv_iload_n hx hb dX7_isWarm_68 rfl (lv_at hl 1 rfl) ?_
            refine lv_if_ne (tgt := 76) hx hb dX7_isWarm_69 (by decide) (fun _ => ?_) (fun c0 => absurd (by decide) c0)
            refine lv_iconst (v := 0) hx hb dX7_isWarm_76 (by decide) ?_
            exact hret (0 : Int32) () _ _ _ _ dX7_isWarm_77 (Or.inl rfl) he hP hD hS
        · replace he := he.trans (if_pos c15)
          refine lv_iload_n hx hb dX7_isWarm_58 rfl (lv_at hl 1 rfl) ?_
          refine lv_goto (tgt := 77) hx hb dX7_isWarm_59 (by decide) ?_
          exact hret (1 : Int32) () _ _ _ _ dX7_isWarm_77 (Or.inr rfl) he hP hD hS
      · replace he := he.trans (if_pos c13)
        refine lv_iconst (v := 1) hx hb dX7_isWarm_41 (by decide) ?_
        refine lv_goto (tgt := 51) hx hb dX7_isWarm_42 (by decide) ?_
        refine lv_istore (lv' := [(4, .int (1 : Int32)), (3, .int (1 : Int32)), (0, .ref mo), (1, .ref (mor 22)), (2, .int a2)]) hx hb dX7_isWarm_51 hl (by decide) rfl (fun ls hl => ?_)
        refine lv_iload hx hb dX7_isWarm_53 (lv_at hl 0 rfl) ?_
        refine lv_if_ne (tgt := 62) hx hb dX7_isWarm_55 (by decide) (fun _ => ?_) (fun c0 => absurd (by decide) c0)
        refine lv_iload hx hb dX7_isWarm_62 (lv_at hl 0 rfl) ?_
        refine lv_iconst (v := 2) hx hb dX7_isWarm_64 (by decide) ?_
        refine lv_icmp_ne (tgt := 76) hx hb dX7_isWarm_65 (by decide) (fun _ => ?_) (fun c0 => absurd (by decide) c0)
        refine lv_iconst (v := 0) hx hb dX7_isWarm_76 (by decide) ?_
        exact hret (0 : Int32) () _ _ _ _ dX7_isWarm_77 (Or.inl rfl) he hP hD hS

def fX7_isWarm_tried (moi_20 : Int32) (moi_21 : Int32) (moi_32 : Int32) (mok_14 : Nat → Int32) (mok_23 : Nat → Int32) (a2 : Int32) : Option (Int32) :=
  xbd (fX7_isLit_tried mok_23 a2) (fun (r3 : Int32) => if r3 = 0 then (xbd (fX7_in (mok_23 (18 : Int32).toNatClampNeg) moi_20 moi_21) (fun (r21 : Int32) => if r21 = 0 then (if a2 = moi_32 then (some (0 : Int32)) else (if a2 < 0 ∨ 6 ≤ a2.toNatClampNeg then none else (if (mok_14 a2.toNatClampNeg) = 0 then (some (0 : Int32)) else (if (mok_14 a2.toNatClampNeg) = (2 : Int32) then (some (1 : Int32)) else (some (0 : Int32)))))) else (if a2 = moi_32 then (some (0 : Int32)) else (if a2 < 0 ∨ 6 ≤ a2.toNatClampNeg then none else (if (mok_14 a2.toNatClampNeg) = 0 then (some (1 : Int32)) else (if (mok_14 a2.toNatClampNeg) = (2 : Int32) then (some (0 : Int32)) else (some (0 : Int32)))))))) else (if a2 = moi_32 then (some (0 : Int32)) else (if a2 < 0 ∨ 6 ≤ a2.toNatClampNeg then none else (if (mok_14 a2.toNatClampNeg) = 0 then (some (1 : Int32)) else (if (mok_14 a2.toNatClampNeg) = (2 : Int32) then (some (0 : Int32)) else (some (0 : Int32)))))))
theorem hi_X7_isWarm_tried_7 : ∀ w ∈ wsX70, w ∈ wsX7_isWarm := fun _ h => (List.mem_cons_of_mem _ (List.mem_append_right _ h))
set_option maxHeartbeats 4000000 in
set_option maxRecDepth 100000 in
theorem c_X7_isWarm_tried (l : Launch) (D : va_G) (cI cP : ClassId) (sz : Nat) (mo : Nat) (mor : Nat → Nat) (moi : Nat → Int32) (mok : Nat → Nat → Int32) (a2 : Int32) (hne : fX7_isWarm_tried (moi 20) (moi 21) (moi 32) (mok 14) (mok 23) a2 ≠ none) : xMi l yX7_isWarm wsX7_isWarm ({ frames := 1, cells := 0, slots := 0, locals := 22 } : Room) D (xT cI cP) [.ref mo, .ref (mor 23), .int a2] (wM cI mo mor moi mok) sz (fun r (_ : Unit) => fX7_isWarm_tried (moi 20) (moi 21) (moi 32) (mok 14) (mok 23) a2 = some r) (fun u => wM cI mo mor moi mok) 0 0 := by
  refine xMz_of (cc := cX7_isWarm) (maxL := 5) (by decide +kernel) rfl (Nat.le_of_ble_eq_true rfl) ?_
  intro p e s m args below meth c A ls hx hb hml hown hts hname hN hK hA hP hD hS hl Q hret
  have he := fX7_isWarm_tried.eq_1 (moi 20) (moi 21) (moi 32) (mok 14) (mok 23) a2
  have hl : lv_has ls 5 [(0, .ref mo), (1, .ref (mor 23)), (2, .int a2)] := hl
  refine lv_aload_n hx hb dX7_isWarm_0 rfl (lv_at hl 0 rfl) ?_
  refine lv_aload_n hx hb dX7_isWarm_1 rfl (lv_at hl 1 rfl) ?_
  refine lv_iload_n hx hb dX7_isWarm_2 rfl (lv_at hl 2 rfl) ?_
  have n1_ : fX7_isLit_tried (mok 23) a2 ≠ none := fun z => hne (he.trans (xbd_none z))
  refine xci (va_runV (As := [.ref (mor 23), .int a2]) (rest := []) ⟨hx, hb, hml, hown, hts⟩ (c_X7_isLit_tried l D cI cP s.heap.size mo mor moi mok a2 n1_) (cwV 2 hts gX7_isWarm_X7_isLit rfl rfl rfl (by decide +kernel) ⟨Nat.le_of_ble_eq_true rfl, Nat.le_of_ble_eq_true rfl⟩) (xPV hN hK hP hD [0, 1, 2, 3, 4, 5, 6, 7, 8, 9, 10, 11, 12, 13, 14, 15, 16, 17] rfl (by decide) (ci := 7) (j := 0) rfl rfl) rfl rfl hl.1 rfl (lv_room (Nat.le_of_ble_eq_true rfl)) dX7_isWarm_3 ⟨Nat.le_of_ble_eq_true rfl, Nat.le_of_ble_eq_true rfl⟩) hP hD hS hA [0, 1, 2, 3, 4, 5, 6, 7, 8, 9, 10, 11, 12, 13, 14, 15, 16, 17] rfl (fun _ => rfl) (fun r3 u3 H locs hw hP hD hS => ?_)
  have hP : va_P D vwCl (wM cI mo mor moi mok) H := hP
  have hD : va_D A (wM cI mo mor moi mok) := hD
  replace he := he.trans (xbd_some hw)
  refine lv_if_ne (tgt := 27) hx hb dX7_isWarm_6 (by decide) (fun c2 => ?_) (fun c2 => ?_)
  · replace he := he.trans (if_neg c2)
    refine lv_iconst (v := 1) hx hb dX7_isWarm_27 (by decide) ?_
    refine lv_goto (tgt := 32) hx hb dX7_isWarm_28 (by decide) ?_
    refine lv_istore_n (lv' := [(3, .int (1 : Int32)), (0, .ref mo), (1, .ref (mor 23)), (2, .int a2)]) hx hb dX7_isWarm_32 rfl hl (by decide) rfl (fun ls hl => ?_)
    refine lv_iload_n hx hb dX7_isWarm_33 rfl (lv_at hl 3 rfl) ?_
    refine lv_aload_n hx hb dX7_isWarm_34 rfl (lv_at hl 1 rfl) ?_
    refine va_get (D := D) (ci := 7) (v := .int (moi 32)) (C := RX7) (T := TX7) (N := 35) hx hb hts hi_X7_isWarm_tried_7 hown hK hP 0 rfl rfl 32 (by decide) (hts (.fieldLink RX7 62 "BlindLanternsModel" "cold" "I") (List.mem_of_getElem? (i := 3) rfl)) (fun _ h9 => h9) rfl dX7_isWarm_35 ?_
    refine lv_icmp_ne (tgt := 45) hx hb dX7_isWarm_38 (by decide) (fun c3 => ?_) (fun c3 => ?_)
    · replace he := he.trans (if_neg c3)
      refine lv_aload_n hx hb dX7_isWarm_45 rfl (lv_at hl 1 rfl) ?_
      refine va_get (D := D) (ci := 7) (v := .ref (mor 14)) (C := RX7) (T := TX7) (N := 35) hx hb hts hi_X7_isWarm_tried_7 hown hK hP 0 rfl rfl 14 (by decide) (hts (.fieldLink RX7 28 "BlindLanternsModel" "kind" "[I") (List.mem_of_getElem? (i := 4) rfl)) (fun _ h9 => h9) rfl dX7_isWarm_46 ?_
      refine lv_iload_n hx hb dX7_isWarm_49 rfl (lv_at hl 3 rfl) ?_
      by_cases g4 : a2 < 0 ∨ 6 ≤ a2.toNatClampNeg
      · exact absurd (he.trans (if_pos g4)) hne
      replace he := he.trans (if_neg g4)
      refine va_iald hx hb hK hP 7 0 rfl rfl g4 dX7_isWarm_50 ?_
      refine lv_istore (lv' := [(4, .int ((mok 14) a2.toNatClampNeg)), (3, .int (1 : Int32)), (0, .ref mo), (1, .ref (mor 23)), (2, .int a2)]) hx hb dX7_isWarm_51 hl (by decide) rfl (fun ls hl => ?_)
      refine lv_iload hx hb dX7_isWarm_53 (lv_at hl 0 rfl) ?_
      refine lv_if_ne (tgt := 62) hx hb dX7_isWarm_55 (by decide) (fun c5 => ?_) (fun c5 => ?_)
      · replace he := he.trans (if_neg c5)
        refine lv_iload hx hb dX7_isWarm_62 (lv_at hl 0 rfl) ?_
        refine lv_iconst (v := 2) hx hb dX7_isWarm_64 (by decide) ?_
        refine lv_icmp_ne (tgt := 76) hx hb dX7_isWarm_65 (by decide) (fun c6 => ?_) (fun c6 => ?_)
        · replace he := he.trans (if_neg c6)
          refine lv_iconst (v := 0) hx hb dX7_isWarm_76 (by decide) ?_
          exact hret (0 : Int32) () _ _ _ _ dX7_isWarm_77 (Or.inl rfl) he hP hD hS
        · replace he := he.trans (if_pos c6)
          refine lv_iload_n hx hb dX7_isWarm_68 rfl (lv_at hl 1 rfl) ?_
          refine lv_if_ne (tgt := 76) hx hb dX7_isWarm_69 (by decide) (fun _ => ?_) (fun c0 => absurd (by decide) c0)
          refine lv_iconst (v := 0) hx hb dX7_isWarm_76 (by decide) ?_
          exact hret (0 : Int32) () _ _ _ _ dX7_isWarm_77 (Or.inl rfl) he hP hD hS
      · replace he := he.trans (if_pos c5)
        refine lv_iload_n hx hb dX7_isWarm_58 rfl (lv_at hl 1 rfl) ?_
        refine lv_goto (tgt := 77) hx hb dX7_isWarm_59 (by decide) ?_
        exact hret (1 : Int32) () _ _ _ _ dX7_isWarm_77 (Or.inr rfl) he hP hD hS
    · replace he := he.trans (if_pos c3)
      refine lv_iconst (v := 1) hx hb dX7_isWarm_41 (by decide) ?_
      refine lv_goto (tgt := 51) hx hb dX7_isWarm_42 (by decide) ?_
      refine lv_istore (lv' := [(4, .int (1 : Int32)), (3, .int (1 : Int32)), (0, .ref mo), (1, .ref (mor 23)), (2, .int a2)]) hx hb dX7_isWarm_51 hl (by decide) rfl (fun ls hl => ?_)
      refine lv_iload hx hb dX7_isWarm_53 (lv_at hl 0 rfl) ?_
      refine lv_if_ne (tgt := 62) hx hb dX7_isWarm_55 (by decide) (fun _ => ?_) (fun c0 => absurd (by decide) c0)
      refine lv_iload hx hb dX7_isWarm_62 (lv_at hl 0 rfl) ?_
      refine lv_iconst (v := 2) hx hb dX7_isWarm_64 (by decide) ?_
      refine lv_icmp_ne (tgt := 76) hx hb dX7_isWarm_65 (by decide) (fun _ => ?_) (fun c0 => absurd (by decide) c0)
      refine lv_iconst (v := 0) hx hb dX7_isWarm_76 (by decide) ?_
      exact hret (0 : Int32) () _ _ _ _ dX7_isWarm_77 (Or.inl rfl) he hP hD hS
  · replace he := he.trans (if_pos c2)
    refine lv_aload_n hx hb dX7_isWarm_9 rfl (lv_at hl 1 rfl) ?_
    refine lv_bipush (v := 18) hx hb dX7_isWarm_10 (by decide) ?_
    refine va_iald hx hb hK hP 12 0 rfl rfl (by decide) dX7_isWarm_12 ?_
    refine lv_aload_n hx hb dX7_isWarm_13 rfl (lv_at hl 0 rfl) ?_
    refine va_get (D := D) (ci := 7) (v := .int (moi 20)) (C := RX7) (T := TX7) (N := 35) hx hb hts hi_X7_isWarm_tried_7 hown hK hP 0 rfl rfl 20 (by decide) (hts (.fieldLink RX7 77 "BlindLanternsModel" "sun" "I") (List.mem_of_getElem? (i := 1) rfl)) (fun _ h9 => h9) rfl dX7_isWarm_14 ?_
    refine lv_aload_n hx hb dX7_isWarm_17 rfl (lv_at hl 0 rfl) ?_
    refine va_get (D := D) (ci := 7) (v := .int (moi 21)) (C := RX7) (T := TX7) (N := 35) hx hb hts hi_X7_isWarm_tried_7 hown hK hP 0 rfl rfl 21 (by decide) (hts (.fieldLink RX7 129 "BlindLanternsModel" "dark" "I") (List.mem_of_getElem? (i := 2) rfl)) (fun _ h9 => h9) rfl dX7_isWarm_18 ?_
    have n7_ : fX7_in ((mok 23) (18 : Int32).toNatClampNeg) (moi 20) (moi 21) ≠ none := fun z => hne (he.trans (xbd_none z))
    refine xci (va_runS (As := [.int ((mok 23) (18 : Int32).toNatClampNeg), .int (moi 20), .int (moi 21)]) (rest := []) ⟨hx, hb, hml, hown, hts⟩ (c_X7_in l D cI cP H.size  ((mok 23) (18 : Int32).toNatClampNeg) (moi 20) (moi 21) n7_) (va_cwS 3 hts gX7_isWarm_X7_in rfl rfl rfl (by decide +kernel) ⟨Nat.le_of_ble_eq_true rfl, Nat.le_of_ble_eq_true rfl⟩) (xPS hN hK hP hD [] rfl (by decide)) rfl rfl hl.1 rfl (lv_room (Nat.le_of_ble_eq_true rfl)) dX7_isWarm_21 ⟨Nat.le_of_ble_eq_true rfl, Nat.le_of_ble_eq_true rfl⟩) hP hD hS hA [] rfl (fun _ => rfl) (fun r21 u21 H locs hw hP hD hS => ?_)
    have hP : va_P D vwCl (wM cI mo mor moi mok) H := hP
    have hD : va_D A (wM cI mo mor moi mok) := hD
    replace he := he.trans (xbd_some hw)
    refine lv_if_eq (tgt := 31) hx hb dX7_isWarm_24 (by decide) (fun c8 => ?_) (fun c8 => ?_)
    · replace he := he.trans (if_pos c8)
      refine lv_iconst (v := 0) hx hb dX7_isWarm_31 (by decide) ?_
      refine lv_istore_n (lv' := [(3, .int (0 : Int32)), (0, .ref mo), (1, .ref (mor 23)), (2, .int a2)]) hx hb dX7_isWarm_32 rfl hl (by decide) rfl (fun ls hl => ?_)
      refine lv_iload_n hx hb dX7_isWarm_33 rfl (lv_at hl 3 rfl) ?_
      refine lv_aload_n hx hb dX7_isWarm_34 rfl (lv_at hl 1 rfl) ?_
      refine va_get (D := D) (ci := 7) (v := .int (moi 32)) (C := RX7) (T := TX7) (N := 35) hx hb hts hi_X7_isWarm_tried_7 hown hK hP 0 rfl rfl 32 (by decide) (hts (.fieldLink RX7 62 "BlindLanternsModel" "cold" "I") (List.mem_of_getElem? (i := 3) rfl)) (fun _ h9 => h9) rfl dX7_isWarm_35 ?_
      refine lv_icmp_ne (tgt := 45) hx hb dX7_isWarm_38 (by decide) (fun c9 => ?_) (fun c9 => ?_)
      · replace he := he.trans (if_neg c9)
        refine lv_aload_n hx hb dX7_isWarm_45 rfl (lv_at hl 1 rfl) ?_
        refine va_get (D := D) (ci := 7) (v := .ref (mor 14)) (C := RX7) (T := TX7) (N := 35) hx hb hts hi_X7_isWarm_tried_7 hown hK hP 0 rfl rfl 14 (by decide) (hts (.fieldLink RX7 28 "BlindLanternsModel" "kind" "[I") (List.mem_of_getElem? (i := 4) rfl)) (fun _ h9 => h9) rfl dX7_isWarm_46 ?_
        refine lv_iload_n hx hb dX7_isWarm_49 rfl (lv_at hl 3 rfl) ?_
        by_cases g10 : a2 < 0 ∨ 6 ≤ a2.toNatClampNeg
        · exact absurd (he.trans (if_pos g10)) hne
        replace he := he.trans (if_neg g10)
        refine va_iald hx hb hK hP 7 0 rfl rfl g10 dX7_isWarm_50 ?_
        refine lv_istore (lv' := [(4, .int ((mok 14) a2.toNatClampNeg)), (3, .int (0 : Int32)), (0, .ref mo), (1, .ref (mor 23)), (2, .int a2)]) hx hb dX7_isWarm_51 hl (by decide) rfl (fun ls hl => ?_)
        refine lv_iload hx hb dX7_isWarm_53 (lv_at hl 0 rfl) ?_
        refine lv_if_ne (tgt := 62) hx hb dX7_isWarm_55 (by decide) (fun c11 => ?_) (fun c11 => ?_)
        · replace he := he.trans (if_neg c11)
          refine lv_iload hx hb dX7_isWarm_62 (lv_at hl 0 rfl) ?_
          refine lv_iconst (v := 2) hx hb dX7_isWarm_64 (by decide) ?_
          refine lv_icmp_ne (tgt := 76) hx hb dX7_isWarm_65 (by decide) (fun c12 => ?_) (fun c12 => ?_)
          · replace he := he.trans (if_neg c12)
            refine lv_iconst (v := 0) hx hb dX7_isWarm_76 (by decide) ?_
            exact hret (0 : Int32) () _ _ _ _ dX7_isWarm_77 (Or.inl rfl) he hP hD hS
          · replace he := he.trans (if_pos c12)
            refine lv_iload_n hx hb dX7_isWarm_68 rfl (lv_at hl 1 rfl) ?_
            refine lv_if_ne (tgt := 76) hx hb dX7_isWarm_69 (by decide) (fun c0 => absurd c0 (by decide)) (fun _ => ?_)
            refine lv_iconst (v := 1) hx hb dX7_isWarm_72 (by decide) ?_
            refine lv_goto (tgt := 77) hx hb dX7_isWarm_73 (by decide) ?_
            exact hret (1 : Int32) () _ _ _ _ dX7_isWarm_77 (Or.inr rfl) he hP hD hS
        · replace he := he.trans (if_pos c11)
          refine lv_iload_n hx hb dX7_isWarm_58 rfl (lv_at hl 1 rfl) ?_
          refine lv_goto (tgt := 77) hx hb dX7_isWarm_59 (by decide) ?_
          exact hret (0 : Int32) () _ _ _ _ dX7_isWarm_77 (Or.inl rfl) he hP hD hS
      · replace he := he.trans (if_pos c9)
        refine lv_iconst (v := 1) hx hb dX7_isWarm_41 (by decide) ?_
        refine lv_goto (tgt := 51) hx hb dX7_isWarm_42 (by decide) ?_
        refine lv_istore (lv' := [(4, .int (1 : Int32)), (3, .int (0 : Int32)), (0, .ref mo), (1, .ref (mor 23)), (2, .int a2)]) hx hb dX7_isWarm_51 hl (by decide) rfl (fun ls hl => ?_)
        refine lv_iload hx hb dX7_isWarm_53 (lv_at hl 0 rfl) ?_
        refine lv_if_ne (tgt := 62) hx hb dX7_isWarm_55 (by decide) (fun _ => ?_) (fun c0 => absurd (by decide) c0)
        refine lv_iload hx hb dX7_isWarm_62 (lv_at hl 0 rfl) ?_
        refine lv_iconst (v := 2) hx hb dX7_isWarm_64 (by decide) ?_
        refine lv_icmp_ne (tgt := 76) hx hb dX7_isWarm_65 (by decide) (fun _ => ?_) (fun c0 => absurd (by decide) c0)
        refine lv_iconst (v := 0) hx hb dX7_isWarm_76 (by decide) ?_
        exact hret (0 : Int32) () _ _ _ _ dX7_isWarm_77 (Or.inl rfl) he hP hD hS
    · replace he := he.trans (if_neg c8)
      refine lv_iconst (v := 1) hx hb dX7_isWarm_27 (by decide) ?_
      refine lv_goto (tgt := 32) hx hb dX7_isWarm_28 (by decide) ?_
      refine lv_istore_n (lv' := [(3, .int (1 : Int32)), (0, .ref mo), (1, .ref (mor 23)), (2, .int a2)]) hx hb dX7_isWarm_32 rfl hl (by decide) rfl (fun ls hl => ?_)
      refine lv_iload_n hx hb dX7_isWarm_33 rfl (lv_at hl 3 rfl) ?_
      refine lv_aload_n hx hb dX7_isWarm_34 rfl (lv_at hl 1 rfl) ?_
      refine va_get (D := D) (ci := 7) (v := .int (moi 32)) (C := RX7) (T := TX7) (N := 35) hx hb hts hi_X7_isWarm_tried_7 hown hK hP 0 rfl rfl 32 (by decide) (hts (.fieldLink RX7 62 "BlindLanternsModel" "cold" "I") (List.mem_of_getElem? (i := 3) rfl)) (fun _ h9 => h9) rfl dX7_isWarm_35 ?_
      refine lv_icmp_ne (tgt := 45) hx hb dX7_isWarm_38 (by decide) (fun c13 => ?_) (fun c13 => ?_)
      · replace he := he.trans (if_neg c13)
        refine lv_aload_n hx hb dX7_isWarm_45 rfl (lv_at hl 1 rfl) ?_
        refine va_get (D := D) (ci := 7) (v := .ref (mor 14)) (C := RX7) (T := TX7) (N := 35) hx hb hts hi_X7_isWarm_tried_7 hown hK hP 0 rfl rfl 14 (by decide) (hts (.fieldLink RX7 28 "BlindLanternsModel" "kind" "[I") (List.mem_of_getElem? (i := 4) rfl)) (fun _ h9 => h9) rfl dX7_isWarm_46 ?_
        refine lv_iload_n hx hb dX7_isWarm_49 rfl (lv_at hl 3 rfl) ?_
        by_cases g14 : a2 < 0 ∨ 6 ≤ a2.toNatClampNeg
        · exact absurd (he.trans (if_pos g14)) hne
        replace he := he.trans (if_neg g14)
        refine va_iald hx hb hK hP 7 0 rfl rfl g14 dX7_isWarm_50 ?_
        refine lv_istore (lv' := [(4, .int ((mok 14) a2.toNatClampNeg)), (3, .int (1 : Int32)), (0, .ref mo), (1, .ref (mor 23)), (2, .int a2)]) hx hb dX7_isWarm_51 hl (by decide) rfl (fun ls hl => ?_)
        refine lv_iload hx hb dX7_isWarm_53 (lv_at hl 0 rfl) ?_
        refine lv_if_ne (tgt := 62) hx hb dX7_isWarm_55 (by decide) (fun c15 => ?_) (fun c15 => ?_)
        · replace he := he.trans (if_neg c15)
          refine lv_iload hx hb dX7_isWarm_62 (lv_at hl 0 rfl) ?_
          refine lv_iconst (v := 2) hx hb dX7_isWarm_64 (by decide) ?_
          refine lv_icmp_ne (tgt := 76) hx hb dX7_isWarm_65 (by decide) (fun c16 => ?_) (fun c16 => ?_)
          · replace he := he.trans (if_neg c16)
            refine lv_iconst (v := 0) hx hb dX7_isWarm_76 (by decide) ?_
            exact hret (0 : Int32) () _ _ _ _ dX7_isWarm_77 (Or.inl rfl) he hP hD hS
          · replace he := he.trans (if_pos c16)
            refine lv_iload_n hx hb dX7_isWarm_68 rfl (lv_at hl 1 rfl) ?_
            refine lv_if_ne (tgt := 76) hx hb dX7_isWarm_69 (by decide) (fun _ => ?_) (fun c0 => absurd (by decide) c0)
            refine lv_iconst (v := 0) hx hb dX7_isWarm_76 (by decide) ?_
            exact hret (0 : Int32) () _ _ _ _ dX7_isWarm_77 (Or.inl rfl) he hP hD hS
        · replace he := he.trans (if_pos c15)
          refine lv_iload_n hx hb dX7_isWarm_58 rfl (lv_at hl 1 rfl) ?_
          refine lv_goto (tgt := 77) hx hb dX7_isWarm_59 (by decide) ?_
          exact hret (1 : Int32) () _ _ _ _ dX7_isWarm_77 (Or.inr rfl) he hP hD hS
      · replace he := he.trans (if_pos c13)
        refine lv_iconst (v := 1) hx hb dX7_isWarm_41 (by decide) ?_
        refine lv_goto (tgt := 51) hx hb dX7_isWarm_42 (by decide) ?_
        refine lv_istore (lv' := [(4, .int (1 : Int32)), (3, .int (1 : Int32)), (0, .ref mo), (1, .ref (mor 23)), (2, .int a2)]) hx hb dX7_isWarm_51 hl (by decide) rfl (fun ls hl => ?_)
        refine lv_iload hx hb dX7_isWarm_53 (lv_at hl 0 rfl) ?_
        refine lv_if_ne (tgt := 62) hx hb dX7_isWarm_55 (by decide) (fun _ => ?_) (fun c0 => absurd (by decide) c0)
        refine lv_iload hx hb dX7_isWarm_62 (lv_at hl 0 rfl) ?_
        refine lv_iconst (v := 2) hx hb dX7_isWarm_64 (by decide) ?_
        refine lv_icmp_ne (tgt := 76) hx hb dX7_isWarm_65 (by decide) (fun _ => ?_) (fun c0 => absurd (by decide) c0)
        refine lv_iconst (v := 0) hx hb dX7_isWarm_76 (by decide) ?_
        exact hret (0 : Int32) () _ _ _ _ dX7_isWarm_77 (Or.inl rfl) he hP hD hS

def fX7_litOf_now_L4 (moi_13 : Int32) (mok_22 : Nat → Int32) (k4 : Int32 → Int32 → Option (Int32)) : Nat → Int32 → Int32 → Option (Int32)
  | 0, _, _ => none
  | n4 + 1, v4_3, v4_2 => if moi_13 ≤ v4_3 then (k4 v4_3 v4_2) else (if ((12 : Int32) + v4_3) < 0 ∨ 19 ≤ ((12 : Int32) + v4_3).toNatClampNeg then none else (fX7_litOf_now_L4 moi_13 mok_22 k4 n4 (v4_3 + 1) (v4_2 + (mok_22 ((12 : Int32) + v4_3).toNatClampNeg))))
def fX7_litOf_now (F : Nat) (moi_13 : Int32) (mok_22 : Nat → Int32) : Option (Int32) :=
  fX7_litOf_now_L4 moi_13 mok_22 (fun (v4_3 : Int32) (v4_2 : Int32) => some v4_2) F (0 : Int32) (0 : Int32)
theorem hi_X7_litOf_now_7 : ∀ w ∈ wsX70, w ∈ wsX7_litOf := fun _ h => (List.mem_cons_of_mem _ (List.mem_append_right _ h))
set_option maxHeartbeats 4000000 in
set_option maxRecDepth 100000 in
theorem c_X7_litOf_now (l : Launch) (D : va_G) (cI cP : ClassId) (sz : Nat) (mo : Nat) (mor : Nat → Nat) (moi : Nat → Int32) (mok : Nat → Nat → Int32) (F : Nat) (hne : fX7_litOf_now F (moi 13) (mok 22) ≠ none) : xMi l yX7_litOf wsX7_litOf ({ frames := 0, cells := 0, slots := 0, locals := 0 } : Room) D (xT cI cP) [.ref mo, .ref (mor 22)] (wM cI mo mor moi mok) sz (fun r (_ : Unit) => fX7_litOf_now F (moi 13) (mok 22) = some r) (fun u => wM cI mo mor moi mok) 0 0 := by
  refine xMi_of (cc := cX7_litOf) (maxL := 4) (by decide +kernel) rfl (Nat.le_of_ble_eq_true rfl) ?_
  intro p e s m args below meth c A ls hx hb hml hown hts hname hN hK hA hP hD hS hl Q hret
  have he := fX7_litOf_now.eq_1 F (moi 13) (mok 22)
  have hl : lv_has ls 4 [(0, .ref mo), (1, .ref (mor 22))] := hl
  refine lv_iconst (v := 0) hx hb dX7_litOf_0 (by decide) ?_
  refine lv_istore_n (lv' := [(2, .int (0 : Int32)), (0, .ref mo), (1, .ref (mor 22))]) hx hb dX7_litOf_1 rfl hl (by decide) rfl (fun ls hl => ?_)
  refine lv_iconst (v := 0) hx hb dX7_litOf_2 (by decide) ?_
  refine lv_istore_n (lv' := [(3, .int (0 : Int32)), (2, .int (0 : Int32)), (0, .ref mo), (1, .ref (mor 22))]) hx hb dX7_litOf_3 rfl hl (by decide) rfl (fun ls hl => ?_)
  have L4 : ∀ (n4 : Nat) (v4_3 : Int32) (v4_2 : Int32), fX7_litOf_now F (moi 13) (mok 22) = fX7_litOf_now_L4 (moi 13) (mok 22) (fun (v4_3 : Int32) (v4_2 : Int32) => some v4_2) n4 v4_3 v4_2 → ∀ (H : Heap) (locs : List Loc) (ls : Array Slot), va_P D vwCl (wM cI mo mor moi mok) H → va_D A (wM cI mo mor moi mok) → va_S A s.heap H locs → lv_has ls 4 [(3, .int v4_3), (2, .int v4_2), (0, .ref mo), (1, .ref (mor 22))] → W p l e ({ frames := 0, cells := 0, slots := 0, locals := 0 } : Room) s m args below meth c H locs 0 0 Q (F0 m 4 ls []) := by
    intro n4
    induction n4 with
    | zero => intro v4_3 v4_2 he; exact absurd he hne
    | succ n4 ih4 =>
      intro v4_3 v4_2 he H locs ls hP hD hS hl
      replace he := he.trans (fX7_litOf_now_L4.eq_2 _ _ _ _ _ _)
      refine lv_iload_n hx hb dX7_litOf_4 rfl (lv_at hl 0 rfl) ?_
      refine lv_aload_n hx hb dX7_litOf_5 rfl (lv_at hl 2 rfl) ?_
      refine va_get (D := D) (ci := 7) (v := .int (moi 13)) (C := RX7) (T := TX7) (N := 35) hx hb hts hi_X7_litOf_now_7 hown hK hP 0 rfl rfl 13 (by decide) (hts (.fieldLink RX7 71 "BlindLanternsModel" "men" "I") (List.mem_of_getElem? (i := 1) rfl)) (fun _ h9 => h9) rfl dX7_litOf_6 ?_
      refine lv_icmp_ge (tgt := 27) hx hb dX7_litOf_9 (by decide) (fun c1 => ?_) (fun c1 => ?_)
      · replace he := he.trans (if_pos c1)
        refine lv_iload_n hx hb dX7_litOf_27 rfl (lv_at hl 1 rfl) ?_
        exact hret v4_2 () _ _ _ _ dX7_litOf_28 he hP hD hS
      · replace he := he.trans (if_neg c1)
        refine lv_iload_n hx hb dX7_litOf_12 rfl (lv_at hl 1 rfl) ?_
        refine lv_aload_n hx hb dX7_litOf_13 rfl (lv_at hl 3 rfl) ?_
        refine lv_bipush (v := 12) hx hb dX7_litOf_14 (by decide) ?_
        refine lv_iload_n hx hb dX7_litOf_16 rfl (lv_at hl 0 rfl) ?_
        refine lv_iadd hx hb dX7_litOf_17 ?_
        by_cases g2 : ((12 : Int32) + v4_3) < 0 ∨ 19 ≤ ((12 : Int32) + v4_3).toNatClampNeg
        · exact absurd (he.trans (if_pos g2)) hne
        replace he := he.trans (if_neg g2)
        refine va_iald hx hb hK hP 11 0 rfl rfl g2 dX7_litOf_18 ?_
        refine lv_iadd hx hb dX7_litOf_19 ?_
        refine lv_istore_n (lv' := [(2, .int (v4_2 + ((mok 22) ((12 : Int32) + v4_3).toNatClampNeg))), (3, .int v4_3), (0, .ref mo), (1, .ref (mor 22))]) hx hb dX7_litOf_20 rfl hl (by decide) rfl (fun ls hl => ?_)
        refine lv_iinc (v := (v4_3 + 1)) (lv' := [(3, .int (v4_3 + 1)), (2, .int (v4_2 + ((mok 22) ((12 : Int32) + v4_3).toNatClampNeg))), (0, .ref mo), (1, .ref (mor 22))]) hx hb dX7_litOf_21 hl (k := 1) rfl rfl (by decide) rfl (fun ls hl => ?_)
        refine lv_goto (tgt := 4) hx hb dX7_litOf_24 (by decide) ?_
        exact ih4 (v4_3 + 1) (v4_2 + ((mok 22) ((12 : Int32) + v4_3).toNatClampNeg)) he _ _ _ hP hD hS (lv_sub hl [0, 1, 2, 3] rfl)
  exact L4 F (0 : Int32) (0 : Int32) he _ _ _ hP hD hS (lv_sub hl [0, 1, 2, 3] rfl)

def fX7_litOf_tried_L4 (moi_13 : Int32) (mok_23 : Nat → Int32) (k4 : Int32 → Int32 → Option (Int32)) : Nat → Int32 → Int32 → Option (Int32)
  | 0, _, _ => none
  | n4 + 1, v4_3, v4_2 => if moi_13 ≤ v4_3 then (k4 v4_3 v4_2) else (if ((12 : Int32) + v4_3) < 0 ∨ 19 ≤ ((12 : Int32) + v4_3).toNatClampNeg then none else (fX7_litOf_tried_L4 moi_13 mok_23 k4 n4 (v4_3 + 1) (v4_2 + (mok_23 ((12 : Int32) + v4_3).toNatClampNeg))))
def fX7_litOf_tried (F : Nat) (moi_13 : Int32) (mok_23 : Nat → Int32) : Option (Int32) :=
  fX7_litOf_tried_L4 moi_13 mok_23 (fun (v4_3 : Int32) (v4_2 : Int32) => some v4_2) F (0 : Int32) (0 : Int32)
theorem hi_X7_litOf_tried_7 : ∀ w ∈ wsX70, w ∈ wsX7_litOf := fun _ h => (List.mem_cons_of_mem _ (List.mem_append_right _ h))
set_option maxHeartbeats 4000000 in
set_option maxRecDepth 100000 in
theorem c_X7_litOf_tried (l : Launch) (D : va_G) (cI cP : ClassId) (sz : Nat) (mo : Nat) (mor : Nat → Nat) (moi : Nat → Int32) (mok : Nat → Nat → Int32) (F : Nat) (hne : fX7_litOf_tried F (moi 13) (mok 23) ≠ none) : xMi l yX7_litOf wsX7_litOf ({ frames := 0, cells := 0, slots := 0, locals := 0 } : Room) D (xT cI cP) [.ref mo, .ref (mor 23)] (wM cI mo mor moi mok) sz (fun r (_ : Unit) => fX7_litOf_tried F (moi 13) (mok 23) = some r) (fun u => wM cI mo mor moi mok) 0 0 := by
  refine xMi_of (cc := cX7_litOf) (maxL := 4) (by decide +kernel) rfl (Nat.le_of_ble_eq_true rfl) ?_
  intro p e s m args below meth c A ls hx hb hml hown hts hname hN hK hA hP hD hS hl Q hret
  have he := fX7_litOf_tried.eq_1 F (moi 13) (mok 23)
  have hl : lv_has ls 4 [(0, .ref mo), (1, .ref (mor 23))] := hl
  refine lv_iconst (v := 0) hx hb dX7_litOf_0 (by decide) ?_
  refine lv_istore_n (lv' := [(2, .int (0 : Int32)), (0, .ref mo), (1, .ref (mor 23))]) hx hb dX7_litOf_1 rfl hl (by decide) rfl (fun ls hl => ?_)
  refine lv_iconst (v := 0) hx hb dX7_litOf_2 (by decide) ?_
  refine lv_istore_n (lv' := [(3, .int (0 : Int32)), (2, .int (0 : Int32)), (0, .ref mo), (1, .ref (mor 23))]) hx hb dX7_litOf_3 rfl hl (by decide) rfl (fun ls hl => ?_)
  have L4 : ∀ (n4 : Nat) (v4_3 : Int32) (v4_2 : Int32), fX7_litOf_tried F (moi 13) (mok 23) = fX7_litOf_tried_L4 (moi 13) (mok 23) (fun (v4_3 : Int32) (v4_2 : Int32) => some v4_2) n4 v4_3 v4_2 → ∀ (H : Heap) (locs : List Loc) (ls : Array Slot), va_P D vwCl (wM cI mo mor moi mok) H → va_D A (wM cI mo mor moi mok) → va_S A s.heap H locs → lv_has ls 4 [(3, .int v4_3), (2, .int v4_2), (0, .ref mo), (1, .ref (mor 23))] → W p l e ({ frames := 0, cells := 0, slots := 0, locals := 0 } : Room) s m args below meth c H locs 0 0 Q (F0 m 4 ls []) := by
    intro n4
    induction n4 with
    | zero => intro v4_3 v4_2 he; exact absurd he hne
    | succ n4 ih4 =>
      intro v4_3 v4_2 he H locs ls hP hD hS hl
      replace he := he.trans (fX7_litOf_tried_L4.eq_2 _ _ _ _ _ _)
      refine lv_iload_n hx hb dX7_litOf_4 rfl (lv_at hl 0 rfl) ?_
      refine lv_aload_n hx hb dX7_litOf_5 rfl (lv_at hl 2 rfl) ?_
      refine va_get (D := D) (ci := 7) (v := .int (moi 13)) (C := RX7) (T := TX7) (N := 35) hx hb hts hi_X7_litOf_tried_7 hown hK hP 0 rfl rfl 13 (by decide) (hts (.fieldLink RX7 71 "BlindLanternsModel" "men" "I") (List.mem_of_getElem? (i := 1) rfl)) (fun _ h9 => h9) rfl dX7_litOf_6 ?_
      refine lv_icmp_ge (tgt := 27) hx hb dX7_litOf_9 (by decide) (fun c1 => ?_) (fun c1 => ?_)
      · replace he := he.trans (if_pos c1)
        refine lv_iload_n hx hb dX7_litOf_27 rfl (lv_at hl 1 rfl) ?_
        exact hret v4_2 () _ _ _ _ dX7_litOf_28 he hP hD hS
      · replace he := he.trans (if_neg c1)
        refine lv_iload_n hx hb dX7_litOf_12 rfl (lv_at hl 1 rfl) ?_
        refine lv_aload_n hx hb dX7_litOf_13 rfl (lv_at hl 3 rfl) ?_
        refine lv_bipush (v := 12) hx hb dX7_litOf_14 (by decide) ?_
        refine lv_iload_n hx hb dX7_litOf_16 rfl (lv_at hl 0 rfl) ?_
        refine lv_iadd hx hb dX7_litOf_17 ?_
        by_cases g2 : ((12 : Int32) + v4_3) < 0 ∨ 19 ≤ ((12 : Int32) + v4_3).toNatClampNeg
        · exact absurd (he.trans (if_pos g2)) hne
        replace he := he.trans (if_neg g2)
        refine va_iald hx hb hK hP 12 0 rfl rfl g2 dX7_litOf_18 ?_
        refine lv_iadd hx hb dX7_litOf_19 ?_
        refine lv_istore_n (lv' := [(2, .int (v4_2 + ((mok 23) ((12 : Int32) + v4_3).toNatClampNeg))), (3, .int v4_3), (0, .ref mo), (1, .ref (mor 23))]) hx hb dX7_litOf_20 rfl hl (by decide) rfl (fun ls hl => ?_)
        refine lv_iinc (v := (v4_3 + 1)) (lv' := [(3, .int (v4_3 + 1)), (2, .int (v4_2 + ((mok 23) ((12 : Int32) + v4_3).toNatClampNeg))), (0, .ref mo), (1, .ref (mor 23))]) hx hb dX7_litOf_21 hl (k := 1) rfl rfl (by decide) rfl (fun ls hl => ?_)
        refine lv_goto (tgt := 4) hx hb dX7_litOf_24 (by decide) ?_
        exact ih4 (v4_3 + 1) (v4_2 + ((mok 23) ((12 : Int32) + v4_3).toNatClampNeg)) he _ _ _ hP hD hS (lv_sub hl [0, 1, 2, 3] rfl)
  exact L4 F (0 : Int32) (0 : Int32) he _ _ _ hP hD hS (lv_sub hl [0, 1, 2, 3] rfl)

def fX7_oilOf_now_L4 (moi_13 : Int32) (mok_22 : Nat → Int32) (k4 : Int32 → Int32 → Option (Int32)) : Nat → Int32 → Int32 → Option (Int32)
  | 0, _, _ => none
  | n4 + 1, v4_3, v4_2 => if moi_13 ≤ v4_3 then (k4 v4_3 v4_2) else (if ((6 : Int32) + v4_3) < 0 ∨ 19 ≤ ((6 : Int32) + v4_3).toNatClampNeg then none else (fX7_oilOf_now_L4 moi_13 mok_22 k4 n4 (v4_3 + 1) (v4_2 + (mok_22 ((6 : Int32) + v4_3).toNatClampNeg))))
def fX7_oilOf_now (F : Nat) (moi_13 : Int32) (mok_22 : Nat → Int32) : Option (Int32) :=
  fX7_oilOf_now_L4 moi_13 mok_22 (fun (v4_3 : Int32) (v4_2 : Int32) => some v4_2) F (0 : Int32) (0 : Int32)
theorem hi_X7_oilOf_now_7 : ∀ w ∈ wsX70, w ∈ wsX7_oilOf := fun _ h => (List.mem_cons_of_mem _ (List.mem_append_right _ h))
set_option maxHeartbeats 4000000 in
set_option maxRecDepth 100000 in
theorem c_X7_oilOf_now (l : Launch) (D : va_G) (cI cP : ClassId) (sz : Nat) (mo : Nat) (mor : Nat → Nat) (moi : Nat → Int32) (mok : Nat → Nat → Int32) (F : Nat) (hne : fX7_oilOf_now F (moi 13) (mok 22) ≠ none) : xMi l yX7_oilOf wsX7_oilOf ({ frames := 0, cells := 0, slots := 0, locals := 0 } : Room) D (xT cI cP) [.ref mo, .ref (mor 22)] (wM cI mo mor moi mok) sz (fun r (_ : Unit) => fX7_oilOf_now F (moi 13) (mok 22) = some r) (fun u => wM cI mo mor moi mok) 0 0 := by
  refine xMi_of (cc := cX7_oilOf) (maxL := 4) (by decide +kernel) rfl (Nat.le_of_ble_eq_true rfl) ?_
  intro p e s m args below meth c A ls hx hb hml hown hts hname hN hK hA hP hD hS hl Q hret
  have he := fX7_oilOf_now.eq_1 F (moi 13) (mok 22)
  have hl : lv_has ls 4 [(0, .ref mo), (1, .ref (mor 22))] := hl
  refine lv_iconst (v := 0) hx hb dX7_oilOf_0 (by decide) ?_
  refine lv_istore_n (lv' := [(2, .int (0 : Int32)), (0, .ref mo), (1, .ref (mor 22))]) hx hb dX7_oilOf_1 rfl hl (by decide) rfl (fun ls hl => ?_)
  refine lv_iconst (v := 0) hx hb dX7_oilOf_2 (by decide) ?_
  refine lv_istore_n (lv' := [(3, .int (0 : Int32)), (2, .int (0 : Int32)), (0, .ref mo), (1, .ref (mor 22))]) hx hb dX7_oilOf_3 rfl hl (by decide) rfl (fun ls hl => ?_)
  have L4 : ∀ (n4 : Nat) (v4_3 : Int32) (v4_2 : Int32), fX7_oilOf_now F (moi 13) (mok 22) = fX7_oilOf_now_L4 (moi 13) (mok 22) (fun (v4_3 : Int32) (v4_2 : Int32) => some v4_2) n4 v4_3 v4_2 → ∀ (H : Heap) (locs : List Loc) (ls : Array Slot), va_P D vwCl (wM cI mo mor moi mok) H → va_D A (wM cI mo mor moi mok) → va_S A s.heap H locs → lv_has ls 4 [(3, .int v4_3), (2, .int v4_2), (0, .ref mo), (1, .ref (mor 22))] → W p l e ({ frames := 0, cells := 0, slots := 0, locals := 0 } : Room) s m args below meth c H locs 0 0 Q (F0 m 4 ls []) := by
    intro n4
    induction n4 with
    | zero => intro v4_3 v4_2 he; exact absurd he hne
    | succ n4 ih4 =>
      intro v4_3 v4_2 he H locs ls hP hD hS hl
      replace he := he.trans (fX7_oilOf_now_L4.eq_2 _ _ _ _ _ _)
      refine lv_iload_n hx hb dX7_oilOf_4 rfl (lv_at hl 0 rfl) ?_
      refine lv_aload_n hx hb dX7_oilOf_5 rfl (lv_at hl 2 rfl) ?_
      refine va_get (D := D) (ci := 7) (v := .int (moi 13)) (C := RX7) (T := TX7) (N := 35) hx hb hts hi_X7_oilOf_now_7 hown hK hP 0 rfl rfl 13 (by decide) (hts (.fieldLink RX7 71 "BlindLanternsModel" "men" "I") (List.mem_of_getElem? (i := 1) rfl)) (fun _ h9 => h9) rfl dX7_oilOf_6 ?_
      refine lv_icmp_ge (tgt := 27) hx hb dX7_oilOf_9 (by decide) (fun c1 => ?_) (fun c1 => ?_)
      · replace he := he.trans (if_pos c1)
        refine lv_iload_n hx hb dX7_oilOf_27 rfl (lv_at hl 1 rfl) ?_
        exact hret v4_2 () _ _ _ _ dX7_oilOf_28 he hP hD hS
      · replace he := he.trans (if_neg c1)
        refine lv_iload_n hx hb dX7_oilOf_12 rfl (lv_at hl 1 rfl) ?_
        refine lv_aload_n hx hb dX7_oilOf_13 rfl (lv_at hl 3 rfl) ?_
        refine lv_bipush (v := 6) hx hb dX7_oilOf_14 (by decide) ?_
        refine lv_iload_n hx hb dX7_oilOf_16 rfl (lv_at hl 0 rfl) ?_
        refine lv_iadd hx hb dX7_oilOf_17 ?_
        by_cases g2 : ((6 : Int32) + v4_3) < 0 ∨ 19 ≤ ((6 : Int32) + v4_3).toNatClampNeg
        · exact absurd (he.trans (if_pos g2)) hne
        replace he := he.trans (if_neg g2)
        refine va_iald hx hb hK hP 11 0 rfl rfl g2 dX7_oilOf_18 ?_
        refine lv_iadd hx hb dX7_oilOf_19 ?_
        refine lv_istore_n (lv' := [(2, .int (v4_2 + ((mok 22) ((6 : Int32) + v4_3).toNatClampNeg))), (3, .int v4_3), (0, .ref mo), (1, .ref (mor 22))]) hx hb dX7_oilOf_20 rfl hl (by decide) rfl (fun ls hl => ?_)
        refine lv_iinc (v := (v4_3 + 1)) (lv' := [(3, .int (v4_3 + 1)), (2, .int (v4_2 + ((mok 22) ((6 : Int32) + v4_3).toNatClampNeg))), (0, .ref mo), (1, .ref (mor 22))]) hx hb dX7_oilOf_21 hl (k := 1) rfl rfl (by decide) rfl (fun ls hl => ?_)
        refine lv_goto (tgt := 4) hx hb dX7_oilOf_24 (by decide) ?_
        exact ih4 (v4_3 + 1) (v4_2 + ((mok 22) ((6 : Int32) + v4_3).toNatClampNeg)) he _ _ _ hP hD hS (lv_sub hl [0, 1, 2, 3] rfl)
  exact L4 F (0 : Int32) (0 : Int32) he _ _ _ hP hD hS (lv_sub hl [0, 1, 2, 3] rfl)

def fX7_oilOf_tried_L4 (moi_13 : Int32) (mok_23 : Nat → Int32) (k4 : Int32 → Int32 → Option (Int32)) : Nat → Int32 → Int32 → Option (Int32)
  | 0, _, _ => none
  | n4 + 1, v4_3, v4_2 => if moi_13 ≤ v4_3 then (k4 v4_3 v4_2) else (if ((6 : Int32) + v4_3) < 0 ∨ 19 ≤ ((6 : Int32) + v4_3).toNatClampNeg then none else (fX7_oilOf_tried_L4 moi_13 mok_23 k4 n4 (v4_3 + 1) (v4_2 + (mok_23 ((6 : Int32) + v4_3).toNatClampNeg))))
def fX7_oilOf_tried (F : Nat) (moi_13 : Int32) (mok_23 : Nat → Int32) : Option (Int32) :=
  fX7_oilOf_tried_L4 moi_13 mok_23 (fun (v4_3 : Int32) (v4_2 : Int32) => some v4_2) F (0 : Int32) (0 : Int32)
theorem hi_X7_oilOf_tried_7 : ∀ w ∈ wsX70, w ∈ wsX7_oilOf := fun _ h => (List.mem_cons_of_mem _ (List.mem_append_right _ h))
set_option maxHeartbeats 4000000 in
set_option maxRecDepth 100000 in
theorem c_X7_oilOf_tried (l : Launch) (D : va_G) (cI cP : ClassId) (sz : Nat) (mo : Nat) (mor : Nat → Nat) (moi : Nat → Int32) (mok : Nat → Nat → Int32) (F : Nat) (hne : fX7_oilOf_tried F (moi 13) (mok 23) ≠ none) : xMi l yX7_oilOf wsX7_oilOf ({ frames := 0, cells := 0, slots := 0, locals := 0 } : Room) D (xT cI cP) [.ref mo, .ref (mor 23)] (wM cI mo mor moi mok) sz (fun r (_ : Unit) => fX7_oilOf_tried F (moi 13) (mok 23) = some r) (fun u => wM cI mo mor moi mok) 0 0 := by
  refine xMi_of (cc := cX7_oilOf) (maxL := 4) (by decide +kernel) rfl (Nat.le_of_ble_eq_true rfl) ?_
  intro p e s m args below meth c A ls hx hb hml hown hts hname hN hK hA hP hD hS hl Q hret
  have he := fX7_oilOf_tried.eq_1 F (moi 13) (mok 23)
  have hl : lv_has ls 4 [(0, .ref mo), (1, .ref (mor 23))] := hl
  refine lv_iconst (v := 0) hx hb dX7_oilOf_0 (by decide) ?_
  refine lv_istore_n (lv' := [(2, .int (0 : Int32)), (0, .ref mo), (1, .ref (mor 23))]) hx hb dX7_oilOf_1 rfl hl (by decide) rfl (fun ls hl => ?_)
  refine lv_iconst (v := 0) hx hb dX7_oilOf_2 (by decide) ?_
  refine lv_istore_n (lv' := [(3, .int (0 : Int32)), (2, .int (0 : Int32)), (0, .ref mo), (1, .ref (mor 23))]) hx hb dX7_oilOf_3 rfl hl (by decide) rfl (fun ls hl => ?_)
  have L4 : ∀ (n4 : Nat) (v4_3 : Int32) (v4_2 : Int32), fX7_oilOf_tried F (moi 13) (mok 23) = fX7_oilOf_tried_L4 (moi 13) (mok 23) (fun (v4_3 : Int32) (v4_2 : Int32) => some v4_2) n4 v4_3 v4_2 → ∀ (H : Heap) (locs : List Loc) (ls : Array Slot), va_P D vwCl (wM cI mo mor moi mok) H → va_D A (wM cI mo mor moi mok) → va_S A s.heap H locs → lv_has ls 4 [(3, .int v4_3), (2, .int v4_2), (0, .ref mo), (1, .ref (mor 23))] → W p l e ({ frames := 0, cells := 0, slots := 0, locals := 0 } : Room) s m args below meth c H locs 0 0 Q (F0 m 4 ls []) := by
    intro n4
    induction n4 with
    | zero => intro v4_3 v4_2 he; exact absurd he hne
    | succ n4 ih4 =>
      intro v4_3 v4_2 he H locs ls hP hD hS hl
      replace he := he.trans (fX7_oilOf_tried_L4.eq_2 _ _ _ _ _ _)
      refine lv_iload_n hx hb dX7_oilOf_4 rfl (lv_at hl 0 rfl) ?_
      refine lv_aload_n hx hb dX7_oilOf_5 rfl (lv_at hl 2 rfl) ?_
      refine va_get (D := D) (ci := 7) (v := .int (moi 13)) (C := RX7) (T := TX7) (N := 35) hx hb hts hi_X7_oilOf_tried_7 hown hK hP 0 rfl rfl 13 (by decide) (hts (.fieldLink RX7 71 "BlindLanternsModel" "men" "I") (List.mem_of_getElem? (i := 1) rfl)) (fun _ h9 => h9) rfl dX7_oilOf_6 ?_
      refine lv_icmp_ge (tgt := 27) hx hb dX7_oilOf_9 (by decide) (fun c1 => ?_) (fun c1 => ?_)
      · replace he := he.trans (if_pos c1)
        refine lv_iload_n hx hb dX7_oilOf_27 rfl (lv_at hl 1 rfl) ?_
        exact hret v4_2 () _ _ _ _ dX7_oilOf_28 he hP hD hS
      · replace he := he.trans (if_neg c1)
        refine lv_iload_n hx hb dX7_oilOf_12 rfl (lv_at hl 1 rfl) ?_
        refine lv_aload_n hx hb dX7_oilOf_13 rfl (lv_at hl 3 rfl) ?_
        refine lv_bipush (v := 6) hx hb dX7_oilOf_14 (by decide) ?_
        refine lv_iload_n hx hb dX7_oilOf_16 rfl (lv_at hl 0 rfl) ?_
        refine lv_iadd hx hb dX7_oilOf_17 ?_
        by_cases g2 : ((6 : Int32) + v4_3) < 0 ∨ 19 ≤ ((6 : Int32) + v4_3).toNatClampNeg
        · exact absurd (he.trans (if_pos g2)) hne
        replace he := he.trans (if_neg g2)
        refine va_iald hx hb hK hP 12 0 rfl rfl g2 dX7_oilOf_18 ?_
        refine lv_iadd hx hb dX7_oilOf_19 ?_
        refine lv_istore_n (lv' := [(2, .int (v4_2 + ((mok 23) ((6 : Int32) + v4_3).toNatClampNeg))), (3, .int v4_3), (0, .ref mo), (1, .ref (mor 23))]) hx hb dX7_oilOf_20 rfl hl (by decide) rfl (fun ls hl => ?_)
        refine lv_iinc (v := (v4_3 + 1)) (lv' := [(3, .int (v4_3 + 1)), (2, .int (v4_2 + ((mok 23) ((6 : Int32) + v4_3).toNatClampNeg))), (0, .ref mo), (1, .ref (mor 23))]) hx hb dX7_oilOf_21 hl (k := 1) rfl rfl (by decide) rfl (fun ls hl => ?_)
        refine lv_goto (tgt := 4) hx hb dX7_oilOf_24 (by decide) ?_
        exact ih4 (v4_3 + 1) (v4_2 + ((mok 23) ((6 : Int32) + v4_3).toNatClampNeg)) he _ _ _ hP hD hS (lv_sub hl [0, 1, 2, 3] rfl)
  exact L4 F (0 : Int32) (0 : Int32) he _ _ _ hP hD hS (lv_sub hl [0, 1, 2, 3] rfl)

def fX7_darkIn_now_L4 (moi_13 : Int32) (mok_22 : Nat → Int32) (k4 : Int32 → Int32 → Option (Int32)) : Nat → Int32 → Int32 → Option (Int32)
  | 0, _, _ => none
  | n4 + 1, v4_3, v4_2 => if moi_13 ≤ v4_3 then (k4 v4_3 v4_2) else (xbd (fX7_isLit_now mok_22 v4_3) (fun (r16 : Int32) => if r16 = 0 then (fX7_darkIn_now_L4 moi_13 mok_22 k4 n4 (v4_3 + 1) (v4_2 ||| ((1 : Int32) <<< (v4_3 &&& 31)))) else (fX7_darkIn_now_L4 moi_13 mok_22 k4 n4 (v4_3 + 1) (v4_2 ||| (0 : Int32)))))
def fX7_darkIn_now (F : Nat) (moi_13 : Int32) (mok_22 : Nat → Int32) : Option (Int32) :=
  fX7_darkIn_now_L4 moi_13 mok_22 (fun (v4_3 : Int32) (v4_2 : Int32) => some v4_2) F (0 : Int32) (0 : Int32)
theorem hi_X7_darkIn_now_7 : ∀ w ∈ wsX70, w ∈ wsX7_darkIn := fun _ h => (List.mem_cons_of_mem _ (List.mem_append_right _ h))
set_option maxHeartbeats 4000000 in
set_option maxRecDepth 100000 in
theorem c_X7_darkIn_now (l : Launch) (D : va_G) (cI cP : ClassId) (sz : Nat) (mo : Nat) (mor : Nat → Nat) (moi : Nat → Int32) (mok : Nat → Nat → Int32) (F : Nat) (hne : fX7_darkIn_now F (moi 13) (mok 22) ≠ none) : xMi l yX7_darkIn wsX7_darkIn ({ frames := 1, cells := 0, slots := 0, locals := 22 } : Room) D (xT cI cP) [.ref mo, .ref (mor 22)] (wM cI mo mor moi mok) sz (fun r (_ : Unit) => fX7_darkIn_now F (moi 13) (mok 22) = some r) (fun u => wM cI mo mor moi mok) 0 0 := by
  refine xMi_of (cc := cX7_darkIn) (maxL := 4) (by decide +kernel) rfl (Nat.le_of_ble_eq_true rfl) ?_
  intro p e s m args below meth c A ls hx hb hml hown hts hname hN hK hA hP hD hS hl Q hret
  have he := fX7_darkIn_now.eq_1 F (moi 13) (mok 22)
  have hl : lv_has ls 4 [(0, .ref mo), (1, .ref (mor 22))] := hl
  refine lv_iconst (v := 0) hx hb dX7_darkIn_0 (by decide) ?_
  refine lv_istore_n (lv' := [(2, .int (0 : Int32)), (0, .ref mo), (1, .ref (mor 22))]) hx hb dX7_darkIn_1 rfl hl (by decide) rfl (fun ls hl => ?_)
  refine lv_iconst (v := 0) hx hb dX7_darkIn_2 (by decide) ?_
  refine lv_istore_n (lv' := [(3, .int (0 : Int32)), (2, .int (0 : Int32)), (0, .ref mo), (1, .ref (mor 22))]) hx hb dX7_darkIn_3 rfl hl (by decide) rfl (fun ls hl => ?_)
  have L4 : ∀ (n4 : Nat) (v4_3 : Int32) (v4_2 : Int32), fX7_darkIn_now F (moi 13) (mok 22) = fX7_darkIn_now_L4 (moi 13) (mok 22) (fun (v4_3 : Int32) (v4_2 : Int32) => some v4_2) n4 v4_3 v4_2 → ∀ (H : Heap) (locs : List Loc) (ls : Array Slot), va_P D vwCl (wM cI mo mor moi mok) H → va_D A (wM cI mo mor moi mok) → va_S A s.heap H locs → lv_has ls 4 [(3, .int v4_3), (2, .int v4_2), (0, .ref mo), (1, .ref (mor 22))] → W p l e ({ frames := 1, cells := 0, slots := 0, locals := 22 } : Room) s m args below meth c H locs 0 0 Q (F0 m 4 ls []) := by
    intro n4
    induction n4 with
    | zero => intro v4_3 v4_2 he; exact absurd he hne
    | succ n4 ih4 =>
      intro v4_3 v4_2 he H locs ls hP hD hS hl
      replace he := he.trans (fX7_darkIn_now_L4.eq_2 _ _ _ _ _ _)
      refine lv_iload_n hx hb dX7_darkIn_4 rfl (lv_at hl 0 rfl) ?_
      refine lv_aload_n hx hb dX7_darkIn_5 rfl (lv_at hl 2 rfl) ?_
      refine va_get (D := D) (ci := 7) (v := .int (moi 13)) (C := RX7) (T := TX7) (N := 35) hx hb hts hi_X7_darkIn_now_7 hown hK hP 0 rfl rfl 13 (by decide) (hts (.fieldLink RX7 71 "BlindLanternsModel" "men" "I") (List.mem_of_getElem? (i := 1) rfl)) (fun _ h9 => h9) rfl dX7_darkIn_6 ?_
      refine lv_icmp_ge (tgt := 37) hx hb dX7_darkIn_9 (by decide) (fun c1 => ?_) (fun c1 => ?_)
      · replace he := he.trans (if_pos c1)
        refine lv_iload_n hx hb dX7_darkIn_37 rfl (lv_at hl 1 rfl) ?_
        exact hret v4_2 () _ _ _ _ dX7_darkIn_38 he hP hD hS
      · replace he := he.trans (if_neg c1)
        refine lv_iload_n hx hb dX7_darkIn_12 rfl (lv_at hl 1 rfl) ?_
        refine lv_aload_n hx hb dX7_darkIn_13 rfl (lv_at hl 2 rfl) ?_
        refine lv_aload_n hx hb dX7_darkIn_14 rfl (lv_at hl 3 rfl) ?_
        refine lv_iload_n hx hb dX7_darkIn_15 rfl (lv_at hl 0 rfl) ?_
        have n2_ : fX7_isLit_now (mok 22) v4_3 ≠ none := fun z => hne (he.trans (xbd_none z))
        refine xci (va_runV (As := [.ref (mor 22), .int v4_3]) (rest := [.int v4_2]) ⟨hx, hb, hml, hown, hts⟩ (c_X7_isLit_now l D cI cP H.size mo mor moi mok v4_3 n2_) (cwV 2 hts gX7_darkIn_X7_isLit rfl rfl rfl (by decide +kernel) ⟨Nat.le_of_ble_eq_true rfl, Nat.le_of_ble_eq_true rfl⟩) (xPV hN hK hP hD [0, 1, 2, 3, 4, 5, 6, 7, 8, 9, 10, 11, 12, 13, 14, 15, 16, 17] rfl (by decide) (ci := 7) (j := 0) rfl rfl) rfl rfl hl.1 rfl (lv_room (Nat.le_of_ble_eq_true rfl)) dX7_darkIn_16 ⟨Nat.le_of_ble_eq_true rfl, Nat.le_of_ble_eq_true rfl⟩) hP hD hS hA [0, 1, 2, 3, 4, 5, 6, 7, 8, 9, 10, 11, 12, 13, 14, 15, 16, 17] rfl (fun _ => rfl) (fun r16 u16 H locs hw hP hD hS => ?_)
        have hP : va_P D vwCl (wM cI mo mor moi mok) H := hP
        have hD : va_D A (wM cI mo mor moi mok) := hD
        replace he := he.trans (xbd_some hw)
        refine lv_if_eq (tgt := 26) hx hb dX7_darkIn_19 (by decide) (fun c3 => ?_) (fun c3 => ?_)
        · replace he := he.trans (if_pos c3)
          refine lv_iconst (v := 1) hx hb dX7_darkIn_26 (by decide) ?_
          refine lv_iload_n hx hb dX7_darkIn_27 rfl (lv_at hl 0 rfl) ?_
          refine lv_ishl hx hb dX7_darkIn_28 ?_
          refine lv_ior hx hb dX7_darkIn_29 ?_
          refine lv_istore_n (lv' := [(2, .int (v4_2 ||| ((1 : Int32) <<< (v4_3 &&& 31)))), (3, .int v4_3), (0, .ref mo), (1, .ref (mor 22))]) hx hb dX7_darkIn_30 rfl hl (by decide) rfl (fun ls hl => ?_)
          refine lv_iinc (v := (v4_3 + 1)) (lv' := [(3, .int (v4_3 + 1)), (2, .int (v4_2 ||| ((1 : Int32) <<< (v4_3 &&& 31)))), (0, .ref mo), (1, .ref (mor 22))]) hx hb dX7_darkIn_31 hl (k := 1) rfl rfl (by decide) rfl (fun ls hl => ?_)
          refine lv_goto (tgt := 4) hx hb dX7_darkIn_34 (by decide) ?_
          exact ih4 (v4_3 + 1) (v4_2 ||| ((1 : Int32) <<< (v4_3 &&& 31))) he _ _ _ hP hD hS (lv_sub hl [0, 1, 2, 3] rfl)
        · replace he := he.trans (if_neg c3)
          refine lv_iconst (v := 0) hx hb dX7_darkIn_22 (by decide) ?_
          refine lv_goto (tgt := 29) hx hb dX7_darkIn_23 (by decide) ?_
          refine lv_ior hx hb dX7_darkIn_29 ?_
          refine lv_istore_n (lv' := [(2, .int (v4_2 ||| (0 : Int32))), (3, .int v4_3), (0, .ref mo), (1, .ref (mor 22))]) hx hb dX7_darkIn_30 rfl hl (by decide) rfl (fun ls hl => ?_)
          refine lv_iinc (v := (v4_3 + 1)) (lv' := [(3, .int (v4_3 + 1)), (2, .int (v4_2 ||| (0 : Int32))), (0, .ref mo), (1, .ref (mor 22))]) hx hb dX7_darkIn_31 hl (k := 1) rfl rfl (by decide) rfl (fun ls hl => ?_)
          refine lv_goto (tgt := 4) hx hb dX7_darkIn_34 (by decide) ?_
          exact ih4 (v4_3 + 1) (v4_2 ||| (0 : Int32)) he _ _ _ hP hD hS (lv_sub hl [0, 1, 2, 3] rfl)
  exact L4 F (0 : Int32) (0 : Int32) he _ _ _ hP hD hS (lv_sub hl [0, 1, 2, 3] rfl)

def fX7_darkIn_tried_L4 (moi_13 : Int32) (mok_23 : Nat → Int32) (k4 : Int32 → Int32 → Option (Int32)) : Nat → Int32 → Int32 → Option (Int32)
  | 0, _, _ => none
  | n4 + 1, v4_3, v4_2 => if moi_13 ≤ v4_3 then (k4 v4_3 v4_2) else (xbd (fX7_isLit_tried mok_23 v4_3) (fun (r16 : Int32) => if r16 = 0 then (fX7_darkIn_tried_L4 moi_13 mok_23 k4 n4 (v4_3 + 1) (v4_2 ||| ((1 : Int32) <<< (v4_3 &&& 31)))) else (fX7_darkIn_tried_L4 moi_13 mok_23 k4 n4 (v4_3 + 1) (v4_2 ||| (0 : Int32)))))
def fX7_darkIn_tried (F : Nat) (moi_13 : Int32) (mok_23 : Nat → Int32) : Option (Int32) :=
  fX7_darkIn_tried_L4 moi_13 mok_23 (fun (v4_3 : Int32) (v4_2 : Int32) => some v4_2) F (0 : Int32) (0 : Int32)
theorem hi_X7_darkIn_tried_7 : ∀ w ∈ wsX70, w ∈ wsX7_darkIn := fun _ h => (List.mem_cons_of_mem _ (List.mem_append_right _ h))
set_option maxHeartbeats 4000000 in
set_option maxRecDepth 100000 in
theorem c_X7_darkIn_tried (l : Launch) (D : va_G) (cI cP : ClassId) (sz : Nat) (mo : Nat) (mor : Nat → Nat) (moi : Nat → Int32) (mok : Nat → Nat → Int32) (F : Nat) (hne : fX7_darkIn_tried F (moi 13) (mok 23) ≠ none) : xMi l yX7_darkIn wsX7_darkIn ({ frames := 1, cells := 0, slots := 0, locals := 22 } : Room) D (xT cI cP) [.ref mo, .ref (mor 23)] (wM cI mo mor moi mok) sz (fun r (_ : Unit) => fX7_darkIn_tried F (moi 13) (mok 23) = some r) (fun u => wM cI mo mor moi mok) 0 0 := by
  refine xMi_of (cc := cX7_darkIn) (maxL := 4) (by decide +kernel) rfl (Nat.le_of_ble_eq_true rfl) ?_
  intro p e s m args below meth c A ls hx hb hml hown hts hname hN hK hA hP hD hS hl Q hret
  have he := fX7_darkIn_tried.eq_1 F (moi 13) (mok 23)
  have hl : lv_has ls 4 [(0, .ref mo), (1, .ref (mor 23))] := hl
  refine lv_iconst (v := 0) hx hb dX7_darkIn_0 (by decide) ?_
  refine lv_istore_n (lv' := [(2, .int (0 : Int32)), (0, .ref mo), (1, .ref (mor 23))]) hx hb dX7_darkIn_1 rfl hl (by decide) rfl (fun ls hl => ?_)
  refine lv_iconst (v := 0) hx hb dX7_darkIn_2 (by decide) ?_
  refine lv_istore_n (lv' := [(3, .int (0 : Int32)), (2, .int (0 : Int32)), (0, .ref mo), (1, .ref (mor 23))]) hx hb dX7_darkIn_3 rfl hl (by decide) rfl (fun ls hl => ?_)
  have L4 : ∀ (n4 : Nat) (v4_3 : Int32) (v4_2 : Int32), fX7_darkIn_tried F (moi 13) (mok 23) = fX7_darkIn_tried_L4 (moi 13) (mok 23) (fun (v4_3 : Int32) (v4_2 : Int32) => some v4_2) n4 v4_3 v4_2 → ∀ (H : Heap) (locs : List Loc) (ls : Array Slot), va_P D vwCl (wM cI mo mor moi mok) H → va_D A (wM cI mo mor moi mok) → va_S A s.heap H locs → lv_has ls 4 [(3, .int v4_3), (2, .int v4_2), (0, .ref mo), (1, .ref (mor 23))] → W p l e ({ frames := 1, cells := 0, slots := 0, locals := 22 } : Room) s m args below meth c H locs 0 0 Q (F0 m 4 ls []) := by
    intro n4
    induction n4 with
    | zero => intro v4_3 v4_2 he; exact absurd he hne
    | succ n4 ih4 =>
      intro v4_3 v4_2 he H locs ls hP hD hS hl
      replace he := he.trans (fX7_darkIn_tried_L4.eq_2 _ _ _ _ _ _)
      refine lv_iload_n hx hb dX7_darkIn_4 rfl (lv_at hl 0 rfl) ?_
      refine lv_aload_n hx hb dX7_darkIn_5 rfl (lv_at hl 2 rfl) ?_
      refine va_get (D := D) (ci := 7) (v := .int (moi 13)) (C := RX7) (T := TX7) (N := 35) hx hb hts hi_X7_darkIn_tried_7 hown hK hP 0 rfl rfl 13 (by decide) (hts (.fieldLink RX7 71 "BlindLanternsModel" "men" "I") (List.mem_of_getElem? (i := 1) rfl)) (fun _ h9 => h9) rfl dX7_darkIn_6 ?_
      refine lv_icmp_ge (tgt := 37) hx hb dX7_darkIn_9 (by decide) (fun c1 => ?_) (fun c1 => ?_)
      · replace he := he.trans (if_pos c1)
        refine lv_iload_n hx hb dX7_darkIn_37 rfl (lv_at hl 1 rfl) ?_
        exact hret v4_2 () _ _ _ _ dX7_darkIn_38 he hP hD hS
      · replace he := he.trans (if_neg c1)
        refine lv_iload_n hx hb dX7_darkIn_12 rfl (lv_at hl 1 rfl) ?_
        refine lv_aload_n hx hb dX7_darkIn_13 rfl (lv_at hl 2 rfl) ?_
        refine lv_aload_n hx hb dX7_darkIn_14 rfl (lv_at hl 3 rfl) ?_
        refine lv_iload_n hx hb dX7_darkIn_15 rfl (lv_at hl 0 rfl) ?_
        have n2_ : fX7_isLit_tried (mok 23) v4_3 ≠ none := fun z => hne (he.trans (xbd_none z))
        refine xci (va_runV (As := [.ref (mor 23), .int v4_3]) (rest := [.int v4_2]) ⟨hx, hb, hml, hown, hts⟩ (c_X7_isLit_tried l D cI cP H.size mo mor moi mok v4_3 n2_) (cwV 2 hts gX7_darkIn_X7_isLit rfl rfl rfl (by decide +kernel) ⟨Nat.le_of_ble_eq_true rfl, Nat.le_of_ble_eq_true rfl⟩) (xPV hN hK hP hD [0, 1, 2, 3, 4, 5, 6, 7, 8, 9, 10, 11, 12, 13, 14, 15, 16, 17] rfl (by decide) (ci := 7) (j := 0) rfl rfl) rfl rfl hl.1 rfl (lv_room (Nat.le_of_ble_eq_true rfl)) dX7_darkIn_16 ⟨Nat.le_of_ble_eq_true rfl, Nat.le_of_ble_eq_true rfl⟩) hP hD hS hA [0, 1, 2, 3, 4, 5, 6, 7, 8, 9, 10, 11, 12, 13, 14, 15, 16, 17] rfl (fun _ => rfl) (fun r16 u16 H locs hw hP hD hS => ?_)
        have hP : va_P D vwCl (wM cI mo mor moi mok) H := hP
        have hD : va_D A (wM cI mo mor moi mok) := hD
        replace he := he.trans (xbd_some hw)
        refine lv_if_eq (tgt := 26) hx hb dX7_darkIn_19 (by decide) (fun c3 => ?_) (fun c3 => ?_)
        · replace he := he.trans (if_pos c3)
          refine lv_iconst (v := 1) hx hb dX7_darkIn_26 (by decide) ?_
          refine lv_iload_n hx hb dX7_darkIn_27 rfl (lv_at hl 0 rfl) ?_
          refine lv_ishl hx hb dX7_darkIn_28 ?_
          refine lv_ior hx hb dX7_darkIn_29 ?_
          refine lv_istore_n (lv' := [(2, .int (v4_2 ||| ((1 : Int32) <<< (v4_3 &&& 31)))), (3, .int v4_3), (0, .ref mo), (1, .ref (mor 23))]) hx hb dX7_darkIn_30 rfl hl (by decide) rfl (fun ls hl => ?_)
          refine lv_iinc (v := (v4_3 + 1)) (lv' := [(3, .int (v4_3 + 1)), (2, .int (v4_2 ||| ((1 : Int32) <<< (v4_3 &&& 31)))), (0, .ref mo), (1, .ref (mor 23))]) hx hb dX7_darkIn_31 hl (k := 1) rfl rfl (by decide) rfl (fun ls hl => ?_)
          refine lv_goto (tgt := 4) hx hb dX7_darkIn_34 (by decide) ?_
          exact ih4 (v4_3 + 1) (v4_2 ||| ((1 : Int32) <<< (v4_3 &&& 31))) he _ _ _ hP hD hS (lv_sub hl [0, 1, 2, 3] rfl)
        · replace he := he.trans (if_neg c3)
          refine lv_iconst (v := 0) hx hb dX7_darkIn_22 (by decide) ?_
          refine lv_goto (tgt := 29) hx hb dX7_darkIn_23 (by decide) ?_
          refine lv_ior hx hb dX7_darkIn_29 ?_
          refine lv_istore_n (lv' := [(2, .int (v4_2 ||| (0 : Int32))), (3, .int v4_3), (0, .ref mo), (1, .ref (mor 23))]) hx hb dX7_darkIn_30 rfl hl (by decide) rfl (fun ls hl => ?_)
          refine lv_iinc (v := (v4_3 + 1)) (lv' := [(3, .int (v4_3 + 1)), (2, .int (v4_2 ||| (0 : Int32))), (0, .ref mo), (1, .ref (mor 23))]) hx hb dX7_darkIn_31 hl (k := 1) rfl rfl (by decide) rfl (fun ls hl => ?_)
          refine lv_goto (tgt := 4) hx hb dX7_darkIn_34 (by decide) ?_
          exact ih4 (v4_3 + 1) (v4_2 ||| (0 : Int32)) he _ _ _ hP hD hS (lv_sub hl [0, 1, 2, 3] rfl)
  exact L4 F (0 : Int32) (0 : Int32) he _ _ _ hP hD hS (lv_sub hl [0, 1, 2, 3] rfl)
