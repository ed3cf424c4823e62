def fX7_isKept_L5 (moi_13 : Int32) (moi_17 : Int32) (moi_18 : Int32) (moi_30 : Int32) (moi_31 : Int32) (mok_19 : Nat → Int32) (a1 : Int32) (a2 : Int32) (F : Nat) (k5 : Int32 → Int32 → (Nat → Int32) → (Nat → Int32) → Option (Int32 × (Nat → Int32) × (Nat → Int32))) : Nat → Int32 → Int32 → (Nat → Int32) → (Nat → Int32) → Option (Int32 × (Nat → Int32) × (Nat → Int32))
  | 0, _, _, _, _ => none
  | n5 + 1, v5_4, v5_3, w5_mok_23, w5_mok_33 => if a2 < v5_4 then (k5 v5_4 v5_3 w5_mok_23 w5_mok_33) else (if v5_3 = 0 then (k5 v5_4 v5_3 w5_mok_23 w5_mok_33) else (xbd (fX7_darkIn_tried F moi_13 w5_mok_23) (fun (r20 : Int32) => if (r20 &&& a1) = 0 then (xbd (fX7_ring_tried F moi_13 moi_17 moi_18 moi_30 moi_31 mok_19 w5_mok_23 w5_mok_33) (fun (u39 : (Nat → Int32) × (Nat → Int32)) => fX7_isKept_L5 moi_13 moi_17 moi_18 moi_30 moi_31 mok_19 a1 a2 F k5 n5 (v5_4 + 1) (1 : Int32) u39.1 u39.2)) else (xbd (fX7_ring_tried F moi_13 moi_17 moi_18 moi_30 moi_31 mok_19 w5_mok_23 w5_mok_33) (fun (u39 : (Nat → Int32) × (Nat → Int32)) => fX7_isKept_L5 moi_13 moi_17 moi_18 moi_30 moi_31 mok_19 a1 a2 F k5 n5 (v5_4 + 1) (0 : Int32) u39.1 u39.2)))))
def fX7_isKept (F : Nat) (moi_13 : Int32) (moi_17 : Int32) (moi_18 : Int32) (moi_30 : Int32) (moi_31 : Int32) (mok_19 : Nat → Int32) (mok_23 : Nat → Int32) (mok_33 : Nat → Int32) (a1 : Int32) (a2 : Int32) : Option (Int32 × (Nat → Int32) × (Nat → Int32)) :=
  fX7_isKept_L5 moi_13 moi_17 moi_18 moi_30 moi_31 mok_19 a1 a2 F (fun (v5_4 : Int32) (v5_3 : Int32) (w5_mok_23 : Nat → Int32) (w5_mok_33 : Nat → Int32) => if v5_3 = 0 ∨ v5_3 = 1 then some (v5_3, (w5_mok_23, w5_mok_33)) else none) F (0 : Int32) (1 : Int32) mok_23 mok_33
theorem hi_X7_isKept_7 : ∀ w ∈ wsX70, w ∈ wsX7_isKept := fun _ h => (List.mem_cons_of_mem _ (List.mem_append_right _ h))
set_option maxHeartbeats 4000000 in
set_option maxRecDepth 100000 in
theorem c_X7_isKept (l : Launch) (D : va_G) (cI cP : ClassId) (sz : Nat) (mo : Nat) (mor : Nat → Nat) (moi_0 : Int32) (moi_2 : Int32) (moi_4 : Int32) (moi_8 : Int32) (moi_9 : Int32) (moi_11 : Int32) (moi_12 : Int32) (moi_13 : Int32) (moi_17 : Int32) (moi_18 : Int32) (moi_20 : Int32) (moi_21 : Int32) (moi_24 : Int32) (moi_26 : Int32) (moi_28 : Int32) (moi_30 : Int32) (moi_31 : Int32) (moi_32 : Int32) (mok_1 : Nat → Int32) (mok_3 : Nat → Int32) (mok_5 : Nat → Int32) (mok_6 : Nat → Int32) (mok_7 : Nat → Int32) (mok_10 : Nat → Int32) (mok_14 : Nat → Int32) (mok_15 : Nat → Int32) (mok_16 : Nat → Int32) (mok_19 : Nat → Int32) (mok_22 : Nat → Int32) (mok_23 : Nat → Int32) (mok_25 : Nat → Int32) (mok_27 : Nat → Int32) (mok_29 : Nat → Int32) (mok_33 : Nat → Int32) (mok_34 : Nat → Int32) (F : Nat) (a1 : Int32) (a2 : Int32) (hne : fX7_isKept F moi_13 moi_17 moi_18 moi_30 moi_31 mok_19 mok_23 mok_33 a1 a2 ≠ none) : xMi l yX7_isKept wsX7_isKept ({ frames := 2, cells := 0, slots := 0, locals := 45 } : Room) D (xT cI cP) [.ref mo, .int a1, .int a2] (wM cI mo mor moi_0 moi_2 moi_4 moi_8 moi_9 moi_11 moi_12 moi_13 moi_17 moi_18 moi_20 moi_21 moi_24 moi_26 moi_28 moi_30 moi_31 moi_32 mok_1 mok_3 mok_5 mok_6 mok_7 mok_10 mok_14 mok_15 mok_16 mok_19 mok_22 mok_23 mok_25 mok_27 mok_29 mok_33 mok_34) sz (fun r (u : ((Nat → Int32) × (Nat → Int32))) => fX7_isKept F moi_13 moi_17 moi_18 moi_30 moi_31 mok_19 mok_23 mok_33 a1 a2 = some (r, u)) (fun u => wM cI mo mor moi_0 moi_2 moi_4 moi_8 moi_9 moi_11 moi_12 moi_13 moi_17 moi_18 moi_20 moi_21 moi_24 moi_26 moi_28 moi_30 moi_31 moi_32 mok_1 mok_3 mok_5 mok_6 mok_7 mok_10 mok_14 mok_15 mok_16 mok_19 mok_22 u.1 mok_25 mok_27 mok_29 u.2 mok_34) 0 0 := by
  refine xMz_of (cc := cX7_isKept) (maxL := 5) (by decide +kernel) rfl (Nat.le_of_ble_eq_true rfl) ?_
  intro p e s m args below meth c A ls hx hb hml hown hts hname hN hK hA hP hD hS hl Q hret
  have he := fX7_isKept.eq_1 F moi_13 moi_17 moi_18 moi_30 moi_31 mok_19 mok_23 mok_33 a1 a2
  have hl : lv_has ls 5 [(0, .ref mo), (1, .int a1), (2, .int a2)] := hl
  have R5_0 : ∀ (v5_4 : Int32) (v5_3 : Int32) (w5_mok_23 : Nat → Int32) (w5_mok_33 : Nat → Int32), fX7_isKept F moi_13 moi_17 moi_18 moi_30 moi_31 mok_19 mok_23 mok_33 a1 a2 = (if v5_3 = 0 ∨ v5_3 = 1 then some (v5_3, (w5_mok_23, w5_mok_33)) else none) → ∀ (H : Heap) (locs : List Loc) (ls : Array Slot), va_P D vwCl (wM cI mo mor moi_0 moi_2 moi_4 moi_8 moi_9 moi_11 moi_12 moi_13 moi_17 moi_18 moi_20 moi_21 moi_24 moi_26 moi_28 moi_30 moi_31 moi_32 mok_1 mok_3 mok_5 mok_6 mok_7 mok_10 mok_14 mok_15 mok_16 mok_19 mok_22 w5_mok_23 mok_25 mok_27 mok_29 w5_mok_33 mok_34) H → va_D A (wM cI mo mor moi_0 moi_2 moi_4 moi_8 moi_9 moi_11 moi_12 moi_13 moi_17 moi_18 moi_20 moi_21 moi_24 moi_26 moi_28 moi_30 moi_31 moi_32 mok_1 mok_3 mok_5 mok_6 mok_7 mok_10 mok_14 mok_15 mok_16 mok_19 mok_22 w5_mok_23 mok_25 mok_27 mok_29 w5_mok_33 mok_34) → va_S A s.heap H locs → lv_has ls 5 [(3, .int v5_3)] → W p l e ({ frames := 2, cells := 0, slots := 0, locals := 45 } : Room) s m args below meth c H locs 0 0 Q (F0 m 48 ls []) := by
    intro v5_4 v5_3 w5_mok_23 w5_mok_33 he H locs ls hP hD hS hl
    refine lv_iload_n hx hb dX7_isKept_48 rfl (lv_at hl 0 rfl) ?_
    by_cases g1 : v5_3 = 0 ∨ v5_3 = 1
    · replace he := he.trans (if_pos g1)
      exact hret v5_3 (w5_mok_23, w5_mok_33) _ _ _ _ dX7_isKept_49 g1 he hP hD hS
    exact absurd (he.trans (if_neg g1)) hne
  have L5_7 : ∀ (n5 : Nat) (v5_4 : Int32) (v5_3 : Int32) (w5_mok_23 : Nat → Int32) (w5_mok_33 : Nat → Int32), fX7_isKept F moi_13 moi_17 moi_18 moi_30 moi_31 mok_19 mok_23 mok_33 a1 a2 = fX7_isKept_L5 moi_13 moi_17 moi_18 moi_30 moi_31 mok_19 a1 a2 F (fun (v5_4 : Int32) (v5_3 : Int32) (w5_mok_23 : Nat → Int32) (w5_mok_33 : Nat → Int32) => if v5_3 = 0 ∨ v5_3 = 1 then some (v5_3, (w5_mok_23, w5_mok_33)) else none) n5 v5_4 v5_3 w5_mok_23 w5_mok_33 → ∀ (H : Heap) (locs : List Loc) (ls : Array Slot), va_P D vwCl (wM cI mo mor moi_0 moi_2 moi_4 moi_8 moi_9 moi_11 moi_12 moi_13 moi_17 moi_18 moi_20 moi_21 moi_24 moi_26 moi_28 moi_30 moi_31 moi_32 mok_1 mok_3 mok_5 mok_6 mok_7 mok_10 mok_14 mok_15 mok_16 mok_19 mok_22 w5_mok_23 mok_25 mok_27 mok_29 w5_mok_33 mok_34) H → va_D A (wM cI mo mor moi_0 moi_2 moi_4 moi_8 moi_9 moi_11 moi_12 moi_13 moi_17 moi_18 moi_20 moi_21 moi_24 moi_26 moi_28 moi_30 moi_31 moi_32 mok_1 mok_3 mok_5 mok_6 mok_7 mok_10 mok_14 mok_15 mok_16 mok_19 mok_22 w5_mok_23 mok_25 mok_27 mok_29 w5_mok_33 mok_34) → va_S A s.heap H locs → lv_has ls 5 [(4, .int v5_4), (3, .int v5_3), (0, .ref mo), (1, .int a1), (2, .int a2)] → W p l e ({ frames := 2, cells := 0, slots := 0, locals := 45 } : Room) s m args below meth c H locs 0 0 Q (F0 m 5 ls []) := by
    intro n5
    induction n5 with
    | zero => intro v5_4 v5_3 w5_mok_23 w5_mok_33 he; exact absurd he hne
    | succ n5 ih5 =>
      intro v5_4 v5_3 w5_mok_23 w5_mok_33 he H locs ls hP hD hS hl
      replace he := he.trans (fX7_isKept_L5.eq_2 _ _ _ _ _ _ _ _ _ _ _ _ _ _ _)
      refine lv_iload hx hb dX7_isKept_5 (lv_at hl 0 rfl) ?_
      refine lv_iload_n hx hb dX7_isKept_7 rfl (lv_at hl 4 rfl) ?_
      refine lv_icmp_gt (tgt := 48) hx hb dX7_isKept_8 (by decide) (fun c2 => ?_) (fun c2 => ?_)
      · replace he := he.trans (if_pos c2)
        exact R5_0 v5_4 v5_3 w5_mok_23 w5_mok_33 he _ _ _ hP hD hS (lv_sub hl [1] rfl)
      · replace he := he.trans (if_neg c2)
        refine lv_iload_n hx hb dX7_isKept_11 rfl (lv_at hl 1 rfl) ?_
        refine lv_if_eq (tgt := 48) hx hb dX7_isKept_12 (by decide) (fun c3 => ?_) (fun c3 => ?_)
        · replace he := he.trans (if_pos c3)
          exact R5_0 v5_4 v5_3 w5_mok_23 w5_mok_33 he _ _ _ hP hD hS (lv_sub hl [1] rfl)
        · replace he := he.trans (if_neg c3)
          refine lv_aload_n hx hb dX7_isKept_15 rfl (lv_at hl 2 rfl) ?_
          refine lv_aload_n hx hb dX7_isKept_16 rfl (lv_at hl 2 rfl) ?_
          refine va_get (D := D) (ci := 7) (v := .ref (mor 23)) (C := RX7) (T := TX7) (N := 35) hx hb hts hi_X7_isKept_7 hown hK hP 0 wM_0 rfl 23 (by decide) (hts (.fieldLink RX7 43 "BlindLanternsModel" "tried" "[I") (List.mem_of_getElem? (i := 1) rfl)) (fun _ h9 => h9) xMf_23 dX7_isKept_17 ?_
          have n4_ : fX7_darkIn_tried F moi_13 w5_mok_23 ≠ none := fun z => hne (he.trans (xbd_none z))
          refine xciW (va_runV (As := [.ref (mor 23)]) (rest := []) ⟨hx, hb, hml, hown, hts⟩ (c_X7_darkIn_tried l D cI cP H.size mo mor moi_0 moi_2 moi_4 moi_8 moi_9 moi_11 moi_12 moi_13 moi_17 moi_18 moi_20 moi_21 moi_24 moi_26 moi_28 moi_30 moi_31 moi_32 mok_1 mok_3 mok_5 mok_6 mok_7 mok_10 mok_14 mok_15 mok_16 mok_19 mok_22 w5_mok_23 mok_25 mok_27 mok_29 w5_mok_33 mok_34 F  n4_) (cwV 1 hts gX7_isKept_X7_darkIn rfl rfl rfl (by decide +kernel) ⟨Nat.le_of_ble_eq_true rfl, Nat.le_of_ble_eq_true rfl⟩) (xPVW hN hK hP hD (ci := 7) (j := 0) rfl wM_0) rfl rfl hl.1 rfl (lv_room (Nat.le_of_ble_eq_true rfl)) dX7_isKept_20 ⟨Nat.le_of_ble_eq_true rfl, Nat.le_of_ble_eq_true rfl⟩) hD hS hA (fun r20 u20 H locs hw hP hD hS => ?_)
          have hP : va_P D vwCl (wM cI mo mor moi_0 moi_2 moi_4 moi_8 moi_9 moi_11 moi_12 moi_13 moi_17 moi_18 moi_20 moi_21 moi_24 moi_26 moi_28 moi_30 moi_31 moi_32 mok_1 mok_3 mok_5 mok_6 mok_7 mok_10 mok_14 mok_15 mok_16 mok_19 mok_22 w5_mok_23 mok_25 mok_27 mok_29 w5_mok_33 mok_34) H := hP
          have hD : va_D A (wM cI mo mor moi_0 moi_2 moi_4 moi_8 moi_9 moi_11 moi_12 moi_13 moi_17 moi_18 moi_20 moi_21 moi_24 moi_26 moi_28 moi_30 moi_31 moi_32 mok_1 mok_3 mok_5 mok_6 mok_7 mok_10 mok_14 mok_15 mok_16 mok_19 mok_22 w5_mok_23 mok_25 mok_27 mok_29 w5_mok_33 mok_34) := hD
          replace he := he.trans (xbd_some hw)
          refine lv_iload_n hx hb dX7_isKept_23 rfl (lv_at hl 3 rfl) ?_
          refine lv_iand hx hb dX7_isKept_24 ?_
          refine lv_if_ne (tgt := 32) hx hb dX7_isKept_25 (by decide) (fun c5 => ?_) (fun c5 => ?_)
          · replace he := he.trans (if_neg c5)
            refine lv_iconst (v := 0) hx hb dX7_isKept_32 (by decide) ?_
            refine lv_istore_n (lv' := [(3, .int (0 : Int32)), (4, .int v5_4), (0, .ref mo), (1, .int a1), (2, .int a2)]) hx hb dX7_isKept_33 rfl hl (by decide) rfl (fun ls hl => ?_)
            refine lv_aload_n hx hb dX7_isKept_34 rfl (lv_at hl 2 rfl) ?_
            refine lv_aload_n hx hb dX7_isKept_35 rfl (lv_at hl 2 rfl) ?_
            refine va_get (D := D) (ci := 7) (v := .ref (mor 23)) (C := RX7) (T := TX7) (N := 35) hx hb hts hi_X7_isKept_7 hown hK hP 0 wM_0 rfl 23 (by decide) (hts (.fieldLink RX7 43 "BlindLanternsModel" "tried" "[I") (List.mem_of_getElem? (i := 1) rfl)) (fun _ h9 => h9) xMf_23 dX7_isKept_36 ?_
            have n6_ : fX7_ring_tried F moi_13 moi_17 moi_18 moi_30 moi_31 mok_19 w5_mok_23 w5_mok_33 ≠ none := fun z => hne (he.trans (xbd_none z))
            refine xcvW (va_runV (As := [.ref (mor 23)]) (rest := []) ⟨hx, hb, hml, hown, hts⟩ (c_X7_ring_tried l D cI cP H.size mo mor moi_0 moi_2 moi_4 moi_8 moi_9 moi_11 moi_12 moi_13 moi_17 moi_18 moi_20 moi_21 moi_24 moi_26 moi_28 moi_30 moi_31 moi_32 mok_1 mok_3 mok_5 mok_6 mok_7 mok_10 mok_14 mok_15 mok_16 mok_19 mok_22 w5_mok_23 mok_25 mok_27 mok_29 w5_mok_33 mok_34 F  n6_) (cwV 1 hts gX7_isKept_X7_ring rfl rfl rfl (by decide +kernel) ⟨Nat.le_of_ble_eq_true rfl, Nat.le_of_ble_eq_true rfl⟩) (xPVW hN hK hP hD (ci := 7) (j := 0) rfl wM_0) rfl rfl hl.1 rfl (lv_room (Nat.le_of_ble_eq_true rfl)) dX7_isKept_39 ⟨Nat.le_of_ble_eq_true rfl, Nat.le_of_ble_eq_true rfl⟩) hD hS hA (fun u39 H locs hw hP hD hS => ?_)
            have hP : va_P D vwCl (wM cI mo mor moi_0 moi_2 moi_4 moi_8 moi_9 moi_11 moi_12 moi_13 moi_17 moi_18 moi_20 moi_21 moi_24 moi_26 moi_28 moi_30 moi_31 moi_32 mok_1 mok_3 mok_5 mok_6 mok_7 mok_10 mok_14 mok_15 mok_16 mok_19 mok_22 u39.1 mok_25 mok_27 mok_29 u39.2 mok_34) H := hP
            have hD : va_D A (wM cI mo mor moi_0 moi_2 moi_4 moi_8 moi_9 moi_11 moi_12 moi_13 moi_17 moi_18 moi_20 moi_21 moi_24 moi_26 moi_28 moi_30 moi_31 moi_32 mok_1 mok_3 mok_5 mok_6 mok_7 mok_10 mok_14 mok_15 mok_16 mok_19 mok_22 u39.1 mok_25 mok_27 mok_29 u39.2 mok_34) := hD
            replace he := he.trans (xbd_some hw)
            refine lv_iinc (v := (v5_4 + 1)) (lv' := [(4, .int (v5_4 + 1)), (3, .int (0 : Int32)), (0, .ref mo), (1, .int a1), (2, .int a2)]) hx hb dX7_isKept_42 hl (k := 1) rfl rfl (by decide) rfl (fun ls hl => ?_)
            refine lv_goto (tgt := 5) hx hb dX7_isKept_45 (by decide) ?_
            exact ih5 (v5_4 + 1) (0 : Int32) u39.1 u39.2 he _ _ _ hP hD hS (lv_sub hl [0, 1, 2, 3, 4] rfl)
          · replace he := he.trans (if_pos c5)
            refine lv_iconst (v := 1) hx hb dX7_isKept_28 (by decide) ?_
            refine lv_goto (tgt := 33) hx hb dX7_isKept_29 (by decide) ?_
            refine lv_istore_n (lv' := [(3, .int (1 : Int32)), (4, .int v5_4), (0, .ref mo), (1, .int a1), (2, .int a2)]) hx hb dX7_isKept_33 rfl hl (by decide) rfl (fun ls hl => ?_)
            refine lv_aload_n hx hb dX7_isKept_34 rfl (lv_at hl 2 rfl) ?_
            refine lv_aload_n hx hb dX7_isKept_35 rfl (lv_at hl 2 rfl) ?_
            refine va_get (D := D) (ci := 7) (v := .ref (mor 23)) (C := RX7) (T := TX7) (N := 35) hx hb hts hi_X7_isKept_7 hown hK hP 0 wM_0 rfl 23 (by decide) (hts (.fieldLink RX7 43 "BlindLanternsModel" "tried" "[I") (List.mem_of_getElem? (i := 1) rfl)) (fun _ h9 => h9) xMf_23 dX7_isKept_36 ?_
            have n7_ : fX7_ring_tried F moi_13 moi_17 moi_18 moi_30 moi_31 mok_19 w5_mok_23 w5_mok_33 ≠ none := fun z => hne (he.trans (xbd_none z))
            refine xcvW (va_runV (As := [.ref (mor 23)]) (rest := []) ⟨hx, hb, hml, hown, hts⟩ (c_X7_ring_tried l D cI cP H.size mo mor moi_0 moi_2 moi_4 moi_8 moi_9 moi_11 moi_12 moi_13 moi_17 moi_18 moi_20 moi_21 moi_24 moi_26 moi_28 moi_30 moi_31 moi_32 mok_1 mok_3 mok_5 mok_6 mok_7 mok_10 mok_14 mok_15 mok_16 mok_19 mok_22 w5_mok_23 mok_25 mok_27 mok_29 w5_mok_33 mok_34 F  n7_) (cwV 1 hts gX7_isKept_X7_ring rfl rfl rfl (by decide +kernel) ⟨Nat.le_of_ble_eq_true rfl, Nat.le_of_ble_eq_true rfl⟩) (xPVW hN hK hP hD (ci := 7) (j := 0) rfl wM_0) rfl rfl hl.1 rfl (lv_room (Nat.le_of_ble_eq_true rfl)) dX7_isKept_39 ⟨Nat.le_of_ble_eq_true rfl, Nat.le_of_ble_eq_true rfl⟩) hD hS hA (fun u39 H locs hw hP hD hS => ?_)
            have hP : va_P D vwCl (wM cI mo mor moi_0 moi_2 moi_4 moi_8 moi_9 moi_11 moi_12 moi_13 moi_17 moi_18 moi_20 moi_21 moi_24 moi_26 moi_28 moi_30 moi_31 moi_32 mok_1 mok_3 mok_5 mok_6 mok_7 mok_10 mok_14 mok_15 mok_16 mok_19 mok_22 u39.1 mok_25 mok_27 mok_29 u39.2 mok_34) H := hP
            have hD : va_D A (wM cI mo mor moi_0 moi_2 moi_4 moi_8 moi_9 moi_11 moi_12 moi_13 moi_17 moi_18 moi_20 moi_21 moi_24 moi_26 moi_28 moi_30 moi_31 moi_32 mok_1 mok_3 mok_5 mok_6 mok_7 mok_10 mok_14 mok_15 mok_16 mok_19 mok_22 u39.1 mok_25 mok_27 mok_29 u39.2 mok_34) := hD
            replace he := he.trans (xbd_some hw)
            refine lv_iinc (v := (v5_4 + 1)) (lv' := [(4, .int (v5_4 + 1)), (3, .int (1 : Int32)), (0, .ref mo), (1, .int a1), (2, .int a2)]) hx hb dX7_isKept_42 hl (k := 1) rfl rfl (by decide) rfl (fun ls hl => ?_)
            refine lv_goto (tgt := 5) hx hb dX7_isKept_45 (by decide) ?_
            exact ih5 (v5_4 + 1) (1 : Int32) u39.1 u39.2 he _ _ _ hP hD hS (lv_sub hl [0, 1, 2, 3, 4] rfl)
  refine lv_iconst (v := 1) hx hb dX7_isKept_0 (by decide) ?_
  refine lv_istore_n (lv' := [(3, .int (1 : Int32)), (0, .ref mo), (1, .int a1), (2, .int a2)]) hx hb dX7_isKept_1 rfl hl (by decide) rfl (fun ls hl => ?_)
  refine lv_iconst (v := 0) hx hb dX7_isKept_2 (by decide) ?_
  refine lv_istore (lv' := [(4, .int (0 : Int32)), (3, .int (1 : Int32)), (0, .ref mo), (1, .int a1), (2, .int a2)]) hx hb dX7_isKept_3 hl (by decide) rfl (fun ls hl => ?_)
  exact L5_7 F (0 : Int32) (1 : Int32) mok_23 mok_33 he _ _ _ hP hD hS (lv_sub hl [0, 1, 2, 3, 4] rfl)

def fX7_firstWay_L64 (moi_13 : Int32) (k64 : Int32 → Int32 → Int32 → (Nat → Int32) → Option (Int32 × (Nat → Int32) × (Nat → Int32))) : Nat → Int32 → Int32 → Int32 → (Nat → Int32) → Option (Int32 × (Nat → Int32) × (Nat → Int32))
  | 0, _, _, _, _ => none
  | n64 + 1, v64_7, v64_6, v64_5, w64_mok_23 => if v64_7 < 0 then (k64 v64_7 v64_6 v64_5 w64_mok_23) else (if moi_13 = 0 then none else (if v64_7 < 0 ∨ 19 ≤ v64_7.toNatClampNeg then none else (if moi_13 = 0 then none else (if moi_13 = 0 then none else (fX7_firstWay_L64 moi_13 k64 n64 (v64_7 + (-1)) (v64_6 ||| ((1 : Int32) <<< ((v64_5 - v64_5 / moi_13 * moi_13) &&& 31))) (v64_5 / moi_13) (upd w64_mok_23 v64_7.toNatClampNeg (v64_5 - v64_5 / moi_13 * moi_13)))))))
def fX7_firstWay_L30 (moi_13 : Int32) (moi_17 : Int32) (moi_18 : Int32) (moi_30 : Int32) (moi_31 : Int32) (mok_19 : Nat → Int32) (mok_22 : Nat → Int32) (a1 : Int32) (a2 : Int32) (F : Nat) (v5_3 : Int32) (k30 : Int32 → (Nat → Int32) → (Nat → Int32) → Option (Int32 × (Nat → Int32) × (Nat → Int32))) : Nat → Int32 → (Nat → Int32) → (Nat → Int32) → Option (Int32 × (Nat → Int32) × (Nat → Int32))
  | 0, _, _, _ => none
  | n30 + 1, v30_4, w30_mok_23, w30_mok_33 => if v5_3 ≤ v30_4 then (k30 v30_4 w30_mok_23 w30_mok_33) else (xbd (fX7_copy_now_tried F mok_22 w30_mok_23 (0 : Int32) (0 : Int32)) (fun (u46 : (Nat → Int32)) => fX7_firstWay_L64 moi_13 (fun (v64_7 : Int32) (v64_6 : Int32) (v64_5 : Int32) (w64_mok_23 : Nat → Int32) => if v64_6 = (((1 : Int32) <<< (moi_13 &&& 31)) - (1 : Int32)) then (xbd2 (fX7_isKept F moi_13 moi_17 moi_18 moi_30 moi_31 mok_19 w64_mok_23 w30_mok_33 a1 a2) (fun (r128 : Int32) (u128 : (Nat → Int32) × (Nat → Int32)) => if r128 = 0 then (fX7_firstWay_L30 moi_13 moi_17 moi_18 moi_30 moi_31 mok_19 mok_22 a1 a2 F v5_3 k30 n30 (v30_4 + 1) u128.1 u128.2) else (some (v30_4, (u128.1, u128.2))))) else (fX7_firstWay_L30 moi_13 moi_17 moi_18 moi_30 moi_31 mok_19 mok_22 a1 a2 F v5_3 k30 n30 (v30_4 + 1) w64_mok_23 w30_mok_33)) F (moi_13 - (1 : Int32)) (0 : Int32) v30_4 u46))
def fX7_firstWay_L5 (moi_13 : Int32) (k5 : Int32 → Int32 → Option (Int32 × (Nat → Int32) × (Nat → Int32))) : Nat → Int32 → Int32 → Option (Int32 × (Nat → Int32) × (Nat → Int32))
  | 0, _, _ => none
  | n5 + 1, v5_4, v5_3 => if moi_13 ≤ v5_4 then (k5 v5_4 v5_3) else (fX7_firstWay_L5 moi_13 k5 n5 (v5_4 + 1) (v5_3 * moi_13))
def fX7_firstWay (F : Nat) (moi_13 : Int32) (moi_17 : Int32) (moi_18 : Int32) (moi_30 : Int32) (moi_31 : Int32) (mok_19 : Nat → Int32) (mok_22 : Nat → Int32) (mok_23 : Nat → Int32) (mok_33 : Nat → Int32) (a1 : Int32) (a2 : Int32) : Option (Int32 × (Nat → Int32) × (Nat → Int32)) :=
  fX7_firstWay_L5 moi_13 (fun (v5_4 : Int32) (v5_3 : Int32) => fX7_firstWay_L30 moi_13 moi_17 moi_18 moi_30 moi_31 mok_19 mok_22 a1 a2 F v5_3 (fun (v30_4 : Int32) (w30_mok_23 : Nat → Int32) (w30_mok_33 : Nat → Int32) => some ((-4 : Int32), (w30_mok_23, w30_mok_33))) F (0 : Int32) mok_23 mok_33) F (0 : Int32) (1 : Int32)
theorem hi_X7_firstWay_7 : ∀ w ∈ wsX70, w ∈ wsX7_firstWay := fun _ h => (List.mem_cons_of_mem _ (List.mem_append_right _ h))
set_option maxHeartbeats 4000000 in
set_option maxRecDepth 100000 in
theorem c_X7_firstWay (l : Launch) (D : va_G) (cI cP : ClassId) (sz : Nat) (mo : Nat) (mor : Nat → Nat) (moi_0 : Int32) (moi_2 : Int32) (moi_4 : Int32) (moi_8 : Int32) (moi_9 : Int32) (moi_11 : Int32) (moi_12 : Int32) (moi_13 : Int32) (moi_17 : Int32) (moi_18 : Int32) (moi_20 : Int32) (moi_21 : Int32) (moi_24 : Int32) (moi_26 : Int32) (moi_28 : Int32) (moi_30 : Int32) (moi_31 : Int32) (moi_32 : Int32) (mok_1 : Nat → Int32) (mok_3 : Nat → Int32) (mok_5 : Nat → Int32) (mok_6 : Nat → Int32) (mok_7 : Nat → Int32) (mok_10 : Nat → Int32) (mok_14 : Nat → Int32) (mok_15 : Nat → Int32) (mok_16 : Nat → Int32) (mok_19 : Nat → Int32) (mok_22 : Nat → Int32) (mok_23 : Nat → Int32) (mok_25 : Nat → Int32) (mok_27 : Nat → Int32) (mok_29 : Nat → Int32) (mok_33 : Nat → Int32) (mok_34 : Nat → Int32) (F : Nat) (a1 : Int32) (a2 : Int32) (hne : fX7_firstWay F moi_13 moi_17 moi_18 moi_30 moi_31 mok_19 mok_22 mok_23 mok_33 a1 a2 ≠ none) : xMi l yX7_firstWay wsX7_firstWay ({ frames := 3, cells := 0, slots := 0, locals := 69 } : Room) D (xT cI cP) [.ref mo, .int a1, .int a2] (wM cI mo mor moi_0 moi_2 moi_4 moi_8 moi_9 moi_11 moi_12 moi_13 moi_17 moi_18 moi_20 moi_21 moi_24 moi_26 moi_28 moi_30 moi_31 moi_32 mok_1 mok_3 mok_5 mok_6 mok_7 mok_10 mok_14 mok_15 mok_16 mok_19 mok_22 mok_23 mok_25 mok_27 mok_29 mok_33 mok_34) sz (fun r (u : ((Nat → Int32) × (Nat → Int32))) => fX7_firstWay F moi_13 moi_17 moi_18 moi_30 moi_31 mok_19 mok_22 mok_23 mok_33 a1 a2 = some (r, u)) (fun u => wM cI mo mor moi_0 moi_2 moi_4 moi_8 moi_9 moi_11 moi_12 moi_13 moi_17 moi_18 moi_20 moi_21 moi_24 moi_26 moi_28 moi_30 moi_31 moi_32 mok_1 mok_3 mok_5 mok_6 mok_7 mok_10 mok_14 mok_15 mok_16 mok_19 mok_22 u.1 mok_25 mok_27 mok_29 u.2 mok_34) 0 0 := by
  refine xMi_of (cc := cX7_firstWay) (maxL := 8) (by decide +kernel) rfl (Nat.le_of_ble_eq_true rfl) ?_
  intro p e s m args below meth c A ls hx hb hml hown hts hname hN hK hA hP hD hS hl Q hret
  have he := fX7_firstWay.eq_1 F moi_13 moi_17 moi_18 moi_30 moi_31 mok_19 mok_22 mok_23 mok_33 a1 a2
  have hl : lv_has ls 8 [(0, .ref mo), (1, .int a1), (2, .int a2)] := hl
  have R30_0 : ∀ (v30_4 : Int32) (w30_mok_23 : Nat → Int32) (w30_mok_33 : Nat → Int32), fX7_firstWay F moi_13 moi_17 moi_18 moi_30 moi_31 mok_19 mok_22 mok_23 mok_33 a1 a2 = (some ((-4 : Int32), (w30_mok_23, w30_mok_33))) → ∀ (H : Heap) (locs : List Loc) (ls : Array Slot), va_P D vwCl (wM cI mo mor moi_0 moi_2 moi_4 moi_8 moi_9 moi_11 moi_12 moi_13 moi_17 moi_18 moi_20 moi_21 moi_24 moi_26 moi_28 moi_30 moi_31 moi_32 mok_1 mok_3 mok_5 mok_6 mok_7 mok_10 mok_14 mok_15 mok_16 mok_19 mok_22 w30_mok_23 mok_25 mok_27 mok_29 w30_mok_33 mok_34) H → va_D A (wM cI mo mor moi_0 moi_2 moi_4 moi_8 moi_9 moi_11 moi_12 moi_13 moi_17 moi_18 moi_20 moi_21 moi_24 moi_26 moi_28 moi_30 moi_31 moi_32 mok_1 mok_3 mok_5 mok_6 mok_7 mok_10 mok_14 mok_15 mok_16 mok_19 mok_22 w30_mok_23 mok_25 mok_27 mok_29 w30_mok_33 mok_34) → va_S A s.heap H locs → lv_has ls 8 [] → W p l e ({ frames := 3, cells := 0, slots := 0, locals := 69 } : Room) s m args below meth c H locs 0 0 Q (F0 m 143 ls []) := by
    intro v30_4 w30_mok_23 w30_mok_33 he H locs ls hP hD hS hl
    refine lv_bipush (v := -4) hx hb dX7_firstWay_143 (by decide) ?_
    exact hret (-4 : Int32) (w30_mok_23, w30_mok_33) _ _ _ _ dX7_firstWay_145 he hP hD hS
  have L30_4 : ∀ (v5_3 : Int32) (n30 : Nat) (v30_4 : Int32) (w30_mok_23 : Nat → Int32) (w30_mok_33 : Nat → Int32), fX7_firstWay F moi_13 moi_17 moi_18 moi_30 moi_31 mok_19 mok_22 mok_23 mok_33 a1 a2 = fX7_firstWay_L30 moi_13 moi_17 moi_18 moi_30 moi_31 mok_19 mok_22 a1 a2 F v5_3 (fun (v30_4 : Int32) (w30_mok_23 : Nat → Int32) (w30_mok_33 : Nat → Int32) => some ((-4 : Int32), (w30_mok_23, w30_mok_33))) n30 v30_4 w30_mok_23 w30_mok_33 → ∀ (H : Heap) (locs : List Loc) (ls : Array Slot), va_P D vwCl (wM cI mo mor moi_0 moi_2 moi_4 moi_8 moi_9 moi_11 moi_12 moi_13 moi_17 moi_18 moi_20 moi_21 moi_24 moi_26 moi_28 moi_30 moi_31 moi_32 mok_1 mok_3 mok_5 mok_6 mok_7 mok_10 mok_14 mok_15 mok_16 mok_19 mok_22 w30_mok_23 mok_25 mok_27 mok_29 w30_mok_33 mok_34) H → va_D A (wM cI mo mor moi_0 moi_2 moi_4 moi_8 moi_9 moi_11 moi_12 moi_13 moi_17 moi_18 moi_20 moi_21 moi_24 moi_26 moi_28 moi_30 moi_31 moi_32 mok_1 mok_3 mok_5 mok_6 mok_7 mok_10 mok_14 mok_15 mok_16 mok_19 mok_22 w30_mok_23 mok_25 mok_27 mok_29 w30_mok_33 mok_34) → va_S A s.heap H locs → lv_has ls 8 [(4, .int v30_4), (3, .int v5_3), (0, .ref mo), (1, .int a1), (2, .int a2)] → W p l e ({ frames := 3, cells := 0, slots := 0, locals := 69 } : Room) s m args below meth c H locs 0 0 Q (F0 m 30 ls []) := by
    intro v5_3 n30
    induction n30 with
    | zero => intro v30_4 w30_mok_23 w30_mok_33 he; exact absurd he hne
    | succ n30 ih30 =>
      intro v30_4 w30_mok_23 w30_mok_33 he H locs ls hP hD hS hl
      replace he := he.trans (fX7_firstWay_L30.eq_2 _ _ _ _ _ _ _ _ _ _ _ _ _ _ _ _)
      refine lv_iload hx hb dX7_firstWay_30 (lv_at hl 0 rfl) ?_
      refine lv_iload_n hx hb dX7_firstWay_32 rfl (lv_at hl 1 rfl) ?_
      refine lv_icmp_ge (tgt := 143) hx hb dX7_firstWay_33 (by decide) (fun c1 => ?_) (fun c1 => ?_)
      · replace he := he.trans (if_pos c1)
        exact R30_0 v30_4 w30_mok_23 w30_mok_33 he _ _ _ hP hD hS (lv_sub hl [] rfl)
      · replace he := he.trans (if_neg c1)
        refine lv_aload_n hx hb dX7_firstWay_36 rfl (lv_at hl 2 rfl) ?_
        refine va_get (D := D) (ci := 7) (v := .ref (mor 22)) (C := RX7) (T := TX7) (N := 35) hx hb hts hi_X7_firstWay_7 hown hK hP 0 wM_0 rfl 22 (by decide) (hts (.fieldLink RX7 40 "BlindLanternsModel" "now" "[I") (List.mem_of_getElem? (i := 2) rfl)) (fun _ h9 => h9) xMf_22 dX7_firstWay_37 ?_
        refine lv_iconst (v := 0) hx hb dX7_firstWay_40 (by decide) ?_
        refine lv_aload_n hx hb dX7_firstWay_41 rfl (lv_at hl 2 rfl) ?_
        refine va_get (D := D) (ci := 7) (v := .ref (mor 23)) (C := RX7) (T := TX7) (N := 35) hx hb hts hi_X7_firstWay_7 hown hK hP 0 wM_0 rfl 23 (by decide) (hts (.fieldLink RX7 43 "BlindLanternsModel" "tried" "[I") (List.mem_of_getElem? (i := 3) rfl)) (fun _ h9 => h9) xMf_23 dX7_firstWay_42 ?_
        refine lv_iconst (v := 0) hx hb dX7_firstWay_45 (by decide) ?_
        have n2_ : fX7_copy_now_tried F mok_22 w30_mok_23 (0 : Int32) (0 : Int32) ≠ none := fun z => hne (he.trans (xbd_none z))
        refine xcvW (va_runS (As := [.ref (mor 22), .int (0 : Int32), .ref (mor 23), .int (0 : Int32)]) (rest := []) ⟨hx, hb, hml, hown, hts⟩ (c_X7_copy_now_tried l D cI cP H.size mo mor moi_0 moi_2 moi_4 moi_8 moi_9 moi_11 moi_12 moi_13 moi_17 moi_18 moi_20 moi_21 moi_24 moi_26 moi_28 moi_30 moi_31 moi_32 mok_1 mok_3 mok_5 mok_6 mok_7 mok_10 mok_14 mok_15 mok_16 mok_19 mok_22 w30_mok_23 mok_25 mok_27 mok_29 w30_mok_33 mok_34 F (0 : Int32) (0 : Int32) n2_) (va_cwS 4 hts gX7_firstWay_X7_copy rfl rfl rfl (by decide +kernel) ⟨Nat.le_of_ble_eq_true rfl, Nat.le_of_ble_eq_true rfl⟩) (xPSW hN hK hP hD) rfl rfl hl.1 rfl (lv_room (Nat.le_of_ble_eq_true rfl)) dX7_firstWay_46 ⟨Nat.le_of_ble_eq_true rfl, Nat.le_of_ble_eq_true rfl⟩) hD hS hA (fun u46 H locs hw hP hD hS => ?_)
        have hP : va_P D vwCl (wM cI mo mor moi_0 moi_2 moi_4 moi_8 moi_9 moi_11 moi_12 moi_13 moi_17 moi_18 moi_20 moi_21 moi_24 moi_26 moi_28 moi_30 moi_31 moi_32 mok_1 mok_3 mok_5 mok_6 mok_7 mok_10 mok_14 mok_15 mok_16 mok_19 mok_22 u46 mok_25 mok_27 mok_29 w30_mok_33 mok_34) H := hP
        have hD : va_D A (wM cI mo mor moi_0 moi_2 moi_4 moi_8 moi_9 moi_11 moi_12 moi_13 moi_17 moi_18 moi_20 moi_21 moi_24 moi_26 moi_28 moi_30 moi_31 moi_32 mok_1 mok_3 mok_5 mok_6 mok_7 mok_10 mok_14 mok_15 mok_16 mok_19 mok_22 u46 mok_25 mok_27 mok_29 w30_mok_33 mok_34) := hD
        replace he := he.trans (xbd_some hw)
        refine lv_iload hx hb dX7_firstWay_49 (lv_at hl 0 rfl) ?_
        refine lv_istore (lv' := [(5, .int v30_4), (4, .int v30_4), (3, .int v5_3), (0, .ref mo), (1, .int a1), (2, .int a2)]) hx hb dX7_firstWay_51 hl (by decide) rfl (fun ls hl => ?_)
        refine lv_iconst (v := 0) hx hb dX7_firstWay_53 (by decide) ?_
        refine lv_istore (lv' := [(6, .int (0 : Int32)), (5, .int v30_4), (4, .int v30_4), (3, .int v5_3), (0, .ref mo), (1, .int a1), (2, .int a2)]) hx hb dX7_firstWay_54 hl (by decide) rfl (fun ls hl => ?_)
        refine lv_aload_n hx hb dX7_firstWay_56 rfl (lv_at hl 4 rfl) ?_
        refine va_get (D := D) (ci := 7) (v := .int moi_13) (C := RX7) (T := TX7) (N := 35) hx hb hts hi_X7_firstWay_7 hown hK hP 0 wM_0 rfl 13 (by decide) (hts (.fieldLink RX7 71 "BlindLanternsModel" "men" "I") (List.mem_of_getElem? (i := 1) rfl)) (fun _ h9 => h9) xMf_13 dX7_firstWay_57 ?_
        refine lv_iconst (v := 1) hx hb dX7_firstWay_60 (by decide) ?_
        refine lv_isub hx hb dX7_firstWay_61 ?_
        refine lv_istore (lv' := [(7, .int (moi_13 - (1 : Int32))), (6, .int (0 : Int32)), (5, .int v30_4), (4, .int v30_4), (3, .int v5_3), (0, .ref mo), (1, .int a1), (2, .int a2)]) hx hb dX7_firstWay_62 hl (by decide) rfl (fun ls hl => ?_)
        have R64 : ∀ (v64_7 : Int32) (v64_6 : Int32) (v64_5 : Int32) (w64_mok_23 : Nat → Int32), fX7_firstWay F moi_13 moi_17 moi_18 moi_30 moi_31 mok_19 mok_22 mok_23 mok_33 a1 a2 = (if v64_6 = (((1 : Int32) <<< (moi_13 &&& 31)) - (1 : Int32)) then (xbd2 (fX7_isKept F moi_13 moi_17 moi_18 moi_30 moi_31 mok_19 w64_mok_23 w30_mok_33 a1 a2) (fun (r128 : Int32) (u128 : (Nat → Int32) × (Nat → Int32)) => if r128 = 0 then (fX7_firstWay_L30 moi_13 moi_17 moi_18 moi_30 moi_31 mok_19 mok_22 a1 a2 F v5_3 (fun (v30_4 : Int32) (w30_mok_23 : Nat → Int32) (w30_mok_33 : Nat → Int32) => some ((-4 : Int32), (w30_mok_23, w30_mok_33))) n30 (v30_4 + 1) u128.1 u128.2) else (some (v30_4, (u128.1, u128.2))))) else (fX7_firstWay_L30 moi_13 moi_17 moi_18 moi_30 moi_31 mok_19 mok_22 a1 a2 F v5_3 (fun (v30_4 : Int32) (w30_mok_23 : Nat → Int32) (w30_mok_33 : Nat → Int32) => some ((-4 : Int32), (w30_mok_23, w30_mok_33))) n30 (v30_4 + 1) w64_mok_23 w30_mok_33)) → ∀ (H : Heap) (locs : List Loc) (ls : Array Slot), va_P D vwCl (wM cI mo mor moi_0 moi_2 moi_4 moi_8 moi_9 moi_11 moi_12 moi_13 moi_17 moi_18 moi_20 moi_21 moi_24 moi_26 moi_28 moi_30 moi_31 moi_32 mok_1 mok_3 mok_5 mok_6 mok_7 mok_10 mok_14 mok_15 mok_16 mok_19 mok_22 w64_mok_23 mok_25 mok_27 mok_29 w30_mok_33 mok_34) H → va_D A (wM cI mo mor moi_0 moi_2 moi_4 moi_8 moi_9 moi_11 moi_12 moi_13 moi_17 moi_18 moi_20 moi_21 moi_24 moi_26 moi_28 moi_30 moi_31 moi_32 mok_1 mok_3 mok_5 mok_6 mok_7 mok_10 mok_14 mok_15 mok_16 mok_19 mok_22 w64_mok_23 mok_25 mok_27 mok_29 w30_mok_33 mok_34) → va_S A s.heap H locs → lv_has ls 8 [(6, .int v64_6), (4, .int v30_4), (3, .int v5_3), (0, .ref mo), (1, .int a1), (2, .int a2)] → W p l e ({ frames := 3, cells := 0, slots := 0, locals := 69 } : Room) s m args below meth c H locs 0 0 Q (F0 m 112 ls []) := by
          intro v64_7 v64_6 v64_5 w64_mok_23 he H locs ls hP hD hS hl
          refine lv_iload hx hb dX7_firstWay_112 (lv_at hl 0 rfl) ?_
          refine lv_iconst (v := 1) hx hb dX7_firstWay_114 (by decide) ?_
          refine lv_aload_n hx hb dX7_firstWay_115 rfl (lv_at hl 3 rfl) ?_
          refine va_get (D := D) (ci := 7) (v := .int moi_13) (C := RX7) (T := TX7) (N := 35) hx hb hts hi_X7_firstWay_7 hown hK hP 0 wM_0 rfl 13 (by decide) (hts (.fieldLink RX7 71 "BlindLanternsModel" "men" "I") (List.mem_of_getElem? (i := 1) rfl)) (fun _ h9 => h9) xMf_13 dX7_firstWay_116 ?_
          refine lv_ishl hx hb dX7_firstWay_119 ?_
          refine lv_iconst (v := 1) hx hb dX7_firstWay_120 (by decide) ?_
          refine lv_isub hx hb dX7_firstWay_121 ?_
          refine lv_icmp_ne (tgt := 137) hx hb dX7_firstWay_122 (by decide) (fun c3 => ?_) (fun c3 => ?_)
          · replace he := he.trans (if_neg c3)
            refine lv_iinc (v := (v30_4 + 1)) (lv' := [(4, .int (v30_4 + 1)), (6, .int v64_6), (3, .int v5_3), (0, .ref mo), (1, .int a1), (2, .int a2)]) hx hb dX7_firstWay_137 hl (k := 1) rfl rfl (by decide) rfl (fun ls hl => ?_)
            refine lv_goto (tgt := 30) hx hb dX7_firstWay_140 (by decide) ?_
            exact ih30 (v30_4 + 1) w64_mok_23 w30_mok_33 he _ _ _ hP hD hS (lv_sub hl [0, 2, 3, 4, 5] rfl)
          · replace he := he.trans (if_pos c3)
            refine lv_aload_n hx hb dX7_firstWay_125 rfl (lv_at hl 3 rfl) ?_
            refine lv_iload_n hx hb dX7_firstWay_126 rfl (lv_at hl 4 rfl) ?_
            refine lv_iload_n hx hb dX7_firstWay_127 rfl (lv_at hl 5 rfl) ?_
            have n4_ : fX7_isKept F moi_13 moi_17 moi_18 moi_30 moi_31 mok_19 w64_mok_23 w30_mok_33 a1 a2 ≠ none := fun z => hne (he.trans (xbd2_none z))
            refine xciW (va_runV (As := [.int a1, .int a2]) (rest := []) ⟨hx, hb, hml, hown, hts⟩ (c_X7_isKept l D cI cP H.size mo mor moi_0 moi_2 moi_4 moi_8 moi_9 moi_11 moi_12 moi_13 moi_17 moi_18 moi_20 moi_21 moi_24 moi_26 moi_28 moi_30 moi_31 moi_32 mok_1 mok_3 mok_5 mok_6 mok_7 mok_10 mok_14 mok_15 mok_16 mok_19 mok_22 w64_mok_23 mok_25 mok_27 mok_29 w30_mok_33 mok_34 F a1 a2 n4_) (cwV 2 hts gX7_firstWay_X7_isKept rfl rfl rfl (by decide +kernel) ⟨Nat.le_of_ble_eq_true rfl, Nat.le_of_ble_eq_true rfl⟩) (xPVW hN hK hP hD (ci := 7) (j := 0) rfl wM_0) rfl rfl hl.1 rfl (lv_room (Nat.le_of_ble_eq_true rfl)) dX7_firstWay_128 ⟨Nat.le_of_ble_eq_true rfl, Nat.le_of_ble_eq_true rfl⟩) hD hS hA (fun r128 u128 H locs hw hP hD hS => ?_)
            have hP : va_P D vwCl (wM cI mo mor moi_0 moi_2 moi_4 moi_8 moi_9 moi_11 moi_12 moi_13 moi_17 moi_18 moi_20 moi_21 moi_24 moi_26 moi_28 moi_30 moi_31 moi_32 mok_1 mok_3 mok_5 mok_6 mok_7 mok_10 mok_14 mok_15 mok_16 mok_19 mok_22 u128.1 mok_25 mok_27 mok_29 u128.2 mok_34) H := hP
            have hD : va_D A (wM cI mo mor moi_0 moi_2 moi_4 moi_8 moi_9 moi_11 moi_12 moi_13 moi_17 moi_18 moi_20 moi_21 moi_24 moi_26 moi_28 moi_30 moi_31 moi_32 mok_1 mok_3 mok_5 mok_6 mok_7 mok_10 mok_14 mok_15 mok_16 mok_19 mok_22 u128.1 mok_25 mok_27 mok_29 u128.2 mok_34) := hD
            replace he := he.trans (xbd2_some hw)
            refine lv_if_eq (tgt := 137) hx hb dX7_firstWay_131 (by decide) (fun c5 => ?_) (fun c5 => ?_)
            · replace he := he.trans (if_pos c5)
              refine lv_iinc (v := (v30_4 + 1)) (lv' := [(4, .int (v30_4 + 1)), (6, .int v64_6), (3, .int v5_3), (0, .ref mo), (1, .int a1), (2, .int a2)]) hx hb dX7_firstWay_137 hl (k := 1) rfl rfl (by decide) rfl (fun ls hl => ?_)
              refine lv_goto (tgt := 30) hx hb dX7_firstWay_140 (by decide) ?_
              exact ih30 (v30_4 + 1) u128.1 u128.2 he _ _ _ hP hD hS (lv_sub hl [0, 2, 3, 4, 5] rfl)
            · replace he := he.trans (if_neg c5)
              refine lv_iload hx hb dX7_firstWay_134 (lv_at hl 1 rfl) ?_
              exact hret v30_4 (u128.1, u128.2) _ _ _ _ dX7_firstWay_136 he hP hD hS
        have L64 : ∀ (n64 : Nat) (v64_7 : Int32) (v64_6 : Int32) (v64_5 : Int32) (w64_mok_23 : Nat → Int32), fX7_firstWay F moi_13 moi_17 moi_18 moi_30 moi_31 mok_19 mok_22 mok_23 mok_33 a1 a2 = fX7_firstWay_L64 moi_13 (fun (v64_7 : Int32) (v64_6 : Int32) (v64_5 : Int32) (w64_mok_23 : Nat → Int32) => if v64_6 = (((1 : Int32) <<< (moi_13 &&& 31)) - (1 : Int32)) then (xbd2 (fX7_isKept F moi_13 moi_17 moi_18 moi_30 moi_31 mok_19 w64_mok_23 w30_mok_33 a1 a2) (fun (r128 : Int32) (u128 : (Nat → Int32) × (Nat → Int32)) => if r128 = 0 then (fX7_firstWay_L30 moi_13 moi_17 moi_18 moi_30 moi_31 mok_19 mok_22 a1 a2 F v5_3 (fun (v30_4 : Int32) (w30_mok_23 : Nat → Int32) (w30_mok_33 : Nat → Int32) => some ((-4 : Int32), (w30_mok_23, w30_mok_33))) n30 (v30_4 + 1) u128.1 u128.2) else (some (v30_4, (u128.1, u128.2))))) else (fX7_firstWay_L30 moi_13 moi_17 moi_18 moi_30 moi_31 mok_19 mok_22 a1 a2 F v5_3 (fun (v30_4 : Int32) (w30_mok_23 : Nat → Int32) (w30_mok_33 : Nat → Int32) => some ((-4 : Int32), (w30_mok_23, w30_mok_33))) n30 (v30_4 + 1) w64_mok_23 w30_mok_33)) n64 v64_7 v64_6 v64_5 w64_mok_23 → ∀ (H : Heap) (locs : List Loc) (ls : Array Slot), va_P D vwCl (wM cI mo mor moi_0 moi_2 moi_4 moi_8 moi_9 moi_11 moi_12 moi_13 moi_17 moi_18 moi_20 moi_21 moi_24 moi_26 moi_28 moi_30 moi_31 moi_32 mok_1 mok_3 mok_5 mok_6 mok_7 mok_10 mok_14 mok_15 mok_16 mok_19 mok_22 w64_mok_23 mok_25 mok_27 mok_29 w30_mok_33 mok_34) H → va_D A (wM cI mo mor moi_0 moi_2 moi_4 moi_8 moi_9 moi_11 moi_12 moi_13 moi_17 moi_18 moi_20 moi_21 moi_24 moi_26 moi_28 moi_30 moi_31 moi_32 mok_1 mok_3 mok_5 mok_6 mok_7 mok_10 mok_14 mok_15 mok_16 mok_19 mok_22 w64_mok_23 mok_25 mok_27 mok_29 w30_mok_33 mok_34) → va_S A s.heap H locs → lv_has ls 8 [(7, .int v64_7), (6, .int v64_6), (5, .int v64_5), (4, .int v30_4), (3, .int v5_3), (0, .ref mo), (1, .int a1), (2, .int a2)] → W p l e ({ frames := 3, cells := 0, slots := 0, locals := 69 } : Room) s m args below meth c H locs 0 0 Q (F0 m 64 ls []) := by
          intro n64
          induction n64 with
          | zero => intro v64_7 v64_6 v64_5 w64_mok_23 he; exact absurd he hne
          | succ n64 ih64 =>
            intro v64_7 v64_6 v64_5 w64_mok_23 he H locs ls hP hD hS hl
            replace he := he.trans (fX7_firstWay_L64.eq_2 _ _ _ _ _ _ _)
            refine lv_iload hx hb dX7_firstWay_64 (lv_at hl 0 rfl) ?_
            refine lv_if_lt (tgt := 112) hx hb dX7_firstWay_66 (by decide) (fun c6 => ?_) (fun c6 => ?_)
            · replace he := he.trans (if_pos c6)
              exact R64 v64_7 v64_6 v64_5 w64_mok_23 he _ _ _ hP hD hS (lv_sub hl [1, 3, 4, 5, 6, 7] rfl)
            · replace he := he.trans (if_neg c6)
              refine lv_aload_n hx hb dX7_firstWay_69 rfl (lv_at hl 5 rfl) ?_
              refine va_get (D := D) (ci := 7) (v := .ref (mor 23)) (C := RX7) (T := TX7) (N := 35) hx hb hts hi_X7_firstWay_7 hown hK hP 0 wM_0 rfl 23 (by decide) (hts (.fieldLink RX7 43 "BlindLanternsModel" "tried" "[I") (List.mem_of_getElem? (i := 3) rfl)) (fun _ h9 => h9) xMf_23 dX7_firstWay_70 ?_
              refine lv_iload hx hb dX7_firstWay_73 (lv_at hl 0 rfl) ?_
              refine lv_iload hx hb dX7_firstWay_75 (lv_at hl 2 rfl) ?_
              refine lv_aload_n hx hb dX7_firstWay_77 rfl (lv_at hl 5 rfl) ?_
              refine va_get (D := D) (ci := 7) (v := .int moi_13) (C := RX7) (T := TX7) (N := 35) hx hb hts hi_X7_firstWay_7 hown hK hP 0 wM_0 rfl 13 (by decide) (hts (.fieldLink RX7 71 "BlindLanternsModel" "men" "I") (List.mem_of_getElem? (i := 1) rfl)) (fun _ h9 => h9) xMf_13 dX7_firstWay_78 ?_
              by_cases g7 : moi_13 = 0
              · exact absurd (he.trans (if_pos g7)) hne
              replace he := he.trans (if_neg g7)
              refine lv_irem hx hb dX7_firstWay_81 g7 ?_
              by_cases g8 : v64_7 < 0 ∨ 19 ≤ v64_7.toNatClampNeg
              · exact absurd (he.trans (if_pos g8)) hne
              replace he := he.trans (if_neg g8)
              refine va_iast hx hb hK hP hD hS 12 0 wM_a23 rfl g8 dX7_firstWay_82 (fun H locs hP hD hS => ?_)
              rw [wM_s23] at hP hD
              refine lv_iload hx hb dX7_firstWay_83 (lv_at hl 1 rfl) ?_
              refine lv_iconst (v := 1) hx hb dX7_firstWay_85 (by decide) ?_
              refine lv_iload hx hb dX7_firstWay_86 (lv_at hl 2 rfl) ?_
              refine lv_aload_n hx hb dX7_firstWay_88 rfl (lv_at hl 5 rfl) ?_
              refine va_get (D := D) (ci := 7) (v := .int moi_13) (C := RX7) (T := TX7) (N := 35) hx hb hts hi_X7_firstWay_7 hown hK hP 0 wM_0 rfl 13 (by decide) (hts (.fieldLink RX7 71 "BlindLanternsModel" "men" "I") (List.mem_of_getElem? (i := 1) rfl)) (fun _ h9 => h9) xMf_13 dX7_firstWay_89 ?_
              by_cases g9 : moi_13 = 0
              · exact absurd (he.trans (if_pos g9)) hne
              replace he := he.trans (if_neg g9)
              refine lv_irem hx hb dX7_firstWay_92 g9 ?_
              refine lv_ishl hx hb dX7_firstWay_93 ?_
              refine lv_ior hx hb dX7_firstWay_94 ?_
              refine lv_istore (lv' := [(6, .int (v64_6 ||| ((1 : Int32) <<< ((v64_5 - v64_5 / moi_13 * moi_13) &&& 31)))), (7, .int v64_7), (5, .int v64_5), (4, .int v30_4), (3, .int v5_3), (0, .ref mo), (1, .int a1), (2, .int a2)]) hx hb dX7_firstWay_95 hl (by decide) rfl (fun ls hl => ?_)
              refine lv_iload hx hb dX7_firstWay_97 (lv_at hl 2 rfl) ?_
              refine lv_aload_n hx hb dX7_firstWay_99 rfl (lv_at hl 5 rfl) ?_
              refine va_get (D := D) (ci := 7) (v := .int moi_13) (C := RX7) (T := TX7) (N := 35) hx hb hts hi_X7_firstWay_7 hown hK hP 0 wM_0 rfl 13 (by decide) (hts (.fieldLink RX7 71 "BlindLanternsModel" "men" "I") (List.mem_of_getElem? (i := 1) rfl)) (fun _ h9 => h9) xMf_13 dX7_firstWay_100 ?_
              by_cases g10 : moi_13 = 0
              · exact absurd (he.trans (if_pos g10)) hne
              replace he := he.trans (if_neg g10)
              refine lv_idiv hx hb dX7_firstWay_103 g10 ?_
              refine lv_istore (lv' := [(5, .int (v64_5 / moi_13)), (6, .int (v64_6 ||| ((1 : Int32) <<< ((v64_5 - v64_5 / moi_13 * moi_13) &&& 31)))), (7, .int v64_7), (4, .int v30_4), (3, .int v5_3), (0, .ref mo), (1, .int a1), (2, .int a2)]) hx hb dX7_firstWay_104 hl (by decide) rfl (fun ls hl => ?_)
              refine lv_iinc (v := (v64_7 + (-1))) (lv' := [(7, .int (v64_7 + (-1))), (5, .int (v64_5 / moi_13)), (6, .int (v64_6 ||| ((1 : Int32) <<< ((v64_5 - v64_5 / moi_13 * moi_13) &&& 31)))), (4, .int v30_4), (3, .int v5_3), (0, .ref mo), (1, .int a1), (2, .int a2)]) hx hb dX7_firstWay_106 hl (k := 2) rfl rfl (by decide) rfl (fun ls hl => ?_)
              refine lv_goto (tgt := 64) hx hb dX7_firstWay_109 (by decide) ?_
              exact ih64 (v64_7 + (-1)) (v64_6 ||| ((1 : Int32) <<< ((v64_5 - v64_5 / moi_13 * moi_13) &&& 31))) (v64_5 / moi_13) (upd w64_mok_23 v64_7.toNatClampNeg (v64_5 - v64_5 / moi_13 * moi_13)) he _ _ _ hP hD hS (lv_sub hl [0, 2, 1, 3, 4, 5, 6, 7] rfl)
        exact L64 F (moi_13 - (1 : Int32)) (0 : Int32) v30_4 u46 he _ _ _ hP hD hS (lv_sub hl [0, 1, 2, 3, 4, 5, 6, 7] rfl)
  have R5_119 : ∀ (v5_4 : Int32) (v5_3 : Int32), fX7_firstWay F moi_13 moi_17 moi_18 moi_30 moi_31 mok_19 mok_22 mok_23 mok_33 a1 a2 = (fX7_firstWay_L30 moi_13 moi_17 moi_18 moi_30 moi_31 mok_19 mok_22 a1 a2 F v5_3 (fun (v30_4 : Int32) (w30_mok_23 : Nat → Int32) (w30_mok_33 : Nat → Int32) => some ((-4 : Int32), (w30_mok_23, w30_mok_33))) F (0 : Int32) mok_23 mok_33) → ∀ (H : Heap) (locs : List Loc) (ls : Array Slot), va_P D vwCl (wM cI mo mor moi_0 moi_2 moi_4 moi_8 moi_9 moi_11 moi_12 moi_13 moi_17 moi_18 moi_20 moi_21 moi_24 moi_26 moi_28 moi_30 moi_31 moi_32 mok_1 mok_3 mok_5 mok_6 mok_7 mok_10 mok_14 mok_15 mok_16 mok_19 mok_22 mok_23 mok_25 mok_27 mok_29 mok_33 mok_34) H → va_D A (wM cI mo mor moi_0 moi_2 moi_4 moi_8 moi_9 moi_11 moi_12 moi_13 moi_17 moi_18 moi_20 moi_21 moi_24 moi_26 moi_28 moi_30 moi_31 moi_32 mok_1 mok_3 mok_5 mok_6 mok_7 mok_10 mok_14 mok_15 mok_16 mok_19 mok_22 mok_23 mok_25 mok_27 mok_29 mok_33 mok_34) → va_S A s.heap H locs → lv_has ls 8 [(3, .int v5_3), (0, .ref mo), (1, .int a1), (2, .int a2)] → W p l e ({ frames := 3, cells := 0, slots := 0, locals := 69 } : Room) s m args below meth c H locs 0 0 Q (F0 m 27 ls []) := by
    intro v5_4 v5_3 he H locs ls hP hD hS hl
    refine lv_iconst (v := 0) hx hb dX7_firstWay_27 (by decide) ?_
    refine lv_istore (lv' := [(4, .int (0 : Int32)), (3, .int v5_3), (0, .ref mo), (1, .int a1), (2, .int a2)]) hx hb dX7_firstWay_28 hl (by decide) rfl (fun ls hl => ?_)
    exact L30_4 v5_3 F (0 : Int32) mok_23 mok_33 he _ _ _ hP hD hS (lv_sub hl [0, 1, 2, 3, 4] rfl)
  have L5_124 : ∀ (n5 : Nat) (v5_4 : Int32) (v5_3 : Int32), fX7_firstWay F moi_13 moi_17 moi_18 moi_30 moi_31 mok_19 mok_22 mok_23 mok_33 a1 a2 = fX7_firstWay_L5 moi_13 (fun (v5_4 : Int32) (v5_3 : Int32) => fX7_firstWay_L30 moi_13 moi_17 moi_18 moi_30 moi_31 mok_19 mok_22 a1 a2 F v5_3 (fun (v30_4 : Int32) (w30_mok_23 : Nat → Int32) (w30_mok_33 : Nat → Int32) => some ((-4 : Int32), (w30_mok_23, w30_mok_33))) F (0 : Int32) mok_23 mok_33) n5 v5_4 v5_3 → ∀ (H : Heap) (locs : List Loc) (ls : Array Slot), va_P D vwCl (wM cI mo mor moi_0 moi_2 moi_4 moi_8 moi_9 moi_11 moi_12 moi_13 moi_17 moi_18 moi_20 moi_21 moi_24 moi_26 moi_28 moi_30 moi_31 moi_32 mok_1 mok_3 mok_5 mok_6 mok_7 mok_10 mok_14 mok_15 mok_16 mok_19 mok_22 mok_23 mok_25 mok_27 mok_29 mok_33 mok_34) H → va_D A (wM cI mo mor moi_0 moi_2 moi_4 moi_8 moi_9 moi_11 moi_12 moi_13 moi_17 moi_18 moi_20 moi_21 moi_24 moi_26 moi_28 moi_30 moi_31 moi_32 mok_1 mok_3 mok_5 mok_6 mok_7 mok_10 mok_14 mok_15 mok_16 mok_19 mok_22 mok_23 mok_25 mok_27 mok_29 mok_33 mok_34) → va_S A s.heap H locs → lv_has ls 8 [(4, .int v5_4), (3, .int v5_3), (0, .ref mo), (1, .int a1), (2, .int a2)] → W p l e ({ frames := 3, cells := 0, slots := 0, locals := 69 } : Room) s m args below meth c H locs 0 0 Q (F0 m 5 ls []) := by
    intro n5
    induction n5 with
    | zero => intro v5_4 v5_3 he; exact absurd he hne
    | succ n5 ih5 =>
      intro v5_4 v5_3 he H locs ls hP hD hS hl
      replace he := he.trans (fX7_firstWay_L5.eq_2 _ _ _ _ _)
      refine lv_iload hx hb dX7_firstWay_5 (lv_at hl 0 rfl) ?_
      refine lv_aload_n hx hb dX7_firstWay_7 rfl (lv_at hl 2 rfl) ?_
      refine va_get (D := D) (ci := 7) (v := .int moi_13) (C := RX7) (T := TX7) (N := 35) hx hb hts hi_X7_firstWay_7 hown hK hP 0 wM_0 rfl 13 (by decide) (hts (.fieldLink RX7 71 "BlindLanternsModel" "men" "I") (List.mem_of_getElem? (i := 1) rfl)) (fun _ h9 => h9) xMf_13 dX7_firstWay_8 ?_
      refine lv_icmp_ge (tgt := 27) hx hb dX7_firstWay_11 (by decide) (fun c11 => ?_) (fun c11 => ?_)
      · replace he := he.trans (if_pos c11)
        exact R5_119 v5_4 v5_3 he _ _ _ hP hD hS (lv_sub hl [1, 2, 3, 4] rfl)
      · replace he := he.trans (if_neg c11)
        refine lv_iload_n hx hb dX7_firstWay_14 rfl (lv_at hl 1 rfl) ?_
        refine lv_aload_n hx hb dX7_firstWay_15 rfl (lv_at hl 2 rfl) ?_
        refine va_get (D := D) (ci := 7) (v := .int moi_13) (C := RX7) (T := TX7) (N := 35) hx hb hts hi_X7_firstWay_7 hown hK hP 0 wM_0 rfl 13 (by decide) (hts (.fieldLink RX7 71 "BlindLanternsModel" "men" "I") (List.mem_of_getElem? (i := 1) rfl)) (fun _ h9 => h9) xMf_13 dX7_firstWay_16 ?_
        refine lv_imul hx hb dX7_firstWay_19 ?_
        refine lv_istore_n (lv' := [(3, .int (v5_3 * moi_13)), (4, .int v5_4), (0, .ref mo), (1, .int a1), (2, .int a2)]) hx hb dX7_firstWay_20 rfl hl (by decide) rfl (fun ls hl => ?_)
        refine lv_iinc (v := (v5_4 + 1)) (lv' := [(4, .int (v5_4 + 1)), (3, .int (v5_3 * moi_13)), (0, .ref mo), (1, .int a1), (2, .int a2)]) hx hb dX7_firstWay_21 hl (k := 1) rfl rfl (by decide) rfl (fun ls hl => ?_)
        refine lv_goto (tgt := 5) hx hb dX7_firstWay_24 (by decide) ?_
        exact ih5 (v5_4 + 1) (v5_3 * moi_13) he _ _ _ hP hD hS (lv_sub hl [0, 1, 2, 3, 4] rfl)
  refine lv_iconst (v := 1) hx hb dX7_firstWay_0 (by decide) ?_
  refine lv_istore_n (lv' := [(3, .int (1 : Int32)), (0, .ref mo), (1, .int a1), (2, .int a2)]) hx hb dX7_firstWay_1 rfl hl (by decide) rfl (fun ls hl => ?_)
  refine lv_iconst (v := 0) hx hb dX7_firstWay_2 (by decide) ?_
  refine lv_istore (lv' := [(4, .int (0 : Int32)), (3, .int (1 : Int32)), (0, .ref mo), (1, .int a1), (2, .int a2)]) hx hb dX7_firstWay_3 hl (by decide) rfl (fun ls hl => ?_)
  exact L5_124 F (0 : Int32) (1 : Int32) he _ _ _ hP hD hS (lv_sub hl [0, 1, 2, 3, 4] rfl)

def fX7_keepLit_L66 (moi_13 : Int32) (mok_22 : Nat → Int32) (a3 : Int32) (k66 : Int32 → Int32 → Int32 → Int32 → Option (Int32 × (Nat → Int32) × (Nat → Int32))) : Nat → Int32 → Int32 → Int32 → Int32 → Option (Int32 × (Nat → Int32) × (Nat → Int32))
  | 0, _, _, _, _ => none
  | n66 + 1, v66_7, v66_6, v66_5, v66_4 => if v66_7 < 0 then (k66 v66_7 v66_6 v66_5 v66_4) else (if moi_13 = 0 then none else (if v66_7 < 0 ∨ 19 ≤ v66_7.toNatClampNeg then none else (if (v66_4 - v66_4 / moi_13 * moi_13) = (mok_22 v66_7.toNatClampNeg) then (if v66_7 = a3 then (if moi_13 = 0 then none else (if moi_13 = 0 then none else (fX7_keepLit_L66 moi_13 mok_22 a3 k66 n66 (v66_7 + (-1)) (v66_4 - v66_4 / moi_13 * moi_13) (v66_5 + (0 : Int32)) (v66_4 / moi_13)))) else (if moi_13 = 0 then none else (fX7_keepLit_L66 moi_13 mok_22 a3 k66 n66 (v66_7 + (-1)) v66_6 (v66_5 + (0 : Int32)) (v66_4 / moi_13)))) else (if v66_7 = a3 then (if moi_13 = 0 then none else (if moi_13 = 0 then none else (fX7_keepLit_L66 moi_13 mok_22 a3 k66 n66 (v66_7 + (-1)) (v66_4 - v66_4 / moi_13 * moi_13) (v66_5 + (1 : Int32)) (v66_4 / moi_13)))) else (if moi_13 = 0 then none else (fX7_keepLit_L66 moi_13 mok_22 a3 k66 n66 (v66_7 + (-1)) v66_6 (v66_5 + (1 : Int32)) (v66_4 / moi_13)))))))
def fX7_keepLit (F : Nat) (moi_13 : Int32) (moi_17 : Int32) (moi_18 : Int32) (moi_30 : Int32) (moi_31 : Int32) (mok_19 : Nat → Int32) (mok_22 : Nat → Int32) (mok_23 : Nat → Int32) (mok_33 : Nat → Int32) (a1 : Int32) (a2 : Int32) (a3 : Int32) : Option (Int32 × (Nat → Int32) × (Nat → Int32)) :=
  xbd (fX7_isSet moi_13 a1) (fun (r2 : Int32) => if r2 = 0 then (some ((-1 : Int32), (mok_23, mok_33))) else (xbd (fX7_in a2 (0 : Int32) (20 : Int32)) (fun (r12 : Int32) => if r12 = 0 then (some ((-1 : Int32), (mok_23, mok_33))) else (xbd (fX7_in a3 (-1 : Int32) (moi_13 - (1 : Int32))) (fun (r26 : Int32) => if r26 = 0 then (some ((-1 : Int32), (mok_23, mok_33))) else (xbd2 (fX7_firstWay F moi_13 moi_17 moi_18 moi_30 moi_31 mok_19 mok_22 mok_23 mok_33 a1 a2) (fun (r37 : Int32) (u37 : (Nat → Int32) × (Nat → Int32)) => if r37 = (-4 : Int32) then (some ((-4 : Int32), (u37.1, u37.2))) else (fX7_keepLit_L66 moi_13 mok_22 a3 (fun (v66_7 : Int32) (v66_6 : Int32) (v66_5 : Int32) (v66_4 : Int32) => if 0 ≤ a3 then (some (v66_6, (u37.1, u37.2))) else (some (v66_5, (u37.1, u37.2)))) F (moi_13 - (1 : Int32)) (0 : Int32) (0 : Int32) r37))))))))
theorem hi_X7_keepLit_7 : ∀ w ∈ wsX70, w ∈ wsX7_keepLit := fun _ h => (List.mem_cons_of_mem _ (List.mem_append_right _ h))
set_option maxHeartbeats 4000000 in
set_option maxRecDepth 100000 in
theorem c_X7_keepLit (l : Launch) (D : va_G) (cI cP : ClassId) (sz : Nat) (mo : Nat) (mor : Nat → Nat) (moi_0 : Int32) (moi_2 : Int32) (moi_4 : Int32) (moi_8 : Int32) (moi_9 : Int32) (moi_11 : Int32) (moi_12 : Int32) (moi_13 : Int32) (moi_17 : Int32) (moi_18 : Int32) (moi_20 : Int32) (moi_21 : Int32) (moi_24 : Int32) (moi_26 : Int32) (moi_28 : Int32) (moi_30 : Int32) (moi_31 : Int32) (moi_32 : Int32) (mok_1 : Nat → Int32) (mok_3 : Nat → Int32) (mok_5 : Nat → Int32) (mok_6 : Nat → Int32) (mok_7 : Nat → Int32) (mok_10 : Nat → Int32) (mok_14 : Nat → Int32) (mok_15 : Nat → Int32) (mok_16 : Nat → Int32) (mok_19 : Nat → Int32) (mok_22 : Nat → Int32) (mok_23 : Nat → Int32) (mok_25 : Nat → Int32) (mok_27 : Nat → Int32) (mok_29 : Nat → Int32) (mok_33 : Nat → Int32) (mok_34 : Nat → Int32) (F : Nat) (a1 : Int32) (a2 : Int32) (a3 : Int32) (hne : fX7_keepLit F moi_13 moi_17 moi_18 moi_30 moi_31 mok_19 mok_22 mok_23 mok_33 a1 a2 a3 ≠ none) : xMi l yX7_keepLit wsX7_keepLit ({ frames := 4, cells := 0, slots := 0, locals := 96 } : Room) D (xT cI cP) [.ref mo, .int a1, .int a2, .int a3] (wM cI mo mor moi_0 moi_2 moi_4 moi_8 moi_9 moi_11 moi_12 moi_13 moi_17 moi_18 moi_20 moi_21 moi_24 moi_26 moi_28 moi_30 moi_31 moi_32 mok_1 mok_3 mok_5 mok_6 mok_7 mok_10 mok_14 mok_15 mok_16 mok_19 mok_22 mok_23 mok_25 mok_27 mok_29 mok_33 mok_34) sz (fun r (u : ((Nat → Int32) × (Nat → Int32))) => fX7_keepLit F moi_13 moi_17 moi_18 moi_30 moi_31 mok_19 mok_22 mok_23 mok_33 a1 a2 a3 = some (r, u)) (fun u => wM cI mo mor moi_0 moi_2 moi_4 moi_8 moi_9 moi_11 moi_12 moi_13 moi_17 moi_18 moi_20 moi_21 moi_24 moi_26 moi_28 moi_30 moi_31 moi_32 mok_1 mok_3 mok_5 mok_6 mok_7 mok_10 mok_14 mok_15 mok_16 mok_19 mok_22 u.1 mok_25 mok_27 mok_29 u.2 mok_34) 0 0 := by
  refine xMi_of (cc := cX7_keepLit) (maxL := 8) (by decide +kernel) rfl (Nat.le_of_ble_eq_true rfl) ?_
  intro p e s m args below meth c A ls hx hb hml hown hts hname hN hK hA hP hD hS hl Q hret
  have he := fX7_keepLit.eq_1 F moi_13 moi_17 moi_18 moi_30 moi_31 mok_19 mok_22 mok_23 mok_33 a1 a2 a3
  have hl : lv_has ls 8 [(0, .ref mo), (1, .int a1), (2, .int a2), (3, .int a3)] := hl
  have R66_0 : ∀ (u37 : (Nat → Int32) × (Nat → Int32)) (v66_7 : Int32) (v66_6 : Int32) (v66_5 : Int32) (v66_4 : Int32), fX7_keepLit F moi_13 moi_17 moi_18 moi_30 moi_31 mok_19 mok_22 mok_23 mok_33 a1 a2 a3 = (if 0 ≤ a3 then (some (v66_6, (u37.1, u37.2))) else (some (v66_5, (u37.1, u37.2)))) → ∀ (H : Heap) (locs : List Loc) (ls : Array Slot), va_P D vwCl (wM cI mo mor moi_0 moi_2 moi_4 moi_8 moi_9 moi_11 moi_12 moi_13 moi_17 moi_18 moi_20 moi_21 moi_24 moi_26 moi_28 moi_30 moi_31 moi_32 mok_1 mok_3 mok_5 mok_6 mok_7 mok_10 mok_14 mok_15 mok_16 mok_19 mok_22 u37.1 mok_25 mok_27 mok_29 u37.2 mok_34) H → va_D A (wM cI mo mor moi_0 moi_2 moi_4 moi_8 moi_9 moi_11 moi_12 moi_13 moi_17 moi_18 moi_20 moi_21 moi_24 moi_26 moi_28 moi_30 moi_31 moi_32 mok_1 mok_3 mok_5 mok_6 mok_7 mok_10 mok_14 mok_15 mok_16 mok_19 mok_22 u37.1 mok_25 mok_27 mok_29 u37.2 mok_34) → va_S A s.heap H locs → lv_has ls 8 [(6, .int v66_6), (5, .int v66_5), (3, .int a3)] → W p l e ({ frames := 4, cells := 0, slots := 0, locals := 96 } : Room) s m args below meth c H locs 0 0 Q (F0 m 133 ls []) := by
    intro u37 v66_7 v66_6 v66_5 v66_4 he H locs ls hP hD hS hl
    refine lv_iload_n hx hb dX7_keepLit_133 rfl (lv_at hl 2 rfl) ?_
    refine lv_if_ge (tgt := 142) hx hb dX7_keepLit_134 (by decide) (fun c9 => ?_) (fun c9 => ?_)
    · replace he := he.trans (if_pos c9)
      refine lv_iload hx hb dX7_keepLit_142 (lv_at hl 0 rfl) ?_
      exact hret v66_6 (u37.1, u37.2) _ _ _ _ dX7_keepLit_144 he hP hD hS
    · replace he := he.trans (if_neg c9)
      refine lv_iload hx hb dX7_keepLit_137 (lv_at hl 1 rfl) ?_
      refine lv_goto (tgt := 144) hx hb dX7_keepLit_139 (by decide) ?_
      exact hret v66_5 (u37.1, u37.2) _ _ _ _ dX7_keepLit_144 he hP hD hS
  have L66_11 : ∀ (u37 : (Nat → Int32) × (Nat → Int32)) (n66 : Nat) (v66_7 : Int32) (v66_6 : Int32) (v66_5 : Int32) (v66_4 : Int32), fX7_keepLit F moi_13 moi_17 moi_18 moi_30 moi_31 mok_19 mok_22 mok_23 mok_33 a1 a2 a3 = fX7_keepLit_L66 moi_13 mok_22 a3 (fun (v66_7 : Int32) (v66_6 : Int32) (v66_5 : Int32) (v66_4 : Int32) => if 0 ≤ a3 then (some (v66_6, (u37.1, u37.2))) else (some (v66_5, (u37.1, u37.2)))) n66 v66_7 v66_6 v66_5 v66_4 → ∀ (H : Heap) (locs : List Loc) (ls : Array Slot), va_P D vwCl (wM cI mo mor moi_0 moi_2 moi_4 moi_8 moi_9 moi_11 moi_12 moi_13 moi_17 moi_18 moi_20 moi_21 moi_24 moi_26 moi_28 moi_30 moi_31 moi_32 mok_1 mok_3 mok_5 mok_6 mok_7 mok_10 mok_14 mok_15 mok_16 mok_19 mok_22 u37.1 mok_25 mok_27 mok_29 u37.2 mok_34) H → va_D A (wM cI mo mor moi_0 moi_2 moi_4 moi_8 moi_9 moi_11 moi_12 moi_13 moi_17 moi_18 moi_20 moi_21 moi_24 moi_26 moi_28 moi_30 moi_31 moi_32 mok_1 mok_3 mok_5 mok_6 mok_7 mok_10 mok_14 mok_15 mok_16 mok_19 mok_22 u37.1 mok_25 mok_27 mok_29 u37.2 mok_34) → va_S A s.heap H locs → lv_has ls 8 [(7, .int v66_7), (6, .int v66_6), (5, .int v66_5), (4, .int v66_4), (0, .ref mo), (3, .int a3)] → W p l e ({ frames := 4, cells := 0, slots := 0, locals := 96 } : Room) s m args below meth c H locs 0 0 Q (F0 m 66 ls []) := by
    intro u37 n66
    induction n66 with
    | zero => intro v66_7 v66_6 v66_5 v66_4 he; exact absurd he hne
    | succ n66 ih66 =>
      intro v66_7 v66_6 v66_5 v66_4 he H locs ls hP hD hS hl
      replace he := he.trans (fX7_keepLit_L66.eq_2 _ _ _ _ _ _ _ _ _)
      refine lv_iload hx hb dX7_keepLit_66 (lv_at hl 0 rfl) ?_
      refine lv_if_lt (tgt := 133) hx hb dX7_keepLit_68 (by decide) (fun c10 => ?_) (fun c10 => ?_)
      · replace he := he.trans (if_pos c10)
        exact R66_0 u37 v66_7 v66_6 v66_5 v66_4 he _ _ _ hP hD hS (lv_sub hl [1, 2, 5] rfl)
      · replace he := he.trans (if_neg c10)
        refine lv_iload hx hb dX7_keepLit_71 (lv_at hl 2 rfl) ?_
        refine lv_iload hx hb dX7_keepLit_73 (lv_at hl 3 rfl) ?_
        refine lv_aload_n hx hb dX7_keepLit_75 rfl (lv_at hl 4 rfl) ?_
        refine va_get (D := D) (ci := 7) (v := .int moi_13) (C := RX7) (T := TX7) (N := 35) hx hb hts hi_X7_keepLit_7 hown hK hP 0 wM_0 rfl 13 (by decide) (hts (.fieldLink RX7 71 "BlindLanternsModel" "men" "I") (List.mem_of_getElem? (i := 1) rfl)) (fun _ h9 => h9) xMf_13 dX7_keepLit_76 ?_
        by_cases g11 : moi_13 = 0
        · exact absurd (he.trans (if_pos g11)) hne
        replace he := he.trans (if_neg g11)
        refine lv_irem hx hb dX7_keepLit_79 g11 ?_
        refine lv_aload_n hx hb dX7_keepLit_80 rfl (lv_at hl 4 rfl) ?_
        refine va_get (D := D) (ci := 7) (v := .ref (mor 22)) (C := RX7) (T := TX7) (N := 35) hx hb hts hi_X7_keepLit_7 hown hK hP 0 wM_0 rfl 22 (by decide) (hts (.fieldLink RX7 40 "BlindLanternsModel" "now" "[I") (List.mem_of_getElem? (i := 2) rfl)) (fun _ h9 => h9) xMf_22 dX7_keepLit_81 ?_
        refine lv_iload hx hb dX7_keepLit_84 (lv_at hl 0 rfl) ?_
        by_cases g12 : v66_7 < 0 ∨ 19 ≤ v66_7.toNatClampNeg
        · exact absurd (he.trans (if_pos g12)) hne
        replace he := he.trans (if_neg g12)
        refine va_iald hx hb hK hP 11 0 wM_a22 rfl g12 dX7_keepLit_86 ?_
        refine lv_icmp_ne (tgt := 94) hx hb dX7_keepLit_87 (by decide) (fun c13 => ?_) (fun c13 => ?_)
        · replace he := he.trans (if_neg c13)
          refine lv_iconst (v := 1) hx hb dX7_keepLit_94 (by decide) ?_
          refine lv_iadd hx hb dX7_keepLit_95 ?_
          refine lv_istore (lv' := [(5, .int (v66_5 + (1 : Int32))), (7, .int v66_7), (6, .int v66_6), (4, .int v66_4), (0, .ref mo), (3, .int a3)]) hx hb dX7_keepLit_96 hl (by decide) rfl (fun ls hl => ?_)
          refine lv_iload hx hb dX7_keepLit_98 (lv_at hl 1 rfl) ?_
          refine lv_iload_n hx hb dX7_keepLit_100 rfl (lv_at hl 5 rfl) ?_
          refine lv_icmp_ne (tgt := 114) hx hb dX7_keepLit_101 (by decide) (fun c14 => ?_) (fun c14 => ?_)
          · replace he := he.trans (if_neg c14)
            refine lv_iload hx hb dX7_keepLit_114 (lv_at hl 2 rfl) ?_
            refine lv_istore (lv' := [(6, .int v66_6), (5, .int (v66_5 + (1 : Int32))), (7, .int v66_7), (4, .int v66_4), (0, .ref mo), (3, .int a3)]) hx hb dX7_keepLit_116 hl (by decide) rfl (fun ls hl => ?_)
            refine lv_iload hx hb dX7_keepLit_118 (lv_at hl 3 rfl) ?_
            refine lv_aload_n hx hb dX7_keepLit_120 rfl (lv_at hl 4 rfl) ?_
            refine va_get (D := D) (ci := 7) (v := .int moi_13) (C := RX7) (T := TX7) (N := 35) hx hb hts hi_X7_keepLit_7 hown hK hP 0 wM_0 rfl 13 (by decide) (hts (.fieldLink RX7 71 "BlindLanternsModel" "men" "I") (List.mem_of_getElem? (i := 1) rfl)) (fun _ h9 => h9) xMf_13 dX7_keepLit_121 ?_
            by_cases g15 : moi_13 = 0
            · exact absurd (he.trans (if_pos g15)) hne
            replace he := he.trans (if_neg g15)
            refine lv_idiv hx hb dX7_keepLit_124 g15 ?_
            refine lv_istore (lv' := [(4, .int (v66_4 / moi_13)), (6, .int v66_6), (5, .int (v66_5 + (1 : Int32))), (7, .int v66_7), (0, .ref mo), (3, .int a3)]) hx hb dX7_keepLit_125 hl (by decide) rfl (fun ls hl => ?_)
            refine lv_iinc (v := (v66_7 + (-1))) (lv' := [(7, .int (v66_7 + (-1))), (4, .int (v66_4 / moi_13)), (6, .int v66_6), (5, .int (v66_5 + (1 : Int32))), (0, .ref mo), (3, .int a3)]) hx hb dX7_keepLit_127 hl (k := 3) rfl rfl (by decide) rfl (fun ls hl => ?_)
            refine lv_goto (tgt := 66) hx hb dX7_keepLit_130 (by decide) ?_
            exact ih66 (v66_7 + (-1)) v66_6 (v66_5 + (1 : Int32)) (v66_4 / moi_13) he _ _ _ hP hD hS (lv_sub hl [0, 2, 3, 1, 4, 5] rfl)
          · replace he := he.trans (if_pos c14)
            refine lv_iload hx hb dX7_keepLit_104 (lv_at hl 3 rfl) ?_
            refine lv_aload_n hx hb dX7_keepLit_106 rfl (lv_at hl 4 rfl) ?_
            refine va_get (D := D) (ci := 7) (v := .int moi_13) (C := RX7) (T := TX7) (N := 35) hx hb hts hi_X7_keepLit_7 hown hK hP 0 wM_0 rfl 13 (by decide) (hts (.fieldLink RX7 71 "BlindLanternsModel" "men" "I") (List.mem_of_getElem? (i := 1) rfl)) (fun _ h9 => h9) xMf_13 dX7_keepLit_107 ?_
            by_cases g16 : moi_13 = 0
            · exact absurd (he.trans (if_pos g16)) hne
            replace he := he.trans (if_neg g16)
            refine lv_irem hx hb dX7_keepLit_110 g16 ?_
            refine lv_goto (tgt := 116) hx hb dX7_keepLit_111 (by decide) ?_
            refine lv_istore (lv' := [(6, .int (v66_4 - v66_4 / moi_13 * moi_13)), (5, .int (v66_5 + (1 : Int32))), (7, .int v66_7), (4, .int v66_4), (0, .ref mo), (3, .int a3)]) hx hb dX7_keepLit_116 hl (by decide) rfl (fun ls hl => ?_)
            refine lv_iload hx hb dX7_keepLit_118 (lv_at hl 3 rfl) ?_
            refine lv_aload_n hx hb dX7_keepLit_120 rfl (lv_at hl 4 rfl) ?_
            refine va_get (D := D) (ci := 7) (v := .int moi_13) (C := RX7) (T := TX7) (N := 35) hx hb hts hi_X7_keepLit_7 hown hK hP 0 wM_0 rfl 13 (by decide) (hts (.fieldLink RX7 71 "BlindLanternsModel" "men" "I") (List.mem_of_getElem? (i := 1) rfl)) (fun _ h9 => h9) xMf_13 dX7_keepLit_121 ?_
            by_cases g17 : moi_13 = 0
            · exact absurd (he.trans (if_pos g17)) hne
            replace he := he.trans (if_neg g17)
            refine lv_idiv hx hb dX7_keepLit_124 g17 ?_
            refine lv_istore (lv' := [(4, .int (v66_4 / moi_13)), (6, .int (v66_4 - v66_4 / moi_13 * moi_13)), (5, .int (v66_5 + (1 : Int32))), (7, .int v66_7), (0, .ref mo), (3, .int a3)]) hx hb dX7_keepLit_125 hl (by decide) rfl (fun ls hl => ?_)
            refine lv_iinc (v := (v66_7 + (-1))) (lv' := [(7, .int (v66_7 + (-1))), (4, .int (v66_4 / moi_13)), (6, .int (v66_4 - v66_4 / moi_13 * moi_13)), (5, .int (v66_5 + (1 : Int32))), (0, .ref mo), (3, .int a3)]) hx hb dX7_keepLit_127 hl (k := 3) rfl rfl (by decide) rfl (fun ls hl => ?_)
            refine lv_goto (tgt := 66) hx hb dX7_keepLit_130 (by decide) ?_
            exact ih66 (v66_7 + (-1)) (v66_4 - v66_4 / moi_13 * moi_13) (v66_5 + (1 : Int32)) (v66_4 / moi_13) he _ _ _ hP hD hS (lv_sub hl [0, 2, 3, 1, 4, 5] rfl)
        · replace he := he.trans (if_pos c13)
          refine lv_iconst (v := 0) hx hb dX7_keepLit_90 (by decide) ?_
          refine lv_goto (tgt := 95) hx hb dX7_keepLit_91 (by decide) ?_
          refine lv_iadd hx hb dX7_keepLit_95 ?_
          refine lv_istore (lv' := [(5, .int (v66_5 + (0 : Int32))), (7, .int v66_7), (6, .int v66_6), (4, .int v66_4), (0, .ref mo), (3, .int a3)]) hx hb dX7_keepLit_96 hl (by decide) rfl (fun ls hl => ?_)
          refine lv_iload hx hb dX7_keepLit_98 (lv_at hl 1 rfl) ?_
          refine lv_iload_n hx hb dX7_keepLit_100 rfl (lv_at hl 5 rfl) ?_
          refine lv_icmp_ne (tgt := 114) hx hb dX7_keepLit_101 (by decide) (fun c18 => ?_) (fun c18 => ?_)
          · replace he := he.trans (if_neg c18)
            refine lv_iload hx hb dX7_keepLit_114 (lv_at hl 2 rfl) ?_
            refine lv_istore (lv' := [(6, .int v66_6), (5, .int (v66_5 + (0 : Int32))), (7, .int v66_7), (4, .int v66_4), (0, .ref mo), (3, .int a3)]) hx hb dX7_keepLit_116 hl (by decide) rfl (fun ls hl => ?_)
            refine lv_iload hx hb dX7_keepLit_118 (lv_at hl 3 rfl) ?_
            refine lv_aload_n hx hb dX7_keepLit_120 rfl (lv_at hl 4 rfl) ?_
            refine va_get (D := D) (ci := 7) (v := .int moi_13) (C := RX7) (T := TX7) (N := 35) hx hb hts hi_X7_keepLit_7 hown hK hP 0 wM_0 rfl 13 (by decide) (hts (.fieldLink RX7 71 "BlindLanternsModel" "men" "I") (List.mem_of_getElem? (i := 1) rfl)) (fun _ h9 => h9) xMf_13 dX7_keepLit_121 ?_
            by_cases g19 : moi_13 = 0
            · exact absurd (he.trans (if_pos g19)) hne
            replace he := he.trans (if_neg g19)
            refine lv_idiv hx hb dX7_keepLit_124 g19 ?_
            refine lv_istore (lv' := [(4, .int (v66_4 / moi_13)), (6, .int v66_6), (5, .int (v66_5 + (0 : Int32))), (7, .int v66_7), (0, .ref mo), (3, .int a3)]) hx hb dX7_keepLit_125 hl (by decide) rfl (fun ls hl => ?_)
            refine lv_iinc (v := (v66_7 + (-1))) (lv' := [(7, .int (v66_7 + (-1))), (4, .int (v66_4 / moi_13)), (6, .int v66_6), (5, .int (v66_5 + (0 : Int32))), (0, .ref mo), (3, .int a3)]) hx hb dX7_keepLit_127 hl (k := 3) rfl rfl (by decide) rfl (fun ls hl => ?_)
            refine lv_goto (tgt := 66) hx hb dX7_keepLit_130 (by decide) ?_
            exact ih66 (v66_7 + (-1)) v66_6 (v66_5 + (0 : Int32)) (v66_4 / moi_13) he _ _ _ hP hD hS (lv_sub hl [0, 2, 3, 1, 4, 5] rfl)
          · replace he := he.trans (if_pos c18)
            refine lv_iload hx hb dX7_keepLit_104 (lv_at hl 3 rfl) ?_
            refine lv_aload_n hx hb dX7_keepLit_106 rfl (lv_at hl 4 rfl) ?_
            refine va_get (D := D) (ci := 7) (v := .int moi_13) (C := RX7) (T := TX7) (N := 35) hx hb hts hi_X7_keepLit_7 hown hK hP 0 wM_0 rfl 13 (by decide) (hts (.fieldLink RX7 71 "BlindLanternsModel" "men" "I") (List.mem_of_getElem? (i := 1) rfl)) (fun _ h9 => h9) xMf_13 dX7_keepLit_107 ?_
            by_cases g20 : moi_13 = 0
            · exact absurd (he.trans (if_pos g20)) hne
            replace he := he.trans (if_neg g20)
            refine lv_irem hx hb dX7_keepLit_110 g20 ?_
            refine lv_goto (tgt := 116) hx hb dX7_keepLit_111 (by decide) ?_
            refine lv_istore (lv' := [(6, .int (v66_4 - v66_4 / moi_13 * moi_13)), (5, .int (v66_5 + (0 : Int32))), (7, .int v66_7), (4, .int v66_4), (0, .ref mo), (3, .int a3)]) hx hb dX7_keepLit_116 hl (by decide) rfl (fun ls hl => ?_)
            refine lv_iload hx hb dX7_keepLit_118 (lv_at hl 3 rfl) ?_
            refine lv_aload_n hx hb dX7_keepLit_120 rfl (lv_at hl 4 rfl) ?_
            refine va_get (D := D) (ci := 7) (v := .int moi_13) (C := RX7) (T := TX7) (N := 35) hx hb hts hi_X7_keepLit_7 hown hK hP 0 wM_0 rfl 13 (by decide) (hts (.fieldLink RX7 71 "BlindLanternsModel" "men" "I") (List.mem_of_getElem? (i := 1) rfl)) (fun _ h9 => h9) xMf_13 dX7_keepLit_121 ?_
            by_cases g21 : moi_13 = 0
            · exact absurd (he.trans (if_pos g21)) hne
            replace he := he.trans (if_neg g21)
            refine lv_idiv hx hb dX7_keepLit_124 g21 ?_
            refine lv_istore (lv' := [(4, .int (v66_4 / moi_13)), (6, .int (v66_4 - v66_4 / moi_13 * moi_13)), (5, .int (v66_5 + (0 : Int32))), (7, .int v66_7), (0, .ref mo), (3, .int a3)]) hx hb dX7_keepLit_125 hl (by decide) rfl (fun ls hl => ?_)
            refine lv_iinc (v := (v66_7 + (-1))) (lv' := [(7, .int (v66_7 + (-1))), (4, .int (v66_4 / moi_13)), (6, .int (v66_4 - v66_4 / moi_13 * moi_13)), (5, .int (v66_5 + (0 : Int32))), (0, .ref mo), (3, .int a3)]) hx hb dX7_keepLit_127 hl (k := 3) rfl rfl (by decide) rfl (fun ls hl => ?_)
            refine lv_goto (tgt := 66) hx hb dX7_keepLit_130 (by decide) ?_
            exact ih66 (v66_7 + (-1)) (v66_4 - v66_4 / moi_13 * moi_13) (v66_5 + (0 : Int32)) (v66_4 / moi_13) he _ _ _ hP hD hS (lv_sub hl [0, 2, 3, 1, 4, 5] rfl)
  refine lv_aload_n hx hb dX7_keepLit_0 rfl (lv_at hl 0 rfl) ?_
  refine lv_iload_n hx hb dX7_keepLit_1 rfl (lv_at hl 1 rfl) ?_
  have n1_ : fX7_isSet moi_13 a1 ≠ none := fun z => hne (he.trans (xbd_none z))
  refine xciW (va_runV (As := [.int a1]) (rest := []) ⟨hx, hb, hml, hown, hts⟩ (c_X7_isSet l D cI cP s.heap.size mo mor moi_0 moi_2 moi_4 moi_8 moi_9 moi_11 moi_12 moi_13 moi_17 moi_18 moi_20 moi_21 moi_24 moi_26 moi_28 moi_30 moi_31 moi_32 mok_1 mok_3 mok_5 mok_6 mok_7 mok_10 mok_14 mok_15 mok_16 mok_19 mok_22 mok_23 mok_25 mok_27 mok_29 mok_33 mok_34 a1 n1_) (cwV 1 hts gX7_keepLit_X7_isSet rfl rfl rfl (by decide +kernel) ⟨Nat.le_of_ble_eq_true rfl, Nat.le_of_ble_eq_true rfl⟩) (xPVW hN hK hP hD (ci := 7) (j := 0) rfl wM_0) rfl rfl hl.1 rfl (lv_room (Nat.le_of_ble_eq_true rfl)) dX7_keepLit_2 ⟨Nat.le_of_ble_eq_true rfl, Nat.le_of_ble_eq_true rfl⟩) hD hS hA (fun r2 u2 H locs hw hP hD hS => ?_)
  have hP : va_P D vwCl (wM cI mo mor moi_0 moi_2 moi_4 moi_8 moi_9 moi_11 moi_12 moi_13 moi_17 moi_18 moi_20 moi_21 moi_24 moi_26 moi_28 moi_30 moi_31 moi_32 mok_1 mok_3 mok_5 mok_6 mok_7 mok_10 mok_14 mok_15 mok_16 mok_19 mok_22 mok_23 mok_25 mok_27 mok_29 mok_33 mok_34) H := hP
  have hD : va_D A (wM cI mo mor moi_0 moi_2 moi_4 moi_8 moi_9 moi_11 moi_12 moi_13 moi_17 moi_18 moi_20 moi_21 moi_24 moi_26 moi_28 moi_30 moi_31 moi_32 mok_1 mok_3 mok_5 mok_6 mok_7 mok_10 mok_14 mok_15 mok_16 mok_19 mok_22 mok_23 mok_25 mok_27 mok_29 mok_33 mok_34) := hD
  replace he := he.trans (xbd_some hw)
  refine lv_if_eq (tgt := 32) hx hb dX7_keepLit_5 (by decide) (fun c2 => ?_) (fun c2 => ?_)
  · replace he := he.trans (if_pos c2)
    refine lv_iconst (v := -1) hx hb dX7_keepLit_32 (by decide) ?_
    exact hret (-1 : Int32) (mok_23, mok_33) _ _ _ _ dX7_keepLit_33 he hP hD hS
  · replace he := he.trans (if_neg c2)
    refine lv_iload_n hx hb dX7_keepLit_8 rfl (lv_at hl 2 rfl) ?_
    refine lv_iconst (v := 0) hx hb dX7_keepLit_9 (by decide) ?_
    refine lv_bipush (v := 20) hx hb dX7_keepLit_10 (by decide) ?_
    have n3_ : fX7_in a2 (0 : Int32) (20 : Int32) ≠ none := fun z => hne (he.trans (xbd_none z))
    refine xci0 (va_runS (As := [.int a2, .int (0 : Int32), .int (20 : Int32)]) (rest := []) ⟨hx, hb, hml, hown, hts⟩ (c_X7_in l D cI cP H.size  a2 (0 : Int32) (20 : Int32) n3_) (va_cwS 3 hts gX7_keepLit_X7_in rfl rfl rfl (by decide +kernel) ⟨Nat.le_of_ble_eq_true rfl, Nat.le_of_ble_eq_true rfl⟩) (xPS0 hN hK) rfl rfl hl.1 rfl (lv_room (Nat.le_of_ble_eq_true rfl)) dX7_keepLit_12 ⟨Nat.le_of_ble_eq_true rfl, Nat.le_of_ble_eq_true rfl⟩) hP hD hS hA (fun r12 u12 H locs hw hP hD hS => ?_)
    replace he := he.trans (xbd_some hw)
    refine lv_if_eq (tgt := 32) hx hb dX7_keepLit_15 (by decide) (fun c4 => ?_) (fun c4 => ?_)
    · replace he := he.trans (if_pos c4)
      refine lv_iconst (v := -1) hx hb dX7_keepLit_32 (by decide) ?_
      exact hret (-1 : Int32) (mok_23, mok_33) _ _ _ _ dX7_keepLit_33 he hP hD hS
    · replace he := he.trans (if_neg c4)
      refine lv_iload_n hx hb dX7_keepLit_18 rfl (lv_at hl 3 rfl) ?_
      refine lv_iconst (v := -1) hx hb dX7_keepLit_19 (by decide) ?_
      refine lv_aload_n hx hb dX7_keepLit_20 rfl (lv_at hl 0 rfl) ?_
      refine va_get (D := D) (ci := 7) (v := .int moi_13) (C := RX7) (T := TX7) (N := 35) hx hb hts hi_X7_keepLit_7 hown hK hP 0 wM_0 rfl 13 (by decide) (hts (.fieldLink RX7 71 "BlindLanternsModel" "men" "I") (List.mem_of_getElem? (i := 1) rfl)) (fun _ h9 => h9) xMf_13 dX7_keepLit_21 ?_
      refine lv_iconst (v := 1) hx hb dX7_keepLit_24 (by decide) ?_
      refine lv_isub hx hb dX7_keepLit_25 ?_
      have n5_ : fX7_in a3 (-1 : Int32) (moi_13 - (1 : Int32)) ≠ none := fun z => hne (he.trans (xbd_none z))
      refine xci0 (va_runS (As := [.int a3, .int (-1 : Int32), .int (moi_13 - (1 : Int32))]) (rest := []) ⟨hx, hb, hml, hown, hts⟩ (c_X7_in l D cI cP H.size  a3 (-1 : Int32) (moi_13 - (1 : Int32)) n5_) (va_cwS 3 hts gX7_keepLit_X7_in rfl rfl rfl (by decide +kernel) ⟨Nat.le_of_ble_eq_true rfl, Nat.le_of_ble_eq_true rfl⟩) (xPS0 hN hK) rfl rfl hl.1 rfl (lv_room (Nat.le_of_ble_eq_true rfl)) dX7_keepLit_26 ⟨Nat.le_of_ble_eq_true rfl, Nat.le_of_ble_eq_true rfl⟩) hP hD hS hA (fun r26 u26 H locs hw hP hD hS => ?_)
      replace he := he.trans (xbd_some hw)
      refine lv_if_ne (tgt := 34) hx hb dX7_keepLit_29 (by decide) (fun c6 => ?_) (fun c6 => ?_)
      · replace he := he.trans (if_neg c6)
        refine lv_aload_n hx hb dX7_keepLit_34 rfl (lv_at hl 0 rfl) ?_
        refine lv_iload_n hx hb dX7_keepLit_35 rfl (lv_at hl 1 rfl) ?_
        refine lv_iload_n hx hb dX7_keepLit_36 rfl (lv_at hl 2 rfl) ?_
        have n7_ : fX7_firstWay F moi_13 moi_17 moi_18 moi_30 moi_31 mok_19 mok_22 mok_23 mok_33 a1 a2 ≠ none := fun z => hne (he.trans (xbd2_none z))
        refine xciW (va_runV (As := [.int a1, .int a2]) (rest := []) ⟨hx, hb, hml, hown, hts⟩ (c_X7_firstWay l D cI cP H.size mo mor moi_0 moi_2 moi_4 moi_8 moi_9 moi_11 moi_12 moi_13 moi_17 moi_18 moi_20 moi_21 moi_24 moi_26 moi_28 moi_30 moi_31 moi_32 mok_1 mok_3 mok_5 mok_6 mok_7 mok_10 mok_14 mok_15 mok_16 mok_19 mok_22 mok_23 mok_25 mok_27 mok_29 mok_33 mok_34 F a1 a2 n7_) (cwV 2 hts gX7_keepLit_X7_firstWay rfl rfl rfl (by decide +kernel) ⟨Nat.le_of_ble_eq_true rfl, Nat.le_of_ble_eq_true rfl⟩) (xPVW hN hK hP hD (ci := 7) (j := 0) rfl wM_0) rfl rfl hl.1 rfl (lv_room (Nat.le_of_ble_eq_true rfl)) dX7_keepLit_37 ⟨Nat.le_of_ble_eq_true rfl, Nat.le_of_ble_eq_true rfl⟩) hD hS hA (fun r37 u37 H locs hw hP hD hS => ?_)
        have hP : va_P D vwCl (wM cI mo mor moi_0 moi_2 moi_4 moi_8 moi_9 moi_11 moi_12 moi_13 moi_17 moi_18 moi_20 moi_21 moi_24 moi_26 moi_28 moi_30 moi_31 moi_32 mok_1 mok_3 mok_5 mok_6 mok_7 mok_10 mok_14 mok_15 mok_16 mok_19 mok_22 u37.1 mok_25 mok_27 mok_29 u37.2 mok_34) H := hP
        have hD : va_D A (wM cI mo mor moi_0 moi_2 moi_4 moi_8 moi_9 moi_11 moi_12 moi_13 moi_17 moi_18 moi_20 moi_21 moi_24 moi_26 moi_28 moi_30 moi_31 moi_32 mok_1 mok_3 mok_5 mok_6 mok_7 mok_10 mok_14 mok_15 mok_16 mok_19 mok_22 u37.1 mok_25 mok_27 mok_29 u37.2 mok_34) := hD
        replace he := he.trans (xbd2_some hw)
        refine lv_istore (lv' := [(4, .int r37), (0, .ref mo), (1, .int a1), (2, .int a2), (3, .int a3)]) hx hb dX7_keepLit_40 hl (by decide) rfl (fun ls hl => ?_)
        refine lv_iload hx hb dX7_keepLit_42 (lv_at hl 0 rfl) ?_
        refine lv_bipush (v := -4) hx hb dX7_keepLit_44 (by decide) ?_
        refine lv_icmp_ne (tgt := 52) hx hb dX7_keepLit_46 (by decide) (fun c8 => ?_) (fun c8 => ?_)
        · replace he := he.trans (if_neg c8)
          refine lv_iconst (v := 0) hx hb dX7_keepLit_52 (by decide) ?_
          refine lv_istore (lv' := [(5, .int (0 : Int32)), (4, .int r37), (0, .ref mo), (1, .int a1), (2, .int a2), (3, .int a3)]) hx hb dX7_keepLit_53 hl (by decide) rfl (fun ls hl => ?_)
          refine lv_iconst (v := 0) hx hb dX7_keepLit_55 (by decide) ?_
          refine lv_istore (lv' := [(6, .int (0 : Int32)), (5, .int (0 : Int32)), (4, .int r37), (0, .ref mo), (1, .int a1), (2, .int a2), (3, .int a3)]) hx hb dX7_keepLit_56 hl (by decide) rfl (fun ls hl => ?_)
          refine lv_aload_n hx hb dX7_keepLit_58 rfl (lv_at hl 3 rfl) ?_
          refine va_get (D := D) (ci := 7) (v := .int moi_13) (C := RX7) (T := TX7) (N := 35) hx hb hts hi_X7_keepLit_7 hown hK hP 0 wM_0 rfl 13 (by decide) (hts (.fieldLink RX7 71 "BlindLanternsModel" "men" "I") (List.mem_of_getElem? (i := 1) rfl)) (fun _ h9 => h9) xMf_13 dX7_keepLit_59 ?_
          refine lv_iconst (v := 1) hx hb dX7_keepLit_62 (by decide) ?_
          refine lv_isub hx hb dX7_keepLit_63 ?_
          refine lv_istore (lv' := [(7, .int (moi_13 - (1 : Int32))), (6, .int (0 : Int32)), (5, .int (0 : Int32)), (4, .int r37), (0, .ref mo), (1, .int a1), (2, .int a2), (3, .int a3)]) hx hb dX7_keepLit_64 hl (by decide) rfl (fun ls hl => ?_)
          exact L66_11 u37 F (moi_13 - (1 : Int32)) (0 : Int32) (0 : Int32) r37 he _ _ _ hP hD hS (lv_sub hl [0, 1, 2, 3, 4, 7] rfl)
        · replace he := he.trans (if_pos c8)
          refine lv_bipush (v := -4) hx hb dX7_keepLit_49 (by decide) ?_
          exact hret (-4 : Int32) (u37.1, u37.2) _ _ _ _ dX7_keepLit_51 he hP hD hS
      · replace he := he.trans (if_pos c6)
        refine lv_iconst (v := -1) hx hb dX7_keepLit_32 (by decide) ?_
        exact hret (-1 : Int32) (mok_23, mok_33) _ _ _ _ dX7_keepLit_33 he hP hD hS

def fX7_oil_L169 (moi_13 : Int32) (mok_22 : Nat → Int32) (w87_mok_34 : Nat → Int32) (k169 : Int32 → Int32 → Option (Int32 × (Nat → Int32) × (Nat → Int32) × (Nat → Int32))) : Nat → Int32 → Int32 → Option (Int32 × (Nat → Int32) × (Nat → Int32) × (Nat → Int32))
  | 0, _, _ => none
  | n169 + 1, v169_4, v169_3 => if moi_13 ≤ v169_4 then (k169 v169_4 v169_3) else (if v169_4 < 0 ∨ 6 ≤ v169_4.toNatClampNeg then none else (if ((6 : Int32) + v169_4) < 0 ∨ 19 ≤ ((6 : Int32) + v169_4).toNatClampNeg then none else (if (w87_mok_34 v169_4.toNatClampNeg) ≤ (mok_22 ((6 : Int32) + v169_4).toNatClampNeg) then (fX7_oil_L169 moi_13 mok_22 w87_mok_34 k169 n169 (v169_4 + 1) (v169_3 + (0 : Int32))) else (if v169_4 < 0 ∨ 6 ≤ v169_4.toNatClampNeg then none else (if ((6 : Int32) + v169_4) < 0 ∨ 19 ≤ ((6 : Int32) + v169_4).toNatClampNeg then none else (fX7_oil_L169 moi_13 mok_22 w87_mok_34 k169 n169 (v169_4 + 1) (v169_3 + ((w87_mok_34 v169_4.toNatClampNeg) - (mok_22 ((6 : Int32) + v169_4).toNatClampNeg)))))))))
def fX7_oil_L95 (moi_13 : Int32) (a1 : Int32) (v87_3 : Int32) (w87_mok_23 : Nat → Int32) (w87_mok_33 : Nat → Int32) (k95 : Int32 → (Nat → Int32) → Option (Int32 × (Nat → Int32) × (Nat → Int32) × (Nat → Int32))) : Nat → Int32 → (Nat → Int32) → Option (Int32 × (Nat → Int32) × (Nat → Int32) × (Nat → Int32))
  | 0, _, _ => none
  | n95 + 1, v95_4, w95_mok_34 => if moi_13 ≤ v95_4 then (k95 v95_4 w95_mok_34) else (xbd (fX7_has a1 v95_4) (fun (r107 : Int32) => if r107 = 0 then (fX7_oil_L95 moi_13 a1 v87_3 w87_mok_23 w87_mok_33 k95 n95 (v95_4 + 1) w95_mok_34) else (xbd (fX7_isLit_tried w87_mok_23 v95_4) (fun (r120 : Int32) => if r120 = 0 then (some ((-4 : Int32), (w87_mok_23, w87_mok_33, w95_mok_34))) else (if v95_4 < 0 ∨ 19 ≤ v95_4.toNatClampNeg then none else (if (w87_mok_23 v95_4.toNatClampNeg) < 0 ∨ 6 ≤ (w87_mok_23 v95_4.toNatClampNeg).toNatClampNeg then none else (fX7_oil_L95 moi_13 a1 v87_3 w87_mok_23 w87_mok_33 k95 n95 (v95_4 + 1) (upd w95_mok_34 (w87_mok_23 v95_4.toNatClampNeg).toNatClampNeg (v87_3 + (1 : Int32))))))))))
def fX7_oil_L87 (moi_13 : Int32) (moi_17 : Int32) (moi_18 : Int32) (moi_30 : Int32) (moi_31 : Int32) (mok_19 : Nat → Int32) (a1 : Int32) (a2 : Int32) (F : Nat) (k87 : Int32 → (Nat → Int32) → (Nat → Int32) → (Nat → Int32) → Option (Int32 × (Nat → Int32) × (Nat → Int32) × (Nat → Int32))) : Nat → Int32 → (Nat → Int32) → (Nat → Int32) → (Nat → Int32) → Option (Int32 × (Nat → Int32) × (Nat → Int32) × (Nat → Int32))
  | 0, _, _, _, _ => none
  | n87 + 1, v87_3, w87_mok_23, w87_mok_33, w87_mok_34 => if a2 < v87_3 then (k87 v87_3 w87_mok_23 w87_mok_33 w87_mok_34) else (fX7_oil_L95 moi_13 a1 v87_3 w87_mok_23 w87_mok_33 (fun (v95_4 : Int32) (w95_mok_34 : Nat → Int32) => xbd (fX7_ring_tried F moi_13 moi_17 moi_18 moi_30 moi_31 mok_19 w87_mok_23 w87_mok_33) (fun (u155 : (Nat → Int32) × (Nat → Int32)) => fX7_oil_L87 moi_13 moi_17 moi_18 moi_30 moi_31 mok_19 a1 a2 F k87 n87 (v87_3 + 1) u155.1 u155.2 w95_mok_34)) F (0 : Int32) w87_mok_34)
def fX7_oil_L35 (moi_13 : Int32) (k35 : Int32 → (Nat → Int32) → (Nat → Int32) → Option (Int32 × (Nat → Int32) × (Nat → Int32) × (Nat → Int32))) : Nat → Int32 → (Nat → Int32) → (Nat → Int32) → Option (Int32 × (Nat → Int32) × (Nat → Int32) × (Nat → Int32))
  | 0, _, _, _ => none
  | n35 + 1, v35_3, w35_mok_23, w35_mok_34 => if moi_13 ≤ v35_3 then (k35 v35_3 w35_mok_23 w35_mok_34) else (if ((12 : Int32) + v35_3) < 0 ∨ 19 ≤ ((12 : Int32) + v35_3).toNatClampNeg then none else (if (w35_mok_23 ((12 : Int32) + v35_3).toNatClampNeg) = (1 : Int32) then (if ((6 : Int32) + v35_3) < 0 ∨ 19 ≤ ((6 : Int32) + v35_3).toNatClampNeg then none else (if v35_3 < 0 ∨ 6 ≤ v35_3.toNatClampNeg then none else (fX7_oil_L35 moi_13 k35 n35 (v35_3 + 1) (upd w35_mok_23 ((6 : Int32) + v35_3).toNatClampNeg (1000 : Int32)) (upd w35_mok_34 v35_3.toNatClampNeg (0 : Int32))))) else (if ((6 : Int32) + v35_3) < 0 ∨ 19 ≤ ((6 : Int32) + v35_3).toNatClampNeg then none else (if v35_3 < 0 ∨ 6 ≤ v35_3.toNatClampNeg then none else (fX7_oil_L35 moi_13 k35 n35 (v35_3 + 1) (upd w35_mok_23 ((6 : Int32) + v35_3).toNatClampNeg (0 : Int32)) (upd w35_mok_34 v35_3.toNatClampNeg (0 : Int32)))))))
def fX7_oil (F : Nat) (moi_13 : Int32) (moi_17 : Int32) (moi_18 : Int32) (moi_30 : Int32) (moi_31 : Int32) (mok_19 : Nat → Int32) (mok_22 : Nat → Int32) (mok_23 : Nat → Int32) (mok_33 : Nat → Int32) (mok_34 : Nat → Int32) (a1 : Int32) (a2 : Int32) : Option (Int32 × (Nat → Int32) × (Nat → Int32) × (Nat → Int32)) :=
  xbd (fX7_isSet moi_13 a1) (fun (r2 : Int32) => if r2 = 0 then (some ((-1 : Int32), (mok_23, mok_33, mok_34))) else (xbd (fX7_in a2 (0 : Int32) (20 : Int32)) (fun (r12 : Int32) => if r12 = 0 then (some ((-1 : Int32), (mok_23, mok_33, mok_34))) else (xbd (fX7_copy_now_tried F mok_22 mok_23 (0 : Int32) (0 : Int32)) (fun (u30 : (Nat → Int32)) => fX7_oil_L35 moi_13 (fun (v35_3 : Int32) (w35_mok_23 : Nat → Int32) (w35_mok_34 : Nat → Int32) => fX7_oil_L87 moi_13 moi_17 moi_18 moi_30 moi_31 mok_19 a1 a2 F (fun (v87_3 : Int32) (w87_mok_23 : Nat → Int32) (w87_mok_33 : Nat → Int32) (w87_mok_34 : Nat → Int32) => fX7_oil_L169 moi_13 mok_22 w87_mok_34 (fun (v169_4 : Int32) (v169_3 : Int32) => some (v169_3, (w87_mok_23, w87_mok_33, w87_mok_34))) F (0 : Int32) (0 : Int32)) F (0 : Int32) w35_mok_23 mok_33 w35_mok_34) F (0 : Int32) u30 mok_34)))))
theorem hi_X7_oil_7 : ∀ w ∈ wsX70, w ∈ wsX7_oil := fun _ h => (List.mem_cons_of_mem _ (List.mem_append_right _ h))
set_option maxHeartbeats 4000000 in
set_option maxRecDepth 100000 in
theorem c_X7_oil (l : Launch) (D : va_G) (cI cP : ClassId) (sz : Nat) (mo : Nat) (mor : Nat → Nat) (moi_0 : Int32) (moi_2 : Int32) (moi_4 : Int32) (moi_8 : Int32) (moi_9 : Int32) (moi_11 : Int32) (moi_12 : Int32) (moi_13 : Int32) (moi_17 : Int32) (moi_18 : Int32) (moi_20 : Int32) (moi_21 : Int32) (moi_24 : Int32) (moi_26 : Int32) (moi_28 : Int32) (moi_30 : Int32) (moi_31 : Int32) (moi_32 : Int32) (mok_1 : Nat → Int32) (mok_3 : Nat → Int32) (mok_5 : Nat → Int32) (mok_6 : Nat → Int32) (mok_7 : Nat → Int32) (mok_10 : Nat → Int32) (mok_14 : Nat → Int32) (mok_15 : Nat → Int32) (mok_16 : Nat → Int32) (mok_19 : Nat → Int32) (mok_22 : Nat → Int32) (mok_23 : Nat → Int32) (mok_25 : Nat → Int32) (mok_27 : Nat → Int32) (mok_29 : Nat → Int32) (mok_33 : Nat → Int32) (mok_34 : Nat → Int32) (F : Nat) (a1 : Int32) (a2 : Int32) (hne : fX7_oil F moi_13 moi_17 moi_18 moi_30 moi_31 mok_19 mok_22 mok_23 mok_33 mok_34 a1 a2 ≠ none) : xMi l yX7_oil wsX7_oil ({ frames := 2, cells := 0, slots := 0, locals := 43 } : Room) D (xT cI cP) [.ref mo, .int a1, .int a2] (wM cI mo mor moi_0 moi_2 moi_4 moi_8 moi_9 moi_11 moi_12 moi_13 moi_17 moi_18 moi_20 moi_21 moi_24 moi_26 moi_28 moi_30 moi_31 moi_32 mok_1 mok_3 mok_5 mok_6 mok_7 mok_10 mok_14 mok_15 mok_16 mok_19 mok_22 mok_23 mok_25 mok_27 mok_29 mok_33 mok_34) sz (fun r (u : ((Nat → Int32) × (Nat → Int32) × (Nat → Int32))) => fX7_oil F moi_13 moi_17 moi_18 moi_30 moi_31 mok_19 mok_22 mok_23 mok_33 mok_34 a1 a2 = some (r, u)) (fun u => wM cI mo mor moi_0 moi_2 moi_4 moi_8 moi_9 moi_11 moi_12 moi_13 moi_17 moi_18 moi_20 moi_21 moi_24 moi_26 moi_28 moi_30 moi_31 moi_32 mok_1 mok_3 mok_5 mok_6 mok_7 mok_10 mok_14 mok_15 mok_16 mok_19 mok_22 u.1 mok_25 mok_27 mok_29 u.2.1 u.2.2) 0 0 := by
  refine xMi_of (cc := cX7_oil) (maxL := 5) (by decide +kernel) rfl (Nat.le_of_ble_eq_true rfl) ?_
  intro p e s m args below meth c A ls hx hb hml hown hts hname hN hK hA hP hD hS hl Q hret
  have he := fX7_oil.eq_1 F moi_13 moi_17 moi_18 moi_30 moi_31 mok_19 mok_22 mok_23 mok_33 mok_34 a1 a2
  have hl : lv_has ls 5 [(0, .ref mo), (1, .int a1), (2, .int a2)] := hl
  have R169_0 : ∀ (w87_mok_23 : Nat → Int32) (w87_mok_33 : Nat → Int32) (w87_mok_34 : Nat → Int32) (v169_4 : Int32) (v169_3 : Int32), fX7_oil F moi_13 moi_17 moi_18 moi_30 moi_31 mok_19 mok_22 mok_23 mok_33 mok_34 a1 a2 = (some (v169_3, (w87_mok_23, w87_mok_33, w87_mok_34))) → ∀ (H : Heap) (locs : List Loc) (ls : Array Slot), va_P D vwCl (wM cI mo mor moi_0 moi_2 moi_4 moi_8 moi_9 moi_11 moi_12 moi_13 moi_17 moi_18 moi_20 moi_21 moi_24 moi_26 moi_28 moi_30 moi_31 moi_32 mok_1 mok_3 mok_5 mok_6 mok_7 mok_10 mok_14 mok_15 mok_16 mok_19 mok_22 w87_mok_23 mok_25 mok_27 mok_29 w87_mok_33 w87_mok_34) H → va_D A (wM cI mo mor moi_0 moi_2 moi_4 moi_8 moi_9 moi_11 moi_12 moi_13 moi_17 moi_18 moi_20 moi_21 moi_24 moi_26 moi_28 moi_30 moi_31 moi_32 mok_1 mok_3 mok_5 mok_6 mok_7 mok_10 mok_14 mok_15 mok_16 mok_19 mok_22 w87_mok_23 mok_25 mok_27 mok_29 w87_mok_33 w87_mok_34) → va_S A s.heap H locs → lv_has ls 5 [(3, .int v169_3)] → W p l e ({ frames := 2, cells := 0, slots := 0, locals := 43 } : Room) s m args below meth c H locs 0 0 Q (F0 m 229 ls []) := by
    intro w87_mok_23 w87_mok_33 w87_mok_34 v169_4 v169_3 he H locs ls hP hD hS hl
    refine lv_iload_n hx hb dX7_oil_229 rfl (lv_at hl 0 rfl) ?_
    exact hret v169_3 (w87_mok_23, w87_mok_33, w87_mok_34) _ _ _ _ dX7_oil_230 he hP hD hS
  have L169_4 : ∀ (w87_mok_23 : Nat → Int32) (w87_mok_33 : Nat → Int32) (w87_mok_34 : Nat → Int32) (n169 : Nat) (v169_4 : Int32) (v169_3 : Int32), fX7_oil F moi_13 moi_17 moi_18 moi_30 moi_31 mok_19 mok_22 mok_23 mok_33 mok_34 a1 a2 = fX7_oil_L169 moi_13 mok_22 w87_mok_34 (fun (v169_4 : Int32) (v169_3 : Int32) => some (v169_3, (w87_mok_23, w87_mok_33, w87_mok_34))) n169 v169_4 v169_3 → ∀ (H : Heap) (locs : List Loc) (ls : Array Slot), va_P D vwCl (wM cI mo mor moi_0 moi_2 moi_4 moi_8 moi_9 moi_11 moi_12 moi_13 moi_17 moi_18 moi_20 moi_21 moi_24 moi_26 moi_28 moi_30 moi_31 moi_32 mok_1 mok_3 mok_5 mok_6 mok_7 mok_10 mok_14 mok_15 mok_16 mok_19 mok_22 w87_mok_23 mok_25 mok_27 mok_29 w87_mok_33 w87_mok_34) H → va_D A (wM cI mo mor moi_0 moi_2 moi_4 moi_8 moi_9 moi_11 moi_12 moi_13 moi_17 moi_18 moi_20 moi_21 moi_24 moi_26 moi_28 moi_30 moi_31 moi_32 mok_1 mok_3 mok_5 mok_6 mok_7 mok_10 mok_14 mok_15 mok_16 mok_19 mok_22 w87_mok_23 mok_25 mok_27 mok_29 w87_mok_33 w87_mok_34) → va_S A s.heap H locs → lv_has ls 5 [(4, .int v169_4), (3, .int v169_3), (0, .ref mo)] → W p l e ({ frames := 2, cells := 0, slots := 0, locals := 43 } : Room) s m args below meth c H locs 0 0 Q (F0 m 169 ls []) := by
    intro w87_mok_23 w87_mok_33 w87_mok_34 n169
    induction n169 with
    | zero => intro v169_4 v169_3 he; exact absurd he hne
    | succ n169 ih169 =>
      intro v169_4 v169_3 he H locs ls hP hD hS hl
      replace he := he.trans (fX7_oil_L169.eq_2 _ _ _ _ _ _ _)
      refine lv_iload hx hb dX7_oil_169 (lv_at hl 0 rfl) ?_
      refine lv_aload_n hx hb dX7_oil_171 rfl (lv_at hl 2 rfl) ?_
      refine va_get (D := D) (ci := 7) (v := .int moi_13) (C := RX7) (T := TX7) (N := 35) hx hb hts hi_X7_oil_7 hown hK hP 0 wM_0 rfl 13 (by decide) (hts (.fieldLink RX7 71 "BlindLanternsModel" "men" "I") (List.mem_of_getElem? (i := 3) rfl)) (fun _ h9 => h9) xMf_13 dX7_oil_172 ?_
      refine lv_icmp_ge (tgt := 229) hx hb dX7_oil_175 (by decide) (fun c6 => ?_) (fun c6 => ?_)
      · replace he := he.trans (if_pos c6)
        exact R169_0 w87_mok_23 w87_mok_33 w87_mok_34 v169_4 v169_3 he _ _ _ hP hD hS (lv_sub hl [1] rfl)
      · replace he := he.trans (if_neg c6)
        refine lv_iload_n hx hb dX7_oil_178 rfl (lv_at hl 1 rfl) ?_
        refine lv_aload_n hx hb dX7_oil_179 rfl (lv_at hl 2 rfl) ?_
        refine va_get (D := D) (ci := 7) (v := .ref (mor 34)) (C := RX7) (T := TX7) (N := 35) hx hb hts hi_X7_oil_7 hown hK hP 0 wM_0 rfl 34 (by decide) (hts (.fieldLink RX7 68 "BlindLanternsModel" "wanted" "[I") (List.mem_of_getElem? (i := 4) rfl)) (fun _ h9 => h9) xMf_34 dX7_oil_180 ?_
        refine lv_iload hx hb dX7_oil_183 (lv_at hl 0 rfl) ?_
        by_cases g7 : v169_4 < 0 ∨ 6 ≤ v169_4.toNatClampNeg
        · exact absurd (he.trans (if_pos g7)) hne
        replace he := he.trans (if_neg g7)
        refine va_iald hx hb hK hP 17 0 wM_a34 rfl g7 dX7_oil_185 ?_
        refine lv_aload_n hx hb dX7_oil_186 rfl (lv_at hl 2 rfl) ?_
        refine va_get (D := D) (ci := 7) (v := .ref (mor 22)) (C := RX7) (T := TX7) (N := 35) hx hb hts hi_X7_oil_7 hown hK hP 0 wM_0 rfl 22 (by decide) (hts (.fieldLink RX7 40 "BlindLanternsModel" "now" "[I") (List.mem_of_getElem? (i := 1) rfl)) (fun _ h9 => h9) xMf_22 dX7_oil_187 ?_
        refine lv_bipush (v := 6) hx hb dX7_oil_190 (by decide) ?_
        refine lv_iload hx hb dX7_oil_192 (lv_at hl 0 rfl) ?_
        refine lv_iadd hx hb dX7_oil_194 ?_
        by_cases g8 : ((6 : Int32) + v169_4) < 0 ∨ 19 ≤ ((6 : Int32) + v169_4).toNatClampNeg
        · exact absurd (he.trans (if_pos g8)) hne
        replace he := he.trans (if_neg g8)
        refine va_iald hx hb hK hP 11 0 wM_a22 rfl g8 dX7_oil_195 ?_
        refine lv_icmp_le (tgt := 220) hx hb dX7_oil_196 (by decide) (fun c9 => ?_) (fun c9 => ?_)
        · replace he := he.trans (if_pos c9)
          refine lv_iconst (v := 0) hx hb dX7_oil_220 (by decide) ?_
          refine lv_iadd hx hb dX7_oil_221 ?_
          refine lv_istore_n (lv' := [(3, .int (v169_3 + (0 : Int32))), (4, .int v169_4), (0, .ref mo)]) hx hb dX7_oil_222 rfl hl (by decide) rfl (fun ls hl => ?_)
          refine lv_iinc (v := (v169_4 + 1)) (lv' := [(4, .int (v169_4 + 1)), (3, .int (v169_3 + (0 : Int32))), (0, .ref mo)]) hx hb dX7_oil_223 hl (k := 1) rfl rfl (by decide) rfl (fun ls hl => ?_)
          refine lv_goto (tgt := 169) hx hb dX7_oil_226 (by decide) ?_
          exact ih169 (v169_4 + 1) (v169_3 + (0 : Int32)) he _ _ _ hP hD hS (lv_sub hl [0, 1, 2] rfl)
        · replace he := he.trans (if_neg c9)
          refine lv_aload_n hx hb dX7_oil_199 rfl (lv_at hl 2 rfl) ?_
          refine va_get (D := D) (ci := 7) (v := .ref (mor 34)) (C := RX7) (T := TX7) (N := 35) hx hb hts hi_X7_oil_7 hown hK hP 0 wM_0 rfl 34 (by decide) (hts (.fieldLink RX7 68 "BlindLanternsModel" "wanted" "[I") (List.mem_of_getElem? (i := 4) rfl)) (fun _ h9 => h9) xMf_34 dX7_oil_200 ?_
          refine lv_iload hx hb dX7_oil_203 (lv_at hl 0 rfl) ?_
          by_cases g10 : v169_4 < 0 ∨ 6 ≤ v169_4.toNatClampNeg
          · exact absurd (he.trans (if_pos g10)) hne
          replace he := he.trans (if_neg g10)
          refine va_iald hx hb hK hP 17 0 wM_a34 rfl g10 dX7_oil_205 ?_
          refine lv_aload_n hx hb dX7_oil_206 rfl (lv_at hl 2 rfl) ?_
          refine va_get (D := D) (ci := 7) (v := .ref (mor 22)) (C := RX7) (T := TX7) (N := 35) hx hb hts hi_X7_oil_7 hown hK hP 0 wM_0 rfl 22 (by decide) (hts (.fieldLink RX7 40 "BlindLanternsModel" "now" "[I") (List.mem_of_getElem? (i := 1) rfl)) (fun _ h9 => h9) xMf_22 dX7_oil_207 ?_
          refine lv_bipush (v := 6) hx hb dX7_oil_210 (by decide) ?_
          refine lv_iload hx hb dX7_oil_212 (lv_at hl 0 rfl) ?_
          refine lv_iadd hx hb dX7_oil_214 ?_
          by_cases g11 : ((6 : Int32) + v169_4) < 0 ∨ 19 ≤ ((6 : Int32) + v169_4).toNatClampNeg
          · exact absurd (he.trans (if_pos g11)) hne
          replace he := he.trans (if_neg g11)
          refine va_iald hx hb hK hP 11 0 wM_a22 rfl g11 dX7_oil_215 ?_
          refine lv_isub hx hb dX7_oil_216 ?_
          refine lv_goto (tgt := 221) hx hb dX7_oil_217 (by decide) ?_
          refine lv_iadd hx hb dX7_oil_221 ?_
          refine lv_istore_n (lv' := [(3, .int (v169_3 + ((w87_mok_34 v169_4.toNatClampNeg) - (mok_22 ((6 : Int32) + v169_4).toNatClampNeg)))), (4, .int v169_4), (0, .ref mo)]) hx hb dX7_oil_222 rfl hl (by decide) rfl (fun ls hl => ?_)
          refine lv_iinc (v := (v169_4 + 1)) (lv' := [(4, .int (v169_4 + 1)), (3, .int (v169_3 + ((w87_mok_34 v169_4.toNatClampNeg) - (mok_22 ((6 : Int32) + v169_4).toNatClampNeg)))), (0, .ref mo)]) hx hb dX7_oil_223 hl (k := 1) rfl rfl (by decide) rfl (fun ls hl => ?_)
          refine lv_goto (tgt := 169) hx hb dX7_oil_226 (by decide) ?_
          exact ih169 (v169_4 + 1) (v169_3 + ((w87_mok_34 v169_4.toNatClampNeg) - (mok_22 ((6 : Int32) + v169_4).toNatClampNeg))) he _ _ _ hP hD hS (lv_sub hl [0, 1, 2] rfl)
  have R87_67 : ∀ (v87_3 : Int32) (w87_mok_23 : Nat → Int32) (w87_mok_33 : Nat → Int32) (w87_mok_34 : Nat → Int32), fX7_oil F moi_13 moi_17 moi_18 moi_30 moi_31 mok_19 mok_22 mok_23 mok_33 mok_34 a1 a2 = (fX7_oil_L169 moi_13 mok_22 w87_mok_34 (fun (v169_4 : Int32) (v169_3 : Int32) => some (v169_3, (w87_mok_23, w87_mok_33, w87_mok_34))) F (0 : Int32) (0 : Int32)) → ∀ (H : Heap) (locs : List Loc) (ls : Array Slot), va_P D vwCl (wM cI mo mor moi_0 moi_2 moi_4 moi_8 moi_9 moi_11 moi_12 moi_13 moi_17 moi_18 moi_20 moi_21 moi_24 moi_26 moi_28 moi_30 moi_31 moi_32 mok_1 mok_3 mok_5 mok_6 mok_7 mok_10 mok_14 mok_15 mok_16 mok_19 mok_22 w87_mok_23 mok_25 mok_27 mok_29 w87_mok_33 w87_mok_34) H → va_D A (wM cI mo mor moi_0 moi_2 moi_4 moi_8 moi_9 moi_11 moi_12 moi_13 moi_17 moi_18 moi_20 moi_21 moi_24 moi_26 moi_28 moi_30 moi_31 moi_32 mok_1 mok_3 mok_5 mok_6 mok_7 mok_10 mok_14 mok_15 mok_16 mok_19 mok_22 w87_mok_23 mok_25 mok_27 mok_29 w87_mok_33 w87_mok_34) → va_S A s.heap H locs → lv_has ls 5 [(0, .ref mo)] → W p l e ({ frames := 2, cells := 0, slots := 0, locals := 43 } : Room) s m args below meth c H locs 0 0 Q (F0 m 164 ls []) := by
    intro v87_3 w87_mok_23 w87_mok_33 w87_mok_34 he H locs ls hP hD hS hl
    refine lv_iconst (v := 0) hx hb dX7_oil_164 (by decide) ?_
    refine lv_istore_n (lv' := [(3, .int (0 : Int32)), (0, .ref mo)]) hx hb dX7_oil_165 rfl hl (by decide) rfl (fun ls hl => ?_)
    refine lv_iconst (v := 0) hx hb dX7_oil_166 (by decide) ?_
    refine lv_istore (lv' := [(4, .int (0 : Int32)), (3, .int (0 : Int32)), (0, .ref mo)]) hx hb dX7_oil_167 hl (by decide) rfl (fun ls hl => ?_)
    exact L169_4 w87_mok_23 w87_mok_33 w87_mok_34 F (0 : Int32) (0 : Int32) he _ _ _ hP hD hS (lv_sub hl [0, 1, 2] rfl)
  have L87_74 : ∀ (n87 : Nat) (v87_3 : Int32) (w87_mok_23 : Nat → Int32) (w87_mok_33 : Nat → Int32) (w87_mok_34 : Nat → Int32), fX7_oil F moi_13 moi_17 moi_18 moi_30 moi_31 mok_19 mok_22 mok_23 mok_33 mok_34 a1 a2 = fX7_oil_L87 moi_13 moi_17 moi_18 moi_30 moi_31 mok_19 a1 a2 F (fun (v87_3 : Int32) (w87_mok_23 : Nat → Int32) (w87_mok_33 : Nat → Int32) (w87_mok_34 : Nat → Int32) => fX7_oil_L169 moi_13 mok_22 w87_mok_34 (fun (v169_4 : Int32) (v169_3 : Int32) => some (v169_3, (w87_mok_23, w87_mok_33, w87_mok_34))) F (0 : Int32) (0 : Int32)) n87 v87_3 w87_mok_23 w87_mok_33 w87_mok_34 → ∀ (H : Heap) (locs : List Loc) (ls : Array Slot), va_P D vwCl (wM cI mo mor moi_0 moi_2 moi_4 moi_8 moi_9 moi_11 moi_12 moi_13 moi_17 moi_18 moi_20 moi_21 moi_24 moi_26 moi_28 moi_30 moi_31 moi_32 mok_1 mok_3 mok_5 mok_6 mok_7 mok_10 mok_14 mok_15 mok_16 mok_19 mok_22 w87_mok_23 mok_25 mok_27 mok_29 w87_mok_33 w87_mok_34) H → va_D A (wM cI mo mor moi_0 moi_2 moi_4 moi_8 moi_9 moi_11 moi_12 moi_13 moi_17 moi_18 moi_20 moi_21 moi_24 moi_26 moi_28 moi_30 moi_31 moi_32 mok_1 mok_3 mok_5 mok_6 mok_7 mok_10 mok_14 mok_15 mok_16 mok_19 mok_22 w87_mok_23 mok_25 mok_27 mok_29 w87_mok_33 w87_mok_34) → va_S A s.heap H locs → lv_has ls 5 [(3, .int v87_3), (0, .ref mo), (1, .int a1), (2, .int a2)] → W p l e ({ frames := 2, cells := 0, slots := 0, locals := 43 } : Room) s m args below meth c H locs 0 0 Q (F0 m 87 ls []) := by
    intro n87
    induction n87 with
    | zero => intro v87_3 w87_mok_23 w87_mok_33 w87_mok_34 he; exact absurd he hne
    | succ n87 ih87 =>
      intro v87_3 w87_mok_23 w87_mok_33 w87_mok_34 he H locs ls hP hD hS hl
      replace he := he.trans (fX7_oil_L87.eq_2 _ _ _ _ _ _ _ _ _ _ _ _ _ _ _)
      refine lv_iload_n hx hb dX7_oil_87 rfl (lv_at hl 0 rfl) ?_
      refine lv_iload_n hx hb dX7_oil_88 rfl (lv_at hl 3 rfl) ?_
      refine lv_icmp_gt (tgt := 164) hx hb dX7_oil_89 (by decide) (fun c12 => ?_) (fun c12 => ?_)
      · replace he := he.trans (if_pos c12)
        exact R87_67 v87_3 w87_mok_23 w87_mok_33 w87_mok_34 he _ _ _ hP hD hS (lv_sub hl [1] rfl)
      · replace he := he.trans (if_neg c12)
        refine lv_iconst (v := 0) hx hb dX7_oil_92 (by decide) ?_
        refine lv_istore (lv' := [(4, .int (0 : Int32)), (3, .int v87_3), (0, .ref mo), (1, .int a1), (2, .int a2)]) hx hb dX7_oil_93 hl (by decide) rfl (fun ls hl => ?_)
        have R95 : ∀ (v95_4 : Int32) (w95_mok_34 : Nat → Int32), fX7_oil F moi_13 moi_17 moi_18 moi_30 moi_31 mok_19 mok_22 mok_23 mok_33 mok_34 a1 a2 = (xbd (fX7_ring_tried F moi_13 moi_17 moi_18 moi_30 moi_31 mok_19 w87_mok_23 w87_mok_33) (fun (u155 : (Nat → Int32) × (Nat → Int32)) => fX7_oil_L87 moi_13 moi_17 moi_18 moi_30 moi_31 mok_19 a1 a2 F (fun (v87_3 : Int32) (w87_mok_23 : Nat → Int32) (w87_mok_33 : Nat → Int32) (w87_mok_34 : Nat → Int32) => fX7_oil_L169 moi_13 mok_22 w87_mok_34 (fun (v169_4 : Int32) (v169_3 : Int32) => some (v169_3, (w87_mok_23, w87_mok_33, w87_mok_34))) F (0 : Int32) (0 : Int32)) n87 (v87_3 + 1) u155.1 u155.2 w95_mok_34)) → ∀ (H : Heap) (locs : List Loc) (ls : Array Slot), va_P D vwCl (wM cI mo mor moi_0 moi_2 moi_4 moi_8 moi_9 moi_11 moi_12 moi_13 moi_17 moi_18 moi_20 moi_21 moi_24 moi_26 moi_28 moi_30 moi_31 moi_32 mok_1 mok_3 mok_5 mok_6 mok_7 mok_10 mok_14 mok_15 mok_16 mok_19 mok_22 w87_mok_23 mok_25 mok_27 mok_29 w87_mok_33 w95_mok_34) H → va_D A (wM cI mo mor moi_0 moi_2 moi_4 moi_8 moi_9 moi_11 moi_12 moi_13 moi_17 moi_18 moi_20 moi_21 moi_24 moi_26 moi_28 moi_30 moi_31 moi_32 mok_1 mok_3 mok_5 mok_6 mok_7 mok_10 mok_14 mok_15 mok_16 mok_19 mok_22 w87_mok_23 mok_25 mok_27 mok_29 w87_mok_33 w95_mok_34) → va_S A s.heap H locs → lv_has ls 5 [(3, .int v87_3), (0, .ref mo), (1, .int a1), (2, .int a2)] → W p l e ({ frames := 2, cells := 0, slots := 0, locals := 43 } : Room) s m args below meth c H locs 0 0 Q (F0 m 150 ls []) := by
          intro v95_4 w95_mok_34 he H locs ls hP hD hS hl
          refine lv_aload_n hx hb dX7_oil_150 rfl (lv_at hl 1 rfl) ?_
          refine lv_aload_n hx hb dX7_oil_151 rfl (lv_at hl 1 rfl) ?_
          refine va_get (D := D) (ci := 7) (v := .ref (mor 23)) (C := RX7) (T := TX7) (N := 35) hx hb hts hi_X7_oil_7 hown hK hP 0 wM_0 rfl 23 (by decide) (hts (.fieldLink RX7 43 "BlindLanternsModel" "tried" "[I") (List.mem_of_getElem? (i := 2) rfl)) (fun _ h9 => h9) xMf_23 dX7_oil_152 ?_
          have n13_ : fX7_ring_tried F moi_13 moi_17 moi_18 moi_30 moi_31 mok_19 w87_mok_23 w87_mok_33 ≠ none := fun z => hne (he.trans (xbd_none z))
          refine xcvW (va_runV (As := [.ref (mor 23)]) (rest := []) ⟨hx, hb, hml, hown, hts⟩ (c_X7_ring_tried l D cI cP H.size mo mor moi_0 moi_2 moi_4 moi_8 moi_9 moi_11 moi_12 moi_13 moi_17 moi_18 moi_20 moi_21 moi_24 moi_26 moi_28 moi_30 moi_31 moi_32 mok_1 mok_3 mok_5 mok_6 mok_7 mok_10 mok_14 mok_15 mok_16 mok_19 mok_22 w87_mok_23 mok_25 mok_27 mok_29 w87_mok_33 w95_mok_34 F  n13_) (cwV 1 hts gX7_oil_X7_ring rfl rfl rfl (by decide +kernel) ⟨Nat.le_of_ble_eq_true rfl, Nat.le_of_ble_eq_true rfl⟩) (xPVW hN hK hP hD (ci := 7) (j := 0) rfl wM_0) rfl rfl hl.1 rfl (lv_room (Nat.le_of_ble_eq_true rfl)) dX7_oil_155 ⟨Nat.le_of_ble_eq_true rfl, Nat.le_of_ble_eq_true rfl⟩) hD hS hA (fun u155 H locs hw hP hD hS => ?_)
          have hP : va_P D vwCl (wM cI mo mor moi_0 moi_2 moi_4 moi_8 moi_9 moi_11 moi_12 moi_13 moi_17 moi_18 moi_20 moi_21 moi_24 moi_26 moi_28 moi_30 moi_31 moi_32 mok_1 mok_3 mok_5 mok_6 mok_7 mok_10 mok_14 mok_15 mok_16 mok_19 mok_22 u155.1 mok_25 mok_27 mok_29 u155.2 w95_mok_34) H := hP
          have hD : va_D A (wM cI mo mor moi_0 moi_2 moi_4 moi_8 moi_9 moi_11 moi_12 moi_13 moi_17 moi_18 moi_20 moi_21 moi_24 moi_26 moi_28 moi_30 moi_31 moi_32 mok_1 mok_3 mok_5 mok_6 mok_7 mok_10 mok_14 mok_15 mok_16 mok_19 mok_22 u155.1 mok_25 mok_27 mok_29 u155.2 w95_mok_34) := hD
          replace he := he.trans (xbd_some hw)
          refine lv_iinc (v := (v87_3 + 1)) (lv' := [(3, .int (v87_3 + 1)), (0, .ref mo), (1, .int a1), (2, .int a2)]) hx hb dX7_oil_158 hl (k := 0) rfl rfl (by decide) rfl (fun ls hl => ?_)
          refine lv_goto (tgt := 87) hx hb dX7_oil_161 (by decide) ?_
          exact ih87 (v87_3 + 1) u155.1 u155.2 w95_mok_34 he _ _ _ hP hD hS (lv_sub hl [0, 1, 2, 3] rfl)
        have L95 : ∀ (n95 : Nat) (v95_4 : Int32) (w95_mok_34 : Nat → Int32), fX7_oil F moi_13 moi_17 moi_18 moi_30 moi_31 mok_19 mok_22 mok_23 mok_33 mok_34 a1 a2 = fX7_oil_L95 moi_13 a1 v87_3 w87_mok_23 w87_mok_33 (fun (v95_4 : Int32) (w95_mok_34 : Nat → Int32) => xbd (fX7_ring_tried F moi_13 moi_17 moi_18 moi_30 moi_31 mok_19 w87_mok_23 w87_mok_33) (fun (u155 : (Nat → Int32) × (Nat → Int32)) => fX7_oil_L87 moi_13 moi_17 moi_18 moi_30 moi_31 mok_19 a1 a2 F (fun (v87_3 : Int32) (w87_mok_23 : Nat → Int32) (w87_mok_33 : Nat → Int32) (w87_mok_34 : Nat → Int32) => fX7_oil_L169 moi_13 mok_22 w87_mok_34 (fun (v169_4 : Int32) (v169_3 : Int32) => some (v169_3, (w87_mok_23, w87_mok_33, w87_mok_34))) F (0 : Int32) (0 : Int32)) n87 (v87_3 + 1) u155.1 u155.2 w95_mok_34)) n95 v95_4 w95_mok_34 → ∀ (H : Heap) (locs : List Loc) (ls : Array Slot), va_P D vwCl (wM cI mo mor moi_0 moi_2 moi_4 moi_8 moi_9 moi_11 moi_12 moi_13 moi_17 moi_18 moi_20 moi_21 moi_24 moi_26 moi_28 moi_30 moi_31 moi_32 mok_1 mok_3 mok_5 mok_6 mok_7 mok_10 mok_14 mok_15 mok_16 mok_19 mok_22 w87_mok_23 mok_25 mok_27 mok_29 w87_mok_33 w95_mok_34) H → va_D A (wM cI mo mor moi_0 moi_2 moi_4 moi_8 moi_9 moi_11 moi_12 moi_13 moi_17 moi_18 moi_20 moi_21 moi_24 moi_26 moi_28 moi_30 moi_31 moi_32 mok_1 mok_3 mok_5 mok_6 mok_7 mok_10 mok_14 mok_15 mok_16 mok_19 mok_22 w87_mok_23 mok_25 mok_27 mok_29 w87_mok_33 w95_mok_34) → va_S A s.heap H locs → lv_has ls 5 [(4, .int v95_4), (3, .int v87_3), (0, .ref mo), (1, .int a1), (2, .int a2)] → W p l e ({ frames := 2, cells := 0, slots := 0, locals := 43 } : Room) s m args below meth c H locs 0 0 Q (F0 m 95 ls []) := by
          intro n95
          induction n95 with
          | zero => intro v95_4 w95_mok_34 he; exact absurd he hne
          | succ n95 ih95 =>
            intro v95_4 w95_mok_34 he H locs ls hP hD hS hl
            replace he := he.trans (fX7_oil_L95.eq_2 _ _ _ _ _ _ _ _ _)
            refine lv_iload hx hb dX7_oil_95 (lv_at hl 0 rfl) ?_
            refine lv_aload_n hx hb dX7_oil_97 rfl (lv_at hl 2 rfl) ?_
            refine va_get (D := D) (ci := 7) (v := .int moi_13) (C := RX7) (T := TX7) (N := 35) hx hb hts hi_X7_oil_7 hown hK hP 0 wM_0 rfl 13 (by decide) (hts (.fieldLink RX7 71 "BlindLanternsModel" "men" "I") (List.mem_of_getElem? (i := 3) rfl)) (fun _ h9 => h9) xMf_13 dX7_oil_98 ?_
            refine lv_icmp_ge (tgt := 150) hx hb dX7_oil_101 (by decide) (fun c14 => ?_) (fun c14 => ?_)
            · replace he := he.trans (if_pos c14)
              exact R95 v95_4 w95_mok_34 he _ _ _ hP hD hS (lv_sub hl [1, 2, 3, 4] rfl)
            · replace he := he.trans (if_neg c14)
              refine lv_iload_n hx hb dX7_oil_104 rfl (lv_at hl 3 rfl) ?_
              refine lv_iload hx hb dX7_oil_105 (lv_at hl 0 rfl) ?_
              have n15_ : fX7_has a1 v95_4 ≠ none := fun z => hne (he.trans (xbd_none z))
              refine xci0 (va_runS (As := [.int a1, .int v95_4]) (rest := []) ⟨hx, hb, hml, hown, hts⟩ (c_X7_has l D cI cP H.size  a1 v95_4 n15_) (va_cwS 2 hts gX7_oil_X7_has rfl rfl rfl (by decide +kernel) ⟨Nat.le_of_ble_eq_true rfl, Nat.le_of_ble_eq_true rfl⟩) (xPS0 hN hK) rfl rfl hl.1 rfl (lv_room (Nat.le_of_ble_eq_true rfl)) dX7_oil_107 ⟨Nat.le_of_ble_eq_true rfl, Nat.le_of_ble_eq_true rfl⟩) hP hD hS hA (fun r107 u107 H locs hw hP hD hS => ?_)
              replace he := he.trans (xbd_some hw)
              refine lv_if_eq (tgt := 144) hx hb dX7_oil_110 (by decide) (fun c16 => ?_) (fun c16 => ?_)
              · replace he := he.trans (if_pos c16)
                refine lv_iinc (v := (v95_4 + 1)) (lv' := [(4, .int (v95_4 + 1)), (3, .int v87_3), (0, .ref mo), (1, .int a1), (2, .int a2)]) hx hb dX7_oil_144 hl (k := 0) rfl rfl (by decide) rfl (fun ls hl => ?_)
                refine lv_goto (tgt := 95) hx hb dX7_oil_147 (by decide) ?_
                exact ih95 (v95_4 + 1) w95_mok_34 he _ _ _ hP hD hS (lv_sub hl [0, 1, 2, 3, 4] rfl)
              · replace he := he.trans (if_neg c16)
                refine lv_aload_n hx hb dX7_oil_113 rfl (lv_at hl 2 rfl) ?_
                refine lv_aload_n hx hb dX7_oil_114 rfl (lv_at hl 2 rfl) ?_
                refine va_get (D := D) (ci := 7) (v := .ref (mor 23)) (C := RX7) (T := TX7) (N := 35) hx hb hts hi_X7_oil_7 hown hK hP 0 wM_0 rfl 23 (by decide) (hts (.fieldLink RX7 43 "BlindLanternsModel" "tried" "[I") (List.mem_of_getElem? (i := 2) rfl)) (fun _ h9 => h9) xMf_23 dX7_oil_115 ?_
                refine lv_iload hx hb dX7_oil_118 (lv_at hl 0 rfl) ?_
                have n17_ : fX7_isLit_tried w87_mok_23 v95_4 ≠ none := fun z => hne (he.trans (xbd_none z))
                refine xciW (va_runV (As := [.ref (mor 23), .int v95_4]) (rest := []) ⟨hx, hb, hml, hown, hts⟩ (c_X7_isLit_tried l D cI cP H.size mo mor moi_0 moi_2 moi_4 moi_8 moi_9 moi_11 moi_12 moi_13 moi_17 moi_18 moi_20 moi_21 moi_24 moi_26 moi_28 moi_30 moi_31 moi_32 mok_1 mok_3 mok_5 mok_6 mok_7 mok_10 mok_14 mok_15 mok_16 mok_19 mok_22 w87_mok_23 mok_25 mok_27 mok_29 w87_mok_33 w95_mok_34 v95_4 n17_) (cwV 2 hts gX7_oil_X7_isLit rfl rfl rfl (by decide +kernel) ⟨Nat.le_of_ble_eq_true rfl, Nat.le_of_ble_eq_true rfl⟩) (xPVW hN hK hP hD (ci := 7) (j := 0) rfl wM_0) rfl rfl hl.1 rfl (lv_room (Nat.le_of_ble_eq_true rfl)) dX7_oil_120 ⟨Nat.le_of_ble_eq_true rfl, Nat.le_of_ble_eq_true rfl⟩) hD hS hA (fun r120 u120 H locs hw hP hD hS => ?_)
                have hP : va_P D vwCl (wM cI mo mor moi_0 moi_2 moi_4 moi_8 moi_9 moi_11 moi_12 moi_13 moi_17 moi_18 moi_20 moi_21 moi_24 moi_26 moi_28 moi_30 moi_31 moi_32 mok_1 mok_3 mok_5 mok_6 mok_7 mok_10 mok_14 mok_15 mok_16 mok_19 mok_22 w87_mok_23 mok_25 mok_27 mok_29 w87_mok_33 w95_mok_34) H := hP
                have hD : va_D A (wM cI mo mor moi_0 moi_2 moi_4 moi_8 moi_9 moi_11 moi_12 moi_13 moi_17 moi_18 moi_20 moi_21 moi_24 moi_26 moi_28 moi_30 moi_31 moi_32 mok_1 mok_3 mok_5 mok_6 mok_7 mok_10 mok_14 mok_15 mok_16 mok_19 mok_22 w87_mok_23 mok_25 mok_27 mok_29 w87_mok_33 w95_mok_34) := hD
                replace he := he.trans (xbd_some hw)
                refine lv_if_ne (tgt := 129) hx hb dX7_oil_123 (by decide) (fun c18 => ?_) (fun c18 => ?_)
                · replace he := he.trans (if_neg c18)
                  refine lv_aload_n hx hb dX7_oil_129 rfl (lv_at hl 2 rfl) ?_
                  refine va_get (D := D) (ci := 7) (v := .ref (mor 34)) (C := RX7) (T := TX7) (N := 35) hx hb hts hi_X7_oil_7 hown hK hP 0 wM_0 rfl 34 (by decide) (hts (.fieldLink RX7 68 "BlindLanternsModel" "wanted" "[I") (List.mem_of_getElem? (i := 4) rfl)) (fun _ h9 => h9) xMf_34 dX7_oil_130 ?_
                  refine lv_aload_n hx hb dX7_oil_133 rfl (lv_at hl 2 rfl) ?_
                  refine va_get (D := D) (ci := 7) (v := .ref (mor 23)) (C := RX7) (T := TX7) (N := 35) hx hb hts hi_X7_oil_7 hown hK hP 0 wM_0 rfl 23 (by decide) (hts (.fieldLink RX7 43 "BlindLanternsModel" "tried" "[I") (List.mem_of_getElem? (i := 2) rfl)) (fun _ h9 => h9) xMf_23 dX7_oil_134 ?_
                  refine lv_iload hx hb dX7_oil_137 (lv_at hl 0 rfl) ?_
                  by_cases g19 : v95_4 < 0 ∨ 19 ≤ v95_4.toNatClampNeg
                  · exact absurd (he.trans (if_pos g19)) hne
                  replace he := he.trans (if_neg g19)
                  refine va_iald hx hb hK hP 12 0 wM_a23 rfl g19 dX7_oil_139 ?_
                  refine lv_iload_n hx hb dX7_oil_140 rfl (lv_at hl 1 rfl) ?_
                  refine lv_iconst (v := 1) hx hb dX7_oil_141 (by decide) ?_
                  refine lv_iadd hx hb dX7_oil_142 ?_
                  by_cases g20 : (w87_mok_23 v95_4.toNatClampNeg) < 0 ∨ 6 ≤ (w87_mok_23 v95_4.toNatClampNeg).toNatClampNeg
                  · exact absurd (he.trans (if_pos g20)) hne
                  replace he := he.trans (if_neg g20)
                  refine va_iast hx hb hK hP hD hS 17 0 wM_a34 rfl g20 dX7_oil_143 (fun H locs hP hD hS => ?_)
                  rw [wM_s34] at hP hD
                  refine lv_iinc (v := (v95_4 + 1)) (lv' := [(4, .int (v95_4 + 1)), (3, .int v87_3), (0, .ref mo), (1, .int a1), (2, .int a2)]) hx hb dX7_oil_144 hl (k := 0) rfl rfl (by decide) rfl (fun ls hl => ?_)
                  refine lv_goto (tgt := 95) hx hb dX7_oil_147 (by decide) ?_
                  exact ih95 (v95_4 + 1) (upd w95_mok_34 (w87_mok_23 v95_4.toNatClampNeg).toNatClampNeg (v87_3 + (1 : Int32))) he _ _ _ hP hD hS (lv_sub hl [0, 1, 2, 3, 4] rfl)
                · replace he := he.trans (if_pos c18)
                  refine lv_bipush (v := -4) hx hb dX7_oil_126 (by decide) ?_
                  exact hret (-4 : Int32) (w87_mok_23, w87_mok_33, w95_mok_34) _ _ _ _ dX7_oil_128 he hP hD hS
        exact L95 F (0 : Int32) w87_mok_34 he _ _ _ hP hD hS (lv_sub hl [0, 1, 2, 3, 4] rfl)
  have R35_162 : ∀ (v35_3 : Int32) (w35_mok_23 : Nat → Int32) (w35_mok_34 : Nat → Int32), fX7_oil F moi_13 moi_17 moi_18 moi_30 moi_31 mok_19 mok_22 mok_23 mok_33 mok_34 a1 a2 = (fX7_oil_L87 moi_13 moi_17 moi_18 moi_30 moi_31 mok_19 a1 a2 F (fun (v87_3 : Int32) (w87_mok_23 : Nat → Int32) (w87_mok_33 : Nat → Int32) (w87_mok_34 : Nat → Int32) => fX7_oil_L169 moi_13 mok_22 w87_mok_34 (fun (v169_4 : Int32) (v169_3 : Int32) => some (v169_3, (w87_mok_23, w87_mok_33, w87_mok_34))) F (0 : Int32) (0 : Int32)) F (0 : Int32) w35_mok_23 mok_33 w35_mok_34) → ∀ (H : Heap) (locs : List Loc) (ls : Array Slot), va_P D vwCl (wM cI mo mor moi_0 moi_2 moi_4 moi_8 moi_9 moi_11 moi_12 moi_13 moi_17 moi_18 moi_20 moi_21 moi_24 moi_26 moi_28 moi_30 moi_31 moi_32 mok_1 mok_3 mok_5 mok_6 mok_7 mok_10 mok_14 mok_15 mok_16 mok_19 mok_22 w35_mok_23 mok_25 mok_27 mok_29 mok_33 w35_mok_34) H → va_D A (wM cI mo mor moi_0 moi_2 moi_4 moi_8 moi_9 moi_11 moi_12 moi_13 moi_17 moi_18 moi_20 moi_21 moi_24 moi_26 moi_28 moi_30 moi_31 moi_32 mok_1 mok_3 mok_5 mok_6 mok_7 mok_10 mok_14 mok_15 mok_16 mok_19 mok_22 w35_mok_23 mok_25 mok_27 mok_29 mok_33 w35_mok_34) → va_S A s.heap H locs → lv_has ls 5 [(0, .ref mo), (1, .int a1), (2, .int a2)] → W p l e ({ frames := 2, cells := 0, slots := 0, locals := 43 } : Room) s m args below meth c H locs 0 0 Q (F0 m 85 ls []) := by
    intro v35_3 w35_mok_23 w35_mok_34 he H locs ls hP hD hS hl
    refine lv_iconst (v := 0) hx hb dX7_oil_85 (by decide) ?_
    refine lv_istore_n (lv' := [(3, .int (0 : Int32)), (0, .ref mo), (1, .int a1), (2, .int a2)]) hx hb dX7_oil_86 rfl hl (by decide) rfl (fun ls hl => ?_)
    exact L87_74 F (0 : Int32) w35_mok_23 mok_33 w35_mok_34 he _ _ _ hP hD hS (lv_sub hl [0, 1, 2, 3] rfl)
  have L35_167 : ∀ (n35 : Nat) (v35_3 : Int32) (w35_mok_23 : Nat → Int32) (w35_mok_34 : Nat → Int32), fX7_oil F moi_13 moi_17 moi_18 moi_30 moi_31 mok_19 mok_22 mok_23 mok_33 mok_34 a1 a2 = fX7_oil_L35 moi_13 (fun (v35_3 : Int32) (w35_mok_23 : Nat → Int32) (w35_mok_34 : Nat → Int32) => fX7_oil_L87 moi_13 moi_17 moi_18 moi_30 moi_31 mok_19 a1 a2 F (fun (v87_3 : Int32) (w87_mok_23 : Nat → Int32) (w87_mok_33 : Nat → Int32) (w87_mok_34 : Nat → Int32) => fX7_oil_L169 moi_13 mok_22 w87_mok_34 (fun (v169_4 : Int32) (v169_3 : Int32) => some (v169_3, (w87_mok_23, w87_mok_33, w87_mok_34))) F (0 : Int32) (0 : Int32)) F (0 : Int32) w35_mok_23 mok_33 w35_mok_34) n35 v35_3 w35_mok_23 w35_mok_34 → ∀ (H : Heap) (locs : List Loc) (ls : Array Slot), va_P D vwCl (wM cI mo mor moi_0 moi_2 moi_4 moi_8 moi_9 moi_11 moi_12 moi_13 moi_17 moi_18 moi_20 moi_21 moi_24 moi_26 moi_28 moi_30 moi_31 moi_32 mok_1 mok_3 mok_5 mok_6 mok_7 mok_10 mok_14 mok_15 mok_16 mok_19 mok_22 w35_mok_23 mok_25 mok_27 mok_29 mok_33 w35_mok_34) H → va_D A (wM cI mo mor moi_0 moi_2 moi_4 moi_8 moi_9 moi_11 moi_12 moi_13 moi_17 moi_18 moi_20 moi_21 moi_24 moi_26 moi_28 moi_30 moi_31 moi_32 mok_1 mok_3 mok_5 mok_6 mok_7 mok_10 mok_14 mok_15 mok_16 mok_19 mok_22 w35_mok_23 mok_25 mok_27 mok_29 mok_33 w35_mok_34) → va_S A s.heap H locs → lv_has ls 5 [(3, .int v35_3), (0, .ref mo), (1, .int a1), (2, .int a2)] → W p l e ({ frames := 2, cells := 0, slots := 0, locals := 43 } : Room) s m args below meth c H locs 0 0 Q (F0 m 35 ls []) := by
    intro n35
    induction n35 with
    | zero => intro v35_3 w35_mok_23 w35_mok_34 he; exact absurd he hne
    | succ n35 ih35 =>
      intro v35_3 w35_mok_23 w35_mok_34 he H locs ls hP hD hS hl
      replace he := he.trans (fX7_oil_L35.eq_2 _ _ _ _ _ _)
      refine lv_iload_n hx hb dX7_oil_35 rfl (lv_at hl 0 rfl) ?_
      refine lv_aload_n hx hb dX7_oil_36 rfl (lv_at hl 1 rfl) ?_
      refine va_get (D := D) (ci := 7) (v := .int moi_13) (C := RX7) (T := TX7) (N := 35) hx hb hts hi_X7_oil_7 hown hK hP 0 wM_0 rfl 13 (by decide) (hts (.fieldLink RX7 71 "BlindLanternsModel" "men" "I") (List.mem_of_getElem? (i := 3) rfl)) (fun _ h9 => h9) xMf_13 dX7_oil_37 ?_
      refine lv_icmp_ge (tgt := 85) hx hb dX7_oil_40 (by decide) (fun c21 => ?_) (fun c21 => ?_)
      · replace he := he.trans (if_pos c21)
        exact R35_162 v35_3 w35_mok_23 w35_mok_34 he _ _ _ hP hD hS (lv_sub hl [1, 2, 3] rfl)
      · replace he := he.trans (if_neg c21)
        refine lv_aload_n hx hb dX7_oil_43 rfl (lv_at hl 1 rfl) ?_
        refine va_get (D := D) (ci := 7) (v := .ref (mor 23)) (C := RX7) (T := TX7) (N := 35) hx hb hts hi_X7_oil_7 hown hK hP 0 wM_0 rfl 23 (by decide) (hts (.fieldLink RX7 43 "BlindLanternsModel" "tried" "[I") (List.mem_of_getElem? (i := 2) rfl)) (fun _ h9 => h9) xMf_23 dX7_oil_44 ?_
        refine lv_bipush (v := 6) hx hb dX7_oil_47 (by decide) ?_
        refine lv_iload_n hx hb dX7_oil_49 rfl (lv_at hl 0 rfl) ?_
        refine lv_iadd hx hb dX7_oil_50 ?_
        refine lv_aload_n hx hb dX7_oil_51 rfl (lv_at hl 1 rfl) ?_
        refine va_get (D := D) (ci := 7) (v := .ref (mor 23)) (C := RX7) (T := TX7) (N := 35) hx hb hts hi_X7_oil_7 hown hK hP 0 wM_0 rfl 23 (by decide) (hts (.fieldLink RX7 43 "BlindLanternsModel" "tried" "[I") (List.mem_of_getElem? (i := 2) rfl)) (fun _ h9 => h9) xMf_23 dX7_oil_52 ?_
        refine lv_bipush (v := 12) hx hb dX7_oil_55 (by decide) ?_
        refine lv_iload_n hx hb dX7_oil_57 rfl (lv_at hl 0 rfl) ?_
        refine lv_iadd hx hb dX7_oil_58 ?_
        by_cases g22 : ((12 : Int32) + v35_3) < 0 ∨ 19 ≤ ((12 : Int32) + v35_3).toNatClampNeg
        · exact absurd (he.trans (if_pos g22)) hne
        replace he := he.trans (if_neg g22)
        refine va_iald hx hb hK hP 12 0 wM_a23 rfl g22 dX7_oil_59 ?_
        refine lv_iconst (v := 1) hx hb dX7_oil_60 (by decide) ?_
        refine lv_icmp_ne (tgt := 70) hx hb dX7_oil_61 (by decide) (fun c23 => ?_) (fun c23 => ?_)
        · replace he := he.trans (if_neg c23)
          refine lv_iconst (v := 0) hx hb dX7_oil_70 (by decide) ?_
          by_cases g24 : ((6 : Int32) + v35_3) < 0 ∨ 19 ≤ ((6 : Int32) + v35_3).toNatClampNeg
          · exact absurd (he.trans (if_pos g24)) hne
          replace he := he.trans (if_neg g24)
          refine va_iast hx hb hK hP hD hS 12 0 wM_a23 rfl g24 dX7_oil_71 (fun H locs hP hD hS => ?_)
          rw [wM_s23] at hP hD
          refine lv_aload_n hx hb dX7_oil_72 rfl (lv_at hl 1 rfl) ?_
          refine va_get (D := D) (ci := 7) (v := .ref (mor 34)) (C := RX7) (T := TX7) (N := 35) hx hb hts hi_X7_oil_7 hown hK hP 0 wM_0 rfl 34 (by decide) (hts (.fieldLink RX7 68 "BlindLanternsModel" "wanted" "[I") (List.mem_of_getElem? (i := 4) rfl)) (fun _ h9 => h9) xMf_34 dX7_oil_73 ?_
          refine lv_iload_n hx hb dX7_oil_76 rfl (lv_at hl 0 rfl) ?_
          refine lv_iconst (v := 0) hx hb dX7_oil_77 (by decide) ?_
          by_cases g25 : v35_3 < 0 ∨ 6 ≤ v35_3.toNatClampNeg
          · exact absurd (he.trans (if_pos g25)) hne
          replace he := he.trans (if_neg g25)
          refine va_iast hx hb hK hP hD hS 17 0 wM_a34 rfl g25 dX7_oil_78 (fun H locs hP hD hS => ?_)
          rw [wM_s34] at hP hD
          refine lv_iinc (v := (v35_3 + 1)) (lv' := [(3, .int (v35_3 + 1)), (0, .ref mo), (1, .int a1), (2, .int a2)]) hx hb dX7_oil_79 hl (k := 0) rfl rfl (by decide) rfl (fun ls hl => ?_)
          refine lv_goto (tgt := 35) hx hb dX7_oil_82 (by decide) ?_
          exact ih35 (v35_3 + 1) (upd w35_mok_23 ((6 : Int32) + v35_3).toNatClampNeg (0 : Int32)) (upd w35_mok_34 v35_3.toNatClampNeg (0 : Int32)) he _ _ _ hP hD hS (lv_sub hl [0, 1, 2, 3] rfl)
        · replace he := he.trans (if_pos c23)
          refine lv_sipush (v := 1000) hx hb dX7_oil_64 (by decide) ?_
          refine lv_goto (tgt := 71) hx hb dX7_oil_67 (by decide) ?_
          by_cases g26 : ((6 : Int32) + v35_3) < 0 ∨ 19 ≤ ((6 : Int32) + v35_3).toNatClampNeg
          · exact absurd (he.trans (if_pos g26)) hne
          replace he := he.trans (if_neg g26)
          refine va_iast hx hb hK hP hD hS 12 0 wM_a23 rfl g26 dX7_oil_71 (fun H locs hP hD hS => ?_)
          rw [wM_s23] at hP hD
          refine lv_aload_n hx hb dX7_oil_72 rfl (lv_at hl 1 rfl) ?_
          refine va_get (D := D) (ci := 7) (v := .ref (mor 34)) (C := RX7) (T := TX7) (N := 35) hx hb hts hi_X7_oil_7 hown hK hP 0 wM_0 rfl 34 (by decide) (hts (.fieldLink RX7 68 "BlindLanternsModel" "wanted" "[I") (List.mem_of_getElem? (i := 4) rfl)) (fun _ h9 => h9) xMf_34 dX7_oil_73 ?_
          refine lv_iload_n hx hb dX7_oil_76 rfl (lv_at hl 0 rfl) ?_
          refine lv_iconst (v := 0) hx hb dX7_oil_77 (by decide) ?_
          by_cases g27 : v35_3 < 0 ∨ 6 ≤ v35_3.toNatClampNeg
          · exact absurd (he.trans (if_pos g27)) hne
          replace he := he.trans (if_neg g27)
          refine va_iast hx hb hK hP hD hS 17 0 wM_a34 rfl g27 dX7_oil_78 (fun H locs hP hD hS => ?_)
          rw [wM_s34] at hP hD
          refine lv_iinc (v := (v35_3 + 1)) (lv' := [(3, .int (v35_3 + 1)), (0, .ref mo), (1, .int a1), (2, .int a2)]) hx hb dX7_oil_79 hl (k := 0) rfl rfl (by decide) rfl (fun ls hl => ?_)
          refine lv_goto (tgt := 35) hx hb dX7_oil_82 (by decide) ?_
          exact ih35 (v35_3 + 1) (upd w35_mok_23 ((6 : Int32) + v35_3).toNatClampNeg (1000 : Int32)) (upd w35_mok_34 v35_3.toNatClampNeg (0 : Int32)) he _ _ _ hP hD hS (lv_sub hl [0, 1, 2, 3] rfl)
  refine lv_aload_n hx hb dX7_oil_0 rfl (lv_at hl 0 rfl) ?_
  refine lv_iload_n hx hb dX7_oil_1 rfl (lv_at hl 1 rfl) ?_
  have n1_ : fX7_isSet moi_13 a1 ≠ none := fun z => hne (he.trans (xbd_none z))
  refine xciW (va_runV (As := [.int a1]) (rest := []) ⟨hx, hb, hml, hown, hts⟩ (c_X7_isSet l D cI cP s.heap.size mo mor moi_0 moi_2 moi_4 moi_8 moi_9 moi_11 moi_12 moi_13 moi_17 moi_18 moi_20 moi_21 moi_24 moi_26 moi_28 moi_30 moi_31 moi_32 mok_1 mok_3 mok_5 mok_6 mok_7 mok_10 mok_14 mok_15 mok_16 mok_19 mok_22 mok_23 mok_25 mok_27 mok_29 mok_33 mok_34 a1 n1_) (cwV 1 hts gX7_oil_X7_isSet rfl rfl rfl (by decide +kernel) ⟨Nat.le_of_ble_eq_true rfl, Nat.le_of_ble_eq_true rfl⟩) (xPVW hN hK hP hD (ci := 7) (j := 0) rfl wM_0) rfl rfl hl.1 rfl (lv_room (Nat.le_of_ble_eq_true rfl)) dX7_oil_2 ⟨Nat.le_of_ble_eq_true rfl, Nat.le_of_ble_eq_true rfl⟩) hD hS hA (fun r2 u2 H locs hw hP hD hS => ?_)
  have hP : va_P D vwCl (wM cI mo mor moi_0 moi_2 moi_4 moi_8 moi_9 moi_11 moi_12 moi_13 moi_17 moi_18 moi_20 moi_21 moi_24 moi_26 moi_28 moi_30 moi_31 moi_32 mok_1 mok_3 mok_5 mok_6 mok_7 mok_10 mok_14 mok_15 mok_16 mok_19 mok_22 mok_23 mok_25 mok_27 mok_29 mok_33 mok_34) H := hP
  have hD : va_D A (wM cI mo mor moi_0 moi_2 moi_4 moi_8 moi_9 moi_11 moi_12 moi_13 moi_17 moi_18 moi_20 moi_21 moi_24 moi_26 moi_28 moi_30 moi_31 moi_32 mok_1 mok_3 mok_5 mok_6 mok_7 mok_10 mok_14 mok_15 mok_16 mok_19 mok_22 mok_23 mok_25 mok_27 mok_29 mok_33 mok_34) := hD
  replace he := he.trans (xbd_some hw)
  refine lv_if_eq (tgt := 18) hx hb dX7_oil_5 (by decide) (fun c2 => ?_) (fun c2 => ?_)
  · replace he := he.trans (if_pos c2)
    refine lv_iconst (v := -1) hx hb dX7_oil_18 (by decide) ?_
    exact hret (-1 : Int32) (mok_23, mok_33, mok_34) _ _ _ _ dX7_oil_19 he hP hD hS
  · replace he := he.trans (if_neg c2)
    refine lv_iload_n hx hb dX7_oil_8 rfl (lv_at hl 2 rfl) ?_
    refine lv_iconst (v := 0) hx hb dX7_oil_9 (by decide) ?_
    refine lv_bipush (v := 20) hx hb dX7_oil_10 (by decide) ?_
    have n3_ : fX7_in a2 (0 : Int32) (20 : Int32) ≠ none := fun z => hne (he.trans (xbd_none z))
    refine xci0 (va_runS (As := [.int a2, .int (0 : Int32), .int (20 : Int32)]) (rest := []) ⟨hx, hb, hml, hown, hts⟩ (c_X7_in l D cI cP H.size  a2 (0 : Int32) (20 : Int32) n3_) (va_cwS 3 hts gX7_oil_X7_in rfl rfl rfl (by decide +kernel) ⟨Nat.le_of_ble_eq_true rfl, Nat.le_of_ble_eq_true rfl⟩) (xPS0 hN hK) rfl rfl hl.1 rfl (lv_room (Nat.le_of_ble_eq_true rfl)) dX7_oil_12 ⟨Nat.le_of_ble_eq_true rfl, Nat.le_of_ble_eq_true rfl⟩) hP hD hS hA (fun r12 u12 H locs hw hP hD hS => ?_)
    replace he := he.trans (xbd_some hw)
    refine lv_if_ne (tgt := 20) hx hb dX7_oil_15 (by decide) (fun c4 => ?_) (fun c4 => ?_)
    · replace he := he.trans (if_neg c4)
      refine lv_aload_n hx hb dX7_oil_20 rfl (lv_at hl 0 rfl) ?_
      refine va_get (D := D) (ci := 7) (v := .ref (mor 22)) (C := RX7) (T := TX7) (N := 35) hx hb hts hi_X7_oil_7 hown hK hP 0 wM_0 rfl 22 (by decide) (hts (.fieldLink RX7 40 "BlindLanternsModel" "now" "[I") (List.mem_of_getElem? (i := 1) rfl)) (fun _ h9 => h9) xMf_22 dX7_oil_21 ?_
      refine lv_iconst (v := 0) hx hb dX7_oil_24 (by decide) ?_
      refine lv_aload_n hx hb dX7_oil_25 rfl (lv_at hl 0 rfl) ?_
      refine va_get (D := D) (ci := 7) (v := .ref (mor 23)) (C := RX7) (T := TX7) (N := 35) hx hb hts hi_X7_oil_7 hown hK hP 0 wM_0 rfl 23 (by decide) (hts (.fieldLink RX7 43 "BlindLanternsModel" "tried" "[I") (List.mem_of_getElem? (i := 2) rfl)) (fun _ h9 => h9) xMf_23 dX7_oil_26 ?_
      refine lv_iconst (v := 0) hx hb dX7_oil_29 (by decide) ?_
      have n5_ : fX7_copy_now_tried F mok_22 mok_23 (0 : Int32) (0 : Int32) ≠ none := fun z => hne (he.trans (xbd_none z))
      refine xcvW (va_runS (As := [.ref (mor 22), .int (0 : Int32), .ref (mor 23), .int (0 : Int32)]) (rest := []) ⟨hx, hb, hml, hown, hts⟩ (c_X7_copy_now_tried l D cI cP H.size mo mor moi_0 moi_2 moi_4 moi_8 moi_9 moi_11 moi_12 moi_13 moi_17 moi_18 moi_20 moi_21 moi_24 moi_26 moi_28 moi_30 moi_31 moi_32 mok_1 mok_3 mok_5 mok_6 mok_7 mok_10 mok_14 mok_15 mok_16 mok_19 mok_22 mok_23 mok_25 mok_27 mok_29 mok_33 mok_34 F (0 : Int32) (0 : Int32) n5_) (va_cwS 4 hts gX7_oil_X7_copy rfl rfl rfl (by decide +kernel) ⟨Nat.le_of_ble_eq_true rfl, Nat.le_of_ble_eq_true rfl⟩) (xPSW hN hK hP hD) rfl rfl hl.1 rfl (lv_room (Nat.le_of_ble_eq_true rfl)) dX7_oil_30 ⟨Nat.le_of_ble_eq_true rfl, Nat.le_of_ble_eq_true rfl⟩) hD hS hA (fun u30 H locs hw hP hD hS => ?_)
      have hP : va_P D vwCl (wM cI mo mor moi_0 moi_2 moi_4 moi_8 moi_9 moi_11 moi_12 moi_13 moi_17 moi_18 moi_20 moi_21 moi_24 moi_26 moi_28 moi_30 moi_31 moi_32 mok_1 mok_3 mok_5 mok_6 mok_7 mok_10 mok_14 mok_15 mok_16 mok_19 mok_22 u30 mok_25 mok_27 mok_29 mok_33 mok_34) H := hP
      have hD : va_D A (wM cI mo mor moi_0 moi_2 moi_4 moi_8 moi_9 moi_11 moi_12 moi_13 moi_17 moi_18 moi_20 moi_21 moi_24 moi_26 moi_28 moi_30 moi_31 moi_32 mok_1 mok_3 mok_5 mok_6 mok_7 mok_10 mok_14 mok_15 mok_16 mok_19 mok_22 u30 mok_25 mok_27 mok_29 mok_33 mok_34) := hD
      replace he := he.trans (xbd_some hw)
      refine lv_iconst (v := 0) hx hb dX7_oil_33 (by decide) ?_
      refine lv_istore_n (lv' := [(3, .int (0 : Int32)), (0, .ref mo), (1, .int a1), (2, .int a2)]) hx hb dX7_oil_34 rfl hl (by decide) rfl (fun ls hl => ?_)
      exact L35_167 F (0 : Int32) u30 mok_34 he _ _ _ hP hD hS (lv_sub hl [0, 1, 2, 3] rfl)
    · replace he := he.trans (if_pos c4)
      refine lv_iconst (v := -1) hx hb dX7_oil_18 (by decide) ?_
      exact hret (-1 : Int32) (mok_23, mok_33, mok_34) _ _ _ _ dX7_oil_19 he hP hD hS

def fX7_night_L48 (moi_13 : Int32) (moi_17 : Int32) (moi_18 : Int32) (mok_19 : Nat → Int32) (a1 : Int32) (a2 : Int32) (F : Nat) (k48 : Int32 → Int32 → Int32 → (Nat → Int32) → (Nat → Int32) → Option (Int32 × Int32 × Int32 × (Nat → Int32) × (Nat → Int32))) : Nat → Int32 → Int32 → Int32 → (Nat → Int32) → (Nat → Int32) → Option (Int32 × Int32 × Int32 × (Nat → Int32) × (Nat → Int32))
  | 0, _, _, _, _, _ => none
  | n48 + 1, v48_4, w48_moi_30, w48_moi_31, w48_mok_23, w48_mok_33 => if a2 < v48_4 then (k48 v48_4 w48_moi_30 w48_moi_31 w48_mok_23 w48_mok_33) else (if (((((((((7919 : Int64) * a1.toInt64) + ((6151 : Int64) * v48_4.toInt64)) + (1 : Int64)) * ((((7919 : Int64) * a1.toInt64) + ((6151 : Int64) * v48_4.toInt64)) + (1 : Int64))) - (((((7919 : Int64) * a1.toInt64) + ((6151 : Int64) * v48_4.toInt64)) + (1 : Int64)) * ((((7919 : Int64) * a1.toInt64) + ((6151 : Int64) * v48_4.toInt64)) + (1 : Int64))) / (65521 : Int64) * (65521 : Int64)).toInt32) / (8 : Int32)) - ((((((((7919 : Int64) * a1.toInt64) + ((6151 : Int64) * v48_4.toInt64)) + (1 : Int64)) * ((((7919 : Int64) * a1.toInt64) + ((6151 : Int64) * v48_4.toInt64)) + (1 : Int64))) - (((((7919 : Int64) * a1.toInt64) + ((6151 : Int64) * v48_4.toInt64)) + (1 : Int64)) * ((((7919 : Int64) * a1.toInt64) + ((6151 : Int64) * v48_4.toInt64)) + (1 : Int64))) / (65521 : Int64) * (65521 : Int64)).toInt32) / (8 : Int32)) / (4 : Int32) * (4 : Int32)) = 0 then (if moi_13 = 0 then none else (xbd (fX7_ring_tried F moi_13 moi_17 moi_18 ((w48_mok_23 (18 : Int32).toNatClampNeg) + (1 : Int32)) ((((((((7919 : Int64) * a1.toInt64) + ((6151 : Int64) * v48_4.toInt64)) + (1 : Int64)) * ((((7919 : Int64) * a1.toInt64) + ((6151 : Int64) * v48_4.toInt64)) + (1 : Int64))) - (((((7919 : Int64) * a1.toInt64) + ((6151 : Int64) * v48_4.toInt64)) + (1 : Int64)) * ((((7919 : Int64) * a1.toInt64) + ((6151 : Int64) * v48_4.toInt64)) + (1 : Int64))) / (65521 : Int64) * (65521 : Int64)).toInt32) - (((((((7919 : Int64) * a1.toInt64) + ((6151 : Int64) * v48_4.toInt64)) + (1 : Int64)) * ((((7919 : Int64) * a1.toInt64) + ((6151 : Int64) * v48_4.toInt64)) + (1 : Int64))) - (((((7919 : Int64) * a1.toInt64) + ((6151 : Int64) * v48_4.toInt64)) + (1 : Int64)) * ((((7919 : Int64) * a1.toInt64) + ((6151 : Int64) * v48_4.toInt64)) + (1 : Int64))) / (65521 : Int64) * (65521 : Int64)).toInt32) / moi_13 * moi_13) mok_19 w48_mok_23 w48_mok_33) (fun (u127 : (Nat → Int32) × (Nat → Int32)) => fX7_night_L48 moi_13 moi_17 moi_18 mok_19 a1 a2 F k48 n48 (v48_4 + 1) ((w48_mok_23 (18 : Int32).toNatClampNeg) + (1 : Int32)) ((((((((7919 : Int64) * a1.toInt64) + ((6151 : Int64) * v48_4.toInt64)) + (1 : Int64)) * ((((7919 : Int64) * a1.toInt64) + ((6151 : Int64) * v48_4.toInt64)) + (1 : Int64))) - (((((7919 : Int64) * a1.toInt64) + ((6151 : Int64) * v48_4.toInt64)) + (1 : Int64)) * ((((7919 : Int64) * a1.toInt64) + ((6151 : Int64) * v48_4.toInt64)) + (1 : Int64))) / (65521 : Int64) * (65521 : Int64)).toInt32) - (((((((7919 : Int64) * a1.toInt64) + ((6151 : Int64) * v48_4.toInt64)) + (1 : Int64)) * ((((7919 : Int64) * a1.toInt64) + ((6151 : Int64) * v48_4.toInt64)) + (1 : Int64))) - (((((7919 : Int64) * a1.toInt64) + ((6151 : Int64) * v48_4.toInt64)) + (1 : Int64)) * ((((7919 : Int64) * a1.toInt64) + ((6151 : Int64) * v48_4.toInt64)) + (1 : Int64))) / (65521 : Int64) * (65521 : Int64)).toInt32) / moi_13 * moi_13) u127.1 u127.2))) else (if moi_13 = 0 then none else (xbd (fX7_ring_tried F moi_13 moi_17 moi_18 (-1 : Int32) ((((((((7919 : Int64) * a1.toInt64) + ((6151 : Int64) * v48_4.toInt64)) + (1 : Int64)) * ((((7919 : Int64) * a1.toInt64) + ((6151 : Int64) * v48_4.toInt64)) + (1 : Int64))) - (((((7919 : Int64) * a1.toInt64) + ((6151 : Int64) * v48_4.toInt64)) + (1 : Int64)) * ((((7919 : Int64) * a1.toInt64) + ((6151 : Int64) * v48_4.toInt64)) + (1 : Int64))) / (65521 : Int64) * (65521 : Int64)).toInt32) - (((((((7919 : Int64) * a1.toInt64) + ((6151 : Int64) * v48_4.toInt64)) + (1 : Int64)) * ((((7919 : Int64) * a1.toInt64) + ((6151 : Int64) * v48_4.toInt64)) + (1 : Int64))) - (((((7919 : Int64) * a1.toInt64) + ((6151 : Int64) * v48_4.toInt64)) + (1 : Int64)) * ((((7919 : Int64) * a1.toInt64) + ((6151 : Int64) * v48_4.toInt64)) + (1 : Int64))) / (65521 : Int64) * (65521 : Int64)).toInt32) / moi_13 * moi_13) mok_19 w48_mok_23 w48_mok_33) (fun (u127 : (Nat → Int32) × (Nat → Int32)) => fX7_night_L48 moi_13 moi_17 moi_18 mok_19 a1 a2 F k48 n48 (v48_4 + 1) (-1 : Int32) ((((((((7919 : Int64) * a1.toInt64) + ((6151 : Int64) * v48_4.toInt64)) + (1 : Int64)) * ((((7919 : Int64) * a1.toInt64) + ((6151 : Int64) * v48_4.toInt64)) + (1 : Int64))) - (((((7919 : Int64) * a1.toInt64) + ((6151 : Int64) * v48_4.toInt64)) + (1 : Int64)) * ((((7919 : Int64) * a1.toInt64) + ((6151 : Int64) * v48_4.toInt64)) + (1 : Int64))) / (65521 : Int64) * (65521 : Int64)).toInt32) - (((((((7919 : Int64) * a1.toInt64) + ((6151 : Int64) * v48_4.toInt64)) + (1 : Int64)) * ((((7919 : Int64) * a1.toInt64) + ((6151 : Int64) * v48_4.toInt64)) + (1 : Int64))) - (((((7919 : Int64) * a1.toInt64) + ((6151 : Int64) * v48_4.toInt64)) + (1 : Int64)) * ((((7919 : Int64) * a1.toInt64) + ((6151 : Int64) * v48_4.toInt64)) + (1 : Int64))) / (65521 : Int64) * (65521 : Int64)).toInt32) / moi_13 * moi_13) u127.1 u127.2))))
def fX7_night (F : Nat) (moi_13 : Int32) (moi_17 : Int32) (moi_18 : Int32) (moi_30 : Int32) (moi_31 : Int32) (mok_19 : Nat → Int32) (mok_22 : Nat → Int32) (mok_23 : Nat → Int32) (mok_33 : Nat → Int32) (a1 : Int32) (a2 : Int32) (a3 : Int32) : Option (Int32 × Int32 × Int32 × (Nat → Int32) × (Nat → Int32)) :=
  xbd (fX7_in a1 (0 : Int32) (9999 : Int32)) (fun (r5 : Int32) => if r5 = 0 then (some ((-1 : Int32), (moi_30, moi_31, mok_23, mok_33))) else (xbd (fX7_in a2 (1 : Int32) (60 : Int32)) (fun (r15 : Int32) => if r15 = 0 then (some ((-1 : Int32), (moi_30, moi_31, mok_23, mok_33))) else (xbd (fX7_in a3 (0 : Int32) (1 : Int32)) (fun (r24 : Int32) => if r24 = 0 then (some ((-1 : Int32), (moi_30, moi_31, mok_23, mok_33))) else (xbd (fX7_copy_now_tried F mok_22 mok_23 (0 : Int32) (0 : Int32)) (fun (u42 : (Nat → Int32)) => fX7_night_L48 moi_13 moi_17 moi_18 mok_19 a1 a2 F (fun (v48_4 : Int32) (w48_moi_30 : Int32) (w48_moi_31 : Int32) (w48_mok_23 : Nat → Int32) (w48_mok_33 : Nat → Int32) => if a3 = 0 then (xbd (fX7_litOf_tried F moi_13 w48_mok_23) (fun (r150 : Int32) => some (r150, ((-1 : Int32), w48_moi_31, w48_mok_23, w48_mok_33)))) else (xbd (fX7_oilOf_tried F moi_13 w48_mok_23) (fun (r161 : Int32) => some (r161, ((-1 : Int32), w48_moi_31, w48_mok_23, w48_mok_33))))) F (1 : Int32) moi_30 moi_31 u42 mok_33)))))))
theorem hi_X7_night_7 : ∀ w ∈ wsX70, w ∈ wsX7_night := fun _ h => (List.mem_cons_of_mem _ (List.mem_append_right _ h))
set_option maxHeartbeats 4000000 in
set_option maxRecDepth 100000 in
theorem c_X7_night (l : Launch) (D : va_G) (cI cP : ClassId) (sz : Nat) (mo : Nat) (mor : Nat → Nat) (moi_0 : Int32) (moi_2 : Int32) (moi_4 : Int32) (moi_8 : Int32) (moi_9 : Int32) (moi_11 : Int32) (moi_12 : Int32) (moi_13 : Int32) (moi_17 : Int32) (moi_18 : Int32) (moi_20 : Int32) (moi_21 : Int32) (moi_24 : Int32) (moi_26 : Int32) (moi_28 : Int32) (moi_30 : Int32) (moi_31 : Int32) (moi_32 : Int32) (mok_1 : Nat → Int32) (mok_3 : Nat → Int32) (mok_5 : Nat → Int32) (mok_6 : Nat → Int32) (mok_7 : Nat → Int32) (mok_10 : Nat → Int32) (mok_14 : Nat → Int32) (mok_15 : Nat → Int32) (mok_16 : Nat → Int32) (mok_19 : Nat → Int32) (mok_22 : Nat → Int32) (mok_23 : Nat → Int32) (mok_25 : Nat → Int32) (mok_27 : Nat → Int32) (mok_29 : Nat → Int32) (mok_33 : Nat → Int32) (mok_34 : Nat → Int32) (F : Nat) (a1 : Int32) (a2 : Int32) (a3 : Int32) (hne : fX7_night F moi_13 moi_17 moi_18 moi_30 moi_31 mok_19 mok_22 mok_23 mok_33 a1 a2 a3 ≠ none) : xMi l yX7_night wsX7_night ({ frames := 1, cells := 0, slots := 0, locals := 24 } : Room) D (xT cI cP) [.ref mo, .int a1, .int a2, .int a3] (wM cI mo mor moi_0 moi_2 moi_4 moi_8 moi_9 moi_11 moi_12 moi_13 moi_17 moi_18 moi_20 moi_21 moi_24 moi_26 moi_28 moi_30 moi_31 moi_32 mok_1 mok_3 mok_5 mok_6 mok_7 mok_10 mok_14 mok_15 mok_16 mok_19 mok_22 mok_23 mok_25 mok_27 mok_29 mok_33 mok_34) sz (fun r (u : (Int32 × Int32 × (Nat → Int32) × (Nat → Int32))) => fX7_night F moi_13 moi_17 moi_18 moi_30 moi_31 mok_19 mok_22 mok_23 mok_33 a1 a2 a3 = some (r, u)) (fun u => wM cI mo mor moi_0 moi_2 moi_4 moi_8 moi_9 moi_11 moi_12 moi_13 moi_17 moi_18 moi_20 moi_21 moi_24 moi_26 moi_28 u.1 u.2.1 moi_32 mok_1 mok_3 mok_5 mok_6 mok_7 mok_10 mok_14 mok_15 mok_16 mok_19 mok_22 u.2.2.1 mok_25 mok_27 mok_29 u.2.2.2 mok_34) 0 0 := by
  refine xMi_of (cc := cX7_night) (maxL := 8) (by decide +kernel) rfl (Nat.le_of_ble_eq_true rfl) ?_
  intro p e s m args below meth c A ls hx hb hml hown hts hname hN hK hA hP hD hS hl Q hret
  have he := fX7_night.eq_1 F moi_13 moi_17 moi_18 moi_30 moi_31 mok_19 mok_22 mok_23 mok_33 a1 a2 a3
  have hl : lv_has ls 8 [(0, .ref mo), (1, .int a1), (2, .int a2), (3, .int a3)] := hl
  have R48_0 : ∀ (v48_4 : Int32) (w48_moi_30 : Int32) (w48_moi_31 : Int32) (w48_mok_23 : Nat → Int32) (w48_mok_33 : Nat → Int32), fX7_night F moi_13 moi_17 moi_18 moi_30 moi_31 mok_19 mok_22 mok_23 mok_33 a1 a2 a3 = (if a3 = 0 then (xbd (fX7_litOf_tried F moi_13 w48_mok_23) (fun (r150 : Int32) => some (r150, ((-1 : Int32), w48_moi_31, w48_mok_23, w48_mok_33)))) else (xbd (fX7_oilOf_tried F moi_13 w48_mok_23) (fun (r161 : Int32) => some (r161, ((-1 : Int32), w48_moi_31, w48_mok_23, w48_mok_33))))) → ∀ (H : Heap) (locs : List Loc) (ls : Array Slot), va_P D vwCl (wM cI mo mor moi_0 moi_2 moi_4 moi_8 moi_9 moi_11 moi_12 moi_13 moi_17 moi_18 moi_20 moi_21 moi_24 moi_26 moi_28 w48_moi_30 w48_moi_31 moi_32 mok_1 mok_3 mok_5 mok_6 mok_7 mok_10 mok_14 mok_15 mok_16 mok_19 mok_22 w48_mok_23 mok_25 mok_27 mok_29 w48_mok_33 mok_34) H → va_D A (wM cI mo mor moi_0 moi_2 moi_4 moi_8 moi_9 moi_11 moi_12 moi_13 moi_17 moi_18 moi_20 moi_21 moi_24 moi_26 moi_28 w48_moi_30 w48_moi_31 moi_32 mok_1 mok_3 mok_5 mok_6 mok_7 mok_10 mok_14 mok_15 mok_16 mok_19 mok_22 w48_mok_23 mok_25 mok_27 mok_29 w48_mok_33 mok_34) → va_S A s.heap H locs → lv_has ls 8 [(0, .ref mo), (3, .int a3)] → W p l e ({ frames := 1, cells := 0, slots := 0, locals := 24 } : Room) s m args below meth c H locs 0 0 Q (F0 m 136 ls []) := by
    intro v48_4 w48_moi_30 w48_moi_31 w48_mok_23 w48_mok_33 he H locs ls hP hD hS hl
    refine lv_aload_n hx hb dX7_night_136 rfl (lv_at hl 0 rfl) ?_
    refine lv_iconst (v := -1) hx hb dX7_night_137 (by decide) ?_
    refine va_put (D := D) (ci := 7) (v := .int (-1 : Int32)) (ty := .int) (C := RX7) (T := TX7) (N := 35) hx hb hts hi_X7_night_7 tyX7 tyX7_ok nmX7 hown hK hP hD hS 0 wM_0 rfl 30 (by decide) (hts (.fieldLink RX7 55 "BlindLanternsModel" "atBell" "I") (List.mem_of_getElem? (i := 6) rfl)) (fun _ h9 => h9) rfl (by decide +kernel) rfl rfl (Nat.le_of_ble_eq_true rfl) dX7_night_138 (fun H locs hP hD hS => ?_)
    rw [wM_p30] at hP hD
    refine lv_iload_n hx hb dX7_night_141 rfl (lv_at hl 1 rfl) ?_
    refine lv_if_ne (tgt := 156) hx hb dX7_night_142 (by decide) (fun c8 => ?_) (fun c8 => ?_)
    · replace he := he.trans (if_neg c8)
      refine lv_aload_n hx hb dX7_night_156 rfl (lv_at hl 0 rfl) ?_
      refine lv_aload_n hx hb dX7_night_157 rfl (lv_at hl 0 rfl) ?_
      refine va_get (D := D) (ci := 7) (v := .ref (mor 23)) (C := RX7) (T := TX7) (N := 35) hx hb hts hi_X7_night_7 hown hK hP 0 wM_0 rfl 23 (by decide) (hts (.fieldLink RX7 43 "BlindLanternsModel" "tried" "[I") (List.mem_of_getElem? (i := 2) rfl)) (fun _ h9 => h9) xMf_23 dX7_night_158 ?_
      have n9_ : fX7_oilOf_tried F moi_13 w48_mok_23 ≠ none := fun z => hne (he.trans (xbd_none z))
      refine xciW (va_runV (As := [.ref (mor 23)]) (rest := []) ⟨hx, hb, hml, hown, hts⟩ (c_X7_oilOf_tried l D cI cP H.size mo mor moi_0 moi_2 moi_4 moi_8 moi_9 moi_11 moi_12 moi_13 moi_17 moi_18 moi_20 moi_21 moi_24 moi_26 moi_28 (-1 : Int32) w48_moi_31 moi_32 mok_1 mok_3 mok_5 mok_6 mok_7 mok_10 mok_14 mok_15 mok_16 mok_19 mok_22 w48_mok_23 mok_25 mok_27 mok_29 w48_mok_33 mok_34 F  n9_) (cwV 1 hts gX7_night_X7_oilOf rfl rfl rfl (by decide +kernel) ⟨Nat.le_of_ble_eq_true rfl, Nat.le_of_ble_eq_true rfl⟩) (xPVW hN hK hP hD (ci := 7) (j := 0) rfl wM_0) rfl rfl hl.1 rfl (lv_room (Nat.le_of_ble_eq_true rfl)) dX7_night_161 ⟨Nat.le_of_ble_eq_true rfl, Nat.le_of_ble_eq_true rfl⟩) hD hS hA (fun r161 u161 H locs hw hP hD hS => ?_)
      have hP : va_P D vwCl (wM cI mo mor moi_0 moi_2 moi_4 moi_8 moi_9 moi_11 moi_12 moi_13 moi_17 moi_18 moi_20 moi_21 moi_24 moi_26 moi_28 (-1 : Int32) w48_moi_31 moi_32 mok_1 mok_3 mok_5 mok_6 mok_7 mok_10 mok_14 mok_15 mok_16 mok_19 mok_22 w48_mok_23 mok_25 mok_27 mok_29 w48_mok_33 mok_34) H := hP
      have hD : va_D A (wM cI mo mor moi_0 moi_2 moi_4 moi_8 moi_9 moi_11 moi_12 moi_13 moi_17 moi_18 moi_20 moi_21 moi_24 moi_26 moi_28 (-1 : Int32) w48_moi_31 moi_32 mok_1 mok_3 mok_5 mok_6 mok_7 mok_10 mok_14 mok_15 mok_16 mok_19 mok_22 w48_mok_23 mok_25 mok_27 mok_29 w48_mok_33 mok_34) := hD
      replace he := he.trans (xbd_some hw)
      exact hret r161 ((-1 : Int32), w48_moi_31, w48_mok_23, w48_mok_33) _ _ _ _ dX7_night_164 he hP hD hS
    · replace he := he.trans (if_pos c8)
      refine lv_aload_n hx hb dX7_night_145 rfl (lv_at hl 0 rfl) ?_
      refine lv_aload_n hx hb dX7_night_146 rfl (lv_at hl 0 rfl) ?_
      refine va_get (D := D) (ci := 7) (v := .ref (mor 23)) (C := RX7) (T := TX7) (N := 35) hx hb hts hi_X7_night_7 hown hK hP 0 wM_0 rfl 23 (by decide) (hts (.fieldLink RX7 43 "BlindLanternsModel" "tried" "[I") (List.mem_of_getElem? (i := 2) rfl)) (fun _ h9 => h9) xMf_23 dX7_night_147 ?_
      have n10_ : fX7_litOf_tried F moi_13 w48_mok_23 ≠ none := fun z => hne (he.trans (xbd_none z))
      refine xciW (va_runV (As := [.ref (mor 23)]) (rest := []) ⟨hx, hb, hml, hown, hts⟩ (c_X7_litOf_tried l D cI cP H.size mo mor moi_0 moi_2 moi_4 moi_8 moi_9 moi_11 moi_12 moi_13 moi_17 moi_18 moi_20 moi_21 moi_24 moi_26 moi_28 (-1 : Int32) w48_moi_31 moi_32 mok_1 mok_3 mok_5 mok_6 mok_7 mok_10 mok_14 mok_15 mok_16 mok_19 mok_22 w48_mok_23 mok_25 mok_27 mok_29 w48_mok_33 mok_34 F  n10_) (cwV 1 hts gX7_night_X7_litOf rfl rfl rfl (by decide +kernel) ⟨Nat.le_of_ble_eq_true rfl, Nat.le_of_ble_eq_true rfl⟩) (xPVW hN hK hP hD (ci := 7) (j := 0) rfl wM_0) rfl rfl hl.1 rfl (lv_room (Nat.le_of_ble_eq_true rfl)) dX7_night_150 ⟨Nat.le_of_ble_eq_true rfl, Nat.le_of_ble_eq_true rfl⟩) hD hS hA (fun r150 u150 H locs hw hP hD hS => ?_)
      have hP : va_P D vwCl (wM cI mo mor moi_0 moi_2 moi_4 moi_8 moi_9 moi_11 moi_12 moi_13 moi_17 moi_18 moi_20 moi_21 moi_24 moi_26 moi_28 (-1 : Int32) w48_moi_31 moi_32 mok_1 mok_3 mok_5 mok_6 mok_7 mok_10 mok_14 mok_15 mok_16 mok_19 mok_22 w48_mok_23 mok_25 mok_27 mok_29 w48_mok_33 mok_34) H := hP
      have hD : va_D A (wM cI mo mor moi_0 moi_2 moi_4 moi_8 moi_9 moi_11 moi_12 moi_13 moi_17 moi_18 moi_20 moi_21 moi_24 moi_26 moi_28 (-1 : Int32) w48_moi_31 moi_32 mok_1 mok_3 mok_5 mok_6 mok_7 mok_10 mok_14 mok_15 mok_16 mok_19 mok_22 w48_mok_23 mok_25 mok_27 mok_29 w48_mok_33 mok_34) := hD
      replace he := he.trans (xbd_some hw)
      refine lv_goto (tgt := 164) hx hb dX7_night_153 (by decide) ?_
      exact hret r150 ((-1 : Int32), w48_moi_31, w48_mok_23, w48_mok_33) _ _ _ _ dX7_night_164 he hP hD hS
  have L48_29 : ∀ (n48 : Nat) (v48_4 : Int32) (w48_moi_30 : Int32) (w48_moi_31 : Int32) (w48_mok_23 : Nat → Int32) (w48_mok_33 : Nat → Int32), fX7_night F moi_13 moi_17 moi_18 moi_30 moi_31 mok_19 mok_22 mok_23 mok_33 a1 a2 a3 = fX7_night_L48 moi_13 moi_17 moi_18 mok_19 a1 a2 F (fun (v48_4 : Int32) (w48_moi_30 : Int32) (w48_moi_31 : Int32) (w48_mok_23 : Nat → Int32) (w48_mok_33 : Nat → Int32) => if a3 = 0 then (xbd (fX7_litOf_tried F moi_13 w48_mok_23) (fun (r150 : Int32) => some (r150, ((-1 : Int32), w48_moi_31, w48_mok_23, w48_mok_33)))) else (xbd (fX7_oilOf_tried F moi_13 w48_mok_23) (fun (r161 : Int32) => some (r161, ((-1 : Int32), w48_moi_31, w48_mok_23, w48_mok_33))))) n48 v48_4 w48_moi_30 w48_moi_31 w48_mok_23 w48_mok_33 → ∀ (H : Heap) (locs : List Loc) (ls : Array Slot), va_P D vwCl (wM cI mo mor moi_0 moi_2 moi_4 moi_8 moi_9 moi_11 moi_12 moi_13 moi_17 moi_18 moi_20 moi_21 moi_24 moi_26 moi_28 w48_moi_30 w48_moi_31 moi_32 mok_1 mok_3 mok_5 mok_6 mok_7 mok_10 mok_14 mok_15 mok_16 mok_19 mok_22 w48_mok_23 mok_25 mok_27 mok_29 w48_mok_33 mok_34) H → va_D A (wM cI mo mor moi_0 moi_2 moi_4 moi_8 moi_9 moi_11 moi_12 moi_13 moi_17 moi_18 moi_20 moi_21 moi_24 moi_26 moi_28 w48_moi_30 w48_moi_31 moi_32 mok_1 mok_3 mok_5 mok_6 mok_7 mok_10 mok_14 mok_15 mok_16 mok_19 mok_22 w48_mok_23 mok_25 mok_27 mok_29 w48_mok_33 mok_34) → va_S A s.heap H locs → lv_has ls 8 [(4, .int v48_4), (0, .ref mo), (1, .int a1), (2, .int a2), (3, .int a3)] → W p l e ({ frames := 1, cells := 0, slots := 0, locals := 24 } : Room) s m args below meth c H locs 0 0 Q (F0 m 48 ls []) := by
    intro n48
    induction n48 with
    | zero => intro v48_4 w48_moi_30 w48_moi_31 w48_mok_23 w48_mok_33 he; exact absurd he hne
    | succ n48 ih48 =>
      intro v48_4 w48_moi_30 w48_moi_31 w48_mok_23 w48_mok_33 he H locs ls hP hD hS hl
      replace he := he.trans (fX7_night_L48.eq_2 _ _ _ _ _ _ _ _ _ _ _ _ _ _)
      refine lv_iload hx hb dX7_night_48 (lv_at hl 0 rfl) ?_
      refine lv_iload_n hx hb dX7_night_50 rfl (lv_at hl 3 rfl) ?_
      refine lv_icmp_gt (tgt := 136) hx hb dX7_night_51 (by decide) (fun c11 => ?_) (fun c11 => ?_)
      · replace he := he.trans (if_pos c11)
        exact R48_0 v48_4 w48_moi_30 w48_moi_31 w48_mok_23 w48_mok_33 he _ _ _ hP hD hS (lv_sub hl [1, 4] rfl)
      · replace he := he.trans (if_neg c11)
        refine lv_ldc2 hx hb hown (hts (.constantLong RX7 203 (7919)) (List.mem_of_getElem? (i := 3) rfl)) dX7_night_54 ?_
        refine lv_iload_n hx hb dX7_night_57 rfl (lv_at hl 2 rfl) ?_
        refine lv_i2l hx hb dX7_night_58 rfl ?_
        refine lv_lmul hx hb dX7_night_59 ?_
        refine lv_ldc2 hx hb hown (hts (.constantLong RX7 205 (6151)) (List.mem_of_getElem? (i := 4) rfl)) dX7_night_60 ?_
        refine lv_iload hx hb dX7_night_63 (lv_at hl 0 rfl) ?_
        refine lv_i2l hx hb dX7_night_65 rfl ?_
        refine lv_lmul hx hb dX7_night_66 ?_
        refine lv_ladd hx hb dX7_night_67 ?_
        refine lv_lconst (v := 1) hx hb dX7_night_68 (by decide) ?_
        refine lv_ladd hx hb dX7_night_69 ?_
        refine lv_lstore (lv' := [(5, .long ((((7919 : Int64) * a1.toInt64) + ((6151 : Int64) * v48_4.toInt64)) + (1 : Int64))), (4, .int v48_4), (0, .ref mo), (1, .int a1), (2, .int a2), (3, .int a3)]) hx hb dX7_night_70 hl (by decide) rfl (fun ls hl => ?_)
        refine lv_lload hx hb dX7_night_72 (lv_at hl 0 rfl) ?_
        refine lv_lload hx hb dX7_night_74 (lv_at hl 0 rfl) ?_
        refine lv_lmul hx hb dX7_night_76 ?_
        refine lv_ldc2 hx hb hown (hts (.constantLong RX7 207 (65521)) (List.mem_of_getElem? (i := 5) rfl)) dX7_night_77 ?_
        refine lv_lrem hx hb dX7_night_80 (by decide) ?_
        refine lv_l2i hx hb dX7_night_81 rfl ?_
        refine lv_istore (lv' := [(7, .int (((((((7919 : Int64) * a1.toInt64) + ((6151 : Int64) * v48_4.toInt64)) + (1 : Int64)) * ((((7919 : Int64) * a1.toInt64) + ((6151 : Int64) * v48_4.toInt64)) + (1 : Int64))) - (((((7919 : Int64) * a1.toInt64) + ((6151 : Int64) * v48_4.toInt64)) + (1 : Int64)) * ((((7919 : Int64) * a1.toInt64) + ((6151 : Int64) * v48_4.toInt64)) + (1 : Int64))) / (65521 : Int64) * (65521 : Int64)).toInt32)), (5, .long ((((7919 : Int64) * a1.toInt64) + ((6151 : Int64) * v48_4.toInt64)) + (1 : Int64))), (4, .int v48_4), (0, .ref mo), (1, .int a1), (2, .int a2), (3, .int a3)]) hx hb dX7_night_82 hl (by decide) rfl (fun ls hl => ?_)
        refine lv_aload_n hx hb dX7_night_84 rfl (lv_at hl 3 rfl) ?_
        refine lv_iload hx hb dX7_night_85 (lv_at hl 0 rfl) ?_
        refine lv_bipush (v := 8) hx hb dX7_night_87 (by decide) ?_
        refine lv_idiv hx hb dX7_night_89 (by decide) ?_
        refine lv_iconst (v := 4) hx hb dX7_night_90 (by decide) ?_
        refine lv_irem hx hb dX7_night_91 (by decide) ?_
        refine lv_if_ne (tgt := 107) hx hb dX7_night_92 (by decide) (fun c12 => ?_) (fun c12 => ?_)
        · replace he := he.trans (if_neg c12)
          refine lv_iconst (v := -1) hx hb dX7_night_107 (by decide) ?_
          refine va_put (D := D) (ci := 7) (v := .int (-1 : Int32)) (ty := .int) (C := RX7) (T := TX7) (N := 35) hx hb hts hi_X7_night_7 tyX7 tyX7_ok nmX7 hown hK hP hD hS 0 wM_0 rfl 30 (by decide) (hts (.fieldLink RX7 55 "BlindLanternsModel" "atBell" "I") (List.mem_of_getElem? (i := 6) rfl)) (fun _ h9 => h9) rfl (by decide +kernel) rfl rfl (Nat.le_of_ble_eq_true rfl) dX7_night_108 (fun H locs hP hD hS => ?_)
          rw [wM_p30] at hP hD
          refine lv_aload_n hx hb dX7_night_111 rfl (lv_at hl 3 rfl) ?_
          refine lv_iload hx hb dX7_night_112 (lv_at hl 0 rfl) ?_
          refine lv_aload_n hx hb dX7_night_114 rfl (lv_at hl 3 rfl) ?_
          refine va_get (D := D) (ci := 7) (v := .int moi_13) (C := RX7) (T := TX7) (N := 35) hx hb hts hi_X7_night_7 hown hK hP 0 wM_0 rfl 13 (by decide) (hts (.fieldLink RX7 71 "BlindLanternsModel" "men" "I") (List.mem_of_getElem? (i := 7) rfl)) (fun _ h9 => h9) xMf_13 dX7_night_115 ?_
          by_cases g13 : moi_13 = 0
          · exact absurd (he.trans (if_pos g13)) hne
          replace he := he.trans (if_neg g13)
          refine lv_irem hx hb dX7_night_118 g13 ?_
          refine va_put (D := D) (ci := 7) (v := .int ((((((((7919 : Int64) * a1.toInt64) + ((6151 : Int64) * v48_4.toInt64)) + (1 : Int64)) * ((((7919 : Int64) * a1.toInt64) + ((6151 : Int64) * v48_4.toInt64)) + (1 : Int64))) - (((((7919 : Int64) * a1.toInt64) + ((6151 : Int64) * v48_4.toInt64)) + (1 : Int64)) * ((((7919 : Int64) * a1.toInt64) + ((6151 : Int64) * v48_4.toInt64)) + (1 : Int64))) / (65521 : Int64) * (65521 : Int64)).toInt32) - (((((((7919 : Int64) * a1.toInt64) + ((6151 : Int64) * v48_4.toInt64)) + (1 : Int64)) * ((((7919 : Int64) * a1.toInt64) + ((6151 : Int64) * v48_4.toInt64)) + (1 : Int64))) - (((((7919 : Int64) * a1.toInt64) + ((6151 : Int64) * v48_4.toInt64)) + (1 : Int64)) * ((((7919 : Int64) * a1.toInt64) + ((6151 : Int64) * v48_4.toInt64)) + (1 : Int64))) / (65521 : Int64) * (65521 : Int64)).toInt32) / moi_13 * moi_13)) (ty := .int) (C := RX7) (T := TX7) (N := 35) hx hb hts hi_X7_night_7 tyX7 tyX7_ok nmX7 hown hK hP hD hS 0 wM_0 rfl 31 (by decide) (hts (.fieldLink RX7 59 "BlindLanternsModel" "atPost" "I") (List.mem_of_getElem? (i := 8) rfl)) (fun _ h9 => h9) rfl (by decide +kernel) rfl rfl (Nat.le_of_ble_eq_true rfl) dX7_night_119 (fun H locs hP hD hS => ?_)
          rw [wM_p31] at hP hD
          refine lv_aload_n hx hb dX7_night_122 rfl (lv_at hl 3 rfl) ?_
          refine lv_aload_n hx hb dX7_night_123 rfl (lv_at hl 3 rfl) ?_
          refine va_get (D := D) (ci := 7) (v := .ref (mor 23)) (C := RX7) (T := TX7) (N := 35) hx hb hts hi_X7_night_7 hown hK hP 0 wM_0 rfl 23 (by decide) (hts (.fieldLink RX7 43 "BlindLanternsModel" "tried" "[I") (List.mem_of_getElem? (i := 2) rfl)) (fun _ h9 => h9) xMf_23 dX7_night_124 ?_
          have n14_ : fX7_ring_tried F moi_13 moi_17 moi_18 (-1 : Int32) ((((((((7919 : Int64) * a1.toInt64) + ((6151 : Int64) * v48_4.toInt64)) + (1 : Int64)) * ((((7919 : Int64) * a1.toInt64) + ((6151 : Int64) * v48_4.toInt64)) + (1 : Int64))) - (((((7919 : Int64) * a1.toInt64) + ((6151 : Int64) * v48_4.toInt64)) + (1 : Int64)) * ((((7919 : Int64) * a1.toInt64) + ((6151 : Int64) * v48_4.toInt64)) + (1 : Int64))) / (65521 : Int64) * (65521 : Int64)).toInt32) - (((((((7919 : Int64) * a1.toInt64) + ((6151 : Int64) * v48_4.toInt64)) + (1 : Int64)) * ((((7919 : Int64) * a1.toInt64) + ((6151 : Int64) * v48_4.toInt64)) + (1 : Int64))) - (((((7919 : Int64) * a1.toInt64) + ((6151 : Int64) * v48_4.toInt64)) + (1 : Int64)) * ((((7919 : Int64) * a1.toInt64) + ((6151 : Int64) * v48_4.toInt64)) + (1 : Int64))) / (65521 : Int64) * (65521 : Int64)).toInt32) / moi_13 * moi_13) mok_19 w48_mok_23 w48_mok_33 ≠ none := fun z => hne (he.trans (xbd_none z))
          refine xcvW (va_runV (As := [.ref (mor 23)]) (rest := []) ⟨hx, hb, hml, hown, hts⟩ (c_X7_ring_tried l D cI cP H.size mo mor moi_0 moi_2 moi_4 moi_8 moi_9 moi_11 moi_12 moi_13 moi_17 moi_18 moi_20 moi_21 moi_24 moi_26 moi_28 (-1 : Int32) ((((((((7919 : Int64) * a1.toInt64) + ((6151 : Int64) * v48_4.toInt64)) + (1 : Int64)) * ((((7919 : Int64) * a1.toInt64) + ((6151 : Int64) * v48_4.toInt64)) + (1 : Int64))) - (((((7919 : Int64) * a1.toInt64) + ((6151 : Int64) * v48_4.toInt64)) + (1 : Int64)) * ((((7919 : Int64) * a1.toInt64) + ((6151 : Int64) * v48_4.toInt64)) + (1 : Int64))) / (65521 : Int64) * (65521 : Int64)).toInt32) - (((((((7919 : Int64) * a1.toInt64) + ((6151 : Int64) * v48_4.toInt64)) + (1 : Int64)) * ((((7919 : Int64) * a1.toInt64) + ((6151 : Int64) * v48_4.toInt64)) + (1 : Int64))) - (((((7919 : Int64) * a1.toInt64) + ((6151 : Int64) * v48_4.toInt64)) + (1 : Int64)) * ((((7919 : Int64) * a1.toInt64) + ((6151 : Int64) * v48_4.toInt64)) + (1 : Int64))) / (65521 : Int64) * (65521 : Int64)).toInt32) / moi_13 * moi_13) moi_32 mok_1 mok_3 mok_5 mok_6 mok_7 mok_10 mok_14 mok_15 mok_16 mok_19 mok_22 w48_mok_23 mok_25 mok_27 mok_29 w48_mok_33 mok_34 F  n14_) (cwV 1 hts gX7_night_X7_ring rfl rfl rfl (by decide +kernel) ⟨Nat.le_of_ble_eq_true rfl, Nat.le_of_ble_eq_true rfl⟩) (xPVW hN hK hP hD (ci := 7) (j := 0) rfl wM_0) rfl rfl hl.1 rfl (lv_room (Nat.le_of_ble_eq_true rfl)) dX7_night_127 ⟨Nat.le_of_ble_eq_true rfl, Nat.le_of_ble_eq_true rfl⟩) hD hS hA (fun u127 H locs hw hP hD hS => ?_)
          have hP : va_P D vwCl (wM cI mo mor moi_0 moi_2 moi_4 moi_8 moi_9 moi_11 moi_12 moi_13 moi_17 moi_18 moi_20 moi_21 moi_24 moi_26 moi_28 (-1 : Int32) ((((((((7919 : Int64) * a1.toInt64) + ((6151 : Int64) * v48_4.toInt64)) + (1 : Int64)) * ((((7919 : Int64) * a1.toInt64) + ((6151 : Int64) * v48_4.toInt64)) + (1 : Int64))) - (((((7919 : Int64) * a1.toInt64) + ((6151 : Int64) * v48_4.toInt64)) + (1 : Int64)) * ((((7919 : Int64) * a1.toInt64) + ((6151 : Int64) * v48_4.toInt64)) + (1 : Int64))) / (65521 : Int64) * (65521 : Int64)).toInt32) - (((((((7919 : Int64) * a1.toInt64) + ((6151 : Int64) * v48_4.toInt64)) + (1 : Int64)) * ((((7919 : Int64) * a1.toInt64) + ((6151 : Int64) * v48_4.toInt64)) + (1 : Int64))) - (((((7919 : Int64) * a1.toInt64) + ((6151 : Int64) * v48_4.toInt64)) + (1 : Int64)) * ((((7919 : Int64) * a1.toInt64) + ((6151 : Int64) * v48_4.toInt64)) + (1 : Int64))) / (65521 : Int64) * (65521 : Int64)).toInt32) / moi_13 * moi_13) moi_32 mok_1 mok_3 mok_5 mok_6 mok_7 mok_10 mok_14 mok_15 mok_16 mok_19 mok_22 u127.1 mok_25 mok_27 mok_29 u127.2 mok_34) H := hP
          have hD : va_D A (wM cI mo mor moi_0 moi_2 moi_4 moi_8 moi_9 moi_11 moi_12 moi_13 moi_17 moi_18 moi_20 moi_21 moi_24 moi_26 moi_28 (-1 : Int32) ((((((((7919 : Int64) * a1.toInt64) + ((6151 : Int64) * v48_4.toInt64)) + (1 : Int64)) * ((((7919 : Int64) * a1.toInt64) + ((6151 : Int64) * v48_4.toInt64)) + (1 : Int64))) - (((((7919 : Int64) * a1.toInt64) + ((6151 : Int64) * v48_4.toInt64)) + (1 : Int64)) * ((((7919 : Int64) * a1.toInt64) + ((6151 : Int64) * v48_4.toInt64)) + (1 : Int64))) / (65521 : Int64) * (65521 : Int64)).toInt32) - (((((((7919 : Int64) * a1.toInt64) + ((6151 : Int64) * v48_4.toInt64)) + (1 : Int64)) * ((((7919 : Int64) * a1.toInt64) + ((6151 : Int64) * v48_4.toInt64)) + (1 : Int64))) - (((((7919 : Int64) * a1.toInt64) + ((6151 : Int64) * v48_4.toInt64)) + (1 : Int64)) * ((((7919 : Int64) * a1.toInt64) + ((6151 : Int64) * v48_4.toInt64)) + (1 : Int64))) / (65521 : Int64) * (65521 : Int64)).toInt32) / moi_13 * moi_13) moi_32 mok_1 mok_3 mok_5 mok_6 mok_7 mok_10 mok_14 mok_15 mok_16 mok_19 mok_22 u127.1 mok_25 mok_27 mok_29 u127.2 mok_34) := hD
          replace he := he.trans (xbd_some hw)
          refine lv_iinc (v := (v48_4 + 1)) (lv' := [(4, .int (v48_4 + 1)), (7, .int (((((((7919 : Int64) * a1.toInt64) + ((6151 : Int64) * v48_4.toInt64)) + (1 : Int64)) * ((((7919 : Int64) * a1.toInt64) + ((6151 : Int64) * v48_4.toInt64)) + (1 : Int64))) - (((((7919 : Int64) * a1.toInt64) + ((6151 : Int64) * v48_4.toInt64)) + (1 : Int64)) * ((((7919 : Int64) * a1.toInt64) + ((6151 : Int64) * v48_4.toInt64)) + (1 : Int64))) / (65521 : Int64) * (65521 : Int64)).toInt32)), (5, .long ((((7919 : Int64) * a1.toInt64) + ((6151 : Int64) * v48_4.toInt64)) + (1 : Int64))), (0, .ref mo), (1, .int a1), (2, .int a2), (3, .int a3)]) hx hb dX7_night_130 hl (k := 2) rfl rfl (by decide) rfl (fun ls hl => ?_)
          refine lv_goto (tgt := 48) hx hb dX7_night_133 (by decide) ?_
          exact ih48 (v48_4 + 1) (-1 : Int32) ((((((((7919 : Int64) * a1.toInt64) + ((6151 : Int64) * v48_4.toInt64)) + (1 : Int64)) * ((((7919 : Int64) * a1.toInt64) + ((6151 : Int64) * v48_4.toInt64)) + (1 : Int64))) - (((((7919 : Int64) * a1.toInt64) + ((6151 : Int64) * v48_4.toInt64)) + (1 : Int64)) * ((((7919 : Int64) * a1.toInt64) + ((6151 : Int64) * v48_4.toInt64)) + (1 : Int64))) / (65521 : Int64) * (65521 : Int64)).toInt32) - (((((((7919 : Int64) * a1.toInt64) + ((6151 : Int64) * v48_4.toInt64)) + (1 : Int64)) * ((((7919 : Int64) * a1.toInt64) + ((6151 : Int64) * v48_4.toInt64)) + (1 : Int64))) - (((((7919 : Int64) * a1.toInt64) + ((6151 : Int64) * v48_4.toInt64)) + (1 : Int64)) * ((((7919 : Int64) * a1.toInt64) + ((6151 : Int64) * v48_4.toInt64)) + (1 : Int64))) / (65521 : Int64) * (65521 : Int64)).toInt32) / moi_13 * moi_13) u127.1 u127.2 he _ _ _ hP hD hS (lv_sub hl [0, 3, 4, 5, 6] rfl)
        · replace he := he.trans (if_pos c12)
          refine lv_aload_n hx hb dX7_night_95 rfl (lv_at hl 3 rfl) ?_
          refine va_get (D := D) (ci := 7) (v := .ref (mor 23)) (C := RX7) (T := TX7) (N := 35) hx hb hts hi_X7_night_7 hown hK hP 0 wM_0 rfl 23 (by decide) (hts (.fieldLink RX7 43 "BlindLanternsModel" "tried" "[I") (List.mem_of_getElem? (i := 2) rfl)) (fun _ h9 => h9) xMf_23 dX7_night_96 ?_
          refine lv_bipush (v := 18) hx hb dX7_night_99 (by decide) ?_
          refine va_iald hx hb hK hP 12 0 wM_a23 rfl (x_in rfl) dX7_night_101 ?_
          refine lv_iconst (v := 1) hx hb dX7_night_102 (by decide) ?_
          refine lv_iadd hx hb dX7_night_103 ?_
          refine lv_goto (tgt := 108) hx hb dX7_night_104 (by decide) ?_
          refine va_put (D := D) (ci := 7) (v := .int ((w48_mok_23 (18 : Int32).toNatClampNeg) + (1 : Int32))) (ty := .int) (C := RX7) (T := TX7) (N := 35) hx hb hts hi_X7_night_7 tyX7 tyX7_ok nmX7 hown hK hP hD hS 0 wM_0 rfl 30 (by decide) (hts (.fieldLink RX7 55 "BlindLanternsModel" "atBell" "I") (List.mem_of_getElem? (i := 6) rfl)) (fun _ h9 => h9) rfl (by decide +kernel) rfl rfl (Nat.le_of_ble_eq_true rfl) dX7_night_108 (fun H locs hP hD hS => ?_)
          rw [wM_p30] at hP hD
          refine lv_aload_n hx hb dX7_night_111 rfl (lv_at hl 3 rfl) ?_
          refine lv_iload hx hb dX7_night_112 (lv_at hl 0 rfl) ?_
          refine lv_aload_n hx hb dX7_night_114 rfl (lv_at hl 3 rfl) ?_
          refine va_get (D := D) (ci := 7) (v := .int moi_13) (C := RX7) (T := TX7) (N := 35) hx hb hts hi_X7_night_7 hown hK hP 0 wM_0 rfl 13 (by decide) (hts (.fieldLink RX7 71 "BlindLanternsModel" "men" "I") (List.mem_of_getElem? (i := 7) rfl)) (fun _ h9 => h9) xMf_13 dX7_night_115 ?_
          by_cases g15 : moi_13 = 0
          · exact absurd (he.trans (if_pos g15)) hne
          replace he := he.trans (if_neg g15)
          refine lv_irem hx hb dX7_night_118 g15 ?_
          refine va_put (D := D) (ci := 7) (v := .int ((((((((7919 : Int64) * a1.toInt64) + ((6151 : Int64) * v48_4.toInt64)) + (1 : Int64)) * ((((7919 : Int64) * a1.toInt64) + ((6151 : Int64) * v48_4.toInt64)) + (1 : Int64))) - (((((7919 : Int64) * a1.toInt64) + ((6151 : Int64) * v48_4.toInt64)) + (1 : Int64)) * ((((7919 : Int64) * a1.toInt64) + ((6151 : Int64) * v48_4.toInt64)) + (1 : Int64))) / (65521 : Int64) * (65521 : Int64)).toInt32) - (((((((7919 : Int64) * a1.toInt64) + ((6151 : Int64) * v48_4.toInt64)) + (1 : Int64)) * ((((7919 : Int64) * a1.toInt64) + ((6151 : Int64) * v48_4.toInt64)) + (1 : Int64))) - (((((7919 : Int64) * a1.toInt64) + ((6151 : Int64) * v48_4.toInt64)) + (1 : Int64)) * ((((7919 : Int64) * a1.toInt64) + ((6151 : Int64) * v48_4.toInt64)) + (1 : Int64))) / (65521 : Int64) * (65521 : Int64)).toInt32) / moi_13 * moi_13)) (ty := .int) (C := RX7) (T := TX7) (N := 35) hx hb hts hi_X7_night_7 tyX7 tyX7_ok nmX7 hown hK hP hD hS 0 wM_0 rfl 31 (by decide) (hts (.fieldLink RX7 59 "BlindLanternsModel" "atPost" "I") (List.mem_of_getElem? (i := 8) rfl)) (fun _ h9 => h9) rfl (by decide +kernel) rfl rfl (Nat.le_of_ble_eq_true rfl) dX7_night_119 (fun H locs hP hD hS => ?_)
          rw [wM_p31] at hP hD
          refine lv_aload_n hx hb dX7_night_122 rfl (lv_at hl 3 rfl) ?_
          refine lv_aload_n hx hb dX7_night_123 rfl (lv_at hl 3 rfl) ?_
          refine va_get (D := D) (ci := 7) (v := .ref (mor 23)) (C := RX7) (T := TX7) (N := 35) hx hb hts hi_X7_night_7 hown hK hP 0 wM_0 rfl 23 (by decide) (hts (.fieldLink RX7 43 "BlindLanternsModel" "tried" "[I") (List.mem_of_getElem? (i := 2) rfl)) (fun _ h9 => h9) xMf_23 dX7_night_124 ?_
          have n16_ : fX7_ring_tried F moi_13 moi_17 moi_18 ((w48_mok_23 (18 : Int32).toNatClampNeg) + (1 : Int32)) ((((((((7919 : Int64) * a1.toInt64) + ((6151 : Int64) * v48_4.toInt64)) + (1 : Int64)) * ((((7919 : Int64) * a1.toInt64) + ((6151 : Int64) * v48_4.toInt64)) + (1 : Int64))) - (((((7919 : Int64) * a1.toInt64) + ((6151 : Int64) * v48_4.toInt64)) + (1 : Int64)) * ((((7919 : Int64) * a1.toInt64) + ((6151 : Int64) * v48_4.toInt64)) + (1 : Int64))) / (65521 : Int64) * (65521 : Int64)).toInt32) - (((((((7919 : Int64) * a1.toInt64) + ((6151 : Int64) * v48_4.toInt64)) + (1 : Int64)) * ((((7919 : Int64) * a1.toInt64) + ((6151 : Int64) * v48_4.toInt64)) + (1 : Int64))) - (((((7919 : Int64) * a1.toInt64) + ((6151 : Int64) * v48_4.toInt64)) + (1 : Int64)) * ((((7919 : Int64) * a1.toInt64) + ((6151 : Int64) * v48_4.toInt64)) + (1 : Int64))) / (65521 : Int64) * (65521 : Int64)).toInt32) / moi_13 * moi_13) mok_19 w48_mok_23 w48_mok_33 ≠ none := fun z => hne (he.trans (xbd_none z))
          refine xcvW (va_runV (As := [.ref (mor 23)]) (rest := []) ⟨hx, hb, hml, hown, hts⟩ (c_X7_ring_tried l D cI cP H.size mo mor moi_0 moi_2 moi_4 moi_8 moi_9 moi_11 moi_12 moi_13 moi_17 moi_18 moi_20 moi_21 moi_24 moi_26 moi_28 ((w48_mok_23 (18 : Int32).toNatClampNeg) + (1 : Int32)) ((((((((7919 : Int64) * a1.toInt64) + ((6151 : Int64) * v48_4.toInt64)) + (1 : Int64)) * ((((7919 : Int64) * a1.toInt64) + ((6151 : Int64) * v48_4.toInt64)) + (1 : Int64))) - (((((7919 : Int64) * a1.toInt64) + ((6151 : Int64) * v48_4.toInt64)) + (1 : Int64)) * ((((7919 : Int64) * a1.toInt64) + ((6151 : Int64) * v48_4.toInt64)) + (1 : Int64))) / (65521 : Int64) * (65521 : Int64)).toInt32) - (((((((7919 : Int64) * a1.toInt64) + ((6151 : Int64) * v48_4.toInt64)) + (1 : Int64)) * ((((7919 : Int64) * a1.toInt64) + ((6151 : Int64) * v48_4.toInt64)) + (1 : Int64))) - (((((7919 : Int64) * a1.toInt64) + ((6151 : Int64) * v48_4.toInt64)) + (1 : Int64)) * ((((7919 : Int64) * a1.toInt64) + ((6151 : Int64) * v48_4.toInt64)) + (1 : Int64))) / (65521 : Int64) * (65521 : Int64)).toInt32) / moi_13 * moi_13) moi_32 mok_1 mok_3 mok_5 mok_6 mok_7 mok_10 mok_14 mok_15 mok_16 mok_19 mok_22 w48_mok_23 mok_25 mok_27 mok_29 w48_mok_33 mok_34 F  n16_) (cwV 1 hts gX7_night_X7_ring rfl rfl rfl (by decide +kernel) ⟨Nat.le_of_ble_eq_true rfl, Nat.le_of_ble_eq_true rfl⟩) (xPVW hN hK hP hD (ci := 7) (j := 0) rfl wM_0) rfl rfl hl.1 rfl (lv_room (Nat.le_of_ble_eq_true rfl)) dX7_night_127 ⟨Nat.le_of_ble_eq_true rfl, Nat.le_of_ble_eq_true rfl⟩) hD hS hA (fun u127 H locs hw hP hD hS => ?_)
          have hP : va_P D vwCl (wM cI mo mor moi_0 moi_2 moi_4 moi_8 moi_9 moi_11 moi_12 moi_13 moi_17 moi_18 moi_20 moi_21 moi_24 moi_26 moi_28 ((w48_mok_23 (18 : Int32).toNatClampNeg) + (1 : Int32)) ((((((((7919 : Int64) * a1.toInt64) + ((6151 : Int64) * v48_4.toInt64)) + (1 : Int64)) * ((((7919 : Int64) * a1.toInt64) + ((6151 : Int64) * v48_4.toInt64)) + (1 : Int64))) - (((((7919 : Int64) * a1.toInt64) + ((6151 : Int64) * v48_4.toInt64)) + (1 : Int64)) * ((((7919 : Int64) * a1.toInt64) + ((6151 : Int64) * v48_4.toInt64)) + (1 : Int64))) / (65521 : Int64) * (65521 : Int64)).toInt32) - (((((((7919 : Int64) * a1.toInt64) + ((6151 : Int64) * v48_4.toInt64)) + (1 : Int64)) * ((((7919 : Int64) * a1.toInt64) + ((6151 : Int64) * v48_4.toInt64)) + (1 : Int64))) - (((((7919 : Int64) * a1.toInt64) + ((6151 : Int64) * v48_4.toInt64)) + (1 : Int64)) * ((((7919 : Int64) * a1.toInt64) + ((6151 : Int64) * v48_4.toInt64)) + (1 : Int64))) / (65521 : Int64) * (65521 : Int64)).toInt32) / moi_13 * moi_13) moi_32 mok_1 mok_3 mok_5 mok_6 mok_7 mok_10 mok_14 mok_15 mok_16 mok_19 mok_22 u127.1 mok_25 mok_27 mok_29 u127.2 mok_34) H := hP
          have hD : va_D A (wM cI mo mor moi_0 moi_2 moi_4 moi_8 moi_9 moi_11 moi_12 moi_13 moi_17 moi_18 moi_20 moi_21 moi_24 moi_26 moi_28 ((w48_mok_23 (18 : Int32).toNatClampNeg) + (1 : Int32)) ((((((((7919 : Int64) * a1.toInt64) + ((6151 : Int64) * v48_4.toInt64)) + (1 : Int64)) * ((((7919 : Int64) * a1.toInt64) + ((6151 : Int64) * v48_4.toInt64)) + (1 : Int64))) - (((((7919 : Int64) * a1.toInt64) + ((6151 : Int64) * v48_4.toInt64)) + (1 : Int64)) * ((((7919 : Int64) * a1.toInt64) + ((6151 : Int64) * v48_4.toInt64)) + (1 : Int64))) / (65521 : Int64) * (65521 : Int64)).toInt32) - (((((((7919 : Int64) * a1.toInt64) + ((6151 : Int64) * v48_4.toInt64)) + (1 : Int64)) * ((((7919 : Int64) * a1.toInt64) + ((6151 : Int64) * v48_4.toInt64)) + (1 : Int64))) - (((((7919 : Int64) * a1.toInt64) + ((6151 : Int64) * v48_4.toInt64)) + (1 : Int64)) * ((((7919 : Int64) * a1.toInt64) + ((6151 : Int64) * v48_4.toInt64)) + (1 : Int64))) / (65521 : Int64) * (65521 : Int64)).toInt32) / moi_13 * moi_13) moi_32 mok_1 mok_3 mok_5 mok_6 mok_7 mok_10 mok_14 mok_15 mok_16 mok_19 mok_22 u127.1 mok_25 mok_27 mok_29 u127.2 mok_34) := hD
          replace he := he.trans (xbd_some hw)
          refine lv_iinc (v := (v48_4 + 1)) (lv' := [(4, .int (v48_4 + 1)), (7, .int (((((((7919 : Int64) * a1.toInt64) + ((6151 : Int64) * v48_4.toInt64)) + (1 : Int64)) * ((((7919 : Int64) * a1.toInt64) + ((6151 : Int64) * v48_4.toInt64)) + (1 : Int64))) - (((((7919 : Int64) * a1.toInt64) + ((6151 : Int64) * v48_4.toInt64)) + (1 : Int64)) * ((((7919 : Int64) * a1.toInt64) + ((6151 : Int64) * v48_4.toInt64)) + (1 : Int64))) / (65521 : Int64) * (65521 : Int64)).toInt32)), (5, .long ((((7919 : Int64) * a1.toInt64) + ((6151 : Int64) * v48_4.toInt64)) + (1 : Int64))), (0, .ref mo), (1, .int a1), (2, .int a2), (3, .int a3)]) hx hb dX7_night_130 hl (k := 2) rfl rfl (by decide) rfl (fun ls hl => ?_)
          refine lv_goto (tgt := 48) hx hb dX7_night_133 (by decide) ?_
          exact ih48 (v48_4 + 1) ((w48_mok_23 (18 : Int32).toNatClampNeg) + (1 : Int32)) ((((((((7919 : Int64) * a1.toInt64) + ((6151 : Int64) * v48_4.toInt64)) + (1 : Int64)) * ((((7919 : Int64) * a1.toInt64) + ((6151 : Int64) * v48_4.toInt64)) + (1 : Int64))) - (((((7919 : Int64) * a1.toInt64) + ((6151 : Int64) * v48_4.toInt64)) + (1 : Int64)) * ((((7919 : Int64) * a1.toInt64) + ((6151 : Int64) * v48_4.toInt64)) + (1 : Int64))) / (65521 : Int64) * (65521 : Int64)).toInt32) - (((((((7919 : Int64) * a1.toInt64) + ((6151 : Int64) * v48_4.toInt64)) + (1 : Int64)) * ((((7919 : Int64) * a1.toInt64) + ((6151 : Int64) * v48_4.toInt64)) + (1 : Int64))) - (((((7919 : Int64) * a1.toInt64) + ((6151 : Int64) * v48_4.toInt64)) + (1 : Int64)) * ((((7919 : Int64) * a1.toInt64) + ((6151 : Int64) * v48_4.toInt64)) + (1 : Int64))) / (65521 : Int64) * (65521 : Int64)).toInt32) / moi_13 * moi_13) u127.1 u127.2 he _ _ _ hP hD hS (lv_sub hl [0, 3, 4, 5, 6] rfl)
  refine lv_iload_n hx hb dX7_night_0 rfl (lv_at hl 1 rfl) ?_
  refine lv_iconst (v := 0) hx hb dX7_night_1 (by decide) ?_
  refine lv_sipush (v := 9999) hx hb dX7_night_2 (by decide) ?_
  have n1_ : fX7_in a1 (0 : Int32) (9999 : Int32) ≠ none := fun z => hne (he.trans (xbd_none z))
  refine xci0 (va_runS (As := [.int a1, .int (0 : Int32), .int (9999 : Int32)]) (rest := []) ⟨hx, hb, hml, hown, hts⟩ (c_X7_in l D cI cP s.heap.size  a1 (0 : Int32) (9999 : Int32) n1_) (va_cwS 3 hts gX7_night_X7_in rfl rfl rfl (by decide +kernel) ⟨Nat.le_of_ble_eq_true rfl, Nat.le_of_ble_eq_true rfl⟩) (xPS0 hN hK) rfl rfl hl.1 rfl (lv_room (Nat.le_of_ble_eq_true rfl)) dX7_night_5 ⟨Nat.le_of_ble_eq_true rfl, Nat.le_of_ble_eq_true rfl⟩) hP hD hS hA (fun r5 u5 H locs hw hP hD hS => ?_)
  replace he := he.trans (xbd_some hw)
  refine lv_if_eq (tgt := 30) hx hb dX7_night_8 (by decide) (fun c2 => ?_) (fun c2 => ?_)
  · replace he := he.trans (if_pos c2)
    refine lv_iconst (v := -1) hx hb dX7_night_30 (by decide) ?_
    exact hret (-1 : Int32) (moi_30, moi_31, mok_23, mok_33) _ _ _ _ dX7_night_31 he hP hD hS
  · replace he := he.trans (if_neg c2)
    refine lv_iload_n hx hb dX7_night_11 rfl (lv_at hl 2 rfl) ?_
    refine lv_iconst (v := 1) hx hb dX7_night_12 (by decide) ?_
    refine lv_bipush (v := 60) hx hb dX7_night_13 (by decide) ?_
    have n3_ : fX7_in a2 (1 : Int32) (60 : Int32) ≠ none := fun z => hne (he.trans (xbd_none z))
    refine xci0 (va_runS (As := [.int a2, .int (1 : Int32), .int (60 : Int32)]) (rest := []) ⟨hx, hb, hml, hown, hts⟩ (c_X7_in l D cI cP H.size  a2 (1 : Int32) (60 : Int32) n3_) (va_cwS 3 hts gX7_night_X7_in rfl rfl rfl (by decide +kernel) ⟨Nat.le_of_ble_eq_true rfl, Nat.le_of_ble_eq_true rfl⟩) (xPS0 hN hK) rfl rfl hl.1 rfl (lv_room (Nat.le_of_ble_eq_true rfl)) dX7_night_15 ⟨Nat.le_of_ble_eq_true rfl, Nat.le_of_ble_eq_true rfl⟩) hP hD hS hA (fun r15 u15 H locs hw hP hD hS => ?_)
    replace he := he.trans (xbd_some hw)
    refine lv_if_eq (tgt := 30) hx hb dX7_night_18 (by decide) (fun c4 => ?_) (fun c4 => ?_)
    · replace he := he.trans (if_pos c4)
      refine lv_iconst (v := -1) hx hb dX7_night_30 (by decide) ?_
      exact hret (-1 : Int32) (moi_30, moi_31, mok_23, mok_33) _ _ _ _ dX7_night_31 he hP hD hS
    · replace he := he.trans (if_neg c4)
      refine lv_iload_n hx hb dX7_night_21 rfl (lv_at hl 3 rfl) ?_
      refine lv_iconst (v := 0) hx hb dX7_night_22 (by decide) ?_
      refine lv_iconst (v := 1) hx hb dX7_night_23 (by decide) ?_
      have n5_ : fX7_in a3 (0 : Int32) (1 : Int32) ≠ none := fun z => hne (he.trans (xbd_none z))
      refine xci0 (va_runS (As := [.int a3, .int (0 : Int32), .int (1 : Int32)]) (rest := []) ⟨hx, hb, hml, hown, hts⟩ (c_X7_in l D cI cP H.size  a3 (0 : Int32) (1 : Int32) n5_) (va_cwS 3 hts gX7_night_X7_in rfl rfl rfl (by decide +kernel) ⟨Nat.le_of_ble_eq_true rfl, Nat.le_of_ble_eq_true rfl⟩) (xPS0 hN hK) rfl rfl hl.1 rfl (lv_room (Nat.le_of_ble_eq_true rfl)) dX7_night_24 ⟨Nat.le_of_ble_eq_true rfl, Nat.le_of_ble_eq_true rfl⟩) hP hD hS hA (fun r24 u24 H locs hw hP hD hS => ?_)
      replace he := he.trans (xbd_some hw)
      refine lv_if_ne (tgt := 32) hx hb dX7_night_27 (by decide) (fun c6 => ?_) (fun c6 => ?_)
      · replace he := he.trans (if_neg c6)
        refine lv_aload_n hx hb dX7_night_32 rfl (lv_at hl 0 rfl) ?_
        refine va_get (D := D) (ci := 7) (v := .ref (mor 22)) (C := RX7) (T := TX7) (N := 35) hx hb hts hi_X7_night_7 hown hK hP 0 wM_0 rfl 22 (by decide) (hts (.fieldLink RX7 40 "BlindLanternsModel" "now" "[I") (List.mem_of_getElem? (i := 1) rfl)) (fun _ h9 => h9) xMf_22 dX7_night_33 ?_
        refine lv_iconst (v := 0) hx hb dX7_night_36 (by decide) ?_
        refine lv_aload_n hx hb dX7_night_37 rfl (lv_at hl 0 rfl) ?_
        refine va_get (D := D) (ci := 7) (v := .ref (mor 23)) (C := RX7) (T := TX7) (N := 35) hx hb hts hi_X7_night_7 hown hK hP 0 wM_0 rfl 23 (by decide) (hts (.fieldLink RX7 43 "BlindLanternsModel" "tried" "[I") (List.mem_of_getElem? (i := 2) rfl)) (fun _ h9 => h9) xMf_23 dX7_night_38 ?_
        refine lv_iconst (v := 0) hx hb dX7_night_41 (by decide) ?_
        have n7_ : fX7_copy_now_tried F mok_22 mok_23 (0 : Int32) (0 : Int32) ≠ none := fun z => hne (he.trans (xbd_none z))
        refine xcvW (va_runS (As := [.ref (mor 22), .int (0 : Int32), .ref (mor 23), .int (0 : Int32)]) (rest := []) ⟨hx, hb, hml, hown, hts⟩ (c_X7_copy_now_tried l D cI cP H.size mo mor moi_0 moi_2 moi_4 moi_8 moi_9 moi_11 moi_12 moi_13 moi_17 moi_18 moi_20 moi_21 moi_24 moi_26 moi_28 moi_30 moi_31 moi_32 mok_1 mok_3 mok_5 mok_6 mok_7 mok_10 mok_14 mok_15 mok_16 mok_19 mok_22 mok_23 mok_25 mok_27 mok_29 mok_33 mok_34 F (0 : Int32) (0 : Int32) n7_) (va_cwS 4 hts gX7_night_X7_copy rfl rfl rfl (by decide +kernel) ⟨Nat.le_of_ble_eq_true rfl, Nat.le_of_ble_eq_true rfl⟩) (xPSW hN hK hP hD) rfl rfl hl.1 rfl (lv_room (Nat.le_of_ble_eq_true rfl)) dX7_night_42 ⟨Nat.le_of_ble_eq_true rfl, Nat.le_of_ble_eq_true rfl⟩) hD hS hA (fun u42 H locs hw hP hD hS => ?_)
        have hP : va_P D vwCl (wM cI mo mor moi_0 moi_2 moi_4 moi_8 moi_9 moi_11 moi_12 moi_13 moi_17 moi_18 moi_20 moi_21 moi_24 moi_26 moi_28 moi_30 moi_31 moi_32 mok_1 mok_3 mok_5 mok_6 mok_7 mok_10 mok_14 mok_15 mok_16 mok_19 mok_22 u42 mok_25 mok_27 mok_29 mok_33 mok_34) H := hP
        have hD : va_D A (wM cI mo mor moi_0 moi_2 moi_4 moi_8 moi_9 moi_11 moi_12 moi_13 moi_17 moi_18 moi_20 moi_21 moi_24 moi_26 moi_28 moi_30 moi_31 moi_32 mok_1 mok_3 mok_5 mok_6 mok_7 mok_10 mok_14 mok_15 mok_16 mok_19 mok_22 u42 mok_25 mok_27 mok_29 mok_33 mok_34) := hD
        replace he := he.trans (xbd_some hw)
        refine lv_iconst (v := 1) hx hb dX7_night_45 (by decide) ?_
        refine lv_istore (lv' := [(4, .int (1 : Int32)), (0, .ref mo), (1, .int a1), (2, .int a2), (3, .int a3)]) hx hb dX7_night_46 hl (by decide) rfl (fun ls hl => ?_)
        exact L48_29 F (1 : Int32) moi_30 moi_31 u42 mok_33 he _ _ _ hP hD hS (lv_sub hl [0, 1, 2, 3, 4] rfl)
      · replace he := he.trans (if_pos c6)
        refine lv_iconst (v := -1) hx hb dX7_night_30 (by decide) ?_
        exact hret (-1 : Int32) (moi_30, moi_31, mok_23, mok_33) _ _ _ _ dX7_night_31 he hP hD hS

def fX7_keep (F : Nat) (moi_26 : Int32) (mok_22 : Nat → Int32) (mok_27 : Nat → Int32) : Option (Int32 × Int32 × (Nat → Int32)) :=
  if moi_26 = (2 : Int32) then (some ((-3 : Int32), (moi_26, mok_27))) else (xbd (fX7_copy_now_keep F mok_22 mok_27 (0 : Int32) ((19 : Int32) * moi_26)) (fun (u27 : (Nat → Int32)) => some ((moi_26 + (1 : Int32)), ((moi_26 + (1 : Int32)), u27))))
theorem hi_X7_keep_7 : ∀ w ∈ wsX70, w ∈ wsX7_keep := fun _ h => (List.mem_cons_of_mem _ (List.mem_append_right _ h))
set_option maxHeartbeats 4000000 in
set_option maxRecDepth 100000 in
theorem c_X7_keep (l : Launch) (D : va_G) (cI cP : ClassId) (sz : Nat) (mo : Nat) (mor : Nat → Nat) (moi_0 : Int32) (moi_2 : Int32) (moi_4 : Int32) (moi_8 : Int32) (moi_9 : Int32) (moi_11 : Int32) (moi_12 : Int32) (moi_13 : Int32) (moi_17 : Int32) (moi_18 : Int32) (moi_20 : Int32) (moi_21 : Int32) (moi_24 : Int32) (moi_26 : Int32) (moi_28 : Int32) (moi_30 : Int32) (moi_31 : Int32) (moi_32 : Int32) (mok_1 : Nat → Int32) (mok_3 : Nat → Int32) (mok_5 : Nat → Int32) (mok_6 : Nat → Int32) (mok_7 : Nat → Int32) (mok_10 : Nat → Int32) (mok_14 : Nat → Int32) (mok_15 : Nat → Int32) (mok_16 : Nat → Int32) (mok_19 : Nat → Int32) (mok_22 : Nat → Int32) (mok_23 : Nat → Int32) (mok_25 : Nat → Int32) (mok_27 : Nat → Int32) (mok_29 : Nat → Int32) (mok_33 : Nat → Int32) (mok_34 : Nat → Int32) (F : Nat) (hne : fX7_keep F moi_26 mok_22 mok_27 ≠ none) : xMi l yX7_keep wsX7_keep ({ frames := 1, cells := 0, slots := 0, locals := 24 } : Room) D (xT cI cP) [.ref mo] (wM cI mo mor moi_0 moi_2 moi_4 moi_8 moi_9 moi_11 moi_12 moi_13 moi_17 moi_18 moi_20 moi_21 moi_24 moi_26 moi_28 moi_30 moi_31 moi_32 mok_1 mok_3 mok_5 mok_6 mok_7 mok_10 mok_14 mok_15 mok_16 mok_19 mok_22 mok_23 mok_25 mok_27 mok_29 mok_33 mok_34) sz (fun r (u : (Int32 × (Nat → Int32))) => fX7_keep F moi_26 mok_22 mok_27 = some (r, u)) (fun u => wM cI mo mor moi_0 moi_2 moi_4 moi_8 moi_9 moi_11 moi_12 moi_13 moi_17 moi_18 moi_20 moi_21 moi_24 u.1 moi_28 moi_30 moi_31 moi_32 mok_1 mok_3 mok_5 mok_6 mok_7 mok_10 mok_14 mok_15 mok_16 mok_19 mok_22 mok_23 mok_25 u.2 mok_29 mok_33 mok_34) 0 0 := by
  refine xMi_of (cc := cX7_keep) (maxL := 1) (by decide +kernel) rfl (Nat.le_of_ble_eq_true rfl) ?_
  intro p e s m args below meth c A ls hx hb hml hown hts hname hN hK hA hP hD hS hl Q hret
  have he := fX7_keep.eq_1 F moi_26 mok_22 mok_27
  have hl : lv_has ls 1 [(0, .ref mo)] := hl
  refine lv_aload_n hx hb dX7_keep_0 rfl (lv_at hl 0 rfl) ?_
  refine va_get (D := D) (ci := 7) (v := .int moi_26) (C := RX7) (T := TX7) (N := 35) hx hb hts hi_X7_keep_7 hown hK hP 0 wM_0 rfl 26 (by decide) (hts (.fieldLink RX7 138 "BlindLanternsModel" "kept" "I") (List.mem_of_getElem? (i := 1) rfl)) (fun _ h9 => h9) xMf_26 dX7_keep_1 ?_
  refine lv_iconst (v := 2) hx hb dX7_keep_4 (by decide) ?_
  refine lv_icmp_ne (tgt := 11) hx hb dX7_keep_5 (by decide) (fun c1 => ?_) (fun c1 => ?_)
  · replace he := he.trans (if_neg c1)
    refine lv_aload_n hx hb dX7_keep_11 rfl (lv_at hl 0 rfl) ?_
    refine va_get (D := D) (ci := 7) (v := .ref (mor 22)) (C := RX7) (T := TX7) (N := 35) hx hb hts hi_X7_keep_7 hown hK hP 0 wM_0 rfl 22 (by decide) (hts (.fieldLink RX7 40 "BlindLanternsModel" "now" "[I") (List.mem_of_getElem? (i := 2) rfl)) (fun _ h9 => h9) xMf_22 dX7_keep_12 ?_
    refine lv_iconst (v := 0) hx hb dX7_keep_15 (by decide) ?_
    refine lv_aload_n hx hb dX7_keep_16 rfl (lv_at hl 0 rfl) ?_
    refine va_get (D := D) (ci := 7) (v := .ref (mor 27)) (C := RX7) (T := TX7) (N := 35) hx hb hts hi_X7_keep_7 hown hK hP 0 wM_0 rfl 27 (by decide) (hts (.fieldLink RX7 49 "BlindLanternsModel" "keep" "[I") (List.mem_of_getElem? (i := 3) rfl)) (fun _ h9 => h9) xMf_27 dX7_keep_17 ?_
    refine lv_bipush (v := 19) hx hb dX7_keep_20 (by decide) ?_
    refine lv_aload_n hx hb dX7_keep_22 rfl (lv_at hl 0 rfl) ?_
    refine va_get (D := D) (ci := 7) (v := .int moi_26) (C := RX7) (T := TX7) (N := 35) hx hb hts hi_X7_keep_7 hown hK hP 0 wM_0 rfl 26 (by decide) (hts (.fieldLink RX7 138 "BlindLanternsModel" "kept" "I") (List.mem_of_getElem? (i := 1) rfl)) (fun _ h9 => h9) xMf_26 dX7_keep_23 ?_
    refine lv_imul hx hb dX7_keep_26 ?_
    have n2_ : fX7_copy_now_keep F mok_22 mok_27 (0 : Int32) ((19 : Int32) * moi_26) ≠ none := fun z => hne (he.trans (xbd_none z))
    refine xcvW (va_runS (As := [.ref (mor 22), .int (0 : Int32), .ref (mor 27), .int ((19 : Int32) * moi_26)]) (rest := []) ⟨hx, hb, hml, hown, hts⟩ (c_X7_copy_now_keep l D cI cP s.heap.size mo mor moi_0 moi_2 moi_4 moi_8 moi_9 moi_11 moi_12 moi_13 moi_17 moi_18 moi_20 moi_21 moi_24 moi_26 moi_28 moi_30 moi_31 moi_32 mok_1 mok_3 mok_5 mok_6 mok_7 mok_10 mok_14 mok_15 mok_16 mok_19 mok_22 mok_23 mok_25 mok_27 mok_29 mok_33 mok_34 F (0 : Int32) ((19 : Int32) * moi_26) n2_) (va_cwS 4 hts gX7_keep_X7_copy rfl rfl rfl (by decide +kernel) ⟨Nat.le_of_ble_eq_true rfl, Nat.le_of_ble_eq_true rfl⟩) (xPSW hN hK hP hD) rfl rfl hl.1 rfl (lv_room (Nat.le_of_ble_eq_true rfl)) dX7_keep_27 ⟨Nat.le_of_ble_eq_true rfl, Nat.le_of_ble_eq_true rfl⟩) hD hS hA (fun u27 H locs hw hP hD hS => ?_)
    have hP : va_P D vwCl (wM cI mo mor moi_0 moi_2 moi_4 moi_8 moi_9 moi_11 moi_12 moi_13 moi_17 moi_18 moi_20 moi_21 moi_24 moi_26 moi_28 moi_30 moi_31 moi_32 mok_1 mok_3 mok_5 mok_6 mok_7 mok_10 mok_14 mok_15 mok_16 mok_19 mok_22 mok_23 mok_25 u27 mok_29 mok_33 mok_34) H := hP
    have hD : va_D A (wM cI mo mor moi_0 moi_2 moi_4 moi_8 moi_9 moi_11 moi_12 moi_13 moi_17 moi_18 moi_20 moi_21 moi_24 moi_26 moi_28 moi_30 moi_31 moi_32 mok_1 mok_3 mok_5 mok_6 mok_7 mok_10 mok_14 mok_15 mok_16 mok_19 mok_22 mok_23 mok_25 u27 mok_29 mok_33 mok_34) := hD
    replace he := he.trans (xbd_some hw)
    refine lv_aload_n hx hb dX7_keep_30 rfl (lv_at hl 0 rfl) ?_
    refine lv_dup hx hb dX7_keep_31 rfl ?_
    refine va_get (D := D) (ci := 7) (v := .int moi_26) (C := RX7) (T := TX7) (N := 35) hx hb hts hi_X7_keep_7 hown hK hP 0 wM_0 rfl 26 (by decide) (hts (.fieldLink RX7 138 "BlindLanternsModel" "kept" "I") (List.mem_of_getElem? (i := 1) rfl)) (fun _ h9 => h9) xMf_26 dX7_keep_32 ?_
    refine lv_iconst (v := 1) hx hb dX7_keep_35 (by decide) ?_
    refine lv_iadd hx hb dX7_keep_36 ?_
    refine va_put (D := D) (ci := 7) (v := .int (moi_26 + (1 : Int32))) (ty := .int) (C := RX7) (T := TX7) (N := 35) hx hb hts hi_X7_keep_7 tyX7 tyX7_ok nmX7 hown hK hP hD hS 0 wM_0 rfl 26 (by decide) (hts (.fieldLink RX7 138 "BlindLanternsModel" "kept" "I") (List.mem_of_getElem? (i := 1) rfl)) (fun _ h9 => h9) rfl (by decide +kernel) rfl rfl (Nat.le_of_ble_eq_true rfl) dX7_keep_37 (fun H locs hP hD hS => ?_)
    rw [wM_p26] at hP hD
    refine lv_aload_n hx hb dX7_keep_40 rfl (lv_at hl 0 rfl) ?_
    refine va_get (D := D) (ci := 7) (v := .int (moi_26 + (1 : Int32))) (C := RX7) (T := TX7) (N := 35) hx hb hts hi_X7_keep_7 hown hK hP 0 wM_0 rfl 26 (by decide) (hts (.fieldLink RX7 138 "BlindLanternsModel" "kept" "I") (List.mem_of_getElem? (i := 1) rfl)) (fun _ h9 => h9) xMf_26 dX7_keep_41 ?_
    exact hret (moi_26 + (1 : Int32)) ((moi_26 + (1 : Int32)), u27) _ _ _ _ dX7_keep_44 he hP hD hS
  · replace he := he.trans (if_pos c1)
    refine lv_bipush (v := -3) hx hb dX7_keep_8 (by decide) ?_
    exact hret (-3 : Int32) (moi_26, mok_27) _ _ _ _ dX7_keep_10 he hP hD hS

def fX7_back (F : Nat) (moi_24 : Int32) (moi_26 : Int32) (mok_22 : Nat → Int32) (mok_27 : Nat → Int32) : Option (Int32 × Int32 × Int32 × (Nat → Int32)) :=
  if moi_26 = 0 then (some ((-2 : Int32), (moi_24, moi_26, mok_22))) else (xbd (fX7_copy_keep_now F mok_22 mok_27 ((19 : Int32) * (moi_26 - (1 : Int32))) (0 : Int32)) (fun (u36 : (Nat → Int32)) => some ((moi_26 - (1 : Int32)), ((0 : Int32), (moi_26 - (1 : Int32)), u36))))
theorem hi_X7_back_7 : ∀ w ∈ wsX70, w ∈ wsX7_back := fun _ h => (List.mem_cons_of_mem _ (List.mem_append_right _ h))
set_option maxHeartbeats 4000000 in
set_option maxRecDepth 100000 in
theorem c_X7_back (l : Launch) (D : va_G) (cI cP : ClassId) (sz : Nat) (mo : Nat) (mor : Nat → Nat) (moi_0 : Int32) (moi_2 : Int32) (moi_4 : Int32) (moi_8 : Int32) (moi_9 : Int32) (moi_11 : Int32) (moi_12 : Int32) (moi_13 : Int32) (moi_17 : Int32) (moi_18 : Int32) (moi_20 : Int32) (moi_21 : Int32) (moi_24 : Int32) (moi_26 : Int32) (moi_28 : Int32) (moi_30 : Int32) (moi_31 : Int32) (moi_32 : Int32) (mok_1 : Nat → Int32) (mok_3 : Nat → Int32) (mok_5 : Nat → Int32) (mok_6 : Nat → Int32) (mok_7 : Nat → Int32) (mok_10 : Nat → Int32) (mok_14 : Nat → Int32) (mok_15 : Nat → Int32) (mok_16 : Nat → Int32) (mok_19 : Nat → Int32) (mok_22 : Nat → Int32) (mok_23 : Nat → Int32) (mok_25 : Nat → Int32) (mok_27 : Nat → Int32) (mok_29 : Nat → Int32) (mok_33 : Nat → Int32) (mok_34 : Nat → Int32) (F : Nat) (hne : fX7_back F moi_24 moi_26 mok_22 mok_27 ≠ none) : xMi l yX7_back wsX7_back ({ frames := 1, cells := 0, slots := 0, locals := 24 } : Room) D (xT cI cP) [.ref mo] (wM cI mo mor moi_0 moi_2 moi_4 moi_8 moi_9 moi_11 moi_12 moi_13 moi_17 moi_18 moi_20 moi_21 moi_24 moi_26 moi_28 moi_30 moi_31 moi_32 mok_1 mok_3 mok_5 mok_6 mok_7 mok_10 mok_14 mok_15 mok_16 mok_19 mok_22 mok_23 mok_25 mok_27 mok_29 mok_33 mok_34) sz (fun r (u : (Int32 × Int32 × (Nat → Int32))) => fX7_back F moi_24 moi_26 mok_22 mok_27 = some (r, u)) (fun u => wM cI mo mor moi_0 moi_2 moi_4 moi_8 moi_9 moi_11 moi_12 moi_13 moi_17 moi_18 moi_20 moi_21 u.1 u.2.1 moi_28 moi_30 moi_31 moi_32 mok_1 mok_3 mok_5 mok_6 mok_7 mok_10 mok_14 mok_15 mok_16 mok_19 u.2.2 mok_23 mok_25 mok_27 mok_29 mok_33 mok_34) 0 0 := by
  refine xMi_of (cc := cX7_back) (maxL := 1) (by decide +kernel) rfl (Nat.le_of_ble_eq_true rfl) ?_
  intro p e s m args below meth c A ls hx hb hml hown hts hname hN hK hA hP hD hS hl Q hret
  have he := fX7_back.eq_1 F moi_24 moi_26 mok_22 mok_27
  have hl : lv_has ls 1 [(0, .ref mo)] := hl
  refine lv_aload_n hx hb dX7_back_0 rfl (lv_at hl 0 rfl) ?_
  refine va_get (D := D) (ci := 7) (v := .int moi_26) (C := RX7) (T := TX7) (N := 35) hx hb hts hi_X7_back_7 hown hK hP 0 wM_0 rfl 26 (by decide) (hts (.fieldLink RX7 138 "BlindLanternsModel" "kept" "I") (List.mem_of_getElem? (i := 1) rfl)) (fun _ h9 => h9) xMf_26 dX7_back_1 ?_
  refine lv_if_ne (tgt := 10) hx hb dX7_back_4 (by decide) (fun c1 => ?_) (fun c1 => ?_)
  · replace he := he.trans (if_neg c1)
    refine lv_aload_n hx hb dX7_back_10 rfl (lv_at hl 0 rfl) ?_
    refine lv_dup hx hb dX7_back_11 rfl ?_
    refine va_get (D := D) (ci := 7) (v := .int moi_26) (C := RX7) (T := TX7) (N := 35) hx hb hts hi_X7_back_7 hown hK hP 0 wM_0 rfl 26 (by decide) (hts (.fieldLink RX7 138 "BlindLanternsModel" "kept" "I") (List.mem_of_getElem? (i := 1) rfl)) (fun _ h9 => h9) xMf_26 dX7_back_12 ?_
    refine lv_iconst (v := 1) hx hb dX7_back_15 (by decide) ?_
    refine lv_isub hx hb dX7_back_16 ?_
    refine va_put (D := D) (ci := 7) (v := .int (moi_26 - (1 : Int32))) (ty := .int) (C := RX7) (T := TX7) (N := 35) hx hb hts hi_X7_back_7 tyX7 tyX7_ok nmX7 hown hK hP hD hS 0 wM_0 rfl 26 (by decide) (hts (.fieldLink RX7 138 "BlindLanternsModel" "kept" "I") (List.mem_of_getElem? (i := 1) rfl)) (fun _ h9 => h9) rfl (by decide +kernel) rfl rfl (Nat.le_of_ble_eq_true rfl) dX7_back_17 (fun H locs hP hD hS => ?_)
    rw [wM_p26] at hP hD
    refine lv_aload_n hx hb dX7_back_20 rfl (lv_at hl 0 rfl) ?_
    refine va_get (D := D) (ci := 7) (v := .ref (mor 27)) (C := RX7) (T := TX7) (N := 35) hx hb hts hi_X7_back_7 hown hK hP 0 wM_0 rfl 27 (by decide) (hts (.fieldLink RX7 49 "BlindLanternsModel" "keep" "[I") (List.mem_of_getElem? (i := 2) rfl)) (fun _ h9 => h9) xMf_27 dX7_back_21 ?_
    refine lv_bipush (v := 19) hx hb dX7_back_24 (by decide) ?_
    refine lv_aload_n hx hb dX7_back_26 rfl (lv_at hl 0 rfl) ?_
    refine va_get (D := D) (ci := 7) (v := .int (moi_26 - (1 : Int32))) (C := RX7) (T := TX7) (N := 35) hx hb hts hi_X7_back_7 hown hK hP 0 wM_0 rfl 26 (by decide) (hts (.fieldLink RX7 138 "BlindLanternsModel" "kept" "I") (List.mem_of_getElem? (i := 1) rfl)) (fun _ h9 => h9) xMf_26 dX7_back_27 ?_
    refine lv_imul hx hb dX7_back_30 ?_
    refine lv_aload_n hx hb dX7_back_31 rfl (lv_at hl 0 rfl) ?_
    refine va_get (D := D) (ci := 7) (v := .ref (mor 22)) (C := RX7) (T := TX7) (N := 35) hx hb hts hi_X7_back_7 hown hK hP 0 wM_0 rfl 22 (by decide) (hts (.fieldLink RX7 40 "BlindLanternsModel" "now" "[I") (List.mem_of_getElem? (i := 3) rfl)) (fun _ h9 => h9) xMf_22 dX7_back_32 ?_
    refine lv_iconst (v := 0) hx hb dX7_back_35 (by decide) ?_
    have n2_ : fX7_copy_keep_now F mok_22 mok_27 ((19 : Int32) * (moi_26 - (1 : Int32))) (0 : Int32) ≠ none := fun z => hne (he.trans (xbd_none z))
    refine xcvW (va_runS (As := [.ref (mor 27), .int ((19 : Int32) * (moi_26 - (1 : Int32))), .ref (mor 22), .int (0 : Int32)]) (rest := []) ⟨hx, hb, hml, hown, hts⟩ (c_X7_copy_keep_now l D cI cP H.size mo mor moi_0 moi_2 moi_4 moi_8 moi_9 moi_11 moi_12 moi_13 moi_17 moi_18 moi_20 moi_21 moi_24 (moi_26 - (1 : Int32)) moi_28 moi_30 moi_31 moi_32 mok_1 mok_3 mok_5 mok_6 mok_7 mok_10 mok_14 mok_15 mok_16 mok_19 mok_22 mok_23 mok_25 mok_27 mok_29 mok_33 mok_34 F ((19 : Int32) * (moi_26 - (1 : Int32))) (0 : Int32) n2_) (va_cwS 4 hts gX7_back_X7_copy rfl rfl rfl (by decide +kernel) ⟨Nat.le_of_ble_eq_true rfl, Nat.le_of_ble_eq_true rfl⟩) (xPSW hN hK hP hD) rfl rfl hl.1 rfl (lv_room (Nat.le_of_ble_eq_true rfl)) dX7_back_36 ⟨Nat.le_of_ble_eq_true rfl, Nat.le_of_ble_eq_true rfl⟩) hD hS hA (fun u36 H locs hw hP hD hS => ?_)
    have hP : va_P D vwCl (wM cI mo mor moi_0 moi_2 moi_4 moi_8 moi_9 moi_11 moi_12 moi_13 moi_17 moi_18 moi_20 moi_21 moi_24 (moi_26 - (1 : Int32)) moi_28 moi_30 moi_31 moi_32 mok_1 mok_3 mok_5 mok_6 mok_7 mok_10 mok_14 mok_15 mok_16 mok_19 u36 mok_23 mok_25 mok_27 mok_29 mok_33 mok_34) H := hP
    have hD : va_D A (wM cI mo mor moi_0 moi_2 moi_4 moi_8 moi_9 moi_11 moi_12 moi_13 moi_17 moi_18 moi_20 moi_21 moi_24 (moi_26 - (1 : Int32)) moi_28 moi_30 moi_31 moi_32 mok_1 mok_3 mok_5 mok_6 mok_7 mok_10 mok_14 mok_15 mok_16 mok_19 u36 mok_23 mok_25 mok_27 mok_29 mok_33 mok_34) := hD
    replace he := he.trans (xbd_some hw)
    refine lv_aload_n hx hb dX7_back_39 rfl (lv_at hl 0 rfl) ?_
    refine lv_iconst (v := 0) hx hb dX7_back_40 (by decide) ?_
    refine va_put (D := D) (ci := 7) (v := .int (0 : Int32)) (ty := .int) (C := RX7) (T := TX7) (N := 35) hx hb hts hi_X7_back_7 tyX7 tyX7_ok nmX7 hown hK hP hD hS 0 wM_0 rfl 24 (by decide) (hts (.fieldLink RX7 135 "BlindLanternsModel" "backs" "I") (List.mem_of_getElem? (i := 4) rfl)) (fun _ h9 => h9) rfl (by decide +kernel) rfl rfl (Nat.le_of_ble_eq_true rfl) dX7_back_41 (fun H locs hP hD hS => ?_)
    rw [wM_p24] at hP hD
    refine lv_aload_n hx hb dX7_back_44 rfl (lv_at hl 0 rfl) ?_
    refine va_get (D := D) (ci := 7) (v := .int (moi_26 - (1 : Int32))) (C := RX7) (T := TX7) (N := 35) hx hb hts hi_X7_back_7 hown hK hP 0 wM_0 rfl 26 (by decide) (hts (.fieldLink RX7 138 "BlindLanternsModel" "kept" "I") (List.mem_of_getElem? (i := 1) rfl)) (fun _ h9 => h9) xMf_26 dX7_back_45 ?_
    exact hret (moi_26 - (1 : Int32)) ((0 : Int32), (moi_26 - (1 : Int32)), u36) _ _ _ _ dX7_back_48 he hP hD hS
  · replace he := he.trans (if_pos c1)
    refine lv_bipush (v := -2) hx hb dX7_back_7 (by decide) ?_
    exact hret (-2 : Int32) (moi_24, moi_26, mok_22) _ _ _ _ dX7_back_9 he hP hD hS

def fX7_count (F : Nat) (moi_0 : Int32) (moi_13 : Int32) (moi_24 : Int32) (moi_26 : Int32) (moi_28 : Int32) (mok_22 : Nat → Int32) (a1 : Int32) : Option (Int32) :=
  if a1 = (0 : Int32) then (some moi_13) else (if a1 = (1 : Int32) then (some (mok_22 (18 : Int32).toNatClampNeg)) else (if a1 = (2 : Int32) then (xbd (fX7_litOf_now F moi_13 mok_22) (fun (r66 : Int32) => some r66)) else (if a1 = (3 : Int32) then (xbd (fX7_oilOf_now F moi_13 mok_22) (fun (r75 : Int32) => some r75)) else (if a1 = (4 : Int32) then (some moi_28) else (if a1 = (5 : Int32) then (some moi_24) else (if a1 = (6 : Int32) then (some moi_26) else (if a1 = (7 : Int32) then (some moi_0) else (some (-1 : Int32)))))))))
theorem hi_X7_count_7 : ∀ w ∈ wsX70, w ∈ wsX7_count := fun _ h => (List.mem_cons_of_mem _ (List.mem_append_right _ h))
set_option maxHeartbeats 4000000 in
set_option maxRecDepth 100000 in
theorem c_X7_count (l : Launch) (D : va_G) (cI cP : ClassId) (sz : Nat) (mo : Nat) (mor : Nat → Nat) (moi_0 : Int32) (moi_2 : Int32) (moi_4 : Int32) (moi_8 : Int32) (moi_9 : Int32) (moi_11 : Int32) (moi_12 : Int32) (moi_13 : Int32) (moi_17 : Int32) (moi_18 : Int32) (moi_20 : Int32) (moi_21 : Int32) (moi_24 : Int32) (moi_26 : Int32) (moi_28 : Int32) (moi_30 : Int32) (moi_31 : Int32) (moi_32 : Int32) (mok_1 : Nat → Int32) (mok_3 : Nat → Int32) (mok_5 : Nat → Int32) (mok_6 : Nat → Int32) (mok_7 : Nat → Int32) (mok_10 : Nat → Int32) (mok_14 : Nat → Int32) (mok_15 : Nat → Int32) (mok_16 : Nat → Int32) (mok_19 : Nat → Int32) (mok_22 : Nat → Int32) (mok_23 : Nat → Int32) (mok_25 : Nat → Int32) (mok_27 : Nat → Int32) (mok_29 : Nat → Int32) (mok_33 : Nat → Int32) (mok_34 : Nat → Int32) (F : Nat) (a1 : Int32) (hne : fX7_count F moi_0 moi_13 moi_24 moi_26 moi_28 mok_22 a1 ≠ none) : xMi l yX7_count wsX7_count ({ frames := 1, cells := 0, slots := 0, locals := 23 } : Room) D (xT cI cP) [.ref mo, .int a1] (wM cI mo mor moi_0 moi_2 moi_4 moi_8 moi_9 moi_11 moi_12 moi_13 moi_17 moi_18 moi_20 moi_21 moi_24 moi_26 moi_28 moi_30 moi_31 moi_32 mok_1 mok_3 mok_5 mok_6 mok_7 mok_10 mok_14 mok_15 mok_16 mok_19 mok_22 mok_23 mok_25 mok_27 mok_29 mok_33 mok_34) sz (fun r (_ : Unit) => fX7_count F moi_0 moi_13 moi_24 moi_26 moi_28 mok_22 a1 = some r) (fun u => wM cI mo mor moi_0 moi_2 moi_4 moi_8 moi_9 moi_11 moi_12 moi_13 moi_17 moi_18 moi_20 moi_21 moi_24 moi_26 moi_28 moi_30 moi_31 moi_32 mok_1 mok_3 mok_5 mok_6 mok_7 mok_10 mok_14 mok_15 mok_16 mok_19 mok_22 mok_23 mok_25 mok_27 mok_29 mok_33 mok_34) 0 0 := by
  refine xMi_of (cc := cX7_count) (maxL := 2) (by decide +kernel) rfl (Nat.le_of_ble_eq_true rfl) ?_
  intro p e s m args below meth c A ls hx hb hml hown hts hname hN hK hA hP hD hS hl Q hret
  have he := fX7_count.eq_1 F moi_0 moi_13 moi_24 moi_26 moi_28 mok_22 a1
  have hl : lv_has ls 2 [(0, .ref mo), (1, .int a1)] := hl
  refine lv_iload_n hx hb dX7_count_0 rfl (lv_at hl 1 rfl) ?_
  by_cases k1_0 : a1 = (0 : Int32)
  · replace he := he.trans (if_pos k1_0)
    refine lv_tableIn hx hb dX7_count_1 (off := 47) (tgt := 48) (by rw [k1_0]; decide) (by rw [k1_0]; decide) (by rw [k1_0]; rfl) (by decide) ?_
    refine lv_aload_n hx hb dX7_count_48 rfl (lv_at hl 0 rfl) ?_
    refine va_get (D := D) (ci := 7) (v := .int moi_13) (C := RX7) (T := TX7) (N := 35) hx hb hts hi_X7_count_7 hown hK hP 0 wM_0 rfl 13 (by decide) (hts (.fieldLink RX7 71 "BlindLanternsModel" "men" "I") (List.mem_of_getElem? (i := 1) rfl)) (fun _ h9 => h9) xMf_13 dX7_count_49 ?_
    exact hret moi_13 () _ _ _ _ dX7_count_52 he hP hD hS
  replace he := he.trans (if_neg k1_0)
  by_cases k1_1 : a1 = (1 : Int32)
  · replace he := he.trans (if_pos k1_1)
    refine lv_tableIn hx hb dX7_count_1 (off := 52) (tgt := 53) (by rw [k1_1]; decide) (by rw [k1_1]; decide) (by rw [k1_1]; rfl) (by decide) ?_
    refine lv_aload_n hx hb dX7_count_53 rfl (lv_at hl 0 rfl) ?_
    refine va_get (D := D) (ci := 7) (v := .ref (mor 22)) (C := RX7) (T := TX7) (N := 35) hx hb hts hi_X7_count_7 hown hK hP 0 wM_0 rfl 22 (by decide) (hts (.fieldLink RX7 40 "BlindLanternsModel" "now" "[I") (List.mem_of_getElem? (i := 2) rfl)) (fun _ h9 => h9) xMf_22 dX7_count_54 ?_
    refine lv_bipush (v := 18) hx hb dX7_count_57 (by decide) ?_
    refine va_iald hx hb hK hP 11 0 wM_a22 rfl (x_in rfl) dX7_count_59 ?_
    exact hret (mok_22 (18 : Int32).toNatClampNeg) () _ _ _ _ dX7_count_60 he hP hD hS
  replace he := he.trans (if_neg k1_1)
  by_cases k1_2 : a1 = (2 : Int32)
  · replace he := he.trans (if_pos k1_2)
    refine lv_tableIn hx hb dX7_count_1 (off := 60) (tgt := 61) (by rw [k1_2]; decide) (by rw [k1_2]; decide) (by rw [k1_2]; rfl) (by decide) ?_
    refine lv_aload_n hx hb dX7_count_61 rfl (lv_at hl 0 rfl) ?_
    refine lv_aload_n hx hb dX7_count_62 rfl (lv_at hl 0 rfl) ?_
    refine va_get (D := D) (ci := 7) (v := .ref (mor 22)) (C := RX7) (T := TX7) (N := 35) hx hb hts hi_X7_count_7 hown hK hP 0 wM_0 rfl 22 (by decide) (hts (.fieldLink RX7 40 "BlindLanternsModel" "now" "[I") (List.mem_of_getElem? (i := 2) rfl)) (fun _ h9 => h9) xMf_22 dX7_count_63 ?_
    have n1_ : fX7_litOf_now F moi_13 mok_22 ≠ none := fun z => hne (he.trans (xbd_none z))
    refine xciW (va_runV (As := [.ref (mor 22)]) (rest := []) ⟨hx, hb, hml, hown, hts⟩ (c_X7_litOf_now l D cI cP s.heap.size mo mor moi_0 moi_2 moi_4 moi_8 moi_9 moi_11 moi_12 moi_13 moi_17 moi_18 moi_20 moi_21 moi_24 moi_26 moi_28 moi_30 moi_31 moi_32 mok_1 mok_3 mok_5 mok_6 mok_7 mok_10 mok_14 mok_15 mok_16 mok_19 mok_22 mok_23 mok_25 mok_27 mok_29 mok_33 mok_34 F  n1_) (cwV 1 hts gX7_count_X7_litOf rfl rfl rfl (by decide +kernel) ⟨Nat.le_of_ble_eq_true rfl, Nat.le_of_ble_eq_true rfl⟩) (xPVW hN hK hP hD (ci := 7) (j := 0) rfl wM_0) rfl rfl hl.1 rfl (lv_room (Nat.le_of_ble_eq_true rfl)) dX7_count_66 ⟨Nat.le_of_ble_eq_true rfl, Nat.le_of_ble_eq_true rfl⟩) hD hS hA (fun r66 u66 H locs hw hP hD hS => ?_)
    have hP : va_P D vwCl (wM cI mo mor moi_0 moi_2 moi_4 moi_8 moi_9 moi_11 moi_12 moi_13 moi_17 moi_18 moi_20 moi_21 moi_24 moi_26 moi_28 moi_30 moi_31 moi_32 mok_1 mok_3 mok_5 mok_6 mok_7 mok_10 mok_14 mok_15 mok_16 mok_19 mok_22 mok_23 mok_25 mok_27 mok_29 mok_33 mok_34) H := hP
    have hD : va_D A (wM cI mo mor moi_0 moi_2 moi_4 moi_8 moi_9 moi_11 moi_12 moi_13 moi_17 moi_18 moi_20 moi_21 moi_24 moi_26 moi_28 moi_30 moi_31 moi_32 mok_1 mok_3 mok_5 mok_6 mok_7 mok_10 mok_14 mok_15 mok_16 mok_19 mok_22 mok_23 mok_25 mok_27 mok_29 mok_33 mok_34) := hD
    replace he := he.trans (xbd_some hw)
    exact hret r66 () _ _ _ _ dX7_count_69 he hP hD hS
  replace he := he.trans (if_neg k1_2)
  by_cases k1_3 : a1 = (3 : Int32)
  · replace he := he.trans (if_pos k1_3)
    refine lv_tableIn hx hb dX7_count_1 (off := 69) (tgt := 70) (by rw [k1_3]; decide) (by rw [k1_3]; decide) (by rw [k1_3]; rfl) (by decide) ?_
    refine lv_aload_n hx hb dX7_count_70 rfl (lv_at hl 0 rfl) ?_
    refine lv_aload_n hx hb dX7_count_71 rfl (lv_at hl 0 rfl) ?_
    refine va_get (D := D) (ci := 7) (v := .ref (mor 22)) (C := RX7) (T := TX7) (N := 35) hx hb hts hi_X7_count_7 hown hK hP 0 wM_0 rfl 22 (by decide) (hts (.fieldLink RX7 40 "BlindLanternsModel" "now" "[I") (List.mem_of_getElem? (i := 2) rfl)) (fun _ h9 => h9) xMf_22 dX7_count_72 ?_
    have n2_ : fX7_oilOf_now F moi_13 mok_22 ≠ none := fun z => hne (he.trans (xbd_none z))
    refine xciW (va_runV (As := [.ref (mor 22)]) (rest := []) ⟨hx, hb, hml, hown, hts⟩ (c_X7_oilOf_now l D cI cP s.heap.size mo mor moi_0 moi_2 moi_4 moi_8 moi_9 moi_11 moi_12 moi_13 moi_17 moi_18 moi_20 moi_21 moi_24 moi_26 moi_28 moi_30 moi_31 moi_32 mok_1 mok_3 mok_5 mok_6 mok_7 mok_10 mok_14 mok_15 mok_16 mok_19 mok_22 mok_23 mok_25 mok_27 mok_29 mok_33 mok_34 F  n2_) (cwV 1 hts gX7_count_X7_oilOf rfl rfl rfl (by decide +kernel) ⟨Nat.le_of_ble_eq_true rfl, Nat.le_of_ble_eq_true rfl⟩) (xPVW hN hK hP hD (ci := 7) (j := 0) rfl wM_0) rfl rfl hl.1 rfl (lv_room (Nat.le_of_ble_eq_true rfl)) dX7_count_75 ⟨Nat.le_of_ble_eq_true rfl, Nat.le_of_ble_eq_true rfl⟩) hD hS hA (fun r75 u75 H locs hw hP hD hS => ?_)
    have hP : va_P D vwCl (wM cI mo mor moi_0 moi_2 moi_4 moi_8 moi_9 moi_11 moi_12 moi_13 moi_17 moi_18 moi_20 moi_21 moi_24 moi_26 moi_28 moi_30 moi_31 moi_32 mok_1 mok_3 mok_5 mok_6 mok_7 mok_10 mok_14 mok_15 mok_16 mok_19 mok_22 mok_23 mok_25 mok_27 mok_29 mok_33 mok_34) H := hP
    have hD : va_D A (wM cI mo mor moi_0 moi_2 moi_4 moi_8 moi_9 moi_11 moi_12 moi_13 moi_17 moi_18 moi_20 moi_21 moi_24 moi_26 moi_28 moi_30 moi_31 moi_32 mok_1 mok_3 mok_5 mok_6 mok_7 mok_10 mok_14 mok_15 mok_16 mok_19 mok_22 mok_23 mok_25 mok_27 mok_29 mok_33 mok_34) := hD
    replace he := he.trans (xbd_some hw)
    exact hret r75 () _ _ _ _ dX7_count_78 he hP hD hS
  replace he := he.trans (if_neg k1_3)
  by_cases k1_4 : a1 = (4 : Int32)
  · replace he := he.trans (if_pos k1_4)
    refine lv_tableIn hx hb dX7_count_1 (off := 78) (tgt := 79) (by rw [k1_4]; decide) (by rw [k1_4]; decide) (by rw [k1_4]; rfl) (by decide) ?_
    refine lv_aload_n hx hb dX7_count_79 rfl (lv_at hl 0 rfl) ?_
    refine va_get (D := D) (ci := 7) (v := .int moi_28) (C := RX7) (T := TX7) (N := 35) hx hb hts hi_X7_count_7 hown hK hP 0 wM_0 rfl 28 (by decide) (hts (.fieldLink RX7 132 "BlindLanternsModel" "sights" "I") (List.mem_of_getElem? (i := 3) rfl)) (fun _ h9 => h9) xMf_28 dX7_count_80 ?_
    exact hret moi_28 () _ _ _ _ dX7_count_83 he hP hD hS
  replace he := he.trans (if_neg k1_4)
  by_cases k1_5 : a1 = (5 : Int32)
  · replace he := he.trans (if_pos k1_5)
    refine lv_tableIn hx hb dX7_count_1 (off := 83) (tgt := 84) (by rw [k1_5]; decide) (by rw [k1_5]; decide) (by rw [k1_5]; rfl) (by decide) ?_
    refine lv_aload_n hx hb dX7_count_84 rfl (lv_at hl 0 rfl) ?_
    refine va_get (D := D) (ci := 7) (v := .int moi_24) (C := RX7) (T := TX7) (N := 35) hx hb hts hi_X7_count_7 hown hK hP 0 wM_0 rfl 24 (by decide) (hts (.fieldLink RX7 135 "BlindLanternsModel" "backs" "I") (List.mem_of_getElem? (i := 4) rfl)) (fun _ h9 => h9) xMf_24 dX7_count_85 ?_
    exact hret moi_24 () _ _ _ _ dX7_count_88 he hP hD hS
  replace he := he.trans (if_neg k1_5)
  by_cases k1_6 : a1 = (6 : Int32)
  · replace he := he.trans (if_pos k1_6)
    refine lv_tableIn hx hb dX7_count_1 (off := 88) (tgt := 89) (by rw [k1_6]; decide) (by rw [k1_6]; decide) (by rw [k1_6]; rfl) (by decide) ?_
    refine lv_aload_n hx hb dX7_count_89 rfl (lv_at hl 0 rfl) ?_
    refine va_get (D := D) (ci := 7) (v := .int moi_26) (C := RX7) (T := TX7) (N := 35) hx hb hts hi_X7_count_7 hown hK hP 0 wM_0 rfl 26 (by decide) (hts (.fieldLink RX7 138 "BlindLanternsModel" "kept" "I") (List.mem_of_getElem? (i := 5) rfl)) (fun _ h9 => h9) xMf_26 dX7_count_90 ?_
    exact hret moi_26 () _ _ _ _ dX7_count_93 he hP hD hS
  replace he := he.trans (if_neg k1_6)
  by_cases k1_7 : a1 = (7 : Int32)
  · replace he := he.trans (if_pos k1_7)
    refine lv_tableIn hx hb dX7_count_1 (off := 93) (tgt := 94) (by rw [k1_7]; decide) (by rw [k1_7]; decide) (by rw [k1_7]; rfl) (by decide) ?_
    refine lv_aload_n hx hb dX7_count_94 rfl (lv_at hl 0 rfl) ?_
    refine va_get (D := D) (ci := 7) (v := .int moi_0) (C := RX7) (T := TX7) (N := 35) hx hb hts hi_X7_count_7 hown hK hP 0 wM_0 rfl 0 (by decide) (hts (.fieldLink RX7 88 "BlindLanternsModel" "bytes" "I") (List.mem_of_getElem? (i := 6) rfl)) (fun _ h9 => h9) xMf_0 dX7_count_95 ?_
    exact hret moi_0 () _ _ _ _ dX7_count_98 he hP hD hS
  replace he := he.trans (if_neg k1_7)
  have t1_0 := lv_neT (a := 0) k1_0 rfl
  have t1_1 := lv_neT (a := 1) k1_1 rfl
  have t1_2 := lv_neT (a := 2) k1_2 rfl
  have t1_3 := lv_neT (a := 3) k1_3 rfl
  have t1_4 := lv_neT (a := 4) k1_4 rfl
  have t1_5 := lv_neT (a := 5) k1_5 rfl
  have t1_6 := lv_neT (a := 6) k1_6 rfl
  have t1_7 := lv_neT (a := 7) k1_7 rfl
  refine lv_tableOut hx hb dX7_count_1 (tgt := 99) (by omega) (by decide) ?_
  refine lv_iconst (v := -1) hx hb dX7_count_99 (by decide) ?_
  exact hret (-1 : Int32) () _ _ _ _ dX7_count_100 he hP hD hS
