def fX7_triedIn_L15 (moi_13 : Int32) (moi_17 : Int32) (moi_18 : Int32) (moi_30 : Int32) (moi_31 : Int32) (mok_19 : Nat → Int32) (a1 : Int32) (F : Nat) (k15 : Int32 → (Nat → Int32) → (Nat → Int32) → Option ((Nat → Int32) × (Nat → Int32))) : Nat → Int32 → (Nat → Int32) → (Nat → Int32) → Option ((Nat → Int32) × (Nat → Int32))
  | 0, _, _, _ => none
  | n15 + 1, v15_2, w15_mok_23, w15_mok_33 => if a1 ≤ v15_2 then (k15 v15_2 w15_mok_23 w15_mok_33) else (xbd (fX7_ring_tried F moi_13 moi_17 moi_18 moi_30 moi_31 mok_19 w15_mok_23 w15_mok_33) (fun (u25 : (Nat → Int32) × (Nat → Int32)) => fX7_triedIn_L15 moi_13 moi_17 moi_18 moi_30 moi_31 mok_19 a1 F k15 n15 (v15_2 + 1) u25.1 u25.2))
def fX7_triedIn (F : Nat) (moi_13 : Int32) (moi_17 : Int32) (moi_18 : Int32) (moi_30 : Int32) (moi_31 : Int32) (mok_19 : Nat → Int32) (mok_22 : Nat → Int32) (mok_23 : Nat → Int32) (mok_33 : Nat → Int32) (a1 : Int32) : Option ((Nat → Int32) × (Nat → Int32)) :=
  xbd (fX7_copy_now_tried F mok_22 mok_23 (0 : Int32) (0 : Int32)) (fun (u10 : (Nat → Int32)) => fX7_triedIn_L15 moi_13 moi_17 moi_18 moi_30 moi_31 mok_19 a1 F (fun (v15_2 : Int32) (w15_mok_23 : Nat → Int32) (w15_mok_33 : Nat → Int32) => some (w15_mok_23, w15_mok_33)) F (0 : Int32) u10 mok_33)
theorem hi_X7_triedIn_7 : ∀ w ∈ wsX70, w ∈ wsX7_triedIn := fun _ h => (List.mem_cons_of_mem _ (List.mem_append_right _ h))
set_option maxHeartbeats 4000000 in
set_option maxRecDepth 100000 in
theorem c_X7_triedIn (l : Launch) (D : va_G) (cI cP : ClassId) (sz : Nat) (mo : Nat) (mor : Nat → Nat) (moi_0 : Int32) (moi_2 : Int32) (moi_4 : Int32) (moi_8 : Int32) (moi_9 : Int32) (moi_11 : Int32) (moi_12 : Int32) (moi_13 : Int32) (moi_17 : Int32) (moi_18 : Int32) (moi_20 : Int32) (moi_21 : Int32) (moi_24 : Int32) (moi_26 : Int32) (moi_28 : Int32) (moi_30 : Int32) (moi_31 : Int32) (moi_32 : Int32) (mok_1 : Nat → Int32) (mok_3 : Nat → Int32) (mok_5 : Nat → Int32) (mok_6 : Nat → Int32) (mok_7 : Nat → Int32) (mok_10 : Nat → Int32) (mok_14 : Nat → Int32) (mok_15 : Nat → Int32) (mok_16 : Nat → Int32) (mok_19 : Nat → Int32) (mok_22 : Nat → Int32) (mok_23 : Nat → Int32) (mok_25 : Nat → Int32) (mok_27 : Nat → Int32) (mok_29 : Nat → Int32) (mok_33 : Nat → Int32) (mok_34 : Nat → Int32) (F : Nat) (a1 : Int32) (hne : fX7_triedIn F moi_13 moi_17 moi_18 moi_30 moi_31 mok_19 mok_22 mok_23 mok_33 a1 ≠ none) : xMv l yX7_triedIn wsX7_triedIn ({ frames := 1, cells := 0, slots := 0, locals := 24 } : Room) D (xT cI cP) [.ref mo, .int a1] (wM cI mo mor moi_0 moi_2 moi_4 moi_8 moi_9 moi_11 moi_12 moi_13 moi_17 moi_18 moi_20 moi_21 moi_24 moi_26 moi_28 moi_30 moi_31 moi_32 mok_1 mok_3 mok_5 mok_6 mok_7 mok_10 mok_14 mok_15 mok_16 mok_19 mok_22 mok_23 mok_25 mok_27 mok_29 mok_33 mok_34) sz (fun (u : ((Nat → Int32) × (Nat → Int32))) => fX7_triedIn F moi_13 moi_17 moi_18 moi_30 moi_31 mok_19 mok_22 mok_23 mok_33 a1 = some u) (fun u => wM cI mo mor moi_0 moi_2 moi_4 moi_8 moi_9 moi_11 moi_12 moi_13 moi_17 moi_18 moi_20 moi_21 moi_24 moi_26 moi_28 moi_30 moi_31 moi_32 mok_1 mok_3 mok_5 mok_6 mok_7 mok_10 mok_14 mok_15 mok_16 mok_19 mok_22 u.1 mok_25 mok_27 mok_29 u.2 mok_34) 0 0 := by
  refine xMv_of (cc := cX7_triedIn) (maxL := 3) (by decide +kernel) rfl (Nat.le_of_ble_eq_true rfl) ?_
  intro p e s m args below meth c A ls hx hb hml hown hts hname hN hK hA hP hD hS hl Q hret
  have he := fX7_triedIn.eq_1 F moi_13 moi_17 moi_18 moi_30 moi_31 mok_19 mok_22 mok_23 mok_33 a1
  have hl : lv_has ls 3 [(0, .ref mo), (1, .int a1)] := hl
  have R15_0 : ∀ (v15_2 : Int32) (w15_mok_23 : Nat → Int32) (w15_mok_33 : Nat → Int32), fX7_triedIn F moi_13 moi_17 moi_18 moi_30 moi_31 mok_19 mok_22 mok_23 mok_33 a1 = (some (w15_mok_23, w15_mok_33)) → ∀ (H : Heap) (locs : List Loc) (ls : Array Slot), va_P D vwCl (wM cI mo mor moi_0 moi_2 moi_4 moi_8 moi_9 moi_11 moi_12 moi_13 moi_17 moi_18 moi_20 moi_21 moi_24 moi_26 moi_28 moi_30 moi_31 moi_32 mok_1 mok_3 mok_5 mok_6 mok_7 mok_10 mok_14 mok_15 mok_16 mok_19 mok_22 w15_mok_23 mok_25 mok_27 mok_29 w15_mok_33 mok_34) H → va_D A (wM cI mo mor moi_0 moi_2 moi_4 moi_8 moi_9 moi_11 moi_12 moi_13 moi_17 moi_18 moi_20 moi_21 moi_24 moi_26 moi_28 moi_30 moi_31 moi_32 mok_1 mok_3 mok_5 mok_6 mok_7 mok_10 mok_14 mok_15 mok_16 mok_19 mok_22 w15_mok_23 mok_25 mok_27 mok_29 w15_mok_33 mok_34) → va_S A s.heap H locs → lv_has ls 3 [] → W p l e ({ frames := 1, cells := 0, slots := 0, locals := 24 } : Room) s m args below meth c H locs 0 0 Q (F0 m 34 ls []) := by
    intro v15_2 w15_mok_23 w15_mok_33 he H locs ls hP hD hS hl
    exact hret (w15_mok_23, w15_mok_33) _ _ _ _ dX7_triedIn_34 he hP hD hS
  have L15_3 : ∀ (n15 : Nat) (v15_2 : Int32) (w15_mok_23 : Nat → Int32) (w15_mok_33 : Nat → Int32), fX7_triedIn F moi_13 moi_17 moi_18 moi_30 moi_31 mok_19 mok_22 mok_23 mok_33 a1 = fX7_triedIn_L15 moi_13 moi_17 moi_18 moi_30 moi_31 mok_19 a1 F (fun (v15_2 : Int32) (w15_mok_23 : Nat → Int32) (w15_mok_33 : Nat → Int32) => some (w15_mok_23, w15_mok_33)) n15 v15_2 w15_mok_23 w15_mok_33 → ∀ (H : Heap) (locs : List Loc) (ls : Array Slot), va_P D vwCl (wM cI mo mor moi_0 moi_2 moi_4 moi_8 moi_9 moi_11 moi_12 moi_13 moi_17 moi_18 moi_20 moi_21 moi_24 moi_26 moi_28 moi_30 moi_31 moi_32 mok_1 mok_3 mok_5 mok_6 mok_7 mok_10 mok_14 mok_15 mok_16 mok_19 mok_22 w15_mok_23 mok_25 mok_27 mok_29 w15_mok_33 mok_34) H → va_D A (wM cI mo mor moi_0 moi_2 moi_4 moi_8 moi_9 moi_11 moi_12 moi_13 moi_17 moi_18 moi_20 moi_21 moi_24 moi_26 moi_28 moi_30 moi_31 moi_32 mok_1 mok_3 mok_5 mok_6 mok_7 mok_10 mok_14 mok_15 mok_16 mok_19 mok_22 w15_mok_23 mok_25 mok_27 mok_29 w15_mok_33 mok_34) → va_S A s.heap H locs → lv_has ls 3 [(2, .int v15_2), (0, .ref mo), (1, .int a1)] → W p l e ({ frames := 1, cells := 0, slots := 0, locals := 24 } : Room) s m args below meth c H locs 0 0 Q (F0 m 15 ls []) := by
    intro n15
    induction n15 with
    | zero => intro v15_2 w15_mok_23 w15_mok_33 he; exact absurd he hne
    | succ n15 ih15 =>
      intro v15_2 w15_mok_23 w15_mok_33 he H locs ls hP hD hS hl
      replace he := he.trans (fX7_triedIn_L15.eq_2 _ _ _ _ _ _ _ _ _ _ _ _ _)
      refine lv_iload_n hx hb dX7_triedIn_15 rfl (lv_at hl 0 rfl) ?_
      refine lv_iload_n hx hb dX7_triedIn_16 rfl (lv_at hl 2 rfl) ?_
      refine lv_icmp_ge (tgt := 34) hx hb dX7_triedIn_17 (by decide) (fun c2 => ?_) (fun c2 => ?_)
      · replace he := he.trans (if_pos c2)
        exact R15_0 v15_2 w15_mok_23 w15_mok_33 he _ _ _ hP hD hS (lv_sub hl [] rfl)
      · replace he := he.trans (if_neg c2)
        refine lv_aload_n hx hb dX7_triedIn_20 rfl (lv_at hl 1 rfl) ?_
        refine lv_aload_n hx hb dX7_triedIn_21 rfl (lv_at hl 1 rfl) ?_
        refine va_get (D := D) (ci := 7) (v := .ref (mor 23)) (C := RX7) (T := TX7) (N := 35) hx hb hts hi_X7_triedIn_7 hown hK hP 0 wM_0 rfl 23 (by decide) (hts (.fieldLink RX7 43 "BlindLanternsModel" "tried" "[I") (List.mem_of_getElem? (i := 2) rfl)) (fun _ h9 => h9) xMf_23 dX7_triedIn_22 ?_
        have n3_ : fX7_ring_tried F moi_13 moi_17 moi_18 moi_30 moi_31 mok_19 w15_mok_23 w15_mok_33 ≠ none := fun z => hne (he.trans (xbd_none z))
        refine xcvW (va_runV (As := [.ref (mor 23)]) (rest := []) ⟨hx, hb, hml, hown, hts⟩ (c_X7_ring_tried l D cI cP H.size mo mor moi_0 moi_2 moi_4 moi_8 moi_9 moi_11 moi_12 moi_13 moi_17 moi_18 moi_20 moi_21 moi_24 moi_26 moi_28 moi_30 moi_31 moi_32 mok_1 mok_3 mok_5 mok_6 mok_7 mok_10 mok_14 mok_15 mok_16 mok_19 mok_22 w15_mok_23 mok_25 mok_27 mok_29 w15_mok_33 mok_34 F  n3_) (cwV 1 hts gX7_triedIn_X7_ring rfl rfl rfl (by decide +kernel) ⟨Nat.le_of_ble_eq_true rfl, Nat.le_of_ble_eq_true rfl⟩) (xPVW hN hK hP hD (ci := 7) (j := 0) rfl wM_0) rfl rfl hl.1 rfl (lv_room (Nat.le_of_ble_eq_true rfl)) dX7_triedIn_25 ⟨Nat.le_of_ble_eq_true rfl, Nat.le_of_ble_eq_true rfl⟩) hD hS hA (fun u25 H locs hw hP hD hS => ?_)
        have hP : va_P D vwCl (wM cI mo mor moi_0 moi_2 moi_4 moi_8 moi_9 moi_11 moi_12 moi_13 moi_17 moi_18 moi_20 moi_21 moi_24 moi_26 moi_28 moi_30 moi_31 moi_32 mok_1 mok_3 mok_5 mok_6 mok_7 mok_10 mok_14 mok_15 mok_16 mok_19 mok_22 u25.1 mok_25 mok_27 mok_29 u25.2 mok_34) H := hP
        have hD : va_D A (wM cI mo mor moi_0 moi_2 moi_4 moi_8 moi_9 moi_11 moi_12 moi_13 moi_17 moi_18 moi_20 moi_21 moi_24 moi_26 moi_28 moi_30 moi_31 moi_32 mok_1 mok_3 mok_5 mok_6 mok_7 mok_10 mok_14 mok_15 mok_16 mok_19 mok_22 u25.1 mok_25 mok_27 mok_29 u25.2 mok_34) := hD
        replace he := he.trans (xbd_some hw)
        refine lv_iinc (v := (v15_2 + 1)) (lv' := [(2, .int (v15_2 + 1)), (0, .ref mo), (1, .int a1)]) hx hb dX7_triedIn_28 hl (k := 0) rfl rfl (by decide) rfl (fun ls hl => ?_)
        refine lv_goto (tgt := 15) hx hb dX7_triedIn_31 (by decide) ?_
        exact ih15 (v15_2 + 1) u25.1 u25.2 he _ _ _ hP hD hS (lv_sub hl [0, 1, 2] rfl)
  refine lv_aload_n hx hb dX7_triedIn_0 rfl (lv_at hl 0 rfl) ?_
  refine va_get (D := D) (ci := 7) (v := .ref (mor 22)) (C := RX7) (T := TX7) (N := 35) hx hb hts hi_X7_triedIn_7 hown hK hP 0 wM_0 rfl 22 (by decide) (hts (.fieldLink RX7 40 "BlindLanternsModel" "now" "[I") (List.mem_of_getElem? (i := 1) rfl)) (fun _ h9 => h9) xMf_22 dX7_triedIn_1 ?_
  refine lv_iconst (v := 0) hx hb dX7_triedIn_4 (by decide) ?_
  refine lv_aload_n hx hb dX7_triedIn_5 rfl (lv_at hl 0 rfl) ?_
  refine va_get (D := D) (ci := 7) (v := .ref (mor 23)) (C := RX7) (T := TX7) (N := 35) hx hb hts hi_X7_triedIn_7 hown hK hP 0 wM_0 rfl 23 (by decide) (hts (.fieldLink RX7 43 "BlindLanternsModel" "tried" "[I") (List.mem_of_getElem? (i := 2) rfl)) (fun _ h9 => h9) xMf_23 dX7_triedIn_6 ?_
  refine lv_iconst (v := 0) hx hb dX7_triedIn_9 (by decide) ?_
  have n1_ : fX7_copy_now_tried F mok_22 mok_23 (0 : Int32) (0 : Int32) ≠ none := fun z => hne (he.trans (xbd_none z))
  refine xcvW (va_runS (As := [.ref (mor 22), .int (0 : Int32), .ref (mor 23), .int (0 : Int32)]) (rest := []) ⟨hx, hb, hml, hown, hts⟩ (c_X7_copy_now_tried l D cI cP s.heap.size mo mor moi_0 moi_2 moi_4 moi_8 moi_9 moi_11 moi_12 moi_13 moi_17 moi_18 moi_20 moi_21 moi_24 moi_26 moi_28 moi_30 moi_31 moi_32 mok_1 mok_3 mok_5 mok_6 mok_7 mok_10 mok_14 mok_15 mok_16 mok_19 mok_22 mok_23 mok_25 mok_27 mok_29 mok_33 mok_34 F (0 : Int32) (0 : Int32) n1_) (va_cwS 4 hts gX7_triedIn_X7_copy rfl rfl rfl (by decide +kernel) ⟨Nat.le_of_ble_eq_true rfl, Nat.le_of_ble_eq_true rfl⟩) (xPSW hN hK hP hD) rfl rfl hl.1 rfl (lv_room (Nat.le_of_ble_eq_true rfl)) dX7_triedIn_10 ⟨Nat.le_of_ble_eq_true rfl, Nat.le_of_ble_eq_true rfl⟩) hD hS hA (fun u10 H locs hw hP hD hS => ?_)
  have hP : va_P D vwCl (wM cI mo mor moi_0 moi_2 moi_4 moi_8 moi_9 moi_11 moi_12 moi_13 moi_17 moi_18 moi_20 moi_21 moi_24 moi_26 moi_28 moi_30 moi_31 moi_32 mok_1 mok_3 mok_5 mok_6 mok_7 mok_10 mok_14 mok_15 mok_16 mok_19 mok_22 u10 mok_25 mok_27 mok_29 mok_33 mok_34) H := hP
  have hD : va_D A (wM cI mo mor moi_0 moi_2 moi_4 moi_8 moi_9 moi_11 moi_12 moi_13 moi_17 moi_18 moi_20 moi_21 moi_24 moi_26 moi_28 moi_30 moi_31 moi_32 mok_1 mok_3 mok_5 mok_6 mok_7 mok_10 mok_14 mok_15 mok_16 mok_19 mok_22 u10 mok_25 mok_27 mok_29 mok_33 mok_34) := hD
  replace he := he.trans (xbd_some hw)
  refine lv_iconst (v := 0) hx hb dX7_triedIn_13 (by decide) ?_
  refine lv_istore_n (lv' := [(2, .int (0 : Int32)), (0, .ref mo), (1, .int a1)]) hx hb dX7_triedIn_14 rfl hl (by decide) rfl (fun ls hl => ?_)
  exact L15_3 F (0 : Int32) u10 mok_33 he _ _ _ hP hD hS (lv_sub hl [0, 1, 2] rfl)

def fX7_note_L11 (k11 : Int32 → (Nat → Int32) → Option (Int32 × (Nat → Int32))) : Nat → Int32 → (Nat → Int32) → Option (Int32 × (Nat → Int32))
  | 0, _, _ => none
  | n11 + 1, v11_1, w11_mok_25 => if (133 : Int32) ≤ v11_1 then (k11 v11_1 w11_mok_25) else (if (v11_1 + (19 : Int32)) < 0 ∨ 152 ≤ (v11_1 + (19 : Int32)).toNatClampNeg then none else (if v11_1 < 0 ∨ 152 ≤ v11_1.toNatClampNeg then none else (fX7_note_L11 k11 n11 (v11_1 + 1) (upd w11_mok_25 v11_1.toNatClampNeg (w11_mok_25 (v11_1 + (19 : Int32)).toNatClampNeg)))))
def fX7_note (F : Nat) (moi_24 : Int32) (mok_22 : Nat → Int32) (mok_25 : Nat → Int32) : Option (Int32 × (Nat → Int32)) :=
  if moi_24 = (8 : Int32) then (fX7_note_L11 (fun (v11_1 : Int32) (w11_mok_25 : Nat → Int32) => xbd (fX7_copy_now_back F mok_22 w11_mok_25 (0 : Int32) ((19 : Int32) * (moi_24 - (1 : Int32)))) (fun (u65 : (Nat → Int32)) => some (((moi_24 - (1 : Int32)) + (1 : Int32)), u65))) F (0 : Int32) mok_25) else (xbd (fX7_copy_now_back F mok_22 mok_25 (0 : Int32) ((19 : Int32) * moi_24)) (fun (u65 : (Nat → Int32)) => some ((moi_24 + (1 : Int32)), u65)))
theorem hi_X7_note_7 : ∀ w ∈ wsX70, w ∈ wsX7_note := fun _ h => (List.mem_cons_of_mem _ (List.mem_append_right _ h))
set_option maxHeartbeats 4000000 in
set_option maxRecDepth 100000 in
theorem c_X7_note (l : Launch) (D : va_G) (cI cP : ClassId) (sz : Nat) (mo : Nat) (mor : Nat → Nat) (moi_0 : Int32) (moi_2 : Int32) (moi_4 : Int32) (moi_8 : Int32) (moi_9 : Int32) (moi_11 : Int32) (moi_12 : Int32) (moi_13 : Int32) (moi_17 : Int32) (moi_18 : Int32) (moi_20 : Int32) (moi_21 : Int32) (moi_24 : Int32) (moi_26 : Int32) (moi_28 : Int32) (moi_30 : Int32) (moi_31 : Int32) (moi_32 : Int32) (mok_1 : Nat → Int32) (mok_3 : Nat → Int32) (mok_5 : Nat → Int32) (mok_6 : Nat → Int32) (mok_7 : Nat → Int32) (mok_10 : Nat → Int32) (mok_14 : Nat → Int32) (mok_15 : Nat → Int32) (mok_16 : Nat → Int32) (mok_19 : Nat → Int32) (mok_22 : Nat → Int32) (mok_23 : Nat → Int32) (mok_25 : Nat → Int32) (mok_27 : Nat → Int32) (mok_29 : Nat → Int32) (mok_33 : Nat → Int32) (mok_34 : Nat → Int32) (F : Nat) (hne : fX7_note F moi_24 mok_22 mok_25 ≠ none) : xMv l yX7_note wsX7_note ({ frames := 1, cells := 0, slots := 0, locals := 24 } : Room) D (xT cI cP) [.ref mo] (wM cI mo mor moi_0 moi_2 moi_4 moi_8 moi_9 moi_11 moi_12 moi_13 moi_17 moi_18 moi_20 moi_21 moi_24 moi_26 moi_28 moi_30 moi_31 moi_32 mok_1 mok_3 mok_5 mok_6 mok_7 mok_10 mok_14 mok_15 mok_16 mok_19 mok_22 mok_23 mok_25 mok_27 mok_29 mok_33 mok_34) sz (fun (u : (Int32 × (Nat → Int32))) => fX7_note F moi_24 mok_22 mok_25 = some u) (fun u => wM cI mo mor moi_0 moi_2 moi_4 moi_8 moi_9 moi_11 moi_12 moi_13 moi_17 moi_18 moi_20 moi_21 u.1 moi_26 moi_28 moi_30 moi_31 moi_32 mok_1 mok_3 mok_5 mok_6 mok_7 mok_10 mok_14 mok_15 mok_16 mok_19 mok_22 mok_23 u.2 mok_27 mok_29 mok_33 mok_34) 0 0 := by
  refine xMv_of (cc := cX7_note) (maxL := 2) (by decide +kernel) rfl (Nat.le_of_ble_eq_true rfl) ?_
  intro p e s m args below meth c A ls hx hb hml hown hts hname hN hK hA hP hD hS hl Q hret
  have he := fX7_note.eq_1 F moi_24 mok_22 mok_25
  have hl : lv_has ls 2 [(0, .ref mo)] := hl
  have R11_0 : ∀ (v11_1 : Int32) (w11_mok_25 : Nat → Int32), fX7_note F moi_24 mok_22 mok_25 = (xbd (fX7_copy_now_back F mok_22 w11_mok_25 (0 : Int32) ((19 : Int32) * (moi_24 - (1 : Int32)))) (fun (u65 : (Nat → Int32)) => some (((moi_24 - (1 : Int32)) + (1 : Int32)), u65))) → ∀ (H : Heap) (locs : List Loc) (ls : Array Slot), va_P D vwCl (wM cI mo mor moi_0 moi_2 moi_4 moi_8 moi_9 moi_11 moi_12 moi_13 moi_17 moi_18 moi_20 moi_21 moi_24 moi_26 moi_28 moi_30 moi_31 moi_32 mok_1 mok_3 mok_5 mok_6 mok_7 mok_10 mok_14 mok_15 mok_16 mok_19 mok_22 mok_23 w11_mok_25 mok_27 mok_29 mok_33 mok_34) H → va_D A (wM cI mo mor moi_0 moi_2 moi_4 moi_8 moi_9 moi_11 moi_12 moi_13 moi_17 moi_18 moi_20 moi_21 moi_24 moi_26 moi_28 moi_30 moi_31 moi_32 mok_1 mok_3 mok_5 mok_6 mok_7 mok_10 mok_14 mok_15 mok_16 mok_19 mok_22 mok_23 w11_mok_25 mok_27 mok_29 mok_33 mok_34) → va_S A s.heap H locs → lv_has ls 2 [(0, .ref mo)] → W p l e ({ frames := 1, cells := 0, slots := 0, locals := 24 } : Room) s m args below meth c H locs 0 0 Q (F0 m 39 ls []) := by
    intro v11_1 w11_mok_25 he H locs ls hP hD hS hl
    refine lv_aload_n hx hb dX7_note_39 rfl (lv_at hl 0 rfl) ?_
    refine lv_dup hx hb dX7_note_40 rfl ?_
    refine va_get (D := D) (ci := 7) (v := .int moi_24) (C := RX7) (T := TX7) (N := 35) hx hb hts hi_X7_note_7 hown hK hP 0 wM_0 rfl 24 (by decide) (hts (.fieldLink RX7 135 "BlindLanternsModel" "backs" "I") (List.mem_of_getElem? (i := 1) rfl)) (fun _ h9 => h9) xMf_24 dX7_note_41 ?_
    refine lv_iconst (v := 1) hx hb dX7_note_44 (by decide) ?_
    refine lv_isub hx hb dX7_note_45 ?_
    refine va_put (D := D) (ci := 7) (v := .int (moi_24 - (1 : Int32))) (ty := .int) (C := RX7) (T := TX7) (N := 35) hx hb hts hi_X7_note_7 tyX7 tyX7_ok nmX7 hown hK hP hD hS 0 wM_0 rfl 24 (by decide) (hts (.fieldLink RX7 135 "BlindLanternsModel" "backs" "I") (List.mem_of_getElem? (i := 1) rfl)) (fun _ h9 => h9) rfl (by decide +kernel) rfl rfl (Nat.le_of_ble_eq_true rfl) dX7_note_46 (fun H locs hP hD hS => ?_)
    rw [wM_p24] at hP hD
    refine lv_aload_n hx hb dX7_note_49 rfl (lv_at hl 0 rfl) ?_
    refine va_get (D := D) (ci := 7) (v := .ref (mor 22)) (C := RX7) (T := TX7) (N := 35) hx hb hts hi_X7_note_7 hown hK hP 0 wM_0 rfl 22 (by decide) (hts (.fieldLink RX7 40 "BlindLanternsModel" "now" "[I") (List.mem_of_getElem? (i := 3) rfl)) (fun _ h9 => h9) xMf_22 dX7_note_50 ?_
    refine lv_iconst (v := 0) hx hb dX7_note_53 (by decide) ?_
    refine lv_aload_n hx hb dX7_note_54 rfl (lv_at hl 0 rfl) ?_
    refine va_get (D := D) (ci := 7) (v := .ref (mor 25)) (C := RX7) (T := TX7) (N := 35) hx hb hts hi_X7_note_7 hown hK hP 0 wM_0 rfl 25 (by decide) (hts (.fieldLink RX7 46 "BlindLanternsModel" "back" "[I") (List.mem_of_getElem? (i := 2) rfl)) (fun _ h9 => h9) xMf_25 dX7_note_55 ?_
    refine lv_bipush (v := 19) hx hb dX7_note_58 (by decide) ?_
    refine lv_aload_n hx hb dX7_note_60 rfl (lv_at hl 0 rfl) ?_
    refine va_get (D := D) (ci := 7) (v := .int (moi_24 - (1 : Int32))) (C := RX7) (T := TX7) (N := 35) hx hb hts hi_X7_note_7 hown hK hP 0 wM_0 rfl 24 (by decide) (hts (.fieldLink RX7 135 "BlindLanternsModel" "backs" "I") (List.mem_of_getElem? (i := 1) rfl)) (fun _ h9 => h9) xMf_24 dX7_note_61 ?_
    refine lv_imul hx hb dX7_note_64 ?_
    have n3_ : fX7_copy_now_back F mok_22 w11_mok_25 (0 : Int32) ((19 : Int32) * (moi_24 - (1 : Int32))) ≠ none := fun z => hne (he.trans (xbd_none z))
    refine xcvW (va_runS (As := [.ref (mor 22), .int (0 : Int32), .ref (mor 25), .int ((19 : Int32) * (moi_24 - (1 : Int32)))]) (rest := []) ⟨hx, hb, hml, hown, hts⟩ (c_X7_copy_now_back l D cI cP H.size mo mor moi_0 moi_2 moi_4 moi_8 moi_9 moi_11 moi_12 moi_13 moi_17 moi_18 moi_20 moi_21 (moi_24 - (1 : Int32)) moi_26 moi_28 moi_30 moi_31 moi_32 mok_1 mok_3 mok_5 mok_6 mok_7 mok_10 mok_14 mok_15 mok_16 mok_19 mok_22 mok_23 w11_mok_25 mok_27 mok_29 mok_33 mok_34 F (0 : Int32) ((19 : Int32) * (moi_24 - (1 : Int32))) n3_) (va_cwS 4 hts gX7_note_X7_copy rfl rfl rfl (by decide +kernel) ⟨Nat.le_of_ble_eq_true rfl, Nat.le_of_ble_eq_true rfl⟩) (xPSW hN hK hP hD) rfl rfl hl.1 rfl (lv_room (Nat.le_of_ble_eq_true rfl)) dX7_note_65 ⟨Nat.le_of_ble_eq_true rfl, Nat.le_of_ble_eq_true rfl⟩) hD hS hA (fun u65 H locs hw hP hD hS => ?_)
    have hP : va_P D vwCl (wM cI mo mor moi_0 moi_2 moi_4 moi_8 moi_9 moi_11 moi_12 moi_13 moi_17 moi_18 moi_20 moi_21 (moi_24 - (1 : Int32)) moi_26 moi_28 moi_30 moi_31 moi_32 mok_1 mok_3 mok_5 mok_6 mok_7 mok_10 mok_14 mok_15 mok_16 mok_19 mok_22 mok_23 u65 mok_27 mok_29 mok_33 mok_34) H := hP
    have hD : va_D A (wM cI mo mor moi_0 moi_2 moi_4 moi_8 moi_9 moi_11 moi_12 moi_13 moi_17 moi_18 moi_20 moi_21 (moi_24 - (1 : Int32)) moi_26 moi_28 moi_30 moi_31 moi_32 mok_1 mok_3 mok_5 mok_6 mok_7 mok_10 mok_14 mok_15 mok_16 mok_19 mok_22 mok_23 u65 mok_27 mok_29 mok_33 mok_34) := hD
    replace he := he.trans (xbd_some hw)
    refine lv_aload_n hx hb dX7_note_68 rfl (lv_at hl 0 rfl) ?_
    refine lv_dup hx hb dX7_note_69 rfl ?_
    refine va_get (D := D) (ci := 7) (v := .int (moi_24 - (1 : Int32))) (C := RX7) (T := TX7) (N := 35) hx hb hts hi_X7_note_7 hown hK hP 0 wM_0 rfl 24 (by decide) (hts (.fieldLink RX7 135 "BlindLanternsModel" "backs" "I") (List.mem_of_getElem? (i := 1) rfl)) (fun _ h9 => h9) xMf_24 dX7_note_70 ?_
    refine lv_iconst (v := 1) hx hb dX7_note_73 (by decide) ?_
    refine lv_iadd hx hb dX7_note_74 ?_
    refine va_put (D := D) (ci := 7) (v := .int ((moi_24 - (1 : Int32)) + (1 : Int32))) (ty := .int) (C := RX7) (T := TX7) (N := 35) hx hb hts hi_X7_note_7 tyX7 tyX7_ok nmX7 hown hK hP hD hS 0 wM_0 rfl 24 (by decide) (hts (.fieldLink RX7 135 "BlindLanternsModel" "backs" "I") (List.mem_of_getElem? (i := 1) rfl)) (fun _ h9 => h9) rfl (by decide +kernel) rfl rfl (Nat.le_of_ble_eq_true rfl) dX7_note_75 (fun H locs hP hD hS => ?_)
    rw [wM_p24] at hP hD
    exact hret (((moi_24 - (1 : Int32)) + (1 : Int32)), u65) _ _ _ _ dX7_note_78 he hP hD hS
  have L11_31 : ∀ (n11 : Nat) (v11_1 : Int32) (w11_mok_25 : Nat → Int32), fX7_note F moi_24 mok_22 mok_25 = fX7_note_L11 (fun (v11_1 : Int32) (w11_mok_25 : Nat → Int32) => xbd (fX7_copy_now_back F mok_22 w11_mok_25 (0 : Int32) ((19 : Int32) * (moi_24 - (1 : Int32)))) (fun (u65 : (Nat → Int32)) => some (((moi_24 - (1 : Int32)) + (1 : Int32)), u65))) n11 v11_1 w11_mok_25 → ∀ (H : Heap) (locs : List Loc) (ls : Array Slot), va_P D vwCl (wM cI mo mor moi_0 moi_2 moi_4 moi_8 moi_9 moi_11 moi_12 moi_13 moi_17 moi_18 moi_20 moi_21 moi_24 moi_26 moi_28 moi_30 moi_31 moi_32 mok_1 mok_3 mok_5 mok_6 mok_7 mok_10 mok_14 mok_15 mok_16 mok_19 mok_22 mok_23 w11_mok_25 mok_27 mok_29 mok_33 mok_34) H → va_D A (wM cI mo mor moi_0 moi_2 moi_4 moi_8 moi_9 moi_11 moi_12 moi_13 moi_17 moi_18 moi_20 moi_21 moi_24 moi_26 moi_28 moi_30 moi_31 moi_32 mok_1 mok_3 mok_5 mok_6 mok_7 mok_10 mok_14 mok_15 mok_16 mok_19 mok_22 mok_23 w11_mok_25 mok_27 mok_29 mok_33 mok_34) → va_S A s.heap H locs → lv_has ls 2 [(1, .int v11_1), (0, .ref mo)] → W p l e ({ frames := 1, cells := 0, slots := 0, locals := 24 } : Room) s m args below meth c H locs 0 0 Q (F0 m 11 ls []) := by
    intro n11
    induction n11 with
    | zero => intro v11_1 w11_mok_25 he; exact absurd he hne
    | succ n11 ih11 =>
      intro v11_1 w11_mok_25 he H locs ls hP hD hS hl
      replace he := he.trans (fX7_note_L11.eq_2 _ _ _ _)
      refine lv_iload_n hx hb dX7_note_11 rfl (lv_at hl 0 rfl) ?_
      refine lv_sipush (v := 133) hx hb dX7_note_12 (by decide) ?_
      refine lv_icmp_ge (tgt := 39) hx hb dX7_note_15 (by decide) (fun c4 => ?_) (fun c4 => ?_)
      · replace he := he.trans (if_pos c4)
        exact R11_0 v11_1 w11_mok_25 he _ _ _ hP hD hS (lv_sub hl [1] rfl)
      · replace he := he.trans (if_neg c4)
        refine lv_aload_n hx hb dX7_note_18 rfl (lv_at hl 1 rfl) ?_
        refine va_get (D := D) (ci := 7) (v := .ref (mor 25)) (C := RX7) (T := TX7) (N := 35) hx hb hts hi_X7_note_7 hown hK hP 0 wM_0 rfl 25 (by decide) (hts (.fieldLink RX7 46 "BlindLanternsModel" "back" "[I") (List.mem_of_getElem? (i := 2) rfl)) (fun _ h9 => h9) xMf_25 dX7_note_19 ?_
        refine lv_iload_n hx hb dX7_note_22 rfl (lv_at hl 0 rfl) ?_
        refine lv_aload_n hx hb dX7_note_23 rfl (lv_at hl 1 rfl) ?_
        refine va_get (D := D) (ci := 7) (v := .ref (mor 25)) (C := RX7) (T := TX7) (N := 35) hx hb hts hi_X7_note_7 hown hK hP 0 wM_0 rfl 25 (by decide) (hts (.fieldLink RX7 46 "BlindLanternsModel" "back" "[I") (List.mem_of_getElem? (i := 2) rfl)) (fun _ h9 => h9) xMf_25 dX7_note_24 ?_
        refine lv_iload_n hx hb dX7_note_27 rfl (lv_at hl 0 rfl) ?_
        refine lv_bipush (v := 19) hx hb dX7_note_28 (by decide) ?_
        refine lv_iadd hx hb dX7_note_30 ?_
        by_cases g5 : (v11_1 + (19 : Int32)) < 0 ∨ 152 ≤ (v11_1 + (19 : Int32)).toNatClampNeg
        · exact absurd (he.trans (if_pos g5)) hne
        replace he := he.trans (if_neg g5)
        refine va_iald hx hb hK hP 13 0 wM_a25 rfl g5 dX7_note_31 ?_
        by_cases g6 : v11_1 < 0 ∨ 152 ≤ v11_1.toNatClampNeg
        · exact absurd (he.trans (if_pos g6)) hne
        replace he := he.trans (if_neg g6)
        refine va_iast hx hb hK hP hD hS 13 0 wM_a25 rfl g6 dX7_note_32 (fun H locs hP hD hS => ?_)
        rw [wM_s25] at hP hD
        refine lv_iinc (v := (v11_1 + 1)) (lv' := [(1, .int (v11_1 + 1)), (0, .ref mo)]) hx hb dX7_note_33 hl (k := 0) rfl rfl (by decide) rfl (fun ls hl => ?_)
        refine lv_goto (tgt := 11) hx hb dX7_note_36 (by decide) ?_
        exact ih11 (v11_1 + 1) (upd w11_mok_25 v11_1.toNatClampNeg (w11_mok_25 (v11_1 + (19 : Int32)).toNatClampNeg)) he _ _ _ hP hD hS (lv_sub hl [0, 1] rfl)
  refine lv_aload_n hx hb dX7_note_0 rfl (lv_at hl 0 rfl) ?_
  refine va_get (D := D) (ci := 7) (v := .int moi_24) (C := RX7) (T := TX7) (N := 35) hx hb hts hi_X7_note_7 hown hK hP 0 wM_0 rfl 24 (by decide) (hts (.fieldLink RX7 135 "BlindLanternsModel" "backs" "I") (List.mem_of_getElem? (i := 1) rfl)) (fun _ h9 => h9) xMf_24 dX7_note_1 ?_
  refine lv_bipush (v := 8) hx hb dX7_note_4 (by decide) ?_
  refine lv_icmp_ne (tgt := 49) hx hb dX7_note_6 (by decide) (fun c1 => ?_) (fun c1 => ?_)
  · replace he := he.trans (if_neg c1)
    refine lv_aload_n hx hb dX7_note_49 rfl (lv_at hl 0 rfl) ?_
    refine va_get (D := D) (ci := 7) (v := .ref (mor 22)) (C := RX7) (T := TX7) (N := 35) hx hb hts hi_X7_note_7 hown hK hP 0 wM_0 rfl 22 (by decide) (hts (.fieldLink RX7 40 "BlindLanternsModel" "now" "[I") (List.mem_of_getElem? (i := 3) rfl)) (fun _ h9 => h9) xMf_22 dX7_note_50 ?_
    refine lv_iconst (v := 0) hx hb dX7_note_53 (by decide) ?_
    refine lv_aload_n hx hb dX7_note_54 rfl (lv_at hl 0 rfl) ?_
    refine va_get (D := D) (ci := 7) (v := .ref (mor 25)) (C := RX7) (T := TX7) (N := 35) hx hb hts hi_X7_note_7 hown hK hP 0 wM_0 rfl 25 (by decide) (hts (.fieldLink RX7 46 "BlindLanternsModel" "back" "[I") (List.mem_of_getElem? (i := 2) rfl)) (fun _ h9 => h9) xMf_25 dX7_note_55 ?_
    refine lv_bipush (v := 19) hx hb dX7_note_58 (by decide) ?_
    refine lv_aload_n hx hb dX7_note_60 rfl (lv_at hl 0 rfl) ?_
    refine va_get (D := D) (ci := 7) (v := .int moi_24) (C := RX7) (T := TX7) (N := 35) hx hb hts hi_X7_note_7 hown hK hP 0 wM_0 rfl 24 (by decide) (hts (.fieldLink RX7 135 "BlindLanternsModel" "backs" "I") (List.mem_of_getElem? (i := 1) rfl)) (fun _ h9 => h9) xMf_24 dX7_note_61 ?_
    refine lv_imul hx hb dX7_note_64 ?_
    have n2_ : fX7_copy_now_back F mok_22 mok_25 (0 : Int32) ((19 : Int32) * moi_24) ≠ none := fun z => hne (he.trans (xbd_none z))
    refine xcvW (va_runS (As := [.ref (mor 22), .int (0 : Int32), .ref (mor 25), .int ((19 : Int32) * moi_24)]) (rest := []) ⟨hx, hb, hml, hown, hts⟩ (c_X7_copy_now_back l D cI cP s.heap.size mo mor moi_0 moi_2 moi_4 moi_8 moi_9 moi_11 moi_12 moi_13 moi_17 moi_18 moi_20 moi_21 moi_24 moi_26 moi_28 moi_30 moi_31 moi_32 mok_1 mok_3 mok_5 mok_6 mok_7 mok_10 mok_14 mok_15 mok_16 mok_19 mok_22 mok_23 mok_25 mok_27 mok_29 mok_33 mok_34 F (0 : Int32) ((19 : Int32) * moi_24) n2_) (va_cwS 4 hts gX7_note_X7_copy rfl rfl rfl (by decide +kernel) ⟨Nat.le_of_ble_eq_true rfl, Nat.le_of_ble_eq_true rfl⟩) (xPSW hN hK hP hD) rfl rfl hl.1 rfl (lv_room (Nat.le_of_ble_eq_true rfl)) dX7_note_65 ⟨Nat.le_of_ble_eq_true rfl, Nat.le_of_ble_eq_true rfl⟩) hD hS hA (fun u65 H locs hw hP hD hS => ?_)
    have hP : va_P D vwCl (wM cI mo mor moi_0 moi_2 moi_4 moi_8 moi_9 moi_11 moi_12 moi_13 moi_17 moi_18 moi_20 moi_21 moi_24 moi_26 moi_28 moi_30 moi_31 moi_32 mok_1 mok_3 mok_5 mok_6 mok_7 mok_10 mok_14 mok_15 mok_16 mok_19 mok_22 mok_23 u65 mok_27 mok_29 mok_33 mok_34) H := hP
    have hD : va_D A (wM cI mo mor moi_0 moi_2 moi_4 moi_8 moi_9 moi_11 moi_12 moi_13 moi_17 moi_18 moi_20 moi_21 moi_24 moi_26 moi_28 moi_30 moi_31 moi_32 mok_1 mok_3 mok_5 mok_6 mok_7 mok_10 mok_14 mok_15 mok_16 mok_19 mok_22 mok_23 u65 mok_27 mok_29 mok_33 mok_34) := hD
    replace he := he.trans (xbd_some hw)
    refine lv_aload_n hx hb dX7_note_68 rfl (lv_at hl 0 rfl) ?_
    refine lv_dup hx hb dX7_note_69 rfl ?_
    refine va_get (D := D) (ci := 7) (v := .int moi_24) (C := RX7) (T := TX7) (N := 35) hx hb hts hi_X7_note_7 hown hK hP 0 wM_0 rfl 24 (by decide) (hts (.fieldLink RX7 135 "BlindLanternsModel" "backs" "I") (List.mem_of_getElem? (i := 1) rfl)) (fun _ h9 => h9) xMf_24 dX7_note_70 ?_
    refine lv_iconst (v := 1) hx hb dX7_note_73 (by decide) ?_
    refine lv_iadd hx hb dX7_note_74 ?_
    refine va_put (D := D) (ci := 7) (v := .int (moi_24 + (1 : Int32))) (ty := .int) (C := RX7) (T := TX7) (N := 35) hx hb hts hi_X7_note_7 tyX7 tyX7_ok nmX7 hown hK hP hD hS 0 wM_0 rfl 24 (by decide) (hts (.fieldLink RX7 135 "BlindLanternsModel" "backs" "I") (List.mem_of_getElem? (i := 1) rfl)) (fun _ h9 => h9) rfl (by decide +kernel) rfl rfl (Nat.le_of_ble_eq_true rfl) dX7_note_75 (fun H locs hP hD hS => ?_)
    rw [wM_p24] at hP hD
    exact hret ((moi_24 + (1 : Int32)), u65) _ _ _ _ dX7_note_78 he hP hD hS
  · replace he := he.trans (if_pos c1)
    refine lv_iconst (v := 0) hx hb dX7_note_9 (by decide) ?_
    refine lv_istore_n (lv' := [(1, .int (0 : Int32)), (0, .ref mo)]) hx hb dX7_note_10 rfl hl (by decide) rfl (fun ls hl => ?_)
    exact L11_31 F (0 : Int32) mok_25 he _ _ _ hP hD hS (lv_sub hl [0, 1] rfl)

def fX7_areNumbers_L19 (moi_0 : Int32) (mok_1 : Nat → Int32) (v2_2 : Int32) (w2_moi_2 : Int32) (k19 : Int32 → (Nat → Int32) → Option (Int32 × Int32 × (Nat → Int32))) : Nat → Int32 → (Nat → Int32) → Option (Int32 × Int32 × (Nat → Int32))
  | 0, _, _ => none
  | n19 + 1, w19_moi_2, w19_mok_3 => if moi_0 ≤ w19_moi_2 then (k19 w19_moi_2 w19_mok_3) else (if w19_moi_2 < 0 ∨ 300 ≤ w19_moi_2.toNatClampNeg then none else (xbd (fX7_in (mok_1 w19_moi_2.toNatClampNeg) (48 : Int32) (57 : Int32)) (fun (r43 : Int32) => if r43 = 0 then (k19 w19_moi_2 w19_mok_3) else (if (2 : Int32) ≤ (w19_moi_2 - w2_moi_2) then (if v2_2 < 0 ∨ 3 ≤ v2_2.toNatClampNeg then none else (fX7_areNumbers_L19 moi_0 mok_1 v2_2 w2_moi_2 k19 n19 (w19_moi_2 + (1 : Int32)) (upd w19_mok_3 v2_2.toNatClampNeg (1000 : Int32)))) else (if v2_2 < 0 ∨ 3 ≤ v2_2.toNatClampNeg then none else (if w19_moi_2 < 0 ∨ 300 ≤ w19_moi_2.toNatClampNeg then none else (if v2_2 < 0 ∨ 3 ≤ v2_2.toNatClampNeg then none else (fX7_areNumbers_L19 moi_0 mok_1 v2_2 w2_moi_2 k19 n19 (w19_moi_2 + (1 : Int32)) (upd w19_mok_3 v2_2.toNatClampNeg ((((10 : Int32) * (w19_mok_3 v2_2.toNatClampNeg)) + (mok_1 w19_moi_2.toNatClampNeg)) - (48 : Int32)))))))))))
def fX7_areNumbers_L2 (moi_0 : Int32) (mok_1 : Nat → Int32) (a1 : Int32) (F : Nat) (k2 : Int32 → Int32 → (Nat → Int32) → Option (Int32 × Int32 × (Nat → Int32))) : Nat → Int32 → Int32 → (Nat → Int32) → Option (Int32 × Int32 × (Nat → Int32))
  | 0, _, _, _ => none
  | n2 + 1, v2_2, w2_moi_2, w2_mok_3 => if a1 ≤ v2_2 then (k2 v2_2 w2_moi_2 w2_mok_3) else (if v2_2 < 0 ∨ 3 ≤ v2_2.toNatClampNeg then none else (fX7_areNumbers_L19 moi_0 mok_1 v2_2 w2_moi_2 (fun (w19_moi_2 : Int32) (w19_mok_3 : Nat → Int32) => if w19_moi_2 = w2_moi_2 then (some ((0 : Int32), (w19_moi_2, w19_mok_3))) else (if (2 : Int32) < (w19_moi_2 - w2_moi_2) then (some ((0 : Int32), (w19_moi_2, w19_mok_3))) else (if w19_moi_2 = moi_0 then (some ((0 : Int32), (w19_moi_2, w19_mok_3))) else (if w19_moi_2 < 0 ∨ 300 ≤ w19_moi_2.toNatClampNeg then none else (if v2_2 = (a1 - (1 : Int32)) then (if (mok_1 w19_moi_2.toNatClampNeg) = (59 : Int32) then (fX7_areNumbers_L2 moi_0 mok_1 a1 F k2 n2 (v2_2 + 1) (w19_moi_2 + (1 : Int32)) w19_mok_3) else (some ((0 : Int32), (w19_moi_2, w19_mok_3)))) else (if (mok_1 w19_moi_2.toNatClampNeg) = (44 : Int32) then (fX7_areNumbers_L2 moi_0 mok_1 a1 F k2 n2 (v2_2 + 1) (w19_moi_2 + (1 : Int32)) w19_mok_3) else (some ((0 : Int32), (w19_moi_2, w19_mok_3))))))))) F w2_moi_2 (upd w2_mok_3 v2_2.toNatClampNeg (0 : Int32))))
def fX7_areNumbers (F : Nat) (moi_0 : Int32) (moi_2 : Int32) (mok_1 : Nat → Int32) (mok_3 : Nat → Int32) (a1 : Int32) : Option (Int32 × Int32 × (Nat → Int32)) :=
  fX7_areNumbers_L2 moi_0 mok_1 a1 F (fun (v2_2 : Int32) (w2_moi_2 : Int32) (w2_mok_3 : Nat → Int32) => some ((1 : Int32), (w2_moi_2, w2_mok_3))) F (0 : Int32) moi_2 mok_3
theorem hi_X7_areNumbers_7 : ∀ w ∈ wsX70, w ∈ wsX7_areNumbers := fun _ h => (List.mem_cons_of_mem _ (List.mem_append_right _ h))
set_option maxHeartbeats 4000000 in
set_option maxRecDepth 100000 in
theorem c_X7_areNumbers (l : Launch) (D : va_G) (cI cP : ClassId) (sz : Nat) (mo : Nat) (mor : Nat → Nat) (moi_0 : Int32) (moi_2 : Int32) (moi_4 : Int32) (moi_8 : Int32) (moi_9 : Int32) (moi_11 : Int32) (moi_12 : Int32) (moi_13 : Int32) (moi_17 : Int32) (moi_18 : Int32) (moi_20 : Int32) (moi_21 : Int32) (moi_24 : Int32) (moi_26 : Int32) (moi_28 : Int32) (moi_30 : Int32) (moi_31 : Int32) (moi_32 : Int32) (mok_1 : Nat → Int32) (mok_3 : Nat → Int32) (mok_5 : Nat → Int32) (mok_6 : Nat → Int32) (mok_7 : Nat → Int32) (mok_10 : Nat → Int32) (mok_14 : Nat → Int32) (mok_15 : Nat → Int32) (mok_16 : Nat → Int32) (mok_19 : Nat → Int32) (mok_22 : Nat → Int32) (mok_23 : Nat → Int32) (mok_25 : Nat → Int32) (mok_27 : Nat → Int32) (mok_29 : Nat → Int32) (mok_33 : Nat → Int32) (mok_34 : Nat → Int32) (F : Nat) (a1 : Int32) (hne : fX7_areNumbers F moi_0 moi_2 mok_1 mok_3 a1 ≠ none) : xMi l yX7_areNumbers wsX7_areNumbers ({ frames := 1, cells := 0, slots := 0, locals := 22 } : Room) D (xT cI cP) [.ref mo, .int a1] (wM cI mo mor moi_0 moi_2 moi_4 moi_8 moi_9 moi_11 moi_12 moi_13 moi_17 moi_18 moi_20 moi_21 moi_24 moi_26 moi_28 moi_30 moi_31 moi_32 mok_1 mok_3 mok_5 mok_6 mok_7 mok_10 mok_14 mok_15 mok_16 mok_19 mok_22 mok_23 mok_25 mok_27 mok_29 mok_33 mok_34) sz (fun r (u : (Int32 × (Nat → Int32))) => fX7_areNumbers F moi_0 moi_2 mok_1 mok_3 a1 = some (r, u)) (fun u => wM cI mo mor moi_0 u.1 moi_4 moi_8 moi_9 moi_11 moi_12 moi_13 moi_17 moi_18 moi_20 moi_21 moi_24 moi_26 moi_28 moi_30 moi_31 moi_32 mok_1 u.2 mok_5 mok_6 mok_7 mok_10 mok_14 mok_15 mok_16 mok_19 mok_22 mok_23 mok_25 mok_27 mok_29 mok_33 mok_34) 0 0 := by
  refine xMz_of (cc := cX7_areNumbers) (maxL := 4) (by decide +kernel) rfl (Nat.le_of_ble_eq_true rfl) ?_
  intro p e s m args below meth c A ls hx hb hml hown hts hname hN hK hA hP hD hS hl Q hret
  have he := fX7_areNumbers.eq_1 F moi_0 moi_2 mok_1 mok_3 a1
  have hl : lv_has ls 4 [(0, .ref mo), (1, .int a1)] := hl
  have R2_0 : ∀ (v2_2 : Int32) (w2_moi_2 : Int32) (w2_mok_3 : Nat → Int32), fX7_areNumbers F moi_0 moi_2 mok_1 mok_3 a1 = (some ((1 : Int32), (w2_moi_2, w2_mok_3))) → ∀ (H : Heap) (locs : List Loc) (ls : Array Slot), va_P D vwCl (wM cI mo mor moi_0 w2_moi_2 moi_4 moi_8 moi_9 moi_11 moi_12 moi_13 moi_17 moi_18 moi_20 moi_21 moi_24 moi_26 moi_28 moi_30 moi_31 moi_32 mok_1 w2_mok_3 mok_5 mok_6 mok_7 mok_10 mok_14 mok_15 mok_16 mok_19 mok_22 mok_23 mok_25 mok_27 mok_29 mok_33 mok_34) H → va_D A (wM cI mo mor moi_0 w2_moi_2 moi_4 moi_8 moi_9 moi_11 moi_12 moi_13 moi_17 moi_18 moi_20 moi_21 moi_24 moi_26 moi_28 moi_30 moi_31 moi_32 mok_1 w2_mok_3 mok_5 mok_6 mok_7 mok_10 mok_14 mok_15 mok_16 mok_19 mok_22 mok_23 mok_25 mok_27 mok_29 mok_33 mok_34) → va_S A s.heap H locs → lv_has ls 4 [] → W p l e ({ frames := 1, cells := 0, slots := 0, locals := 22 } : Room) s m args below meth c H locs 0 0 Q (F0 m 179 ls []) := by
    intro v2_2 w2_moi_2 w2_mok_3 he H locs ls hP hD hS hl
    refine lv_iconst (v := 1) hx hb dX7_areNumbers_179 (by decide) ?_
    exact hret (1 : Int32) (w2_moi_2, w2_mok_3) _ _ _ _ dX7_areNumbers_180 (Or.inr rfl) he hP hD hS
  have L2_4 : ∀ (n2 : Nat) (v2_2 : Int32) (w2_moi_2 : Int32) (w2_mok_3 : Nat → Int32), fX7_areNumbers F moi_0 moi_2 mok_1 mok_3 a1 = fX7_areNumbers_L2 moi_0 mok_1 a1 F (fun (v2_2 : Int32) (w2_moi_2 : Int32) (w2_mok_3 : Nat → Int32) => some ((1 : Int32), (w2_moi_2, w2_mok_3))) n2 v2_2 w2_moi_2 w2_mok_3 → ∀ (H : Heap) (locs : List Loc) (ls : Array Slot), va_P D vwCl (wM cI mo mor moi_0 w2_moi_2 moi_4 moi_8 moi_9 moi_11 moi_12 moi_13 moi_17 moi_18 moi_20 moi_21 moi_24 moi_26 moi_28 moi_30 moi_31 moi_32 mok_1 w2_mok_3 mok_5 mok_6 mok_7 mok_10 mok_14 mok_15 mok_16 mok_19 mok_22 mok_23 mok_25 mok_27 mok_29 mok_33 mok_34) H → va_D A (wM cI mo mor moi_0 w2_moi_2 moi_4 moi_8 moi_9 moi_11 moi_12 moi_13 moi_17 moi_18 moi_20 moi_21 moi_24 moi_26 moi_28 moi_30 moi_31 moi_32 mok_1 w2_mok_3 mok_5 mok_6 mok_7 mok_10 mok_14 mok_15 mok_16 mok_19 mok_22 mok_23 mok_25 mok_27 mok_29 mok_33 mok_34) → va_S A s.heap H locs → lv_has ls 4 [(2, .int v2_2), (0, .ref mo), (1, .int a1)] → W p l e ({ frames := 1, cells := 0, slots := 0, locals := 22 } : Room) s m args below meth c H locs 0 0 Q (F0 m 2 ls []) := by
    intro n2
    induction n2 with
    | zero => intro v2_2 w2_moi_2 w2_mok_3 he; exact absurd he hne
    | succ n2 ih2 =>
      intro v2_2 w2_moi_2 w2_mok_3 he H locs ls hP hD hS hl
      replace he := he.trans (fX7_areNumbers_L2.eq_2 _ _ _ _ _ _ _ _ _)
      refine lv_iload_n hx hb dX7_areNumbers_2 rfl (lv_at hl 0 rfl) ?_
      refine lv_iload_n hx hb dX7_areNumbers_3 rfl (lv_at hl 2 rfl) ?_
      refine lv_icmp_ge (tgt := 179) hx hb dX7_areNumbers_4 (by decide) (fun c1 => ?_) (fun c1 => ?_)
      · replace he := he.trans (if_pos c1)
        exact R2_0 v2_2 w2_moi_2 w2_mok_3 he _ _ _ hP hD hS (lv_sub hl [] rfl)
      · replace he := he.trans (if_neg c1)
        refine lv_aload_n hx hb dX7_areNumbers_7 rfl (lv_at hl 1 rfl) ?_
        refine va_get (D := D) (ci := 7) (v := .int w2_moi_2) (C := RX7) (T := TX7) (N := 35) hx hb hts hi_X7_areNumbers_7 hown hK hP 0 wM_0 rfl 2 (by decide) (hts (.fieldLink RX7 93 "BlindLanternsModel" "position" "I") (List.mem_of_getElem? (i := 1) rfl)) (fun _ h9 => h9) xMf_2 dX7_areNumbers_8 ?_
        refine lv_istore_n (lv' := [(3, .int w2_moi_2), (2, .int v2_2), (0, .ref mo), (1, .int a1)]) hx hb dX7_areNumbers_11 rfl hl (by decide) rfl (fun ls hl => ?_)
        refine lv_aload_n hx hb dX7_areNumbers_12 rfl (lv_at hl 2 rfl) ?_
        refine va_get (D := D) (ci := 7) (v := .ref (mor 3)) (C := RX7) (T := TX7) (N := 35) hx hb hts hi_X7_areNumbers_7 hown hK hP 0 wM_0 rfl 3 (by decide) (hts (.fieldLink RX7 13 "BlindLanternsModel" "number" "[I") (List.mem_of_getElem? (i := 2) rfl)) (fun _ h9 => h9) xMf_3 dX7_areNumbers_13 ?_
        refine lv_iload_n hx hb dX7_areNumbers_16 rfl (lv_at hl 1 rfl) ?_
        refine lv_iconst (v := 0) hx hb dX7_areNumbers_17 (by decide) ?_
        by_cases g2 : v2_2 < 0 ∨ 3 ≤ v2_2.toNatClampNeg
        · exact absurd (he.trans (if_pos g2)) hne
        replace he := he.trans (if_neg g2)
        refine va_iast hx hb hK hP hD hS 2 0 wM_a3 rfl g2 dX7_areNumbers_18 (fun H locs hP hD hS => ?_)
        rw [wM_s3] at hP hD
        have R19 : ∀ (w19_moi_2 : Int32) (w19_mok_3 : Nat → Int32), fX7_areNumbers F moi_0 moi_2 mok_1 mok_3 a1 = (if w19_moi_2 = w2_moi_2 then (some ((0 : Int32), (w19_moi_2, w19_mok_3))) else (if (2 : Int32) < (w19_moi_2 - w2_moi_2) then (some ((0 : Int32), (w19_moi_2, w19_mok_3))) else (if w19_moi_2 = moi_0 then (some ((0 : Int32), (w19_moi_2, w19_mok_3))) else (if w19_moi_2 < 0 ∨ 300 ≤ w19_moi_2.toNatClampNeg then none else (if v2_2 = (a1 - (1 : Int32)) then (if (mok_1 w19_moi_2.toNatClampNeg) = (59 : Int32) then (fX7_areNumbers_L2 moi_0 mok_1 a1 F (fun (v2_2 : Int32) (w2_moi_2 : Int32) (w2_mok_3 : Nat → Int32) => some ((1 : Int32), (w2_moi_2, w2_mok_3))) n2 (v2_2 + 1) (w19_moi_2 + (1 : Int32)) w19_mok_3) else (some ((0 : Int32), (w19_moi_2, w19_mok_3)))) else (if (mok_1 w19_moi_2.toNatClampNeg) = (44 : Int32) then (fX7_areNumbers_L2 moi_0 mok_1 a1 F (fun (v2_2 : Int32) (w2_moi_2 : Int32) (w2_mok_3 : Nat → Int32) => some ((1 : Int32), (w2_moi_2, w2_mok_3))) n2 (v2_2 + 1) (w19_moi_2 + (1 : Int32)) w19_mok_3) else (some ((0 : Int32), (w19_moi_2, w19_mok_3))))))))) → ∀ (H : Heap) (locs : List Loc) (ls : Array Slot), va_P D vwCl (wM cI mo mor moi_0 w19_moi_2 moi_4 moi_8 moi_9 moi_11 moi_12 moi_13 moi_17 moi_18 moi_20 moi_21 moi_24 moi_26 moi_28 moi_30 moi_31 moi_32 mok_1 w19_mok_3 mok_5 mok_6 mok_7 mok_10 mok_14 mok_15 mok_16 mok_19 mok_22 mok_23 mok_25 mok_27 mok_29 mok_33 mok_34) H → va_D A (wM cI mo mor moi_0 w19_moi_2 moi_4 moi_8 moi_9 moi_11 moi_12 moi_13 moi_17 moi_18 moi_20 moi_21 moi_24 moi_26 moi_28 moi_30 moi_31 moi_32 mok_1 w19_mok_3 mok_5 mok_6 mok_7 mok_10 mok_14 mok_15 mok_16 mok_19 mok_22 mok_23 mok_25 mok_27 mok_29 mok_33 mok_34) → va_S A s.heap H locs → lv_has ls 4 [(3, .int w2_moi_2), (2, .int v2_2), (0, .ref mo), (1, .int a1)] → W p l e ({ frames := 1, cells := 0, slots := 0, locals := 22 } : Room) s m args below meth c H locs 0 0 Q (F0 m 106 ls []) := by
          intro w19_moi_2 w19_mok_3 he H locs ls hP hD hS hl
          refine lv_aload_n hx hb dX7_areNumbers_106 rfl (lv_at hl 2 rfl) ?_
          refine va_get (D := D) (ci := 7) (v := .int w19_moi_2) (C := RX7) (T := TX7) (N := 35) hx hb hts hi_X7_areNumbers_7 hown hK hP 0 wM_0 rfl 2 (by decide) (hts (.fieldLink RX7 93 "BlindLanternsModel" "position" "I") (List.mem_of_getElem? (i := 1) rfl)) (fun _ h9 => h9) xMf_2 dX7_areNumbers_107 ?_
          refine lv_iload_n hx hb dX7_areNumbers_110 rfl (lv_at hl 0 rfl) ?_
          refine lv_icmp_eq (tgt := 161) hx hb dX7_areNumbers_111 (by decide) (fun c3 => ?_) (fun c3 => ?_)
          · replace he := he.trans (if_pos c3)
            refine lv_iconst (v := 0) hx hb dX7_areNumbers_161 (by decide) ?_
            exact hret (0 : Int32) (w19_moi_2, w19_mok_3) _ _ _ _ dX7_areNumbers_162 (Or.inl rfl) he hP hD hS
          · replace he := he.trans (if_neg c3)
            refine lv_aload_n hx hb dX7_areNumbers_114 rfl (lv_at hl 2 rfl) ?_
            refine va_get (D := D) (ci := 7) (v := .int w19_moi_2) (C := RX7) (T := TX7) (N := 35) hx hb hts hi_X7_areNumbers_7 hown hK hP 0 wM_0 rfl 2 (by decide) (hts (.fieldLink RX7 93 "BlindLanternsModel" "position" "I") (List.mem_of_getElem? (i := 1) rfl)) (fun _ h9 => h9) xMf_2 dX7_areNumbers_115 ?_
            refine lv_iload_n hx hb dX7_areNumbers_118 rfl (lv_at hl 0 rfl) ?_
            refine lv_isub hx hb dX7_areNumbers_119 ?_
            refine lv_iconst (v := 2) hx hb dX7_areNumbers_120 (by decide) ?_
            refine lv_icmp_gt (tgt := 161) hx hb dX7_areNumbers_121 (by decide) (fun c4 => ?_) (fun c4 => ?_)
            · replace he := he.trans (if_pos c4)
              refine lv_iconst (v := 0) hx hb dX7_areNumbers_161 (by decide) ?_
              exact hret (0 : Int32) (w19_moi_2, w19_mok_3) _ _ _ _ dX7_areNumbers_162 (Or.inl rfl) he hP hD hS
            · replace he := he.trans (if_neg c4)
              refine lv_aload_n hx hb dX7_areNumbers_124 rfl (lv_at hl 2 rfl) ?_
              refine va_get (D := D) (ci := 7) (v := .int w19_moi_2) (C := RX7) (T := TX7) (N := 35) hx hb hts hi_X7_areNumbers_7 hown hK hP 0 wM_0 rfl 2 (by decide) (hts (.fieldLink RX7 93 "BlindLanternsModel" "position" "I") (List.mem_of_getElem? (i := 1) rfl)) (fun _ h9 => h9) xMf_2 dX7_areNumbers_125 ?_
              refine lv_aload_n hx hb dX7_areNumbers_128 rfl (lv_at hl 2 rfl) ?_
              refine va_get (D := D) (ci := 7) (v := .int moi_0) (C := RX7) (T := TX7) (N := 35) hx hb hts hi_X7_areNumbers_7 hown hK hP 0 wM_0 rfl 0 (by decide) (hts (.fieldLink RX7 88 "BlindLanternsModel" "bytes" "I") (List.mem_of_getElem? (i := 3) rfl)) (fun _ h9 => h9) xMf_0 dX7_areNumbers_129 ?_
              refine lv_icmp_eq (tgt := 161) hx hb dX7_areNumbers_132 (by decide) (fun c5 => ?_) (fun c5 => ?_)
              · replace he := he.trans (if_pos c5)
                refine lv_iconst (v := 0) hx hb dX7_areNumbers_161 (by decide) ?_
                exact hret (0 : Int32) (w19_moi_2, w19_mok_3) _ _ _ _ dX7_areNumbers_162 (Or.inl rfl) he hP hD hS
              · replace he := he.trans (if_neg c5)
                refine lv_aload_n hx hb dX7_areNumbers_135 rfl (lv_at hl 2 rfl) ?_
                refine va_get (D := D) (ci := 7) (v := .ref (mor 1)) (C := RX7) (T := TX7) (N := 35) hx hb hts hi_X7_areNumbers_7 hown hK hP 0 wM_0 rfl 1 (by decide) (hts (.fieldLink RX7 7 "BlindLanternsModel" "text" "[I") (List.mem_of_getElem? (i := 4) rfl)) (fun _ h9 => h9) xMf_1 dX7_areNumbers_136 ?_
                refine lv_aload_n hx hb dX7_areNumbers_139 rfl (lv_at hl 2 rfl) ?_
                refine va_get (D := D) (ci := 7) (v := .int w19_moi_2) (C := RX7) (T := TX7) (N := 35) hx hb hts hi_X7_areNumbers_7 hown hK hP 0 wM_0 rfl 2 (by decide) (hts (.fieldLink RX7 93 "BlindLanternsModel" "position" "I") (List.mem_of_getElem? (i := 1) rfl)) (fun _ h9 => h9) xMf_2 dX7_areNumbers_140 ?_
                by_cases g6 : w19_moi_2 < 0 ∨ 300 ≤ w19_moi_2.toNatClampNeg
                · exact absurd (he.trans (if_pos g6)) hne
                replace he := he.trans (if_neg g6)
                refine va_iald hx hb hK hP 1 0 wM_a1 rfl g6 dX7_areNumbers_143 ?_
                refine lv_iload_n hx hb dX7_areNumbers_144 rfl (lv_at hl 1 rfl) ?_
                refine lv_iload_n hx hb dX7_areNumbers_145 rfl (lv_at hl 3 rfl) ?_
                refine lv_iconst (v := 1) hx hb dX7_areNumbers_146 (by decide) ?_
                refine lv_isub hx hb dX7_areNumbers_147 ?_
                refine lv_icmp_ne (tgt := 156) hx hb dX7_areNumbers_148 (by decide) (fun c7 => ?_) (fun c7 => ?_)
                · replace he := he.trans (if_neg c7)
                  refine lv_bipush (v := 44) hx hb dX7_areNumbers_156 (by decide) ?_
                  refine lv_icmp_eq (tgt := 163) hx hb dX7_areNumbers_158 (by decide) (fun c8 => ?_) (fun c8 => ?_)
                  · replace he := he.trans (if_pos c8)
                    refine lv_aload_n hx hb dX7_areNumbers_163 rfl (lv_at hl 2 rfl) ?_
                    refine lv_dup hx hb dX7_areNumbers_164 rfl ?_
                    refine va_get (D := D) (ci := 7) (v := .int w19_moi_2) (C := RX7) (T := TX7) (N := 35) hx hb hts hi_X7_areNumbers_7 hown hK hP 0 wM_0 rfl 2 (by decide) (hts (.fieldLink RX7 93 "BlindLanternsModel" "position" "I") (List.mem_of_getElem? (i := 1) rfl)) (fun _ h9 => h9) xMf_2 dX7_areNumbers_165 ?_
                    refine lv_iconst (v := 1) hx hb dX7_areNumbers_168 (by decide) ?_
                    refine lv_iadd hx hb dX7_areNumbers_169 ?_
                    refine va_put (D := D) (ci := 7) (v := .int (w19_moi_2 + (1 : Int32))) (ty := .int) (C := RX7) (T := TX7) (N := 35) hx hb hts hi_X7_areNumbers_7 tyX7 tyX7_ok nmX7 hown hK hP hD hS 0 wM_0 rfl 2 (by decide) (hts (.fieldLink RX7 93 "BlindLanternsModel" "position" "I") (List.mem_of_getElem? (i := 1) rfl)) (fun _ h9 => h9) rfl (by decide +kernel) rfl rfl (Nat.le_of_ble_eq_true rfl) dX7_areNumbers_170 (fun H locs hP hD hS => ?_)
                    rw [wM_p2] at hP hD
                    refine lv_iinc (v := (v2_2 + 1)) (lv' := [(2, .int (v2_2 + 1)), (3, .int w2_moi_2), (0, .ref mo), (1, .int a1)]) hx hb dX7_areNumbers_173 hl (k := 1) rfl rfl (by decide) rfl (fun ls hl => ?_)
                    refine lv_goto (tgt := 2) hx hb dX7_areNumbers_176 (by decide) ?_
                    exact ih2 (v2_2 + 1) (w19_moi_2 + (1 : Int32)) w19_mok_3 he _ _ _ hP hD hS (lv_sub hl [0, 2, 3] rfl)
                  · replace he := he.trans (if_neg c8)
                    refine lv_iconst (v := 0) hx hb dX7_areNumbers_161 (by decide) ?_
                    exact hret (0 : Int32) (w19_moi_2, w19_mok_3) _ _ _ _ dX7_areNumbers_162 (Or.inl rfl) he hP hD hS
                · replace he := he.trans (if_pos c7)
                  refine lv_bipush (v := 59) hx hb dX7_areNumbers_151 (by decide) ?_
                  refine lv_goto (tgt := 158) hx hb dX7_areNumbers_153 (by decide) ?_
                  refine lv_icmp_eq (tgt := 163) hx hb dX7_areNumbers_158 (by decide) (fun c9 => ?_) (fun c9 => ?_)
                  · replace he := he.trans (if_pos c9)
                    refine lv_aload_n hx hb dX7_areNumbers_163 rfl (lv_at hl 2 rfl) ?_
                    refine lv_dup hx hb dX7_areNumbers_164 rfl ?_
                    refine va_get (D := D) (ci := 7) (v := .int w19_moi_2) (C := RX7) (T := TX7) (N := 35) hx hb hts hi_X7_areNumbers_7 hown hK hP 0 wM_0 rfl 2 (by decide) (hts (.fieldLink RX7 93 "BlindLanternsModel" "position" "I") (List.mem_of_getElem? (i := 1) rfl)) (fun _ h9 => h9) xMf_2 dX7_areNumbers_165 ?_
                    refine lv_iconst (v := 1) hx hb dX7_areNumbers_168 (by decide) ?_
                    refine lv_iadd hx hb dX7_areNumbers_169 ?_
                    refine va_put (D := D) (ci := 7) (v := .int (w19_moi_2 + (1 : Int32))) (ty := .int) (C := RX7) (T := TX7) (N := 35) hx hb hts hi_X7_areNumbers_7 tyX7 tyX7_ok nmX7 hown hK hP hD hS 0 wM_0 rfl 2 (by decide) (hts (.fieldLink RX7 93 "BlindLanternsModel" "position" "I") (List.mem_of_getElem? (i := 1) rfl)) (fun _ h9 => h9) rfl (by decide +kernel) rfl rfl (Nat.le_of_ble_eq_true rfl) dX7_areNumbers_170 (fun H locs hP hD hS => ?_)
                    rw [wM_p2] at hP hD
                    refine lv_iinc (v := (v2_2 + 1)) (lv' := [(2, .int (v2_2 + 1)), (3, .int w2_moi_2), (0, .ref mo), (1, .int a1)]) hx hb dX7_areNumbers_173 hl (k := 1) rfl rfl (by decide) rfl (fun ls hl => ?_)
                    refine lv_goto (tgt := 2) hx hb dX7_areNumbers_176 (by decide) ?_
                    exact ih2 (v2_2 + 1) (w19_moi_2 + (1 : Int32)) w19_mok_3 he _ _ _ hP hD hS (lv_sub hl [0, 2, 3] rfl)
                  · replace he := he.trans (if_neg c9)
                    refine lv_iconst (v := 0) hx hb dX7_areNumbers_161 (by decide) ?_
                    exact hret (0 : Int32) (w19_moi_2, w19_mok_3) _ _ _ _ dX7_areNumbers_162 (Or.inl rfl) he hP hD hS
        have L19 : ∀ (n19 : Nat) (w19_moi_2 : Int32) (w19_mok_3 : Nat → Int32), fX7_areNumbers F moi_0 moi_2 mok_1 mok_3 a1 = fX7_areNumbers_L19 moi_0 mok_1 v2_2 w2_moi_2 (fun (w19_moi_2 : Int32) (w19_mok_3 : Nat → Int32) => if w19_moi_2 = w2_moi_2 then (some ((0 : Int32), (w19_moi_2, w19_mok_3))) else (if (2 : Int32) < (w19_moi_2 - w2_moi_2) then (some ((0 : Int32), (w19_moi_2, w19_mok_3))) else (if w19_moi_2 = moi_0 then (some ((0 : Int32), (w19_moi_2, w19_mok_3))) else (if w19_moi_2 < 0 ∨ 300 ≤ w19_moi_2.toNatClampNeg then none else (if v2_2 = (a1 - (1 : Int32)) then (if (mok_1 w19_moi_2.toNatClampNeg) = (59 : Int32) then (fX7_areNumbers_L2 moi_0 mok_1 a1 F (fun (v2_2 : Int32) (w2_moi_2 : Int32) (w2_mok_3 : Nat → Int32) => some ((1 : Int32), (w2_moi_2, w2_mok_3))) n2 (v2_2 + 1) (w19_moi_2 + (1 : Int32)) w19_mok_3) else (some ((0 : Int32), (w19_moi_2, w19_mok_3)))) else (if (mok_1 w19_moi_2.toNatClampNeg) = (44 : Int32) then (fX7_areNumbers_L2 moi_0 mok_1 a1 F (fun (v2_2 : Int32) (w2_moi_2 : Int32) (w2_mok_3 : Nat → Int32) => some ((1 : Int32), (w2_moi_2, w2_mok_3))) n2 (v2_2 + 1) (w19_moi_2 + (1 : Int32)) w19_mok_3) else (some ((0 : Int32), (w19_moi_2, w19_mok_3))))))))) n19 w19_moi_2 w19_mok_3 → ∀ (H : Heap) (locs : List Loc) (ls : Array Slot), va_P D vwCl (wM cI mo mor moi_0 w19_moi_2 moi_4 moi_8 moi_9 moi_11 moi_12 moi_13 moi_17 moi_18 moi_20 moi_21 moi_24 moi_26 moi_28 moi_30 moi_31 moi_32 mok_1 w19_mok_3 mok_5 mok_6 mok_7 mok_10 mok_14 mok_15 mok_16 mok_19 mok_22 mok_23 mok_25 mok_27 mok_29 mok_33 mok_34) H → va_D A (wM cI mo mor moi_0 w19_moi_2 moi_4 moi_8 moi_9 moi_11 moi_12 moi_13 moi_17 moi_18 moi_20 moi_21 moi_24 moi_26 moi_28 moi_30 moi_31 moi_32 mok_1 w19_mok_3 mok_5 mok_6 mok_7 mok_10 mok_14 mok_15 mok_16 mok_19 mok_22 mok_23 mok_25 mok_27 mok_29 mok_33 mok_34) → va_S A s.heap H locs → lv_has ls 4 [(3, .int w2_moi_2), (2, .int v2_2), (0, .ref mo), (1, .int a1)] → W p l e ({ frames := 1, cells := 0, slots := 0, locals := 22 } : Room) s m args below meth c H locs 0 0 Q (F0 m 19 ls []) := by
          intro n19
          induction n19 with
          | zero => intro w19_moi_2 w19_mok_3 he; exact absurd he hne
          | succ n19 ih19 =>
            intro w19_moi_2 w19_mok_3 he H locs ls hP hD hS hl
            replace he := he.trans (fX7_areNumbers_L19.eq_2 _ _ _ _ _ _ _ _)
            refine lv_aload_n hx hb dX7_areNumbers_19 rfl (lv_at hl 2 rfl) ?_
            refine va_get (D := D) (ci := 7) (v := .int w19_moi_2) (C := RX7) (T := TX7) (N := 35) hx hb hts hi_X7_areNumbers_7 hown hK hP 0 wM_0 rfl 2 (by decide) (hts (.fieldLink RX7 93 "BlindLanternsModel" "position" "I") (List.mem_of_getElem? (i := 1) rfl)) (fun _ h9 => h9) xMf_2 dX7_areNumbers_20 ?_
            refine lv_aload_n hx hb dX7_areNumbers_23 rfl (lv_at hl 2 rfl) ?_
            refine va_get (D := D) (ci := 7) (v := .int moi_0) (C := RX7) (T := TX7) (N := 35) hx hb hts hi_X7_areNumbers_7 hown hK hP 0 wM_0 rfl 0 (by decide) (hts (.fieldLink RX7 88 "BlindLanternsModel" "bytes" "I") (List.mem_of_getElem? (i := 3) rfl)) (fun _ h9 => h9) xMf_0 dX7_areNumbers_24 ?_
            refine lv_icmp_ge (tgt := 106) hx hb dX7_areNumbers_27 (by decide) (fun c10 => ?_) (fun c10 => ?_)
            · replace he := he.trans (if_pos c10)
              exact R19 w19_moi_2 w19_mok_3 he _ _ _ hP hD hS (lv_sub hl [0, 1, 2, 3] rfl)
            · replace he := he.trans (if_neg c10)
              refine lv_aload_n hx hb dX7_areNumbers_30 rfl (lv_at hl 2 rfl) ?_
              refine va_get (D := D) (ci := 7) (v := .ref (mor 1)) (C := RX7) (T := TX7) (N := 35) hx hb hts hi_X7_areNumbers_7 hown hK hP 0 wM_0 rfl 1 (by decide) (hts (.fieldLink RX7 7 "BlindLanternsModel" "text" "[I") (List.mem_of_getElem? (i := 4) rfl)) (fun _ h9 => h9) xMf_1 dX7_areNumbers_31 ?_
              refine lv_aload_n hx hb dX7_areNumbers_34 rfl (lv_at hl 2 rfl) ?_
              refine va_get (D := D) (ci := 7) (v := .int w19_moi_2) (C := RX7) (T := TX7) (N := 35) hx hb hts hi_X7_areNumbers_7 hown hK hP 0 wM_0 rfl 2 (by decide) (hts (.fieldLink RX7 93 "BlindLanternsModel" "position" "I") (List.mem_of_getElem? (i := 1) rfl)) (fun _ h9 => h9) xMf_2 dX7_areNumbers_35 ?_
              by_cases g11 : w19_moi_2 < 0 ∨ 300 ≤ w19_moi_2.toNatClampNeg
              · exact absurd (he.trans (if_pos g11)) hne
              replace he := he.trans (if_neg g11)
              refine va_iald hx hb hK hP 1 0 wM_a1 rfl g11 dX7_areNumbers_38 ?_
              refine lv_bipush (v := 48) hx hb dX7_areNumbers_39 (by decide) ?_
              refine lv_bipush (v := 57) hx hb dX7_areNumbers_41 (by decide) ?_
              have n12_ : fX7_in (mok_1 w19_moi_2.toNatClampNeg) (48 : Int32) (57 : Int32) ≠ none := fun z => hne (he.trans (xbd_none z))
              refine xci0 (va_runS (As := [.int (mok_1 w19_moi_2.toNatClampNeg), .int (48 : Int32), .int (57 : Int32)]) (rest := []) ⟨hx, hb, hml, hown, hts⟩ (c_X7_in l D cI cP H.size  (mok_1 w19_moi_2.toNatClampNeg) (48 : Int32) (57 : Int32) n12_) (va_cwS 3 hts gX7_areNumbers_X7_in rfl rfl rfl (by decide +kernel) ⟨Nat.le_of_ble_eq_true rfl, Nat.le_of_ble_eq_true rfl⟩) (xPS0 hN hK) rfl rfl hl.1 rfl (lv_room (Nat.le_of_ble_eq_true rfl)) dX7_areNumbers_43 ⟨Nat.le_of_ble_eq_true rfl, Nat.le_of_ble_eq_true rfl⟩) hP hD hS hA (fun r43 u43 H locs hw hP hD hS => ?_)
              replace he := he.trans (xbd_some hw)
              refine lv_if_eq (tgt := 106) hx hb dX7_areNumbers_46 (by decide) (fun c13 => ?_) (fun c13 => ?_)
              · replace he := he.trans (if_pos c13)
                exact R19 w19_moi_2 w19_mok_3 he _ _ _ hP hD hS (lv_sub hl [0, 1, 2, 3] rfl)
              · replace he := he.trans (if_neg c13)
                refine lv_aload_n hx hb dX7_areNumbers_49 rfl (lv_at hl 2 rfl) ?_
                refine va_get (D := D) (ci := 7) (v := .ref (mor 3)) (C := RX7) (T := TX7) (N := 35) hx hb hts hi_X7_areNumbers_7 hown hK hP 0 wM_0 rfl 3 (by decide) (hts (.fieldLink RX7 13 "BlindLanternsModel" "number" "[I") (List.mem_of_getElem? (i := 2) rfl)) (fun _ h9 => h9) xMf_3 dX7_areNumbers_50 ?_
                refine lv_iload_n hx hb dX7_areNumbers_53 rfl (lv_at hl 1 rfl) ?_
                refine lv_aload_n hx hb dX7_areNumbers_54 rfl (lv_at hl 2 rfl) ?_
                refine va_get (D := D) (ci := 7) (v := .int w19_moi_2) (C := RX7) (T := TX7) (N := 35) hx hb hts hi_X7_areNumbers_7 hown hK hP 0 wM_0 rfl 2 (by decide) (hts (.fieldLink RX7 93 "BlindLanternsModel" "position" "I") (List.mem_of_getElem? (i := 1) rfl)) (fun _ h9 => h9) xMf_2 dX7_areNumbers_55 ?_
                refine lv_iload_n hx hb dX7_areNumbers_58 rfl (lv_at hl 0 rfl) ?_
                refine lv_isub hx hb dX7_areNumbers_59 ?_
                refine lv_iconst (v := 2) hx hb dX7_areNumbers_60 (by decide) ?_
                refine lv_icmp_ge (tgt := 89) hx hb dX7_areNumbers_61 (by decide) (fun c14 => ?_) (fun c14 => ?_)
                · replace he := he.trans (if_pos c14)
                  refine lv_sipush (v := 1000) hx hb dX7_areNumbers_89 (by decide) ?_
                  by_cases g15 : v2_2 < 0 ∨ 3 ≤ v2_2.toNatClampNeg
                  · exact absurd (he.trans (if_pos g15)) hne
                  replace he := he.trans (if_neg g15)
                  refine va_iast hx hb hK hP hD hS 2 0 wM_a3 rfl g15 dX7_areNumbers_92 (fun H locs hP hD hS => ?_)
                  rw [wM_s3] at hP hD
                  refine lv_aload_n hx hb dX7_areNumbers_93 rfl (lv_at hl 2 rfl) ?_
                  refine lv_dup hx hb dX7_areNumbers_94 rfl ?_
                  refine va_get (D := D) (ci := 7) (v := .int w19_moi_2) (C := RX7) (T := TX7) (N := 35) hx hb hts hi_X7_areNumbers_7 hown hK hP 0 wM_0 rfl 2 (by decide) (hts (.fieldLink RX7 93 "BlindLanternsModel" "position" "I") (List.mem_of_getElem? (i := 1) rfl)) (fun _ h9 => h9) xMf_2 dX7_areNumbers_95 ?_
                  refine lv_iconst (v := 1) hx hb dX7_areNumbers_98 (by decide) ?_
                  refine lv_iadd hx hb dX7_areNumbers_99 ?_
                  refine va_put (D := D) (ci := 7) (v := .int (w19_moi_2 + (1 : Int32))) (ty := .int) (C := RX7) (T := TX7) (N := 35) hx hb hts hi_X7_areNumbers_7 tyX7 tyX7_ok nmX7 hown hK hP hD hS 0 wM_0 rfl 2 (by decide) (hts (.fieldLink RX7 93 "BlindLanternsModel" "position" "I") (List.mem_of_getElem? (i := 1) rfl)) (fun _ h9 => h9) rfl (by decide +kernel) rfl rfl (Nat.le_of_ble_eq_true rfl) dX7_areNumbers_100 (fun H locs hP hD hS => ?_)
                  rw [wM_p2] at hP hD
                  refine lv_goto (tgt := 19) hx hb dX7_areNumbers_103 (by decide) ?_
                  exact ih19 (w19_moi_2 + (1 : Int32)) (upd w19_mok_3 v2_2.toNatClampNeg (1000 : Int32)) he _ _ _ hP hD hS (lv_sub hl [0, 1, 2, 3] rfl)
                · replace he := he.trans (if_neg c14)
                  refine lv_bipush (v := 10) hx hb dX7_areNumbers_64 (by decide) ?_
                  refine lv_aload_n hx hb dX7_areNumbers_66 rfl (lv_at hl 2 rfl) ?_
                  refine va_get (D := D) (ci := 7) (v := .ref (mor 3)) (C := RX7) (T := TX7) (N := 35) hx hb hts hi_X7_areNumbers_7 hown hK hP 0 wM_0 rfl 3 (by decide) (hts (.fieldLink RX7 13 "BlindLanternsModel" "number" "[I") (List.mem_of_getElem? (i := 2) rfl)) (fun _ h9 => h9) xMf_3 dX7_areNumbers_67 ?_
                  refine lv_iload_n hx hb dX7_areNumbers_70 rfl (lv_at hl 1 rfl) ?_
                  by_cases g16 : v2_2 < 0 ∨ 3 ≤ v2_2.toNatClampNeg
                  · exact absurd (he.trans (if_pos g16)) hne
                  replace he := he.trans (if_neg g16)
                  refine va_iald hx hb hK hP 2 0 wM_a3 rfl g16 dX7_areNumbers_71 ?_
                  refine lv_imul hx hb dX7_areNumbers_72 ?_
                  refine lv_aload_n hx hb dX7_areNumbers_73 rfl (lv_at hl 2 rfl) ?_
                  refine va_get (D := D) (ci := 7) (v := .ref (mor 1)) (C := RX7) (T := TX7) (N := 35) hx hb hts hi_X7_areNumbers_7 hown hK hP 0 wM_0 rfl 1 (by decide) (hts (.fieldLink RX7 7 "BlindLanternsModel" "text" "[I") (List.mem_of_getElem? (i := 4) rfl)) (fun _ h9 => h9) xMf_1 dX7_areNumbers_74 ?_
                  refine lv_aload_n hx hb dX7_areNumbers_77 rfl (lv_at hl 2 rfl) ?_
                  refine va_get (D := D) (ci := 7) (v := .int w19_moi_2) (C := RX7) (T := TX7) (N := 35) hx hb hts hi_X7_areNumbers_7 hown hK hP 0 wM_0 rfl 2 (by decide) (hts (.fieldLink RX7 93 "BlindLanternsModel" "position" "I") (List.mem_of_getElem? (i := 1) rfl)) (fun _ h9 => h9) xMf_2 dX7_areNumbers_78 ?_
                  by_cases g17 : w19_moi_2 < 0 ∨ 300 ≤ w19_moi_2.toNatClampNeg
                  · exact absurd (he.trans (if_pos g17)) hne
                  replace he := he.trans (if_neg g17)
                  refine va_iald hx hb hK hP 1 0 wM_a1 rfl g17 dX7_areNumbers_81 ?_
                  refine lv_iadd hx hb dX7_areNumbers_82 ?_
                  refine lv_bipush (v := 48) hx hb dX7_areNumbers_83 (by decide) ?_
                  refine lv_isub hx hb dX7_areNumbers_85 ?_
                  refine lv_goto (tgt := 92) hx hb dX7_areNumbers_86 (by decide) ?_
                  by_cases g18 : v2_2 < 0 ∨ 3 ≤ v2_2.toNatClampNeg
                  · exact absurd (he.trans (if_pos g18)) hne
                  replace he := he.trans (if_neg g18)
                  refine va_iast hx hb hK hP hD hS 2 0 wM_a3 rfl g18 dX7_areNumbers_92 (fun H locs hP hD hS => ?_)
                  rw [wM_s3] at hP hD
                  refine lv_aload_n hx hb dX7_areNumbers_93 rfl (lv_at hl 2 rfl) ?_
                  refine lv_dup hx hb dX7_areNumbers_94 rfl ?_
                  refine va_get (D := D) (ci := 7) (v := .int w19_moi_2) (C := RX7) (T := TX7) (N := 35) hx hb hts hi_X7_areNumbers_7 hown hK hP 0 wM_0 rfl 2 (by decide) (hts (.fieldLink RX7 93 "BlindLanternsModel" "position" "I") (List.mem_of_getElem? (i := 1) rfl)) (fun _ h9 => h9) xMf_2 dX7_areNumbers_95 ?_
                  refine lv_iconst (v := 1) hx hb dX7_areNumbers_98 (by decide) ?_
                  refine lv_iadd hx hb dX7_areNumbers_99 ?_
                  refine va_put (D := D) (ci := 7) (v := .int (w19_moi_2 + (1 : Int32))) (ty := .int) (C := RX7) (T := TX7) (N := 35) hx hb hts hi_X7_areNumbers_7 tyX7 tyX7_ok nmX7 hown hK hP hD hS 0 wM_0 rfl 2 (by decide) (hts (.fieldLink RX7 93 "BlindLanternsModel" "position" "I") (List.mem_of_getElem? (i := 1) rfl)) (fun _ h9 => h9) rfl (by decide +kernel) rfl rfl (Nat.le_of_ble_eq_true rfl) dX7_areNumbers_100 (fun H locs hP hD hS => ?_)
                  rw [wM_p2] at hP hD
                  refine lv_goto (tgt := 19) hx hb dX7_areNumbers_103 (by decide) ?_
                  exact ih19 (w19_moi_2 + (1 : Int32)) (upd w19_mok_3 v2_2.toNatClampNeg ((((10 : Int32) * (w19_mok_3 v2_2.toNatClampNeg)) + (mok_1 w19_moi_2.toNatClampNeg)) - (48 : Int32))) he _ _ _ hP hD hS (lv_sub hl [0, 1, 2, 3] rfl)
        exact L19 F w2_moi_2 (upd w2_mok_3 v2_2.toNatClampNeg (0 : Int32)) he _ _ _ hP hD hS (lv_sub hl [0, 1, 2, 3] rfl)
  refine lv_iconst (v := 0) hx hb dX7_areNumbers_0 (by decide) ?_
  refine lv_istore_n (lv' := [(2, .int (0 : Int32)), (0, .ref mo), (1, .int a1)]) hx hb dX7_areNumbers_1 rfl hl (by decide) rfl (fun ls hl => ?_)
  exact L2_4 F (0 : Int32) moi_2 mok_3 he _ _ _ hP hD hS (lv_sub hl [0, 1, 2] rfl)

def fX7_isItem (F : Nat) (moi_0 : Int32) (moi_2 : Int32) (moi_4 : Int32) (moi_8 : Int32) (moi_9 : Int32) (moi_11 : Int32) (moi_12 : Int32) (mok_1 : Nat → Int32) (mok_3 : Nat → Int32) (mok_5 : Nat → Int32) (mok_6 : Nat → Int32) (mok_7 : Nat → Int32) (mok_10 : Nat → Int32) : Option (Int32 × Int32 × Int32 × Int32 × Int32 × Int32 × Int32 × (Nat → Int32) × (Nat → Int32) × (Nat → Int32) × (Nat → Int32) × (Nat → Int32)) :=
  if moi_2 < 0 ∨ 300 ≤ moi_2.toNatClampNeg then none else (if (mok_1 moi_2.toNatClampNeg) = (100 : Int32) then (xbd2 (fX7_areNumbers F moi_0 (moi_2 + (1 : Int32)) mok_1 mok_3 (2 : Int32)) (fun (r364 : Int32) (u364 : Int32 × (Nat → Int32)) => if r364 = 0 then (some ((0 : Int32), (u364.1, moi_4, moi_8, moi_9, moi_11, moi_12, u364.2, mok_5, mok_6, mok_7, mok_10))) else (xbd (fX7_in (u364.2 (0 : Int32).toNatClampNeg) (1 : Int32) (60 : Int32)) (fun (r379 : Int32) => if r379 = 0 then (some ((0 : Int32), (u364.1, moi_4, moi_8, moi_9, moi_11, moi_12, u364.2, mok_5, mok_6, mok_7, mok_10))) else (xbd (fX7_in (u364.2 (1 : Int32).toNatClampNeg) (0 : Int32) (5 : Int32)) (fun (r393 : Int32) => if r393 = 0 then (some ((0 : Int32), (u364.1, moi_4, moi_8, moi_9, moi_11, moi_12, u364.2, mok_5, mok_6, mok_7, mok_10))) else (if moi_9 = (6 : Int32) then (some ((0 : Int32), (u364.1, moi_4, moi_8, moi_9, moi_11, moi_12, u364.2, mok_5, mok_6, mok_7, mok_10))) else (if ((2 : Int32) * moi_9) < 0 ∨ 12 ≤ ((2 : Int32) * moi_9).toNatClampNeg then none else (if (((2 : Int32) * moi_9) + (1 : Int32)) < 0 ∨ 12 ≤ (((2 : Int32) * moi_9) + (1 : Int32)).toNatClampNeg then none else (some ((1 : Int32), (u364.1, moi_4, moi_8, (moi_9 + (1 : Int32)), moi_11, moi_12, u364.2, mok_5, mok_6, mok_7, (upd (upd mok_10 ((2 : Int32) * moi_9).toNatClampNeg (u364.2 (0 : Int32).toNatClampNeg)) (((2 : Int32) * moi_9) + (1 : Int32)).toNatClampNeg (u364.2 (1 : Int32).toNatClampNeg)))))))))))))) else (if (mok_1 moi_2.toNatClampNeg) = (101 : Int32) then (xbd2 (fX7_areNumbers F moi_0 (moi_2 + (1 : Int32)) mok_1 mok_3 (1 : Int32)) (fun (r285 : Int32) (u285 : Int32 × (Nat → Int32)) => if r285 = 0 then (some ((0 : Int32), (u285.1, moi_4, moi_8, moi_9, moi_11, moi_12, u285.2, mok_5, mok_6, mok_7, mok_10))) else (xbd (fX7_isLantern moi_4 u285.2) (fun (r292 : Int32) => if r292 = 0 then (some ((0 : Int32), (u285.1, moi_4, moi_8, moi_9, moi_11, moi_12, u285.2, mok_5, mok_6, mok_7, mok_10))) else (if (u285.2 (0 : Int32).toNatClampNeg) < 0 ∨ 6 ≤ (u285.2 (0 : Int32).toNatClampNeg).toNatClampNeg then none else (if (u285.2 (0 : Int32).toNatClampNeg) < 0 ∨ 6 ≤ (u285.2 (0 : Int32).toNatClampNeg).toNatClampNeg then none else (some ((1 : Int32), (u285.1, moi_4, moi_8, moi_9, moi_11, moi_12, u285.2, mok_5, (upd mok_6 (u285.2 (0 : Int32).toNatClampNeg).toNatClampNeg (-1 : Int32)), (upd mok_7 (u285.2 (0 : Int32).toNatClampNeg).toNatClampNeg (0 : Int32)), mok_10))))))))) else (if (mok_1 moi_2.toNatClampNeg) = (109 : Int32) then (xbd2 (fX7_areNumbers F moi_0 (moi_2 + (1 : Int32)) mok_1 mok_3 (1 : Int32)) (fun (r110 : Int32) (u110 : Int32 × (Nat → Int32)) => if r110 = 0 then (some ((0 : Int32), (u110.1, moi_4, moi_8, moi_9, moi_11, moi_12, u110.2, mok_5, mok_6, mok_7, mok_10))) else (xbd (fX7_in (u110.2 (0 : Int32).toNatClampNeg) (0 : Int32) (2 : Int32)) (fun (r124 : Int32) => if r124 = 0 then (some ((0 : Int32), (u110.1, moi_4, moi_8, moi_9, moi_11, moi_12, u110.2, mok_5, mok_6, mok_7, mok_10))) else (if moi_4 = (6 : Int32) then (some ((0 : Int32), (u110.1, moi_4, moi_8, moi_9, moi_11, moi_12, u110.2, mok_5, mok_6, mok_7, mok_10))) else (if moi_4 < 0 ∨ 6 ≤ moi_4.toNatClampNeg then none else (if moi_4 < 0 ∨ 6 ≤ moi_4.toNatClampNeg then none else (if moi_4 < 0 ∨ 6 ≤ moi_4.toNatClampNeg then none else (some ((1 : Int32), (u110.1, (moi_4 + (1 : Int32)), moi_8, moi_9, moi_11, moi_12, u110.2, (upd mok_5 moi_4.toNatClampNeg (u110.2 (0 : Int32).toNatClampNeg)), (upd mok_6 moi_4.toNatClampNeg (0 : Int32)), (upd mok_7 moi_4.toNatClampNeg (0 : Int32)), mok_10))))))))))) else (if (mok_1 moi_2.toNatClampNeg) = (111 : Int32) then (xbd2 (fX7_areNumbers F moi_0 (moi_2 + (1 : Int32)) mok_1 mok_3 (3 : Int32)) (fun (r190 : Int32) (u190 : Int32 × (Nat → Int32)) => if r190 = 0 then (some ((0 : Int32), (u190.1, moi_4, moi_8, moi_9, moi_11, moi_12, u190.2, mok_5, mok_6, mok_7, mok_10))) else (xbd (fX7_isLantern moi_4 u190.2) (fun (r197 : Int32) => if r197 = 0 then (some ((0 : Int32), (u190.1, moi_4, moi_8, moi_9, moi_11, moi_12, u190.2, mok_5, mok_6, mok_7, mok_10))) else (xbd (fX7_in (u190.2 (1 : Int32).toNatClampNeg) (0 : Int32) (40 : Int32)) (fun (r212 : Int32) => if r212 = 0 then (some ((0 : Int32), (u190.1, moi_4, moi_8, moi_9, moi_11, moi_12, u190.2, mok_5, mok_6, mok_7, mok_10))) else (if (u190.2 (1 : Int32).toNatClampNeg) ≤ 0 then (xbd (fX7_in (u190.2 (2 : Int32).toNatClampNeg) (0 : Int32) (0 : Int32)) (fun (r239 : Int32) => if r239 = 0 then (some ((0 : Int32), (u190.1, moi_4, moi_8, moi_9, moi_11, moi_12, u190.2, mok_5, mok_6, mok_7, mok_10))) else (if (u190.2 (0 : Int32).toNatClampNeg) < 0 ∨ 6 ≤ (u190.2 (0 : Int32).toNatClampNeg).toNatClampNeg then none else (if (u190.2 (0 : Int32).toNatClampNeg) < 0 ∨ 6 ≤ (u190.2 (0 : Int32).toNatClampNeg).toNatClampNeg then none else (some ((1 : Int32), (u190.1, moi_4, moi_8, moi_9, moi_11, moi_12, u190.2, mok_5, (upd mok_6 (u190.2 (0 : Int32).toNatClampNeg).toNatClampNeg (u190.2 (1 : Int32).toNatClampNeg)), (upd mok_7 (u190.2 (0 : Int32).toNatClampNeg).toNatClampNeg (u190.2 (2 : Int32).toNatClampNeg)), mok_10))))))) else (xbd (fX7_in (u190.2 (2 : Int32).toNatClampNeg) (0 : Int32) (1 : Int32)) (fun (r239 : Int32) => if r239 = 0 then (some ((0 : Int32), (u190.1, moi_4, moi_8, moi_9, moi_11, moi_12, u190.2, mok_5, mok_6, mok_7, mok_10))) else (if (u190.2 (0 : Int32).toNatClampNeg) < 0 ∨ 6 ≤ (u190.2 (0 : Int32).toNatClampNeg).toNatClampNeg then none else (if (u190.2 (0 : Int32).toNatClampNeg) < 0 ∨ 6 ≤ (u190.2 (0 : Int32).toNatClampNeg).toNatClampNeg then none else (some ((1 : Int32), (u190.1, moi_4, moi_8, moi_9, moi_11, moi_12, u190.2, mok_5, (upd mok_6 (u190.2 (0 : Int32).toNatClampNeg).toNatClampNeg (u190.2 (1 : Int32).toNatClampNeg)), (upd mok_7 (u190.2 (0 : Int32).toNatClampNeg).toNatClampNeg (u190.2 (2 : Int32).toNatClampNeg)), mok_10)))))))))))))) else (if (mok_1 moi_2.toNatClampNeg) = (115 : Int32) then (xbd2 (fX7_areNumbers F moi_0 (moi_2 + (1 : Int32)) mok_1 mok_3 (1 : Int32)) (fun (r328 : Int32) (u328 : Int32 × (Nat → Int32)) => if r328 = 0 then (some ((0 : Int32), (u328.1, moi_4, moi_8, moi_9, moi_11, moi_12, u328.2, mok_5, mok_6, mok_7, mok_10))) else (xbd (fX7_in (u328.2 (0 : Int32).toNatClampNeg) (0 : Int32) (5 : Int32)) (fun (r342 : Int32) => if r342 = 0 then (some ((0 : Int32), (u328.1, moi_4, moi_8, moi_9, moi_11, moi_12, u328.2, mok_5, mok_6, mok_7, mok_10))) else (some ((1 : Int32), (u328.1, moi_4, (u328.2 (0 : Int32).toNatClampNeg), moi_9, moi_11, moi_12, u328.2, mok_5, mok_6, mok_7, mok_10))))))) else (if (mok_1 moi_2.toNatClampNeg) = (117 : Int32) then (xbd2 (fX7_areNumbers F moi_0 (moi_2 + (1 : Int32)) mok_1 mok_3 (2 : Int32)) (fun (r460 : Int32) (u460 : Int32 × (Nat → Int32)) => if r460 = 0 then (some ((0 : Int32), (u460.1, moi_4, moi_8, moi_9, moi_11, moi_12, u460.2, mok_5, mok_6, mok_7, mok_10))) else (xbd (fX7_in (u460.2 (1 : Int32).toNatClampNeg) (0 : Int32) (60 : Int32)) (fun (r475 : Int32) => if r475 = 0 then (some ((0 : Int32), (u460.1, moi_4, moi_8, moi_9, moi_11, moi_12, u460.2, mok_5, mok_6, mok_7, mok_10))) else (xbd (fX7_in (u460.2 (0 : Int32).toNatClampNeg) (0 : Int32) (u460.2 (1 : Int32).toNatClampNeg)) (fun (r494 : Int32) => if r494 = 0 then (some ((0 : Int32), (u460.1, moi_4, moi_8, moi_9, moi_11, moi_12, u460.2, mok_5, mok_6, mok_7, mok_10))) else (some ((1 : Int32), (u460.1, moi_4, moi_8, moi_9, (u460.2 (0 : Int32).toNatClampNeg), (u460.2 (1 : Int32).toNatClampNeg), u460.2, mok_5, mok_6, mok_7, mok_10))))))))) else (some ((0 : Int32), ((moi_2 + (1 : Int32)), moi_4, moi_8, moi_9, moi_11, moi_12, mok_3, mok_5, mok_6, mok_7, mok_10)))))))))
theorem hi_X7_isItem_7 : ∀ w ∈ wsX70, w ∈ wsX7_isItem := fun _ h => (List.mem_cons_of_mem _ (List.mem_append_right _ h))
set_option maxHeartbeats 4000000 in
set_option maxRecDepth 100000 in
theorem c_X7_isItem (l : Launch) (D : va_G) (cI cP : ClassId) (sz : Nat) (mo : Nat) (mor : Nat → Nat) (moi_0 : Int32) (moi_2 : Int32) (moi_4 : Int32) (moi_8 : Int32) (moi_9 : Int32) (moi_11 : Int32) (moi_12 : Int32) (moi_13 : Int32) (moi_17 : Int32) (moi_18 : Int32) (moi_20 : Int32) (moi_21 : Int32) (moi_24 : Int32) (moi_26 : Int32) (moi_28 : Int32) (moi_30 : Int32) (moi_31 : Int32) (moi_32 : Int32) (mok_1 : Nat → Int32) (mok_3 : Nat → Int32) (mok_5 : Nat → Int32) (mok_6 : Nat → Int32) (mok_7 : Nat → Int32) (mok_10 : Nat → Int32) (mok_14 : Nat → Int32) (mok_15 : Nat → Int32) (mok_16 : Nat → Int32) (mok_19 : Nat → Int32) (mok_22 : Nat → Int32) (mok_23 : Nat → Int32) (mok_25 : Nat → Int32) (mok_27 : Nat → Int32) (mok_29 : Nat → Int32) (mok_33 : Nat → Int32) (mok_34 : Nat → Int32) (F : Nat) (hne : fX7_isItem F moi_0 moi_2 moi_4 moi_8 moi_9 moi_11 moi_12 mok_1 mok_3 mok_5 mok_6 mok_7 mok_10 ≠ none) : xMi l yX7_isItem wsX7_isItem ({ frames := 2, cells := 0, slots := 0, locals := 45 } : Room) D (xT cI cP) [.ref mo] (wM cI mo mor moi_0 moi_2 moi_4 moi_8 moi_9 moi_11 moi_12 moi_13 moi_17 moi_18 moi_20 moi_21 moi_24 moi_26 moi_28 moi_30 moi_31 moi_32 mok_1 mok_3 mok_5 mok_6 mok_7 mok_10 mok_14 mok_15 mok_16 mok_19 mok_22 mok_23 mok_25 mok_27 mok_29 mok_33 mok_34) sz (fun r (u : (Int32 × Int32 × Int32 × Int32 × Int32 × Int32 × (Nat → Int32) × (Nat → Int32) × (Nat → Int32) × (Nat → Int32) × (Nat → Int32))) => fX7_isItem F moi_0 moi_2 moi_4 moi_8 moi_9 moi_11 moi_12 mok_1 mok_3 mok_5 mok_6 mok_7 mok_10 = some (r, u)) (fun u => wM cI mo mor moi_0 u.1 u.2.1 u.2.2.1 u.2.2.2.1 u.2.2.2.2.1 u.2.2.2.2.2.1 moi_13 moi_17 moi_18 moi_20 moi_21 moi_24 moi_26 moi_28 moi_30 moi_31 moi_32 mok_1 u.2.2.2.2.2.2.1 u.2.2.2.2.2.2.2.1 u.2.2.2.2.2.2.2.2.1 u.2.2.2.2.2.2.2.2.2.1 u.2.2.2.2.2.2.2.2.2.2 mok_14 mok_15 mok_16 mok_19 mok_22 mok_23 mok_25 mok_27 mok_29 mok_33 mok_34) 0 0 := by
  refine xMz_of (cc := cX7_isItem) (maxL := 2) (by decide +kernel) rfl (Nat.le_of_ble_eq_true rfl) ?_
  intro p e s m args below meth c A ls hx hb hml hown hts hname hN hK hA hP hD hS hl Q hret
  have he := fX7_isItem.eq_1 F moi_0 moi_2 moi_4 moi_8 moi_9 moi_11 moi_12 mok_1 mok_3 mok_5 mok_6 mok_7 mok_10
  have hl : lv_has ls 2 [(0, .ref mo)] := hl
  refine lv_aload_n hx hb dX7_isItem_0 rfl (lv_at hl 0 rfl) ?_
  refine va_get (D := D) (ci := 7) (v := .ref (mor 1)) (C := RX7) (T := TX7) (N := 35) hx hb hts hi_X7_isItem_7 hown hK hP 0 wM_0 rfl 1 (by decide) (hts (.fieldLink RX7 7 "BlindLanternsModel" "text" "[I") (List.mem_of_getElem? (i := 1) rfl)) (fun _ h9 => h9) xMf_1 dX7_isItem_1 ?_
  refine lv_aload_n hx hb dX7_isItem_4 rfl (lv_at hl 0 rfl) ?_
  refine va_get (D := D) (ci := 7) (v := .int moi_2) (C := RX7) (T := TX7) (N := 35) hx hb hts hi_X7_isItem_7 hown hK hP 0 wM_0 rfl 2 (by decide) (hts (.fieldLink RX7 93 "BlindLanternsModel" "position" "I") (List.mem_of_getElem? (i := 2) rfl)) (fun _ h9 => h9) xMf_2 dX7_isItem_5 ?_
  by_cases g1 : moi_2 < 0 ∨ 300 ≤ moi_2.toNatClampNeg
  · exact absurd (he.trans (if_pos g1)) hne
  replace he := he.trans (if_neg g1)
  refine va_iald hx hb hK hP 1 0 wM_a1 rfl g1 dX7_isItem_8 ?_
  refine lv_istore_n (lv' := [(1, .int (mok_1 moi_2.toNatClampNeg)), (0, .ref mo)]) hx hb dX7_isItem_9 rfl hl (by decide) rfl (fun ls hl => ?_)
  refine lv_aload_n hx hb dX7_isItem_10 rfl (lv_at hl 1 rfl) ?_
  refine lv_dup hx hb dX7_isItem_11 rfl ?_
  refine va_get (D := D) (ci := 7) (v := .int moi_2) (C := RX7) (T := TX7) (N := 35) hx hb hts hi_X7_isItem_7 hown hK hP 0 wM_0 rfl 2 (by decide) (hts (.fieldLink RX7 93 "BlindLanternsModel" "position" "I") (List.mem_of_getElem? (i := 2) rfl)) (fun _ h9 => h9) xMf_2 dX7_isItem_12 ?_
  refine lv_iconst (v := 1) hx hb dX7_isItem_15 (by decide) ?_
  refine lv_iadd hx hb dX7_isItem_16 ?_
  refine va_put (D := D) (ci := 7) (v := .int (moi_2 + (1 : Int32))) (ty := .int) (C := RX7) (T := TX7) (N := 35) hx hb hts hi_X7_isItem_7 tyX7 tyX7_ok nmX7 hown hK hP hD hS 0 wM_0 rfl 2 (by decide) (hts (.fieldLink RX7 93 "BlindLanternsModel" "position" "I") (List.mem_of_getElem? (i := 2) rfl)) (fun _ h9 => h9) rfl (by decide +kernel) rfl rfl (Nat.le_of_ble_eq_true rfl) dX7_isItem_17 (fun H locs hP hD hS => ?_)
  rw [wM_p2] at hP hD
  refine lv_iload_n hx hb dX7_isItem_20 rfl (lv_at hl 0 rfl) ?_
  by_cases k21_0 : (mok_1 moi_2.toNatClampNeg) = (100 : Int32)
  · replace he := he.trans (if_pos k21_0)
    refine lv_tableIn hx hb dX7_isItem_21 (off := 341) (tgt := 362) (by rw [k21_0]; decide) (by rw [k21_0]; decide) (by rw [k21_0]; rfl) (by decide) ?_
    refine lv_aload_n hx hb dX7_isItem_362 rfl (lv_at hl 1 rfl) ?_
    refine lv_iconst (v := 2) hx hb dX7_isItem_363 (by decide) ?_
    have n2_ : fX7_areNumbers F moi_0 (moi_2 + (1 : Int32)) mok_1 mok_3 (2 : Int32) ≠ none := fun z => hne (he.trans (xbd2_none z))
    refine xciW (va_runV (As := [.int (2 : Int32)]) (rest := []) ⟨hx, hb, hml, hown, hts⟩ (c_X7_areNumbers l D cI cP H.size mo mor moi_0 (moi_2 + (1 : Int32)) moi_4 moi_8 moi_9 moi_11 moi_12 moi_13 moi_17 moi_18 moi_20 moi_21 moi_24 moi_26 moi_28 moi_30 moi_31 moi_32 mok_1 mok_3 mok_5 mok_6 mok_7 mok_10 mok_14 mok_15 mok_16 mok_19 mok_22 mok_23 mok_25 mok_27 mok_29 mok_33 mok_34 F (2 : Int32) n2_) (cwV 1 hts gX7_isItem_X7_areNumbers rfl rfl rfl (by decide +kernel) ⟨Nat.le_of_ble_eq_true rfl, Nat.le_of_ble_eq_true rfl⟩) (xPVW hN hK hP hD (ci := 7) (j := 0) rfl wM_0) rfl rfl hl.1 rfl (lv_room (Nat.le_of_ble_eq_true rfl)) dX7_isItem_364 ⟨Nat.le_of_ble_eq_true rfl, Nat.le_of_ble_eq_true rfl⟩) hD hS hA (fun r364 u364 H locs hw hP hD hS => ?_)
    have hP : va_P D vwCl (wM cI mo mor moi_0 u364.1 moi_4 moi_8 moi_9 moi_11 moi_12 moi_13 moi_17 moi_18 moi_20 moi_21 moi_24 moi_26 moi_28 moi_30 moi_31 moi_32 mok_1 u364.2 mok_5 mok_6 mok_7 mok_10 mok_14 mok_15 mok_16 mok_19 mok_22 mok_23 mok_25 mok_27 mok_29 mok_33 mok_34) H := hP
    have hD : va_D A (wM cI mo mor moi_0 u364.1 moi_4 moi_8 moi_9 moi_11 moi_12 moi_13 moi_17 moi_18 moi_20 moi_21 moi_24 moi_26 moi_28 moi_30 moi_31 moi_32 mok_1 u364.2 mok_5 mok_6 mok_7 mok_10 mok_14 mok_15 mok_16 mok_19 mok_22 mok_23 mok_25 mok_27 mok_29 mok_33 mok_34) := hD
    replace he := he.trans (xbd2_some hw)
    refine lv_if_eq (tgt := 408) hx hb dX7_isItem_367 (by decide) (fun c3 => ?_) (fun c3 => ?_)
    · replace he := he.trans (if_pos c3)
      refine lv_iconst (v := 0) hx hb dX7_isItem_408 (by decide) ?_
      exact hret (0 : Int32) (u364.1, moi_4, moi_8, moi_9, moi_11, moi_12, u364.2, mok_5, mok_6, mok_7, mok_10) _ _ _ _ dX7_isItem_409 (Or.inl rfl) he hP hD hS
    · replace he := he.trans (if_neg c3)
      refine lv_aload_n hx hb dX7_isItem_370 rfl (lv_at hl 1 rfl) ?_
      refine va_get (D := D) (ci := 7) (v := .ref (mor 3)) (C := RX7) (T := TX7) (N := 35) hx hb hts hi_X7_isItem_7 hown hK hP 0 wM_0 rfl 3 (by decide) (hts (.fieldLink RX7 13 "BlindLanternsModel" "number" "[I") (List.mem_of_getElem? (i := 3) rfl)) (fun _ h9 => h9) xMf_3 dX7_isItem_371 ?_
      refine lv_iconst (v := 0) hx hb dX7_isItem_374 (by decide) ?_
      refine va_iald hx hb hK hP 2 0 wM_a3 rfl (x_in rfl) dX7_isItem_375 ?_
      refine lv_iconst (v := 1) hx hb dX7_isItem_376 (by decide) ?_
      refine lv_bipush (v := 60) hx hb dX7_isItem_377 (by decide) ?_
      have n4_ : fX7_in (u364.2 (0 : Int32).toNatClampNeg) (1 : Int32) (60 : Int32) ≠ none := fun z => hne (he.trans (xbd_none z))
      refine xci0 (va_runS (As := [.int (u364.2 (0 : Int32).toNatClampNeg), .int (1 : Int32), .int (60 : Int32)]) (rest := []) ⟨hx, hb, hml, hown, hts⟩ (c_X7_in l D cI cP H.size  (u364.2 (0 : Int32).toNatClampNeg) (1 : Int32) (60 : Int32) n4_) (va_cwS 3 hts gX7_isItem_X7_in rfl rfl rfl (by decide +kernel) ⟨Nat.le_of_ble_eq_true rfl, Nat.le_of_ble_eq_true rfl⟩) (xPS0 hN hK) rfl rfl hl.1 rfl (lv_room (Nat.le_of_ble_eq_true rfl)) dX7_isItem_379 ⟨Nat.le_of_ble_eq_true rfl, Nat.le_of_ble_eq_true rfl⟩) hP hD hS hA (fun r379 u379 H locs hw hP hD hS => ?_)
      replace he := he.trans (xbd_some hw)
      refine lv_if_eq (tgt := 408) hx hb dX7_isItem_382 (by decide) (fun c5 => ?_) (fun c5 => ?_)
      · replace he := he.trans (if_pos c5)
        refine lv_iconst (v := 0) hx hb dX7_isItem_408 (by decide) ?_
        exact hret (0 : Int32) (u364.1, moi_4, moi_8, moi_9, moi_11, moi_12, u364.2, mok_5, mok_6, mok_7, mok_10) _ _ _ _ dX7_isItem_409 (Or.inl rfl) he hP hD hS
      · replace he := he.trans (if_neg c5)
        refine lv_aload_n hx hb dX7_isItem_385 rfl (lv_at hl 1 rfl) ?_
        refine va_get (D := D) (ci := 7) (v := .ref (mor 3)) (C := RX7) (T := TX7) (N := 35) hx hb hts hi_X7_isItem_7 hown hK hP 0 wM_0 rfl 3 (by decide) (hts (.fieldLink RX7 13 "BlindLanternsModel" "number" "[I") (List.mem_of_getElem? (i := 3) rfl)) (fun _ h9 => h9) xMf_3 dX7_isItem_386 ?_
        refine lv_iconst (v := 1) hx hb dX7_isItem_389 (by decide) ?_
        refine va_iald hx hb hK hP 2 0 wM_a3 rfl (x_in rfl) dX7_isItem_390 ?_
        refine lv_iconst (v := 0) hx hb dX7_isItem_391 (by decide) ?_
        refine lv_iconst (v := 5) hx hb dX7_isItem_392 (by decide) ?_
        have n6_ : fX7_in (u364.2 (1 : Int32).toNatClampNeg) (0 : Int32) (5 : Int32) ≠ none := fun z => hne (he.trans (xbd_none z))
        refine xci0 (va_runS (As := [.int (u364.2 (1 : Int32).toNatClampNeg), .int (0 : Int32), .int (5 : Int32)]) (rest := []) ⟨hx, hb, hml, hown, hts⟩ (c_X7_in l D cI cP H.size  (u364.2 (1 : Int32).toNatClampNeg) (0 : Int32) (5 : Int32) n6_) (va_cwS 3 hts gX7_isItem_X7_in rfl rfl rfl (by decide +kernel) ⟨Nat.le_of_ble_eq_true rfl, Nat.le_of_ble_eq_true rfl⟩) (xPS0 hN hK) rfl rfl hl.1 rfl (lv_room (Nat.le_of_ble_eq_true rfl)) dX7_isItem_393 ⟨Nat.le_of_ble_eq_true rfl, Nat.le_of_ble_eq_true rfl⟩) hP hD hS hA (fun r393 u393 H locs hw hP hD hS => ?_)
        replace he := he.trans (xbd_some hw)
        refine lv_if_eq (tgt := 408) hx hb dX7_isItem_396 (by decide) (fun c7 => ?_) (fun c7 => ?_)
        · replace he := he.trans (if_pos c7)
          refine lv_iconst (v := 0) hx hb dX7_isItem_408 (by decide) ?_
          exact hret (0 : Int32) (u364.1, moi_4, moi_8, moi_9, moi_11, moi_12, u364.2, mok_5, mok_6, mok_7, mok_10) _ _ _ _ dX7_isItem_409 (Or.inl rfl) he hP hD hS
        · replace he := he.trans (if_neg c7)
          refine lv_aload_n hx hb dX7_isItem_399 rfl (lv_at hl 1 rfl) ?_
          refine va_get (D := D) (ci := 7) (v := .int moi_9) (C := RX7) (T := TX7) (N := 35) hx hb hts hi_X7_isItem_7 hown hK hP 0 wM_0 rfl 9 (by decide) (hts (.fieldLink RX7 110 "BlindLanternsModel" "readDraughts" "I") (List.mem_of_getElem? (i := 9) rfl)) (fun _ h9 => h9) xMf_9 dX7_isItem_400 ?_
          refine lv_bipush (v := 6) hx hb dX7_isItem_403 (by decide) ?_
          refine lv_icmp_ne (tgt := 410) hx hb dX7_isItem_405 (by decide) (fun c8 => ?_) (fun c8 => ?_)
          · replace he := he.trans (if_neg c8)
            refine lv_aload_n hx hb dX7_isItem_410 rfl (lv_at hl 1 rfl) ?_
            refine va_get (D := D) (ci := 7) (v := .ref (mor 10)) (C := RX7) (T := TX7) (N := 35) hx hb hts hi_X7_isItem_7 hown hK hP 0 wM_0 rfl 10 (by decide) (hts (.fieldLink RX7 25 "BlindLanternsModel" "readDraught" "[I") (List.mem_of_getElem? (i := 10) rfl)) (fun _ h9 => h9) xMf_10 dX7_isItem_411 ?_
            refine lv_iconst (v := 2) hx hb dX7_isItem_414 (by decide) ?_
            refine lv_aload_n hx hb dX7_isItem_415 rfl (lv_at hl 1 rfl) ?_
            refine va_get (D := D) (ci := 7) (v := .int moi_9) (C := RX7) (T := TX7) (N := 35) hx hb hts hi_X7_isItem_7 hown hK hP 0 wM_0 rfl 9 (by decide) (hts (.fieldLink RX7 110 "BlindLanternsModel" "readDraughts" "I") (List.mem_of_getElem? (i := 9) rfl)) (fun _ h9 => h9) xMf_9 dX7_isItem_416 ?_
            refine lv_imul hx hb dX7_isItem_419 ?_
            refine lv_aload_n hx hb dX7_isItem_420 rfl (lv_at hl 1 rfl) ?_
            refine va_get (D := D) (ci := 7) (v := .ref (mor 3)) (C := RX7) (T := TX7) (N := 35) hx hb hts hi_X7_isItem_7 hown hK hP 0 wM_0 rfl 3 (by decide) (hts (.fieldLink RX7 13 "BlindLanternsModel" "number" "[I") (List.mem_of_getElem? (i := 3) rfl)) (fun _ h9 => h9) xMf_3 dX7_isItem_421 ?_
            refine lv_iconst (v := 0) hx hb dX7_isItem_424 (by decide) ?_
            refine va_iald hx hb hK hP 2 0 wM_a3 rfl (x_in rfl) dX7_isItem_425 ?_
            by_cases g9 : ((2 : Int32) * moi_9) < 0 ∨ 12 ≤ ((2 : Int32) * moi_9).toNatClampNeg
            · exact absurd (he.trans (if_pos g9)) hne
            replace he := he.trans (if_neg g9)
            refine va_iast hx hb hK hP hD hS 6 0 wM_a10 rfl g9 dX7_isItem_426 (fun H locs hP hD hS => ?_)
            rw [wM_s10] at hP hD
            refine lv_aload_n hx hb dX7_isItem_427 rfl (lv_at hl 1 rfl) ?_
            refine va_get (D := D) (ci := 7) (v := .ref (mor 10)) (C := RX7) (T := TX7) (N := 35) hx hb hts hi_X7_isItem_7 hown hK hP 0 wM_0 rfl 10 (by decide) (hts (.fieldLink RX7 25 "BlindLanternsModel" "readDraught" "[I") (List.mem_of_getElem? (i := 10) rfl)) (fun _ h9 => h9) xMf_10 dX7_isItem_428 ?_
            refine lv_iconst (v := 2) hx hb dX7_isItem_431 (by decide) ?_
            refine lv_aload_n hx hb dX7_isItem_432 rfl (lv_at hl 1 rfl) ?_
            refine va_get (D := D) (ci := 7) (v := .int moi_9) (C := RX7) (T := TX7) (N := 35) hx hb hts hi_X7_isItem_7 hown hK hP 0 wM_0 rfl 9 (by decide) (hts (.fieldLink RX7 110 "BlindLanternsModel" "readDraughts" "I") (List.mem_of_getElem? (i := 9) rfl)) (fun _ h9 => h9) xMf_9 dX7_isItem_433 ?_
            refine lv_imul hx hb dX7_isItem_436 ?_
            refine lv_iconst (v := 1) hx hb dX7_isItem_437 (by decide) ?_
            refine lv_iadd hx hb dX7_isItem_438 ?_
            refine lv_aload_n hx hb dX7_isItem_439 rfl (lv_at hl 1 rfl) ?_
            refine va_get (D := D) (ci := 7) (v := .ref (mor 3)) (C := RX7) (T := TX7) (N := 35) hx hb hts hi_X7_isItem_7 hown hK hP 0 wM_0 rfl 3 (by decide) (hts (.fieldLink RX7 13 "BlindLanternsModel" "number" "[I") (List.mem_of_getElem? (i := 3) rfl)) (fun _ h9 => h9) xMf_3 dX7_isItem_440 ?_
            refine lv_iconst (v := 1) hx hb dX7_isItem_443 (by decide) ?_
            refine va_iald hx hb hK hP 2 0 wM_a3 rfl (x_in rfl) dX7_isItem_444 ?_
            by_cases g10 : (((2 : Int32) * moi_9) + (1 : Int32)) < 0 ∨ 12 ≤ (((2 : Int32) * moi_9) + (1 : Int32)).toNatClampNeg
            · exact absurd (he.trans (if_pos g10)) hne
            replace he := he.trans (if_neg g10)
            refine va_iast hx hb hK hP hD hS 6 0 wM_a10 rfl g10 dX7_isItem_445 (fun H locs hP hD hS => ?_)
            rw [wM_s10] at hP hD
            refine lv_aload_n hx hb dX7_isItem_446 rfl (lv_at hl 1 rfl) ?_
            refine lv_dup hx hb dX7_isItem_447 rfl ?_
            refine va_get (D := D) (ci := 7) (v := .int moi_9) (C := RX7) (T := TX7) (N := 35) hx hb hts hi_X7_isItem_7 hown hK hP 0 wM_0 rfl 9 (by decide) (hts (.fieldLink RX7 110 "BlindLanternsModel" "readDraughts" "I") (List.mem_of_getElem? (i := 9) rfl)) (fun _ h9 => h9) xMf_9 dX7_isItem_448 ?_
            refine lv_iconst (v := 1) hx hb dX7_isItem_451 (by decide) ?_
            refine lv_iadd hx hb dX7_isItem_452 ?_
            refine va_put (D := D) (ci := 7) (v := .int (moi_9 + (1 : Int32))) (ty := .int) (C := RX7) (T := TX7) (N := 35) hx hb hts hi_X7_isItem_7 tyX7 tyX7_ok nmX7 hown hK hP hD hS 0 wM_0 rfl 9 (by decide) (hts (.fieldLink RX7 110 "BlindLanternsModel" "readDraughts" "I") (List.mem_of_getElem? (i := 9) rfl)) (fun _ h9 => h9) rfl (by decide +kernel) rfl rfl (Nat.le_of_ble_eq_true rfl) dX7_isItem_453 (fun H locs hP hD hS => ?_)
            rw [wM_p9] at hP hD
            refine lv_iconst (v := 1) hx hb dX7_isItem_456 (by decide) ?_
            exact hret (1 : Int32) (u364.1, moi_4, moi_8, (moi_9 + (1 : Int32)), moi_11, moi_12, u364.2, mok_5, mok_6, mok_7, (upd (upd mok_10 ((2 : Int32) * moi_9).toNatClampNeg (u364.2 (0 : Int32).toNatClampNeg)) (((2 : Int32) * moi_9) + (1 : Int32)).toNatClampNeg (u364.2 (1 : Int32).toNatClampNeg))) _ _ _ _ dX7_isItem_457 (Or.inr rfl) he hP hD hS
          · replace he := he.trans (if_pos c8)
            refine lv_iconst (v := 0) hx hb dX7_isItem_408 (by decide) ?_
            exact hret (0 : Int32) (u364.1, moi_4, moi_8, moi_9, moi_11, moi_12, u364.2, mok_5, mok_6, mok_7, mok_10) _ _ _ _ dX7_isItem_409 (Or.inl rfl) he hP hD hS
  replace he := he.trans (if_neg k21_0)
  by_cases k21_1 : (mok_1 moi_2.toNatClampNeg) = (101 : Int32)
  · replace he := he.trans (if_pos k21_1)
    refine lv_tableIn hx hb dX7_isItem_21 (off := 262) (tgt := 283) (by rw [k21_1]; decide) (by rw [k21_1]; decide) (by rw [k21_1]; rfl) (by decide) ?_
    refine lv_aload_n hx hb dX7_isItem_283 rfl (lv_at hl 1 rfl) ?_
    refine lv_iconst (v := 1) hx hb dX7_isItem_284 (by decide) ?_
    have n11_ : fX7_areNumbers F moi_0 (moi_2 + (1 : Int32)) mok_1 mok_3 (1 : Int32) ≠ none := fun z => hne (he.trans (xbd2_none z))
    refine xciW (va_runV (As := [.int (1 : Int32)]) (rest := []) ⟨hx, hb, hml, hown, hts⟩ (c_X7_areNumbers l D cI cP H.size mo mor moi_0 (moi_2 + (1 : Int32)) moi_4 moi_8 moi_9 moi_11 moi_12 moi_13 moi_17 moi_18 moi_20 moi_21 moi_24 moi_26 moi_28 moi_30 moi_31 moi_32 mok_1 mok_3 mok_5 mok_6 mok_7 mok_10 mok_14 mok_15 mok_16 mok_19 mok_22 mok_23 mok_25 mok_27 mok_29 mok_33 mok_34 F (1 : Int32) n11_) (cwV 1 hts gX7_isItem_X7_areNumbers rfl rfl rfl (by decide +kernel) ⟨Nat.le_of_ble_eq_true rfl, Nat.le_of_ble_eq_true rfl⟩) (xPVW hN hK hP hD (ci := 7) (j := 0) rfl wM_0) rfl rfl hl.1 rfl (lv_room (Nat.le_of_ble_eq_true rfl)) dX7_isItem_285 ⟨Nat.le_of_ble_eq_true rfl, Nat.le_of_ble_eq_true rfl⟩) hD hS hA (fun r285 u285 H locs hw hP hD hS => ?_)
    have hP : va_P D vwCl (wM cI mo mor moi_0 u285.1 moi_4 moi_8 moi_9 moi_11 moi_12 moi_13 moi_17 moi_18 moi_20 moi_21 moi_24 moi_26 moi_28 moi_30 moi_31 moi_32 mok_1 u285.2 mok_5 mok_6 mok_7 mok_10 mok_14 mok_15 mok_16 mok_19 mok_22 mok_23 mok_25 mok_27 mok_29 mok_33 mok_34) H := hP
    have hD : va_D A (wM cI mo mor moi_0 u285.1 moi_4 moi_8 moi_9 moi_11 moi_12 moi_13 moi_17 moi_18 moi_20 moi_21 moi_24 moi_26 moi_28 moi_30 moi_31 moi_32 mok_1 u285.2 mok_5 mok_6 mok_7 mok_10 mok_14 mok_15 mok_16 mok_19 mok_22 mok_23 mok_25 mok_27 mok_29 mok_33 mok_34) := hD
    replace he := he.trans (xbd2_some hw)
    refine lv_if_eq (tgt := 298) hx hb dX7_isItem_288 (by decide) (fun c12 => ?_) (fun c12 => ?_)
    · replace he := he.trans (if_pos c12)
      refine lv_iconst (v := 0) hx hb dX7_isItem_298 (by decide) ?_
      exact hret (0 : Int32) (u285.1, moi_4, moi_8, moi_9, moi_11, moi_12, u285.2, mok_5, mok_6, mok_7, mok_10) _ _ _ _ dX7_isItem_299 (Or.inl rfl) he hP hD hS
    · replace he := he.trans (if_neg c12)
      refine lv_aload_n hx hb dX7_isItem_291 rfl (lv_at hl 1 rfl) ?_
      have n13_ : fX7_isLantern moi_4 u285.2 ≠ none := fun z => hne (he.trans (xbd_none z))
      refine xciW (va_runV (As := []) (rest := []) ⟨hx, hb, hml, hown, hts⟩ (c_X7_isLantern l D cI cP H.size mo mor moi_0 u285.1 moi_4 moi_8 moi_9 moi_11 moi_12 moi_13 moi_17 moi_18 moi_20 moi_21 moi_24 moi_26 moi_28 moi_30 moi_31 moi_32 mok_1 u285.2 mok_5 mok_6 mok_7 mok_10 mok_14 mok_15 mok_16 mok_19 mok_22 mok_23 mok_25 mok_27 mok_29 mok_33 mok_34  n13_) (cwV 0 hts gX7_isItem_X7_isLantern rfl rfl rfl (by decide +kernel) ⟨Nat.le_of_ble_eq_true rfl, Nat.le_of_ble_eq_true rfl⟩) (xPVW hN hK hP hD (ci := 7) (j := 0) rfl wM_0) rfl rfl hl.1 rfl (lv_room (Nat.le_of_ble_eq_true rfl)) dX7_isItem_292 ⟨Nat.le_of_ble_eq_true rfl, Nat.le_of_ble_eq_true rfl⟩) hD hS hA (fun r292 u292 H locs hw hP hD hS => ?_)
      have hP : va_P D vwCl (wM cI mo mor moi_0 u285.1 moi_4 moi_8 moi_9 moi_11 moi_12 moi_13 moi_17 moi_18 moi_20 moi_21 moi_24 moi_26 moi_28 moi_30 moi_31 moi_32 mok_1 u285.2 mok_5 mok_6 mok_7 mok_10 mok_14 mok_15 mok_16 mok_19 mok_22 mok_23 mok_25 mok_27 mok_29 mok_33 mok_34) H := hP
      have hD : va_D A (wM cI mo mor moi_0 u285.1 moi_4 moi_8 moi_9 moi_11 moi_12 moi_13 moi_17 moi_18 moi_20 moi_21 moi_24 moi_26 moi_28 moi_30 moi_31 moi_32 mok_1 u285.2 mok_5 mok_6 mok_7 mok_10 mok_14 mok_15 mok_16 mok_19 mok_22 mok_23 mok_25 mok_27 mok_29 mok_33 mok_34) := hD
      replace he := he.trans (xbd_some hw)
      refine lv_if_ne (tgt := 300) hx hb dX7_isItem_295 (by decide) (fun c14 => ?_) (fun c14 => ?_)
      · replace he := he.trans (if_neg c14)
        refine lv_aload_n hx hb dX7_isItem_300 rfl (lv_at hl 1 rfl) ?_
        refine va_get (D := D) (ci := 7) (v := .ref (mor 6)) (C := RX7) (T := TX7) (N := 35) hx hb hts hi_X7_isItem_7 hown hK hP 0 wM_0 rfl 6 (by decide) (hts (.fieldLink RX7 19 "BlindLanternsModel" "readOil" "[I") (List.mem_of_getElem? (i := 6) rfl)) (fun _ h9 => h9) xMf_6 dX7_isItem_301 ?_
        refine lv_aload_n hx hb dX7_isItem_304 rfl (lv_at hl 1 rfl) ?_
        refine va_get (D := D) (ci := 7) (v := .ref (mor 3)) (C := RX7) (T := TX7) (N := 35) hx hb hts hi_X7_isItem_7 hown hK hP 0 wM_0 rfl 3 (by decide) (hts (.fieldLink RX7 13 "BlindLanternsModel" "number" "[I") (List.mem_of_getElem? (i := 3) rfl)) (fun _ h9 => h9) xMf_3 dX7_isItem_305 ?_
        refine lv_iconst (v := 0) hx hb dX7_isItem_308 (by decide) ?_
        refine va_iald hx hb hK hP 2 0 wM_a3 rfl (x_in rfl) dX7_isItem_309 ?_
        refine lv_iconst (v := -1) hx hb dX7_isItem_310 (by decide) ?_
        by_cases g15 : (u285.2 (0 : Int32).toNatClampNeg) < 0 ∨ 6 ≤ (u285.2 (0 : Int32).toNatClampNeg).toNatClampNeg
        · exact absurd (he.trans (if_pos g15)) hne
        replace he := he.trans (if_neg g15)
        refine va_iast hx hb hK hP hD hS 4 0 wM_a6 rfl g15 dX7_isItem_311 (fun H locs hP hD hS => ?_)
        rw [wM_s6] at hP hD
        refine lv_aload_n hx hb dX7_isItem_312 rfl (lv_at hl 1 rfl) ?_
        refine va_get (D := D) (ci := 7) (v := .ref (mor 7)) (C := RX7) (T := TX7) (N := 35) hx hb hts hi_X7_isItem_7 hown hK hP 0 wM_0 rfl 7 (by decide) (hts (.fieldLink RX7 22 "BlindLanternsModel" "readLit" "[I") (List.mem_of_getElem? (i := 7) rfl)) (fun _ h9 => h9) xMf_7 dX7_isItem_313 ?_
        refine lv_aload_n hx hb dX7_isItem_316 rfl (lv_at hl 1 rfl) ?_
        refine va_get (D := D) (ci := 7) (v := .ref (mor 3)) (C := RX7) (T := TX7) (N := 35) hx hb hts hi_X7_isItem_7 hown hK hP 0 wM_0 rfl 3 (by decide) (hts (.fieldLink RX7 13 "BlindLanternsModel" "number" "[I") (List.mem_of_getElem? (i := 3) rfl)) (fun _ h9 => h9) xMf_3 dX7_isItem_317 ?_
        refine lv_iconst (v := 0) hx hb dX7_isItem_320 (by decide) ?_
        refine va_iald hx hb hK hP 2 0 wM_a3 rfl (x_in rfl) dX7_isItem_321 ?_
        refine lv_iconst (v := 0) hx hb dX7_isItem_322 (by decide) ?_
        by_cases g16 : (u285.2 (0 : Int32).toNatClampNeg) < 0 ∨ 6 ≤ (u285.2 (0 : Int32).toNatClampNeg).toNatClampNeg
        · exact absurd (he.trans (if_pos g16)) hne
        replace he := he.trans (if_neg g16)
        refine va_iast hx hb hK hP hD hS 5 0 wM_a7 rfl g16 dX7_isItem_323 (fun H locs hP hD hS => ?_)
        rw [wM_s7] at hP hD
        refine lv_iconst (v := 1) hx hb dX7_isItem_324 (by decide) ?_
        exact hret (1 : Int32) (u285.1, moi_4, moi_8, moi_9, moi_11, moi_12, u285.2, mok_5, (upd mok_6 (u285.2 (0 : Int32).toNatClampNeg).toNatClampNeg (-1 : Int32)), (upd mok_7 (u285.2 (0 : Int32).toNatClampNeg).toNatClampNeg (0 : Int32)), mok_10) _ _ _ _ dX7_isItem_325 (Or.inr rfl) he hP hD hS
      · replace he := he.trans (if_pos c14)
        refine lv_iconst (v := 0) hx hb dX7_isItem_298 (by decide) ?_
        exact hret (0 : Int32) (u285.1, moi_4, moi_8, moi_9, moi_11, moi_12, u285.2, mok_5, mok_6, mok_7, mok_10) _ _ _ _ dX7_isItem_299 (Or.inl rfl) he hP hD hS
  replace he := he.trans (if_neg k21_1)
  by_cases k21_2 : (mok_1 moi_2.toNatClampNeg) = (109 : Int32)
  · replace he := he.trans (if_pos k21_2)
    refine lv_tableIn hx hb dX7_isItem_21 (off := 87) (tgt := 108) (by rw [k21_2]; decide) (by rw [k21_2]; decide) (by rw [k21_2]; rfl) (by decide) ?_
    refine lv_aload_n hx hb dX7_isItem_108 rfl (lv_at hl 1 rfl) ?_
    refine lv_iconst (v := 1) hx hb dX7_isItem_109 (by decide) ?_
    have n17_ : fX7_areNumbers F moi_0 (moi_2 + (1 : Int32)) mok_1 mok_3 (1 : Int32) ≠ none := fun z => hne (he.trans (xbd2_none z))
    refine xciW (va_runV (As := [.int (1 : Int32)]) (rest := []) ⟨hx, hb, hml, hown, hts⟩ (c_X7_areNumbers l D cI cP H.size mo mor moi_0 (moi_2 + (1 : Int32)) moi_4 moi_8 moi_9 moi_11 moi_12 moi_13 moi_17 moi_18 moi_20 moi_21 moi_24 moi_26 moi_28 moi_30 moi_31 moi_32 mok_1 mok_3 mok_5 mok_6 mok_7 mok_10 mok_14 mok_15 mok_16 mok_19 mok_22 mok_23 mok_25 mok_27 mok_29 mok_33 mok_34 F (1 : Int32) n17_) (cwV 1 hts gX7_isItem_X7_areNumbers rfl rfl rfl (by decide +kernel) ⟨Nat.le_of_ble_eq_true rfl, Nat.le_of_ble_eq_true rfl⟩) (xPVW hN hK hP hD (ci := 7) (j := 0) rfl wM_0) rfl rfl hl.1 rfl (lv_room (Nat.le_of_ble_eq_true rfl)) dX7_isItem_110 ⟨Nat.le_of_ble_eq_true rfl, Nat.le_of_ble_eq_true rfl⟩) hD hS hA (fun r110 u110 H locs hw hP hD hS => ?_)
    have hP : va_P D vwCl (wM cI mo mor moi_0 u110.1 moi_4 moi_8 moi_9 moi_11 moi_12 moi_13 moi_17 moi_18 moi_20 moi_21 moi_24 moi_26 moi_28 moi_30 moi_31 moi_32 mok_1 u110.2 mok_5 mok_6 mok_7 mok_10 mok_14 mok_15 mok_16 mok_19 mok_22 mok_23 mok_25 mok_27 mok_29 mok_33 mok_34) H := hP
    have hD : va_D A (wM cI mo mor moi_0 u110.1 moi_4 moi_8 moi_9 moi_11 moi_12 moi_13 moi_17 moi_18 moi_20 moi_21 moi_24 moi_26 moi_28 moi_30 moi_31 moi_32 mok_1 u110.2 mok_5 mok_6 mok_7 mok_10 mok_14 mok_15 mok_16 mok_19 mok_22 mok_23 mok_25 mok_27 mok_29 mok_33 mok_34) := hD
    replace he := he.trans (xbd2_some hw)
    refine lv_if_eq (tgt := 139) hx hb dX7_isItem_113 (by decide) (fun c18 => ?_) (fun c18 => ?_)
    · replace he := he.trans (if_pos c18)
      refine lv_iconst (v := 0) hx hb dX7_isItem_139 (by decide) ?_
      exact hret (0 : Int32) (u110.1, moi_4, moi_8, moi_9, moi_11, moi_12, u110.2, mok_5, mok_6, mok_7, mok_10) _ _ _ _ dX7_isItem_140 (Or.inl rfl) he hP hD hS
    · replace he := he.trans (if_neg c18)
      refine lv_aload_n hx hb dX7_isItem_116 rfl (lv_at hl 1 rfl) ?_
      refine va_get (D := D) (ci := 7) (v := .ref (mor 3)) (C := RX7) (T := TX7) (N := 35) hx hb hts hi_X7_isItem_7 hown hK hP 0 wM_0 rfl 3 (by decide) (hts (.fieldLink RX7 13 "BlindLanternsModel" "number" "[I") (List.mem_of_getElem? (i := 3) rfl)) (fun _ h9 => h9) xMf_3 dX7_isItem_117 ?_
      refine lv_iconst (v := 0) hx hb dX7_isItem_120 (by decide) ?_
      refine va_iald hx hb hK hP 2 0 wM_a3 rfl (x_in rfl) dX7_isItem_121 ?_
      refine lv_iconst (v := 0) hx hb dX7_isItem_122 (by decide) ?_
      refine lv_iconst (v := 2) hx hb dX7_isItem_123 (by decide) ?_
      have n19_ : fX7_in (u110.2 (0 : Int32).toNatClampNeg) (0 : Int32) (2 : Int32) ≠ none := fun z => hne (he.trans (xbd_none z))
      refine xci0 (va_runS (As := [.int (u110.2 (0 : Int32).toNatClampNeg), .int (0 : Int32), .int (2 : Int32)]) (rest := []) ⟨hx, hb, hml, hown, hts⟩ (c_X7_in l D cI cP H.size  (u110.2 (0 : Int32).toNatClampNeg) (0 : Int32) (2 : Int32) n19_) (va_cwS 3 hts gX7_isItem_X7_in rfl rfl rfl (by decide +kernel) ⟨Nat.le_of_ble_eq_true rfl, Nat.le_of_ble_eq_true rfl⟩) (xPS0 hN hK) rfl rfl hl.1 rfl (lv_room (Nat.le_of_ble_eq_true rfl)) dX7_isItem_124 ⟨Nat.le_of_ble_eq_true rfl, Nat.le_of_ble_eq_true rfl⟩) hP hD hS hA (fun r124 u124 H locs hw hP hD hS => ?_)
      replace he := he.trans (xbd_some hw)
      refine lv_if_eq (tgt := 139) hx hb dX7_isItem_127 (by decide) (fun c20 => ?_) (fun c20 => ?_)
      · replace he := he.trans (if_pos c20)
        refine lv_iconst (v := 0) hx hb dX7_isItem_139 (by decide) ?_
        exact hret (0 : Int32) (u110.1, moi_4, moi_8, moi_9, moi_11, moi_12, u110.2, mok_5, mok_6, mok_7, mok_10) _ _ _ _ dX7_isItem_140 (Or.inl rfl) he hP hD hS
      · replace he := he.trans (if_neg c20)
        refine lv_aload_n hx hb dX7_isItem_130 rfl (lv_at hl 1 rfl) ?_
        refine va_get (D := D) (ci := 7) (v := .int moi_4) (C := RX7) (T := TX7) (N := 35) hx hb hts hi_X7_isItem_7 hown hK hP 0 wM_0 rfl 4 (by decide) (hts (.fieldLink RX7 96 "BlindLanternsModel" "readMen" "I") (List.mem_of_getElem? (i := 4) rfl)) (fun _ h9 => h9) xMf_4 dX7_isItem_131 ?_
        refine lv_bipush (v := 6) hx hb dX7_isItem_134 (by decide) ?_
        refine lv_icmp_ne (tgt := 141) hx hb dX7_isItem_136 (by decide) (fun c21 => ?_) (fun c21 => ?_)
        · replace he := he.trans (if_neg c21)
          refine lv_aload_n hx hb dX7_isItem_141 rfl (lv_at hl 1 rfl) ?_
          refine va_get (D := D) (ci := 7) (v := .ref (mor 5)) (C := RX7) (T := TX7) (N := 35) hx hb hts hi_X7_isItem_7 hown hK hP 0 wM_0 rfl 5 (by decide) (hts (.fieldLink RX7 16 "BlindLanternsModel" "readKind" "[I") (List.mem_of_getElem? (i := 5) rfl)) (fun _ h9 => h9) xMf_5 dX7_isItem_142 ?_
          refine lv_aload_n hx hb dX7_isItem_145 rfl (lv_at hl 1 rfl) ?_
          refine va_get (D := D) (ci := 7) (v := .int moi_4) (C := RX7) (T := TX7) (N := 35) hx hb hts hi_X7_isItem_7 hown hK hP 0 wM_0 rfl 4 (by decide) (hts (.fieldLink RX7 96 "BlindLanternsModel" "readMen" "I") (List.mem_of_getElem? (i := 4) rfl)) (fun _ h9 => h9) xMf_4 dX7_isItem_146 ?_
          refine lv_aload_n hx hb dX7_isItem_149 rfl (lv_at hl 1 rfl) ?_
          refine va_get (D := D) (ci := 7) (v := .ref (mor 3)) (C := RX7) (T := TX7) (N := 35) hx hb hts hi_X7_isItem_7 hown hK hP 0 wM_0 rfl 3 (by decide) (hts (.fieldLink RX7 13 "BlindLanternsModel" "number" "[I") (List.mem_of_getElem? (i := 3) rfl)) (fun _ h9 => h9) xMf_3 dX7_isItem_150 ?_
          refine lv_iconst (v := 0) hx hb dX7_isItem_153 (by decide) ?_
          refine va_iald hx hb hK hP 2 0 wM_a3 rfl (x_in rfl) dX7_isItem_154 ?_
          by_cases g22 : moi_4 < 0 ∨ 6 ≤ moi_4.toNatClampNeg
          · exact absurd (he.trans (if_pos g22)) hne
          replace he := he.trans (if_neg g22)
          refine va_iast hx hb hK hP hD hS 3 0 wM_a5 rfl g22 dX7_isItem_155 (fun H locs hP hD hS => ?_)
          rw [wM_s5] at hP hD
          refine lv_aload_n hx hb dX7_isItem_156 rfl (lv_at hl 1 rfl) ?_
          refine va_get (D := D) (ci := 7) (v := .ref (mor 6)) (C := RX7) (T := TX7) (N := 35) hx hb hts hi_X7_isItem_7 hown hK hP 0 wM_0 rfl 6 (by decide) (hts (.fieldLink RX7 19 "BlindLanternsModel" "readOil" "[I") (List.mem_of_getElem? (i := 6) rfl)) (fun _ h9 => h9) xMf_6 dX7_isItem_157 ?_
          refine lv_aload_n hx hb dX7_isItem_160 rfl (lv_at hl 1 rfl) ?_
          refine va_get (D := D) (ci := 7) (v := .int moi_4) (C := RX7) (T := TX7) (N := 35) hx hb hts hi_X7_isItem_7 hown hK hP 0 wM_0 rfl 4 (by decide) (hts (.fieldLink RX7 96 "BlindLanternsModel" "readMen" "I") (List.mem_of_getElem? (i := 4) rfl)) (fun _ h9 => h9) xMf_4 dX7_isItem_161 ?_
          refine lv_iconst (v := 0) hx hb dX7_isItem_164 (by decide) ?_
          by_cases g23 : moi_4 < 0 ∨ 6 ≤ moi_4.toNatClampNeg
          · exact absurd (he.trans (if_pos g23)) hne
          replace he := he.trans (if_neg g23)
          refine va_iast hx hb hK hP hD hS 4 0 wM_a6 rfl g23 dX7_isItem_165 (fun H locs hP hD hS => ?_)
          rw [wM_s6] at hP hD
          refine lv_aload_n hx hb dX7_isItem_166 rfl (lv_at hl 1 rfl) ?_
          refine va_get (D := D) (ci := 7) (v := .ref (mor 7)) (C := RX7) (T := TX7) (N := 35) hx hb hts hi_X7_isItem_7 hown hK hP 0 wM_0 rfl 7 (by decide) (hts (.fieldLink RX7 22 "BlindLanternsModel" "readLit" "[I") (List.mem_of_getElem? (i := 7) rfl)) (fun _ h9 => h9) xMf_7 dX7_isItem_167 ?_
          refine lv_aload_n hx hb dX7_isItem_170 rfl (lv_at hl 1 rfl) ?_
          refine va_get (D := D) (ci := 7) (v := .int moi_4) (C := RX7) (T := TX7) (N := 35) hx hb hts hi_X7_isItem_7 hown hK hP 0 wM_0 rfl 4 (by decide) (hts (.fieldLink RX7 96 "BlindLanternsModel" "readMen" "I") (List.mem_of_getElem? (i := 4) rfl)) (fun _ h9 => h9) xMf_4 dX7_isItem_171 ?_
          refine lv_iconst (v := 0) hx hb dX7_isItem_174 (by decide) ?_
          by_cases g24 : moi_4 < 0 ∨ 6 ≤ moi_4.toNatClampNeg
          · exact absurd (he.trans (if_pos g24)) hne
          replace he := he.trans (if_neg g24)
          refine va_iast hx hb hK hP hD hS 5 0 wM_a7 rfl g24 dX7_isItem_175 (fun H locs hP hD hS => ?_)
          rw [wM_s7] at hP hD
          refine lv_aload_n hx hb dX7_isItem_176 rfl (lv_at hl 1 rfl) ?_
          refine lv_dup hx hb dX7_isItem_177 rfl ?_
          refine va_get (D := D) (ci := 7) (v := .int moi_4) (C := RX7) (T := TX7) (N := 35) hx hb hts hi_X7_isItem_7 hown hK hP 0 wM_0 rfl 4 (by decide) (hts (.fieldLink RX7 96 "BlindLanternsModel" "readMen" "I") (List.mem_of_getElem? (i := 4) rfl)) (fun _ h9 => h9) xMf_4 dX7_isItem_178 ?_
          refine lv_iconst (v := 1) hx hb dX7_isItem_181 (by decide) ?_
          refine lv_iadd hx hb dX7_isItem_182 ?_
          refine va_put (D := D) (ci := 7) (v := .int (moi_4 + (1 : Int32))) (ty := .int) (C := RX7) (T := TX7) (N := 35) hx hb hts hi_X7_isItem_7 tyX7 tyX7_ok nmX7 hown hK hP hD hS 0 wM_0 rfl 4 (by decide) (hts (.fieldLink RX7 96 "BlindLanternsModel" "readMen" "I") (List.mem_of_getElem? (i := 4) rfl)) (fun _ h9 => h9) rfl (by decide +kernel) rfl rfl (Nat.le_of_ble_eq_true rfl) dX7_isItem_183 (fun H locs hP hD hS => ?_)
          rw [wM_p4] at hP hD
          refine lv_iconst (v := 1) hx hb dX7_isItem_186 (by decide) ?_
          exact hret (1 : Int32) (u110.1, (moi_4 + (1 : Int32)), moi_8, moi_9, moi_11, moi_12, u110.2, (upd mok_5 moi_4.toNatClampNeg (u110.2 (0 : Int32).toNatClampNeg)), (upd mok_6 moi_4.toNatClampNeg (0 : Int32)), (upd mok_7 moi_4.toNatClampNeg (0 : Int32)), mok_10) _ _ _ _ dX7_isItem_187 (Or.inr rfl) he hP hD hS
        · replace he := he.trans (if_pos c21)
          refine lv_iconst (v := 0) hx hb dX7_isItem_139 (by decide) ?_
          exact hret (0 : Int32) (u110.1, moi_4, moi_8, moi_9, moi_11, moi_12, u110.2, mok_5, mok_6, mok_7, mok_10) _ _ _ _ dX7_isItem_140 (Or.inl rfl) he hP hD hS
  replace he := he.trans (if_neg k21_2)
  by_cases k21_3 : (mok_1 moi_2.toNatClampNeg) = (111 : Int32)
  · replace he := he.trans (if_pos k21_3)
    refine lv_tableIn hx hb dX7_isItem_21 (off := 167) (tgt := 188) (by rw [k21_3]; decide) (by rw [k21_3]; decide) (by rw [k21_3]; rfl) (by decide) ?_
    refine lv_aload_n hx hb dX7_isItem_188 rfl (lv_at hl 1 rfl) ?_
    refine lv_iconst (v := 3) hx hb dX7_isItem_189 (by decide) ?_
    have n25_ : fX7_areNumbers F moi_0 (moi_2 + (1 : Int32)) mok_1 mok_3 (3 : Int32) ≠ none := fun z => hne (he.trans (xbd2_none z))
    refine xciW (va_runV (As := [.int (3 : Int32)]) (rest := []) ⟨hx, hb, hml, hown, hts⟩ (c_X7_areNumbers l D cI cP H.size mo mor moi_0 (moi_2 + (1 : Int32)) moi_4 moi_8 moi_9 moi_11 moi_12 moi_13 moi_17 moi_18 moi_20 moi_21 moi_24 moi_26 moi_28 moi_30 moi_31 moi_32 mok_1 mok_3 mok_5 mok_6 mok_7 mok_10 mok_14 mok_15 mok_16 mok_19 mok_22 mok_23 mok_25 mok_27 mok_29 mok_33 mok_34 F (3 : Int32) n25_) (cwV 1 hts gX7_isItem_X7_areNumbers rfl rfl rfl (by decide +kernel) ⟨Nat.le_of_ble_eq_true rfl, Nat.le_of_ble_eq_true rfl⟩) (xPVW hN hK hP hD (ci := 7) (j := 0) rfl wM_0) rfl rfl hl.1 rfl (lv_room (Nat.le_of_ble_eq_true rfl)) dX7_isItem_190 ⟨Nat.le_of_ble_eq_true rfl, Nat.le_of_ble_eq_true rfl⟩) hD hS hA (fun r190 u190 H locs hw hP hD hS => ?_)
    have hP : va_P D vwCl (wM cI mo mor moi_0 u190.1 moi_4 moi_8 moi_9 moi_11 moi_12 moi_13 moi_17 moi_18 moi_20 moi_21 moi_24 moi_26 moi_28 moi_30 moi_31 moi_32 mok_1 u190.2 mok_5 mok_6 mok_7 mok_10 mok_14 mok_15 mok_16 mok_19 mok_22 mok_23 mok_25 mok_27 mok_29 mok_33 mok_34) H := hP
    have hD : va_D A (wM cI mo mor moi_0 u190.1 moi_4 moi_8 moi_9 moi_11 moi_12 moi_13 moi_17 moi_18 moi_20 moi_21 moi_24 moi_26 moi_28 moi_30 moi_31 moi_32 mok_1 u190.2 mok_5 mok_6 mok_7 mok_10 mok_14 mok_15 mok_16 mok_19 mok_22 mok_23 mok_25 mok_27 mok_29 mok_33 mok_34) := hD
    replace he := he.trans (xbd2_some hw)
    refine lv_if_eq (tgt := 245) hx hb dX7_isItem_193 (by decide) (fun c26 => ?_) (fun c26 => ?_)
    · replace he := he.trans (if_pos c26)
      refine lv_iconst (v := 0) hx hb dX7_isItem_245 (by decide) ?_
      exact hret (0 : Int32) (u190.1, moi_4, moi_8, moi_9, moi_11, moi_12, u190.2, mok_5, mok_6, mok_7, mok_10) _ _ _ _ dX7_isItem_246 (Or.inl rfl) he hP hD hS
    · replace he := he.trans (if_neg c26)
      refine lv_aload_n hx hb dX7_isItem_196 rfl (lv_at hl 1 rfl) ?_
      have n27_ : fX7_isLantern moi_4 u190.2 ≠ none := fun z => hne (he.trans (xbd_none z))
      refine xciW (va_runV (As := []) (rest := []) ⟨hx, hb, hml, hown, hts⟩ (c_X7_isLantern l D cI cP H.size mo mor moi_0 u190.1 moi_4 moi_8 moi_9 moi_11 moi_12 moi_13 moi_17 moi_18 moi_20 moi_21 moi_24 moi_26 moi_28 moi_30 moi_31 moi_32 mok_1 u190.2 mok_5 mok_6 mok_7 mok_10 mok_14 mok_15 mok_16 mok_19 mok_22 mok_23 mok_25 mok_27 mok_29 mok_33 mok_34  n27_) (cwV 0 hts gX7_isItem_X7_isLantern rfl rfl rfl (by decide +kernel) ⟨Nat.le_of_ble_eq_true rfl, Nat.le_of_ble_eq_true rfl⟩) (xPVW hN hK hP hD (ci := 7) (j := 0) rfl wM_0) rfl rfl hl.1 rfl (lv_room (Nat.le_of_ble_eq_true rfl)) dX7_isItem_197 ⟨Nat.le_of_ble_eq_true rfl, Nat.le_of_ble_eq_true rfl⟩) hD hS hA (fun r197 u197 H locs hw hP hD hS => ?_)
      have hP : va_P D vwCl (wM cI mo mor moi_0 u190.1 moi_4 moi_8 moi_9 moi_11 moi_12 moi_13 moi_17 moi_18 moi_20 moi_21 moi_24 moi_26 moi_28 moi_30 moi_31 moi_32 mok_1 u190.2 mok_5 mok_6 mok_7 mok_10 mok_14 mok_15 mok_16 mok_19 mok_22 mok_23 mok_25 mok_27 mok_29 mok_33 mok_34) H := hP
      have hD : va_D A (wM cI mo mor moi_0 u190.1 moi_4 moi_8 moi_9 moi_11 moi_12 moi_13 moi_17 moi_18 moi_20 moi_21 moi_24 moi_26 moi_28 moi_30 moi_31 moi_32 mok_1 u190.2 mok_5 mok_6 mok_7 mok_10 mok_14 mok_15 mok_16 mok_19 mok_22 mok_23 mok_25 mok_27 mok_29 mok_33 mok_34) := hD
      replace he := he.trans (xbd_some hw)
      refine lv_if_eq (tgt := 245) hx hb dX7_isItem_200 (by decide) (fun c28 => ?_) (fun c28 => ?_)
      · replace he := he.trans (if_pos c28)
        refine lv_iconst (v := 0) hx hb dX7_isItem_245 (by decide) ?_
        exact hret (0 : Int32) (u190.1, moi_4, moi_8, moi_9, moi_11, moi_12, u190.2, mok_5, mok_6, mok_7, mok_10) _ _ _ _ dX7_isItem_246 (Or.inl rfl) he hP hD hS
      · replace he := he.trans (if_neg c28)
        refine lv_aload_n hx hb dX7_isItem_203 rfl (lv_at hl 1 rfl) ?_
        refine va_get (D := D) (ci := 7) (v := .ref (mor 3)) (C := RX7) (T := TX7) (N := 35) hx hb hts hi_X7_isItem_7 hown hK hP 0 wM_0 rfl 3 (by decide) (hts (.fieldLink RX7 13 "BlindLanternsModel" "number" "[I") (List.mem_of_getElem? (i := 3) rfl)) (fun _ h9 => h9) xMf_3 dX7_isItem_204 ?_
        refine lv_iconst (v := 1) hx hb dX7_isItem_207 (by decide) ?_
        refine va_iald hx hb hK hP 2 0 wM_a3 rfl (x_in rfl) dX7_isItem_208 ?_
        refine lv_iconst (v := 0) hx hb dX7_isItem_209 (by decide) ?_
        refine lv_bipush (v := 40) hx hb dX7_isItem_210 (by decide) ?_
        have n29_ : fX7_in (u190.2 (1 : Int32).toNatClampNeg) (0 : Int32) (40 : Int32) ≠ none := fun z => hne (he.trans (xbd_none z))
        refine xci0 (va_runS (As := [.int (u190.2 (1 : Int32).toNatClampNeg), .int (0 : Int32), .int (40 : Int32)]) (rest := []) ⟨hx, hb, hml, hown, hts⟩ (c_X7_in l D cI cP H.size  (u190.2 (1 : Int32).toNatClampNeg) (0 : Int32) (40 : Int32) n29_) (va_cwS 3 hts gX7_isItem_X7_in rfl rfl rfl (by decide +kernel) ⟨Nat.le_of_ble_eq_true rfl, Nat.le_of_ble_eq_true rfl⟩) (xPS0 hN hK) rfl rfl hl.1 rfl (lv_room (Nat.le_of_ble_eq_true rfl)) dX7_isItem_212 ⟨Nat.le_of_ble_eq_true rfl, Nat.le_of_ble_eq_true rfl⟩) hP hD hS hA (fun r212 u212 H locs hw hP hD hS => ?_)
        replace he := he.trans (xbd_some hw)
        refine lv_if_eq (tgt := 245) hx hb dX7_isItem_215 (by decide) (fun c30 => ?_) (fun c30 => ?_)
        · replace he := he.trans (if_pos c30)
          refine lv_iconst (v := 0) hx hb dX7_isItem_245 (by decide) ?_
          exact hret (0 : Int32) (u190.1, moi_4, moi_8, moi_9, moi_11, moi_12, u190.2, mok_5, mok_6, mok_7, mok_10) _ _ _ _ dX7_isItem_246 (Or.inl rfl) he hP hD hS
        · replace he := he.trans (if_neg c30)
          refine lv_aload_n hx hb dX7_isItem_218 rfl (lv_at hl 1 rfl) ?_
          refine va_get (D := D) (ci := 7) (v := .ref (mor 3)) (C := RX7) (T := TX7) (N := 35) hx hb hts hi_X7_isItem_7 hown hK hP 0 wM_0 rfl 3 (by decide) (hts (.fieldLink RX7 13 "BlindLanternsModel" "number" "[I") (List.mem_of_getElem? (i := 3) rfl)) (fun _ h9 => h9) xMf_3 dX7_isItem_219 ?_
          refine lv_iconst (v := 2) hx hb dX7_isItem_222 (by decide) ?_
          refine va_iald hx hb hK hP 2 0 wM_a3 rfl (x_in rfl) dX7_isItem_223 ?_
          refine lv_iconst (v := 0) hx hb dX7_isItem_224 (by decide) ?_
          refine lv_aload_n hx hb dX7_isItem_225 rfl (lv_at hl 1 rfl) ?_
          refine va_get (D := D) (ci := 7) (v := .ref (mor 3)) (C := RX7) (T := TX7) (N := 35) hx hb hts hi_X7_isItem_7 hown hK hP 0 wM_0 rfl 3 (by decide) (hts (.fieldLink RX7 13 "BlindLanternsModel" "number" "[I") (List.mem_of_getElem? (i := 3) rfl)) (fun _ h9 => h9) xMf_3 dX7_isItem_226 ?_
          refine lv_iconst (v := 1) hx hb dX7_isItem_229 (by decide) ?_
          refine va_iald hx hb hK hP 2 0 wM_a3 rfl (x_in rfl) dX7_isItem_230 ?_
          refine lv_if_le (tgt := 238) hx hb dX7_isItem_231 (by decide) (fun c31 => ?_) (fun c31 => ?_)
          · replace he := he.trans (if_pos c31)
            refine lv_iconst (v := 0) hx hb dX7_isItem_238 (by decide) ?_
            have n32_ : fX7_in (u190.2 (2 : Int32).toNatClampNeg) (0 : Int32) (0 : Int32) ≠ none := fun z => hne (he.trans (xbd_none z))
            refine xci0 (va_runS (As := [.int (u190.2 (2 : Int32).toNatClampNeg), .int (0 : Int32), .int (0 : Int32)]) (rest := []) ⟨hx, hb, hml, hown, hts⟩ (c_X7_in l D cI cP H.size  (u190.2 (2 : Int32).toNatClampNeg) (0 : Int32) (0 : Int32) n32_) (va_cwS 3 hts gX7_isItem_X7_in rfl rfl rfl (by decide +kernel) ⟨Nat.le_of_ble_eq_true rfl, Nat.le_of_ble_eq_true rfl⟩) (xPS0 hN hK) rfl rfl hl.1 rfl (lv_room (Nat.le_of_ble_eq_true rfl)) dX7_isItem_239 ⟨Nat.le_of_ble_eq_true rfl, Nat.le_of_ble_eq_true rfl⟩) hP hD hS hA (fun r239 u239 H locs hw hP hD hS => ?_)
            replace he := he.trans (xbd_some hw)
            refine lv_if_ne (tgt := 247) hx hb dX7_isItem_242 (by decide) (fun c33 => ?_) (fun c33 => ?_)
            · replace he := he.trans (if_neg c33)
              refine lv_aload_n hx hb dX7_isItem_247 rfl (lv_at hl 1 rfl) ?_
              refine va_get (D := D) (ci := 7) (v := .ref (mor 6)) (C := RX7) (T := TX7) (N := 35) hx hb hts hi_X7_isItem_7 hown hK hP 0 wM_0 rfl 6 (by decide) (hts (.fieldLink RX7 19 "BlindLanternsModel" "readOil" "[I") (List.mem_of_getElem? (i := 6) rfl)) (fun _ h9 => h9) xMf_6 dX7_isItem_248 ?_
              refine lv_aload_n hx hb dX7_isItem_251 rfl (lv_at hl 1 rfl) ?_
              refine va_get (D := D) (ci := 7) (v := .ref (mor 3)) (C := RX7) (T := TX7) (N := 35) hx hb hts hi_X7_isItem_7 hown hK hP 0 wM_0 rfl 3 (by decide) (hts (.fieldLink RX7 13 "BlindLanternsModel" "number" "[I") (List.mem_of_getElem? (i := 3) rfl)) (fun _ h9 => h9) xMf_3 dX7_isItem_252 ?_
              refine lv_iconst (v := 0) hx hb dX7_isItem_255 (by decide) ?_
              refine va_iald hx hb hK hP 2 0 wM_a3 rfl (x_in rfl) dX7_isItem_256 ?_
              refine lv_aload_n hx hb dX7_isItem_257 rfl (lv_at hl 1 rfl) ?_
              refine va_get (D := D) (ci := 7) (v := .ref (mor 3)) (C := RX7) (T := TX7) (N := 35) hx hb hts hi_X7_isItem_7 hown hK hP 0 wM_0 rfl 3 (by decide) (hts (.fieldLink RX7 13 "BlindLanternsModel" "number" "[I") (List.mem_of_getElem? (i := 3) rfl)) (fun _ h9 => h9) xMf_3 dX7_isItem_258 ?_
              refine lv_iconst (v := 1) hx hb dX7_isItem_261 (by decide) ?_
              refine va_iald hx hb hK hP 2 0 wM_a3 rfl (x_in rfl) dX7_isItem_262 ?_
              by_cases g34 : (u190.2 (0 : Int32).toNatClampNeg) < 0 ∨ 6 ≤ (u190.2 (0 : Int32).toNatClampNeg).toNatClampNeg
              · exact absurd (he.trans (if_pos g34)) hne
              replace he := he.trans (if_neg g34)
              refine va_iast hx hb hK hP hD hS 4 0 wM_a6 rfl g34 dX7_isItem_263 (fun H locs hP hD hS => ?_)
              rw [wM_s6] at hP hD
              refine lv_aload_n hx hb dX7_isItem_264 rfl (lv_at hl 1 rfl) ?_
              refine va_get (D := D) (ci := 7) (v := .ref (mor 7)) (C := RX7) (T := TX7) (N := 35) hx hb hts hi_X7_isItem_7 hown hK hP 0 wM_0 rfl 7 (by decide) (hts (.fieldLink RX7 22 "BlindLanternsModel" "readLit" "[I") (List.mem_of_getElem? (i := 7) rfl)) (fun _ h9 => h9) xMf_7 dX7_isItem_265 ?_
              refine lv_aload_n hx hb dX7_isItem_268 rfl (lv_at hl 1 rfl) ?_
              refine va_get (D := D) (ci := 7) (v := .ref (mor 3)) (C := RX7) (T := TX7) (N := 35) hx hb hts hi_X7_isItem_7 hown hK hP 0 wM_0 rfl 3 (by decide) (hts (.fieldLink RX7 13 "BlindLanternsModel" "number" "[I") (List.mem_of_getElem? (i := 3) rfl)) (fun _ h9 => h9) xMf_3 dX7_isItem_269 ?_
              refine lv_iconst (v := 0) hx hb dX7_isItem_272 (by decide) ?_
              refine va_iald hx hb hK hP 2 0 wM_a3 rfl (x_in rfl) dX7_isItem_273 ?_
              refine lv_aload_n hx hb dX7_isItem_274 rfl (lv_at hl 1 rfl) ?_
              refine va_get (D := D) (ci := 7) (v := .ref (mor 3)) (C := RX7) (T := TX7) (N := 35) hx hb hts hi_X7_isItem_7 hown hK hP 0 wM_0 rfl 3 (by decide) (hts (.fieldLink RX7 13 "BlindLanternsModel" "number" "[I") (List.mem_of_getElem? (i := 3) rfl)) (fun _ h9 => h9) xMf_3 dX7_isItem_275 ?_
              refine lv_iconst (v := 2) hx hb dX7_isItem_278 (by decide) ?_
              refine va_iald hx hb hK hP 2 0 wM_a3 rfl (x_in rfl) dX7_isItem_279 ?_
              by_cases g35 : (u190.2 (0 : Int32).toNatClampNeg) < 0 ∨ 6 ≤ (u190.2 (0 : Int32).toNatClampNeg).toNatClampNeg
              · exact absurd (he.trans (if_pos g35)) hne
              replace he := he.trans (if_neg g35)
              refine va_iast hx hb hK hP hD hS 5 0 wM_a7 rfl g35 dX7_isItem_280 (fun H locs hP hD hS => ?_)
              rw [wM_s7] at hP hD
              refine lv_iconst (v := 1) hx hb dX7_isItem_281 (by decide) ?_
              exact hret (1 : Int32) (u190.1, moi_4, moi_8, moi_9, moi_11, moi_12, u190.2, mok_5, (upd mok_6 (u190.2 (0 : Int32).toNatClampNeg).toNatClampNeg (u190.2 (1 : Int32).toNatClampNeg)), (upd mok_7 (u190.2 (0 : Int32).toNatClampNeg).toNatClampNeg (u190.2 (2 : Int32).toNatClampNeg)), mok_10) _ _ _ _ dX7_isItem_282 (Or.inr rfl) he hP hD hS
            · replace he := he.trans (if_pos c33)
              refine lv_iconst (v := 0) hx hb dX7_isItem_245 (by decide) ?_
              exact hret (0 : Int32) (u190.1, moi_4, moi_8, moi_9, moi_11, moi_12, u190.2, mok_5, mok_6, mok_7, mok_10) _ _ _ _ dX7_isItem_246 (Or.inl rfl) he hP hD hS
          · replace he := he.trans (if_neg c31)
            refine lv_iconst (v := 1) hx hb dX7_isItem_234 (by decide) ?_
            refine lv_goto (tgt := 239) hx hb dX7_isItem_235 (by decide) ?_
            have n36_ : fX7_in (u190.2 (2 : Int32).toNatClampNeg) (0 : Int32) (1 : Int32) ≠ none := fun z => hne (he.trans (xbd_none z))
            refine xci0 (va_runS (As := [.int (u190.2 (2 : Int32).toNatClampNeg), .int (0 : Int32), .int (1 : Int32)]) (rest := []) ⟨hx, hb, hml, hown, hts⟩ (c_X7_in l D cI cP H.size  (u190.2 (2 : Int32).toNatClampNeg) (0 : Int32) (1 : Int32) n36_) (va_cwS 3 hts gX7_isItem_X7_in rfl rfl rfl (by decide +kernel) ⟨Nat.le_of_ble_eq_true rfl, Nat.le_of_ble_eq_true rfl⟩) (xPS0 hN hK) rfl rfl hl.1 rfl (lv_room (Nat.le_of_ble_eq_true rfl)) dX7_isItem_239 ⟨Nat.le_of_ble_eq_true rfl, Nat.le_of_ble_eq_true rfl⟩) hP hD hS hA (fun r239 u239 H locs hw hP hD hS => ?_)
            replace he := he.trans (xbd_some hw)
            refine lv_if_ne (tgt := 247) hx hb dX7_isItem_242 (by decide) (fun c37 => ?_) (fun c37 => ?_)
            · replace he := he.trans (if_neg c37)
              refine lv_aload_n hx hb dX7_isItem_247 rfl (lv_at hl 1 rfl) ?_
              refine va_get (D := D) (ci := 7) (v := .ref (mor 6)) (C := RX7) (T := TX7) (N := 35) hx hb hts hi_X7_isItem_7 hown hK hP 0 wM_0 rfl 6 (by decide) (hts (.fieldLink RX7 19 "BlindLanternsModel" "readOil" "[I") (List.mem_of_getElem? (i := 6) rfl)) (fun _ h9 => h9) xMf_6 dX7_isItem_248 ?_
              refine lv_aload_n hx hb dX7_isItem_251 rfl (lv_at hl 1 rfl) ?_
              refine va_get (D := D) (ci := 7) (v := .ref (mor 3)) (C := RX7) (T := TX7) (N := 35) hx hb hts hi_X7_isItem_7 hown hK hP 0 wM_0 rfl 3 (by decide) (hts (.fieldLink RX7 13 "BlindLanternsModel" "number" "[I") (List.mem_of_getElem? (i := 3) rfl)) (fun _ h9 => h9) xMf_3 dX7_isItem_252 ?_
              refine lv_iconst (v := 0) hx hb dX7_isItem_255 (by decide) ?_
              refine va_iald hx hb hK hP 2 0 wM_a3 rfl (x_in rfl) dX7_isItem_256 ?_
              refine lv_aload_n hx hb dX7_isItem_257 rfl (lv_at hl 1 rfl) ?_
              refine va_get (D := D) (ci := 7) (v := .ref (mor 3)) (C := RX7) (T := TX7) (N := 35) hx hb hts hi_X7_isItem_7 hown hK hP 0 wM_0 rfl 3 (by decide) (hts (.fieldLink RX7 13 "BlindLanternsModel" "number" "[I") (List.mem_of_getElem? (i := 3) rfl)) (fun _ h9 => h9) xMf_3 dX7_isItem_258 ?_
              refine lv_iconst (v := 1) hx hb dX7_isItem_261 (by decide) ?_
              refine va_iald hx hb hK hP 2 0 wM_a3 rfl (x_in rfl) dX7_isItem_262 ?_
              by_cases g38 : (u190.2 (0 : Int32).toNatClampNeg) < 0 ∨ 6 ≤ (u190.2 (0 : Int32).toNatClampNeg).toNatClampNeg
              · exact absurd (he.trans (if_pos g38)) hne
              replace he := he.trans (if_neg g38)
              refine va_iast hx hb hK hP hD hS 4 0 wM_a6 rfl g38 dX7_isItem_263 (fun H locs hP hD hS => ?_)
              rw [wM_s6] at hP hD
              refine lv_aload_n hx hb dX7_isItem_264 rfl (lv_at hl 1 rfl) ?_
              refine va_get (D := D) (ci := 7) (v := .ref (mor 7)) (C := RX7) (T := TX7) (N := 35) hx hb hts hi_X7_isItem_7 hown hK hP 0 wM_0 rfl 7 (by decide) (hts (.fieldLink RX7 22 "BlindLanternsModel" "readLit" "[I") (List.mem_of_getElem? (i := 7) rfl)) (fun _ h9 => h9) xMf_7 dX7_isItem_265 ?_
              refine lv_aload_n hx hb dX7_isItem_268 rfl (lv_at hl 1 rfl) ?_
              refine va_get (D := D) (ci := 7) (v := .ref (mor 3)) (C := RX7) (T := TX7) (N := 35) hx hb hts hi_X7_isItem_7 hown hK hP 0 wM_0 rfl 3 (by decide) (hts (.fieldLink RX7 13 "BlindLanternsModel" "number" "[I") (List.mem_of_getElem? (i := 3) rfl)) (fun _ h9 => h9) xMf_3 dX7_isItem_269 ?_
              refine lv_iconst (v := 0) hx hb dX7_isItem_272 (by decide) ?_
              refine va_iald hx hb hK hP 2 0 wM_a3 rfl (x_in rfl) dX7_isItem_273 ?_
              refine lv_aload_n hx hb dX7_isItem_274 rfl (lv_at hl 1 rfl) ?_
              refine va_get (D := D) (ci := 7) (v := .ref (mor 3)) (C := RX7) (T := TX7) (N := 35) hx hb hts hi_X7_isItem_7 hown hK hP 0 wM_0 rfl 3 (by decide) (hts (.fieldLink RX7 13 "BlindLanternsModel" "number" "[I") (List.mem_of_getElem? (i := 3) rfl)) (fun _ h9 => h9) xMf_3 dX7_isItem_275 ?_
              refine lv_iconst (v := 2) hx hb dX7_isItem_278 (by decide) ?_
              refine va_iald hx hb hK hP 2 0 wM_a3 rfl (x_in rfl) dX7_isItem_279 ?_
              by_cases g39 : (u190.2 (0 : Int32).toNatClampNeg) < 0 ∨ 6 ≤ (u190.2 (0 : Int32).toNatClampNeg).toNatClampNeg
              · exact absurd (he.trans (if_pos g39)) hne
              replace he := he.trans (if_neg g39)
              refine va_iast hx hb hK hP hD hS 5 0 wM_a7 rfl g39 dX7_isItem_280 (fun H locs hP hD hS => ?_)
              rw [wM_s7] at hP hD
              refine lv_iconst (v := 1) hx hb dX7_isItem_281 (by decide) ?_
              exact hret (1 : Int32) (u190.1, moi_4, moi_8, moi_9, moi_11, moi_12, u190.2, mok_5, (upd mok_6 (u190.2 (0 : Int32).toNatClampNeg).toNatClampNeg (u190.2 (1 : Int32).toNatClampNeg)), (upd mok_7 (u190.2 (0 : Int32).toNatClampNeg).toNatClampNeg (u190.2 (2 : Int32).toNatClampNeg)), mok_10) _ _ _ _ dX7_isItem_282 (Or.inr rfl) he hP hD hS
            · replace he := he.trans (if_pos c37)
              refine lv_iconst (v := 0) hx hb dX7_isItem_245 (by decide) ?_
              exact hret (0 : Int32) (u190.1, moi_4, moi_8, moi_9, moi_11, moi_12, u190.2, mok_5, mok_6, mok_7, mok_10) _ _ _ _ dX7_isItem_246 (Or.inl rfl) he hP hD hS
  replace he := he.trans (if_neg k21_3)
  by_cases k21_4 : (mok_1 moi_2.toNatClampNeg) = (115 : Int32)
  · replace he := he.trans (if_pos k21_4)
    refine lv_tableIn hx hb dX7_isItem_21 (off := 305) (tgt := 326) (by rw [k21_4]; decide) (by rw [k21_4]; decide) (by rw [k21_4]; rfl) (by decide) ?_
    refine lv_aload_n hx hb dX7_isItem_326 rfl (lv_at hl 1 rfl) ?_
    refine lv_iconst (v := 1) hx hb dX7_isItem_327 (by decide) ?_
    have n40_ : fX7_areNumbers F moi_0 (moi_2 + (1 : Int32)) mok_1 mok_3 (1 : Int32) ≠ none := fun z => hne (he.trans (xbd2_none z))
    refine xciW (va_runV (As := [.int (1 : Int32)]) (rest := []) ⟨hx, hb, hml, hown, hts⟩ (c_X7_areNumbers l D cI cP H.size mo mor moi_0 (moi_2 + (1 : Int32)) moi_4 moi_8 moi_9 moi_11 moi_12 moi_13 moi_17 moi_18 moi_20 moi_21 moi_24 moi_26 moi_28 moi_30 moi_31 moi_32 mok_1 mok_3 mok_5 mok_6 mok_7 mok_10 mok_14 mok_15 mok_16 mok_19 mok_22 mok_23 mok_25 mok_27 mok_29 mok_33 mok_34 F (1 : Int32) n40_) (cwV 1 hts gX7_isItem_X7_areNumbers rfl rfl rfl (by decide +kernel) ⟨Nat.le_of_ble_eq_true rfl, Nat.le_of_ble_eq_true rfl⟩) (xPVW hN hK hP hD (ci := 7) (j := 0) rfl wM_0) rfl rfl hl.1 rfl (lv_room (Nat.le_of_ble_eq_true rfl)) dX7_isItem_328 ⟨Nat.le_of_ble_eq_true rfl, Nat.le_of_ble_eq_true rfl⟩) hD hS hA (fun r328 u328 H locs hw hP hD hS => ?_)
    have hP : va_P D vwCl (wM cI mo mor moi_0 u328.1 moi_4 moi_8 moi_9 moi_11 moi_12 moi_13 moi_17 moi_18 moi_20 moi_21 moi_24 moi_26 moi_28 moi_30 moi_31 moi_32 mok_1 u328.2 mok_5 mok_6 mok_7 mok_10 mok_14 mok_15 mok_16 mok_19 mok_22 mok_23 mok_25 mok_27 mok_29 mok_33 mok_34) H := hP
    have hD : va_D A (wM cI mo mor moi_0 u328.1 moi_4 moi_8 moi_9 moi_11 moi_12 moi_13 moi_17 moi_18 moi_20 moi_21 moi_24 moi_26 moi_28 moi_30 moi_31 moi_32 mok_1 u328.2 mok_5 mok_6 mok_7 mok_10 mok_14 mok_15 mok_16 mok_19 mok_22 mok_23 mok_25 mok_27 mok_29 mok_33 mok_34) := hD
    replace he := he.trans (xbd2_some hw)
    refine lv_if_eq (tgt := 348) hx hb dX7_isItem_331 (by decide) (fun c41 => ?_) (fun c41 => ?_)
    · replace he := he.trans (if_pos c41)
      refine lv_iconst (v := 0) hx hb dX7_isItem_348 (by decide) ?_
      exact hret (0 : Int32) (u328.1, moi_4, moi_8, moi_9, moi_11, moi_12, u328.2, mok_5, mok_6, mok_7, mok_10) _ _ _ _ dX7_isItem_349 (Or.inl rfl) he hP hD hS
    · replace he := he.trans (if_neg c41)
      refine lv_aload_n hx hb dX7_isItem_334 rfl (lv_at hl 1 rfl) ?_
      refine va_get (D := D) (ci := 7) (v := .ref (mor 3)) (C := RX7) (T := TX7) (N := 35) hx hb hts hi_X7_isItem_7 hown hK hP 0 wM_0 rfl 3 (by decide) (hts (.fieldLink RX7 13 "BlindLanternsModel" "number" "[I") (List.mem_of_getElem? (i := 3) rfl)) (fun _ h9 => h9) xMf_3 dX7_isItem_335 ?_
      refine lv_iconst (v := 0) hx hb dX7_isItem_338 (by decide) ?_
      refine va_iald hx hb hK hP 2 0 wM_a3 rfl (x_in rfl) dX7_isItem_339 ?_
      refine lv_iconst (v := 0) hx hb dX7_isItem_340 (by decide) ?_
      refine lv_iconst (v := 5) hx hb dX7_isItem_341 (by decide) ?_
      have n42_ : fX7_in (u328.2 (0 : Int32).toNatClampNeg) (0 : Int32) (5 : Int32) ≠ none := fun z => hne (he.trans (xbd_none z))
      refine xci0 (va_runS (As := [.int (u328.2 (0 : Int32).toNatClampNeg), .int (0 : Int32), .int (5 : Int32)]) (rest := []) ⟨hx, hb, hml, hown, hts⟩ (c_X7_in l D cI cP H.size  (u328.2 (0 : Int32).toNatClampNeg) (0 : Int32) (5 : Int32) n42_) (va_cwS 3 hts gX7_isItem_X7_in rfl rfl rfl (by decide +kernel) ⟨Nat.le_of_ble_eq_true rfl, Nat.le_of_ble_eq_true rfl⟩) (xPS0 hN hK) rfl rfl hl.1 rfl (lv_room (Nat.le_of_ble_eq_true rfl)) dX7_isItem_342 ⟨Nat.le_of_ble_eq_true rfl, Nat.le_of_ble_eq_true rfl⟩) hP hD hS hA (fun r342 u342 H locs hw hP hD hS => ?_)
      replace he := he.trans (xbd_some hw)
      refine lv_if_ne (tgt := 350) hx hb dX7_isItem_345 (by decide) (fun c43 => ?_) (fun c43 => ?_)
      · replace he := he.trans (if_neg c43)
        refine lv_aload_n hx hb dX7_isItem_350 rfl (lv_at hl 1 rfl) ?_
        refine lv_aload_n hx hb dX7_isItem_351 rfl (lv_at hl 1 rfl) ?_
        refine va_get (D := D) (ci := 7) (v := .ref (mor 3)) (C := RX7) (T := TX7) (N := 35) hx hb hts hi_X7_isItem_7 hown hK hP 0 wM_0 rfl 3 (by decide) (hts (.fieldLink RX7 13 "BlindLanternsModel" "number" "[I") (List.mem_of_getElem? (i := 3) rfl)) (fun _ h9 => h9) xMf_3 dX7_isItem_352 ?_
        refine lv_iconst (v := 0) hx hb dX7_isItem_355 (by decide) ?_
        refine va_iald hx hb hK hP 2 0 wM_a3 rfl (x_in rfl) dX7_isItem_356 ?_
        refine va_put (D := D) (ci := 7) (v := .int (u328.2 (0 : Int32).toNatClampNeg)) (ty := .int) (C := RX7) (T := TX7) (N := 35) hx hb hts hi_X7_isItem_7 tyX7 tyX7_ok nmX7 hown hK hP hD hS 0 wM_0 rfl 8 (by decide) (hts (.fieldLink RX7 107 "BlindLanternsModel" "readOn" "I") (List.mem_of_getElem? (i := 8) rfl)) (fun _ h9 => h9) rfl (by decide +kernel) rfl rfl (Nat.le_of_ble_eq_true rfl) dX7_isItem_357 (fun H locs hP hD hS => ?_)
        rw [wM_p8] at hP hD
        refine lv_iconst (v := 1) hx hb dX7_isItem_360 (by decide) ?_
        exact hret (1 : Int32) (u328.1, moi_4, (u328.2 (0 : Int32).toNatClampNeg), moi_9, moi_11, moi_12, u328.2, mok_5, mok_6, mok_7, mok_10) _ _ _ _ dX7_isItem_361 (Or.inr rfl) he hP hD hS
      · replace he := he.trans (if_pos c43)
        refine lv_iconst (v := 0) hx hb dX7_isItem_348 (by decide) ?_
        exact hret (0 : Int32) (u328.1, moi_4, moi_8, moi_9, moi_11, moi_12, u328.2, mok_5, mok_6, mok_7, mok_10) _ _ _ _ dX7_isItem_349 (Or.inl rfl) he hP hD hS
  replace he := he.trans (if_neg k21_4)
  by_cases k21_5 : (mok_1 moi_2.toNatClampNeg) = (117 : Int32)
  · replace he := he.trans (if_pos k21_5)
    refine lv_tableIn hx hb dX7_isItem_21 (off := 437) (tgt := 458) (by rw [k21_5]; decide) (by rw [k21_5]; decide) (by rw [k21_5]; rfl) (by decide) ?_
    refine lv_aload_n hx hb dX7_isItem_458 rfl (lv_at hl 1 rfl) ?_
    refine lv_iconst (v := 2) hx hb dX7_isItem_459 (by decide) ?_
    have n44_ : fX7_areNumbers F moi_0 (moi_2 + (1 : Int32)) mok_1 mok_3 (2 : Int32) ≠ none := fun z => hne (he.trans (xbd2_none z))
    refine xciW (va_runV (As := [.int (2 : Int32)]) (rest := []) ⟨hx, hb, hml, hown, hts⟩ (c_X7_areNumbers l D cI cP H.size mo mor moi_0 (moi_2 + (1 : Int32)) moi_4 moi_8 moi_9 moi_11 moi_12 moi_13 moi_17 moi_18 moi_20 moi_21 moi_24 moi_26 moi_28 moi_30 moi_31 moi_32 mok_1 mok_3 mok_5 mok_6 mok_7 mok_10 mok_14 mok_15 mok_16 mok_19 mok_22 mok_23 mok_25 mok_27 mok_29 mok_33 mok_34 F (2 : Int32) n44_) (cwV 1 hts gX7_isItem_X7_areNumbers rfl rfl rfl (by decide +kernel) ⟨Nat.le_of_ble_eq_true rfl, Nat.le_of_ble_eq_true rfl⟩) (xPVW hN hK hP hD (ci := 7) (j := 0) rfl wM_0) rfl rfl hl.1 rfl (lv_room (Nat.le_of_ble_eq_true rfl)) dX7_isItem_460 ⟨Nat.le_of_ble_eq_true rfl, Nat.le_of_ble_eq_true rfl⟩) hD hS hA (fun r460 u460 H locs hw hP hD hS => ?_)
    have hP : va_P D vwCl (wM cI mo mor moi_0 u460.1 moi_4 moi_8 moi_9 moi_11 moi_12 moi_13 moi_17 moi_18 moi_20 moi_21 moi_24 moi_26 moi_28 moi_30 moi_31 moi_32 mok_1 u460.2 mok_5 mok_6 mok_7 mok_10 mok_14 mok_15 mok_16 mok_19 mok_22 mok_23 mok_25 mok_27 mok_29 mok_33 mok_34) H := hP
    have hD : va_D A (wM cI mo mor moi_0 u460.1 moi_4 moi_8 moi_9 moi_11 moi_12 moi_13 moi_17 moi_18 moi_20 moi_21 moi_24 moi_26 moi_28 moi_30 moi_31 moi_32 mok_1 u460.2 mok_5 mok_6 mok_7 mok_10 mok_14 mok_15 mok_16 mok_19 mok_22 mok_23 mok_25 mok_27 mok_29 mok_33 mok_34) := hD
    replace he := he.trans (xbd2_some hw)
    refine lv_if_eq (tgt := 500) hx hb dX7_isItem_463 (by decide) (fun c45 => ?_) (fun c45 => ?_)
    · replace he := he.trans (if_pos c45)
      refine lv_iconst (v := 0) hx hb dX7_isItem_500 (by decide) ?_
      exact hret (0 : Int32) (u460.1, moi_4, moi_8, moi_9, moi_11, moi_12, u460.2, mok_5, mok_6, mok_7, mok_10) _ _ _ _ dX7_isItem_501 (Or.inl rfl) he hP hD hS
    · replace he := he.trans (if_neg c45)
      refine lv_aload_n hx hb dX7_isItem_466 rfl (lv_at hl 1 rfl) ?_
      refine va_get (D := D) (ci := 7) (v := .ref (mor 3)) (C := RX7) (T := TX7) (N := 35) hx hb hts hi_X7_isItem_7 hown hK hP 0 wM_0 rfl 3 (by decide) (hts (.fieldLink RX7 13 "BlindLanternsModel" "number" "[I") (List.mem_of_getElem? (i := 3) rfl)) (fun _ h9 => h9) xMf_3 dX7_isItem_467 ?_
      refine lv_iconst (v := 1) hx hb dX7_isItem_470 (by decide) ?_
      refine va_iald hx hb hK hP 2 0 wM_a3 rfl (x_in rfl) dX7_isItem_471 ?_
      refine lv_iconst (v := 0) hx hb dX7_isItem_472 (by decide) ?_
      refine lv_bipush (v := 60) hx hb dX7_isItem_473 (by decide) ?_
      have n46_ : fX7_in (u460.2 (1 : Int32).toNatClampNeg) (0 : Int32) (60 : Int32) ≠ none := fun z => hne (he.trans (xbd_none z))
      refine xci0 (va_runS (As := [.int (u460.2 (1 : Int32).toNatClampNeg), .int (0 : Int32), .int (60 : Int32)]) (rest := []) ⟨hx, hb, hml, hown, hts⟩ (c_X7_in l D cI cP H.size  (u460.2 (1 : Int32).toNatClampNeg) (0 : Int32) (60 : Int32) n46_) (va_cwS 3 hts gX7_isItem_X7_in rfl rfl rfl (by decide +kernel) ⟨Nat.le_of_ble_eq_true rfl, Nat.le_of_ble_eq_true rfl⟩) (xPS0 hN hK) rfl rfl hl.1 rfl (lv_room (Nat.le_of_ble_eq_true rfl)) dX7_isItem_475 ⟨Nat.le_of_ble_eq_true rfl, Nat.le_of_ble_eq_true rfl⟩) hP hD hS hA (fun r475 u475 H locs hw hP hD hS => ?_)
      replace he := he.trans (xbd_some hw)
      refine lv_if_eq (tgt := 500) hx hb dX7_isItem_478 (by decide) (fun c47 => ?_) (fun c47 => ?_)
      · replace he := he.trans (if_pos c47)
        refine lv_iconst (v := 0) hx hb dX7_isItem_500 (by decide) ?_
        exact hret (0 : Int32) (u460.1, moi_4, moi_8, moi_9, moi_11, moi_12, u460.2, mok_5, mok_6, mok_7, mok_10) _ _ _ _ dX7_isItem_501 (Or.inl rfl) he hP hD hS
      · replace he := he.trans (if_neg c47)
        refine lv_aload_n hx hb dX7_isItem_481 rfl (lv_at hl 1 rfl) ?_
        refine va_get (D := D) (ci := 7) (v := .ref (mor 3)) (C := RX7) (T := TX7) (N := 35) hx hb hts hi_X7_isItem_7 hown hK hP 0 wM_0 rfl 3 (by decide) (hts (.fieldLink RX7 13 "BlindLanternsModel" "number" "[I") (List.mem_of_getElem? (i := 3) rfl)) (fun _ h9 => h9) xMf_3 dX7_isItem_482 ?_
        refine lv_iconst (v := 0) hx hb dX7_isItem_485 (by decide) ?_
        refine va_iald hx hb hK hP 2 0 wM_a3 rfl (x_in rfl) dX7_isItem_486 ?_
        refine lv_iconst (v := 0) hx hb dX7_isItem_487 (by decide) ?_
        refine lv_aload_n hx hb dX7_isItem_488 rfl (lv_at hl 1 rfl) ?_
        refine va_get (D := D) (ci := 7) (v := .ref (mor 3)) (C := RX7) (T := TX7) (N := 35) hx hb hts hi_X7_isItem_7 hown hK hP 0 wM_0 rfl 3 (by decide) (hts (.fieldLink RX7 13 "BlindLanternsModel" "number" "[I") (List.mem_of_getElem? (i := 3) rfl)) (fun _ h9 => h9) xMf_3 dX7_isItem_489 ?_
        refine lv_iconst (v := 1) hx hb dX7_isItem_492 (by decide) ?_
        refine va_iald hx hb hK hP 2 0 wM_a3 rfl (x_in rfl) dX7_isItem_493 ?_
        have n48_ : fX7_in (u460.2 (0 : Int32).toNatClampNeg) (0 : Int32) (u460.2 (1 : Int32).toNatClampNeg) ≠ none := fun z => hne (he.trans (xbd_none z))
        refine xci0 (va_runS (As := [.int (u460.2 (0 : Int32).toNatClampNeg), .int (0 : Int32), .int (u460.2 (1 : Int32).toNatClampNeg)]) (rest := []) ⟨hx, hb, hml, hown, hts⟩ (c_X7_in l D cI cP H.size  (u460.2 (0 : Int32).toNatClampNeg) (0 : Int32) (u460.2 (1 : Int32).toNatClampNeg) n48_) (va_cwS 3 hts gX7_isItem_X7_in rfl rfl rfl (by decide +kernel) ⟨Nat.le_of_ble_eq_true rfl, Nat.le_of_ble_eq_true rfl⟩) (xPS0 hN hK) rfl rfl hl.1 rfl (lv_room (Nat.le_of_ble_eq_true rfl)) dX7_isItem_494 ⟨Nat.le_of_ble_eq_true rfl, Nat.le_of_ble_eq_true rfl⟩) hP hD hS hA (fun r494 u494 H locs hw hP hD hS => ?_)
        replace he := he.trans (xbd_some hw)
        refine lv_if_ne (tgt := 502) hx hb dX7_isItem_497 (by decide) (fun c49 => ?_) (fun c49 => ?_)
        · replace he := he.trans (if_neg c49)
          refine lv_aload_n hx hb dX7_isItem_502 rfl (lv_at hl 1 rfl) ?_
          refine lv_aload_n hx hb dX7_isItem_503 rfl (lv_at hl 1 rfl) ?_
          refine va_get (D := D) (ci := 7) (v := .ref (mor 3)) (C := RX7) (T := TX7) (N := 35) hx hb hts hi_X7_isItem_7 hown hK hP 0 wM_0 rfl 3 (by decide) (hts (.fieldLink RX7 13 "BlindLanternsModel" "number" "[I") (List.mem_of_getElem? (i := 3) rfl)) (fun _ h9 => h9) xMf_3 dX7_isItem_504 ?_
          refine lv_iconst (v := 0) hx hb dX7_isItem_507 (by decide) ?_
          refine va_iald hx hb hK hP 2 0 wM_a3 rfl (x_in rfl) dX7_isItem_508 ?_
          refine va_put (D := D) (ci := 7) (v := .int (u460.2 (0 : Int32).toNatClampNeg)) (ty := .int) (C := RX7) (T := TX7) (N := 35) hx hb hts hi_X7_isItem_7 tyX7 tyX7_ok nmX7 hown hK hP hD hS 0 wM_0 rfl 11 (by decide) (hts (.fieldLink RX7 113 "BlindLanternsModel" "readSun" "I") (List.mem_of_getElem? (i := 11) rfl)) (fun _ h9 => h9) rfl (by decide +kernel) rfl rfl (Nat.le_of_ble_eq_true rfl) dX7_isItem_509 (fun H locs hP hD hS => ?_)
          rw [wM_p11] at hP hD
          refine lv_aload_n hx hb dX7_isItem_512 rfl (lv_at hl 1 rfl) ?_
          refine lv_aload_n hx hb dX7_isItem_513 rfl (lv_at hl 1 rfl) ?_
          refine va_get (D := D) (ci := 7) (v := .ref (mor 3)) (C := RX7) (T := TX7) (N := 35) hx hb hts hi_X7_isItem_7 hown hK hP 0 wM_0 rfl 3 (by decide) (hts (.fieldLink RX7 13 "BlindLanternsModel" "number" "[I") (List.mem_of_getElem? (i := 3) rfl)) (fun _ h9 => h9) xMf_3 dX7_isItem_514 ?_
          refine lv_iconst (v := 1) hx hb dX7_isItem_517 (by decide) ?_
          refine va_iald hx hb hK hP 2 0 wM_a3 rfl (x_in rfl) dX7_isItem_518 ?_
          refine va_put (D := D) (ci := 7) (v := .int (u460.2 (1 : Int32).toNatClampNeg)) (ty := .int) (C := RX7) (T := TX7) (N := 35) hx hb hts hi_X7_isItem_7 tyX7 tyX7_ok nmX7 hown hK hP hD hS 0 wM_0 rfl 12 (by decide) (hts (.fieldLink RX7 116 "BlindLanternsModel" "readDark" "I") (List.mem_of_getElem? (i := 12) rfl)) (fun _ h9 => h9) rfl (by decide +kernel) rfl rfl (Nat.le_of_ble_eq_true rfl) dX7_isItem_519 (fun H locs hP hD hS => ?_)
          rw [wM_p12] at hP hD
          refine lv_iconst (v := 1) hx hb dX7_isItem_522 (by decide) ?_
          exact hret (1 : Int32) (u460.1, moi_4, moi_8, moi_9, (u460.2 (0 : Int32).toNatClampNeg), (u460.2 (1 : Int32).toNatClampNeg), u460.2, mok_5, mok_6, mok_7, mok_10) _ _ _ _ dX7_isItem_523 (Or.inr rfl) he hP hD hS
        · replace he := he.trans (if_pos c49)
          refine lv_iconst (v := 0) hx hb dX7_isItem_500 (by decide) ?_
          exact hret (0 : Int32) (u460.1, moi_4, moi_8, moi_9, moi_11, moi_12, u460.2, mok_5, mok_6, mok_7, mok_10) _ _ _ _ dX7_isItem_501 (Or.inl rfl) he hP hD hS
  replace he := he.trans (if_neg k21_5)
  have t21_0 := lv_neT (a := 100) k21_0 rfl
  have t21_1 := lv_neT (a := 101) k21_1 rfl
  have t21_2 := lv_neT (a := 109) k21_2 rfl
  have t21_3 := lv_neT (a := 111) k21_3 rfl
  have t21_4 := lv_neT (a := 115) k21_4 rfl
  have t21_5 := lv_neT (a := 117) k21_5 rfl
  have ko21 : ((mok_1 moi_2.toNatClampNeg)).toInt < 100 ∨ 117 < ((mok_1 moi_2.toNatClampNeg)).toInt ∨ ((mok_1 moi_2.toNatClampNeg)).toInt = 102 ∨ ((mok_1 moi_2.toNatClampNeg)).toInt = 103 ∨ ((mok_1 moi_2.toNatClampNeg)).toInt = 104 ∨ ((mok_1 moi_2.toNatClampNeg)).toInt = 105 ∨ ((mok_1 moi_2.toNatClampNeg)).toInt = 106 ∨ ((mok_1 moi_2.toNatClampNeg)).toInt = 107 ∨ ((mok_1 moi_2.toNatClampNeg)).toInt = 108 ∨ ((mok_1 moi_2.toNatClampNeg)).toInt = 110 ∨ ((mok_1 moi_2.toNatClampNeg)).toInt = 112 ∨ ((mok_1 moi_2.toNatClampNeg)).toInt = 113 ∨ ((mok_1 moi_2.toNatClampNeg)).toInt = 114 ∨ ((mok_1 moi_2.toNatClampNeg)).toInt = 116 := by omega
  have kw21 : W p l e ({ frames := 2, cells := 0, slots := 0, locals := 45 } : Room) s m args below meth c H locs 0 0 Q (F0 m 524 ls []) := by
    refine lv_iconst (v := 0) hx hb dX7_isItem_524 (by decide) ?_
    exact hret (0 : Int32) ((moi_2 + (1 : Int32)), moi_4, moi_8, moi_9, moi_11, moi_12, mok_3, mok_5, mok_6, mok_7, mok_10) _ _ _ _ dX7_isItem_525 (Or.inl rfl) he hP hD hS
  rcases ko21 with ko | ko | ko | ko | ko | ko | ko | ko | ko | ko | ko | ko | ko | ko
  · exact lv_tableOut hx hb dX7_isItem_21 (tgt := 524) (Or.inl ko) (by decide) kw21
  · exact lv_tableOut hx hb dX7_isItem_21 (tgt := 524) (Or.inr ko) (by decide) kw21
  · exact lv_tableIn hx hb dX7_isItem_21 (off := 503) (tgt := 524) (by omega) (by omega) (by rw [ko]; rfl) (by decide) kw21
  · exact lv_tableIn hx hb dX7_isItem_21 (off := 503) (tgt := 524) (by omega) (by omega) (by rw [ko]; rfl) (by decide) kw21
  · exact lv_tableIn hx hb dX7_isItem_21 (off := 503) (tgt := 524) (by omega) (by omega) (by rw [ko]; rfl) (by decide) kw21
  · exact lv_tableIn hx hb dX7_isItem_21 (off := 503) (tgt := 524) (by omega) (by omega) (by rw [ko]; rfl) (by decide) kw21
  · exact lv_tableIn hx hb dX7_isItem_21 (off := 503) (tgt := 524) (by omega) (by omega) (by rw [ko]; rfl) (by decide) kw21
  · exact lv_tableIn hx hb dX7_isItem_21 (off := 503) (tgt := 524) (by omega) (by omega) (by rw [ko]; rfl) (by decide) kw21
  · exact lv_tableIn hx hb dX7_isItem_21 (off := 503) (tgt := 524) (by omega) (by omega) (by rw [ko]; rfl) (by decide) kw21
  · exact lv_tableIn hx hb dX7_isItem_21 (off := 503) (tgt := 524) (by omega) (by omega) (by rw [ko]; rfl) (by decide) kw21
  · exact lv_tableIn hx hb dX7_isItem_21 (off := 503) (tgt := 524) (by omega) (by omega) (by rw [ko]; rfl) (by decide) kw21
  · exact lv_tableIn hx hb dX7_isItem_21 (off := 503) (tgt := 524) (by omega) (by omega) (by rw [ko]; rfl) (by decide) kw21
  · exact lv_tableIn hx hb dX7_isItem_21 (off := 503) (tgt := 524) (by omega) (by omega) (by rw [ko]; rfl) (by decide) kw21
  · exact lv_tableIn hx hb dX7_isItem_21 (off := 503) (tgt := 524) (by omega) (by omega) (by rw [ko]; rfl) (by decide) kw21

def fX7_findFault_L30 (moi_0 : Int32) (mok_1 : Nat → Int32) (F : Nat) (k30 : Int32 → Int32 → Int32 → Int32 → Int32 → Int32 → (Nat → Int32) → (Nat → Int32) → (Nat → Int32) → (Nat → Int32) → (Nat → Int32) → Option (Int32 × Int32 × Int32 × Int32 × Int32 × Int32 × Int32 × (Nat → Int32) × (Nat → Int32) × (Nat → Int32) × (Nat → Int32) × (Nat → Int32))) : Nat → Int32 → Int32 → Int32 → Int32 → Int32 → Int32 → (Nat → Int32) → (Nat → Int32) → (Nat → Int32) → (Nat → Int32) → (Nat → Int32) → Option (Int32 × Int32 × Int32 × Int32 × Int32 × Int32 × Int32 × (Nat → Int32) × (Nat → Int32) × (Nat → Int32) × (Nat → Int32) × (Nat → Int32))
  | 0, _, _, _, _, _, _, _, _, _, _, _ => none
  | n30 + 1, w30_moi_2, w30_moi_4, w30_moi_8, w30_moi_9, w30_moi_11, w30_moi_12, w30_mok_3, w30_mok_5, w30_mok_6, w30_mok_7, w30_mok_10 => if moi_0 ≤ w30_moi_2 then (k30 w30_moi_2 w30_moi_4 w30_moi_8 w30_moi_9 w30_moi_11 w30_moi_12 w30_mok_3 w30_mok_5 w30_mok_6 w30_mok_7 w30_mok_10) else (xbd2 (fX7_isItem F moi_0 w30_moi_2 w30_moi_4 w30_moi_8 w30_moi_9 w30_moi_11 w30_moi_12 mok_1 w30_mok_3 w30_mok_5 w30_mok_6 w30_mok_7 w30_mok_10) (fun (r47 : Int32) (u47 : Int32 × Int32 × Int32 × Int32 × Int32 × Int32 × (Nat → Int32) × (Nat → Int32) × (Nat → Int32) × (Nat → Int32) × (Nat → Int32)) => if r47 = 0 then (some (w30_moi_2, (u47.1, u47.2.1, u47.2.2.1, u47.2.2.2.1, u47.2.2.2.2.1, u47.2.2.2.2.2.1, u47.2.2.2.2.2.2.1, u47.2.2.2.2.2.2.2.1, u47.2.2.2.2.2.2.2.2.1, u47.2.2.2.2.2.2.2.2.2.1, u47.2.2.2.2.2.2.2.2.2.2))) else (fX7_findFault_L30 moi_0 mok_1 F k30 n30 u47.1 u47.2.1 u47.2.2.1 u47.2.2.2.1 u47.2.2.2.2.1 u47.2.2.2.2.2.1 u47.2.2.2.2.2.2.1 u47.2.2.2.2.2.2.2.1 u47.2.2.2.2.2.2.2.2.1 u47.2.2.2.2.2.2.2.2.2.1 u47.2.2.2.2.2.2.2.2.2.2)))
def fX7_findFault (F : Nat) (moi_0 : Int32) (mok_1 : Nat → Int32) (mok_3 : Nat → Int32) (mok_5 : Nat → Int32) (mok_6 : Nat → Int32) (mok_7 : Nat → Int32) (mok_10 : Nat → Int32) : Option (Int32 × Int32 × Int32 × Int32 × Int32 × Int32 × Int32 × (Nat → Int32) × (Nat → Int32) × (Nat → Int32) × (Nat → Int32) × (Nat → Int32)) :=
  fX7_findFault_L30 moi_0 mok_1 F (fun (w30_moi_2 : Int32) (w30_moi_4 : Int32) (w30_moi_8 : Int32) (w30_moi_9 : Int32) (w30_moi_11 : Int32) (w30_moi_12 : Int32) (w30_mok_3 : Nat → Int32) (w30_mok_5 : Nat → Int32) (w30_mok_6 : Nat → Int32) (w30_mok_7 : Nat → Int32) (w30_mok_10 : Nat → Int32) => some ((-4 : Int32), (w30_moi_2, w30_moi_4, w30_moi_8, w30_moi_9, w30_moi_11, w30_moi_12, w30_mok_3, w30_mok_5, w30_mok_6, w30_mok_7, w30_mok_10))) F (0 : Int32) (0 : Int32) (1 : Int32) (0 : Int32) (1 : Int32) (0 : Int32) mok_3 mok_5 mok_6 mok_7 mok_10
theorem hi_X7_findFault_7 : ∀ w ∈ wsX70, w ∈ wsX7_findFault := fun _ h => (List.mem_cons_of_mem _ (List.mem_append_right _ h))
set_option maxHeartbeats 4000000 in
set_option maxRecDepth 100000 in
theorem c_X7_findFault (l : Launch) (D : va_G) (cI cP : ClassId) (sz : Nat) (mo : Nat) (mor : Nat → Nat) (moi_0 : Int32) (moi_2 : Int32) (moi_4 : Int32) (moi_8 : Int32) (moi_9 : Int32) (moi_11 : Int32) (moi_12 : Int32) (moi_13 : Int32) (moi_17 : Int32) (moi_18 : Int32) (moi_20 : Int32) (moi_21 : Int32) (moi_24 : Int32) (moi_26 : Int32) (moi_28 : Int32) (moi_30 : Int32) (moi_31 : Int32) (moi_32 : Int32) (mok_1 : Nat → Int32) (mok_3 : Nat → Int32) (mok_5 : Nat → Int32) (mok_6 : Nat → Int32) (mok_7 : Nat → Int32) (mok_10 : Nat → Int32) (mok_14 : Nat → Int32) (mok_15 : Nat → Int32) (mok_16 : Nat → Int32) (mok_19 : Nat → Int32) (mok_22 : Nat → Int32) (mok_23 : Nat → Int32) (mok_25 : Nat → Int32) (mok_27 : Nat → Int32) (mok_29 : Nat → Int32) (mok_33 : Nat → Int32) (mok_34 : Nat → Int32) (F : Nat) (hne : fX7_findFault F moi_0 mok_1 mok_3 mok_5 mok_6 mok_7 mok_10 ≠ none) : xMi l yX7_findFault wsX7_findFault ({ frames := 3, cells := 0, slots := 0, locals := 66 } : Room) D (xT cI cP) [.ref mo] (wM cI mo mor moi_0 moi_2 moi_4 moi_8 moi_9 moi_11 moi_12 moi_13 moi_17 moi_18 moi_20 moi_21 moi_24 moi_26 moi_28 moi_30 moi_31 moi_32 mok_1 mok_3 mok_5 mok_6 mok_7 mok_10 mok_14 mok_15 mok_16 mok_19 mok_22 mok_23 mok_25 mok_27 mok_29 mok_33 mok_34) sz (fun r (u : (Int32 × Int32 × Int32 × Int32 × Int32 × Int32 × (Nat → Int32) × (Nat → Int32) × (Nat → Int32) × (Nat → Int32) × (Nat → Int32))) => fX7_findFault F moi_0 mok_1 mok_3 mok_5 mok_6 mok_7 mok_10 = some (r, u)) (fun u => wM cI mo mor moi_0 u.1 u.2.1 u.2.2.1 u.2.2.2.1 u.2.2.2.2.1 u.2.2.2.2.2.1 moi_13 moi_17 moi_18 moi_20 moi_21 moi_24 moi_26 moi_28 moi_30 moi_31 moi_32 mok_1 u.2.2.2.2.2.2.1 u.2.2.2.2.2.2.2.1 u.2.2.2.2.2.2.2.2.1 u.2.2.2.2.2.2.2.2.2.1 u.2.2.2.2.2.2.2.2.2.2 mok_14 mok_15 mok_16 mok_19 mok_22 mok_23 mok_25 mok_27 mok_29 mok_33 mok_34) 0 0 := by
  refine xMi_of (cc := cX7_findFault) (maxL := 2) (by decide +kernel) rfl (Nat.le_of_ble_eq_true rfl) ?_
  intro p e s m args below meth c A ls hx hb hml hown hts hname hN hK hA hP hD hS hl Q hret
  have he := fX7_findFault.eq_1 F moi_0 mok_1 mok_3 mok_5 mok_6 mok_7 mok_10
  have hl : lv_has ls 2 [(0, .ref mo)] := hl
  have R30_0 : ∀ (w30_moi_2 : Int32) (w30_moi_4 : Int32) (w30_moi_8 : Int32) (w30_moi_9 : Int32) (w30_moi_11 : Int32) (w30_moi_12 : Int32) (w30_mok_3 : Nat → Int32) (w30_mok_5 : Nat → Int32) (w30_mok_6 : Nat → Int32) (w30_mok_7 : Nat → Int32) (w30_mok_10 : Nat → Int32), fX7_findFault F moi_0 mok_1 mok_3 mok_5 mok_6 mok_7 mok_10 = (some ((-4 : Int32), (w30_moi_2, w30_moi_4, w30_moi_8, w30_moi_9, w30_moi_11, w30_moi_12, w30_mok_3, w30_mok_5, w30_mok_6, w30_mok_7, w30_mok_10))) → ∀ (H : Heap) (locs : List Loc) (ls : Array Slot), va_P D vwCl (wM cI mo mor moi_0 w30_moi_2 w30_moi_4 w30_moi_8 w30_moi_9 w30_moi_11 w30_moi_12 moi_13 moi_17 moi_18 moi_20 moi_21 moi_24 moi_26 moi_28 moi_30 moi_31 moi_32 mok_1 w30_mok_3 w30_mok_5 w30_mok_6 w30_mok_7 w30_mok_10 mok_14 mok_15 mok_16 mok_19 mok_22 mok_23 mok_25 mok_27 mok_29 mok_33 mok_34) H → va_D A (wM cI mo mor moi_0 w30_moi_2 w30_moi_4 w30_moi_8 w30_moi_9 w30_moi_11 w30_moi_12 moi_13 moi_17 moi_18 moi_20 moi_21 moi_24 moi_26 moi_28 moi_30 moi_31 moi_32 mok_1 w30_mok_3 w30_mok_5 w30_mok_6 w30_mok_7 w30_mok_10 mok_14 mok_15 mok_16 mok_19 mok_22 mok_23 mok_25 mok_27 mok_29 mok_33 mok_34) → va_S A s.heap H locs → lv_has ls 2 [] → W p l e ({ frames := 3, cells := 0, slots := 0, locals := 66 } : Room) s m args below meth c H locs 0 0 Q (F0 m 58 ls []) := by
    intro w30_moi_2 w30_moi_4 w30_moi_8 w30_moi_9 w30_moi_11 w30_moi_12 w30_mok_3 w30_mok_5 w30_mok_6 w30_mok_7 w30_mok_10 he H locs ls hP hD hS hl
    refine lv_bipush (v := -4) hx hb dX7_findFault_58 (by decide) ?_
    exact hret (-4 : Int32) (w30_moi_2, w30_moi_4, w30_moi_8, w30_moi_9, w30_moi_11, w30_moi_12, w30_mok_3, w30_mok_5, w30_mok_6, w30_mok_7, w30_mok_10) _ _ _ _ dX7_findFault_60 he hP hD hS
  have L30_4 : ∀ (n30 : Nat) (w30_moi_2 : Int32) (w30_moi_4 : Int32) (w30_moi_8 : Int32) (w30_moi_9 : Int32) (w30_moi_11 : Int32) (w30_moi_12 : Int32) (w30_mok_3 : Nat → Int32) (w30_mok_5 : Nat → Int32) (w30_mok_6 : Nat → Int32) (w30_mok_7 : Nat → Int32) (w30_mok_10 : Nat → Int32), fX7_findFault F moi_0 mok_1 mok_3 mok_5 mok_6 mok_7 mok_10 = fX7_findFault_L30 moi_0 mok_1 F (fun (w30_moi_2 : Int32) (w30_moi_4 : Int32) (w30_moi_8 : Int32) (w30_moi_9 : Int32) (w30_moi_11 : Int32) (w30_moi_12 : Int32) (w30_mok_3 : Nat → Int32) (w30_mok_5 : Nat → Int32) (w30_mok_6 : Nat → Int32) (w30_mok_7 : Nat → Int32) (w30_mok_10 : Nat → Int32) => some ((-4 : Int32), (w30_moi_2, w30_moi_4, w30_moi_8, w30_moi_9, w30_moi_11, w30_moi_12, w30_mok_3, w30_mok_5, w30_mok_6, w30_mok_7, w30_mok_10))) n30 w30_moi_2 w30_moi_4 w30_moi_8 w30_moi_9 w30_moi_11 w30_moi_12 w30_mok_3 w30_mok_5 w30_mok_6 w30_mok_7 w30_mok_10 → ∀ (H : Heap) (locs : List Loc) (ls : Array Slot), va_P D vwCl (wM cI mo mor moi_0 w30_moi_2 w30_moi_4 w30_moi_8 w30_moi_9 w30_moi_11 w30_moi_12 moi_13 moi_17 moi_18 moi_20 moi_21 moi_24 moi_26 moi_28 moi_30 moi_31 moi_32 mok_1 w30_mok_3 w30_mok_5 w30_mok_6 w30_mok_7 w30_mok_10 mok_14 mok_15 mok_16 mok_19 mok_22 mok_23 mok_25 mok_27 mok_29 mok_33 mok_34) H → va_D A (wM cI mo mor moi_0 w30_moi_2 w30_moi_4 w30_moi_8 w30_moi_9 w30_moi_11 w30_moi_12 moi_13 moi_17 moi_18 moi_20 moi_21 moi_24 moi_26 moi_28 moi_30 moi_31 moi_32 mok_1 w30_mok_3 w30_mok_5 w30_mok_6 w30_mok_7 w30_mok_10 mok_14 mok_15 mok_16 mok_19 mok_22 mok_23 mok_25 mok_27 mok_29 mok_33 mok_34) → va_S A s.heap H locs → lv_has ls 2 [(0, .ref mo)] → W p l e ({ frames := 3, cells := 0, slots := 0, locals := 66 } : Room) s m args below meth c H locs 0 0 Q (F0 m 30 ls []) := by
    intro n30
    induction n30 with
    | zero => intro w30_moi_2 w30_moi_4 w30_moi_8 w30_moi_9 w30_moi_11 w30_moi_12 w30_mok_3 w30_mok_5 w30_mok_6 w30_mok_7 w30_mok_10 he; exact absurd he hne
    | succ n30 ih30 =>
      intro w30_moi_2 w30_moi_4 w30_moi_8 w30_moi_9 w30_moi_11 w30_moi_12 w30_mok_3 w30_mok_5 w30_mok_6 w30_mok_7 w30_mok_10 he H locs ls hP hD hS hl
      replace he := he.trans (fX7_findFault_L30.eq_2 _ _ _ _ _ _ _ _ _ _ _ _ _ _ _ _)
      refine lv_aload_n hx hb dX7_findFault_30 rfl (lv_at hl 0 rfl) ?_
      refine va_get (D := D) (ci := 7) (v := .int w30_moi_2) (C := RX7) (T := TX7) (N := 35) hx hb hts hi_X7_findFault_7 hown hK hP 0 wM_0 rfl 2 (by decide) (hts (.fieldLink RX7 93 "BlindLanternsModel" "position" "I") (List.mem_of_getElem? (i := 1) rfl)) (fun _ h9 => h9) xMf_2 dX7_findFault_31 ?_
      refine lv_aload_n hx hb dX7_findFault_34 rfl (lv_at hl 0 rfl) ?_
      refine va_get (D := D) (ci := 7) (v := .int moi_0) (C := RX7) (T := TX7) (N := 35) hx hb hts hi_X7_findFault_7 hown hK hP 0 wM_0 rfl 0 (by decide) (hts (.fieldLink RX7 88 "BlindLanternsModel" "bytes" "I") (List.mem_of_getElem? (i := 7) rfl)) (fun _ h9 => h9) xMf_0 dX7_findFault_35 ?_
      refine lv_icmp_ge (tgt := 58) hx hb dX7_findFault_38 (by decide) (fun c1 => ?_) (fun c1 => ?_)
      · replace he := he.trans (if_pos c1)
        exact R30_0 w30_moi_2 w30_moi_4 w30_moi_8 w30_moi_9 w30_moi_11 w30_moi_12 w30_mok_3 w30_mok_5 w30_mok_6 w30_mok_7 w30_mok_10 he _ _ _ hP hD hS (lv_sub hl [] rfl)
      · replace he := he.trans (if_neg c1)
        refine lv_aload_n hx hb dX7_findFault_41 rfl (lv_at hl 0 rfl) ?_
        refine va_get (D := D) (ci := 7) (v := .int w30_moi_2) (C := RX7) (T := TX7) (N := 35) hx hb hts hi_X7_findFault_7 hown hK hP 0 wM_0 rfl 2 (by decide) (hts (.fieldLink RX7 93 "BlindLanternsModel" "position" "I") (List.mem_of_getElem? (i := 1) rfl)) (fun _ h9 => h9) xMf_2 dX7_findFault_42 ?_
        refine lv_istore_n (lv' := [(1, .int w30_moi_2), (0, .ref mo)]) hx hb dX7_findFault_45 rfl hl (by decide) rfl (fun ls hl => ?_)
        refine lv_aload_n hx hb dX7_findFault_46 rfl (lv_at hl 1 rfl) ?_
        have n2_ : fX7_isItem F moi_0 w30_moi_2 w30_moi_4 w30_moi_8 w30_moi_9 w30_moi_11 w30_moi_12 mok_1 w30_mok_3 w30_mok_5 w30_mok_6 w30_mok_7 w30_mok_10 ≠ none := fun z => hne (he.trans (xbd2_none z))
        refine xciW (va_runV (As := []) (rest := []) ⟨hx, hb, hml, hown, hts⟩ (c_X7_isItem l D cI cP H.size mo mor moi_0 w30_moi_2 w30_moi_4 w30_moi_8 w30_moi_9 w30_moi_11 w30_moi_12 moi_13 moi_17 moi_18 moi_20 moi_21 moi_24 moi_26 moi_28 moi_30 moi_31 moi_32 mok_1 w30_mok_3 w30_mok_5 w30_mok_6 w30_mok_7 w30_mok_10 mok_14 mok_15 mok_16 mok_19 mok_22 mok_23 mok_25 mok_27 mok_29 mok_33 mok_34 F  n2_) (cwV 0 hts gX7_findFault_X7_isItem rfl rfl rfl (by decide +kernel) ⟨Nat.le_of_ble_eq_true rfl, Nat.le_of_ble_eq_true rfl⟩) (xPVW hN hK hP hD (ci := 7) (j := 0) rfl wM_0) rfl rfl hl.1 rfl (lv_room (Nat.le_of_ble_eq_true rfl)) dX7_findFault_47 ⟨Nat.le_of_ble_eq_true rfl, Nat.le_of_ble_eq_true rfl⟩) hD hS hA (fun r47 u47 H locs hw hP hD hS => ?_)
        have hP : va_P D vwCl (wM cI mo mor moi_0 u47.1 u47.2.1 u47.2.2.1 u47.2.2.2.1 u47.2.2.2.2.1 u47.2.2.2.2.2.1 moi_13 moi_17 moi_18 moi_20 moi_21 moi_24 moi_26 moi_28 moi_30 moi_31 moi_32 mok_1 u47.2.2.2.2.2.2.1 u47.2.2.2.2.2.2.2.1 u47.2.2.2.2.2.2.2.2.1 u47.2.2.2.2.2.2.2.2.2.1 u47.2.2.2.2.2.2.2.2.2.2 mok_14 mok_15 mok_16 mok_19 mok_22 mok_23 mok_25 mok_27 mok_29 mok_33 mok_34) H := hP
        have hD : va_D A (wM cI mo mor moi_0 u47.1 u47.2.1 u47.2.2.1 u47.2.2.2.1 u47.2.2.2.2.1 u47.2.2.2.2.2.1 moi_13 moi_17 moi_18 moi_20 moi_21 moi_24 moi_26 moi_28 moi_30 moi_31 moi_32 mok_1 u47.2.2.2.2.2.2.1 u47.2.2.2.2.2.2.2.1 u47.2.2.2.2.2.2.2.2.1 u47.2.2.2.2.2.2.2.2.2.1 u47.2.2.2.2.2.2.2.2.2.2 mok_14 mok_15 mok_16 mok_19 mok_22 mok_23 mok_25 mok_27 mok_29 mok_33 mok_34) := hD
        replace he := he.trans (xbd2_some hw)
        refine lv_if_ne (tgt := 55) hx hb dX7_findFault_50 (by decide) (fun c3 => ?_) (fun c3 => ?_)
        · replace he := he.trans (if_neg c3)
          refine lv_goto (tgt := 30) hx hb dX7_findFault_55 (by decide) ?_
          exact ih30 u47.1 u47.2.1 u47.2.2.1 u47.2.2.2.1 u47.2.2.2.2.1 u47.2.2.2.2.2.1 u47.2.2.2.2.2.2.1 u47.2.2.2.2.2.2.2.1 u47.2.2.2.2.2.2.2.2.1 u47.2.2.2.2.2.2.2.2.2.1 u47.2.2.2.2.2.2.2.2.2.2 he _ _ _ hP hD hS (lv_sub hl [1] rfl)
        · replace he := he.trans (if_pos c3)
          refine lv_iload_n hx hb dX7_findFault_53 rfl (lv_at hl 0 rfl) ?_
          exact hret w30_moi_2 (u47.1, u47.2.1, u47.2.2.1, u47.2.2.2.1, u47.2.2.2.2.1, u47.2.2.2.2.2.1, u47.2.2.2.2.2.2.1, u47.2.2.2.2.2.2.2.1, u47.2.2.2.2.2.2.2.2.1, u47.2.2.2.2.2.2.2.2.2.1, u47.2.2.2.2.2.2.2.2.2.2) _ _ _ _ dX7_findFault_54 he hP hD hS
  refine lv_aload_n hx hb dX7_findFault_0 rfl (lv_at hl 0 rfl) ?_
  refine lv_iconst (v := 0) hx hb dX7_findFault_1 (by decide) ?_
  refine va_put (D := D) (ci := 7) (v := .int (0 : Int32)) (ty := .int) (C := RX7) (T := TX7) (N := 35) hx hb hts hi_X7_findFault_7 tyX7 tyX7_ok nmX7 hown hK hP hD hS 0 wM_0 rfl 2 (by decide) (hts (.fieldLink RX7 93 "BlindLanternsModel" "position" "I") (List.mem_of_getElem? (i := 1) rfl)) (fun _ h9 => h9) rfl (by decide +kernel) rfl rfl (Nat.le_of_ble_eq_true rfl) dX7_findFault_2 (fun H locs hP hD hS => ?_)
  rw [wM_p2] at hP hD
  refine lv_aload_n hx hb dX7_findFault_5 rfl (lv_at hl 0 rfl) ?_
  refine lv_iconst (v := 0) hx hb dX7_findFault_6 (by decide) ?_
  refine va_put (D := D) (ci := 7) (v := .int (0 : Int32)) (ty := .int) (C := RX7) (T := TX7) (N := 35) hx hb hts hi_X7_findFault_7 tyX7 tyX7_ok nmX7 hown hK hP hD hS 0 wM_0 rfl 4 (by decide) (hts (.fieldLink RX7 96 "BlindLanternsModel" "readMen" "I") (List.mem_of_getElem? (i := 2) rfl)) (fun _ h9 => h9) rfl (by decide +kernel) rfl rfl (Nat.le_of_ble_eq_true rfl) dX7_findFault_7 (fun H locs hP hD hS => ?_)
  rw [wM_p4] at hP hD
  refine lv_aload_n hx hb dX7_findFault_10 rfl (lv_at hl 0 rfl) ?_
  refine lv_iconst (v := 1) hx hb dX7_findFault_11 (by decide) ?_
  refine va_put (D := D) (ci := 7) (v := .int (1 : Int32)) (ty := .int) (C := RX7) (T := TX7) (N := 35) hx hb hts hi_X7_findFault_7 tyX7 tyX7_ok nmX7 hown hK hP hD hS 0 wM_0 rfl 8 (by decide) (hts (.fieldLink RX7 107 "BlindLanternsModel" "readOn" "I") (List.mem_of_getElem? (i := 3) rfl)) (fun _ h9 => h9) rfl (by decide +kernel) rfl rfl (Nat.le_of_ble_eq_true rfl) dX7_findFault_12 (fun H locs hP hD hS => ?_)
  rw [wM_p8] at hP hD
  refine lv_aload_n hx hb dX7_findFault_15 rfl (lv_at hl 0 rfl) ?_
  refine lv_iconst (v := 0) hx hb dX7_findFault_16 (by decide) ?_
  refine va_put (D := D) (ci := 7) (v := .int (0 : Int32)) (ty := .int) (C := RX7) (T := TX7) (N := 35) hx hb hts hi_X7_findFault_7 tyX7 tyX7_ok nmX7 hown hK hP hD hS 0 wM_0 rfl 9 (by decide) (hts (.fieldLink RX7 110 "BlindLanternsModel" "readDraughts" "I") (List.mem_of_getElem? (i := 4) rfl)) (fun _ h9 => h9) rfl (by decide +kernel) rfl rfl (Nat.le_of_ble_eq_true rfl) dX7_findFault_17 (fun H locs hP hD hS => ?_)
  rw [wM_p9] at hP hD
  refine lv_aload_n hx hb dX7_findFault_20 rfl (lv_at hl 0 rfl) ?_
  refine lv_iconst (v := 1) hx hb dX7_findFault_21 (by decide) ?_
  refine va_put (D := D) (ci := 7) (v := .int (1 : Int32)) (ty := .int) (C := RX7) (T := TX7) (N := 35) hx hb hts hi_X7_findFault_7 tyX7 tyX7_ok nmX7 hown hK hP hD hS 0 wM_0 rfl 11 (by decide) (hts (.fieldLink RX7 113 "BlindLanternsModel" "readSun" "I") (List.mem_of_getElem? (i := 5) rfl)) (fun _ h9 => h9) rfl (by decide +kernel) rfl rfl (Nat.le_of_ble_eq_true rfl) dX7_findFault_22 (fun H locs hP hD hS => ?_)
  rw [wM_p11] at hP hD
  refine lv_aload_n hx hb dX7_findFault_25 rfl (lv_at hl 0 rfl) ?_
  refine lv_iconst (v := 0) hx hb dX7_findFault_26 (by decide) ?_
  refine va_put (D := D) (ci := 7) (v := .int (0 : Int32)) (ty := .int) (C := RX7) (T := TX7) (N := 35) hx hb hts hi_X7_findFault_7 tyX7 tyX7_ok nmX7 hown hK hP hD hS 0 wM_0 rfl 12 (by decide) (hts (.fieldLink RX7 116 "BlindLanternsModel" "readDark" "I") (List.mem_of_getElem? (i := 6) rfl)) (fun _ h9 => h9) rfl (by decide +kernel) rfl rfl (Nat.le_of_ble_eq_true rfl) dX7_findFault_27 (fun H locs hP hD hS => ?_)
  rw [wM_p12] at hP hD
  exact L30_4 F (0 : Int32) (0 : Int32) (1 : Int32) (0 : Int32) (1 : Int32) (0 : Int32) mok_3 mok_5 mok_6 mok_7 mok_10 he _ _ _ hP hD hS (lv_sub hl [0] rfl)

def fX7_fault (F : Nat) (moi_0 : Int32) (mok_1 : Nat → Int32) (mok_3 : Nat → Int32) (mok_5 : Nat → Int32) (mok_6 : Nat → Int32) (mok_7 : Nat → Int32) (mok_10 : Nat → Int32) : Option (Int32 × Int32 × Int32 × Int32 × Int32 × Int32 × Int32 × (Nat → Int32) × (Nat → Int32) × (Nat → Int32) × (Nat → Int32) × (Nat → Int32)) :=
  xbd2 (fX7_findFault F moi_0 mok_1 mok_3 mok_5 mok_6 mok_7 mok_10) (fun (r1 : Int32) (u1 : Int32 × Int32 × Int32 × Int32 × Int32 × Int32 × (Nat → Int32) × (Nat → Int32) × (Nat → Int32) × (Nat → Int32) × (Nat → Int32)) => some (r1, (u1.1, u1.2.1, u1.2.2.1, u1.2.2.2.1, u1.2.2.2.2.1, u1.2.2.2.2.2.1, u1.2.2.2.2.2.2.1, u1.2.2.2.2.2.2.2.1, u1.2.2.2.2.2.2.2.2.1, u1.2.2.2.2.2.2.2.2.2.1, u1.2.2.2.2.2.2.2.2.2.2)))
set_option maxHeartbeats 4000000 in
set_option maxRecDepth 100000 in
theorem c_X7_fault (l : Launch) (D : va_G) (cI cP : ClassId) (sz : Nat) (mo : Nat) (mor : Nat → Nat) (moi_0 : Int32) (moi_2 : Int32) (moi_4 : Int32) (moi_8 : Int32) (moi_9 : Int32) (moi_11 : Int32) (moi_12 : Int32) (moi_13 : Int32) (moi_17 : Int32) (moi_18 : Int32) (moi_20 : Int32) (moi_21 : Int32) (moi_24 : Int32) (moi_26 : Int32) (moi_28 : Int32) (moi_30 : Int32) (moi_31 : Int32) (moi_32 : Int32) (mok_1 : Nat → Int32) (mok_3 : Nat → Int32) (mok_5 : Nat → Int32) (mok_6 : Nat → Int32) (mok_7 : Nat → Int32) (mok_10 : Nat → Int32) (mok_14 : Nat → Int32) (mok_15 : Nat → Int32) (mok_16 : Nat → Int32) (mok_19 : Nat → Int32) (mok_22 : Nat → Int32) (mok_23 : Nat → Int32) (mok_25 : Nat → Int32) (mok_27 : Nat → Int32) (mok_29 : Nat → Int32) (mok_33 : Nat → Int32) (mok_34 : Nat → Int32) (F : Nat) (hne : fX7_fault F moi_0 mok_1 mok_3 mok_5 mok_6 mok_7 mok_10 ≠ none) : xMi l yX7_fault wsX7_fault ({ frames := 4, cells := 0, slots := 0, locals := 87 } : Room) D (xT cI cP) [.ref mo] (wM cI mo mor moi_0 moi_2 moi_4 moi_8 moi_9 moi_11 moi_12 moi_13 moi_17 moi_18 moi_20 moi_21 moi_24 moi_26 moi_28 moi_30 moi_31 moi_32 mok_1 mok_3 mok_5 mok_6 mok_7 mok_10 mok_14 mok_15 mok_16 mok_19 mok_22 mok_23 mok_25 mok_27 mok_29 mok_33 mok_34) sz (fun r (u : (Int32 × Int32 × Int32 × Int32 × Int32 × Int32 × (Nat → Int32) × (Nat → Int32) × (Nat → Int32) × (Nat → Int32) × (Nat → Int32))) => fX7_fault F moi_0 mok_1 mok_3 mok_5 mok_6 mok_7 mok_10 = some (r, u)) (fun u => wM cI mo mor moi_0 u.1 u.2.1 u.2.2.1 u.2.2.2.1 u.2.2.2.2.1 u.2.2.2.2.2.1 moi_13 moi_17 moi_18 moi_20 moi_21 moi_24 moi_26 moi_28 moi_30 moi_31 moi_32 mok_1 u.2.2.2.2.2.2.1 u.2.2.2.2.2.2.2.1 u.2.2.2.2.2.2.2.2.1 u.2.2.2.2.2.2.2.2.2.1 u.2.2.2.2.2.2.2.2.2.2 mok_14 mok_15 mok_16 mok_19 mok_22 mok_23 mok_25 mok_27 mok_29 mok_33 mok_34) 0 0 := by
  refine xMi_of (cc := cX7_fault) (maxL := 1) (by decide +kernel) rfl (Nat.le_of_ble_eq_true rfl) ?_
  intro p e s m args below meth c A ls hx hb hml hown hts hname hN hK hA hP hD hS hl Q hret
  have he := fX7_fault.eq_1 F moi_0 mok_1 mok_3 mok_5 mok_6 mok_7 mok_10
  have hl : lv_has ls 1 [(0, .ref mo)] := hl
  refine lv_aload_n hx hb dX7_fault_0 rfl (lv_at hl 0 rfl) ?_
  have n1_ : fX7_findFault F moi_0 mok_1 mok_3 mok_5 mok_6 mok_7 mok_10 ≠ none := fun z => hne (he.trans (xbd2_none z))
  refine xciW (va_runV (As := []) (rest := []) ⟨hx, hb, hml, hown, hts⟩ (c_X7_findFault l D cI cP s.heap.size mo mor moi_0 moi_2 moi_4 moi_8 moi_9 moi_11 moi_12 moi_13 moi_17 moi_18 moi_20 moi_21 moi_24 moi_26 moi_28 moi_30 moi_31 moi_32 mok_1 mok_3 mok_5 mok_6 mok_7 mok_10 mok_14 mok_15 mok_16 mok_19 mok_22 mok_23 mok_25 mok_27 mok_29 mok_33 mok_34 F  n1_) (cwV 0 hts gX7_fault_X7_findFault rfl rfl rfl (by decide +kernel) ⟨Nat.le_of_ble_eq_true rfl, Nat.le_of_ble_eq_true rfl⟩) (xPVW hN hK hP hD (ci := 7) (j := 0) rfl wM_0) rfl rfl hl.1 rfl (lv_room (Nat.le_of_ble_eq_true rfl)) dX7_fault_1 ⟨Nat.le_of_ble_eq_true rfl, Nat.le_of_ble_eq_true rfl⟩) hD hS hA (fun r1 u1 H locs hw hP hD hS => ?_)
  have hP : va_P D vwCl (wM cI mo mor moi_0 u1.1 u1.2.1 u1.2.2.1 u1.2.2.2.1 u1.2.2.2.2.1 u1.2.2.2.2.2.1 moi_13 moi_17 moi_18 moi_20 moi_21 moi_24 moi_26 moi_28 moi_30 moi_31 moi_32 mok_1 u1.2.2.2.2.2.2.1 u1.2.2.2.2.2.2.2.1 u1.2.2.2.2.2.2.2.2.1 u1.2.2.2.2.2.2.2.2.2.1 u1.2.2.2.2.2.2.2.2.2.2 mok_14 mok_15 mok_16 mok_19 mok_22 mok_23 mok_25 mok_27 mok_29 mok_33 mok_34) H := hP
  have hD : va_D A (wM cI mo mor moi_0 u1.1 u1.2.1 u1.2.2.1 u1.2.2.2.1 u1.2.2.2.2.1 u1.2.2.2.2.2.1 moi_13 moi_17 moi_18 moi_20 moi_21 moi_24 moi_26 moi_28 moi_30 moi_31 moi_32 mok_1 u1.2.2.2.2.2.2.1 u1.2.2.2.2.2.2.2.1 u1.2.2.2.2.2.2.2.2.1 u1.2.2.2.2.2.2.2.2.2.1 u1.2.2.2.2.2.2.2.2.2.2 mok_14 mok_15 mok_16 mok_19 mok_22 mok_23 mok_25 mok_27 mok_29 mok_33 mok_34) := hD
  replace he := he.trans (xbd2_some hw)
  exact hret r1 (u1.1, u1.2.1, u1.2.2.1, u1.2.2.2.1, u1.2.2.2.2.1, u1.2.2.2.2.2.1, u1.2.2.2.2.2.2.1, u1.2.2.2.2.2.2.2.1, u1.2.2.2.2.2.2.2.2.1, u1.2.2.2.2.2.2.2.2.2.1, u1.2.2.2.2.2.2.2.2.2.2) _ _ _ _ dX7_fault_4 he hP hD hS

def fX7_lay_L173 (u1 : Int32 × Int32 × Int32 × Int32 × Int32 × Int32 × (Nat → Int32) × (Nat → Int32) × (Nat → Int32) × (Nat → Int32) × (Nat → Int32)) (k173 : Int32 → (Nat → Int32) → Option (Int32 × Int32 × Int32 × Int32 × Int32 × Int32 × Int32 × Int32 × Int32 × Int32 × Int32 × Int32 × Int32 × Int32 × Int32 × (Nat → Int32) × (Nat → Int32) × (Nat → Int32) × (Nat → Int32) × (Nat → Int32) × (Nat → Int32) × (Nat → Int32) × (Nat → Int32) × (Nat → Int32) × (Nat → Int32))) : Nat → Int32 → (Nat → Int32) → Option (Int32 × Int32 × Int32 × Int32 × Int32 × Int32 × Int32 × Int32 × Int32 × Int32 × Int32 × Int32 × Int32 × Int32 × Int32 × (Nat → Int32) × (Nat → Int32) × (Nat → Int32) × (Nat → Int32) × (Nat → Int32) × (Nat → Int32) × (Nat → Int32) × (Nat → Int32) × (Nat → Int32) × (Nat → Int32))
  | 0, _, _ => none
  | n173 + 1, v173_2, w173_mok_19 => if (12 : Int32) ≤ v173_2 then (k173 v173_2 w173_mok_19) else (if v173_2 < 0 ∨ 12 ≤ v173_2.toNatClampNeg then none else (if v173_2 < 0 ∨ 12 ≤ v173_2.toNatClampNeg then none else (fX7_lay_L173 u1 k173 n173 (v173_2 + 1) (upd w173_mok_19 v173_2.toNatClampNeg (u1.2.2.2.2.2.2.2.2.2.2 v173_2.toNatClampNeg)))))
def fX7_lay_L83 (u1 : Int32 × Int32 × Int32 × Int32 × Int32 × Int32 × (Nat → Int32) × (Nat → Int32) × (Nat → Int32) × (Nat → Int32) × (Nat → Int32)) (k83 : Int32 → (Nat → Int32) → (Nat → Int32) → (Nat → Int32) → Option (Int32 × Int32 × Int32 × Int32 × Int32 × Int32 × Int32 × Int32 × Int32 × Int32 × Int32 × Int32 × Int32 × Int32 × Int32 × (Nat → Int32) × (Nat → Int32) × (Nat → Int32) × (Nat → Int32) × (Nat → Int32) × (Nat → Int32) × (Nat → Int32) × (Nat → Int32) × (Nat → Int32) × (Nat → Int32))) : Nat → Int32 → (Nat → Int32) → (Nat → Int32) → (Nat → Int32) → Option (Int32 × Int32 × Int32 × Int32 × Int32 × Int32 × Int32 × Int32 × Int32 × Int32 × Int32 × Int32 × Int32 × Int32 × Int32 × (Nat → Int32) × (Nat → Int32) × (Nat → Int32) × (Nat → Int32) × (Nat → Int32) × (Nat → Int32) × (Nat → Int32) × (Nat → Int32) × (Nat → Int32) × (Nat → Int32))
  | 0, _, _, _, _ => none
  | n83 + 1, v83_2, w83_mok_14, w83_mok_15, w83_mok_16 => if (6 : Int32) ≤ v83_2 then (k83 v83_2 w83_mok_14 w83_mok_15 w83_mok_16) else (if v83_2 < 0 ∨ 6 ≤ v83_2.toNatClampNeg then none else (if v83_2 < 0 ∨ 6 ≤ v83_2.toNatClampNeg then none else (if u1.2.1 ≤ v83_2 then (if v83_2 < 0 ∨ 6 ≤ v83_2.toNatClampNeg then none else (if u1.2.1 ≤ v83_2 then (if v83_2 < 0 ∨ 6 ≤ v83_2.toNatClampNeg then none else (fX7_lay_L83 u1 k83 n83 (v83_2 + 1) (upd w83_mok_14 v83_2.toNatClampNeg (u1.2.2.2.2.2.2.2.1 v83_2.toNatClampNeg)) (upd w83_mok_15 v83_2.toNatClampNeg (0 : Int32)) (upd w83_mok_16 v83_2.toNatClampNeg (0 : Int32)))) else (if v83_2 < 0 ∨ 6 ≤ v83_2.toNatClampNeg then none else (if v83_2 < 0 ∨ 6 ≤ v83_2.toNatClampNeg then none else (fX7_lay_L83 u1 k83 n83 (v83_2 + 1) (upd w83_mok_14 v83_2.toNatClampNeg (u1.2.2.2.2.2.2.2.1 v83_2.toNatClampNeg)) (upd w83_mok_15 v83_2.toNatClampNeg (0 : Int32)) (upd w83_mok_16 v83_2.toNatClampNeg (u1.2.2.2.2.2.2.2.2.2.1 v83_2.toNatClampNeg))))))) else (if v83_2 < 0 ∨ 6 ≤ v83_2.toNatClampNeg then none else (if v83_2 < 0 ∨ 6 ≤ v83_2.toNatClampNeg then none else (if u1.2.1 ≤ v83_2 then (if v83_2 < 0 ∨ 6 ≤ v83_2.toNatClampNeg then none else (fX7_lay_L83 u1 k83 n83 (v83_2 + 1) (upd w83_mok_14 v83_2.toNatClampNeg (u1.2.2.2.2.2.2.2.1 v83_2.toNatClampNeg)) (upd w83_mok_15 v83_2.toNatClampNeg (u1.2.2.2.2.2.2.2.2.1 v83_2.toNatClampNeg)) (upd w83_mok_16 v83_2.toNatClampNeg (0 : Int32)))) else (if v83_2 < 0 ∨ 6 ≤ v83_2.toNatClampNeg then none else (if v83_2 < 0 ∨ 6 ≤ v83_2.toNatClampNeg then none else (fX7_lay_L83 u1 k83 n83 (v83_2 + 1) (upd w83_mok_14 v83_2.toNatClampNeg (u1.2.2.2.2.2.2.2.1 v83_2.toNatClampNeg)) (upd w83_mok_15 v83_2.toNatClampNeg (u1.2.2.2.2.2.2.2.2.1 v83_2.toNatClampNeg)) (upd w83_mok_16 v83_2.toNatClampNeg (u1.2.2.2.2.2.2.2.2.2.1 v83_2.toNatClampNeg)))))))))))
def fX7_lay_L25 (u1 : Int32 × Int32 × Int32 × Int32 × Int32 × Int32 × (Nat → Int32) × (Nat → Int32) × (Nat → Int32) × (Nat → Int32) × (Nat → Int32)) (k25 : Int32 → Int32 → Option (Int32 × Int32 × Int32 × Int32 × Int32 × Int32 × Int32 × Int32 × Int32 × Int32 × Int32 × Int32 × Int32 × Int32 × Int32 × (Nat → Int32) × (Nat → Int32) × (Nat → Int32) × (Nat → Int32) × (Nat → Int32) × (Nat → Int32) × (Nat → Int32) × (Nat → Int32) × (Nat → Int32) × (Nat → Int32))) : Nat → Int32 → Int32 → Option (Int32 × Int32 × Int32 × Int32 × Int32 × Int32 × Int32 × Int32 × Int32 × Int32 × Int32 × Int32 × Int32 × Int32 × Int32 × (Nat → Int32) × (Nat → Int32) × (Nat → Int32) × (Nat → Int32) × (Nat → Int32) × (Nat → Int32) × (Nat → Int32) × (Nat → Int32) × (Nat → Int32) × (Nat → Int32))
  | 0, _, _ => none
  | n25 + 1, v25_2, v25_1 => if u1.2.2.2.1 ≤ v25_2 then (k25 v25_2 v25_1) else (if v25_1 = 0 then (fX7_lay_L25 u1 k25 n25 (v25_2 + 1) (0 : Int32)) else (if (((2 : Int32) * v25_2) + (1 : Int32)) < 0 ∨ 12 ≤ (((2 : Int32) * v25_2) + (1 : Int32)).toNatClampNeg then none else (if u1.2.1 ≤ (u1.2.2.2.2.2.2.2.2.2.2 (((2 : Int32) * v25_2) + (1 : Int32)).toNatClampNeg) then (fX7_lay_L25 u1 k25 n25 (v25_2 + 1) (0 : Int32)) else (fX7_lay_L25 u1 k25 n25 (v25_2 + 1) (1 : Int32)))))
def fX7_lay (F : Nat) (moi_0 : Int32) (moi_13 : Int32) (moi_17 : Int32) (moi_18 : Int32) (moi_20 : Int32) (moi_21 : Int32) (moi_24 : Int32) (moi_26 : Int32) (moi_28 : Int32) (mok_1 : Nat → Int32) (mok_3 : Nat → Int32) (mok_5 : Nat → Int32) (mok_6 : Nat → Int32) (mok_7 : Nat → Int32) (mok_10 : Nat → Int32) (mok_14 : Nat → Int32) (mok_15 : Nat → Int32) (mok_16 : Nat → Int32) (mok_19 : Nat → Int32) (mok_22 : Nat → Int32) : Option (Int32 × Int32 × Int32 × Int32 × Int32 × Int32 × Int32 × Int32 × Int32 × Int32 × Int32 × Int32 × Int32 × Int32 × Int32 × (Nat → Int32) × (Nat → Int32) × (Nat → Int32) × (Nat → Int32) × (Nat → Int32) × (Nat → Int32) × (Nat → Int32) × (Nat → Int32) × (Nat → Int32) × (Nat → Int32)) :=
  xbd2 (fX7_findFault F moi_0 mok_1 mok_3 mok_5 mok_6 mok_7 mok_10) (fun (r1 : Int32) (u1 : Int32 × Int32 × Int32 × Int32 × Int32 × Int32 × (Nat → Int32) × (Nat → Int32) × (Nat → Int32) × (Nat → Int32) × (Nat → Int32)) => if r1 = (-4 : Int32) then (if u1.2.1 ≤ (1 : Int32) then (fX7_lay_L25 u1 (fun (v25_2 : Int32) (v25_1 : Int32) => if v25_1 = 0 then (some ((-2 : Int32), (u1.1, u1.2.1, u1.2.2.1, u1.2.2.2.1, u1.2.2.2.2.1, u1.2.2.2.2.2.1, moi_13, moi_17, moi_18, moi_20, moi_21, moi_24, moi_26, moi_28, u1.2.2.2.2.2.2.1, u1.2.2.2.2.2.2.2.1, u1.2.2.2.2.2.2.2.2.1, u1.2.2.2.2.2.2.2.2.2.1, u1.2.2.2.2.2.2.2.2.2.2, mok_14, mok_15, mok_16, mok_19, mok_22))) else (fX7_lay_L83 u1 (fun (v83_2 : Int32) (w83_mok_14 : Nat → Int32) (w83_mok_15 : Nat → Int32) (w83_mok_16 : Nat → Int32) => fX7_lay_L173 u1 (fun (v173_2 : Int32) (w173_mok_19 : Nat → Int32) => xbd (fX7_begin_now F w83_mok_15 w83_mok_16 mok_22) (fun (u218 : (Nat → Int32)) => some (u1.2.1, (u1.1, u1.2.1, u1.2.2.1, u1.2.2.2.1, u1.2.2.2.2.1, u1.2.2.2.2.2.1, u1.2.1, u1.2.2.1, u1.2.2.2.1, u1.2.2.2.2.1, u1.2.2.2.2.2.1, (0 : Int32), (0 : Int32), (0 : Int32), u1.2.2.2.2.2.2.1, u1.2.2.2.2.2.2.2.1, u1.2.2.2.2.2.2.2.2.1, u1.2.2.2.2.2.2.2.2.2.1, u1.2.2.2.2.2.2.2.2.2.2, w83_mok_14, w83_mok_15, w83_mok_16, w173_mok_19, u218)))) F (0 : Int32) mok_19) F (0 : Int32) mok_14 mok_15 mok_16)) F (0 : Int32) (0 : Int32)) else (fX7_lay_L25 u1 (fun (v25_2 : Int32) (v25_1 : Int32) => if v25_1 = 0 then (some ((-2 : Int32), (u1.1, u1.2.1, u1.2.2.1, u1.2.2.2.1, u1.2.2.2.2.1, u1.2.2.2.2.2.1, moi_13, moi_17, moi_18, moi_20, moi_21, moi_24, moi_26, moi_28, u1.2.2.2.2.2.2.1, u1.2.2.2.2.2.2.2.1, u1.2.2.2.2.2.2.2.2.1, u1.2.2.2.2.2.2.2.2.2.1, u1.2.2.2.2.2.2.2.2.2.2, mok_14, mok_15, mok_16, mok_19, mok_22))) else (fX7_lay_L83 u1 (fun (v83_2 : Int32) (w83_mok_14 : Nat → Int32) (w83_mok_15 : Nat → Int32) (w83_mok_16 : Nat → Int32) => fX7_lay_L173 u1 (fun (v173_2 : Int32) (w173_mok_19 : Nat → Int32) => xbd (fX7_begin_now F w83_mok_15 w83_mok_16 mok_22) (fun (u218 : (Nat → Int32)) => some (u1.2.1, (u1.1, u1.2.1, u1.2.2.1, u1.2.2.2.1, u1.2.2.2.2.1, u1.2.2.2.2.2.1, u1.2.1, u1.2.2.1, u1.2.2.2.1, u1.2.2.2.2.1, u1.2.2.2.2.2.1, (0 : Int32), (0 : Int32), (0 : Int32), u1.2.2.2.2.2.2.1, u1.2.2.2.2.2.2.2.1, u1.2.2.2.2.2.2.2.2.1, u1.2.2.2.2.2.2.2.2.2.1, u1.2.2.2.2.2.2.2.2.2.2, w83_mok_14, w83_mok_15, w83_mok_16, w173_mok_19, u218)))) F (0 : Int32) mok_19) F (0 : Int32) mok_14 mok_15 mok_16)) F (0 : Int32) (1 : Int32))) else (fX7_lay_L25 u1 (fun (v25_2 : Int32) (v25_1 : Int32) => if v25_1 = 0 then (some ((-2 : Int32), (u1.1, u1.2.1, u1.2.2.1, u1.2.2.2.1, u1.2.2.2.2.1, u1.2.2.2.2.2.1, moi_13, moi_17, moi_18, moi_20, moi_21, moi_24, moi_26, moi_28, u1.2.2.2.2.2.2.1, u1.2.2.2.2.2.2.2.1, u1.2.2.2.2.2.2.2.2.1, u1.2.2.2.2.2.2.2.2.2.1, u1.2.2.2.2.2.2.2.2.2.2, mok_14, mok_15, mok_16, mok_19, mok_22))) else (fX7_lay_L83 u1 (fun (v83_2 : Int32) (w83_mok_14 : Nat → Int32) (w83_mok_15 : Nat → Int32) (w83_mok_16 : Nat → Int32) => fX7_lay_L173 u1 (fun (v173_2 : Int32) (w173_mok_19 : Nat → Int32) => xbd (fX7_begin_now F w83_mok_15 w83_mok_16 mok_22) (fun (u218 : (Nat → Int32)) => some (u1.2.1, (u1.1, u1.2.1, u1.2.2.1, u1.2.2.2.1, u1.2.2.2.2.1, u1.2.2.2.2.2.1, u1.2.1, u1.2.2.1, u1.2.2.2.1, u1.2.2.2.2.1, u1.2.2.2.2.2.1, (0 : Int32), (0 : Int32), (0 : Int32), u1.2.2.2.2.2.2.1, u1.2.2.2.2.2.2.2.1, u1.2.2.2.2.2.2.2.2.1, u1.2.2.2.2.2.2.2.2.2.1, u1.2.2.2.2.2.2.2.2.2.2, w83_mok_14, w83_mok_15, w83_mok_16, w173_mok_19, u218)))) F (0 : Int32) mok_19) F (0 : Int32) mok_14 mok_15 mok_16)) F (0 : Int32) (0 : Int32)))
theorem hi_X7_lay_7 : ∀ w ∈ wsX70, w ∈ wsX7_lay := fun _ h => (List.mem_cons_of_mem _ (List.mem_append_right _ h))
set_option maxHeartbeats 4000000 in
set_option maxRecDepth 100000 in
theorem c_X7_lay (l : Launch) (D : va_G) (cI cP : ClassId) (sz : Nat) (mo : Nat) (mor : Nat → Nat) (moi_0 : Int32) (moi_2 : Int32) (moi_4 : Int32) (moi_8 : Int32) (moi_9 : Int32) (moi_11 : Int32) (moi_12 : Int32) (moi_13 : Int32) (moi_17 : Int32) (moi_18 : Int32) (moi_20 : Int32) (moi_21 : Int32) (moi_24 : Int32) (moi_26 : Int32) (moi_28 : Int32) (moi_30 : Int32) (moi_31 : Int32) (moi_32 : Int32) (mok_1 : Nat → Int32) (mok_3 : Nat → Int32) (mok_5 : Nat → Int32) (mok_6 : Nat → Int32) (mok_7 : Nat → Int32) (mok_10 : Nat → Int32) (mok_14 : Nat → Int32) (mok_15 : Nat → Int32) (mok_16 : Nat → Int32) (mok_19 : Nat → Int32) (mok_22 : Nat → Int32) (mok_23 : Nat → Int32) (mok_25 : Nat → Int32) (mok_27 : Nat → Int32) (mok_29 : Nat → Int32) (mok_33 : Nat → Int32) (mok_34 : Nat → Int32) (F : Nat) (hne : fX7_lay F moi_0 moi_13 moi_17 moi_18 moi_20 moi_21 moi_24 moi_26 moi_28 mok_1 mok_3 mok_5 mok_6 mok_7 mok_10 mok_14 mok_15 mok_16 mok_19 mok_22 ≠ none) : xMi l yX7_lay wsX7_lay ({ frames := 4, cells := 0, slots := 0, locals := 87 } : Room) D (xT cI cP) [.ref mo] (wM cI mo mor moi_0 moi_2 moi_4 moi_8 moi_9 moi_11 moi_12 moi_13 moi_17 moi_18 moi_20 moi_21 moi_24 moi_26 moi_28 moi_30 moi_31 moi_32 mok_1 mok_3 mok_5 mok_6 mok_7 mok_10 mok_14 mok_15 mok_16 mok_19 mok_22 mok_23 mok_25 mok_27 mok_29 mok_33 mok_34) sz (fun r (u : (Int32 × Int32 × Int32 × Int32 × Int32 × Int32 × Int32 × Int32 × Int32 × Int32 × Int32 × Int32 × Int32 × Int32 × (Nat → Int32) × (Nat → Int32) × (Nat → Int32) × (Nat → Int32) × (Nat → Int32) × (Nat → Int32) × (Nat → Int32) × (Nat → Int32) × (Nat → Int32) × (Nat → Int32))) => fX7_lay F moi_0 moi_13 moi_17 moi_18 moi_20 moi_21 moi_24 moi_26 moi_28 mok_1 mok_3 mok_5 mok_6 mok_7 mok_10 mok_14 mok_15 mok_16 mok_19 mok_22 = some (r, u)) (fun u => wM cI mo mor moi_0 u.1 u.2.1 u.2.2.1 u.2.2.2.1 u.2.2.2.2.1 u.2.2.2.2.2.1 u.2.2.2.2.2.2.1 u.2.2.2.2.2.2.2.1 u.2.2.2.2.2.2.2.2.1 u.2.2.2.2.2.2.2.2.2.1 u.2.2.2.2.2.2.2.2.2.2.1 u.2.2.2.2.2.2.2.2.2.2.2.1 u.2.2.2.2.2.2.2.2.2.2.2.2.1 u.2.2.2.2.2.2.2.2.2.2.2.2.2.1 moi_30 moi_31 moi_32 mok_1 u.2.2.2.2.2.2.2.2.2.2.2.2.2.2.1 u.2.2.2.2.2.2.2.2.2.2.2.2.2.2.2.1 u.2.2.2.2.2.2.2.2.2.2.2.2.2.2.2.2.1 u.2.2.2.2.2.2.2.2.2.2.2.2.2.2.2.2.2.1 u.2.2.2.2.2.2.2.2.2.2.2.2.2.2.2.2.2.2.1 u.2.2.2.2.2.2.2.2.2.2.2.2.2.2.2.2.2.2.2.1 u.2.2.2.2.2.2.2.2.2.2.2.2.2.2.2.2.2.2.2.2.1 u.2.2.2.2.2.2.2.2.2.2.2.2.2.2.2.2.2.2.2.2.2.1 u.2.2.2.2.2.2.2.2.2.2.2.2.2.2.2.2.2.2.2.2.2.2.1 u.2.2.2.2.2.2.2.2.2.2.2.2.2.2.2.2.2.2.2.2.2.2.2 mok_23 mok_25 mok_27 mok_29 mok_33 mok_34) 0 0 := by
  refine xMi_of (cc := cX7_lay) (maxL := 3) (by decide +kernel) rfl (Nat.le_of_ble_eq_true rfl) ?_
  intro p e s m args below meth c A ls hx hb hml hown hts hname hN hK hA hP hD hS hl Q hret
  have he := fX7_lay.eq_1 F moi_0 moi_13 moi_17 moi_18 moi_20 moi_21 moi_24 moi_26 moi_28 mok_1 mok_3 mok_5 mok_6 mok_7 mok_10 mok_14 mok_15 mok_16 mok_19 mok_22
  have hl : lv_has ls 3 [(0, .ref mo)] := hl
  have R173_0 : ∀ (u1 : Int32 × Int32 × Int32 × Int32 × Int32 × Int32 × (Nat → Int32) × (Nat → Int32) × (Nat → Int32) × (Nat → Int32) × (Nat → Int32)) (w83_mok_14 : Nat → Int32) (w83_mok_15 : Nat → Int32) (w83_mok_16 : Nat → Int32) (v173_2 : Int32) (w173_mok_19 : Nat → Int32), fX7_lay F moi_0 moi_13 moi_17 moi_18 moi_20 moi_21 moi_24 moi_26 moi_28 mok_1 mok_3 mok_5 mok_6 mok_7 mok_10 mok_14 mok_15 mok_16 mok_19 mok_22 = (xbd (fX7_begin_now F w83_mok_15 w83_mok_16 mok_22) (fun (u218 : (Nat → Int32)) => some (u1.2.1, (u1.1, u1.2.1, u1.2.2.1, u1.2.2.2.1, u1.2.2.2.2.1, u1.2.2.2.2.2.1, u1.2.1, u1.2.2.1, u1.2.2.2.1, u1.2.2.2.2.1, u1.2.2.2.2.2.1, (0 : Int32), (0 : Int32), (0 : Int32), u1.2.2.2.2.2.2.1, u1.2.2.2.2.2.2.2.1, u1.2.2.2.2.2.2.2.2.1, u1.2.2.2.2.2.2.2.2.2.1, u1.2.2.2.2.2.2.2.2.2.2, w83_mok_14, w83_mok_15, w83_mok_16, w173_mok_19, u218)))) → ∀ (H : Heap) (locs : List Loc) (ls : Array Slot), va_P D vwCl (wM cI mo mor moi_0 u1.1 u1.2.1 u1.2.2.1 u1.2.2.2.1 u1.2.2.2.2.1 u1.2.2.2.2.2.1 u1.2.1 u1.2.2.1 u1.2.2.2.1 moi_20 moi_21 moi_24 moi_26 moi_28 moi_30 moi_31 moi_32 mok_1 u1.2.2.2.2.2.2.1 u1.2.2.2.2.2.2.2.1 u1.2.2.2.2.2.2.2.2.1 u1.2.2.2.2.2.2.2.2.2.1 u1.2.2.2.2.2.2.2.2.2.2 w83_mok_14 w83_mok_15 w83_mok_16 w173_mok_19 mok_22 mok_23 mok_25 mok_27 mok_29 mok_33 mok_34) H → va_D A (wM cI mo mor moi_0 u1.1 u1.2.1 u1.2.2.1 u1.2.2.2.1 u1.2.2.2.2.1 u1.2.2.2.2.2.1 u1.2.1 u1.2.2.1 u1.2.2.2.1 moi_20 moi_21 moi_24 moi_26 moi_28 moi_30 moi_31 moi_32 mok_1 u1.2.2.2.2.2.2.1 u1.2.2.2.2.2.2.2.1 u1.2.2.2.2.2.2.2.2.1 u1.2.2.2.2.2.2.2.2.2.1 u1.2.2.2.2.2.2.2.2.2.2 w83_mok_14 w83_mok_15 w83_mok_16 w173_mok_19 mok_22 mok_23 mok_25 mok_27 mok_29 mok_33 mok_34) → va_S A s.heap H locs → lv_has ls 3 [(0, .ref mo)] → W p l e ({ frames := 4, cells := 0, slots := 0, locals := 87 } : Room) s m args below meth c H locs 0 0 Q (F0 m 197 ls []) := by
    intro u1 w83_mok_14 w83_mok_15 w83_mok_16 v173_2 w173_mok_19 he H locs ls hP hD hS hl
    refine lv_aload_n hx hb dX7_lay_197 rfl (lv_at hl 0 rfl) ?_
    refine lv_aload_n hx hb dX7_lay_198 rfl (lv_at hl 0 rfl) ?_
    refine va_get (D := D) (ci := 7) (v := .int u1.2.2.2.2.1) (C := RX7) (T := TX7) (N := 35) hx hb hts hi_X7_lay_7 hown hK hP 0 wM_0 rfl 11 (by decide) (hts (.fieldLink RX7 113 "BlindLanternsModel" "readSun" "I") (List.mem_of_getElem? (i := 15) rfl)) (fun _ h9 => h9) xMf_11 dX7_lay_199 ?_
    refine va_put (D := D) (ci := 7) (v := .int u1.2.2.2.2.1) (ty := .int) (C := RX7) (T := TX7) (N := 35) hx hb hts hi_X7_lay_7 tyX7 tyX7_ok nmX7 hown hK hP hD hS 0 wM_0 rfl 20 (by decide) (hts (.fieldLink RX7 77 "BlindLanternsModel" "sun" "I") (List.mem_of_getElem? (i := 16) rfl)) (fun _ h9 => h9) rfl (by decide +kernel) rfl rfl (Nat.le_of_ble_eq_true rfl) dX7_lay_202 (fun H locs hP hD hS => ?_)
    rw [wM_p20] at hP hD
    refine lv_aload_n hx hb dX7_lay_205 rfl (lv_at hl 0 rfl) ?_
    refine lv_aload_n hx hb dX7_lay_206 rfl (lv_at hl 0 rfl) ?_
    refine va_get (D := D) (ci := 7) (v := .int u1.2.2.2.2.2.1) (C := RX7) (T := TX7) (N := 35) hx hb hts hi_X7_lay_7 hown hK hP 0 wM_0 rfl 12 (by decide) (hts (.fieldLink RX7 116 "BlindLanternsModel" "readDark" "I") (List.mem_of_getElem? (i := 17) rfl)) (fun _ h9 => h9) xMf_12 dX7_lay_207 ?_
    refine va_put (D := D) (ci := 7) (v := .int u1.2.2.2.2.2.1) (ty := .int) (C := RX7) (T := TX7) (N := 35) hx hb hts hi_X7_lay_7 tyX7 tyX7_ok nmX7 hown hK hP hD hS 0 wM_0 rfl 21 (by decide) (hts (.fieldLink RX7 129 "BlindLanternsModel" "dark" "I") (List.mem_of_getElem? (i := 18) rfl)) (fun _ h9 => h9) rfl (by decide +kernel) rfl rfl (Nat.le_of_ble_eq_true rfl) dX7_lay_210 (fun H locs hP hD hS => ?_)
    rw [wM_p21] at hP hD
    refine lv_aload_n hx hb dX7_lay_213 rfl (lv_at hl 0 rfl) ?_
    refine lv_aload_n hx hb dX7_lay_214 rfl (lv_at hl 0 rfl) ?_
    refine va_get (D := D) (ci := 7) (v := .ref (mor 22)) (C := RX7) (T := TX7) (N := 35) hx hb hts hi_X7_lay_7 hown hK hP 0 wM_0 rfl 22 (by decide) (hts (.fieldLink RX7 40 "BlindLanternsModel" "now" "[I") (List.mem_of_getElem? (i := 19) rfl)) (fun _ h9 => h9) xMf_22 dX7_lay_215 ?_
    have n4_ : fX7_begin_now F w83_mok_15 w83_mok_16 mok_22 ≠ none := fun z => hne (he.trans (xbd_none z))
    refine xcvW (va_runV (As := [.ref (mor 22)]) (rest := []) ⟨hx, hb, hml, hown, hts⟩ (c_X7_begin_now l D cI cP H.size mo mor moi_0 u1.1 u1.2.1 u1.2.2.1 u1.2.2.2.1 u1.2.2.2.2.1 u1.2.2.2.2.2.1 u1.2.1 u1.2.2.1 u1.2.2.2.1 u1.2.2.2.2.1 u1.2.2.2.2.2.1 moi_24 moi_26 moi_28 moi_30 moi_31 moi_32 mok_1 u1.2.2.2.2.2.2.1 u1.2.2.2.2.2.2.2.1 u1.2.2.2.2.2.2.2.2.1 u1.2.2.2.2.2.2.2.2.2.1 u1.2.2.2.2.2.2.2.2.2.2 w83_mok_14 w83_mok_15 w83_mok_16 w173_mok_19 mok_22 mok_23 mok_25 mok_27 mok_29 mok_33 mok_34 F  n4_) (cwV 1 hts gX7_lay_X7_begin rfl rfl rfl (by decide +kernel) ⟨Nat.le_of_ble_eq_true rfl, Nat.le_of_ble_eq_true rfl⟩) (xPVW hN hK hP hD (ci := 7) (j := 0) rfl wM_0) rfl rfl hl.1 rfl (lv_room (Nat.le_of_ble_eq_true rfl)) dX7_lay_218 ⟨Nat.le_of_ble_eq_true rfl, Nat.le_of_ble_eq_true rfl⟩) hD hS hA (fun u218 H locs hw hP hD hS => ?_)
    have hP : va_P D vwCl (wM cI mo mor moi_0 u1.1 u1.2.1 u1.2.2.1 u1.2.2.2.1 u1.2.2.2.2.1 u1.2.2.2.2.2.1 u1.2.1 u1.2.2.1 u1.2.2.2.1 u1.2.2.2.2.1 u1.2.2.2.2.2.1 moi_24 moi_26 moi_28 moi_30 moi_31 moi_32 mok_1 u1.2.2.2.2.2.2.1 u1.2.2.2.2.2.2.2.1 u1.2.2.2.2.2.2.2.2.1 u1.2.2.2.2.2.2.2.2.2.1 u1.2.2.2.2.2.2.2.2.2.2 w83_mok_14 w83_mok_15 w83_mok_16 w173_mok_19 u218 mok_23 mok_25 mok_27 mok_29 mok_33 mok_34) H := hP
    have hD : va_D A (wM cI mo mor moi_0 u1.1 u1.2.1 u1.2.2.1 u1.2.2.2.1 u1.2.2.2.2.1 u1.2.2.2.2.2.1 u1.2.1 u1.2.2.1 u1.2.2.2.1 u1.2.2.2.2.1 u1.2.2.2.2.2.1 moi_24 moi_26 moi_28 moi_30 moi_31 moi_32 mok_1 u1.2.2.2.2.2.2.1 u1.2.2.2.2.2.2.2.1 u1.2.2.2.2.2.2.2.2.1 u1.2.2.2.2.2.2.2.2.2.1 u1.2.2.2.2.2.2.2.2.2.2 w83_mok_14 w83_mok_15 w83_mok_16 w173_mok_19 u218 mok_23 mok_25 mok_27 mok_29 mok_33 mok_34) := hD
    replace he := he.trans (xbd_some hw)
    refine lv_aload_n hx hb dX7_lay_221 rfl (lv_at hl 0 rfl) ?_
    refine lv_iconst (v := 0) hx hb dX7_lay_222 (by decide) ?_
    refine va_put (D := D) (ci := 7) (v := .int (0 : Int32)) (ty := .int) (C := RX7) (T := TX7) (N := 35) hx hb hts hi_X7_lay_7 tyX7 tyX7_ok nmX7 hown hK hP hD hS 0 wM_0 rfl 28 (by decide) (hts (.fieldLink RX7 132 "BlindLanternsModel" "sights" "I") (List.mem_of_getElem? (i := 20) rfl)) (fun _ h9 => h9) rfl (by decide +kernel) rfl rfl (Nat.le_of_ble_eq_true rfl) dX7_lay_223 (fun H locs hP hD hS => ?_)
    rw [wM_p28] at hP hD
    refine lv_aload_n hx hb dX7_lay_226 rfl (lv_at hl 0 rfl) ?_
    refine lv_iconst (v := 0) hx hb dX7_lay_227 (by decide) ?_
    refine va_put (D := D) (ci := 7) (v := .int (0 : Int32)) (ty := .int) (C := RX7) (T := TX7) (N := 35) hx hb hts hi_X7_lay_7 tyX7 tyX7_ok nmX7 hown hK hP hD hS 0 wM_0 rfl 24 (by decide) (hts (.fieldLink RX7 135 "BlindLanternsModel" "backs" "I") (List.mem_of_getElem? (i := 21) rfl)) (fun _ h9 => h9) rfl (by decide +kernel) rfl rfl (Nat.le_of_ble_eq_true rfl) dX7_lay_228 (fun H locs hP hD hS => ?_)
    rw [wM_p24] at hP hD
    refine lv_aload_n hx hb dX7_lay_231 rfl (lv_at hl 0 rfl) ?_
    refine lv_iconst (v := 0) hx hb dX7_lay_232 (by decide) ?_
    refine va_put (D := D) (ci := 7) (v := .int (0 : Int32)) (ty := .int) (C := RX7) (T := TX7) (N := 35) hx hb hts hi_X7_lay_7 tyX7 tyX7_ok nmX7 hown hK hP hD hS 0 wM_0 rfl 26 (by decide) (hts (.fieldLink RX7 138 "BlindLanternsModel" "kept" "I") (List.mem_of_getElem? (i := 22) rfl)) (fun _ h9 => h9) rfl (by decide +kernel) rfl rfl (Nat.le_of_ble_eq_true rfl) dX7_lay_233 (fun H locs hP hD hS => ?_)
    rw [wM_p26] at hP hD
    refine lv_aload_n hx hb dX7_lay_236 rfl (lv_at hl 0 rfl) ?_
    refine va_get (D := D) (ci := 7) (v := .int u1.2.1) (C := RX7) (T := TX7) (N := 35) hx hb hts hi_X7_lay_7 hown hK hP 0 wM_0 rfl 13 (by decide) (hts (.fieldLink RX7 71 "BlindLanternsModel" "men" "I") (List.mem_of_getElem? (i := 4) rfl)) (fun _ h9 => h9) xMf_13 dX7_lay_237 ?_
    exact hret u1.2.1 (u1.1, u1.2.1, u1.2.2.1, u1.2.2.2.1, u1.2.2.2.2.1, u1.2.2.2.2.2.1, u1.2.1, u1.2.2.1, u1.2.2.2.1, u1.2.2.2.2.1, u1.2.2.2.2.2.1, (0 : Int32), (0 : Int32), (0 : Int32), u1.2.2.2.2.2.2.1, u1.2.2.2.2.2.2.2.1, u1.2.2.2.2.2.2.2.2.1, u1.2.2.2.2.2.2.2.2.2.1, u1.2.2.2.2.2.2.2.2.2.2, w83_mok_14, w83_mok_15, w83_mok_16, w173_mok_19, u218) _ _ _ _ dX7_lay_240 he hP hD hS
  have L173_35 : ∀ (u1 : Int32 × Int32 × Int32 × Int32 × Int32 × Int32 × (Nat → Int32) × (Nat → Int32) × (Nat → Int32) × (Nat → Int32) × (Nat → Int32)) (w83_mok_14 : Nat → Int32) (w83_mok_15 : Nat → Int32) (w83_mok_16 : Nat → Int32) (n173 : Nat) (v173_2 : Int32) (w173_mok_19 : Nat → Int32), fX7_lay F moi_0 moi_13 moi_17 moi_18 moi_20 moi_21 moi_24 moi_26 moi_28 mok_1 mok_3 mok_5 mok_6 mok_7 mok_10 mok_14 mok_15 mok_16 mok_19 mok_22 = fX7_lay_L173 u1 (fun (v173_2 : Int32) (w173_mok_19 : Nat → Int32) => xbd (fX7_begin_now F w83_mok_15 w83_mok_16 mok_22) (fun (u218 : (Nat → Int32)) => some (u1.2.1, (u1.1, u1.2.1, u1.2.2.1, u1.2.2.2.1, u1.2.2.2.2.1, u1.2.2.2.2.2.1, u1.2.1, u1.2.2.1, u1.2.2.2.1, u1.2.2.2.2.1, u1.2.2.2.2.2.1, (0 : Int32), (0 : Int32), (0 : Int32), u1.2.2.2.2.2.2.1, u1.2.2.2.2.2.2.2.1, u1.2.2.2.2.2.2.2.2.1, u1.2.2.2.2.2.2.2.2.2.1, u1.2.2.2.2.2.2.2.2.2.2, w83_mok_14, w83_mok_15, w83_mok_16, w173_mok_19, u218)))) n173 v173_2 w173_mok_19 → ∀ (H : Heap) (locs : List Loc) (ls : Array Slot), va_P D vwCl (wM cI mo mor moi_0 u1.1 u1.2.1 u1.2.2.1 u1.2.2.2.1 u1.2.2.2.2.1 u1.2.2.2.2.2.1 u1.2.1 u1.2.2.1 u1.2.2.2.1 moi_20 moi_21 moi_24 moi_26 moi_28 moi_30 moi_31 moi_32 mok_1 u1.2.2.2.2.2.2.1 u1.2.2.2.2.2.2.2.1 u1.2.2.2.2.2.2.2.2.1 u1.2.2.2.2.2.2.2.2.2.1 u1.2.2.2.2.2.2.2.2.2.2 w83_mok_14 w83_mok_15 w83_mok_16 w173_mok_19 mok_22 mok_23 mok_25 mok_27 mok_29 mok_33 mok_34) H → va_D A (wM cI mo mor moi_0 u1.1 u1.2.1 u1.2.2.1 u1.2.2.2.1 u1.2.2.2.2.1 u1.2.2.2.2.2.1 u1.2.1 u1.2.2.1 u1.2.2.2.1 moi_20 moi_21 moi_24 moi_26 moi_28 moi_30 moi_31 moi_32 mok_1 u1.2.2.2.2.2.2.1 u1.2.2.2.2.2.2.2.1 u1.2.2.2.2.2.2.2.2.1 u1.2.2.2.2.2.2.2.2.2.1 u1.2.2.2.2.2.2.2.2.2.2 w83_mok_14 w83_mok_15 w83_mok_16 w173_mok_19 mok_22 mok_23 mok_25 mok_27 mok_29 mok_33 mok_34) → va_S A s.heap H locs → lv_has ls 3 [(2, .int v173_2), (0, .ref mo)] → W p l e ({ frames := 4, cells := 0, slots := 0, locals := 87 } : Room) s m args below meth c H locs 0 0 Q (F0 m 173 ls []) := by
    intro u1 w83_mok_14 w83_mok_15 w83_mok_16 n173
    induction n173 with
    | zero => intro v173_2 w173_mok_19 he; exact absurd he hne
    | succ n173 ih173 =>
      intro v173_2 w173_mok_19 he H locs ls hP hD hS hl
      replace he := he.trans (fX7_lay_L173.eq_2 _ _ _ _ _)
      refine lv_iload_n hx hb dX7_lay_173 rfl (lv_at hl 0 rfl) ?_
      refine lv_bipush (v := 12) hx hb dX7_lay_174 (by decide) ?_
      refine lv_icmp_ge (tgt := 197) hx hb dX7_lay_176 (by decide) (fun c5 => ?_) (fun c5 => ?_)
      · replace he := he.trans (if_pos c5)
        exact R173_0 u1 w83_mok_14 w83_mok_15 w83_mok_16 v173_2 w173_mok_19 he _ _ _ hP hD hS (lv_sub hl [1] rfl)
      · replace he := he.trans (if_neg c5)
        refine lv_aload_n hx hb dX7_lay_179 rfl (lv_at hl 1 rfl) ?_
        refine va_get (D := D) (ci := 7) (v := .ref (mor 19)) (C := RX7) (T := TX7) (N := 35) hx hb hts hi_X7_lay_7 hown hK hP 0 wM_0 rfl 19 (by decide) (hts (.fieldLink RX7 37 "BlindLanternsModel" "draught" "[I") (List.mem_of_getElem? (i := 14) rfl)) (fun _ h9 => h9) xMf_19 dX7_lay_180 ?_
        refine lv_iload_n hx hb dX7_lay_183 rfl (lv_at hl 0 rfl) ?_
        refine lv_aload_n hx hb dX7_lay_184 rfl (lv_at hl 1 rfl) ?_
        refine va_get (D := D) (ci := 7) (v := .ref (mor 10)) (C := RX7) (T := TX7) (N := 35) hx hb hts hi_X7_lay_7 hown hK hP 0 wM_0 rfl 10 (by decide) (hts (.fieldLink RX7 25 "BlindLanternsModel" "readDraught" "[I") (List.mem_of_getElem? (i := 3) rfl)) (fun _ h9 => h9) xMf_10 dX7_lay_185 ?_
        refine lv_iload_n hx hb dX7_lay_188 rfl (lv_at hl 0 rfl) ?_
        by_cases g6 : v173_2 < 0 ∨ 12 ≤ v173_2.toNatClampNeg
        · exact absurd (he.trans (if_pos g6)) hne
        replace he := he.trans (if_neg g6)
        refine va_iald hx hb hK hP 6 0 wM_a10 rfl g6 dX7_lay_189 ?_
        by_cases g7 : v173_2 < 0 ∨ 12 ≤ v173_2.toNatClampNeg
        · exact absurd (he.trans (if_pos g7)) hne
        replace he := he.trans (if_neg g7)
        refine va_iast hx hb hK hP hD hS 10 0 wM_a19 rfl g7 dX7_lay_190 (fun H locs hP hD hS => ?_)
        rw [wM_s19] at hP hD
        refine lv_iinc (v := (v173_2 + 1)) (lv' := [(2, .int (v173_2 + 1)), (0, .ref mo)]) hx hb dX7_lay_191 hl (k := 0) rfl rfl (by decide) rfl (fun ls hl => ?_)
        refine lv_goto (tgt := 173) hx hb dX7_lay_194 (by decide) ?_
        exact ih173 (v173_2 + 1) (upd w173_mok_19 v173_2.toNatClampNeg (u1.2.2.2.2.2.2.2.2.2.2 v173_2.toNatClampNeg)) he _ _ _ hP hD hS (lv_sub hl [0, 1] rfl)
  have R83_66 : ∀ (u1 : Int32 × Int32 × Int32 × Int32 × Int32 × Int32 × (Nat → Int32) × (Nat → Int32) × (Nat → Int32) × (Nat → Int32) × (Nat → Int32)) (v83_2 : Int32) (w83_mok_14 : Nat → Int32) (w83_mok_15 : Nat → Int32) (w83_mok_16 : Nat → Int32), fX7_lay F moi_0 moi_13 moi_17 moi_18 moi_20 moi_21 moi_24 moi_26 moi_28 mok_1 mok_3 mok_5 mok_6 mok_7 mok_10 mok_14 mok_15 mok_16 mok_19 mok_22 = (fX7_lay_L173 u1 (fun (v173_2 : Int32) (w173_mok_19 : Nat → Int32) => xbd (fX7_begin_now F w83_mok_15 w83_mok_16 mok_22) (fun (u218 : (Nat → Int32)) => some (u1.2.1, (u1.1, u1.2.1, u1.2.2.1, u1.2.2.2.1, u1.2.2.2.2.1, u1.2.2.2.2.2.1, u1.2.1, u1.2.2.1, u1.2.2.2.1, u1.2.2.2.2.1, u1.2.2.2.2.2.1, (0 : Int32), (0 : Int32), (0 : Int32), u1.2.2.2.2.2.2.1, u1.2.2.2.2.2.2.2.1, u1.2.2.2.2.2.2.2.2.1, u1.2.2.2.2.2.2.2.2.2.1, u1.2.2.2.2.2.2.2.2.2.2, w83_mok_14, w83_mok_15, w83_mok_16, w173_mok_19, u218)))) F (0 : Int32) mok_19) → ∀ (H : Heap) (locs : List Loc) (ls : Array Slot), va_P D vwCl (wM cI mo mor moi_0 u1.1 u1.2.1 u1.2.2.1 u1.2.2.2.1 u1.2.2.2.2.1 u1.2.2.2.2.2.1 u1.2.1 moi_17 moi_18 moi_20 moi_21 moi_24 moi_26 moi_28 moi_30 moi_31 moi_32 mok_1 u1.2.2.2.2.2.2.1 u1.2.2.2.2.2.2.2.1 u1.2.2.2.2.2.2.2.2.1 u1.2.2.2.2.2.2.2.2.2.1 u1.2.2.2.2.2.2.2.2.2.2 w83_mok_14 w83_mok_15 w83_mok_16 mok_19 mok_22 mok_23 mok_25 mok_27 mok_29 mok_33 mok_34) H → va_D A (wM cI mo mor moi_0 u1.1 u1.2.1 u1.2.2.1 u1.2.2.2.1 u1.2.2.2.2.1 u1.2.2.2.2.2.1 u1.2.1 moi_17 moi_18 moi_20 moi_21 moi_24 moi_26 moi_28 moi_30 moi_31 moi_32 mok_1 u1.2.2.2.2.2.2.1 u1.2.2.2.2.2.2.2.1 u1.2.2.2.2.2.2.2.2.1 u1.2.2.2.2.2.2.2.2.2.1 u1.2.2.2.2.2.2.2.2.2.2 w83_mok_14 w83_mok_15 w83_mok_16 mok_19 mok_22 mok_23 mok_25 mok_27 mok_29 mok_33 mok_34) → va_S A s.heap H locs → lv_has ls 3 [(0, .ref mo)] → W p l e ({ frames := 4, cells := 0, slots := 0, locals := 87 } : Room) s m args below meth c H locs 0 0 Q (F0 m 155 ls []) := by
    intro u1 v83_2 w83_mok_14 w83_mok_15 w83_mok_16 he H locs ls hP hD hS hl
    refine lv_aload_n hx hb dX7_lay_155 rfl (lv_at hl 0 rfl) ?_
    refine lv_aload_n hx hb dX7_lay_156 rfl (lv_at hl 0 rfl) ?_
    refine va_get (D := D) (ci := 7) (v := .int u1.2.2.1) (C := RX7) (T := TX7) (N := 35) hx hb hts hi_X7_lay_7 hown hK hP 0 wM_0 rfl 8 (by decide) (hts (.fieldLink RX7 107 "BlindLanternsModel" "readOn" "I") (List.mem_of_getElem? (i := 11) rfl)) (fun _ h9 => h9) xMf_8 dX7_lay_157 ?_
    refine va_put (D := D) (ci := 7) (v := .int u1.2.2.1) (ty := .int) (C := RX7) (T := TX7) (N := 35) hx hb hts hi_X7_lay_7 tyX7 tyX7_ok nmX7 hown hK hP hD hS 0 wM_0 rfl 17 (by decide) (hts (.fieldLink RX7 74 "BlindLanternsModel" "on" "I") (List.mem_of_getElem? (i := 12) rfl)) (fun _ h9 => h9) rfl (by decide +kernel) rfl rfl (Nat.le_of_ble_eq_true rfl) dX7_lay_160 (fun H locs hP hD hS => ?_)
    rw [wM_p17] at hP hD
    refine lv_aload_n hx hb dX7_lay_163 rfl (lv_at hl 0 rfl) ?_
    refine lv_aload_n hx hb dX7_lay_164 rfl (lv_at hl 0 rfl) ?_
    refine va_get (D := D) (ci := 7) (v := .int u1.2.2.2.1) (C := RX7) (T := TX7) (N := 35) hx hb hts hi_X7_lay_7 hown hK hP 0 wM_0 rfl 9 (by decide) (hts (.fieldLink RX7 110 "BlindLanternsModel" "readDraughts" "I") (List.mem_of_getElem? (i := 2) rfl)) (fun _ h9 => h9) xMf_9 dX7_lay_165 ?_
    refine va_put (D := D) (ci := 7) (v := .int u1.2.2.2.1) (ty := .int) (C := RX7) (T := TX7) (N := 35) hx hb hts hi_X7_lay_7 tyX7 tyX7_ok nmX7 hown hK hP hD hS 0 wM_0 rfl 18 (by decide) (hts (.fieldLink RX7 126 "BlindLanternsModel" "draughts" "I") (List.mem_of_getElem? (i := 13) rfl)) (fun _ h9 => h9) rfl (by decide +kernel) rfl rfl (Nat.le_of_ble_eq_true rfl) dX7_lay_168 (fun H locs hP hD hS => ?_)
    rw [wM_p18] at hP hD
    refine lv_iconst (v := 0) hx hb dX7_lay_171 (by decide) ?_
    refine lv_istore_n (lv' := [(2, .int (0 : Int32)), (0, .ref mo)]) hx hb dX7_lay_172 rfl hl (by decide) rfl (fun ls hl => ?_)
    exact L173_35 u1 w83_mok_14 w83_mok_15 w83_mok_16 F (0 : Int32) mok_19 he _ _ _ hP hD hS (lv_sub hl [0, 1] rfl)
  have L83_81 : ∀ (u1 : Int32 × Int32 × Int32 × Int32 × Int32 × Int32 × (Nat → Int32) × (Nat → Int32) × (Nat → Int32) × (Nat → Int32) × (Nat → Int32)) (n83 : Nat) (v83_2 : Int32) (w83_mok_14 : Nat → Int32) (w83_mok_15 : Nat → Int32) (w83_mok_16 : Nat → Int32), fX7_lay F moi_0 moi_13 moi_17 moi_18 moi_20 moi_21 moi_24 moi_26 moi_28 mok_1 mok_3 mok_5 mok_6 mok_7 mok_10 mok_14 mok_15 mok_16 mok_19 mok_22 = fX7_lay_L83 u1 (fun (v83_2 : Int32) (w83_mok_14 : Nat → Int32) (w83_mok_15 : Nat → Int32) (w83_mok_16 : Nat → Int32) => fX7_lay_L173 u1 (fun (v173_2 : Int32) (w173_mok_19 : Nat → Int32) => xbd (fX7_begin_now F w83_mok_15 w83_mok_16 mok_22) (fun (u218 : (Nat → Int32)) => some (u1.2.1, (u1.1, u1.2.1, u1.2.2.1, u1.2.2.2.1, u1.2.2.2.2.1, u1.2.2.2.2.2.1, u1.2.1, u1.2.2.1, u1.2.2.2.1, u1.2.2.2.2.1, u1.2.2.2.2.2.1, (0 : Int32), (0 : Int32), (0 : Int32), u1.2.2.2.2.2.2.1, u1.2.2.2.2.2.2.2.1, u1.2.2.2.2.2.2.2.2.1, u1.2.2.2.2.2.2.2.2.2.1, u1.2.2.2.2.2.2.2.2.2.2, w83_mok_14, w83_mok_15, w83_mok_16, w173_mok_19, u218)))) F (0 : Int32) mok_19) n83 v83_2 w83_mok_14 w83_mok_15 w83_mok_16 → ∀ (H : Heap) (locs : List Loc) (ls : Array Slot), va_P D vwCl (wM cI mo mor moi_0 u1.1 u1.2.1 u1.2.2.1 u1.2.2.2.1 u1.2.2.2.2.1 u1.2.2.2.2.2.1 u1.2.1 moi_17 moi_18 moi_20 moi_21 moi_24 moi_26 moi_28 moi_30 moi_31 moi_32 mok_1 u1.2.2.2.2.2.2.1 u1.2.2.2.2.2.2.2.1 u1.2.2.2.2.2.2.2.2.1 u1.2.2.2.2.2.2.2.2.2.1 u1.2.2.2.2.2.2.2.2.2.2 w83_mok_14 w83_mok_15 w83_mok_16 mok_19 mok_22 mok_23 mok_25 mok_27 mok_29 mok_33 mok_34) H → va_D A (wM cI mo mor moi_0 u1.1 u1.2.1 u1.2.2.1 u1.2.2.2.1 u1.2.2.2.2.1 u1.2.2.2.2.2.1 u1.2.1 moi_17 moi_18 moi_20 moi_21 moi_24 moi_26 moi_28 moi_30 moi_31 moi_32 mok_1 u1.2.2.2.2.2.2.1 u1.2.2.2.2.2.2.2.1 u1.2.2.2.2.2.2.2.2.1 u1.2.2.2.2.2.2.2.2.2.1 u1.2.2.2.2.2.2.2.2.2.2 w83_mok_14 w83_mok_15 w83_mok_16 mok_19 mok_22 mok_23 mok_25 mok_27 mok_29 mok_33 mok_34) → va_S A s.heap H locs → lv_has ls 3 [(2, .int v83_2), (0, .ref mo)] → W p l e ({ frames := 4, cells := 0, slots := 0, locals := 87 } : Room) s m args below meth c H locs 0 0 Q (F0 m 83 ls []) := by
    intro u1 n83
    induction n83 with
    | zero => intro v83_2 w83_mok_14 w83_mok_15 w83_mok_16 he; exact absurd he hne
    | succ n83 ih83 =>
      intro v83_2 w83_mok_14 w83_mok_15 w83_mok_16 he H locs ls hP hD hS hl
      replace he := he.trans (fX7_lay_L83.eq_2 _ _ _ _ _ _ _)
      refine lv_iload_n hx hb dX7_lay_83 rfl (lv_at hl 0 rfl) ?_
      refine lv_bipush (v := 6) hx hb dX7_lay_84 (by decide) ?_
      refine lv_icmp_ge (tgt := 155) hx hb dX7_lay_86 (by decide) (fun c8 => ?_) (fun c8 => ?_)
      · replace he := he.trans (if_pos c8)
        exact R83_66 u1 v83_2 w83_mok_14 w83_mok_15 w83_mok_16 he _ _ _ hP hD hS (lv_sub hl [1] rfl)
      · replace he := he.trans (if_neg c8)
        refine lv_aload_n hx hb dX7_lay_89 rfl (lv_at hl 1 rfl) ?_
        refine va_get (D := D) (ci := 7) (v := .ref (mor 14)) (C := RX7) (T := TX7) (N := 35) hx hb hts hi_X7_lay_7 hown hK hP 0 wM_0 rfl 14 (by decide) (hts (.fieldLink RX7 28 "BlindLanternsModel" "kind" "[I") (List.mem_of_getElem? (i := 5) rfl)) (fun _ h9 => h9) xMf_14 dX7_lay_90 ?_
        refine lv_iload_n hx hb dX7_lay_93 rfl (lv_at hl 0 rfl) ?_
        refine lv_aload_n hx hb dX7_lay_94 rfl (lv_at hl 1 rfl) ?_
        refine va_get (D := D) (ci := 7) (v := .ref (mor 5)) (C := RX7) (T := TX7) (N := 35) hx hb hts hi_X7_lay_7 hown hK hP 0 wM_0 rfl 5 (by decide) (hts (.fieldLink RX7 16 "BlindLanternsModel" "readKind" "[I") (List.mem_of_getElem? (i := 6) rfl)) (fun _ h9 => h9) xMf_5 dX7_lay_95 ?_
        refine lv_iload_n hx hb dX7_lay_98 rfl (lv_at hl 0 rfl) ?_
        by_cases g9 : v83_2 < 0 ∨ 6 ≤ v83_2.toNatClampNeg
        · exact absurd (he.trans (if_pos g9)) hne
        replace he := he.trans (if_neg g9)
        refine va_iald hx hb hK hP 3 0 wM_a5 rfl g9 dX7_lay_99 ?_
        by_cases g10 : v83_2 < 0 ∨ 6 ≤ v83_2.toNatClampNeg
        · exact absurd (he.trans (if_pos g10)) hne
        replace he := he.trans (if_neg g10)
        refine va_iast hx hb hK hP hD hS 7 0 wM_a14 rfl g10 dX7_lay_100 (fun H locs hP hD hS => ?_)
        rw [wM_s14] at hP hD
        refine lv_aload_n hx hb dX7_lay_101 rfl (lv_at hl 1 rfl) ?_
        refine va_get (D := D) (ci := 7) (v := .ref (mor 15)) (C := RX7) (T := TX7) (N := 35) hx hb hts hi_X7_lay_7 hown hK hP 0 wM_0 rfl 15 (by decide) (hts (.fieldLink RX7 31 "BlindLanternsModel" "oil" "[I") (List.mem_of_getElem? (i := 7) rfl)) (fun _ h9 => h9) xMf_15 dX7_lay_102 ?_
        refine lv_iload_n hx hb dX7_lay_105 rfl (lv_at hl 0 rfl) ?_
        refine lv_iload_n hx hb dX7_lay_106 rfl (lv_at hl 0 rfl) ?_
        refine lv_aload_n hx hb dX7_lay_107 rfl (lv_at hl 1 rfl) ?_
        refine va_get (D := D) (ci := 7) (v := .int u1.2.1) (C := RX7) (T := TX7) (N := 35) hx hb hts hi_X7_lay_7 hown hK hP 0 wM_0 rfl 13 (by decide) (hts (.fieldLink RX7 71 "BlindLanternsModel" "men" "I") (List.mem_of_getElem? (i := 4) rfl)) (fun _ h9 => h9) xMf_13 dX7_lay_108 ?_
        refine lv_icmp_ge (tgt := 123) hx hb dX7_lay_111 (by decide) (fun c11 => ?_) (fun c11 => ?_)
        · replace he := he.trans (if_pos c11)
          refine lv_iconst (v := 0) hx hb dX7_lay_123 (by decide) ?_
          by_cases g12 : v83_2 < 0 ∨ 6 ≤ v83_2.toNatClampNeg
          · exact absurd (he.trans (if_pos g12)) hne
          replace he := he.trans (if_neg g12)
          refine va_iast hx hb hK hP hD hS 8 0 wM_a15 rfl g12 dX7_lay_124 (fun H locs hP hD hS => ?_)
          rw [wM_s15] at hP hD
          refine lv_aload_n hx hb dX7_lay_125 rfl (lv_at hl 1 rfl) ?_
          refine va_get (D := D) (ci := 7) (v := .ref (mor 16)) (C := RX7) (T := TX7) (N := 35) hx hb hts hi_X7_lay_7 hown hK hP 0 wM_0 rfl 16 (by decide) (hts (.fieldLink RX7 34 "BlindLanternsModel" "lit" "[I") (List.mem_of_getElem? (i := 9) rfl)) (fun _ h9 => h9) xMf_16 dX7_lay_126 ?_
          refine lv_iload_n hx hb dX7_lay_129 rfl (lv_at hl 0 rfl) ?_
          refine lv_iload_n hx hb dX7_lay_130 rfl (lv_at hl 0 rfl) ?_
          refine lv_aload_n hx hb dX7_lay_131 rfl (lv_at hl 1 rfl) ?_
          refine va_get (D := D) (ci := 7) (v := .int u1.2.1) (C := RX7) (T := TX7) (N := 35) hx hb hts hi_X7_lay_7 hown hK hP 0 wM_0 rfl 13 (by decide) (hts (.fieldLink RX7 71 "BlindLanternsModel" "men" "I") (List.mem_of_getElem? (i := 4) rfl)) (fun _ h9 => h9) xMf_13 dX7_lay_132 ?_
          refine lv_icmp_ge (tgt := 147) hx hb dX7_lay_135 (by decide) (fun c13 => ?_) (fun c13 => ?_)
          · replace he := he.trans (if_pos c13)
            refine lv_iconst (v := 0) hx hb dX7_lay_147 (by decide) ?_
            by_cases g14 : v83_2 < 0 ∨ 6 ≤ v83_2.toNatClampNeg
            · exact absurd (he.trans (if_pos g14)) hne
            replace he := he.trans (if_neg g14)
            refine va_iast hx hb hK hP hD hS 9 0 wM_a16 rfl g14 dX7_lay_148 (fun H locs hP hD hS => ?_)
            rw [wM_s16] at hP hD
            refine lv_iinc (v := (v83_2 + 1)) (lv' := [(2, .int (v83_2 + 1)), (0, .ref mo)]) hx hb dX7_lay_149 hl (k := 0) rfl rfl (by decide) rfl (fun ls hl => ?_)
            refine lv_goto (tgt := 83) hx hb dX7_lay_152 (by decide) ?_
            exact ih83 (v83_2 + 1) (upd w83_mok_14 v83_2.toNatClampNeg (u1.2.2.2.2.2.2.2.1 v83_2.toNatClampNeg)) (upd w83_mok_15 v83_2.toNatClampNeg (0 : Int32)) (upd w83_mok_16 v83_2.toNatClampNeg (0 : Int32)) he _ _ _ hP hD hS (lv_sub hl [0, 1] rfl)
          · replace he := he.trans (if_neg c13)
            refine lv_aload_n hx hb dX7_lay_138 rfl (lv_at hl 1 rfl) ?_
            refine va_get (D := D) (ci := 7) (v := .ref (mor 7)) (C := RX7) (T := TX7) (N := 35) hx hb hts hi_X7_lay_7 hown hK hP 0 wM_0 rfl 7 (by decide) (hts (.fieldLink RX7 22 "BlindLanternsModel" "readLit" "[I") (List.mem_of_getElem? (i := 10) rfl)) (fun _ h9 => h9) xMf_7 dX7_lay_139 ?_
            refine lv_iload_n hx hb dX7_lay_142 rfl (lv_at hl 0 rfl) ?_
            by_cases g15 : v83_2 < 0 ∨ 6 ≤ v83_2.toNatClampNeg
            · exact absurd (he.trans (if_pos g15)) hne
            replace he := he.trans (if_neg g15)
            refine va_iald hx hb hK hP 5 0 wM_a7 rfl g15 dX7_lay_143 ?_
            refine lv_goto (tgt := 148) hx hb dX7_lay_144 (by decide) ?_
            by_cases g16 : v83_2 < 0 ∨ 6 ≤ v83_2.toNatClampNeg
            · exact absurd (he.trans (if_pos g16)) hne
            replace he := he.trans (if_neg g16)
            refine va_iast hx hb hK hP hD hS 9 0 wM_a16 rfl g16 dX7_lay_148 (fun H locs hP hD hS => ?_)
            rw [wM_s16] at hP hD
            refine lv_iinc (v := (v83_2 + 1)) (lv' := [(2, .int (v83_2 + 1)), (0, .ref mo)]) hx hb dX7_lay_149 hl (k := 0) rfl rfl (by decide) rfl (fun ls hl => ?_)
            refine lv_goto (tgt := 83) hx hb dX7_lay_152 (by decide) ?_
            exact ih83 (v83_2 + 1) (upd w83_mok_14 v83_2.toNatClampNeg (u1.2.2.2.2.2.2.2.1 v83_2.toNatClampNeg)) (upd w83_mok_15 v83_2.toNatClampNeg (0 : Int32)) (upd w83_mok_16 v83_2.toNatClampNeg (u1.2.2.2.2.2.2.2.2.2.1 v83_2.toNatClampNeg)) he _ _ _ hP hD hS (lv_sub hl [0, 1] rfl)
        · replace he := he.trans (if_neg c11)
          refine lv_aload_n hx hb dX7_lay_114 rfl (lv_at hl 1 rfl) ?_
          refine va_get (D := D) (ci := 7) (v := .ref (mor 6)) (C := RX7) (T := TX7) (N := 35) hx hb hts hi_X7_lay_7 hown hK hP 0 wM_0 rfl 6 (by decide) (hts (.fieldLink RX7 19 "BlindLanternsModel" "readOil" "[I") (List.mem_of_getElem? (i := 8) rfl)) (fun _ h9 => h9) xMf_6 dX7_lay_115 ?_
          refine lv_iload_n hx hb dX7_lay_118 rfl (lv_at hl 0 rfl) ?_
          by_cases g17 : v83_2 < 0 ∨ 6 ≤ v83_2.toNatClampNeg
          · exact absurd (he.trans (if_pos g17)) hne
          replace he := he.trans (if_neg g17)
          refine va_iald hx hb hK hP 4 0 wM_a6 rfl g17 dX7_lay_119 ?_
          refine lv_goto (tgt := 124) hx hb dX7_lay_120 (by decide) ?_
          by_cases g18 : v83_2 < 0 ∨ 6 ≤ v83_2.toNatClampNeg
          · exact absurd (he.trans (if_pos g18)) hne
          replace he := he.trans (if_neg g18)
          refine va_iast hx hb hK hP hD hS 8 0 wM_a15 rfl g18 dX7_lay_124 (fun H locs hP hD hS => ?_)
          rw [wM_s15] at hP hD
          refine lv_aload_n hx hb dX7_lay_125 rfl (lv_at hl 1 rfl) ?_
          refine va_get (D := D) (ci := 7) (v := .ref (mor 16)) (C := RX7) (T := TX7) (N := 35) hx hb hts hi_X7_lay_7 hown hK hP 0 wM_0 rfl 16 (by decide) (hts (.fieldLink RX7 34 "BlindLanternsModel" "lit" "[I") (List.mem_of_getElem? (i := 9) rfl)) (fun _ h9 => h9) xMf_16 dX7_lay_126 ?_
          refine lv_iload_n hx hb dX7_lay_129 rfl (lv_at hl 0 rfl) ?_
          refine lv_iload_n hx hb dX7_lay_130 rfl (lv_at hl 0 rfl) ?_
          refine lv_aload_n hx hb dX7_lay_131 rfl (lv_at hl 1 rfl) ?_
          refine va_get (D := D) (ci := 7) (v := .int u1.2.1) (C := RX7) (T := TX7) (N := 35) hx hb hts hi_X7_lay_7 hown hK hP 0 wM_0 rfl 13 (by decide) (hts (.fieldLink RX7 71 "BlindLanternsModel" "men" "I") (List.mem_of_getElem? (i := 4) rfl)) (fun _ h9 => h9) xMf_13 dX7_lay_132 ?_
          refine lv_icmp_ge (tgt := 147) hx hb dX7_lay_135 (by decide) (fun c19 => ?_) (fun c19 => ?_)
          · replace he := he.trans (if_pos c19)
            refine lv_iconst (v := 0) hx hb dX7_lay_147 (by decide) ?_
            by_cases g20 : v83_2 < 0 ∨ 6 ≤ v83_2.toNatClampNeg
            · exact absurd (he.trans (if_pos g20)) hne
            replace he := he.trans (if_neg g20)
            refine va_iast hx hb hK hP hD hS 9 0 wM_a16 rfl g20 dX7_lay_148 (fun H locs hP hD hS => ?_)
            rw [wM_s16] at hP hD
            refine lv_iinc (v := (v83_2 + 1)) (lv' := [(2, .int (v83_2 + 1)), (0, .ref mo)]) hx hb dX7_lay_149 hl (k := 0) rfl rfl (by decide) rfl (fun ls hl => ?_)
            refine lv_goto (tgt := 83) hx hb dX7_lay_152 (by decide) ?_
            exact ih83 (v83_2 + 1) (upd w83_mok_14 v83_2.toNatClampNeg (u1.2.2.2.2.2.2.2.1 v83_2.toNatClampNeg)) (upd w83_mok_15 v83_2.toNatClampNeg (u1.2.2.2.2.2.2.2.2.1 v83_2.toNatClampNeg)) (upd w83_mok_16 v83_2.toNatClampNeg (0 : Int32)) he _ _ _ hP hD hS (lv_sub hl [0, 1] rfl)
          · replace he := he.trans (if_neg c19)
            refine lv_aload_n hx hb dX7_lay_138 rfl (lv_at hl 1 rfl) ?_
            refine va_get (D := D) (ci := 7) (v := .ref (mor 7)) (C := RX7) (T := TX7) (N := 35) hx hb hts hi_X7_lay_7 hown hK hP 0 wM_0 rfl 7 (by decide) (hts (.fieldLink RX7 22 "BlindLanternsModel" "readLit" "[I") (List.mem_of_getElem? (i := 10) rfl)) (fun _ h9 => h9) xMf_7 dX7_lay_139 ?_
            refine lv_iload_n hx hb dX7_lay_142 rfl (lv_at hl 0 rfl) ?_
            by_cases g21 : v83_2 < 0 ∨ 6 ≤ v83_2.toNatClampNeg
            · exact absurd (he.trans (if_pos g21)) hne
            replace he := he.trans (if_neg g21)
            refine va_iald hx hb hK hP 5 0 wM_a7 rfl g21 dX7_lay_143 ?_
            refine lv_goto (tgt := 148) hx hb dX7_lay_144 (by decide) ?_
            by_cases g22 : v83_2 < 0 ∨ 6 ≤ v83_2.toNatClampNeg
            · exact absurd (he.trans (if_pos g22)) hne
            replace he := he.trans (if_neg g22)
            refine va_iast hx hb hK hP hD hS 9 0 wM_a16 rfl g22 dX7_lay_148 (fun H locs hP hD hS => ?_)
            rw [wM_s16] at hP hD
            refine lv_iinc (v := (v83_2 + 1)) (lv' := [(2, .int (v83_2 + 1)), (0, .ref mo)]) hx hb dX7_lay_149 hl (k := 0) rfl rfl (by decide) rfl (fun ls hl => ?_)
            refine lv_goto (tgt := 83) hx hb dX7_lay_152 (by decide) ?_
            exact ih83 (v83_2 + 1) (upd w83_mok_14 v83_2.toNatClampNeg (u1.2.2.2.2.2.2.2.1 v83_2.toNatClampNeg)) (upd w83_mok_15 v83_2.toNatClampNeg (u1.2.2.2.2.2.2.2.2.1 v83_2.toNatClampNeg)) (upd w83_mok_16 v83_2.toNatClampNeg (u1.2.2.2.2.2.2.2.2.2.1 v83_2.toNatClampNeg)) he _ _ _ hP hD hS (lv_sub hl [0, 1] rfl)
  have R25_205 : ∀ (u1 : Int32 × Int32 × Int32 × Int32 × Int32 × Int32 × (Nat → Int32) × (Nat → Int32) × (Nat → Int32) × (Nat → Int32) × (Nat → Int32)) (v25_2 : Int32) (v25_1 : Int32), fX7_lay F moi_0 moi_13 moi_17 moi_18 moi_20 moi_21 moi_24 moi_26 moi_28 mok_1 mok_3 mok_5 mok_6 mok_7 mok_10 mok_14 mok_15 mok_16 mok_19 mok_22 = (if v25_1 = 0 then (some ((-2 : Int32), (u1.1, u1.2.1, u1.2.2.1, u1.2.2.2.1, u1.2.2.2.2.1, u1.2.2.2.2.2.1, moi_13, moi_17, moi_18, moi_20, moi_21, moi_24, moi_26, moi_28, u1.2.2.2.2.2.2.1, u1.2.2.2.2.2.2.2.1, u1.2.2.2.2.2.2.2.2.1, u1.2.2.2.2.2.2.2.2.2.1, u1.2.2.2.2.2.2.2.2.2.2, mok_14, mok_15, mok_16, mok_19, mok_22))) else (fX7_lay_L83 u1 (fun (v83_2 : Int32) (w83_mok_14 : Nat → Int32) (w83_mok_15 : Nat → Int32) (w83_mok_16 : Nat → Int32) => fX7_lay_L173 u1 (fun (v173_2 : Int32) (w173_mok_19 : Nat → Int32) => xbd (fX7_begin_now F w83_mok_15 w83_mok_16 mok_22) (fun (u218 : (Nat → Int32)) => some (u1.2.1, (u1.1, u1.2.1, u1.2.2.1, u1.2.2.2.1, u1.2.2.2.2.1, u1.2.2.2.2.2.1, u1.2.1, u1.2.2.1, u1.2.2.2.1, u1.2.2.2.2.1, u1.2.2.2.2.2.1, (0 : Int32), (0 : Int32), (0 : Int32), u1.2.2.2.2.2.2.1, u1.2.2.2.2.2.2.2.1, u1.2.2.2.2.2.2.2.2.1, u1.2.2.2.2.2.2.2.2.2.1, u1.2.2.2.2.2.2.2.2.2.2, w83_mok_14, w83_mok_15, w83_mok_16, w173_mok_19, u218)))) F (0 : Int32) mok_19) F (0 : Int32) mok_14 mok_15 mok_16)) → ∀ (H : Heap) (locs : List Loc) (ls : Array Slot), va_P D vwCl (wM cI mo mor moi_0 u1.1 u1.2.1 u1.2.2.1 u1.2.2.2.1 u1.2.2.2.2.1 u1.2.2.2.2.2.1 moi_13 moi_17 moi_18 moi_20 moi_21 moi_24 moi_26 moi_28 moi_30 moi_31 moi_32 mok_1 u1.2.2.2.2.2.2.1 u1.2.2.2.2.2.2.2.1 u1.2.2.2.2.2.2.2.2.1 u1.2.2.2.2.2.2.2.2.2.1 u1.2.2.2.2.2.2.2.2.2.2 mok_14 mok_15 mok_16 mok_19 mok_22 mok_23 mok_25 mok_27 mok_29 mok_33 mok_34) H → va_D A (wM cI mo mor moi_0 u1.1 u1.2.1 u1.2.2.1 u1.2.2.2.1 u1.2.2.2.2.1 u1.2.2.2.2.2.1 moi_13 moi_17 moi_18 moi_20 moi_21 moi_24 moi_26 moi_28 moi_30 moi_31 moi_32 mok_1 u1.2.2.2.2.2.2.1 u1.2.2.2.2.2.2.2.1 u1.2.2.2.2.2.2.2.2.1 u1.2.2.2.2.2.2.2.2.2.1 u1.2.2.2.2.2.2.2.2.2.2 mok_14 mok_15 mok_16 mok_19 mok_22 mok_23 mok_25 mok_27 mok_29 mok_33 mok_34) → va_S A s.heap H locs → lv_has ls 3 [(1, .int v25_1), (0, .ref mo)] → W p l e ({ frames := 4, cells := 0, slots := 0, locals := 87 } : Room) s m args below meth c H locs 0 0 Q (F0 m 66 ls []) := by
    intro u1 v25_2 v25_1 he H locs ls hP hD hS hl
    refine lv_iload_n hx hb dX7_lay_66 rfl (lv_at hl 0 rfl) ?_
    refine lv_if_ne (tgt := 73) hx hb dX7_lay_67 (by decide) (fun c3 => ?_) (fun c3 => ?_)
    · replace he := he.trans (if_neg c3)
      refine lv_aload_n hx hb dX7_lay_73 rfl (lv_at hl 1 rfl) ?_
      refine lv_aload_n hx hb dX7_lay_74 rfl (lv_at hl 1 rfl) ?_
      refine va_get (D := D) (ci := 7) (v := .int u1.2.1) (C := RX7) (T := TX7) (N := 35) hx hb hts hi_X7_lay_7 hown hK hP 0 wM_0 rfl 4 (by decide) (hts (.fieldLink RX7 96 "BlindLanternsModel" "readMen" "I") (List.mem_of_getElem? (i := 1) rfl)) (fun _ h9 => h9) xMf_4 dX7_lay_75 ?_
      refine va_put (D := D) (ci := 7) (v := .int u1.2.1) (ty := .int) (C := RX7) (T := TX7) (N := 35) hx hb hts hi_X7_lay_7 tyX7 tyX7_ok nmX7 hown hK hP hD hS 0 wM_0 rfl 13 (by decide) (hts (.fieldLink RX7 71 "BlindLanternsModel" "men" "I") (List.mem_of_getElem? (i := 4) rfl)) (fun _ h9 => h9) rfl (by decide +kernel) rfl rfl (Nat.le_of_ble_eq_true rfl) dX7_lay_78 (fun H locs hP hD hS => ?_)
      rw [wM_p13] at hP hD
      refine lv_iconst (v := 0) hx hb dX7_lay_81 (by decide) ?_
      refine lv_istore_n (lv' := [(2, .int (0 : Int32)), (1, .int v25_1), (0, .ref mo)]) hx hb dX7_lay_82 rfl hl (by decide) rfl (fun ls hl => ?_)
      exact L83_81 u1 F (0 : Int32) mok_14 mok_15 mok_16 he _ _ _ hP hD hS (lv_sub hl [0, 2] rfl)
    · replace he := he.trans (if_pos c3)
      refine lv_bipush (v := -2) hx hb dX7_lay_70 (by decide) ?_
      exact hret (-2 : Int32) (u1.1, u1.2.1, u1.2.2.1, u1.2.2.2.1, u1.2.2.2.2.1, u1.2.2.2.2.2.1, moi_13, moi_17, moi_18, moi_20, moi_21, moi_24, moi_26, moi_28, u1.2.2.2.2.2.2.1, u1.2.2.2.2.2.2.2.1, u1.2.2.2.2.2.2.2.2.1, u1.2.2.2.2.2.2.2.2.2.1, u1.2.2.2.2.2.2.2.2.2.2, mok_14, mok_15, mok_16, mok_19, mok_22) _ _ _ _ dX7_lay_72 he hP hD hS
  have L25_221 : ∀ (u1 : Int32 × Int32 × Int32 × Int32 × Int32 × Int32 × (Nat → Int32) × (Nat → Int32) × (Nat → Int32) × (Nat → Int32) × (Nat → Int32)) (n25 : Nat) (v25_2 : Int32) (v25_1 : Int32), fX7_lay F moi_0 moi_13 moi_17 moi_18 moi_20 moi_21 moi_24 moi_26 moi_28 mok_1 mok_3 mok_5 mok_6 mok_7 mok_10 mok_14 mok_15 mok_16 mok_19 mok_22 = fX7_lay_L25 u1 (fun (v25_2 : Int32) (v25_1 : Int32) => if v25_1 = 0 then (some ((-2 : Int32), (u1.1, u1.2.1, u1.2.2.1, u1.2.2.2.1, u1.2.2.2.2.1, u1.2.2.2.2.2.1, moi_13, moi_17, moi_18, moi_20, moi_21, moi_24, moi_26, moi_28, u1.2.2.2.2.2.2.1, u1.2.2.2.2.2.2.2.1, u1.2.2.2.2.2.2.2.2.1, u1.2.2.2.2.2.2.2.2.2.1, u1.2.2.2.2.2.2.2.2.2.2, mok_14, mok_15, mok_16, mok_19, mok_22))) else (fX7_lay_L83 u1 (fun (v83_2 : Int32) (w83_mok_14 : Nat → Int32) (w83_mok_15 : Nat → Int32) (w83_mok_16 : Nat → Int32) => fX7_lay_L173 u1 (fun (v173_2 : Int32) (w173_mok_19 : Nat → Int32) => xbd (fX7_begin_now F w83_mok_15 w83_mok_16 mok_22) (fun (u218 : (Nat → Int32)) => some (u1.2.1, (u1.1, u1.2.1, u1.2.2.1, u1.2.2.2.1, u1.2.2.2.2.1, u1.2.2.2.2.2.1, u1.2.1, u1.2.2.1, u1.2.2.2.1, u1.2.2.2.2.1, u1.2.2.2.2.2.1, (0 : Int32), (0 : Int32), (0 : Int32), u1.2.2.2.2.2.2.1, u1.2.2.2.2.2.2.2.1, u1.2.2.2.2.2.2.2.2.1, u1.2.2.2.2.2.2.2.2.2.1, u1.2.2.2.2.2.2.2.2.2.2, w83_mok_14, w83_mok_15, w83_mok_16, w173_mok_19, u218)))) F (0 : Int32) mok_19) F (0 : Int32) mok_14 mok_15 mok_16)) n25 v25_2 v25_1 → ∀ (H : Heap) (locs : List Loc) (ls : Array Slot), va_P D vwCl (wM cI mo mor moi_0 u1.1 u1.2.1 u1.2.2.1 u1.2.2.2.1 u1.2.2.2.2.1 u1.2.2.2.2.2.1 moi_13 moi_17 moi_18 moi_20 moi_21 moi_24 moi_26 moi_28 moi_30 moi_31 moi_32 mok_1 u1.2.2.2.2.2.2.1 u1.2.2.2.2.2.2.2.1 u1.2.2.2.2.2.2.2.2.1 u1.2.2.2.2.2.2.2.2.2.1 u1.2.2.2.2.2.2.2.2.2.2 mok_14 mok_15 mok_16 mok_19 mok_22 mok_23 mok_25 mok_27 mok_29 mok_33 mok_34) H → va_D A (wM cI mo mor moi_0 u1.1 u1.2.1 u1.2.2.1 u1.2.2.2.1 u1.2.2.2.2.1 u1.2.2.2.2.2.1 moi_13 moi_17 moi_18 moi_20 moi_21 moi_24 moi_26 moi_28 moi_30 moi_31 moi_32 mok_1 u1.2.2.2.2.2.2.1 u1.2.2.2.2.2.2.2.1 u1.2.2.2.2.2.2.2.2.1 u1.2.2.2.2.2.2.2.2.2.1 u1.2.2.2.2.2.2.2.2.2.2 mok_14 mok_15 mok_16 mok_19 mok_22 mok_23 mok_25 mok_27 mok_29 mok_33 mok_34) → va_S A s.heap H locs → lv_has ls 3 [(2, .int v25_2), (1, .int v25_1), (0, .ref mo)] → W p l e ({ frames := 4, cells := 0, slots := 0, locals := 87 } : Room) s m args below meth c H locs 0 0 Q (F0 m 25 ls []) := by
    intro u1 n25
    induction n25 with
    | zero => intro v25_2 v25_1 he; exact absurd he hne
    | succ n25 ih25 =>
      intro v25_2 v25_1 he H locs ls hP hD hS hl
      replace he := he.trans (fX7_lay_L25.eq_2 _ _ _ _ _)
      refine lv_iload_n hx hb dX7_lay_25 rfl (lv_at hl 0 rfl) ?_
      refine lv_aload_n hx hb dX7_lay_26 rfl (lv_at hl 2 rfl) ?_
      refine va_get (D := D) (ci := 7) (v := .int u1.2.2.2.1) (C := RX7) (T := TX7) (N := 35) hx hb hts hi_X7_lay_7 hown hK hP 0 wM_0 rfl 9 (by decide) (hts (.fieldLink RX7 110 "BlindLanternsModel" "readDraughts" "I") (List.mem_of_getElem? (i := 2) rfl)) (fun _ h9 => h9) xMf_9 dX7_lay_27 ?_
      refine lv_icmp_ge (tgt := 66) hx hb dX7_lay_30 (by decide) (fun c23 => ?_) (fun c23 => ?_)
      · replace he := he.trans (if_pos c23)
        exact R25_205 u1 v25_2 v25_1 he _ _ _ hP hD hS (lv_sub hl [1, 2] rfl)
      · replace he := he.trans (if_neg c23)
        refine lv_iload_n hx hb dX7_lay_33 rfl (lv_at hl 1 rfl) ?_
        refine lv_if_eq (tgt := 58) hx hb dX7_lay_34 (by decide) (fun c24 => ?_) (fun c24 => ?_)
        · replace he := he.trans (if_pos c24)
          refine lv_iconst (v := 0) hx hb dX7_lay_58 (by decide) ?_
          refine lv_istore_n (lv' := [(1, .int (0 : Int32)), (2, .int v25_2), (0, .ref mo)]) hx hb dX7_lay_59 rfl hl (by decide) rfl (fun ls hl => ?_)
          refine lv_iinc (v := (v25_2 + 1)) (lv' := [(2, .int (v25_2 + 1)), (1, .int (0 : Int32)), (0, .ref mo)]) hx hb dX7_lay_60 hl (k := 1) rfl rfl (by decide) rfl (fun ls hl => ?_)
          refine lv_goto (tgt := 25) hx hb dX7_lay_63 (by decide) ?_
          exact ih25 (v25_2 + 1) (0 : Int32) he _ _ _ hP hD hS (lv_sub hl [0, 1, 2] rfl)
        · replace he := he.trans (if_neg c24)
          refine lv_aload_n hx hb dX7_lay_37 rfl (lv_at hl 2 rfl) ?_
          refine va_get (D := D) (ci := 7) (v := .ref (mor 10)) (C := RX7) (T := TX7) (N := 35) hx hb hts hi_X7_lay_7 hown hK hP 0 wM_0 rfl 10 (by decide) (hts (.fieldLink RX7 25 "BlindLanternsModel" "readDraught" "[I") (List.mem_of_getElem? (i := 3) rfl)) (fun _ h9 => h9) xMf_10 dX7_lay_38 ?_
          refine lv_iconst (v := 2) hx hb dX7_lay_41 (by decide) ?_
          refine lv_iload_n hx hb dX7_lay_42 rfl (lv_at hl 0 rfl) ?_
          refine lv_imul hx hb dX7_lay_43 ?_
          refine lv_iconst (v := 1) hx hb dX7_lay_44 (by decide) ?_
          refine lv_iadd hx hb dX7_lay_45 ?_
          by_cases g25 : (((2 : Int32) * v25_2) + (1 : Int32)) < 0 ∨ 12 ≤ (((2 : Int32) * v25_2) + (1 : Int32)).toNatClampNeg
          · exact absurd (he.trans (if_pos g25)) hne
          replace he := he.trans (if_neg g25)
          refine va_iald hx hb hK hP 6 0 wM_a10 rfl g25 dX7_lay_46 ?_
          refine lv_aload_n hx hb dX7_lay_47 rfl (lv_at hl 2 rfl) ?_
          refine va_get (D := D) (ci := 7) (v := .int u1.2.1) (C := RX7) (T := TX7) (N := 35) hx hb hts hi_X7_lay_7 hown hK hP 0 wM_0 rfl 4 (by decide) (hts (.fieldLink RX7 96 "BlindLanternsModel" "readMen" "I") (List.mem_of_getElem? (i := 1) rfl)) (fun _ h9 => h9) xMf_4 dX7_lay_48 ?_
          refine lv_icmp_ge (tgt := 58) hx hb dX7_lay_51 (by decide) (fun c26 => ?_) (fun c26 => ?_)
          · replace he := he.trans (if_pos c26)
            refine lv_iconst (v := 0) hx hb dX7_lay_58 (by decide) ?_
            refine lv_istore_n (lv' := [(1, .int (0 : Int32)), (2, .int v25_2), (0, .ref mo)]) hx hb dX7_lay_59 rfl hl (by decide) rfl (fun ls hl => ?_)
            refine lv_iinc (v := (v25_2 + 1)) (lv' := [(2, .int (v25_2 + 1)), (1, .int (0 : Int32)), (0, .ref mo)]) hx hb dX7_lay_60 hl (k := 1) rfl rfl (by decide) rfl (fun ls hl => ?_)
            refine lv_goto (tgt := 25) hx hb dX7_lay_63 (by decide) ?_
            exact ih25 (v25_2 + 1) (0 : Int32) he _ _ _ hP hD hS (lv_sub hl [0, 1, 2] rfl)
          · replace he := he.trans (if_neg c26)
            refine lv_iconst (v := 1) hx hb dX7_lay_54 (by decide) ?_
            refine lv_goto (tgt := 59) hx hb dX7_lay_55 (by decide) ?_
            refine lv_istore_n (lv' := [(1, .int (1 : Int32)), (2, .int v25_2), (0, .ref mo)]) hx hb dX7_lay_59 rfl hl (by decide) rfl (fun ls hl => ?_)
            refine lv_iinc (v := (v25_2 + 1)) (lv' := [(2, .int (v25_2 + 1)), (1, .int (1 : Int32)), (0, .ref mo)]) hx hb dX7_lay_60 hl (k := 1) rfl rfl (by decide) rfl (fun ls hl => ?_)
            refine lv_goto (tgt := 25) hx hb dX7_lay_63 (by decide) ?_
            exact ih25 (v25_2 + 1) (1 : Int32) he _ _ _ hP hD hS (lv_sub hl [0, 1, 2] rfl)
  refine lv_aload_n hx hb dX7_lay_0 rfl (lv_at hl 0 rfl) ?_
  have n1_ : fX7_findFault F moi_0 mok_1 mok_3 mok_5 mok_6 mok_7 mok_10 ≠ none := fun z => hne (he.trans (xbd2_none z))
  refine xciW (va_runV (As := []) (rest := []) ⟨hx, hb, hml, hown, hts⟩ (c_X7_findFault l D cI cP s.heap.size mo mor moi_0 moi_2 moi_4 moi_8 moi_9 moi_11 moi_12 moi_13 moi_17 moi_18 moi_20 moi_21 moi_24 moi_26 moi_28 moi_30 moi_31 moi_32 mok_1 mok_3 mok_5 mok_6 mok_7 mok_10 mok_14 mok_15 mok_16 mok_19 mok_22 mok_23 mok_25 mok_27 mok_29 mok_33 mok_34 F  n1_) (cwV 0 hts gX7_lay_X7_findFault rfl rfl rfl (by decide +kernel) ⟨Nat.le_of_ble_eq_true rfl, Nat.le_of_ble_eq_true rfl⟩) (xPVW hN hK hP hD (ci := 7) (j := 0) rfl wM_0) rfl rfl hl.1 rfl (lv_room (Nat.le_of_ble_eq_true rfl)) dX7_lay_1 ⟨Nat.le_of_ble_eq_true rfl, Nat.le_of_ble_eq_true rfl⟩) hD hS hA (fun r1 u1 H locs hw hP hD hS => ?_)
  have hP : va_P D vwCl (wM cI mo mor moi_0 u1.1 u1.2.1 u1.2.2.1 u1.2.2.2.1 u1.2.2.2.2.1 u1.2.2.2.2.2.1 moi_13 moi_17 moi_18 moi_20 moi_21 moi_24 moi_26 moi_28 moi_30 moi_31 moi_32 mok_1 u1.2.2.2.2.2.2.1 u1.2.2.2.2.2.2.2.1 u1.2.2.2.2.2.2.2.2.1 u1.2.2.2.2.2.2.2.2.2.1 u1.2.2.2.2.2.2.2.2.2.2 mok_14 mok_15 mok_16 mok_19 mok_22 mok_23 mok_25 mok_27 mok_29 mok_33 mok_34) H := hP
  have hD : va_D A (wM cI mo mor moi_0 u1.1 u1.2.1 u1.2.2.1 u1.2.2.2.1 u1.2.2.2.2.1 u1.2.2.2.2.2.1 moi_13 moi_17 moi_18 moi_20 moi_21 moi_24 moi_26 moi_28 moi_30 moi_31 moi_32 mok_1 u1.2.2.2.2.2.2.1 u1.2.2.2.2.2.2.2.1 u1.2.2.2.2.2.2.2.2.1 u1.2.2.2.2.2.2.2.2.2.1 u1.2.2.2.2.2.2.2.2.2.2 mok_14 mok_15 mok_16 mok_19 mok_22 mok_23 mok_25 mok_27 mok_29 mok_33 mok_34) := hD
  replace he := he.trans (xbd2_some hw)
  refine lv_bipush (v := -4) hx hb dX7_lay_4 (by decide) ?_
  refine lv_icmp_ne (tgt := 21) hx hb dX7_lay_6 (by decide) (fun c2 => ?_) (fun c2 => ?_)
  · replace he := he.trans (if_neg c2)
    refine lv_iconst (v := 0) hx hb dX7_lay_21 (by decide) ?_
    refine lv_istore_n (lv' := [(1, .int (0 : Int32)), (0, .ref mo)]) hx hb dX7_lay_22 rfl hl (by decide) rfl (fun ls hl => ?_)
    refine lv_iconst (v := 0) hx hb dX7_lay_23 (by decide) ?_
    refine lv_istore_n (lv' := [(2, .int (0 : Int32)), (1, .int (0 : Int32)), (0, .ref mo)]) hx hb dX7_lay_24 rfl hl (by decide) rfl (fun ls hl => ?_)
    exact L25_221 u1 F (0 : Int32) (0 : Int32) he _ _ _ hP hD hS (lv_sub hl [0, 1, 2] rfl)
  · replace he := he.trans (if_pos c2)
    refine lv_aload_n hx hb dX7_lay_9 rfl (lv_at hl 0 rfl) ?_
    refine va_get (D := D) (ci := 7) (v := .int u1.2.1) (C := RX7) (T := TX7) (N := 35) hx hb hts hi_X7_lay_7 hown hK hP 0 wM_0 rfl 4 (by decide) (hts (.fieldLink RX7 96 "BlindLanternsModel" "readMen" "I") (List.mem_of_getElem? (i := 1) rfl)) (fun _ h9 => h9) xMf_4 dX7_lay_10 ?_
    refine lv_iconst (v := 1) hx hb dX7_lay_13 (by decide) ?_
    refine lv_icmp_le (tgt := 21) hx hb dX7_lay_14 (by decide) (fun c27 => ?_) (fun c27 => ?_)
    · replace he := he.trans (if_pos c27)
      refine lv_iconst (v := 0) hx hb dX7_lay_21 (by decide) ?_
      refine lv_istore_n (lv' := [(1, .int (0 : Int32)), (0, .ref mo)]) hx hb dX7_lay_22 rfl hl (by decide) rfl (fun ls hl => ?_)
      refine lv_iconst (v := 0) hx hb dX7_lay_23 (by decide) ?_
      refine lv_istore_n (lv' := [(2, .int (0 : Int32)), (1, .int (0 : Int32)), (0, .ref mo)]) hx hb dX7_lay_24 rfl hl (by decide) rfl (fun ls hl => ?_)
      exact L25_221 u1 F (0 : Int32) (0 : Int32) he _ _ _ hP hD hS (lv_sub hl [0, 1, 2] rfl)
    · replace he := he.trans (if_neg c27)
      refine lv_iconst (v := 1) hx hb dX7_lay_17 (by decide) ?_
      refine lv_goto (tgt := 22) hx hb dX7_lay_18 (by decide) ?_
      refine lv_istore_n (lv' := [(1, .int (1 : Int32)), (0, .ref mo)]) hx hb dX7_lay_22 rfl hl (by decide) rfl (fun ls hl => ?_)
      refine lv_iconst (v := 0) hx hb dX7_lay_23 (by decide) ?_
      refine lv_istore_n (lv' := [(2, .int (0 : Int32)), (1, .int (1 : Int32)), (0, .ref mo)]) hx hb dX7_lay_24 rfl hl (by decide) rfl (fun ls hl => ?_)
      exact L25_221 u1 F (0 : Int32) (1 : Int32) he _ _ _ hP hD hS (lv_sub hl [0, 1, 2] rfl)

def fX7_write_L30 (moi_0 : Int32) (a1 : Int32) (a2 : Int64) (k30 : Int32 → (Nat → Int32) → Option (Int32 × Int32 × (Nat → Int32))) : Nat → Int32 → (Nat → Int32) → Option (Int32 × Int32 × (Nat → Int32))
  | 0, _, _ => none
  | n30 + 1, v30_4, w30_mok_1 => if a1 ≤ v30_4 then (k30 v30_4 w30_mok_1) else (if (moi_0 + v30_4) < 0 ∨ 300 ≤ (moi_0 + v30_4).toNatClampNeg then none else (fX7_write_L30 moi_0 a1 a2 k30 n30 (v30_4 + 1) (upd w30_mok_1 (moi_0 + v30_4).toNatClampNeg (((a2 >>> (((8 : Int32) * ((a1 - (1 : Int32)) - v30_4)).toInt64 &&& 63)) &&& (255 : Int64)).toInt32))))
def fX7_write (F : Nat) (moi_0 : Int32) (mok_1 : Nat → Int32) (a1 : Int32) (a2 : Int64) : Option (Int32 × Int32 × (Nat → Int32)) :=
  xbd (fX7_in a1 (1 : Int32) (8 : Int32)) (fun (r4 : Int32) => if r4 = 0 then (some ((-1 : Int32), (moi_0, mok_1))) else (if (moi_0 + a1) ≤ (300 : Int32) then (fX7_write_L30 moi_0 a1 a2 (fun (v30_4 : Int32) (w30_mok_1 : Nat → Int32) => some ((moi_0 + a1), ((moi_0 + a1), w30_mok_1))) F (0 : Int32) mok_1) else (some ((-3 : Int32), (moi_0, mok_1)))))
theorem hi_X7_write_7 : ∀ w ∈ wsX70, w ∈ wsX7_write := fun _ h => (List.mem_cons_of_mem _ (List.mem_append_right _ h))
set_option maxHeartbeats 4000000 in
set_option maxRecDepth 100000 in
theorem c_X7_write (l : Launch) (D : va_G) (cI cP : ClassId) (sz : Nat) (mo : Nat) (mor : Nat → Nat) (moi_0 : Int32) (moi_2 : Int32) (moi_4 : Int32) (moi_8 : Int32) (moi_9 : Int32) (moi_11 : Int32) (moi_12 : Int32) (moi_13 : Int32) (moi_17 : Int32) (moi_18 : Int32) (moi_20 : Int32) (moi_21 : Int32) (moi_24 : Int32) (moi_26 : Int32) (moi_28 : Int32) (moi_30 : Int32) (moi_31 : Int32) (moi_32 : Int32) (mok_1 : Nat → Int32) (mok_3 : Nat → Int32) (mok_5 : Nat → Int32) (mok_6 : Nat → Int32) (mok_7 : Nat → Int32) (mok_10 : Nat → Int32) (mok_14 : Nat → Int32) (mok_15 : Nat → Int32) (mok_16 : Nat → Int32) (mok_19 : Nat → Int32) (mok_22 : Nat → Int32) (mok_23 : Nat → Int32) (mok_25 : Nat → Int32) (mok_27 : Nat → Int32) (mok_29 : Nat → Int32) (mok_33 : Nat → Int32) (mok_34 : Nat → Int32) (F : Nat) (a1 : Int32) (a2 : Int64) (hne : fX7_write F moi_0 mok_1 a1 a2 ≠ none) : xMi l yX7_write wsX7_write ({ frames := 1, cells := 0, slots := 0, locals := 22 } : Room) D (xT cI cP) [.ref mo, .int a1, .long a2] (wM cI mo mor moi_0 moi_2 moi_4 moi_8 moi_9 moi_11 moi_12 moi_13 moi_17 moi_18 moi_20 moi_21 moi_24 moi_26 moi_28 moi_30 moi_31 moi_32 mok_1 mok_3 mok_5 mok_6 mok_7 mok_10 mok_14 mok_15 mok_16 mok_19 mok_22 mok_23 mok_25 mok_27 mok_29 mok_33 mok_34) sz (fun r (u : (Int32 × (Nat → Int32))) => fX7_write F moi_0 mok_1 a1 a2 = some (r, u)) (fun u => wM cI mo mor u.1 moi_2 moi_4 moi_8 moi_9 moi_11 moi_12 moi_13 moi_17 moi_18 moi_20 moi_21 moi_24 moi_26 moi_28 moi_30 moi_31 moi_32 u.2 mok_3 mok_5 mok_6 mok_7 mok_10 mok_14 mok_15 mok_16 mok_19 mok_22 mok_23 mok_25 mok_27 mok_29 mok_33 mok_34) 0 0 := by
  refine xMi_of (cc := cX7_write) (maxL := 5) (by decide +kernel) rfl (Nat.le_of_ble_eq_true rfl) ?_
  intro p e s m args below meth c A ls hx hb hml hown hts hname hN hK hA hP hD hS hl Q hret
  have he := fX7_write.eq_1 F moi_0 mok_1 a1 a2
  have hl : lv_has ls 5 [(0, .ref mo), (1, .int a1), (2, .long a2)] := hl
  have R30_0 : ∀ (v30_4 : Int32) (w30_mok_1 : Nat → Int32), fX7_write F moi_0 mok_1 a1 a2 = (some ((moi_0 + a1), ((moi_0 + a1), w30_mok_1))) → ∀ (H : Heap) (locs : List Loc) (ls : Array Slot), va_P D vwCl (wM cI mo mor moi_0 moi_2 moi_4 moi_8 moi_9 moi_11 moi_12 moi_13 moi_17 moi_18 moi_20 moi_21 moi_24 moi_26 moi_28 moi_30 moi_31 moi_32 w30_mok_1 mok_3 mok_5 mok_6 mok_7 mok_10 mok_14 mok_15 mok_16 mok_19 mok_22 mok_23 mok_25 mok_27 mok_29 mok_33 mok_34) H → va_D A (wM cI mo mor moi_0 moi_2 moi_4 moi_8 moi_9 moi_11 moi_12 moi_13 moi_17 moi_18 moi_20 moi_21 moi_24 moi_26 moi_28 moi_30 moi_31 moi_32 w30_mok_1 mok_3 mok_5 mok_6 mok_7 mok_10 mok_14 mok_15 mok_16 mok_19 mok_22 mok_23 mok_25 mok_27 mok_29 mok_33 mok_34) → va_S A s.heap H locs → lv_has ls 5 [(0, .ref mo), (1, .int a1)] → W p l e ({ frames := 1, cells := 0, slots := 0, locals := 22 } : Room) s m args below meth c H locs 0 0 Q (F0 m 70 ls []) := by
    intro v30_4 w30_mok_1 he H locs ls hP hD hS hl
    refine lv_aload_n hx hb dX7_write_70 rfl (lv_at hl 0 rfl) ?_
    refine lv_dup hx hb dX7_write_71 rfl ?_
    refine va_get (D := D) (ci := 7) (v := .int moi_0) (C := RX7) (T := TX7) (N := 35) hx hb hts hi_X7_write_7 hown hK hP 0 wM_0 rfl 0 (by decide) (hts (.fieldLink RX7 88 "BlindLanternsModel" "bytes" "I") (List.mem_of_getElem? (i := 1) rfl)) (fun _ h9 => h9) xMf_0 dX7_write_72 ?_
    refine lv_iload_n hx hb dX7_write_75 rfl (lv_at hl 1 rfl) ?_
    refine lv_iadd hx hb dX7_write_76 ?_
    refine va_put (D := D) (ci := 7) (v := .int (moi_0 + a1)) (ty := .int) (C := RX7) (T := TX7) (N := 35) hx hb hts hi_X7_write_7 tyX7 tyX7_ok nmX7 hown hK hP hD hS 0 wM_0 rfl 0 (by decide) (hts (.fieldLink RX7 88 "BlindLanternsModel" "bytes" "I") (List.mem_of_getElem? (i := 1) rfl)) (fun _ h9 => h9) rfl (by decide +kernel) rfl rfl (Nat.le_of_ble_eq_true rfl) dX7_write_77 (fun H locs hP hD hS => ?_)
    rw [wM_p0] at hP hD
    refine lv_aload_n hx hb dX7_write_80 rfl (lv_at hl 0 rfl) ?_
    refine va_get (D := D) (ci := 7) (v := .int (moi_0 + a1)) (C := RX7) (T := TX7) (N := 35) hx hb hts hi_X7_write_7 hown hK hP 0 wM_0 rfl 0 (by decide) (hts (.fieldLink RX7 88 "BlindLanternsModel" "bytes" "I") (List.mem_of_getElem? (i := 1) rfl)) (fun _ h9 => h9) xMf_0 dX7_write_81 ?_
    exact hret (moi_0 + a1) ((moi_0 + a1), w30_mok_1) _ _ _ _ dX7_write_84 he hP hD hS
  have L30_12 : ∀ (n30 : Nat) (v30_4 : Int32) (w30_mok_1 : Nat → Int32), fX7_write F moi_0 mok_1 a1 a2 = fX7_write_L30 moi_0 a1 a2 (fun (v30_4 : Int32) (w30_mok_1 : Nat → Int32) => some ((moi_0 + a1), ((moi_0 + a1), w30_mok_1))) n30 v30_4 w30_mok_1 → ∀ (H : Heap) (locs : List Loc) (ls : Array Slot), va_P D vwCl (wM cI mo mor moi_0 moi_2 moi_4 moi_8 moi_9 moi_11 moi_12 moi_13 moi_17 moi_18 moi_20 moi_21 moi_24 moi_26 moi_28 moi_30 moi_31 moi_32 w30_mok_1 mok_3 mok_5 mok_6 mok_7 mok_10 mok_14 mok_15 mok_16 mok_19 mok_22 mok_23 mok_25 mok_27 mok_29 mok_33 mok_34) H → va_D A (wM cI mo mor moi_0 moi_2 moi_4 moi_8 moi_9 moi_11 moi_12 moi_13 moi_17 moi_18 moi_20 moi_21 moi_24 moi_26 moi_28 moi_30 moi_31 moi_32 w30_mok_1 mok_3 mok_5 mok_6 mok_7 mok_10 mok_14 mok_15 mok_16 mok_19 mok_22 mok_23 mok_25 mok_27 mok_29 mok_33 mok_34) → va_S A s.heap H locs → lv_has ls 5 [(4, .int v30_4), (0, .ref mo), (1, .int a1), (2, .long a2)] → W p l e ({ frames := 1, cells := 0, slots := 0, locals := 22 } : Room) s m args below meth c H locs 0 0 Q (F0 m 30 ls []) := by
    intro n30
    induction n30 with
    | zero => intro v30_4 w30_mok_1 he; exact absurd he hne
    | succ n30 ih30 =>
      intro v30_4 w30_mok_1 he H locs ls hP hD hS hl
      replace he := he.trans (fX7_write_L30.eq_2 _ _ _ _ _ _ _)
      refine lv_iload hx hb dX7_write_30 (lv_at hl 0 rfl) ?_
      refine lv_iload_n hx hb dX7_write_32 rfl (lv_at hl 2 rfl) ?_
      refine lv_icmp_ge (tgt := 70) hx hb dX7_write_33 (by decide) (fun c4 => ?_) (fun c4 => ?_)
      · replace he := he.trans (if_pos c4)
        exact R30_0 v30_4 w30_mok_1 he _ _ _ hP hD hS (lv_sub hl [1, 2] rfl)
      · replace he := he.trans (if_neg c4)
        refine lv_aload_n hx hb dX7_write_36 rfl (lv_at hl 1 rfl) ?_
        refine va_get (D := D) (ci := 7) (v := .ref (mor 1)) (C := RX7) (T := TX7) (N := 35) hx hb hts hi_X7_write_7 hown hK hP 0 wM_0 rfl 1 (by decide) (hts (.fieldLink RX7 7 "BlindLanternsModel" "text" "[I") (List.mem_of_getElem? (i := 2) rfl)) (fun _ h9 => h9) xMf_1 dX7_write_37 ?_
        refine lv_aload_n hx hb dX7_write_40 rfl (lv_at hl 1 rfl) ?_
        refine va_get (D := D) (ci := 7) (v := .int moi_0) (C := RX7) (T := TX7) (N := 35) hx hb hts hi_X7_write_7 hown hK hP 0 wM_0 rfl 0 (by decide) (hts (.fieldLink RX7 88 "BlindLanternsModel" "bytes" "I") (List.mem_of_getElem? (i := 1) rfl)) (fun _ h9 => h9) xMf_0 dX7_write_41 ?_
        refine lv_iload hx hb dX7_write_44 (lv_at hl 0 rfl) ?_
        refine lv_iadd hx hb dX7_write_46 ?_
        refine lv_lload_n hx hb dX7_write_47 rfl (lv_at hl 3 rfl) ?_
        refine lv_bipush (v := 8) hx hb dX7_write_48 (by decide) ?_
        refine lv_iload_n hx hb dX7_write_50 rfl (lv_at hl 2 rfl) ?_
        refine lv_iconst (v := 1) hx hb dX7_write_51 (by decide) ?_
        refine lv_isub hx hb dX7_write_52 ?_
        refine lv_iload hx hb dX7_write_53 (lv_at hl 0 rfl) ?_
        refine lv_isub hx hb dX7_write_55 ?_
        refine lv_imul hx hb dX7_write_56 ?_
        refine lv_lshr hx hb dX7_write_57 rfl ?_
        refine lv_ldc2 hx hb hown (hts (.constantLong RX7 91 (255)) (List.mem_of_getElem? (i := 3) rfl)) dX7_write_58 ?_
        refine lv_land hx hb dX7_write_61 ?_
        refine lv_l2i hx hb dX7_write_62 rfl ?_
        by_cases g5 : (moi_0 + v30_4) < 0 ∨ 300 ≤ (moi_0 + v30_4).toNatClampNeg
        · exact absurd (he.trans (if_pos g5)) hne
        replace he := he.trans (if_neg g5)
        refine va_iast hx hb hK hP hD hS 1 0 wM_a1 rfl g5 dX7_write_63 (fun H locs hP hD hS => ?_)
        rw [wM_s1] at hP hD
        refine lv_iinc (v := (v30_4 + 1)) (lv' := [(4, .int (v30_4 + 1)), (0, .ref mo), (1, .int a1), (2, .long a2)]) hx hb dX7_write_64 hl (k := 0) rfl rfl (by decide) rfl (fun ls hl => ?_)
        refine lv_goto (tgt := 30) hx hb dX7_write_67 (by decide) ?_
        exact ih30 (v30_4 + 1) (upd w30_mok_1 (moi_0 + v30_4).toNatClampNeg (((a2 >>> (((8 : Int32) * ((a1 - (1 : Int32)) - v30_4)).toInt64 &&& 63)) &&& (255 : Int64)).toInt32)) he _ _ _ hP hD hS (lv_sub hl [0, 1, 2, 3] rfl)
  refine lv_iload_n hx hb dX7_write_0 rfl (lv_at hl 1 rfl) ?_
  refine lv_iconst (v := 1) hx hb dX7_write_1 (by decide) ?_
  refine lv_bipush (v := 8) hx hb dX7_write_2 (by decide) ?_
  have n1_ : fX7_in a1 (1 : Int32) (8 : Int32) ≠ none := fun z => hne (he.trans (xbd_none z))
  refine xci0 (va_runS (As := [.int a1, .int (1 : Int32), .int (8 : Int32)]) (rest := []) ⟨hx, hb, hml, hown, hts⟩ (c_X7_in l D cI cP s.heap.size  a1 (1 : Int32) (8 : Int32) n1_) (va_cwS 3 hts gX7_write_X7_in rfl rfl rfl (by decide +kernel) ⟨Nat.le_of_ble_eq_true rfl, Nat.le_of_ble_eq_true rfl⟩) (xPS0 hN hK) rfl rfl hl.1 rfl (lv_room (Nat.le_of_ble_eq_true rfl)) dX7_write_4 ⟨Nat.le_of_ble_eq_true rfl, Nat.le_of_ble_eq_true rfl⟩) hP hD hS hA (fun r4 u4 H locs hw hP hD hS => ?_)
  replace he := he.trans (xbd_some hw)
  refine lv_if_ne (tgt := 12) hx hb dX7_write_7 (by decide) (fun c2 => ?_) (fun c2 => ?_)
  · replace he := he.trans (if_neg c2)
    refine lv_aload_n hx hb dX7_write_12 rfl (lv_at hl 0 rfl) ?_
    refine va_get (D := D) (ci := 7) (v := .int moi_0) (C := RX7) (T := TX7) (N := 35) hx hb hts hi_X7_write_7 hown hK hP 0 wM_0 rfl 0 (by decide) (hts (.fieldLink RX7 88 "BlindLanternsModel" "bytes" "I") (List.mem_of_getElem? (i := 1) rfl)) (fun _ h9 => h9) xMf_0 dX7_write_13 ?_
    refine lv_iload_n hx hb dX7_write_16 rfl (lv_at hl 1 rfl) ?_
    refine lv_iadd hx hb dX7_write_17 ?_
    refine lv_sipush (v := 300) hx hb dX7_write_18 (by decide) ?_
    refine lv_icmp_le (tgt := 27) hx hb dX7_write_21 (by decide) (fun c3 => ?_) (fun c3 => ?_)
    · replace he := he.trans (if_pos c3)
      refine lv_iconst (v := 0) hx hb dX7_write_27 (by decide) ?_
      refine lv_istore (lv' := [(4, .int (0 : Int32)), (0, .ref mo), (1, .int a1), (2, .long a2)]) hx hb dX7_write_28 hl (by decide) rfl (fun ls hl => ?_)
      exact L30_12 F (0 : Int32) mok_1 he _ _ _ hP hD hS (lv_sub hl [0, 1, 2, 3] rfl)
    · replace he := he.trans (if_neg c3)
      refine lv_bipush (v := -3) hx hb dX7_write_24 (by decide) ?_
      exact hret (-3 : Int32) (moi_0, mok_1) _ _ _ _ dX7_write_26 he hP hD hS
  · replace he := he.trans (if_pos c2)
    refine lv_iconst (v := -1) hx hb dX7_write_10 (by decide) ?_
    exact hret (-1 : Int32) (moi_0, mok_1) _ _ _ _ dX7_write_11 he hP hD hS

def fX7_wipe (moi_0 : Int32) : Option (Int32 × Int32) :=
  some (moi_0, (0 : Int32))
theorem hi_X7_wipe_7 : ∀ w ∈ wsX70, w ∈ wsX7_wipe := fun _ h => (List.mem_cons_of_mem _ (List.mem_append_right _ h))
set_option maxHeartbeats 4000000 in
set_option maxRecDepth 100000 in
theorem c_X7_wipe (l : Launch) (D : va_G) (cI cP : ClassId) (sz : Nat) (mo : Nat) (mor : Nat → Nat) (moi_0 : Int32) (moi_2 : Int32) (moi_4 : Int32) (moi_8 : Int32) (moi_9 : Int32) (moi_11 : Int32) (moi_12 : Int32) (moi_13 : Int32) (moi_17 : Int32) (moi_18 : Int32) (moi_20 : Int32) (moi_21 : Int32) (moi_24 : Int32) (moi_26 : Int32) (moi_28 : Int32) (moi_30 : Int32) (moi_31 : Int32) (moi_32 : Int32) (mok_1 : Nat → Int32) (mok_3 : Nat → Int32) (mok_5 : Nat → Int32) (mok_6 : Nat → Int32) (mok_7 : Nat → Int32) (mok_10 : Nat → Int32) (mok_14 : Nat → Int32) (mok_15 : Nat → Int32) (mok_16 : Nat → Int32) (mok_19 : Nat → Int32) (mok_22 : Nat → Int32) (mok_23 : Nat → Int32) (mok_25 : Nat → Int32) (mok_27 : Nat → Int32) (mok_29 : Nat → Int32) (mok_33 : Nat → Int32) (mok_34 : Nat → Int32) (hne : fX7_wipe moi_0 ≠ none) : xMi l yX7_wipe wsX7_wipe ({ frames := 0, cells := 0, slots := 0, locals := 0 } : Room) D (xT cI cP) [.ref mo] (wM cI mo mor moi_0 moi_2 moi_4 moi_8 moi_9 moi_11 moi_12 moi_13 moi_17 moi_18 moi_20 moi_21 moi_24 moi_26 moi_28 moi_30 moi_31 moi_32 mok_1 mok_3 mok_5 mok_6 mok_7 mok_10 mok_14 mok_15 mok_16 mok_19 mok_22 mok_23 mok_25 mok_27 mok_29 mok_33 mok_34) sz (fun r (u : (Int32)) => fX7_wipe moi_0 = some (r, u)) (fun u => wM cI mo mor u moi_2 moi_4 moi_8 moi_9 moi_11 moi_12 moi_13 moi_17 moi_18 moi_20 moi_21 moi_24 moi_26 moi_28 moi_30 moi_31 moi_32 mok_1 mok_3 mok_5 mok_6 mok_7 mok_10 mok_14 mok_15 mok_16 mok_19 mok_22 mok_23 mok_25 mok_27 mok_29 mok_33 mok_34) 0 0 := by
  refine xMi_of (cc := cX7_wipe) (maxL := 2) (by decide +kernel) rfl (Nat.le_of_ble_eq_true rfl) ?_
  intro p e s m args below meth c A ls hx hb hml hown hts hname hN hK hA hP hD hS hl Q hret
  have he := fX7_wipe.eq_1 moi_0
  have hl : lv_has ls 2 [(0, .ref mo)] := hl
  refine lv_aload_n hx hb dX7_wipe_0 rfl (lv_at hl 0 rfl) ?_
  refine va_get (D := D) (ci := 7) (v := .int moi_0) (C := RX7) (T := TX7) (N := 35) hx hb hts hi_X7_wipe_7 hown hK hP 0 wM_0 rfl 0 (by decide) (hts (.fieldLink RX7 88 "BlindLanternsModel" "bytes" "I") (List.mem_of_getElem? (i := 1) rfl)) (fun _ h9 => h9) xMf_0 dX7_wipe_1 ?_
  refine lv_istore_n (lv' := [(1, .int moi_0), (0, .ref mo)]) hx hb dX7_wipe_4 rfl hl (by decide) rfl (fun ls hl => ?_)
  refine lv_aload_n hx hb dX7_wipe_5 rfl (lv_at hl 1 rfl) ?_
  refine lv_iconst (v := 0) hx hb dX7_wipe_6 (by decide) ?_
  refine va_put (D := D) (ci := 7) (v := .int (0 : Int32)) (ty := .int) (C := RX7) (T := TX7) (N := 35) hx hb hts hi_X7_wipe_7 tyX7 tyX7_ok nmX7 hown hK hP hD hS 0 wM_0 rfl 0 (by decide) (hts (.fieldLink RX7 88 "BlindLanternsModel" "bytes" "I") (List.mem_of_getElem? (i := 1) rfl)) (fun _ h9 => h9) rfl (by decide +kernel) rfl rfl (Nat.le_of_ble_eq_true rfl) dX7_wipe_7 (fun H locs hP hD hS => ?_)
  rw [wM_p0] at hP hD
  refine lv_iload_n hx hb dX7_wipe_10 rfl (lv_at hl 0 rfl) ?_
  exact hret moi_0 (0 : Int32) _ _ _ _ dX7_wipe_11 he hP hD hS
