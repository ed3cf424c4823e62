def fX7_isAsSeen_L16 (moi_20 : Int32) (moi_21 : Int32) (moi_28 : Int32) (moi_32 : Int32) (mok_14 : Nat → Int32) (mok_29 : Nat → Int32) (v4_2 : Int32) (w4_mok_23 : Nat → Int32) (k16 : Int32 → Int32 → Option (Int32 × (Nat → Int32) × (Nat → Int32))) : Nat → Int32 → Int32 → Option (Int32 × (Nat → Int32) × (Nat → Int32))
  | 0, _, _ => none
  | n16 + 1, v16_3, v16_1 => if moi_28 ≤ v16_3 then (k16 v16_3 v16_1) else (if v16_1 = 0 then (fX7_isAsSeen_L16 moi_20 moi_21 moi_28 moi_32 mok_14 mok_29 v4_2 w4_mok_23 k16 n16 (v16_3 + 1) (0 : Int32)) else (if (((3 : Int32) * v16_3) + (1 : Int32)) < 0 ∨ 30 ≤ (((3 : Int32) * v16_3) + (1 : Int32)).toNatClampNeg then none else (if (mok_29 (((3 : Int32) * v16_3) + (1 : Int32)).toNatClampNeg) = v4_2 then (if ((3 : Int32) * v16_3) < 0 ∨ 30 ≤ ((3 : Int32) * v16_3).toNatClampNeg then none else (xbd (fX7_isWarm_tried moi_20 moi_21 moi_32 mok_14 w4_mok_23 (mok_29 ((3 : Int32) * v16_3).toNatClampNeg)) (fun (r55 : Int32) => xbd (fX7_bit r55) (fun (r58 : Int32) => if (((3 : Int32) * v16_3) + (2 : Int32)) < 0 ∨ 30 ≤ (((3 : Int32) * v16_3) + (2 : Int32)).toNatClampNeg then none else (if r58 = (mok_29 (((3 : Int32) * v16_3) + (2 : Int32)).toNatClampNeg) then (fX7_isAsSeen_L16 moi_20 moi_21 moi_28 moi_32 mok_14 mok_29 v4_2 w4_mok_23 k16 n16 (v16_3 + 1) (1 : Int32)) else (fX7_isAsSeen_L16 moi_20 moi_21 moi_28 moi_32 mok_14 mok_29 v4_2 w4_mok_23 k16 n16 (v16_3 + 1) (0 : Int32))))))) else (fX7_isAsSeen_L16 moi_20 moi_21 moi_28 moi_32 mok_14 mok_29 v4_2 w4_mok_23 k16 n16 (v16_3 + 1) (1 : Int32)))))
def fX7_isAsSeen_L4 (moi_13 : Int32) (moi_17 : Int32) (moi_18 : Int32) (moi_20 : Int32) (moi_21 : Int32) (moi_28 : Int32) (moi_30 : Int32) (moi_31 : Int32) (moi_32 : Int32) (mok_14 : Nat → Int32) (mok_19 : Nat → Int32) (mok_29 : Nat → Int32) (F : Nat) (k4 : Int32 → Int32 → (Nat → Int32) → (Nat → Int32) → Option (Int32 × (Nat → Int32) × (Nat → Int32))) : Nat → Int32 → Int32 → (Nat → Int32) → (Nat → Int32) → Option (Int32 × (Nat → Int32) × (Nat → Int32))
  | 0, _, _, _, _ => none
  | n4 + 1, v4_2, v4_1, w4_mok_23, w4_mok_33 => if (61 : Int32) ≤ v4_2 then (k4 v4_2 v4_1 w4_mok_23 w4_mok_33) else (if v4_1 = 0 then (k4 v4_2 v4_1 w4_mok_23 w4_mok_33) else (fX7_isAsSeen_L16 moi_20 moi_21 moi_28 moi_32 mok_14 mok_29 v4_2 w4_mok_23 (fun (v16_3 : Int32) (v16_1 : Int32) => xbd (fX7_ring_tried F moi_13 moi_17 moi_18 moi_30 moi_31 mok_19 w4_mok_23 w4_mok_33) (fun (u91 : (Nat → Int32) × (Nat → Int32)) => fX7_isAsSeen_L4 moi_13 moi_17 moi_18 moi_20 moi_21 moi_28 moi_30 moi_31 moi_32 mok_14 mok_19 mok_29 F k4 n4 (v4_2 + 1) v16_1 u91.1 u91.2)) F (0 : Int32) v4_1))
def fX7_isAsSeen (F : Nat) (moi_13 : Int32) (moi_17 : Int32) (moi_18 : Int32) (moi_20 : Int32) (moi_21 : Int32) (moi_28 : Int32) (moi_30 : Int32) (moi_31 : Int32) (moi_32 : Int32) (mok_14 : Nat → Int32) (mok_19 : Nat → Int32) (mok_23 : Nat → Int32) (mok_29 : Nat → Int32) (mok_33 : Nat → Int32) : Option (Int32 × (Nat → Int32) × (Nat → Int32)) :=
  fX7_isAsSeen_L4 moi_13 moi_17 moi_18 moi_20 moi_21 moi_28 moi_30 moi_31 moi_32 mok_14 mok_19 mok_29 F (fun (v4_2 : Int32) (v4_1 : Int32) (w4_mok_23 : Nat → Int32) (w4_mok_33 : Nat → Int32) => if v4_1 = 0 ∨ v4_1 = 1 then some (v4_1, (w4_mok_23, w4_mok_33)) else none) F (0 : Int32) (1 : Int32) mok_23 mok_33
theorem hi_X7_isAsSeen_7 : ∀ w ∈ wsX70, w ∈ wsX7_isAsSeen := fun _ h => (List.mem_cons_of_mem _ (List.mem_append_right _ h))
set_option maxHeartbeats 4000000 in
set_option maxRecDepth 100000 in
theorem c_X7_isAsSeen (l : Launch) (D : va_G) (cI cP : ClassId) (sz : Nat) (mo : Nat) (mor : Nat → Nat) (moi_0 : Int32) (moi_2 : Int32) (moi_4 : Int32) (moi_8 : Int32) (moi_9 : Int32) (moi_11 : Int32) (moi_12 : Int32) (moi_13 : Int32) (moi_17 : Int32) (moi_18 : Int32) (moi_20 : Int32) (moi_21 : Int32) (moi_24 : Int32) (moi_26 : Int32) (moi_28 : Int32) (moi_30 : Int32) (moi_31 : Int32) (moi_32 : Int32) (mok_1 : Nat → Int32) (mok_3 : Nat → Int32) (mok_5 : Nat → Int32) (mok_6 : Nat → Int32) (mok_7 : Nat → Int32) (mok_10 : Nat → Int32) (mok_14 : Nat → Int32) (mok_15 : Nat → Int32) (mok_16 : Nat → Int32) (mok_19 : Nat → Int32) (mok_22 : Nat → Int32) (mok_23 : Nat → Int32) (mok_25 : Nat → Int32) (mok_27 : Nat → Int32) (mok_29 : Nat → Int32) (mok_33 : Nat → Int32) (mok_34 : Nat → Int32) (F : Nat) (hne : fX7_isAsSeen F moi_13 moi_17 moi_18 moi_20 moi_21 moi_28 moi_30 moi_31 moi_32 mok_14 mok_19 mok_23 mok_29 mok_33 ≠ none) : xMi l yX7_isAsSeen wsX7_isAsSeen ({ frames := 2, cells := 0, slots := 0, locals := 46 } : Room) D (xT cI cP) [.ref mo] (wM cI mo mor moi_0 moi_2 moi_4 moi_8 moi_9 moi_11 moi_12 moi_13 moi_17 moi_18 moi_20 moi_21 moi_24 moi_26 moi_28 moi_30 moi_31 moi_32 mok_1 mok_3 mok_5 mok_6 mok_7 mok_10 mok_14 mok_15 mok_16 mok_19 mok_22 mok_23 mok_25 mok_27 mok_29 mok_33 mok_34) sz (fun r (u : ((Nat → Int32) × (Nat → Int32))) => fX7_isAsSeen F moi_13 moi_17 moi_18 moi_20 moi_21 moi_28 moi_30 moi_31 moi_32 mok_14 mok_19 mok_23 mok_29 mok_33 = some (r, u)) (fun u => wM cI mo mor moi_0 moi_2 moi_4 moi_8 moi_9 moi_11 moi_12 moi_13 moi_17 moi_18 moi_20 moi_21 moi_24 moi_26 moi_28 moi_30 moi_31 moi_32 mok_1 mok_3 mok_5 mok_6 mok_7 mok_10 mok_14 mok_15 mok_16 mok_19 mok_22 u.1 mok_25 mok_27 mok_29 u.2 mok_34) 0 0 := by
  refine xMz_of (cc := cX7_isAsSeen) (maxL := 4) (by decide +kernel) rfl (Nat.le_of_ble_eq_true rfl) ?_
  intro p e s m args below meth c A ls hx hb hml hown hts hname hN hK hA hP hD hS hl Q hret
  have he := fX7_isAsSeen.eq_1 F moi_13 moi_17 moi_18 moi_20 moi_21 moi_28 moi_30 moi_31 moi_32 mok_14 mok_19 mok_23 mok_29 mok_33
  have hl : lv_has ls 4 [(0, .ref mo)] := hl
  have R4_0 : ∀ (v4_2 : Int32) (v4_1 : Int32) (w4_mok_23 : Nat → Int32) (w4_mok_33 : Nat → Int32), fX7_isAsSeen F moi_13 moi_17 moi_18 moi_20 moi_21 moi_28 moi_30 moi_31 moi_32 mok_14 mok_19 mok_23 mok_29 mok_33 = (if v4_1 = 0 ∨ v4_1 = 1 then some (v4_1, (w4_mok_23, w4_mok_33)) else none) → ∀ (H : Heap) (locs : List Loc) (ls : Array Slot), va_P D vwCl (wM cI mo mor moi_0 moi_2 moi_4 moi_8 moi_9 moi_11 moi_12 moi_13 moi_17 moi_18 moi_20 moi_21 moi_24 moi_26 moi_28 moi_30 moi_31 moi_32 mok_1 mok_3 mok_5 mok_6 mok_7 mok_10 mok_14 mok_15 mok_16 mok_19 mok_22 w4_mok_23 mok_25 mok_27 mok_29 w4_mok_33 mok_34) H → va_D A (wM cI mo mor moi_0 moi_2 moi_4 moi_8 moi_9 moi_11 moi_12 moi_13 moi_17 moi_18 moi_20 moi_21 moi_24 moi_26 moi_28 moi_30 moi_31 moi_32 mok_1 mok_3 mok_5 mok_6 mok_7 mok_10 mok_14 mok_15 mok_16 mok_19 mok_22 w4_mok_23 mok_25 mok_27 mok_29 w4_mok_33 mok_34) → va_S A s.heap H locs → lv_has ls 4 [(1, .int v4_1)] → W p l e ({ frames := 2, cells := 0, slots := 0, locals := 46 } : Room) s m args below meth c H locs 0 0 Q (F0 m 100 ls []) := by
    intro v4_2 v4_1 w4_mok_23 w4_mok_33 he H locs ls hP hD hS hl
    refine lv_iload_n hx hb dX7_isAsSeen_100 rfl (lv_at hl 0 rfl) ?_
    by_cases g1 : v4_1 = 0 ∨ v4_1 = 1
    · replace he := he.trans (if_pos g1)
      exact hret v4_1 (w4_mok_23, w4_mok_33) _ _ _ _ dX7_isAsSeen_101 g1 he hP hD hS
    exact absurd (he.trans (if_neg g1)) hne
  have L4_7 : ∀ (n4 : Nat) (v4_2 : Int32) (v4_1 : Int32) (w4_mok_23 : Nat → Int32) (w4_mok_33 : Nat → Int32), fX7_isAsSeen F moi_13 moi_17 moi_18 moi_20 moi_21 moi_28 moi_30 moi_31 moi_32 mok_14 mok_19 mok_23 mok_29 mok_33 = fX7_isAsSeen_L4 moi_13 moi_17 moi_18 moi_20 moi_21 moi_28 moi_30 moi_31 moi_32 mok_14 mok_19 mok_29 F (fun (v4_2 : Int32) (v4_1 : Int32) (w4_mok_23 : Nat → Int32) (w4_mok_33 : Nat → Int32) => if v4_1 = 0 ∨ v4_1 = 1 then some (v4_1, (w4_mok_23, w4_mok_33)) else none) n4 v4_2 v4_1 w4_mok_23 w4_mok_33 → ∀ (H : Heap) (locs : List Loc) (ls : Array Slot), va_P D vwCl (wM cI mo mor moi_0 moi_2 moi_4 moi_8 moi_9 moi_11 moi_12 moi_13 moi_17 moi_18 moi_20 moi_21 moi_24 moi_26 moi_28 moi_30 moi_31 moi_32 mok_1 mok_3 mok_5 mok_6 mok_7 mok_10 mok_14 mok_15 mok_16 mok_19 mok_22 w4_mok_23 mok_25 mok_27 mok_29 w4_mok_33 mok_34) H → va_D A (wM cI mo mor moi_0 moi_2 moi_4 moi_8 moi_9 moi_11 moi_12 moi_13 moi_17 moi_18 moi_20 moi_21 moi_24 moi_26 moi_28 moi_30 moi_31 moi_32 mok_1 mok_3 mok_5 mok_6 mok_7 mok_10 mok_14 mok_15 mok_16 mok_19 mok_22 w4_mok_23 mok_25 mok_27 mok_29 w4_mok_33 mok_34) → va_S A s.heap H locs → lv_has ls 4 [(2, .int v4_2), (1, .int v4_1), (0, .ref mo)] → W p l e ({ frames := 2, cells := 0, slots := 0, locals := 46 } : Room) s m args below meth c H locs 0 0 Q (F0 m 4 ls []) := by
    intro n4
    induction n4 with
    | zero => intro v4_2 v4_1 w4_mok_23 w4_mok_33 he; exact absurd he hne
    | succ n4 ih4 =>
      intro v4_2 v4_1 w4_mok_23 w4_mok_33 he H locs ls hP hD hS hl
      replace he := he.trans (fX7_isAsSeen_L4.eq_2 _ _ _ _ _ _ _ _ _ _ _ _ _ _ _ _ _ _ _)
      refine lv_iload_n hx hb dX7_isAsSeen_4 rfl (lv_at hl 0 rfl) ?_
      refine lv_bipush (v := 61) hx hb dX7_isAsSeen_5 (by decide) ?_
      refine lv_icmp_ge (tgt := 100) hx hb dX7_isAsSeen_7 (by decide) (fun c2 => ?_) (fun c2 => ?_)
      · replace he := he.trans (if_pos c2)
        exact R4_0 v4_2 v4_1 w4_mok_23 w4_mok_33 he _ _ _ hP hD hS (lv_sub hl [1] rfl)
      · replace he := he.trans (if_neg c2)
        refine lv_iload_n hx hb dX7_isAsSeen_10 rfl (lv_at hl 1 rfl) ?_
        refine lv_if_eq (tgt := 100) hx hb dX7_isAsSeen_11 (by decide) (fun c3 => ?_) (fun c3 => ?_)
        · replace he := he.trans (if_pos c3)
          exact R4_0 v4_2 v4_1 w4_mok_23 w4_mok_33 he _ _ _ hP hD hS (lv_sub hl [1] rfl)
        · replace he := he.trans (if_neg c3)
          refine lv_iconst (v := 0) hx hb dX7_isAsSeen_14 (by decide) ?_
          refine lv_istore_n (lv' := [(3, .int (0 : Int32)), (2, .int v4_2), (1, .int v4_1), (0, .ref mo)]) hx hb dX7_isAsSeen_15 rfl hl (by decide) rfl (fun ls hl => ?_)
          have R16 : ∀ (v16_3 : Int32) (v16_1 : Int32), fX7_isAsSeen F moi_13 moi_17 moi_18 moi_20 moi_21 moi_28 moi_30 moi_31 moi_32 mok_14 mok_19 mok_23 mok_29 mok_33 = (xbd (fX7_ring_tried F moi_13 moi_17 moi_18 moi_30 moi_31 mok_19 w4_mok_23 w4_mok_33) (fun (u91 : (Nat → Int32) × (Nat → Int32)) => fX7_isAsSeen_L4 moi_13 moi_17 moi_18 moi_20 moi_21 moi_28 moi_30 moi_31 moi_32 mok_14 mok_19 mok_29 F (fun (v4_2 : Int32) (v4_1 : Int32) (w4_mok_23 : Nat → Int32) (w4_mok_33 : Nat → Int32) => if v4_1 = 0 ∨ v4_1 = 1 then some (v4_1, (w4_mok_23, w4_mok_33)) else none) n4 (v4_2 + 1) v16_1 u91.1 u91.2)) → ∀ (H : Heap) (locs : List Loc) (ls : Array Slot), va_P D vwCl (wM cI mo mor moi_0 moi_2 moi_4 moi_8 moi_9 moi_11 moi_12 moi_13 moi_17 moi_18 moi_20 moi_21 moi_24 moi_26 moi_28 moi_30 moi_31 moi_32 mok_1 mok_3 mok_5 mok_6 mok_7 mok_10 mok_14 mok_15 mok_16 mok_19 mok_22 w4_mok_23 mok_25 mok_27 mok_29 w4_mok_33 mok_34) H → va_D A (wM cI mo mor moi_0 moi_2 moi_4 moi_8 moi_9 moi_11 moi_12 moi_13 moi_17 moi_18 moi_20 moi_21 moi_24 moi_26 moi_28 moi_30 moi_31 moi_32 mok_1 mok_3 mok_5 mok_6 mok_7 mok_10 mok_14 mok_15 mok_16 mok_19 mok_22 w4_mok_23 mok_25 mok_27 mok_29 w4_mok_33 mok_34) → va_S A s.heap H locs → lv_has ls 4 [(2, .int v4_2), (1, .int v16_1), (0, .ref mo)] → W p l e ({ frames := 2, cells := 0, slots := 0, locals := 46 } : Room) s m args below meth c H locs 0 0 Q (F0 m 86 ls []) := by
            intro v16_3 v16_1 he H locs ls hP hD hS hl
            refine lv_aload_n hx hb dX7_isAsSeen_86 rfl (lv_at hl 2 rfl) ?_
            refine lv_aload_n hx hb dX7_isAsSeen_87 rfl (lv_at hl 2 rfl) ?_
            refine va_get (D := D) (ci := 7) (v := .ref (mor 23)) (C := RX7) (T := TX7) (N := 35) hx hb hts hi_X7_isAsSeen_7 hown hK hP 0 wM_0 rfl 23 (by decide) (hts (.fieldLink RX7 43 "BlindLanternsModel" "tried" "[I") (List.mem_of_getElem? (i := 3) rfl)) (fun _ h9 => h9) xMf_23 dX7_isAsSeen_88 ?_
            have n4_ : fX7_ring_tried F moi_13 moi_17 moi_18 moi_30 moi_31 mok_19 w4_mok_23 w4_mok_33 ≠ none := fun z => hne (he.trans (xbd_none z))
            refine xcvW (va_runV (As := [.ref (mor 23)]) (rest := []) ⟨hx, hb, hml, hown, hts⟩ (c_X7_ring_tried l D cI cP H.size mo mor moi_0 moi_2 moi_4 moi_8 moi_9 moi_11 moi_12 moi_13 moi_17 moi_18 moi_20 moi_21 moi_24 moi_26 moi_28 moi_30 moi_31 moi_32 mok_1 mok_3 mok_5 mok_6 mok_7 mok_10 mok_14 mok_15 mok_16 mok_19 mok_22 w4_mok_23 mok_25 mok_27 mok_29 w4_mok_33 mok_34 F  n4_) (cwV 1 hts gX7_isAsSeen_X7_ring rfl rfl rfl (by decide +kernel) ⟨Nat.le_of_ble_eq_true rfl, Nat.le_of_ble_eq_true rfl⟩) (xPVW hN hK hP hD (ci := 7) (j := 0) rfl wM_0) rfl rfl hl.1 rfl (lv_room (Nat.le_of_ble_eq_true rfl)) dX7_isAsSeen_91 ⟨Nat.le_of_ble_eq_true rfl, Nat.le_of_ble_eq_true rfl⟩) hD hS hA (fun u91 H locs hw hP hD hS => ?_)
            have hP : va_P D vwCl (wM cI mo mor moi_0 moi_2 moi_4 moi_8 moi_9 moi_11 moi_12 moi_13 moi_17 moi_18 moi_20 moi_21 moi_24 moi_26 moi_28 moi_30 moi_31 moi_32 mok_1 mok_3 mok_5 mok_6 mok_7 mok_10 mok_14 mok_15 mok_16 mok_19 mok_22 u91.1 mok_25 mok_27 mok_29 u91.2 mok_34) H := hP
            have hD : va_D A (wM cI mo mor moi_0 moi_2 moi_4 moi_8 moi_9 moi_11 moi_12 moi_13 moi_17 moi_18 moi_20 moi_21 moi_24 moi_26 moi_28 moi_30 moi_31 moi_32 mok_1 mok_3 mok_5 mok_6 mok_7 mok_10 mok_14 mok_15 mok_16 mok_19 mok_22 u91.1 mok_25 mok_27 mok_29 u91.2 mok_34) := hD
            replace he := he.trans (xbd_some hw)
            refine lv_iinc (v := (v4_2 + 1)) (lv' := [(2, .int (v4_2 + 1)), (1, .int v16_1), (0, .ref mo)]) hx hb dX7_isAsSeen_94 hl (k := 0) rfl rfl (by decide) rfl (fun ls hl => ?_)
            refine lv_goto (tgt := 4) hx hb dX7_isAsSeen_97 (by decide) ?_
            exact ih4 (v4_2 + 1) v16_1 u91.1 u91.2 he _ _ _ hP hD hS (lv_sub hl [0, 1, 2] rfl)
          have L16 : ∀ (n16 : Nat) (v16_3 : Int32) (v16_1 : Int32), fX7_isAsSeen F moi_13 moi_17 moi_18 moi_20 moi_21 moi_28 moi_30 moi_31 moi_32 mok_14 mok_19 mok_23 mok_29 mok_33 = fX7_isAsSeen_L16 moi_20 moi_21 moi_28 moi_32 mok_14 mok_29 v4_2 w4_mok_23 (fun (v16_3 : Int32) (v16_1 : Int32) => xbd (fX7_ring_tried F moi_13 moi_17 moi_18 moi_30 moi_31 mok_19 w4_mok_23 w4_mok_33) (fun (u91 : (Nat → Int32) × (Nat → Int32)) => fX7_isAsSeen_L4 moi_13 moi_17 moi_18 moi_20 moi_21 moi_28 moi_30 moi_31 moi_32 mok_14 mok_19 mok_29 F (fun (v4_2 : Int32) (v4_1 : Int32) (w4_mok_23 : Nat → Int32) (w4_mok_33 : Nat → Int32) => if v4_1 = 0 ∨ v4_1 = 1 then some (v4_1, (w4_mok_23, w4_mok_33)) else none) n4 (v4_2 + 1) v16_1 u91.1 u91.2)) n16 v16_3 v16_1 → ∀ (H : Heap) (locs : List Loc) (ls : Array Slot), va_P D vwCl (wM cI mo mor moi_0 moi_2 moi_4 moi_8 moi_9 moi_11 moi_12 moi_13 moi_17 moi_18 moi_20 moi_21 moi_24 moi_26 moi_28 moi_30 moi_31 moi_32 mok_1 mok_3 mok_5 mok_6 mok_7 mok_10 mok_14 mok_15 mok_16 mok_19 mok_22 w4_mok_23 mok_25 mok_27 mok_29 w4_mok_33 mok_34) H → va_D A (wM cI mo mor moi_0 moi_2 moi_4 moi_8 moi_9 moi_11 moi_12 moi_13 moi_17 moi_18 moi_20 moi_21 moi_24 moi_26 moi_28 moi_30 moi_31 moi_32 mok_1 mok_3 mok_5 mok_6 mok_7 mok_10 mok_14 mok_15 mok_16 mok_19 mok_22 w4_mok_23 mok_25 mok_27 mok_29 w4_mok_33 mok_34) → va_S A s.heap H locs → lv_has ls 4 [(3, .int v16_3), (2, .int v4_2), (1, .int v16_1), (0, .ref mo)] → W p l e ({ frames := 2, cells := 0, slots := 0, locals := 46 } : Room) s m args below meth c H locs 0 0 Q (F0 m 16 ls []) := by
            intro n16
            induction n16 with
            | zero => intro v16_3 v16_1 he; exact absurd he hne
            | succ n16 ih16 =>
              intro v16_3 v16_1 he H locs ls hP hD hS hl
              replace he := he.trans (fX7_isAsSeen_L16.eq_2 _ _ _ _ _ _ _ _ _ _ _ _)
              refine lv_iload_n hx hb dX7_isAsSeen_16 rfl (lv_at hl 0 rfl) ?_
              refine lv_aload_n hx hb dX7_isAsSeen_17 rfl (lv_at hl 3 rfl) ?_
              refine va_get (D := D) (ci := 7) (v := .int moi_28) (C := RX7) (T := TX7) (N := 35) hx hb hts hi_X7_isAsSeen_7 hown hK hP 0 wM_0 rfl 28 (by decide) (hts (.fieldLink RX7 132 "BlindLanternsModel" "sights" "I") (List.mem_of_getElem? (i := 1) rfl)) (fun _ h9 => h9) xMf_28 dX7_isAsSeen_18 ?_
              refine lv_icmp_ge (tgt := 86) hx hb dX7_isAsSeen_21 (by decide) (fun c5 => ?_) (fun c5 => ?_)
              · replace he := he.trans (if_pos c5)
                exact R16 v16_3 v16_1 he _ _ _ hP hD hS (lv_sub hl [1, 2, 3] rfl)
              · replace he := he.trans (if_neg c5)
                refine lv_iload_n hx hb dX7_isAsSeen_24 rfl (lv_at hl 2 rfl) ?_
                refine lv_if_eq (tgt := 78) hx hb dX7_isAsSeen_25 (by decide) (fun c6 => ?_) (fun c6 => ?_)
                · replace he := he.trans (if_pos c6)
                  refine lv_iconst (v := 0) hx hb dX7_isAsSeen_78 (by decide) ?_
                  refine lv_istore_n (lv' := [(1, .int (0 : Int32)), (3, .int v16_3), (2, .int v4_2), (0, .ref mo)]) hx hb dX7_isAsSeen_79 rfl hl (by decide) rfl (fun ls hl => ?_)
                  refine lv_iinc (v := (v16_3 + 1)) (lv' := [(3, .int (v16_3 + 1)), (1, .int (0 : Int32)), (2, .int v4_2), (0, .ref mo)]) hx hb dX7_isAsSeen_80 hl (k := 1) rfl rfl (by decide) rfl (fun ls hl => ?_)
                  refine lv_goto (tgt := 16) hx hb dX7_isAsSeen_83 (by decide) ?_
                  exact ih16 (v16_3 + 1) (0 : Int32) he _ _ _ hP hD hS (lv_sub hl [0, 2, 1, 3] rfl)
                · replace he := he.trans (if_neg c6)
                  refine lv_aload_n hx hb dX7_isAsSeen_28 rfl (lv_at hl 3 rfl) ?_
                  refine va_get (D := D) (ci := 7) (v := .ref (mor 29)) (C := RX7) (T := TX7) (N := 35) hx hb hts hi_X7_isAsSeen_7 hown hK hP 0 wM_0 rfl 29 (by decide) (hts (.fieldLink RX7 52 "BlindLanternsModel" "sight" "[I") (List.mem_of_getElem? (i := 2) rfl)) (fun _ h9 => h9) xMf_29 dX7_isAsSeen_29 ?_
                  refine lv_iconst (v := 3) hx hb dX7_isAsSeen_32 (by decide) ?_
                  refine lv_iload_n hx hb dX7_isAsSeen_33 rfl (lv_at hl 0 rfl) ?_
                  refine lv_imul hx hb dX7_isAsSeen_34 ?_
                  refine lv_iconst (v := 1) hx hb dX7_isAsSeen_35 (by decide) ?_
                  refine lv_iadd hx hb dX7_isAsSeen_36 ?_
                  by_cases g7 : (((3 : Int32) * v16_3) + (1 : Int32)) < 0 ∨ 30 ≤ (((3 : Int32) * v16_3) + (1 : Int32)).toNatClampNeg
                  · exact absurd (he.trans (if_pos g7)) hne
                  replace he := he.trans (if_neg g7)
                  refine va_iald hx hb hK hP 15 0 wM_a29 rfl g7 dX7_isAsSeen_37 ?_
                  refine lv_iload_n hx hb dX7_isAsSeen_38 rfl (lv_at hl 1 rfl) ?_
                  refine lv_icmp_ne (tgt := 74) hx hb dX7_isAsSeen_39 (by decide) (fun c8 => ?_) (fun c8 => ?_)
                  · replace he := he.trans (if_neg c8)
                    refine lv_iconst (v := 1) hx hb dX7_isAsSeen_74 (by decide) ?_
                    refine lv_goto (tgt := 79) hx hb dX7_isAsSeen_75 (by decide) ?_
                    refine lv_istore_n (lv' := [(1, .int (1 : Int32)), (3, .int v16_3), (2, .int v4_2), (0, .ref mo)]) hx hb dX7_isAsSeen_79 rfl hl (by decide) rfl (fun ls hl => ?_)
                    refine lv_iinc (v := (v16_3 + 1)) (lv' := [(3, .int (v16_3 + 1)), (1, .int (1 : Int32)), (2, .int v4_2), (0, .ref mo)]) hx hb dX7_isAsSeen_80 hl (k := 1) rfl rfl (by decide) rfl (fun ls hl => ?_)
                    refine lv_goto (tgt := 16) hx hb dX7_isAsSeen_83 (by decide) ?_
                    exact ih16 (v16_3 + 1) (1 : Int32) he _ _ _ hP hD hS (lv_sub hl [0, 2, 1, 3] rfl)
                  · replace he := he.trans (if_pos c8)
                    refine lv_aload_n hx hb dX7_isAsSeen_42 rfl (lv_at hl 3 rfl) ?_
                    refine lv_aload_n hx hb dX7_isAsSeen_43 rfl (lv_at hl 3 rfl) ?_
                    refine va_get (D := D) (ci := 7) (v := .ref (mor 23)) (C := RX7) (T := TX7) (N := 35) hx hb hts hi_X7_isAsSeen_7 hown hK hP 0 wM_0 rfl 23 (by decide) (hts (.fieldLink RX7 43 "BlindLanternsModel" "tried" "[I") (List.mem_of_getElem? (i := 3) rfl)) (fun _ h9 => h9) xMf_23 dX7_isAsSeen_44 ?_
                    refine lv_aload_n hx hb dX7_isAsSeen_47 rfl (lv_at hl 3 rfl) ?_
                    refine va_get (D := D) (ci := 7) (v := .ref (mor 29)) (C := RX7) (T := TX7) (N := 35) hx hb hts hi_X7_isAsSeen_7 hown hK hP 0 wM_0 rfl 29 (by decide) (hts (.fieldLink RX7 52 "BlindLanternsModel" "sight" "[I") (List.mem_of_getElem? (i := 2) rfl)) (fun _ h9 => h9) xMf_29 dX7_isAsSeen_48 ?_
                    refine lv_iconst (v := 3) hx hb dX7_isAsSeen_51 (by decide) ?_
                    refine lv_iload_n hx hb dX7_isAsSeen_52 rfl (lv_at hl 0 rfl) ?_
                    refine lv_imul hx hb dX7_isAsSeen_53 ?_
                    by_cases g9 : ((3 : Int32) * v16_3) < 0 ∨ 30 ≤ ((3 : Int32) * v16_3).toNatClampNeg
                    · exact absurd (he.trans (if_pos g9)) hne
                    replace he := he.trans (if_neg g9)
                    refine va_iald hx hb hK hP 15 0 wM_a29 rfl g9 dX7_isAsSeen_54 ?_
                    have n10_ : fX7_isWarm_tried moi_20 moi_21 moi_32 mok_14 w4_mok_23 (mok_29 ((3 : Int32) * v16_3).toNatClampNeg) ≠ none := fun z => hne (he.trans (xbd_none z))
                    refine xciW (va_runV (As := [.ref (mor 23), .int (mok_29 ((3 : Int32) * v16_3).toNatClampNeg)]) (rest := []) ⟨hx, hb, hml, hown, hts⟩ (c_X7_isWarm_tried l D cI cP H.size mo mor moi_0 moi_2 moi_4 moi_8 moi_9 moi_11 moi_12 moi_13 moi_17 moi_18 moi_20 moi_21 moi_24 moi_26 moi_28 moi_30 moi_31 moi_32 mok_1 mok_3 mok_5 mok_6 mok_7 mok_10 mok_14 mok_15 mok_16 mok_19 mok_22 w4_mok_23 mok_25 mok_27 mok_29 w4_mok_33 mok_34 (mok_29 ((3 : Int32) * v16_3).toNatClampNeg) n10_) (cwV 2 hts gX7_isAsSeen_X7_isWarm rfl rfl rfl (by decide +kernel) ⟨Nat.le_of_ble_eq_true rfl, Nat.le_of_ble_eq_true rfl⟩) (xPVW hN hK hP hD (ci := 7) (j := 0) rfl wM_0) rfl rfl hl.1 rfl (lv_room (Nat.le_of_ble_eq_true rfl)) dX7_isAsSeen_55 ⟨Nat.le_of_ble_eq_true rfl, Nat.le_of_ble_eq_true rfl⟩) hD hS hA (fun r55 u55 H locs hw hP hD hS => ?_)
                    have hP : va_P D vwCl (wM cI mo mor moi_0 moi_2 moi_4 moi_8 moi_9 moi_11 moi_12 moi_13 moi_17 moi_18 moi_20 moi_21 moi_24 moi_26 moi_28 moi_30 moi_31 moi_32 mok_1 mok_3 mok_5 mok_6 mok_7 mok_10 mok_14 mok_15 mok_16 mok_19 mok_22 w4_mok_23 mok_25 mok_27 mok_29 w4_mok_33 mok_34) H := hP
                    have hD : va_D A (wM cI mo mor moi_0 moi_2 moi_4 moi_8 moi_9 moi_11 moi_12 moi_13 moi_17 moi_18 moi_20 moi_21 moi_24 moi_26 moi_28 moi_30 moi_31 moi_32 mok_1 mok_3 mok_5 mok_6 mok_7 mok_10 mok_14 mok_15 mok_16 mok_19 mok_22 w4_mok_23 mok_25 mok_27 mok_29 w4_mok_33 mok_34) := hD
                    replace he := he.trans (xbd_some hw)
                    have n11_ : fX7_bit r55 ≠ none := fun z => hne (he.trans (xbd_none z))
                    refine xci0 (va_runS (As := [.int r55]) (rest := []) ⟨hx, hb, hml, hown, hts⟩ (c_X7_bit l D cI cP H.size  r55 n11_) (va_cwS 1 hts gX7_isAsSeen_X7_bit rfl rfl rfl (by decide +kernel) ⟨Nat.le_of_ble_eq_true rfl, Nat.le_of_ble_eq_true rfl⟩) (xPS0 hN hK) rfl rfl hl.1 rfl (lv_room (Nat.le_of_ble_eq_true rfl)) dX7_isAsSeen_58 ⟨Nat.le_of_ble_eq_true rfl, Nat.le_of_ble_eq_true rfl⟩) hP hD hS hA (fun r58 u58 H locs hw hP hD hS => ?_)
                    replace he := he.trans (xbd_some hw)
                    refine lv_aload_n hx hb dX7_isAsSeen_61 rfl (lv_at hl 3 rfl) ?_
                    refine va_get (D := D) (ci := 7) (v := .ref (mor 29)) (C := RX7) (T := TX7) (N := 35) hx hb hts hi_X7_isAsSeen_7 hown hK hP 0 wM_0 rfl 29 (by decide) (hts (.fieldLink RX7 52 "BlindLanternsModel" "sight" "[I") (List.mem_of_getElem? (i := 2) rfl)) (fun _ h9 => h9) xMf_29 dX7_isAsSeen_62 ?_
                    refine lv_iconst (v := 3) hx hb dX7_isAsSeen_65 (by decide) ?_
                    refine lv_iload_n hx hb dX7_isAsSeen_66 rfl (lv_at hl 0 rfl) ?_
                    refine lv_imul hx hb dX7_isAsSeen_67 ?_
                    refine lv_iconst (v := 2) hx hb dX7_isAsSeen_68 (by decide) ?_
                    refine lv_iadd hx hb dX7_isAsSeen_69 ?_
                    by_cases g12 : (((3 : Int32) * v16_3) + (2 : Int32)) < 0 ∨ 30 ≤ (((3 : Int32) * v16_3) + (2 : Int32)).toNatClampNeg
                    · exact absurd (he.trans (if_pos g12)) hne
                    replace he := he.trans (if_neg g12)
                    refine va_iald hx hb hK hP 15 0 wM_a29 rfl g12 dX7_isAsSeen_70 ?_
                    refine lv_icmp_ne (tgt := 78) hx hb dX7_isAsSeen_71 (by decide) (fun c13 => ?_) (fun c13 => ?_)
                    · replace he := he.trans (if_neg c13)
                      refine lv_iconst (v := 0) hx hb dX7_isAsSeen_78 (by decide) ?_
                      refine lv_istore_n (lv' := [(1, .int (0 : Int32)), (3, .int v16_3), (2, .int v4_2), (0, .ref mo)]) hx hb dX7_isAsSeen_79 rfl hl (by decide) rfl (fun ls hl => ?_)
                      refine lv_iinc (v := (v16_3 + 1)) (lv' := [(3, .int (v16_3 + 1)), (1, .int (0 : Int32)), (2, .int v4_2), (0, .ref mo)]) hx hb dX7_isAsSeen_80 hl (k := 1) rfl rfl (by decide) rfl (fun ls hl => ?_)
                      refine lv_goto (tgt := 16) hx hb dX7_isAsSeen_83 (by decide) ?_
                      exact ih16 (v16_3 + 1) (0 : Int32) he _ _ _ hP hD hS (lv_sub hl [0, 2, 1, 3] rfl)
                    · replace he := he.trans (if_pos c13)
                      refine lv_iconst (v := 1) hx hb dX7_isAsSeen_74 (by decide) ?_
                      refine lv_goto (tgt := 79) hx hb dX7_isAsSeen_75 (by decide) ?_
                      refine lv_istore_n (lv' := [(1, .int (1 : Int32)), (3, .int v16_3), (2, .int v4_2), (0, .ref mo)]) hx hb dX7_isAsSeen_79 rfl hl (by decide) rfl (fun ls hl => ?_)
                      refine lv_iinc (v := (v16_3 + 1)) (lv' := [(3, .int (v16_3 + 1)), (1, .int (1 : Int32)), (2, .int v4_2), (0, .ref mo)]) hx hb dX7_isAsSeen_80 hl (k := 1) rfl rfl (by decide) rfl (fun ls hl => ?_)
                      refine lv_goto (tgt := 16) hx hb dX7_isAsSeen_83 (by decide) ?_
                      exact ih16 (v16_3 + 1) (1 : Int32) he _ _ _ hP hD hS (lv_sub hl [0, 2, 1, 3] rfl)
          exact L16 F (0 : Int32) v4_1 he _ _ _ hP hD hS (lv_sub hl [0, 1, 2, 3] rfl)
  refine lv_iconst (v := 1) hx hb dX7_isAsSeen_0 (by decide) ?_
  refine lv_istore_n (lv' := [(1, .int (1 : Int32)), (0, .ref mo)]) hx hb dX7_isAsSeen_1 rfl hl (by decide) rfl (fun ls hl => ?_)
  refine lv_iconst (v := 0) hx hb dX7_isAsSeen_2 (by decide) ?_
  refine lv_istore_n (lv' := [(2, .int (0 : Int32)), (1, .int (1 : Int32)), (0, .ref mo)]) hx hb dX7_isAsSeen_3 rfl hl (by decide) rfl (fun ls hl => ?_)
  exact L4_7 F (0 : Int32) (1 : Int32) mok_23 mok_33 he _ _ _ hP hD hS (lv_sub hl [0, 1, 2] rfl)

def fX7_isAsSeenBy_L10 (moi_13 : Int32) (a1 : Int32) (k10 : Int32 → (Nat → Int32) → Option (Int32 × (Nat → Int32) × (Nat → Int32))) : Nat → Int32 → (Nat → Int32) → Option (Int32 × (Nat → Int32) × (Nat → Int32))
  | 0, _, _ => none
  | n10 + 1, v10_2, w10_mok_23 => if moi_13 ≤ v10_2 then (k10 v10_2 w10_mok_23) else (if ((12 : Int32) + v10_2) < 0 ∨ 19 ≤ ((12 : Int32) + v10_2).toNatClampNeg then none else (fX7_isAsSeenBy_L10 moi_13 a1 k10 n10 (v10_2 + 1) (upd w10_mok_23 ((12 : Int32) + v10_2).toNatClampNeg ((a1 >>> (v10_2 &&& 31)) &&& (1 : Int32)))))
def fX7_isAsSeenBy (F : Nat) (moi_13 : Int32) (moi_17 : Int32) (moi_18 : Int32) (moi_20 : Int32) (moi_21 : Int32) (moi_28 : Int32) (moi_30 : Int32) (moi_31 : Int32) (moi_32 : Int32) (mok_14 : Nat → Int32) (mok_15 : Nat → Int32) (mok_16 : Nat → Int32) (mok_19 : Nat → Int32) (mok_23 : Nat → Int32) (mok_29 : Nat → Int32) (mok_33 : Nat → Int32) (a1 : Int32) : Option (Int32 × (Nat → Int32) × (Nat → Int32)) :=
  xbd (fX7_begin_tried F mok_15 mok_16 mok_23) (fun (u5 : (Nat → Int32)) => fX7_isAsSeenBy_L10 moi_13 a1 (fun (v10_2 : Int32) (w10_mok_23 : Nat → Int32) => xbd2 (fX7_isAsSeen F moi_13 moi_17 moi_18 moi_20 moi_21 moi_28 moi_30 moi_31 moi_32 mok_14 mok_19 w10_mok_23 mok_29 mok_33) (fun (r39 : Int32) (u39 : (Nat → Int32) × (Nat → Int32)) => if r39 = 0 ∨ r39 = 1 then some (r39, (u39.1, u39.2)) else none)) F (0 : Int32) u5)
theorem hi_X7_isAsSeenBy_7 : ∀ w ∈ wsX70, w ∈ wsX7_isAsSeenBy := fun _ h => (List.mem_cons_of_mem _ (List.mem_append_right _ h))
set_option maxHeartbeats 4000000 in
set_option maxRecDepth 100000 in
theorem c_X7_isAsSeenBy (l : Launch) (D : va_G) (cI cP : ClassId) (sz : Nat) (mo : Nat) (mor : Nat → Nat) (moi_0 : Int32) (moi_2 : Int32) (moi_4 : Int32) (moi_8 : Int32) (moi_9 : Int32) (moi_11 : Int32) (moi_12 : Int32) (moi_13 : Int32) (moi_17 : Int32) (moi_18 : Int32) (moi_20 : Int32) (moi_21 : Int32) (moi_24 : Int32) (moi_26 : Int32) (moi_28 : Int32) (moi_30 : Int32) (moi_31 : Int32) (moi_32 : Int32) (mok_1 : Nat → Int32) (mok_3 : Nat → Int32) (mok_5 : Nat → Int32) (mok_6 : Nat → Int32) (mok_7 : Nat → Int32) (mok_10 : Nat → Int32) (mok_14 : Nat → Int32) (mok_15 : Nat → Int32) (mok_16 : Nat → Int32) (mok_19 : Nat → Int32) (mok_22 : Nat → Int32) (mok_23 : Nat → Int32) (mok_25 : Nat → Int32) (mok_27 : Nat → Int32) (mok_29 : Nat → Int32) (mok_33 : Nat → Int32) (mok_34 : Nat → Int32) (F : Nat) (a1 : Int32) (hne : fX7_isAsSeenBy F moi_13 moi_17 moi_18 moi_20 moi_21 moi_28 moi_30 moi_31 moi_32 mok_14 mok_15 mok_16 mok_19 mok_23 mok_29 mok_33 a1 ≠ none) : xMi l yX7_isAsSeenBy wsX7_isAsSeenBy ({ frames := 3, cells := 0, slots := 0, locals := 69 } : Room) D (xT cI cP) [.ref mo, .int a1] (wM cI mo mor moi_0 moi_2 moi_4 moi_8 moi_9 moi_11 moi_12 moi_13 moi_17 moi_18 moi_20 moi_21 moi_24 moi_26 moi_28 moi_30 moi_31 moi_32 mok_1 mok_3 mok_5 mok_6 mok_7 mok_10 mok_14 mok_15 mok_16 mok_19 mok_22 mok_23 mok_25 mok_27 mok_29 mok_33 mok_34) sz (fun r (u : ((Nat → Int32) × (Nat → Int32))) => fX7_isAsSeenBy F moi_13 moi_17 moi_18 moi_20 moi_21 moi_28 moi_30 moi_31 moi_32 mok_14 mok_15 mok_16 mok_19 mok_23 mok_29 mok_33 a1 = some (r, u)) (fun u => wM cI mo mor moi_0 moi_2 moi_4 moi_8 moi_9 moi_11 moi_12 moi_13 moi_17 moi_18 moi_20 moi_21 moi_24 moi_26 moi_28 moi_30 moi_31 moi_32 mok_1 mok_3 mok_5 mok_6 mok_7 mok_10 mok_14 mok_15 mok_16 mok_19 mok_22 u.1 mok_25 mok_27 mok_29 u.2 mok_34) 0 0 := by
  refine xMz_of (cc := cX7_isAsSeenBy) (maxL := 3) (by decide +kernel) rfl (Nat.le_of_ble_eq_true rfl) ?_
  intro p e s m args below meth c A ls hx hb hml hown hts hname hN hK hA hP hD hS hl Q hret
  have he := fX7_isAsSeenBy.eq_1 F moi_13 moi_17 moi_18 moi_20 moi_21 moi_28 moi_30 moi_31 moi_32 mok_14 mok_15 mok_16 mok_19 mok_23 mok_29 mok_33 a1
  have hl : lv_has ls 3 [(0, .ref mo), (1, .int a1)] := hl
  have R10_0 : ∀ (v10_2 : Int32) (w10_mok_23 : Nat → Int32), fX7_isAsSeenBy F moi_13 moi_17 moi_18 moi_20 moi_21 moi_28 moi_30 moi_31 moi_32 mok_14 mok_15 mok_16 mok_19 mok_23 mok_29 mok_33 a1 = (xbd2 (fX7_isAsSeen F moi_13 moi_17 moi_18 moi_20 moi_21 moi_28 moi_30 moi_31 moi_32 mok_14 mok_19 w10_mok_23 mok_29 mok_33) (fun (r39 : Int32) (u39 : (Nat → Int32) × (Nat → Int32)) => if r39 = 0 ∨ r39 = 1 then some (r39, (u39.1, u39.2)) else none)) → ∀ (H : Heap) (locs : List Loc) (ls : Array Slot), va_P D vwCl (wM cI mo mor moi_0 moi_2 moi_4 moi_8 moi_9 moi_11 moi_12 moi_13 moi_17 moi_18 moi_20 moi_21 moi_24 moi_26 moi_28 moi_30 moi_31 moi_32 mok_1 mok_3 mok_5 mok_6 mok_7 mok_10 mok_14 mok_15 mok_16 mok_19 mok_22 w10_mok_23 mok_25 mok_27 mok_29 mok_33 mok_34) H → va_D A (wM cI mo mor moi_0 moi_2 moi_4 moi_8 moi_9 moi_11 moi_12 moi_13 moi_17 moi_18 moi_20 moi_21 moi_24 moi_26 moi_28 moi_30 moi_31 moi_32 mok_1 mok_3 mok_5 mok_6 mok_7 mok_10 mok_14 mok_15 mok_16 mok_19 mok_22 w10_mok_23 mok_25 mok_27 mok_29 mok_33 mok_34) → va_S A s.heap H locs → lv_has ls 3 [(0, .ref mo)] → W p l e ({ frames := 3, cells := 0, slots := 0, locals := 69 } : Room) s m args below meth c H locs 0 0 Q (F0 m 38 ls []) := by
    intro v10_2 w10_mok_23 he H locs ls hP hD hS hl
    refine lv_aload_n hx hb dX7_isAsSeenBy_38 rfl (lv_at hl 0 rfl) ?_
    have n2_ : fX7_isAsSeen F moi_13 moi_17 moi_18 moi_20 moi_21 moi_28 moi_30 moi_31 moi_32 mok_14 mok_19 w10_mok_23 mok_29 mok_33 ≠ none := fun z => hne (he.trans (xbd2_none z))
    refine xciW (va_runV (As := []) (rest := []) ⟨hx, hb, hml, hown, hts⟩ (c_X7_isAsSeen l D cI cP H.size mo mor moi_0 moi_2 moi_4 moi_8 moi_9 moi_11 moi_12 moi_13 moi_17 moi_18 moi_20 moi_21 moi_24 moi_26 moi_28 moi_30 moi_31 moi_32 mok_1 mok_3 mok_5 mok_6 mok_7 mok_10 mok_14 mok_15 mok_16 mok_19 mok_22 w10_mok_23 mok_25 mok_27 mok_29 mok_33 mok_34 F  n2_) (cwV 0 hts gX7_isAsSeenBy_X7_isAsSeen rfl rfl rfl (by decide +kernel) ⟨Nat.le_of_ble_eq_true rfl, Nat.le_of_ble_eq_true rfl⟩) (xPVW hN hK hP hD (ci := 7) (j := 0) rfl wM_0) rfl rfl hl.1 rfl (lv_room (Nat.le_of_ble_eq_true rfl)) dX7_isAsSeenBy_39 ⟨Nat.le_of_ble_eq_true rfl, Nat.le_of_ble_eq_true rfl⟩) hD hS hA (fun r39 u39 H locs hw hP hD hS => ?_)
    have hP : va_P D vwCl (wM cI mo mor moi_0 moi_2 moi_4 moi_8 moi_9 moi_11 moi_12 moi_13 moi_17 moi_18 moi_20 moi_21 moi_24 moi_26 moi_28 moi_30 moi_31 moi_32 mok_1 mok_3 mok_5 mok_6 mok_7 mok_10 mok_14 mok_15 mok_16 mok_19 mok_22 u39.1 mok_25 mok_27 mok_29 u39.2 mok_34) H := hP
    have hD : va_D A (wM cI mo mor moi_0 moi_2 moi_4 moi_8 moi_9 moi_11 moi_12 moi_13 moi_17 moi_18 moi_20 moi_21 moi_24 moi_26 moi_28 moi_30 moi_31 moi_32 mok_1 mok_3 mok_5 mok_6 mok_7 mok_10 mok_14 mok_15 mok_16 mok_19 mok_22 u39.1 mok_25 mok_27 mok_29 u39.2 mok_34) := hD
    replace he := he.trans (xbd2_some hw)
    by_cases g3 : r39 = 0 ∨ r39 = 1
    · replace he := he.trans (if_pos g3)
      exact hret r39 (u39.1, u39.2) _ _ _ _ dX7_isAsSeenBy_42 g3 he hP hD hS
    exact absurd (he.trans (if_neg g3)) hne
  have L10_12 : ∀ (n10 : Nat) (v10_2 : Int32) (w10_mok_23 : Nat → Int32), fX7_isAsSeenBy F moi_13 moi_17 moi_18 moi_20 moi_21 moi_28 moi_30 moi_31 moi_32 mok_14 mok_15 mok_16 mok_19 mok_23 mok_29 mok_33 a1 = fX7_isAsSeenBy_L10 moi_13 a1 (fun (v10_2 : Int32) (w10_mok_23 : Nat → Int32) => xbd2 (fX7_isAsSeen F moi_13 moi_17 moi_18 moi_20 moi_21 moi_28 moi_30 moi_31 moi_32 mok_14 mok_19 w10_mok_23 mok_29 mok_33) (fun (r39 : Int32) (u39 : (Nat → Int32) × (Nat → Int32)) => if r39 = 0 ∨ r39 = 1 then some (r39, (u39.1, u39.2)) else none)) n10 v10_2 w10_mok_23 → ∀ (H : Heap) (locs : List Loc) (ls : Array Slot), va_P D vwCl (wM cI mo mor moi_0 moi_2 moi_4 moi_8 moi_9 moi_11 moi_12 moi_13 moi_17 moi_18 moi_20 moi_21 moi_24 moi_26 moi_28 moi_30 moi_31 moi_32 mok_1 mok_3 mok_5 mok_6 mok_7 mok_10 mok_14 mok_15 mok_16 mok_19 mok_22 w10_mok_23 mok_25 mok_27 mok_29 mok_33 mok_34) H → va_D A (wM cI mo mor moi_0 moi_2 moi_4 moi_8 moi_9 moi_11 moi_12 moi_13 moi_17 moi_18 moi_20 moi_21 moi_24 moi_26 moi_28 moi_30 moi_31 moi_32 mok_1 mok_3 mok_5 mok_6 mok_7 mok_10 mok_14 mok_15 mok_16 mok_19 mok_22 w10_mok_23 mok_25 mok_27 mok_29 mok_33 mok_34) → va_S A s.heap H locs → lv_has ls 3 [(2, .int v10_2), (0, .ref mo), (1, .int a1)] → W p l e ({ frames := 3, cells := 0, slots := 0, locals := 69 } : Room) s m args below meth c H locs 0 0 Q (F0 m 10 ls []) := by
    intro n10
    induction n10 with
    | zero => intro v10_2 w10_mok_23 he; exact absurd he hne
    | succ n10 ih10 =>
      intro v10_2 w10_mok_23 he H locs ls hP hD hS hl
      replace he := he.trans (fX7_isAsSeenBy_L10.eq_2 _ _ _ _ _ _)
      refine lv_iload_n hx hb dX7_isAsSeenBy_10 rfl (lv_at hl 0 rfl) ?_
      refine lv_aload_n hx hb dX7_isAsSeenBy_11 rfl (lv_at hl 1 rfl) ?_
      refine va_get (D := D) (ci := 7) (v := .int moi_13) (C := RX7) (T := TX7) (N := 35) hx hb hts hi_X7_isAsSeenBy_7 hown hK hP 0 wM_0 rfl 13 (by decide) (hts (.fieldLink RX7 71 "BlindLanternsModel" "men" "I") (List.mem_of_getElem? (i := 2) rfl)) (fun _ h9 => h9) xMf_13 dX7_isAsSeenBy_12 ?_
      refine lv_icmp_ge (tgt := 38) hx hb dX7_isAsSeenBy_15 (by decide) (fun c4 => ?_) (fun c4 => ?_)
      · replace he := he.trans (if_pos c4)
        exact R10_0 v10_2 w10_mok_23 he _ _ _ hP hD hS (lv_sub hl [1] rfl)
      · replace he := he.trans (if_neg c4)
        refine lv_aload_n hx hb dX7_isAsSeenBy_18 rfl (lv_at hl 1 rfl) ?_
        refine va_get (D := D) (ci := 7) (v := .ref (mor 23)) (C := RX7) (T := TX7) (N := 35) hx hb hts hi_X7_isAsSeenBy_7 hown hK hP 0 wM_0 rfl 23 (by decide) (hts (.fieldLink RX7 43 "BlindLanternsModel" "tried" "[I") (List.mem_of_getElem? (i := 1) rfl)) (fun _ h9 => h9) xMf_23 dX7_isAsSeenBy_19 ?_
        refine lv_bipush (v := 12) hx hb dX7_isAsSeenBy_22 (by decide) ?_
        refine lv_iload_n hx hb dX7_isAsSeenBy_24 rfl (lv_at hl 0 rfl) ?_
        refine lv_iadd hx hb dX7_isAsSeenBy_25 ?_
        refine lv_iload_n hx hb dX7_isAsSeenBy_26 rfl (lv_at hl 2 rfl) ?_
        refine lv_iload_n hx hb dX7_isAsSeenBy_27 rfl (lv_at hl 0 rfl) ?_
        refine lv_ishr hx hb dX7_isAsSeenBy_28 ?_
        refine lv_iconst (v := 1) hx hb dX7_isAsSeenBy_29 (by decide) ?_
        refine lv_iand hx hb dX7_isAsSeenBy_30 ?_
        by_cases g5 : ((12 : Int32) + v10_2) < 0 ∨ 19 ≤ ((12 : Int32) + v10_2).toNatClampNeg
        · exact absurd (he.trans (if_pos g5)) hne
        replace he := he.trans (if_neg g5)
        refine va_iast hx hb hK hP hD hS 12 0 wM_a23 rfl g5 dX7_isAsSeenBy_31 (fun H locs hP hD hS => ?_)
        rw [wM_s23] at hP hD
        refine lv_iinc (v := (v10_2 + 1)) (lv' := [(2, .int (v10_2 + 1)), (0, .ref mo), (1, .int a1)]) hx hb dX7_isAsSeenBy_32 hl (k := 0) rfl rfl (by decide) rfl (fun ls hl => ?_)
        refine lv_goto (tgt := 10) hx hb dX7_isAsSeenBy_35 (by decide) ?_
        exact ih10 (v10_2 + 1) (upd w10_mok_23 ((12 : Int32) + v10_2).toNatClampNeg ((a1 >>> (v10_2 &&& 31)) &&& (1 : Int32))) he _ _ _ hP hD hS (lv_sub hl [0, 1, 2] rfl)
  refine lv_aload_n hx hb dX7_isAsSeenBy_0 rfl (lv_at hl 0 rfl) ?_
  refine lv_aload_n hx hb dX7_isAsSeenBy_1 rfl (lv_at hl 0 rfl) ?_
  refine va_get (D := D) (ci := 7) (v := .ref (mor 23)) (C := RX7) (T := TX7) (N := 35) hx hb hts hi_X7_isAsSeenBy_7 hown hK hP 0 wM_0 rfl 23 (by decide) (hts (.fieldLink RX7 43 "BlindLanternsModel" "tried" "[I") (List.mem_of_getElem? (i := 1) rfl)) (fun _ h9 => h9) xMf_23 dX7_isAsSeenBy_2 ?_
  have n1_ : fX7_begin_tried F mok_15 mok_16 mok_23 ≠ none := fun z => hne (he.trans (xbd_none z))
  refine xcvW (va_runV (As := [.ref (mor 23)]) (rest := []) ⟨hx, hb, hml, hown, hts⟩ (c_X7_begin_tried l D cI cP s.heap.size mo mor moi_0 moi_2 moi_4 moi_8 moi_9 moi_11 moi_12 moi_13 moi_17 moi_18 moi_20 moi_21 moi_24 moi_26 moi_28 moi_30 moi_31 moi_32 mok_1 mok_3 mok_5 mok_6 mok_7 mok_10 mok_14 mok_15 mok_16 mok_19 mok_22 mok_23 mok_25 mok_27 mok_29 mok_33 mok_34 F  n1_) (cwV 1 hts gX7_isAsSeenBy_X7_begin rfl rfl rfl (by decide +kernel) ⟨Nat.le_of_ble_eq_true rfl, Nat.le_of_ble_eq_true rfl⟩) (xPVW hN hK hP hD (ci := 7) (j := 0) rfl wM_0) rfl rfl hl.1 rfl (lv_room (Nat.le_of_ble_eq_true rfl)) dX7_isAsSeenBy_5 ⟨Nat.le_of_ble_eq_true rfl, Nat.le_of_ble_eq_true rfl⟩) hD hS hA (fun u5 H locs hw hP hD hS => ?_)
  have hP : va_P D vwCl (wM cI mo mor moi_0 moi_2 moi_4 moi_8 moi_9 moi_11 moi_12 moi_13 moi_17 moi_18 moi_20 moi_21 moi_24 moi_26 moi_28 moi_30 moi_31 moi_32 mok_1 mok_3 mok_5 mok_6 mok_7 mok_10 mok_14 mok_15 mok_16 mok_19 mok_22 u5 mok_25 mok_27 mok_29 mok_33 mok_34) H := hP
  have hD : va_D A (wM cI mo mor moi_0 moi_2 moi_4 moi_8 moi_9 moi_11 moi_12 moi_13 moi_17 moi_18 moi_20 moi_21 moi_24 moi_26 moi_28 moi_30 moi_31 moi_32 mok_1 mok_3 mok_5 mok_6 mok_7 mok_10 mok_14 mok_15 mok_16 mok_19 mok_22 u5 mok_25 mok_27 mok_29 mok_33 mok_34) := hD
  replace he := he.trans (xbd_some hw)
  refine lv_iconst (v := 0) hx hb dX7_isAsSeenBy_8 (by decide) ?_
  refine lv_istore_n (lv' := [(2, .int (0 : Int32)), (0, .ref mo), (1, .int a1)]) hx hb dX7_isAsSeenBy_9 rfl hl (by decide) rfl (fun ls hl => ?_)
  exact L10_12 F (0 : Int32) u5 he _ _ _ hP hD hS (lv_sub hl [0, 1, 2] rfl)

def fX7_oiled_L4 (moi_13 : Int32) (mok_15 : Nat → Int32) (k4 : Int32 → Int32 → Option (Int32)) : Nat → Int32 → Int32 → Option (Int32)
  | 0, _, _ => none
  | n4 + 1, v4_2, v4_1 => if moi_13 ≤ v4_2 then (k4 v4_2 v4_1) else (if v4_2 < 0 ∨ 6 ≤ v4_2.toNatClampNeg then none else (if (mok_15 v4_2.toNatClampNeg) ≤ 0 then (fX7_oiled_L4 moi_13 mok_15 k4 n4 (v4_2 + 1) (v4_1 ||| (0 : Int32))) else (fX7_oiled_L4 moi_13 mok_15 k4 n4 (v4_2 + 1) (v4_1 ||| ((1 : Int32) <<< (v4_2 &&& 31))))))
def fX7_oiled (F : Nat) (moi_13 : Int32) (mok_15 : Nat → Int32) : Option (Int32) :=
  fX7_oiled_L4 moi_13 mok_15 (fun (v4_2 : Int32) (v4_1 : Int32) => some v4_1) F (0 : Int32) (0 : Int32)
theorem hi_X7_oiled_7 : ∀ w ∈ wsX70, w ∈ wsX7_oiled := fun _ h => (List.mem_cons_of_mem _ (List.mem_append_right _ h))
set_option maxHeartbeats 4000000 in
set_option maxRecDepth 100000 in
theorem c_X7_oiled (l : Launch) (D : va_G) (cI cP : ClassId) (sz : Nat) (mo : Nat) (mor : Nat → Nat) (moi_0 : Int32) (moi_2 : Int32) (moi_4 : Int32) (moi_8 : Int32) (moi_9 : Int32) (moi_11 : Int32) (moi_12 : Int32) (moi_13 : Int32) (moi_17 : Int32) (moi_18 : Int32) (moi_20 : Int32) (moi_21 : Int32) (moi_24 : Int32) (moi_26 : Int32) (moi_28 : Int32) (moi_30 : Int32) (moi_31 : Int32) (moi_32 : Int32) (mok_1 : Nat → Int32) (mok_3 : Nat → Int32) (mok_5 : Nat → Int32) (mok_6 : Nat → Int32) (mok_7 : Nat → Int32) (mok_10 : Nat → Int32) (mok_14 : Nat → Int32) (mok_15 : Nat → Int32) (mok_16 : Nat → Int32) (mok_19 : Nat → Int32) (mok_22 : Nat → Int32) (mok_23 : Nat → Int32) (mok_25 : Nat → Int32) (mok_27 : Nat → Int32) (mok_29 : Nat → Int32) (mok_33 : Nat → Int32) (mok_34 : Nat → Int32) (F : Nat) (hne : fX7_oiled F moi_13 mok_15 ≠ none) : xMi l yX7_oiled wsX7_oiled ({ frames := 0, cells := 0, slots := 0, locals := 0 } : Room) D (xT cI cP) [.ref mo] (wM cI mo mor moi_0 moi_2 moi_4 moi_8 moi_9 moi_11 moi_12 moi_13 moi_17 moi_18 moi_20 moi_21 moi_24 moi_26 moi_28 moi_30 moi_31 moi_32 mok_1 mok_3 mok_5 mok_6 mok_7 mok_10 mok_14 mok_15 mok_16 mok_19 mok_22 mok_23 mok_25 mok_27 mok_29 mok_33 mok_34) sz (fun r (_ : Unit) => fX7_oiled F moi_13 mok_15 = some r) (fun u => wM cI mo mor moi_0 moi_2 moi_4 moi_8 moi_9 moi_11 moi_12 moi_13 moi_17 moi_18 moi_20 moi_21 moi_24 moi_26 moi_28 moi_30 moi_31 moi_32 mok_1 mok_3 mok_5 mok_6 mok_7 mok_10 mok_14 mok_15 mok_16 mok_19 mok_22 mok_23 mok_25 mok_27 mok_29 mok_33 mok_34) 0 0 := by
  refine xMi_of (cc := cX7_oiled) (maxL := 3) (by decide +kernel) rfl (Nat.le_of_ble_eq_true rfl) ?_
  intro p e s m args below meth c A ls hx hb hml hown hts hname hN hK hA hP hD hS hl Q hret
  have he := fX7_oiled.eq_1 F moi_13 mok_15
  have hl : lv_has ls 3 [(0, .ref mo)] := hl
  have R4_0 : ∀ (v4_2 : Int32) (v4_1 : Int32), fX7_oiled F moi_13 mok_15 = (some v4_1) → ∀ (H : Heap) (locs : List Loc) (ls : Array Slot), va_P D vwCl (wM cI mo mor moi_0 moi_2 moi_4 moi_8 moi_9 moi_11 moi_12 moi_13 moi_17 moi_18 moi_20 moi_21 moi_24 moi_26 moi_28 moi_30 moi_31 moi_32 mok_1 mok_3 mok_5 mok_6 mok_7 mok_10 mok_14 mok_15 mok_16 mok_19 mok_22 mok_23 mok_25 mok_27 mok_29 mok_33 mok_34) H → va_D A (wM cI mo mor moi_0 moi_2 moi_4 moi_8 moi_9 moi_11 moi_12 moi_13 moi_17 moi_18 moi_20 moi_21 moi_24 moi_26 moi_28 moi_30 moi_31 moi_32 mok_1 mok_3 mok_5 mok_6 mok_7 mok_10 mok_14 mok_15 mok_16 mok_19 mok_22 mok_23 mok_25 mok_27 mok_29 mok_33 mok_34) → va_S A s.heap H locs → lv_has ls 3 [(1, .int v4_1)] → W p l e ({ frames := 0, cells := 0, slots := 0, locals := 0 } : Room) s m args below meth c H locs 0 0 Q (F0 m 37 ls []) := by
    intro v4_2 v4_1 he H locs ls hP hD hS hl
    refine lv_iload_n hx hb dX7_oiled_37 rfl (lv_at hl 0 rfl) ?_
    exact hret v4_1 () _ _ _ _ dX7_oiled_38 he hP hD hS
  have L4_4 : ∀ (n4 : Nat) (v4_2 : Int32) (v4_1 : Int32), fX7_oiled F moi_13 mok_15 = fX7_oiled_L4 moi_13 mok_15 (fun (v4_2 : Int32) (v4_1 : Int32) => some v4_1) n4 v4_2 v4_1 → ∀ (H : Heap) (locs : List Loc) (ls : Array Slot), va_P D vwCl (wM cI mo mor moi_0 moi_2 moi_4 moi_8 moi_9 moi_11 moi_12 moi_13 moi_17 moi_18 moi_20 moi_21 moi_24 moi_26 moi_28 moi_30 moi_31 moi_32 mok_1 mok_3 mok_5 mok_6 mok_7 mok_10 mok_14 mok_15 mok_16 mok_19 mok_22 mok_23 mok_25 mok_27 mok_29 mok_33 mok_34) H → va_D A (wM cI mo mor moi_0 moi_2 moi_4 moi_8 moi_9 moi_11 moi_12 moi_13 moi_17 moi_18 moi_20 moi_21 moi_24 moi_26 moi_28 moi_30 moi_31 moi_32 mok_1 mok_3 mok_5 mok_6 mok_7 mok_10 mok_14 mok_15 mok_16 mok_19 mok_22 mok_23 mok_25 mok_27 mok_29 mok_33 mok_34) → va_S A s.heap H locs → lv_has ls 3 [(2, .int v4_2), (1, .int v4_1), (0, .ref mo)] → W p l e ({ frames := 0, cells := 0, slots := 0, locals := 0 } : Room) s m args below meth c H locs 0 0 Q (F0 m 4 ls []) := by
    intro n4
    induction n4 with
    | zero => intro v4_2 v4_1 he; exact absurd he hne
    | succ n4 ih4 =>
      intro v4_2 v4_1 he H locs ls hP hD hS hl
      replace he := he.trans (fX7_oiled_L4.eq_2 _ _ _ _ _ _)
      refine lv_iload_n hx hb dX7_oiled_4 rfl (lv_at hl 0 rfl) ?_
      refine lv_aload_n hx hb dX7_oiled_5 rfl (lv_at hl 2 rfl) ?_
      refine va_get (D := D) (ci := 7) (v := .int moi_13) (C := RX7) (T := TX7) (N := 35) hx hb hts hi_X7_oiled_7 hown hK hP 0 wM_0 rfl 13 (by decide) (hts (.fieldLink RX7 71 "BlindLanternsModel" "men" "I") (List.mem_of_getElem? (i := 1) rfl)) (fun _ h9 => h9) xMf_13 dX7_oiled_6 ?_
      refine lv_icmp_ge (tgt := 37) hx hb dX7_oiled_9 (by decide) (fun c1 => ?_) (fun c1 => ?_)
      · replace he := he.trans (if_pos c1)
        exact R4_0 v4_2 v4_1 he _ _ _ hP hD hS (lv_sub hl [1] rfl)
      · replace he := he.trans (if_neg c1)
        refine lv_iload_n hx hb dX7_oiled_12 rfl (lv_at hl 1 rfl) ?_
        refine lv_aload_n hx hb dX7_oiled_13 rfl (lv_at hl 2 rfl) ?_
        refine va_get (D := D) (ci := 7) (v := .ref (mor 15)) (C := RX7) (T := TX7) (N := 35) hx hb hts hi_X7_oiled_7 hown hK hP 0 wM_0 rfl 15 (by decide) (hts (.fieldLink RX7 31 "BlindLanternsModel" "oil" "[I") (List.mem_of_getElem? (i := 2) rfl)) (fun _ h9 => h9) xMf_15 dX7_oiled_14 ?_
        refine lv_iload_n hx hb dX7_oiled_17 rfl (lv_at hl 0 rfl) ?_
        by_cases g2 : v4_2 < 0 ∨ 6 ≤ v4_2.toNatClampNeg
        · exact absurd (he.trans (if_pos g2)) hne
        replace he := he.trans (if_neg g2)
        refine va_iald hx hb hK hP 8 0 wM_a15 rfl g2 dX7_oiled_18 ?_
        refine lv_if_le (tgt := 28) hx hb dX7_oiled_19 (by decide) (fun c3 => ?_) (fun c3 => ?_)
        · replace he := he.trans (if_pos c3)
          refine lv_iconst (v := 0) hx hb dX7_oiled_28 (by decide) ?_
          refine lv_ior hx hb dX7_oiled_29 ?_
          refine lv_istore_n (lv' := [(1, .int (v4_1 ||| (0 : Int32))), (2, .int v4_2), (0, .ref mo)]) hx hb dX7_oiled_30 rfl hl (by decide) rfl (fun ls hl => ?_)
          refine lv_iinc (v := (v4_2 + 1)) (lv' := [(2, .int (v4_2 + 1)), (1, .int (v4_1 ||| (0 : Int32))), (0, .ref mo)]) hx hb dX7_oiled_31 hl (k := 1) rfl rfl (by decide) rfl (fun ls hl => ?_)
          refine lv_goto (tgt := 4) hx hb dX7_oiled_34 (by decide) ?_
          exact ih4 (v4_2 + 1) (v4_1 ||| (0 : Int32)) he _ _ _ hP hD hS (lv_sub hl [0, 1, 2] rfl)
        · replace he := he.trans (if_neg c3)
          refine lv_iconst (v := 1) hx hb dX7_oiled_22 (by decide) ?_
          refine lv_iload_n hx hb dX7_oiled_23 rfl (lv_at hl 0 rfl) ?_
          refine lv_ishl hx hb dX7_oiled_24 ?_
          refine lv_goto (tgt := 29) hx hb dX7_oiled_25 (by decide) ?_
          refine lv_ior hx hb dX7_oiled_29 ?_
          refine lv_istore_n (lv' := [(1, .int (v4_1 ||| ((1 : Int32) <<< (v4_2 &&& 31)))), (2, .int v4_2), (0, .ref mo)]) hx hb dX7_oiled_30 rfl hl (by decide) rfl (fun ls hl => ?_)
          refine lv_iinc (v := (v4_2 + 1)) (lv' := [(2, .int (v4_2 + 1)), (1, .int (v4_1 ||| ((1 : Int32) <<< (v4_2 &&& 31)))), (0, .ref mo)]) hx hb dX7_oiled_31 hl (k := 1) rfl rfl (by decide) rfl (fun ls hl => ?_)
          refine lv_goto (tgt := 4) hx hb dX7_oiled_34 (by decide) ?_
          exact ih4 (v4_2 + 1) (v4_1 ||| ((1 : Int32) <<< (v4_2 &&& 31))) he _ _ _ hP hD hS (lv_sub hl [0, 1, 2] rfl)
  refine lv_iconst (v := 0) hx hb dX7_oiled_0 (by decide) ?_
  refine lv_istore_n (lv' := [(1, .int (0 : Int32)), (0, .ref mo)]) hx hb dX7_oiled_1 rfl hl (by decide) rfl (fun ls hl => ?_)
  refine lv_iconst (v := 0) hx hb dX7_oiled_2 (by decide) ?_
  refine lv_istore_n (lv' := [(2, .int (0 : Int32)), (1, .int (0 : Int32)), (0, .ref mo)]) hx hb dX7_oiled_3 rfl hl (by decide) rfl (fun ls hl => ?_)
  exact L4_4 F (0 : Int32) (0 : Int32) he _ _ _ hP hD hS (lv_sub hl [0, 1, 2] rfl)

def fX7_fitsWith_L4 (moi_13 : Int32) (moi_17 : Int32) (moi_18 : Int32) (moi_20 : Int32) (moi_21 : Int32) (moi_28 : Int32) (moi_30 : Int32) (moi_31 : Int32) (moi_32 : Int32) (mok_14 : Nat → Int32) (mok_15 : Nat → Int32) (mok_16 : Nat → Int32) (mok_19 : Nat → Int32) (mok_29 : Nat → Int32) (a1 : Int32) (F : Nat) (k4 : Int32 → Int32 → (Nat → Int32) → (Nat → Int32) → Option (Int32 × (Nat → Int32) × (Nat → Int32))) : Nat → Int32 → Int32 → (Nat → Int32) → (Nat → Int32) → Option (Int32 × (Nat → Int32) × (Nat → Int32))
  | 0, _, _, _, _ => none
  | n4 + 1, v4_3, v4_2, w4_mok_23, w4_mok_33 => if ((1 : Int32) <<< (moi_13 &&& 31)) ≤ v4_3 then (k4 v4_3 v4_2 w4_mok_23 w4_mok_33) else (xbd (fX7_oiled F moi_13 mok_15) (fun (r16 : Int32) => if (v4_3 &&& (r16 ^^^ (-1 : Int32))) = 0 then (if a1 < 0 then (xbd2 (fX7_isAsSeenBy F moi_13 moi_17 moi_18 moi_20 moi_21 moi_28 moi_30 moi_31 moi_32 mok_14 mok_15 mok_16 mok_19 w4_mok_23 mok_29 w4_mok_33 v4_3) (fun (r52 : Int32) (u52 : (Nat → Int32) × (Nat → Int32)) => if r52 = 0 then (fX7_fitsWith_L4 moi_13 moi_17 moi_18 moi_20 moi_21 moi_28 moi_30 moi_31 moi_32 mok_14 mok_15 mok_16 mok_19 mok_29 a1 F k4 n4 (v4_3 + 1) (v4_2 + (0 : Int32)) u52.1 u52.2) else (fX7_fitsWith_L4 moi_13 moi_17 moi_18 moi_20 moi_21 moi_28 moi_30 moi_31 moi_32 mok_14 mok_15 mok_16 mok_19 mok_29 a1 F k4 n4 (v4_3 + 1) (v4_2 + (1 : Int32)) u52.1 u52.2))) else (xbd (fX7_has v4_3 a1) (fun (r31 : Int32) => if r31 = 0 then (fX7_fitsWith_L4 moi_13 moi_17 moi_18 moi_20 moi_21 moi_28 moi_30 moi_31 moi_32 mok_14 mok_15 mok_16 mok_19 mok_29 a1 F k4 n4 (v4_3 + 1) (v4_2 + (0 : Int32)) w4_mok_23 w4_mok_33) else (xbd2 (fX7_isAsSeenBy F moi_13 moi_17 moi_18 moi_20 moi_21 moi_28 moi_30 moi_31 moi_32 mok_14 mok_15 mok_16 mok_19 w4_mok_23 mok_29 w4_mok_33 v4_3) (fun (r52 : Int32) (u52 : (Nat → Int32) × (Nat → Int32)) => if r52 = 0 then (fX7_fitsWith_L4 moi_13 moi_17 moi_18 moi_20 moi_21 moi_28 moi_30 moi_31 moi_32 mok_14 mok_15 mok_16 mok_19 mok_29 a1 F k4 n4 (v4_3 + 1) (v4_2 + (0 : Int32)) u52.1 u52.2) else (fX7_fitsWith_L4 moi_13 moi_17 moi_18 moi_20 moi_21 moi_28 moi_30 moi_31 moi_32 mok_14 mok_15 mok_16 mok_19 mok_29 a1 F k4 n4 (v4_3 + 1) (v4_2 + (1 : Int32)) u52.1 u52.2)))))) else (fX7_fitsWith_L4 moi_13 moi_17 moi_18 moi_20 moi_21 moi_28 moi_30 moi_31 moi_32 mok_14 mok_15 mok_16 mok_19 mok_29 a1 F k4 n4 (v4_3 + 1) (v4_2 + (0 : Int32)) w4_mok_23 w4_mok_33)))
def fX7_fitsWith (F : Nat) (moi_13 : Int32) (moi_17 : Int32) (moi_18 : Int32) (moi_20 : Int32) (moi_21 : Int32) (moi_28 : Int32) (moi_30 : Int32) (moi_31 : Int32) (moi_32 : Int32) (mok_14 : Nat → Int32) (mok_15 : Nat → Int32) (mok_16 : Nat → Int32) (mok_19 : Nat → Int32) (mok_23 : Nat → Int32) (mok_29 : Nat → Int32) (mok_33 : Nat → Int32) (a1 : Int32) : Option (Int32 × (Nat → Int32) × (Nat → Int32)) :=
  fX7_fitsWith_L4 moi_13 moi_17 moi_18 moi_20 moi_21 moi_28 moi_30 moi_31 moi_32 mok_14 mok_15 mok_16 mok_19 mok_29 a1 F (fun (v4_3 : Int32) (v4_2 : Int32) (w4_mok_23 : Nat → Int32) (w4_mok_33 : Nat → Int32) => some (v4_2, (w4_mok_23, w4_mok_33))) F (0 : Int32) (0 : Int32) mok_23 mok_33
theorem hi_X7_fitsWith_7 : ∀ w ∈ wsX70, w ∈ wsX7_fitsWith := fun _ h => (List.mem_cons_of_mem _ (List.mem_append_right _ h))
set_option maxHeartbeats 4000000 in
set_option maxRecDepth 100000 in
theorem c_X7_fitsWith (l : Launch) (D : va_G) (cI cP : ClassId) (sz : Nat) (mo : Nat) (mor : Nat → Nat) (moi_0 : Int32) (moi_2 : Int32) (moi_4 : Int32) (moi_8 : Int32) (moi_9 : Int32) (moi_11 : Int32) (moi_12 : Int32) (moi_13 : Int32) (moi_17 : Int32) (moi_18 : Int32) (moi_20 : Int32) (moi_21 : Int32) (moi_24 : Int32) (moi_26 : Int32) (moi_28 : Int32) (moi_30 : Int32) (moi_31 : Int32) (moi_32 : Int32) (mok_1 : Nat → Int32) (mok_3 : Nat → Int32) (mok_5 : Nat → Int32) (mok_6 : Nat → Int32) (mok_7 : Nat → Int32) (mok_10 : Nat → Int32) (mok_14 : Nat → Int32) (mok_15 : Nat → Int32) (mok_16 : Nat → Int32) (mok_19 : Nat → Int32) (mok_22 : Nat → Int32) (mok_23 : Nat → Int32) (mok_25 : Nat → Int32) (mok_27 : Nat → Int32) (mok_29 : Nat → Int32) (mok_33 : Nat → Int32) (mok_34 : Nat → Int32) (F : Nat) (a1 : Int32) (hne : fX7_fitsWith F moi_13 moi_17 moi_18 moi_20 moi_21 moi_28 moi_30 moi_31 moi_32 mok_14 mok_15 mok_16 mok_19 mok_23 mok_29 mok_33 a1 ≠ none) : xMi l yX7_fitsWith wsX7_fitsWith ({ frames := 4, cells := 0, slots := 0, locals := 91 } : Room) D (xT cI cP) [.ref mo, .int a1] (wM cI mo mor moi_0 moi_2 moi_4 moi_8 moi_9 moi_11 moi_12 moi_13 moi_17 moi_18 moi_20 moi_21 moi_24 moi_26 moi_28 moi_30 moi_31 moi_32 mok_1 mok_3 mok_5 mok_6 mok_7 mok_10 mok_14 mok_15 mok_16 mok_19 mok_22 mok_23 mok_25 mok_27 mok_29 mok_33 mok_34) sz (fun r (u : ((Nat → Int32) × (Nat → Int32))) => fX7_fitsWith F moi_13 moi_17 moi_18 moi_20 moi_21 moi_28 moi_30 moi_31 moi_32 mok_14 mok_15 mok_16 mok_19 mok_23 mok_29 mok_33 a1 = some (r, u)) (fun u => wM cI mo mor moi_0 moi_2 moi_4 moi_8 moi_9 moi_11 moi_12 moi_13 moi_17 moi_18 moi_20 moi_21 moi_24 moi_26 moi_28 moi_30 moi_31 moi_32 mok_1 mok_3 mok_5 mok_6 mok_7 mok_10 mok_14 mok_15 mok_16 mok_19 mok_22 u.1 mok_25 mok_27 mok_29 u.2 mok_34) 0 0 := by
  refine xMi_of (cc := cX7_fitsWith) (maxL := 5) (by decide +kernel) rfl (Nat.le_of_ble_eq_true rfl) ?_
  intro p e s m args below meth c A ls hx hb hml hown hts hname hN hK hA hP hD hS hl Q hret
  have he := fX7_fitsWith.eq_1 F moi_13 moi_17 moi_18 moi_20 moi_21 moi_28 moi_30 moi_31 moi_32 mok_14 mok_15 mok_16 mok_19 mok_23 mok_29 mok_33 a1
  have hl : lv_has ls 5 [(0, .ref mo), (1, .int a1)] := hl
  have R4_0 : ∀ (v4_3 : Int32) (v4_2 : Int32) (w4_mok_23 : Nat → Int32) (w4_mok_33 : Nat → Int32), fX7_fitsWith F moi_13 moi_17 moi_18 moi_20 moi_21 moi_28 moi_30 moi_31 moi_32 mok_14 mok_15 mok_16 mok_19 mok_23 mok_29 mok_33 a1 = (some (v4_2, (w4_mok_23, w4_mok_33))) → ∀ (H : Heap) (locs : List Loc) (ls : Array Slot), va_P D vwCl (wM cI mo mor moi_0 moi_2 moi_4 moi_8 moi_9 moi_11 moi_12 moi_13 moi_17 moi_18 moi_20 moi_21 moi_24 moi_26 moi_28 moi_30 moi_31 moi_32 mok_1 mok_3 mok_5 mok_6 mok_7 mok_10 mok_14 mok_15 mok_16 mok_19 mok_22 w4_mok_23 mok_25 mok_27 mok_29 w4_mok_33 mok_34) H → va_D A (wM cI mo mor moi_0 moi_2 moi_4 moi_8 moi_9 moi_11 moi_12 moi_13 moi_17 moi_18 moi_20 moi_21 moi_24 moi_26 moi_28 moi_30 moi_31 moi_32 mok_1 mok_3 mok_5 mok_6 mok_7 mok_10 mok_14 mok_15 mok_16 mok_19 mok_22 w4_mok_23 mok_25 mok_27 mok_29 w4_mok_33 mok_34) → va_S A s.heap H locs → lv_has ls 5 [(2, .int v4_2)] → W p l e ({ frames := 4, cells := 0, slots := 0, locals := 91 } : Room) s m args below meth c H locs 0 0 Q (F0 m 71 ls []) := by
    intro v4_3 v4_2 w4_mok_23 w4_mok_33 he H locs ls hP hD hS hl
    refine lv_iload_n hx hb dX7_fitsWith_71 rfl (lv_at hl 0 rfl) ?_
    exact hret v4_2 (w4_mok_23, w4_mok_33) _ _ _ _ dX7_fitsWith_72 he hP hD hS
  have L4_4 : ∀ (n4 : Nat) (v4_3 : Int32) (v4_2 : Int32) (w4_mok_23 : Nat → Int32) (w4_mok_33 : Nat → Int32), fX7_fitsWith F moi_13 moi_17 moi_18 moi_20 moi_21 moi_28 moi_30 moi_31 moi_32 mok_14 mok_15 mok_16 mok_19 mok_23 mok_29 mok_33 a1 = fX7_fitsWith_L4 moi_13 moi_17 moi_18 moi_20 moi_21 moi_28 moi_30 moi_31 moi_32 mok_14 mok_15 mok_16 mok_19 mok_29 a1 F (fun (v4_3 : Int32) (v4_2 : Int32) (w4_mok_23 : Nat → Int32) (w4_mok_33 : Nat → Int32) => some (v4_2, (w4_mok_23, w4_mok_33))) n4 v4_3 v4_2 w4_mok_23 w4_mok_33 → ∀ (H : Heap) (locs : List Loc) (ls : Array Slot), va_P D vwCl (wM cI mo mor moi_0 moi_2 moi_4 moi_8 moi_9 moi_11 moi_12 moi_13 moi_17 moi_18 moi_20 moi_21 moi_24 moi_26 moi_28 moi_30 moi_31 moi_32 mok_1 mok_3 mok_5 mok_6 mok_7 mok_10 mok_14 mok_15 mok_16 mok_19 mok_22 w4_mok_23 mok_25 mok_27 mok_29 w4_mok_33 mok_34) H → va_D A (wM cI mo mor moi_0 moi_2 moi_4 moi_8 moi_9 moi_11 moi_12 moi_13 moi_17 moi_18 moi_20 moi_21 moi_24 moi_26 moi_28 moi_30 moi_31 moi_32 mok_1 mok_3 mok_5 mok_6 mok_7 mok_10 mok_14 mok_15 mok_16 mok_19 mok_22 w4_mok_23 mok_25 mok_27 mok_29 w4_mok_33 mok_34) → va_S A s.heap H locs → lv_has ls 5 [(3, .int v4_3), (2, .int v4_2), (0, .ref mo), (1, .int a1)] → W p l e ({ frames := 4, cells := 0, slots := 0, locals := 91 } : Room) s m args below meth c H locs 0 0 Q (F0 m 4 ls []) := by
    intro n4
    induction n4 with
    | zero => intro v4_3 v4_2 w4_mok_23 w4_mok_33 he; exact absurd he hne
    | succ n4 ih4 =>
      intro v4_3 v4_2 w4_mok_23 w4_mok_33 he H locs ls hP hD hS hl
      replace he := he.trans (fX7_fitsWith_L4.eq_2 _ _ _ _ _ _ _ _ _ _ _ _ _ _ _ _ _ _ _ _ _ _)
      refine lv_iload_n hx hb dX7_fitsWith_4 rfl (lv_at hl 0 rfl) ?_
      refine lv_iconst (v := 1) hx hb dX7_fitsWith_5 (by decide) ?_
      refine lv_aload_n hx hb dX7_fitsWith_6 rfl (lv_at hl 2 rfl) ?_
      refine va_get (D := D) (ci := 7) (v := .int moi_13) (C := RX7) (T := TX7) (N := 35) hx hb hts hi_X7_fitsWith_7 hown hK hP 0 wM_0 rfl 13 (by decide) (hts (.fieldLink RX7 71 "BlindLanternsModel" "men" "I") (List.mem_of_getElem? (i := 1) rfl)) (fun _ h9 => h9) xMf_13 dX7_fitsWith_7 ?_
      refine lv_ishl hx hb dX7_fitsWith_10 ?_
      refine lv_icmp_ge (tgt := 71) hx hb dX7_fitsWith_11 (by decide) (fun c1 => ?_) (fun c1 => ?_)
      · replace he := he.trans (if_pos c1)
        exact R4_0 v4_3 v4_2 w4_mok_23 w4_mok_33 he _ _ _ hP hD hS (lv_sub hl [1] rfl)
      · replace he := he.trans (if_neg c1)
        refine lv_iload_n hx hb dX7_fitsWith_14 rfl (lv_at hl 0 rfl) ?_
        refine lv_aload_n hx hb dX7_fitsWith_15 rfl (lv_at hl 2 rfl) ?_
        have n2_ : fX7_oiled F moi_13 mok_15 ≠ none := fun z => hne (he.trans (xbd_none z))
        refine xciW (va_runV (As := []) (rest := [.int v4_3]) ⟨hx, hb, hml, hown, hts⟩ (c_X7_oiled l D cI cP H.size mo mor moi_0 moi_2 moi_4 moi_8 moi_9 moi_11 moi_12 moi_13 moi_17 moi_18 moi_20 moi_21 moi_24 moi_26 moi_28 moi_30 moi_31 moi_32 mok_1 mok_3 mok_5 mok_6 mok_7 mok_10 mok_14 mok_15 mok_16 mok_19 mok_22 w4_mok_23 mok_25 mok_27 mok_29 w4_mok_33 mok_34 F  n2_) (cwV 0 hts gX7_fitsWith_X7_oiled rfl rfl rfl (by decide +kernel) ⟨Nat.le_of_ble_eq_true rfl, Nat.le_of_ble_eq_true rfl⟩) (xPVW hN hK hP hD (ci := 7) (j := 0) rfl wM_0) rfl rfl hl.1 rfl (lv_room (Nat.le_of_ble_eq_true rfl)) dX7_fitsWith_16 ⟨Nat.le_of_ble_eq_true rfl, Nat.le_of_ble_eq_true rfl⟩) hD hS hA (fun r16 u16 H locs hw hP hD hS => ?_)
        have hP : va_P D vwCl (wM cI mo mor moi_0 moi_2 moi_4 moi_8 moi_9 moi_11 moi_12 moi_13 moi_17 moi_18 moi_20 moi_21 moi_24 moi_26 moi_28 moi_30 moi_31 moi_32 mok_1 mok_3 mok_5 mok_6 mok_7 mok_10 mok_14 mok_15 mok_16 mok_19 mok_22 w4_mok_23 mok_25 mok_27 mok_29 w4_mok_33 mok_34) H := hP
        have hD : va_D A (wM cI mo mor moi_0 moi_2 moi_4 moi_8 moi_9 moi_11 moi_12 moi_13 moi_17 moi_18 moi_20 moi_21 moi_24 moi_26 moi_28 moi_30 moi_31 moi_32 mok_1 mok_3 mok_5 mok_6 mok_7 mok_10 mok_14 mok_15 mok_16 mok_19 mok_22 w4_mok_23 mok_25 mok_27 mok_29 w4_mok_33 mok_34) := hD
        replace he := he.trans (xbd_some hw)
        refine lv_iconst (v := -1) hx hb dX7_fitsWith_19 (by decide) ?_
        refine lv_ixor hx hb dX7_fitsWith_20 ?_
        refine lv_iand hx hb dX7_fitsWith_21 ?_
        refine lv_if_ne (tgt := 41) hx hb dX7_fitsWith_22 (by decide) (fun c3 => ?_) (fun c3 => ?_)
        · replace he := he.trans (if_neg c3)
          refine lv_iconst (v := 0) hx hb dX7_fitsWith_41 (by decide) ?_
          refine lv_istore (lv' := [(4, .int (0 : Int32)), (3, .int v4_3), (2, .int v4_2), (0, .ref mo), (1, .int a1)]) hx hb dX7_fitsWith_42 hl (by decide) rfl (fun ls hl => ?_)
          refine lv_iload_n hx hb dX7_fitsWith_44 rfl (lv_at hl 2 rfl) ?_
          refine lv_iload hx hb dX7_fitsWith_45 (lv_at hl 0 rfl) ?_
          refine lv_if_eq (tgt := 62) hx hb dX7_fitsWith_47 (by decide) (fun _ => ?_) (fun c0 => absurd (by decide) c0)
          refine lv_iconst (v := 0) hx hb dX7_fitsWith_62 (by decide) ?_
          refine lv_iadd hx hb dX7_fitsWith_63 ?_
          refine lv_istore_n (lv' := [(2, .int (v4_2 + (0 : Int32))), (4, .int (0 : Int32)), (3, .int v4_3), (0, .ref mo), (1, .int a1)]) hx hb dX7_fitsWith_64 rfl hl (by decide) rfl (fun ls hl => ?_)
          refine lv_iinc (v := (v4_3 + 1)) (lv' := [(3, .int (v4_3 + 1)), (2, .int (v4_2 + (0 : Int32))), (4, .int (0 : Int32)), (0, .ref mo), (1, .int a1)]) hx hb dX7_fitsWith_65 hl (k := 2) rfl rfl (by decide) rfl (fun ls hl => ?_)
          refine lv_goto (tgt := 4) hx hb dX7_fitsWith_68 (by decide) ?_
          exact ih4 (v4_3 + 1) (v4_2 + (0 : Int32)) w4_mok_23 w4_mok_33 he _ _ _ hP hD hS (lv_sub hl [0, 1, 3, 4] rfl)
        · replace he := he.trans (if_pos c3)
          refine lv_iload_n hx hb dX7_fitsWith_25 rfl (lv_at hl 3 rfl) ?_
          refine lv_if_lt (tgt := 37) hx hb dX7_fitsWith_26 (by decide) (fun c4 => ?_) (fun c4 => ?_)
          · replace he := he.trans (if_pos c4)
            refine lv_iconst (v := 1) hx hb dX7_fitsWith_37 (by decide) ?_
            refine lv_goto (tgt := 42) hx hb dX7_fitsWith_38 (by decide) ?_
            refine lv_istore (lv' := [(4, .int (1 : Int32)), (3, .int v4_3), (2, .int v4_2), (0, .ref mo), (1, .int a1)]) hx hb dX7_fitsWith_42 hl (by decide) rfl (fun ls hl => ?_)
            refine lv_iload_n hx hb dX7_fitsWith_44 rfl (lv_at hl 2 rfl) ?_
            refine lv_iload hx hb dX7_fitsWith_45 (lv_at hl 0 rfl) ?_
            refine lv_if_eq (tgt := 62) hx hb dX7_fitsWith_47 (by decide) (fun c0 => absurd c0 (by decide)) (fun _ => ?_)
            refine lv_aload_n hx hb dX7_fitsWith_50 rfl (lv_at hl 3 rfl) ?_
            refine lv_iload_n hx hb dX7_fitsWith_51 rfl (lv_at hl 1 rfl) ?_
            have n5_ : fX7_isAsSeenBy F moi_13 moi_17 moi_18 moi_20 moi_21 moi_28 moi_30 moi_31 moi_32 mok_14 mok_15 mok_16 mok_19 w4_mok_23 mok_29 w4_mok_33 v4_3 ≠ none := fun z => hne (he.trans (xbd2_none z))
            refine xciW (va_runV (As := [.int v4_3]) (rest := [.int v4_2]) ⟨hx, hb, hml, hown, hts⟩ (c_X7_isAsSeenBy l D cI cP H.size mo mor moi_0 moi_2 moi_4 moi_8 moi_9 moi_11 moi_12 moi_13 moi_17 moi_18 moi_20 moi_21 moi_24 moi_26 moi_28 moi_30 moi_31 moi_32 mok_1 mok_3 mok_5 mok_6 mok_7 mok_10 mok_14 mok_15 mok_16 mok_19 mok_22 w4_mok_23 mok_25 mok_27 mok_29 w4_mok_33 mok_34 F v4_3 n5_) (cwV 1 hts gX7_fitsWith_X7_isAsSeenBy rfl rfl rfl (by decide +kernel) ⟨Nat.le_of_ble_eq_true rfl, Nat.le_of_ble_eq_true rfl⟩) (xPVW hN hK hP hD (ci := 7) (j := 0) rfl wM_0) rfl rfl hl.1 rfl (lv_room (Nat.le_of_ble_eq_true rfl)) dX7_fitsWith_52 ⟨Nat.le_of_ble_eq_true rfl, Nat.le_of_ble_eq_true rfl⟩) hD hS hA (fun r52 u52 H locs hw hP hD hS => ?_)
            have hP : va_P D vwCl (wM cI mo mor moi_0 moi_2 moi_4 moi_8 moi_9 moi_11 moi_12 moi_13 moi_17 moi_18 moi_20 moi_21 moi_24 moi_26 moi_28 moi_30 moi_31 moi_32 mok_1 mok_3 mok_5 mok_6 mok_7 mok_10 mok_14 mok_15 mok_16 mok_19 mok_22 u52.1 mok_25 mok_27 mok_29 u52.2 mok_34) H := hP
            have hD : va_D A (wM cI mo mor moi_0 moi_2 moi_4 moi_8 moi_9 moi_11 moi_12 moi_13 moi_17 moi_18 moi_20 moi_21 moi_24 moi_26 moi_28 moi_30 moi_31 moi_32 mok_1 mok_3 mok_5 mok_6 mok_7 mok_10 mok_14 mok_15 mok_16 mok_19 mok_22 u52.1 mok_25 mok_27 mok_29 u52.2 mok_34) := hD
            replace he := he.trans (xbd2_some hw)
            refine lv_if_eq (tgt := 62) hx hb dX7_fitsWith_55 (by decide) (fun c6 => ?_) (fun c6 => ?_)
            · replace he := he.trans (if_pos c6)
              refine lv_iconst (v := 0) hx hb dX7_fitsWith_62 (by decide) ?_
              refine lv_iadd hx hb dX7_fitsWith_63 ?_
              refine lv_istore_n (lv' := [(2, .int (v4_2 + (0 : Int32))), (4, .int (1 : Int32)), (3, .int v4_3), (0, .ref mo), (1, .int a1)]) hx hb dX7_fitsWith_64 rfl hl (by decide) rfl (fun ls hl => ?_)
              refine lv_iinc (v := (v4_3 + 1)) (lv' := [(3, .int (v4_3 + 1)), (2, .int (v4_2 + (0 : Int32))), (4, .int (1 : Int32)), (0, .ref mo), (1, .int a1)]) hx hb dX7_fitsWith_65 hl (k := 2) rfl rfl (by decide) rfl (fun ls hl => ?_)
              refine lv_goto (tgt := 4) hx hb dX7_fitsWith_68 (by decide) ?_
              exact ih4 (v4_3 + 1) (v4_2 + (0 : Int32)) u52.1 u52.2 he _ _ _ hP hD hS (lv_sub hl [0, 1, 3, 4] rfl)
            · replace he := he.trans (if_neg c6)
              refine lv_iconst (v := 1) hx hb dX7_fitsWith_58 (by decide) ?_
              refine lv_goto (tgt := 63) hx hb dX7_fitsWith_59 (by decide) ?_
              refine lv_iadd hx hb dX7_fitsWith_63 ?_
              refine lv_istore_n (lv' := [(2, .int (v4_2 + (1 : Int32))), (4, .int (1 : Int32)), (3, .int v4_3), (0, .ref mo), (1, .int a1)]) hx hb dX7_fitsWith_64 rfl hl (by decide) rfl (fun ls hl => ?_)
              refine lv_iinc (v := (v4_3 + 1)) (lv' := [(3, .int (v4_3 + 1)), (2, .int (v4_2 + (1 : Int32))), (4, .int (1 : Int32)), (0, .ref mo), (1, .int a1)]) hx hb dX7_fitsWith_65 hl (k := 2) rfl rfl (by decide) rfl (fun ls hl => ?_)
              refine lv_goto (tgt := 4) hx hb dX7_fitsWith_68 (by decide) ?_
              exact ih4 (v4_3 + 1) (v4_2 + (1 : Int32)) u52.1 u52.2 he _ _ _ hP hD hS (lv_sub hl [0, 1, 3, 4] rfl)
          · replace he := he.trans (if_neg c4)
            refine lv_iload_n hx hb dX7_fitsWith_29 rfl (lv_at hl 0 rfl) ?_
            refine lv_iload_n hx hb dX7_fitsWith_30 rfl (lv_at hl 3 rfl) ?_
            have n7_ : fX7_has v4_3 a1 ≠ none := fun z => hne (he.trans (xbd_none z))
            refine xci0 (va_runS (As := [.int v4_3, .int a1]) (rest := []) ⟨hx, hb, hml, hown, hts⟩ (c_X7_has l D cI cP H.size  v4_3 a1 n7_) (va_cwS 2 hts gX7_fitsWith_X7_has rfl rfl rfl (by decide +kernel) ⟨Nat.le_of_ble_eq_true rfl, Nat.le_of_ble_eq_true rfl⟩) (xPS0 hN hK) rfl rfl hl.1 rfl (lv_room (Nat.le_of_ble_eq_true rfl)) dX7_fitsWith_31 ⟨Nat.le_of_ble_eq_true rfl, Nat.le_of_ble_eq_true rfl⟩) hP hD hS hA (fun r31 u31 H locs hw hP hD hS => ?_)
            replace he := he.trans (xbd_some hw)
            refine lv_if_eq (tgt := 41) hx hb dX7_fitsWith_34 (by decide) (fun c8 => ?_) (fun c8 => ?_)
            · replace he := he.trans (if_pos c8)
              refine lv_iconst (v := 0) hx hb dX7_fitsWith_41 (by decide) ?_
              refine lv_istore (lv' := [(4, .int (0 : Int32)), (3, .int v4_3), (2, .int v4_2), (0, .ref mo), (1, .int a1)]) hx hb dX7_fitsWith_42 hl (by decide) rfl (fun ls hl => ?_)
              refine lv_iload_n hx hb dX7_fitsWith_44 rfl (lv_at hl 2 rfl) ?_
              refine lv_iload hx hb dX7_fitsWith_45 (lv_at hl 0 rfl) ?_
              refine lv_if_eq (tgt := 62) hx hb dX7_fitsWith_47 (by decide) (fun _ => ?_) (fun c0 => absurd (by decide) c0)
              refine lv_iconst (v := 0) hx hb dX7_fitsWith_62 (by decide) ?_
              refine lv_iadd hx hb dX7_fitsWith_63 ?_
              refine lv_istore_n (lv' := [(2, .int (v4_2 + (0 : Int32))), (4, .int (0 : Int32)), (3, .int v4_3), (0, .ref mo), (1, .int a1)]) hx hb dX7_fitsWith_64 rfl hl (by decide) rfl (fun ls hl => ?_)
              refine lv_iinc (v := (v4_3 + 1)) (lv' := [(3, .int (v4_3 + 1)), (2, .int (v4_2 + (0 : Int32))), (4, .int (0 : Int32)), (0, .ref mo), (1, .int a1)]) hx hb dX7_fitsWith_65 hl (k := 2) rfl rfl (by decide) rfl (fun ls hl => ?_)
              refine lv_goto (tgt := 4) hx hb dX7_fitsWith_68 (by decide) ?_
              exact ih4 (v4_3 + 1) (v4_2 + (0 : Int32)) w4_mok_23 w4_mok_33 he _ _ _ hP hD hS (lv_sub hl [0, 1, 3, 4] rfl)
            · replace he := he.trans (if_neg c8)
              refine lv_iconst (v := 1) hx hb dX7_fitsWith_37 (by decide) ?_
              refine lv_goto (tgt := 42) hx hb dX7_fitsWith_38 (by decide) ?_
              refine lv_istore (lv' := [(4, .int (1 : Int32)), (3, .int v4_3), (2, .int v4_2), (0, .ref mo), (1, .int a1)]) hx hb dX7_fitsWith_42 hl (by decide) rfl (fun ls hl => ?_)
              refine lv_iload_n hx hb dX7_fitsWith_44 rfl (lv_at hl 2 rfl) ?_
              refine lv_iload hx hb dX7_fitsWith_45 (lv_at hl 0 rfl) ?_
              refine lv_if_eq (tgt := 62) hx hb dX7_fitsWith_47 (by decide) (fun c0 => absurd c0 (by decide)) (fun _ => ?_)
              refine lv_aload_n hx hb dX7_fitsWith_50 rfl (lv_at hl 3 rfl) ?_
              refine lv_iload_n hx hb dX7_fitsWith_51 rfl (lv_at hl 1 rfl) ?_
              have n9_ : fX7_isAsSeenBy F moi_13 moi_17 moi_18 moi_20 moi_21 moi_28 moi_30 moi_31 moi_32 mok_14 mok_15 mok_16 mok_19 w4_mok_23 mok_29 w4_mok_33 v4_3 ≠ none := fun z => hne (he.trans (xbd2_none z))
              refine xciW (va_runV (As := [.int v4_3]) (rest := [.int v4_2]) ⟨hx, hb, hml, hown, hts⟩ (c_X7_isAsSeenBy l D cI cP H.size mo mor moi_0 moi_2 moi_4 moi_8 moi_9 moi_11 moi_12 moi_13 moi_17 moi_18 moi_20 moi_21 moi_24 moi_26 moi_28 moi_30 moi_31 moi_32 mok_1 mok_3 mok_5 mok_6 mok_7 mok_10 mok_14 mok_15 mok_16 mok_19 mok_22 w4_mok_23 mok_25 mok_27 mok_29 w4_mok_33 mok_34 F v4_3 n9_) (cwV 1 hts gX7_fitsWith_X7_isAsSeenBy rfl rfl rfl (by decide +kernel) ⟨Nat.le_of_ble_eq_true rfl, Nat.le_of_ble_eq_true rfl⟩) (xPVW hN hK hP hD (ci := 7) (j := 0) rfl wM_0) rfl rfl hl.1 rfl (lv_room (Nat.le_of_ble_eq_true rfl)) dX7_fitsWith_52 ⟨Nat.le_of_ble_eq_true rfl, Nat.le_of_ble_eq_true rfl⟩) hD hS hA (fun r52 u52 H locs hw hP hD hS => ?_)
              have hP : va_P D vwCl (wM cI mo mor moi_0 moi_2 moi_4 moi_8 moi_9 moi_11 moi_12 moi_13 moi_17 moi_18 moi_20 moi_21 moi_24 moi_26 moi_28 moi_30 moi_31 moi_32 mok_1 mok_3 mok_5 mok_6 mok_7 mok_10 mok_14 mok_15 mok_16 mok_19 mok_22 u52.1 mok_25 mok_27 mok_29 u52.2 mok_34) H := hP
              have hD : va_D A (wM cI mo mor moi_0 moi_2 moi_4 moi_8 moi_9 moi_11 moi_12 moi_13 moi_17 moi_18 moi_20 moi_21 moi_24 moi_26 moi_28 moi_30 moi_31 moi_32 mok_1 mok_3 mok_5 mok_6 mok_7 mok_10 mok_14 mok_15 mok_16 mok_19 mok_22 u52.1 mok_25 mok_27 mok_29 u52.2 mok_34) := hD
              replace he := he.trans (xbd2_some hw)
              refine lv_if_eq (tgt := 62) hx hb dX7_fitsWith_55 (by decide) (fun c10 => ?_) (fun c10 => ?_)
              · replace he := he.trans (if_pos c10)
                refine lv_iconst (v := 0) hx hb dX7_fitsWith_62 (by decide) ?_
                refine lv_iadd hx hb dX7_fitsWith_63 ?_
                refine lv_istore_n (lv' := [(2, .int (v4_2 + (0 : Int32))), (4, .int (1 : Int32)), (3, .int v4_3), (0, .ref mo), (1, .int a1)]) hx hb dX7_fitsWith_64 rfl hl (by decide) rfl (fun ls hl => ?_)
                refine lv_iinc (v := (v4_3 + 1)) (lv' := [(3, .int (v4_3 + 1)), (2, .int (v4_2 + (0 : Int32))), (4, .int (1 : Int32)), (0, .ref mo), (1, .int a1)]) hx hb dX7_fitsWith_65 hl (k := 2) rfl rfl (by decide) rfl (fun ls hl => ?_)
                refine lv_goto (tgt := 4) hx hb dX7_fitsWith_68 (by decide) ?_
                exact ih4 (v4_3 + 1) (v4_2 + (0 : Int32)) u52.1 u52.2 he _ _ _ hP hD hS (lv_sub hl [0, 1, 3, 4] rfl)
              · replace he := he.trans (if_neg c10)
                refine lv_iconst (v := 1) hx hb dX7_fitsWith_58 (by decide) ?_
                refine lv_goto (tgt := 63) hx hb dX7_fitsWith_59 (by decide) ?_
                refine lv_iadd hx hb dX7_fitsWith_63 ?_
                refine lv_istore_n (lv' := [(2, .int (v4_2 + (1 : Int32))), (4, .int (1 : Int32)), (3, .int v4_3), (0, .ref mo), (1, .int a1)]) hx hb dX7_fitsWith_64 rfl hl (by decide) rfl (fun ls hl => ?_)
                refine lv_iinc (v := (v4_3 + 1)) (lv' := [(3, .int (v4_3 + 1)), (2, .int (v4_2 + (1 : Int32))), (4, .int (1 : Int32)), (0, .ref mo), (1, .int a1)]) hx hb dX7_fitsWith_65 hl (k := 2) rfl rfl (by decide) rfl (fun ls hl => ?_)
                refine lv_goto (tgt := 4) hx hb dX7_fitsWith_68 (by decide) ?_
                exact ih4 (v4_3 + 1) (v4_2 + (1 : Int32)) u52.1 u52.2 he _ _ _ hP hD hS (lv_sub hl [0, 1, 3, 4] rfl)
  refine lv_iconst (v := 0) hx hb dX7_fitsWith_0 (by decide) ?_
  refine lv_istore_n (lv' := [(2, .int (0 : Int32)), (0, .ref mo), (1, .int a1)]) hx hb dX7_fitsWith_1 rfl hl (by decide) rfl (fun ls hl => ?_)
  refine lv_iconst (v := 0) hx hb dX7_fitsWith_2 (by decide) ?_
  refine lv_istore_n (lv' := [(3, .int (0 : Int32)), (2, .int (0 : Int32)), (0, .ref mo), (1, .int a1)]) hx hb dX7_fitsWith_3 rfl hl (by decide) rfl (fun ls hl => ?_)
  exact L4_4 F (0 : Int32) (0 : Int32) mok_23 mok_33 he _ _ _ hP hD hS (lv_sub hl [0, 1, 2, 3] rfl)

def fX7_fits (F : Nat) (moi_13 : Int32) (moi_17 : Int32) (moi_18 : Int32) (moi_20 : Int32) (moi_21 : Int32) (moi_28 : Int32) (moi_30 : Int32) (moi_31 : Int32) (moi_32 : Int32) (mok_14 : Nat → Int32) (mok_15 : Nat → Int32) (mok_16 : Nat → Int32) (mok_19 : Nat → Int32) (mok_23 : Nat → Int32) (mok_29 : Nat → Int32) (mok_33 : Nat → Int32) : Option (Int32 × (Nat → Int32) × (Nat → Int32)) :=
  xbd2 (fX7_fitsWith F moi_13 moi_17 moi_18 moi_20 moi_21 moi_28 moi_30 moi_31 moi_32 mok_14 mok_15 mok_16 mok_19 mok_23 mok_29 mok_33 (-1 : Int32)) (fun (r2 : Int32) (u2 : (Nat → Int32) × (Nat → Int32)) => some (r2, (u2.1, u2.2)))
set_option maxHeartbeats 4000000 in
set_option maxRecDepth 100000 in
theorem c_X7_fits (l : Launch) (D : va_G) (cI cP : ClassId) (sz : Nat) (mo : Nat) (mor : Nat → Nat) (moi_0 : Int32) (moi_2 : Int32) (moi_4 : Int32) (moi_8 : Int32) (moi_9 : Int32) (moi_11 : Int32) (moi_12 : Int32) (moi_13 : Int32) (moi_17 : Int32) (moi_18 : Int32) (moi_20 : Int32) (moi_21 : Int32) (moi_24 : Int32) (moi_26 : Int32) (moi_28 : Int32) (moi_30 : Int32) (moi_31 : Int32) (moi_32 : Int32) (mok_1 : Nat → Int32) (mok_3 : Nat → Int32) (mok_5 : Nat → Int32) (mok_6 : Nat → Int32) (mok_7 : Nat → Int32) (mok_10 : Nat → Int32) (mok_14 : Nat → Int32) (mok_15 : Nat → Int32) (mok_16 : Nat → Int32) (mok_19 : Nat → Int32) (mok_22 : Nat → Int32) (mok_23 : Nat → Int32) (mok_25 : Nat → Int32) (mok_27 : Nat → Int32) (mok_29 : Nat → Int32) (mok_33 : Nat → Int32) (mok_34 : Nat → Int32) (F : Nat) (hne : fX7_fits F moi_13 moi_17 moi_18 moi_20 moi_21 moi_28 moi_30 moi_31 moi_32 mok_14 mok_15 mok_16 mok_19 mok_23 mok_29 mok_33 ≠ none) : xMi l yX7_fits wsX7_fits ({ frames := 5, cells := 0, slots := 0, locals := 115 } : Room) D (xT cI cP) [.ref mo] (wM cI mo mor moi_0 moi_2 moi_4 moi_8 moi_9 moi_11 moi_12 moi_13 moi_17 moi_18 moi_20 moi_21 moi_24 moi_26 moi_28 moi_30 moi_31 moi_32 mok_1 mok_3 mok_5 mok_6 mok_7 mok_10 mok_14 mok_15 mok_16 mok_19 mok_22 mok_23 mok_25 mok_27 mok_29 mok_33 mok_34) sz (fun r (u : ((Nat → Int32) × (Nat → Int32))) => fX7_fits F moi_13 moi_17 moi_18 moi_20 moi_21 moi_28 moi_30 moi_31 moi_32 mok_14 mok_15 mok_16 mok_19 mok_23 mok_29 mok_33 = some (r, u)) (fun u => wM cI mo mor moi_0 moi_2 moi_4 moi_8 moi_9 moi_11 moi_12 moi_13 moi_17 moi_18 moi_20 moi_21 moi_24 moi_26 moi_28 moi_30 moi_31 moi_32 mok_1 mok_3 mok_5 mok_6 mok_7 mok_10 mok_14 mok_15 mok_16 mok_19 mok_22 u.1 mok_25 mok_27 mok_29 u.2 mok_34) 0 0 := by
  refine xMi_of (cc := cX7_fits) (maxL := 1) (by decide +kernel) rfl (Nat.le_of_ble_eq_true rfl) ?_
  intro p e s m args below meth c A ls hx hb hml hown hts hname hN hK hA hP hD hS hl Q hret
  have he := fX7_fits.eq_1 F moi_13 moi_17 moi_18 moi_20 moi_21 moi_28 moi_30 moi_31 moi_32 mok_14 mok_15 mok_16 mok_19 mok_23 mok_29 mok_33
  have hl : lv_has ls 1 [(0, .ref mo)] := hl
  refine lv_aload_n hx hb dX7_fits_0 rfl (lv_at hl 0 rfl) ?_
  refine lv_iconst (v := -1) hx hb dX7_fits_1 (by decide) ?_
  have n1_ : fX7_fitsWith F moi_13 moi_17 moi_18 moi_20 moi_21 moi_28 moi_30 moi_31 moi_32 mok_14 mok_15 mok_16 mok_19 mok_23 mok_29 mok_33 (-1 : Int32) ≠ none := fun z => hne (he.trans (xbd2_none z))
  refine xciW (va_runV (As := [.int (-1 : Int32)]) (rest := []) ⟨hx, hb, hml, hown, hts⟩ (c_X7_fitsWith l D cI cP s.heap.size mo mor moi_0 moi_2 moi_4 moi_8 moi_9 moi_11 moi_12 moi_13 moi_17 moi_18 moi_20 moi_21 moi_24 moi_26 moi_28 moi_30 moi_31 moi_32 mok_1 mok_3 mok_5 mok_6 mok_7 mok_10 mok_14 mok_15 mok_16 mok_19 mok_22 mok_23 mok_25 mok_27 mok_29 mok_33 mok_34 F (-1 : Int32) n1_) (cwV 1 hts gX7_fits_X7_fitsWith rfl rfl rfl (by decide +kernel) ⟨Nat.le_of_ble_eq_true rfl, Nat.le_of_ble_eq_true rfl⟩) (xPVW hN hK hP hD (ci := 7) (j := 0) rfl wM_0) rfl rfl hl.1 rfl (lv_room (Nat.le_of_ble_eq_true rfl)) dX7_fits_2 ⟨Nat.le_of_ble_eq_true rfl, Nat.le_of_ble_eq_true rfl⟩) hD hS hA (fun r2 u2 H locs hw hP hD hS => ?_)
  have hP : va_P D vwCl (wM cI mo mor moi_0 moi_2 moi_4 moi_8 moi_9 moi_11 moi_12 moi_13 moi_17 moi_18 moi_20 moi_21 moi_24 moi_26 moi_28 moi_30 moi_31 moi_32 mok_1 mok_3 mok_5 mok_6 mok_7 mok_10 mok_14 mok_15 mok_16 mok_19 mok_22 u2.1 mok_25 mok_27 mok_29 u2.2 mok_34) H := hP
  have hD : va_D A (wM cI mo mor moi_0 moi_2 moi_4 moi_8 moi_9 moi_11 moi_12 moi_13 moi_17 moi_18 moi_20 moi_21 moi_24 moi_26 moi_28 moi_30 moi_31 moi_32 mok_1 mok_3 mok_5 mok_6 mok_7 mok_10 mok_14 mok_15 mok_16 mok_19 mok_22 u2.1 mok_25 mok_27 mok_29 u2.2 mok_34) := hD
  replace he := he.trans (xbd2_some hw)
  exact hret r2 (u2.1, u2.2) _ _ _ _ dX7_fits_5 he hP hD hS

def fX7_odds_L46 (k46 : Int32 → Int32 → Option (Int32 × (Nat → Int32) × (Nat → Int32))) : Nat → Int32 → Int32 → Option (Int32 × (Nat → Int32) × (Nat → Int32))
  | 0, _, _ => none
  | n46 + 1, v46_6, v46_5 => if v46_6 ≤ 0 then (k46 v46_6 v46_5) else (if v46_6 = 0 then none else (fX7_odds_L46 k46 n46 (v46_5 - v46_5 / v46_6 * v46_6) v46_6))
def fX7_odds (F : Nat) (moi_13 : Int32) (moi_17 : Int32) (moi_18 : Int32) (moi_20 : Int32) (moi_21 : Int32) (moi_28 : Int32) (moi_30 : Int32) (moi_31 : Int32) (moi_32 : Int32) (mok_14 : Nat → Int32) (mok_15 : Nat → Int32) (mok_16 : Nat → Int32) (mok_19 : Nat → Int32) (mok_23 : Nat → Int32) (mok_29 : Nat → Int32) (mok_33 : Nat → Int32) (a1 : Int32) (a2 : Int32) : Option (Int32 × (Nat → Int32) × (Nat → Int32)) :=
  xbd (fX7_isMan moi_13 a1) (fun (r2 : Int32) => if r2 = 0 then (some ((-1 : Int32), (mok_23, mok_33))) else (xbd (fX7_in a2 (0 : Int32) (1 : Int32)) (fun (r11 : Int32) => if r11 = 0 then (some ((-1 : Int32), (mok_23, mok_33))) else (xbd2 (fX7_fitsWith F moi_13 moi_17 moi_18 moi_20 moi_21 moi_28 moi_30 moi_31 moi_32 mok_14 mok_15 mok_16 mok_19 mok_23 mok_29 mok_33 (-1 : Int32)) (fun (r21 : Int32) (u21 : (Nat → Int32) × (Nat → Int32)) => if r21 = 0 then (some ((-4 : Int32), (u21.1, u21.2))) else (xbd2 (fX7_fitsWith F moi_13 moi_17 moi_18 moi_20 moi_21 moi_28 moi_30 moi_31 moi_32 mok_14 mok_15 mok_16 mok_19 u21.1 mok_29 u21.2 a1) (fun (r34 : Int32) (u34 : (Nat → Int32) × (Nat → Int32)) => fX7_odds_L46 (fun (v46_6 : Int32) (v46_5 : Int32) => if a2 = 0 then (if v46_5 = 0 then none else (some ((r34 / v46_5), (u34.1, u34.2)))) else (if v46_5 = 0 then none else (some ((r21 / v46_5), (u34.1, u34.2))))) F r21 r34)))))))
set_option maxHeartbeats 4000000 in
set_option maxRecDepth 100000 in
theorem c_X7_odds (l : Launch) (D : va_G) (cI cP : ClassId) (sz : Nat) (mo : Nat) (mor : Nat → Nat) (moi_0 : Int32) (moi_2 : Int32) (moi_4 : Int32) (moi_8 : Int32) (moi_9 : Int32) (moi_11 : Int32) (moi_12 : Int32) (moi_13 : Int32) (moi_17 : Int32) (moi_18 : Int32) (moi_20 : Int32) (moi_21 : Int32) (moi_24 : Int32) (moi_26 : Int32) (moi_28 : Int32) (moi_30 : Int32) (moi_31 : Int32) (moi_32 : Int32) (mok_1 : Nat → Int32) (mok_3 : Nat → Int32) (mok_5 : Nat → Int32) (mok_6 : Nat → Int32) (mok_7 : Nat → Int32) (mok_10 : Nat → Int32) (mok_14 : Nat → Int32) (mok_15 : Nat → Int32) (mok_16 : Nat → Int32) (mok_19 : Nat → Int32) (mok_22 : Nat → Int32) (mok_23 : Nat → Int32) (mok_25 : Nat → Int32) (mok_27 : Nat → Int32) (mok_29 : Nat → Int32) (mok_33 : Nat → Int32) (mok_34 : Nat → Int32) (F : Nat) (a1 : Int32) (a2 : Int32) (hne : fX7_odds F moi_13 moi_17 moi_18 moi_20 moi_21 moi_28 moi_30 moi_31 moi_32 mok_14 mok_15 mok_16 mok_19 mok_23 mok_29 mok_33 a1 a2 ≠ none) : xMi l yX7_odds wsX7_odds ({ frames := 5, cells := 0, slots := 0, locals := 115 } : Room) D (xT cI cP) [.ref mo, .int a1, .int a2] (wM cI mo mor moi_0 moi_2 moi_4 moi_8 moi_9 moi_11 moi_12 moi_13 moi_17 moi_18 moi_20 moi_21 moi_24 moi_26 moi_28 moi_30 moi_31 moi_32 mok_1 mok_3 mok_5 mok_6 mok_7 mok_10 mok_14 mok_15 mok_16 mok_19 mok_22 mok_23 mok_25 mok_27 mok_29 mok_33 mok_34) sz (fun r (u : ((Nat → Int32) × (Nat → Int32))) => fX7_odds F moi_13 moi_17 moi_18 moi_20 moi_21 moi_28 moi_30 moi_31 moi_32 mok_14 mok_15 mok_16 mok_19 mok_23 mok_29 mok_33 a1 a2 = some (r, u)) (fun u => wM cI mo mor moi_0 moi_2 moi_4 moi_8 moi_9 moi_11 moi_12 moi_13 moi_17 moi_18 moi_20 moi_21 moi_24 moi_26 moi_28 moi_30 moi_31 moi_32 mok_1 mok_3 mok_5 mok_6 mok_7 mok_10 mok_14 mok_15 mok_16 mok_19 mok_22 u.1 mok_25 mok_27 mok_29 u.2 mok_34) 0 0 := by
  refine xMi_of (cc := cX7_odds) (maxL := 8) (by decide +kernel) rfl (Nat.le_of_ble_eq_true rfl) ?_
  intro p e s m args below meth c A ls hx hb hml hown hts hname hN hK hA hP hD hS hl Q hret
  have he := fX7_odds.eq_1 F moi_13 moi_17 moi_18 moi_20 moi_21 moi_28 moi_30 moi_31 moi_32 mok_14 mok_15 mok_16 mok_19 mok_23 mok_29 mok_33 a1 a2
  have hl : lv_has ls 8 [(0, .ref mo), (1, .int a1), (2, .int a2)] := hl
  have R46_0 : ∀ (r21 : Int32) (u34 : (Nat → Int32) × (Nat → Int32)) (r34 : Int32) (v46_6 : Int32) (v46_5 : Int32), fX7_odds F moi_13 moi_17 moi_18 moi_20 moi_21 moi_28 moi_30 moi_31 moi_32 mok_14 mok_15 mok_16 mok_19 mok_23 mok_29 mok_33 a1 a2 = (if a2 = 0 then (if v46_5 = 0 then none else (some ((r34 / v46_5), (u34.1, u34.2)))) else (if v46_5 = 0 then none else (some ((r21 / v46_5), (u34.1, u34.2))))) → ∀ (H : Heap) (locs : List Loc) (ls : Array Slot), va_P D vwCl (wM cI mo mor moi_0 moi_2 moi_4 moi_8 moi_9 moi_11 moi_12 moi_13 moi_17 moi_18 moi_20 moi_21 moi_24 moi_26 moi_28 moi_30 moi_31 moi_32 mok_1 mok_3 mok_5 mok_6 mok_7 mok_10 mok_14 mok_15 mok_16 mok_19 mok_22 u34.1 mok_25 mok_27 mok_29 u34.2 mok_34) H → va_D A (wM cI mo mor moi_0 moi_2 moi_4 moi_8 moi_9 moi_11 moi_12 moi_13 moi_17 moi_18 moi_20 moi_21 moi_24 moi_26 moi_28 moi_30 moi_31 moi_32 mok_1 mok_3 mok_5 mok_6 mok_7 mok_10 mok_14 mok_15 mok_16 mok_19 mok_22 u34.1 mok_25 mok_27 mok_29 u34.2 mok_34) → va_S A s.heap H locs → lv_has ls 8 [(5, .int v46_5), (4, .int r34), (3, .int r21), (2, .int a2)] → W p l e ({ frames := 5, cells := 0, slots := 0, locals := 115 } : Room) s m args below meth c H locs 0 0 Q (F0 m 69 ls []) := by
    intro r21 u34 r34 v46_6 v46_5 he H locs ls hP hD hS hl
    refine lv_iload_n hx hb dX7_odds_69 rfl (lv_at hl 3 rfl) ?_
    refine lv_if_ne (tgt := 78) hx hb dX7_odds_70 (by decide) (fun c8 => ?_) (fun c8 => ?_)
    · replace he := he.trans (if_neg c8)
      refine lv_iload_n hx hb dX7_odds_78 rfl (lv_at hl 2 rfl) ?_
      refine lv_iload hx hb dX7_odds_79 (lv_at hl 0 rfl) ?_
      by_cases g9 : v46_5 = 0
      · exact absurd (he.trans (if_pos g9)) hne
      replace he := he.trans (if_neg g9)
      refine lv_idiv hx hb dX7_odds_81 g9 ?_
      exact hret (r21 / v46_5) (u34.1, u34.2) _ _ _ _ dX7_odds_82 he hP hD hS
    · replace he := he.trans (if_pos c8)
      refine lv_iload hx hb dX7_odds_73 (lv_at hl 1 rfl) ?_
      refine lv_goto (tgt := 79) hx hb dX7_odds_75 (by decide) ?_
      refine lv_iload hx hb dX7_odds_79 (lv_at hl 0 rfl) ?_
      by_cases g10 : v46_5 = 0
      · exact absurd (he.trans (if_pos g10)) hne
      replace he := he.trans (if_neg g10)
      refine lv_idiv hx hb dX7_odds_81 g10 ?_
      exact hret (r34 / v46_5) (u34.1, u34.2) _ _ _ _ dX7_odds_82 he hP hD hS
  have L46_21 : ∀ (r21 : Int32) (u34 : (Nat → Int32) × (Nat → Int32)) (r34 : Int32) (n46 : Nat) (v46_6 : Int32) (v46_5 : Int32), fX7_odds F moi_13 moi_17 moi_18 moi_20 moi_21 moi_28 moi_30 moi_31 moi_32 mok_14 mok_15 mok_16 mok_19 mok_23 mok_29 mok_33 a1 a2 = fX7_odds_L46 (fun (v46_6 : Int32) (v46_5 : Int32) => if a2 = 0 then (if v46_5 = 0 then none else (some ((r34 / v46_5), (u34.1, u34.2)))) else (if v46_5 = 0 then none else (some ((r21 / v46_5), (u34.1, u34.2))))) n46 v46_6 v46_5 → ∀ (H : Heap) (locs : List Loc) (ls : Array Slot), va_P D vwCl (wM cI mo mor moi_0 moi_2 moi_4 moi_8 moi_9 moi_11 moi_12 moi_13 moi_17 moi_18 moi_20 moi_21 moi_24 moi_26 moi_28 moi_30 moi_31 moi_32 mok_1 mok_3 mok_5 mok_6 mok_7 mok_10 mok_14 mok_15 mok_16 mok_19 mok_22 u34.1 mok_25 mok_27 mok_29 u34.2 mok_34) H → va_D A (wM cI mo mor moi_0 moi_2 moi_4 moi_8 moi_9 moi_11 moi_12 moi_13 moi_17 moi_18 moi_20 moi_21 moi_24 moi_26 moi_28 moi_30 moi_31 moi_32 mok_1 mok_3 mok_5 mok_6 mok_7 mok_10 mok_14 mok_15 mok_16 mok_19 mok_22 u34.1 mok_25 mok_27 mok_29 u34.2 mok_34) → va_S A s.heap H locs → lv_has ls 8 [(6, .int v46_6), (5, .int v46_5), (4, .int r34), (3, .int r21), (2, .int a2)] → W p l e ({ frames := 5, cells := 0, slots := 0, locals := 115 } : Room) s m args below meth c H locs 0 0 Q (F0 m 46 ls []) := by
    intro r21 u34 r34 n46
    induction n46 with
    | zero => intro v46_6 v46_5 he; exact absurd he hne
    | succ n46 ih46 =>
      intro v46_6 v46_5 he H locs ls hP hD hS hl
      replace he := he.trans (fX7_odds_L46.eq_2 _ _ _ _)
      refine lv_iload hx hb dX7_odds_46 (lv_at hl 0 rfl) ?_
      refine lv_if_le (tgt := 69) hx hb dX7_odds_48 (by decide) (fun c11 => ?_) (fun c11 => ?_)
      · replace he := he.trans (if_pos c11)
        exact R46_0 r21 u34 r34 v46_6 v46_5 he _ _ _ hP hD hS (lv_sub hl [1, 2, 3, 4] rfl)
      · replace he := he.trans (if_neg c11)
        refine lv_iload hx hb dX7_odds_51 (lv_at hl 1 rfl) ?_
        refine lv_iload hx hb dX7_odds_53 (lv_at hl 0 rfl) ?_
        by_cases g12 : v46_6 = 0
        · exact absurd (he.trans (if_pos g12)) hne
        replace he := he.trans (if_neg g12)
        refine lv_irem hx hb dX7_odds_55 g12 ?_
        refine lv_istore (lv' := [(7, .int (v46_5 - v46_5 / v46_6 * v46_6)), (6, .int v46_6), (5, .int v46_5), (4, .int r34), (3, .int r21), (2, .int a2)]) hx hb dX7_odds_56 hl (by decide) rfl (fun ls hl => ?_)
        refine lv_iload hx hb dX7_odds_58 (lv_at hl 1 rfl) ?_
        refine lv_istore (lv' := [(5, .int v46_6), (7, .int (v46_5 - v46_5 / v46_6 * v46_6)), (6, .int v46_6), (4, .int r34), (3, .int r21), (2, .int a2)]) hx hb dX7_odds_60 hl (by decide) rfl (fun ls hl => ?_)
        refine lv_iload hx hb dX7_odds_62 (lv_at hl 1 rfl) ?_
        refine lv_istore (lv' := [(6, .int (v46_5 - v46_5 / v46_6 * v46_6)), (5, .int v46_6), (7, .int (v46_5 - v46_5 / v46_6 * v46_6)), (4, .int r34), (3, .int r21), (2, .int a2)]) hx hb dX7_odds_64 hl (by decide) rfl (fun ls hl => ?_)
        refine lv_goto (tgt := 46) hx hb dX7_odds_66 (by decide) ?_
        exact ih46 (v46_5 - v46_5 / v46_6 * v46_6) v46_6 he _ _ _ hP hD hS (lv_sub hl [0, 1, 3, 4, 5] rfl)
  refine lv_aload_n hx hb dX7_odds_0 rfl (lv_at hl 0 rfl) ?_
  refine lv_iload_n hx hb dX7_odds_1 rfl (lv_at hl 1 rfl) ?_
  have n1_ : fX7_isMan moi_13 a1 ≠ none := fun z => hne (he.trans (xbd_none z))
  refine xciW (va_runV (As := [.int a1]) (rest := []) ⟨hx, hb, hml, hown, hts⟩ (c_X7_isMan l D cI cP s.heap.size mo mor moi_0 moi_2 moi_4 moi_8 moi_9 moi_11 moi_12 moi_13 moi_17 moi_18 moi_20 moi_21 moi_24 moi_26 moi_28 moi_30 moi_31 moi_32 mok_1 mok_3 mok_5 mok_6 mok_7 mok_10 mok_14 mok_15 mok_16 mok_19 mok_22 mok_23 mok_25 mok_27 mok_29 mok_33 mok_34 a1 n1_) (cwV 1 hts gX7_odds_X7_isMan rfl rfl rfl (by decide +kernel) ⟨Nat.le_of_ble_eq_true rfl, Nat.le_of_ble_eq_true rfl⟩) (xPVW hN hK hP hD (ci := 7) (j := 0) rfl wM_0) rfl rfl hl.1 rfl (lv_room (Nat.le_of_ble_eq_true rfl)) dX7_odds_2 ⟨Nat.le_of_ble_eq_true rfl, Nat.le_of_ble_eq_true rfl⟩) hD hS hA (fun r2 u2 H locs hw hP hD hS => ?_)
  have hP : va_P D vwCl (wM cI mo mor moi_0 moi_2 moi_4 moi_8 moi_9 moi_11 moi_12 moi_13 moi_17 moi_18 moi_20 moi_21 moi_24 moi_26 moi_28 moi_30 moi_31 moi_32 mok_1 mok_3 mok_5 mok_6 mok_7 mok_10 mok_14 mok_15 mok_16 mok_19 mok_22 mok_23 mok_25 mok_27 mok_29 mok_33 mok_34) H := hP
  have hD : va_D A (wM cI mo mor moi_0 moi_2 moi_4 moi_8 moi_9 moi_11 moi_12 moi_13 moi_17 moi_18 moi_20 moi_21 moi_24 moi_26 moi_28 moi_30 moi_31 moi_32 mok_1 mok_3 mok_5 mok_6 mok_7 mok_10 mok_14 mok_15 mok_16 mok_19 mok_22 mok_23 mok_25 mok_27 mok_29 mok_33 mok_34) := hD
  replace he := he.trans (xbd_some hw)
  refine lv_if_eq (tgt := 17) hx hb dX7_odds_5 (by decide) (fun c2 => ?_) (fun c2 => ?_)
  · replace he := he.trans (if_pos c2)
    refine lv_iconst (v := -1) hx hb dX7_odds_17 (by decide) ?_
    exact hret (-1 : Int32) (mok_23, mok_33) _ _ _ _ dX7_odds_18 he hP hD hS
  · replace he := he.trans (if_neg c2)
    refine lv_iload_n hx hb dX7_odds_8 rfl (lv_at hl 2 rfl) ?_
    refine lv_iconst (v := 0) hx hb dX7_odds_9 (by decide) ?_
    refine lv_iconst (v := 1) hx hb dX7_odds_10 (by decide) ?_
    have n3_ : fX7_in a2 (0 : Int32) (1 : Int32) ≠ none := fun z => hne (he.trans (xbd_none z))
    refine xci0 (va_runS (As := [.int a2, .int (0 : Int32), .int (1 : Int32)]) (rest := []) ⟨hx, hb, hml, hown, hts⟩ (c_X7_in l D cI cP H.size  a2 (0 : Int32) (1 : Int32) n3_) (va_cwS 3 hts gX7_odds_X7_in rfl rfl rfl (by decide +kernel) ⟨Nat.le_of_ble_eq_true rfl, Nat.le_of_ble_eq_true rfl⟩) (xPS0 hN hK) rfl rfl hl.1 rfl (lv_room (Nat.le_of_ble_eq_true rfl)) dX7_odds_11 ⟨Nat.le_of_ble_eq_true rfl, Nat.le_of_ble_eq_true rfl⟩) hP hD hS hA (fun r11 u11 H locs hw hP hD hS => ?_)
    replace he := he.trans (xbd_some hw)
    refine lv_if_ne (tgt := 19) hx hb dX7_odds_14 (by decide) (fun c4 => ?_) (fun c4 => ?_)
    · replace he := he.trans (if_neg c4)
      refine lv_aload_n hx hb dX7_odds_19 rfl (lv_at hl 0 rfl) ?_
      refine lv_iconst (v := -1) hx hb dX7_odds_20 (by decide) ?_
      have n5_ : fX7_fitsWith F moi_13 moi_17 moi_18 moi_20 moi_21 moi_28 moi_30 moi_31 moi_32 mok_14 mok_15 mok_16 mok_19 mok_23 mok_29 mok_33 (-1 : Int32) ≠ none := fun z => hne (he.trans (xbd2_none z))
      refine xciW (va_runV (As := [.int (-1 : Int32)]) (rest := []) ⟨hx, hb, hml, hown, hts⟩ (c_X7_fitsWith l D cI cP H.size mo mor moi_0 moi_2 moi_4 moi_8 moi_9 moi_11 moi_12 moi_13 moi_17 moi_18 moi_20 moi_21 moi_24 moi_26 moi_28 moi_30 moi_31 moi_32 mok_1 mok_3 mok_5 mok_6 mok_7 mok_10 mok_14 mok_15 mok_16 mok_19 mok_22 mok_23 mok_25 mok_27 mok_29 mok_33 mok_34 F (-1 : Int32) n5_) (cwV 1 hts gX7_odds_X7_fitsWith rfl rfl rfl (by decide +kernel) ⟨Nat.le_of_ble_eq_true rfl, Nat.le_of_ble_eq_true rfl⟩) (xPVW hN hK hP hD (ci := 7) (j := 0) rfl wM_0) rfl rfl hl.1 rfl (lv_room (Nat.le_of_ble_eq_true rfl)) dX7_odds_21 ⟨Nat.le_of_ble_eq_true rfl, Nat.le_of_ble_eq_true rfl⟩) hD hS hA (fun r21 u21 H locs hw hP hD hS => ?_)
      have hP : va_P D vwCl (wM cI mo mor moi_0 moi_2 moi_4 moi_8 moi_9 moi_11 moi_12 moi_13 moi_17 moi_18 moi_20 moi_21 moi_24 moi_26 moi_28 moi_30 moi_31 moi_32 mok_1 mok_3 mok_5 mok_6 mok_7 mok_10 mok_14 mok_15 mok_16 mok_19 mok_22 u21.1 mok_25 mok_27 mok_29 u21.2 mok_34) H := hP
      have hD : va_D A (wM cI mo mor moi_0 moi_2 moi_4 moi_8 moi_9 moi_11 moi_12 moi_13 moi_17 moi_18 moi_20 moi_21 moi_24 moi_26 moi_28 moi_30 moi_31 moi_32 mok_1 mok_3 mok_5 mok_6 mok_7 mok_10 mok_14 mok_15 mok_16 mok_19 mok_22 u21.1 mok_25 mok_27 mok_29 u21.2 mok_34) := hD
      replace he := he.trans (xbd2_some hw)
      refine lv_istore_n (lv' := [(3, .int r21), (0, .ref mo), (1, .int a1), (2, .int a2)]) hx hb dX7_odds_24 rfl hl (by decide) rfl (fun ls hl => ?_)
      refine lv_iload_n hx hb dX7_odds_25 rfl (lv_at hl 0 rfl) ?_
      refine lv_if_ne (tgt := 32) hx hb dX7_odds_26 (by decide) (fun c6 => ?_) (fun c6 => ?_)
      · replace he := he.trans (if_neg c6)
        refine lv_aload_n hx hb dX7_odds_32 rfl (lv_at hl 1 rfl) ?_
        refine lv_iload_n hx hb dX7_odds_33 rfl (lv_at hl 2 rfl) ?_
        have n7_ : fX7_fitsWith F moi_13 moi_17 moi_18 moi_20 moi_21 moi_28 moi_30 moi_31 moi_32 mok_14 mok_15 mok_16 mok_19 u21.1 mok_29 u21.2 a1 ≠ none := fun z => hne (he.trans (xbd2_none z))
        refine xciW (va_runV (As := [.int a1]) (rest := []) ⟨hx, hb, hml, hown, hts⟩ (c_X7_fitsWith l D cI cP H.size mo mor moi_0 moi_2 moi_4 moi_8 moi_9 moi_11 moi_12 moi_13 moi_17 moi_18 moi_20 moi_21 moi_24 moi_26 moi_28 moi_30 moi_31 moi_32 mok_1 mok_3 mok_5 mok_6 mok_7 mok_10 mok_14 mok_15 mok_16 mok_19 mok_22 u21.1 mok_25 mok_27 mok_29 u21.2 mok_34 F a1 n7_) (cwV 1 hts gX7_odds_X7_fitsWith rfl rfl rfl (by decide +kernel) ⟨Nat.le_of_ble_eq_true rfl, Nat.le_of_ble_eq_true rfl⟩) (xPVW hN hK hP hD (ci := 7) (j := 0) rfl wM_0) rfl rfl hl.1 rfl (lv_room (Nat.le_of_ble_eq_true rfl)) dX7_odds_34 ⟨Nat.le_of_ble_eq_true rfl, Nat.le_of_ble_eq_true rfl⟩) hD hS hA (fun r34 u34 H locs hw hP hD hS => ?_)
        have hP : va_P D vwCl (wM cI mo mor moi_0 moi_2 moi_4 moi_8 moi_9 moi_11 moi_12 moi_13 moi_17 moi_18 moi_20 moi_21 moi_24 moi_26 moi_28 moi_30 moi_31 moi_32 mok_1 mok_3 mok_5 mok_6 mok_7 mok_10 mok_14 mok_15 mok_16 mok_19 mok_22 u34.1 mok_25 mok_27 mok_29 u34.2 mok_34) H := hP
        have hD : va_D A (wM cI mo mor moi_0 moi_2 moi_4 moi_8 moi_9 moi_11 moi_12 moi_13 moi_17 moi_18 moi_20 moi_21 moi_24 moi_26 moi_28 moi_30 moi_31 moi_32 mok_1 mok_3 mok_5 mok_6 mok_7 mok_10 mok_14 mok_15 mok_16 mok_19 mok_22 u34.1 mok_25 mok_27 mok_29 u34.2 mok_34) := hD
        replace he := he.trans (xbd2_some hw)
        refine lv_istore (lv' := [(4, .int r34), (3, .int r21), (0, .ref mo), (1, .int a1), (2, .int a2)]) hx hb dX7_odds_37 hl (by decide) rfl (fun ls hl => ?_)
        refine lv_iload hx hb dX7_odds_39 (lv_at hl 0 rfl) ?_
        refine lv_istore (lv' := [(5, .int r34), (4, .int r34), (3, .int r21), (0, .ref mo), (1, .int a1), (2, .int a2)]) hx hb dX7_odds_41 hl (by decide) rfl (fun ls hl => ?_)
        refine lv_iload_n hx hb dX7_odds_43 rfl (lv_at hl 2 rfl) ?_
        refine lv_istore (lv' := [(6, .int r21), (5, .int r34), (4, .int r34), (3, .int r21), (0, .ref mo), (1, .int a1), (2, .int a2)]) hx hb dX7_odds_44 hl (by decide) rfl (fun ls hl => ?_)
        exact L46_21 r21 u34 r34 F r21 r34 he _ _ _ hP hD hS (lv_sub hl [0, 1, 2, 3, 6] rfl)
      · replace he := he.trans (if_pos c6)
        refine lv_bipush (v := -4) hx hb dX7_odds_29 (by decide) ?_
        exact hret (-4 : Int32) (u21.1, u21.2) _ _ _ _ dX7_odds_31 he hP hD hS
    · replace he := he.trans (if_pos c4)
      refine lv_iconst (v := -1) hx hb dX7_odds_17 (by decide) ?_
      exact hret (-1 : Int32) (mok_23, mok_33) _ _ _ _ dX7_odds_18 he hP hD hS

def fX7_letOut_L29 (moi_13 : Int32) (moi_17 : Int32) (moi_18 : Int32) (moi_20 : Int32) (moi_21 : Int32) (moi_28 : Int32) (moi_32 : Int32) (mok_14 : Nat → Int32) (mok_15 : Nat → Int32) (mok_16 : Nat → Int32) (mok_19 : Nat → Int32) (mok_29 : Nat → Int32) (F : Nat) (v19_4 : Int32) (k29 : Int32 → Int32 → Int32 → Int32 → Int32 → (Nat → Int32) → (Nat → Int32) → Option (Int32 × Int32 × Int32 × (Nat → Int32) × (Nat → Int32))) : Nat → Int32 → Int32 → Int32 → Int32 → Int32 → (Nat → Int32) → (Nat → Int32) → Option (Int32 × Int32 × Int32 × (Nat → Int32) × (Nat → Int32))
  | 0, _, _, _, _, _, _, _ => none
  | n29 + 1, v29_5, v29_3, v29_2, w29_moi_30, w29_moi_31, w29_mok_23, w29_mok_33 => if moi_13 ≤ v29_5 then (k29 v29_5 v29_3 v29_2 w29_moi_30 w29_moi_31 w29_mok_23 w29_mok_33) else (xbd (fX7_begin_tried F mok_15 mok_16 w29_mok_23) (fun (u55 : (Nat → Int32)) => xbd2 (fX7_isAsSeen F moi_13 moi_17 moi_18 moi_20 moi_21 moi_28 v19_4 v29_5 moi_32 mok_14 mok_19 u55 mok_29 w29_mok_33) (fun (r59 : Int32) (u59 : (Nat → Int32) × (Nat → Int32)) => if r59 = 0 then (fX7_letOut_L29 moi_13 moi_17 moi_18 moi_20 moi_21 moi_28 moi_32 mok_14 mok_15 mok_16 mok_19 mok_29 F v19_4 k29 n29 (v29_5 + 1) v29_3 v29_2 v19_4 v29_5 u59.1 u59.2) else (if v29_2 = 0 then (fX7_letOut_L29 moi_13 moi_17 moi_18 moi_20 moi_21 moi_28 moi_32 mok_14 mok_15 mok_16 mok_19 mok_29 F v19_4 k29 n29 (v29_5 + 1) (((10 : Int32) * v19_4) + v29_5) (v29_2 + 1) v19_4 v29_5 u59.1 u59.2) else (fX7_letOut_L29 moi_13 moi_17 moi_18 moi_20 moi_21 moi_28 moi_32 mok_14 mok_15 mok_16 mok_19 mok_29 F v19_4 k29 n29 (v29_5 + 1) v29_3 (v29_2 + 1) v19_4 v29_5 u59.1 u59.2)))))
def fX7_letOut_L19 (moi_13 : Int32) (moi_17 : Int32) (moi_18 : Int32) (moi_20 : Int32) (moi_21 : Int32) (moi_28 : Int32) (moi_32 : Int32) (mok_14 : Nat → Int32) (mok_15 : Nat → Int32) (mok_16 : Nat → Int32) (mok_19 : Nat → Int32) (mok_29 : Nat → Int32) (F : Nat) (k19 : Int32 → Int32 → Int32 → Int32 → Int32 → (Nat → Int32) → (Nat → Int32) → Option (Int32 × Int32 × Int32 × (Nat → Int32) × (Nat → Int32))) : Nat → Int32 → Int32 → Int32 → Int32 → Int32 → (Nat → Int32) → (Nat → Int32) → Option (Int32 × Int32 × Int32 × (Nat → Int32) × (Nat → Int32))
  | 0, _, _, _, _, _, _, _ => none
  | n19 + 1, v19_4, v19_3, v19_2, w19_moi_30, w19_moi_31, w19_mok_23, w19_mok_33 => if (61 : Int32) ≤ v19_4 then (k19 v19_4 v19_3 v19_2 w19_moi_30 w19_moi_31 w19_mok_23 w19_mok_33) else (fX7_letOut_L29 moi_13 moi_17 moi_18 moi_20 moi_21 moi_28 moi_32 mok_14 mok_15 mok_16 mok_19 mok_29 F v19_4 (fun (v29_5 : Int32) (v29_3 : Int32) (v29_2 : Int32) (w29_moi_30 : Int32) (w29_moi_31 : Int32) (w29_mok_23 : Nat → Int32) (w29_mok_33 : Nat → Int32) => fX7_letOut_L19 moi_13 moi_17 moi_18 moi_20 moi_21 moi_28 moi_32 mok_14 mok_15 mok_16 mok_19 mok_29 F k19 n19 (v19_4 + 1) v29_3 v29_2 w29_moi_30 w29_moi_31 w29_mok_23 w29_mok_33) F (0 : Int32) v19_3 v19_2 w19_moi_30 w19_moi_31 w19_mok_23 w19_mok_33)
def fX7_letOut (F : Nat) (moi_13 : Int32) (moi_17 : Int32) (moi_18 : Int32) (moi_20 : Int32) (moi_21 : Int32) (moi_28 : Int32) (moi_30 : Int32) (moi_31 : Int32) (moi_32 : Int32) (mok_14 : Nat → Int32) (mok_15 : Nat → Int32) (mok_16 : Nat → Int32) (mok_19 : Nat → Int32) (mok_23 : Nat → Int32) (mok_29 : Nat → Int32) (mok_33 : Nat → Int32) (a1 : Int32) : Option (Int32 × Int32 × Int32 × (Nat → Int32) × (Nat → Int32)) :=
  xbd (fX7_in a1 (0 : Int32) (1 : Int32)) (fun (r3 : Int32) => if r3 = 0 then (some ((-1 : Int32), (moi_30, moi_31, mok_23, mok_33))) else (fX7_letOut_L19 moi_13 moi_17 moi_18 moi_20 moi_21 moi_28 moi_32 mok_14 mok_15 mok_16 mok_19 mok_29 F (fun (v19_4 : Int32) (v19_3 : Int32) (v19_2 : Int32) (w19_moi_30 : Int32) (w19_moi_31 : Int32) (w19_mok_23 : Nat → Int32) (w19_mok_33 : Nat → Int32) => if a1 = 0 then (some (v19_2, ((-1 : Int32), w19_moi_31, w19_mok_23, w19_mok_33))) else (some (v19_3, ((-1 : Int32), w19_moi_31, w19_mok_23, w19_mok_33)))) F (1 : Int32) (-4 : Int32) (0 : Int32) moi_30 moi_31 mok_23 mok_33))
theorem hi_X7_letOut_7 : ∀ w ∈ wsX70, w ∈ wsX7_letOut := fun _ h => (List.mem_cons_of_mem _ (List.mem_append_right _ h))
set_option maxHeartbeats 4000000 in
set_option maxRecDepth 100000 in
theorem c_X7_letOut (l : Launch) (D : va_G) (cI cP : ClassId) (sz : Nat) (mo : Nat) (mor : Nat → Nat) (moi_0 : Int32) (moi_2 : Int32) (moi_4 : Int32) (moi_8 : Int32) (moi_9 : Int32) (moi_11 : Int32) (moi_12 : Int32) (moi_13 : Int32) (moi_17 : Int32) (moi_18 : Int32) (moi_20 : Int32) (moi_21 : Int32) (moi_24 : Int32) (moi_26 : Int32) (moi_28 : Int32) (moi_30 : Int32) (moi_31 : Int32) (moi_32 : Int32) (mok_1 : Nat → Int32) (mok_3 : Nat → Int32) (mok_5 : Nat → Int32) (mok_6 : Nat → Int32) (mok_7 : Nat → Int32) (mok_10 : Nat → Int32) (mok_14 : Nat → Int32) (mok_15 : Nat → Int32) (mok_16 : Nat → Int32) (mok_19 : Nat → Int32) (mok_22 : Nat → Int32) (mok_23 : Nat → Int32) (mok_25 : Nat → Int32) (mok_27 : Nat → Int32) (mok_29 : Nat → Int32) (mok_33 : Nat → Int32) (mok_34 : Nat → Int32) (F : Nat) (a1 : Int32) (hne : fX7_letOut F moi_13 moi_17 moi_18 moi_20 moi_21 moi_28 moi_30 moi_31 moi_32 mok_14 mok_15 mok_16 mok_19 mok_23 mok_29 mok_33 a1 ≠ none) : xMi l yX7_letOut wsX7_letOut ({ frames := 3, cells := 0, slots := 0, locals := 69 } : Room) D (xT cI cP) [.ref mo, .int a1] (wM cI mo mor moi_0 moi_2 moi_4 moi_8 moi_9 moi_11 moi_12 moi_13 moi_17 moi_18 moi_20 moi_21 moi_24 moi_26 moi_28 moi_30 moi_31 moi_32 mok_1 mok_3 mok_5 mok_6 mok_7 mok_10 mok_14 mok_15 mok_16 mok_19 mok_22 mok_23 mok_25 mok_27 mok_29 mok_33 mok_34) sz (fun r (u : (Int32 × Int32 × (Nat → Int32) × (Nat → Int32))) => fX7_letOut F moi_13 moi_17 moi_18 moi_20 moi_21 moi_28 moi_30 moi_31 moi_32 mok_14 mok_15 mok_16 mok_19 mok_23 mok_29 mok_33 a1 = some (r, u)) (fun u => wM cI mo mor moi_0 moi_2 moi_4 moi_8 moi_9 moi_11 moi_12 moi_13 moi_17 moi_18 moi_20 moi_21 moi_24 moi_26 moi_28 u.1 u.2.1 moi_32 mok_1 mok_3 mok_5 mok_6 mok_7 mok_10 mok_14 mok_15 mok_16 mok_19 mok_22 u.2.2.1 mok_25 mok_27 mok_29 u.2.2.2 mok_34) 0 0 := by
  refine xMi_of (cc := cX7_letOut) (maxL := 6) (by decide +kernel) rfl (Nat.le_of_ble_eq_true rfl) ?_
  intro p e s m args below meth c A ls hx hb hml hown hts hname hN hK hA hP hD hS hl Q hret
  have he := fX7_letOut.eq_1 F moi_13 moi_17 moi_18 moi_20 moi_21 moi_28 moi_30 moi_31 moi_32 mok_14 mok_15 mok_16 mok_19 mok_23 mok_29 mok_33 a1
  have hl : lv_has ls 6 [(0, .ref mo), (1, .int a1)] := hl
  have R19_0 : ∀ (v19_4 : Int32) (v19_3 : Int32) (v19_2 : Int32) (w19_moi_30 : Int32) (w19_moi_31 : Int32) (w19_mok_23 : Nat → Int32) (w19_mok_33 : Nat → Int32), fX7_letOut F moi_13 moi_17 moi_18 moi_20 moi_21 moi_28 moi_30 moi_31 moi_32 mok_14 mok_15 mok_16 mok_19 mok_23 mok_29 mok_33 a1 = (if a1 = 0 then (some (v19_2, ((-1 : Int32), w19_moi_31, w19_mok_23, w19_mok_33))) else (some (v19_3, ((-1 : Int32), w19_moi_31, w19_mok_23, w19_mok_33)))) → ∀ (H : Heap) (locs : List Loc) (ls : Array Slot), va_P D vwCl (wM cI mo mor moi_0 moi_2 moi_4 moi_8 moi_9 moi_11 moi_12 moi_13 moi_17 moi_18 moi_20 moi_21 moi_24 moi_26 moi_28 w19_moi_30 w19_moi_31 moi_32 mok_1 mok_3 mok_5 mok_6 mok_7 mok_10 mok_14 mok_15 mok_16 mok_19 mok_22 w19_mok_23 mok_25 mok_27 mok_29 w19_mok_33 mok_34) H → va_D A (wM cI mo mor moi_0 moi_2 moi_4 moi_8 moi_9 moi_11 moi_12 moi_13 moi_17 moi_18 moi_20 moi_21 moi_24 moi_26 moi_28 w19_moi_30 w19_moi_31 moi_32 mok_1 mok_3 mok_5 mok_6 mok_7 mok_10 mok_14 mok_15 mok_16 mok_19 mok_22 w19_mok_23 mok_25 mok_27 mok_29 w19_mok_33 mok_34) → va_S A s.heap H locs → lv_has ls 6 [(3, .int v19_3), (2, .int v19_2), (0, .ref mo), (1, .int a1)] → W p l e ({ frames := 3, cells := 0, slots := 0, locals := 69 } : Room) s m args below meth c H locs 0 0 Q (F0 m 97 ls []) := by
    intro v19_4 v19_3 v19_2 w19_moi_30 w19_moi_31 w19_mok_23 w19_mok_33 he H locs ls hP hD hS hl
    refine lv_aload_n hx hb dX7_letOut_97 rfl (lv_at hl 2 rfl) ?_
    refine lv_iconst (v := -1) hx hb dX7_letOut_98 (by decide) ?_
    refine va_put (D := D) (ci := 7) (v := .int (-1 : Int32)) (ty := .int) (C := RX7) (T := TX7) (N := 35) hx hb hts hi_X7_letOut_7 tyX7 tyX7_ok nmX7 hown hK hP hD hS 0 wM_0 rfl 30 (by decide) (hts (.fieldLink RX7 55 "BlindLanternsModel" "atBell" "I") (List.mem_of_getElem? (i := 2) rfl)) (fun _ h9 => h9) rfl (by decide +kernel) rfl rfl (Nat.le_of_ble_eq_true rfl) dX7_letOut_99 (fun H locs hP hD hS => ?_)
    rw [wM_p30] at hP hD
    refine lv_iload_n hx hb dX7_letOut_102 rfl (lv_at hl 3 rfl) ?_
    refine lv_if_ne (tgt := 110) hx hb dX7_letOut_103 (by decide) (fun c3 => ?_) (fun c3 => ?_)
    · replace he := he.trans (if_neg c3)
      refine lv_iload_n hx hb dX7_letOut_110 rfl (lv_at hl 0 rfl) ?_
      exact hret v19_3 ((-1 : Int32), w19_moi_31, w19_mok_23, w19_mok_33) _ _ _ _ dX7_letOut_111 he hP hD hS
    · replace he := he.trans (if_pos c3)
      refine lv_iload_n hx hb dX7_letOut_106 rfl (lv_at hl 1 rfl) ?_
      refine lv_goto (tgt := 111) hx hb dX7_letOut_107 (by decide) ?_
      exact hret v19_2 ((-1 : Int32), w19_moi_31, w19_mok_23, w19_mok_33) _ _ _ _ dX7_letOut_111 he hP hD hS
  have L19_15 : ∀ (n19 : Nat) (v19_4 : Int32) (v19_3 : Int32) (v19_2 : Int32) (w19_moi_30 : Int32) (w19_moi_31 : Int32) (w19_mok_23 : Nat → Int32) (w19_mok_33 : Nat → Int32), fX7_letOut F moi_13 moi_17 moi_18 moi_20 moi_21 moi_28 moi_30 moi_31 moi_32 mok_14 mok_15 mok_16 mok_19 mok_23 mok_29 mok_33 a1 = fX7_letOut_L19 moi_13 moi_17 moi_18 moi_20 moi_21 moi_28 moi_32 mok_14 mok_15 mok_16 mok_19 mok_29 F (fun (v19_4 : Int32) (v19_3 : Int32) (v19_2 : Int32) (w19_moi_30 : Int32) (w19_moi_31 : Int32) (w19_mok_23 : Nat → Int32) (w19_mok_33 : Nat → Int32) => if a1 = 0 then (some (v19_2, ((-1 : Int32), w19_moi_31, w19_mok_23, w19_mok_33))) else (some (v19_3, ((-1 : Int32), w19_moi_31, w19_mok_23, w19_mok_33)))) n19 v19_4 v19_3 v19_2 w19_moi_30 w19_moi_31 w19_mok_23 w19_mok_33 → ∀ (H : Heap) (locs : List Loc) (ls : Array Slot), va_P D vwCl (wM cI mo mor moi_0 moi_2 moi_4 moi_8 moi_9 moi_11 moi_12 moi_13 moi_17 moi_18 moi_20 moi_21 moi_24 moi_26 moi_28 w19_moi_30 w19_moi_31 moi_32 mok_1 mok_3 mok_5 mok_6 mok_7 mok_10 mok_14 mok_15 mok_16 mok_19 mok_22 w19_mok_23 mok_25 mok_27 mok_29 w19_mok_33 mok_34) H → va_D A (wM cI mo mor moi_0 moi_2 moi_4 moi_8 moi_9 moi_11 moi_12 moi_13 moi_17 moi_18 moi_20 moi_21 moi_24 moi_26 moi_28 w19_moi_30 w19_moi_31 moi_32 mok_1 mok_3 mok_5 mok_6 mok_7 mok_10 mok_14 mok_15 mok_16 mok_19 mok_22 w19_mok_23 mok_25 mok_27 mok_29 w19_mok_33 mok_34) → va_S A s.heap H locs → lv_has ls 6 [(4, .int v19_4), (3, .int v19_3), (2, .int v19_2), (0, .ref mo), (1, .int a1)] → W p l e ({ frames := 3, cells := 0, slots := 0, locals := 69 } : Room) s m args below meth c H locs 0 0 Q (F0 m 19 ls []) := by
    intro n19
    induction n19 with
    | zero => intro v19_4 v19_3 v19_2 w19_moi_30 w19_moi_31 w19_mok_23 w19_mok_33 he; exact absurd he hne
    | succ n19 ih19 =>
      intro v19_4 v19_3 v19_2 w19_moi_30 w19_moi_31 w19_mok_23 w19_mok_33 he H locs ls hP hD hS hl
      replace he := he.trans (fX7_letOut_L19.eq_2 _ _ _ _ _ _ _ _ _ _ _ _ _ _ _ _ _ _ _ _ _ _)
      refine lv_iload hx hb dX7_letOut_19 (lv_at hl 0 rfl) ?_
      refine lv_bipush (v := 61) hx hb dX7_letOut_21 (by decide) ?_
      refine lv_icmp_ge (tgt := 97) hx hb dX7_letOut_23 (by decide) (fun c4 => ?_) (fun c4 => ?_)
      · replace he := he.trans (if_pos c4)
        exact R19_0 v19_4 v19_3 v19_2 w19_moi_30 w19_moi_31 w19_mok_23 w19_mok_33 he _ _ _ hP hD hS (lv_sub hl [1, 2, 3, 4] rfl)
      · replace he := he.trans (if_neg c4)
        refine lv_iconst (v := 0) hx hb dX7_letOut_26 (by decide) ?_
        refine lv_istore (lv' := [(5, .int (0 : Int32)), (4, .int v19_4), (3, .int v19_3), (2, .int v19_2), (0, .ref mo), (1, .int a1)]) hx hb dX7_letOut_27 hl (by decide) rfl (fun ls hl => ?_)
        have R29 : ∀ (v29_5 : Int32) (v29_3 : Int32) (v29_2 : Int32) (w29_moi_30 : Int32) (w29_moi_31 : Int32) (w29_mok_23 : Nat → Int32) (w29_mok_33 : Nat → Int32), fX7_letOut F moi_13 moi_17 moi_18 moi_20 moi_21 moi_28 moi_30 moi_31 moi_32 mok_14 mok_15 mok_16 mok_19 mok_23 mok_29 mok_33 a1 = (fX7_letOut_L19 moi_13 moi_17 moi_18 moi_20 moi_21 moi_28 moi_32 mok_14 mok_15 mok_16 mok_19 mok_29 F (fun (v19_4 : Int32) (v19_3 : Int32) (v19_2 : Int32) (w19_moi_30 : Int32) (w19_moi_31 : Int32) (w19_mok_23 : Nat → Int32) (w19_mok_33 : Nat → Int32) => if a1 = 0 then (some (v19_2, ((-1 : Int32), w19_moi_31, w19_mok_23, w19_mok_33))) else (some (v19_3, ((-1 : Int32), w19_moi_31, w19_mok_23, w19_mok_33)))) n19 (v19_4 + 1) v29_3 v29_2 w29_moi_30 w29_moi_31 w29_mok_23 w29_mok_33) → ∀ (H : Heap) (locs : List Loc) (ls : Array Slot), va_P D vwCl (wM cI mo mor moi_0 moi_2 moi_4 moi_8 moi_9 moi_11 moi_12 moi_13 moi_17 moi_18 moi_20 moi_21 moi_24 moi_26 moi_28 w29_moi_30 w29_moi_31 moi_32 mok_1 mok_3 mok_5 mok_6 mok_7 mok_10 mok_14 mok_15 mok_16 mok_19 mok_22 w29_mok_23 mok_25 mok_27 mok_29 w29_mok_33 mok_34) H → va_D A (wM cI mo mor moi_0 moi_2 moi_4 moi_8 moi_9 moi_11 moi_12 moi_13 moi_17 moi_18 moi_20 moi_21 moi_24 moi_26 moi_28 w29_moi_30 w29_moi_31 moi_32 mok_1 mok_3 mok_5 mok_6 mok_7 mok_10 mok_14 mok_15 mok_16 mok_19 mok_22 w29_mok_23 mok_25 mok_27 mok_29 w29_mok_33 mok_34) → va_S A s.heap H locs → lv_has ls 6 [(4, .int v19_4), (3, .int v29_3), (2, .int v29_2), (0, .ref mo), (1, .int a1)] → W p l e ({ frames := 3, cells := 0, slots := 0, locals := 69 } : Room) s m args below meth c H locs 0 0 Q (F0 m 91 ls []) := by
          intro v29_5 v29_3 v29_2 w29_moi_30 w29_moi_31 w29_mok_23 w29_mok_33 he H locs ls hP hD hS hl
          refine lv_iinc (v := (v19_4 + 1)) (lv' := [(4, .int (v19_4 + 1)), (3, .int v29_3), (2, .int v29_2), (0, .ref mo), (1, .int a1)]) hx hb dX7_letOut_91 hl (k := 0) rfl rfl (by decide) rfl (fun ls hl => ?_)
          refine lv_goto (tgt := 19) hx hb dX7_letOut_94 (by decide) ?_
          exact ih19 (v19_4 + 1) v29_3 v29_2 w29_moi_30 w29_moi_31 w29_mok_23 w29_mok_33 he _ _ _ hP hD hS (lv_sub hl [0, 1, 2, 3, 4] rfl)
        have L29 : ∀ (n29 : Nat) (v29_5 : Int32) (v29_3 : Int32) (v29_2 : Int32) (w29_moi_30 : Int32) (w29_moi_31 : Int32) (w29_mok_23 : Nat → Int32) (w29_mok_33 : Nat → Int32), fX7_letOut F moi_13 moi_17 moi_18 moi_20 moi_21 moi_28 moi_30 moi_31 moi_32 mok_14 mok_15 mok_16 mok_19 mok_23 mok_29 mok_33 a1 = fX7_letOut_L29 moi_13 moi_17 moi_18 moi_20 moi_21 moi_28 moi_32 mok_14 mok_15 mok_16 mok_19 mok_29 F v19_4 (fun (v29_5 : Int32) (v29_3 : Int32) (v29_2 : Int32) (w29_moi_30 : Int32) (w29_moi_31 : Int32) (w29_mok_23 : Nat → Int32) (w29_mok_33 : Nat → Int32) => fX7_letOut_L19 moi_13 moi_17 moi_18 moi_20 moi_21 moi_28 moi_32 mok_14 mok_15 mok_16 mok_19 mok_29 F (fun (v19_4 : Int32) (v19_3 : Int32) (v19_2 : Int32) (w19_moi_30 : Int32) (w19_moi_31 : Int32) (w19_mok_23 : Nat → Int32) (w19_mok_33 : Nat → Int32) => if a1 = 0 then (some (v19_2, ((-1 : Int32), w19_moi_31, w19_mok_23, w19_mok_33))) else (some (v19_3, ((-1 : Int32), w19_moi_31, w19_mok_23, w19_mok_33)))) n19 (v19_4 + 1) v29_3 v29_2 w29_moi_30 w29_moi_31 w29_mok_23 w29_mok_33) n29 v29_5 v29_3 v29_2 w29_moi_30 w29_moi_31 w29_mok_23 w29_mok_33 → ∀ (H : Heap) (locs : List Loc) (ls : Array Slot), va_P D vwCl (wM cI mo mor moi_0 moi_2 moi_4 moi_8 moi_9 moi_11 moi_12 moi_13 moi_17 moi_18 moi_20 moi_21 moi_24 moi_26 moi_28 w29_moi_30 w29_moi_31 moi_32 mok_1 mok_3 mok_5 mok_6 mok_7 mok_10 mok_14 mok_15 mok_16 mok_19 mok_22 w29_mok_23 mok_25 mok_27 mok_29 w29_mok_33 mok_34) H → va_D A (wM cI mo mor moi_0 moi_2 moi_4 moi_8 moi_9 moi_11 moi_12 moi_13 moi_17 moi_18 moi_20 moi_21 moi_24 moi_26 moi_28 w29_moi_30 w29_moi_31 moi_32 mok_1 mok_3 mok_5 mok_6 mok_7 mok_10 mok_14 mok_15 mok_16 mok_19 mok_22 w29_mok_23 mok_25 mok_27 mok_29 w29_mok_33 mok_34) → va_S A s.heap H locs → lv_has ls 6 [(5, .int v29_5), (4, .int v19_4), (3, .int v29_3), (2, .int v29_2), (0, .ref mo), (1, .int a1)] → W p l e ({ frames := 3, cells := 0, slots := 0, locals := 69 } : Room) s m args below meth c H locs 0 0 Q (F0 m 29 ls []) := by
          intro n29
          induction n29 with
          | zero => intro v29_5 v29_3 v29_2 w29_moi_30 w29_moi_31 w29_mok_23 w29_mok_33 he; exact absurd he hne
          | succ n29 ih29 =>
            intro v29_5 v29_3 v29_2 w29_moi_30 w29_moi_31 w29_mok_23 w29_mok_33 he H locs ls hP hD hS hl
            replace he := he.trans (fX7_letOut_L29.eq_2 _ _ _ _ _ _ _ _ _ _ _ _ _ _ _ _ _ _ _ _ _ _ _)
            refine lv_iload hx hb dX7_letOut_29 (lv_at hl 0 rfl) ?_
            refine lv_aload_n hx hb dX7_letOut_31 rfl (lv_at hl 4 rfl) ?_
            refine va_get (D := D) (ci := 7) (v := .int moi_13) (C := RX7) (T := TX7) (N := 35) hx hb hts hi_X7_letOut_7 hown hK hP 0 wM_0 rfl 13 (by decide) (hts (.fieldLink RX7 71 "BlindLanternsModel" "men" "I") (List.mem_of_getElem? (i := 1) rfl)) (fun _ h9 => h9) xMf_13 dX7_letOut_32 ?_
            refine lv_icmp_ge (tgt := 91) hx hb dX7_letOut_35 (by decide) (fun c5 => ?_) (fun c5 => ?_)
            · replace he := he.trans (if_pos c5)
              exact R29 v29_5 v29_3 v29_2 w29_moi_30 w29_moi_31 w29_mok_23 w29_mok_33 he _ _ _ hP hD hS (lv_sub hl [1, 2, 3, 4, 5] rfl)
            · replace he := he.trans (if_neg c5)
              refine lv_aload_n hx hb dX7_letOut_38 rfl (lv_at hl 4 rfl) ?_
              refine lv_iload hx hb dX7_letOut_39 (lv_at hl 1 rfl) ?_
              refine va_put (D := D) (ci := 7) (v := .int v19_4) (ty := .int) (C := RX7) (T := TX7) (N := 35) hx hb hts hi_X7_letOut_7 tyX7 tyX7_ok nmX7 hown hK hP hD hS 0 wM_0 rfl 30 (by decide) (hts (.fieldLink RX7 55 "BlindLanternsModel" "atBell" "I") (List.mem_of_getElem? (i := 2) rfl)) (fun _ h9 => h9) rfl (by decide +kernel) rfl rfl (Nat.le_of_ble_eq_true rfl) dX7_letOut_41 (fun H locs hP hD hS => ?_)
              rw [wM_p30] at hP hD
              refine lv_aload_n hx hb dX7_letOut_44 rfl (lv_at hl 4 rfl) ?_
              refine lv_iload hx hb dX7_letOut_45 (lv_at hl 0 rfl) ?_
              refine va_put (D := D) (ci := 7) (v := .int v29_5) (ty := .int) (C := RX7) (T := TX7) (N := 35) hx hb hts hi_X7_letOut_7 tyX7 tyX7_ok nmX7 hown hK hP hD hS 0 wM_0 rfl 31 (by decide) (hts (.fieldLink RX7 59 "BlindLanternsModel" "atPost" "I") (List.mem_of_getElem? (i := 3) rfl)) (fun _ h9 => h9) rfl (by decide +kernel) rfl rfl (Nat.le_of_ble_eq_true rfl) dX7_letOut_47 (fun H locs hP hD hS => ?_)
              rw [wM_p31] at hP hD
              refine lv_aload_n hx hb dX7_letOut_50 rfl (lv_at hl 4 rfl) ?_
              refine lv_aload_n hx hb dX7_letOut_51 rfl (lv_at hl 4 rfl) ?_
              refine va_get (D := D) (ci := 7) (v := .ref (mor 23)) (C := RX7) (T := TX7) (N := 35) hx hb hts hi_X7_letOut_7 hown hK hP 0 wM_0 rfl 23 (by decide) (hts (.fieldLink RX7 43 "BlindLanternsModel" "tried" "[I") (List.mem_of_getElem? (i := 4) rfl)) (fun _ h9 => h9) xMf_23 dX7_letOut_52 ?_
              have n6_ : fX7_begin_tried F mok_15 mok_16 w29_mok_23 ≠ none := fun z => hne (he.trans (xbd_none z))
              refine xcvW (va_runV (As := [.ref (mor 23)]) (rest := []) ⟨hx, hb, hml, hown, hts⟩ (c_X7_begin_tried l D cI cP H.size mo mor moi_0 moi_2 moi_4 moi_8 moi_9 moi_11 moi_12 moi_13 moi_17 moi_18 moi_20 moi_21 moi_24 moi_26 moi_28 v19_4 v29_5 moi_32 mok_1 mok_3 mok_5 mok_6 mok_7 mok_10 mok_14 mok_15 mok_16 mok_19 mok_22 w29_mok_23 mok_25 mok_27 mok_29 w29_mok_33 mok_34 F  n6_) (cwV 1 hts gX7_letOut_X7_begin rfl rfl rfl (by decide +kernel) ⟨Nat.le_of_ble_eq_true rfl, Nat.le_of_ble_eq_true rfl⟩) (xPVW hN hK hP hD (ci := 7) (j := 0) rfl wM_0) rfl rfl hl.1 rfl (lv_room (Nat.le_of_ble_eq_true rfl)) dX7_letOut_55 ⟨Nat.le_of_ble_eq_true rfl, Nat.le_of_ble_eq_true rfl⟩) hD hS hA (fun u55 H locs hw hP hD hS => ?_)
              have hP : va_P D vwCl (wM cI mo mor moi_0 moi_2 moi_4 moi_8 moi_9 moi_11 moi_12 moi_13 moi_17 moi_18 moi_20 moi_21 moi_24 moi_26 moi_28 v19_4 v29_5 moi_32 mok_1 mok_3 mok_5 mok_6 mok_7 mok_10 mok_14 mok_15 mok_16 mok_19 mok_22 u55 mok_25 mok_27 mok_29 w29_mok_33 mok_34) H := hP
              have hD : va_D A (wM cI mo mor moi_0 moi_2 moi_4 moi_8 moi_9 moi_11 moi_12 moi_13 moi_17 moi_18 moi_20 moi_21 moi_24 moi_26 moi_28 v19_4 v29_5 moi_32 mok_1 mok_3 mok_5 mok_6 mok_7 mok_10 mok_14 mok_15 mok_16 mok_19 mok_22 u55 mok_25 mok_27 mok_29 w29_mok_33 mok_34) := hD
              replace he := he.trans (xbd_some hw)
              refine lv_aload_n hx hb dX7_letOut_58 rfl (lv_at hl 4 rfl) ?_
              have n7_ : fX7_isAsSeen F moi_13 moi_17 moi_18 moi_20 moi_21 moi_28 v19_4 v29_5 moi_32 mok_14 mok_19 u55 mok_29 w29_mok_33 ≠ none := fun z => hne (he.trans (xbd2_none z))
              refine xciW (va_runV (As := []) (rest := []) ⟨hx, hb, hml, hown, hts⟩ (c_X7_isAsSeen l D cI cP H.size mo mor moi_0 moi_2 moi_4 moi_8 moi_9 moi_11 moi_12 moi_13 moi_17 moi_18 moi_20 moi_21 moi_24 moi_26 moi_28 v19_4 v29_5 moi_32 mok_1 mok_3 mok_5 mok_6 mok_7 mok_10 mok_14 mok_15 mok_16 mok_19 mok_22 u55 mok_25 mok_27 mok_29 w29_mok_33 mok_34 F  n7_) (cwV 0 hts gX7_letOut_X7_isAsSeen rfl rfl rfl (by decide +kernel) ⟨Nat.le_of_ble_eq_true rfl, Nat.le_of_ble_eq_true rfl⟩) (xPVW hN hK hP hD (ci := 7) (j := 0) rfl wM_0) rfl rfl hl.1 rfl (lv_room (Nat.le_of_ble_eq_true rfl)) dX7_letOut_59 ⟨Nat.le_of_ble_eq_true rfl, Nat.le_of_ble_eq_true rfl⟩) hD hS hA (fun r59 u59 H locs hw hP hD hS => ?_)
              have hP : va_P D vwCl (wM cI mo mor moi_0 moi_2 moi_4 moi_8 moi_9 moi_11 moi_12 moi_13 moi_17 moi_18 moi_20 moi_21 moi_24 moi_26 moi_28 v19_4 v29_5 moi_32 mok_1 mok_3 mok_5 mok_6 mok_7 mok_10 mok_14 mok_15 mok_16 mok_19 mok_22 u59.1 mok_25 mok_27 mok_29 u59.2 mok_34) H := hP
              have hD : va_D A (wM cI mo mor moi_0 moi_2 moi_4 moi_8 moi_9 moi_11 moi_12 moi_13 moi_17 moi_18 moi_20 moi_21 moi_24 moi_26 moi_28 v19_4 v29_5 moi_32 mok_1 mok_3 mok_5 mok_6 mok_7 mok_10 mok_14 mok_15 mok_16 mok_19 mok_22 u59.1 mok_25 mok_27 mok_29 u59.2 mok_34) := hD
              replace he := he.trans (xbd2_some hw)
              refine lv_if_eq (tgt := 85) hx hb dX7_letOut_62 (by decide) (fun c8 => ?_) (fun c8 => ?_)
              · replace he := he.trans (if_pos c8)
                refine lv_iinc (v := (v29_5 + 1)) (lv' := [(5, .int (v29_5 + 1)), (4, .int v19_4), (3, .int v29_3), (2, .int v29_2), (0, .ref mo), (1, .int a1)]) hx hb dX7_letOut_85 hl (k := 0) rfl rfl (by decide) rfl (fun ls hl => ?_)
                refine lv_goto (tgt := 29) hx hb dX7_letOut_88 (by decide) ?_
                exact ih29 (v29_5 + 1) v29_3 v29_2 v19_4 v29_5 u59.1 u59.2 he _ _ _ hP hD hS (lv_sub hl [0, 1, 2, 3, 4, 5] rfl)
              · replace he := he.trans (if_neg c8)
                refine lv_iload_n hx hb dX7_letOut_65 rfl (lv_at hl 3 rfl) ?_
                refine lv_if_ne (tgt := 80) hx hb dX7_letOut_66 (by decide) (fun c9 => ?_) (fun c9 => ?_)
                · replace he := he.trans (if_neg c9)
                  refine lv_iload_n hx hb dX7_letOut_80 rfl (lv_at hl 2 rfl) ?_
                  refine lv_istore_n (lv' := [(3, .int v29_3), (5, .int v29_5), (4, .int v19_4), (2, .int v29_2), (0, .ref mo), (1, .int a1)]) hx hb dX7_letOut_81 rfl hl (by decide) rfl (fun ls hl => ?_)
                  refine lv_iinc (v := (v29_2 + 1)) (lv' := [(2, .int (v29_2 + 1)), (3, .int v29_3), (5, .int v29_5), (4, .int v19_4), (0, .ref mo), (1, .int a1)]) hx hb dX7_letOut_82 hl (k := 3) rfl rfl (by decide) rfl (fun ls hl => ?_)
                  refine lv_iinc (v := (v29_5 + 1)) (lv' := [(5, .int (v29_5 + 1)), (2, .int (v29_2 + 1)), (3, .int v29_3), (4, .int v19_4), (0, .ref mo), (1, .int a1)]) hx hb dX7_letOut_85 hl (k := 2) rfl rfl (by decide) rfl (fun ls hl => ?_)
                  refine lv_goto (tgt := 29) hx hb dX7_letOut_88 (by decide) ?_
                  exact ih29 (v29_5 + 1) v29_3 (v29_2 + 1) v19_4 v29_5 u59.1 u59.2 he _ _ _ hP hD hS (lv_sub hl [0, 3, 2, 1, 4, 5] rfl)
                · replace he := he.trans (if_pos c9)
                  refine lv_bipush (v := 10) hx hb dX7_letOut_69 (by decide) ?_
                  refine lv_iload hx hb dX7_letOut_71 (lv_at hl 1 rfl) ?_
                  refine lv_imul hx hb dX7_letOut_73 ?_
                  refine lv_iload hx hb dX7_letOut_74 (lv_at hl 0 rfl) ?_
                  refine lv_iadd hx hb dX7_letOut_76 ?_
                  refine lv_goto (tgt := 81) hx hb dX7_letOut_77 (by decide) ?_
                  refine lv_istore_n (lv' := [(3, .int (((10 : Int32) * v19_4) + v29_5)), (5, .int v29_5), (4, .int v19_4), (2, .int v29_2), (0, .ref mo), (1, .int a1)]) hx hb dX7_letOut_81 rfl hl (by decide) rfl (fun ls hl => ?_)
                  refine lv_iinc (v := (v29_2 + 1)) (lv' := [(2, .int (v29_2 + 1)), (3, .int (((10 : Int32) * v19_4) + v29_5)), (5, .int v29_5), (4, .int v19_4), (0, .ref mo), (1, .int a1)]) hx hb dX7_letOut_82 hl (k := 3) rfl rfl (by decide) rfl (fun ls hl => ?_)
                  refine lv_iinc (v := (v29_5 + 1)) (lv' := [(5, .int (v29_5 + 1)), (2, .int (v29_2 + 1)), (3, .int (((10 : Int32) * v19_4) + v29_5)), (4, .int v19_4), (0, .ref mo), (1, .int a1)]) hx hb dX7_letOut_85 hl (k := 2) rfl rfl (by decide) rfl (fun ls hl => ?_)
                  refine lv_goto (tgt := 29) hx hb dX7_letOut_88 (by decide) ?_
                  exact ih29 (v29_5 + 1) (((10 : Int32) * v19_4) + v29_5) (v29_2 + 1) v19_4 v29_5 u59.1 u59.2 he _ _ _ hP hD hS (lv_sub hl [0, 3, 2, 1, 4, 5] rfl)
        exact L29 F (0 : Int32) v19_3 v19_2 w19_moi_30 w19_moi_31 w19_mok_23 w19_mok_33 he _ _ _ hP hD hS (lv_sub hl [0, 1, 2, 3, 4, 5] rfl)
  refine lv_iload_n hx hb dX7_letOut_0 rfl (lv_at hl 1 rfl) ?_
  refine lv_iconst (v := 0) hx hb dX7_letOut_1 (by decide) ?_
  refine lv_iconst (v := 1) hx hb dX7_letOut_2 (by decide) ?_
  have n1_ : fX7_in a1 (0 : Int32) (1 : Int32) ≠ none := fun z => hne (he.trans (xbd_none z))
  refine xci0 (va_runS (As := [.int a1, .int (0 : Int32), .int (1 : Int32)]) (rest := []) ⟨hx, hb, hml, hown, hts⟩ (c_X7_in l D cI cP s.heap.size  a1 (0 : Int32) (1 : Int32) n1_) (va_cwS 3 hts gX7_letOut_X7_in rfl rfl rfl (by decide +kernel) ⟨Nat.le_of_ble_eq_true rfl, Nat.le_of_ble_eq_true rfl⟩) (xPS0 hN hK) rfl rfl hl.1 rfl (lv_room (Nat.le_of_ble_eq_true rfl)) dX7_letOut_3 ⟨Nat.le_of_ble_eq_true rfl, Nat.le_of_ble_eq_true rfl⟩) hP hD hS hA (fun r3 u3 H locs hw hP hD hS => ?_)
  replace he := he.trans (xbd_some hw)
  refine lv_if_ne (tgt := 11) hx hb dX7_letOut_6 (by decide) (fun c2 => ?_) (fun c2 => ?_)
  · replace he := he.trans (if_neg c2)
    refine lv_iconst (v := 0) hx hb dX7_letOut_11 (by decide) ?_
    refine lv_istore_n (lv' := [(2, .int (0 : Int32)), (0, .ref mo), (1, .int a1)]) hx hb dX7_letOut_12 rfl hl (by decide) rfl (fun ls hl => ?_)
    refine lv_bipush (v := -4) hx hb dX7_letOut_13 (by decide) ?_
    refine lv_istore_n (lv' := [(3, .int (-4 : Int32)), (2, .int (0 : Int32)), (0, .ref mo), (1, .int a1)]) hx hb dX7_letOut_15 rfl hl (by decide) rfl (fun ls hl => ?_)
    refine lv_iconst (v := 1) hx hb dX7_letOut_16 (by decide) ?_
    refine lv_istore (lv' := [(4, .int (1 : Int32)), (3, .int (-4 : Int32)), (2, .int (0 : Int32)), (0, .ref mo), (1, .int a1)]) hx hb dX7_letOut_17 hl (by decide) rfl (fun ls hl => ?_)
    exact L19_15 F (1 : Int32) (-4 : Int32) (0 : Int32) moi_30 moi_31 mok_23 mok_33 he _ _ _ hP hD hS (lv_sub hl [0, 1, 2, 3, 4] rfl)
  · replace he := he.trans (if_pos c2)
    refine lv_iconst (v := -1) hx hb dX7_letOut_9 (by decide) ?_
    exact hret (-1 : Int32) (moi_30, moi_31, mok_23, mok_33) _ _ _ _ dX7_letOut_10 he hP hD hS

def fX7_coldHands_L24 (moi_13 : Int32) (moi_17 : Int32) (moi_18 : Int32) (moi_20 : Int32) (moi_21 : Int32) (moi_28 : Int32) (moi_30 : Int32) (moi_31 : Int32) (mok_14 : Nat → Int32) (mok_15 : Nat → Int32) (mok_16 : Nat → Int32) (mok_19 : Nat → Int32) (mok_29 : Nat → Int32) (F : Nat) (k24 : Int32 → Int32 → Int32 → (Nat → Int32) → (Nat → Int32) → Option (Int32 × Int32 × (Nat → Int32) × (Nat → Int32))) : Nat → Int32 → Int32 → Int32 → (Nat → Int32) → (Nat → Int32) → Option (Int32 × Int32 × (Nat → Int32) × (Nat → Int32))
  | 0, _, _, _, _, _ => none
  | n24 + 1, v24_2, v24_1, w24_moi_32, w24_mok_23, w24_mok_33 => if moi_13 ≤ v24_2 then (k24 v24_2 v24_1 w24_moi_32 w24_mok_23 w24_mok_33) else (xbd (fX7_begin_tried F mok_15 mok_16 w24_mok_23) (fun (u42 : (Nat → Int32)) => xbd2 (fX7_isAsSeen F moi_13 moi_17 moi_18 moi_20 moi_21 moi_28 moi_30 moi_31 v24_2 mok_14 mok_19 u42 mok_29 w24_mok_33) (fun (r47 : Int32) (u47 : (Nat → Int32) × (Nat → Int32)) => if r47 = 0 then (fX7_coldHands_L24 moi_13 moi_17 moi_18 moi_20 moi_21 moi_28 moi_30 moi_31 mok_14 mok_15 mok_16 mok_19 mok_29 F k24 n24 (v24_2 + 1) (v24_1 ||| (0 : Int32)) v24_2 u47.1 u47.2) else (fX7_coldHands_L24 moi_13 moi_17 moi_18 moi_20 moi_21 moi_28 moi_30 moi_31 mok_14 mok_15 mok_16 mok_19 mok_29 F k24 n24 (v24_2 + 1) (v24_1 ||| ((1 : Int32) <<< (v24_2 &&& 31))) v24_2 u47.1 u47.2))))
def fX7_coldHands (F : Nat) (moi_13 : Int32) (moi_17 : Int32) (moi_18 : Int32) (moi_20 : Int32) (moi_21 : Int32) (moi_28 : Int32) (moi_30 : Int32) (moi_31 : Int32) (moi_32 : Int32) (mok_14 : Nat → Int32) (mok_15 : Nat → Int32) (mok_16 : Nat → Int32) (mok_19 : Nat → Int32) (mok_23 : Nat → Int32) (mok_29 : Nat → Int32) (mok_33 : Nat → Int32) : Option (Int32 × Int32 × (Nat → Int32) × (Nat → Int32)) :=
  xbd (fX7_begin_tried F mok_15 mok_16 mok_23) (fun (u5 : (Nat → Int32)) => xbd2 (fX7_isAsSeen F moi_13 moi_17 moi_18 moi_20 moi_21 moi_28 moi_30 moi_31 moi_32 mok_14 mok_19 u5 mok_29 mok_33) (fun (r9 : Int32) (u9 : (Nat → Int32) × (Nat → Int32)) => if r9 = 0 then (fX7_coldHands_L24 moi_13 moi_17 moi_18 moi_20 moi_21 moi_28 moi_30 moi_31 mok_14 mok_15 mok_16 mok_19 mok_29 F (fun (v24_2 : Int32) (v24_1 : Int32) (w24_moi_32 : Int32) (w24_mok_23 : Nat → Int32) (w24_mok_33 : Nat → Int32) => some (v24_1, ((-1 : Int32), w24_mok_23, w24_mok_33))) F (0 : Int32) (0 : Int32) moi_32 u9.1 u9.2) else (fX7_coldHands_L24 moi_13 moi_17 moi_18 moi_20 moi_21 moi_28 moi_30 moi_31 mok_14 mok_15 mok_16 mok_19 mok_29 F (fun (v24_2 : Int32) (v24_1 : Int32) (w24_moi_32 : Int32) (w24_mok_23 : Nat → Int32) (w24_mok_33 : Nat → Int32) => some (v24_1, ((-1 : Int32), w24_mok_23, w24_mok_33))) F (0 : Int32) (64 : Int32) moi_32 u9.1 u9.2)))
theorem hi_X7_coldHands_7 : ∀ w ∈ wsX70, w ∈ wsX7_coldHands := fun _ h => (List.mem_cons_of_mem _ (List.mem_append_right _ h))
set_option maxHeartbeats 4000000 in
set_option maxRecDepth 100000 in
theorem c_X7_coldHands (l : Launch) (D : va_G) (cI cP : ClassId) (sz : Nat) (mo : Nat) (mor : Nat → Nat) (moi_0 : Int32) (moi_2 : Int32) (moi_4 : Int32) (moi_8 : Int32) (moi_9 : Int32) (moi_11 : Int32) (moi_12 : Int32) (moi_13 : Int32) (moi_17 : Int32) (moi_18 : Int32) (moi_20 : Int32) (moi_21 : Int32) (moi_24 : Int32) (moi_26 : Int32) (moi_28 : Int32) (moi_30 : Int32) (moi_31 : Int32) (moi_32 : Int32) (mok_1 : Nat → Int32) (mok_3 : Nat → Int32) (mok_5 : Nat → Int32) (mok_6 : Nat → Int32) (mok_7 : Nat → Int32) (mok_10 : Nat → Int32) (mok_14 : Nat → Int32) (mok_15 : Nat → Int32) (mok_16 : Nat → Int32) (mok_19 : Nat → Int32) (mok_22 : Nat → Int32) (mok_23 : Nat → Int32) (mok_25 : Nat → Int32) (mok_27 : Nat → Int32) (mok_29 : Nat → Int32) (mok_33 : Nat → Int32) (mok_34 : Nat → Int32) (F : Nat) (hne : fX7_coldHands F moi_13 moi_17 moi_18 moi_20 moi_21 moi_28 moi_30 moi_31 moi_32 mok_14 mok_15 mok_16 mok_19 mok_23 mok_29 mok_33 ≠ none) : xMi l yX7_coldHands wsX7_coldHands ({ frames := 3, cells := 0, slots := 0, locals := 69 } : Room) D (xT cI cP) [.ref mo] (wM cI mo mor moi_0 moi_2 moi_4 moi_8 moi_9 moi_11 moi_12 moi_13 moi_17 moi_18 moi_20 moi_21 moi_24 moi_26 moi_28 moi_30 moi_31 moi_32 mok_1 mok_3 mok_5 mok_6 mok_7 mok_10 mok_14 mok_15 mok_16 mok_19 mok_22 mok_23 mok_25 mok_27 mok_29 mok_33 mok_34) sz (fun r (u : (Int32 × (Nat → Int32) × (Nat → Int32))) => fX7_coldHands F moi_13 moi_17 moi_18 moi_20 moi_21 moi_28 moi_30 moi_31 moi_32 mok_14 mok_15 mok_16 mok_19 mok_23 mok_29 mok_33 = some (r, u)) (fun u => wM cI mo mor moi_0 moi_2 moi_4 moi_8 moi_9 moi_11 moi_12 moi_13 moi_17 moi_18 moi_20 moi_21 moi_24 moi_26 moi_28 moi_30 moi_31 u.1 mok_1 mok_3 mok_5 mok_6 mok_7 mok_10 mok_14 mok_15 mok_16 mok_19 mok_22 u.2.1 mok_25 mok_27 mok_29 u.2.2 mok_34) 0 0 := by
  refine xMi_of (cc := cX7_coldHands) (maxL := 3) (by decide +kernel) rfl (Nat.le_of_ble_eq_true rfl) ?_
  intro p e s m args below meth c A ls hx hb hml hown hts hname hN hK hA hP hD hS hl Q hret
  have he := fX7_coldHands.eq_1 F moi_13 moi_17 moi_18 moi_20 moi_21 moi_28 moi_30 moi_31 moi_32 mok_14 mok_15 mok_16 mok_19 mok_23 mok_29 mok_33
  have hl : lv_has ls 3 [(0, .ref mo)] := hl
  have R24_0 : ∀ (v24_2 : Int32) (v24_1 : Int32) (w24_moi_32 : Int32) (w24_mok_23 : Nat → Int32) (w24_mok_33 : Nat → Int32), fX7_coldHands F moi_13 moi_17 moi_18 moi_20 moi_21 moi_28 moi_30 moi_31 moi_32 mok_14 mok_15 mok_16 mok_19 mok_23 mok_29 mok_33 = (some (v24_1, ((-1 : Int32), w24_mok_23, w24_mok_33))) → ∀ (H : Heap) (locs : List Loc) (ls : Array Slot), va_P D vwCl (wM cI mo mor moi_0 moi_2 moi_4 moi_8 moi_9 moi_11 moi_12 moi_13 moi_17 moi_18 moi_20 moi_21 moi_24 moi_26 moi_28 moi_30 moi_31 w24_moi_32 mok_1 mok_3 mok_5 mok_6 mok_7 mok_10 mok_14 mok_15 mok_16 mok_19 mok_22 w24_mok_23 mok_25 mok_27 mok_29 w24_mok_33 mok_34) H → va_D A (wM cI mo mor moi_0 moi_2 moi_4 moi_8 moi_9 moi_11 moi_12 moi_13 moi_17 moi_18 moi_20 moi_21 moi_24 moi_26 moi_28 moi_30 moi_31 w24_moi_32 mok_1 mok_3 mok_5 mok_6 mok_7 mok_10 mok_14 mok_15 mok_16 mok_19 mok_22 w24_mok_23 mok_25 mok_27 mok_29 w24_mok_33 mok_34) → va_S A s.heap H locs → lv_has ls 3 [(1, .int v24_1), (0, .ref mo)] → W p l e ({ frames := 3, cells := 0, slots := 0, locals := 69 } : Room) s m args below meth c H locs 0 0 Q (F0 m 68 ls []) := by
    intro v24_2 v24_1 w24_moi_32 w24_mok_23 w24_mok_33 he H locs ls hP hD hS hl
    refine lv_aload_n hx hb dX7_coldHands_68 rfl (lv_at hl 1 rfl) ?_
    refine lv_iconst (v := -1) hx hb dX7_coldHands_69 (by decide) ?_
    refine va_put (D := D) (ci := 7) (v := .int (-1 : Int32)) (ty := .int) (C := RX7) (T := TX7) (N := 35) hx hb hts hi_X7_coldHands_7 tyX7 tyX7_ok nmX7 hown hK hP hD hS 0 wM_0 rfl 32 (by decide) (hts (.fieldLink RX7 62 "BlindLanternsModel" "cold" "I") (List.mem_of_getElem? (i := 3) rfl)) (fun _ h9 => h9) rfl (by decide +kernel) rfl rfl (Nat.le_of_ble_eq_true rfl) dX7_coldHands_70 (fun H locs hP hD hS => ?_)
    rw [wM_p32] at hP hD
    refine lv_iload_n hx hb dX7_coldHands_73 rfl (lv_at hl 0 rfl) ?_
    exact hret v24_1 ((-1 : Int32), w24_mok_23, w24_mok_33) _ _ _ _ dX7_coldHands_74 he hP hD hS
  have L24_8 : ∀ (n24 : Nat) (v24_2 : Int32) (v24_1 : Int32) (w24_moi_32 : Int32) (w24_mok_23 : Nat → Int32) (w24_mok_33 : Nat → Int32), fX7_coldHands F moi_13 moi_17 moi_18 moi_20 moi_21 moi_28 moi_30 moi_31 moi_32 mok_14 mok_15 mok_16 mok_19 mok_23 mok_29 mok_33 = fX7_coldHands_L24 moi_13 moi_17 moi_18 moi_20 moi_21 moi_28 moi_30 moi_31 mok_14 mok_15 mok_16 mok_19 mok_29 F (fun (v24_2 : Int32) (v24_1 : Int32) (w24_moi_32 : Int32) (w24_mok_23 : Nat → Int32) (w24_mok_33 : Nat → Int32) => some (v24_1, ((-1 : Int32), w24_mok_23, w24_mok_33))) n24 v24_2 v24_1 w24_moi_32 w24_mok_23 w24_mok_33 → ∀ (H : Heap) (locs : List Loc) (ls : Array Slot), va_P D vwCl (wM cI mo mor moi_0 moi_2 moi_4 moi_8 moi_9 moi_11 moi_12 moi_13 moi_17 moi_18 moi_20 moi_21 moi_24 moi_26 moi_28 moi_30 moi_31 w24_moi_32 mok_1 mok_3 mok_5 mok_6 mok_7 mok_10 mok_14 mok_15 mok_16 mok_19 mok_22 w24_mok_23 mok_25 mok_27 mok_29 w24_mok_33 mok_34) H → va_D A (wM cI mo mor moi_0 moi_2 moi_4 moi_8 moi_9 moi_11 moi_12 moi_13 moi_17 moi_18 moi_20 moi_21 moi_24 moi_26 moi_28 moi_30 moi_31 w24_moi_32 mok_1 mok_3 mok_5 mok_6 mok_7 mok_10 mok_14 mok_15 mok_16 mok_19 mok_22 w24_mok_23 mok_25 mok_27 mok_29 w24_mok_33 mok_34) → va_S A s.heap H locs → lv_has ls 3 [(2, .int v24_2), (1, .int v24_1), (0, .ref mo)] → W p l e ({ frames := 3, cells := 0, slots := 0, locals := 69 } : Room) s m args below meth c H locs 0 0 Q (F0 m 24 ls []) := by
    intro n24
    induction n24 with
    | zero => intro v24_2 v24_1 w24_moi_32 w24_mok_23 w24_mok_33 he; exact absurd he hne
    | succ n24 ih24 =>
      intro v24_2 v24_1 w24_moi_32 w24_mok_23 w24_mok_33 he H locs ls hP hD hS hl
      replace he := he.trans (fX7_coldHands_L24.eq_2 _ _ _ _ _ _ _ _ _ _ _ _ _ _ _ _ _ _ _ _ _)
      refine lv_iload_n hx hb dX7_coldHands_24 rfl (lv_at hl 0 rfl) ?_
      refine lv_aload_n hx hb dX7_coldHands_25 rfl (lv_at hl 2 rfl) ?_
      refine va_get (D := D) (ci := 7) (v := .int moi_13) (C := RX7) (T := TX7) (N := 35) hx hb hts hi_X7_coldHands_7 hown hK hP 0 wM_0 rfl 13 (by decide) (hts (.fieldLink RX7 71 "BlindLanternsModel" "men" "I") (List.mem_of_getElem? (i := 2) rfl)) (fun _ h9 => h9) xMf_13 dX7_coldHands_26 ?_
      refine lv_icmp_ge (tgt := 68) hx hb dX7_coldHands_29 (by decide) (fun c4 => ?_) (fun c4 => ?_)
      · replace he := he.trans (if_pos c4)
        exact R24_0 v24_2 v24_1 w24_moi_32 w24_mok_23 w24_mok_33 he _ _ _ hP hD hS (lv_sub hl [1, 2] rfl)
      · replace he := he.trans (if_neg c4)
        refine lv_aload_n hx hb dX7_coldHands_32 rfl (lv_at hl 2 rfl) ?_
        refine lv_iload_n hx hb dX7_coldHands_33 rfl (lv_at hl 0 rfl) ?_
        refine va_put (D := D) (ci := 7) (v := .int v24_2) (ty := .int) (C := RX7) (T := TX7) (N := 35) hx hb hts hi_X7_coldHands_7 tyX7 tyX7_ok nmX7 hown hK hP hD hS 0 wM_0 rfl 32 (by decide) (hts (.fieldLink RX7 62 "BlindLanternsModel" "cold" "I") (List.mem_of_getElem? (i := 3) rfl)) (fun _ h9 => h9) rfl (by decide +kernel) rfl rfl (Nat.le_of_ble_eq_true rfl) dX7_coldHands_34 (fun H locs hP hD hS => ?_)
        rw [wM_p32] at hP hD
        refine lv_aload_n hx hb dX7_coldHands_37 rfl (lv_at hl 2 rfl) ?_
        refine lv_aload_n hx hb dX7_coldHands_38 rfl (lv_at hl 2 rfl) ?_
        refine va_get (D := D) (ci := 7) (v := .ref (mor 23)) (C := RX7) (T := TX7) (N := 35) hx hb hts hi_X7_coldHands_7 hown hK hP 0 wM_0 rfl 23 (by decide) (hts (.fieldLink RX7 43 "BlindLanternsModel" "tried" "[I") (List.mem_of_getElem? (i := 1) rfl)) (fun _ h9 => h9) xMf_23 dX7_coldHands_39 ?_
        have n5_ : fX7_begin_tried F mok_15 mok_16 w24_mok_23 ≠ none := fun z => hne (he.trans (xbd_none z))
        refine xcvW (va_runV (As := [.ref (mor 23)]) (rest := []) ⟨hx, hb, hml, hown, hts⟩ (c_X7_begin_tried l D cI cP H.size mo mor moi_0 moi_2 moi_4 moi_8 moi_9 moi_11 moi_12 moi_13 moi_17 moi_18 moi_20 moi_21 moi_24 moi_26 moi_28 moi_30 moi_31 v24_2 mok_1 mok_3 mok_5 mok_6 mok_7 mok_10 mok_14 mok_15 mok_16 mok_19 mok_22 w24_mok_23 mok_25 mok_27 mok_29 w24_mok_33 mok_34 F  n5_) (cwV 1 hts gX7_coldHands_X7_begin rfl rfl rfl (by decide +kernel) ⟨Nat.le_of_ble_eq_true rfl, Nat.le_of_ble_eq_true rfl⟩) (xPVW hN hK hP hD (ci := 7) (j := 0) rfl wM_0) rfl rfl hl.1 rfl (lv_room (Nat.le_of_ble_eq_true rfl)) dX7_coldHands_42 ⟨Nat.le_of_ble_eq_true rfl, Nat.le_of_ble_eq_true rfl⟩) hD hS hA (fun u42 H locs hw hP hD hS => ?_)
        have hP : va_P D vwCl (wM cI mo mor moi_0 moi_2 moi_4 moi_8 moi_9 moi_11 moi_12 moi_13 moi_17 moi_18 moi_20 moi_21 moi_24 moi_26 moi_28 moi_30 moi_31 v24_2 mok_1 mok_3 mok_5 mok_6 mok_7 mok_10 mok_14 mok_15 mok_16 mok_19 mok_22 u42 mok_25 mok_27 mok_29 w24_mok_33 mok_34) H := hP
        have hD : va_D A (wM cI mo mor moi_0 moi_2 moi_4 moi_8 moi_9 moi_11 moi_12 moi_13 moi_17 moi_18 moi_20 moi_21 moi_24 moi_26 moi_28 moi_30 moi_31 v24_2 mok_1 mok_3 mok_5 mok_6 mok_7 mok_10 mok_14 mok_15 mok_16 mok_19 mok_22 u42 mok_25 mok_27 mok_29 w24_mok_33 mok_34) := hD
        replace he := he.trans (xbd_some hw)
        refine lv_iload_n hx hb dX7_coldHands_45 rfl (lv_at hl 1 rfl) ?_
        refine lv_aload_n hx hb dX7_coldHands_46 rfl (lv_at hl 2 rfl) ?_
        have n6_ : fX7_isAsSeen F moi_13 moi_17 moi_18 moi_20 moi_21 moi_28 moi_30 moi_31 v24_2 mok_14 mok_19 u42 mok_29 w24_mok_33 ≠ none := fun z => hne (he.trans (xbd2_none z))
        refine xciW (va_runV (As := []) (rest := [.int v24_1]) ⟨hx, hb, hml, hown, hts⟩ (c_X7_isAsSeen l D cI cP H.size mo mor moi_0 moi_2 moi_4 moi_8 moi_9 moi_11 moi_12 moi_13 moi_17 moi_18 moi_20 moi_21 moi_24 moi_26 moi_28 moi_30 moi_31 v24_2 mok_1 mok_3 mok_5 mok_6 mok_7 mok_10 mok_14 mok_15 mok_16 mok_19 mok_22 u42 mok_25 mok_27 mok_29 w24_mok_33 mok_34 F  n6_) (cwV 0 hts gX7_coldHands_X7_isAsSeen rfl rfl rfl (by decide +kernel) ⟨Nat.le_of_ble_eq_true rfl, Nat.le_of_ble_eq_true rfl⟩) (xPVW hN hK hP hD (ci := 7) (j := 0) rfl wM_0) rfl rfl hl.1 rfl (lv_room (Nat.le_of_ble_eq_true rfl)) dX7_coldHands_47 ⟨Nat.le_of_ble_eq_true rfl, Nat.le_of_ble_eq_true rfl⟩) hD hS hA (fun r47 u47 H locs hw hP hD hS => ?_)
        have hP : va_P D vwCl (wM cI mo mor moi_0 moi_2 moi_4 moi_8 moi_9 moi_11 moi_12 moi_13 moi_17 moi_18 moi_20 moi_21 moi_24 moi_26 moi_28 moi_30 moi_31 v24_2 mok_1 mok_3 mok_5 mok_6 mok_7 mok_10 mok_14 mok_15 mok_16 mok_19 mok_22 u47.1 mok_25 mok_27 mok_29 u47.2 mok_34) H := hP
        have hD : va_D A (wM cI mo mor moi_0 moi_2 moi_4 moi_8 moi_9 moi_11 moi_12 moi_13 moi_17 moi_18 moi_20 moi_21 moi_24 moi_26 moi_28 moi_30 moi_31 v24_2 mok_1 mok_3 mok_5 mok_6 mok_7 mok_10 mok_14 mok_15 mok_16 mok_19 mok_22 u47.1 mok_25 mok_27 mok_29 u47.2 mok_34) := hD
        replace he := he.trans (xbd2_some hw)
        refine lv_if_eq (tgt := 59) hx hb dX7_coldHands_50 (by decide) (fun c7 => ?_) (fun c7 => ?_)
        · replace he := he.trans (if_pos c7)
          refine lv_iconst (v := 0) hx hb dX7_coldHands_59 (by decide) ?_
          refine lv_ior hx hb dX7_coldHands_60 ?_
          refine lv_istore_n (lv' := [(1, .int (v24_1 ||| (0 : Int32))), (2, .int v24_2), (0, .ref mo)]) hx hb dX7_coldHands_61 rfl hl (by decide) rfl (fun ls hl => ?_)
          refine lv_iinc (v := (v24_2 + 1)) (lv' := [(2, .int (v24_2 + 1)), (1, .int (v24_1 ||| (0 : Int32))), (0, .ref mo)]) hx hb dX7_coldHands_62 hl (k := 1) rfl rfl (by decide) rfl (fun ls hl => ?_)
          refine lv_goto (tgt := 24) hx hb dX7_coldHands_65 (by decide) ?_
          exact ih24 (v24_2 + 1) (v24_1 ||| (0 : Int32)) v24_2 u47.1 u47.2 he _ _ _ hP hD hS (lv_sub hl [0, 1, 2] rfl)
        · replace he := he.trans (if_neg c7)
          refine lv_iconst (v := 1) hx hb dX7_coldHands_53 (by decide) ?_
          refine lv_iload_n hx hb dX7_coldHands_54 rfl (lv_at hl 0 rfl) ?_
          refine lv_ishl hx hb dX7_coldHands_55 ?_
          refine lv_goto (tgt := 60) hx hb dX7_coldHands_56 (by decide) ?_
          refine lv_ior hx hb dX7_coldHands_60 ?_
          refine lv_istore_n (lv' := [(1, .int (v24_1 ||| ((1 : Int32) <<< (v24_2 &&& 31)))), (2, .int v24_2), (0, .ref mo)]) hx hb dX7_coldHands_61 rfl hl (by decide) rfl (fun ls hl => ?_)
          refine lv_iinc (v := (v24_2 + 1)) (lv' := [(2, .int (v24_2 + 1)), (1, .int (v24_1 ||| ((1 : Int32) <<< (v24_2 &&& 31)))), (0, .ref mo)]) hx hb dX7_coldHands_62 hl (k := 1) rfl rfl (by decide) rfl (fun ls hl => ?_)
          refine lv_goto (tgt := 24) hx hb dX7_coldHands_65 (by decide) ?_
          exact ih24 (v24_2 + 1) (v24_1 ||| ((1 : Int32) <<< (v24_2 &&& 31))) v24_2 u47.1 u47.2 he _ _ _ hP hD hS (lv_sub hl [0, 1, 2] rfl)
  refine lv_aload_n hx hb dX7_coldHands_0 rfl (lv_at hl 0 rfl) ?_
  refine lv_aload_n hx hb dX7_coldHands_1 rfl (lv_at hl 0 rfl) ?_
  refine va_get (D := D) (ci := 7) (v := .ref (mor 23)) (C := RX7) (T := TX7) (N := 35) hx hb hts hi_X7_coldHands_7 hown hK hP 0 wM_0 rfl 23 (by decide) (hts (.fieldLink RX7 43 "BlindLanternsModel" "tried" "[I") (List.mem_of_getElem? (i := 1) rfl)) (fun _ h9 => h9) xMf_23 dX7_coldHands_2 ?_
  have n1_ : fX7_begin_tried F mok_15 mok_16 mok_23 ≠ none := fun z => hne (he.trans (xbd_none z))
  refine xcvW (va_runV (As := [.ref (mor 23)]) (rest := []) ⟨hx, hb, hml, hown, hts⟩ (c_X7_begin_tried l D cI cP s.heap.size mo mor moi_0 moi_2 moi_4 moi_8 moi_9 moi_11 moi_12 moi_13 moi_17 moi_18 moi_20 moi_21 moi_24 moi_26 moi_28 moi_30 moi_31 moi_32 mok_1 mok_3 mok_5 mok_6 mok_7 mok_10 mok_14 mok_15 mok_16 mok_19 mok_22 mok_23 mok_25 mok_27 mok_29 mok_33 mok_34 F  n1_) (cwV 1 hts gX7_coldHands_X7_begin rfl rfl rfl (by decide +kernel) ⟨Nat.le_of_ble_eq_true rfl, Nat.le_of_ble_eq_true rfl⟩) (xPVW hN hK hP hD (ci := 7) (j := 0) rfl wM_0) rfl rfl hl.1 rfl (lv_room (Nat.le_of_ble_eq_true rfl)) dX7_coldHands_5 ⟨Nat.le_of_ble_eq_true rfl, Nat.le_of_ble_eq_true rfl⟩) hD hS hA (fun u5 H locs hw hP hD hS => ?_)
  have hP : va_P D vwCl (wM cI mo mor moi_0 moi_2 moi_4 moi_8 moi_9 moi_11 moi_12 moi_13 moi_17 moi_18 moi_20 moi_21 moi_24 moi_26 moi_28 moi_30 moi_31 moi_32 mok_1 mok_3 mok_5 mok_6 mok_7 mok_10 mok_14 mok_15 mok_16 mok_19 mok_22 u5 mok_25 mok_27 mok_29 mok_33 mok_34) H := hP
  have hD : va_D A (wM cI mo mor moi_0 moi_2 moi_4 moi_8 moi_9 moi_11 moi_12 moi_13 moi_17 moi_18 moi_20 moi_21 moi_24 moi_26 moi_28 moi_30 moi_31 moi_32 mok_1 mok_3 mok_5 mok_6 mok_7 mok_10 mok_14 mok_15 mok_16 mok_19 mok_22 u5 mok_25 mok_27 mok_29 mok_33 mok_34) := hD
  replace he := he.trans (xbd_some hw)
  refine lv_aload_n hx hb dX7_coldHands_8 rfl (lv_at hl 0 rfl) ?_
  have n2_ : fX7_isAsSeen F moi_13 moi_17 moi_18 moi_20 moi_21 moi_28 moi_30 moi_31 moi_32 mok_14 mok_19 u5 mok_29 mok_33 ≠ none := fun z => hne (he.trans (xbd2_none z))
  refine xciW (va_runV (As := []) (rest := []) ⟨hx, hb, hml, hown, hts⟩ (c_X7_isAsSeen l D cI cP H.size mo mor moi_0 moi_2 moi_4 moi_8 moi_9 moi_11 moi_12 moi_13 moi_17 moi_18 moi_20 moi_21 moi_24 moi_26 moi_28 moi_30 moi_31 moi_32 mok_1 mok_3 mok_5 mok_6 mok_7 mok_10 mok_14 mok_15 mok_16 mok_19 mok_22 u5 mok_25 mok_27 mok_29 mok_33 mok_34 F  n2_) (cwV 0 hts gX7_coldHands_X7_isAsSeen rfl rfl rfl (by decide +kernel) ⟨Nat.le_of_ble_eq_true rfl, Nat.le_of_ble_eq_true rfl⟩) (xPVW hN hK hP hD (ci := 7) (j := 0) rfl wM_0) rfl rfl hl.1 rfl (lv_room (Nat.le_of_ble_eq_true rfl)) dX7_coldHands_9 ⟨Nat.le_of_ble_eq_true rfl, Nat.le_of_ble_eq_true rfl⟩) hD hS hA (fun r9 u9 H locs hw hP hD hS => ?_)
  have hP : va_P D vwCl (wM cI mo mor moi_0 moi_2 moi_4 moi_8 moi_9 moi_11 moi_12 moi_13 moi_17 moi_18 moi_20 moi_21 moi_24 moi_26 moi_28 moi_30 moi_31 moi_32 mok_1 mok_3 mok_5 mok_6 mok_7 mok_10 mok_14 mok_15 mok_16 mok_19 mok_22 u9.1 mok_25 mok_27 mok_29 u9.2 mok_34) H := hP
  have hD : va_D A (wM cI mo mor moi_0 moi_2 moi_4 moi_8 moi_9 moi_11 moi_12 moi_13 moi_17 moi_18 moi_20 moi_21 moi_24 moi_26 moi_28 moi_30 moi_31 moi_32 mok_1 mok_3 mok_5 mok_6 mok_7 mok_10 mok_14 mok_15 mok_16 mok_19 mok_22 u9.1 mok_25 mok_27 mok_29 u9.2 mok_34) := hD
  replace he := he.trans (xbd2_some hw)
  refine lv_if_eq (tgt := 20) hx hb dX7_coldHands_12 (by decide) (fun c3 => ?_) (fun c3 => ?_)
  · replace he := he.trans (if_pos c3)
    refine lv_iconst (v := 0) hx hb dX7_coldHands_20 (by decide) ?_
    refine lv_istore_n (lv' := [(1, .int (0 : Int32)), (0, .ref mo)]) hx hb dX7_coldHands_21 rfl hl (by decide) rfl (fun ls hl => ?_)
    refine lv_iconst (v := 0) hx hb dX7_coldHands_22 (by decide) ?_
    refine lv_istore_n (lv' := [(2, .int (0 : Int32)), (1, .int (0 : Int32)), (0, .ref mo)]) hx hb dX7_coldHands_23 rfl hl (by decide) rfl (fun ls hl => ?_)
    exact L24_8 F (0 : Int32) (0 : Int32) moi_32 u9.1 u9.2 he _ _ _ hP hD hS (lv_sub hl [0, 1, 2] rfl)
  · replace he := he.trans (if_neg c3)
    refine lv_bipush (v := 64) hx hb dX7_coldHands_15 (by decide) ?_
    refine lv_goto (tgt := 21) hx hb dX7_coldHands_17 (by decide) ?_
    refine lv_istore_n (lv' := [(1, .int (64 : Int32)), (0, .ref mo)]) hx hb dX7_coldHands_21 rfl hl (by decide) rfl (fun ls hl => ?_)
    refine lv_iconst (v := 0) hx hb dX7_coldHands_22 (by decide) ?_
    refine lv_istore_n (lv' := [(2, .int (0 : Int32)), (1, .int (64 : Int32)), (0, .ref mo)]) hx hb dX7_coldHands_23 rfl hl (by decide) rfl (fun ls hl => ?_)
    exact L24_8 F (0 : Int32) (64 : Int32) moi_32 u9.1 u9.2 he _ _ _ hP hD hS (lv_sub hl [0, 1, 2] rfl)
