def fX7_lantern_L24 (moi_13 : Int32) (mok_22 : Nat → Int32) (a1 : Int32) (k24 : Int32 → Int32 → Option (Int32)) : Nat → Int32 → Int32 → Option (Int32)
  | 0, _, _ => none
  | n24 + 1, v24_4, v24_3 => if moi_13 ≤ v24_4 then (k24 v24_4 v24_3) else (if v24_4 < 0 ∨ 19 ≤ v24_4.toNatClampNeg then none else (if (mok_22 v24_4.toNatClampNeg) = a1 then (fX7_lantern_L24 moi_13 mok_22 a1 k24 n24 (v24_4 + 1) v24_4) else (fX7_lantern_L24 moi_13 mok_22 a1 k24 n24 (v24_4 + 1) v24_3)))
def fX7_lantern (F : Nat) (moi_13 : Int32) (mok_15 : Nat → Int32) (mok_22 : Nat → Int32) (a1 : Int32) (a2 : Int32) : Option (Int32) :=
  xbd (fX7_isMan moi_13 a1) (fun (r2 : Int32) => if r2 = 0 then (some (-1 : Int32)) else (xbd (fX7_in a2 (0 : Int32) (3 : Int32)) (fun (r11 : Int32) => if r11 = 0 then (some (-1 : Int32)) else (fX7_lantern_L24 moi_13 mok_22 a1 (fun (v24_4 : Int32) (v24_3 : Int32) => if a2 = 0 then (some v24_3) else (if a2 = (1 : Int32) then (if ((6 : Int32) + a1) < 0 ∨ 19 ≤ ((6 : Int32) + a1).toNatClampNeg then none else (some (mok_22 ((6 : Int32) + a1).toNatClampNeg))) else (if a2 = (2 : Int32) then (if ((12 : Int32) + a1) < 0 ∨ 19 ≤ ((12 : Int32) + a1).toNatClampNeg then none else (some (mok_22 ((12 : Int32) + a1).toNatClampNeg))) else (if a1 < 0 ∨ 6 ≤ a1.toNatClampNeg then none else (if 0 ≤ (mok_15 a1.toNatClampNeg) then (xbd (fX7_bit (0 : Int32)) (fun (r113 : Int32) => some r113)) else (xbd (fX7_bit (1 : Int32)) (fun (r113 : Int32) => some r113))))))) F (0 : Int32) (0 : Int32)))))
theorem hi_X7_lantern_7 : ∀ w ∈ wsX70, w ∈ wsX7_lantern := fun _ h => (List.mem_cons_of_mem _ (List.mem_append_right _ h))
set_option maxHeartbeats 4000000 in
set_option maxRecDepth 100000 in
theorem c_X7_lantern (l : Launch) (D : va_G) (cI cP : ClassId) (sz : Nat) (mo : Nat) (mor : Nat → Nat) (moi_0 : Int32) (moi_2 : Int32) (moi_4 : Int32) (moi_8 : Int32) (moi_9 : Int32) (moi_11 : Int32) (moi_12 : Int32) (moi_13 : Int32) (moi_17 : Int32) (moi_18 : Int32) (moi_20 : Int32) (moi_21 : Int32) (moi_24 : Int32) (moi_26 : Int32) (moi_28 : Int32) (moi_30 : Int32) (moi_31 : Int32) (moi_32 : Int32) (mok_1 : Nat → Int32) (mok_3 : Nat → Int32) (mok_5 : Nat → Int32) (mok_6 : Nat → Int32) (mok_7 : Nat → Int32) (mok_10 : Nat → Int32) (mok_14 : Nat → Int32) (mok_15 : Nat → Int32) (mok_16 : Nat → Int32) (mok_19 : Nat → Int32) (mok_22 : Nat → Int32) (mok_23 : Nat → Int32) (mok_25 : Nat → Int32) (mok_27 : Nat → Int32) (mok_29 : Nat → Int32) (mok_33 : Nat → Int32) (mok_34 : Nat → Int32) (F : Nat) (a1 : Int32) (a2 : Int32) (hne : fX7_lantern F moi_13 mok_15 mok_22 a1 a2 ≠ none) : xMi l yX7_lantern wsX7_lantern ({ frames := 2, cells := 0, slots := 0, locals := 43 } : Room) D (xT cI cP) [.ref mo, .int a1, .int a2] (wM cI mo mor moi_0 moi_2 moi_4 moi_8 moi_9 moi_11 moi_12 moi_13 moi_17 moi_18 moi_20 moi_21 moi_24 moi_26 moi_28 moi_30 moi_31 moi_32 mok_1 mok_3 mok_5 mok_6 mok_7 mok_10 mok_14 mok_15 mok_16 mok_19 mok_22 mok_23 mok_25 mok_27 mok_29 mok_33 mok_34) sz (fun r (_ : Unit) => fX7_lantern F moi_13 mok_15 mok_22 a1 a2 = some r) (fun u => wM cI mo mor moi_0 moi_2 moi_4 moi_8 moi_9 moi_11 moi_12 moi_13 moi_17 moi_18 moi_20 moi_21 moi_24 moi_26 moi_28 moi_30 moi_31 moi_32 mok_1 mok_3 mok_5 mok_6 mok_7 mok_10 mok_14 mok_15 mok_16 mok_19 mok_22 mok_23 mok_25 mok_27 mok_29 mok_33 mok_34) 0 0 := by
  refine xMi_of (cc := cX7_lantern) (maxL := 5) (by decide +kernel) rfl (Nat.le_of_ble_eq_true rfl) ?_
  intro p e s m args below meth c A ls hx hb hml hown hts hname hN hK hA hP hD hS hl Q hret
  have he := fX7_lantern.eq_1 F moi_13 mok_15 mok_22 a1 a2
  have hl : lv_has ls 5 [(0, .ref mo), (1, .int a1), (2, .int a2)] := hl
  have R24_0 : ∀ (v24_4 : Int32) (v24_3 : Int32), fX7_lantern F moi_13 mok_15 mok_22 a1 a2 = (if a2 = 0 then (some v24_3) else (if a2 = (1 : Int32) then (if ((6 : Int32) + a1) < 0 ∨ 19 ≤ ((6 : Int32) + a1).toNatClampNeg then none else (some (mok_22 ((6 : Int32) + a1).toNatClampNeg))) else (if a2 = (2 : Int32) then (if ((12 : Int32) + a1) < 0 ∨ 19 ≤ ((12 : Int32) + a1).toNatClampNeg then none else (some (mok_22 ((12 : Int32) + a1).toNatClampNeg))) else (if a1 < 0 ∨ 6 ≤ a1.toNatClampNeg then none else (if 0 ≤ (mok_15 a1.toNatClampNeg) then (xbd (fX7_bit (0 : Int32)) (fun (r113 : Int32) => some r113)) else (xbd (fX7_bit (1 : Int32)) (fun (r113 : Int32) => some r113))))))) → ∀ (H : Heap) (locs : List Loc) (ls : Array Slot), va_P D vwCl (wM cI mo mor moi_0 moi_2 moi_4 moi_8 moi_9 moi_11 moi_12 moi_13 moi_17 moi_18 moi_20 moi_21 moi_24 moi_26 moi_28 moi_30 moi_31 moi_32 mok_1 mok_3 mok_5 mok_6 mok_7 mok_10 mok_14 mok_15 mok_16 mok_19 mok_22 mok_23 mok_25 mok_27 mok_29 mok_33 mok_34) H → va_D A (wM cI mo mor moi_0 moi_2 moi_4 moi_8 moi_9 moi_11 moi_12 moi_13 moi_17 moi_18 moi_20 moi_21 moi_24 moi_26 moi_28 moi_30 moi_31 moi_32 mok_1 mok_3 mok_5 mok_6 mok_7 mok_10 mok_14 mok_15 mok_16 mok_19 mok_22 mok_23 mok_25 mok_27 mok_29 mok_33 mok_34) → va_S A s.heap H locs → lv_has ls 5 [(3, .int v24_3), (0, .ref mo), (1, .int a1), (2, .int a2)] → W p l e ({ frames := 2, cells := 0, slots := 0, locals := 43 } : Room) s m args below meth c H locs 0 0 Q (F0 m 57 ls []) := by
    intro v24_4 v24_3 he H locs ls hP hD hS hl
    refine lv_iload_n hx hb dX7_lantern_57 rfl (lv_at hl 3 rfl) ?_
    refine lv_if_ne (tgt := 65) hx hb dX7_lantern_58 (by decide) (fun c5 => ?_) (fun c5 => ?_)
    · replace he := he.trans (if_neg c5)
      refine lv_iload_n hx hb dX7_lantern_65 rfl (lv_at hl 3 rfl) ?_
      refine lv_iconst (v := 1) hx hb dX7_lantern_66 (by decide) ?_
      refine lv_icmp_ne (tgt := 82) hx hb dX7_lantern_67 (by decide) (fun c6 => ?_) (fun c6 => ?_)
      · replace he := he.trans (if_neg c6)
        refine lv_iload_n hx hb dX7_lantern_82 rfl (lv_at hl 3 rfl) ?_
        refine lv_iconst (v := 2) hx hb dX7_lantern_83 (by decide) ?_
        refine lv_icmp_ne (tgt := 99) hx hb dX7_lantern_84 (by decide) (fun c7 => ?_) (fun c7 => ?_)
        · replace he := he.trans (if_neg c7)
          refine lv_aload_n hx hb dX7_lantern_99 rfl (lv_at hl 1 rfl) ?_
          refine va_get (D := D) (ci := 7) (v := .ref (mor 15)) (C := RX7) (T := TX7) (N := 35) hx hb hts hi_X7_lantern_7 hown hK hP 0 wM_0 rfl 15 (by decide) (hts (.fieldLink RX7 31 "BlindLanternsModel" "oil" "[I") (List.mem_of_getElem? (i := 3) rfl)) (fun _ h9 => h9) xMf_15 dX7_lantern_100 ?_
          refine lv_iload_n hx hb dX7_lantern_103 rfl (lv_at hl 2 rfl) ?_
          by_cases g8 : a1 < 0 ∨ 6 ≤ a1.toNatClampNeg
          · exact absurd (he.trans (if_pos g8)) hne
          replace he := he.trans (if_neg g8)
          refine va_iald hx hb hK hP 8 0 wM_a15 rfl g8 dX7_lantern_104 ?_
          refine lv_if_ge (tgt := 112) hx hb dX7_lantern_105 (by decide) (fun c9 => ?_) (fun c9 => ?_)
          · replace he := he.trans (if_pos c9)
            refine lv_iconst (v := 0) hx hb dX7_lantern_112 (by decide) ?_
            have n10_ : fX7_bit (0 : Int32) ≠ none := fun z => hne (he.trans (xbd_none z))
            refine xci0 (va_runS (As := [.int (0 : Int32)]) (rest := []) ⟨hx, hb, hml, hown, hts⟩ (c_X7_bit l D cI cP H.size  (0 : Int32) n10_) (va_cwS 1 hts gX7_lantern_X7_bit rfl rfl rfl (by decide +kernel) ⟨Nat.le_of_ble_eq_true rfl, Nat.le_of_ble_eq_true rfl⟩) (xPS0 hN hK) rfl rfl hl.1 rfl (lv_room (Nat.le_of_ble_eq_true rfl)) dX7_lantern_113 ⟨Nat.le_of_ble_eq_true rfl, Nat.le_of_ble_eq_true rfl⟩) hP hD hS hA (fun r113 u113 H locs hw hP hD hS => ?_)
            replace he := he.trans (xbd_some hw)
            exact hret r113 () _ _ _ _ dX7_lantern_116 he hP hD hS
          · replace he := he.trans (if_neg c9)
            refine lv_iconst (v := 1) hx hb dX7_lantern_108 (by decide) ?_
            refine lv_goto (tgt := 113) hx hb dX7_lantern_109 (by decide) ?_
            have n11_ : fX7_bit (1 : Int32) ≠ none := fun z => hne (he.trans (xbd_none z))
            refine xci0 (va_runS (As := [.int (1 : Int32)]) (rest := []) ⟨hx, hb, hml, hown, hts⟩ (c_X7_bit l D cI cP H.size  (1 : Int32) n11_) (va_cwS 1 hts gX7_lantern_X7_bit rfl rfl rfl (by decide +kernel) ⟨Nat.le_of_ble_eq_true rfl, Nat.le_of_ble_eq_true rfl⟩) (xPS0 hN hK) rfl rfl hl.1 rfl (lv_room (Nat.le_of_ble_eq_true rfl)) dX7_lantern_113 ⟨Nat.le_of_ble_eq_true rfl, Nat.le_of_ble_eq_true rfl⟩) hP hD hS hA (fun r113 u113 H locs hw hP hD hS => ?_)
            replace he := he.trans (xbd_some hw)
            exact hret r113 () _ _ _ _ dX7_lantern_116 he hP hD hS
        · replace he := he.trans (if_pos c7)
          refine lv_aload_n hx hb dX7_lantern_87 rfl (lv_at hl 1 rfl) ?_
          refine va_get (D := D) (ci := 7) (v := .ref (mor 22)) (C := RX7) (T := TX7) (N := 35) hx hb hts hi_X7_lantern_7 hown hK hP 0 wM_0 rfl 22 (by decide) (hts (.fieldLink RX7 40 "BlindLanternsModel" "now" "[I") (List.mem_of_getElem? (i := 2) rfl)) (fun _ h9 => h9) xMf_22 dX7_lantern_88 ?_
          refine lv_bipush (v := 12) hx hb dX7_lantern_91 (by decide) ?_
          refine lv_iload_n hx hb dX7_lantern_93 rfl (lv_at hl 2 rfl) ?_
          refine lv_iadd hx hb dX7_lantern_94 ?_
          by_cases g12 : ((12 : Int32) + a1) < 0 ∨ 19 ≤ ((12 : Int32) + a1).toNatClampNeg
          · exact absurd (he.trans (if_pos g12)) hne
          replace he := he.trans (if_neg g12)
          refine va_iald hx hb hK hP 11 0 wM_a22 rfl g12 dX7_lantern_95 ?_
          refine lv_goto (tgt := 116) hx hb dX7_lantern_96 (by decide) ?_
          exact hret (mok_22 ((12 : Int32) + a1).toNatClampNeg) () _ _ _ _ dX7_lantern_116 he hP hD hS
      · replace he := he.trans (if_pos c6)
        refine lv_aload_n hx hb dX7_lantern_70 rfl (lv_at hl 1 rfl) ?_
        refine va_get (D := D) (ci := 7) (v := .ref (mor 22)) (C := RX7) (T := TX7) (N := 35) hx hb hts hi_X7_lantern_7 hown hK hP 0 wM_0 rfl 22 (by decide) (hts (.fieldLink RX7 40 "BlindLanternsModel" "now" "[I") (List.mem_of_getElem? (i := 2) rfl)) (fun _ h9 => h9) xMf_22 dX7_lantern_71 ?_
        refine lv_bipush (v := 6) hx hb dX7_lantern_74 (by decide) ?_
        refine lv_iload_n hx hb dX7_lantern_76 rfl (lv_at hl 2 rfl) ?_
        refine lv_iadd hx hb dX7_lantern_77 ?_
        by_cases g13 : ((6 : Int32) + a1) < 0 ∨ 19 ≤ ((6 : Int32) + a1).toNatClampNeg
        · exact absurd (he.trans (if_pos g13)) hne
        replace he := he.trans (if_neg g13)
        refine va_iald hx hb hK hP 11 0 wM_a22 rfl g13 dX7_lantern_78 ?_
        refine lv_goto (tgt := 116) hx hb dX7_lantern_79 (by decide) ?_
        exact hret (mok_22 ((6 : Int32) + a1).toNatClampNeg) () _ _ _ _ dX7_lantern_116 he hP hD hS
    · replace he := he.trans (if_pos c5)
      refine lv_iload_n hx hb dX7_lantern_61 rfl (lv_at hl 0 rfl) ?_
      refine lv_goto (tgt := 116) hx hb dX7_lantern_62 (by decide) ?_
      exact hret v24_3 () _ _ _ _ dX7_lantern_116 he hP hD hS
  have L24_62 : ∀ (n24 : Nat) (v24_4 : Int32) (v24_3 : Int32), fX7_lantern F moi_13 mok_15 mok_22 a1 a2 = fX7_lantern_L24 moi_13 mok_22 a1 (fun (v24_4 : Int32) (v24_3 : Int32) => if a2 = 0 then (some v24_3) else (if a2 = (1 : Int32) then (if ((6 : Int32) + a1) < 0 ∨ 19 ≤ ((6 : Int32) + a1).toNatClampNeg then none else (some (mok_22 ((6 : Int32) + a1).toNatClampNeg))) else (if a2 = (2 : Int32) then (if ((12 : Int32) + a1) < 0 ∨ 19 ≤ ((12 : Int32) + a1).toNatClampNeg then none else (some (mok_22 ((12 : Int32) + a1).toNatClampNeg))) else (if a1 < 0 ∨ 6 ≤ a1.toNatClampNeg then none else (if 0 ≤ (mok_15 a1.toNatClampNeg) then (xbd (fX7_bit (0 : Int32)) (fun (r113 : Int32) => some r113)) else (xbd (fX7_bit (1 : Int32)) (fun (r113 : Int32) => some r113))))))) n24 v24_4 v24_3 → ∀ (H : Heap) (locs : List Loc) (ls : Array Slot), va_P D vwCl (wM cI mo mor moi_0 moi_2 moi_4 moi_8 moi_9 moi_11 moi_12 moi_13 moi_17 moi_18 moi_20 moi_21 moi_24 moi_26 moi_28 moi_30 moi_31 moi_32 mok_1 mok_3 mok_5 mok_6 mok_7 mok_10 mok_14 mok_15 mok_16 mok_19 mok_22 mok_23 mok_25 mok_27 mok_29 mok_33 mok_34) H → va_D A (wM cI mo mor moi_0 moi_2 moi_4 moi_8 moi_9 moi_11 moi_12 moi_13 moi_17 moi_18 moi_20 moi_21 moi_24 moi_26 moi_28 moi_30 moi_31 moi_32 mok_1 mok_3 mok_5 mok_6 mok_7 mok_10 mok_14 mok_15 mok_16 mok_19 mok_22 mok_23 mok_25 mok_27 mok_29 mok_33 mok_34) → va_S A s.heap H locs → lv_has ls 5 [(4, .int v24_4), (3, .int v24_3), (0, .ref mo), (1, .int a1), (2, .int a2)] → W p l e ({ frames := 2, cells := 0, slots := 0, locals := 43 } : Room) s m args below meth c H locs 0 0 Q (F0 m 24 ls []) := by
    intro n24
    induction n24 with
    | zero => intro v24_4 v24_3 he; exact absurd he hne
    | succ n24 ih24 =>
      intro v24_4 v24_3 he H locs ls hP hD hS hl
      replace he := he.trans (fX7_lantern_L24.eq_2 _ _ _ _ _ _ _)
      refine lv_iload hx hb dX7_lantern_24 (lv_at hl 0 rfl) ?_
      refine lv_aload_n hx hb dX7_lantern_26 rfl (lv_at hl 2 rfl) ?_
      refine va_get (D := D) (ci := 7) (v := .int moi_13) (C := RX7) (T := TX7) (N := 35) hx hb hts hi_X7_lantern_7 hown hK hP 0 wM_0 rfl 13 (by decide) (hts (.fieldLink RX7 71 "BlindLanternsModel" "men" "I") (List.mem_of_getElem? (i := 1) rfl)) (fun _ h9 => h9) xMf_13 dX7_lantern_27 ?_
      refine lv_icmp_ge (tgt := 57) hx hb dX7_lantern_30 (by decide) (fun c14 => ?_) (fun c14 => ?_)
      · replace he := he.trans (if_pos c14)
        exact R24_0 v24_4 v24_3 he _ _ _ hP hD hS (lv_sub hl [1, 2, 3, 4] rfl)
      · replace he := he.trans (if_neg c14)
        refine lv_aload_n hx hb dX7_lantern_33 rfl (lv_at hl 2 rfl) ?_
        refine va_get (D := D) (ci := 7) (v := .ref (mor 22)) (C := RX7) (T := TX7) (N := 35) hx hb hts hi_X7_lantern_7 hown hK hP 0 wM_0 rfl 22 (by decide) (hts (.fieldLink RX7 40 "BlindLanternsModel" "now" "[I") (List.mem_of_getElem? (i := 2) rfl)) (fun _ h9 => h9) xMf_22 dX7_lantern_34 ?_
        refine lv_iload hx hb dX7_lantern_37 (lv_at hl 0 rfl) ?_
        by_cases g15 : v24_4 < 0 ∨ 19 ≤ v24_4.toNatClampNeg
        · exact absurd (he.trans (if_pos g15)) hne
        replace he := he.trans (if_neg g15)
        refine va_iald hx hb hK hP 11 0 wM_a22 rfl g15 dX7_lantern_39 ?_
        refine lv_iload_n hx hb dX7_lantern_40 rfl (lv_at hl 3 rfl) ?_
        refine lv_icmp_ne (tgt := 49) hx hb dX7_lantern_41 (by decide) (fun c16 => ?_) (fun c16 => ?_)
        · replace he := he.trans (if_neg c16)
          refine lv_iload_n hx hb dX7_lantern_49 rfl (lv_at hl 1 rfl) ?_
          refine lv_istore_n (lv' := [(3, .int v24_3), (4, .int v24_4), (0, .ref mo), (1, .int a1), (2, .int a2)]) hx hb dX7_lantern_50 rfl hl (by decide) rfl (fun ls hl => ?_)
          refine lv_iinc (v := (v24_4 + 1)) (lv' := [(4, .int (v24_4 + 1)), (3, .int v24_3), (0, .ref mo), (1, .int a1), (2, .int a2)]) hx hb dX7_lantern_51 hl (k := 1) rfl rfl (by decide) rfl (fun ls hl => ?_)
          refine lv_goto (tgt := 24) hx hb dX7_lantern_54 (by decide) ?_
          exact ih24 (v24_4 + 1) v24_3 he _ _ _ hP hD hS (lv_sub hl [0, 1, 2, 3, 4] rfl)
        · replace he := he.trans (if_pos c16)
          refine lv_iload hx hb dX7_lantern_44 (lv_at hl 0 rfl) ?_
          refine lv_goto (tgt := 50) hx hb dX7_lantern_46 (by decide) ?_
          refine lv_istore_n (lv' := [(3, .int v24_4), (4, .int v24_4), (0, .ref mo), (1, .int a1), (2, .int a2)]) hx hb dX7_lantern_50 rfl hl (by decide) rfl (fun ls hl => ?_)
          refine lv_iinc (v := (v24_4 + 1)) (lv' := [(4, .int (v24_4 + 1)), (3, .int v24_4), (0, .ref mo), (1, .int a1), (2, .int a2)]) hx hb dX7_lantern_51 hl (k := 1) rfl rfl (by decide) rfl (fun ls hl => ?_)
          refine lv_goto (tgt := 24) hx hb dX7_lantern_54 (by decide) ?_
          exact ih24 (v24_4 + 1) v24_4 he _ _ _ hP hD hS (lv_sub hl [0, 1, 2, 3, 4] rfl)
  refine lv_aload_n hx hb dX7_lantern_0 rfl (lv_at hl 0 rfl) ?_
  refine lv_iload_n hx hb dX7_lantern_1 rfl (lv_at hl 1 rfl) ?_
  have n1_ : fX7_isMan moi_13 a1 ≠ none := fun z => hne (he.trans (xbd_none z))
  refine xciW (va_runV (As := [.int a1]) (rest := []) ⟨hx, hb, hml, hown, hts⟩ (c_X7_isMan l D cI cP s.heap.size mo mor moi_0 moi_2 moi_4 moi_8 moi_9 moi_11 moi_12 moi_13 moi_17 moi_18 moi_20 moi_21 moi_24 moi_26 moi_28 moi_30 moi_31 moi_32 mok_1 mok_3 mok_5 mok_6 mok_7 mok_10 mok_14 mok_15 mok_16 mok_19 mok_22 mok_23 mok_25 mok_27 mok_29 mok_33 mok_34 a1 n1_) (cwV 1 hts gX7_lantern_X7_isMan rfl rfl rfl (by decide +kernel) ⟨Nat.le_of_ble_eq_true rfl, Nat.le_of_ble_eq_true rfl⟩) (xPVW hN hK hP hD (ci := 7) (j := 0) rfl wM_0) rfl rfl hl.1 rfl (lv_room (Nat.le_of_ble_eq_true rfl)) dX7_lantern_2 ⟨Nat.le_of_ble_eq_true rfl, Nat.le_of_ble_eq_true rfl⟩) hD hS hA (fun r2 u2 H locs hw hP hD hS => ?_)
  have hP : va_P D vwCl (wM cI mo mor moi_0 moi_2 moi_4 moi_8 moi_9 moi_11 moi_12 moi_13 moi_17 moi_18 moi_20 moi_21 moi_24 moi_26 moi_28 moi_30 moi_31 moi_32 mok_1 mok_3 mok_5 mok_6 mok_7 mok_10 mok_14 mok_15 mok_16 mok_19 mok_22 mok_23 mok_25 mok_27 mok_29 mok_33 mok_34) H := hP
  have hD : va_D A (wM cI mo mor moi_0 moi_2 moi_4 moi_8 moi_9 moi_11 moi_12 moi_13 moi_17 moi_18 moi_20 moi_21 moi_24 moi_26 moi_28 moi_30 moi_31 moi_32 mok_1 mok_3 mok_5 mok_6 mok_7 mok_10 mok_14 mok_15 mok_16 mok_19 mok_22 mok_23 mok_25 mok_27 mok_29 mok_33 mok_34) := hD
  replace he := he.trans (xbd_some hw)
  refine lv_if_eq (tgt := 17) hx hb dX7_lantern_5 (by decide) (fun c2 => ?_) (fun c2 => ?_)
  · replace he := he.trans (if_pos c2)
    refine lv_iconst (v := -1) hx hb dX7_lantern_17 (by decide) ?_
    exact hret (-1 : Int32) () _ _ _ _ dX7_lantern_18 he hP hD hS
  · replace he := he.trans (if_neg c2)
    refine lv_iload_n hx hb dX7_lantern_8 rfl (lv_at hl 2 rfl) ?_
    refine lv_iconst (v := 0) hx hb dX7_lantern_9 (by decide) ?_
    refine lv_iconst (v := 3) hx hb dX7_lantern_10 (by decide) ?_
    have n3_ : fX7_in a2 (0 : Int32) (3 : Int32) ≠ none := fun z => hne (he.trans (xbd_none z))
    refine xci0 (va_runS (As := [.int a2, .int (0 : Int32), .int (3 : Int32)]) (rest := []) ⟨hx, hb, hml, hown, hts⟩ (c_X7_in l D cI cP H.size  a2 (0 : Int32) (3 : Int32) n3_) (va_cwS 3 hts gX7_lantern_X7_in rfl rfl rfl (by decide +kernel) ⟨Nat.le_of_ble_eq_true rfl, Nat.le_of_ble_eq_true rfl⟩) (xPS0 hN hK) rfl rfl hl.1 rfl (lv_room (Nat.le_of_ble_eq_true rfl)) dX7_lantern_11 ⟨Nat.le_of_ble_eq_true rfl, Nat.le_of_ble_eq_true rfl⟩) hP hD hS hA (fun r11 u11 H locs hw hP hD hS => ?_)
    replace he := he.trans (xbd_some hw)
    refine lv_if_ne (tgt := 19) hx hb dX7_lantern_14 (by decide) (fun c4 => ?_) (fun c4 => ?_)
    · replace he := he.trans (if_neg c4)
      refine lv_iconst (v := 0) hx hb dX7_lantern_19 (by decide) ?_
      refine lv_istore_n (lv' := [(3, .int (0 : Int32)), (0, .ref mo), (1, .int a1), (2, .int a2)]) hx hb dX7_lantern_20 rfl hl (by decide) rfl (fun ls hl => ?_)
      refine lv_iconst (v := 0) hx hb dX7_lantern_21 (by decide) ?_
      refine lv_istore (lv' := [(4, .int (0 : Int32)), (3, .int (0 : Int32)), (0, .ref mo), (1, .int a1), (2, .int a2)]) hx hb dX7_lantern_22 hl (by decide) rfl (fun ls hl => ?_)
      exact L24_62 F (0 : Int32) (0 : Int32) he _ _ _ hP hD hS (lv_sub hl [0, 1, 2, 3, 4] rfl)
    · replace he := he.trans (if_pos c4)
      refine lv_iconst (v := -1) hx hb dX7_lantern_17 (by decide) ?_
      exact hret (-1 : Int32) () _ _ _ _ dX7_lantern_18 he hP hD hS

def fX7_post (moi_13 : Int32) (moi_20 : Int32) (moi_21 : Int32) (moi_32 : Int32) (mok_14 : Nat → Int32) (mok_22 : Nat → Int32) (a1 : Int32) (a2 : Int32) : Option (Int32) :=
  xbd (fX7_isMan moi_13 a1) (fun (r2 : Int32) => if r2 = 0 then (some (-1 : Int32)) else (xbd (fX7_in a2 (0 : Int32) (2 : Int32)) (fun (r11 : Int32) => if r11 = 0 then (some (-1 : Int32)) else (if a2 = 0 then (if a1 < 0 ∨ 6 ≤ a1.toNatClampNeg then none else (some (mok_14 a1.toNatClampNeg))) else (if a2 = (1 : Int32) then (if a1 < 0 ∨ 19 ≤ a1.toNatClampNeg then none else (some (mok_22 a1.toNatClampNeg))) else (xbd (fX7_isWarm_now moi_20 moi_21 moi_32 mok_14 mok_22 a1) (fun (r52 : Int32) => xbd (fX7_bit r52) (fun (r55 : Int32) => some r55))))))))
theorem hi_X7_post_7 : ∀ w ∈ wsX70, w ∈ wsX7_post := fun _ h => (List.mem_cons_of_mem _ (List.mem_append_right _ h))
set_option maxHeartbeats 4000000 in
set_option maxRecDepth 100000 in
theorem c_X7_post (l : Launch) (D : va_G) (cI cP : ClassId) (sz : Nat) (mo : Nat) (mor : Nat → Nat) (moi_0 : Int32) (moi_2 : Int32) (moi_4 : Int32) (moi_8 : Int32) (moi_9 : Int32) (moi_11 : Int32) (moi_12 : Int32) (moi_13 : Int32) (moi_17 : Int32) (moi_18 : Int32) (moi_20 : Int32) (moi_21 : Int32) (moi_24 : Int32) (moi_26 : Int32) (moi_28 : Int32) (moi_30 : Int32) (moi_31 : Int32) (moi_32 : Int32) (mok_1 : Nat → Int32) (mok_3 : Nat → Int32) (mok_5 : Nat → Int32) (mok_6 : Nat → Int32) (mok_7 : Nat → Int32) (mok_10 : Nat → Int32) (mok_14 : Nat → Int32) (mok_15 : Nat → Int32) (mok_16 : Nat → Int32) (mok_19 : Nat → Int32) (mok_22 : Nat → Int32) (mok_23 : Nat → Int32) (mok_25 : Nat → Int32) (mok_27 : Nat → Int32) (mok_29 : Nat → Int32) (mok_33 : Nat → Int32) (mok_34 : Nat → Int32) (a1 : Int32) (a2 : Int32) (hne : fX7_post moi_13 moi_20 moi_21 moi_32 mok_14 mok_22 a1 a2 ≠ none) : xMi l yX7_post wsX7_post ({ frames := 2, cells := 0, slots := 0, locals := 46 } : Room) D (xT cI cP) [.ref mo, .int a1, .int a2] (wM cI mo mor moi_0 moi_2 moi_4 moi_8 moi_9 moi_11 moi_12 moi_13 moi_17 moi_18 moi_20 moi_21 moi_24 moi_26 moi_28 moi_30 moi_31 moi_32 mok_1 mok_3 mok_5 mok_6 mok_7 mok_10 mok_14 mok_15 mok_16 mok_19 mok_22 mok_23 mok_25 mok_27 mok_29 mok_33 mok_34) sz (fun r (_ : Unit) => fX7_post moi_13 moi_20 moi_21 moi_32 mok_14 mok_22 a1 a2 = some r) (fun u => wM cI mo mor moi_0 moi_2 moi_4 moi_8 moi_9 moi_11 moi_12 moi_13 moi_17 moi_18 moi_20 moi_21 moi_24 moi_26 moi_28 moi_30 moi_31 moi_32 mok_1 mok_3 mok_5 mok_6 mok_7 mok_10 mok_14 mok_15 mok_16 mok_19 mok_22 mok_23 mok_25 mok_27 mok_29 mok_33 mok_34) 0 0 := by
  refine xMi_of (cc := cX7_post) (maxL := 3) (by decide +kernel) rfl (Nat.le_of_ble_eq_true rfl) ?_
  intro p e s m args below meth c A ls hx hb hml hown hts hname hN hK hA hP hD hS hl Q hret
  have he := fX7_post.eq_1 moi_13 moi_20 moi_21 moi_32 mok_14 mok_22 a1 a2
  have hl : lv_has ls 3 [(0, .ref mo), (1, .int a1), (2, .int a2)] := hl
  refine lv_aload_n hx hb dX7_post_0 rfl (lv_at hl 0 rfl) ?_
  refine lv_iload_n hx hb dX7_post_1 rfl (lv_at hl 1 rfl) ?_
  have n1_ : fX7_isMan moi_13 a1 ≠ none := fun z => hne (he.trans (xbd_none z))
  refine xciW (va_runV (As := [.int a1]) (rest := []) ⟨hx, hb, hml, hown, hts⟩ (c_X7_isMan l D cI cP s.heap.size mo mor moi_0 moi_2 moi_4 moi_8 moi_9 moi_11 moi_12 moi_13 moi_17 moi_18 moi_20 moi_21 moi_24 moi_26 moi_28 moi_30 moi_31 moi_32 mok_1 mok_3 mok_5 mok_6 mok_7 mok_10 mok_14 mok_15 mok_16 mok_19 mok_22 mok_23 mok_25 mok_27 mok_29 mok_33 mok_34 a1 n1_) (cwV 1 hts gX7_post_X7_isMan rfl rfl rfl (by decide +kernel) ⟨Nat.le_of_ble_eq_true rfl, Nat.le_of_ble_eq_true rfl⟩) (xPVW hN hK hP hD (ci := 7) (j := 0) rfl wM_0) rfl rfl hl.1 rfl (lv_room (Nat.le_of_ble_eq_true rfl)) dX7_post_2 ⟨Nat.le_of_ble_eq_true rfl, Nat.le_of_ble_eq_true rfl⟩) hD hS hA (fun r2 u2 H locs hw hP hD hS => ?_)
  have hP : va_P D vwCl (wM cI mo mor moi_0 moi_2 moi_4 moi_8 moi_9 moi_11 moi_12 moi_13 moi_17 moi_18 moi_20 moi_21 moi_24 moi_26 moi_28 moi_30 moi_31 moi_32 mok_1 mok_3 mok_5 mok_6 mok_7 mok_10 mok_14 mok_15 mok_16 mok_19 mok_22 mok_23 mok_25 mok_27 mok_29 mok_33 mok_34) H := hP
  have hD : va_D A (wM cI mo mor moi_0 moi_2 moi_4 moi_8 moi_9 moi_11 moi_12 moi_13 moi_17 moi_18 moi_20 moi_21 moi_24 moi_26 moi_28 moi_30 moi_31 moi_32 mok_1 mok_3 mok_5 mok_6 mok_7 mok_10 mok_14 mok_15 mok_16 mok_19 mok_22 mok_23 mok_25 mok_27 mok_29 mok_33 mok_34) := hD
  replace he := he.trans (xbd_some hw)
  refine lv_if_eq (tgt := 17) hx hb dX7_post_5 (by decide) (fun c2 => ?_) (fun c2 => ?_)
  · replace he := he.trans (if_pos c2)
    refine lv_iconst (v := -1) hx hb dX7_post_17 (by decide) ?_
    exact hret (-1 : Int32) () _ _ _ _ dX7_post_18 he hP hD hS
  · replace he := he.trans (if_neg c2)
    refine lv_iload_n hx hb dX7_post_8 rfl (lv_at hl 2 rfl) ?_
    refine lv_iconst (v := 0) hx hb dX7_post_9 (by decide) ?_
    refine lv_iconst (v := 2) hx hb dX7_post_10 (by decide) ?_
    have n3_ : fX7_in a2 (0 : Int32) (2 : Int32) ≠ none := fun z => hne (he.trans (xbd_none z))
    refine xci0 (va_runS (As := [.int a2, .int (0 : Int32), .int (2 : Int32)]) (rest := []) ⟨hx, hb, hml, hown, hts⟩ (c_X7_in l D cI cP H.size  a2 (0 : Int32) (2 : Int32) n3_) (va_cwS 3 hts gX7_post_X7_in rfl rfl rfl (by decide +kernel) ⟨Nat.le_of_ble_eq_true rfl, Nat.le_of_ble_eq_true rfl⟩) (xPS0 hN hK) rfl rfl hl.1 rfl (lv_room (Nat.le_of_ble_eq_true rfl)) dX7_post_11 ⟨Nat.le_of_ble_eq_true rfl, Nat.le_of_ble_eq_true rfl⟩) hP hD hS hA (fun r11 u11 H locs hw hP hD hS => ?_)
    replace he := he.trans (xbd_some hw)
    refine lv_if_ne (tgt := 19) hx hb dX7_post_14 (by decide) (fun c4 => ?_) (fun c4 => ?_)
    · replace he := he.trans (if_neg c4)
      refine lv_iload_n hx hb dX7_post_19 rfl (lv_at hl 2 rfl) ?_
      refine lv_if_ne (tgt := 32) hx hb dX7_post_20 (by decide) (fun c5 => ?_) (fun c5 => ?_)
      · replace he := he.trans (if_neg c5)
        refine lv_iload_n hx hb dX7_post_32 rfl (lv_at hl 2 rfl) ?_
        refine lv_iconst (v := 1) hx hb dX7_post_33 (by decide) ?_
        refine lv_icmp_ne (tgt := 46) hx hb dX7_post_34 (by decide) (fun c6 => ?_) (fun c6 => ?_)
        · replace he := he.trans (if_neg c6)
          refine lv_aload_n hx hb dX7_post_46 rfl (lv_at hl 0 rfl) ?_
          refine lv_aload_n hx hb dX7_post_47 rfl (lv_at hl 0 rfl) ?_
          refine va_get (D := D) (ci := 7) (v := .ref (mor 22)) (C := RX7) (T := TX7) (N := 35) hx hb hts hi_X7_post_7 hown hK hP 0 wM_0 rfl 22 (by decide) (hts (.fieldLink RX7 40 "BlindLanternsModel" "now" "[I") (List.mem_of_getElem? (i := 2) rfl)) (fun _ h9 => h9) xMf_22 dX7_post_48 ?_
          refine lv_iload_n hx hb dX7_post_51 rfl (lv_at hl 1 rfl) ?_
          have n7_ : fX7_isWarm_now moi_20 moi_21 moi_32 mok_14 mok_22 a1 ≠ none := fun z => hne (he.trans (xbd_none z))
          refine xciW (va_runV (As := [.ref (mor 22), .int a1]) (rest := []) ⟨hx, hb, hml, hown, hts⟩ (c_X7_isWarm_now l D cI cP H.size mo mor moi_0 moi_2 moi_4 moi_8 moi_9 moi_11 moi_12 moi_13 moi_17 moi_18 moi_20 moi_21 moi_24 moi_26 moi_28 moi_30 moi_31 moi_32 mok_1 mok_3 mok_5 mok_6 mok_7 mok_10 mok_14 mok_15 mok_16 mok_19 mok_22 mok_23 mok_25 mok_27 mok_29 mok_33 mok_34 a1 n7_) (cwV 2 hts gX7_post_X7_isWarm rfl rfl rfl (by decide +kernel) ⟨Nat.le_of_ble_eq_true rfl, Nat.le_of_ble_eq_true rfl⟩) (xPVW hN hK hP hD (ci := 7) (j := 0) rfl wM_0) rfl rfl hl.1 rfl (lv_room (Nat.le_of_ble_eq_true rfl)) dX7_post_52 ⟨Nat.le_of_ble_eq_true rfl, Nat.le_of_ble_eq_true rfl⟩) hD hS hA (fun r52 u52 H locs hw hP hD hS => ?_)
          have hP : va_P D vwCl (wM cI mo mor moi_0 moi_2 moi_4 moi_8 moi_9 moi_11 moi_12 moi_13 moi_17 moi_18 moi_20 moi_21 moi_24 moi_26 moi_28 moi_30 moi_31 moi_32 mok_1 mok_3 mok_5 mok_6 mok_7 mok_10 mok_14 mok_15 mok_16 mok_19 mok_22 mok_23 mok_25 mok_27 mok_29 mok_33 mok_34) H := hP
          have hD : va_D A (wM cI mo mor moi_0 moi_2 moi_4 moi_8 moi_9 moi_11 moi_12 moi_13 moi_17 moi_18 moi_20 moi_21 moi_24 moi_26 moi_28 moi_30 moi_31 moi_32 mok_1 mok_3 mok_5 mok_6 mok_7 mok_10 mok_14 mok_15 mok_16 mok_19 mok_22 mok_23 mok_25 mok_27 mok_29 mok_33 mok_34) := hD
          replace he := he.trans (xbd_some hw)
          have n8_ : fX7_bit r52 ≠ none := fun z => hne (he.trans (xbd_none z))
          refine xci0 (va_runS (As := [.int r52]) (rest := []) ⟨hx, hb, hml, hown, hts⟩ (c_X7_bit l D cI cP H.size  r52 n8_) (va_cwS 1 hts gX7_post_X7_bit rfl rfl rfl (by decide +kernel) ⟨Nat.le_of_ble_eq_true rfl, Nat.le_of_ble_eq_true rfl⟩) (xPS0 hN hK) rfl rfl hl.1 rfl (lv_room (Nat.le_of_ble_eq_true rfl)) dX7_post_55 ⟨Nat.le_of_ble_eq_true rfl, Nat.le_of_ble_eq_true rfl⟩) hP hD hS hA (fun r55 u55 H locs hw hP hD hS => ?_)
          replace he := he.trans (xbd_some hw)
          exact hret r55 () _ _ _ _ dX7_post_58 he hP hD hS
        · replace he := he.trans (if_pos c6)
          refine lv_aload_n hx hb dX7_post_37 rfl (lv_at hl 0 rfl) ?_
          refine va_get (D := D) (ci := 7) (v := .ref (mor 22)) (C := RX7) (T := TX7) (N := 35) hx hb hts hi_X7_post_7 hown hK hP 0 wM_0 rfl 22 (by decide) (hts (.fieldLink RX7 40 "BlindLanternsModel" "now" "[I") (List.mem_of_getElem? (i := 2) rfl)) (fun _ h9 => h9) xMf_22 dX7_post_38 ?_
          refine lv_iload_n hx hb dX7_post_41 rfl (lv_at hl 1 rfl) ?_
          by_cases g9 : a1 < 0 ∨ 19 ≤ a1.toNatClampNeg
          · exact absurd (he.trans (if_pos g9)) hne
          replace he := he.trans (if_neg g9)
          refine va_iald hx hb hK hP 11 0 wM_a22 rfl g9 dX7_post_42 ?_
          refine lv_goto (tgt := 58) hx hb dX7_post_43 (by decide) ?_
          exact hret (mok_22 a1.toNatClampNeg) () _ _ _ _ dX7_post_58 he hP hD hS
      · replace he := he.trans (if_pos c5)
        refine lv_aload_n hx hb dX7_post_23 rfl (lv_at hl 0 rfl) ?_
        refine va_get (D := D) (ci := 7) (v := .ref (mor 14)) (C := RX7) (T := TX7) (N := 35) hx hb hts hi_X7_post_7 hown hK hP 0 wM_0 rfl 14 (by decide) (hts (.fieldLink RX7 28 "BlindLanternsModel" "kind" "[I") (List.mem_of_getElem? (i := 1) rfl)) (fun _ h9 => h9) xMf_14 dX7_post_24 ?_
        refine lv_iload_n hx hb dX7_post_27 rfl (lv_at hl 1 rfl) ?_
        by_cases g10 : a1 < 0 ∨ 6 ≤ a1.toNatClampNeg
        · exact absurd (he.trans (if_pos g10)) hne
        replace he := he.trans (if_neg g10)
        refine va_iald hx hb hK hP 7 0 wM_a14 rfl g10 dX7_post_28 ?_
        refine lv_goto (tgt := 58) hx hb dX7_post_29 (by decide) ?_
        exact hret (mok_14 a1.toNatClampNeg) () _ _ _ _ dX7_post_58 he hP hD hS
    · replace he := he.trans (if_pos c4)
      refine lv_iconst (v := -1) hx hb dX7_post_17 (by decide) ?_
      exact hret (-1 : Int32) () _ _ _ _ dX7_post_18 he hP hD hS

def fX7_fill (F : Nat) (moi_13 : Int32) (moi_24 : Int32) (mok_15 : Nat → Int32) (mok_22 : Nat → Int32) (mok_25 : Nat → Int32) (a1 : Int32) (a2 : Int32) : Option (Int32 × Int32 × (Nat → Int32) × (Nat → Int32)) :=
  xbd (fX7_isMan moi_13 a1) (fun (r2 : Int32) => if r2 = 0 then (some ((-1 : Int32), (moi_24, mok_22, mok_25))) else (xbd (fX7_in a2 (1 : Int32) (40 : Int32)) (fun (r12 : Int32) => if r12 = 0 then (some ((-1 : Int32), (moi_24, mok_22, mok_25))) else (if a1 < 0 ∨ 6 ≤ a1.toNatClampNeg then none else (if (mok_15 a1.toNatClampNeg) < 0 then (some ((-2 : Int32), (moi_24, mok_22, mok_25))) else (if ((6 : Int32) + a1) < 0 ∨ 19 ≤ ((6 : Int32) + a1).toNatClampNeg then none else (if ((mok_22 ((6 : Int32) + a1).toNatClampNeg) + a2) ≤ (99 : Int32) then (xbd (fX7_note F moi_24 mok_22 mok_25) (fun (u49 : Int32 × (Nat → Int32)) => if ((6 : Int32) + a1) < 0 ∨ 19 ≤ ((6 : Int32) + a1).toNatClampNeg then none else (if ((6 : Int32) + a1) < 0 ∨ 19 ≤ ((6 : Int32) + a1).toNatClampNeg then none else (if ((6 : Int32) + a1) < 0 ∨ 19 ≤ ((6 : Int32) + a1).toNatClampNeg then none else (some (((upd mok_22 ((6 : Int32) + a1).toNatClampNeg ((mok_22 ((6 : Int32) + a1).toNatClampNeg) + a2)) ((6 : Int32) + a1).toNatClampNeg), (u49.1, (upd mok_22 ((6 : Int32) + a1).toNatClampNeg ((mok_22 ((6 : Int32) + a1).toNatClampNeg) + a2)), u49.2))))))) else (some ((-2 : Int32), (moi_24, mok_22, mok_25))))))))))
theorem hi_X7_fill_7 : ∀ w ∈ wsX70, w ∈ wsX7_fill := fun _ h => (List.mem_cons_of_mem _ (List.mem_append_right _ h))
set_option maxHeartbeats 4000000 in
set_option maxRecDepth 100000 in
theorem c_X7_fill (l : Launch) (D : va_G) (cI cP : ClassId) (sz : Nat) (mo : Nat) (mor : Nat → Nat) (moi_0 : Int32) (moi_2 : Int32) (moi_4 : Int32) (moi_8 : Int32) (moi_9 : Int32) (moi_11 : Int32) (moi_12 : Int32) (moi_13 : Int32) (moi_17 : Int32) (moi_18 : Int32) (moi_20 : Int32) (moi_21 : Int32) (moi_24 : Int32) (moi_26 : Int32) (moi_28 : Int32) (moi_30 : Int32) (moi_31 : Int32) (moi_32 : Int32) (mok_1 : Nat → Int32) (mok_3 : Nat → Int32) (mok_5 : Nat → Int32) (mok_6 : Nat → Int32) (mok_7 : Nat → Int32) (mok_10 : Nat → Int32) (mok_14 : Nat → Int32) (mok_15 : Nat → Int32) (mok_16 : Nat → Int32) (mok_19 : Nat → Int32) (mok_22 : Nat → Int32) (mok_23 : Nat → Int32) (mok_25 : Nat → Int32) (mok_27 : Nat → Int32) (mok_29 : Nat → Int32) (mok_33 : Nat → Int32) (mok_34 : Nat → Int32) (F : Nat) (a1 : Int32) (a2 : Int32) (hne : fX7_fill F moi_13 moi_24 mok_15 mok_22 mok_25 a1 a2 ≠ none) : xMi l yX7_fill wsX7_fill ({ frames := 2, cells := 0, slots := 0, locals := 45 } : Room) D (xT cI cP) [.ref mo, .int a1, .int a2] (wM cI mo mor moi_0 moi_2 moi_4 moi_8 moi_9 moi_11 moi_12 moi_13 moi_17 moi_18 moi_20 moi_21 moi_24 moi_26 moi_28 moi_30 moi_31 moi_32 mok_1 mok_3 mok_5 mok_6 mok_7 mok_10 mok_14 mok_15 mok_16 mok_19 mok_22 mok_23 mok_25 mok_27 mok_29 mok_33 mok_34) sz (fun r (u : (Int32 × (Nat → Int32) × (Nat → Int32))) => fX7_fill F moi_13 moi_24 mok_15 mok_22 mok_25 a1 a2 = some (r, u)) (fun u => wM cI mo mor moi_0 moi_2 moi_4 moi_8 moi_9 moi_11 moi_12 moi_13 moi_17 moi_18 moi_20 moi_21 u.1 moi_26 moi_28 moi_30 moi_31 moi_32 mok_1 mok_3 mok_5 mok_6 mok_7 mok_10 mok_14 mok_15 mok_16 mok_19 u.2.1 mok_23 u.2.2 mok_27 mok_29 mok_33 mok_34) 0 0 := by
  refine xMi_of (cc := cX7_fill) (maxL := 3) (by decide +kernel) rfl (Nat.le_of_ble_eq_true rfl) ?_
  intro p e s m args below meth c A ls hx hb hml hown hts hname hN hK hA hP hD hS hl Q hret
  have he := fX7_fill.eq_1 F moi_13 moi_24 mok_15 mok_22 mok_25 a1 a2
  have hl : lv_has ls 3 [(0, .ref mo), (1, .int a1), (2, .int a2)] := hl
  refine lv_aload_n hx hb dX7_fill_0 rfl (lv_at hl 0 rfl) ?_
  refine lv_iload_n hx hb dX7_fill_1 rfl (lv_at hl 1 rfl) ?_
  have n1_ : fX7_isMan moi_13 a1 ≠ none := fun z => hne (he.trans (xbd_none z))
  refine xciW (va_runV (As := [.int a1]) (rest := []) ⟨hx, hb, hml, hown, hts⟩ (c_X7_isMan l D cI cP s.heap.size mo mor moi_0 moi_2 moi_4 moi_8 moi_9 moi_11 moi_12 moi_13 moi_17 moi_18 moi_20 moi_21 moi_24 moi_26 moi_28 moi_30 moi_31 moi_32 mok_1 mok_3 mok_5 mok_6 mok_7 mok_10 mok_14 mok_15 mok_16 mok_19 mok_22 mok_23 mok_25 mok_27 mok_29 mok_33 mok_34 a1 n1_) (cwV 1 hts gX7_fill_X7_isMan rfl rfl rfl (by decide +kernel) ⟨Nat.le_of_ble_eq_true rfl, Nat.le_of_ble_eq_true rfl⟩) (xPVW hN hK hP hD (ci := 7) (j := 0) rfl wM_0) rfl rfl hl.1 rfl (lv_room (Nat.le_of_ble_eq_true rfl)) dX7_fill_2 ⟨Nat.le_of_ble_eq_true rfl, Nat.le_of_ble_eq_true rfl⟩) hD hS hA (fun r2 u2 H locs hw hP hD hS => ?_)
  have hP : va_P D vwCl (wM cI mo mor moi_0 moi_2 moi_4 moi_8 moi_9 moi_11 moi_12 moi_13 moi_17 moi_18 moi_20 moi_21 moi_24 moi_26 moi_28 moi_30 moi_31 moi_32 mok_1 mok_3 mok_5 mok_6 mok_7 mok_10 mok_14 mok_15 mok_16 mok_19 mok_22 mok_23 mok_25 mok_27 mok_29 mok_33 mok_34) H := hP
  have hD : va_D A (wM cI mo mor moi_0 moi_2 moi_4 moi_8 moi_9 moi_11 moi_12 moi_13 moi_17 moi_18 moi_20 moi_21 moi_24 moi_26 moi_28 moi_30 moi_31 moi_32 mok_1 mok_3 mok_5 mok_6 mok_7 mok_10 mok_14 mok_15 mok_16 mok_19 mok_22 mok_23 mok_25 mok_27 mok_29 mok_33 mok_34) := hD
  replace he := he.trans (xbd_some hw)
  refine lv_if_eq (tgt := 18) hx hb dX7_fill_5 (by decide) (fun c2 => ?_) (fun c2 => ?_)
  · replace he := he.trans (if_pos c2)
    refine lv_iconst (v := -1) hx hb dX7_fill_18 (by decide) ?_
    exact hret (-1 : Int32) (moi_24, mok_22, mok_25) _ _ _ _ dX7_fill_19 he hP hD hS
  · replace he := he.trans (if_neg c2)
    refine lv_iload_n hx hb dX7_fill_8 rfl (lv_at hl 2 rfl) ?_
    refine lv_iconst (v := 1) hx hb dX7_fill_9 (by decide) ?_
    refine lv_bipush (v := 40) hx hb dX7_fill_10 (by decide) ?_
    have n3_ : fX7_in a2 (1 : Int32) (40 : Int32) ≠ none := fun z => hne (he.trans (xbd_none z))
    refine xci0 (va_runS (As := [.int a2, .int (1 : Int32), .int (40 : Int32)]) (rest := []) ⟨hx, hb, hml, hown, hts⟩ (c_X7_in l D cI cP H.size  a2 (1 : Int32) (40 : Int32) n3_) (va_cwS 3 hts gX7_fill_X7_in rfl rfl rfl (by decide +kernel) ⟨Nat.le_of_ble_eq_true rfl, Nat.le_of_ble_eq_true rfl⟩) (xPS0 hN hK) rfl rfl hl.1 rfl (lv_room (Nat.le_of_ble_eq_true rfl)) dX7_fill_12 ⟨Nat.le_of_ble_eq_true rfl, Nat.le_of_ble_eq_true rfl⟩) hP hD hS hA (fun r12 u12 H locs hw hP hD hS => ?_)
    replace he := he.trans (xbd_some hw)
    refine lv_if_ne (tgt := 20) hx hb dX7_fill_15 (by decide) (fun c4 => ?_) (fun c4 => ?_)
    · replace he := he.trans (if_neg c4)
      refine lv_aload_n hx hb dX7_fill_20 rfl (lv_at hl 0 rfl) ?_
      refine va_get (D := D) (ci := 7) (v := .ref (mor 15)) (C := RX7) (T := TX7) (N := 35) hx hb hts hi_X7_fill_7 hown hK hP 0 wM_0 rfl 15 (by decide) (hts (.fieldLink RX7 31 "BlindLanternsModel" "oil" "[I") (List.mem_of_getElem? (i := 1) rfl)) (fun _ h9 => h9) xMf_15 dX7_fill_21 ?_
      refine lv_iload_n hx hb dX7_fill_24 rfl (lv_at hl 1 rfl) ?_
      by_cases g5 : a1 < 0 ∨ 6 ≤ a1.toNatClampNeg
      · exact absurd (he.trans (if_pos g5)) hne
      replace he := he.trans (if_neg g5)
      refine va_iald hx hb hK hP 8 0 wM_a15 rfl g5 dX7_fill_25 ?_
      refine lv_if_lt (tgt := 45) hx hb dX7_fill_26 (by decide) (fun c6 => ?_) (fun c6 => ?_)
      · replace he := he.trans (if_pos c6)
        refine lv_bipush (v := -2) hx hb dX7_fill_45 (by decide) ?_
        exact hret (-2 : Int32) (moi_24, mok_22, mok_25) _ _ _ _ dX7_fill_47 he hP hD hS
      · replace he := he.trans (if_neg c6)
        refine lv_aload_n hx hb dX7_fill_29 rfl (lv_at hl 0 rfl) ?_
        refine va_get (D := D) (ci := 7) (v := .ref (mor 22)) (C := RX7) (T := TX7) (N := 35) hx hb hts hi_X7_fill_7 hown hK hP 0 wM_0 rfl 22 (by decide) (hts (.fieldLink RX7 40 "BlindLanternsModel" "now" "[I") (List.mem_of_getElem? (i := 2) rfl)) (fun _ h9 => h9) xMf_22 dX7_fill_30 ?_
        refine lv_bipush (v := 6) hx hb dX7_fill_33 (by decide) ?_
        refine lv_iload_n hx hb dX7_fill_35 rfl (lv_at hl 1 rfl) ?_
        refine lv_iadd hx hb dX7_fill_36 ?_
        by_cases g7 : ((6 : Int32) + a1) < 0 ∨ 19 ≤ ((6 : Int32) + a1).toNatClampNeg
        · exact absurd (he.trans (if_pos g7)) hne
        replace he := he.trans (if_neg g7)
        refine va_iald hx hb hK hP 11 0 wM_a22 rfl g7 dX7_fill_37 ?_
        refine lv_iload_n hx hb dX7_fill_38 rfl (lv_at hl 2 rfl) ?_
        refine lv_iadd hx hb dX7_fill_39 ?_
        refine lv_bipush (v := 99) hx hb dX7_fill_40 (by decide) ?_
        refine lv_icmp_le (tgt := 48) hx hb dX7_fill_42 (by decide) (fun c8 => ?_) (fun c8 => ?_)
        · replace he := he.trans (if_pos c8)
          refine lv_aload_n hx hb dX7_fill_48 rfl (lv_at hl 0 rfl) ?_
          have n9_ : fX7_note F moi_24 mok_22 mok_25 ≠ none := fun z => hne (he.trans (xbd_none z))
          refine xcvW (va_runV (As := []) (rest := []) ⟨hx, hb, hml, hown, hts⟩ (c_X7_note l D cI cP H.size mo mor moi_0 moi_2 moi_4 moi_8 moi_9 moi_11 moi_12 moi_13 moi_17 moi_18 moi_20 moi_21 moi_24 moi_26 moi_28 moi_30 moi_31 moi_32 mok_1 mok_3 mok_5 mok_6 mok_7 mok_10 mok_14 mok_15 mok_16 mok_19 mok_22 mok_23 mok_25 mok_27 mok_29 mok_33 mok_34 F  n9_) (cwV 0 hts gX7_fill_X7_note rfl rfl rfl (by decide +kernel) ⟨Nat.le_of_ble_eq_true rfl, Nat.le_of_ble_eq_true rfl⟩) (xPVW hN hK hP hD (ci := 7) (j := 0) rfl wM_0) rfl rfl hl.1 rfl (lv_room (Nat.le_of_ble_eq_true rfl)) dX7_fill_49 ⟨Nat.le_of_ble_eq_true rfl, Nat.le_of_ble_eq_true rfl⟩) hD hS hA (fun u49 H locs hw hP hD hS => ?_)
          have hP : va_P D vwCl (wM cI mo mor moi_0 moi_2 moi_4 moi_8 moi_9 moi_11 moi_12 moi_13 moi_17 moi_18 moi_20 moi_21 u49.1 moi_26 moi_28 moi_30 moi_31 moi_32 mok_1 mok_3 mok_5 mok_6 mok_7 mok_10 mok_14 mok_15 mok_16 mok_19 mok_22 mok_23 u49.2 mok_27 mok_29 mok_33 mok_34) H := hP
          have hD : va_D A (wM cI mo mor moi_0 moi_2 moi_4 moi_8 moi_9 moi_11 moi_12 moi_13 moi_17 moi_18 moi_20 moi_21 u49.1 moi_26 moi_28 moi_30 moi_31 moi_32 mok_1 mok_3 mok_5 mok_6 mok_7 mok_10 mok_14 mok_15 mok_16 mok_19 mok_22 mok_23 u49.2 mok_27 mok_29 mok_33 mok_34) := hD
          replace he := he.trans (xbd_some hw)
          refine lv_aload_n hx hb dX7_fill_52 rfl (lv_at hl 0 rfl) ?_
          refine va_get (D := D) (ci := 7) (v := .ref (mor 22)) (C := RX7) (T := TX7) (N := 35) hx hb hts hi_X7_fill_7 hown hK hP 0 wM_0 rfl 22 (by decide) (hts (.fieldLink RX7 40 "BlindLanternsModel" "now" "[I") (List.mem_of_getElem? (i := 2) rfl)) (fun _ h9 => h9) xMf_22 dX7_fill_53 ?_
          refine lv_bipush (v := 6) hx hb dX7_fill_56 (by decide) ?_
          refine lv_iload_n hx hb dX7_fill_58 rfl (lv_at hl 1 rfl) ?_
          refine lv_iadd hx hb dX7_fill_59 ?_
          refine lv_dup2_11 hx hb dX7_fill_60 rfl rfl ?_
          by_cases g10 : ((6 : Int32) + a1) < 0 ∨ 19 ≤ ((6 : Int32) + a1).toNatClampNeg
          · exact absurd (he.trans (if_pos g10)) hne
          replace he := he.trans (if_neg g10)
          refine va_iald hx hb hK hP 11 0 wM_a22 rfl g10 dX7_fill_61 ?_
          refine lv_iload_n hx hb dX7_fill_62 rfl (lv_at hl 2 rfl) ?_
          refine lv_iadd hx hb dX7_fill_63 ?_
          by_cases g11 : ((6 : Int32) + a1) < 0 ∨ 19 ≤ ((6 : Int32) + a1).toNatClampNeg
          · exact absurd (he.trans (if_pos g11)) hne
          replace he := he.trans (if_neg g11)
          refine va_iast hx hb hK hP hD hS 11 0 wM_a22 rfl g11 dX7_fill_64 (fun H locs hP hD hS => ?_)
          rw [wM_s22] at hP hD
          refine lv_aload_n hx hb dX7_fill_65 rfl (lv_at hl 0 rfl) ?_
          refine va_get (D := D) (ci := 7) (v := .ref (mor 22)) (C := RX7) (T := TX7) (N := 35) hx hb hts hi_X7_fill_7 hown hK hP 0 wM_0 rfl 22 (by decide) (hts (.fieldLink RX7 40 "BlindLanternsModel" "now" "[I") (List.mem_of_getElem? (i := 2) rfl)) (fun _ h9 => h9) xMf_22 dX7_fill_66 ?_
          refine lv_bipush (v := 6) hx hb dX7_fill_69 (by decide) ?_
          refine lv_iload_n hx hb dX7_fill_71 rfl (lv_at hl 1 rfl) ?_
          refine lv_iadd hx hb dX7_fill_72 ?_
          by_cases g12 : ((6 : Int32) + a1) < 0 ∨ 19 ≤ ((6 : Int32) + a1).toNatClampNeg
          · exact absurd (he.trans (if_pos g12)) hne
          replace he := he.trans (if_neg g12)
          refine va_iald hx hb hK hP 11 0 wM_a22 rfl g12 dX7_fill_73 ?_
          exact hret ((upd mok_22 ((6 : Int32) + a1).toNatClampNeg ((mok_22 ((6 : Int32) + a1).toNatClampNeg) + a2)) ((6 : Int32) + a1).toNatClampNeg) (u49.1, (upd mok_22 ((6 : Int32) + a1).toNatClampNeg ((mok_22 ((6 : Int32) + a1).toNatClampNeg) + a2)), u49.2) _ _ _ _ dX7_fill_74 he hP hD hS
        · replace he := he.trans (if_neg c8)
          refine lv_bipush (v := -2) hx hb dX7_fill_45 (by decide) ?_
          exact hret (-2 : Int32) (moi_24, mok_22, mok_25) _ _ _ _ dX7_fill_47 he hP hD hS
    · replace he := he.trans (if_pos c4)
      refine lv_iconst (v := -1) hx hb dX7_fill_18 (by decide) ?_
      exact hret (-1 : Int32) (moi_24, mok_22, mok_25) _ _ _ _ dX7_fill_19 he hP hD hS

def fX7_light (F : Nat) (moi_13 : Int32) (moi_24 : Int32) (mok_22 : Nat → Int32) (mok_25 : Nat → Int32) (a1 : Int32) : Option (Int32 × Int32 × (Nat → Int32) × (Nat → Int32)) :=
  xbd (fX7_isMan moi_13 a1) (fun (r2 : Int32) => if r2 = 0 then (some ((-1 : Int32), (moi_24, mok_22, mok_25))) else (if ((6 : Int32) + a1) < 0 ∨ 19 ≤ ((6 : Int32) + a1).toNatClampNeg then none else (if (mok_22 ((6 : Int32) + a1).toNatClampNeg) = 0 then (some ((-2 : Int32), (moi_24, mok_22, mok_25))) else (if ((12 : Int32) + a1) < 0 ∨ 19 ≤ ((12 : Int32) + a1).toNatClampNeg then none else (if (mok_22 ((12 : Int32) + a1).toNatClampNeg) = (1 : Int32) then (some ((-2 : Int32), (moi_24, mok_22, mok_25))) else (xbd (fX7_note F moi_24 mok_22 mok_25) (fun (u39 : Int32 × (Nat → Int32)) => if ((12 : Int32) + a1) < 0 ∨ 19 ≤ ((12 : Int32) + a1).toNatClampNeg then none else (xbd (fX7_litOf_now F moi_13 (upd mok_22 ((12 : Int32) + a1).toNatClampNeg (1 : Int32))) (fun (r57 : Int32) => some (r57, (u39.1, (upd mok_22 ((12 : Int32) + a1).toNatClampNeg (1 : Int32)), u39.2)))))))))))
theorem hi_X7_light_7 : ∀ w ∈ wsX70, w ∈ wsX7_light := fun _ h => (List.mem_cons_of_mem _ (List.mem_append_right _ h))
set_option maxHeartbeats 4000000 in
set_option maxRecDepth 100000 in
theorem c_X7_light (l : Launch) (D : va_G) (cI cP : ClassId) (sz : Nat) (mo : Nat) (mor : Nat → Nat) (moi_0 : Int32) (moi_2 : Int32) (moi_4 : Int32) (moi_8 : Int32) (moi_9 : Int32) (moi_11 : Int32) (moi_12 : Int32) (moi_13 : Int32) (moi_17 : Int32) (moi_18 : Int32) (moi_20 : Int32) (moi_21 : Int32) (moi_24 : Int32) (moi_26 : Int32) (moi_28 : Int32) (moi_30 : Int32) (moi_31 : Int32) (moi_32 : Int32) (mok_1 : Nat → Int32) (mok_3 : Nat → Int32) (mok_5 : Nat → Int32) (mok_6 : Nat → Int32) (mok_7 : Nat → Int32) (mok_10 : Nat → Int32) (mok_14 : Nat → Int32) (mok_15 : Nat → Int32) (mok_16 : Nat → Int32) (mok_19 : Nat → Int32) (mok_22 : Nat → Int32) (mok_23 : Nat → Int32) (mok_25 : Nat → Int32) (mok_27 : Nat → Int32) (mok_29 : Nat → Int32) (mok_33 : Nat → Int32) (mok_34 : Nat → Int32) (F : Nat) (a1 : Int32) (hne : fX7_light F moi_13 moi_24 mok_22 mok_25 a1 ≠ none) : xMi l yX7_light wsX7_light ({ frames := 2, cells := 0, slots := 0, locals := 45 } : Room) D (xT cI cP) [.ref mo, .int a1] (wM cI mo mor moi_0 moi_2 moi_4 moi_8 moi_9 moi_11 moi_12 moi_13 moi_17 moi_18 moi_20 moi_21 moi_24 moi_26 moi_28 moi_30 moi_31 moi_32 mok_1 mok_3 mok_5 mok_6 mok_7 mok_10 mok_14 mok_15 mok_16 mok_19 mok_22 mok_23 mok_25 mok_27 mok_29 mok_33 mok_34) sz (fun r (u : (Int32 × (Nat → Int32) × (Nat → Int32))) => fX7_light F moi_13 moi_24 mok_22 mok_25 a1 = some (r, u)) (fun u => wM cI mo mor moi_0 moi_2 moi_4 moi_8 moi_9 moi_11 moi_12 moi_13 moi_17 moi_18 moi_20 moi_21 u.1 moi_26 moi_28 moi_30 moi_31 moi_32 mok_1 mok_3 mok_5 mok_6 mok_7 mok_10 mok_14 mok_15 mok_16 mok_19 u.2.1 mok_23 u.2.2 mok_27 mok_29 mok_33 mok_34) 0 0 := by
  refine xMi_of (cc := cX7_light) (maxL := 2) (by decide +kernel) rfl (Nat.le_of_ble_eq_true rfl) ?_
  intro p e s m args below meth c A ls hx hb hml hown hts hname hN hK hA hP hD hS hl Q hret
  have he := fX7_light.eq_1 F moi_13 moi_24 mok_22 mok_25 a1
  have hl : lv_has ls 2 [(0, .ref mo), (1, .int a1)] := hl
  refine lv_aload_n hx hb dX7_light_0 rfl (lv_at hl 0 rfl) ?_
  refine lv_iload_n hx hb dX7_light_1 rfl (lv_at hl 1 rfl) ?_
  have n1_ : fX7_isMan moi_13 a1 ≠ none := fun z => hne (he.trans (xbd_none z))
  refine xciW (va_runV (As := [.int a1]) (rest := []) ⟨hx, hb, hml, hown, hts⟩ (c_X7_isMan l D cI cP s.heap.size mo mor moi_0 moi_2 moi_4 moi_8 moi_9 moi_11 moi_12 moi_13 moi_17 moi_18 moi_20 moi_21 moi_24 moi_26 moi_28 moi_30 moi_31 moi_32 mok_1 mok_3 mok_5 mok_6 mok_7 mok_10 mok_14 mok_15 mok_16 mok_19 mok_22 mok_23 mok_25 mok_27 mok_29 mok_33 mok_34 a1 n1_) (cwV 1 hts gX7_light_X7_isMan rfl rfl rfl (by decide +kernel) ⟨Nat.le_of_ble_eq_true rfl, Nat.le_of_ble_eq_true rfl⟩) (xPVW hN hK hP hD (ci := 7) (j := 0) rfl wM_0) rfl rfl hl.1 rfl (lv_room (Nat.le_of_ble_eq_true rfl)) dX7_light_2 ⟨Nat.le_of_ble_eq_true rfl, Nat.le_of_ble_eq_true rfl⟩) hD hS hA (fun r2 u2 H locs hw hP hD hS => ?_)
  have hP : va_P D vwCl (wM cI mo mor moi_0 moi_2 moi_4 moi_8 moi_9 moi_11 moi_12 moi_13 moi_17 moi_18 moi_20 moi_21 moi_24 moi_26 moi_28 moi_30 moi_31 moi_32 mok_1 mok_3 mok_5 mok_6 mok_7 mok_10 mok_14 mok_15 mok_16 mok_19 mok_22 mok_23 mok_25 mok_27 mok_29 mok_33 mok_34) H := hP
  have hD : va_D A (wM cI mo mor moi_0 moi_2 moi_4 moi_8 moi_9 moi_11 moi_12 moi_13 moi_17 moi_18 moi_20 moi_21 moi_24 moi_26 moi_28 moi_30 moi_31 moi_32 mok_1 mok_3 mok_5 mok_6 mok_7 mok_10 mok_14 mok_15 mok_16 mok_19 mok_22 mok_23 mok_25 mok_27 mok_29 mok_33 mok_34) := hD
  replace he := he.trans (xbd_some hw)
  refine lv_if_ne (tgt := 10) hx hb dX7_light_5 (by decide) (fun c2 => ?_) (fun c2 => ?_)
  · replace he := he.trans (if_neg c2)
    refine lv_aload_n hx hb dX7_light_10 rfl (lv_at hl 0 rfl) ?_
    refine va_get (D := D) (ci := 7) (v := .ref (mor 22)) (C := RX7) (T := TX7) (N := 35) hx hb hts hi_X7_light_7 hown hK hP 0 wM_0 rfl 22 (by decide) (hts (.fieldLink RX7 40 "BlindLanternsModel" "now" "[I") (List.mem_of_getElem? (i := 1) rfl)) (fun _ h9 => h9) xMf_22 dX7_light_11 ?_
    refine lv_bipush (v := 6) hx hb dX7_light_14 (by decide) ?_
    refine lv_iload_n hx hb dX7_light_16 rfl (lv_at hl 1 rfl) ?_
    refine lv_iadd hx hb dX7_light_17 ?_
    by_cases g3 : ((6 : Int32) + a1) < 0 ∨ 19 ≤ ((6 : Int32) + a1).toNatClampNeg
    · exact absurd (he.trans (if_pos g3)) hne
    replace he := he.trans (if_neg g3)
    refine va_iald hx hb hK hP 11 0 wM_a22 rfl g3 dX7_light_18 ?_
    refine lv_if_eq (tgt := 35) hx hb dX7_light_19 (by decide) (fun c4 => ?_) (fun c4 => ?_)
    · replace he := he.trans (if_pos c4)
      refine lv_bipush (v := -2) hx hb dX7_light_35 (by decide) ?_
      exact hret (-2 : Int32) (moi_24, mok_22, mok_25) _ _ _ _ dX7_light_37 he hP hD hS
    · replace he := he.trans (if_neg c4)
      refine lv_aload_n hx hb dX7_light_22 rfl (lv_at hl 0 rfl) ?_
      refine va_get (D := D) (ci := 7) (v := .ref (mor 22)) (C := RX7) (T := TX7) (N := 35) hx hb hts hi_X7_light_7 hown hK hP 0 wM_0 rfl 22 (by decide) (hts (.fieldLink RX7 40 "BlindLanternsModel" "now" "[I") (List.mem_of_getElem? (i := 1) rfl)) (fun _ h9 => h9) xMf_22 dX7_light_23 ?_
      refine lv_bipush (v := 12) hx hb dX7_light_26 (by decide) ?_
      refine lv_iload_n hx hb dX7_light_28 rfl (lv_at hl 1 rfl) ?_
      refine lv_iadd hx hb dX7_light_29 ?_
      by_cases g5 : ((12 : Int32) + a1) < 0 ∨ 19 ≤ ((12 : Int32) + a1).toNatClampNeg
      · exact absurd (he.trans (if_pos g5)) hne
      replace he := he.trans (if_neg g5)
      refine va_iald hx hb hK hP 11 0 wM_a22 rfl g5 dX7_light_30 ?_
      refine lv_iconst (v := 1) hx hb dX7_light_31 (by decide) ?_
      refine lv_icmp_ne (tgt := 38) hx hb dX7_light_32 (by decide) (fun c6 => ?_) (fun c6 => ?_)
      · replace he := he.trans (if_neg c6)
        refine lv_aload_n hx hb dX7_light_38 rfl (lv_at hl 0 rfl) ?_
        have n7_ : fX7_note F moi_24 mok_22 mok_25 ≠ none := fun z => hne (he.trans (xbd_none z))
        refine xcvW (va_runV (As := []) (rest := []) ⟨hx, hb, hml, hown, hts⟩ (c_X7_note l D cI cP H.size mo mor moi_0 moi_2 moi_4 moi_8 moi_9 moi_11 moi_12 moi_13 moi_17 moi_18 moi_20 moi_21 moi_24 moi_26 moi_28 moi_30 moi_31 moi_32 mok_1 mok_3 mok_5 mok_6 mok_7 mok_10 mok_14 mok_15 mok_16 mok_19 mok_22 mok_23 mok_25 mok_27 mok_29 mok_33 mok_34 F  n7_) (cwV 0 hts gX7_light_X7_note rfl rfl rfl (by decide +kernel) ⟨Nat.le_of_ble_eq_true rfl, Nat.le_of_ble_eq_true rfl⟩) (xPVW hN hK hP hD (ci := 7) (j := 0) rfl wM_0) rfl rfl hl.1 rfl (lv_room (Nat.le_of_ble_eq_true rfl)) dX7_light_39 ⟨Nat.le_of_ble_eq_true rfl, Nat.le_of_ble_eq_true rfl⟩) hD hS hA (fun u39 H locs hw hP hD hS => ?_)
        have hP : va_P D vwCl (wM cI mo mor moi_0 moi_2 moi_4 moi_8 moi_9 moi_11 moi_12 moi_13 moi_17 moi_18 moi_20 moi_21 u39.1 moi_26 moi_28 moi_30 moi_31 moi_32 mok_1 mok_3 mok_5 mok_6 mok_7 mok_10 mok_14 mok_15 mok_16 mok_19 mok_22 mok_23 u39.2 mok_27 mok_29 mok_33 mok_34) H := hP
        have hD : va_D A (wM cI mo mor moi_0 moi_2 moi_4 moi_8 moi_9 moi_11 moi_12 moi_13 moi_17 moi_18 moi_20 moi_21 u39.1 moi_26 moi_28 moi_30 moi_31 moi_32 mok_1 mok_3 mok_5 mok_6 mok_7 mok_10 mok_14 mok_15 mok_16 mok_19 mok_22 mok_23 u39.2 mok_27 mok_29 mok_33 mok_34) := hD
        replace he := he.trans (xbd_some hw)
        refine lv_aload_n hx hb dX7_light_42 rfl (lv_at hl 0 rfl) ?_
        refine va_get (D := D) (ci := 7) (v := .ref (mor 22)) (C := RX7) (T := TX7) (N := 35) hx hb hts hi_X7_light_7 hown hK hP 0 wM_0 rfl 22 (by decide) (hts (.fieldLink RX7 40 "BlindLanternsModel" "now" "[I") (List.mem_of_getElem? (i := 1) rfl)) (fun _ h9 => h9) xMf_22 dX7_light_43 ?_
        refine lv_bipush (v := 12) hx hb dX7_light_46 (by decide) ?_
        refine lv_iload_n hx hb dX7_light_48 rfl (lv_at hl 1 rfl) ?_
        refine lv_iadd hx hb dX7_light_49 ?_
        refine lv_iconst (v := 1) hx hb dX7_light_50 (by decide) ?_
        by_cases g8 : ((12 : Int32) + a1) < 0 ∨ 19 ≤ ((12 : Int32) + a1).toNatClampNeg
        · exact absurd (he.trans (if_pos g8)) hne
        replace he := he.trans (if_neg g8)
        refine va_iast hx hb hK hP hD hS 11 0 wM_a22 rfl g8 dX7_light_51 (fun H locs hP hD hS => ?_)
        rw [wM_s22] at hP hD
        refine lv_aload_n hx hb dX7_light_52 rfl (lv_at hl 0 rfl) ?_
        refine lv_aload_n hx hb dX7_light_53 rfl (lv_at hl 0 rfl) ?_
        refine va_get (D := D) (ci := 7) (v := .ref (mor 22)) (C := RX7) (T := TX7) (N := 35) hx hb hts hi_X7_light_7 hown hK hP 0 wM_0 rfl 22 (by decide) (hts (.fieldLink RX7 40 "BlindLanternsModel" "now" "[I") (List.mem_of_getElem? (i := 1) rfl)) (fun _ h9 => h9) xMf_22 dX7_light_54 ?_
        have n9_ : fX7_litOf_now F moi_13 (upd mok_22 ((12 : Int32) + a1).toNatClampNeg (1 : Int32)) ≠ none := fun z => hne (he.trans (xbd_none z))
        refine xciW (va_runV (As := [.ref (mor 22)]) (rest := []) ⟨hx, hb, hml, hown, hts⟩ (c_X7_litOf_now l D cI cP H.size mo mor moi_0 moi_2 moi_4 moi_8 moi_9 moi_11 moi_12 moi_13 moi_17 moi_18 moi_20 moi_21 u39.1 moi_26 moi_28 moi_30 moi_31 moi_32 mok_1 mok_3 mok_5 mok_6 mok_7 mok_10 mok_14 mok_15 mok_16 mok_19 (upd mok_22 ((12 : Int32) + a1).toNatClampNeg (1 : Int32)) mok_23 u39.2 mok_27 mok_29 mok_33 mok_34 F  n9_) (cwV 1 hts gX7_light_X7_litOf rfl rfl rfl (by decide +kernel) ⟨Nat.le_of_ble_eq_true rfl, Nat.le_of_ble_eq_true rfl⟩) (xPVW hN hK hP hD (ci := 7) (j := 0) rfl wM_0) rfl rfl hl.1 rfl (lv_room (Nat.le_of_ble_eq_true rfl)) dX7_light_57 ⟨Nat.le_of_ble_eq_true rfl, Nat.le_of_ble_eq_true rfl⟩) hD hS hA (fun r57 u57 H locs hw hP hD hS => ?_)
        have hP : va_P D vwCl (wM cI mo mor moi_0 moi_2 moi_4 moi_8 moi_9 moi_11 moi_12 moi_13 moi_17 moi_18 moi_20 moi_21 u39.1 moi_26 moi_28 moi_30 moi_31 moi_32 mok_1 mok_3 mok_5 mok_6 mok_7 mok_10 mok_14 mok_15 mok_16 mok_19 (upd mok_22 ((12 : Int32) + a1).toNatClampNeg (1 : Int32)) mok_23 u39.2 mok_27 mok_29 mok_33 mok_34) H := hP
        have hD : va_D A (wM cI mo mor moi_0 moi_2 moi_4 moi_8 moi_9 moi_11 moi_12 moi_13 moi_17 moi_18 moi_20 moi_21 u39.1 moi_26 moi_28 moi_30 moi_31 moi_32 mok_1 mok_3 mok_5 mok_6 mok_7 mok_10 mok_14 mok_15 mok_16 mok_19 (upd mok_22 ((12 : Int32) + a1).toNatClampNeg (1 : Int32)) mok_23 u39.2 mok_27 mok_29 mok_33 mok_34) := hD
        replace he := he.trans (xbd_some hw)
        exact hret r57 (u39.1, (upd mok_22 ((12 : Int32) + a1).toNatClampNeg (1 : Int32)), u39.2) _ _ _ _ dX7_light_60 he hP hD hS
      · replace he := he.trans (if_pos c6)
        refine lv_bipush (v := -2) hx hb dX7_light_35 (by decide) ?_
        exact hret (-2 : Int32) (moi_24, mok_22, mok_25) _ _ _ _ dX7_light_37 he hP hD hS
  · replace he := he.trans (if_pos c2)
    refine lv_iconst (v := -1) hx hb dX7_light_8 (by decide) ?_
    exact hret (-1 : Int32) (moi_24, mok_22, mok_25) _ _ _ _ dX7_light_9 he hP hD hS

def fX7_change (F : Nat) (moi_13 : Int32) (moi_24 : Int32) (mok_22 : Nat → Int32) (mok_25 : Nat → Int32) (a1 : Int32) (a2 : Int32) : Option (Int32 × Int32 × (Nat → Int32) × (Nat → Int32)) :=
  xbd (fX7_isMan moi_13 a1) (fun (r2 : Int32) => if r2 = 0 then (some ((-1 : Int32), (moi_24, mok_22, mok_25))) else (xbd (fX7_isMan moi_13 a2) (fun (r10 : Int32) => if r10 = 0 then (some ((-1 : Int32), (moi_24, mok_22, mok_25))) else (if a1 = a2 then (some ((-1 : Int32), (moi_24, mok_22, mok_25))) else (xbd (fX7_note F moi_24 mok_22 mok_25) (fun (u24 : Int32 × (Nat → Int32)) => if a1 < 0 ∨ 19 ≤ a1.toNatClampNeg then none else (if a2 < 0 ∨ 19 ≤ a2.toNatClampNeg then none else (if a1 < 0 ∨ 19 ≤ a1.toNatClampNeg then none else (if a2 < 0 ∨ 19 ≤ a2.toNatClampNeg then none else (if a1 < 0 ∨ 19 ≤ a1.toNatClampNeg then none else (some (((upd (upd mok_22 a1.toNatClampNeg (mok_22 a2.toNatClampNeg)) a2.toNatClampNeg (mok_22 a1.toNatClampNeg)) a1.toNatClampNeg), (u24.1, (upd (upd mok_22 a1.toNatClampNeg (mok_22 a2.toNatClampNeg)) a2.toNatClampNeg (mok_22 a1.toNatClampNeg)), u24.2)))))))))))))
theorem hi_X7_change_7 : ∀ w ∈ wsX70, w ∈ wsX7_change := fun _ h => (List.mem_cons_of_mem _ (List.mem_append_right _ h))
set_option maxHeartbeats 4000000 in
set_option maxRecDepth 100000 in
theorem c_X7_change (l : Launch) (D : va_G) (cI cP : ClassId) (sz : Nat) (mo : Nat) (mor : Nat → Nat) (moi_0 : Int32) (moi_2 : Int32) (moi_4 : Int32) (moi_8 : Int32) (moi_9 : Int32) (moi_11 : Int32) (moi_12 : Int32) (moi_13 : Int32) (moi_17 : Int32) (moi_18 : Int32) (moi_20 : Int32) (moi_21 : Int32) (moi_24 : Int32) (moi_26 : Int32) (moi_28 : Int32) (moi_30 : Int32) (moi_31 : Int32) (moi_32 : Int32) (mok_1 : Nat → Int32) (mok_3 : Nat → Int32) (mok_5 : Nat → Int32) (mok_6 : Nat → Int32) (mok_7 : Nat → Int32) (mok_10 : Nat → Int32) (mok_14 : Nat → Int32) (mok_15 : Nat → Int32) (mok_16 : Nat → Int32) (mok_19 : Nat → Int32) (mok_22 : Nat → Int32) (mok_23 : Nat → Int32) (mok_25 : Nat → Int32) (mok_27 : Nat → Int32) (mok_29 : Nat → Int32) (mok_33 : Nat → Int32) (mok_34 : Nat → Int32) (F : Nat) (a1 : Int32) (a2 : Int32) (hne : fX7_change F moi_13 moi_24 mok_22 mok_25 a1 a2 ≠ none) : xMi l yX7_change wsX7_change ({ frames := 2, cells := 0, slots := 0, locals := 45 } : Room) D (xT cI cP) [.ref mo, .int a1, .int a2] (wM cI mo mor moi_0 moi_2 moi_4 moi_8 moi_9 moi_11 moi_12 moi_13 moi_17 moi_18 moi_20 moi_21 moi_24 moi_26 moi_28 moi_30 moi_31 moi_32 mok_1 mok_3 mok_5 mok_6 mok_7 mok_10 mok_14 mok_15 mok_16 mok_19 mok_22 mok_23 mok_25 mok_27 mok_29 mok_33 mok_34) sz (fun r (u : (Int32 × (Nat → Int32) × (Nat → Int32))) => fX7_change F moi_13 moi_24 mok_22 mok_25 a1 a2 = some (r, u)) (fun u => wM cI mo mor moi_0 moi_2 moi_4 moi_8 moi_9 moi_11 moi_12 moi_13 moi_17 moi_18 moi_20 moi_21 u.1 moi_26 moi_28 moi_30 moi_31 moi_32 mok_1 mok_3 mok_5 mok_6 mok_7 mok_10 mok_14 mok_15 mok_16 mok_19 u.2.1 mok_23 u.2.2 mok_27 mok_29 mok_33 mok_34) 0 0 := by
  refine xMi_of (cc := cX7_change) (maxL := 4) (by decide +kernel) rfl (Nat.le_of_ble_eq_true rfl) ?_
  intro p e s m args below meth c A ls hx hb hml hown hts hname hN hK hA hP hD hS hl Q hret
  have he := fX7_change.eq_1 F moi_13 moi_24 mok_22 mok_25 a1 a2
  have hl : lv_has ls 4 [(0, .ref mo), (1, .int a1), (2, .int a2)] := hl
  refine lv_aload_n hx hb dX7_change_0 rfl (lv_at hl 0 rfl) ?_
  refine lv_iload_n hx hb dX7_change_1 rfl (lv_at hl 1 rfl) ?_
  have n1_ : fX7_isMan moi_13 a1 ≠ none := fun z => hne (he.trans (xbd_none z))
  refine xciW (va_runV (As := [.int a1]) (rest := []) ⟨hx, hb, hml, hown, hts⟩ (c_X7_isMan l D cI cP s.heap.size mo mor moi_0 moi_2 moi_4 moi_8 moi_9 moi_11 moi_12 moi_13 moi_17 moi_18 moi_20 moi_21 moi_24 moi_26 moi_28 moi_30 moi_31 moi_32 mok_1 mok_3 mok_5 mok_6 mok_7 mok_10 mok_14 mok_15 mok_16 mok_19 mok_22 mok_23 mok_25 mok_27 mok_29 mok_33 mok_34 a1 n1_) (cwV 1 hts gX7_change_X7_isMan rfl rfl rfl (by decide +kernel) ⟨Nat.le_of_ble_eq_true rfl, Nat.le_of_ble_eq_true rfl⟩) (xPVW hN hK hP hD (ci := 7) (j := 0) rfl wM_0) rfl rfl hl.1 rfl (lv_room (Nat.le_of_ble_eq_true rfl)) dX7_change_2 ⟨Nat.le_of_ble_eq_true rfl, Nat.le_of_ble_eq_true rfl⟩) hD hS hA (fun r2 u2 H locs hw hP hD hS => ?_)
  have hP : va_P D vwCl (wM cI mo mor moi_0 moi_2 moi_4 moi_8 moi_9 moi_11 moi_12 moi_13 moi_17 moi_18 moi_20 moi_21 moi_24 moi_26 moi_28 moi_30 moi_31 moi_32 mok_1 mok_3 mok_5 mok_6 mok_7 mok_10 mok_14 mok_15 mok_16 mok_19 mok_22 mok_23 mok_25 mok_27 mok_29 mok_33 mok_34) H := hP
  have hD : va_D A (wM cI mo mor moi_0 moi_2 moi_4 moi_8 moi_9 moi_11 moi_12 moi_13 moi_17 moi_18 moi_20 moi_21 moi_24 moi_26 moi_28 moi_30 moi_31 moi_32 mok_1 mok_3 mok_5 mok_6 mok_7 mok_10 mok_14 mok_15 mok_16 mok_19 mok_22 mok_23 mok_25 mok_27 mok_29 mok_33 mok_34) := hD
  replace he := he.trans (xbd_some hw)
  refine lv_if_eq (tgt := 21) hx hb dX7_change_5 (by decide) (fun c2 => ?_) (fun c2 => ?_)
  · replace he := he.trans (if_pos c2)
    refine lv_iconst (v := -1) hx hb dX7_change_21 (by decide) ?_
    exact hret (-1 : Int32) (moi_24, mok_22, mok_25) _ _ _ _ dX7_change_22 he hP hD hS
  · replace he := he.trans (if_neg c2)
    refine lv_aload_n hx hb dX7_change_8 rfl (lv_at hl 0 rfl) ?_
    refine lv_iload_n hx hb dX7_change_9 rfl (lv_at hl 2 rfl) ?_
    have n3_ : fX7_isMan moi_13 a2 ≠ none := fun z => hne (he.trans (xbd_none z))
    refine xciW (va_runV (As := [.int a2]) (rest := []) ⟨hx, hb, hml, hown, hts⟩ (c_X7_isMan l D cI cP H.size mo mor moi_0 moi_2 moi_4 moi_8 moi_9 moi_11 moi_12 moi_13 moi_17 moi_18 moi_20 moi_21 moi_24 moi_26 moi_28 moi_30 moi_31 moi_32 mok_1 mok_3 mok_5 mok_6 mok_7 mok_10 mok_14 mok_15 mok_16 mok_19 mok_22 mok_23 mok_25 mok_27 mok_29 mok_33 mok_34 a2 n3_) (cwV 1 hts gX7_change_X7_isMan rfl rfl rfl (by decide +kernel) ⟨Nat.le_of_ble_eq_true rfl, Nat.le_of_ble_eq_true rfl⟩) (xPVW hN hK hP hD (ci := 7) (j := 0) rfl wM_0) rfl rfl hl.1 rfl (lv_room (Nat.le_of_ble_eq_true rfl)) dX7_change_10 ⟨Nat.le_of_ble_eq_true rfl, Nat.le_of_ble_eq_true rfl⟩) hD hS hA (fun r10 u10 H locs hw hP hD hS => ?_)
    have hP : va_P D vwCl (wM cI mo mor moi_0 moi_2 moi_4 moi_8 moi_9 moi_11 moi_12 moi_13 moi_17 moi_18 moi_20 moi_21 moi_24 moi_26 moi_28 moi_30 moi_31 moi_32 mok_1 mok_3 mok_5 mok_6 mok_7 mok_10 mok_14 mok_15 mok_16 mok_19 mok_22 mok_23 mok_25 mok_27 mok_29 mok_33 mok_34) H := hP
    have hD : va_D A (wM cI mo mor moi_0 moi_2 moi_4 moi_8 moi_9 moi_11 moi_12 moi_13 moi_17 moi_18 moi_20 moi_21 moi_24 moi_26 moi_28 moi_30 moi_31 moi_32 mok_1 mok_3 mok_5 mok_6 mok_7 mok_10 mok_14 mok_15 mok_16 mok_19 mok_22 mok_23 mok_25 mok_27 mok_29 mok_33 mok_34) := hD
    replace he := he.trans (xbd_some hw)
    refine lv_if_eq (tgt := 21) hx hb dX7_change_13 (by decide) (fun c4 => ?_) (fun c4 => ?_)
    · replace he := he.trans (if_pos c4)
      refine lv_iconst (v := -1) hx hb dX7_change_21 (by decide) ?_
      exact hret (-1 : Int32) (moi_24, mok_22, mok_25) _ _ _ _ dX7_change_22 he hP hD hS
    · replace he := he.trans (if_neg c4)
      refine lv_iload_n hx hb dX7_change_16 rfl (lv_at hl 1 rfl) ?_
      refine lv_iload_n hx hb dX7_change_17 rfl (lv_at hl 2 rfl) ?_
      refine lv_icmp_ne (tgt := 23) hx hb dX7_change_18 (by decide) (fun c5 => ?_) (fun c5 => ?_)
      · replace he := he.trans (if_neg c5)
        refine lv_aload_n hx hb dX7_change_23 rfl (lv_at hl 0 rfl) ?_
        have n6_ : fX7_note F moi_24 mok_22 mok_25 ≠ none := fun z => hne (he.trans (xbd_none z))
        refine xcvW (va_runV (As := []) (rest := []) ⟨hx, hb, hml, hown, hts⟩ (c_X7_note l D cI cP H.size mo mor moi_0 moi_2 moi_4 moi_8 moi_9 moi_11 moi_12 moi_13 moi_17 moi_18 moi_20 moi_21 moi_24 moi_26 moi_28 moi_30 moi_31 moi_32 mok_1 mok_3 mok_5 mok_6 mok_7 mok_10 mok_14 mok_15 mok_16 mok_19 mok_22 mok_23 mok_25 mok_27 mok_29 mok_33 mok_34 F  n6_) (cwV 0 hts gX7_change_X7_note rfl rfl rfl (by decide +kernel) ⟨Nat.le_of_ble_eq_true rfl, Nat.le_of_ble_eq_true rfl⟩) (xPVW hN hK hP hD (ci := 7) (j := 0) rfl wM_0) rfl rfl hl.1 rfl (lv_room (Nat.le_of_ble_eq_true rfl)) dX7_change_24 ⟨Nat.le_of_ble_eq_true rfl, Nat.le_of_ble_eq_true rfl⟩) hD hS hA (fun u24 H locs hw hP hD hS => ?_)
        have hP : va_P D vwCl (wM cI mo mor moi_0 moi_2 moi_4 moi_8 moi_9 moi_11 moi_12 moi_13 moi_17 moi_18 moi_20 moi_21 u24.1 moi_26 moi_28 moi_30 moi_31 moi_32 mok_1 mok_3 mok_5 mok_6 mok_7 mok_10 mok_14 mok_15 mok_16 mok_19 mok_22 mok_23 u24.2 mok_27 mok_29 mok_33 mok_34) H := hP
        have hD : va_D A (wM cI mo mor moi_0 moi_2 moi_4 moi_8 moi_9 moi_11 moi_12 moi_13 moi_17 moi_18 moi_20 moi_21 u24.1 moi_26 moi_28 moi_30 moi_31 moi_32 mok_1 mok_3 mok_5 mok_6 mok_7 mok_10 mok_14 mok_15 mok_16 mok_19 mok_22 mok_23 u24.2 mok_27 mok_29 mok_33 mok_34) := hD
        replace he := he.trans (xbd_some hw)
        refine lv_aload_n hx hb dX7_change_27 rfl (lv_at hl 0 rfl) ?_
        refine va_get (D := D) (ci := 7) (v := .ref (mor 22)) (C := RX7) (T := TX7) (N := 35) hx hb hts hi_X7_change_7 hown hK hP 0 wM_0 rfl 22 (by decide) (hts (.fieldLink RX7 40 "BlindLanternsModel" "now" "[I") (List.mem_of_getElem? (i := 1) rfl)) (fun _ h9 => h9) xMf_22 dX7_change_28 ?_
        refine lv_iload_n hx hb dX7_change_31 rfl (lv_at hl 1 rfl) ?_
        by_cases g7 : a1 < 0 ∨ 19 ≤ a1.toNatClampNeg
        · exact absurd (he.trans (if_pos g7)) hne
        replace he := he.trans (if_neg g7)
        refine va_iald hx hb hK hP 11 0 wM_a22 rfl g7 dX7_change_32 ?_
        refine lv_istore_n (lv' := [(3, .int (mok_22 a1.toNatClampNeg)), (0, .ref mo), (1, .int a1), (2, .int a2)]) hx hb dX7_change_33 rfl hl (by decide) rfl (fun ls hl => ?_)
        refine lv_aload_n hx hb dX7_change_34 rfl (lv_at hl 1 rfl) ?_
        refine va_get (D := D) (ci := 7) (v := .ref (mor 22)) (C := RX7) (T := TX7) (N := 35) hx hb hts hi_X7_change_7 hown hK hP 0 wM_0 rfl 22 (by decide) (hts (.fieldLink RX7 40 "BlindLanternsModel" "now" "[I") (List.mem_of_getElem? (i := 1) rfl)) (fun _ h9 => h9) xMf_22 dX7_change_35 ?_
        refine lv_iload_n hx hb dX7_change_38 rfl (lv_at hl 2 rfl) ?_
        refine lv_aload_n hx hb dX7_change_39 rfl (lv_at hl 1 rfl) ?_
        refine va_get (D := D) (ci := 7) (v := .ref (mor 22)) (C := RX7) (T := TX7) (N := 35) hx hb hts hi_X7_change_7 hown hK hP 0 wM_0 rfl 22 (by decide) (hts (.fieldLink RX7 40 "BlindLanternsModel" "now" "[I") (List.mem_of_getElem? (i := 1) rfl)) (fun _ h9 => h9) xMf_22 dX7_change_40 ?_
        refine lv_iload_n hx hb dX7_change_43 rfl (lv_at hl 3 rfl) ?_
        by_cases g8 : a2 < 0 ∨ 19 ≤ a2.toNatClampNeg
        · exact absurd (he.trans (if_pos g8)) hne
        replace he := he.trans (if_neg g8)
        refine va_iald hx hb hK hP 11 0 wM_a22 rfl g8 dX7_change_44 ?_
        by_cases g9 : a1 < 0 ∨ 19 ≤ a1.toNatClampNeg
        · exact absurd (he.trans (if_pos g9)) hne
        replace he := he.trans (if_neg g9)
        refine va_iast hx hb hK hP hD hS 11 0 wM_a22 rfl g9 dX7_change_45 (fun H locs hP hD hS => ?_)
        rw [wM_s22] at hP hD
        refine lv_aload_n hx hb dX7_change_46 rfl (lv_at hl 1 rfl) ?_
        refine va_get (D := D) (ci := 7) (v := .ref (mor 22)) (C := RX7) (T := TX7) (N := 35) hx hb hts hi_X7_change_7 hown hK hP 0 wM_0 rfl 22 (by decide) (hts (.fieldLink RX7 40 "BlindLanternsModel" "now" "[I") (List.mem_of_getElem? (i := 1) rfl)) (fun _ h9 => h9) xMf_22 dX7_change_47 ?_
        refine lv_iload_n hx hb dX7_change_50 rfl (lv_at hl 3 rfl) ?_
        refine lv_iload_n hx hb dX7_change_51 rfl (lv_at hl 0 rfl) ?_
        by_cases g10 : a2 < 0 ∨ 19 ≤ a2.toNatClampNeg
        · exact absurd (he.trans (if_pos g10)) hne
        replace he := he.trans (if_neg g10)
        refine va_iast hx hb hK hP hD hS 11 0 wM_a22 rfl g10 dX7_change_52 (fun H locs hP hD hS => ?_)
        rw [wM_s22] at hP hD
        refine lv_aload_n hx hb dX7_change_53 rfl (lv_at hl 1 rfl) ?_
        refine va_get (D := D) (ci := 7) (v := .ref (mor 22)) (C := RX7) (T := TX7) (N := 35) hx hb hts hi_X7_change_7 hown hK hP 0 wM_0 rfl 22 (by decide) (hts (.fieldLink RX7 40 "BlindLanternsModel" "now" "[I") (List.mem_of_getElem? (i := 1) rfl)) (fun _ h9 => h9) xMf_22 dX7_change_54 ?_
        refine lv_iload_n hx hb dX7_change_57 rfl (lv_at hl 2 rfl) ?_
        by_cases g11 : a1 < 0 ∨ 19 ≤ a1.toNatClampNeg
        · exact absurd (he.trans (if_pos g11)) hne
        replace he := he.trans (if_neg g11)
        refine va_iald hx hb hK hP 11 0 wM_a22 rfl g11 dX7_change_58 ?_
        exact hret ((upd (upd mok_22 a1.toNatClampNeg (mok_22 a2.toNatClampNeg)) a2.toNatClampNeg (mok_22 a1.toNatClampNeg)) a1.toNatClampNeg) (u24.1, (upd (upd mok_22 a1.toNatClampNeg (mok_22 a2.toNatClampNeg)) a2.toNatClampNeg (mok_22 a1.toNatClampNeg)), u24.2) _ _ _ _ dX7_change_59 he hP hD hS
      · replace he := he.trans (if_pos c5)
        refine lv_iconst (v := -1) hx hb dX7_change_21 (by decide) ?_
        exact hret (-1 : Int32) (moi_24, mok_22, mok_25) _ _ _ _ dX7_change_22 he hP hD hS

def fX7_bells_L36 (moi_13 : Int32) (moi_17 : Int32) (moi_18 : Int32) (moi_30 : Int32) (moi_31 : Int32) (mok_19 : Nat → Int32) (a1 : Int32) (F : Nat) (k36 : Int32 → (Nat → Int32) → (Nat → Int32) → Option (Int32 × Int32 × (Nat → Int32) × (Nat → Int32) × (Nat → Int32))) : Nat → Int32 → (Nat → Int32) → (Nat → Int32) → Option (Int32 × Int32 × (Nat → Int32) × (Nat → Int32) × (Nat → Int32))
  | 0, _, _, _ => none
  | n36 + 1, v36_2, w36_mok_22, w36_mok_33 => if a1 ≤ v36_2 then (k36 v36_2 w36_mok_22 w36_mok_33) else (xbd (fX7_ring_now F moi_13 moi_17 moi_18 moi_30 moi_31 mok_19 w36_mok_22 w36_mok_33) (fun (u46 : (Nat → Int32) × (Nat → Int32)) => fX7_bells_L36 moi_13 moi_17 moi_18 moi_30 moi_31 mok_19 a1 F k36 n36 (v36_2 + 1) u46.1 u46.2))
def fX7_bells (F : Nat) (moi_13 : Int32) (moi_17 : Int32) (moi_18 : Int32) (moi_24 : Int32) (moi_30 : Int32) (moi_31 : Int32) (mok_19 : Nat → Int32) (mok_22 : Nat → Int32) (mok_25 : Nat → Int32) (mok_33 : Nat → Int32) (a1 : Int32) : Option (Int32 × Int32 × (Nat → Int32) × (Nat → Int32) × (Nat → Int32)) :=
  xbd (fX7_in a1 (1 : Int32) (99 : Int32)) (fun (r4 : Int32) => if r4 = 0 then (some ((-1 : Int32), (moi_24, mok_22, mok_25, mok_33))) else (if ((mok_22 (18 : Int32).toNatClampNeg) + a1) ≤ (9999 : Int32) then (xbd (fX7_note F moi_24 mok_22 mok_25) (fun (u31 : Int32 × (Nat → Int32)) => fX7_bells_L36 moi_13 moi_17 moi_18 moi_30 moi_31 mok_19 a1 F (fun (v36_2 : Int32) (w36_mok_22 : Nat → Int32) (w36_mok_33 : Nat → Int32) => some ((w36_mok_22 (18 : Int32).toNatClampNeg), (u31.1, w36_mok_22, u31.2, w36_mok_33))) F (0 : Int32) mok_22 mok_33)) else (some ((-2 : Int32), (moi_24, mok_22, mok_25, mok_33)))))
theorem hi_X7_bells_7 : ∀ w ∈ wsX70, w ∈ wsX7_bells := fun _ h => (List.mem_cons_of_mem _ (List.mem_append_right _ h))
set_option maxHeartbeats 4000000 in
set_option maxRecDepth 100000 in
theorem c_X7_bells (l : Launch) (D : va_G) (cI cP : ClassId) (sz : Nat) (mo : Nat) (mor : Nat → Nat) (moi_0 : Int32) (moi_2 : Int32) (moi_4 : Int32) (moi_8 : Int32) (moi_9 : Int32) (moi_11 : Int32) (moi_12 : Int32) (moi_13 : Int32) (moi_17 : Int32) (moi_18 : Int32) (moi_20 : Int32) (moi_21 : Int32) (moi_24 : Int32) (moi_26 : Int32) (moi_28 : Int32) (moi_30 : Int32) (moi_31 : Int32) (moi_32 : Int32) (mok_1 : Nat → Int32) (mok_3 : Nat → Int32) (mok_5 : Nat → Int32) (mok_6 : Nat → Int32) (mok_7 : Nat → Int32) (mok_10 : Nat → Int32) (mok_14 : Nat → Int32) (mok_15 : Nat → Int32) (mok_16 : Nat → Int32) (mok_19 : Nat → Int32) (mok_22 : Nat → Int32) (mok_23 : Nat → Int32) (mok_25 : Nat → Int32) (mok_27 : Nat → Int32) (mok_29 : Nat → Int32) (mok_33 : Nat → Int32) (mok_34 : Nat → Int32) (F : Nat) (a1 : Int32) (hne : fX7_bells F moi_13 moi_17 moi_18 moi_24 moi_30 moi_31 mok_19 mok_22 mok_25 mok_33 a1 ≠ none) : xMi l yX7_bells wsX7_bells ({ frames := 2, cells := 0, slots := 0, locals := 45 } : Room) D (xT cI cP) [.ref mo, .int a1] (wM cI mo mor moi_0 moi_2 moi_4 moi_8 moi_9 moi_11 moi_12 moi_13 moi_17 moi_18 moi_20 moi_21 moi_24 moi_26 moi_28 moi_30 moi_31 moi_32 mok_1 mok_3 mok_5 mok_6 mok_7 mok_10 mok_14 mok_15 mok_16 mok_19 mok_22 mok_23 mok_25 mok_27 mok_29 mok_33 mok_34) sz (fun r (u : (Int32 × (Nat → Int32) × (Nat → Int32) × (Nat → Int32))) => fX7_bells F moi_13 moi_17 moi_18 moi_24 moi_30 moi_31 mok_19 mok_22 mok_25 mok_33 a1 = some (r, u)) (fun u => wM cI mo mor moi_0 moi_2 moi_4 moi_8 moi_9 moi_11 moi_12 moi_13 moi_17 moi_18 moi_20 moi_21 u.1 moi_26 moi_28 moi_30 moi_31 moi_32 mok_1 mok_3 mok_5 mok_6 mok_7 mok_10 mok_14 mok_15 mok_16 mok_19 u.2.1 mok_23 u.2.2.1 mok_27 mok_29 u.2.2.2 mok_34) 0 0 := by
  refine xMi_of (cc := cX7_bells) (maxL := 3) (by decide +kernel) rfl (Nat.le_of_ble_eq_true rfl) ?_
  intro p e s m args below meth c A ls hx hb hml hown hts hname hN hK hA hP hD hS hl Q hret
  have he := fX7_bells.eq_1 F moi_13 moi_17 moi_18 moi_24 moi_30 moi_31 mok_19 mok_22 mok_25 mok_33 a1
  have hl : lv_has ls 3 [(0, .ref mo), (1, .int a1)] := hl
  have R36_0 : ∀ (u31 : Int32 × (Nat → Int32)) (v36_2 : Int32) (w36_mok_22 : Nat → Int32) (w36_mok_33 : Nat → Int32), fX7_bells F moi_13 moi_17 moi_18 moi_24 moi_30 moi_31 mok_19 mok_22 mok_25 mok_33 a1 = (some ((w36_mok_22 (18 : Int32).toNatClampNeg), (u31.1, w36_mok_22, u31.2, w36_mok_33))) → ∀ (H : Heap) (locs : List Loc) (ls : Array Slot), va_P D vwCl (wM cI mo mor moi_0 moi_2 moi_4 moi_8 moi_9 moi_11 moi_12 moi_13 moi_17 moi_18 moi_20 moi_21 u31.1 moi_26 moi_28 moi_30 moi_31 moi_32 mok_1 mok_3 mok_5 mok_6 mok_7 mok_10 mok_14 mok_15 mok_16 mok_19 w36_mok_22 mok_23 u31.2 mok_27 mok_29 w36_mok_33 mok_34) H → va_D A (wM cI mo mor moi_0 moi_2 moi_4 moi_8 moi_9 moi_11 moi_12 moi_13 moi_17 moi_18 moi_20 moi_21 u31.1 moi_26 moi_28 moi_30 moi_31 moi_32 mok_1 mok_3 mok_5 mok_6 mok_7 mok_10 mok_14 mok_15 mok_16 mok_19 w36_mok_22 mok_23 u31.2 mok_27 mok_29 w36_mok_33 mok_34) → va_S A s.heap H locs → lv_has ls 3 [(0, .ref mo)] → W p l e ({ frames := 2, cells := 0, slots := 0, locals := 45 } : Room) s m args below meth c H locs 0 0 Q (F0 m 55 ls []) := by
    intro u31 v36_2 w36_mok_22 w36_mok_33 he H locs ls hP hD hS hl
    refine lv_aload_n hx hb dX7_bells_55 rfl (lv_at hl 0 rfl) ?_
    refine va_get (D := D) (ci := 7) (v := .ref (mor 22)) (C := RX7) (T := TX7) (N := 35) hx hb hts hi_X7_bells_7 hown hK hP 0 wM_0 rfl 22 (by decide) (hts (.fieldLink RX7 40 "BlindLanternsModel" "now" "[I") (List.mem_of_getElem? (i := 1) rfl)) (fun _ h9 => h9) xMf_22 dX7_bells_56 ?_
    refine lv_bipush (v := 18) hx hb dX7_bells_59 (by decide) ?_
    refine va_iald hx hb hK hP 11 0 wM_a22 rfl (x_in rfl) dX7_bells_61 ?_
    exact hret (w36_mok_22 (18 : Int32).toNatClampNeg) (u31.1, w36_mok_22, u31.2, w36_mok_33) _ _ _ _ dX7_bells_62 he hP hD hS
  have L36_7 : ∀ (u31 : Int32 × (Nat → Int32)) (n36 : Nat) (v36_2 : Int32) (w36_mok_22 : Nat → Int32) (w36_mok_33 : Nat → Int32), fX7_bells F moi_13 moi_17 moi_18 moi_24 moi_30 moi_31 mok_19 mok_22 mok_25 mok_33 a1 = fX7_bells_L36 moi_13 moi_17 moi_18 moi_30 moi_31 mok_19 a1 F (fun (v36_2 : Int32) (w36_mok_22 : Nat → Int32) (w36_mok_33 : Nat → Int32) => some ((w36_mok_22 (18 : Int32).toNatClampNeg), (u31.1, w36_mok_22, u31.2, w36_mok_33))) n36 v36_2 w36_mok_22 w36_mok_33 → ∀ (H : Heap) (locs : List Loc) (ls : Array Slot), va_P D vwCl (wM cI mo mor moi_0 moi_2 moi_4 moi_8 moi_9 moi_11 moi_12 moi_13 moi_17 moi_18 moi_20 moi_21 u31.1 moi_26 moi_28 moi_30 moi_31 moi_32 mok_1 mok_3 mok_5 mok_6 mok_7 mok_10 mok_14 mok_15 mok_16 mok_19 w36_mok_22 mok_23 u31.2 mok_27 mok_29 w36_mok_33 mok_34) H → va_D A (wM cI mo mor moi_0 moi_2 moi_4 moi_8 moi_9 moi_11 moi_12 moi_13 moi_17 moi_18 moi_20 moi_21 u31.1 moi_26 moi_28 moi_30 moi_31 moi_32 mok_1 mok_3 mok_5 mok_6 mok_7 mok_10 mok_14 mok_15 mok_16 mok_19 w36_mok_22 mok_23 u31.2 mok_27 mok_29 w36_mok_33 mok_34) → va_S A s.heap H locs → lv_has ls 3 [(2, .int v36_2), (0, .ref mo), (1, .int a1)] → W p l e ({ frames := 2, cells := 0, slots := 0, locals := 45 } : Room) s m args below meth c H locs 0 0 Q (F0 m 36 ls []) := by
    intro u31 n36
    induction n36 with
    | zero => intro v36_2 w36_mok_22 w36_mok_33 he; exact absurd he hne
    | succ n36 ih36 =>
      intro v36_2 w36_mok_22 w36_mok_33 he H locs ls hP hD hS hl
      replace he := he.trans (fX7_bells_L36.eq_2 _ _ _ _ _ _ _ _ _ _ _ _ _)
      refine lv_iload_n hx hb dX7_bells_36 rfl (lv_at hl 0 rfl) ?_
      refine lv_iload_n hx hb dX7_bells_37 rfl (lv_at hl 2 rfl) ?_
      refine lv_icmp_ge (tgt := 55) hx hb dX7_bells_38 (by decide) (fun c5 => ?_) (fun c5 => ?_)
      · replace he := he.trans (if_pos c5)
        exact R36_0 u31 v36_2 w36_mok_22 w36_mok_33 he _ _ _ hP hD hS (lv_sub hl [1] rfl)
      · replace he := he.trans (if_neg c5)
        refine lv_aload_n hx hb dX7_bells_41 rfl (lv_at hl 1 rfl) ?_
        refine lv_aload_n hx hb dX7_bells_42 rfl (lv_at hl 1 rfl) ?_
        refine va_get (D := D) (ci := 7) (v := .ref (mor 22)) (C := RX7) (T := TX7) (N := 35) hx hb hts hi_X7_bells_7 hown hK hP 0 wM_0 rfl 22 (by decide) (hts (.fieldLink RX7 40 "BlindLanternsModel" "now" "[I") (List.mem_of_getElem? (i := 1) rfl)) (fun _ h9 => h9) xMf_22 dX7_bells_43 ?_
        have n6_ : fX7_ring_now F moi_13 moi_17 moi_18 moi_30 moi_31 mok_19 w36_mok_22 w36_mok_33 ≠ none := fun z => hne (he.trans (xbd_none z))
        refine xcvW (va_runV (As := [.ref (mor 22)]) (rest := []) ⟨hx, hb, hml, hown, hts⟩ (c_X7_ring_now l D cI cP H.size mo mor moi_0 moi_2 moi_4 moi_8 moi_9 moi_11 moi_12 moi_13 moi_17 moi_18 moi_20 moi_21 u31.1 moi_26 moi_28 moi_30 moi_31 moi_32 mok_1 mok_3 mok_5 mok_6 mok_7 mok_10 mok_14 mok_15 mok_16 mok_19 w36_mok_22 mok_23 u31.2 mok_27 mok_29 w36_mok_33 mok_34 F  n6_) (cwV 1 hts gX7_bells_X7_ring rfl rfl rfl (by decide +kernel) ⟨Nat.le_of_ble_eq_true rfl, Nat.le_of_ble_eq_true rfl⟩) (xPVW hN hK hP hD (ci := 7) (j := 0) rfl wM_0) rfl rfl hl.1 rfl (lv_room (Nat.le_of_ble_eq_true rfl)) dX7_bells_46 ⟨Nat.le_of_ble_eq_true rfl, Nat.le_of_ble_eq_true rfl⟩) hD hS hA (fun u46 H locs hw hP hD hS => ?_)
        have hP : va_P D vwCl (wM cI mo mor moi_0 moi_2 moi_4 moi_8 moi_9 moi_11 moi_12 moi_13 moi_17 moi_18 moi_20 moi_21 u31.1 moi_26 moi_28 moi_30 moi_31 moi_32 mok_1 mok_3 mok_5 mok_6 mok_7 mok_10 mok_14 mok_15 mok_16 mok_19 u46.1 mok_23 u31.2 mok_27 mok_29 u46.2 mok_34) H := hP
        have hD : va_D A (wM cI mo mor moi_0 moi_2 moi_4 moi_8 moi_9 moi_11 moi_12 moi_13 moi_17 moi_18 moi_20 moi_21 u31.1 moi_26 moi_28 moi_30 moi_31 moi_32 mok_1 mok_3 mok_5 mok_6 mok_7 mok_10 mok_14 mok_15 mok_16 mok_19 u46.1 mok_23 u31.2 mok_27 mok_29 u46.2 mok_34) := hD
        replace he := he.trans (xbd_some hw)
        refine lv_iinc (v := (v36_2 + 1)) (lv' := [(2, .int (v36_2 + 1)), (0, .ref mo), (1, .int a1)]) hx hb dX7_bells_49 hl (k := 0) rfl rfl (by decide) rfl (fun ls hl => ?_)
        refine lv_goto (tgt := 36) hx hb dX7_bells_52 (by decide) ?_
        exact ih36 (v36_2 + 1) u46.1 u46.2 he _ _ _ hP hD hS (lv_sub hl [0, 1, 2] rfl)
  refine lv_iload_n hx hb dX7_bells_0 rfl (lv_at hl 1 rfl) ?_
  refine lv_iconst (v := 1) hx hb dX7_bells_1 (by decide) ?_
  refine lv_bipush (v := 99) hx hb dX7_bells_2 (by decide) ?_
  have n1_ : fX7_in a1 (1 : Int32) (99 : Int32) ≠ none := fun z => hne (he.trans (xbd_none z))
  refine xci0 (va_runS (As := [.int a1, .int (1 : Int32), .int (99 : Int32)]) (rest := []) ⟨hx, hb, hml, hown, hts⟩ (c_X7_in l D cI cP s.heap.size  a1 (1 : Int32) (99 : Int32) n1_) (va_cwS 3 hts gX7_bells_X7_in rfl rfl rfl (by decide +kernel) ⟨Nat.le_of_ble_eq_true rfl, Nat.le_of_ble_eq_true rfl⟩) (xPS0 hN hK) rfl rfl hl.1 rfl (lv_room (Nat.le_of_ble_eq_true rfl)) dX7_bells_4 ⟨Nat.le_of_ble_eq_true rfl, Nat.le_of_ble_eq_true rfl⟩) hP hD hS hA (fun r4 u4 H locs hw hP hD hS => ?_)
  replace he := he.trans (xbd_some hw)
  refine lv_if_ne (tgt := 12) hx hb dX7_bells_7 (by decide) (fun c2 => ?_) (fun c2 => ?_)
  · replace he := he.trans (if_neg c2)
    refine lv_aload_n hx hb dX7_bells_12 rfl (lv_at hl 0 rfl) ?_
    refine va_get (D := D) (ci := 7) (v := .ref (mor 22)) (C := RX7) (T := TX7) (N := 35) hx hb hts hi_X7_bells_7 hown hK hP 0 wM_0 rfl 22 (by decide) (hts (.fieldLink RX7 40 "BlindLanternsModel" "now" "[I") (List.mem_of_getElem? (i := 1) rfl)) (fun _ h9 => h9) xMf_22 dX7_bells_13 ?_
    refine lv_bipush (v := 18) hx hb dX7_bells_16 (by decide) ?_
    refine va_iald hx hb hK hP 11 0 wM_a22 rfl (x_in rfl) dX7_bells_18 ?_
    refine lv_iload_n hx hb dX7_bells_19 rfl (lv_at hl 1 rfl) ?_
    refine lv_iadd hx hb dX7_bells_20 ?_
    refine lv_sipush (v := 9999) hx hb dX7_bells_21 (by decide) ?_
    refine lv_icmp_le (tgt := 30) hx hb dX7_bells_24 (by decide) (fun c3 => ?_) (fun c3 => ?_)
    · replace he := he.trans (if_pos c3)
      refine lv_aload_n hx hb dX7_bells_30 rfl (lv_at hl 0 rfl) ?_
      have n4_ : fX7_note F moi_24 mok_22 mok_25 ≠ none := fun z => hne (he.trans (xbd_none z))
      refine xcvW (va_runV (As := []) (rest := []) ⟨hx, hb, hml, hown, hts⟩ (c_X7_note l D cI cP H.size mo mor moi_0 moi_2 moi_4 moi_8 moi_9 moi_11 moi_12 moi_13 moi_17 moi_18 moi_20 moi_21 moi_24 moi_26 moi_28 moi_30 moi_31 moi_32 mok_1 mok_3 mok_5 mok_6 mok_7 mok_10 mok_14 mok_15 mok_16 mok_19 mok_22 mok_23 mok_25 mok_27 mok_29 mok_33 mok_34 F  n4_) (cwV 0 hts gX7_bells_X7_note rfl rfl rfl (by decide +kernel) ⟨Nat.le_of_ble_eq_true rfl, Nat.le_of_ble_eq_true rfl⟩) (xPVW hN hK hP hD (ci := 7) (j := 0) rfl wM_0) rfl rfl hl.1 rfl (lv_room (Nat.le_of_ble_eq_true rfl)) dX7_bells_31 ⟨Nat.le_of_ble_eq_true rfl, Nat.le_of_ble_eq_true rfl⟩) hD hS hA (fun u31 H locs hw hP hD hS => ?_)
      have hP : va_P D vwCl (wM cI mo mor moi_0 moi_2 moi_4 moi_8 moi_9 moi_11 moi_12 moi_13 moi_17 moi_18 moi_20 moi_21 u31.1 moi_26 moi_28 moi_30 moi_31 moi_32 mok_1 mok_3 mok_5 mok_6 mok_7 mok_10 mok_14 mok_15 mok_16 mok_19 mok_22 mok_23 u31.2 mok_27 mok_29 mok_33 mok_34) H := hP
      have hD : va_D A (wM cI mo mor moi_0 moi_2 moi_4 moi_8 moi_9 moi_11 moi_12 moi_13 moi_17 moi_18 moi_20 moi_21 u31.1 moi_26 moi_28 moi_30 moi_31 moi_32 mok_1 mok_3 mok_5 mok_6 mok_7 mok_10 mok_14 mok_15 mok_16 mok_19 mok_22 mok_23 u31.2 mok_27 mok_29 mok_33 mok_34) := hD
      replace he := he.trans (xbd_some hw)
      refine lv_iconst (v := 0) hx hb dX7_bells_34 (by decide) ?_
      refine lv_istore_n (lv' := [(2, .int (0 : Int32)), (0, .ref mo), (1, .int a1)]) hx hb dX7_bells_35 rfl hl (by decide) rfl (fun ls hl => ?_)
      exact L36_7 u31 F (0 : Int32) mok_22 mok_33 he _ _ _ hP hD hS (lv_sub hl [0, 1, 2] rfl)
    · replace he := he.trans (if_neg c3)
      refine lv_bipush (v := -2) hx hb dX7_bells_27 (by decide) ?_
      exact hret (-2 : Int32) (moi_24, mok_22, mok_25, mok_33) _ _ _ _ dX7_bells_29 he hP hD hS
  · replace he := he.trans (if_pos c2)
    refine lv_iconst (v := -1) hx hb dX7_bells_10 (by decide) ?_
    exact hret (-1 : Int32) (moi_24, mok_22, mok_25, mok_33) _ _ _ _ dX7_bells_11 he hP hD hS

def fX7_undo (F : Nat) (moi_24 : Int32) (mok_22 : Nat → Int32) (mok_25 : Nat → Int32) : Option (Int32 × Int32 × (Nat → Int32)) :=
  if moi_24 = 0 then (some ((-2 : Int32), (moi_24, mok_22))) else (xbd (fX7_copy_back_now F mok_22 mok_25 ((19 : Int32) * (moi_24 - (1 : Int32))) (0 : Int32)) (fun (u36 : (Nat → Int32)) => some ((moi_24 - (1 : Int32)), ((moi_24 - (1 : Int32)), u36))))
theorem hi_X7_undo_7 : ∀ w ∈ wsX70, w ∈ wsX7_undo := fun _ h => (List.mem_cons_of_mem _ (List.mem_append_right _ h))
set_option maxHeartbeats 4000000 in
set_option maxRecDepth 100000 in
theorem c_X7_undo (l : Launch) (D : va_G) (cI cP : ClassId) (sz : Nat) (mo : Nat) (mor : Nat → Nat) (moi_0 : Int32) (moi_2 : Int32) (moi_4 : Int32) (moi_8 : Int32) (moi_9 : Int32) (moi_11 : Int32) (moi_12 : Int32) (moi_13 : Int32) (moi_17 : Int32) (moi_18 : Int32) (moi_20 : Int32) (moi_21 : Int32) (moi_24 : Int32) (moi_26 : Int32) (moi_28 : Int32) (moi_30 : Int32) (moi_31 : Int32) (moi_32 : Int32) (mok_1 : Nat → Int32) (mok_3 : Nat → Int32) (mok_5 : Nat → Int32) (mok_6 : Nat → Int32) (mok_7 : Nat → Int32) (mok_10 : Nat → Int32) (mok_14 : Nat → Int32) (mok_15 : Nat → Int32) (mok_16 : Nat → Int32) (mok_19 : Nat → Int32) (mok_22 : Nat → Int32) (mok_23 : Nat → Int32) (mok_25 : Nat → Int32) (mok_27 : Nat → Int32) (mok_29 : Nat → Int32) (mok_33 : Nat → Int32) (mok_34 : Nat → Int32) (F : Nat) (hne : fX7_undo F moi_24 mok_22 mok_25 ≠ none) : xMi l yX7_undo wsX7_undo ({ frames := 1, cells := 0, slots := 0, locals := 24 } : Room) D (xT cI cP) [.ref mo] (wM cI mo mor moi_0 moi_2 moi_4 moi_8 moi_9 moi_11 moi_12 moi_13 moi_17 moi_18 moi_20 moi_21 moi_24 moi_26 moi_28 moi_30 moi_31 moi_32 mok_1 mok_3 mok_5 mok_6 mok_7 mok_10 mok_14 mok_15 mok_16 mok_19 mok_22 mok_23 mok_25 mok_27 mok_29 mok_33 mok_34) sz (fun r (u : (Int32 × (Nat → Int32))) => fX7_undo F moi_24 mok_22 mok_25 = some (r, u)) (fun u => wM cI mo mor moi_0 moi_2 moi_4 moi_8 moi_9 moi_11 moi_12 moi_13 moi_17 moi_18 moi_20 moi_21 u.1 moi_26 moi_28 moi_30 moi_31 moi_32 mok_1 mok_3 mok_5 mok_6 mok_7 mok_10 mok_14 mok_15 mok_16 mok_19 u.2 mok_23 mok_25 mok_27 mok_29 mok_33 mok_34) 0 0 := by
  refine xMi_of (cc := cX7_undo) (maxL := 1) (by decide +kernel) rfl (Nat.le_of_ble_eq_true rfl) ?_
  intro p e s m args below meth c A ls hx hb hml hown hts hname hN hK hA hP hD hS hl Q hret
  have he := fX7_undo.eq_1 F moi_24 mok_22 mok_25
  have hl : lv_has ls 1 [(0, .ref mo)] := hl
  refine lv_aload_n hx hb dX7_undo_0 rfl (lv_at hl 0 rfl) ?_
  refine va_get (D := D) (ci := 7) (v := .int moi_24) (C := RX7) (T := TX7) (N := 35) hx hb hts hi_X7_undo_7 hown hK hP 0 wM_0 rfl 24 (by decide) (hts (.fieldLink RX7 135 "BlindLanternsModel" "backs" "I") (List.mem_of_getElem? (i := 1) rfl)) (fun _ h9 => h9) xMf_24 dX7_undo_1 ?_
  refine lv_if_ne (tgt := 10) hx hb dX7_undo_4 (by decide) (fun c1 => ?_) (fun c1 => ?_)
  · replace he := he.trans (if_neg c1)
    refine lv_aload_n hx hb dX7_undo_10 rfl (lv_at hl 0 rfl) ?_
    refine lv_dup hx hb dX7_undo_11 rfl ?_
    refine va_get (D := D) (ci := 7) (v := .int moi_24) (C := RX7) (T := TX7) (N := 35) hx hb hts hi_X7_undo_7 hown hK hP 0 wM_0 rfl 24 (by decide) (hts (.fieldLink RX7 135 "BlindLanternsModel" "backs" "I") (List.mem_of_getElem? (i := 1) rfl)) (fun _ h9 => h9) xMf_24 dX7_undo_12 ?_
    refine lv_iconst (v := 1) hx hb dX7_undo_15 (by decide) ?_
    refine lv_isub hx hb dX7_undo_16 ?_
    refine va_put (D := D) (ci := 7) (v := .int (moi_24 - (1 : Int32))) (ty := .int) (C := RX7) (T := TX7) (N := 35) hx hb hts hi_X7_undo_7 tyX7 tyX7_ok nmX7 hown hK hP hD hS 0 wM_0 rfl 24 (by decide) (hts (.fieldLink RX7 135 "BlindLanternsModel" "backs" "I") (List.mem_of_getElem? (i := 1) rfl)) (fun _ h9 => h9) rfl (by decide +kernel) rfl rfl (Nat.le_of_ble_eq_true rfl) dX7_undo_17 (fun H locs hP hD hS => ?_)
    rw [wM_p24] at hP hD
    refine lv_aload_n hx hb dX7_undo_20 rfl (lv_at hl 0 rfl) ?_
    refine va_get (D := D) (ci := 7) (v := .ref (mor 25)) (C := RX7) (T := TX7) (N := 35) hx hb hts hi_X7_undo_7 hown hK hP 0 wM_0 rfl 25 (by decide) (hts (.fieldLink RX7 46 "BlindLanternsModel" "back" "[I") (List.mem_of_getElem? (i := 2) rfl)) (fun _ h9 => h9) xMf_25 dX7_undo_21 ?_
    refine lv_bipush (v := 19) hx hb dX7_undo_24 (by decide) ?_
    refine lv_aload_n hx hb dX7_undo_26 rfl (lv_at hl 0 rfl) ?_
    refine va_get (D := D) (ci := 7) (v := .int (moi_24 - (1 : Int32))) (C := RX7) (T := TX7) (N := 35) hx hb hts hi_X7_undo_7 hown hK hP 0 wM_0 rfl 24 (by decide) (hts (.fieldLink RX7 135 "BlindLanternsModel" "backs" "I") (List.mem_of_getElem? (i := 1) rfl)) (fun _ h9 => h9) xMf_24 dX7_undo_27 ?_
    refine lv_imul hx hb dX7_undo_30 ?_
    refine lv_aload_n hx hb dX7_undo_31 rfl (lv_at hl 0 rfl) ?_
    refine va_get (D := D) (ci := 7) (v := .ref (mor 22)) (C := RX7) (T := TX7) (N := 35) hx hb hts hi_X7_undo_7 hown hK hP 0 wM_0 rfl 22 (by decide) (hts (.fieldLink RX7 40 "BlindLanternsModel" "now" "[I") (List.mem_of_getElem? (i := 3) rfl)) (fun _ h9 => h9) xMf_22 dX7_undo_32 ?_
    refine lv_iconst (v := 0) hx hb dX7_undo_35 (by decide) ?_
    have n2_ : fX7_copy_back_now F mok_22 mok_25 ((19 : Int32) * (moi_24 - (1 : Int32))) (0 : Int32) ≠ none := fun z => hne (he.trans (xbd_none z))
    refine xcvW (va_runS (As := [.ref (mor 25), .int ((19 : Int32) * (moi_24 - (1 : Int32))), .ref (mor 22), .int (0 : Int32)]) (rest := []) ⟨hx, hb, hml, hown, hts⟩ (c_X7_copy_back_now l D cI cP H.size mo mor moi_0 moi_2 moi_4 moi_8 moi_9 moi_11 moi_12 moi_13 moi_17 moi_18 moi_20 moi_21 (moi_24 - (1 : Int32)) moi_26 moi_28 moi_30 moi_31 moi_32 mok_1 mok_3 mok_5 mok_6 mok_7 mok_10 mok_14 mok_15 mok_16 mok_19 mok_22 mok_23 mok_25 mok_27 mok_29 mok_33 mok_34 F ((19 : Int32) * (moi_24 - (1 : Int32))) (0 : Int32) n2_) (va_cwS 4 hts gX7_undo_X7_copy rfl rfl rfl (by decide +kernel) ⟨Nat.le_of_ble_eq_true rfl, Nat.le_of_ble_eq_true rfl⟩) (xPSW hN hK hP hD) rfl rfl hl.1 rfl (lv_room (Nat.le_of_ble_eq_true rfl)) dX7_undo_36 ⟨Nat.le_of_ble_eq_true rfl, Nat.le_of_ble_eq_true rfl⟩) hD hS hA (fun u36 H locs hw hP hD hS => ?_)
    have hP : va_P D vwCl (wM cI mo mor moi_0 moi_2 moi_4 moi_8 moi_9 moi_11 moi_12 moi_13 moi_17 moi_18 moi_20 moi_21 (moi_24 - (1 : Int32)) moi_26 moi_28 moi_30 moi_31 moi_32 mok_1 mok_3 mok_5 mok_6 mok_7 mok_10 mok_14 mok_15 mok_16 mok_19 u36 mok_23 mok_25 mok_27 mok_29 mok_33 mok_34) H := hP
    have hD : va_D A (wM cI mo mor moi_0 moi_2 moi_4 moi_8 moi_9 moi_11 moi_12 moi_13 moi_17 moi_18 moi_20 moi_21 (moi_24 - (1 : Int32)) moi_26 moi_28 moi_30 moi_31 moi_32 mok_1 mok_3 mok_5 mok_6 mok_7 mok_10 mok_14 mok_15 mok_16 mok_19 u36 mok_23 mok_25 mok_27 mok_29 mok_33 mok_34) := hD
    replace he := he.trans (xbd_some hw)
    refine lv_aload_n hx hb dX7_undo_39 rfl (lv_at hl 0 rfl) ?_
    refine va_get (D := D) (ci := 7) (v := .int (moi_24 - (1 : Int32))) (C := RX7) (T := TX7) (N := 35) hx hb hts hi_X7_undo_7 hown hK hP 0 wM_0 rfl 24 (by decide) (hts (.fieldLink RX7 135 "BlindLanternsModel" "backs" "I") (List.mem_of_getElem? (i := 1) rfl)) (fun _ h9 => h9) xMf_24 dX7_undo_40 ?_
    exact hret (moi_24 - (1 : Int32)) ((moi_24 - (1 : Int32)), u36) _ _ _ _ dX7_undo_43 he hP hD hS
  · replace he := he.trans (if_pos c1)
    refine lv_bipush (v := -2) hx hb dX7_undo_7 (by decide) ?_
    exact hret (-2 : Int32) (moi_24, mok_22) _ _ _ _ dX7_undo_9 he hP hD hS

def fX7_warm (F : Nat) (moi_13 : Int32) (moi_17 : Int32) (moi_18 : Int32) (moi_20 : Int32) (moi_21 : Int32) (moi_30 : Int32) (moi_31 : Int32) (moi_32 : Int32) (mok_14 : Nat → Int32) (mok_19 : Nat → Int32) (mok_22 : Nat → Int32) (mok_23 : Nat → Int32) (mok_33 : Nat → Int32) (a1 : Int32) (a2 : Int32) : Option (Int32 × (Nat → Int32) × (Nat → Int32)) :=
  xbd (fX7_in a1 (0 : Int32) (60 : Int32)) (fun (r4 : Int32) => if r4 = 0 then (some ((-1 : Int32), (mok_23, mok_33))) else (xbd (fX7_isMan moi_13 a2) (fun (r12 : Int32) => if r12 = 0 then (some ((-1 : Int32), (mok_23, mok_33))) else (xbd (fX7_triedIn F moi_13 moi_17 moi_18 moi_30 moi_31 mok_19 mok_22 mok_23 mok_33 a1) (fun (u22 : (Nat → Int32) × (Nat → Int32)) => xbd (fX7_isWarm_tried moi_20 moi_21 moi_32 mok_14 u22.1 a2) (fun (r31 : Int32) => xbd (fX7_bit r31) (fun (r34 : Int32) => some (r34, (u22.1, u22.2)))))))))
theorem hi_X7_warm_7 : ∀ w ∈ wsX70, w ∈ wsX7_warm := fun _ h => (List.mem_cons_of_mem _ (List.mem_append_right _ h))
set_option maxHeartbeats 4000000 in
set_option maxRecDepth 100000 in
theorem c_X7_warm (l : Launch) (D : va_G) (cI cP : ClassId) (sz : Nat) (mo : Nat) (mor : Nat → Nat) (moi_0 : Int32) (moi_2 : Int32) (moi_4 : Int32) (moi_8 : Int32) (moi_9 : Int32) (moi_11 : Int32) (moi_12 : Int32) (moi_13 : Int32) (moi_17 : Int32) (moi_18 : Int32) (moi_20 : Int32) (moi_21 : Int32) (moi_24 : Int32) (moi_26 : Int32) (moi_28 : Int32) (moi_30 : Int32) (moi_31 : Int32) (moi_32 : Int32) (mok_1 : Nat → Int32) (mok_3 : Nat → Int32) (mok_5 : Nat → Int32) (mok_6 : Nat → Int32) (mok_7 : Nat → Int32) (mok_10 : Nat → Int32) (mok_14 : Nat → Int32) (mok_15 : Nat → Int32) (mok_16 : Nat → Int32) (mok_19 : Nat → Int32) (mok_22 : Nat → Int32) (mok_23 : Nat → Int32) (mok_25 : Nat → Int32) (mok_27 : Nat → Int32) (mok_29 : Nat → Int32) (mok_33 : Nat → Int32) (mok_34 : Nat → Int32) (F : Nat) (a1 : Int32) (a2 : Int32) (hne : fX7_warm F moi_13 moi_17 moi_18 moi_20 moi_21 moi_30 moi_31 moi_32 mok_14 mok_19 mok_22 mok_23 mok_33 a1 a2 ≠ none) : xMi l yX7_warm wsX7_warm ({ frames := 2, cells := 0, slots := 0, locals := 46 } : Room) D (xT cI cP) [.ref mo, .int a1, .int a2] (wM cI mo mor moi_0 moi_2 moi_4 moi_8 moi_9 moi_11 moi_12 moi_13 moi_17 moi_18 moi_20 moi_21 moi_24 moi_26 moi_28 moi_30 moi_31 moi_32 mok_1 mok_3 mok_5 mok_6 mok_7 mok_10 mok_14 mok_15 mok_16 mok_19 mok_22 mok_23 mok_25 mok_27 mok_29 mok_33 mok_34) sz (fun r (u : ((Nat → Int32) × (Nat → Int32))) => fX7_warm F moi_13 moi_17 moi_18 moi_20 moi_21 moi_30 moi_31 moi_32 mok_14 mok_19 mok_22 mok_23 mok_33 a1 a2 = some (r, u)) (fun u => wM cI mo mor moi_0 moi_2 moi_4 moi_8 moi_9 moi_11 moi_12 moi_13 moi_17 moi_18 moi_20 moi_21 moi_24 moi_26 moi_28 moi_30 moi_31 moi_32 mok_1 mok_3 mok_5 mok_6 mok_7 mok_10 mok_14 mok_15 mok_16 mok_19 mok_22 u.1 mok_25 mok_27 mok_29 u.2 mok_34) 0 0 := by
  refine xMi_of (cc := cX7_warm) (maxL := 3) (by decide +kernel) rfl (Nat.le_of_ble_eq_true rfl) ?_
  intro p e s m args below meth c A ls hx hb hml hown hts hname hN hK hA hP hD hS hl Q hret
  have he := fX7_warm.eq_1 F moi_13 moi_17 moi_18 moi_20 moi_21 moi_30 moi_31 moi_32 mok_14 mok_19 mok_22 mok_23 mok_33 a1 a2
  have hl : lv_has ls 3 [(0, .ref mo), (1, .int a1), (2, .int a2)] := hl
  refine lv_iload_n hx hb dX7_warm_0 rfl (lv_at hl 1 rfl) ?_
  refine lv_iconst (v := 0) hx hb dX7_warm_1 (by decide) ?_
  refine lv_bipush (v := 60) hx hb dX7_warm_2 (by decide) ?_
  have n1_ : fX7_in a1 (0 : Int32) (60 : Int32) ≠ none := fun z => hne (he.trans (xbd_none z))
  refine xci0 (va_runS (As := [.int a1, .int (0 : Int32), .int (60 : Int32)]) (rest := []) ⟨hx, hb, hml, hown, hts⟩ (c_X7_in l D cI cP s.heap.size  a1 (0 : Int32) (60 : Int32) n1_) (va_cwS 3 hts gX7_warm_X7_in rfl rfl rfl (by decide +kernel) ⟨Nat.le_of_ble_eq_true rfl, Nat.le_of_ble_eq_true rfl⟩) (xPS0 hN hK) rfl rfl hl.1 rfl (lv_room (Nat.le_of_ble_eq_true rfl)) dX7_warm_4 ⟨Nat.le_of_ble_eq_true rfl, Nat.le_of_ble_eq_true rfl⟩) hP hD hS hA (fun r4 u4 H locs hw hP hD hS => ?_)
  replace he := he.trans (xbd_some hw)
  refine lv_if_eq (tgt := 18) hx hb dX7_warm_7 (by decide) (fun c2 => ?_) (fun c2 => ?_)
  · replace he := he.trans (if_pos c2)
    refine lv_iconst (v := -1) hx hb dX7_warm_18 (by decide) ?_
    exact hret (-1 : Int32) (mok_23, mok_33) _ _ _ _ dX7_warm_19 he hP hD hS
  · replace he := he.trans (if_neg c2)
    refine lv_aload_n hx hb dX7_warm_10 rfl (lv_at hl 0 rfl) ?_
    refine lv_iload_n hx hb dX7_warm_11 rfl (lv_at hl 2 rfl) ?_
    have n3_ : fX7_isMan moi_13 a2 ≠ none := fun z => hne (he.trans (xbd_none z))
    refine xciW (va_runV (As := [.int a2]) (rest := []) ⟨hx, hb, hml, hown, hts⟩ (c_X7_isMan l D cI cP H.size mo mor moi_0 moi_2 moi_4 moi_8 moi_9 moi_11 moi_12 moi_13 moi_17 moi_18 moi_20 moi_21 moi_24 moi_26 moi_28 moi_30 moi_31 moi_32 mok_1 mok_3 mok_5 mok_6 mok_7 mok_10 mok_14 mok_15 mok_16 mok_19 mok_22 mok_23 mok_25 mok_27 mok_29 mok_33 mok_34 a2 n3_) (cwV 1 hts gX7_warm_X7_isMan rfl rfl rfl (by decide +kernel) ⟨Nat.le_of_ble_eq_true rfl, Nat.le_of_ble_eq_true rfl⟩) (xPVW hN hK hP hD (ci := 7) (j := 0) rfl wM_0) rfl rfl hl.1 rfl (lv_room (Nat.le_of_ble_eq_true rfl)) dX7_warm_12 ⟨Nat.le_of_ble_eq_true rfl, Nat.le_of_ble_eq_true rfl⟩) hD hS hA (fun r12 u12 H locs hw hP hD hS => ?_)
    have hP : va_P D vwCl (wM cI mo mor moi_0 moi_2 moi_4 moi_8 moi_9 moi_11 moi_12 moi_13 moi_17 moi_18 moi_20 moi_21 moi_24 moi_26 moi_28 moi_30 moi_31 moi_32 mok_1 mok_3 mok_5 mok_6 mok_7 mok_10 mok_14 mok_15 mok_16 mok_19 mok_22 mok_23 mok_25 mok_27 mok_29 mok_33 mok_34) H := hP
    have hD : va_D A (wM cI mo mor moi_0 moi_2 moi_4 moi_8 moi_9 moi_11 moi_12 moi_13 moi_17 moi_18 moi_20 moi_21 moi_24 moi_26 moi_28 moi_30 moi_31 moi_32 mok_1 mok_3 mok_5 mok_6 mok_7 mok_10 mok_14 mok_15 mok_16 mok_19 mok_22 mok_23 mok_25 mok_27 mok_29 mok_33 mok_34) := hD
    replace he := he.trans (xbd_some hw)
    refine lv_if_ne (tgt := 20) hx hb dX7_warm_15 (by decide) (fun c4 => ?_) (fun c4 => ?_)
    · replace he := he.trans (if_neg c4)
      refine lv_aload_n hx hb dX7_warm_20 rfl (lv_at hl 0 rfl) ?_
      refine lv_iload_n hx hb dX7_warm_21 rfl (lv_at hl 1 rfl) ?_
      have n5_ : fX7_triedIn F moi_13 moi_17 moi_18 moi_30 moi_31 mok_19 mok_22 mok_23 mok_33 a1 ≠ none := fun z => hne (he.trans (xbd_none z))
      refine xcvW (va_runV (As := [.int a1]) (rest := []) ⟨hx, hb, hml, hown, hts⟩ (c_X7_triedIn l D cI cP H.size mo mor moi_0 moi_2 moi_4 moi_8 moi_9 moi_11 moi_12 moi_13 moi_17 moi_18 moi_20 moi_21 moi_24 moi_26 moi_28 moi_30 moi_31 moi_32 mok_1 mok_3 mok_5 mok_6 mok_7 mok_10 mok_14 mok_15 mok_16 mok_19 mok_22 mok_23 mok_25 mok_27 mok_29 mok_33 mok_34 F a1 n5_) (cwV 1 hts gX7_warm_X7_triedIn rfl rfl rfl (by decide +kernel) ⟨Nat.le_of_ble_eq_true rfl, Nat.le_of_ble_eq_true rfl⟩) (xPVW hN hK hP hD (ci := 7) (j := 0) rfl wM_0) rfl rfl hl.1 rfl (lv_room (Nat.le_of_ble_eq_true rfl)) dX7_warm_22 ⟨Nat.le_of_ble_eq_true rfl, Nat.le_of_ble_eq_true rfl⟩) hD hS hA (fun u22 H locs hw hP hD hS => ?_)
      have hP : va_P D vwCl (wM cI mo mor moi_0 moi_2 moi_4 moi_8 moi_9 moi_11 moi_12 moi_13 moi_17 moi_18 moi_20 moi_21 moi_24 moi_26 moi_28 moi_30 moi_31 moi_32 mok_1 mok_3 mok_5 mok_6 mok_7 mok_10 mok_14 mok_15 mok_16 mok_19 mok_22 u22.1 mok_25 mok_27 mok_29 u22.2 mok_34) H := hP
      have hD : va_D A (wM cI mo mor moi_0 moi_2 moi_4 moi_8 moi_9 moi_11 moi_12 moi_13 moi_17 moi_18 moi_20 moi_21 moi_24 moi_26 moi_28 moi_30 moi_31 moi_32 mok_1 mok_3 mok_5 mok_6 mok_7 mok_10 mok_14 mok_15 mok_16 mok_19 mok_22 u22.1 mok_25 mok_27 mok_29 u22.2 mok_34) := hD
      replace he := he.trans (xbd_some hw)
      refine lv_aload_n hx hb dX7_warm_25 rfl (lv_at hl 0 rfl) ?_
      refine lv_aload_n hx hb dX7_warm_26 rfl (lv_at hl 0 rfl) ?_
      refine va_get (D := D) (ci := 7) (v := .ref (mor 23)) (C := RX7) (T := TX7) (N := 35) hx hb hts hi_X7_warm_7 hown hK hP 0 wM_0 rfl 23 (by decide) (hts (.fieldLink RX7 43 "BlindLanternsModel" "tried" "[I") (List.mem_of_getElem? (i := 1) rfl)) (fun _ h9 => h9) xMf_23 dX7_warm_27 ?_
      refine lv_iload_n hx hb dX7_warm_30 rfl (lv_at hl 2 rfl) ?_
      have n6_ : fX7_isWarm_tried moi_20 moi_21 moi_32 mok_14 u22.1 a2 ≠ none := fun z => hne (he.trans (xbd_none z))
      refine xciW (va_runV (As := [.ref (mor 23), .int a2]) (rest := []) ⟨hx, hb, hml, hown, hts⟩ (c_X7_isWarm_tried l D cI cP H.size mo mor moi_0 moi_2 moi_4 moi_8 moi_9 moi_11 moi_12 moi_13 moi_17 moi_18 moi_20 moi_21 moi_24 moi_26 moi_28 moi_30 moi_31 moi_32 mok_1 mok_3 mok_5 mok_6 mok_7 mok_10 mok_14 mok_15 mok_16 mok_19 mok_22 u22.1 mok_25 mok_27 mok_29 u22.2 mok_34 a2 n6_) (cwV 2 hts gX7_warm_X7_isWarm rfl rfl rfl (by decide +kernel) ⟨Nat.le_of_ble_eq_true rfl, Nat.le_of_ble_eq_true rfl⟩) (xPVW hN hK hP hD (ci := 7) (j := 0) rfl wM_0) rfl rfl hl.1 rfl (lv_room (Nat.le_of_ble_eq_true rfl)) dX7_warm_31 ⟨Nat.le_of_ble_eq_true rfl, Nat.le_of_ble_eq_true rfl⟩) hD hS hA (fun r31 u31 H locs hw hP hD hS => ?_)
      have hP : va_P D vwCl (wM cI mo mor moi_0 moi_2 moi_4 moi_8 moi_9 moi_11 moi_12 moi_13 moi_17 moi_18 moi_20 moi_21 moi_24 moi_26 moi_28 moi_30 moi_31 moi_32 mok_1 mok_3 mok_5 mok_6 mok_7 mok_10 mok_14 mok_15 mok_16 mok_19 mok_22 u22.1 mok_25 mok_27 mok_29 u22.2 mok_34) H := hP
      have hD : va_D A (wM cI mo mor moi_0 moi_2 moi_4 moi_8 moi_9 moi_11 moi_12 moi_13 moi_17 moi_18 moi_20 moi_21 moi_24 moi_26 moi_28 moi_30 moi_31 moi_32 mok_1 mok_3 mok_5 mok_6 mok_7 mok_10 mok_14 mok_15 mok_16 mok_19 mok_22 u22.1 mok_25 mok_27 mok_29 u22.2 mok_34) := hD
      replace he := he.trans (xbd_some hw)
      have n7_ : fX7_bit r31 ≠ none := fun z => hne (he.trans (xbd_none z))
      refine xci0 (va_runS (As := [.int r31]) (rest := []) ⟨hx, hb, hml, hown, hts⟩ (c_X7_bit l D cI cP H.size  r31 n7_) (va_cwS 1 hts gX7_warm_X7_bit rfl rfl rfl (by decide +kernel) ⟨Nat.le_of_ble_eq_true rfl, Nat.le_of_ble_eq_true rfl⟩) (xPS0 hN hK) rfl rfl hl.1 rfl (lv_room (Nat.le_of_ble_eq_true rfl)) dX7_warm_34 ⟨Nat.le_of_ble_eq_true rfl, Nat.le_of_ble_eq_true rfl⟩) hP hD hS hA (fun r34 u34 H locs hw hP hD hS => ?_)
      replace he := he.trans (xbd_some hw)
      exact hret r34 (u22.1, u22.2) _ _ _ _ dX7_warm_37 he hP hD hS
    · replace he := he.trans (if_pos c4)
      refine lv_iconst (v := -1) hx hb dX7_warm_18 (by decide) ?_
      exact hret (-1 : Int32) (mok_23, mok_33) _ _ _ _ dX7_warm_19 he hP hD hS

def fX7_dark (F : Nat) (moi_13 : Int32) (moi_17 : Int32) (moi_18 : Int32) (moi_30 : Int32) (moi_31 : Int32) (mok_19 : Nat → Int32) (mok_22 : Nat → Int32) (mok_23 : Nat → Int32) (mok_33 : Nat → Int32) (a1 : Int32) : Option (Int32 × (Nat → Int32) × (Nat → Int32)) :=
  xbd (fX7_in a1 (0 : Int32) (60 : Int32)) (fun (r4 : Int32) => if r4 = 0 then (some ((-1 : Int32), (mok_23, mok_33))) else (xbd (fX7_triedIn F moi_13 moi_17 moi_18 moi_30 moi_31 mok_19 mok_22 mok_23 mok_33 a1) (fun (u14 : (Nat → Int32) × (Nat → Int32)) => xbd (fX7_darkIn_tried F moi_13 u14.1) (fun (r22 : Int32) => some (r22, (u14.1, u14.2))))))
theorem hi_X7_dark_7 : ∀ w ∈ wsX70, w ∈ wsX7_dark := fun _ h => (List.mem_cons_of_mem _ (List.mem_append_right _ h))
set_option maxHeartbeats 4000000 in
set_option maxRecDepth 100000 in
theorem c_X7_dark (l : Launch) (D : va_G) (cI cP : ClassId) (sz : Nat) (mo : Nat) (mor : Nat → Nat) (moi_0 : Int32) (moi_2 : Int32) (moi_4 : Int32) (moi_8 : Int32) (moi_9 : Int32) (moi_11 : Int32) (moi_12 : Int32) (moi_13 : Int32) (moi_17 : Int32) (moi_18 : Int32) (moi_20 : Int32) (moi_21 : Int32) (moi_24 : Int32) (moi_26 : Int32) (moi_28 : Int32) (moi_30 : Int32) (moi_31 : Int32) (moi_32 : Int32) (mok_1 : Nat → Int32) (mok_3 : Nat → Int32) (mok_5 : Nat → Int32) (mok_6 : Nat → Int32) (mok_7 : Nat → Int32) (mok_10 : Nat → Int32) (mok_14 : Nat → Int32) (mok_15 : Nat → Int32) (mok_16 : Nat → Int32) (mok_19 : Nat → Int32) (mok_22 : Nat → Int32) (mok_23 : Nat → Int32) (mok_25 : Nat → Int32) (mok_27 : Nat → Int32) (mok_29 : Nat → Int32) (mok_33 : Nat → Int32) (mok_34 : Nat → Int32) (F : Nat) (a1 : Int32) (hne : fX7_dark F moi_13 moi_17 moi_18 moi_30 moi_31 mok_19 mok_22 mok_23 mok_33 a1 ≠ none) : xMi l yX7_dark wsX7_dark ({ frames := 2, cells := 0, slots := 0, locals := 46 } : Room) D (xT cI cP) [.ref mo, .int a1] (wM cI mo mor moi_0 moi_2 moi_4 moi_8 moi_9 moi_11 moi_12 moi_13 moi_17 moi_18 moi_20 moi_21 moi_24 moi_26 moi_28 moi_30 moi_31 moi_32 mok_1 mok_3 mok_5 mok_6 mok_7 mok_10 mok_14 mok_15 mok_16 mok_19 mok_22 mok_23 mok_25 mok_27 mok_29 mok_33 mok_34) sz (fun r (u : ((Nat → Int32) × (Nat → Int32))) => fX7_dark F moi_13 moi_17 moi_18 moi_30 moi_31 mok_19 mok_22 mok_23 mok_33 a1 = some (r, u)) (fun u => wM cI mo mor moi_0 moi_2 moi_4 moi_8 moi_9 moi_11 moi_12 moi_13 moi_17 moi_18 moi_20 moi_21 moi_24 moi_26 moi_28 moi_30 moi_31 moi_32 mok_1 mok_3 mok_5 mok_6 mok_7 mok_10 mok_14 mok_15 mok_16 mok_19 mok_22 u.1 mok_25 mok_27 mok_29 u.2 mok_34) 0 0 := by
  refine xMi_of (cc := cX7_dark) (maxL := 2) (by decide +kernel) rfl (Nat.le_of_ble_eq_true rfl) ?_
  intro p e s m args below meth c A ls hx hb hml hown hts hname hN hK hA hP hD hS hl Q hret
  have he := fX7_dark.eq_1 F moi_13 moi_17 moi_18 moi_30 moi_31 mok_19 mok_22 mok_23 mok_33 a1
  have hl : lv_has ls 2 [(0, .ref mo), (1, .int a1)] := hl
  refine lv_iload_n hx hb dX7_dark_0 rfl (lv_at hl 1 rfl) ?_
  refine lv_iconst (v := 0) hx hb dX7_dark_1 (by decide) ?_
  refine lv_bipush (v := 60) hx hb dX7_dark_2 (by decide) ?_
  have n1_ : fX7_in a1 (0 : Int32) (60 : Int32) ≠ none := fun z => hne (he.trans (xbd_none z))
  refine xci0 (va_runS (As := [.int a1, .int (0 : Int32), .int (60 : Int32)]) (rest := []) ⟨hx, hb, hml, hown, hts⟩ (c_X7_in l D cI cP s.heap.size  a1 (0 : Int32) (60 : Int32) n1_) (va_cwS 3 hts gX7_dark_X7_in rfl rfl rfl (by decide +kernel) ⟨Nat.le_of_ble_eq_true rfl, Nat.le_of_ble_eq_true rfl⟩) (xPS0 hN hK) rfl rfl hl.1 rfl (lv_room (Nat.le_of_ble_eq_true rfl)) dX7_dark_4 ⟨Nat.le_of_ble_eq_true rfl, Nat.le_of_ble_eq_true rfl⟩) hP hD hS hA (fun r4 u4 H locs hw hP hD hS => ?_)
  replace he := he.trans (xbd_some hw)
  refine lv_if_ne (tgt := 12) hx hb dX7_dark_7 (by decide) (fun c2 => ?_) (fun c2 => ?_)
  · replace he := he.trans (if_neg c2)
    refine lv_aload_n hx hb dX7_dark_12 rfl (lv_at hl 0 rfl) ?_
    refine lv_iload_n hx hb dX7_dark_13 rfl (lv_at hl 1 rfl) ?_
    have n3_ : fX7_triedIn F moi_13 moi_17 moi_18 moi_30 moi_31 mok_19 mok_22 mok_23 mok_33 a1 ≠ none := fun z => hne (he.trans (xbd_none z))
    refine xcvW (va_runV (As := [.int a1]) (rest := []) ⟨hx, hb, hml, hown, hts⟩ (c_X7_triedIn l D cI cP H.size mo mor moi_0 moi_2 moi_4 moi_8 moi_9 moi_11 moi_12 moi_13 moi_17 moi_18 moi_20 moi_21 moi_24 moi_26 moi_28 moi_30 moi_31 moi_32 mok_1 mok_3 mok_5 mok_6 mok_7 mok_10 mok_14 mok_15 mok_16 mok_19 mok_22 mok_23 mok_25 mok_27 mok_29 mok_33 mok_34 F a1 n3_) (cwV 1 hts gX7_dark_X7_triedIn rfl rfl rfl (by decide +kernel) ⟨Nat.le_of_ble_eq_true rfl, Nat.le_of_ble_eq_true rfl⟩) (xPVW hN hK hP hD (ci := 7) (j := 0) rfl wM_0) rfl rfl hl.1 rfl (lv_room (Nat.le_of_ble_eq_true rfl)) dX7_dark_14 ⟨Nat.le_of_ble_eq_true rfl, Nat.le_of_ble_eq_true rfl⟩) hD hS hA (fun u14 H locs hw hP hD hS => ?_)
    have hP : va_P D vwCl (wM cI mo mor moi_0 moi_2 moi_4 moi_8 moi_9 moi_11 moi_12 moi_13 moi_17 moi_18 moi_20 moi_21 moi_24 moi_26 moi_28 moi_30 moi_31 moi_32 mok_1 mok_3 mok_5 mok_6 mok_7 mok_10 mok_14 mok_15 mok_16 mok_19 mok_22 u14.1 mok_25 mok_27 mok_29 u14.2 mok_34) H := hP
    have hD : va_D A (wM cI mo mor moi_0 moi_2 moi_4 moi_8 moi_9 moi_11 moi_12 moi_13 moi_17 moi_18 moi_20 moi_21 moi_24 moi_26 moi_28 moi_30 moi_31 moi_32 mok_1 mok_3 mok_5 mok_6 mok_7 mok_10 mok_14 mok_15 mok_16 mok_19 mok_22 u14.1 mok_25 mok_27 mok_29 u14.2 mok_34) := hD
    replace he := he.trans (xbd_some hw)
    refine lv_aload_n hx hb dX7_dark_17 rfl (lv_at hl 0 rfl) ?_
    refine lv_aload_n hx hb dX7_dark_18 rfl (lv_at hl 0 rfl) ?_
    refine va_get (D := D) (ci := 7) (v := .ref (mor 23)) (C := RX7) (T := TX7) (N := 35) hx hb hts hi_X7_dark_7 hown hK hP 0 wM_0 rfl 23 (by decide) (hts (.fieldLink RX7 43 "BlindLanternsModel" "tried" "[I") (List.mem_of_getElem? (i := 1) rfl)) (fun _ h9 => h9) xMf_23 dX7_dark_19 ?_
    have n4_ : fX7_darkIn_tried F moi_13 u14.1 ≠ none := fun z => hne (he.trans (xbd_none z))
    refine xciW (va_runV (As := [.ref (mor 23)]) (rest := []) ⟨hx, hb, hml, hown, hts⟩ (c_X7_darkIn_tried l D cI cP H.size mo mor moi_0 moi_2 moi_4 moi_8 moi_9 moi_11 moi_12 moi_13 moi_17 moi_18 moi_20 moi_21 moi_24 moi_26 moi_28 moi_30 moi_31 moi_32 mok_1 mok_3 mok_5 mok_6 mok_7 mok_10 mok_14 mok_15 mok_16 mok_19 mok_22 u14.1 mok_25 mok_27 mok_29 u14.2 mok_34 F  n4_) (cwV 1 hts gX7_dark_X7_darkIn rfl rfl rfl (by decide +kernel) ⟨Nat.le_of_ble_eq_true rfl, Nat.le_of_ble_eq_true rfl⟩) (xPVW hN hK hP hD (ci := 7) (j := 0) rfl wM_0) rfl rfl hl.1 rfl (lv_room (Nat.le_of_ble_eq_true rfl)) dX7_dark_22 ⟨Nat.le_of_ble_eq_true rfl, Nat.le_of_ble_eq_true rfl⟩) hD hS hA (fun r22 u22 H locs hw hP hD hS => ?_)
    have hP : va_P D vwCl (wM cI mo mor moi_0 moi_2 moi_4 moi_8 moi_9 moi_11 moi_12 moi_13 moi_17 moi_18 moi_20 moi_21 moi_24 moi_26 moi_28 moi_30 moi_31 moi_32 mok_1 mok_3 mok_5 mok_6 mok_7 mok_10 mok_14 mok_15 mok_16 mok_19 mok_22 u14.1 mok_25 mok_27 mok_29 u14.2 mok_34) H := hP
    have hD : va_D A (wM cI mo mor moi_0 moi_2 moi_4 moi_8 moi_9 moi_11 moi_12 moi_13 moi_17 moi_18 moi_20 moi_21 moi_24 moi_26 moi_28 moi_30 moi_31 moi_32 mok_1 mok_3 mok_5 mok_6 mok_7 mok_10 mok_14 mok_15 mok_16 mok_19 mok_22 u14.1 mok_25 mok_27 mok_29 u14.2 mok_34) := hD
    replace he := he.trans (xbd_some hw)
    exact hret r22 (u14.1, u14.2) _ _ _ _ dX7_dark_25 he hP hD hS
  · replace he := he.trans (if_pos c2)
    refine lv_iconst (v := -1) hx hb dX7_dark_10 (by decide) ?_
    exact hret (-1 : Int32) (mok_23, mok_33) _ _ _ _ dX7_dark_11 he hP hD hS

def fX7_walk_L30 (moi_13 : Int32) (moi_17 : Int32) (moi_18 : Int32) (moi_30 : Int32) (moi_31 : Int32) (mok_19 : Nat → Int32) (a1 : Int32) (a2 : Int32) (F : Nat) (k30 : Int32 → Int32 → (Nat → Int32) → (Nat → Int32) → Option (Int32 × (Nat → Int32) × (Nat → Int32))) : Nat → Int32 → Int32 → (Nat → Int32) → (Nat → Int32) → Option (Int32 × (Nat → Int32) × (Nat → Int32))
  | 0, _, _, _, _ => none
  | n30 + 1, v30_4, v30_3, w30_mok_23, w30_mok_33 => if a2 < v30_4 then (k30 v30_4 v30_3 w30_mok_23 w30_mok_33) else (if moi_13 = 0 then none else (xbd (fX7_isLit_tried w30_mok_23 ((a1 + v30_4) - (a1 + v30_4) / moi_13 * moi_13)) (fun (r51 : Int32) => xbd (fX7_bit r51) (fun (r54 : Int32) => xbd (fX7_ring_tried F moi_13 moi_17 moi_18 moi_30 moi_31 mok_19 w30_mok_23 w30_mok_33) (fun (u64 : (Nat → Int32) × (Nat → Int32)) => fX7_walk_L30 moi_13 moi_17 moi_18 moi_30 moi_31 mok_19 a1 a2 F k30 n30 (v30_4 + 1) (v30_3 + r54) u64.1 u64.2)))))
def fX7_walk (F : Nat) (moi_13 : Int32) (moi_17 : Int32) (moi_18 : Int32) (moi_30 : Int32) (moi_31 : Int32) (mok_19 : Nat → Int32) (mok_22 : Nat → Int32) (mok_23 : Nat → Int32) (mok_33 : Nat → Int32) (a1 : Int32) (a2 : Int32) : Option (Int32 × (Nat → Int32) × (Nat → Int32)) :=
  xbd (fX7_isMan moi_13 a1) (fun (r2 : Int32) => if r2 = 0 then (some ((-1 : Int32), (mok_23, mok_33))) else (xbd (fX7_in a2 (0 : Int32) (60 : Int32)) (fun (r12 : Int32) => if r12 = 0 then (some ((-1 : Int32), (mok_23, mok_33))) else (xbd (fX7_triedIn F moi_13 moi_17 moi_18 moi_30 moi_31 mok_19 mok_22 mok_23 mok_33 (0 : Int32)) (fun (u22 : (Nat → Int32) × (Nat → Int32)) => fX7_walk_L30 moi_13 moi_17 moi_18 moi_30 moi_31 mok_19 a1 a2 F (fun (v30_4 : Int32) (v30_3 : Int32) (w30_mok_23 : Nat → Int32) (w30_mok_33 : Nat → Int32) => some (v30_3, (w30_mok_23, w30_mok_33))) F (0 : Int32) (0 : Int32) u22.1 u22.2)))))
theorem hi_X7_walk_7 : ∀ w ∈ wsX70, w ∈ wsX7_walk := fun _ h => (List.mem_cons_of_mem _ (List.mem_append_right _ h))
set_option maxHeartbeats 4000000 in
set_option maxRecDepth 100000 in
theorem c_X7_walk (l : Launch) (D : va_G) (cI cP : ClassId) (sz : Nat) (mo : Nat) (mor : Nat → Nat) (moi_0 : Int32) (moi_2 : Int32) (moi_4 : Int32) (moi_8 : Int32) (moi_9 : Int32) (moi_11 : Int32) (moi_12 : Int32) (moi_13 : Int32) (moi_17 : Int32) (moi_18 : Int32) (moi_20 : Int32) (moi_21 : Int32) (moi_24 : Int32) (moi_26 : Int32) (moi_28 : Int32) (moi_30 : Int32) (moi_31 : Int32) (moi_32 : Int32) (mok_1 : Nat → Int32) (mok_3 : Nat → Int32) (mok_5 : Nat → Int32) (mok_6 : Nat → Int32) (mok_7 : Nat → Int32) (mok_10 : Nat → Int32) (mok_14 : Nat → Int32) (mok_15 : Nat → Int32) (mok_16 : Nat → Int32) (mok_19 : Nat → Int32) (mok_22 : Nat → Int32) (mok_23 : Nat → Int32) (mok_25 : Nat → Int32) (mok_27 : Nat → Int32) (mok_29 : Nat → Int32) (mok_33 : Nat → Int32) (mok_34 : Nat → Int32) (F : Nat) (a1 : Int32) (a2 : Int32) (hne : fX7_walk F moi_13 moi_17 moi_18 moi_30 moi_31 mok_19 mok_22 mok_23 mok_33 a1 a2 ≠ none) : xMi l yX7_walk wsX7_walk ({ frames := 2, cells := 0, slots := 0, locals := 46 } : Room) D (xT cI cP) [.ref mo, .int a1, .int a2] (wM cI mo mor moi_0 moi_2 moi_4 moi_8 moi_9 moi_11 moi_12 moi_13 moi_17 moi_18 moi_20 moi_21 moi_24 moi_26 moi_28 moi_30 moi_31 moi_32 mok_1 mok_3 mok_5 mok_6 mok_7 mok_10 mok_14 mok_15 mok_16 mok_19 mok_22 mok_23 mok_25 mok_27 mok_29 mok_33 mok_34) sz (fun r (u : ((Nat → Int32) × (Nat → Int32))) => fX7_walk F moi_13 moi_17 moi_18 moi_30 moi_31 mok_19 mok_22 mok_23 mok_33 a1 a2 = some (r, u)) (fun u => wM cI mo mor moi_0 moi_2 moi_4 moi_8 moi_9 moi_11 moi_12 moi_13 moi_17 moi_18 moi_20 moi_21 moi_24 moi_26 moi_28 moi_30 moi_31 moi_32 mok_1 mok_3 mok_5 mok_6 mok_7 mok_10 mok_14 mok_15 mok_16 mok_19 mok_22 u.1 mok_25 mok_27 mok_29 u.2 mok_34) 0 0 := by
  refine xMi_of (cc := cX7_walk) (maxL := 5) (by decide +kernel) rfl (Nat.le_of_ble_eq_true rfl) ?_
  intro p e s m args below meth c A ls hx hb hml hown hts hname hN hK hA hP hD hS hl Q hret
  have he := fX7_walk.eq_1 F moi_13 moi_17 moi_18 moi_30 moi_31 mok_19 mok_22 mok_23 mok_33 a1 a2
  have hl : lv_has ls 5 [(0, .ref mo), (1, .int a1), (2, .int a2)] := hl
  have R30_0 : ∀ (v30_4 : Int32) (v30_3 : Int32) (w30_mok_23 : Nat → Int32) (w30_mok_33 : Nat → Int32), fX7_walk F moi_13 moi_17 moi_18 moi_30 moi_31 mok_19 mok_22 mok_23 mok_33 a1 a2 = (some (v30_3, (w30_mok_23, w30_mok_33))) → ∀ (H : Heap) (locs : List Loc) (ls : Array Slot), va_P D vwCl (wM cI mo mor moi_0 moi_2 moi_4 moi_8 moi_9 moi_11 moi_12 moi_13 moi_17 moi_18 moi_20 moi_21 moi_24 moi_26 moi_28 moi_30 moi_31 moi_32 mok_1 mok_3 mok_5 mok_6 mok_7 mok_10 mok_14 mok_15 mok_16 mok_19 mok_22 w30_mok_23 mok_25 mok_27 mok_29 w30_mok_33 mok_34) H → va_D A (wM cI mo mor moi_0 moi_2 moi_4 moi_8 moi_9 moi_11 moi_12 moi_13 moi_17 moi_18 moi_20 moi_21 moi_24 moi_26 moi_28 moi_30 moi_31 moi_32 mok_1 mok_3 mok_5 mok_6 mok_7 mok_10 mok_14 mok_15 mok_16 mok_19 mok_22 w30_mok_23 mok_25 mok_27 mok_29 w30_mok_33 mok_34) → va_S A s.heap H locs → lv_has ls 5 [(3, .int v30_3)] → W p l e ({ frames := 2, cells := 0, slots := 0, locals := 46 } : Room) s m args below meth c H locs 0 0 Q (F0 m 73 ls []) := by
    intro v30_4 v30_3 w30_mok_23 w30_mok_33 he H locs ls hP hD hS hl
    refine lv_iload_n hx hb dX7_walk_73 rfl (lv_at hl 0 rfl) ?_
    exact hret v30_3 (w30_mok_23, w30_mok_33) _ _ _ _ dX7_walk_74 he hP hD hS
  have L30_4 : ∀ (n30 : Nat) (v30_4 : Int32) (v30_3 : Int32) (w30_mok_23 : Nat → Int32) (w30_mok_33 : Nat → Int32), fX7_walk F moi_13 moi_17 moi_18 moi_30 moi_31 mok_19 mok_22 mok_23 mok_33 a1 a2 = fX7_walk_L30 moi_13 moi_17 moi_18 moi_30 moi_31 mok_19 a1 a2 F (fun (v30_4 : Int32) (v30_3 : Int32) (w30_mok_23 : Nat → Int32) (w30_mok_33 : Nat → Int32) => some (v30_3, (w30_mok_23, w30_mok_33))) n30 v30_4 v30_3 w30_mok_23 w30_mok_33 → ∀ (H : Heap) (locs : List Loc) (ls : Array Slot), va_P D vwCl (wM cI mo mor moi_0 moi_2 moi_4 moi_8 moi_9 moi_11 moi_12 moi_13 moi_17 moi_18 moi_20 moi_21 moi_24 moi_26 moi_28 moi_30 moi_31 moi_32 mok_1 mok_3 mok_5 mok_6 mok_7 mok_10 mok_14 mok_15 mok_16 mok_19 mok_22 w30_mok_23 mok_25 mok_27 mok_29 w30_mok_33 mok_34) H → va_D A (wM cI mo mor moi_0 moi_2 moi_4 moi_8 moi_9 moi_11 moi_12 moi_13 moi_17 moi_18 moi_20 moi_21 moi_24 moi_26 moi_28 moi_30 moi_31 moi_32 mok_1 mok_3 mok_5 mok_6 mok_7 mok_10 mok_14 mok_15 mok_16 mok_19 mok_22 w30_mok_23 mok_25 mok_27 mok_29 w30_mok_33 mok_34) → va_S A s.heap H locs → lv_has ls 5 [(4, .int v30_4), (3, .int v30_3), (0, .ref mo), (1, .int a1), (2, .int a2)] → W p l e ({ frames := 2, cells := 0, slots := 0, locals := 46 } : Room) s m args below meth c H locs 0 0 Q (F0 m 30 ls []) := by
    intro n30
    induction n30 with
    | zero => intro v30_4 v30_3 w30_mok_23 w30_mok_33 he; exact absurd he hne
    | succ n30 ih30 =>
      intro v30_4 v30_3 w30_mok_23 w30_mok_33 he H locs ls hP hD hS hl
      replace he := he.trans (fX7_walk_L30.eq_2 _ _ _ _ _ _ _ _ _ _ _ _ _ _ _)
      refine lv_iload hx hb dX7_walk_30 (lv_at hl 0 rfl) ?_
      refine lv_iload_n hx hb dX7_walk_32 rfl (lv_at hl 4 rfl) ?_
      refine lv_icmp_gt (tgt := 73) hx hb dX7_walk_33 (by decide) (fun c6 => ?_) (fun c6 => ?_)
      · replace he := he.trans (if_pos c6)
        exact R30_0 v30_4 v30_3 w30_mok_23 w30_mok_33 he _ _ _ hP hD hS (lv_sub hl [1] rfl)
      · replace he := he.trans (if_neg c6)
        refine lv_iload_n hx hb dX7_walk_36 rfl (lv_at hl 1 rfl) ?_
        refine lv_aload_n hx hb dX7_walk_37 rfl (lv_at hl 2 rfl) ?_
        refine lv_aload_n hx hb dX7_walk_38 rfl (lv_at hl 2 rfl) ?_
        refine va_get (D := D) (ci := 7) (v := .ref (mor 23)) (C := RX7) (T := TX7) (N := 35) hx hb hts hi_X7_walk_7 hown hK hP 0 wM_0 rfl 23 (by decide) (hts (.fieldLink RX7 43 "BlindLanternsModel" "tried" "[I") (List.mem_of_getElem? (i := 1) rfl)) (fun _ h9 => h9) xMf_23 dX7_walk_39 ?_
        refine lv_iload_n hx hb dX7_walk_42 rfl (lv_at hl 3 rfl) ?_
        refine lv_iload hx hb dX7_walk_43 (lv_at hl 0 rfl) ?_
        refine lv_iadd hx hb dX7_walk_45 ?_
        refine lv_aload_n hx hb dX7_walk_46 rfl (lv_at hl 2 rfl) ?_
        refine va_get (D := D) (ci := 7) (v := .int moi_13) (C := RX7) (T := TX7) (N := 35) hx hb hts hi_X7_walk_7 hown hK hP 0 wM_0 rfl 13 (by decide) (hts (.fieldLink RX7 71 "BlindLanternsModel" "men" "I") (List.mem_of_getElem? (i := 2) rfl)) (fun _ h9 => h9) xMf_13 dX7_walk_47 ?_
        by_cases g7 : moi_13 = 0
        · exact absurd (he.trans (if_pos g7)) hne
        replace he := he.trans (if_neg g7)
        refine lv_irem hx hb dX7_walk_50 g7 ?_
        have n8_ : fX7_isLit_tried w30_mok_23 ((a1 + v30_4) - (a1 + v30_4) / moi_13 * moi_13) ≠ none := fun z => hne (he.trans (xbd_none z))
        refine xciW (va_runV (As := [.ref (mor 23), .int ((a1 + v30_4) - (a1 + v30_4) / moi_13 * moi_13)]) (rest := [.int v30_3]) ⟨hx, hb, hml, hown, hts⟩ (c_X7_isLit_tried l D cI cP H.size mo mor moi_0 moi_2 moi_4 moi_8 moi_9 moi_11 moi_12 moi_13 moi_17 moi_18 moi_20 moi_21 moi_24 moi_26 moi_28 moi_30 moi_31 moi_32 mok_1 mok_3 mok_5 mok_6 mok_7 mok_10 mok_14 mok_15 mok_16 mok_19 mok_22 w30_mok_23 mok_25 mok_27 mok_29 w30_mok_33 mok_34 ((a1 + v30_4) - (a1 + v30_4) / moi_13 * moi_13) n8_) (cwV 2 hts gX7_walk_X7_isLit rfl rfl rfl (by decide +kernel) ⟨Nat.le_of_ble_eq_true rfl, Nat.le_of_ble_eq_true rfl⟩) (xPVW hN hK hP hD (ci := 7) (j := 0) rfl wM_0) rfl rfl hl.1 rfl (lv_room (Nat.le_of_ble_eq_true rfl)) dX7_walk_51 ⟨Nat.le_of_ble_eq_true rfl, Nat.le_of_ble_eq_true rfl⟩) hD hS hA (fun r51 u51 H locs hw hP hD hS => ?_)
        have hP : va_P D vwCl (wM cI mo mor moi_0 moi_2 moi_4 moi_8 moi_9 moi_11 moi_12 moi_13 moi_17 moi_18 moi_20 moi_21 moi_24 moi_26 moi_28 moi_30 moi_31 moi_32 mok_1 mok_3 mok_5 mok_6 mok_7 mok_10 mok_14 mok_15 mok_16 mok_19 mok_22 w30_mok_23 mok_25 mok_27 mok_29 w30_mok_33 mok_34) H := hP
        have hD : va_D A (wM cI mo mor moi_0 moi_2 moi_4 moi_8 moi_9 moi_11 moi_12 moi_13 moi_17 moi_18 moi_20 moi_21 moi_24 moi_26 moi_28 moi_30 moi_31 moi_32 mok_1 mok_3 mok_5 mok_6 mok_7 mok_10 mok_14 mok_15 mok_16 mok_19 mok_22 w30_mok_23 mok_25 mok_27 mok_29 w30_mok_33 mok_34) := hD
        replace he := he.trans (xbd_some hw)
        have n9_ : fX7_bit r51 ≠ none := fun z => hne (he.trans (xbd_none z))
        refine xci0 (va_runS (As := [.int r51]) (rest := [.int v30_3]) ⟨hx, hb, hml, hown, hts⟩ (c_X7_bit l D cI cP H.size  r51 n9_) (va_cwS 1 hts gX7_walk_X7_bit rfl rfl rfl (by decide +kernel) ⟨Nat.le_of_ble_eq_true rfl, Nat.le_of_ble_eq_true rfl⟩) (xPS0 hN hK) rfl rfl hl.1 rfl (lv_room (Nat.le_of_ble_eq_true rfl)) dX7_walk_54 ⟨Nat.le_of_ble_eq_true rfl, Nat.le_of_ble_eq_true rfl⟩) hP hD hS hA (fun r54 u54 H locs hw hP hD hS => ?_)
        replace he := he.trans (xbd_some hw)
        refine lv_iadd hx hb dX7_walk_57 ?_
        refine lv_istore_n (lv' := [(3, .int (v30_3 + r54)), (4, .int v30_4), (0, .ref mo), (1, .int a1), (2, .int a2)]) hx hb dX7_walk_58 rfl hl (by decide) rfl (fun ls hl => ?_)
        refine lv_aload_n hx hb dX7_walk_59 rfl (lv_at hl 2 rfl) ?_
        refine lv_aload_n hx hb dX7_walk_60 rfl (lv_at hl 2 rfl) ?_
        refine va_get (D := D) (ci := 7) (v := .ref (mor 23)) (C := RX7) (T := TX7) (N := 35) hx hb hts hi_X7_walk_7 hown hK hP 0 wM_0 rfl 23 (by decide) (hts (.fieldLink RX7 43 "BlindLanternsModel" "tried" "[I") (List.mem_of_getElem? (i := 1) rfl)) (fun _ h9 => h9) xMf_23 dX7_walk_61 ?_
        have n10_ : fX7_ring_tried F moi_13 moi_17 moi_18 moi_30 moi_31 mok_19 w30_mok_23 w30_mok_33 ≠ none := fun z => hne (he.trans (xbd_none z))
        refine xcvW (va_runV (As := [.ref (mor 23)]) (rest := []) ⟨hx, hb, hml, hown, hts⟩ (c_X7_ring_tried l D cI cP H.size mo mor moi_0 moi_2 moi_4 moi_8 moi_9 moi_11 moi_12 moi_13 moi_17 moi_18 moi_20 moi_21 moi_24 moi_26 moi_28 moi_30 moi_31 moi_32 mok_1 mok_3 mok_5 mok_6 mok_7 mok_10 mok_14 mok_15 mok_16 mok_19 mok_22 w30_mok_23 mok_25 mok_27 mok_29 w30_mok_33 mok_34 F  n10_) (cwV 1 hts gX7_walk_X7_ring rfl rfl rfl (by decide +kernel) ⟨Nat.le_of_ble_eq_true rfl, Nat.le_of_ble_eq_true rfl⟩) (xPVW hN hK hP hD (ci := 7) (j := 0) rfl wM_0) rfl rfl hl.1 rfl (lv_room (Nat.le_of_ble_eq_true rfl)) dX7_walk_64 ⟨Nat.le_of_ble_eq_true rfl, Nat.le_of_ble_eq_true rfl⟩) hD hS hA (fun u64 H locs hw hP hD hS => ?_)
        have hP : va_P D vwCl (wM cI mo mor moi_0 moi_2 moi_4 moi_8 moi_9 moi_11 moi_12 moi_13 moi_17 moi_18 moi_20 moi_21 moi_24 moi_26 moi_28 moi_30 moi_31 moi_32 mok_1 mok_3 mok_5 mok_6 mok_7 mok_10 mok_14 mok_15 mok_16 mok_19 mok_22 u64.1 mok_25 mok_27 mok_29 u64.2 mok_34) H := hP
        have hD : va_D A (wM cI mo mor moi_0 moi_2 moi_4 moi_8 moi_9 moi_11 moi_12 moi_13 moi_17 moi_18 moi_20 moi_21 moi_24 moi_26 moi_28 moi_30 moi_31 moi_32 mok_1 mok_3 mok_5 mok_6 mok_7 mok_10 mok_14 mok_15 mok_16 mok_19 mok_22 u64.1 mok_25 mok_27 mok_29 u64.2 mok_34) := hD
        replace he := he.trans (xbd_some hw)
        refine lv_iinc (v := (v30_4 + 1)) (lv' := [(4, .int (v30_4 + 1)), (3, .int (v30_3 + r54)), (0, .ref mo), (1, .int a1), (2, .int a2)]) hx hb dX7_walk_67 hl (k := 1) rfl rfl (by decide) rfl (fun ls hl => ?_)
        refine lv_goto (tgt := 30) hx hb dX7_walk_70 (by decide) ?_
        exact ih30 (v30_4 + 1) (v30_3 + r54) u64.1 u64.2 he _ _ _ hP hD hS (lv_sub hl [0, 1, 2, 3, 4] rfl)
  refine lv_aload_n hx hb dX7_walk_0 rfl (lv_at hl 0 rfl) ?_
  refine lv_iload_n hx hb dX7_walk_1 rfl (lv_at hl 1 rfl) ?_
  have n1_ : fX7_isMan moi_13 a1 ≠ none := fun z => hne (he.trans (xbd_none z))
  refine xciW (va_runV (As := [.int a1]) (rest := []) ⟨hx, hb, hml, hown, hts⟩ (c_X7_isMan l D cI cP s.heap.size mo mor moi_0 moi_2 moi_4 moi_8 moi_9 moi_11 moi_12 moi_13 moi_17 moi_18 moi_20 moi_21 moi_24 moi_26 moi_28 moi_30 moi_31 moi_32 mok_1 mok_3 mok_5 mok_6 mok_7 mok_10 mok_14 mok_15 mok_16 mok_19 mok_22 mok_23 mok_25 mok_27 mok_29 mok_33 mok_34 a1 n1_) (cwV 1 hts gX7_walk_X7_isMan rfl rfl rfl (by decide +kernel) ⟨Nat.le_of_ble_eq_true rfl, Nat.le_of_ble_eq_true rfl⟩) (xPVW hN hK hP hD (ci := 7) (j := 0) rfl wM_0) rfl rfl hl.1 rfl (lv_room (Nat.le_of_ble_eq_true rfl)) dX7_walk_2 ⟨Nat.le_of_ble_eq_true rfl, Nat.le_of_ble_eq_true rfl⟩) hD hS hA (fun r2 u2 H locs hw hP hD hS => ?_)
  have hP : va_P D vwCl (wM cI mo mor moi_0 moi_2 moi_4 moi_8 moi_9 moi_11 moi_12 moi_13 moi_17 moi_18 moi_20 moi_21 moi_24 moi_26 moi_28 moi_30 moi_31 moi_32 mok_1 mok_3 mok_5 mok_6 mok_7 mok_10 mok_14 mok_15 mok_16 mok_19 mok_22 mok_23 mok_25 mok_27 mok_29 mok_33 mok_34) H := hP
  have hD : va_D A (wM cI mo mor moi_0 moi_2 moi_4 moi_8 moi_9 moi_11 moi_12 moi_13 moi_17 moi_18 moi_20 moi_21 moi_24 moi_26 moi_28 moi_30 moi_31 moi_32 mok_1 mok_3 mok_5 mok_6 mok_7 mok_10 mok_14 mok_15 mok_16 mok_19 mok_22 mok_23 mok_25 mok_27 mok_29 mok_33 mok_34) := hD
  replace he := he.trans (xbd_some hw)
  refine lv_if_eq (tgt := 18) hx hb dX7_walk_5 (by decide) (fun c2 => ?_) (fun c2 => ?_)
  · replace he := he.trans (if_pos c2)
    refine lv_iconst (v := -1) hx hb dX7_walk_18 (by decide) ?_
    exact hret (-1 : Int32) (mok_23, mok_33) _ _ _ _ dX7_walk_19 he hP hD hS
  · replace he := he.trans (if_neg c2)
    refine lv_iload_n hx hb dX7_walk_8 rfl (lv_at hl 2 rfl) ?_
    refine lv_iconst (v := 0) hx hb dX7_walk_9 (by decide) ?_
    refine lv_bipush (v := 60) hx hb dX7_walk_10 (by decide) ?_
    have n3_ : fX7_in a2 (0 : Int32) (60 : Int32) ≠ none := fun z => hne (he.trans (xbd_none z))
    refine xci0 (va_runS (As := [.int a2, .int (0 : Int32), .int (60 : Int32)]) (rest := []) ⟨hx, hb, hml, hown, hts⟩ (c_X7_in l D cI cP H.size  a2 (0 : Int32) (60 : Int32) n3_) (va_cwS 3 hts gX7_walk_X7_in rfl rfl rfl (by decide +kernel) ⟨Nat.le_of_ble_eq_true rfl, Nat.le_of_ble_eq_true rfl⟩) (xPS0 hN hK) rfl rfl hl.1 rfl (lv_room (Nat.le_of_ble_eq_true rfl)) dX7_walk_12 ⟨Nat.le_of_ble_eq_true rfl, Nat.le_of_ble_eq_true rfl⟩) hP hD hS hA (fun r12 u12 H locs hw hP hD hS => ?_)
    replace he := he.trans (xbd_some hw)
    refine lv_if_ne (tgt := 20) hx hb dX7_walk_15 (by decide) (fun c4 => ?_) (fun c4 => ?_)
    · replace he := he.trans (if_neg c4)
      refine lv_aload_n hx hb dX7_walk_20 rfl (lv_at hl 0 rfl) ?_
      refine lv_iconst (v := 0) hx hb dX7_walk_21 (by decide) ?_
      have n5_ : fX7_triedIn F moi_13 moi_17 moi_18 moi_30 moi_31 mok_19 mok_22 mok_23 mok_33 (0 : Int32) ≠ none := fun z => hne (he.trans (xbd_none z))
      refine xcvW (va_runV (As := [.int (0 : Int32)]) (rest := []) ⟨hx, hb, hml, hown, hts⟩ (c_X7_triedIn l D cI cP H.size mo mor moi_0 moi_2 moi_4 moi_8 moi_9 moi_11 moi_12 moi_13 moi_17 moi_18 moi_20 moi_21 moi_24 moi_26 moi_28 moi_30 moi_31 moi_32 mok_1 mok_3 mok_5 mok_6 mok_7 mok_10 mok_14 mok_15 mok_16 mok_19 mok_22 mok_23 mok_25 mok_27 mok_29 mok_33 mok_34 F (0 : Int32) n5_) (cwV 1 hts gX7_walk_X7_triedIn rfl rfl rfl (by decide +kernel) ⟨Nat.le_of_ble_eq_true rfl, Nat.le_of_ble_eq_true rfl⟩) (xPVW hN hK hP hD (ci := 7) (j := 0) rfl wM_0) rfl rfl hl.1 rfl (lv_room (Nat.le_of_ble_eq_true rfl)) dX7_walk_22 ⟨Nat.le_of_ble_eq_true rfl, Nat.le_of_ble_eq_true rfl⟩) hD hS hA (fun u22 H locs hw hP hD hS => ?_)
      have hP : va_P D vwCl (wM cI mo mor moi_0 moi_2 moi_4 moi_8 moi_9 moi_11 moi_12 moi_13 moi_17 moi_18 moi_20 moi_21 moi_24 moi_26 moi_28 moi_30 moi_31 moi_32 mok_1 mok_3 mok_5 mok_6 mok_7 mok_10 mok_14 mok_15 mok_16 mok_19 mok_22 u22.1 mok_25 mok_27 mok_29 u22.2 mok_34) H := hP
      have hD : va_D A (wM cI mo mor moi_0 moi_2 moi_4 moi_8 moi_9 moi_11 moi_12 moi_13 moi_17 moi_18 moi_20 moi_21 moi_24 moi_26 moi_28 moi_30 moi_31 moi_32 mok_1 mok_3 mok_5 mok_6 mok_7 mok_10 mok_14 mok_15 mok_16 mok_19 mok_22 u22.1 mok_25 mok_27 mok_29 u22.2 mok_34) := hD
      replace he := he.trans (xbd_some hw)
      refine lv_iconst (v := 0) hx hb dX7_walk_25 (by decide) ?_
      refine lv_istore_n (lv' := [(3, .int (0 : Int32)), (0, .ref mo), (1, .int a1), (2, .int a2)]) hx hb dX7_walk_26 rfl hl (by decide) rfl (fun ls hl => ?_)
      refine lv_iconst (v := 0) hx hb dX7_walk_27 (by decide) ?_
      refine lv_istore (lv' := [(4, .int (0 : Int32)), (3, .int (0 : Int32)), (0, .ref mo), (1, .int a1), (2, .int a2)]) hx hb dX7_walk_28 hl (by decide) rfl (fun ls hl => ?_)
      exact L30_4 F (0 : Int32) (0 : Int32) u22.1 u22.2 he _ _ _ hP hD hS (lv_sub hl [0, 1, 2, 3, 4] rfl)
    · replace he := he.trans (if_pos c4)
      refine lv_iconst (v := -1) hx hb dX7_walk_18 (by decide) ?_
      exact hret (-1 : Int32) (mok_23, mok_33) _ _ _ _ dX7_walk_19 he hP hD hS

def fX7_seen (moi_13 : Int32) (moi_28 : Int32) (mok_29 : Nat → Int32) (a1 : Int32) (a2 : Int32) (a3 : Int32) : Option (Int32 × Int32 × (Nat → Int32)) :=
  xbd (fX7_isMan moi_13 a1) (fun (r2 : Int32) => if r2 = 0 then (some ((-1 : Int32), (moi_28, mok_29))) else (xbd (fX7_in a2 (0 : Int32) (60 : Int32)) (fun (r12 : Int32) => if r12 = 0 then (some ((-1 : Int32), (moi_28, mok_29))) else (if moi_28 = (10 : Int32) then (some ((-3 : Int32), (moi_28, mok_29))) else (if ((3 : Int32) * moi_28) < 0 ∨ 30 ≤ ((3 : Int32) * moi_28).toNatClampNeg then none else (if (((3 : Int32) * moi_28) + (1 : Int32)) < 0 ∨ 30 ≤ (((3 : Int32) * moi_28) + (1 : Int32)).toNatClampNeg then none else (xbd (fX7_bit a3) (fun (r71 : Int32) => if (((3 : Int32) * moi_28) + (2 : Int32)) < 0 ∨ 30 ≤ (((3 : Int32) * moi_28) + (2 : Int32)).toNatClampNeg then none else (some ((moi_28 + (1 : Int32)), ((moi_28 + (1 : Int32)), (upd (upd (upd mok_29 ((3 : Int32) * moi_28).toNatClampNeg a1) (((3 : Int32) * moi_28) + (1 : Int32)).toNatClampNeg a2) (((3 : Int32) * moi_28) + (2 : Int32)).toNatClampNeg r71))))))))))))
theorem hi_X7_seen_7 : ∀ w ∈ wsX70, w ∈ wsX7_seen := fun _ h => (List.mem_cons_of_mem _ (List.mem_append_right _ h))
set_option maxHeartbeats 4000000 in
set_option maxRecDepth 100000 in
theorem c_X7_seen (l : Launch) (D : va_G) (cI cP : ClassId) (sz : Nat) (mo : Nat) (mor : Nat → Nat) (moi_0 : Int32) (moi_2 : Int32) (moi_4 : Int32) (moi_8 : Int32) (moi_9 : Int32) (moi_11 : Int32) (moi_12 : Int32) (moi_13 : Int32) (moi_17 : Int32) (moi_18 : Int32) (moi_20 : Int32) (moi_21 : Int32) (moi_24 : Int32) (moi_26 : Int32) (moi_28 : Int32) (moi_30 : Int32) (moi_31 : Int32) (moi_32 : Int32) (mok_1 : Nat → Int32) (mok_3 : Nat → Int32) (mok_5 : Nat → Int32) (mok_6 : Nat → Int32) (mok_7 : Nat → Int32) (mok_10 : Nat → Int32) (mok_14 : Nat → Int32) (mok_15 : Nat → Int32) (mok_16 : Nat → Int32) (mok_19 : Nat → Int32) (mok_22 : Nat → Int32) (mok_23 : Nat → Int32) (mok_25 : Nat → Int32) (mok_27 : Nat → Int32) (mok_29 : Nat → Int32) (mok_33 : Nat → Int32) (mok_34 : Nat → Int32) (a1 : Int32) (a2 : Int32) (a3 : Int32) (hne : fX7_seen moi_13 moi_28 mok_29 a1 a2 a3 ≠ none) : xMi l yX7_seen wsX7_seen ({ frames := 2, cells := 0, slots := 0, locals := 43 } : Room) D (xT cI cP) [.ref mo, .int a1, .int a2, .int a3] (wM cI mo mor moi_0 moi_2 moi_4 moi_8 moi_9 moi_11 moi_12 moi_13 moi_17 moi_18 moi_20 moi_21 moi_24 moi_26 moi_28 moi_30 moi_31 moi_32 mok_1 mok_3 mok_5 mok_6 mok_7 mok_10 mok_14 mok_15 mok_16 mok_19 mok_22 mok_23 mok_25 mok_27 mok_29 mok_33 mok_34) sz (fun r (u : (Int32 × (Nat → Int32))) => fX7_seen moi_13 moi_28 mok_29 a1 a2 a3 = some (r, u)) (fun u => wM cI mo mor moi_0 moi_2 moi_4 moi_8 moi_9 moi_11 moi_12 moi_13 moi_17 moi_18 moi_20 moi_21 moi_24 moi_26 u.1 moi_30 moi_31 moi_32 mok_1 mok_3 mok_5 mok_6 mok_7 mok_10 mok_14 mok_15 mok_16 mok_19 mok_22 mok_23 mok_25 mok_27 u.2 mok_33 mok_34) 0 0 := by
  refine xMi_of (cc := cX7_seen) (maxL := 4) (by decide +kernel) rfl (Nat.le_of_ble_eq_true rfl) ?_
  intro p e s m args below meth c A ls hx hb hml hown hts hname hN hK hA hP hD hS hl Q hret
  have he := fX7_seen.eq_1 moi_13 moi_28 mok_29 a1 a2 a3
  have hl : lv_has ls 4 [(0, .ref mo), (1, .int a1), (2, .int a2), (3, .int a3)] := hl
  refine lv_aload_n hx hb dX7_seen_0 rfl (lv_at hl 0 rfl) ?_
  refine lv_iload_n hx hb dX7_seen_1 rfl (lv_at hl 1 rfl) ?_
  have n1_ : fX7_isMan moi_13 a1 ≠ none := fun z => hne (he.trans (xbd_none z))
  refine xciW (va_runV (As := [.int a1]) (rest := []) ⟨hx, hb, hml, hown, hts⟩ (c_X7_isMan l D cI cP s.heap.size mo mor moi_0 moi_2 moi_4 moi_8 moi_9 moi_11 moi_12 moi_13 moi_17 moi_18 moi_20 moi_21 moi_24 moi_26 moi_28 moi_30 moi_31 moi_32 mok_1 mok_3 mok_5 mok_6 mok_7 mok_10 mok_14 mok_15 mok_16 mok_19 mok_22 mok_23 mok_25 mok_27 mok_29 mok_33 mok_34 a1 n1_) (cwV 1 hts gX7_seen_X7_isMan rfl rfl rfl (by decide +kernel) ⟨Nat.le_of_ble_eq_true rfl, Nat.le_of_ble_eq_true rfl⟩) (xPVW hN hK hP hD (ci := 7) (j := 0) rfl wM_0) rfl rfl hl.1 rfl (lv_room (Nat.le_of_ble_eq_true rfl)) dX7_seen_2 ⟨Nat.le_of_ble_eq_true rfl, Nat.le_of_ble_eq_true rfl⟩) hD hS hA (fun r2 u2 H locs hw hP hD hS => ?_)
  have hP : va_P D vwCl (wM cI mo mor moi_0 moi_2 moi_4 moi_8 moi_9 moi_11 moi_12 moi_13 moi_17 moi_18 moi_20 moi_21 moi_24 moi_26 moi_28 moi_30 moi_31 moi_32 mok_1 mok_3 mok_5 mok_6 mok_7 mok_10 mok_14 mok_15 mok_16 mok_19 mok_22 mok_23 mok_25 mok_27 mok_29 mok_33 mok_34) H := hP
  have hD : va_D A (wM cI mo mor moi_0 moi_2 moi_4 moi_8 moi_9 moi_11 moi_12 moi_13 moi_17 moi_18 moi_20 moi_21 moi_24 moi_26 moi_28 moi_30 moi_31 moi_32 mok_1 mok_3 mok_5 mok_6 mok_7 mok_10 mok_14 mok_15 mok_16 mok_19 mok_22 mok_23 mok_25 mok_27 mok_29 mok_33 mok_34) := hD
  replace he := he.trans (xbd_some hw)
  refine lv_if_eq (tgt := 18) hx hb dX7_seen_5 (by decide) (fun c2 => ?_) (fun c2 => ?_)
  · replace he := he.trans (if_pos c2)
    refine lv_iconst (v := -1) hx hb dX7_seen_18 (by decide) ?_
    exact hret (-1 : Int32) (moi_28, mok_29) _ _ _ _ dX7_seen_19 he hP hD hS
  · replace he := he.trans (if_neg c2)
    refine lv_iload_n hx hb dX7_seen_8 rfl (lv_at hl 2 rfl) ?_
    refine lv_iconst (v := 0) hx hb dX7_seen_9 (by decide) ?_
    refine lv_bipush (v := 60) hx hb dX7_seen_10 (by decide) ?_
    have n3_ : fX7_in a2 (0 : Int32) (60 : Int32) ≠ none := fun z => hne (he.trans (xbd_none z))
    refine xci0 (va_runS (As := [.int a2, .int (0 : Int32), .int (60 : Int32)]) (rest := []) ⟨hx, hb, hml, hown, hts⟩ (c_X7_in l D cI cP H.size  a2 (0 : Int32) (60 : Int32) n3_) (va_cwS 3 hts gX7_seen_X7_in rfl rfl rfl (by decide +kernel) ⟨Nat.le_of_ble_eq_true rfl, Nat.le_of_ble_eq_true rfl⟩) (xPS0 hN hK) rfl rfl hl.1 rfl (lv_room (Nat.le_of_ble_eq_true rfl)) dX7_seen_12 ⟨Nat.le_of_ble_eq_true rfl, Nat.le_of_ble_eq_true rfl⟩) hP hD hS hA (fun r12 u12 H locs hw hP hD hS => ?_)
    replace he := he.trans (xbd_some hw)
    refine lv_if_ne (tgt := 20) hx hb dX7_seen_15 (by decide) (fun c4 => ?_) (fun c4 => ?_)
    · replace he := he.trans (if_neg c4)
      refine lv_aload_n hx hb dX7_seen_20 rfl (lv_at hl 0 rfl) ?_
      refine va_get (D := D) (ci := 7) (v := .int moi_28) (C := RX7) (T := TX7) (N := 35) hx hb hts hi_X7_seen_7 hown hK hP 0 wM_0 rfl 28 (by decide) (hts (.fieldLink RX7 132 "BlindLanternsModel" "sights" "I") (List.mem_of_getElem? (i := 1) rfl)) (fun _ h9 => h9) xMf_28 dX7_seen_21 ?_
      refine lv_bipush (v := 10) hx hb dX7_seen_24 (by decide) ?_
      refine lv_icmp_ne (tgt := 32) hx hb dX7_seen_26 (by decide) (fun c5 => ?_) (fun c5 => ?_)
      · replace he := he.trans (if_neg c5)
        refine lv_aload_n hx hb dX7_seen_32 rfl (lv_at hl 0 rfl) ?_
        refine va_get (D := D) (ci := 7) (v := .ref (mor 29)) (C := RX7) (T := TX7) (N := 35) hx hb hts hi_X7_seen_7 hown hK hP 0 wM_0 rfl 29 (by decide) (hts (.fieldLink RX7 52 "BlindLanternsModel" "sight" "[I") (List.mem_of_getElem? (i := 2) rfl)) (fun _ h9 => h9) xMf_29 dX7_seen_33 ?_
        refine lv_iconst (v := 3) hx hb dX7_seen_36 (by decide) ?_
        refine lv_aload_n hx hb dX7_seen_37 rfl (lv_at hl 0 rfl) ?_
        refine va_get (D := D) (ci := 7) (v := .int moi_28) (C := RX7) (T := TX7) (N := 35) hx hb hts hi_X7_seen_7 hown hK hP 0 wM_0 rfl 28 (by decide) (hts (.fieldLink RX7 132 "BlindLanternsModel" "sights" "I") (List.mem_of_getElem? (i := 1) rfl)) (fun _ h9 => h9) xMf_28 dX7_seen_38 ?_
        refine lv_imul hx hb dX7_seen_41 ?_
        refine lv_iload_n hx hb dX7_seen_42 rfl (lv_at hl 1 rfl) ?_
        by_cases g6 : ((3 : Int32) * moi_28) < 0 ∨ 30 ≤ ((3 : Int32) * moi_28).toNatClampNeg
        · exact absurd (he.trans (if_pos g6)) hne
        replace he := he.trans (if_neg g6)
        refine va_iast hx hb hK hP hD hS 15 0 wM_a29 rfl g6 dX7_seen_43 (fun H locs hP hD hS => ?_)
        rw [wM_s29] at hP hD
        refine lv_aload_n hx hb dX7_seen_44 rfl (lv_at hl 0 rfl) ?_
        refine va_get (D := D) (ci := 7) (v := .ref (mor 29)) (C := RX7) (T := TX7) (N := 35) hx hb hts hi_X7_seen_7 hown hK hP 0 wM_0 rfl 29 (by decide) (hts (.fieldLink RX7 52 "BlindLanternsModel" "sight" "[I") (List.mem_of_getElem? (i := 2) rfl)) (fun _ h9 => h9) xMf_29 dX7_seen_45 ?_
        refine lv_iconst (v := 3) hx hb dX7_seen_48 (by decide) ?_
        refine lv_aload_n hx hb dX7_seen_49 rfl (lv_at hl 0 rfl) ?_
        refine va_get (D := D) (ci := 7) (v := .int moi_28) (C := RX7) (T := TX7) (N := 35) hx hb hts hi_X7_seen_7 hown hK hP 0 wM_0 rfl 28 (by decide) (hts (.fieldLink RX7 132 "BlindLanternsModel" "sights" "I") (List.mem_of_getElem? (i := 1) rfl)) (fun _ h9 => h9) xMf_28 dX7_seen_50 ?_
        refine lv_imul hx hb dX7_seen_53 ?_
        refine lv_iconst (v := 1) hx hb dX7_seen_54 (by decide) ?_
        refine lv_iadd hx hb dX7_seen_55 ?_
        refine lv_iload_n hx hb dX7_seen_56 rfl (lv_at hl 2 rfl) ?_
        by_cases g7 : (((3 : Int32) * moi_28) + (1 : Int32)) < 0 ∨ 30 ≤ (((3 : Int32) * moi_28) + (1 : Int32)).toNatClampNeg
        · exact absurd (he.trans (if_pos g7)) hne
        replace he := he.trans (if_neg g7)
        refine va_iast hx hb hK hP hD hS 15 0 wM_a29 rfl g7 dX7_seen_57 (fun H locs hP hD hS => ?_)
        rw [wM_s29] at hP hD
        refine lv_aload_n hx hb dX7_seen_58 rfl (lv_at hl 0 rfl) ?_
        refine va_get (D := D) (ci := 7) (v := .ref (mor 29)) (C := RX7) (T := TX7) (N := 35) hx hb hts hi_X7_seen_7 hown hK hP 0 wM_0 rfl 29 (by decide) (hts (.fieldLink RX7 52 "BlindLanternsModel" "sight" "[I") (List.mem_of_getElem? (i := 2) rfl)) (fun _ h9 => h9) xMf_29 dX7_seen_59 ?_
        refine lv_iconst (v := 3) hx hb dX7_seen_62 (by decide) ?_
        refine lv_aload_n hx hb dX7_seen_63 rfl (lv_at hl 0 rfl) ?_
        refine va_get (D := D) (ci := 7) (v := .int moi_28) (C := RX7) (T := TX7) (N := 35) hx hb hts hi_X7_seen_7 hown hK hP 0 wM_0 rfl 28 (by decide) (hts (.fieldLink RX7 132 "BlindLanternsModel" "sights" "I") (List.mem_of_getElem? (i := 1) rfl)) (fun _ h9 => h9) xMf_28 dX7_seen_64 ?_
        refine lv_imul hx hb dX7_seen_67 ?_
        refine lv_iconst (v := 2) hx hb dX7_seen_68 (by decide) ?_
        refine lv_iadd hx hb dX7_seen_69 ?_
        refine lv_iload_n hx hb dX7_seen_70 rfl (lv_at hl 3 rfl) ?_
        have n8_ : fX7_bit a3 ≠ none := fun z => hne (he.trans (xbd_none z))
        refine xci0 (va_runS (As := [.int a3]) (rest := [.int (((3 : Int32) * moi_28) + (2 : Int32)), .ref (mor 29)]) ⟨hx, hb, hml, hown, hts⟩ (c_X7_bit l D cI cP H.size  a3 n8_) (va_cwS 1 hts gX7_seen_X7_bit rfl rfl rfl (by decide +kernel) ⟨Nat.le_of_ble_eq_true rfl, Nat.le_of_ble_eq_true rfl⟩) (xPS0 hN hK) rfl rfl hl.1 rfl (lv_room (Nat.le_of_ble_eq_true rfl)) dX7_seen_71 ⟨Nat.le_of_ble_eq_true rfl, Nat.le_of_ble_eq_true rfl⟩) hP hD hS hA (fun r71 u71 H locs hw hP hD hS => ?_)
        replace he := he.trans (xbd_some hw)
        by_cases g9 : (((3 : Int32) * moi_28) + (2 : Int32)) < 0 ∨ 30 ≤ (((3 : Int32) * moi_28) + (2 : Int32)).toNatClampNeg
        · exact absurd (he.trans (if_pos g9)) hne
        replace he := he.trans (if_neg g9)
        refine va_iast hx hb hK hP hD hS 15 0 wM_a29 rfl g9 dX7_seen_74 (fun H locs hP hD hS => ?_)
        rw [wM_s29] at hP hD
        refine lv_aload_n hx hb dX7_seen_75 rfl (lv_at hl 0 rfl) ?_
        refine lv_dup hx hb dX7_seen_76 rfl ?_
        refine va_get (D := D) (ci := 7) (v := .int moi_28) (C := RX7) (T := TX7) (N := 35) hx hb hts hi_X7_seen_7 hown hK hP 0 wM_0 rfl 28 (by decide) (hts (.fieldLink RX7 132 "BlindLanternsModel" "sights" "I") (List.mem_of_getElem? (i := 1) rfl)) (fun _ h9 => h9) xMf_28 dX7_seen_77 ?_
        refine lv_iconst (v := 1) hx hb dX7_seen_80 (by decide) ?_
        refine lv_iadd hx hb dX7_seen_81 ?_
        refine va_put (D := D) (ci := 7) (v := .int (moi_28 + (1 : Int32))) (ty := .int) (C := RX7) (T := TX7) (N := 35) hx hb hts hi_X7_seen_7 tyX7 tyX7_ok nmX7 hown hK hP hD hS 0 wM_0 rfl 28 (by decide) (hts (.fieldLink RX7 132 "BlindLanternsModel" "sights" "I") (List.mem_of_getElem? (i := 1) rfl)) (fun _ h9 => h9) rfl (by decide +kernel) rfl rfl (Nat.le_of_ble_eq_true rfl) dX7_seen_82 (fun H locs hP hD hS => ?_)
        rw [wM_p28] at hP hD
        refine lv_aload_n hx hb dX7_seen_85 rfl (lv_at hl 0 rfl) ?_
        refine va_get (D := D) (ci := 7) (v := .int (moi_28 + (1 : Int32))) (C := RX7) (T := TX7) (N := 35) hx hb hts hi_X7_seen_7 hown hK hP 0 wM_0 rfl 28 (by decide) (hts (.fieldLink RX7 132 "BlindLanternsModel" "sights" "I") (List.mem_of_getElem? (i := 1) rfl)) (fun _ h9 => h9) xMf_28 dX7_seen_86 ?_
        exact hret (moi_28 + (1 : Int32)) ((moi_28 + (1 : Int32)), (upd (upd (upd mok_29 ((3 : Int32) * moi_28).toNatClampNeg a1) (((3 : Int32) * moi_28) + (1 : Int32)).toNatClampNeg a2) (((3 : Int32) * moi_28) + (2 : Int32)).toNatClampNeg r71)) _ _ _ _ dX7_seen_89 he hP hD hS
      · replace he := he.trans (if_pos c5)
        refine lv_bipush (v := -3) hx hb dX7_seen_29 (by decide) ?_
        exact hret (-3 : Int32) (moi_28, mok_29) _ _ _ _ dX7_seen_31 he hP hD hS
    · replace he := he.trans (if_pos c4)
      refine lv_iconst (v := -1) hx hb dX7_seen_18 (by decide) ?_
      exact hret (-1 : Int32) (moi_28, mok_29) _ _ _ _ dX7_seen_19 he hP hD hS

def fX7_forget (moi_28 : Int32) : Option (Int32 × Int32) :=
  some (moi_28, (0 : Int32))
theorem hi_X7_forget_7 : ∀ w ∈ wsX70, w ∈ wsX7_forget := fun _ h => (List.mem_cons_of_mem _ (List.mem_append_right _ h))
set_option maxHeartbeats 4000000 in
set_option maxRecDepth 100000 in
theorem c_X7_forget (l : Launch) (D : va_G) (cI cP : ClassId) (sz : Nat) (mo : Nat) (mor : Nat → Nat) (moi_0 : Int32) (moi_2 : Int32) (moi_4 : Int32) (moi_8 : Int32) (moi_9 : Int32) (moi_11 : Int32) (moi_12 : Int32) (moi_13 : Int32) (moi_17 : Int32) (moi_18 : Int32) (moi_20 : Int32) (moi_21 : Int32) (moi_24 : Int32) (moi_26 : Int32) (moi_28 : Int32) (moi_30 : Int32) (moi_31 : Int32) (moi_32 : Int32) (mok_1 : Nat → Int32) (mok_3 : Nat → Int32) (mok_5 : Nat → Int32) (mok_6 : Nat → Int32) (mok_7 : Nat → Int32) (mok_10 : Nat → Int32) (mok_14 : Nat → Int32) (mok_15 : Nat → Int32) (mok_16 : Nat → Int32) (mok_19 : Nat → Int32) (mok_22 : Nat → Int32) (mok_23 : Nat → Int32) (mok_25 : Nat → Int32) (mok_27 : Nat → Int32) (mok_29 : Nat → Int32) (mok_33 : Nat → Int32) (mok_34 : Nat → Int32) (hne : fX7_forget moi_28 ≠ none) : xMi l yX7_forget wsX7_forget ({ frames := 0, cells := 0, slots := 0, locals := 0 } : Room) D (xT cI cP) [.ref mo] (wM cI mo mor moi_0 moi_2 moi_4 moi_8 moi_9 moi_11 moi_12 moi_13 moi_17 moi_18 moi_20 moi_21 moi_24 moi_26 moi_28 moi_30 moi_31 moi_32 mok_1 mok_3 mok_5 mok_6 mok_7 mok_10 mok_14 mok_15 mok_16 mok_19 mok_22 mok_23 mok_25 mok_27 mok_29 mok_33 mok_34) sz (fun r (u : (Int32)) => fX7_forget moi_28 = some (r, u)) (fun u => wM cI mo mor moi_0 moi_2 moi_4 moi_8 moi_9 moi_11 moi_12 moi_13 moi_17 moi_18 moi_20 moi_21 moi_24 moi_26 u moi_30 moi_31 moi_32 mok_1 mok_3 mok_5 mok_6 mok_7 mok_10 mok_14 mok_15 mok_16 mok_19 mok_22 mok_23 mok_25 mok_27 mok_29 mok_33 mok_34) 0 0 := by
  refine xMi_of (cc := cX7_forget) (maxL := 2) (by decide +kernel) rfl (Nat.le_of_ble_eq_true rfl) ?_
  intro p e s m args below meth c A ls hx hb hml hown hts hname hN hK hA hP hD hS hl Q hret
  have he := fX7_forget.eq_1 moi_28
  have hl : lv_has ls 2 [(0, .ref mo)] := hl
  refine lv_aload_n hx hb dX7_forget_0 rfl (lv_at hl 0 rfl) ?_
  refine va_get (D := D) (ci := 7) (v := .int moi_28) (C := RX7) (T := TX7) (N := 35) hx hb hts hi_X7_forget_7 hown hK hP 0 wM_0 rfl 28 (by decide) (hts (.fieldLink RX7 132 "BlindLanternsModel" "sights" "I") (List.mem_of_getElem? (i := 1) rfl)) (fun _ h9 => h9) xMf_28 dX7_forget_1 ?_
  refine lv_istore_n (lv' := [(1, .int moi_28), (0, .ref mo)]) hx hb dX7_forget_4 rfl hl (by decide) rfl (fun ls hl => ?_)
  refine lv_aload_n hx hb dX7_forget_5 rfl (lv_at hl 1 rfl) ?_
  refine lv_iconst (v := 0) hx hb dX7_forget_6 (by decide) ?_
  refine va_put (D := D) (ci := 7) (v := .int (0 : Int32)) (ty := .int) (C := RX7) (T := TX7) (N := 35) hx hb hts hi_X7_forget_7 tyX7 tyX7_ok nmX7 hown hK hP hD hS 0 wM_0 rfl 28 (by decide) (hts (.fieldLink RX7 132 "BlindLanternsModel" "sights" "I") (List.mem_of_getElem? (i := 1) rfl)) (fun _ h9 => h9) rfl (by decide +kernel) rfl rfl (Nat.le_of_ble_eq_true rfl) dX7_forget_7 (fun H locs hP hD hS => ?_)
  rw [wM_p28] at hP hD
  refine lv_iload_n hx hb dX7_forget_10 rfl (lv_at hl 0 rfl) ?_
  exact hret moi_28 (0 : Int32) _ _ _ _ dX7_forget_11 he hP hD hS
