def fX6_firstThatFinishes_L3 (ti_4 : Int32) (qi_3 : Int32) (qk_1 : Nat → Int32) (zf : Nat → Int32) (a1 : Int32) (a2 : Int32) (a3 : Int32) (a4 : Int64) (k3 : Int32 → Option (Int32)) : Nat → Int32 → Option (Int32)
  | 0, _ => none
  | n3 + 1, v3_6 => if ti_4 ≤ v3_6 then (k3 v3_6) else (if (a1 &&& ((1 : Int32) <<< (v3_6 &&& 31))) = 0 then (if (lg_cmp (((a4.toUInt64 >>> ((a1 ||| ((1 : Int32) <<< (v3_6 &&& 31))).toInt64.toUInt64 &&& Int64.toUInt64 63)).toInt64) &&& (1 : Int64)) (1 : Int64)) = 0 then (xbd (fX3_get zf a2 6) (fun (r65 : Int32) => xbd (fX1_litFor qi_3 qk_1 v3_6 r65) (fun (r68 : Int32) => if r68 < a3 then (fX6_firstThatFinishes_L3 ti_4 qi_3 qk_1 zf a1 a2 a3 a4 k3 n3 (v3_6 + 1)) else (some v3_6)))) else (fX6_firstThatFinishes_L3 ti_4 qi_3 qk_1 zf a1 a2 a3 a4 k3 n3 (v3_6 + 1))) else (fX6_firstThatFinishes_L3 ti_4 qi_3 qk_1 zf a1 a2 a3 a4 k3 n3 (v3_6 + 1)))
def fX6_firstThatFinishes (F : Nat) (ti_4 : Int32) (qi_3 : Int32) (qk_1 : Nat → Int32) (zf : Nat → Int32) (a1 : Int32) (a2 : Int32) (a3 : Int32) (a4 : Int64) : Option (Int32) :=
  fX6_firstThatFinishes_L3 ti_4 qi_3 qk_1 zf a1 a2 a3 a4 (fun (v3_6 : Int32) => some (-4 : Int32)) F (0 : Int32)
theorem hi_X6_firstThatFinishes_5 : ∀ w ∈ wsX50, w ∈ wsX6_firstThatFinishes := fun _ h => (List.mem_cons_of_mem _ (List.mem_append_left _ (List.mem_append_left _ (List.mem_append_right _ h))))
theorem hi_X6_firstThatFinishes_6 : ∀ w ∈ wsX60, w ∈ wsX6_firstThatFinishes := fun _ h => (List.mem_cons_of_mem _ (List.mem_append_left _ (List.mem_append_left _ (List.mem_append_left _ (List.mem_append_right _ h)))))
set_option maxHeartbeats 4000000 in
set_option maxRecDepth 100000 in
theorem c_X6_firstThatFinishes (l : Launch) (D : va_G) (cI cP : ClassId) (sz : Nat) (x : Nat) (xr : Nat → Nat) (xl : Int32) (xt : Nat) (xd : Nat) (tr : Nat → Nat) (ta : Nat → Nat) (ti : Nat → Int32) (tk : Nat → Nat → Int32) (qr : Nat → Nat) (qa : Nat → Nat) (qi : Nat → Int32) (qk : Nat → Nat → Int32) (za : Nat) (zf : Nat → Int32) (F : Nat) (a1 : Int32) (a2 : Int32) (a3 : Int32) (a4 : Int64) (hne : fX6_firstThatFinishes F (ti 4) (qi 3) (qk 1) zf a1 a2 a3 a4 ≠ none) : xMi l yX6_firstThatFinishes wsX6_firstThatFinishes ({ frames := 2, cells := 0, slots := 0, locals := 43 } : Room) D (xT cI cP) [.ref x, .int a1, .int a2, .int a3, .long a4] ((wX x xr xl xt xd) ++ (wTold cI xt tr ta ti tk) ++ (wPass cI (xr 5) qr qa qi qk) ++ (wRow cI (xr 7) za 6 zf)) sz (fun r (_ : Unit) => fX6_firstThatFinishes F (ti 4) (qi 3) (qk 1) zf a1 a2 a3 a4 = some r) (fun u => (wX x xr xl xt xd) ++ (wTold cI xt tr ta ti tk) ++ (wPass cI (xr 5) qr qa qi qk) ++ (wRow cI (xr 7) za 6 zf)) 0 0 := by
  refine xMi_of (cc := cX6_firstThatFinishes) (maxL := 9) (by decide +kernel) rfl (Nat.le_of_ble_eq_true rfl) ?_
  intro p e s m args below meth c A ls hx hb hml hown hts hname hN hK hA hP hD hS hl Q hret
  have he := fX6_firstThatFinishes.eq_1 F (ti 4) (qi 3) (qk 1) zf a1 a2 a3 a4
  have hl : lv_has ls 9 [(0, .ref x), (1, .int a1), (2, .int a2), (3, .int a3), (4, .long a4)] := hl
  have R3_0 : ∀ (v3_6 : Int32), fX6_firstThatFinishes F (ti 4) (qi 3) (qk 1) zf a1 a2 a3 a4 = (some (-4 : Int32)) → ∀ (H : Heap) (locs : List Loc) (ls : Array Slot), va_P D vwCl ((wX x xr xl xt xd) ++ (wTold cI xt tr ta ti tk) ++ (wPass cI (xr 5) qr qa qi qk) ++ (wRow cI (xr 7) za 6 zf)) H → va_D A ((wX x xr xl xt xd) ++ (wTold cI xt tr ta ti tk) ++ (wPass cI (xr 5) qr qa qi qk) ++ (wRow cI (xr 7) za 6 zf)) → va_S A s.heap H locs → lv_has ls 9 [] → W p l e ({ frames := 2, cells := 0, slots := 0, locals := 43 } : Room) s m args below meth c H locs 0 0 Q (F0 m 84 ls []) := by
    intro v3_6 he H locs ls hP hD hS hl
    refine lv_bipush (v := -4) hx hb dX6_firstThatFinishes_84 (by decide) ?_
    exact hret (-4 : Int32) () _ _ _ _ dX6_firstThatFinishes_86 he hP hD hS
  have L3_4 : ∀ (n3 : Nat) (v3_6 : Int32), fX6_firstThatFinishes F (ti 4) (qi 3) (qk 1) zf a1 a2 a3 a4 = fX6_firstThatFinishes_L3 (ti 4) (qi 3) (qk 1) zf a1 a2 a3 a4 (fun (v3_6 : Int32) => some (-4 : Int32)) n3 v3_6 → ∀ (H : Heap) (locs : List Loc) (ls : Array Slot), va_P D vwCl ((wX x xr xl xt xd) ++ (wTold cI xt tr ta ti tk) ++ (wPass cI (xr 5) qr qa qi qk) ++ (wRow cI (xr 7) za 6 zf)) H → va_D A ((wX x xr xl xt xd) ++ (wTold cI xt tr ta ti tk) ++ (wPass cI (xr 5) qr qa qi qk) ++ (wRow cI (xr 7) za 6 zf)) → va_S A s.heap H locs → lv_has ls 9 [(6, .int v3_6), (0, .ref x), (1, .int a1), (2, .int a2), (3, .int a3), (4, .long a4)] → W p l e ({ frames := 2, cells := 0, slots := 0, locals := 43 } : Room) s m args below meth c H locs 0 0 Q (F0 m 3 ls []) := by
    intro n3
    induction n3 with
    | zero => intro v3_6 he; exact absurd he hne
    | succ n3 ih3 =>
      intro v3_6 he H locs ls hP hD hS hl
      replace he := he.trans (fX6_firstThatFinishes_L3.eq_2 _ _ _ _ _ _ _ _ _ _ _)
      refine lv_iload hx hb dX6_firstThatFinishes_3 (lv_at hl 0 rfl) ?_
      refine lv_aload_n hx hb dX6_firstThatFinishes_5 rfl (lv_at hl 1 rfl) ?_
      refine va_get (D := D) (ci := 6) (v := .ref xt) (C := RX6) (T := TX6) (N := 12) hx hb hts hi_X6_firstThatFinishes_6 hown hK hP 0 rfl rfl 10 (by decide) (hts (.fieldLink RX6 61 "BlindLanterns" "told" "LBlindLanterns$Told;") (List.mem_of_getElem? (i := 1) rfl)) (fun _ h9 => h9) rfl dX6_firstThatFinishes_6 ?_
      refine va_getN (D := D) (ci := 5) (v := .int (ti 4)) (C := RX5) (T := TX5) (N := 11) hx hb hts hi_X6_firstThatFinishes_5 hown hK hP 1 rfl rfl 4 (by decide) (va_Nw.use rfl (hN (.fieldLinkNest RX6 100 "BlindLanterns$Told" "men" "I" "BlindLanterns") (List.mem_of_getElem? (i := 15) rfl))) (fun _ h9 => h9) rfl dX6_firstThatFinishes_9 ?_
      refine lv_icmp_ge (tgt := 84) hx hb dX6_firstThatFinishes_12 (by decide) (fun c1 => ?_) (fun c1 => ?_)
      · replace he := he.trans (if_pos c1)
        exact R3_0 v3_6 he _ _ _ hP hD hS (lv_sub hl [] rfl)
      · replace he := he.trans (if_neg c1)
        refine lv_iconst (v := 1) hx hb dX6_firstThatFinishes_15 (by decide) ?_
        refine lv_iload hx hb dX6_firstThatFinishes_16 (lv_at hl 0 rfl) ?_
        refine lv_ishl hx hb dX6_firstThatFinishes_18 ?_
        refine lv_istore (lv' := [(7, .int ((1 : Int32) <<< (v3_6 &&& 31))), (6, .int v3_6), (0, .ref x), (1, .int a1), (2, .int a2), (3, .int a3), (4, .long a4)]) hx hb dX6_firstThatFinishes_19 hl (by decide) rfl (fun ls hl => ?_)
        refine lv_iload_n hx hb dX6_firstThatFinishes_21 rfl (lv_at hl 3 rfl) ?_
        refine lv_iload hx hb dX6_firstThatFinishes_22 (lv_at hl 0 rfl) ?_
        refine lv_iand hx hb dX6_firstThatFinishes_24 ?_
        refine lv_if_ne (tgt := 46) hx hb dX6_firstThatFinishes_25 (by decide) (fun c2 => ?_) (fun c2 => ?_)
        · replace he := he.trans (if_neg c2)
          refine lv_iconst (v := 0) hx hb dX6_firstThatFinishes_46 (by decide) ?_
          refine lv_istore (lv' := [(8, .int (0 : Int32)), (7, .int ((1 : Int32) <<< (v3_6 &&& 31))), (6, .int v3_6), (0, .ref x), (1, .int a1), (2, .int a2), (3, .int a3), (4, .long a4)]) hx hb dX6_firstThatFinishes_47 hl (by decide) rfl (fun ls hl => ?_)
          refine lv_iload hx hb dX6_firstThatFinishes_49 (lv_at hl 0 rfl) ?_
          refine lv_if_eq (tgt := 78) hx hb dX6_firstThatFinishes_51 (by decide) (fun _ => ?_) (fun c0 => absurd (by decide) c0)
          refine lv_iinc (v := (v3_6 + 1)) (lv' := [(6, .int (v3_6 + 1)), (8, .int (0 : Int32)), (7, .int ((1 : Int32) <<< (v3_6 &&& 31))), (0, .ref x), (1, .int a1), (2, .int a2), (3, .int a3), (4, .long a4)]) hx hb dX6_firstThatFinishes_78 hl (k := 2) rfl rfl (by decide) rfl (fun ls hl => ?_)
          refine lv_goto (tgt := 3) hx hb dX6_firstThatFinishes_81 (by decide) ?_
          exact ih3 (v3_6 + 1) he _ _ _ hP hD hS (lv_sub hl [0, 3, 4, 5, 6, 7] rfl)
        · replace he := he.trans (if_pos c2)
          refine lv_lload hx hb dX6_firstThatFinishes_28 (lv_at hl 6 rfl) ?_
          refine lv_iload_n hx hb dX6_firstThatFinishes_30 rfl (lv_at hl 3 rfl) ?_
          refine lv_iload hx hb dX6_firstThatFinishes_31 (lv_at hl 0 rfl) ?_
          refine lv_ior hx hb dX6_firstThatFinishes_33 ?_
          refine lv_lushr hx hb dX6_firstThatFinishes_34 rfl ?_
          refine lv_lconst (v := 1) hx hb dX6_firstThatFinishes_35 (by decide) ?_
          refine lv_land hx hb dX6_firstThatFinishes_36 ?_
          refine lv_lconst (v := 1) hx hb dX6_firstThatFinishes_37 (by decide) ?_
          refine W.lcmp hx hb dX6_firstThatFinishes_38 ?_
          refine lv_if_ne (tgt := 46) hx hb dX6_firstThatFinishes_39 (by decide) (fun c3 => ?_) (fun c3 => ?_)
          · replace he := he.trans (if_neg c3)
            refine lv_iconst (v := 0) hx hb dX6_firstThatFinishes_46 (by decide) ?_
            refine lv_istore (lv' := [(8, .int (0 : Int32)), (7, .int ((1 : Int32) <<< (v3_6 &&& 31))), (6, .int v3_6), (0, .ref x), (1, .int a1), (2, .int a2), (3, .int a3), (4, .long a4)]) hx hb dX6_firstThatFinishes_47 hl (by decide) rfl (fun ls hl => ?_)
            refine lv_iload hx hb dX6_firstThatFinishes_49 (lv_at hl 0 rfl) ?_
            refine lv_if_eq (tgt := 78) hx hb dX6_firstThatFinishes_51 (by decide) (fun _ => ?_) (fun c0 => absurd (by decide) c0)
            refine lv_iinc (v := (v3_6 + 1)) (lv' := [(6, .int (v3_6 + 1)), (8, .int (0 : Int32)), (7, .int ((1 : Int32) <<< (v3_6 &&& 31))), (0, .ref x), (1, .int a1), (2, .int a2), (3, .int a3), (4, .long a4)]) hx hb dX6_firstThatFinishes_78 hl (k := 2) rfl rfl (by decide) rfl (fun ls hl => ?_)
            refine lv_goto (tgt := 3) hx hb dX6_firstThatFinishes_81 (by decide) ?_
            exact ih3 (v3_6 + 1) he _ _ _ hP hD hS (lv_sub hl [0, 3, 4, 5, 6, 7] rfl)
          · replace he := he.trans (if_pos c3)
            refine lv_iconst (v := 1) hx hb dX6_firstThatFinishes_42 (by decide) ?_
            refine lv_goto (tgt := 47) hx hb dX6_firstThatFinishes_43 (by decide) ?_
            refine lv_istore (lv' := [(8, .int (1 : Int32)), (7, .int ((1 : Int32) <<< (v3_6 &&& 31))), (6, .int v3_6), (0, .ref x), (1, .int a1), (2, .int a2), (3, .int a3), (4, .long a4)]) hx hb dX6_firstThatFinishes_47 hl (by decide) rfl (fun ls hl => ?_)
            refine lv_iload hx hb dX6_firstThatFinishes_49 (lv_at hl 0 rfl) ?_
            refine lv_if_eq (tgt := 78) hx hb dX6_firstThatFinishes_51 (by decide) (fun c0 => absurd c0 (by decide)) (fun _ => ?_)
            refine lv_aload_n hx hb dX6_firstThatFinishes_54 rfl (lv_at hl 3 rfl) ?_
            refine va_get (D := D) (ci := 6) (v := .ref (xr 5)) (C := RX6) (T := TX6) (N := 12) hx hb hts hi_X6_firstThatFinishes_6 hown hK hP 0 rfl rfl 5 (by decide) (hts (.fieldLink RX6 45 "BlindLanterns" "pass" "LBlindLanterns$Pass;") (List.mem_of_getElem? (i := 2) rfl)) (fun _ h9 => h9) rfl dX6_firstThatFinishes_55 ?_
            refine lv_iload hx hb dX6_firstThatFinishes_58 (lv_at hl 2 rfl) ?_
            refine lv_aload_n hx hb dX6_firstThatFinishes_60 rfl (lv_at hl 3 rfl) ?_
            refine va_get (D := D) (ci := 6) (v := .ref (xr 7)) (C := RX6) (T := TX6) (N := 12) hx hb hts hi_X6_firstThatFinishes_6 hown hK hP 0 rfl rfl 7 (by decide) (hts (.fieldLink RX6 52 "BlindLanterns" "draughtIn" "LBlindLanterns$Row;") (List.mem_of_getElem? (i := 3) rfl)) (fun _ h9 => h9) rfl dX6_firstThatFinishes_61 ?_
            refine lv_iload_n hx hb dX6_firstThatFinishes_64 rfl (lv_at hl 5 rfl) ?_
            have n4_ : fX3_get zf a2 6 ≠ none := fun z => hne (he.trans (xbd_none z))
            refine xci (va_runV (As := [.int a2]) (rest := [.int v3_6, .ref (xr 5)]) ⟨hx, hb, hml, hown, hts⟩ (c_X3_get l D cI cP H.size (xr 7) za 6 zf a2 n4_) (cwV 1 hts gX6_firstThatFinishes_X3_get rfl rfl rfl (by decide +kernel) ⟨Nat.le_of_ble_eq_true rfl, Nat.le_of_ble_eq_true rfl⟩) (xPV hN hK hP hD [15, 16] rfl (by decide) (ci := 3) (j := 15) rfl rfl) rfl rfl hl.1 rfl (lv_room (Nat.le_of_ble_eq_true rfl)) dX6_firstThatFinishes_65 ⟨Nat.le_of_ble_eq_true rfl, Nat.le_of_ble_eq_true rfl⟩) hP hD hS hA [15, 16] rfl (fun _ => rfl) (fun r65 u65 H locs hw hP hD hS => ?_)
            have hP : va_P D vwCl ((wX x xr xl xt xd) ++ (wTold cI xt tr ta ti tk) ++ (wPass cI (xr 5) qr qa qi qk) ++ (wRow cI (xr 7) za 6 zf)) H := hP
            have hD : va_D A ((wX x xr xl xt xd) ++ (wTold cI xt tr ta ti tk) ++ (wPass cI (xr 5) qr qa qi qk) ++ (wRow cI (xr 7) za 6 zf)) := hD
            replace he := he.trans (xbd_some hw)
            have n5_ : fX1_litFor (qi 3) (qk 1) v3_6 r65 ≠ none := fun z => hne (he.trans (xbd_none z))
            refine xci (va_runV (As := [.int v3_6, .int r65]) (rest := []) ⟨hx, hb, hml, hown, hts⟩ (c_X1_litFor l D cI cP H.size (xr 5) qr qa qi qk v3_6 r65 n5_) (cwV 2 hts gX6_firstThatFinishes_X1_litFor rfl rfl rfl (by decide +kernel) ⟨Nat.le_of_ble_eq_true rfl, Nat.le_of_ble_eq_true rfl⟩) (xPV hN hK hP hD [10, 11, 12, 13, 14] rfl (by decide) (ci := 1) (j := 10) rfl rfl) rfl rfl hl.1 rfl (lv_room (Nat.le_of_ble_eq_true rfl)) dX6_firstThatFinishes_68 ⟨Nat.le_of_ble_eq_true rfl, Nat.le_of_ble_eq_true rfl⟩) hP hD hS hA [10, 11, 12, 13, 14] rfl (fun _ => rfl) (fun r68 u68 H locs hw hP hD hS => ?_)
            have hP : va_P D vwCl ((wX x xr xl xt xd) ++ (wTold cI xt tr ta ti tk) ++ (wPass cI (xr 5) qr qa qi qk) ++ (wRow cI (xr 7) za 6 zf)) H := hP
            have hD : va_D A ((wX x xr xl xt xd) ++ (wTold cI xt tr ta ti tk) ++ (wPass cI (xr 5) qr qa qi qk) ++ (wRow cI (xr 7) za 6 zf)) := hD
            replace he := he.trans (xbd_some hw)
            refine lv_iload_n hx hb dX6_firstThatFinishes_71 rfl (lv_at hl 6 rfl) ?_
            refine lv_icmp_lt (tgt := 78) hx hb dX6_firstThatFinishes_72 (by decide) (fun c6 => ?_) (fun c6 => ?_)
            · replace he := he.trans (if_pos c6)
              refine lv_iinc (v := (v3_6 + 1)) (lv' := [(6, .int (v3_6 + 1)), (8, .int (1 : Int32)), (7, .int ((1 : Int32) <<< (v3_6 &&& 31))), (0, .ref x), (1, .int a1), (2, .int a2), (3, .int a3), (4, .long a4)]) hx hb dX6_firstThatFinishes_78 hl (k := 2) rfl rfl (by decide) rfl (fun ls hl => ?_)
              refine lv_goto (tgt := 3) hx hb dX6_firstThatFinishes_81 (by decide) ?_
              exact ih3 (v3_6 + 1) he _ _ _ hP hD hS (lv_sub hl [0, 3, 4, 5, 6, 7] rfl)
            · replace he := he.trans (if_neg c6)
              refine lv_iload hx hb dX6_firstThatFinishes_75 (lv_at hl 2 rfl) ?_
              exact hret v3_6 () _ _ _ _ dX6_firstThatFinishes_77 he hP hD hS
  refine lv_iconst (v := 0) hx hb dX6_firstThatFinishes_0 (by decide) ?_
  refine lv_istore (lv' := [(6, .int (0 : Int32)), (0, .ref x), (1, .int a1), (2, .int a2), (3, .int a3), (4, .long a4)]) hx hb dX6_firstThatFinishes_1 hl (by decide) rfl (fun ls hl => ?_)
  exact L3_4 F (0 : Int32) he _ _ _ hP hD hS (lv_sub hl [0, 1, 2, 3, 4, 5] rfl)

def fX6_waysToFinish_L22 (ti_4 : Int32) (ti_7 : Int32) (qi_3 : Int32) (qk_1 : Nat → Int32) (zf : Nat → Int32) (a1 : Int32) (a2 : Int32) (F : Nat) (k22 : Int32 → Int64 → Option (Int64)) : Nat → Int32 → Int64 → Option (Int64)
  | 0, _, _ => none
  | n22 + 1, v22_6, v22_4 => if v22_6 < 0 then (k22 v22_6 v22_4) else (xbd (fJ6_bitCount_0f7a4 v22_6) (fun (r29 : Int32) => xbd (fX5_bellsNeeded F ti_4 ti_7 r29 a1 a2) (fun (r47 : Int32) => xbd (fX6_firstThatFinishes F ti_4 qi_3 qk_1 zf v22_6 r29 r47 v22_4) (fun (r52 : Int32) => if r52 = (-4 : Int32) then (fX6_waysToFinish_L22 ti_4 ti_7 qi_3 qk_1 zf a1 a2 F k22 n22 (v22_6 + (-1)) v22_4) else (fX6_waysToFinish_L22 ti_4 ti_7 qi_3 qk_1 zf a1 a2 F k22 n22 (v22_6 + (-1)) (v22_4 ||| ((1 : Int64) <<< (v22_6.toInt64 &&& 63))))))))
def fX6_waysToFinish (F : Nat) (ti_4 : Int32) (ti_7 : Int32) (qi_3 : Int32) (qk_1 : Nat → Int32) (zf : Nat → Int32) (a1 : Int32) (a2 : Int32) : Option (Int64) :=
  fX6_waysToFinish_L22 ti_4 ti_7 qi_3 qk_1 zf a1 a2 F (fun (v22_6 : Int32) (v22_4 : Int64) => some v22_4) F ((((1 : Int32) <<< (ti_4 &&& 31)) - (1 : Int32)) - (1 : Int32)) ((1 : Int64) <<< ((((1 : Int32) <<< (ti_4 &&& 31)) - (1 : Int32)).toInt64 &&& 63))
theorem hi_X6_waysToFinish_5 : ∀ w ∈ wsX50, w ∈ wsX6_waysToFinish := fun _ h => (List.mem_cons_of_mem _ (List.mem_append_left _ (List.mem_append_left _ (List.mem_append_right _ h))))
theorem hi_X6_waysToFinish_6 : ∀ w ∈ wsX60, w ∈ wsX6_waysToFinish := fun _ h => (List.mem_cons_of_mem _ (List.mem_append_left _ (List.mem_append_left _ (List.mem_append_left _ (List.mem_append_right _ h)))))
set_option maxHeartbeats 4000000 in
set_option maxRecDepth 100000 in
theorem c_X6_waysToFinish (l : Launch) (D : va_G) (cI cP : ClassId) (sz : Nat) (x : Nat) (xr : Nat → Nat) (xl : Int32) (xt : Nat) (xd : Nat) (tr : Nat → Nat) (ta : Nat → Nat) (ti : Nat → Int32) (tk : Nat → Nat → Int32) (qr : Nat → Nat) (qa : Nat → Nat) (qi : Nat → Int32) (qk : Nat → Nat → Int32) (za : Nat) (zf : Nat → Int32) (F : Nat) (a1 : Int32) (a2 : Int32) (hne : fX6_waysToFinish F (ti 4) (ti 7) (qi 3) (qk 1) zf a1 a2 ≠ none) : xMl l yX6_waysToFinish wsX6_waysToFinish ({ frames := 3, cells := 0, slots := 0, locals := 71 } : Room) D (xT cI cP) [.ref x, .int a1, .int a2] ((wX x xr xl xt xd) ++ (wTold cI xt tr ta ti tk) ++ (wPass cI (xr 5) qr qa qi qk) ++ (wRow cI (xr 7) za 6 zf)) sz (fun r (_ : Unit) => fX6_waysToFinish F (ti 4) (ti 7) (qi 3) (qk 1) zf a1 a2 = some r) (fun u => (wX x xr xl xt xd) ++ (wTold cI xt tr ta ti tk) ++ (wPass cI (xr 5) qr qa qi qk) ++ (wRow cI (xr 7) za 6 zf)) 0 0 := by
  refine xMl_of (cc := cX6_waysToFinish) (maxL := 8) (by decide +kernel) rfl (Nat.le_of_ble_eq_true rfl) ?_
  intro p e s m args below meth c A ls hx hb hml hown hts hname hN hK hA hP hD hS hl Q hret
  have he := fX6_waysToFinish.eq_1 F (ti 4) (ti 7) (qi 3) (qk 1) zf a1 a2
  have hl : lv_has ls 8 [(0, .ref x), (1, .int a1), (2, .int a2)] := hl
  have R22_0 : ∀ (v22_6 : Int32) (v22_4 : Int64), fX6_waysToFinish F (ti 4) (ti 7) (qi 3) (qk 1) zf a1 a2 = (some v22_4) → ∀ (H : Heap) (locs : List Loc) (ls : Array Slot), va_P D vwCl ((wX x xr xl xt xd) ++ (wTold cI xt tr ta ti tk) ++ (wPass cI (xr 5) qr qa qi qk) ++ (wRow cI (xr 7) za 6 zf)) H → va_D A ((wX x xr xl xt xd) ++ (wTold cI xt tr ta ti tk) ++ (wPass cI (xr 5) qr qa qi qk) ++ (wRow cI (xr 7) za 6 zf)) → va_S A s.heap H locs → lv_has ls 8 [(4, .long v22_4)] → W p l e ({ frames := 3, cells := 0, slots := 0, locals := 71 } : Room) s m args below meth c H locs 0 0 Q (F0 m 75 ls []) := by
    intro v22_6 v22_4 he H locs ls hP hD hS hl
    refine lv_lload hx hb dX6_waysToFinish_75 (lv_at hl 0 rfl) ?_
    exact hret v22_4 () _ _ _ _ dX6_waysToFinish_77 he hP hD hS
  have L22_4 : ∀ (n22 : Nat) (v22_6 : Int32) (v22_4 : Int64), fX6_waysToFinish F (ti 4) (ti 7) (qi 3) (qk 1) zf a1 a2 = fX6_waysToFinish_L22 (ti 4) (ti 7) (qi 3) (qk 1) zf a1 a2 F (fun (v22_6 : Int32) (v22_4 : Int64) => some v22_4) n22 v22_6 v22_4 → ∀ (H : Heap) (locs : List Loc) (ls : Array Slot), va_P D vwCl ((wX x xr xl xt xd) ++ (wTold cI xt tr ta ti tk) ++ (wPass cI (xr 5) qr qa qi qk) ++ (wRow cI (xr 7) za 6 zf)) H → va_D A ((wX x xr xl xt xd) ++ (wTold cI xt tr ta ti tk) ++ (wPass cI (xr 5) qr qa qi qk) ++ (wRow cI (xr 7) za 6 zf)) → va_S A s.heap H locs → lv_has ls 8 [(6, .int v22_6), (4, .long v22_4), (0, .ref x), (1, .int a1), (2, .int a2)] → W p l e ({ frames := 3, cells := 0, slots := 0, locals := 71 } : Room) s m args below meth c H locs 0 0 Q (F0 m 22 ls []) := by
    intro n22
    induction n22 with
    | zero => intro v22_6 v22_4 he; exact absurd he hne
    | succ n22 ih22 =>
      intro v22_6 v22_4 he H locs ls hP hD hS hl
      replace he := he.trans (fX6_waysToFinish_L22.eq_2 _ _ _ _ _ _ _ _ _ _ _ _)
      refine lv_iload hx hb dX6_waysToFinish_22 (lv_at hl 0 rfl) ?_
      refine lv_if_lt (tgt := 75) hx hb dX6_waysToFinish_24 (by decide) (fun c1 => ?_) (fun c1 => ?_)
      · replace he := he.trans (if_pos c1)
        exact R22_0 v22_6 v22_4 he _ _ _ hP hD hS (lv_sub hl [1] rfl)
      · replace he := he.trans (if_neg c1)
        refine lv_iload hx hb dX6_waysToFinish_27 (lv_at hl 0 rfl) ?_
        have n2_ : fJ6_bitCount_0f7a4 v22_6 ≠ none := fun z => hne (he.trans (xbd_none z))
        refine xci (va_runS (As := [.int v22_6]) (rest := []) ⟨hx, hb, hml, hown, hts⟩ (c_J6_bitCount_0f7a4 l D cI cP H.size  v22_6 n2_) (va_cwS 1 hts gX6_waysToFinish_J6_bitCount_0f7a4 rfl rfl rfl (by decide +kernel) ⟨Nat.le_of_ble_eq_true rfl, Nat.le_of_ble_eq_true rfl⟩) (xPS hN hK hP hD [] rfl (by decide)) rfl rfl hl.1 rfl (lv_room (Nat.le_of_ble_eq_true rfl)) dX6_waysToFinish_29 ⟨Nat.le_of_ble_eq_true rfl, Nat.le_of_ble_eq_true rfl⟩) hP hD hS hA [] rfl (fun _ => rfl) (fun r29 u29 H locs hw hP hD hS => ?_)
        have hP : va_P D vwCl ((wX x xr xl xt xd) ++ (wTold cI xt tr ta ti tk) ++ (wPass cI (xr 5) qr qa qi qk) ++ (wRow cI (xr 7) za 6 zf)) H := hP
        have hD : va_D A ((wX x xr xl xt xd) ++ (wTold cI xt tr ta ti tk) ++ (wPass cI (xr 5) qr qa qi qk) ++ (wRow cI (xr 7) za 6 zf)) := hD
        replace he := he.trans (xbd_some hw)
        refine lv_istore (lv' := [(7, .int r29), (6, .int v22_6), (4, .long v22_4), (0, .ref x), (1, .int a1), (2, .int a2)]) hx hb dX6_waysToFinish_32 hl (by decide) rfl (fun ls hl => ?_)
        refine lv_aload_n hx hb dX6_waysToFinish_34 rfl (lv_at hl 3 rfl) ?_
        refine lv_iload hx hb dX6_waysToFinish_35 (lv_at hl 1 rfl) ?_
        refine lv_iload hx hb dX6_waysToFinish_37 (lv_at hl 0 rfl) ?_
        refine lv_aload_n hx hb dX6_waysToFinish_39 rfl (lv_at hl 3 rfl) ?_
        refine va_get (D := D) (ci := 6) (v := .ref xt) (C := RX6) (T := TX6) (N := 12) hx hb hts hi_X6_waysToFinish_6 hown hK hP 0 rfl rfl 10 (by decide) (hts (.fieldLink RX6 61 "BlindLanterns" "told" "LBlindLanterns$Told;") (List.mem_of_getElem? (i := 1) rfl)) (fun _ h9 => h9) rfl dX6_waysToFinish_40 ?_
        refine lv_iload hx hb dX6_waysToFinish_43 (lv_at hl 0 rfl) ?_
        refine lv_iload_n hx hb dX6_waysToFinish_45 rfl (lv_at hl 4 rfl) ?_
        refine lv_iload_n hx hb dX6_waysToFinish_46 rfl (lv_at hl 5 rfl) ?_
        have n3_ : fX5_bellsNeeded F (ti 4) (ti 7) r29 a1 a2 ≠ none := fun z => hne (he.trans (xbd_none z))
        refine xci (va_runV (As := [.int r29, .int a1, .int a2]) (rest := [.int r29, .int v22_6, .ref x]) ⟨hx, hb, hml, hown, hts⟩ (c_X5_bellsNeeded l D cI cP H.size xt tr ta ti tk F r29 a1 a2 n3_) (cwV 3 hts gX6_waysToFinish_X5_bellsNeeded rfl rfl rfl (by decide +kernel) ⟨Nat.le_of_ble_eq_true rfl, Nat.le_of_ble_eq_true rfl⟩) (xPV hN hK hP hD [1, 2, 3, 4, 5, 6, 7, 8, 9] rfl (by decide) (ci := 5) (j := 1) rfl rfl) rfl rfl hl.1 rfl (lv_room (Nat.le_of_ble_eq_true rfl)) dX6_waysToFinish_47 ⟨Nat.le_of_ble_eq_true rfl, Nat.le_of_ble_eq_true rfl⟩) hP hD hS hA [1, 2, 3, 4, 5, 6, 7, 8, 9] rfl (fun _ => rfl) (fun r47 u47 H locs hw hP hD hS => ?_)
        have hP : va_P D vwCl ((wX x xr xl xt xd) ++ (wTold cI xt tr ta ti tk) ++ (wPass cI (xr 5) qr qa qi qk) ++ (wRow cI (xr 7) za 6 zf)) H := hP
        have hD : va_D A ((wX x xr xl xt xd) ++ (wTold cI xt tr ta ti tk) ++ (wPass cI (xr 5) qr qa qi qk) ++ (wRow cI (xr 7) za 6 zf)) := hD
        replace he := he.trans (xbd_some hw)
        refine lv_lload hx hb dX6_waysToFinish_50 (lv_at hl 2 rfl) ?_
        have n4_ : fX6_firstThatFinishes F (ti 4) (qi 3) (qk 1) zf v22_6 r29 r47 v22_4 ≠ none := fun z => hne (he.trans (xbd_none z))
        refine xci (va_runV (As := [.int v22_6, .int r29, .int r47, .long v22_4]) (rest := []) ⟨hx, hb, hml, hown, hts⟩ (c_X6_firstThatFinishes l D cI cP H.size x xr xl xt xd tr ta ti tk qr qa qi qk za zf F v22_6 r29 r47 v22_4 n4_) (cwV 4 hts gX6_waysToFinish_X6_firstThatFinishes rfl rfl rfl (by decide +kernel) ⟨Nat.le_of_ble_eq_true rfl, Nat.le_of_ble_eq_true rfl⟩) (xPV hN hK hP hD [0, 1, 2, 3, 4, 5, 6, 7, 8, 9, 10, 11, 12, 13, 14, 15, 16] rfl (by decide) (ci := 6) (j := 0) rfl rfl) rfl rfl hl.1 rfl (lv_room (Nat.le_of_ble_eq_true rfl)) dX6_waysToFinish_52 ⟨Nat.le_of_ble_eq_true rfl, Nat.le_of_ble_eq_true rfl⟩) hP hD hS hA [0, 1, 2, 3, 4, 5, 6, 7, 8, 9, 10, 11, 12, 13, 14, 15, 16] rfl (fun _ => rfl) (fun r52 u52 H locs hw hP hD hS => ?_)
        have hP : va_P D vwCl ((wX x xr xl xt xd) ++ (wTold cI xt tr ta ti tk) ++ (wPass cI (xr 5) qr qa qi qk) ++ (wRow cI (xr 7) za 6 zf)) H := hP
        have hD : va_D A ((wX x xr xl xt xd) ++ (wTold cI xt tr ta ti tk) ++ (wPass cI (xr 5) qr qa qi qk) ++ (wRow cI (xr 7) za 6 zf)) := hD
        replace he := he.trans (xbd_some hw)
        refine lv_bipush (v := -4) hx hb dX6_waysToFinish_55 (by decide) ?_
        refine lv_icmp_eq (tgt := 69) hx hb dX6_waysToFinish_57 (by decide) (fun c5 => ?_) (fun c5 => ?_)
        · replace he := he.trans (if_pos c5)
          refine lv_iinc (v := (v22_6 + (-1))) (lv' := [(6, .int (v22_6 + (-1))), (7, .int r29), (4, .long v22_4), (0, .ref x), (1, .int a1), (2, .int a2)]) hx hb dX6_waysToFinish_69 hl (k := 1) rfl rfl (by decide) rfl (fun ls hl => ?_)
          refine lv_goto (tgt := 22) hx hb dX6_waysToFinish_72 (by decide) ?_
          exact ih22 (v22_6 + (-1)) v22_4 he _ _ _ hP hD hS (lv_sub hl [0, 2, 3, 4, 5] rfl)
        · replace he := he.trans (if_neg c5)
          refine lv_lload hx hb dX6_waysToFinish_60 (lv_at hl 2 rfl) ?_
          refine lv_lconst (v := 1) hx hb dX6_waysToFinish_62 (by decide) ?_
          refine lv_iload hx hb dX6_waysToFinish_63 (lv_at hl 1 rfl) ?_
          refine lv_lshl hx hb dX6_waysToFinish_65 rfl ?_
          refine lv_lor hx hb dX6_waysToFinish_66 ?_
          refine lv_lstore (lv' := [(4, .long (v22_4 ||| ((1 : Int64) <<< (v22_6.toInt64 &&& 63)))), (7, .int r29), (6, .int v22_6), (0, .ref x), (1, .int a1), (2, .int a2)]) hx hb dX6_waysToFinish_67 hl (by decide) rfl (fun ls hl => ?_)
          refine lv_iinc (v := (v22_6 + (-1))) (lv' := [(6, .int (v22_6 + (-1))), (4, .long (v22_4 ||| ((1 : Int64) <<< (v22_6.toInt64 &&& 63)))), (7, .int r29), (0, .ref x), (1, .int a1), (2, .int a2)]) hx hb dX6_waysToFinish_69 hl (k := 2) rfl rfl (by decide) rfl (fun ls hl => ?_)
          refine lv_goto (tgt := 22) hx hb dX6_waysToFinish_72 (by decide) ?_
          exact ih22 (v22_6 + (-1)) (v22_4 ||| ((1 : Int64) <<< (v22_6.toInt64 &&& 63))) he _ _ _ hP hD hS (lv_sub hl [0, 1, 3, 4, 5] rfl)
  refine lv_iconst (v := 1) hx hb dX6_waysToFinish_0 (by decide) ?_
  refine lv_aload_n hx hb dX6_waysToFinish_1 rfl (lv_at hl 0 rfl) ?_
  refine va_get (D := D) (ci := 6) (v := .ref xt) (C := RX6) (T := TX6) (N := 12) hx hb hts hi_X6_waysToFinish_6 hown hK hP 0 rfl rfl 10 (by decide) (hts (.fieldLink RX6 61 "BlindLanterns" "told" "LBlindLanterns$Told;") (List.mem_of_getElem? (i := 1) rfl)) (fun _ h9 => h9) rfl dX6_waysToFinish_2 ?_
  refine va_getN (D := D) (ci := 5) (v := .int (ti 4)) (C := RX5) (T := TX5) (N := 11) hx hb hts hi_X6_waysToFinish_5 hown hK hP 1 rfl rfl 4 (by decide) (va_Nw.use rfl (hN (.fieldLinkNest RX6 100 "BlindLanterns$Told" "men" "I" "BlindLanterns") (List.mem_of_getElem? (i := 15) rfl))) (fun _ h9 => h9) rfl dX6_waysToFinish_5 ?_
  refine lv_ishl hx hb dX6_waysToFinish_8 ?_
  refine lv_iconst (v := 1) hx hb dX6_waysToFinish_9 (by decide) ?_
  refine lv_isub hx hb dX6_waysToFinish_10 ?_
  refine lv_istore_n (lv' := [(3, .int (((1 : Int32) <<< ((ti 4) &&& 31)) - (1 : Int32))), (0, .ref x), (1, .int a1), (2, .int a2)]) hx hb dX6_waysToFinish_11 rfl hl (by decide) rfl (fun ls hl => ?_)
  refine lv_lconst (v := 1) hx hb dX6_waysToFinish_12 (by decide) ?_
  refine lv_iload_n hx hb dX6_waysToFinish_13 rfl (lv_at hl 0 rfl) ?_
  refine lv_lshl hx hb dX6_waysToFinish_14 rfl ?_
  refine lv_lstore (lv' := [(4, .long ((1 : Int64) <<< ((((1 : Int32) <<< ((ti 4) &&& 31)) - (1 : Int32)).toInt64 &&& 63))), (3, .int (((1 : Int32) <<< ((ti 4) &&& 31)) - (1 : Int32))), (0, .ref x), (1, .int a1), (2, .int a2)]) hx hb dX6_waysToFinish_15 hl (by decide) rfl (fun ls hl => ?_)
  refine lv_iload_n hx hb dX6_waysToFinish_17 rfl (lv_at hl 1 rfl) ?_
  refine lv_iconst (v := 1) hx hb dX6_waysToFinish_18 (by decide) ?_
  refine lv_isub hx hb dX6_waysToFinish_19 ?_
  refine lv_istore (lv' := [(6, .int ((((1 : Int32) <<< ((ti 4) &&& 31)) - (1 : Int32)) - (1 : Int32))), (4, .long ((1 : Int64) <<< ((((1 : Int32) <<< ((ti 4) &&& 31)) - (1 : Int32)).toInt64 &&& 63))), (3, .int (((1 : Int32) <<< ((ti 4) &&& 31)) - (1 : Int32))), (0, .ref x), (1, .int a1), (2, .int a2)]) hx hb dX6_waysToFinish_20 hl (by decide) rfl (fun ls hl => ?_)
  exact L22_4 F ((((1 : Int32) <<< ((ti 4) &&& 31)) - (1 : Int32)) - (1 : Int32)) ((1 : Int64) <<< ((((1 : Int32) <<< ((ti 4) &&& 31)) - (1 : Int32)).toInt64 &&& 63)) he _ _ _ hP hD hS (lv_sub hl [0, 1, 3, 4, 5] rfl)

def fX6_keepLit_L83 (ti_4 : Int32) (ti_7 : Int32) (qi_3 : Int32) (qk_0 : Nat → Int32) (qk_1 : Nat → Int32) (a1 : Int32) (a2 : Int32) (a3 : Int32) (F : Nat) (u51 : (Nat → Int32)) (r57 : Int64) (k83 : Int32 → Int32 → Int32 → Option (Int32 × (Nat → Int32))) : Nat → Int32 → Int32 → Int32 → Option (Int32 × (Nat → Int32))
  | 0, _, _, _ => none
  | n83 + 1, v83_8, v83_7, v83_6 => if ti_4 ≤ v83_8 then (k83 v83_8 v83_7 v83_6) else (xbd (fX5_bellsNeeded F ti_4 ti_7 v83_8 a1 a2) (fun (r108 : Int32) => xbd (fX6_firstThatFinishes F ti_4 qi_3 qk_1 u51 v83_6 v83_8 r108 r57) (fun (r113 : Int32) => if v83_8 = a3 then (some (r113, u51)) else (xbd (fX3_get qk_0 r113 6) (fun (r136 : Int32) => if r136 = v83_8 then (fX6_keepLit_L83 ti_4 ti_7 qi_3 qk_0 qk_1 a1 a2 a3 F u51 r57 k83 n83 (v83_8 + 1) v83_7 (v83_6 ||| ((1 : Int32) <<< (r113 &&& 31)))) else (fX6_keepLit_L83 ti_4 ti_7 qi_3 qk_0 qk_1 a1 a2 a3 F u51 r57 k83 n83 (v83_8 + 1) (v83_7 + 1) (v83_6 ||| ((1 : Int32) <<< (r113 &&& 31)))))))))
def fX6_keepLit (F : Nat) (ti_4 : Int32) (ti_7 : Int32) (ti_8 : Int32) (tk_2 : Nat → Int32) (tk_3 : Nat → Int32) (qi_3 : Int32) (qi_4 : Int32) (qk_0 : Nat → Int32) (qk_1 : Nat → Int32) (zf : Nat → Int32) (a1 : Int32) (a2 : Int32) (a3 : Int32) : Option (Int32 × (Nat → Int32)) :=
  xbd (fX6_isSet ti_4 a1) (fun (r2 : Int32) => if r2 = 0 then (some ((-1 : Int32), zf)) else (if a2 < 0 then (some ((-1 : Int32), zf)) else (if (20 : Int32) < a2 then (some ((-1 : Int32), zf)) else (if a3 < (-1 : Int32) then (some ((-1 : Int32), zf)) else (if a3 < ti_4 then (xbd (fX5_reckonDraughts F ti_4 ti_7 ti_8 tk_2 tk_3 zf qi_4 6) (fun (u51 : (Nat → Int32)) => xbd (fX6_waysToFinish F ti_4 ti_7 qi_3 qk_1 u51 a1 a2) (fun (r57 : Int64) => if (lg_cmp (r57 &&& (1 : Int64)) (0 : Int64)) = 0 then (some ((-4 : Int32), u51)) else (fX6_keepLit_L83 ti_4 ti_7 qi_3 qk_0 qk_1 a1 a2 a3 F u51 r57 (fun (v83_8 : Int32) (v83_7 : Int32) (v83_6 : Int32) => some (v83_7, u51)) F (0 : Int32) (0 : Int32) (0 : Int32))))) else (some ((-1 : Int32), zf)))))))
theorem hi_X6_keepLit_1 : ∀ w ∈ wsX10, w ∈ wsX6_keepLit := fun _ h => (List.mem_cons_of_mem _ (List.mem_append_left _ (List.mem_append_right _ h)))
theorem hi_X6_keepLit_5 : ∀ w ∈ wsX50, w ∈ wsX6_keepLit := fun _ h => (List.mem_cons_of_mem _ (List.mem_append_left _ (List.mem_append_left _ (List.mem_append_right _ h))))
theorem hi_X6_keepLit_6 : ∀ w ∈ wsX60, w ∈ wsX6_keepLit := fun _ h => (List.mem_cons_of_mem _ (List.mem_append_left _ (List.mem_append_left _ (List.mem_append_left _ (List.mem_append_right _ h)))))
set_option maxHeartbeats 4000000 in
set_option maxRecDepth 100000 in
theorem c_X6_keepLit (l : Launch) (D : va_G) (cI cP : ClassId) (sz : Nat) (x : Nat) (xr : Nat → Nat) (xl : Int32) (xt : Nat) (xd : Nat) (tr : Nat → Nat) (ta : Nat → Nat) (ti : Nat → Int32) (tk : Nat → Nat → Int32) (qr : Nat → Nat) (qa : Nat → Nat) (qi : Nat → Int32) (qk : Nat → Nat → Int32) (za : Nat) (zf : Nat → Int32) (F : Nat) (a1 : Int32) (a2 : Int32) (a3 : Int32) (hne : fX6_keepLit F (ti 4) (ti 7) (ti 8) (tk 2) (tk 3) (qi 3) (qi 4) (qk 0) (qk 1) zf a1 a2 a3 ≠ none) : xMi l yX6_keepLit wsX6_keepLit ({ frames := 4, cells := 0, slots := 0, locals := 98 } : Room) D (xT cI cP) [.ref x, .int a1, .int a2, .int a3] ((wX x xr xl xt xd) ++ (wTold cI xt tr ta ti tk) ++ (wPass cI (xr 5) qr qa qi qk) ++ (wRow cI (xr 7) za 6 zf)) sz (fun r (u : ((Nat → Int32))) => fX6_keepLit F (ti 4) (ti 7) (ti 8) (tk 2) (tk 3) (qi 3) (qi 4) (qk 0) (qk 1) zf a1 a2 a3 = some (r, u)) (fun u => (wX x xr xl xt xd) ++ (wTold cI xt tr ta ti tk) ++ (wPass cI (xr 5) qr qa qi qk) ++ (wRow cI (xr 7) za 6 u)) 0 0 := by
  refine xMi_of (cc := cX6_keepLit) (maxL := 10) (by decide +kernel) rfl (Nat.le_of_ble_eq_true rfl) ?_
  intro p e s m args below meth c A ls hx hb hml hown hts hname hN hK hA hP hD hS hl Q hret
  have he := fX6_keepLit.eq_1 F (ti 4) (ti 7) (ti 8) (tk 2) (tk 3) (qi 3) (qi 4) (qk 0) (qk 1) zf a1 a2 a3
  have hl : lv_has ls 10 [(0, .ref x), (1, .int a1), (2, .int a2), (3, .int a3)] := hl
  have R83_0 : ∀ (u51 : (Nat → Int32)) (v83_8 : Int32) (v83_7 : Int32) (v83_6 : Int32), fX6_keepLit F (ti 4) (ti 7) (ti 8) (tk 2) (tk 3) (qi 3) (qi 4) (qk 0) (qk 1) zf a1 a2 a3 = (some (v83_7, u51)) → ∀ (H : Heap) (locs : List Loc) (ls : Array Slot), va_P D vwCl ((wX x xr xl xt xd) ++ (wTold cI xt tr ta ti tk) ++ (wPass cI (xr 5) qr qa qi qk) ++ (wRow cI (xr 7) za 6 u51)) H → va_D A ((wX x xr xl xt xd) ++ (wTold cI xt tr ta ti tk) ++ (wPass cI (xr 5) qr qa qi qk) ++ (wRow cI (xr 7) za 6 u51)) → va_S A s.heap H locs → lv_has ls 10 [(7, .int v83_7)] → W p l e ({ frames := 4, cells := 0, slots := 0, locals := 98 } : Room) s m args below meth c H locs 0 0 Q (F0 m 162 ls []) := by
    intro u51 v83_8 v83_7 v83_6 he H locs ls hP hD hS hl
    refine lv_iload hx hb dX6_keepLit_162 (lv_at hl 0 rfl) ?_
    exact hret v83_7 u51 _ _ _ _ dX6_keepLit_164 he hP hD hS
  have L83_4 : ∀ (u51 : (Nat → Int32)) (r57 : Int64) (n83 : Nat) (v83_8 : Int32) (v83_7 : Int32) (v83_6 : Int32), fX6_keepLit F (ti 4) (ti 7) (ti 8) (tk 2) (tk 3) (qi 3) (qi 4) (qk 0) (qk 1) zf a1 a2 a3 = fX6_keepLit_L83 (ti 4) (ti 7) (qi 3) (qk 0) (qk 1) a1 a2 a3 F u51 r57 (fun (v83_8 : Int32) (v83_7 : Int32) (v83_6 : Int32) => some (v83_7, u51)) n83 v83_8 v83_7 v83_6 → ∀ (H : Heap) (locs : List Loc) (ls : Array Slot), va_P D vwCl ((wX x xr xl xt xd) ++ (wTold cI xt tr ta ti tk) ++ (wPass cI (xr 5) qr qa qi qk) ++ (wRow cI (xr 7) za 6 u51)) H → va_D A ((wX x xr xl xt xd) ++ (wTold cI xt tr ta ti tk) ++ (wPass cI (xr 5) qr qa qi qk) ++ (wRow cI (xr 7) za 6 u51)) → va_S A s.heap H locs → lv_has ls 10 [(8, .int v83_8), (7, .int v83_7), (6, .int v83_6), (4, .long r57), (0, .ref x), (1, .int a1), (2, .int a2), (3, .int a3)] → W p l e ({ frames := 4, cells := 0, slots := 0, locals := 98 } : Room) s m args below meth c H locs 0 0 Q (F0 m 83 ls []) := by
    intro u51 r57 n83
    induction n83 with
    | zero => intro v83_8 v83_7 v83_6 he; exact absurd he hne
    | succ n83 ih83 =>
      intro v83_8 v83_7 v83_6 he H locs ls hP hD hS hl
      replace he := he.trans (fX6_keepLit_L83.eq_2 _ _ _ _ _ _ _ _ _ _ _ _ _ _ _ _)
      refine lv_iload hx hb dX6_keepLit_83 (lv_at hl 0 rfl) ?_
      refine lv_aload_n hx hb dX6_keepLit_85 rfl (lv_at hl 4 rfl) ?_
      refine va_get (D := D) (ci := 6) (v := .ref xt) (C := RX6) (T := TX6) (N := 12) hx hb hts hi_X6_keepLit_6 hown hK hP 0 rfl rfl 10 (by decide) (hts (.fieldLink RX6 61 "BlindLanterns" "told" "LBlindLanterns$Told;") (List.mem_of_getElem? (i := 1) rfl)) (fun _ h9 => h9) rfl dX6_keepLit_86 ?_
      refine va_getN (D := D) (ci := 5) (v := .int (ti 4)) (C := RX5) (T := TX5) (N := 11) hx hb hts hi_X6_keepLit_5 hown hK hP 1 rfl rfl 4 (by decide) (va_Nw.use rfl (hN (.fieldLinkNest RX6 100 "BlindLanterns$Told" "men" "I" "BlindLanterns") (List.mem_of_getElem? (i := 15) rfl))) (fun _ h9 => h9) rfl dX6_keepLit_89 ?_
      refine lv_icmp_ge (tgt := 162) hx hb dX6_keepLit_92 (by decide) (fun c10 => ?_) (fun c10 => ?_)
      · replace he := he.trans (if_pos c10)
        exact R83_0 u51 v83_8 v83_7 v83_6 he _ _ _ hP hD hS (lv_sub hl [1] rfl)
      · replace he := he.trans (if_neg c10)
        refine lv_aload_n hx hb dX6_keepLit_95 rfl (lv_at hl 4 rfl) ?_
        refine lv_iload hx hb dX6_keepLit_96 (lv_at hl 2 rfl) ?_
        refine lv_iload hx hb dX6_keepLit_98 (lv_at hl 0 rfl) ?_
        refine lv_aload_n hx hb dX6_keepLit_100 rfl (lv_at hl 4 rfl) ?_
        refine va_get (D := D) (ci := 6) (v := .ref xt) (C := RX6) (T := TX6) (N := 12) hx hb hts hi_X6_keepLit_6 hown hK hP 0 rfl rfl 10 (by decide) (hts (.fieldLink RX6 61 "BlindLanterns" "told" "LBlindLanterns$Told;") (List.mem_of_getElem? (i := 1) rfl)) (fun _ h9 => h9) rfl dX6_keepLit_101 ?_
        refine lv_iload hx hb dX6_keepLit_104 (lv_at hl 0 rfl) ?_
        refine lv_iload_n hx hb dX6_keepLit_106 rfl (lv_at hl 5 rfl) ?_
        refine lv_iload_n hx hb dX6_keepLit_107 rfl (lv_at hl 6 rfl) ?_
        have n11_ : fX5_bellsNeeded F (ti 4) (ti 7) v83_8 a1 a2 ≠ none := fun z => hne (he.trans (xbd_none z))
        refine xci (va_runV (As := [.int v83_8, .int a1, .int a2]) (rest := [.int v83_8, .int v83_6, .ref x]) ⟨hx, hb, hml, hown, hts⟩ (c_X5_bellsNeeded l D cI cP H.size xt tr ta ti tk F v83_8 a1 a2 n11_) (cwV 3 hts gX6_keepLit_X5_bellsNeeded rfl rfl rfl (by decide +kernel) ⟨Nat.le_of_ble_eq_true rfl, Nat.le_of_ble_eq_true rfl⟩) (xPV hN hK hP hD [1, 2, 3, 4, 5, 6, 7, 8, 9] rfl (by decide) (ci := 5) (j := 1) rfl rfl) rfl rfl hl.1 rfl (lv_room (Nat.le_of_ble_eq_true rfl)) dX6_keepLit_108 ⟨Nat.le_of_ble_eq_true rfl, Nat.le_of_ble_eq_true rfl⟩) hP hD hS hA [1, 2, 3, 4, 5, 6, 7, 8, 9] rfl (fun _ => rfl) (fun r108 u108 H locs hw hP hD hS => ?_)
        have hP : va_P D vwCl ((wX x xr xl xt xd) ++ (wTold cI xt tr ta ti tk) ++ (wPass cI (xr 5) qr qa qi qk) ++ (wRow cI (xr 7) za 6 u51)) H := hP
        have hD : va_D A ((wX x xr xl xt xd) ++ (wTold cI xt tr ta ti tk) ++ (wPass cI (xr 5) qr qa qi qk) ++ (wRow cI (xr 7) za 6 u51)) := hD
        replace he := he.trans (xbd_some hw)
        refine lv_lload hx hb dX6_keepLit_111 (lv_at hl 3 rfl) ?_
        have n12_ : fX6_firstThatFinishes F (ti 4) (qi 3) (qk 1) u51 v83_6 v83_8 r108 r57 ≠ none := fun z => hne (he.trans (xbd_none z))
        refine xci (va_runV (As := [.int v83_6, .int v83_8, .int r108, .long r57]) (rest := []) ⟨hx, hb, hml, hown, hts⟩ (c_X6_firstThatFinishes l D cI cP H.size x xr xl xt xd tr ta ti tk qr qa qi qk za u51 F v83_6 v83_8 r108 r57 n12_) (cwV 4 hts gX6_keepLit_X6_firstThatFinishes rfl rfl rfl (by decide +kernel) ⟨Nat.le_of_ble_eq_true rfl, Nat.le_of_ble_eq_true rfl⟩) (xPV hN hK hP hD [0, 1, 2, 3, 4, 5, 6, 7, 8, 9, 10, 11, 12, 13, 14, 15, 16] rfl (by decide) (ci := 6) (j := 0) rfl rfl) rfl rfl hl.1 rfl (lv_room (Nat.le_of_ble_eq_true rfl)) dX6_keepLit_113 ⟨Nat.le_of_ble_eq_true rfl, Nat.le_of_ble_eq_true rfl⟩) hP hD hS hA [0, 1, 2, 3, 4, 5, 6, 7, 8, 9, 10, 11, 12, 13, 14, 15, 16] rfl (fun _ => rfl) (fun r113 u113 H locs hw hP hD hS => ?_)
        have hP : va_P D vwCl ((wX x xr xl xt xd) ++ (wTold cI xt tr ta ti tk) ++ (wPass cI (xr 5) qr qa qi qk) ++ (wRow cI (xr 7) za 6 u51)) H := hP
        have hD : va_D A ((wX x xr xl xt xd) ++ (wTold cI xt tr ta ti tk) ++ (wPass cI (xr 5) qr qa qi qk) ++ (wRow cI (xr 7) za 6 u51)) := hD
        replace he := he.trans (xbd_some hw)
        refine lv_istore (lv' := [(9, .int r113), (8, .int v83_8), (7, .int v83_7), (6, .int v83_6), (4, .long r57), (0, .ref x), (1, .int a1), (2, .int a2), (3, .int a3)]) hx hb dX6_keepLit_116 hl (by decide) rfl (fun ls hl => ?_)
        refine lv_iload hx hb dX6_keepLit_118 (lv_at hl 1 rfl) ?_
        refine lv_iload_n hx hb dX6_keepLit_120 rfl (lv_at hl 8 rfl) ?_
        refine lv_icmp_ne (tgt := 127) hx hb dX6_keepLit_121 (by decide) (fun c13 => ?_) (fun c13 => ?_)
        · replace he := he.trans (if_neg c13)
          refine lv_aload_n hx hb dX6_keepLit_127 rfl (lv_at hl 5 rfl) ?_
          refine va_get (D := D) (ci := 6) (v := .ref (xr 5)) (C := RX6) (T := TX6) (N := 12) hx hb hts hi_X6_keepLit_6 hown hK hP 0 rfl rfl 5 (by decide) (hts (.fieldLink RX6 45 "BlindLanterns" "pass" "LBlindLanterns$Pass;") (List.mem_of_getElem? (i := 2) rfl)) (fun _ h9 => h9) rfl dX6_keepLit_128 ?_
          refine va_getN (D := D) (ci := 1) (v := .ref (qr 0)) (C := RX1) (T := TX1) (N := 5) hx hb hts hi_X6_keepLit_1 hown hK hP 10 rfl rfl 0 (by decide) (va_Nw.use rfl (hN (.fieldLinkNest RX6 106 "BlindLanterns$Pass" "postOf" "LBlindLanterns$Row;" "BlindLanterns") (List.mem_of_getElem? (i := 4) rfl))) (fun _ h9 => h9) rfl dX6_keepLit_131 ?_
          refine lv_iload hx hb dX6_keepLit_134 (lv_at hl 0 rfl) ?_
          have n14_ : fX3_get (qk 0) r113 6 ≠ none := fun z => hne (he.trans (xbd_none z))
          refine xci (va_runV (As := [.int r113]) (rest := []) ⟨hx, hb, hml, hown, hts⟩ (c_X3_get l D cI cP H.size (qr 0) (qa 0) 6 (qk 0) r113 n14_) (cwV 1 hts gX6_keepLit_X3_get rfl rfl rfl (by decide +kernel) ⟨Nat.le_of_ble_eq_true rfl, Nat.le_of_ble_eq_true rfl⟩) (xPV hN hK hP hD [11, 12] rfl (by decide) (ci := 3) (j := 11) rfl rfl) rfl rfl hl.1 rfl (lv_room (Nat.le_of_ble_eq_true rfl)) dX6_keepLit_136 ⟨Nat.le_of_ble_eq_true rfl, Nat.le_of_ble_eq_true rfl⟩) hP hD hS hA [11, 12] rfl (fun _ => rfl) (fun r136 u136 H locs hw hP hD hS => ?_)
          have hP : va_P D vwCl ((wX x xr xl xt xd) ++ (wTold cI xt tr ta ti tk) ++ (wPass cI (xr 5) qr qa qi qk) ++ (wRow cI (xr 7) za 6 u51)) H := hP
          have hD : va_D A ((wX x xr xl xt xd) ++ (wTold cI xt tr ta ti tk) ++ (wPass cI (xr 5) qr qa qi qk) ++ (wRow cI (xr 7) za 6 u51)) := hD
          replace he := he.trans (xbd_some hw)
          refine lv_iload hx hb dX6_keepLit_139 (lv_at hl 1 rfl) ?_
          refine lv_icmp_eq (tgt := 147) hx hb dX6_keepLit_141 (by decide) (fun c15 => ?_) (fun c15 => ?_)
          · replace he := he.trans (if_pos c15)
            refine lv_iload hx hb dX6_keepLit_147 (lv_at hl 3 rfl) ?_
            refine lv_iconst (v := 1) hx hb dX6_keepLit_149 (by decide) ?_
            refine lv_iload hx hb dX6_keepLit_150 (lv_at hl 0 rfl) ?_
            refine lv_ishl hx hb dX6_keepLit_152 ?_
            refine lv_ior hx hb dX6_keepLit_153 ?_
            refine lv_istore (lv' := [(6, .int (v83_6 ||| ((1 : Int32) <<< (r113 &&& 31)))), (9, .int r113), (8, .int v83_8), (7, .int v83_7), (4, .long r57), (0, .ref x), (1, .int a1), (2, .int a2), (3, .int a3)]) hx hb dX6_keepLit_154 hl (by decide) rfl (fun ls hl => ?_)
            refine lv_iinc (v := (v83_8 + 1)) (lv' := [(8, .int (v83_8 + 1)), (6, .int (v83_6 ||| ((1 : Int32) <<< (r113 &&& 31)))), (9, .int r113), (7, .int v83_7), (4, .long r57), (0, .ref x), (1, .int a1), (2, .int a2), (3, .int a3)]) hx hb dX6_keepLit_156 hl (k := 2) rfl rfl (by decide) rfl (fun ls hl => ?_)
            refine lv_goto (tgt := 83) hx hb dX6_keepLit_159 (by decide) ?_
            exact ih83 (v83_8 + 1) v83_7 (v83_6 ||| ((1 : Int32) <<< (r113 &&& 31))) he _ _ _ hP hD hS (lv_sub hl [0, 3, 1, 4, 5, 6, 7, 8] rfl)
          · replace he := he.trans (if_neg c15)
            refine lv_iinc (v := (v83_7 + 1)) (lv' := [(7, .int (v83_7 + 1)), (9, .int r113), (8, .int v83_8), (6, .int v83_6), (4, .long r57), (0, .ref x), (1, .int a1), (2, .int a2), (3, .int a3)]) hx hb dX6_keepLit_144 hl (k := 2) rfl rfl (by decide) rfl (fun ls hl => ?_)
            refine lv_iload hx hb dX6_keepLit_147 (lv_at hl 3 rfl) ?_
            refine lv_iconst (v := 1) hx hb dX6_keepLit_149 (by decide) ?_
            refine lv_iload hx hb dX6_keepLit_150 (lv_at hl 1 rfl) ?_
            refine lv_ishl hx hb dX6_keepLit_152 ?_
            refine lv_ior hx hb dX6_keepLit_153 ?_
            refine lv_istore (lv' := [(6, .int (v83_6 ||| ((1 : Int32) <<< (r113 &&& 31)))), (7, .int (v83_7 + 1)), (9, .int r113), (8, .int v83_8), (4, .long r57), (0, .ref x), (1, .int a1), (2, .int a2), (3, .int a3)]) hx hb dX6_keepLit_154 hl (by decide) rfl (fun ls hl => ?_)
            refine lv_iinc (v := (v83_8 + 1)) (lv' := [(8, .int (v83_8 + 1)), (6, .int (v83_6 ||| ((1 : Int32) <<< (r113 &&& 31)))), (7, .int (v83_7 + 1)), (9, .int r113), (4, .long r57), (0, .ref x), (1, .int a1), (2, .int a2), (3, .int a3)]) hx hb dX6_keepLit_156 hl (k := 3) rfl rfl (by decide) rfl (fun ls hl => ?_)
            refine lv_goto (tgt := 83) hx hb dX6_keepLit_159 (by decide) ?_
            exact ih83 (v83_8 + 1) (v83_7 + 1) (v83_6 ||| ((1 : Int32) <<< (r113 &&& 31))) he _ _ _ hP hD hS (lv_sub hl [0, 2, 1, 4, 5, 6, 7, 8] rfl)
        · replace he := he.trans (if_pos c13)
          refine lv_iload hx hb dX6_keepLit_124 (lv_at hl 0 rfl) ?_
          exact hret r113 u51 _ _ _ _ dX6_keepLit_126 he hP hD hS
  refine lv_aload_n hx hb dX6_keepLit_0 rfl (lv_at hl 0 rfl) ?_
  refine lv_iload_n hx hb dX6_keepLit_1 rfl (lv_at hl 1 rfl) ?_
  have n1_ : fX6_isSet (ti 4) a1 ≠ none := fun z => hne (he.trans (xbd_none z))
  refine xci (va_runV (As := [.int a1]) (rest := []) ⟨hx, hb, hml, hown, hts⟩ (c_X6_isSet l D cI cP s.heap.size x xr xl xt xd tr ta ti tk a1 n1_) (cwV 1 hts gX6_keepLit_X6_isSet rfl rfl rfl (by decide +kernel) ⟨Nat.le_of_ble_eq_true rfl, Nat.le_of_ble_eq_true rfl⟩) (xPV hN hK hP hD [0, 1, 2, 3, 4, 5, 6, 7, 8, 9] rfl (by decide) (ci := 6) (j := 0) rfl rfl) rfl rfl hl.1 rfl (lv_room (Nat.le_of_ble_eq_true rfl)) dX6_keepLit_2 ⟨Nat.le_of_ble_eq_true rfl, Nat.le_of_ble_eq_true rfl⟩) hP hD hS hA [0, 1, 2, 3, 4, 5, 6, 7, 8, 9] rfl (fun _ => rfl) (fun r2 u2 H locs hw hP hD hS => ?_)
  have hP : va_P D vwCl ((wX x xr xl xt xd) ++ (wTold cI xt tr ta ti tk) ++ (wPass cI (xr 5) qr qa qi qk) ++ (wRow cI (xr 7) za 6 zf)) H := hP
  have hD : va_D A ((wX x xr xl xt xd) ++ (wTold cI xt tr ta ti tk) ++ (wPass cI (xr 5) qr qa qi qk) ++ (wRow cI (xr 7) za 6 zf)) := hD
  replace he := he.trans (xbd_some hw)
  refine lv_if_eq (tgt := 34) hx hb dX6_keepLit_5 (by decide) (fun c2 => ?_) (fun c2 => ?_)
  · replace he := he.trans (if_pos c2)
    refine lv_iconst (v := -1) hx hb dX6_keepLit_34 (by decide) ?_
    exact hret (-1 : Int32) zf _ _ _ _ dX6_keepLit_35 he hP hD hS
  · replace he := he.trans (if_neg c2)
    refine lv_iload_n hx hb dX6_keepLit_8 rfl (lv_at hl 2 rfl) ?_
    refine lv_if_lt (tgt := 34) hx hb dX6_keepLit_9 (by decide) (fun c3 => ?_) (fun c3 => ?_)
    · replace he := he.trans (if_pos c3)
      refine lv_iconst (v := -1) hx hb dX6_keepLit_34 (by decide) ?_
      exact hret (-1 : Int32) zf _ _ _ _ dX6_keepLit_35 he hP hD hS
    · replace he := he.trans (if_neg c3)
      refine lv_iload_n hx hb dX6_keepLit_12 rfl (lv_at hl 2 rfl) ?_
      refine lv_bipush (v := 20) hx hb dX6_keepLit_13 (by decide) ?_
      refine lv_icmp_gt (tgt := 34) hx hb dX6_keepLit_15 (by decide) (fun c4 => ?_) (fun c4 => ?_)
      · replace he := he.trans (if_pos c4)
        refine lv_iconst (v := -1) hx hb dX6_keepLit_34 (by decide) ?_
        exact hret (-1 : Int32) zf _ _ _ _ dX6_keepLit_35 he hP hD hS
      · replace he := he.trans (if_neg c4)
        refine lv_iload_n hx hb dX6_keepLit_18 rfl (lv_at hl 3 rfl) ?_
        refine lv_iconst (v := -1) hx hb dX6_keepLit_19 (by decide) ?_
        refine lv_icmp_lt (tgt := 34) hx hb dX6_keepLit_20 (by decide) (fun c5 => ?_) (fun c5 => ?_)
        · replace he := he.trans (if_pos c5)
          refine lv_iconst (v := -1) hx hb dX6_keepLit_34 (by decide) ?_
          exact hret (-1 : Int32) zf _ _ _ _ dX6_keepLit_35 he hP hD hS
        · replace he := he.trans (if_neg c5)
          refine lv_iload_n hx hb dX6_keepLit_23 rfl (lv_at hl 3 rfl) ?_
          refine lv_aload_n hx hb dX6_keepLit_24 rfl (lv_at hl 0 rfl) ?_
          refine va_get (D := D) (ci := 6) (v := .ref xt) (C := RX6) (T := TX6) (N := 12) hx hb hts hi_X6_keepLit_6 hown hK hP 0 rfl rfl 10 (by decide) (hts (.fieldLink RX6 61 "BlindLanterns" "told" "LBlindLanterns$Told;") (List.mem_of_getElem? (i := 1) rfl)) (fun _ h9 => h9) rfl dX6_keepLit_25 ?_
          refine va_getN (D := D) (ci := 5) (v := .int (ti 4)) (C := RX5) (T := TX5) (N := 11) hx hb hts hi_X6_keepLit_5 hown hK hP 1 rfl rfl 4 (by decide) (va_Nw.use rfl (hN (.fieldLinkNest RX6 100 "BlindLanterns$Told" "men" "I" "BlindLanterns") (List.mem_of_getElem? (i := 15) rfl))) (fun _ h9 => h9) rfl dX6_keepLit_28 ?_
          refine lv_icmp_lt (tgt := 36) hx hb dX6_keepLit_31 (by decide) (fun c6 => ?_) (fun c6 => ?_)
          · replace he := he.trans (if_pos c6)
            refine lv_aload_n hx hb dX6_keepLit_36 rfl (lv_at hl 0 rfl) ?_
            refine va_get (D := D) (ci := 6) (v := .ref xt) (C := RX6) (T := TX6) (N := 12) hx hb hts hi_X6_keepLit_6 hown hK hP 0 rfl rfl 10 (by decide) (hts (.fieldLink RX6 61 "BlindLanterns" "told" "LBlindLanterns$Told;") (List.mem_of_getElem? (i := 1) rfl)) (fun _ h9 => h9) rfl dX6_keepLit_37 ?_
            refine lv_aload_n hx hb dX6_keepLit_40 rfl (lv_at hl 0 rfl) ?_
            refine va_get (D := D) (ci := 6) (v := .ref (xr 5)) (C := RX6) (T := TX6) (N := 12) hx hb hts hi_X6_keepLit_6 hown hK hP 0 rfl rfl 5 (by decide) (hts (.fieldLink RX6 45 "BlindLanterns" "pass" "LBlindLanterns$Pass;") (List.mem_of_getElem? (i := 2) rfl)) (fun _ h9 => h9) rfl dX6_keepLit_41 ?_
            refine va_getN (D := D) (ci := 1) (v := .int (qi 4)) (C := RX1) (T := TX1) (N := 5) hx hb hts hi_X6_keepLit_1 hown hK hP 10 rfl rfl 4 (by decide) (va_Nw.use rfl (hN (.fieldLinkNest RX6 143 "BlindLanterns$Pass" "bell" "I" "BlindLanterns") (List.mem_of_getElem? (i := 7) rfl))) (fun _ h9 => h9) rfl dX6_keepLit_44 ?_
            refine lv_aload_n hx hb dX6_keepLit_47 rfl (lv_at hl 0 rfl) ?_
            refine va_get (D := D) (ci := 6) (v := .ref (xr 7)) (C := RX6) (T := TX6) (N := 12) hx hb hts hi_X6_keepLit_6 hown hK hP 0 rfl rfl 7 (by decide) (hts (.fieldLink RX6 52 "BlindLanterns" "draughtIn" "LBlindLanterns$Row;") (List.mem_of_getElem? (i := 3) rfl)) (fun _ h9 => h9) rfl dX6_keepLit_48 ?_
            have n7_ : fX5_reckonDraughts F (ti 4) (ti 7) (ti 8) (tk 2) (tk 3) zf (qi 4) 6 ≠ none := fun z => hne (he.trans (xbd_none z))
            refine xcv (va_runV (As := [.int (qi 4), .ref (xr 7)]) (rest := []) ⟨hx, hb, hml, hown, hts⟩ (c_X5_reckonDraughts l D cI cP H.size xt tr ta ti tk (xr 7) za 6 zf F (qi 4) n7_) (cwV 2 hts gX6_keepLit_X5_reckonDraughts rfl rfl rfl (by decide +kernel) ⟨Nat.le_of_ble_eq_true rfl, Nat.le_of_ble_eq_true rfl⟩) (xPV hN hK hP hD [1, 2, 3, 4, 5, 6, 7, 8, 9, 15, 16] rfl (by decide) (ci := 5) (j := 1) rfl rfl) rfl rfl hl.1 rfl (lv_room (Nat.le_of_ble_eq_true rfl)) dX6_keepLit_51 ⟨Nat.le_of_ble_eq_true rfl, Nat.le_of_ble_eq_true rfl⟩) hP hD hS hA [1, 2, 3, 4, 5, 6, 7, 8, 9, 15, 16] rfl (fun _ => rfl) (fun u51 H locs hw hP hD hS => ?_)
            have hP : va_P D vwCl ((wX x xr xl xt xd) ++ (wTold cI xt tr ta ti tk) ++ (wPass cI (xr 5) qr qa qi qk) ++ (wRow cI (xr 7) za 6 u51)) H := hP
            have hD : va_D A ((wX x xr xl xt xd) ++ (wTold cI xt tr ta ti tk) ++ (wPass cI (xr 5) qr qa qi qk) ++ (wRow cI (xr 7) za 6 u51)) := hD
            replace he := he.trans (xbd_some hw)
            refine lv_aload_n hx hb dX6_keepLit_54 rfl (lv_at hl 0 rfl) ?_
            refine lv_iload_n hx hb dX6_keepLit_55 rfl (lv_at hl 1 rfl) ?_
            refine lv_iload_n hx hb dX6_keepLit_56 rfl (lv_at hl 2 rfl) ?_
            have n8_ : fX6_waysToFinish F (ti 4) (ti 7) (qi 3) (qk 1) u51 a1 a2 ≠ none := fun z => hne (he.trans (xbd_none z))
            refine xcl (va_runV (As := [.int a1, .int a2]) (rest := []) ⟨hx, hb, hml, hown, hts⟩ (c_X6_waysToFinish l D cI cP H.size x xr xl xt xd tr ta ti tk qr qa qi qk za u51 F a1 a2 n8_) (cwV 2 hts gX6_keepLit_X6_waysToFinish rfl rfl rfl (by decide +kernel) ⟨Nat.le_of_ble_eq_true rfl, Nat.le_of_ble_eq_true rfl⟩) (xPV hN hK hP hD [0, 1, 2, 3, 4, 5, 6, 7, 8, 9, 10, 11, 12, 13, 14, 15, 16] rfl (by decide) (ci := 6) (j := 0) rfl rfl) rfl rfl hl.1 rfl (lv_room (Nat.le_of_ble_eq_true rfl)) dX6_keepLit_57 ⟨Nat.le_of_ble_eq_true rfl, Nat.le_of_ble_eq_true rfl⟩) hP hD hS hA [0, 1, 2, 3, 4, 5, 6, 7, 8, 9, 10, 11, 12, 13, 14, 15, 16] rfl (fun _ => rfl) (fun r57 u57 H locs hw hP hD hS => ?_)
            have hP : va_P D vwCl ((wX x xr xl xt xd) ++ (wTold cI xt tr ta ti tk) ++ (wPass cI (xr 5) qr qa qi qk) ++ (wRow cI (xr 7) za 6 u51)) H := hP
            have hD : va_D A ((wX x xr xl xt xd) ++ (wTold cI xt tr ta ti tk) ++ (wPass cI (xr 5) qr qa qi qk) ++ (wRow cI (xr 7) za 6 u51)) := hD
            replace he := he.trans (xbd_some hw)
            refine lv_lstore (lv' := [(4, .long r57), (0, .ref x), (1, .int a1), (2, .int a2), (3, .int a3)]) hx hb dX6_keepLit_60 hl (by decide) rfl (fun ls hl => ?_)
            refine lv_lload hx hb dX6_keepLit_62 (lv_at hl 0 rfl) ?_
            refine lv_lconst (v := 1) hx hb dX6_keepLit_64 (by decide) ?_
            refine lv_land hx hb dX6_keepLit_65 ?_
            refine lv_lconst (v := 0) hx hb dX6_keepLit_66 (by decide) ?_
            refine W.lcmp hx hb dX6_keepLit_67 ?_
            refine lv_if_ne (tgt := 74) hx hb dX6_keepLit_68 (by decide) (fun c9 => ?_) (fun c9 => ?_)
            · replace he := he.trans (if_neg c9)
              refine lv_iconst (v := 0) hx hb dX6_keepLit_74 (by decide) ?_
              refine lv_istore (lv' := [(6, .int (0 : Int32)), (4, .long r57), (0, .ref x), (1, .int a1), (2, .int a2), (3, .int a3)]) hx hb dX6_keepLit_75 hl (by decide) rfl (fun ls hl => ?_)
              refine lv_iconst (v := 0) hx hb dX6_keepLit_77 (by decide) ?_
              refine lv_istore (lv' := [(7, .int (0 : Int32)), (6, .int (0 : Int32)), (4, .long r57), (0, .ref x), (1, .int a1), (2, .int a2), (3, .int a3)]) hx hb dX6_keepLit_78 hl (by decide) rfl (fun ls hl => ?_)
              refine lv_iconst (v := 0) hx hb dX6_keepLit_80 (by decide) ?_
              refine lv_istore (lv' := [(8, .int (0 : Int32)), (7, .int (0 : Int32)), (6, .int (0 : Int32)), (4, .long r57), (0, .ref x), (1, .int a1), (2, .int a2), (3, .int a3)]) hx hb dX6_keepLit_81 hl (by decide) rfl (fun ls hl => ?_)
              exact L83_4 u51 r57 F (0 : Int32) (0 : Int32) (0 : Int32) he _ _ _ hP hD hS (lv_sub hl [0, 1, 2, 3, 4, 5, 6, 7] rfl)
            · replace he := he.trans (if_pos c9)
              refine lv_bipush (v := -4) hx hb dX6_keepLit_71 (by decide) ?_
              exact hret (-4 : Int32) u51 _ _ _ _ dX6_keepLit_73 he hP hD hS
          · replace he := he.trans (if_neg c6)
            refine lv_iconst (v := -1) hx hb dX6_keepLit_34 (by decide) ?_
            exact hret (-1 : Int32) zf _ _ _ _ dX6_keepLit_35 he hP hD hS

def fX6_oil_L43 (ti_4 : Int32) (ti_7 : Int32) (qi_2 : Int32) (qi_3 : Int32) (qk_0 : Nat → Int32) (qk_1 : Nat → Int32) (a1 : Int32) (a2 : Int32) (F : Nat) (u35 : (Nat → Int32)) (k43 : Int32 → Int32 → Option (Int32 × (Nat → Int32))) : Nat → Int32 → Int32 → Option (Int32 × (Nat → Int32))
  | 0, _, _ => none
  | n43 + 1, v43_4, v43_3 => if ti_4 ≤ v43_4 then (k43 v43_4 v43_3) else (xbd (fX5_bellsNeeded F ti_4 ti_7 v43_4 a1 a2) (fun (r63 : Int32) => xbd (fX1_lanternAt F qi_2 qk_0 v43_4) (fun (r74 : Int32) => if r63 ≤ 0 then (xbd (fX3_get qk_1 r74 6) (fun (r126 : Int32) => fX6_oil_L43 ti_4 ti_7 qi_2 qi_3 qk_0 qk_1 a1 a2 F u35 k43 n43 (v43_4 + 1) (v43_3 + (if (0 : Int32) < (r63 - r126) then (r63 - r126) else (0 : Int32))))) else (xbd (fX1_isLit qi_3 r74) (fun (r90 : Int32) => if r90 = 0 then (some ((-4 : Int32), u35)) else (xbd (fX3_get u35 v43_4 6) (fun (r102 : Int32) => if r63 ≤ r102 then (xbd (fX3_get qk_1 r74 6) (fun (r126 : Int32) => fX6_oil_L43 ti_4 ti_7 qi_2 qi_3 qk_0 qk_1 a1 a2 F u35 k43 n43 (v43_4 + 1) (v43_3 + (if (0 : Int32) < (r63 - r126) then (r63 - r126) else (0 : Int32))))) else (some ((-4 : Int32), u35)))))))))
def fX6_oil (F : Nat) (ti_4 : Int32) (ti_7 : Int32) (ti_8 : Int32) (tk_2 : Nat → Int32) (tk_3 : Nat → Int32) (qi_2 : Int32) (qi_3 : Int32) (qi_4 : Int32) (qk_0 : Nat → Int32) (qk_1 : Nat → Int32) (zf : Nat → Int32) (a1 : Int32) (a2 : Int32) : Option (Int32 × (Nat → Int32)) :=
  xbd (fX6_isSet ti_4 a1) (fun (r2 : Int32) => if r2 = 0 then (some ((-1 : Int32), zf)) else (if a2 < 0 then (some ((-1 : Int32), zf)) else (if a2 ≤ (20 : Int32) then (xbd (fX5_reckonDraughts F ti_4 ti_7 ti_8 tk_2 tk_3 zf qi_4 6) (fun (u35 : (Nat → Int32)) => fX6_oil_L43 ti_4 ti_7 qi_2 qi_3 qk_0 qk_1 a1 a2 F u35 (fun (v43_4 : Int32) (v43_3 : Int32) => some (v43_3, u35)) F (0 : Int32) (0 : Int32))) else (some ((-1 : Int32), zf)))))
theorem hi_X6_oil_1 : ∀ w ∈ wsX10, w ∈ wsX6_oil := fun _ h => (List.mem_cons_of_mem _ (List.mem_append_left _ (List.mem_append_left _ (List.mem_append_right _ h))))
theorem hi_X6_oil_5 : ∀ w ∈ wsX50, w ∈ wsX6_oil := fun _ h => (List.mem_cons_of_mem _ (List.mem_append_left _ (List.mem_append_right _ h)))
theorem hi_X6_oil_6 : ∀ w ∈ wsX60, w ∈ wsX6_oil := fun _ h => (List.mem_cons_of_mem _ (List.mem_append_left _ (List.mem_append_left _ (List.mem_append_left _ (List.mem_append_right _ h)))))
set_option maxHeartbeats 4000000 in
set_option maxRecDepth 100000 in
theorem c_X6_oil (l : Launch) (D : va_G) (cI cP : ClassId) (sz : Nat) (x : Nat) (xr : Nat → Nat) (xl : Int32) (xt : Nat) (xd : Nat) (tr : Nat → Nat) (ta : Nat → Nat) (ti : Nat → Int32) (tk : Nat → Nat → Int32) (qr : Nat → Nat) (qa : Nat → Nat) (qi : Nat → Int32) (qk : Nat → Nat → Int32) (za : Nat) (zf : Nat → Int32) (F : Nat) (a1 : Int32) (a2 : Int32) (hne : fX6_oil F (ti 4) (ti 7) (ti 8) (tk 2) (tk 3) (qi 2) (qi 3) (qi 4) (qk 0) (qk 1) zf a1 a2 ≠ none) : xMi l yX6_oil wsX6_oil ({ frames := 4, cells := 0, slots := 0, locals := 90 } : Room) D (xT cI cP) [.ref x, .int a1, .int a2] ((wX x xr xl xt xd) ++ (wTold cI xt tr ta ti tk) ++ (wPass cI (xr 5) qr qa qi qk) ++ (wRow cI (xr 7) za 6 zf)) sz (fun r (u : ((Nat → Int32))) => fX6_oil F (ti 4) (ti 7) (ti 8) (tk 2) (tk 3) (qi 2) (qi 3) (qi 4) (qk 0) (qk 1) zf a1 a2 = some (r, u)) (fun u => (wX x xr xl xt xd) ++ (wTold cI xt tr ta ti tk) ++ (wPass cI (xr 5) qr qa qi qk) ++ (wRow cI (xr 7) za 6 u)) 0 0 := by
  refine xMi_of (cc := cX6_oil) (maxL := 7) (by decide +kernel) rfl (Nat.le_of_ble_eq_true rfl) ?_
  intro p e s m args below meth c A ls hx hb hml hown hts hname hN hK hA hP hD hS hl Q hret
  have he := fX6_oil.eq_1 F (ti 4) (ti 7) (ti 8) (tk 2) (tk 3) (qi 2) (qi 3) (qi 4) (qk 0) (qk 1) zf a1 a2
  have hl : lv_has ls 7 [(0, .ref x), (1, .int a1), (2, .int a2)] := hl
  have R43_0 : ∀ (u35 : (Nat → Int32)) (v43_4 : Int32) (v43_3 : Int32), fX6_oil F (ti 4) (ti 7) (ti 8) (tk 2) (tk 3) (qi 2) (qi 3) (qi 4) (qk 0) (qk 1) zf a1 a2 = (some (v43_3, u35)) → ∀ (H : Heap) (locs : List Loc) (ls : Array Slot), va_P D vwCl ((wX x xr xl xt xd) ++ (wTold cI xt tr ta ti tk) ++ (wPass cI (xr 5) qr qa qi qk) ++ (wRow cI (xr 7) za 6 u35)) H → va_D A ((wX x xr xl xt xd) ++ (wTold cI xt tr ta ti tk) ++ (wPass cI (xr 5) qr qa qi qk) ++ (wRow cI (xr 7) za 6 u35)) → va_S A s.heap H locs → lv_has ls 7 [(3, .int v43_3)] → W p l e ({ frames := 4, cells := 0, slots := 0, locals := 90 } : Room) s m args below meth c H locs 0 0 Q (F0 m 141 ls []) := by
    intro u35 v43_4 v43_3 he H locs ls hP hD hS hl
    refine lv_iload_n hx hb dX6_oil_141 rfl (lv_at hl 0 rfl) ?_
    exact hret v43_3 u35 _ _ _ _ dX6_oil_142 he hP hD hS
  have L43_4 : ∀ (u35 : (Nat → Int32)) (n43 : Nat) (v43_4 : Int32) (v43_3 : Int32), fX6_oil F (ti 4) (ti 7) (ti 8) (tk 2) (tk 3) (qi 2) (qi 3) (qi 4) (qk 0) (qk 1) zf a1 a2 = fX6_oil_L43 (ti 4) (ti 7) (qi 2) (qi 3) (qk 0) (qk 1) a1 a2 F u35 (fun (v43_4 : Int32) (v43_3 : Int32) => some (v43_3, u35)) n43 v43_4 v43_3 → ∀ (H : Heap) (locs : List Loc) (ls : Array Slot), va_P D vwCl ((wX x xr xl xt xd) ++ (wTold cI xt tr ta ti tk) ++ (wPass cI (xr 5) qr qa qi qk) ++ (wRow cI (xr 7) za 6 u35)) H → va_D A ((wX x xr xl xt xd) ++ (wTold cI xt tr ta ti tk) ++ (wPass cI (xr 5) qr qa qi qk) ++ (wRow cI (xr 7) za 6 u35)) → va_S A s.heap H locs → lv_has ls 7 [(4, .int v43_4), (3, .int v43_3), (0, .ref x), (1, .int a1), (2, .int a2)] → W p l e ({ frames := 4, cells := 0, slots := 0, locals := 90 } : Room) s m args below meth c H locs 0 0 Q (F0 m 43 ls []) := by
    intro u35 n43
    induction n43 with
    | zero => intro v43_4 v43_3 he; exact absurd he hne
    | succ n43 ih43 =>
      intro v43_4 v43_3 he H locs ls hP hD hS hl
      replace he := he.trans (fX6_oil_L43.eq_2 _ _ _ _ _ _ _ _ _ _ _ _ _ _)
      refine lv_iload hx hb dX6_oil_43 (lv_at hl 0 rfl) ?_
      refine lv_aload_n hx hb dX6_oil_45 rfl (lv_at hl 2 rfl) ?_
      refine va_get (D := D) (ci := 6) (v := .ref xt) (C := RX6) (T := TX6) (N := 12) hx hb hts hi_X6_oil_6 hown hK hP 0 rfl rfl 10 (by decide) (hts (.fieldLink RX6 61 "BlindLanterns" "told" "LBlindLanterns$Told;") (List.mem_of_getElem? (i := 1) rfl)) (fun _ h9 => h9) rfl dX6_oil_46 ?_
      refine va_getN (D := D) (ci := 5) (v := .int (ti 4)) (C := RX5) (T := TX5) (N := 11) hx hb hts hi_X6_oil_5 hown hK hP 1 rfl rfl 4 (by decide) (va_Nw.use rfl (hN (.fieldLinkNest RX6 100 "BlindLanterns$Told" "men" "I" "BlindLanterns") (List.mem_of_getElem? (i := 15) rfl))) (fun _ h9 => h9) rfl dX6_oil_49 ?_
      refine lv_icmp_ge (tgt := 141) hx hb dX6_oil_52 (by decide) (fun c6 => ?_) (fun c6 => ?_)
      · replace he := he.trans (if_pos c6)
        exact R43_0 u35 v43_4 v43_3 he _ _ _ hP hD hS (lv_sub hl [1] rfl)
      · replace he := he.trans (if_neg c6)
        refine lv_aload_n hx hb dX6_oil_55 rfl (lv_at hl 2 rfl) ?_
        refine va_get (D := D) (ci := 6) (v := .ref xt) (C := RX6) (T := TX6) (N := 12) hx hb hts hi_X6_oil_6 hown hK hP 0 rfl rfl 10 (by decide) (hts (.fieldLink RX6 61 "BlindLanterns" "told" "LBlindLanterns$Told;") (List.mem_of_getElem? (i := 1) rfl)) (fun _ h9 => h9) rfl dX6_oil_56 ?_
        refine lv_iload hx hb dX6_oil_59 (lv_at hl 0 rfl) ?_
        refine lv_iload_n hx hb dX6_oil_61 rfl (lv_at hl 3 rfl) ?_
        refine lv_iload_n hx hb dX6_oil_62 rfl (lv_at hl 4 rfl) ?_
        have n7_ : fX5_bellsNeeded F (ti 4) (ti 7) v43_4 a1 a2 ≠ none := fun z => hne (he.trans (xbd_none z))
        refine xci (va_runV (As := [.int v43_4, .int a1, .int a2]) (rest := []) ⟨hx, hb, hml, hown, hts⟩ (c_X5_bellsNeeded l D cI cP H.size xt tr ta ti tk F v43_4 a1 a2 n7_) (cwV 3 hts gX6_oil_X5_bellsNeeded rfl rfl rfl (by decide +kernel) ⟨Nat.le_of_ble_eq_true rfl, Nat.le_of_ble_eq_true rfl⟩) (xPV hN hK hP hD [1, 2, 3, 4, 5, 6, 7, 8, 9] rfl (by decide) (ci := 5) (j := 1) rfl rfl) rfl rfl hl.1 rfl (lv_room (Nat.le_of_ble_eq_true rfl)) dX6_oil_63 ⟨Nat.le_of_ble_eq_true rfl, Nat.le_of_ble_eq_true rfl⟩) hP hD hS hA [1, 2, 3, 4, 5, 6, 7, 8, 9] rfl (fun _ => rfl) (fun r63 u63 H locs hw hP hD hS => ?_)
        have hP : va_P D vwCl ((wX x xr xl xt xd) ++ (wTold cI xt tr ta ti tk) ++ (wPass cI (xr 5) qr qa qi qk) ++ (wRow cI (xr 7) za 6 u35)) H := hP
        have hD : va_D A ((wX x xr xl xt xd) ++ (wTold cI xt tr ta ti tk) ++ (wPass cI (xr 5) qr qa qi qk) ++ (wRow cI (xr 7) za 6 u35)) := hD
        replace he := he.trans (xbd_some hw)
        refine lv_istore (lv' := [(5, .int r63), (4, .int v43_4), (3, .int v43_3), (0, .ref x), (1, .int a1), (2, .int a2)]) hx hb dX6_oil_66 hl (by decide) rfl (fun ls hl => ?_)
        refine lv_aload_n hx hb dX6_oil_68 rfl (lv_at hl 3 rfl) ?_
        refine va_get (D := D) (ci := 6) (v := .ref (xr 5)) (C := RX6) (T := TX6) (N := 12) hx hb hts hi_X6_oil_6 hown hK hP 0 rfl rfl 5 (by decide) (hts (.fieldLink RX6 45 "BlindLanterns" "pass" "LBlindLanterns$Pass;") (List.mem_of_getElem? (i := 2) rfl)) (fun _ h9 => h9) rfl dX6_oil_69 ?_
        refine lv_iload hx hb dX6_oil_72 (lv_at hl 1 rfl) ?_
        have n8_ : fX1_lanternAt F (qi 2) (qk 0) v43_4 ≠ none := fun z => hne (he.trans (xbd_none z))
        refine xci (va_runV (As := [.int v43_4]) (rest := []) ⟨hx, hb, hml, hown, hts⟩ (c_X1_lanternAt l D cI cP H.size (xr 5) qr qa qi qk F v43_4 n8_) (cwV 1 hts gX6_oil_X1_lanternAt rfl rfl rfl (by decide +kernel) ⟨Nat.le_of_ble_eq_true rfl, Nat.le_of_ble_eq_true rfl⟩) (xPV hN hK hP hD [10, 11, 12, 13, 14] rfl (by decide) (ci := 1) (j := 10) rfl rfl) rfl rfl hl.1 rfl (lv_room (Nat.le_of_ble_eq_true rfl)) dX6_oil_74 ⟨Nat.le_of_ble_eq_true rfl, Nat.le_of_ble_eq_true rfl⟩) hP hD hS hA [10, 11, 12, 13, 14] rfl (fun _ => rfl) (fun r74 u74 H locs hw hP hD hS => ?_)
        have hP : va_P D vwCl ((wX x xr xl xt xd) ++ (wTold cI xt tr ta ti tk) ++ (wPass cI (xr 5) qr qa qi qk) ++ (wRow cI (xr 7) za 6 u35)) H := hP
        have hD : va_D A ((wX x xr xl xt xd) ++ (wTold cI xt tr ta ti tk) ++ (wPass cI (xr 5) qr qa qi qk) ++ (wRow cI (xr 7) za 6 u35)) := hD
        replace he := he.trans (xbd_some hw)
        refine lv_istore (lv' := [(6, .int r74), (5, .int r63), (4, .int v43_4), (3, .int v43_3), (0, .ref x), (1, .int a1), (2, .int a2)]) hx hb dX6_oil_77 hl (by decide) rfl (fun ls hl => ?_)
        refine lv_iload hx hb dX6_oil_79 (lv_at hl 1 rfl) ?_
        refine lv_if_le (tgt := 113) hx hb dX6_oil_81 (by decide) (fun c9 => ?_) (fun c9 => ?_)
        · replace he := he.trans (if_pos c9)
          refine lv_iload_n hx hb dX6_oil_113 rfl (lv_at hl 3 rfl) ?_
          refine lv_iconst (v := 0) hx hb dX6_oil_114 (by decide) ?_
          refine lv_iload hx hb dX6_oil_115 (lv_at hl 1 rfl) ?_
          refine lv_aload_n hx hb dX6_oil_117 rfl (lv_at hl 4 rfl) ?_
          refine va_get (D := D) (ci := 6) (v := .ref (xr 5)) (C := RX6) (T := TX6) (N := 12) hx hb hts hi_X6_oil_6 hown hK hP 0 rfl rfl 5 (by decide) (hts (.fieldLink RX6 45 "BlindLanterns" "pass" "LBlindLanterns$Pass;") (List.mem_of_getElem? (i := 2) rfl)) (fun _ h9 => h9) rfl dX6_oil_118 ?_
          refine va_getN (D := D) (ci := 1) (v := .ref (qr 1)) (C := RX1) (T := TX1) (N := 5) hx hb hts hi_X6_oil_1 hown hK hP 10 rfl rfl 1 (by decide) (va_Nw.use rfl (hN (.fieldLinkNest RX6 113 "BlindLanterns$Pass" "oilOf" "LBlindLanterns$Row;" "BlindLanterns") (List.mem_of_getElem? (i := 5) rfl))) (fun _ h9 => h9) rfl dX6_oil_121 ?_
          refine lv_iload hx hb dX6_oil_124 (lv_at hl 0 rfl) ?_
          have n10_ : fX3_get (qk 1) r74 6 ≠ none := fun z => hne (he.trans (xbd_none z))
          refine xci (va_runV (As := [.int r74]) (rest := [.int r63, .int (0 : Int32), .int v43_3]) ⟨hx, hb, hml, hown, hts⟩ (c_X3_get l D cI cP H.size (qr 1) (qa 1) 6 (qk 1) r74 n10_) (cwV 1 hts gX6_oil_X3_get rfl rfl rfl (by decide +kernel) ⟨Nat.le_of_ble_eq_true rfl, Nat.le_of_ble_eq_true rfl⟩) (xPV hN hK hP hD [13, 14] rfl (by decide) (ci := 3) (j := 13) rfl rfl) rfl rfl hl.1 rfl (lv_room (Nat.le_of_ble_eq_true rfl)) dX6_oil_126 ⟨Nat.le_of_ble_eq_true rfl, Nat.le_of_ble_eq_true rfl⟩) hP hD hS hA [13, 14] rfl (fun _ => rfl) (fun r126 u126 H locs hw hP hD hS => ?_)
          have hP : va_P D vwCl ((wX x xr xl xt xd) ++ (wTold cI xt tr ta ti tk) ++ (wPass cI (xr 5) qr qa qi qk) ++ (wRow cI (xr 7) za 6 u35)) H := hP
          have hD : va_D A ((wX x xr xl xt xd) ++ (wTold cI xt tr ta ti tk) ++ (wPass cI (xr 5) qr qa qi qk) ++ (wRow cI (xr 7) za 6 u35)) := hD
          replace he := he.trans (xbd_some hw)
          refine lv_isub hx hb dX6_oil_129 ?_
          refine va_mmax hx hb (hml.trans hl.1.symm) hown (hts (.methodLink RX6 212 Lib.Math.max.name) (List.mem_of_getElem? (i := 4) rfl)) (hts (.static Lib.Math.max.name) (List.mem_of_getElem? (i := 5) rfl)) (hts (.initialized RJ9) (List.mem_of_getElem? (i := 47) rfl)) (hts (.code Lib.Math.max.name Lib.Math.max.code 2 (some .int)) (List.mem_of_getElem? (i := 7) rfl)) (Nat.le_of_ble_eq_true rfl) (Nat.le_of_ble_eq_true rfl) (Nat.le_of_ble_eq_true rfl) (Nat.le_of_ble_eq_true rfl) dX6_oil_130 ?_
          refine lv_iadd hx hb dX6_oil_133 ?_
          refine lv_istore_n (lv' := [(3, .int (v43_3 + (if (0 : Int32) < (r63 - r126) then (r63 - r126) else (0 : Int32)))), (6, .int r74), (5, .int r63), (4, .int v43_4), (0, .ref x), (1, .int a1), (2, .int a2)]) hx hb dX6_oil_134 rfl hl (by decide) rfl (fun ls hl => ?_)
          refine lv_iinc (v := (v43_4 + 1)) (lv' := [(4, .int (v43_4 + 1)), (3, .int (v43_3 + (if (0 : Int32) < (r63 - r126) then (r63 - r126) else (0 : Int32)))), (6, .int r74), (5, .int r63), (0, .ref x), (1, .int a1), (2, .int a2)]) hx hb dX6_oil_135 hl (k := 3) rfl rfl (by decide) rfl (fun ls hl => ?_)
          refine lv_goto (tgt := 43) hx hb dX6_oil_138 (by decide) ?_
          exact ih43 (v43_4 + 1) (v43_3 + (if (0 : Int32) < (r63 - r126) then (r63 - r126) else (0 : Int32))) he _ _ _ hP hD hS (lv_sub hl [0, 1, 4, 5, 6] rfl)
        · replace he := he.trans (if_neg c9)
          refine lv_aload_n hx hb dX6_oil_84 rfl (lv_at hl 4 rfl) ?_
          refine va_get (D := D) (ci := 6) (v := .ref (xr 5)) (C := RX6) (T := TX6) (N := 12) hx hb hts hi_X6_oil_6 hown hK hP 0 rfl rfl 5 (by decide) (hts (.fieldLink RX6 45 "BlindLanterns" "pass" "LBlindLanterns$Pass;") (List.mem_of_getElem? (i := 2) rfl)) (fun _ h9 => h9) rfl dX6_oil_85 ?_
          refine lv_iload hx hb dX6_oil_88 (lv_at hl 0 rfl) ?_
          have n11_ : fX1_isLit (qi 3) r74 ≠ none := fun z => hne (he.trans (xbd_none z))
          refine xci (va_runV (As := [.int r74]) (rest := []) ⟨hx, hb, hml, hown, hts⟩ (c_X1_isLit l D cI cP H.size (xr 5) qr qa qi qk r74 n11_) (cwV 1 hts gX6_oil_X1_isLit rfl rfl rfl (by decide +kernel) ⟨Nat.le_of_ble_eq_true rfl, Nat.le_of_ble_eq_true rfl⟩) (xPV hN hK hP hD [10, 11, 12, 13, 14] rfl (by decide) (ci := 1) (j := 10) rfl rfl) rfl rfl hl.1 rfl (lv_room (Nat.le_of_ble_eq_true rfl)) dX6_oil_90 ⟨Nat.le_of_ble_eq_true rfl, Nat.le_of_ble_eq_true rfl⟩) hP hD hS hA [10, 11, 12, 13, 14] rfl (fun _ => rfl) (fun r90 u90 H locs hw hP hD hS => ?_)
          have hP : va_P D vwCl ((wX x xr xl xt xd) ++ (wTold cI xt tr ta ti tk) ++ (wPass cI (xr 5) qr qa qi qk) ++ (wRow cI (xr 7) za 6 u35)) H := hP
          have hD : va_D A ((wX x xr xl xt xd) ++ (wTold cI xt tr ta ti tk) ++ (wPass cI (xr 5) qr qa qi qk) ++ (wRow cI (xr 7) za 6 u35)) := hD
          replace he := he.trans (xbd_some hw)
          refine lv_if_eq (tgt := 110) hx hb dX6_oil_93 (by decide) (fun c12 => ?_) (fun c12 => ?_)
          · replace he := he.trans (if_pos c12)
            refine lv_bipush (v := -4) hx hb dX6_oil_110 (by decide) ?_
            exact hret (-4 : Int32) u35 _ _ _ _ dX6_oil_112 he hP hD hS
          · replace he := he.trans (if_neg c12)
            refine lv_aload_n hx hb dX6_oil_96 rfl (lv_at hl 4 rfl) ?_
            refine va_get (D := D) (ci := 6) (v := .ref (xr 7)) (C := RX6) (T := TX6) (N := 12) hx hb hts hi_X6_oil_6 hown hK hP 0 rfl rfl 7 (by decide) (hts (.fieldLink RX6 52 "BlindLanterns" "draughtIn" "LBlindLanterns$Row;") (List.mem_of_getElem? (i := 3) rfl)) (fun _ h9 => h9) rfl dX6_oil_97 ?_
            refine lv_iload hx hb dX6_oil_100 (lv_at hl 2 rfl) ?_
            have n13_ : fX3_get u35 v43_4 6 ≠ none := fun z => hne (he.trans (xbd_none z))
            refine xci (va_runV (As := [.int v43_4]) (rest := []) ⟨hx, hb, hml, hown, hts⟩ (c_X3_get l D cI cP H.size (xr 7) za 6 u35 v43_4 n13_) (cwV 1 hts gX6_oil_X3_get rfl rfl rfl (by decide +kernel) ⟨Nat.le_of_ble_eq_true rfl, Nat.le_of_ble_eq_true rfl⟩) (xPV hN hK hP hD [15, 16] rfl (by decide) (ci := 3) (j := 15) rfl rfl) rfl rfl hl.1 rfl (lv_room (Nat.le_of_ble_eq_true rfl)) dX6_oil_102 ⟨Nat.le_of_ble_eq_true rfl, Nat.le_of_ble_eq_true rfl⟩) hP hD hS hA [15, 16] rfl (fun _ => rfl) (fun r102 u102 H locs hw hP hD hS => ?_)
            have hP : va_P D vwCl ((wX x xr xl xt xd) ++ (wTold cI xt tr ta ti tk) ++ (wPass cI (xr 5) qr qa qi qk) ++ (wRow cI (xr 7) za 6 u35)) H := hP
            have hD : va_D A ((wX x xr xl xt xd) ++ (wTold cI xt tr ta ti tk) ++ (wPass cI (xr 5) qr qa qi qk) ++ (wRow cI (xr 7) za 6 u35)) := hD
            replace he := he.trans (xbd_some hw)
            refine lv_iload hx hb dX6_oil_105 (lv_at hl 1 rfl) ?_
            refine lv_icmp_ge (tgt := 113) hx hb dX6_oil_107 (by decide) (fun c14 => ?_) (fun c14 => ?_)
            · replace he := he.trans (if_pos c14)
              refine lv_iload_n hx hb dX6_oil_113 rfl (lv_at hl 3 rfl) ?_
              refine lv_iconst (v := 0) hx hb dX6_oil_114 (by decide) ?_
              refine lv_iload hx hb dX6_oil_115 (lv_at hl 1 rfl) ?_
              refine lv_aload_n hx hb dX6_oil_117 rfl (lv_at hl 4 rfl) ?_
              refine va_get (D := D) (ci := 6) (v := .ref (xr 5)) (C := RX6) (T := TX6) (N := 12) hx hb hts hi_X6_oil_6 hown hK hP 0 rfl rfl 5 (by decide) (hts (.fieldLink RX6 45 "BlindLanterns" "pass" "LBlindLanterns$Pass;") (List.mem_of_getElem? (i := 2) rfl)) (fun _ h9 => h9) rfl dX6_oil_118 ?_
              refine va_getN (D := D) (ci := 1) (v := .ref (qr 1)) (C := RX1) (T := TX1) (N := 5) hx hb hts hi_X6_oil_1 hown hK hP 10 rfl rfl 1 (by decide) (va_Nw.use rfl (hN (.fieldLinkNest RX6 113 "BlindLanterns$Pass" "oilOf" "LBlindLanterns$Row;" "BlindLanterns") (List.mem_of_getElem? (i := 5) rfl))) (fun _ h9 => h9) rfl dX6_oil_121 ?_
              refine lv_iload hx hb dX6_oil_124 (lv_at hl 0 rfl) ?_
              have n15_ : fX3_get (qk 1) r74 6 ≠ none := fun z => hne (he.trans (xbd_none z))
              refine xci (va_runV (As := [.int r74]) (rest := [.int r63, .int (0 : Int32), .int v43_3]) ⟨hx, hb, hml, hown, hts⟩ (c_X3_get l D cI cP H.size (qr 1) (qa 1) 6 (qk 1) r74 n15_) (cwV 1 hts gX6_oil_X3_get rfl rfl rfl (by decide +kernel) ⟨Nat.le_of_ble_eq_true rfl, Nat.le_of_ble_eq_true rfl⟩) (xPV hN hK hP hD [13, 14] rfl (by decide) (ci := 3) (j := 13) rfl rfl) rfl rfl hl.1 rfl (lv_room (Nat.le_of_ble_eq_true rfl)) dX6_oil_126 ⟨Nat.le_of_ble_eq_true rfl, Nat.le_of_ble_eq_true rfl⟩) hP hD hS hA [13, 14] rfl (fun _ => rfl) (fun r126 u126 H locs hw hP hD hS => ?_)
              have hP : va_P D vwCl ((wX x xr xl xt xd) ++ (wTold cI xt tr ta ti tk) ++ (wPass cI (xr 5) qr qa qi qk) ++ (wRow cI (xr 7) za 6 u35)) H := hP
              have hD : va_D A ((wX x xr xl xt xd) ++ (wTold cI xt tr ta ti tk) ++ (wPass cI (xr 5) qr qa qi qk) ++ (wRow cI (xr 7) za 6 u35)) := hD
              replace he := he.trans (xbd_some hw)
              refine lv_isub hx hb dX6_oil_129 ?_
              refine va_mmax hx hb (hml.trans hl.1.symm) hown (hts (.methodLink RX6 212 Lib.Math.max.name) (List.mem_of_getElem? (i := 4) rfl)) (hts (.static Lib.Math.max.name) (List.mem_of_getElem? (i := 5) rfl)) (hts (.initialized RJ9) (List.mem_of_getElem? (i := 47) rfl)) (hts (.code Lib.Math.max.name Lib.Math.max.code 2 (some .int)) (List.mem_of_getElem? (i := 7) rfl)) (Nat.le_of_ble_eq_true rfl) (Nat.le_of_ble_eq_true rfl) (Nat.le_of_ble_eq_true rfl) (Nat.le_of_ble_eq_true rfl) dX6_oil_130 ?_
              refine lv_iadd hx hb dX6_oil_133 ?_
              refine lv_istore_n (lv' := [(3, .int (v43_3 + (if (0 : Int32) < (r63 - r126) then (r63 - r126) else (0 : Int32)))), (6, .int r74), (5, .int r63), (4, .int v43_4), (0, .ref x), (1, .int a1), (2, .int a2)]) hx hb dX6_oil_134 rfl hl (by decide) rfl (fun ls hl => ?_)
              refine lv_iinc (v := (v43_4 + 1)) (lv' := [(4, .int (v43_4 + 1)), (3, .int (v43_3 + (if (0 : Int32) < (r63 - r126) then (r63 - r126) else (0 : Int32)))), (6, .int r74), (5, .int r63), (0, .ref x), (1, .int a1), (2, .int a2)]) hx hb dX6_oil_135 hl (k := 3) rfl rfl (by decide) rfl (fun ls hl => ?_)
              refine lv_goto (tgt := 43) hx hb dX6_oil_138 (by decide) ?_
              exact ih43 (v43_4 + 1) (v43_3 + (if (0 : Int32) < (r63 - r126) then (r63 - r126) else (0 : Int32))) he _ _ _ hP hD hS (lv_sub hl [0, 1, 4, 5, 6] rfl)
            · replace he := he.trans (if_neg c14)
              refine lv_bipush (v := -4) hx hb dX6_oil_110 (by decide) ?_
              exact hret (-4 : Int32) u35 _ _ _ _ dX6_oil_112 he hP hD hS
  refine lv_aload_n hx hb dX6_oil_0 rfl (lv_at hl 0 rfl) ?_
  refine lv_iload_n hx hb dX6_oil_1 rfl (lv_at hl 1 rfl) ?_
  have n1_ : fX6_isSet (ti 4) a1 ≠ none := fun z => hne (he.trans (xbd_none z))
  refine xci (va_runV (As := [.int a1]) (rest := []) ⟨hx, hb, hml, hown, hts⟩ (c_X6_isSet l D cI cP s.heap.size x xr xl xt xd tr ta ti tk a1 n1_) (cwV 1 hts gX6_oil_X6_isSet rfl rfl rfl (by decide +kernel) ⟨Nat.le_of_ble_eq_true rfl, Nat.le_of_ble_eq_true rfl⟩) (xPV hN hK hP hD [0, 1, 2, 3, 4, 5, 6, 7, 8, 9] rfl (by decide) (ci := 6) (j := 0) rfl rfl) rfl rfl hl.1 rfl (lv_room (Nat.le_of_ble_eq_true rfl)) dX6_oil_2 ⟨Nat.le_of_ble_eq_true rfl, Nat.le_of_ble_eq_true rfl⟩) hP hD hS hA [0, 1, 2, 3, 4, 5, 6, 7, 8, 9] rfl (fun _ => rfl) (fun r2 u2 H locs hw hP hD hS => ?_)
  have hP : va_P D vwCl ((wX x xr xl xt xd) ++ (wTold cI xt tr ta ti tk) ++ (wPass cI (xr 5) qr qa qi qk) ++ (wRow cI (xr 7) za 6 zf)) H := hP
  have hD : va_D A ((wX x xr xl xt xd) ++ (wTold cI xt tr ta ti tk) ++ (wPass cI (xr 5) qr qa qi qk) ++ (wRow cI (xr 7) za 6 zf)) := hD
  replace he := he.trans (xbd_some hw)
  refine lv_if_eq (tgt := 18) hx hb dX6_oil_5 (by decide) (fun c2 => ?_) (fun c2 => ?_)
  · replace he := he.trans (if_pos c2)
    refine lv_iconst (v := -1) hx hb dX6_oil_18 (by decide) ?_
    exact hret (-1 : Int32) zf _ _ _ _ dX6_oil_19 he hP hD hS
  · replace he := he.trans (if_neg c2)
    refine lv_iload_n hx hb dX6_oil_8 rfl (lv_at hl 2 rfl) ?_
    refine lv_if_lt (tgt := 18) hx hb dX6_oil_9 (by decide) (fun c3 => ?_) (fun c3 => ?_)
    · replace he := he.trans (if_pos c3)
      refine lv_iconst (v := -1) hx hb dX6_oil_18 (by decide) ?_
      exact hret (-1 : Int32) zf _ _ _ _ dX6_oil_19 he hP hD hS
    · replace he := he.trans (if_neg c3)
      refine lv_iload_n hx hb dX6_oil_12 rfl (lv_at hl 2 rfl) ?_
      refine lv_bipush (v := 20) hx hb dX6_oil_13 (by decide) ?_
      refine lv_icmp_le (tgt := 20) hx hb dX6_oil_15 (by decide) (fun c4 => ?_) (fun c4 => ?_)
      · replace he := he.trans (if_pos c4)
        refine lv_aload_n hx hb dX6_oil_20 rfl (lv_at hl 0 rfl) ?_
        refine va_get (D := D) (ci := 6) (v := .ref xt) (C := RX6) (T := TX6) (N := 12) hx hb hts hi_X6_oil_6 hown hK hP 0 rfl rfl 10 (by decide) (hts (.fieldLink RX6 61 "BlindLanterns" "told" "LBlindLanterns$Told;") (List.mem_of_getElem? (i := 1) rfl)) (fun _ h9 => h9) rfl dX6_oil_21 ?_
        refine lv_aload_n hx hb dX6_oil_24 rfl (lv_at hl 0 rfl) ?_
        refine va_get (D := D) (ci := 6) (v := .ref (xr 5)) (C := RX6) (T := TX6) (N := 12) hx hb hts hi_X6_oil_6 hown hK hP 0 rfl rfl 5 (by decide) (hts (.fieldLink RX6 45 "BlindLanterns" "pass" "LBlindLanterns$Pass;") (List.mem_of_getElem? (i := 2) rfl)) (fun _ h9 => h9) rfl dX6_oil_25 ?_
        refine va_getN (D := D) (ci := 1) (v := .int (qi 4)) (C := RX1) (T := TX1) (N := 5) hx hb hts hi_X6_oil_1 hown hK hP 10 rfl rfl 4 (by decide) (va_Nw.use rfl (hN (.fieldLinkNest RX6 143 "BlindLanterns$Pass" "bell" "I" "BlindLanterns") (List.mem_of_getElem? (i := 7) rfl))) (fun _ h9 => h9) rfl dX6_oil_28 ?_
        refine lv_aload_n hx hb dX6_oil_31 rfl (lv_at hl 0 rfl) ?_
        refine va_get (D := D) (ci := 6) (v := .ref (xr 7)) (C := RX6) (T := TX6) (N := 12) hx hb hts hi_X6_oil_6 hown hK hP 0 rfl rfl 7 (by decide) (hts (.fieldLink RX6 52 "BlindLanterns" "draughtIn" "LBlindLanterns$Row;") (List.mem_of_getElem? (i := 3) rfl)) (fun _ h9 => h9) rfl dX6_oil_32 ?_
        have n5_ : fX5_reckonDraughts F (ti 4) (ti 7) (ti 8) (tk 2) (tk 3) zf (qi 4) 6 ≠ none := fun z => hne (he.trans (xbd_none z))
        refine xcv (va_runV (As := [.int (qi 4), .ref (xr 7)]) (rest := []) ⟨hx, hb, hml, hown, hts⟩ (c_X5_reckonDraughts l D cI cP H.size xt tr ta ti tk (xr 7) za 6 zf F (qi 4) n5_) (cwV 2 hts gX6_oil_X5_reckonDraughts rfl rfl rfl (by decide +kernel) ⟨Nat.le_of_ble_eq_true rfl, Nat.le_of_ble_eq_true rfl⟩) (xPV hN hK hP hD [1, 2, 3, 4, 5, 6, 7, 8, 9, 15, 16] rfl (by decide) (ci := 5) (j := 1) rfl rfl) rfl rfl hl.1 rfl (lv_room (Nat.le_of_ble_eq_true rfl)) dX6_oil_35 ⟨Nat.le_of_ble_eq_true rfl, Nat.le_of_ble_eq_true rfl⟩) hP hD hS hA [1, 2, 3, 4, 5, 6, 7, 8, 9, 15, 16] rfl (fun _ => rfl) (fun u35 H locs hw hP hD hS => ?_)
        have hP : va_P D vwCl ((wX x xr xl xt xd) ++ (wTold cI xt tr ta ti tk) ++ (wPass cI (xr 5) qr qa qi qk) ++ (wRow cI (xr 7) za 6 u35)) H := hP
        have hD : va_D A ((wX x xr xl xt xd) ++ (wTold cI xt tr ta ti tk) ++ (wPass cI (xr 5) qr qa qi qk) ++ (wRow cI (xr 7) za 6 u35)) := hD
        replace he := he.trans (xbd_some hw)
        refine lv_iconst (v := 0) hx hb dX6_oil_38 (by decide) ?_
        refine lv_istore_n (lv' := [(3, .int (0 : Int32)), (0, .ref x), (1, .int a1), (2, .int a2)]) hx hb dX6_oil_39 rfl hl (by decide) rfl (fun ls hl => ?_)
        refine lv_iconst (v := 0) hx hb dX6_oil_40 (by decide) ?_
        refine lv_istore (lv' := [(4, .int (0 : Int32)), (3, .int (0 : Int32)), (0, .ref x), (1, .int a1), (2, .int a2)]) hx hb dX6_oil_41 hl (by decide) rfl (fun ls hl => ?_)
        exact L43_4 u35 F (0 : Int32) (0 : Int32) he _ _ _ hP hD hS (lv_sub hl [0, 1, 2, 3, 4] rfl)
      · replace he := he.trans (if_neg c4)
        refine lv_iconst (v := -1) hx hb dX6_oil_18 (by decide) ?_
        exact hret (-1 : Int32) zf _ _ _ _ dX6_oil_19 he hP hD hS

def fX6_night_L54 (ti_4 : Int32) (ti_7 : Int32) (a1 : Int32) (a2 : Int32) (k54 : Int32 → (Nat → Int32) → Option (Int32 × Int32 × Int32 × Int32 × (Nat → Int32) × (Nat → Int32) × (Nat → Int32))) : Nat → Int32 → (Nat → Int32) → Option (Int32 × Int32 × Int32 × Int32 × (Nat → Int32) × (Nat → Int32) × (Nat → Int32))
  | 0, _, _ => none
  | n54 + 1, v54_4, w54_zf => if a2 < v54_4 then (k54 v54_4 w54_zf) else (xbd (fX6_drawOf a1 v54_4) (fun (r63 : Int32) => if ((r63 / (8 : Int32)) - (r63 / (8 : Int32)) / (4 : Int32) * (4 : Int32)) = 0 then (xbd (fX5_round ti_4 r63) (fun (r88 : Int32) => xbd (fX5_postBefore ti_4 ti_7 r88 v54_4) (fun (r93 : Int32) => xbd (fX3_get w54_zf r93 6) (fun (r112 : Int32) => xbd (fX3_set w54_zf r93 (if r112 < v54_4 then r112 else v54_4) 6) (fun (u118 : (Nat → Int32)) => fX6_night_L54 ti_4 ti_7 a1 a2 k54 n54 (v54_4 + 1) u118))))) else (fX6_night_L54 ti_4 ti_7 a1 a2 k54 n54 (v54_4 + 1) w54_zf)))
def fX6_night (F : Nat) (ti_4 : Int32) (ti_7 : Int32) (ti_8 : Int32) (tk_2 : Nat → Int32) (tk_3 : Nat → Int32) (qi_2 : Int32) (qi_3 : Int32) (qi_4 : Int32) (qk_0 : Nat → Int32) (qk_1 : Nat → Int32) (oi_2 : Int32) (oi_3 : Int32) (oi_4 : Int32) (ok_0 : Nat → Int32) (ok_1 : Nat → Int32) (zf : Nat → Int32) (a1 : Int32) (a2 : Int32) (a3 : Int32) : Option (Int32 × Int32 × Int32 × Int32 × (Nat → Int32) × (Nat → Int32) × (Nat → Int32)) :=
  if a1 < 0 then (some ((-1 : Int32), (oi_2, oi_3, oi_4, ok_0, ok_1, zf))) else (if (9999 : Int32) < a1 then (some ((-1 : Int32), (oi_2, oi_3, oi_4, ok_0, ok_1, zf))) else (if a2 < (1 : Int32) then (some ((-1 : Int32), (oi_2, oi_3, oi_4, ok_0, ok_1, zf))) else (if (60 : Int32) < a2 then (some ((-1 : Int32), (oi_2, oi_3, oi_4, ok_0, ok_1, zf))) else (if a3 < 0 then (some ((-1 : Int32), (oi_2, oi_3, oi_4, ok_0, ok_1, zf))) else (if a3 ≤ (1 : Int32) then (xbd (fX5_reckonDraughts F ti_4 ti_7 ti_8 tk_2 tk_3 zf qi_4 6) (fun (u48 : (Nat → Int32)) => fX6_night_L54 ti_4 ti_7 a1 a2 (fun (v54_4 : Int32) (w54_zf : Nat → Int32) => xbd (fX1_copy F ok_0 ok_1 qi_2 qi_3 qi_4 qk_0 qk_1) (fun (u135 : Int32 × Int32 × Int32 × (Nat → Int32) × (Nat → Int32)) => xbd (fX1_goOn F u135.1 u135.2.1 u135.2.2.1 u135.2.2.2.1 u135.2.2.2.2 ti_4 ti_7 w54_zf a2 6) (fun (u151 : Int32 × Int32 × (Nat → Int32) × (Nat → Int32)) => if a3 = 0 then (xbd (fX1_litCount u151.1) (fun (r162 : Int32) => some (r162, (u135.1, u151.1, u151.2.1, u151.2.2.1, u151.2.2.2, w54_zf)))) else (xbd (fX1_oilInAll F u135.1 u151.2.2.2) (fun (r172 : Int32) => some (r172, (u135.1, u151.1, u151.2.1, u151.2.2.1, u151.2.2.2, w54_zf))))))) F (1 : Int32) u48)) else (some ((-1 : Int32), (oi_2, oi_3, oi_4, ok_0, ok_1, zf))))))))
theorem hi_X6_night_1 : ∀ w ∈ wsX10, w ∈ wsX6_night := fun _ h => (List.mem_cons_of_mem _ (List.mem_append_left _ (List.mem_append_left _ (List.mem_append_right _ h))))
theorem hi_X6_night_6 : ∀ w ∈ wsX60, w ∈ wsX6_night := fun _ h => (List.mem_cons_of_mem _ (List.mem_append_left _ (List.mem_append_left _ (List.mem_append_left _ (List.mem_append_right _ h)))))
set_option maxHeartbeats 4000000 in
set_option maxRecDepth 100000 in
theorem c_X6_night (l : Launch) (D : va_G) (cI cP : ClassId) (sz : Nat) (x : Nat) (xr : Nat → Nat) (xl : Int32) (xt : Nat) (xd : Nat) (tr : Nat → Nat) (ta : Nat → Nat) (ti : Nat → Int32) (tk : Nat → Nat → Int32) (qr : Nat → Nat) (qa : Nat → Nat) (qi : Nat → Int32) (qk : Nat → Nat → Int32) (or : Nat → Nat) (oa : Nat → Nat) (oi : Nat → Int32) (ok : Nat → Nat → Int32) (za : Nat) (zf : Nat → Int32) (F : Nat) (a1 : Int32) (a2 : Int32) (a3 : Int32) (hne : fX6_night F (ti 4) (ti 7) (ti 8) (tk 2) (tk 3) (qi 2) (qi 3) (qi 4) (qk 0) (qk 1) (oi 2) (oi 3) (oi 4) (ok 0) (ok 1) zf a1 a2 a3 ≠ none) : xMi l yX6_night wsX6_night ({ frames := 4, cells := 0, slots := 0, locals := 90 } : Room) D (xT cI cP) [.ref x, .int a1, .int a2, .int a3] ((wX x xr xl xt xd) ++ (wTold cI xt tr ta ti tk) ++ (wPass cI (xr 5) qr qa qi qk) ++ (wPass cI (xr 6) or oa oi ok) ++ (wRow cI (xr 7) za 6 zf)) sz (fun r (u : (Int32 × Int32 × Int32 × (Nat → Int32) × (Nat → Int32) × (Nat → Int32))) => fX6_night F (ti 4) (ti 7) (ti 8) (tk 2) (tk 3) (qi 2) (qi 3) (qi 4) (qk 0) (qk 1) (oi 2) (oi 3) (oi 4) (ok 0) (ok 1) zf a1 a2 a3 = some (r, u)) (fun u => (wX x xr xl xt xd) ++ (wTold cI xt tr ta ti tk) ++ (wPass cI (xr 5) qr qa qi qk) ++ (wPass cI (xr 6) or oa (upd (upd (upd oi 2 u.1) 3 u.2.1) 4 u.2.2.1) (va_up (va_up ok 0 u.2.2.2.1) 1 u.2.2.2.2.1)) ++ (wRow cI (xr 7) za 6 u.2.2.2.2.2)) 0 0 := by
  refine xMi_of (cc := cX6_night) (maxL := 7) (by decide +kernel) rfl (Nat.le_of_ble_eq_true rfl) ?_
  intro p e s m args below meth c A ls hx hb hml hown hts hname hN hK hA hP hD hS hl Q hret
  have he := fX6_night.eq_1 F (ti 4) (ti 7) (ti 8) (tk 2) (tk 3) (qi 2) (qi 3) (qi 4) (qk 0) (qk 1) (oi 2) (oi 3) (oi 4) (ok 0) (ok 1) zf a1 a2 a3
  have hl : lv_has ls 7 [(0, .ref x), (1, .int a1), (2, .int a2), (3, .int a3)] := hl
  have R54_0 : ∀ (v54_4 : Int32) (w54_zf : Nat → Int32), fX6_night F (ti 4) (ti 7) (ti 8) (tk 2) (tk 3) (qi 2) (qi 3) (qi 4) (qk 0) (qk 1) (oi 2) (oi 3) (oi 4) (ok 0) (ok 1) zf a1 a2 a3 = (xbd (fX1_copy F (ok 0) (ok 1) (qi 2) (qi 3) (qi 4) (qk 0) (qk 1)) (fun (u135 : Int32 × Int32 × Int32 × (Nat → Int32) × (Nat → Int32)) => xbd (fX1_goOn F u135.1 u135.2.1 u135.2.2.1 u135.2.2.2.1 u135.2.2.2.2 (ti 4) (ti 7) w54_zf a2 6) (fun (u151 : Int32 × Int32 × (Nat → Int32) × (Nat → Int32)) => if a3 = 0 then (xbd (fX1_litCount u151.1) (fun (r162 : Int32) => some (r162, (u135.1, u151.1, u151.2.1, u151.2.2.1, u151.2.2.2, w54_zf)))) else (xbd (fX1_oilInAll F u135.1 u151.2.2.2) (fun (r172 : Int32) => some (r172, (u135.1, u151.1, u151.2.1, u151.2.2.1, u151.2.2.2, w54_zf))))))) → ∀ (H : Heap) (locs : List Loc) (ls : Array Slot), va_P D vwCl ((wX x xr xl xt xd) ++ (wTold cI xt tr ta ti tk) ++ (wPass cI (xr 5) qr qa qi qk) ++ (wPass cI (xr 6) or oa oi ok) ++ (wRow cI (xr 7) za 6 w54_zf)) H → va_D A ((wX x xr xl xt xd) ++ (wTold cI xt tr ta ti tk) ++ (wPass cI (xr 5) qr qa qi qk) ++ (wPass cI (xr 6) or oa oi ok) ++ (wRow cI (xr 7) za 6 w54_zf)) → va_S A s.heap H locs → lv_has ls 7 [(0, .ref x), (2, .int a2), (3, .int a3)] → W p l e ({ frames := 4, cells := 0, slots := 0, locals := 90 } : Room) s m args below meth c H locs 0 0 Q (F0 m 127 ls []) := by
    intro v54_4 w54_zf he H locs ls hP hD hS hl
    refine lv_aload_n hx hb dX6_night_127 rfl (lv_at hl 0 rfl) ?_
    refine va_get (D := D) (ci := 6) (v := .ref (xr 6)) (C := RX6) (T := TX6) (N := 12) hx hb hts hi_X6_night_6 hown hK hP 0 rfl rfl 6 (by decide) (hts (.fieldLink RX6 49 "BlindLanterns" "nightPass" "LBlindLanterns$Pass;") (List.mem_of_getElem? (i := 8) rfl)) (fun _ h9 => h9) rfl dX6_night_128 ?_
    refine lv_aload_n hx hb dX6_night_131 rfl (lv_at hl 0 rfl) ?_
    refine va_get (D := D) (ci := 6) (v := .ref (xr 5)) (C := RX6) (T := TX6) (N := 12) hx hb hts hi_X6_night_6 hown hK hP 0 rfl rfl 5 (by decide) (hts (.fieldLink RX6 45 "BlindLanterns" "pass" "LBlindLanterns$Pass;") (List.mem_of_getElem? (i := 2) rfl)) (fun _ h9 => h9) rfl dX6_night_132 ?_
    have n8_ : fX1_copy F (ok 0) (ok 1) (qi 2) (qi 3) (qi 4) (qk 0) (qk 1) ≠ none := fun z => hne (he.trans (xbd_none z))
    refine xcv (va_runV (As := [.ref (xr 5)]) (rest := []) ⟨hx, hb, hml, hown, hts⟩ (c_X1_copy l D cI cP H.size (xr 6) or oa oi ok (xr 5) qr qa qi qk F  n8_) (cwV 1 hts gX6_night_X1_copy rfl rfl rfl (by decide +kernel) ⟨Nat.le_of_ble_eq_true rfl, Nat.le_of_ble_eq_true rfl⟩) (xPV hN hK hP hD [15, 16, 17, 18, 19, 10, 11, 12, 13, 14] rfl (by decide) (ci := 1) (j := 15) rfl rfl) rfl rfl hl.1 rfl (lv_room (Nat.le_of_ble_eq_true rfl)) dX6_night_135 ⟨Nat.le_of_ble_eq_true rfl, Nat.le_of_ble_eq_true rfl⟩) hP hD hS hA [15, 16, 17, 18, 19, 10, 11, 12, 13, 14] rfl (fun _ => rfl) (fun u135 H locs hw hP hD hS => ?_)
    have hP : va_P D vwCl ((wX x xr xl xt xd) ++ (wTold cI xt tr ta ti tk) ++ (wPass cI (xr 5) qr qa qi qk) ++ (wPass cI (xr 6) or oa (upd (upd (upd oi 2 u135.1) 3 u135.2.1) 4 u135.2.2.1) (va_up (va_up ok 0 u135.2.2.2.1) 1 u135.2.2.2.2)) ++ (wRow cI (xr 7) za 6 w54_zf)) H := hP
    have hD : va_D A ((wX x xr xl xt xd) ++ (wTold cI xt tr ta ti tk) ++ (wPass cI (xr 5) qr qa qi qk) ++ (wPass cI (xr 6) or oa (upd (upd (upd oi 2 u135.1) 3 u135.2.1) 4 u135.2.2.1) (va_up (va_up ok 0 u135.2.2.2.1) 1 u135.2.2.2.2)) ++ (wRow cI (xr 7) za 6 w54_zf)) := hD
    replace he := he.trans (xbd_some hw)
    refine lv_aload_n hx hb dX6_night_138 rfl (lv_at hl 0 rfl) ?_
    refine va_get (D := D) (ci := 6) (v := .ref (xr 6)) (C := RX6) (T := TX6) (N := 12) hx hb hts hi_X6_night_6 hown hK hP 0 rfl rfl 6 (by decide) (hts (.fieldLink RX6 49 "BlindLanterns" "nightPass" "LBlindLanterns$Pass;") (List.mem_of_getElem? (i := 8) rfl)) (fun _ h9 => h9) rfl dX6_night_139 ?_
    refine lv_aload_n hx hb dX6_night_142 rfl (lv_at hl 0 rfl) ?_
    refine va_get (D := D) (ci := 6) (v := .ref xt) (C := RX6) (T := TX6) (N := 12) hx hb hts hi_X6_night_6 hown hK hP 0 rfl rfl 10 (by decide) (hts (.fieldLink RX6 61 "BlindLanterns" "told" "LBlindLanterns$Told;") (List.mem_of_getElem? (i := 1) rfl)) (fun _ h9 => h9) rfl dX6_night_143 ?_
    refine lv_iload_n hx hb dX6_night_146 rfl (lv_at hl 1 rfl) ?_
    refine lv_aload_n hx hb dX6_night_147 rfl (lv_at hl 0 rfl) ?_
    refine va_get (D := D) (ci := 6) (v := .ref (xr 7)) (C := RX6) (T := TX6) (N := 12) hx hb hts hi_X6_night_6 hown hK hP 0 rfl rfl 7 (by decide) (hts (.fieldLink RX6 52 "BlindLanterns" "draughtIn" "LBlindLanterns$Row;") (List.mem_of_getElem? (i := 3) rfl)) (fun _ h9 => h9) rfl dX6_night_148 ?_
    have n9_ : fX1_goOn F u135.1 u135.2.1 u135.2.2.1 u135.2.2.2.1 u135.2.2.2.2 (ti 4) (ti 7) w54_zf a2 6 ≠ none := fun z => hne (he.trans (xbd_none z))
    refine xcv (va_runV (As := [.ref xt, .int a2, .ref (xr 7)]) (rest := []) ⟨hx, hb, hml, hown, hts⟩ (c_X1_goOn l D cI cP H.size (xr 6) or oa (upd (upd (upd oi 2 u135.1) 3 u135.2.1) 4 u135.2.2.1) (va_up (va_up ok 0 u135.2.2.2.1) 1 u135.2.2.2.2) xt tr ta ti tk (xr 7) za 6 w54_zf F a2 n9_) (cwV 3 hts gX6_night_X1_goOn rfl rfl rfl (by decide +kernel) ⟨Nat.le_of_ble_eq_true rfl, Nat.le_of_ble_eq_true rfl⟩) (xPV hN hK hP hD [15, 16, 17, 18, 19, 1, 2, 3, 4, 5, 6, 7, 8, 9, 20, 21] rfl (by decide) (ci := 1) (j := 15) rfl rfl) rfl rfl hl.1 rfl (lv_room (Nat.le_of_ble_eq_true rfl)) dX6_night_151 ⟨Nat.le_of_ble_eq_true rfl, Nat.le_of_ble_eq_true rfl⟩) hP hD hS hA [15, 16, 17, 18, 19, 1, 2, 3, 4, 5, 6, 7, 8, 9, 20, 21] rfl (fun _ => rfl) (fun u151 H locs hw hP hD hS => ?_)
    have hP : va_P D vwCl ((wX x xr xl xt xd) ++ (wTold cI xt tr ta ti tk) ++ (wPass cI (xr 5) qr qa qi qk) ++ (wPass cI (xr 6) or oa (upd (upd (upd oi 2 u135.1) 3 u151.1) 4 u151.2.1) (va_up (va_up ok 0 u151.2.2.1) 1 u151.2.2.2)) ++ (wRow cI (xr 7) za 6 w54_zf)) H := hP
    have hD : va_D A ((wX x xr xl xt xd) ++ (wTold cI xt tr ta ti tk) ++ (wPass cI (xr 5) qr qa qi qk) ++ (wPass cI (xr 6) or oa (upd (upd (upd oi 2 u135.1) 3 u151.1) 4 u151.2.1) (va_up (va_up ok 0 u151.2.2.1) 1 u151.2.2.2)) ++ (wRow cI (xr 7) za 6 w54_zf)) := hD
    replace he := he.trans (xbd_some hw)
    refine lv_iload_n hx hb dX6_night_154 rfl (lv_at hl 2 rfl) ?_
    refine lv_if_ne (tgt := 168) hx hb dX6_night_155 (by decide) (fun c10 => ?_) (fun c10 => ?_)
    · replace he := he.trans (if_neg c10)
      refine lv_aload_n hx hb dX6_night_168 rfl (lv_at hl 0 rfl) ?_
      refine va_get (D := D) (ci := 6) (v := .ref (xr 6)) (C := RX6) (T := TX6) (N := 12) hx hb hts hi_X6_night_6 hown hK hP 0 rfl rfl 6 (by decide) (hts (.fieldLink RX6 49 "BlindLanterns" "nightPass" "LBlindLanterns$Pass;") (List.mem_of_getElem? (i := 8) rfl)) (fun _ h9 => h9) rfl dX6_night_169 ?_
      have n11_ : fX1_oilInAll F u135.1 u151.2.2.2 ≠ none := fun z => hne (he.trans (xbd_none z))
      refine xci (va_runV (As := []) (rest := []) ⟨hx, hb, hml, hown, hts⟩ (c_X1_oilInAll l D cI cP H.size (xr 6) or oa (upd (upd (upd oi 2 u135.1) 3 u151.1) 4 u151.2.1) (va_up (va_up ok 0 u151.2.2.1) 1 u151.2.2.2) F  n11_) (cwV 0 hts gX6_night_X1_oilInAll rfl rfl rfl (by decide +kernel) ⟨Nat.le_of_ble_eq_true rfl, Nat.le_of_ble_eq_true rfl⟩) (xPV hN hK hP hD [15, 16, 17, 18, 19] rfl (by decide) (ci := 1) (j := 15) rfl rfl) rfl rfl hl.1 rfl (lv_room (Nat.le_of_ble_eq_true rfl)) dX6_night_172 ⟨Nat.le_of_ble_eq_true rfl, Nat.le_of_ble_eq_true rfl⟩) hP hD hS hA [15, 16, 17, 18, 19] rfl (fun _ => rfl) (fun r172 u172 H locs hw hP hD hS => ?_)
      have hP : va_P D vwCl ((wX x xr xl xt xd) ++ (wTold cI xt tr ta ti tk) ++ (wPass cI (xr 5) qr qa qi qk) ++ (wPass cI (xr 6) or oa (upd (upd (upd oi 2 u135.1) 3 u151.1) 4 u151.2.1) (va_up (va_up ok 0 u151.2.2.1) 1 u151.2.2.2)) ++ (wRow cI (xr 7) za 6 w54_zf)) H := hP
      have hD : va_D A ((wX x xr xl xt xd) ++ (wTold cI xt tr ta ti tk) ++ (wPass cI (xr 5) qr qa qi qk) ++ (wPass cI (xr 6) or oa (upd (upd (upd oi 2 u135.1) 3 u151.1) 4 u151.2.1) (va_up (va_up ok 0 u151.2.2.1) 1 u151.2.2.2)) ++ (wRow cI (xr 7) za 6 w54_zf)) := hD
      replace he := he.trans (xbd_some hw)
      exact hret r172 (u135.1, u151.1, u151.2.1, u151.2.2.1, u151.2.2.2, w54_zf) _ _ _ _ dX6_night_175 he hP hD hS
    · replace he := he.trans (if_pos c10)
      refine lv_aload_n hx hb dX6_night_158 rfl (lv_at hl 0 rfl) ?_
      refine va_get (D := D) (ci := 6) (v := .ref (xr 6)) (C := RX6) (T := TX6) (N := 12) hx hb hts hi_X6_night_6 hown hK hP 0 rfl rfl 6 (by decide) (hts (.fieldLink RX6 49 "BlindLanterns" "nightPass" "LBlindLanterns$Pass;") (List.mem_of_getElem? (i := 8) rfl)) (fun _ h9 => h9) rfl dX6_night_159 ?_
      have n12_ : fX1_litCount u151.1 ≠ none := fun z => hne (he.trans (xbd_none z))
      refine xci (va_runV (As := []) (rest := []) ⟨hx, hb, hml, hown, hts⟩ (c_X1_litCount l D cI cP H.size (xr 6) or oa (upd (upd (upd oi 2 u135.1) 3 u151.1) 4 u151.2.1) (va_up (va_up ok 0 u151.2.2.1) 1 u151.2.2.2)  n12_) (cwV 0 hts gX6_night_X1_litCount rfl rfl rfl (by decide +kernel) ⟨Nat.le_of_ble_eq_true rfl, Nat.le_of_ble_eq_true rfl⟩) (xPV hN hK hP hD [15, 16, 17, 18, 19] rfl (by decide) (ci := 1) (j := 15) rfl rfl) rfl rfl hl.1 rfl (lv_room (Nat.le_of_ble_eq_true rfl)) dX6_night_162 ⟨Nat.le_of_ble_eq_true rfl, Nat.le_of_ble_eq_true rfl⟩) hP hD hS hA [15, 16, 17, 18, 19] rfl (fun _ => rfl) (fun r162 u162 H locs hw hP hD hS => ?_)
      have hP : va_P D vwCl ((wX x xr xl xt xd) ++ (wTold cI xt tr ta ti tk) ++ (wPass cI (xr 5) qr qa qi qk) ++ (wPass cI (xr 6) or oa (upd (upd (upd oi 2 u135.1) 3 u151.1) 4 u151.2.1) (va_up (va_up ok 0 u151.2.2.1) 1 u151.2.2.2)) ++ (wRow cI (xr 7) za 6 w54_zf)) H := hP
      have hD : va_D A ((wX x xr xl xt xd) ++ (wTold cI xt tr ta ti tk) ++ (wPass cI (xr 5) qr qa qi qk) ++ (wPass cI (xr 6) or oa (upd (upd (upd oi 2 u135.1) 3 u151.1) 4 u151.2.1) (va_up (va_up ok 0 u151.2.2.1) 1 u151.2.2.2)) ++ (wRow cI (xr 7) za 6 w54_zf)) := hD
      replace he := he.trans (xbd_some hw)
      refine lv_goto (tgt := 175) hx hb dX6_night_165 (by decide) ?_
      exact hret r162 (u135.1, u151.1, u151.2.1, u151.2.2.1, u151.2.2.2, w54_zf) _ _ _ _ dX6_night_175 he hP hD hS
  have L54_44 : ∀ (n54 : Nat) (v54_4 : Int32) (w54_zf : Nat → Int32), fX6_night F (ti 4) (ti 7) (ti 8) (tk 2) (tk 3) (qi 2) (qi 3) (qi 4) (qk 0) (qk 1) (oi 2) (oi 3) (oi 4) (ok 0) (ok 1) zf a1 a2 a3 = fX6_night_L54 (ti 4) (ti 7) a1 a2 (fun (v54_4 : Int32) (w54_zf : Nat → Int32) => xbd (fX1_copy F (ok 0) (ok 1) (qi 2) (qi 3) (qi 4) (qk 0) (qk 1)) (fun (u135 : Int32 × Int32 × Int32 × (Nat → Int32) × (Nat → Int32)) => xbd (fX1_goOn F u135.1 u135.2.1 u135.2.2.1 u135.2.2.2.1 u135.2.2.2.2 (ti 4) (ti 7) w54_zf a2 6) (fun (u151 : Int32 × Int32 × (Nat → Int32) × (Nat → Int32)) => if a3 = 0 then (xbd (fX1_litCount u151.1) (fun (r162 : Int32) => some (r162, (u135.1, u151.1, u151.2.1, u151.2.2.1, u151.2.2.2, w54_zf)))) else (xbd (fX1_oilInAll F u135.1 u151.2.2.2) (fun (r172 : Int32) => some (r172, (u135.1, u151.1, u151.2.1, u151.2.2.1, u151.2.2.2, w54_zf))))))) n54 v54_4 w54_zf → ∀ (H : Heap) (locs : List Loc) (ls : Array Slot), va_P D vwCl ((wX x xr xl xt xd) ++ (wTold cI xt tr ta ti tk) ++ (wPass cI (xr 5) qr qa qi qk) ++ (wPass cI (xr 6) or oa oi ok) ++ (wRow cI (xr 7) za 6 w54_zf)) H → va_D A ((wX x xr xl xt xd) ++ (wTold cI xt tr ta ti tk) ++ (wPass cI (xr 5) qr qa qi qk) ++ (wPass cI (xr 6) or oa oi ok) ++ (wRow cI (xr 7) za 6 w54_zf)) → va_S A s.heap H locs → lv_has ls 7 [(4, .int v54_4), (0, .ref x), (1, .int a1), (2, .int a2), (3, .int a3)] → W p l e ({ frames := 4, cells := 0, slots := 0, locals := 90 } : Room) s m args below meth c H locs 0 0 Q (F0 m 54 ls []) := by
    intro n54
    induction n54 with
    | zero => intro v54_4 w54_zf he; exact absurd he hne
    | succ n54 ih54 =>
      intro v54_4 w54_zf he H locs ls hP hD hS hl
      replace he := he.trans (fX6_night_L54.eq_2 _ _ _ _ _ _ _ _)
      refine lv_iload hx hb dX6_night_54 (lv_at hl 0 rfl) ?_
      refine lv_iload_n hx hb dX6_night_56 rfl (lv_at hl 3 rfl) ?_
      refine lv_icmp_gt (tgt := 127) hx hb dX6_night_57 (by decide) (fun c13 => ?_) (fun c13 => ?_)
      · replace he := he.trans (if_pos c13)
        exact R54_0 v54_4 w54_zf he _ _ _ hP hD hS (lv_sub hl [1, 3, 4] rfl)
      · replace he := he.trans (if_neg c13)
        refine lv_iload_n hx hb dX6_night_60 rfl (lv_at hl 2 rfl) ?_
        refine lv_iload hx hb dX6_night_61 (lv_at hl 0 rfl) ?_
        have n14_ : fX6_drawOf a1 v54_4 ≠ none := fun z => hne (he.trans (xbd_none z))
        refine xci (va_runS (As := [.int a1, .int v54_4]) (rest := []) ⟨hx, hb, hml, hown, hts⟩ (c_X6_drawOf l D cI cP H.size  a1 v54_4 n14_) (va_cwS 2 hts gX6_night_X6_drawOf rfl rfl rfl (by decide +kernel) ⟨Nat.le_of_ble_eq_true rfl, Nat.le_of_ble_eq_true rfl⟩) (xPS hN hK hP hD [] rfl (by decide)) rfl rfl hl.1 rfl (lv_room (Nat.le_of_ble_eq_true rfl)) dX6_night_63 ⟨Nat.le_of_ble_eq_true rfl, Nat.le_of_ble_eq_true rfl⟩) hP hD hS hA [] rfl (fun _ => rfl) (fun r63 u63 H locs hw hP hD hS => ?_)
        have hP : va_P D vwCl ((wX x xr xl xt xd) ++ (wTold cI xt tr ta ti tk) ++ (wPass cI (xr 5) qr qa qi qk) ++ (wPass cI (xr 6) or oa oi ok) ++ (wRow cI (xr 7) za 6 w54_zf)) H := hP
        have hD : va_D A ((wX x xr xl xt xd) ++ (wTold cI xt tr ta ti tk) ++ (wPass cI (xr 5) qr qa qi qk) ++ (wPass cI (xr 6) or oa oi ok) ++ (wRow cI (xr 7) za 6 w54_zf)) := hD
        replace he := he.trans (xbd_some hw)
        refine lv_istore (lv' := [(5, .int r63), (4, .int v54_4), (0, .ref x), (1, .int a1), (2, .int a2), (3, .int a3)]) hx hb dX6_night_66 hl (by decide) rfl (fun ls hl => ?_)
        refine lv_iload hx hb dX6_night_68 (lv_at hl 0 rfl) ?_
        refine lv_bipush (v := 8) hx hb dX6_night_70 (by decide) ?_
        refine lv_idiv hx hb dX6_night_72 (by decide) ?_
        refine lv_iconst (v := 4) hx hb dX6_night_73 (by decide) ?_
        refine lv_irem hx hb dX6_night_74 (by decide) ?_
        refine lv_if_ne (tgt := 121) hx hb dX6_night_75 (by decide) (fun c15 => ?_) (fun c15 => ?_)
        · replace he := he.trans (if_neg c15)
          refine lv_iinc (v := (v54_4 + 1)) (lv' := [(4, .int (v54_4 + 1)), (5, .int r63), (0, .ref x), (1, .int a1), (2, .int a2), (3, .int a3)]) hx hb dX6_night_121 hl (k := 1) rfl rfl (by decide) rfl (fun ls hl => ?_)
          refine lv_goto (tgt := 54) hx hb dX6_night_124 (by decide) ?_
          exact ih54 (v54_4 + 1) w54_zf he _ _ _ hP hD hS (lv_sub hl [0, 2, 3, 4, 5] rfl)
        · replace he := he.trans (if_pos c15)
          refine lv_aload_n hx hb dX6_night_78 rfl (lv_at hl 2 rfl) ?_
          refine va_get (D := D) (ci := 6) (v := .ref xt) (C := RX6) (T := TX6) (N := 12) hx hb hts hi_X6_night_6 hown hK hP 0 rfl rfl 10 (by decide) (hts (.fieldLink RX6 61 "BlindLanterns" "told" "LBlindLanterns$Told;") (List.mem_of_getElem? (i := 1) rfl)) (fun _ h9 => h9) rfl dX6_night_79 ?_
          refine lv_aload_n hx hb dX6_night_82 rfl (lv_at hl 2 rfl) ?_
          refine va_get (D := D) (ci := 6) (v := .ref xt) (C := RX6) (T := TX6) (N := 12) hx hb hts hi_X6_night_6 hown hK hP 0 rfl rfl 10 (by decide) (hts (.fieldLink RX6 61 "BlindLanterns" "told" "LBlindLanterns$Told;") (List.mem_of_getElem? (i := 1) rfl)) (fun _ h9 => h9) rfl dX6_night_83 ?_
          refine lv_iload hx hb dX6_night_86 (lv_at hl 0 rfl) ?_
          have n16_ : fX5_round (ti 4) r63 ≠ none := fun z => hne (he.trans (xbd_none z))
          refine xci (va_runV (As := [.int r63]) (rest := [.ref xt]) ⟨hx, hb, hml, hown, hts⟩ (c_X5_round l D cI cP H.size xt tr ta ti tk r63 n16_) (cwV 1 hts gX6_night_X5_round rfl rfl rfl (by decide +kernel) ⟨Nat.le_of_ble_eq_true rfl, Nat.le_of_ble_eq_true rfl⟩) (xPV hN hK hP hD [1, 2, 3, 4, 5, 6, 7, 8, 9] rfl (by decide) (ci := 5) (j := 1) rfl rfl) rfl rfl hl.1 rfl (lv_room (Nat.le_of_ble_eq_true rfl)) dX6_night_88 ⟨Nat.le_of_ble_eq_true rfl, Nat.le_of_ble_eq_true rfl⟩) hP hD hS hA [1, 2, 3, 4, 5, 6, 7, 8, 9] rfl (fun _ => rfl) (fun r88 u88 H locs hw hP hD hS => ?_)
          have hP : va_P D vwCl ((wX x xr xl xt xd) ++ (wTold cI xt tr ta ti tk) ++ (wPass cI (xr 5) qr qa qi qk) ++ (wPass cI (xr 6) or oa oi ok) ++ (wRow cI (xr 7) za 6 w54_zf)) H := hP
          have hD : va_D A ((wX x xr xl xt xd) ++ (wTold cI xt tr ta ti tk) ++ (wPass cI (xr 5) qr qa qi qk) ++ (wPass cI (xr 6) or oa oi ok) ++ (wRow cI (xr 7) za 6 w54_zf)) := hD
          replace he := he.trans (xbd_some hw)
          refine lv_iload hx hb dX6_night_91 (lv_at hl 1 rfl) ?_
          have n17_ : fX5_postBefore (ti 4) (ti 7) r88 v54_4 ≠ none := fun z => hne (he.trans (xbd_none z))
          refine xci (va_runV (As := [.int r88, .int v54_4]) (rest := []) ⟨hx, hb, hml, hown, hts⟩ (c_X5_postBefore l D cI cP H.size xt tr ta ti tk r88 v54_4 n17_) (cwV 2 hts gX6_night_X5_postBefore rfl rfl rfl (by decide +kernel) ⟨Nat.le_of_ble_eq_true rfl, Nat.le_of_ble_eq_true rfl⟩) (xPV hN hK hP hD [1, 2, 3, 4, 5, 6, 7, 8, 9] rfl (by decide) (ci := 5) (j := 1) rfl rfl) rfl rfl hl.1 rfl (lv_room (Nat.le_of_ble_eq_true rfl)) dX6_night_93 ⟨Nat.le_of_ble_eq_true rfl, Nat.le_of_ble_eq_true rfl⟩) hP hD hS hA [1, 2, 3, 4, 5, 6, 7, 8, 9] rfl (fun _ => rfl) (fun r93 u93 H locs hw hP hD hS => ?_)
          have hP : va_P D vwCl ((wX x xr xl xt xd) ++ (wTold cI xt tr ta ti tk) ++ (wPass cI (xr 5) qr qa qi qk) ++ (wPass cI (xr 6) or oa oi ok) ++ (wRow cI (xr 7) za 6 w54_zf)) H := hP
          have hD : va_D A ((wX x xr xl xt xd) ++ (wTold cI xt tr ta ti tk) ++ (wPass cI (xr 5) qr qa qi qk) ++ (wPass cI (xr 6) or oa oi ok) ++ (wRow cI (xr 7) za 6 w54_zf)) := hD
          replace he := he.trans (xbd_some hw)
          refine lv_istore (lv' := [(6, .int r93), (5, .int r63), (4, .int v54_4), (0, .ref x), (1, .int a1), (2, .int a2), (3, .int a3)]) hx hb dX6_night_96 hl (by decide) rfl (fun ls hl => ?_)
          refine lv_aload_n hx hb dX6_night_98 rfl (lv_at hl 3 rfl) ?_
          refine va_get (D := D) (ci := 6) (v := .ref (xr 7)) (C := RX6) (T := TX6) (N := 12) hx hb hts hi_X6_night_6 hown hK hP 0 rfl rfl 7 (by decide) (hts (.fieldLink RX6 52 "BlindLanterns" "draughtIn" "LBlindLanterns$Row;") (List.mem_of_getElem? (i := 3) rfl)) (fun _ h9 => h9) rfl dX6_night_99 ?_
          refine lv_iload hx hb dX6_night_102 (lv_at hl 0 rfl) ?_
          refine lv_iload hx hb dX6_night_104 (lv_at hl 2 rfl) ?_
          refine lv_aload_n hx hb dX6_night_106 rfl (lv_at hl 3 rfl) ?_
          refine va_get (D := D) (ci := 6) (v := .ref (xr 7)) (C := RX6) (T := TX6) (N := 12) hx hb hts hi_X6_night_6 hown hK hP 0 rfl rfl 7 (by decide) (hts (.fieldLink RX6 52 "BlindLanterns" "draughtIn" "LBlindLanterns$Row;") (List.mem_of_getElem? (i := 3) rfl)) (fun _ h9 => h9) rfl dX6_night_107 ?_
          refine lv_iload hx hb dX6_night_110 (lv_at hl 0 rfl) ?_
          have n18_ : fX3_get w54_zf r93 6 ≠ none := fun z => hne (he.trans (xbd_none z))
          refine xci (va_runV (As := [.int r93]) (rest := [.int v54_4, .int r93, .ref (xr 7)]) ⟨hx, hb, hml, hown, hts⟩ (c_X3_get l D cI cP H.size (xr 7) za 6 w54_zf r93 n18_) (cwV 1 hts gX6_night_X3_get rfl rfl rfl (by decide +kernel) ⟨Nat.le_of_ble_eq_true rfl, Nat.le_of_ble_eq_true rfl⟩) (xPV hN hK hP hD [20, 21] rfl (by decide) (ci := 3) (j := 20) rfl rfl) rfl rfl hl.1 rfl (lv_room (Nat.le_of_ble_eq_true rfl)) dX6_night_112 ⟨Nat.le_of_ble_eq_true rfl, Nat.le_of_ble_eq_true rfl⟩) hP hD hS hA [20, 21] rfl (fun _ => rfl) (fun r112 u112 H locs hw hP hD hS => ?_)
          have hP : va_P D vwCl ((wX x xr xl xt xd) ++ (wTold cI xt tr ta ti tk) ++ (wPass cI (xr 5) qr qa qi qk) ++ (wPass cI (xr 6) or oa oi ok) ++ (wRow cI (xr 7) za 6 w54_zf)) H := hP
          have hD : va_D A ((wX x xr xl xt xd) ++ (wTold cI xt tr ta ti tk) ++ (wPass cI (xr 5) qr qa qi qk) ++ (wPass cI (xr 6) or oa oi ok) ++ (wRow cI (xr 7) za 6 w54_zf)) := hD
          replace he := he.trans (xbd_some hw)
          refine va_mmin hx hb (hml.trans hl.1.symm) hown (hts (.methodLink RX6 223 Lib.Math.min.name) (List.mem_of_getElem? (i := 4) rfl)) (hts (.static Lib.Math.min.name) (List.mem_of_getElem? (i := 5) rfl)) (hts (.initialized RJ9) (List.mem_of_getElem? (i := 41) rfl)) (hts (.code Lib.Math.min.name Lib.Math.min.code 2 (some .int)) (List.mem_of_getElem? (i := 7) rfl)) (Nat.le_of_ble_eq_true rfl) (Nat.le_of_ble_eq_true rfl) (Nat.le_of_ble_eq_true rfl) (Nat.le_of_ble_eq_true rfl) dX6_night_115 ?_
          have n19_ : fX3_set w54_zf r93 (if r112 < v54_4 then r112 else v54_4) 6 ≠ none := fun z => hne (he.trans (xbd_none z))
          refine xcv (va_runV (As := [.int r93, .int (if r112 < v54_4 then r112 else v54_4)]) (rest := []) ⟨hx, hb, hml, hown, hts⟩ (c_X3_set l D cI cP H.size (xr 7) za 6 w54_zf r93 (if r112 < v54_4 then r112 else v54_4) n19_) (cwV 2 hts gX6_night_X3_set rfl rfl rfl (by decide +kernel) ⟨Nat.le_of_ble_eq_true rfl, Nat.le_of_ble_eq_true rfl⟩) (xPV hN hK hP hD [20, 21] rfl (by decide) (ci := 3) (j := 20) rfl rfl) rfl rfl hl.1 rfl (lv_room (Nat.le_of_ble_eq_true rfl)) dX6_night_118 ⟨Nat.le_of_ble_eq_true rfl, Nat.le_of_ble_eq_true rfl⟩) hP hD hS hA [20, 21] rfl (fun _ => rfl) (fun u118 H locs hw hP hD hS => ?_)
          have hP : va_P D vwCl ((wX x xr xl xt xd) ++ (wTold cI xt tr ta ti tk) ++ (wPass cI (xr 5) qr qa qi qk) ++ (wPass cI (xr 6) or oa oi ok) ++ (wRow cI (xr 7) za 6 u118)) H := hP
          have hD : va_D A ((wX x xr xl xt xd) ++ (wTold cI xt tr ta ti tk) ++ (wPass cI (xr 5) qr qa qi qk) ++ (wPass cI (xr 6) or oa oi ok) ++ (wRow cI (xr 7) za 6 u118)) := hD
          replace he := he.trans (xbd_some hw)
          refine lv_iinc (v := (v54_4 + 1)) (lv' := [(4, .int (v54_4 + 1)), (6, .int r93), (5, .int r63), (0, .ref x), (1, .int a1), (2, .int a2), (3, .int a3)]) hx hb dX6_night_121 hl (k := 2) rfl rfl (by decide) rfl (fun ls hl => ?_)
          refine lv_goto (tgt := 54) hx hb dX6_night_124 (by decide) ?_
          exact ih54 (v54_4 + 1) u118 he _ _ _ hP hD hS (lv_sub hl [0, 3, 4, 5, 6] rfl)
  refine lv_iload_n hx hb dX6_night_0 rfl (lv_at hl 1 rfl) ?_
  refine lv_if_lt (tgt := 31) hx hb dX6_night_1 (by decide) (fun c1 => ?_) (fun c1 => ?_)
  · replace he := he.trans (if_pos c1)
    refine lv_iconst (v := -1) hx hb dX6_night_31 (by decide) ?_
    exact hret (-1 : Int32) ((oi 2), (oi 3), (oi 4), (ok 0), (ok 1), zf) _ _ _ _ dX6_night_32 he hP hD hS
  · replace he := he.trans (if_neg c1)
    refine lv_iload_n hx hb dX6_night_4 rfl (lv_at hl 1 rfl) ?_
    refine lv_sipush (v := 9999) hx hb dX6_night_5 (by decide) ?_
    refine lv_icmp_gt (tgt := 31) hx hb dX6_night_8 (by decide) (fun c2 => ?_) (fun c2 => ?_)
    · replace he := he.trans (if_pos c2)
      refine lv_iconst (v := -1) hx hb dX6_night_31 (by decide) ?_
      exact hret (-1 : Int32) ((oi 2), (oi 3), (oi 4), (ok 0), (ok 1), zf) _ _ _ _ dX6_night_32 he hP hD hS
    · replace he := he.trans (if_neg c2)
      refine lv_iload_n hx hb dX6_night_11 rfl (lv_at hl 2 rfl) ?_
      refine lv_iconst (v := 1) hx hb dX6_night_12 (by decide) ?_
      refine lv_icmp_lt (tgt := 31) hx hb dX6_night_13 (by decide) (fun c3 => ?_) (fun c3 => ?_)
      · replace he := he.trans (if_pos c3)
        refine lv_iconst (v := -1) hx hb dX6_night_31 (by decide) ?_
        exact hret (-1 : Int32) ((oi 2), (oi 3), (oi 4), (ok 0), (ok 1), zf) _ _ _ _ dX6_night_32 he hP hD hS
      · replace he := he.trans (if_neg c3)
        refine lv_iload_n hx hb dX6_night_16 rfl (lv_at hl 2 rfl) ?_
        refine lv_bipush (v := 60) hx hb dX6_night_17 (by decide) ?_
        refine lv_icmp_gt (tgt := 31) hx hb dX6_night_19 (by decide) (fun c4 => ?_) (fun c4 => ?_)
        · replace he := he.trans (if_pos c4)
          refine lv_iconst (v := -1) hx hb dX6_night_31 (by decide) ?_
          exact hret (-1 : Int32) ((oi 2), (oi 3), (oi 4), (ok 0), (ok 1), zf) _ _ _ _ dX6_night_32 he hP hD hS
        · replace he := he.trans (if_neg c4)
          refine lv_iload_n hx hb dX6_night_22 rfl (lv_at hl 3 rfl) ?_
          refine lv_if_lt (tgt := 31) hx hb dX6_night_23 (by decide) (fun c5 => ?_) (fun c5 => ?_)
          · replace he := he.trans (if_pos c5)
            refine lv_iconst (v := -1) hx hb dX6_night_31 (by decide) ?_
            exact hret (-1 : Int32) ((oi 2), (oi 3), (oi 4), (ok 0), (ok 1), zf) _ _ _ _ dX6_night_32 he hP hD hS
          · replace he := he.trans (if_neg c5)
            refine lv_iload_n hx hb dX6_night_26 rfl (lv_at hl 3 rfl) ?_
            refine lv_iconst (v := 1) hx hb dX6_night_27 (by decide) ?_
            refine lv_icmp_le (tgt := 33) hx hb dX6_night_28 (by decide) (fun c6 => ?_) (fun c6 => ?_)
            · replace he := he.trans (if_pos c6)
              refine lv_aload_n hx hb dX6_night_33 rfl (lv_at hl 0 rfl) ?_
              refine va_get (D := D) (ci := 6) (v := .ref xt) (C := RX6) (T := TX6) (N := 12) hx hb hts hi_X6_night_6 hown hK hP 0 rfl rfl 10 (by decide) (hts (.fieldLink RX6 61 "BlindLanterns" "told" "LBlindLanterns$Told;") (List.mem_of_getElem? (i := 1) rfl)) (fun _ h9 => h9) rfl dX6_night_34 ?_
              refine lv_aload_n hx hb dX6_night_37 rfl (lv_at hl 0 rfl) ?_
              refine va_get (D := D) (ci := 6) (v := .ref (xr 5)) (C := RX6) (T := TX6) (N := 12) hx hb hts hi_X6_night_6 hown hK hP 0 rfl rfl 5 (by decide) (hts (.fieldLink RX6 45 "BlindLanterns" "pass" "LBlindLanterns$Pass;") (List.mem_of_getElem? (i := 2) rfl)) (fun _ h9 => h9) rfl dX6_night_38 ?_
              refine va_getN (D := D) (ci := 1) (v := .int (qi 4)) (C := RX1) (T := TX1) (N := 5) hx hb hts hi_X6_night_1 hown hK hP 10 rfl rfl 4 (by decide) (va_Nw.use rfl (hN (.fieldLinkNest RX6 143 "BlindLanterns$Pass" "bell" "I" "BlindLanterns") (List.mem_of_getElem? (i := 7) rfl))) (fun _ h9 => h9) rfl dX6_night_41 ?_
              refine lv_aload_n hx hb dX6_night_44 rfl (lv_at hl 0 rfl) ?_
              refine va_get (D := D) (ci := 6) (v := .ref (xr 7)) (C := RX6) (T := TX6) (N := 12) hx hb hts hi_X6_night_6 hown hK hP 0 rfl rfl 7 (by decide) (hts (.fieldLink RX6 52 "BlindLanterns" "draughtIn" "LBlindLanterns$Row;") (List.mem_of_getElem? (i := 3) rfl)) (fun _ h9 => h9) rfl dX6_night_45 ?_
              have n7_ : fX5_reckonDraughts F (ti 4) (ti 7) (ti 8) (tk 2) (tk 3) zf (qi 4) 6 ≠ none := fun z => hne (he.trans (xbd_none z))
              refine xcv (va_runV (As := [.int (qi 4), .ref (xr 7)]) (rest := []) ⟨hx, hb, hml, hown, hts⟩ (c_X5_reckonDraughts l D cI cP s.heap.size xt tr ta ti tk (xr 7) za 6 zf F (qi 4) n7_) (cwV 2 hts gX6_night_X5_reckonDraughts rfl rfl rfl (by decide +kernel) ⟨Nat.le_of_ble_eq_true rfl, Nat.le_of_ble_eq_true rfl⟩) (xPV hN hK hP hD [1, 2, 3, 4, 5, 6, 7, 8, 9, 20, 21] rfl (by decide) (ci := 5) (j := 1) rfl rfl) rfl rfl hl.1 rfl (lv_room (Nat.le_of_ble_eq_true rfl)) dX6_night_48 ⟨Nat.le_of_ble_eq_true rfl, Nat.le_of_ble_eq_true rfl⟩) hP hD hS hA [1, 2, 3, 4, 5, 6, 7, 8, 9, 20, 21] rfl (fun _ => rfl) (fun u48 H locs hw hP hD hS => ?_)
              have hP : va_P D vwCl ((wX x xr xl xt xd) ++ (wTold cI xt tr ta ti tk) ++ (wPass cI (xr 5) qr qa qi qk) ++ (wPass cI (xr 6) or oa oi ok) ++ (wRow cI (xr 7) za 6 u48)) H := hP
              have hD : va_D A ((wX x xr xl xt xd) ++ (wTold cI xt tr ta ti tk) ++ (wPass cI (xr 5) qr qa qi qk) ++ (wPass cI (xr 6) or oa oi ok) ++ (wRow cI (xr 7) za 6 u48)) := hD
              replace he := he.trans (xbd_some hw)
              refine lv_iconst (v := 1) hx hb dX6_night_51 (by decide) ?_
              refine lv_istore (lv' := [(4, .int (1 : Int32)), (0, .ref x), (1, .int a1), (2, .int a2), (3, .int a3)]) hx hb dX6_night_52 hl (by decide) rfl (fun ls hl => ?_)
              exact L54_44 F (1 : Int32) u48 he _ _ _ hP hD hS (lv_sub hl [0, 1, 2, 3, 4] rfl)
            · replace he := he.trans (if_neg c6)
              refine lv_iconst (v := -1) hx hb dX6_night_31 (by decide) ?_
              exact hret (-1 : Int32) ((oi 2), (oi 3), (oi 4), (ok 0), (ok 1), zf) _ _ _ _ dX6_night_32 he hP hD hS

def fX6_count (F : Nat) (xl : Int32) (ti_4 : Int32) (qi_2 : Int32) (qi_3 : Int32) (qi_4 : Int32) (qk_1 : Nat → Int32) (yi_3 : Int32) (jc : Int32) (kc : Int32) (a1 : Int32) : Option (Int32) :=
  if a1 = (0 : Int32) then (some ti_4) else (if a1 = (1 : Int32) then (some qi_4) else (if a1 = (2 : Int32) then (xbd (fX1_litCount qi_3) (fun (r68 : Int32) => some r68)) else (if a1 = (3 : Int32) then (xbd (fX1_oilInAll F qi_2 qk_1) (fun (r76 : Int32) => some r76)) else (if a1 = (4 : Int32) then (some yi_3) else (if a1 = (5 : Int32) then (some jc) else (if a1 = (6 : Int32) then (some kc) else (if a1 = (7 : Int32) then (some xl) else (some (-1 : Int32)))))))))
theorem hi_X6_count_0 : ∀ w ∈ wsX00, w ∈ wsX6_count := fun _ h => (List.mem_cons_of_mem _ (List.mem_append_left _ (List.mem_append_left _ (List.mem_append_right _ h))))
theorem hi_X6_count_1 : ∀ w ∈ wsX10, w ∈ wsX6_count := fun _ h => (List.mem_cons_of_mem _ (List.mem_append_left _ (List.mem_append_left _ (List.mem_append_left _ (List.mem_append_right _ h)))))
theorem hi_X6_count_4 : ∀ w ∈ wsX40, w ∈ wsX6_count := fun _ h => (List.mem_cons_of_mem _ (List.mem_append_left _ (List.mem_append_right _ h)))
theorem hi_X6_count_5 : ∀ w ∈ wsX50, w ∈ wsX6_count := fun _ h => (List.mem_cons_of_mem _ (List.mem_append_left _ (List.mem_append_left _ (List.mem_append_left _ (List.mem_append_left _ (List.mem_append_right _ h))))))
theorem hi_X6_count_6 : ∀ w ∈ wsX60, w ∈ wsX6_count := fun _ h => (List.mem_cons_of_mem _ (List.mem_append_left _ (List.mem_append_left _ (List.mem_append_left _ (List.mem_append_left _ (List.mem_append_left _ (List.mem_append_right _ h)))))))
set_option maxHeartbeats 4000000 in
set_option maxRecDepth 100000 in
theorem c_X6_count (l : Launch) (D : va_G) (cI cP : ClassId) (sz : Nat) (x : Nat) (xr : Nat → Nat) (xl : Int32) (xt : Nat) (xd : Nat) (tr : Nat → Nat) (ta : Nat → Nat) (ti : Nat → Int32) (tk : Nat → Nat → Int32) (qr : Nat → Nat) (qa : Nat → Nat) (qi : Nat → Int32) (qk : Nat → Nat → Int32) (yr : Nat → Nat) (ya : Nat → Nat) (yi : Nat → Int32) (yk : Nat → Nat → Int32) (jp : Nat) (jc : Int32) (kp : Nat) (kc : Int32) (F : Nat) (a1 : Int32) (hne : fX6_count F xl (ti 4) (qi 2) (qi 3) (qi 4) (qk 1) (yi 3) jc kc a1 ≠ none) : xMi l yX6_count wsX6_count ({ frames := 2, cells := 0, slots := 0, locals := 43 } : Room) D (xT cI cP) [.ref x, .int a1] ((wX x xr xl xt xd) ++ (wTold cI xt tr ta ti tk) ++ (wPass cI (xr 5) qr qa qi qk) ++ (wFelt cI (xr 2) yr ya yi yk) ++ (wHead (xr 3) jp jc) ++ (wHead (xr 4) kp kc)) sz (fun r (_ : Unit) => fX6_count F xl (ti 4) (qi 2) (qi 3) (qi 4) (qk 1) (yi 3) jc kc a1 = some r) (fun u => (wX x xr xl xt xd) ++ (wTold cI xt tr ta ti tk) ++ (wPass cI (xr 5) qr qa qi qk) ++ (wFelt cI (xr 2) yr ya yi yk) ++ (wHead (xr 3) jp jc) ++ (wHead (xr 4) kp kc)) 0 0 := by
  refine xMi_of (cc := cX6_count) (maxL := 2) (by decide +kernel) rfl (Nat.le_of_ble_eq_true rfl) ?_
  intro p e s m args below meth c A ls hx hb hml hown hts hname hN hK hA hP hD hS hl Q hret
  have he := fX6_count.eq_1 F xl (ti 4) (qi 2) (qi 3) (qi 4) (qk 1) (yi 3) jc kc a1
  have hl : lv_has ls 2 [(0, .ref x), (1, .int a1)] := hl
  refine lv_iload_n hx hb dX6_count_0 rfl (lv_at hl 1 rfl) ?_
  by_cases k1_0 : a1 = (0 : Int32)
  · replace he := he.trans (if_pos k1_0)
    refine lv_tableIn hx hb dX6_count_1 (off := 47) (tgt := 48) (by rw [k1_0]; decide) (by rw [k1_0]; decide) (by rw [k1_0]; rfl) (by decide) ?_
    refine lv_aload_n hx hb dX6_count_48 rfl (lv_at hl 0 rfl) ?_
    refine va_get (D := D) (ci := 6) (v := .ref xt) (C := RX6) (T := TX6) (N := 12) hx hb hts hi_X6_count_6 hown hK hP 0 rfl rfl 10 (by decide) (hts (.fieldLink RX6 61 "BlindLanterns" "told" "LBlindLanterns$Told;") (List.mem_of_getElem? (i := 1) rfl)) (fun _ h9 => h9) rfl dX6_count_49 ?_
    refine va_getN (D := D) (ci := 5) (v := .int (ti 4)) (C := RX5) (T := TX5) (N := 11) hx hb hts hi_X6_count_5 hown hK hP 1 rfl rfl 4 (by decide) (va_Nw.use rfl (hN (.fieldLinkNest RX6 100 "BlindLanterns$Told" "men" "I" "BlindLanterns") (List.mem_of_getElem? (i := 15) rfl))) (fun _ h9 => h9) rfl dX6_count_52 ?_
    exact hret (ti 4) () _ _ _ _ dX6_count_55 he hP hD hS
  replace he := he.trans (if_neg k1_0)
  by_cases k1_1 : a1 = (1 : Int32)
  · replace he := he.trans (if_pos k1_1)
    refine lv_tableIn hx hb dX6_count_1 (off := 55) (tgt := 56) (by rw [k1_1]; decide) (by rw [k1_1]; decide) (by rw [k1_1]; rfl) (by decide) ?_
    refine lv_aload_n hx hb dX6_count_56 rfl (lv_at hl 0 rfl) ?_
    refine va_get (D := D) (ci := 6) (v := .ref (xr 5)) (C := RX6) (T := TX6) (N := 12) hx hb hts hi_X6_count_6 hown hK hP 0 rfl rfl 5 (by decide) (hts (.fieldLink RX6 45 "BlindLanterns" "pass" "LBlindLanterns$Pass;") (List.mem_of_getElem? (i := 2) rfl)) (fun _ h9 => h9) rfl dX6_count_57 ?_
    refine va_getN (D := D) (ci := 1) (v := .int (qi 4)) (C := RX1) (T := TX1) (N := 5) hx hb hts hi_X6_count_1 hown hK hP 10 rfl rfl 4 (by decide) (va_Nw.use rfl (hN (.fieldLinkNest RX6 143 "BlindLanterns$Pass" "bell" "I" "BlindLanterns") (List.mem_of_getElem? (i := 7) rfl))) (fun _ h9 => h9) rfl dX6_count_60 ?_
    exact hret (qi 4) () _ _ _ _ dX6_count_63 he hP hD hS
  replace he := he.trans (if_neg k1_1)
  by_cases k1_2 : a1 = (2 : Int32)
  · replace he := he.trans (if_pos k1_2)
    refine lv_tableIn hx hb dX6_count_1 (off := 63) (tgt := 64) (by rw [k1_2]; decide) (by rw [k1_2]; decide) (by rw [k1_2]; rfl) (by decide) ?_
    refine lv_aload_n hx hb dX6_count_64 rfl (lv_at hl 0 rfl) ?_
    refine va_get (D := D) (ci := 6) (v := .ref (xr 5)) (C := RX6) (T := TX6) (N := 12) hx hb hts hi_X6_count_6 hown hK hP 0 rfl rfl 5 (by decide) (hts (.fieldLink RX6 45 "BlindLanterns" "pass" "LBlindLanterns$Pass;") (List.mem_of_getElem? (i := 2) rfl)) (fun _ h9 => h9) rfl dX6_count_65 ?_
    have n1_ : fX1_litCount (qi 3) ≠ none := fun z => hne (he.trans (xbd_none z))
    refine xci (va_runV (As := []) (rest := []) ⟨hx, hb, hml, hown, hts⟩ (c_X1_litCount l D cI cP s.heap.size (xr 5) qr qa qi qk  n1_) (cwV 0 hts gX6_count_X1_litCount rfl rfl rfl (by decide +kernel) ⟨Nat.le_of_ble_eq_true rfl, Nat.le_of_ble_eq_true rfl⟩) (xPV hN hK hP hD [10, 11, 12, 13, 14] rfl (by decide) (ci := 1) (j := 10) rfl rfl) rfl rfl hl.1 rfl (lv_room (Nat.le_of_ble_eq_true rfl)) dX6_count_68 ⟨Nat.le_of_ble_eq_true rfl, Nat.le_of_ble_eq_true rfl⟩) hP hD hS hA [10, 11, 12, 13, 14] rfl (fun _ => rfl) (fun r68 u68 H locs hw hP hD hS => ?_)
    have hP : va_P D vwCl ((wX x xr xl xt xd) ++ (wTold cI xt tr ta ti tk) ++ (wPass cI (xr 5) qr qa qi qk) ++ (wFelt cI (xr 2) yr ya yi yk) ++ (wHead (xr 3) jp jc) ++ (wHead (xr 4) kp kc)) H := hP
    have hD : va_D A ((wX x xr xl xt xd) ++ (wTold cI xt tr ta ti tk) ++ (wPass cI (xr 5) qr qa qi qk) ++ (wFelt cI (xr 2) yr ya yi yk) ++ (wHead (xr 3) jp jc) ++ (wHead (xr 4) kp kc)) := hD
    replace he := he.trans (xbd_some hw)
    exact hret r68 () _ _ _ _ dX6_count_71 he hP hD hS
  replace he := he.trans (if_neg k1_2)
  by_cases k1_3 : a1 = (3 : Int32)
  · replace he := he.trans (if_pos k1_3)
    refine lv_tableIn hx hb dX6_count_1 (off := 71) (tgt := 72) (by rw [k1_3]; decide) (by rw [k1_3]; decide) (by rw [k1_3]; rfl) (by decide) ?_
    refine lv_aload_n hx hb dX6_count_72 rfl (lv_at hl 0 rfl) ?_
    refine va_get (D := D) (ci := 6) (v := .ref (xr 5)) (C := RX6) (T := TX6) (N := 12) hx hb hts hi_X6_count_6 hown hK hP 0 rfl rfl 5 (by decide) (hts (.fieldLink RX6 45 "BlindLanterns" "pass" "LBlindLanterns$Pass;") (List.mem_of_getElem? (i := 2) rfl)) (fun _ h9 => h9) rfl dX6_count_73 ?_
    have n2_ : fX1_oilInAll F (qi 2) (qk 1) ≠ none := fun z => hne (he.trans (xbd_none z))
    refine xci (va_runV (As := []) (rest := []) ⟨hx, hb, hml, hown, hts⟩ (c_X1_oilInAll l D cI cP s.heap.size (xr 5) qr qa qi qk F  n2_) (cwV 0 hts gX6_count_X1_oilInAll rfl rfl rfl (by decide +kernel) ⟨Nat.le_of_ble_eq_true rfl, Nat.le_of_ble_eq_true rfl⟩) (xPV hN hK hP hD [10, 11, 12, 13, 14] rfl (by decide) (ci := 1) (j := 10) rfl rfl) rfl rfl hl.1 rfl (lv_room (Nat.le_of_ble_eq_true rfl)) dX6_count_76 ⟨Nat.le_of_ble_eq_true rfl, Nat.le_of_ble_eq_true rfl⟩) hP hD hS hA [10, 11, 12, 13, 14] rfl (fun _ => rfl) (fun r76 u76 H locs hw hP hD hS => ?_)
    have hP : va_P D vwCl ((wX x xr xl xt xd) ++ (wTold cI xt tr ta ti tk) ++ (wPass cI (xr 5) qr qa qi qk) ++ (wFelt cI (xr 2) yr ya yi yk) ++ (wHead (xr 3) jp jc) ++ (wHead (xr 4) kp kc)) H := hP
    have hD : va_D A ((wX x xr xl xt xd) ++ (wTold cI xt tr ta ti tk) ++ (wPass cI (xr 5) qr qa qi qk) ++ (wFelt cI (xr 2) yr ya yi yk) ++ (wHead (xr 3) jp jc) ++ (wHead (xr 4) kp kc)) := hD
    replace he := he.trans (xbd_some hw)
    exact hret r76 () _ _ _ _ dX6_count_79 he hP hD hS
  replace he := he.trans (if_neg k1_3)
  by_cases k1_4 : a1 = (4 : Int32)
  · replace he := he.trans (if_pos k1_4)
    refine lv_tableIn hx hb dX6_count_1 (off := 79) (tgt := 80) (by rw [k1_4]; decide) (by rw [k1_4]; decide) (by rw [k1_4]; rfl) (by decide) ?_
    refine lv_aload_n hx hb dX6_count_80 rfl (lv_at hl 0 rfl) ?_
    refine va_get (D := D) (ci := 6) (v := .ref (xr 2)) (C := RX6) (T := TX6) (N := 12) hx hb hts hi_X6_count_6 hown hK hP 0 rfl rfl 2 (by decide) (hts (.fieldLink RX6 28 "BlindLanterns" "felt" "LBlindLanterns$Felt;") (List.mem_of_getElem? (i := 3) rfl)) (fun _ h9 => h9) rfl dX6_count_81 ?_
    refine va_getN (D := D) (ci := 0) (v := .int (yi 3)) (C := RX0) (T := TX0) (N := 4) hx hb hts hi_X6_count_0 hown hK hP 15 rfl rfl 3 (by decide) (va_Nw.use rfl (hN (.fieldLinkNest RX6 175 "BlindLanterns$Felt" "count" "I" "BlindLanterns") (List.mem_of_getElem? (i := 2) rfl))) (fun _ h9 => h9) rfl dX6_count_84 ?_
    exact hret (yi 3) () _ _ _ _ dX6_count_87 he hP hD hS
  replace he := he.trans (if_neg k1_4)
  by_cases k1_5 : a1 = (5 : Int32)
  · replace he := he.trans (if_pos k1_5)
    refine lv_tableIn hx hb dX6_count_1 (off := 87) (tgt := 88) (by rw [k1_5]; decide) (by rw [k1_5]; decide) (by rw [k1_5]; rfl) (by decide) ?_
    refine lv_aload_n hx hb dX6_count_88 rfl (lv_at hl 0 rfl) ?_
    refine va_get (D := D) (ci := 6) (v := .ref (xr 3)) (C := RX6) (T := TX6) (N := 12) hx hb hts hi_X6_count_6 hown hK hP 0 rfl rfl 3 (by decide) (hts (.fieldLink RX6 35 "BlindLanterns" "undone" "LBlindLanterns$Shelf;") (List.mem_of_getElem? (i := 4) rfl)) (fun _ h9 => h9) rfl dX6_count_89 ?_
    refine va_getN (D := D) (ci := 4) (v := .int jc) (C := RX4) (T := TX4) (N := 2) hx hb hts hi_X6_count_4 hown hK hP 22 rfl rfl 1 (by decide) (va_Nw.use rfl (hN (.fieldLinkNest RX6 158 "BlindLanterns$Shelf" "count" "I" "BlindLanterns") (List.mem_of_getElem? (i := 8) rfl))) (fun _ h9 => h9) rfl dX6_count_92 ?_
    exact hret jc () _ _ _ _ dX6_count_95 he hP hD hS
  replace he := he.trans (if_neg k1_5)
  by_cases k1_6 : a1 = (6 : Int32)
  · replace he := he.trans (if_pos k1_6)
    refine lv_tableIn hx hb dX6_count_1 (off := 95) (tgt := 96) (by rw [k1_6]; decide) (by rw [k1_6]; decide) (by rw [k1_6]; rfl) (by decide) ?_
    refine lv_aload_n hx hb dX6_count_96 rfl (lv_at hl 0 rfl) ?_
    refine va_get (D := D) (ci := 6) (v := .ref (xr 4)) (C := RX6) (T := TX6) (N := 12) hx hb hts hi_X6_count_6 hown hK hP 0 rfl rfl 4 (by decide) (hts (.fieldLink RX6 39 "BlindLanterns" "kept" "LBlindLanterns$Shelf;") (List.mem_of_getElem? (i := 5) rfl)) (fun _ h9 => h9) rfl dX6_count_97 ?_
    refine va_getN (D := D) (ci := 4) (v := .int kc) (C := RX4) (T := TX4) (N := 2) hx hb hts hi_X6_count_4 hown hK hP 23 rfl rfl 1 (by decide) (va_Nw.use rfl (hN (.fieldLinkNest RX6 158 "BlindLanterns$Shelf" "count" "I" "BlindLanterns") (List.mem_of_getElem? (i := 8) rfl))) (fun _ h9 => h9) rfl dX6_count_100 ?_
    exact hret kc () _ _ _ _ dX6_count_103 he hP hD hS
  replace he := he.trans (if_neg k1_6)
  by_cases k1_7 : a1 = (7 : Int32)
  · replace he := he.trans (if_pos k1_7)
    refine lv_tableIn hx hb dX6_count_1 (off := 103) (tgt := 104) (by rw [k1_7]; decide) (by rw [k1_7]; decide) (by rw [k1_7]; rfl) (by decide) ?_
    refine lv_aload_n hx hb dX6_count_104 rfl (lv_at hl 0 rfl) ?_
    refine va_get (D := D) (ci := 6) (v := .int xl) (C := RX6) (T := TX6) (N := 12) hx hb hts hi_X6_count_6 hown hK hP 0 rfl rfl 9 (by decide) (hts (.fieldLink RX6 80 "BlindLanterns" "length" "I") (List.mem_of_getElem? (i := 6) rfl)) (fun _ h9 => h9) rfl dX6_count_105 ?_
    exact hret xl () _ _ _ _ dX6_count_108 he hP hD hS
  replace he := he.trans (if_neg k1_7)
  have t1_0 := lv_neT (a := 0) k1_0 rfl
  have t1_1 := lv_neT (a := 1) k1_1 rfl
  have t1_2 := lv_neT (a := 2) k1_2 rfl
  have t1_3 := lv_neT (a := 3) k1_3 rfl
  have t1_4 := lv_neT (a := 4) k1_4 rfl
  have t1_5 := lv_neT (a := 5) k1_5 rfl
  have t1_6 := lv_neT (a := 6) k1_6 rfl
  have t1_7 := lv_neT (a := 7) k1_7 rfl
  refine lv_tableOut hx hb dX6_count_1 (tgt := 109) (by omega) (by decide) ?_
  refine lv_iconst (v := -1) hx hb dX6_count_109 (by decide) ?_
  exact hret (-1 : Int32) () _ _ _ _ dX6_count_110 he hP hD hS
