def fX6_seen (ti_4 : Int32) (yi_3 : Int32) (yk_0 : Nat → Int32) (yk_1 : Nat → Int32) (yk_2 : Nat → Int32) (a1 : Int32) (a2 : Int32) (a3 : Int32) : Option (Int32 × Int32 × (Nat → Int32) × (Nat → Int32) × (Nat → Int32)) :=
  xbd (fX6_isMan ti_4 a1) (fun (r2 : Int32) => if r2 = 0 then (some ((-1 : Int32), (yi_3, yk_0, yk_1, yk_2))) else (xbd (fX6_isLastBell a2) (fun (r9 : Int32) => if r9 = 0 then (some ((-1 : Int32), (yi_3, yk_0, yk_1, yk_2))) else (if yi_3 < (10 : Int32) then (xbd (fX0_add yi_3 yk_0 yk_1 yk_2 a1 a2 a3) (fun (u39 : Int32 × (Nat → Int32) × (Nat → Int32) × (Nat → Int32)) => some (u39.1, (u39.1, u39.2.1, u39.2.2.1, u39.2.2.2)))) else (some ((-3 : Int32), (yi_3, yk_0, yk_1, yk_2)))))))
theorem hi_X6_seen_0 : ∀ w ∈ wsX00, w ∈ wsX6_seen := fun _ h => (List.mem_cons_of_mem _ (List.mem_append_left _ (List.mem_append_left _ (List.mem_append_right _ h))))
theorem hi_X6_seen_6 : ∀ w ∈ wsX60, w ∈ wsX6_seen := fun _ h => (List.mem_cons_of_mem _ (List.mem_append_left _ (List.mem_append_left _ (List.mem_append_left _ (List.mem_append_right _ h)))))
set_option maxHeartbeats 4000000 in
set_option maxRecDepth 100000 in
theorem c_X6_seen (l : Launch) (D : va_G) (cI cP : ClassId) (sz : Nat) (x : Nat) (xr : Nat → Nat) (xl : Int32) (xt : Nat) (xd : Nat) (tr : Nat → Nat) (ta : Nat → Nat) (ti : Nat → Int32) (tk : Nat → Nat → Int32) (yr : Nat → Nat) (ya : Nat → Nat) (yi : Nat → Int32) (yk : Nat → Nat → Int32) (a1 : Int32) (a2 : Int32) (a3 : Int32) (hne : fX6_seen (ti 4) (yi 3) (yk 0) (yk 1) (yk 2) a1 a2 a3 ≠ none) : xMi l yX6_seen wsX6_seen ({ frames := 2, cells := 0, slots := 0, locals := 45 } : Room) D (xT cI cP) [.ref x, .int a1, .int a2, .int a3] ((wX x xr xl xt xd) ++ (wTold cI xt tr ta ti tk) ++ (wFelt cI (xr 2) yr ya yi yk)) sz (fun r (u : (Int32 × (Nat → Int32) × (Nat → Int32) × (Nat → Int32))) => fX6_seen (ti 4) (yi 3) (yk 0) (yk 1) (yk 2) a1 a2 a3 = some (r, u)) (fun u => (wX x xr xl xt xd) ++ (wTold cI xt tr ta ti tk) ++ (wFelt cI (xr 2) yr ya (upd yi 3 u.1) (va_up (va_up (va_up yk 0 u.2.1) 1 u.2.2.1) 2 u.2.2.2))) 0 0 := by
  refine xMi_of (cc := cX6_seen) (maxL := 4) (by decide +kernel) rfl (Nat.le_of_ble_eq_true rfl) ?_
  intro p e s m args below meth c A ls hx hb hml hown hts hname hN hK hA hP hD hS hl Q hret
  have he := fX6_seen.eq_1 (ti 4) (yi 3) (yk 0) (yk 1) (yk 2) a1 a2 a3
  have hl : lv_has ls 4 [(0, .ref x), (1, .int a1), (2, .int a2), (3, .int a3)] := hl
  refine lv_aload_n hx hb dX6_seen_0 rfl (lv_at hl 0 rfl) ?_
  refine lv_iload_n hx hb dX6_seen_1 rfl (lv_at hl 1 rfl) ?_
  have n1_ : fX6_isMan (ti 4) a1 ≠ none := fun z => hne (he.trans (xbd_none z))
  refine xci (va_runV (As := [.int a1]) (rest := []) ⟨hx, hb, hml, hown, hts⟩ (c_X6_isMan l D cI cP s.heap.size x xr xl xt xd tr ta ti tk a1 n1_) (cwV 1 hts gX6_seen_X6_isMan rfl rfl rfl (by decide +kernel) ⟨Nat.le_of_ble_eq_true rfl, Nat.le_of_ble_eq_true rfl⟩) (xPV hN hK hP hD [0, 1, 2, 3, 4, 5, 6, 7, 8, 9] rfl (by decide) (ci := 6) (j := 0) rfl rfl) rfl rfl hl.1 rfl (lv_room (Nat.le_of_ble_eq_true rfl)) dX6_seen_2 ⟨Nat.le_of_ble_eq_true rfl, Nat.le_of_ble_eq_true rfl⟩) hP hD hS hA [0, 1, 2, 3, 4, 5, 6, 7, 8, 9] rfl (fun _ => rfl) (fun r2 u2 H locs hw hP hD hS => ?_)
  have hP : va_P D vwCl ((wX x xr xl xt xd) ++ (wTold cI xt tr ta ti tk) ++ (wFelt cI (xr 2) yr ya yi yk)) H := hP
  have hD : va_D A ((wX x xr xl xt xd) ++ (wTold cI xt tr ta ti tk) ++ (wFelt cI (xr 2) yr ya yi yk)) := hD
  replace he := he.trans (xbd_some hw)
  refine lv_if_eq (tgt := 15) hx hb dX6_seen_5 (by decide) (fun c2 => ?_) (fun c2 => ?_)
  · replace he := he.trans (if_pos c2)
    refine lv_iconst (v := -1) hx hb dX6_seen_15 (by decide) ?_
    exact hret (-1 : Int32) ((yi 3), (yk 0), (yk 1), (yk 2)) _ _ _ _ dX6_seen_16 he hP hD hS
  · replace he := he.trans (if_neg c2)
    refine lv_iload_n hx hb dX6_seen_8 rfl (lv_at hl 2 rfl) ?_
    have n3_ : fX6_isLastBell a2 ≠ none := fun z => hne (he.trans (xbd_none z))
    refine xci (va_runS (As := [.int a2]) (rest := []) ⟨hx, hb, hml, hown, hts⟩ (c_X6_isLastBell l D cI cP H.size  a2 n3_) (va_cwS 1 hts gX6_seen_X6_isLastBell rfl rfl rfl (by decide +kernel) ⟨Nat.le_of_ble_eq_true rfl, Nat.le_of_ble_eq_true rfl⟩) (xPS hN hK hP hD [] rfl (by decide)) rfl rfl hl.1 rfl (lv_room (Nat.le_of_ble_eq_true rfl)) dX6_seen_9 ⟨Nat.le_of_ble_eq_true rfl, Nat.le_of_ble_eq_true rfl⟩) hP hD hS hA [] rfl (fun _ => rfl) (fun r9 u9 H locs hw hP hD hS => ?_)
    have hP : va_P D vwCl ((wX x xr xl xt xd) ++ (wTold cI xt tr ta ti tk) ++ (wFelt cI (xr 2) yr ya yi yk)) H := hP
    have hD : va_D A ((wX x xr xl xt xd) ++ (wTold cI xt tr ta ti tk) ++ (wFelt cI (xr 2) yr ya yi yk)) := hD
    replace he := he.trans (xbd_some hw)
    refine lv_if_ne (tgt := 17) hx hb dX6_seen_12 (by decide) (fun c4 => ?_) (fun c4 => ?_)
    · replace he := he.trans (if_neg c4)
      refine lv_aload_n hx hb dX6_seen_17 rfl (lv_at hl 0 rfl) ?_
      refine va_get (D := D) (ci := 6) (v := .ref (xr 2)) (C := RX6) (T := TX6) (N := 12) hx hb hts hi_X6_seen_6 hown hK hP 0 rfl rfl 2 (by decide) (hts (.fieldLink RX6 28 "BlindLanterns" "felt" "LBlindLanterns$Felt;") (List.mem_of_getElem? (i := 1) rfl)) (fun _ h9 => h9) rfl dX6_seen_18 ?_
      refine va_getN (D := D) (ci := 0) (v := .int (yi 3)) (C := RX0) (T := TX0) (N := 4) hx hb hts hi_X6_seen_0 hown hK hP 10 rfl rfl 3 (by decide) (va_Nw.use rfl (hN (.fieldLinkNest RX6 175 "BlindLanterns$Felt" "count" "I" "BlindLanterns") (List.mem_of_getElem? (i := 2) rfl))) (fun _ h9 => h9) rfl dX6_seen_21 ?_
      refine lv_bipush (v := 10) hx hb dX6_seen_24 (by decide) ?_
      refine lv_icmp_lt (tgt := 32) hx hb dX6_seen_26 (by decide) (fun c5 => ?_) (fun c5 => ?_)
      · replace he := he.trans (if_pos c5)
        refine lv_aload_n hx hb dX6_seen_32 rfl (lv_at hl 0 rfl) ?_
        refine va_get (D := D) (ci := 6) (v := .ref (xr 2)) (C := RX6) (T := TX6) (N := 12) hx hb hts hi_X6_seen_6 hown hK hP 0 rfl rfl 2 (by decide) (hts (.fieldLink RX6 28 "BlindLanterns" "felt" "LBlindLanterns$Felt;") (List.mem_of_getElem? (i := 1) rfl)) (fun _ h9 => h9) rfl dX6_seen_33 ?_
        refine lv_iload_n hx hb dX6_seen_36 rfl (lv_at hl 1 rfl) ?_
        refine lv_iload_n hx hb dX6_seen_37 rfl (lv_at hl 2 rfl) ?_
        refine lv_iload_n hx hb dX6_seen_38 rfl (lv_at hl 3 rfl) ?_
        have n6_ : fX0_add (yi 3) (yk 0) (yk 1) (yk 2) a1 a2 a3 ≠ none := fun z => hne (he.trans (xbd_none z))
        refine xcv (va_runV (As := [.int a1, .int a2, .int a3]) (rest := []) ⟨hx, hb, hml, hown, hts⟩ (c_X0_add l D cI cP H.size (xr 2) yr ya yi yk a1 a2 a3 n6_) (cwV 3 hts gX6_seen_X0_add rfl rfl rfl (by decide +kernel) ⟨Nat.le_of_ble_eq_true rfl, Nat.le_of_ble_eq_true rfl⟩) (xPV hN hK hP hD [10, 11, 12, 13, 14, 15, 16] rfl (by decide) (ci := 0) (j := 10) rfl rfl) rfl rfl hl.1 rfl (lv_room (Nat.le_of_ble_eq_true rfl)) dX6_seen_39 ⟨Nat.le_of_ble_eq_true rfl, Nat.le_of_ble_eq_true rfl⟩) hP hD hS hA [10, 11, 12, 13, 14, 15, 16] rfl (fun _ => rfl) (fun u39 H locs hw hP hD hS => ?_)
        have hP : va_P D vwCl ((wX x xr xl xt xd) ++ (wTold cI xt tr ta ti tk) ++ (wFelt cI (xr 2) yr ya (upd yi 3 u39.1) (va_up (va_up (va_up yk 0 u39.2.1) 1 u39.2.2.1) 2 u39.2.2.2))) H := hP
        have hD : va_D A ((wX x xr xl xt xd) ++ (wTold cI xt tr ta ti tk) ++ (wFelt cI (xr 2) yr ya (upd yi 3 u39.1) (va_up (va_up (va_up yk 0 u39.2.1) 1 u39.2.2.1) 2 u39.2.2.2))) := hD
        replace he := he.trans (xbd_some hw)
        refine lv_aload_n hx hb dX6_seen_42 rfl (lv_at hl 0 rfl) ?_
        refine va_get (D := D) (ci := 6) (v := .ref (xr 2)) (C := RX6) (T := TX6) (N := 12) hx hb hts hi_X6_seen_6 hown hK hP 0 rfl rfl 2 (by decide) (hts (.fieldLink RX6 28 "BlindLanterns" "felt" "LBlindLanterns$Felt;") (List.mem_of_getElem? (i := 1) rfl)) (fun _ h9 => h9) rfl dX6_seen_43 ?_
        refine va_getN (D := D) (ci := 0) (v := .int u39.1) (C := RX0) (T := TX0) (N := 4) hx hb hts hi_X6_seen_0 hown hK hP 10 rfl rfl 3 (by decide) (va_Nw.use rfl (hN (.fieldLinkNest RX6 175 "BlindLanterns$Felt" "count" "I" "BlindLanterns") (List.mem_of_getElem? (i := 2) rfl))) (fun _ h9 => h9) rfl dX6_seen_46 ?_
        exact hret u39.1 (u39.1, u39.2.1, u39.2.2.1, u39.2.2.2) _ _ _ _ dX6_seen_49 he hP hD hS
      · replace he := he.trans (if_neg c5)
        refine lv_bipush (v := -3) hx hb dX6_seen_29 (by decide) ?_
        exact hret (-3 : Int32) ((yi 3), (yk 0), (yk 1), (yk 2)) _ _ _ _ dX6_seen_31 he hP hD hS
    · replace he := he.trans (if_pos c4)
      refine lv_iconst (v := -1) hx hb dX6_seen_15 (by decide) ?_
      exact hret (-1 : Int32) ((yi 3), (yk 0), (yk 1), (yk 2)) _ _ _ _ dX6_seen_16 he hP hD hS

def fX6_forget (yi_3 : Int32) : Option (Int32 × Int32) :=
  xbd (fX0_clear ) (fun (u12 : Int32) => some (yi_3, u12))
theorem hi_X6_forget_0 : ∀ w ∈ wsX00, w ∈ wsX6_forget := fun _ h => (List.mem_cons_of_mem _ (List.mem_append_right _ h))
theorem hi_X6_forget_6 : ∀ w ∈ wsX60, w ∈ wsX6_forget := fun _ h => (List.mem_cons_of_mem _ (List.mem_append_left _ (List.mem_append_right _ h)))
set_option maxHeartbeats 4000000 in
set_option maxRecDepth 100000 in
theorem c_X6_forget (l : Launch) (D : va_G) (cI cP : ClassId) (sz : Nat) (x : Nat) (xr : Nat → Nat) (xl : Int32) (xt : Nat) (xd : Nat) (yr : Nat → Nat) (ya : Nat → Nat) (yi : Nat → Int32) (yk : Nat → Nat → Int32) (hne : fX6_forget (yi 3) ≠ none) : xMi l yX6_forget wsX6_forget ({ frames := 1, cells := 0, slots := 0, locals := 20 } : Room) D (xT cI cP) [.ref x] ((wX x xr xl xt xd) ++ (wFelt cI (xr 2) yr ya yi yk)) sz (fun r (u : (Int32)) => fX6_forget (yi 3) = some (r, u)) (fun u => (wX x xr xl xt xd) ++ (wFelt cI (xr 2) yr ya (upd yi 3 u) yk)) 0 0 := by
  refine xMi_of (cc := cX6_forget) (maxL := 2) (by decide +kernel) rfl (Nat.le_of_ble_eq_true rfl) ?_
  intro p e s m args below meth c A ls hx hb hml hown hts hname hN hK hA hP hD hS hl Q hret
  have he := fX6_forget.eq_1 (yi 3)
  have hl : lv_has ls 2 [(0, .ref x)] := hl
  refine lv_aload_n hx hb dX6_forget_0 rfl (lv_at hl 0 rfl) ?_
  refine va_get (D := D) (ci := 6) (v := .ref (xr 2)) (C := RX6) (T := TX6) (N := 12) hx hb hts hi_X6_forget_6 hown hK hP 0 rfl rfl 2 (by decide) (hts (.fieldLink RX6 28 "BlindLanterns" "felt" "LBlindLanterns$Felt;") (List.mem_of_getElem? (i := 1) rfl)) (fun _ h9 => h9) rfl dX6_forget_1 ?_
  refine va_getN (D := D) (ci := 0) (v := .int (yi 3)) (C := RX0) (T := TX0) (N := 4) hx hb hts hi_X6_forget_0 hown hK hP 1 rfl rfl 3 (by decide) (va_Nw.use rfl (hN (.fieldLinkNest RX6 175 "BlindLanterns$Felt" "count" "I" "BlindLanterns") (List.mem_of_getElem? (i := 2) rfl))) (fun _ h9 => h9) rfl dX6_forget_4 ?_
  refine lv_istore_n (lv' := [(1, .int (yi 3)), (0, .ref x)]) hx hb dX6_forget_7 rfl hl (by decide) rfl (fun ls hl => ?_)
  refine lv_aload_n hx hb dX6_forget_8 rfl (lv_at hl 1 rfl) ?_
  refine va_get (D := D) (ci := 6) (v := .ref (xr 2)) (C := RX6) (T := TX6) (N := 12) hx hb hts hi_X6_forget_6 hown hK hP 0 rfl rfl 2 (by decide) (hts (.fieldLink RX6 28 "BlindLanterns" "felt" "LBlindLanterns$Felt;") (List.mem_of_getElem? (i := 1) rfl)) (fun _ h9 => h9) rfl dX6_forget_9 ?_
  have n1_ : fX0_clear  ≠ none := fun z => hne (he.trans (xbd_none z))
  refine xcv (va_runV (As := []) (rest := []) ⟨hx, hb, hml, hown, hts⟩ (c_X0_clear l D cI cP s.heap.size (xr 2) yr ya yi yk  n1_) (cwV 0 hts gX6_forget_X0_clear rfl rfl rfl (by decide +kernel) ⟨Nat.le_of_ble_eq_true rfl, Nat.le_of_ble_eq_true rfl⟩) (xPV hN hK hP hD [1, 2, 3, 4, 5, 6, 7] rfl (by decide) (ci := 0) (j := 1) rfl rfl) rfl rfl hl.1 rfl (lv_room (Nat.le_of_ble_eq_true rfl)) dX6_forget_12 ⟨Nat.le_of_ble_eq_true rfl, Nat.le_of_ble_eq_true rfl⟩) hP hD hS hA [1, 2, 3, 4, 5, 6, 7] rfl (fun _ => rfl) (fun u12 H locs hw hP hD hS => ?_)
  have hP : va_P D vwCl ((wX x xr xl xt xd) ++ (wFelt cI (xr 2) yr ya (upd yi 3 u12) yk)) H := hP
  have hD : va_D A ((wX x xr xl xt xd) ++ (wFelt cI (xr 2) yr ya (upd yi 3 u12) yk)) := hD
  replace he := he.trans (xbd_some hw)
  refine lv_iload_n hx hb dX6_forget_15 rfl (lv_at hl 0 rfl) ?_
  exact hret (yi 3) u12 _ _ _ _ dX6_forget_16 he hP hD hS

def fX6_setsWith_L13 (ti_4 : Int32) (ti_7 : Int32) (ti_8 : Int32) (ti_9 : Int32) (ti_10 : Int32) (tk_0 : Nat → Int32) (tk_1 : Nat → Int32) (tk_2 : Nat → Int32) (tk_3 : Nat → Int32) (yi_3 : Int32) (yk_0 : Nat → Int32) (yk_1 : Nat → Int32) (yk_2 : Nat → Int32) (a1 : Int32) (F : Nat) (r4 : Int32) (k13 : Int32 → Int32 → (Nat → Int32) → Option (Int32 × (Nat → Int32))) : Nat → Int32 → Int32 → (Nat → Int32) → Option (Int32 × (Nat → Int32))
  | 0, _, _, _ => none
  | n13 + 1, v13_4, v13_3, w13_ff => if r4 < v13_4 then (k13 v13_4 v13_3 w13_ff) else (if (v13_4 &&& (r4 ^^^ (-1 : Int32))) = 0 then (if (a1 &&& (v13_4 ^^^ (-1 : Int32))) = 0 then (xbd (fX5_reckonLit F ti_4 ti_7 ti_8 tk_1 tk_2 tk_3 w13_ff v13_4 6) (fun (u50 : (Nat → Int32)) => xbd (fX0_agrees F yi_3 yk_0 yk_1 yk_2 ti_4 ti_7 ti_9 ti_10 tk_0 u50 (-1 : Int32) 6) (fun (r66 : Int32) => if r66 = 0 then (fX6_setsWith_L13 ti_4 ti_7 ti_8 ti_9 ti_10 tk_0 tk_1 tk_2 tk_3 yi_3 yk_0 yk_1 yk_2 a1 F r4 k13 n13 (v13_4 + 1) v13_3 u50) else (fX6_setsWith_L13 ti_4 ti_7 ti_8 ti_9 ti_10 tk_0 tk_1 tk_2 tk_3 yi_3 yk_0 yk_1 yk_2 a1 F r4 k13 n13 (v13_4 + 1) (v13_3 + 1) u50)))) else (fX6_setsWith_L13 ti_4 ti_7 ti_8 ti_9 ti_10 tk_0 tk_1 tk_2 tk_3 yi_3 yk_0 yk_1 yk_2 a1 F r4 k13 n13 (v13_4 + 1) v13_3 w13_ff)) else (fX6_setsWith_L13 ti_4 ti_7 ti_8 ti_9 ti_10 tk_0 tk_1 tk_2 tk_3 yi_3 yk_0 yk_1 yk_2 a1 F r4 k13 n13 (v13_4 + 1) v13_3 w13_ff))
def fX6_setsWith (F : Nat) (ti_4 : Int32) (ti_7 : Int32) (ti_8 : Int32) (ti_9 : Int32) (ti_10 : Int32) (tk_0 : Nat → Int32) (tk_1 : Nat → Int32) (tk_2 : Nat → Int32) (tk_3 : Nat → Int32) (ff : Nat → Int32) (yi_3 : Int32) (yk_0 : Nat → Int32) (yk_1 : Nat → Int32) (yk_2 : Nat → Int32) (a1 : Int32) : Option (Int32 × (Nat → Int32)) :=
  xbd (fX5_withOil F ti_4 tk_1) (fun (r4 : Int32) => fX6_setsWith_L13 ti_4 ti_7 ti_8 ti_9 ti_10 tk_0 tk_1 tk_2 tk_3 yi_3 yk_0 yk_1 yk_2 a1 F r4 (fun (v13_4 : Int32) (v13_3 : Int32) (w13_ff : Nat → Int32) => some (v13_3, w13_ff)) F (0 : Int32) (0 : Int32) ff)
theorem hi_X6_setsWith_6 : ∀ w ∈ wsX60, w ∈ wsX6_setsWith := fun _ h => (List.mem_cons_of_mem _ (List.mem_append_left _ (List.mem_append_left _ (List.mem_append_left _ (List.mem_append_right _ h)))))
set_option maxHeartbeats 4000000 in
set_option maxRecDepth 100000 in
theorem c_X6_setsWith (l : Launch) (D : va_G) (cI cP : ClassId) (sz : Nat) (x : Nat) (xr : Nat → Nat) (xl : Int32) (xt : Nat) (xd : Nat) (tr : Nat → Nat) (ta : Nat → Nat) (ti : Nat → Int32) (tk : Nat → Nat → Int32) (fa : Nat) (ff : Nat → Int32) (yr : Nat → Nat) (ya : Nat → Nat) (yi : Nat → Int32) (yk : Nat → Nat → Int32) (F : Nat) (a1 : Int32) (hne : fX6_setsWith F (ti 4) (ti 7) (ti 8) (ti 9) (ti 10) (tk 0) (tk 1) (tk 2) (tk 3) ff (yi 3) (yk 0) (yk 1) (yk 2) a1 ≠ none) : xMi l yX6_setsWith wsX6_setsWith ({ frames := 5, cells := 0, slots := 0, locals := 114 } : Room) D (xT cI cP) [.ref x, .int a1] ((wX x xr xl xt xd) ++ (wTold cI xt tr ta ti tk) ++ (wRow cI (xr 8) fa 6 ff) ++ (wFelt cI (xr 2) yr ya yi yk)) sz (fun r (u : ((Nat → Int32))) => fX6_setsWith F (ti 4) (ti 7) (ti 8) (ti 9) (ti 10) (tk 0) (tk 1) (tk 2) (tk 3) ff (yi 3) (yk 0) (yk 1) (yk 2) a1 = some (r, u)) (fun u => (wX x xr xl xt xd) ++ (wTold cI xt tr ta ti tk) ++ (wRow cI (xr 8) fa 6 u) ++ (wFelt cI (xr 2) yr ya yi yk)) 0 0 := by
  refine xMi_of (cc := cX6_setsWith) (maxL := 5) (by decide +kernel) rfl (Nat.le_of_ble_eq_true rfl) ?_
  intro p e s m args below meth c A ls hx hb hml hown hts hname hN hK hA hP hD hS hl Q hret
  have he := fX6_setsWith.eq_1 F (ti 4) (ti 7) (ti 8) (ti 9) (ti 10) (tk 0) (tk 1) (tk 2) (tk 3) ff (yi 3) (yk 0) (yk 1) (yk 2) a1
  have hl : lv_has ls 5 [(0, .ref x), (1, .int a1)] := hl
  have R13_0 : ∀ (v13_4 : Int32) (v13_3 : Int32) (w13_ff : Nat → Int32), fX6_setsWith F (ti 4) (ti 7) (ti 8) (ti 9) (ti 10) (tk 0) (tk 1) (tk 2) (tk 3) ff (yi 3) (yk 0) (yk 1) (yk 2) a1 = (some (v13_3, w13_ff)) → ∀ (H : Heap) (locs : List Loc) (ls : Array Slot), va_P D vwCl ((wX x xr xl xt xd) ++ (wTold cI xt tr ta ti tk) ++ (wRow cI (xr 8) fa 6 w13_ff) ++ (wFelt cI (xr 2) yr ya yi yk)) H → va_D A ((wX x xr xl xt xd) ++ (wTold cI xt tr ta ti tk) ++ (wRow cI (xr 8) fa 6 w13_ff) ++ (wFelt cI (xr 2) yr ya yi yk)) → va_S A s.heap H locs → lv_has ls 5 [(3, .int v13_3)] → W p l e ({ frames := 5, cells := 0, slots := 0, locals := 114 } : Room) s m args below meth c H locs 0 0 Q (F0 m 81 ls []) := by
    intro v13_4 v13_3 w13_ff he H locs ls hP hD hS hl
    refine lv_iload_n hx hb dX6_setsWith_81 rfl (lv_at hl 0 rfl) ?_
    exact hret v13_3 w13_ff _ _ _ _ dX6_setsWith_82 he hP hD hS
  have L13_4 : ∀ (r4 : Int32) (n13 : Nat) (v13_4 : Int32) (v13_3 : Int32) (w13_ff : Nat → Int32), fX6_setsWith F (ti 4) (ti 7) (ti 8) (ti 9) (ti 10) (tk 0) (tk 1) (tk 2) (tk 3) ff (yi 3) (yk 0) (yk 1) (yk 2) a1 = fX6_setsWith_L13 (ti 4) (ti 7) (ti 8) (ti 9) (ti 10) (tk 0) (tk 1) (tk 2) (tk 3) (yi 3) (yk 0) (yk 1) (yk 2) a1 F r4 (fun (v13_4 : Int32) (v13_3 : Int32) (w13_ff : Nat → Int32) => some (v13_3, w13_ff)) n13 v13_4 v13_3 w13_ff → ∀ (H : Heap) (locs : List Loc) (ls : Array Slot), va_P D vwCl ((wX x xr xl xt xd) ++ (wTold cI xt tr ta ti tk) ++ (wRow cI (xr 8) fa 6 w13_ff) ++ (wFelt cI (xr 2) yr ya yi yk)) H → va_D A ((wX x xr xl xt xd) ++ (wTold cI xt tr ta ti tk) ++ (wRow cI (xr 8) fa 6 w13_ff) ++ (wFelt cI (xr 2) yr ya yi yk)) → va_S A s.heap H locs → lv_has ls 5 [(4, .int v13_4), (3, .int v13_3), (2, .int r4), (0, .ref x), (1, .int a1)] → W p l e ({ frames := 5, cells := 0, slots := 0, locals := 114 } : Room) s m args below meth c H locs 0 0 Q (F0 m 13 ls []) := by
    intro r4 n13
    induction n13 with
    | zero => intro v13_4 v13_3 w13_ff he; exact absurd he hne
    | succ n13 ih13 =>
      intro v13_4 v13_3 w13_ff he H locs ls hP hD hS hl
      replace he := he.trans (fX6_setsWith_L13.eq_2 _ _ _ _ _ _ _ _ _ _ _ _ _ _ _ _ _ _ _ _ _)
      refine lv_iload hx hb dX6_setsWith_13 (lv_at hl 0 rfl) ?_
      refine lv_iload_n hx hb dX6_setsWith_15 rfl (lv_at hl 2 rfl) ?_
      refine lv_icmp_gt (tgt := 81) hx hb dX6_setsWith_16 (by decide) (fun c2 => ?_) (fun c2 => ?_)
      · replace he := he.trans (if_pos c2)
        exact R13_0 v13_4 v13_3 w13_ff he _ _ _ hP hD hS (lv_sub hl [1] rfl)
      · replace he := he.trans (if_neg c2)
        refine lv_iload hx hb dX6_setsWith_19 (lv_at hl 0 rfl) ?_
        refine lv_iload_n hx hb dX6_setsWith_21 rfl (lv_at hl 2 rfl) ?_
        refine lv_iconst (v := -1) hx hb dX6_setsWith_22 (by decide) ?_
        refine lv_ixor hx hb dX6_setsWith_23 ?_
        refine lv_iand hx hb dX6_setsWith_24 ?_
        refine lv_if_ne (tgt := 75) hx hb dX6_setsWith_25 (by decide) (fun c3 => ?_) (fun c3 => ?_)
        · replace he := he.trans (if_neg c3)
          refine lv_iinc (v := (v13_4 + 1)) (lv' := [(4, .int (v13_4 + 1)), (3, .int v13_3), (2, .int r4), (0, .ref x), (1, .int a1)]) hx hb dX6_setsWith_75 hl (k := 0) rfl rfl (by decide) rfl (fun ls hl => ?_)
          refine lv_goto (tgt := 13) hx hb dX6_setsWith_78 (by decide) ?_
          exact ih13 (v13_4 + 1) v13_3 w13_ff he _ _ _ hP hD hS (lv_sub hl [0, 1, 2, 3, 4] rfl)
        · replace he := he.trans (if_pos c3)
          refine lv_iload_n hx hb dX6_setsWith_28 rfl (lv_at hl 4 rfl) ?_
          refine lv_iload hx hb dX6_setsWith_29 (lv_at hl 0 rfl) ?_
          refine lv_iconst (v := -1) hx hb dX6_setsWith_31 (by decide) ?_
          refine lv_ixor hx hb dX6_setsWith_32 ?_
          refine lv_iand hx hb dX6_setsWith_33 ?_
          refine lv_if_eq (tgt := 40) hx hb dX6_setsWith_34 (by decide) (fun c4 => ?_) (fun c4 => ?_)
          · replace he := he.trans (if_pos c4)
            refine lv_aload_n hx hb dX6_setsWith_40 rfl (lv_at hl 3 rfl) ?_
            refine va_get (D := D) (ci := 6) (v := .ref xt) (C := RX6) (T := TX6) (N := 12) hx hb hts hi_X6_setsWith_6 hown hK hP 0 rfl rfl 10 (by decide) (hts (.fieldLink RX6 61 "BlindLanterns" "told" "LBlindLanterns$Told;") (List.mem_of_getElem? (i := 1) rfl)) (fun _ h9 => h9) rfl dX6_setsWith_41 ?_
            refine lv_iload hx hb dX6_setsWith_44 (lv_at hl 0 rfl) ?_
            refine lv_aload_n hx hb dX6_setsWith_46 rfl (lv_at hl 3 rfl) ?_
            refine va_get (D := D) (ci := 6) (v := .ref (xr 8)) (C := RX6) (T := TX6) (N := 12) hx hb hts hi_X6_setsWith_6 hown hK hP 0 rfl rfl 8 (by decide) (hts (.fieldLink RX6 55 "BlindLanterns" "litFor" "LBlindLanterns$Row;") (List.mem_of_getElem? (i := 2) rfl)) (fun _ h9 => h9) rfl dX6_setsWith_47 ?_
            have n5_ : fX5_reckonLit F (ti 4) (ti 7) (ti 8) (tk 1) (tk 2) (tk 3) w13_ff v13_4 6 ≠ none := fun z => hne (he.trans (xbd_none z))
            refine xcv (va_runV (As := [.int v13_4, .ref (xr 8)]) (rest := []) ⟨hx, hb, hml, hown, hts⟩ (c_X5_reckonLit l D cI cP H.size xt tr ta ti tk (xr 8) fa 6 w13_ff F v13_4 n5_) (cwV 2 hts gX6_setsWith_X5_reckonLit rfl rfl rfl (by decide +kernel) ⟨Nat.le_of_ble_eq_true rfl, Nat.le_of_ble_eq_true rfl⟩) (xPV hN hK hP hD [1, 2, 3, 4, 5, 6, 7, 8, 9, 10, 11] rfl (by decide) (ci := 5) (j := 1) rfl rfl) rfl rfl hl.1 rfl (lv_room (Nat.le_of_ble_eq_true rfl)) dX6_setsWith_50 ⟨Nat.le_of_ble_eq_true rfl, Nat.le_of_ble_eq_true rfl⟩) hP hD hS hA [1, 2, 3, 4, 5, 6, 7, 8, 9, 10, 11] rfl (fun _ => rfl) (fun u50 H locs hw hP hD hS => ?_)
            have hP : va_P D vwCl ((wX x xr xl xt xd) ++ (wTold cI xt tr ta ti tk) ++ (wRow cI (xr 8) fa 6 u50) ++ (wFelt cI (xr 2) yr ya yi yk)) H := hP
            have hD : va_D A ((wX x xr xl xt xd) ++ (wTold cI xt tr ta ti tk) ++ (wRow cI (xr 8) fa 6 u50) ++ (wFelt cI (xr 2) yr ya yi yk)) := hD
            replace he := he.trans (xbd_some hw)
            refine lv_aload_n hx hb dX6_setsWith_53 rfl (lv_at hl 3 rfl) ?_
            refine va_get (D := D) (ci := 6) (v := .ref (xr 2)) (C := RX6) (T := TX6) (N := 12) hx hb hts hi_X6_setsWith_6 hown hK hP 0 rfl rfl 2 (by decide) (hts (.fieldLink RX6 28 "BlindLanterns" "felt" "LBlindLanterns$Felt;") (List.mem_of_getElem? (i := 3) rfl)) (fun _ h9 => h9) rfl dX6_setsWith_54 ?_
            refine lv_aload_n hx hb dX6_setsWith_57 rfl (lv_at hl 3 rfl) ?_
            refine va_get (D := D) (ci := 6) (v := .ref xt) (C := RX6) (T := TX6) (N := 12) hx hb hts hi_X6_setsWith_6 hown hK hP 0 rfl rfl 10 (by decide) (hts (.fieldLink RX6 61 "BlindLanterns" "told" "LBlindLanterns$Told;") (List.mem_of_getElem? (i := 1) rfl)) (fun _ h9 => h9) rfl dX6_setsWith_58 ?_
            refine lv_aload_n hx hb dX6_setsWith_61 rfl (lv_at hl 3 rfl) ?_
            refine va_get (D := D) (ci := 6) (v := .ref (xr 8)) (C := RX6) (T := TX6) (N := 12) hx hb hts hi_X6_setsWith_6 hown hK hP 0 rfl rfl 8 (by decide) (hts (.fieldLink RX6 55 "BlindLanterns" "litFor" "LBlindLanterns$Row;") (List.mem_of_getElem? (i := 2) rfl)) (fun _ h9 => h9) rfl dX6_setsWith_62 ?_
            refine lv_iconst (v := -1) hx hb dX6_setsWith_65 (by decide) ?_
            have n6_ : fX0_agrees F (yi 3) (yk 0) (yk 1) (yk 2) (ti 4) (ti 7) (ti 9) (ti 10) (tk 0) u50 (-1 : Int32) 6 ≠ none := fun z => hne (he.trans (xbd_none z))
            refine xci (va_runV (As := [.ref xt, .ref (xr 8), .int (-1 : Int32)]) (rest := []) ⟨hx, hb, hml, hown, hts⟩ (c_X0_agrees l D cI cP H.size (xr 2) yr ya yi yk xt tr ta ti tk (xr 8) fa 6 u50 F (-1 : Int32) n6_) (cwV 3 hts gX6_setsWith_X0_agrees rfl rfl rfl (by decide +kernel) ⟨Nat.le_of_ble_eq_true rfl, Nat.le_of_ble_eq_true rfl⟩) (xPV hN hK hP hD [12, 13, 14, 15, 16, 17, 18, 1, 2, 3, 4, 5, 6, 7, 8, 9, 10, 11] rfl (by decide) (ci := 0) (j := 12) rfl rfl) rfl rfl hl.1 rfl (lv_room (Nat.le_of_ble_eq_true rfl)) dX6_setsWith_66 ⟨Nat.le_of_ble_eq_true rfl, Nat.le_of_ble_eq_true rfl⟩) hP hD hS hA [12, 13, 14, 15, 16, 17, 18, 1, 2, 3, 4, 5, 6, 7, 8, 9, 10, 11] rfl (fun _ => rfl) (fun r66 u66 H locs hw hP hD hS => ?_)
            have hP : va_P D vwCl ((wX x xr xl xt xd) ++ (wTold cI xt tr ta ti tk) ++ (wRow cI (xr 8) fa 6 u50) ++ (wFelt cI (xr 2) yr ya yi yk)) H := hP
            have hD : va_D A ((wX x xr xl xt xd) ++ (wTold cI xt tr ta ti tk) ++ (wRow cI (xr 8) fa 6 u50) ++ (wFelt cI (xr 2) yr ya yi yk)) := hD
            replace he := he.trans (xbd_some hw)
            refine lv_if_eq (tgt := 75) hx hb dX6_setsWith_69 (by decide) (fun c7 => ?_) (fun c7 => ?_)
            · replace he := he.trans (if_pos c7)
              refine lv_iinc (v := (v13_4 + 1)) (lv' := [(4, .int (v13_4 + 1)), (3, .int v13_3), (2, .int r4), (0, .ref x), (1, .int a1)]) hx hb dX6_setsWith_75 hl (k := 0) rfl rfl (by decide) rfl (fun ls hl => ?_)
              refine lv_goto (tgt := 13) hx hb dX6_setsWith_78 (by decide) ?_
              exact ih13 (v13_4 + 1) v13_3 u50 he _ _ _ hP hD hS (lv_sub hl [0, 1, 2, 3, 4] rfl)
            · replace he := he.trans (if_neg c7)
              refine lv_iinc (v := (v13_3 + 1)) (lv' := [(3, .int (v13_3 + 1)), (4, .int v13_4), (2, .int r4), (0, .ref x), (1, .int a1)]) hx hb dX6_setsWith_72 hl (k := 1) rfl rfl (by decide) rfl (fun ls hl => ?_)
              refine lv_iinc (v := (v13_4 + 1)) (lv' := [(4, .int (v13_4 + 1)), (3, .int (v13_3 + 1)), (2, .int r4), (0, .ref x), (1, .int a1)]) hx hb dX6_setsWith_75 hl (k := 1) rfl rfl (by decide) rfl (fun ls hl => ?_)
              refine lv_goto (tgt := 13) hx hb dX6_setsWith_78 (by decide) ?_
              exact ih13 (v13_4 + 1) (v13_3 + 1) u50 he _ _ _ hP hD hS (lv_sub hl [0, 1, 2, 3, 4] rfl)
          · replace he := he.trans (if_neg c4)
            refine lv_goto (tgt := 75) hx hb dX6_setsWith_37 (by decide) ?_
            refine lv_iinc (v := (v13_4 + 1)) (lv' := [(4, .int (v13_4 + 1)), (3, .int v13_3), (2, .int r4), (0, .ref x), (1, .int a1)]) hx hb dX6_setsWith_75 hl (k := 0) rfl rfl (by decide) rfl (fun ls hl => ?_)
            refine lv_goto (tgt := 13) hx hb dX6_setsWith_78 (by decide) ?_
            exact ih13 (v13_4 + 1) v13_3 w13_ff he _ _ _ hP hD hS (lv_sub hl [0, 1, 2, 3, 4] rfl)
  refine lv_aload_n hx hb dX6_setsWith_0 rfl (lv_at hl 0 rfl) ?_
  refine va_get (D := D) (ci := 6) (v := .ref xt) (C := RX6) (T := TX6) (N := 12) hx hb hts hi_X6_setsWith_6 hown hK hP 0 rfl rfl 10 (by decide) (hts (.fieldLink RX6 61 "BlindLanterns" "told" "LBlindLanterns$Told;") (List.mem_of_getElem? (i := 1) rfl)) (fun _ h9 => h9) rfl dX6_setsWith_1 ?_
  have n1_ : fX5_withOil F (ti 4) (tk 1) ≠ none := fun z => hne (he.trans (xbd_none z))
  refine xci (va_runV (As := []) (rest := []) ⟨hx, hb, hml, hown, hts⟩ (c_X5_withOil l D cI cP s.heap.size xt tr ta ti tk F  n1_) (cwV 0 hts gX6_setsWith_X5_withOil rfl rfl rfl (by decide +kernel) ⟨Nat.le_of_ble_eq_true rfl, Nat.le_of_ble_eq_true rfl⟩) (xPV hN hK hP hD [1, 2, 3, 4, 5, 6, 7, 8, 9] rfl (by decide) (ci := 5) (j := 1) rfl rfl) rfl rfl hl.1 rfl (lv_room (Nat.le_of_ble_eq_true rfl)) dX6_setsWith_4 ⟨Nat.le_of_ble_eq_true rfl, Nat.le_of_ble_eq_true rfl⟩) hP hD hS hA [1, 2, 3, 4, 5, 6, 7, 8, 9] rfl (fun _ => rfl) (fun r4 u4 H locs hw hP hD hS => ?_)
  have hP : va_P D vwCl ((wX x xr xl xt xd) ++ (wTold cI xt tr ta ti tk) ++ (wRow cI (xr 8) fa 6 ff) ++ (wFelt cI (xr 2) yr ya yi yk)) H := hP
  have hD : va_D A ((wX x xr xl xt xd) ++ (wTold cI xt tr ta ti tk) ++ (wRow cI (xr 8) fa 6 ff) ++ (wFelt cI (xr 2) yr ya yi yk)) := hD
  replace he := he.trans (xbd_some hw)
  refine lv_istore_n (lv' := [(2, .int r4), (0, .ref x), (1, .int a1)]) hx hb dX6_setsWith_7 rfl hl (by decide) rfl (fun ls hl => ?_)
  refine lv_iconst (v := 0) hx hb dX6_setsWith_8 (by decide) ?_
  refine lv_istore_n (lv' := [(3, .int (0 : Int32)), (2, .int r4), (0, .ref x), (1, .int a1)]) hx hb dX6_setsWith_9 rfl hl (by decide) rfl (fun ls hl => ?_)
  refine lv_iconst (v := 0) hx hb dX6_setsWith_10 (by decide) ?_
  refine lv_istore (lv' := [(4, .int (0 : Int32)), (3, .int (0 : Int32)), (2, .int r4), (0, .ref x), (1, .int a1)]) hx hb dX6_setsWith_11 hl (by decide) rfl (fun ls hl => ?_)
  exact L13_4 r4 F (0 : Int32) (0 : Int32) ff he _ _ _ hP hD hS (lv_sub hl [0, 1, 2, 3, 4] rfl)

def fX6_fits (F : Nat) (ti_4 : Int32) (ti_7 : Int32) (ti_8 : Int32) (ti_9 : Int32) (ti_10 : Int32) (tk_0 : Nat → Int32) (tk_1 : Nat → Int32) (tk_2 : Nat → Int32) (tk_3 : Nat → Int32) (ff : Nat → Int32) (yi_3 : Int32) (yk_0 : Nat → Int32) (yk_1 : Nat → Int32) (yk_2 : Nat → Int32) : Option (Int32 × (Nat → Int32)) :=
  xbd2 (fX6_setsWith F ti_4 ti_7 ti_8 ti_9 ti_10 tk_0 tk_1 tk_2 tk_3 ff yi_3 yk_0 yk_1 yk_2 (0 : Int32)) (fun (r2 : Int32) (u2 : (Nat → Int32)) => some (r2, u2))
set_option maxHeartbeats 4000000 in
set_option maxRecDepth 100000 in
theorem c_X6_fits (l : Launch) (D : va_G) (cI cP : ClassId) (sz : Nat) (x : Nat) (xr : Nat → Nat) (xl : Int32) (xt : Nat) (xd : Nat) (tr : Nat → Nat) (ta : Nat → Nat) (ti : Nat → Int32) (tk : Nat → Nat → Int32) (fa : Nat) (ff : Nat → Int32) (yr : Nat → Nat) (ya : Nat → Nat) (yi : Nat → Int32) (yk : Nat → Nat → Int32) (F : Nat) (hne : fX6_fits F (ti 4) (ti 7) (ti 8) (ti 9) (ti 10) (tk 0) (tk 1) (tk 2) (tk 3) ff (yi 3) (yk 0) (yk 1) (yk 2) ≠ none) : xMi l yX6_fits wsX6_fits ({ frames := 6, cells := 0, slots := 0, locals := 138 } : Room) D (xT cI cP) [.ref x] ((wX x xr xl xt xd) ++ (wTold cI xt tr ta ti tk) ++ (wRow cI (xr 8) fa 6 ff) ++ (wFelt cI (xr 2) yr ya yi yk)) sz (fun r (u : ((Nat → Int32))) => fX6_fits F (ti 4) (ti 7) (ti 8) (ti 9) (ti 10) (tk 0) (tk 1) (tk 2) (tk 3) ff (yi 3) (yk 0) (yk 1) (yk 2) = some (r, u)) (fun u => (wX x xr xl xt xd) ++ (wTold cI xt tr ta ti tk) ++ (wRow cI (xr 8) fa 6 u) ++ (wFelt cI (xr 2) yr ya yi yk)) 0 0 := by
  refine xMi_of (cc := cX6_fits) (maxL := 1) (by decide +kernel) rfl (Nat.le_of_ble_eq_true rfl) ?_
  intro p e s m args below meth c A ls hx hb hml hown hts hname hN hK hA hP hD hS hl Q hret
  have he := fX6_fits.eq_1 F (ti 4) (ti 7) (ti 8) (ti 9) (ti 10) (tk 0) (tk 1) (tk 2) (tk 3) ff (yi 3) (yk 0) (yk 1) (yk 2)
  have hl : lv_has ls 1 [(0, .ref x)] := hl
  refine lv_aload_n hx hb dX6_fits_0 rfl (lv_at hl 0 rfl) ?_
  refine lv_iconst (v := 0) hx hb dX6_fits_1 (by decide) ?_
  have n1_ : fX6_setsWith F (ti 4) (ti 7) (ti 8) (ti 9) (ti 10) (tk 0) (tk 1) (tk 2) (tk 3) ff (yi 3) (yk 0) (yk 1) (yk 2) (0 : Int32) ≠ none := fun z => hne (he.trans (xbd2_none z))
  refine xci (va_runV (As := [.int (0 : Int32)]) (rest := []) ⟨hx, hb, hml, hown, hts⟩ (c_X6_setsWith l D cI cP s.heap.size x xr xl xt xd tr ta ti tk fa ff yr ya yi yk F (0 : Int32) n1_) (cwV 1 hts gX6_fits_X6_setsWith rfl rfl rfl (by decide +kernel) ⟨Nat.le_of_ble_eq_true rfl, Nat.le_of_ble_eq_true rfl⟩) (xPV hN hK hP hD [0, 1, 2, 3, 4, 5, 6, 7, 8, 9, 10, 11, 12, 13, 14, 15, 16, 17, 18] rfl (by decide) (ci := 6) (j := 0) rfl rfl) rfl rfl hl.1 rfl (lv_room (Nat.le_of_ble_eq_true rfl)) dX6_fits_2 ⟨Nat.le_of_ble_eq_true rfl, Nat.le_of_ble_eq_true rfl⟩) hP hD hS hA [0, 1, 2, 3, 4, 5, 6, 7, 8, 9, 10, 11, 12, 13, 14, 15, 16, 17, 18] rfl (fun _ => rfl) (fun r2 u2 H locs hw hP hD hS => ?_)
  have hP : va_P D vwCl ((wX x xr xl xt xd) ++ (wTold cI xt tr ta ti tk) ++ (wRow cI (xr 8) fa 6 u2) ++ (wFelt cI (xr 2) yr ya yi yk)) H := hP
  have hD : va_D A ((wX x xr xl xt xd) ++ (wTold cI xt tr ta ti tk) ++ (wRow cI (xr 8) fa 6 u2) ++ (wFelt cI (xr 2) yr ya yi yk)) := hD
  replace he := he.trans (xbd2_some hw)
  exact hret r2 u2 _ _ _ _ dX6_fits_5 he hP hD hS

def fX6_odds (F : Nat) (ti_4 : Int32) (ti_7 : Int32) (ti_8 : Int32) (ti_9 : Int32) (ti_10 : Int32) (tk_0 : Nat → Int32) (tk_1 : Nat → Int32) (tk_2 : Nat → Int32) (tk_3 : Nat → Int32) (ff : Nat → Int32) (yi_3 : Int32) (yk_0 : Nat → Int32) (yk_1 : Nat → Int32) (yk_2 : Nat → Int32) (a1 : Int32) (a2 : Int32) : Option (Int32 × (Nat → Int32)) :=
  xbd (fX6_isMan ti_4 a1) (fun (r2 : Int32) => if r2 = 0 then (some ((-1 : Int32), ff)) else (if a2 < 0 then (some ((-1 : Int32), ff)) else (if a2 ≤ (1 : Int32) then (xbd2 (fX6_setsWith F ti_4 ti_7 ti_8 ti_9 ti_10 tk_0 tk_1 tk_2 tk_3 ff yi_3 yk_0 yk_1 yk_2 (0 : Int32)) (fun (r21 : Int32) (u21 : (Nat → Int32)) => if r21 = 0 then (some ((-4 : Int32), u21)) else (xbd2 (fX6_setsWith F ti_4 ti_7 ti_8 ti_9 ti_10 tk_0 tk_1 tk_2 tk_3 u21 yi_3 yk_0 yk_1 yk_2 ((1 : Int32) <<< (a1 &&& 31))) (fun (r36 : Int32) (u36 : (Nat → Int32)) => xbd (fX6_commonDivisor F r36 r21) (fun (r44 : Int32) => if (1 : Int32) ≤ r44 then (if a2 = 0 then (if r44 = 0 then none else (some ((r36 / r44), u36))) else (if r44 = 0 then none else (some ((r21 / r44), u36)))) else (some ((-4 : Int32), u36))))))) else (some ((-1 : Int32), ff)))))
set_option maxHeartbeats 4000000 in
set_option maxRecDepth 100000 in
theorem c_X6_odds (l : Launch) (D : va_G) (cI cP : ClassId) (sz : Nat) (x : Nat) (xr : Nat → Nat) (xl : Int32) (xt : Nat) (xd : Nat) (tr : Nat → Nat) (ta : Nat → Nat) (ti : Nat → Int32) (tk : Nat → Nat → Int32) (fa : Nat) (ff : Nat → Int32) (yr : Nat → Nat) (ya : Nat → Nat) (yi : Nat → Int32) (yk : Nat → Nat → Int32) (F : Nat) (a1 : Int32) (a2 : Int32) (hne : fX6_odds F (ti 4) (ti 7) (ti 8) (ti 9) (ti 10) (tk 0) (tk 1) (tk 2) (tk 3) ff (yi 3) (yk 0) (yk 1) (yk 2) a1 a2 ≠ none) : xMi l yX6_odds wsX6_odds ({ frames := 6, cells := 0, slots := 0, locals := 138 } : Room) D (xT cI cP) [.ref x, .int a1, .int a2] ((wX x xr xl xt xd) ++ (wTold cI xt tr ta ti tk) ++ (wRow cI (xr 8) fa 6 ff) ++ (wFelt cI (xr 2) yr ya yi yk)) sz (fun r (u : ((Nat → Int32))) => fX6_odds F (ti 4) (ti 7) (ti 8) (ti 9) (ti 10) (tk 0) (tk 1) (tk 2) (tk 3) ff (yi 3) (yk 0) (yk 1) (yk 2) a1 a2 = some (r, u)) (fun u => (wX x xr xl xt xd) ++ (wTold cI xt tr ta ti tk) ++ (wRow cI (xr 8) fa 6 u) ++ (wFelt cI (xr 2) yr ya yi yk)) 0 0 := by
  refine xMi_of (cc := cX6_odds) (maxL := 6) (by decide +kernel) rfl (Nat.le_of_ble_eq_true rfl) ?_
  intro p e s m args below meth c A ls hx hb hml hown hts hname hN hK hA hP hD hS hl Q hret
  have he := fX6_odds.eq_1 F (ti 4) (ti 7) (ti 8) (ti 9) (ti 10) (tk 0) (tk 1) (tk 2) (tk 3) ff (yi 3) (yk 0) (yk 1) (yk 2) a1 a2
  have hl : lv_has ls 6 [(0, .ref x), (1, .int a1), (2, .int a2)] := hl
  refine lv_aload_n hx hb dX6_odds_0 rfl (lv_at hl 0 rfl) ?_
  refine lv_iload_n hx hb dX6_odds_1 rfl (lv_at hl 1 rfl) ?_
  have n1_ : fX6_isMan (ti 4) a1 ≠ none := fun z => hne (he.trans (xbd_none z))
  refine xci (va_runV (As := [.int a1]) (rest := []) ⟨hx, hb, hml, hown, hts⟩ (c_X6_isMan l D cI cP s.heap.size x xr xl xt xd tr ta ti tk a1 n1_) (cwV 1 hts gX6_odds_X6_isMan rfl rfl rfl (by decide +kernel) ⟨Nat.le_of_ble_eq_true rfl, Nat.le_of_ble_eq_true rfl⟩) (xPV hN hK hP hD [0, 1, 2, 3, 4, 5, 6, 7, 8, 9] rfl (by decide) (ci := 6) (j := 0) rfl rfl) rfl rfl hl.1 rfl (lv_room (Nat.le_of_ble_eq_true rfl)) dX6_odds_2 ⟨Nat.le_of_ble_eq_true rfl, Nat.le_of_ble_eq_true rfl⟩) hP hD hS hA [0, 1, 2, 3, 4, 5, 6, 7, 8, 9] rfl (fun _ => rfl) (fun r2 u2 H locs hw hP hD hS => ?_)
  have hP : va_P D vwCl ((wX x xr xl xt xd) ++ (wTold cI xt tr ta ti tk) ++ (wRow cI (xr 8) fa 6 ff) ++ (wFelt cI (xr 2) yr ya yi yk)) H := hP
  have hD : va_D A ((wX x xr xl xt xd) ++ (wTold cI xt tr ta ti tk) ++ (wRow cI (xr 8) fa 6 ff) ++ (wFelt cI (xr 2) yr ya yi yk)) := hD
  replace he := he.trans (xbd_some hw)
  refine lv_if_eq (tgt := 17) hx hb dX6_odds_5 (by decide) (fun c2 => ?_) (fun c2 => ?_)
  · replace he := he.trans (if_pos c2)
    refine lv_iconst (v := -1) hx hb dX6_odds_17 (by decide) ?_
    exact hret (-1 : Int32) ff _ _ _ _ dX6_odds_18 he hP hD hS
  · replace he := he.trans (if_neg c2)
    refine lv_iload_n hx hb dX6_odds_8 rfl (lv_at hl 2 rfl) ?_
    refine lv_if_lt (tgt := 17) hx hb dX6_odds_9 (by decide) (fun c3 => ?_) (fun c3 => ?_)
    · replace he := he.trans (if_pos c3)
      refine lv_iconst (v := -1) hx hb dX6_odds_17 (by decide) ?_
      exact hret (-1 : Int32) ff _ _ _ _ dX6_odds_18 he hP hD hS
    · replace he := he.trans (if_neg c3)
      refine lv_iload_n hx hb dX6_odds_12 rfl (lv_at hl 2 rfl) ?_
      refine lv_iconst (v := 1) hx hb dX6_odds_13 (by decide) ?_
      refine lv_icmp_le (tgt := 19) hx hb dX6_odds_14 (by decide) (fun c4 => ?_) (fun c4 => ?_)
      · replace he := he.trans (if_pos c4)
        refine lv_aload_n hx hb dX6_odds_19 rfl (lv_at hl 0 rfl) ?_
        refine lv_iconst (v := 0) hx hb dX6_odds_20 (by decide) ?_
        have n5_ : fX6_setsWith F (ti 4) (ti 7) (ti 8) (ti 9) (ti 10) (tk 0) (tk 1) (tk 2) (tk 3) ff (yi 3) (yk 0) (yk 1) (yk 2) (0 : Int32) ≠ none := fun z => hne (he.trans (xbd2_none z))
        refine xci (va_runV (As := [.int (0 : Int32)]) (rest := []) ⟨hx, hb, hml, hown, hts⟩ (c_X6_setsWith l D cI cP H.size x xr xl xt xd tr ta ti tk fa ff yr ya yi yk F (0 : Int32) n5_) (cwV 1 hts gX6_odds_X6_setsWith rfl rfl rfl (by decide +kernel) ⟨Nat.le_of_ble_eq_true rfl, Nat.le_of_ble_eq_true rfl⟩) (xPV hN hK hP hD [0, 1, 2, 3, 4, 5, 6, 7, 8, 9, 10, 11, 12, 13, 14, 15, 16, 17, 18] rfl (by decide) (ci := 6) (j := 0) rfl rfl) rfl rfl hl.1 rfl (lv_room (Nat.le_of_ble_eq_true rfl)) dX6_odds_21 ⟨Nat.le_of_ble_eq_true rfl, Nat.le_of_ble_eq_true rfl⟩) hP hD hS hA [0, 1, 2, 3, 4, 5, 6, 7, 8, 9, 10, 11, 12, 13, 14, 15, 16, 17, 18] rfl (fun _ => rfl) (fun r21 u21 H locs hw hP hD hS => ?_)
        have hP : va_P D vwCl ((wX x xr xl xt xd) ++ (wTold cI xt tr ta ti tk) ++ (wRow cI (xr 8) fa 6 u21) ++ (wFelt cI (xr 2) yr ya yi yk)) H := hP
        have hD : va_D A ((wX x xr xl xt xd) ++ (wTold cI xt tr ta ti tk) ++ (wRow cI (xr 8) fa 6 u21) ++ (wFelt cI (xr 2) yr ya yi yk)) := hD
        replace he := he.trans (xbd2_some hw)
        refine lv_istore_n (lv' := [(3, .int r21), (0, .ref x), (1, .int a1), (2, .int a2)]) hx hb dX6_odds_24 rfl hl (by decide) rfl (fun ls hl => ?_)
        refine lv_iload_n hx hb dX6_odds_25 rfl (lv_at hl 0 rfl) ?_
        refine lv_if_ne (tgt := 32) hx hb dX6_odds_26 (by decide) (fun c6 => ?_) (fun c6 => ?_)
        · replace he := he.trans (if_neg c6)
          refine lv_aload_n hx hb dX6_odds_32 rfl (lv_at hl 1 rfl) ?_
          refine lv_iconst (v := 1) hx hb dX6_odds_33 (by decide) ?_
          refine lv_iload_n hx hb dX6_odds_34 rfl (lv_at hl 2 rfl) ?_
          refine lv_ishl hx hb dX6_odds_35 ?_
          have n7_ : fX6_setsWith F (ti 4) (ti 7) (ti 8) (ti 9) (ti 10) (tk 0) (tk 1) (tk 2) (tk 3) u21 (yi 3) (yk 0) (yk 1) (yk 2) ((1 : Int32) <<< (a1 &&& 31)) ≠ none := fun z => hne (he.trans (xbd2_none z))
          refine xci (va_runV (As := [.int ((1 : Int32) <<< (a1 &&& 31))]) (rest := []) ⟨hx, hb, hml, hown, hts⟩ (c_X6_setsWith l D cI cP H.size x xr xl xt xd tr ta ti tk fa u21 yr ya yi yk F ((1 : Int32) <<< (a1 &&& 31)) n7_) (cwV 1 hts gX6_odds_X6_setsWith rfl rfl rfl (by decide +kernel) ⟨Nat.le_of_ble_eq_true rfl, Nat.le_of_ble_eq_true rfl⟩) (xPV hN hK hP hD [0, 1, 2, 3, 4, 5, 6, 7, 8, 9, 10, 11, 12, 13, 14, 15, 16, 17, 18] rfl (by decide) (ci := 6) (j := 0) rfl rfl) rfl rfl hl.1 rfl (lv_room (Nat.le_of_ble_eq_true rfl)) dX6_odds_36 ⟨Nat.le_of_ble_eq_true rfl, Nat.le_of_ble_eq_true rfl⟩) hP hD hS hA [0, 1, 2, 3, 4, 5, 6, 7, 8, 9, 10, 11, 12, 13, 14, 15, 16, 17, 18] rfl (fun _ => rfl) (fun r36 u36 H locs hw hP hD hS => ?_)
          have hP : va_P D vwCl ((wX x xr xl xt xd) ++ (wTold cI xt tr ta ti tk) ++ (wRow cI (xr 8) fa 6 u36) ++ (wFelt cI (xr 2) yr ya yi yk)) H := hP
          have hD : va_D A ((wX x xr xl xt xd) ++ (wTold cI xt tr ta ti tk) ++ (wRow cI (xr 8) fa 6 u36) ++ (wFelt cI (xr 2) yr ya yi yk)) := hD
          replace he := he.trans (xbd2_some hw)
          refine lv_istore (lv' := [(4, .int r36), (3, .int r21), (0, .ref x), (1, .int a1), (2, .int a2)]) hx hb dX6_odds_39 hl (by decide) rfl (fun ls hl => ?_)
          refine lv_iload hx hb dX6_odds_41 (lv_at hl 0 rfl) ?_
          refine lv_iload_n hx hb dX6_odds_43 rfl (lv_at hl 1 rfl) ?_
          have n8_ : fX6_commonDivisor F r36 r21 ≠ none := fun z => hne (he.trans (xbd_none z))
          refine xci (va_runS (As := [.int r36, .int r21]) (rest := []) ⟨hx, hb, hml, hown, hts⟩ (c_X6_commonDivisor l D cI cP H.size  F r36 r21 n8_) (va_cwS 2 hts gX6_odds_X6_commonDivisor rfl rfl rfl (by decide +kernel) ⟨Nat.le_of_ble_eq_true rfl, Nat.le_of_ble_eq_true rfl⟩) (xPS hN hK hP hD [] rfl (by decide)) rfl rfl hl.1 rfl (lv_room (Nat.le_of_ble_eq_true rfl)) dX6_odds_44 ⟨Nat.le_of_ble_eq_true rfl, Nat.le_of_ble_eq_true rfl⟩) hP hD hS hA [] rfl (fun _ => rfl) (fun r44 u44 H locs hw hP hD hS => ?_)
          have hP : va_P D vwCl ((wX x xr xl xt xd) ++ (wTold cI xt tr ta ti tk) ++ (wRow cI (xr 8) fa 6 u36) ++ (wFelt cI (xr 2) yr ya yi yk)) H := hP
          have hD : va_D A ((wX x xr xl xt xd) ++ (wTold cI xt tr ta ti tk) ++ (wRow cI (xr 8) fa 6 u36) ++ (wFelt cI (xr 2) yr ya yi yk)) := hD
          replace he := he.trans (xbd_some hw)
          refine lv_istore (lv' := [(5, .int r44), (4, .int r36), (3, .int r21), (0, .ref x), (1, .int a1), (2, .int a2)]) hx hb dX6_odds_47 hl (by decide) rfl (fun ls hl => ?_)
          refine lv_iload hx hb dX6_odds_49 (lv_at hl 0 rfl) ?_
          refine lv_iconst (v := 1) hx hb dX6_odds_51 (by decide) ?_
          refine lv_icmp_ge (tgt := 58) hx hb dX6_odds_52 (by decide) (fun c9 => ?_) (fun c9 => ?_)
          · replace he := he.trans (if_pos c9)
            refine lv_iload_n hx hb dX6_odds_58 rfl (lv_at hl 5 rfl) ?_
            refine lv_if_ne (tgt := 67) hx hb dX6_odds_59 (by decide) (fun c10 => ?_) (fun c10 => ?_)
            · replace he := he.trans (if_neg c10)
              refine lv_iload_n hx hb dX6_odds_67 rfl (lv_at hl 2 rfl) ?_
              refine lv_iload hx hb dX6_odds_68 (lv_at hl 0 rfl) ?_
              by_cases g11 : r44 = 0
              · exact absurd (he.trans (if_pos g11)) hne
              replace he := he.trans (if_neg g11)
              refine lv_idiv hx hb dX6_odds_70 g11 ?_
              exact hret (r21 / r44) u36 _ _ _ _ dX6_odds_71 he hP hD hS
            · replace he := he.trans (if_pos c10)
              refine lv_iload hx hb dX6_odds_62 (lv_at hl 1 rfl) ?_
              refine lv_goto (tgt := 68) hx hb dX6_odds_64 (by decide) ?_
              refine lv_iload hx hb dX6_odds_68 (lv_at hl 0 rfl) ?_
              by_cases g12 : r44 = 0
              · exact absurd (he.trans (if_pos g12)) hne
              replace he := he.trans (if_neg g12)
              refine lv_idiv hx hb dX6_odds_70 g12 ?_
              exact hret (r36 / r44) u36 _ _ _ _ dX6_odds_71 he hP hD hS
          · replace he := he.trans (if_neg c9)
            refine lv_bipush (v := -4) hx hb dX6_odds_55 (by decide) ?_
            exact hret (-4 : Int32) u36 _ _ _ _ dX6_odds_57 he hP hD hS
        · replace he := he.trans (if_pos c6)
          refine lv_bipush (v := -4) hx hb dX6_odds_29 (by decide) ?_
          exact hret (-4 : Int32) u21 _ _ _ _ dX6_odds_31 he hP hD hS
      · replace he := he.trans (if_neg c4)
        refine lv_iconst (v := -1) hx hb dX6_odds_17 (by decide) ?_
        exact hret (-1 : Int32) ff _ _ _ _ dX6_odds_18 he hP hD hS

def fX6_fitsWithDraught (F : Nat) (ti_4 : Int32) (ti_7 : Int32) (ti_9 : Int32) (ti_10 : Int32) (tk_0 : Nat → Int32) (ff : Nat → Int32) (yi_3 : Int32) (yk_0 : Nat → Int32) (yk_1 : Nat → Int32) (yk_2 : Nat → Int32) (a1 : Int32) (a2 : Int32) : Option (Int32 × (Nat → Int32)) :=
  xbd (fX5_postBefore ti_4 ti_7 a2 a1) (fun (r6 : Int32) => xbd (fX3_get ff r6 6) (fun (r15 : Int32) => xbd (fX3_set ff r6 (if r15 < a1 then r15 else a1) 6) (fun (u31 : (Nat → Int32)) => xbd (fX0_agrees F yi_3 yk_0 yk_1 yk_2 ti_4 ti_7 ti_9 ti_10 tk_0 u31 (-1 : Int32) 6) (fun (r47 : Int32) => xbd (fX3_set u31 r6 r15 6) (fun (u59 : (Nat → Int32)) => if r47 = 0 ∨ r47 = 1 then some (r47, u59) else none)))))
theorem hi_X6_fitsWithDraught_6 : ∀ w ∈ wsX60, w ∈ wsX6_fitsWithDraught := fun _ h => (List.mem_cons_of_mem _ (List.mem_append_left _ (List.mem_append_left _ (List.mem_append_left _ (List.mem_append_right _ h)))))
set_option maxHeartbeats 4000000 in
set_option maxRecDepth 100000 in
theorem c_X6_fitsWithDraught (l : Launch) (D : va_G) (cI cP : ClassId) (sz : Nat) (x : Nat) (xr : Nat → Nat) (xl : Int32) (xt : Nat) (xd : Nat) (tr : Nat → Nat) (ta : Nat → Nat) (ti : Nat → Int32) (tk : Nat → Nat → Int32) (fa : Nat) (ff : Nat → Int32) (yr : Nat → Nat) (ya : Nat → Nat) (yi : Nat → Int32) (yk : Nat → Nat → Int32) (F : Nat) (a1 : Int32) (a2 : Int32) (hne : fX6_fitsWithDraught F (ti 4) (ti 7) (ti 9) (ti 10) (tk 0) ff (yi 3) (yk 0) (yk 1) (yk 2) a1 a2 ≠ none) : xMi l yX6_fitsWithDraught wsX6_fitsWithDraught ({ frames := 4, cells := 0, slots := 0, locals := 93 } : Room) D (xT cI cP) [.ref x, .int a1, .int a2] ((wX x xr xl xt xd) ++ (wTold cI xt tr ta ti tk) ++ (wRow cI (xr 8) fa 6 ff) ++ (wFelt cI (xr 2) yr ya yi yk)) sz (fun r (u : ((Nat → Int32))) => fX6_fitsWithDraught F (ti 4) (ti 7) (ti 9) (ti 10) (tk 0) ff (yi 3) (yk 0) (yk 1) (yk 2) a1 a2 = some (r, u)) (fun u => (wX x xr xl xt xd) ++ (wTold cI xt tr ta ti tk) ++ (wRow cI (xr 8) fa 6 u) ++ (wFelt cI (xr 2) yr ya yi yk)) 0 0 := by
  refine xMz_of (cc := cX6_fitsWithDraught) (maxL := 6) (by decide +kernel) rfl (Nat.le_of_ble_eq_true rfl) ?_
  intro p e s m args below meth c A ls hx hb hml hown hts hname hN hK hA hP hD hS hl Q hret
  have he := fX6_fitsWithDraught.eq_1 F (ti 4) (ti 7) (ti 9) (ti 10) (tk 0) ff (yi 3) (yk 0) (yk 1) (yk 2) a1 a2
  have hl : lv_has ls 6 [(0, .ref x), (1, .int a1), (2, .int a2)] := hl
  refine lv_aload_n hx hb dX6_fitsWithDraught_0 rfl (lv_at hl 0 rfl) ?_
  refine va_get (D := D) (ci := 6) (v := .ref xt) (C := RX6) (T := TX6) (N := 12) hx hb hts hi_X6_fitsWithDraught_6 hown hK hP 0 rfl rfl 10 (by decide) (hts (.fieldLink RX6 61 "BlindLanterns" "told" "LBlindLanterns$Told;") (List.mem_of_getElem? (i := 1) rfl)) (fun _ h9 => h9) rfl dX6_fitsWithDraught_1 ?_
  refine lv_iload_n hx hb dX6_fitsWithDraught_4 rfl (lv_at hl 2 rfl) ?_
  refine lv_iload_n hx hb dX6_fitsWithDraught_5 rfl (lv_at hl 1 rfl) ?_
  have n1_ : fX5_postBefore (ti 4) (ti 7) a2 a1 ≠ none := fun z => hne (he.trans (xbd_none z))
  refine xci (va_runV (As := [.int a2, .int a1]) (rest := []) ⟨hx, hb, hml, hown, hts⟩ (c_X5_postBefore l D cI cP s.heap.size xt tr ta ti tk a2 a1 n1_) (cwV 2 hts gX6_fitsWithDraught_X5_postBefore rfl rfl rfl (by decide +kernel) ⟨Nat.le_of_ble_eq_true rfl, Nat.le_of_ble_eq_true rfl⟩) (xPV hN hK hP hD [1, 2, 3, 4, 5, 6, 7, 8, 9] rfl (by decide) (ci := 5) (j := 1) rfl rfl) rfl rfl hl.1 rfl (lv_room (Nat.le_of_ble_eq_true rfl)) dX6_fitsWithDraught_6 ⟨Nat.le_of_ble_eq_true rfl, Nat.le_of_ble_eq_true rfl⟩) hP hD hS hA [1, 2, 3, 4, 5, 6, 7, 8, 9] rfl (fun _ => rfl) (fun r6 u6 H locs hw hP hD hS => ?_)
  have hP : va_P D vwCl ((wX x xr xl xt xd) ++ (wTold cI xt tr ta ti tk) ++ (wRow cI (xr 8) fa 6 ff) ++ (wFelt cI (xr 2) yr ya yi yk)) H := hP
  have hD : va_D A ((wX x xr xl xt xd) ++ (wTold cI xt tr ta ti tk) ++ (wRow cI (xr 8) fa 6 ff) ++ (wFelt cI (xr 2) yr ya yi yk)) := hD
  replace he := he.trans (xbd_some hw)
  refine lv_istore_n (lv' := [(3, .int r6), (0, .ref x), (1, .int a1), (2, .int a2)]) hx hb dX6_fitsWithDraught_9 rfl hl (by decide) rfl (fun ls hl => ?_)
  refine lv_aload_n hx hb dX6_fitsWithDraught_10 rfl (lv_at hl 1 rfl) ?_
  refine va_get (D := D) (ci := 6) (v := .ref (xr 8)) (C := RX6) (T := TX6) (N := 12) hx hb hts hi_X6_fitsWithDraught_6 hown hK hP 0 rfl rfl 8 (by decide) (hts (.fieldLink RX6 55 "BlindLanterns" "litFor" "LBlindLanterns$Row;") (List.mem_of_getElem? (i := 2) rfl)) (fun _ h9 => h9) rfl dX6_fitsWithDraught_11 ?_
  refine lv_iload_n hx hb dX6_fitsWithDraught_14 rfl (lv_at hl 0 rfl) ?_
  have n2_ : fX3_get ff r6 6 ≠ none := fun z => hne (he.trans (xbd_none z))
  refine xci (va_runV (As := [.int r6]) (rest := []) ⟨hx, hb, hml, hown, hts⟩ (c_X3_get l D cI cP H.size (xr 8) fa 6 ff r6 n2_) (cwV 1 hts gX6_fitsWithDraught_X3_get rfl rfl rfl (by decide +kernel) ⟨Nat.le_of_ble_eq_true rfl, Nat.le_of_ble_eq_true rfl⟩) (xPV hN hK hP hD [10, 11] rfl (by decide) (ci := 3) (j := 10) rfl rfl) rfl rfl hl.1 rfl (lv_room (Nat.le_of_ble_eq_true rfl)) dX6_fitsWithDraught_15 ⟨Nat.le_of_ble_eq_true rfl, Nat.le_of_ble_eq_true rfl⟩) hP hD hS hA [10, 11] rfl (fun _ => rfl) (fun r15 u15 H locs hw hP hD hS => ?_)
  have hP : va_P D vwCl ((wX x xr xl xt xd) ++ (wTold cI xt tr ta ti tk) ++ (wRow cI (xr 8) fa 6 ff) ++ (wFelt cI (xr 2) yr ya yi yk)) H := hP
  have hD : va_D A ((wX x xr xl xt xd) ++ (wTold cI xt tr ta ti tk) ++ (wRow cI (xr 8) fa 6 ff) ++ (wFelt cI (xr 2) yr ya yi yk)) := hD
  replace he := he.trans (xbd_some hw)
  refine lv_istore (lv' := [(4, .int r15), (3, .int r6), (0, .ref x), (1, .int a1), (2, .int a2)]) hx hb dX6_fitsWithDraught_18 hl (by decide) rfl (fun ls hl => ?_)
  refine lv_aload_n hx hb dX6_fitsWithDraught_20 rfl (lv_at hl 2 rfl) ?_
  refine va_get (D := D) (ci := 6) (v := .ref (xr 8)) (C := RX6) (T := TX6) (N := 12) hx hb hts hi_X6_fitsWithDraught_6 hown hK hP 0 rfl rfl 8 (by decide) (hts (.fieldLink RX6 55 "BlindLanterns" "litFor" "LBlindLanterns$Row;") (List.mem_of_getElem? (i := 2) rfl)) (fun _ h9 => h9) rfl dX6_fitsWithDraught_21 ?_
  refine lv_iload_n hx hb dX6_fitsWithDraught_24 rfl (lv_at hl 1 rfl) ?_
  refine lv_iload_n hx hb dX6_fitsWithDraught_25 rfl (lv_at hl 3 rfl) ?_
  refine lv_iload hx hb dX6_fitsWithDraught_26 (lv_at hl 0 rfl) ?_
  refine va_mmin hx hb (hml.trans hl.1.symm) hown (hts (.methodLink RX6 223 Lib.Math.min.name) (List.mem_of_getElem? (i := 3) rfl)) (hts (.static Lib.Math.min.name) (List.mem_of_getElem? (i := 4) rfl)) (hts (.initialized RJ9) (List.mem_of_getElem? (i := 21) rfl)) (hts (.code Lib.Math.min.name Lib.Math.min.code 2 (some .int)) (List.mem_of_getElem? (i := 6) rfl)) (Nat.le_of_ble_eq_true rfl) (Nat.le_of_ble_eq_true rfl) (Nat.le_of_ble_eq_true rfl) (Nat.le_of_ble_eq_true rfl) dX6_fitsWithDraught_28 ?_
  have n3_ : fX3_set ff r6 (if r15 < a1 then r15 else a1) 6 ≠ none := fun z => hne (he.trans (xbd_none z))
  refine xcv (va_runV (As := [.int r6, .int (if r15 < a1 then r15 else a1)]) (rest := []) ⟨hx, hb, hml, hown, hts⟩ (c_X3_set l D cI cP H.size (xr 8) fa 6 ff r6 (if r15 < a1 then r15 else a1) n3_) (cwV 2 hts gX6_fitsWithDraught_X3_set rfl rfl rfl (by decide +kernel) ⟨Nat.le_of_ble_eq_true rfl, Nat.le_of_ble_eq_true rfl⟩) (xPV hN hK hP hD [10, 11] rfl (by decide) (ci := 3) (j := 10) rfl rfl) rfl rfl hl.1 rfl (lv_room (Nat.le_of_ble_eq_true rfl)) dX6_fitsWithDraught_31 ⟨Nat.le_of_ble_eq_true rfl, Nat.le_of_ble_eq_true rfl⟩) hP hD hS hA [10, 11] rfl (fun _ => rfl) (fun u31 H locs hw hP hD hS => ?_)
  have hP : va_P D vwCl ((wX x xr xl xt xd) ++ (wTold cI xt tr ta ti tk) ++ (wRow cI (xr 8) fa 6 u31) ++ (wFelt cI (xr 2) yr ya yi yk)) H := hP
  have hD : va_D A ((wX x xr xl xt xd) ++ (wTold cI xt tr ta ti tk) ++ (wRow cI (xr 8) fa 6 u31) ++ (wFelt cI (xr 2) yr ya yi yk)) := hD
  replace he := he.trans (xbd_some hw)
  refine lv_aload_n hx hb dX6_fitsWithDraught_34 rfl (lv_at hl 2 rfl) ?_
  refine va_get (D := D) (ci := 6) (v := .ref (xr 2)) (C := RX6) (T := TX6) (N := 12) hx hb hts hi_X6_fitsWithDraught_6 hown hK hP 0 rfl rfl 2 (by decide) (hts (.fieldLink RX6 28 "BlindLanterns" "felt" "LBlindLanterns$Felt;") (List.mem_of_getElem? (i := 7) rfl)) (fun _ h9 => h9) rfl dX6_fitsWithDraught_35 ?_
  refine lv_aload_n hx hb dX6_fitsWithDraught_38 rfl (lv_at hl 2 rfl) ?_
  refine va_get (D := D) (ci := 6) (v := .ref xt) (C := RX6) (T := TX6) (N := 12) hx hb hts hi_X6_fitsWithDraught_6 hown hK hP 0 rfl rfl 10 (by decide) (hts (.fieldLink RX6 61 "BlindLanterns" "told" "LBlindLanterns$Told;") (List.mem_of_getElem? (i := 1) rfl)) (fun _ h9 => h9) rfl dX6_fitsWithDraught_39 ?_
  refine lv_aload_n hx hb dX6_fitsWithDraught_42 rfl (lv_at hl 2 rfl) ?_
  refine va_get (D := D) (ci := 6) (v := .ref (xr 8)) (C := RX6) (T := TX6) (N := 12) hx hb hts hi_X6_fitsWithDraught_6 hown hK hP 0 rfl rfl 8 (by decide) (hts (.fieldLink RX6 55 "BlindLanterns" "litFor" "LBlindLanterns$Row;") (List.mem_of_getElem? (i := 2) rfl)) (fun _ h9 => h9) rfl dX6_fitsWithDraught_43 ?_
  refine lv_iconst (v := -1) hx hb dX6_fitsWithDraught_46 (by decide) ?_
  have n4_ : fX0_agrees F (yi 3) (yk 0) (yk 1) (yk 2) (ti 4) (ti 7) (ti 9) (ti 10) (tk 0) u31 (-1 : Int32) 6 ≠ none := fun z => hne (he.trans (xbd_none z))
  refine xci (va_runV (As := [.ref xt, .ref (xr 8), .int (-1 : Int32)]) (rest := []) ⟨hx, hb, hml, hown, hts⟩ (c_X0_agrees l D cI cP H.size (xr 2) yr ya yi yk xt tr ta ti tk (xr 8) fa 6 u31 F (-1 : Int32) n4_) (cwV 3 hts gX6_fitsWithDraught_X0_agrees rfl rfl rfl (by decide +kernel) ⟨Nat.le_of_ble_eq_true rfl, Nat.le_of_ble_eq_true rfl⟩) (xPV hN hK hP hD [12, 13, 14, 15, 16, 17, 18, 1, 2, 3, 4, 5, 6, 7, 8, 9, 10, 11] rfl (by decide) (ci := 0) (j := 12) rfl rfl) rfl rfl hl.1 rfl (lv_room (Nat.le_of_ble_eq_true rfl)) dX6_fitsWithDraught_47 ⟨Nat.le_of_ble_eq_true rfl, Nat.le_of_ble_eq_true rfl⟩) hP hD hS hA [12, 13, 14, 15, 16, 17, 18, 1, 2, 3, 4, 5, 6, 7, 8, 9, 10, 11] rfl (fun _ => rfl) (fun r47 u47 H locs hw hP hD hS => ?_)
  have hP : va_P D vwCl ((wX x xr xl xt xd) ++ (wTold cI xt tr ta ti tk) ++ (wRow cI (xr 8) fa 6 u31) ++ (wFelt cI (xr 2) yr ya yi yk)) H := hP
  have hD : va_D A ((wX x xr xl xt xd) ++ (wTold cI xt tr ta ti tk) ++ (wRow cI (xr 8) fa 6 u31) ++ (wFelt cI (xr 2) yr ya yi yk)) := hD
  replace he := he.trans (xbd_some hw)
  refine lv_istore (lv' := [(5, .int r47), (4, .int r15), (3, .int r6), (0, .ref x), (1, .int a1), (2, .int a2)]) hx hb dX6_fitsWithDraught_50 hl (by decide) rfl (fun ls hl => ?_)
  refine lv_aload_n hx hb dX6_fitsWithDraught_52 rfl (lv_at hl 3 rfl) ?_
  refine va_get (D := D) (ci := 6) (v := .ref (xr 8)) (C := RX6) (T := TX6) (N := 12) hx hb hts hi_X6_fitsWithDraught_6 hown hK hP 0 rfl rfl 8 (by decide) (hts (.fieldLink RX6 55 "BlindLanterns" "litFor" "LBlindLanterns$Row;") (List.mem_of_getElem? (i := 2) rfl)) (fun _ h9 => h9) rfl dX6_fitsWithDraught_53 ?_
  refine lv_iload_n hx hb dX6_fitsWithDraught_56 rfl (lv_at hl 2 rfl) ?_
  refine lv_iload hx hb dX6_fitsWithDraught_57 (lv_at hl 1 rfl) ?_
  have n5_ : fX3_set u31 r6 r15 6 ≠ none := fun z => hne (he.trans (xbd_none z))
  refine xcv (va_runV (As := [.int r6, .int r15]) (rest := []) ⟨hx, hb, hml, hown, hts⟩ (c_X3_set l D cI cP H.size (xr 8) fa 6 u31 r6 r15 n5_) (cwV 2 hts gX6_fitsWithDraught_X3_set rfl rfl rfl (by decide +kernel) ⟨Nat.le_of_ble_eq_true rfl, Nat.le_of_ble_eq_true rfl⟩) (xPV hN hK hP hD [10, 11] rfl (by decide) (ci := 3) (j := 10) rfl rfl) rfl rfl hl.1 rfl (lv_room (Nat.le_of_ble_eq_true rfl)) dX6_fitsWithDraught_59 ⟨Nat.le_of_ble_eq_true rfl, Nat.le_of_ble_eq_true rfl⟩) hP hD hS hA [10, 11] rfl (fun _ => rfl) (fun u59 H locs hw hP hD hS => ?_)
  have hP : va_P D vwCl ((wX x xr xl xt xd) ++ (wTold cI xt tr ta ti tk) ++ (wRow cI (xr 8) fa 6 u59) ++ (wFelt cI (xr 2) yr ya yi yk)) H := hP
  have hD : va_D A ((wX x xr xl xt xd) ++ (wTold cI xt tr ta ti tk) ++ (wRow cI (xr 8) fa 6 u59) ++ (wFelt cI (xr 2) yr ya yi yk)) := hD
  replace he := he.trans (xbd_some hw)
  refine lv_iload hx hb dX6_fitsWithDraught_62 (lv_at hl 0 rfl) ?_
  by_cases g6 : r47 = 0 ∨ r47 = 1
  · replace he := he.trans (if_pos g6)
    exact hret r47 u59 _ _ _ _ dX6_fitsWithDraught_64 g6 he hP hD hS
  exact absurd (he.trans (if_neg g6)) hne

def fX6_letOut_L42 (ti_4 : Int32) (ti_7 : Int32) (ti_9 : Int32) (ti_10 : Int32) (tk_0 : Nat → Int32) (yi_3 : Int32) (yk_0 : Nat → Int32) (yk_1 : Nat → Int32) (yk_2 : Nat → Int32) (a1 : Int32) (F : Nat) (v33_3 : Int32) (k42 : Int32 → Int32 → (Nat → Int32) → Option (Int32 × (Nat → Int32))) : Nat → Int32 → Int32 → (Nat → Int32) → Option (Int32 × (Nat → Int32))
  | 0, _, _, _ => none
  | n42 + 1, v42_4, v42_2, w42_ff => if ti_4 ≤ v42_4 then (k42 v42_4 v42_2 w42_ff) else (xbd2 (fX6_fitsWithDraught F ti_4 ti_7 ti_9 ti_10 tk_0 w42_ff yi_3 yk_0 yk_1 yk_2 v33_3 v42_4) (fun (r58 : Int32) (u58 : (Nat → Int32)) => if r58 = 0 then (fX6_letOut_L42 ti_4 ti_7 ti_9 ti_10 tk_0 yi_3 yk_0 yk_1 yk_2 a1 F v33_3 k42 n42 (v42_4 + 1) v42_2 u58) else (if a1 = (1 : Int32) then (some ((((10 : Int32) * v33_3) + v42_4), u58)) else (fX6_letOut_L42 ti_4 ti_7 ti_9 ti_10 tk_0 yi_3 yk_0 yk_1 yk_2 a1 F v33_3 k42 n42 (v42_4 + 1) (v42_2 + 1) u58))))
def fX6_letOut_L33 (ti_4 : Int32) (ti_7 : Int32) (ti_9 : Int32) (ti_10 : Int32) (tk_0 : Nat → Int32) (yi_3 : Int32) (yk_0 : Nat → Int32) (yk_1 : Nat → Int32) (yk_2 : Nat → Int32) (a1 : Int32) (F : Nat) (k33 : Int32 → Int32 → (Nat → Int32) → Option (Int32 × (Nat → Int32))) : Nat → Int32 → Int32 → (Nat → Int32) → Option (Int32 × (Nat → Int32))
  | 0, _, _, _ => none
  | n33 + 1, v33_3, v33_2, w33_ff => if (60 : Int32) < v33_3 then (k33 v33_3 v33_2 w33_ff) else (fX6_letOut_L42 ti_4 ti_7 ti_9 ti_10 tk_0 yi_3 yk_0 yk_1 yk_2 a1 F v33_3 (fun (v42_4 : Int32) (v42_2 : Int32) (w42_ff : Nat → Int32) => fX6_letOut_L33 ti_4 ti_7 ti_9 ti_10 tk_0 yi_3 yk_0 yk_1 yk_2 a1 F k33 n33 (v33_3 + 1) v42_2 w42_ff) F (0 : Int32) v33_2 w33_ff)
def fX6_letOut (F : Nat) (ti_4 : Int32) (ti_5 : Int32) (ti_7 : Int32) (ti_8 : Int32) (ti_9 : Int32) (ti_10 : Int32) (tk_0 : Nat → Int32) (tk_1 : Nat → Int32) (tk_2 : Nat → Int32) (tk_3 : Nat → Int32) (ff : Nat → Int32) (yi_3 : Int32) (yk_0 : Nat → Int32) (yk_1 : Nat → Int32) (yk_2 : Nat → Int32) (a1 : Int32) : Option (Int32 × (Nat → Int32)) :=
  if a1 < 0 then (some ((-1 : Int32), ff)) else (if a1 ≤ (1 : Int32) then (xbd (fX5_reckonLit F ti_4 ti_7 ti_8 tk_1 tk_2 tk_3 ff ti_5 6) (fun (u26 : (Nat → Int32)) => fX6_letOut_L33 ti_4 ti_7 ti_9 ti_10 tk_0 yi_3 yk_0 yk_1 yk_2 a1 F (fun (v33_3 : Int32) (v33_2 : Int32) (w33_ff : Nat → Int32) => if a1 = (1 : Int32) then (some ((-4 : Int32), w33_ff)) else (some (v33_2, w33_ff))) F (1 : Int32) (0 : Int32) u26)) else (some ((-1 : Int32), ff)))
theorem hi_X6_letOut_5 : ∀ w ∈ wsX50, w ∈ wsX6_letOut := fun _ h => (List.mem_cons_of_mem _ (List.mem_append_left _ (List.mem_append_left _ (List.mem_append_right _ h))))
theorem hi_X6_letOut_6 : ∀ w ∈ wsX60, w ∈ wsX6_letOut := fun _ h => (List.mem_cons_of_mem _ (List.mem_append_left _ (List.mem_append_left _ (List.mem_append_left _ (List.mem_append_right _ h)))))
set_option maxHeartbeats 4000000 in
set_option maxRecDepth 100000 in
theorem c_X6_letOut (l : Launch) (D : va_G) (cI cP : ClassId) (sz : Nat) (x : Nat) (xr : Nat → Nat) (xl : Int32) (xt : Nat) (xd : Nat) (tr : Nat → Nat) (ta : Nat → Nat) (ti : Nat → Int32) (tk : Nat → Nat → Int32) (fa : Nat) (ff : Nat → Int32) (yr : Nat → Nat) (ya : Nat → Nat) (yi : Nat → Int32) (yk : Nat → Nat → Int32) (F : Nat) (a1 : Int32) (hne : fX6_letOut F (ti 4) (ti 5) (ti 7) (ti 8) (ti 9) (ti 10) (tk 0) (tk 1) (tk 2) (tk 3) ff (yi 3) (yk 0) (yk 1) (yk 2) a1 ≠ none) : xMi l yX6_letOut wsX6_letOut ({ frames := 5, cells := 0, slots := 0, locals := 118 } : Room) D (xT cI cP) [.ref x, .int a1] ((wX x xr xl xt xd) ++ (wTold cI xt tr ta ti tk) ++ (wRow cI (xr 8) fa 6 ff) ++ (wFelt cI (xr 2) yr ya yi yk)) sz (fun r (u : ((Nat → Int32))) => fX6_letOut F (ti 4) (ti 5) (ti 7) (ti 8) (ti 9) (ti 10) (tk 0) (tk 1) (tk 2) (tk 3) ff (yi 3) (yk 0) (yk 1) (yk 2) a1 = some (r, u)) (fun u => (wX x xr xl xt xd) ++ (wTold cI xt tr ta ti tk) ++ (wRow cI (xr 8) fa 6 u) ++ (wFelt cI (xr 2) yr ya yi yk)) 0 0 := by
  refine xMi_of (cc := cX6_letOut) (maxL := 5) (by decide +kernel) rfl (Nat.le_of_ble_eq_true rfl) ?_
  intro p e s m args below meth c A ls hx hb hml hown hts hname hN hK hA hP hD hS hl Q hret
  have he := fX6_letOut.eq_1 F (ti 4) (ti 5) (ti 7) (ti 8) (ti 9) (ti 10) (tk 0) (tk 1) (tk 2) (tk 3) ff (yi 3) (yk 0) (yk 1) (yk 2) a1
  have hl : lv_has ls 5 [(0, .ref x), (1, .int a1)] := hl
  have R33_0 : ∀ (v33_3 : Int32) (v33_2 : Int32) (w33_ff : Nat → Int32), fX6_letOut F (ti 4) (ti 5) (ti 7) (ti 8) (ti 9) (ti 10) (tk 0) (tk 1) (tk 2) (tk 3) ff (yi 3) (yk 0) (yk 1) (yk 2) a1 = (if a1 = (1 : Int32) then (some ((-4 : Int32), w33_ff)) else (some (v33_2, w33_ff))) → ∀ (H : Heap) (locs : List Loc) (ls : Array Slot), va_P D vwCl ((wX x xr xl xt xd) ++ (wTold cI xt tr ta ti tk) ++ (wRow cI (xr 8) fa 6 w33_ff) ++ (wFelt cI (xr 2) yr ya yi yk)) H → va_D A ((wX x xr xl xt xd) ++ (wTold cI xt tr ta ti tk) ++ (wRow cI (xr 8) fa 6 w33_ff) ++ (wFelt cI (xr 2) yr ya yi yk)) → va_S A s.heap H locs → lv_has ls 5 [(2, .int v33_2), (1, .int a1)] → W p l e ({ frames := 5, cells := 0, slots := 0, locals := 118 } : Room) s m args below meth c H locs 0 0 Q (F0 m 95 ls []) := by
    intro v33_3 v33_2 w33_ff he H locs ls hP hD hS hl
    refine lv_iload_n hx hb dX6_letOut_95 rfl (lv_at hl 1 rfl) ?_
    refine lv_iconst (v := 1) hx hb dX6_letOut_96 (by decide) ?_
    refine lv_icmp_ne (tgt := 105) hx hb dX6_letOut_97 (by decide) (fun c4 => ?_) (fun c4 => ?_)
    · replace he := he.trans (if_neg c4)
      refine lv_iload_n hx hb dX6_letOut_105 rfl (lv_at hl 0 rfl) ?_
      exact hret v33_2 w33_ff _ _ _ _ dX6_letOut_106 he hP hD hS
    · replace he := he.trans (if_pos c4)
      refine lv_bipush (v := -4) hx hb dX6_letOut_100 (by decide) ?_
      refine lv_goto (tgt := 106) hx hb dX6_letOut_102 (by decide) ?_
      exact hret (-4 : Int32) w33_ff _ _ _ _ dX6_letOut_106 he hP hD hS
  have L33_12 : ∀ (n33 : Nat) (v33_3 : Int32) (v33_2 : Int32) (w33_ff : Nat → Int32), fX6_letOut F (ti 4) (ti 5) (ti 7) (ti 8) (ti 9) (ti 10) (tk 0) (tk 1) (tk 2) (tk 3) ff (yi 3) (yk 0) (yk 1) (yk 2) a1 = fX6_letOut_L33 (ti 4) (ti 7) (ti 9) (ti 10) (tk 0) (yi 3) (yk 0) (yk 1) (yk 2) a1 F (fun (v33_3 : Int32) (v33_2 : Int32) (w33_ff : Nat → Int32) => if a1 = (1 : Int32) then (some ((-4 : Int32), w33_ff)) else (some (v33_2, w33_ff))) n33 v33_3 v33_2 w33_ff → ∀ (H : Heap) (locs : List Loc) (ls : Array Slot), va_P D vwCl ((wX x xr xl xt xd) ++ (wTold cI xt tr ta ti tk) ++ (wRow cI (xr 8) fa 6 w33_ff) ++ (wFelt cI (xr 2) yr ya yi yk)) H → va_D A ((wX x xr xl xt xd) ++ (wTold cI xt tr ta ti tk) ++ (wRow cI (xr 8) fa 6 w33_ff) ++ (wFelt cI (xr 2) yr ya yi yk)) → va_S A s.heap H locs → lv_has ls 5 [(3, .int v33_3), (2, .int v33_2), (0, .ref x), (1, .int a1)] → W p l e ({ frames := 5, cells := 0, slots := 0, locals := 118 } : Room) s m args below meth c H locs 0 0 Q (F0 m 33 ls []) := by
    intro n33
    induction n33 with
    | zero => intro v33_3 v33_2 w33_ff he; exact absurd he hne
    | succ n33 ih33 =>
      intro v33_3 v33_2 w33_ff he H locs ls hP hD hS hl
      replace he := he.trans (fX6_letOut_L33.eq_2 _ _ _ _ _ _ _ _ _ _ _ _ _ _ _ _)
      refine lv_iload_n hx hb dX6_letOut_33 rfl (lv_at hl 0 rfl) ?_
      refine lv_bipush (v := 60) hx hb dX6_letOut_34 (by decide) ?_
      refine lv_icmp_gt (tgt := 95) hx hb dX6_letOut_36 (by decide) (fun c5 => ?_) (fun c5 => ?_)
      · replace he := he.trans (if_pos c5)
        exact R33_0 v33_3 v33_2 w33_ff he _ _ _ hP hD hS (lv_sub hl [1, 3] rfl)
      · replace he := he.trans (if_neg c5)
        refine lv_iconst (v := 0) hx hb dX6_letOut_39 (by decide) ?_
        refine lv_istore (lv' := [(4, .int (0 : Int32)), (3, .int v33_3), (2, .int v33_2), (0, .ref x), (1, .int a1)]) hx hb dX6_letOut_40 hl (by decide) rfl (fun ls hl => ?_)
        have R42 : ∀ (v42_4 : Int32) (v42_2 : Int32) (w42_ff : Nat → Int32), fX6_letOut F (ti 4) (ti 5) (ti 7) (ti 8) (ti 9) (ti 10) (tk 0) (tk 1) (tk 2) (tk 3) ff (yi 3) (yk 0) (yk 1) (yk 2) a1 = (fX6_letOut_L33 (ti 4) (ti 7) (ti 9) (ti 10) (tk 0) (yi 3) (yk 0) (yk 1) (yk 2) a1 F n33 (v33_3 + 1) v42_2 w42_ff) → ∀ (H : Heap) (locs : List Loc) (ls : Array Slot), va_P D vwCl ((wX x xr xl xt xd) ++ (wTold cI xt tr ta ti tk) ++ (wRow cI (xr 8) fa 6 w42_ff) ++ (wFelt cI (xr 2) yr ya yi yk)) H → va_D A ((wX x xr xl xt xd) ++ (wTold cI xt tr ta ti tk) ++ (wRow cI (xr 8) fa 6 w42_ff) ++ (wFelt cI (xr 2) yr ya yi yk)) → va_S A s.heap H locs → lv_has ls 5 [(3, .int v33_3), (2, .int v42_2), (0, .ref x), (1, .int a1)] → W p l e ({ frames := 5, cells := 0, slots := 0, locals := 118 } : Room) s m args below meth c H locs 0 0 Q (F0 m 89 ls []) := by
          intro v42_4 v42_2 w42_ff he H locs ls hP hD hS hl
          refine lv_iinc (v := (v33_3 + 1)) (lv' := [(3, .int (v33_3 + 1)), (2, .int v42_2), (0, .ref x), (1, .int a1)]) hx hb dX6_letOut_89 hl (k := 0) rfl rfl (by decide) rfl (fun ls hl => ?_)
          refine lv_goto (tgt := 33) hx hb dX6_letOut_92 (by decide) ?_
          exact ih33 (v33_3 + 1) v42_2 w42_ff he _ _ _ hP hD hS (lv_sub hl [0, 1, 2, 3] rfl)
        have L42 : ∀ (n42 : Nat) (v42_4 : Int32) (v42_2 : Int32) (w42_ff : Nat → Int32), fX6_letOut F (ti 4) (ti 5) (ti 7) (ti 8) (ti 9) (ti 10) (tk 0) (tk 1) (tk 2) (tk 3) ff (yi 3) (yk 0) (yk 1) (yk 2) a1 = fX6_letOut_L42 (ti 4) (ti 7) (ti 9) (ti 10) (tk 0) (yi 3) (yk 0) (yk 1) (yk 2) a1 F v33_3 (fun (v42_4 : Int32) (v42_2 : Int32) (w42_ff : Nat → Int32) => fX6_letOut_L33 (ti 4) (ti 7) (ti 9) (ti 10) (tk 0) (yi 3) (yk 0) (yk 1) (yk 2) a1 F n33 (v33_3 + 1) v42_2 w42_ff) n42 v42_4 v42_2 w42_ff → ∀ (H : Heap) (locs : List Loc) (ls : Array Slot), va_P D vwCl ((wX x xr xl xt xd) ++ (wTold cI xt tr ta ti tk) ++ (wRow cI (xr 8) fa 6 w42_ff) ++ (wFelt cI (xr 2) yr ya yi yk)) H → va_D A ((wX x xr xl xt xd) ++ (wTold cI xt tr ta ti tk) ++ (wRow cI (xr 8) fa 6 w42_ff) ++ (wFelt cI (xr 2) yr ya yi yk)) → va_S A s.heap H locs → lv_has ls 5 [(4, .int v42_4), (3, .int v33_3), (2, .int v42_2), (0, .ref x), (1, .int a1)] → W p l e ({ frames := 5, cells := 0, slots := 0, locals := 118 } : Room) s m args below meth c H locs 0 0 Q (F0 m 42 ls []) := by
          intro n42
          induction n42 with
          | zero => intro v42_4 v42_2 w42_ff he; exact absurd he hne
          | succ n42 ih42 =>
            intro v42_4 v42_2 w42_ff he H locs ls hP hD hS hl
            replace he := he.trans (fX6_letOut_L42.eq_2 _ _ _ _ _ _ _ _ _ _ _ _ _ _ _ _ _)
            refine lv_iload hx hb dX6_letOut_42 (lv_at hl 0 rfl) ?_
            refine lv_aload_n hx hb dX6_letOut_44 rfl (lv_at hl 3 rfl) ?_
            refine va_get (D := D) (ci := 6) (v := .ref xt) (C := RX6) (T := TX6) (N := 12) hx hb hts hi_X6_letOut_6 hown hK hP 0 rfl rfl 10 (by decide) (hts (.fieldLink RX6 61 "BlindLanterns" "told" "LBlindLanterns$Told;") (List.mem_of_getElem? (i := 1) rfl)) (fun _ h9 => h9) rfl dX6_letOut_45 ?_
            refine va_getN (D := D) (ci := 5) (v := .int (ti 4)) (C := RX5) (T := TX5) (N := 11) hx hb hts hi_X6_letOut_5 hown hK hP 1 rfl rfl 4 (by decide) (va_Nw.use rfl (hN (.fieldLinkNest RX6 100 "BlindLanterns$Told" "men" "I" "BlindLanterns") (List.mem_of_getElem? (i := 15) rfl))) (fun _ h9 => h9) rfl dX6_letOut_48 ?_
            refine lv_icmp_ge (tgt := 89) hx hb dX6_letOut_51 (by decide) (fun c6 => ?_) (fun c6 => ?_)
            · replace he := he.trans (if_pos c6)
              exact R42 v42_4 v42_2 w42_ff he _ _ _ hP hD hS (lv_sub hl [1, 2, 3, 4] rfl)
            · replace he := he.trans (if_neg c6)
              refine lv_aload_n hx hb dX6_letOut_54 rfl (lv_at hl 3 rfl) ?_
              refine lv_iload_n hx hb dX6_letOut_55 rfl (lv_at hl 1 rfl) ?_
              refine lv_iload hx hb dX6_letOut_56 (lv_at hl 0 rfl) ?_
              have n7_ : fX6_fitsWithDraught F (ti 4) (ti 7) (ti 9) (ti 10) (tk 0) w42_ff (yi 3) (yk 0) (yk 1) (yk 2) v33_3 v42_4 ≠ none := fun z => hne (he.trans (xbd2_none z))
              refine xci (va_runV (As := [.int v33_3, .int v42_4]) (rest := []) ⟨hx, hb, hml, hown, hts⟩ (c_X6_fitsWithDraught l D cI cP H.size x xr xl xt xd tr ta ti tk fa w42_ff yr ya yi yk F v33_3 v42_4 n7_) (cwV 2 hts gX6_letOut_X6_fitsWithDraught rfl rfl rfl (by decide +kernel) ⟨Nat.le_of_ble_eq_true rfl, Nat.le_of_ble_eq_true rfl⟩) (xPV hN hK hP hD [0, 1, 2, 3, 4, 5, 6, 7, 8, 9, 10, 11, 12, 13, 14, 15, 16, 17, 18] rfl (by decide) (ci := 6) (j := 0) rfl rfl) rfl rfl hl.1 rfl (lv_room (Nat.le_of_ble_eq_true rfl)) dX6_letOut_58 ⟨Nat.le_of_ble_eq_true rfl, Nat.le_of_ble_eq_true rfl⟩) hP hD hS hA [0, 1, 2, 3, 4, 5, 6, 7, 8, 9, 10, 11, 12, 13, 14, 15, 16, 17, 18] rfl (fun _ => rfl) (fun r58 u58 H locs hw hP hD hS => ?_)
              have hP : va_P D vwCl ((wX x xr xl xt xd) ++ (wTold cI xt tr ta ti tk) ++ (wRow cI (xr 8) fa 6 u58) ++ (wFelt cI (xr 2) yr ya yi yk)) H := hP
              have hD : va_D A ((wX x xr xl xt xd) ++ (wTold cI xt tr ta ti tk) ++ (wRow cI (xr 8) fa 6 u58) ++ (wFelt cI (xr 2) yr ya yi yk)) := hD
              replace he := he.trans (xbd2_some hw)
              refine lv_if_ne (tgt := 67) hx hb dX6_letOut_61 (by decide) (fun c8 => ?_) (fun c8 => ?_)
              · replace he := he.trans (if_neg c8)
                refine lv_iload_n hx hb dX6_letOut_67 rfl (lv_at hl 4 rfl) ?_
                refine lv_iconst (v := 1) hx hb dX6_letOut_68 (by decide) ?_
                refine lv_icmp_ne (tgt := 80) hx hb dX6_letOut_69 (by decide) (fun c9 => ?_) (fun c9 => ?_)
                · replace he := he.trans (if_neg c9)
                  refine lv_iinc (v := (v42_2 + 1)) (lv' := [(2, .int (v42_2 + 1)), (4, .int v42_4), (3, .int v33_3), (0, .ref x), (1, .int a1)]) hx hb dX6_letOut_80 hl (k := 2) rfl rfl (by decide) rfl (fun ls hl => ?_)
                  refine lv_iinc (v := (v42_4 + 1)) (lv' := [(4, .int (v42_4 + 1)), (2, .int (v42_2 + 1)), (3, .int v33_3), (0, .ref x), (1, .int a1)]) hx hb dX6_letOut_83 hl (k := 1) rfl rfl (by decide) rfl (fun ls hl => ?_)
                  refine lv_goto (tgt := 42) hx hb dX6_letOut_86 (by decide) ?_
                  exact ih42 (v42_4 + 1) (v42_2 + 1) u58 he _ _ _ hP hD hS (lv_sub hl [0, 2, 1, 3, 4] rfl)
                · replace he := he.trans (if_pos c9)
                  refine lv_bipush (v := 10) hx hb dX6_letOut_72 (by decide) ?_
                  refine lv_iload_n hx hb dX6_letOut_74 rfl (lv_at hl 1 rfl) ?_
                  refine lv_imul hx hb dX6_letOut_75 ?_
                  refine lv_iload hx hb dX6_letOut_76 (lv_at hl 0 rfl) ?_
                  refine lv_iadd hx hb dX6_letOut_78 ?_
                  exact hret (((10 : Int32) * v33_3) + v42_4) u58 _ _ _ _ dX6_letOut_79 he hP hD hS
              · replace he := he.trans (if_pos c8)
                refine lv_goto (tgt := 83) hx hb dX6_letOut_64 (by decide) ?_
                refine lv_iinc (v := (v42_4 + 1)) (lv' := [(4, .int (v42_4 + 1)), (3, .int v33_3), (2, .int v42_2), (0, .ref x), (1, .int a1)]) hx hb dX6_letOut_83 hl (k := 0) rfl rfl (by decide) rfl (fun ls hl => ?_)
                refine lv_goto (tgt := 42) hx hb dX6_letOut_86 (by decide) ?_
                exact ih42 (v42_4 + 1) v42_2 u58 he _ _ _ hP hD hS (lv_sub hl [0, 1, 2, 3, 4] rfl)
        exact L42 F (0 : Int32) v33_2 w33_ff he _ _ _ hP hD hS (lv_sub hl [0, 1, 2, 3, 4] rfl)
  refine lv_iload_n hx hb dX6_letOut_0 rfl (lv_at hl 1 rfl) ?_
  refine lv_if_lt (tgt := 9) hx hb dX6_letOut_1 (by decide) (fun c1 => ?_) (fun c1 => ?_)
  · replace he := he.trans (if_pos c1)
    refine lv_iconst (v := -1) hx hb dX6_letOut_9 (by decide) ?_
    exact hret (-1 : Int32) ff _ _ _ _ dX6_letOut_10 he hP hD hS
  · replace he := he.trans (if_neg c1)
    refine lv_iload_n hx hb dX6_letOut_4 rfl (lv_at hl 1 rfl) ?_
    refine lv_iconst (v := 1) hx hb dX6_letOut_5 (by decide) ?_
    refine lv_icmp_le (tgt := 11) hx hb dX6_letOut_6 (by decide) (fun c2 => ?_) (fun c2 => ?_)
    · replace he := he.trans (if_pos c2)
      refine lv_aload_n hx hb dX6_letOut_11 rfl (lv_at hl 0 rfl) ?_
      refine va_get (D := D) (ci := 6) (v := .ref xt) (C := RX6) (T := TX6) (N := 12) hx hb hts hi_X6_letOut_6 hown hK hP 0 rfl rfl 10 (by decide) (hts (.fieldLink RX6 61 "BlindLanterns" "told" "LBlindLanterns$Told;") (List.mem_of_getElem? (i := 1) rfl)) (fun _ h9 => h9) rfl dX6_letOut_12 ?_
      refine lv_aload_n hx hb dX6_letOut_15 rfl (lv_at hl 0 rfl) ?_
      refine va_get (D := D) (ci := 6) (v := .ref xt) (C := RX6) (T := TX6) (N := 12) hx hb hts hi_X6_letOut_6 hown hK hP 0 rfl rfl 10 (by decide) (hts (.fieldLink RX6 61 "BlindLanterns" "told" "LBlindLanterns$Told;") (List.mem_of_getElem? (i := 1) rfl)) (fun _ h9 => h9) rfl dX6_letOut_16 ?_
      refine va_getN (D := D) (ci := 5) (v := .int (ti 5)) (C := RX5) (T := TX5) (N := 11) hx hb hts hi_X6_letOut_5 hown hK hP 1 rfl rfl 5 (by decide) (va_Nw.use rfl (hN (.fieldLinkNest RX6 186 "BlindLanterns$Told" "lit" "I" "BlindLanterns") (List.mem_of_getElem? (i := 17) rfl))) (fun _ h9 => h9) rfl dX6_letOut_19 ?_
      refine lv_aload_n hx hb dX6_letOut_22 rfl (lv_at hl 0 rfl) ?_
      refine va_get (D := D) (ci := 6) (v := .ref (xr 8)) (C := RX6) (T := TX6) (N := 12) hx hb hts hi_X6_letOut_6 hown hK hP 0 rfl rfl 8 (by decide) (hts (.fieldLink RX6 55 "BlindLanterns" "litFor" "LBlindLanterns$Row;") (List.mem_of_getElem? (i := 2) rfl)) (fun _ h9 => h9) rfl dX6_letOut_23 ?_
      have n3_ : fX5_reckonLit F (ti 4) (ti 7) (ti 8) (tk 1) (tk 2) (tk 3) ff (ti 5) 6 ≠ none := fun z => hne (he.trans (xbd_none z))
      refine xcv (va_runV (As := [.int (ti 5), .ref (xr 8)]) (rest := []) ⟨hx, hb, hml, hown, hts⟩ (c_X5_reckonLit l D cI cP s.heap.size xt tr ta ti tk (xr 8) fa 6 ff F (ti 5) n3_) (cwV 2 hts gX6_letOut_X5_reckonLit rfl rfl rfl (by decide +kernel) ⟨Nat.le_of_ble_eq_true rfl, Nat.le_of_ble_eq_true rfl⟩) (xPV hN hK hP hD [1, 2, 3, 4, 5, 6, 7, 8, 9, 10, 11] rfl (by decide) (ci := 5) (j := 1) rfl rfl) rfl rfl hl.1 rfl (lv_room (Nat.le_of_ble_eq_true rfl)) dX6_letOut_26 ⟨Nat.le_of_ble_eq_true rfl, Nat.le_of_ble_eq_true rfl⟩) hP hD hS hA [1, 2, 3, 4, 5, 6, 7, 8, 9, 10, 11] rfl (fun _ => rfl) (fun u26 H locs hw hP hD hS => ?_)
      have hP : va_P D vwCl ((wX x xr xl xt xd) ++ (wTold cI xt tr ta ti tk) ++ (wRow cI (xr 8) fa 6 u26) ++ (wFelt cI (xr 2) yr ya yi yk)) H := hP
      have hD : va_D A ((wX x xr xl xt xd) ++ (wTold cI xt tr ta ti tk) ++ (wRow cI (xr 8) fa 6 u26) ++ (wFelt cI (xr 2) yr ya yi yk)) := hD
      replace he := he.trans (xbd_some hw)
      refine lv_iconst (v := 0) hx hb dX6_letOut_29 (by decide) ?_
      refine lv_istore_n (lv' := [(2, .int (0 : Int32)), (0, .ref x), (1, .int a1)]) hx hb dX6_letOut_30 rfl hl (by decide) rfl (fun ls hl => ?_)
      refine lv_iconst (v := 1) hx hb dX6_letOut_31 (by decide) ?_
      refine lv_istore_n (lv' := [(3, .int (1 : Int32)), (2, .int (0 : Int32)), (0, .ref x), (1, .int a1)]) hx hb dX6_letOut_32 rfl hl (by decide) rfl (fun ls hl => ?_)
      exact L33_12 F (1 : Int32) (0 : Int32) u26 he _ _ _ hP hD hS (lv_sub hl [0, 1, 2, 3] rfl)
    · replace he := he.trans (if_neg c2)
      refine lv_iconst (v := -1) hx hb dX6_letOut_9 (by decide) ?_
      exact hret (-1 : Int32) ff _ _ _ _ dX6_letOut_10 he hP hD hS

def fX6_coldHands_L46 (ti_4 : Int32) (ti_7 : Int32) (ti_9 : Int32) (ti_10 : Int32) (tk_0 : Nat → Int32) (yi_3 : Int32) (yk_0 : Nat → Int32) (yk_1 : Nat → Int32) (yk_2 : Nat → Int32) (F : Nat) (u15 : (Nat → Int32)) (k46 : Int32 → Int32 → Option (Int32 × (Nat → Int32))) : Nat → Int32 → Int32 → Option (Int32 × (Nat → Int32))
  | 0, _, _ => none
  | n46 + 1, v46_2, v46_1 => if ti_4 ≤ v46_2 then (k46 v46_2 v46_1) else (xbd (fX0_agrees F yi_3 yk_0 yk_1 yk_2 ti_4 ti_7 ti_9 ti_10 tk_0 u15 v46_2 6) (fun (r70 : Int32) => if r70 = 0 then (fX6_coldHands_L46 ti_4 ti_7 ti_9 ti_10 tk_0 yi_3 yk_0 yk_1 yk_2 F u15 k46 n46 (v46_2 + 1) v46_1) else (fX6_coldHands_L46 ti_4 ti_7 ti_9 ti_10 tk_0 yi_3 yk_0 yk_1 yk_2 F u15 k46 n46 (v46_2 + 1) (v46_1 ||| ((1 : Int32) <<< (v46_2 &&& 31))))))
def fX6_coldHands (F : Nat) (ti_4 : Int32) (ti_5 : Int32) (ti_7 : Int32) (ti_8 : Int32) (ti_9 : Int32) (ti_10 : Int32) (tk_0 : Nat → Int32) (tk_1 : Nat → Int32) (tk_2 : Nat → Int32) (tk_3 : Nat → Int32) (ff : Nat → Int32) (yi_3 : Int32) (yk_0 : Nat → Int32) (yk_1 : Nat → Int32) (yk_2 : Nat → Int32) : Option (Int32 × (Nat → Int32)) :=
  xbd (fX5_reckonLit F ti_4 ti_7 ti_8 tk_1 tk_2 tk_3 ff ti_5 6) (fun (u15 : (Nat → Int32)) => xbd (fX0_agrees F yi_3 yk_0 yk_1 yk_2 ti_4 ti_7 ti_9 ti_10 tk_0 u15 (-1 : Int32) 6) (fun (r31 : Int32) => if r31 = 0 then (fX6_coldHands_L46 ti_4 ti_7 ti_9 ti_10 tk_0 yi_3 yk_0 yk_1 yk_2 F u15 (fun (v46_2 : Int32) (v46_1 : Int32) => some (v46_1, u15)) F (0 : Int32) (0 : Int32)) else (fX6_coldHands_L46 ti_4 ti_7 ti_9 ti_10 tk_0 yi_3 yk_0 yk_1 yk_2 F u15 (fun (v46_2 : Int32) (v46_1 : Int32) => some (v46_1, u15)) F (0 : Int32) (64 : Int32))))
theorem hi_X6_coldHands_5 : ∀ w ∈ wsX50, w ∈ wsX6_coldHands := fun _ h => (List.mem_cons_of_mem _ (List.mem_append_left _ (List.mem_append_left _ (List.mem_append_right _ h))))
theorem hi_X6_coldHands_6 : ∀ w ∈ wsX60, w ∈ wsX6_coldHands := fun _ h => (List.mem_cons_of_mem _ (List.mem_append_left _ (List.mem_append_left _ (List.mem_append_left _ (List.mem_append_right _ h)))))
set_option maxHeartbeats 4000000 in
set_option maxRecDepth 100000 in
theorem c_X6_coldHands (l : Launch) (D : va_G) (cI cP : ClassId) (sz : Nat) (x : Nat) (xr : Nat → Nat) (xl : Int32) (xt : Nat) (xd : Nat) (tr : Nat → Nat) (ta : Nat → Nat) (ti : Nat → Int32) (tk : Nat → Nat → Int32) (fa : Nat) (ff : Nat → Int32) (yr : Nat → Nat) (ya : Nat → Nat) (yi : Nat → Int32) (yk : Nat → Nat → Int32) (F : Nat) (hne : fX6_coldHands F (ti 4) (ti 5) (ti 7) (ti 8) (ti 9) (ti 10) (tk 0) (tk 1) (tk 2) (tk 3) ff (yi 3) (yk 0) (yk 1) (yk 2) ≠ none) : xMi l yX6_coldHands wsX6_coldHands ({ frames := 5, cells := 0, slots := 0, locals := 114 } : Room) D (xT cI cP) [.ref x] ((wX x xr xl xt xd) ++ (wTold cI xt tr ta ti tk) ++ (wRow cI (xr 8) fa 6 ff) ++ (wFelt cI (xr 2) yr ya yi yk)) sz (fun r (u : ((Nat → Int32))) => fX6_coldHands F (ti 4) (ti 5) (ti 7) (ti 8) (ti 9) (ti 10) (tk 0) (tk 1) (tk 2) (tk 3) ff (yi 3) (yk 0) (yk 1) (yk 2) = some (r, u)) (fun u => (wX x xr xl xt xd) ++ (wTold cI xt tr ta ti tk) ++ (wRow cI (xr 8) fa 6 u) ++ (wFelt cI (xr 2) yr ya yi yk)) 0 0 := by
  refine xMi_of (cc := cX6_coldHands) (maxL := 3) (by decide +kernel) rfl (Nat.le_of_ble_eq_true rfl) ?_
  intro p e s m args below meth c A ls hx hb hml hown hts hname hN hK hA hP hD hS hl Q hret
  have he := fX6_coldHands.eq_1 F (ti 4) (ti 5) (ti 7) (ti 8) (ti 9) (ti 10) (tk 0) (tk 1) (tk 2) (tk 3) ff (yi 3) (yk 0) (yk 1) (yk 2)
  have hl : lv_has ls 3 [(0, .ref x)] := hl
  have R46_0 : ∀ (u15 : (Nat → Int32)) (v46_2 : Int32) (v46_1 : Int32), fX6_coldHands F (ti 4) (ti 5) (ti 7) (ti 8) (ti 9) (ti 10) (tk 0) (tk 1) (tk 2) (tk 3) ff (yi 3) (yk 0) (yk 1) (yk 2) = (some (v46_1, u15)) → ∀ (H : Heap) (locs : List Loc) (ls : Array Slot), va_P D vwCl ((wX x xr xl xt xd) ++ (wTold cI xt tr ta ti tk) ++ (wRow cI (xr 8) fa 6 u15) ++ (wFelt cI (xr 2) yr ya yi yk)) H → va_D A ((wX x xr xl xt xd) ++ (wTold cI xt tr ta ti tk) ++ (wRow cI (xr 8) fa 6 u15) ++ (wFelt cI (xr 2) yr ya yi yk)) → va_S A s.heap H locs → lv_has ls 3 [(1, .int v46_1)] → W p l e ({ frames := 5, cells := 0, slots := 0, locals := 114 } : Room) s m args below meth c H locs 0 0 Q (F0 m 88 ls []) := by
    intro u15 v46_2 v46_1 he H locs ls hP hD hS hl
    refine lv_iload_n hx hb dX6_coldHands_88 rfl (lv_at hl 0 rfl) ?_
    exact hret v46_1 u15 _ _ _ _ dX6_coldHands_89 he hP hD hS
  have L46_4 : ∀ (u15 : (Nat → Int32)) (n46 : Nat) (v46_2 : Int32) (v46_1 : Int32), fX6_coldHands F (ti 4) (ti 5) (ti 7) (ti 8) (ti 9) (ti 10) (tk 0) (tk 1) (tk 2) (tk 3) ff (yi 3) (yk 0) (yk 1) (yk 2) = fX6_coldHands_L46 (ti 4) (ti 7) (ti 9) (ti 10) (tk 0) (yi 3) (yk 0) (yk 1) (yk 2) F u15 (fun (v46_2 : Int32) (v46_1 : Int32) => some (v46_1, u15)) n46 v46_2 v46_1 → ∀ (H : Heap) (locs : List Loc) (ls : Array Slot), va_P D vwCl ((wX x xr xl xt xd) ++ (wTold cI xt tr ta ti tk) ++ (wRow cI (xr 8) fa 6 u15) ++ (wFelt cI (xr 2) yr ya yi yk)) H → va_D A ((wX x xr xl xt xd) ++ (wTold cI xt tr ta ti tk) ++ (wRow cI (xr 8) fa 6 u15) ++ (wFelt cI (xr 2) yr ya yi yk)) → va_S A s.heap H locs → lv_has ls 3 [(2, .int v46_2), (1, .int v46_1), (0, .ref x)] → W p l e ({ frames := 5, cells := 0, slots := 0, locals := 114 } : Room) s m args below meth c H locs 0 0 Q (F0 m 46 ls []) := by
    intro u15 n46
    induction n46 with
    | zero => intro v46_2 v46_1 he; exact absurd he hne
    | succ n46 ih46 =>
      intro v46_2 v46_1 he H locs ls hP hD hS hl
      replace he := he.trans (fX6_coldHands_L46.eq_2 _ _ _ _ _ _ _ _ _ _ _ _ _ _ _)
      refine lv_iload_n hx hb dX6_coldHands_46 rfl (lv_at hl 0 rfl) ?_
      refine lv_aload_n hx hb dX6_coldHands_47 rfl (lv_at hl 2 rfl) ?_
      refine va_get (D := D) (ci := 6) (v := .ref xt) (C := RX6) (T := TX6) (N := 12) hx hb hts hi_X6_coldHands_6 hown hK hP 0 rfl rfl 10 (by decide) (hts (.fieldLink RX6 61 "BlindLanterns" "told" "LBlindLanterns$Told;") (List.mem_of_getElem? (i := 1) rfl)) (fun _ h9 => h9) rfl dX6_coldHands_48 ?_
      refine va_getN (D := D) (ci := 5) (v := .int (ti 4)) (C := RX5) (T := TX5) (N := 11) hx hb hts hi_X6_coldHands_5 hown hK hP 1 rfl rfl 4 (by decide) (va_Nw.use rfl (hN (.fieldLinkNest RX6 100 "BlindLanterns$Told" "men" "I" "BlindLanterns") (List.mem_of_getElem? (i := 15) rfl))) (fun _ h9 => h9) rfl dX6_coldHands_51 ?_
      refine lv_icmp_ge (tgt := 88) hx hb dX6_coldHands_54 (by decide) (fun c4 => ?_) (fun c4 => ?_)
      · replace he := he.trans (if_pos c4)
        exact R46_0 u15 v46_2 v46_1 he _ _ _ hP hD hS (lv_sub hl [1] rfl)
      · replace he := he.trans (if_neg c4)
        refine lv_aload_n hx hb dX6_coldHands_57 rfl (lv_at hl 2 rfl) ?_
        refine va_get (D := D) (ci := 6) (v := .ref (xr 2)) (C := RX6) (T := TX6) (N := 12) hx hb hts hi_X6_coldHands_6 hown hK hP 0 rfl rfl 2 (by decide) (hts (.fieldLink RX6 28 "BlindLanterns" "felt" "LBlindLanterns$Felt;") (List.mem_of_getElem? (i := 3) rfl)) (fun _ h9 => h9) rfl dX6_coldHands_58 ?_
        refine lv_aload_n hx hb dX6_coldHands_61 rfl (lv_at hl 2 rfl) ?_
        refine va_get (D := D) (ci := 6) (v := .ref xt) (C := RX6) (T := TX6) (N := 12) hx hb hts hi_X6_coldHands_6 hown hK hP 0 rfl rfl 10 (by decide) (hts (.fieldLink RX6 61 "BlindLanterns" "told" "LBlindLanterns$Told;") (List.mem_of_getElem? (i := 1) rfl)) (fun _ h9 => h9) rfl dX6_coldHands_62 ?_
        refine lv_aload_n hx hb dX6_coldHands_65 rfl (lv_at hl 2 rfl) ?_
        refine va_get (D := D) (ci := 6) (v := .ref (xr 8)) (C := RX6) (T := TX6) (N := 12) hx hb hts hi_X6_coldHands_6 hown hK hP 0 rfl rfl 8 (by decide) (hts (.fieldLink RX6 55 "BlindLanterns" "litFor" "LBlindLanterns$Row;") (List.mem_of_getElem? (i := 2) rfl)) (fun _ h9 => h9) rfl dX6_coldHands_66 ?_
        refine lv_iload_n hx hb dX6_coldHands_69 rfl (lv_at hl 0 rfl) ?_
        have n5_ : fX0_agrees F (yi 3) (yk 0) (yk 1) (yk 2) (ti 4) (ti 7) (ti 9) (ti 10) (tk 0) u15 v46_2 6 ≠ none := fun z => hne (he.trans (xbd_none z))
        refine xci (va_runV (As := [.ref xt, .ref (xr 8), .int v46_2]) (rest := []) ⟨hx, hb, hml, hown, hts⟩ (c_X0_agrees l D cI cP H.size (xr 2) yr ya yi yk xt tr ta ti tk (xr 8) fa 6 u15 F v46_2 n5_) (cwV 3 hts gX6_coldHands_X0_agrees rfl rfl rfl (by decide +kernel) ⟨Nat.le_of_ble_eq_true rfl, Nat.le_of_ble_eq_true rfl⟩) (xPV hN hK hP hD [12, 13, 14, 15, 16, 17, 18, 1, 2, 3, 4, 5, 6, 7, 8, 9, 10, 11] rfl (by decide) (ci := 0) (j := 12) rfl rfl) rfl rfl hl.1 rfl (lv_room (Nat.le_of_ble_eq_true rfl)) dX6_coldHands_70 ⟨Nat.le_of_ble_eq_true rfl, Nat.le_of_ble_eq_true rfl⟩) hP hD hS hA [12, 13, 14, 15, 16, 17, 18, 1, 2, 3, 4, 5, 6, 7, 8, 9, 10, 11] rfl (fun _ => rfl) (fun r70 u70 H locs hw hP hD hS => ?_)
        have hP : va_P D vwCl ((wX x xr xl xt xd) ++ (wTold cI xt tr ta ti tk) ++ (wRow cI (xr 8) fa 6 u15) ++ (wFelt cI (xr 2) yr ya yi yk)) H := hP
        have hD : va_D A ((wX x xr xl xt xd) ++ (wTold cI xt tr ta ti tk) ++ (wRow cI (xr 8) fa 6 u15) ++ (wFelt cI (xr 2) yr ya yi yk)) := hD
        replace he := he.trans (xbd_some hw)
        refine lv_if_eq (tgt := 82) hx hb dX6_coldHands_73 (by decide) (fun c6 => ?_) (fun c6 => ?_)
        · replace he := he.trans (if_pos c6)
          refine lv_iinc (v := (v46_2 + 1)) (lv' := [(2, .int (v46_2 + 1)), (1, .int v46_1), (0, .ref x)]) hx hb dX6_coldHands_82 hl (k := 0) rfl rfl (by decide) rfl (fun ls hl => ?_)
          refine lv_goto (tgt := 46) hx hb dX6_coldHands_85 (by decide) ?_
          exact ih46 (v46_2 + 1) v46_1 he _ _ _ hP hD hS (lv_sub hl [0, 1, 2] rfl)
        · replace he := he.trans (if_neg c6)
          refine lv_iload_n hx hb dX6_coldHands_76 rfl (lv_at hl 1 rfl) ?_
          refine lv_iconst (v := 1) hx hb dX6_coldHands_77 (by decide) ?_
          refine lv_iload_n hx hb dX6_coldHands_78 rfl (lv_at hl 0 rfl) ?_
          refine lv_ishl hx hb dX6_coldHands_79 ?_
          refine lv_ior hx hb dX6_coldHands_80 ?_
          refine lv_istore_n (lv' := [(1, .int (v46_1 ||| ((1 : Int32) <<< (v46_2 &&& 31)))), (2, .int v46_2), (0, .ref x)]) hx hb dX6_coldHands_81 rfl hl (by decide) rfl (fun ls hl => ?_)
          refine lv_iinc (v := (v46_2 + 1)) (lv' := [(2, .int (v46_2 + 1)), (1, .int (v46_1 ||| ((1 : Int32) <<< (v46_2 &&& 31)))), (0, .ref x)]) hx hb dX6_coldHands_82 hl (k := 1) rfl rfl (by decide) rfl (fun ls hl => ?_)
          refine lv_goto (tgt := 46) hx hb dX6_coldHands_85 (by decide) ?_
          exact ih46 (v46_2 + 1) (v46_1 ||| ((1 : Int32) <<< (v46_2 &&& 31))) he _ _ _ hP hD hS (lv_sub hl [0, 1, 2] rfl)
  refine lv_aload_n hx hb dX6_coldHands_0 rfl (lv_at hl 0 rfl) ?_
  refine va_get (D := D) (ci := 6) (v := .ref xt) (C := RX6) (T := TX6) (N := 12) hx hb hts hi_X6_coldHands_6 hown hK hP 0 rfl rfl 10 (by decide) (hts (.fieldLink RX6 61 "BlindLanterns" "told" "LBlindLanterns$Told;") (List.mem_of_getElem? (i := 1) rfl)) (fun _ h9 => h9) rfl dX6_coldHands_1 ?_
  refine lv_aload_n hx hb dX6_coldHands_4 rfl (lv_at hl 0 rfl) ?_
  refine va_get (D := D) (ci := 6) (v := .ref xt) (C := RX6) (T := TX6) (N := 12) hx hb hts hi_X6_coldHands_6 hown hK hP 0 rfl rfl 10 (by decide) (hts (.fieldLink RX6 61 "BlindLanterns" "told" "LBlindLanterns$Told;") (List.mem_of_getElem? (i := 1) rfl)) (fun _ h9 => h9) rfl dX6_coldHands_5 ?_
  refine va_getN (D := D) (ci := 5) (v := .int (ti 5)) (C := RX5) (T := TX5) (N := 11) hx hb hts hi_X6_coldHands_5 hown hK hP 1 rfl rfl 5 (by decide) (va_Nw.use rfl (hN (.fieldLinkNest RX6 186 "BlindLanterns$Told" "lit" "I" "BlindLanterns") (List.mem_of_getElem? (i := 17) rfl))) (fun _ h9 => h9) rfl dX6_coldHands_8 ?_
  refine lv_aload_n hx hb dX6_coldHands_11 rfl (lv_at hl 0 rfl) ?_
  refine va_get (D := D) (ci := 6) (v := .ref (xr 8)) (C := RX6) (T := TX6) (N := 12) hx hb hts hi_X6_coldHands_6 hown hK hP 0 rfl rfl 8 (by decide) (hts (.fieldLink RX6 55 "BlindLanterns" "litFor" "LBlindLanterns$Row;") (List.mem_of_getElem? (i := 2) rfl)) (fun _ h9 => h9) rfl dX6_coldHands_12 ?_
  have n1_ : fX5_reckonLit F (ti 4) (ti 7) (ti 8) (tk 1) (tk 2) (tk 3) ff (ti 5) 6 ≠ none := fun z => hne (he.trans (xbd_none z))
  refine xcv (va_runV (As := [.int (ti 5), .ref (xr 8)]) (rest := []) ⟨hx, hb, hml, hown, hts⟩ (c_X5_reckonLit l D cI cP s.heap.size xt tr ta ti tk (xr 8) fa 6 ff F (ti 5) n1_) (cwV 2 hts gX6_coldHands_X5_reckonLit rfl rfl rfl (by decide +kernel) ⟨Nat.le_of_ble_eq_true rfl, Nat.le_of_ble_eq_true rfl⟩) (xPV hN hK hP hD [1, 2, 3, 4, 5, 6, 7, 8, 9, 10, 11] rfl (by decide) (ci := 5) (j := 1) rfl rfl) rfl rfl hl.1 rfl (lv_room (Nat.le_of_ble_eq_true rfl)) dX6_coldHands_15 ⟨Nat.le_of_ble_eq_true rfl, Nat.le_of_ble_eq_true rfl⟩) hP hD hS hA [1, 2, 3, 4, 5, 6, 7, 8, 9, 10, 11] rfl (fun _ => rfl) (fun u15 H locs hw hP hD hS => ?_)
  have hP : va_P D vwCl ((wX x xr xl xt xd) ++ (wTold cI xt tr ta ti tk) ++ (wRow cI (xr 8) fa 6 u15) ++ (wFelt cI (xr 2) yr ya yi yk)) H := hP
  have hD : va_D A ((wX x xr xl xt xd) ++ (wTold cI xt tr ta ti tk) ++ (wRow cI (xr 8) fa 6 u15) ++ (wFelt cI (xr 2) yr ya yi yk)) := hD
  replace he := he.trans (xbd_some hw)
  refine lv_aload_n hx hb dX6_coldHands_18 rfl (lv_at hl 0 rfl) ?_
  refine va_get (D := D) (ci := 6) (v := .ref (xr 2)) (C := RX6) (T := TX6) (N := 12) hx hb hts hi_X6_coldHands_6 hown hK hP 0 rfl rfl 2 (by decide) (hts (.fieldLink RX6 28 "BlindLanterns" "felt" "LBlindLanterns$Felt;") (List.mem_of_getElem? (i := 3) rfl)) (fun _ h9 => h9) rfl dX6_coldHands_19 ?_
  refine lv_aload_n hx hb dX6_coldHands_22 rfl (lv_at hl 0 rfl) ?_
  refine va_get (D := D) (ci := 6) (v := .ref xt) (C := RX6) (T := TX6) (N := 12) hx hb hts hi_X6_coldHands_6 hown hK hP 0 rfl rfl 10 (by decide) (hts (.fieldLink RX6 61 "BlindLanterns" "told" "LBlindLanterns$Told;") (List.mem_of_getElem? (i := 1) rfl)) (fun _ h9 => h9) rfl dX6_coldHands_23 ?_
  refine lv_aload_n hx hb dX6_coldHands_26 rfl (lv_at hl 0 rfl) ?_
  refine va_get (D := D) (ci := 6) (v := .ref (xr 8)) (C := RX6) (T := TX6) (N := 12) hx hb hts hi_X6_coldHands_6 hown hK hP 0 rfl rfl 8 (by decide) (hts (.fieldLink RX6 55 "BlindLanterns" "litFor" "LBlindLanterns$Row;") (List.mem_of_getElem? (i := 2) rfl)) (fun _ h9 => h9) rfl dX6_coldHands_27 ?_
  refine lv_iconst (v := -1) hx hb dX6_coldHands_30 (by decide) ?_
  have n2_ : fX0_agrees F (yi 3) (yk 0) (yk 1) (yk 2) (ti 4) (ti 7) (ti 9) (ti 10) (tk 0) u15 (-1 : Int32) 6 ≠ none := fun z => hne (he.trans (xbd_none z))
  refine xci (va_runV (As := [.ref xt, .ref (xr 8), .int (-1 : Int32)]) (rest := []) ⟨hx, hb, hml, hown, hts⟩ (c_X0_agrees l D cI cP H.size (xr 2) yr ya yi yk xt tr ta ti tk (xr 8) fa 6 u15 F (-1 : Int32) n2_) (cwV 3 hts gX6_coldHands_X0_agrees rfl rfl rfl (by decide +kernel) ⟨Nat.le_of_ble_eq_true rfl, Nat.le_of_ble_eq_true rfl⟩) (xPV hN hK hP hD [12, 13, 14, 15, 16, 17, 18, 1, 2, 3, 4, 5, 6, 7, 8, 9, 10, 11] rfl (by decide) (ci := 0) (j := 12) rfl rfl) rfl rfl hl.1 rfl (lv_room (Nat.le_of_ble_eq_true rfl)) dX6_coldHands_31 ⟨Nat.le_of_ble_eq_true rfl, Nat.le_of_ble_eq_true rfl⟩) hP hD hS hA [12, 13, 14, 15, 16, 17, 18, 1, 2, 3, 4, 5, 6, 7, 8, 9, 10, 11] rfl (fun _ => rfl) (fun r31 u31 H locs hw hP hD hS => ?_)
  have hP : va_P D vwCl ((wX x xr xl xt xd) ++ (wTold cI xt tr ta ti tk) ++ (wRow cI (xr 8) fa 6 u15) ++ (wFelt cI (xr 2) yr ya yi yk)) H := hP
  have hD : va_D A ((wX x xr xl xt xd) ++ (wTold cI xt tr ta ti tk) ++ (wRow cI (xr 8) fa 6 u15) ++ (wFelt cI (xr 2) yr ya yi yk)) := hD
  replace he := he.trans (xbd_some hw)
  refine lv_if_eq (tgt := 42) hx hb dX6_coldHands_34 (by decide) (fun c3 => ?_) (fun c3 => ?_)
  · replace he := he.trans (if_pos c3)
    refine lv_iconst (v := 0) hx hb dX6_coldHands_42 (by decide) ?_
    refine lv_istore_n (lv' := [(1, .int (0 : Int32)), (0, .ref x)]) hx hb dX6_coldHands_43 rfl hl (by decide) rfl (fun ls hl => ?_)
    refine lv_iconst (v := 0) hx hb dX6_coldHands_44 (by decide) ?_
    refine lv_istore_n (lv' := [(2, .int (0 : Int32)), (1, .int (0 : Int32)), (0, .ref x)]) hx hb dX6_coldHands_45 rfl hl (by decide) rfl (fun ls hl => ?_)
    exact L46_4 u15 F (0 : Int32) (0 : Int32) he _ _ _ hP hD hS (lv_sub hl [0, 1, 2] rfl)
  · replace he := he.trans (if_neg c3)
    refine lv_bipush (v := 64) hx hb dX6_coldHands_37 (by decide) ?_
    refine lv_goto (tgt := 43) hx hb dX6_coldHands_39 (by decide) ?_
    refine lv_istore_n (lv' := [(1, .int (64 : Int32)), (0, .ref x)]) hx hb dX6_coldHands_43 rfl hl (by decide) rfl (fun ls hl => ?_)
    refine lv_iconst (v := 0) hx hb dX6_coldHands_44 (by decide) ?_
    refine lv_istore_n (lv' := [(2, .int (0 : Int32)), (1, .int (64 : Int32)), (0, .ref x)]) hx hb dX6_coldHands_45 rfl hl (by decide) rfl (fun ls hl => ?_)
    exact L46_4 u15 F (0 : Int32) (64 : Int32) he _ _ _ hP hD hS (lv_sub hl [0, 1, 2] rfl)
