def fX5_round (ti_4 : Int32) (a1 : Int32) : Option (Int32) :=
  if (1 : Int32) ≤ ti_4 then (xbd (fJ9_floorMod_7cf53 a1 ti_4) (fun (r17 : Int32) => some r17)) else (some (0 : Int32))
theorem hi_X5_round_5 : ∀ w ∈ wsX50, w ∈ wsX5_round := fun _ h => (List.mem_cons_of_mem _ (List.mem_append_right _ h))
def W_X5_round (cI cP : ClassId) (t : Nat) (tr : Nat → Nat) (ta : Nat → Nat) (ti_4 : Int32) (ti_5 : Int32) (ti_6 : Int32) (ti_7 : Int32) (ti_8 : Int32) (ti_9 : Int32) (ti_10 : Int32) (tk_0 : Nat → Int32) (tk_1 : Nat → Int32) (tk_2 : Nat → Int32) (tk_3 : Nat → Int32) : va_W := (wTold cI t tr ta ti_4 ti_5 ti_6 ti_7 ti_8 ti_9 ti_10 tk_0 tk_1 tk_2 tk_3)
theorem W_X5_round_o0 {cI cP : ClassId} {t : Nat} {tr : Nat → Nat} {ta : Nat → Nat} {ti_4 : Int32} {ti_5 : Int32} {ti_6 : Int32} {ti_7 : Int32} {ti_8 : Int32} {ti_9 : Int32} {ti_10 : Int32} {tk_0 : Nat → Int32} {tk_1 : Nat → Int32} {tk_2 : Nat → Int32} {tk_3 : Nat → Int32} : (W_X5_round cI cP t tr ta ti_4 ti_5 ti_6 ti_7 ti_8 ti_9 ti_10 tk_0 tk_1 tk_2 tk_3)[0]? = some (t, .inr (5, [.ref (tr 0), .ref (tr 1), .ref (tr 2), .ref (tr 3), .int ti_4, .int ti_5, .int ti_6, .int ti_7, .int ti_8, .int ti_9, .int ti_10])) := rfl
set_option maxHeartbeats 4000000 in
set_option maxRecDepth 100000 in
theorem c_X5_round (l : Launch) (D : va_G) (cI cP : ClassId) (sz : Nat) (t : Nat) (tr : Nat → Nat) (ta : Nat → Nat) (ti_4 : Int32) (ti_5 : Int32) (ti_6 : Int32) (ti_7 : Int32) (ti_8 : Int32) (ti_9 : Int32) (ti_10 : Int32) (tk_0 : Nat → Int32) (tk_1 : Nat → Int32) (tk_2 : Nat → Int32) (tk_3 : Nat → Int32) (a1 : Int32) (hne : fX5_round ti_4 a1 ≠ none) : xMi l yX5_round wsX5_round ({ frames := 1, cells := 0, slots := 0, locals := 22 } : Room) D (xT cI cP) [.ref t, .int a1] (W_X5_round cI cP t tr ta ti_4 ti_5 ti_6 ti_7 ti_8 ti_9 ti_10 tk_0 tk_1 tk_2 tk_3) sz (fun r (_ : Unit) => fX5_round ti_4 a1 = some r) (fun u => W_X5_round cI cP t tr ta ti_4 ti_5 ti_6 ti_7 ti_8 ti_9 ti_10 tk_0 tk_1 tk_2 tk_3) 0 0 := by
  refine xMi_of (cc := cX5_round) (maxL := 2) (by decide +kernel) rfl (Nat.le_of_ble_eq_true rfl) ?_
  intro p e s m args below meth c A ls hx hb hml hown hts hname hN hK hA hP hD hS hl Q hret
  have he := fX5_round.eq_1 ti_4 a1
  have hl : lv_has ls 2 [(0, .ref t), (1, .int a1)] := hl
  refine lv_aload_n hx hb dX5_round_0 rfl (lv_at hl 0 rfl) ?_
  refine va_get (D := D) (ci := 5) (v := .int ti_4) (C := RX5) (T := TX5) (N := 11) hx hb hts hi_X5_round_5 hown hK hP 0 W_X5_round_o0 rfl 4 (by decide) (hts (.fieldLink RX5 43 "BlindLanterns$Told" "men" "I") (List.mem_of_getElem? (i := 1) rfl)) (fun _ h9 => h9) rfl dX5_round_1 ?_
  refine lv_iconst (v := 1) hx hb dX5_round_4 (by decide) ?_
  refine lv_icmp_ge (tgt := 12) hx hb dX5_round_5 (by decide) (fun c1 => ?_) (fun c1 => ?_)
  · replace he := he.trans (if_pos c1)
    refine lv_iload_n hx hb dX5_round_12 rfl (lv_at hl 1 rfl) ?_
    refine lv_aload_n hx hb dX5_round_13 rfl (lv_at hl 0 rfl) ?_
    refine va_get (D := D) (ci := 5) (v := .int ti_4) (C := RX5) (T := TX5) (N := 11) hx hb hts hi_X5_round_5 hown hK hP 0 W_X5_round_o0 rfl 4 (by decide) (hts (.fieldLink RX5 43 "BlindLanterns$Told" "men" "I") (List.mem_of_getElem? (i := 1) rfl)) (fun _ h9 => h9) rfl dX5_round_14 ?_
    have n2_ : fJ9_floorMod_7cf53 a1 ti_4 ≠ none := fun z => hne (he.trans (xbd_none z))
    refine xci0 (va_runS (As := [.int a1, .int ti_4]) (rest := []) ⟨hx, hb, hml, hown, hts⟩ (c_J9_floorMod_7cf53 l D cI cP s.heap.size  a1 ti_4 n2_) (va_cwS 2 hts gX5_round_J9_floorMod_7cf53 rfl rfl rfl (by decide +kernel) ⟨Nat.le_of_ble_eq_true rfl, Nat.le_of_ble_eq_true rfl⟩) (xPS0 hN hK) rfl rfl hl.1 rfl (lv_room (Nat.le_of_ble_eq_true rfl)) dX5_round_17 ⟨Nat.le_of_ble_eq_true rfl, Nat.le_of_ble_eq_true rfl⟩) hP hD hS hA (fun r17 u17 H locs hw hP hD hS => ?_)
    replace he := he.trans (xbd_some hw)
    exact hret r17 () _ _ _ _ dX5_round_20 he hP hD hS
  · replace he := he.trans (if_neg c1)
    refine lv_iconst (v := 0) hx hb dX5_round_8 (by decide) ?_
    refine lv_goto (tgt := 20) hx hb dX5_round_9 (by decide) ?_
    exact hret (0 : Int32) () _ _ _ _ dX5_round_20 he hP hD hS

def fX5_postBefore (ti_4 : Int32) (ti_7 : Int32) (a1 : Int32) (a2 : Int32) : Option (Int32) :=
  xbd (fX5_round ti_4 (a1 - (a2 * ti_7))) (fun (r9 : Int32) => some r9)
theorem hi_X5_postBefore_5 : ∀ w ∈ wsX50, w ∈ wsX5_postBefore := fun _ h => (List.mem_cons_of_mem _ (List.mem_append_right _ h))
def W_X5_postBefore (cI cP : ClassId) (t : Nat) (tr : Nat → Nat) (ta : Nat → Nat) (ti_4 : Int32) (ti_5 : Int32) (ti_6 : Int32) (ti_7 : Int32) (ti_8 : Int32) (ti_9 : Int32) (ti_10 : Int32) (tk_0 : Nat → Int32) (tk_1 : Nat → Int32) (tk_2 : Nat → Int32) (tk_3 : Nat → Int32) : va_W := (wTold cI t tr ta ti_4 ti_5 ti_6 ti_7 ti_8 ti_9 ti_10 tk_0 tk_1 tk_2 tk_3)
theorem W_X5_postBefore_o0 {cI cP : ClassId} {t : Nat} {tr : Nat → Nat} {ta : Nat → Nat} {ti_4 : Int32} {ti_5 : Int32} {ti_6 : Int32} {ti_7 : Int32} {ti_8 : Int32} {ti_9 : Int32} {ti_10 : Int32} {tk_0 : Nat → Int32} {tk_1 : Nat → Int32} {tk_2 : Nat → Int32} {tk_3 : Nat → Int32} : (W_X5_postBefore cI cP t tr ta ti_4 ti_5 ti_6 ti_7 ti_8 ti_9 ti_10 tk_0 tk_1 tk_2 tk_3)[0]? = some (t, .inr (5, [.ref (tr 0), .ref (tr 1), .ref (tr 2), .ref (tr 3), .int ti_4, .int ti_5, .int ti_6, .int ti_7, .int ti_8, .int ti_9, .int ti_10])) := rfl
theorem W_X5_postBefore_c_X5_round_0_1_2_3_4_5_6_7_8 {cI cP : ClassId} {t : Nat} {tr : Nat → Nat} {ta : Nat → Nat} {ti_4 : Int32} {ti_5 : Int32} {ti_6 : Int32} {ti_7 : Int32} {ti_8 : Int32} {ti_9 : Int32} {ti_10 : Int32} {tk_0 : Nat → Int32} {tk_1 : Nat → Int32} {tk_2 : Nat → Int32} {tk_3 : Nat → Int32} : ([0, 1, 2, 3, 4, 5, 6, 7, 8] : List Nat).map (fun i => (W_X5_postBefore cI cP t tr ta ti_4 ti_5 ti_6 ti_7 ti_8 ti_9 ti_10 tk_0 tk_1 tk_2 tk_3)[i]?) = (W_X5_round cI cP t tr ta ti_4 ti_5 ti_6 ti_7 ti_8 ti_9 ti_10 tk_0 tk_1 tk_2 tk_3).map some := rfl
theorem W_X5_postBefore_x_X5_round_0_1_2_3_4_5_6_7_8 {cI cP : ClassId} {t : Nat} {tr : Nat → Nat} {ta : Nat → Nat} {ti_4 : Int32} {ti_5 : Int32} {ti_6 : Int32} {ti_7 : Int32} {ti_8 : Int32} {ti_9 : Int32} {ti_10 : Int32} {tk_0 : Nat → Int32} {tk_1 : Nat → Int32} {tk_2 : Nat → Int32} {tk_3 : Nat → Int32} : xset (W_X5_postBefore cI cP t tr ta ti_4 ti_5 ti_6 ti_7 ti_8 ti_9 ti_10 tk_0 tk_1 tk_2 tk_3) [0, 1, 2, 3, 4, 5, 6, 7, 8] (W_X5_round cI cP t tr ta ti_4 ti_5 ti_6 ti_7 ti_8 ti_9 ti_10 tk_0 tk_1 tk_2 tk_3) = W_X5_postBefore cI cP t tr ta ti_4 ti_5 ti_6 ti_7 ti_8 ti_9 ti_10 tk_0 tk_1 tk_2 tk_3 := rfl
set_option maxHeartbeats 4000000 in
set_option maxRecDepth 100000 in
theorem c_X5_postBefore (l : Launch) (D : va_G) (cI cP : ClassId) (sz : Nat) (t : Nat) (tr : Nat → Nat) (ta : Nat → Nat) (ti_4 : Int32) (ti_5 : Int32) (ti_6 : Int32) (ti_7 : Int32) (ti_8 : Int32) (ti_9 : Int32) (ti_10 : Int32) (tk_0 : Nat → Int32) (tk_1 : Nat → Int32) (tk_2 : Nat → Int32) (tk_3 : Nat → Int32) (a1 : Int32) (a2 : Int32) (hne : fX5_postBefore ti_4 ti_7 a1 a2 ≠ none) : xMi l yX5_postBefore wsX5_postBefore ({ frames := 2, cells := 0, slots := 0, locals := 43 } : Room) D (xT cI cP) [.ref t, .int a1, .int a2] (W_X5_postBefore cI cP t tr ta ti_4 ti_5 ti_6 ti_7 ti_8 ti_9 ti_10 tk_0 tk_1 tk_2 tk_3) sz (fun r (_ : Unit) => fX5_postBefore ti_4 ti_7 a1 a2 = some r) (fun u => W_X5_postBefore cI cP t tr ta ti_4 ti_5 ti_6 ti_7 ti_8 ti_9 ti_10 tk_0 tk_1 tk_2 tk_3) 0 0 := by
  refine xMi_of (cc := cX5_postBefore) (maxL := 3) (by decide +kernel) rfl (Nat.le_of_ble_eq_true rfl) ?_
  intro p e s m args below meth c A ls hx hb hml hown hts hname hN hK hA hP hD hS hl Q hret
  have he := fX5_postBefore.eq_1 ti_4 ti_7 a1 a2
  have hl : lv_has ls 3 [(0, .ref t), (1, .int a1), (2, .int a2)] := hl
  refine lv_aload_n hx hb dX5_postBefore_0 rfl (lv_at hl 0 rfl) ?_
  refine lv_iload_n hx hb dX5_postBefore_1 rfl (lv_at hl 1 rfl) ?_
  refine lv_iload_n hx hb dX5_postBefore_2 rfl (lv_at hl 2 rfl) ?_
  refine lv_aload_n hx hb dX5_postBefore_3 rfl (lv_at hl 0 rfl) ?_
  refine va_get (D := D) (ci := 5) (v := .int ti_7) (C := RX5) (T := TX5) (N := 11) hx hb hts hi_X5_postBefore_5 hown hK hP 0 W_X5_postBefore_o0 rfl 7 (by decide) (hts (.fieldLink RX5 29 "BlindLanterns$Told" "step" "I") (List.mem_of_getElem? (i := 1) rfl)) (fun _ h9 => h9) rfl dX5_postBefore_4 ?_
  refine lv_imul hx hb dX5_postBefore_7 ?_
  refine lv_isub hx hb dX5_postBefore_8 ?_
  have n1_ : fX5_round ti_4 (a1 - (a2 * ti_7)) ≠ none := fun z => hne (he.trans (xbd_none z))
  refine xci (va_runV (As := [.int (a1 - (a2 * ti_7))]) (rest := []) ⟨hx, hb, hml, hown, hts⟩ (c_X5_round l D cI cP s.heap.size t tr ta ti_4 ti_5 ti_6 ti_7 ti_8 ti_9 ti_10 tk_0 tk_1 tk_2 tk_3 (a1 - (a2 * ti_7)) n1_) (cwV 1 hts gX5_postBefore_X5_round rfl rfl rfl (by decide +kernel) ⟨Nat.le_of_ble_eq_true rfl, Nat.le_of_ble_eq_true rfl⟩) (xPV hN hK hP hD [0, 1, 2, 3, 4, 5, 6, 7, 8] W_X5_postBefore_c_X5_round_0_1_2_3_4_5_6_7_8 (by decide) (ci := 5) (j := 0) rfl W_X5_postBefore_o0) rfl rfl hl.1 rfl (lv_room (Nat.le_of_ble_eq_true rfl)) dX5_postBefore_9 ⟨Nat.le_of_ble_eq_true rfl, Nat.le_of_ble_eq_true rfl⟩) hP hD hS hA [0, 1, 2, 3, 4, 5, 6, 7, 8] W_X5_postBefore_c_X5_round_0_1_2_3_4_5_6_7_8 (fun _ => rfl) (fun r9 u9 H locs hw hP hD hS => ?_)
  rw [W_X5_postBefore_x_X5_round_0_1_2_3_4_5_6_7_8] at hP hD
  replace he := he.trans (xbd_some hw)
  exact hret r9 () _ _ _ _ dX5_postBefore_12 he hP hD hS

def fX5_isWarm (ti_9 : Int32) (ti_10 : Int32) (a1 : Int32) (a2 : Int32) (a3 : Int32) : Option (Int32) :=
  if a2 = 0 then (if a3 < ti_9 then (if a1 = (1 : Int32) then (some (0 : Int32)) else (if a1 = (2 : Int32) then (some (1 : Int32)) else (some (0 : Int32)))) else (if ti_10 < a3 then (if a1 = (1 : Int32) then (some (0 : Int32)) else (if a1 = (2 : Int32) then (some (1 : Int32)) else (some (0 : Int32)))) else (if a1 = (1 : Int32) then (some (0 : Int32)) else (if a1 = (2 : Int32) then (some (0 : Int32)) else (some (1 : Int32)))))) else (if a1 = (1 : Int32) then (some (0 : Int32)) else (if a1 = (2 : Int32) then (some (0 : Int32)) else (some (1 : Int32))))
theorem hi_X5_isWarm_5 : ∀ w ∈ wsX50, w ∈ wsX5_isWarm := fun _ h => (List.mem_cons_of_mem _ (List.mem_append_right _ h))
def W_X5_isWarm (cI cP : ClassId) (t : Nat) (tr : Nat → Nat) (ta : Nat → Nat) (ti_4 : Int32) (ti_5 : Int32) (ti_6 : Int32) (ti_7 : Int32) (ti_8 : Int32) (ti_9 : Int32) (ti_10 : Int32) (tk_0 : Nat → Int32) (tk_1 : Nat → Int32) (tk_2 : Nat → Int32) (tk_3 : Nat → Int32) : va_W := (wTold cI t tr ta ti_4 ti_5 ti_6 ti_7 ti_8 ti_9 ti_10 tk_0 tk_1 tk_2 tk_3)
theorem W_X5_isWarm_o0 {cI cP : ClassId} {t : Nat} {tr : Nat → Nat} {ta : Nat → Nat} {ti_4 : Int32} {ti_5 : Int32} {ti_6 : Int32} {ti_7 : Int32} {ti_8 : Int32} {ti_9 : Int32} {ti_10 : Int32} {tk_0 : Nat → Int32} {tk_1 : Nat → Int32} {tk_2 : Nat → Int32} {tk_3 : Nat → Int32} : (W_X5_isWarm cI cP t tr ta ti_4 ti_5 ti_6 ti_7 ti_8 ti_9 ti_10 tk_0 tk_1 tk_2 tk_3)[0]? = some (t, .inr (5, [.ref (tr 0), .ref (tr 1), .ref (tr 2), .ref (tr 3), .int ti_4, .int ti_5, .int ti_6, .int ti_7, .int ti_8, .int ti_9, .int ti_10])) := rfl
set_option maxHeartbeats 4000000 in
set_option maxRecDepth 100000 in
theorem c_X5_isWarm (l : Launch) (D : va_G) (cI cP : ClassId) (sz : Nat) (t : Nat) (tr : Nat → Nat) (ta : Nat → Nat) (ti_4 : Int32) (ti_5 : Int32) (ti_6 : Int32) (ti_7 : Int32) (ti_8 : Int32) (ti_9 : Int32) (ti_10 : Int32) (tk_0 : Nat → Int32) (tk_1 : Nat → Int32) (tk_2 : Nat → Int32) (tk_3 : Nat → Int32) (a1 : Int32) (a2 : Int32) (a3 : Int32) (hne : fX5_isWarm ti_9 ti_10 a1 a2 a3 ≠ none) : xMi l yX5_isWarm wsX5_isWarm ({ frames := 0, cells := 0, slots := 0, locals := 0 } : Room) D (xT cI cP) [.ref t, .int a1, .int a2, .int a3] (W_X5_isWarm cI cP t tr ta ti_4 ti_5 ti_6 ti_7 ti_8 ti_9 ti_10 tk_0 tk_1 tk_2 tk_3) sz (fun r (_ : Unit) => fX5_isWarm ti_9 ti_10 a1 a2 a3 = some r) (fun u => W_X5_isWarm cI cP t tr ta ti_4 ti_5 ti_6 ti_7 ti_8 ti_9 ti_10 tk_0 tk_1 tk_2 tk_3) 0 0 := by
  refine xMz_of (cc := cX5_isWarm) (maxL := 5) (by decide +kernel) rfl (Nat.le_of_ble_eq_true rfl) ?_
  intro p e s m args below meth c A ls hx hb hml hown hts hname hN hK hA hP hD hS hl Q hret
  have he := fX5_isWarm.eq_1 ti_9 ti_10 a1 a2 a3
  have hl : lv_has ls 5 [(0, .ref t), (1, .int a1), (2, .int a2), (3, .int a3)] := hl
  refine lv_iload_n hx hb dX5_isWarm_0 rfl (lv_at hl 2 rfl) ?_
  refine lv_if_ne (tgt := 20) hx hb dX5_isWarm_1 (by decide) (fun c1 => ?_) (fun c1 => ?_)
  · replace he := he.trans (if_neg c1)
    refine lv_iconst (v := 1) hx hb dX5_isWarm_20 (by decide) ?_
    refine lv_goto (tgt := 25) hx hb dX5_isWarm_21 (by decide) ?_
    refine lv_istore (lv' := [(4, .int (1 : Int32)), (0, .ref t), (1, .int a1), (2, .int a2), (3, .int a3)]) hx hb dX5_isWarm_25 hl (by decide) rfl (fun ls hl => ?_)
    refine lv_iload_n hx hb dX5_isWarm_27 rfl (lv_at hl 2 rfl) ?_
    refine lv_iconst (v := 1) hx hb dX5_isWarm_28 (by decide) ?_
    refine lv_icmp_eq (tgt := 51) hx hb dX5_isWarm_29 (by decide) (fun c2 => ?_) (fun c2 => ?_)
    · replace he := he.trans (if_pos c2)
      refine lv_iconst (v := 0) hx hb dX5_isWarm_51 (by decide) ?_
      exact hret (0 : Int32) () _ _ _ _ dX5_isWarm_52 (Or.inl rfl) he hP hD hS
    · replace he := he.trans (if_neg c2)
      refine lv_iload hx hb dX5_isWarm_32 (lv_at hl 0 rfl) ?_
      refine lv_iload_n hx hb dX5_isWarm_34 rfl (lv_at hl 2 rfl) ?_
      refine lv_iconst (v := 2) hx hb dX5_isWarm_35 (by decide) ?_
      refine lv_icmp_ne (tgt := 43) hx hb dX5_isWarm_36 (by decide) (fun c3 => ?_) (fun c3 => ?_)
      · replace he := he.trans (if_neg c3)
        refine lv_iconst (v := 0) hx hb dX5_isWarm_43 (by decide) ?_
        refine lv_icmp_eq (tgt := 51) hx hb dX5_isWarm_44 (by decide) (fun c0 => absurd c0 (by decide)) (fun _ => ?_)
        refine lv_iconst (v := 1) hx hb dX5_isWarm_47 (by decide) ?_
        refine lv_goto (tgt := 52) hx hb dX5_isWarm_48 (by decide) ?_
        exact hret (1 : Int32) () _ _ _ _ dX5_isWarm_52 (Or.inr rfl) he hP hD hS
      · replace he := he.trans (if_pos c3)
        refine lv_iconst (v := 1) hx hb dX5_isWarm_39 (by decide) ?_
        refine lv_goto (tgt := 44) hx hb dX5_isWarm_40 (by decide) ?_
        refine lv_icmp_eq (tgt := 51) hx hb dX5_isWarm_44 (by decide) (fun _ => ?_) (fun c0 => absurd (by decide) c0)
        refine lv_iconst (v := 0) hx hb dX5_isWarm_51 (by decide) ?_
        exact hret (0 : Int32) () _ _ _ _ dX5_isWarm_52 (Or.inl rfl) he hP hD hS
  · replace he := he.trans (if_pos c1)
    refine lv_iload_n hx hb dX5_isWarm_4 rfl (lv_at hl 3 rfl) ?_
    refine lv_aload_n hx hb dX5_isWarm_5 rfl (lv_at hl 0 rfl) ?_
    refine va_get (D := D) (ci := 5) (v := .int ti_9) (C := RX5) (T := TX5) (N := 11) hx hb hts hi_X5_isWarm_5 hown hK hP 0 W_X5_isWarm_o0 rfl 9 (by decide) (hts (.fieldLink RX5 34 "BlindLanterns$Told" "sunFrom" "I") (List.mem_of_getElem? (i := 1) rfl)) (fun _ h9 => h9) rfl dX5_isWarm_6 ?_
    refine lv_icmp_lt (tgt := 24) hx hb dX5_isWarm_9 (by decide) (fun c4 => ?_) (fun c4 => ?_)
    · replace he := he.trans (if_pos c4)
      refine lv_iconst (v := 0) hx hb dX5_isWarm_24 (by decide) ?_
      refine lv_istore (lv' := [(4, .int (0 : Int32)), (0, .ref t), (1, .int a1), (2, .int a2), (3, .int a3)]) hx hb dX5_isWarm_25 hl (by decide) rfl (fun ls hl => ?_)
      refine lv_iload_n hx hb dX5_isWarm_27 rfl (lv_at hl 2 rfl) ?_
      refine lv_iconst (v := 1) hx hb dX5_isWarm_28 (by decide) ?_
      refine lv_icmp_eq (tgt := 51) hx hb dX5_isWarm_29 (by decide) (fun c5 => ?_) (fun c5 => ?_)
      · replace he := he.trans (if_pos c5)
        refine lv_iconst (v := 0) hx hb dX5_isWarm_51 (by decide) ?_
        exact hret (0 : Int32) () _ _ _ _ dX5_isWarm_52 (Or.inl rfl) he hP hD hS
      · replace he := he.trans (if_neg c5)
        refine lv_iload hx hb dX5_isWarm_32 (lv_at hl 0 rfl) ?_
        refine lv_iload_n hx hb dX5_isWarm_34 rfl (lv_at hl 2 rfl) ?_
        refine lv_iconst (v := 2) hx hb dX5_isWarm_35 (by decide) ?_
        refine lv_icmp_ne (tgt := 43) hx hb dX5_isWarm_36 (by decide) (fun c6 => ?_) (fun c6 => ?_)
        · replace he := he.trans (if_neg c6)
          refine lv_iconst (v := 0) hx hb dX5_isWarm_43 (by decide) ?_
          refine lv_icmp_eq (tgt := 51) hx hb dX5_isWarm_44 (by decide) (fun _ => ?_) (fun c0 => absurd (by decide) c0)
          refine lv_iconst (v := 0) hx hb dX5_isWarm_51 (by decide) ?_
          exact hret (0 : Int32) () _ _ _ _ dX5_isWarm_52 (Or.inl rfl) he hP hD hS
        · replace he := he.trans (if_pos c6)
          refine lv_iconst (v := 1) hx hb dX5_isWarm_39 (by decide) ?_
          refine lv_goto (tgt := 44) hx hb dX5_isWarm_40 (by decide) ?_
          refine lv_icmp_eq (tgt := 51) hx hb dX5_isWarm_44 (by decide) (fun c0 => absurd c0 (by decide)) (fun _ => ?_)
          refine lv_iconst (v := 1) hx hb dX5_isWarm_47 (by decide) ?_
          refine lv_goto (tgt := 52) hx hb dX5_isWarm_48 (by decide) ?_
          exact hret (1 : Int32) () _ _ _ _ dX5_isWarm_52 (Or.inr rfl) he hP hD hS
    · replace he := he.trans (if_neg c4)
      refine lv_iload_n hx hb dX5_isWarm_12 rfl (lv_at hl 3 rfl) ?_
      refine lv_aload_n hx hb dX5_isWarm_13 rfl (lv_at hl 0 rfl) ?_
      refine va_get (D := D) (ci := 5) (v := .int ti_10) (C := RX5) (T := TX5) (N := 11) hx hb hts hi_X5_isWarm_5 hown hK hP 0 W_X5_isWarm_o0 rfl 10 (by decide) (hts (.fieldLink RX5 37 "BlindLanterns$Told" "sunTo" "I") (List.mem_of_getElem? (i := 2) rfl)) (fun _ h9 => h9) rfl dX5_isWarm_14 ?_
      refine lv_icmp_gt (tgt := 24) hx hb dX5_isWarm_17 (by decide) (fun c7 => ?_) (fun c7 => ?_)
      · replace he := he.trans (if_pos c7)
        refine lv_iconst (v := 0) hx hb dX5_isWarm_24 (by decide) ?_
        refine lv_istore (lv' := [(4, .int (0 : Int32)), (0, .ref t), (1, .int a1), (2, .int a2), (3, .int a3)]) hx hb dX5_isWarm_25 hl (by decide) rfl (fun ls hl => ?_)
        refine lv_iload_n hx hb dX5_isWarm_27 rfl (lv_at hl 2 rfl) ?_
        refine lv_iconst (v := 1) hx hb dX5_isWarm_28 (by decide) ?_
        refine lv_icmp_eq (tgt := 51) hx hb dX5_isWarm_29 (by decide) (fun c8 => ?_) (fun c8 => ?_)
        · replace he := he.trans (if_pos c8)
          refine lv_iconst (v := 0) hx hb dX5_isWarm_51 (by decide) ?_
          exact hret (0 : Int32) () _ _ _ _ dX5_isWarm_52 (Or.inl rfl) he hP hD hS
        · replace he := he.trans (if_neg c8)
          refine lv_iload hx hb dX5_isWarm_32 (lv_at hl 0 rfl) ?_
          refine lv_iload_n hx hb dX5_isWarm_34 rfl (lv_at hl 2 rfl) ?_
          refine lv_iconst (v := 2) hx hb dX5_isWarm_35 (by decide) ?_
          refine lv_icmp_ne (tgt := 43) hx hb dX5_isWarm_36 (by decide) (fun c9 => ?_) (fun c9 => ?_)
          · replace he := he.trans (if_neg c9)
            refine lv_iconst (v := 0) hx hb dX5_isWarm_43 (by decide) ?_
            refine lv_icmp_eq (tgt := 51) hx hb dX5_isWarm_44 (by decide) (fun _ => ?_) (fun c0 => absurd (by decide) c0)
            refine lv_iconst (v := 0) hx hb dX5_isWarm_51 (by decide) ?_
            exact hret (0 : Int32) () _ _ _ _ dX5_isWarm_52 (Or.inl rfl) he hP hD hS
          · replace he := he.trans (if_pos c9)
            refine lv_iconst (v := 1) hx hb dX5_isWarm_39 (by decide) ?_
            refine lv_goto (tgt := 44) hx hb dX5_isWarm_40 (by decide) ?_
            refine lv_icmp_eq (tgt := 51) hx hb dX5_isWarm_44 (by decide) (fun c0 => absurd c0 (by decide)) (fun _ => ?_)
            refine lv_iconst (v := 1) hx hb dX5_isWarm_47 (by decide) ?_
            refine lv_goto (tgt := 52) hx hb dX5_isWarm_48 (by decide) ?_
            exact hret (1 : Int32) () _ _ _ _ dX5_isWarm_52 (Or.inr rfl) he hP hD hS
      · replace he := he.trans (if_neg c7)
        refine lv_iconst (v := 1) hx hb dX5_isWarm_20 (by decide) ?_
        refine lv_goto (tgt := 25) hx hb dX5_isWarm_21 (by decide) ?_
        refine lv_istore (lv' := [(4, .int (1 : Int32)), (0, .ref t), (1, .int a1), (2, .int a2), (3, .int a3)]) hx hb dX5_isWarm_25 hl (by decide) rfl (fun ls hl => ?_)
        refine lv_iload_n hx hb dX5_isWarm_27 rfl (lv_at hl 2 rfl) ?_
        refine lv_iconst (v := 1) hx hb dX5_isWarm_28 (by decide) ?_
        refine lv_icmp_eq (tgt := 51) hx hb dX5_isWarm_29 (by decide) (fun c10 => ?_) (fun c10 => ?_)
        · replace he := he.trans (if_pos c10)
          refine lv_iconst (v := 0) hx hb dX5_isWarm_51 (by decide) ?_
          exact hret (0 : Int32) () _ _ _ _ dX5_isWarm_52 (Or.inl rfl) he hP hD hS
        · replace he := he.trans (if_neg c10)
          refine lv_iload hx hb dX5_isWarm_32 (lv_at hl 0 rfl) ?_
          refine lv_iload_n hx hb dX5_isWarm_34 rfl (lv_at hl 2 rfl) ?_
          refine lv_iconst (v := 2) hx hb dX5_isWarm_35 (by decide) ?_
          refine lv_icmp_ne (tgt := 43) hx hb dX5_isWarm_36 (by decide) (fun c11 => ?_) (fun c11 => ?_)
          · replace he := he.trans (if_neg c11)
            refine lv_iconst (v := 0) hx hb dX5_isWarm_43 (by decide) ?_
            refine lv_icmp_eq (tgt := 51) hx hb dX5_isWarm_44 (by decide) (fun c0 => absurd c0 (by decide)) (fun _ => ?_)
            refine lv_iconst (v := 1) hx hb dX5_isWarm_47 (by decide) ?_
            refine lv_goto (tgt := 52) hx hb dX5_isWarm_48 (by decide) ?_
            exact hret (1 : Int32) () _ _ _ _ dX5_isWarm_52 (Or.inr rfl) he hP hD hS
          · replace he := he.trans (if_pos c11)
            refine lv_iconst (v := 1) hx hb dX5_isWarm_39 (by decide) ?_
            refine lv_goto (tgt := 44) hx hb dX5_isWarm_40 (by decide) ?_
            refine lv_icmp_eq (tgt := 51) hx hb dX5_isWarm_44 (by decide) (fun _ => ?_) (fun c0 => absurd (by decide) c0)
            refine lv_iconst (v := 0) hx hb dX5_isWarm_51 (by decide) ?_
            exact hret (0 : Int32) () _ _ _ _ dX5_isWarm_52 (Or.inl rfl) he hP hD hS

def fX5_clear (F : Nat) (tk_0 : Nat → Int32) (tk_1 : Nat → Int32) : Option (Int32 × Int32 × Int32 × Int32 × Int32 × Int32 × Int32 × (Nat → Int32) × (Nat → Int32)) :=
  xbd (fX3_clear F tk_0 6) (fun (u4 : (Nat → Int32)) => xbd (fX3_clear F tk_1 6) (fun (u11 : (Nat → Int32)) => some ((0 : Int32), (0 : Int32), (0 : Int32), (1 : Int32), (0 : Int32), (1000000 : Int32), (1000000 : Int32), u4, u11)))
theorem hi_X5_clear_5 : ∀ w ∈ wsX50, w ∈ wsX5_clear := fun _ h => (List.mem_cons_of_mem _ (List.mem_append_left _ (List.mem_append_right _ h)))
def W_X5_clear (cI cP : ClassId) (t : Nat) (tr : Nat → Nat) (ta : Nat → Nat) (ti_4 : Int32) (ti_5 : Int32) (ti_6 : Int32) (ti_7 : Int32) (ti_8 : Int32) (ti_9 : Int32) (ti_10 : Int32) (tk_0 : Nat → Int32) (tk_1 : Nat → Int32) (tk_2 : Nat → Int32) (tk_3 : Nat → Int32) : va_W := (wTold cI t tr ta ti_4 ti_5 ti_6 ti_7 ti_8 ti_9 ti_10 tk_0 tk_1 tk_2 tk_3)
theorem W_X5_clear_o0 {cI cP : ClassId} {t : Nat} {tr : Nat → Nat} {ta : Nat → Nat} {ti_4 : Int32} {ti_5 : Int32} {ti_6 : Int32} {ti_7 : Int32} {ti_8 : Int32} {ti_9 : Int32} {ti_10 : Int32} {tk_0 : Nat → Int32} {tk_1 : Nat → Int32} {tk_2 : Nat → Int32} {tk_3 : Nat → Int32} : (W_X5_clear cI cP t tr ta ti_4 ti_5 ti_6 ti_7 ti_8 ti_9 ti_10 tk_0 tk_1 tk_2 tk_3)[0]? = some (t, .inr (5, [.ref (tr 0), .ref (tr 1), .ref (tr 2), .ref (tr 3), .int ti_4, .int ti_5, .int ti_6, .int ti_7, .int ti_8, .int ti_9, .int ti_10])) := rfl
theorem W_X5_clear_c_X3_clear_1_2 {cI cP : ClassId} {t : Nat} {tr : Nat → Nat} {ta : Nat → Nat} {ti_4 : Int32} {ti_5 : Int32} {ti_6 : Int32} {ti_7 : Int32} {ti_8 : Int32} {ti_9 : Int32} {ti_10 : Int32} {tk_0 : Nat → Int32} {tk_1 : Nat → Int32} {tk_2 : Nat → Int32} {tk_3 : Nat → Int32} : ([1, 2] : List Nat).map (fun i => (W_X5_clear cI cP t tr ta ti_4 ti_5 ti_6 ti_7 ti_8 ti_9 ti_10 tk_0 tk_1 tk_2 tk_3)[i]?) = (W_X3_clear cI cP (tr 0) (ta 0) 6 tk_0).map some := rfl
theorem W_X5_clear_x_X3_clear_1_2 {cI cP : ClassId} {t : Nat} {tr : Nat → Nat} {ta : Nat → Nat} {ti_4 : Int32} {ti_5 : Int32} {ti_6 : Int32} {ti_7 : Int32} {ti_8 : Int32} {ti_9 : Int32} {ti_10 : Int32} {tk_0 : Nat → Int32} {tk_1 : Nat → Int32} {tk_2 : Nat → Int32} {tk_3 : Nat → Int32} {n0_ : Nat → Int32} : xset (W_X5_clear cI cP t tr ta ti_4 ti_5 ti_6 ti_7 ti_8 ti_9 ti_10 tk_0 tk_1 tk_2 tk_3) [1, 2] (W_X3_clear cI cP (tr 0) (ta 0) 6 n0_) = W_X5_clear cI cP t tr ta ti_4 ti_5 ti_6 ti_7 ti_8 ti_9 ti_10 n0_ tk_1 tk_2 tk_3 := rfl
theorem W_X5_clear_o1 {cI cP : ClassId} {t : Nat} {tr : Nat → Nat} {ta : Nat → Nat} {ti_4 : Int32} {ti_5 : Int32} {ti_6 : Int32} {ti_7 : Int32} {ti_8 : Int32} {ti_9 : Int32} {ti_10 : Int32} {tk_0 : Nat → Int32} {tk_1 : Nat → Int32} {tk_2 : Nat → Int32} {tk_3 : Nat → Int32} : (W_X5_clear cI cP t tr ta ti_4 ti_5 ti_6 ti_7 ti_8 ti_9 ti_10 tk_0 tk_1 tk_2 tk_3)[1]? = some ((tr 0), .inr (3, [.ref (ta 0)])) := rfl
theorem W_X5_clear_c_X3_clear_3_4 {cI cP : ClassId} {t : Nat} {tr : Nat → Nat} {ta : Nat → Nat} {ti_4 : Int32} {ti_5 : Int32} {ti_6 : Int32} {ti_7 : Int32} {ti_8 : Int32} {ti_9 : Int32} {ti_10 : Int32} {tk_0 : Nat → Int32} {tk_1 : Nat → Int32} {tk_2 : Nat → Int32} {tk_3 : Nat → Int32} : ([3, 4] : List Nat).map (fun i => (W_X5_clear cI cP t tr ta ti_4 ti_5 ti_6 ti_7 ti_8 ti_9 ti_10 tk_0 tk_1 tk_2 tk_3)[i]?) = (W_X3_clear cI cP (tr 1) (ta 1) 6 tk_1).map some := rfl
theorem W_X5_clear_x_X3_clear_3_4 {cI cP : ClassId} {t : Nat} {tr : Nat → Nat} {ta : Nat → Nat} {ti_4 : Int32} {ti_5 : Int32} {ti_6 : Int32} {ti_7 : Int32} {ti_8 : Int32} {ti_9 : Int32} {ti_10 : Int32} {tk_0 : Nat → Int32} {tk_1 : Nat → Int32} {tk_2 : Nat → Int32} {tk_3 : Nat → Int32} {n0_ : Nat → Int32} : xset (W_X5_clear cI cP t tr ta ti_4 ti_5 ti_6 ti_7 ti_8 ti_9 ti_10 tk_0 tk_1 tk_2 tk_3) [3, 4] (W_X3_clear cI cP (tr 1) (ta 1) 6 n0_) = W_X5_clear cI cP t tr ta ti_4 ti_5 ti_6 ti_7 ti_8 ti_9 ti_10 tk_0 n0_ tk_2 tk_3 := rfl
theorem W_X5_clear_o3 {cI cP : ClassId} {t : Nat} {tr : Nat → Nat} {ta : Nat → Nat} {ti_4 : Int32} {ti_5 : Int32} {ti_6 : Int32} {ti_7 : Int32} {ti_8 : Int32} {ti_9 : Int32} {ti_10 : Int32} {tk_0 : Nat → Int32} {tk_1 : Nat → Int32} {tk_2 : Nat → Int32} {tk_3 : Nat → Int32} : (W_X5_clear cI cP t tr ta ti_4 ti_5 ti_6 ti_7 ti_8 ti_9 ti_10 tk_0 tk_1 tk_2 tk_3)[3]? = some ((tr 1), .inr (3, [.ref (ta 1)])) := rfl
theorem W_X5_clear_p0_4 {cI cP : ClassId} {t : Nat} {tr : Nat → Nat} {ta : Nat → Nat} {ti_4 : Int32} {ti_5 : Int32} {ti_6 : Int32} {ti_7 : Int32} {ti_8 : Int32} {ti_9 : Int32} {ti_10 : Int32} {tk_0 : Nat → Int32} {tk_1 : Nat → Int32} {tk_2 : Nat → Int32} {tk_3 : Nat → Int32} {v9 : Int32} : (W_X5_clear cI cP t tr ta ti_4 ti_5 ti_6 ti_7 ti_8 ti_9 ti_10 tk_0 tk_1 tk_2 tk_3).set 0 (t, .inr (5, [.ref (tr 0), .ref (tr 1), .ref (tr 2), .ref (tr 3), .int ti_4, .int ti_5, .int ti_6, .int ti_7, .int ti_8, .int ti_9, .int ti_10].set 4 (.int v9))) = W_X5_clear cI cP t tr ta v9 ti_5 ti_6 ti_7 ti_8 ti_9 ti_10 tk_0 tk_1 tk_2 tk_3 := rfl
theorem W_X5_clear_p0_5 {cI cP : ClassId} {t : Nat} {tr : Nat → Nat} {ta : Nat → Nat} {ti_4 : Int32} {ti_5 : Int32} {ti_6 : Int32} {ti_7 : Int32} {ti_8 : Int32} {ti_9 : Int32} {ti_10 : Int32} {tk_0 : Nat → Int32} {tk_1 : Nat → Int32} {tk_2 : Nat → Int32} {tk_3 : Nat → Int32} {v9 : Int32} : (W_X5_clear cI cP t tr ta ti_4 ti_5 ti_6 ti_7 ti_8 ti_9 ti_10 tk_0 tk_1 tk_2 tk_3).set 0 (t, .inr (5, [.ref (tr 0), .ref (tr 1), .ref (tr 2), .ref (tr 3), .int ti_4, .int ti_5, .int ti_6, .int ti_7, .int ti_8, .int ti_9, .int ti_10].set 5 (.int v9))) = W_X5_clear cI cP t tr ta ti_4 v9 ti_6 ti_7 ti_8 ti_9 ti_10 tk_0 tk_1 tk_2 tk_3 := rfl
theorem W_X5_clear_p0_6 {cI cP : ClassId} {t : Nat} {tr : Nat → Nat} {ta : Nat → Nat} {ti_4 : Int32} {ti_5 : Int32} {ti_6 : Int32} {ti_7 : Int32} {ti_8 : Int32} {ti_9 : Int32} {ti_10 : Int32} {tk_0 : Nat → Int32} {tk_1 : Nat → Int32} {tk_2 : Nat → Int32} {tk_3 : Nat → Int32} {v9 : Int32} : (W_X5_clear cI cP t tr ta ti_4 ti_5 ti_6 ti_7 ti_8 ti_9 ti_10 tk_0 tk_1 tk_2 tk_3).set 0 (t, .inr (5, [.ref (tr 0), .ref (tr 1), .ref (tr 2), .ref (tr 3), .int ti_4, .int ti_5, .int ti_6, .int ti_7, .int ti_8, .int ti_9, .int ti_10].set 6 (.int v9))) = W_X5_clear cI cP t tr ta ti_4 ti_5 v9 ti_7 ti_8 ti_9 ti_10 tk_0 tk_1 tk_2 tk_3 := rfl
theorem W_X5_clear_p0_7 {cI cP : ClassId} {t : Nat} {tr : Nat → Nat} {ta : Nat → Nat} {ti_4 : Int32} {ti_5 : Int32} {ti_6 : Int32} {ti_7 : Int32} {ti_8 : Int32} {ti_9 : Int32} {ti_10 : Int32} {tk_0 : Nat → Int32} {tk_1 : Nat → Int32} {tk_2 : Nat → Int32} {tk_3 : Nat → Int32} {v9 : Int32} : (W_X5_clear cI cP t tr ta ti_4 ti_5 ti_6 ti_7 ti_8 ti_9 ti_10 tk_0 tk_1 tk_2 tk_3).set 0 (t, .inr (5, [.ref (tr 0), .ref (tr 1), .ref (tr 2), .ref (tr 3), .int ti_4, .int ti_5, .int ti_6, .int ti_7, .int ti_8, .int ti_9, .int ti_10].set 7 (.int v9))) = W_X5_clear cI cP t tr ta ti_4 ti_5 ti_6 v9 ti_8 ti_9 ti_10 tk_0 tk_1 tk_2 tk_3 := rfl
theorem W_X5_clear_p0_8 {cI cP : ClassId} {t : Nat} {tr : Nat → Nat} {ta : Nat → Nat} {ti_4 : Int32} {ti_5 : Int32} {ti_6 : Int32} {ti_7 : Int32} {ti_8 : Int32} {ti_9 : Int32} {ti_10 : Int32} {tk_0 : Nat → Int32} {tk_1 : Nat → Int32} {tk_2 : Nat → Int32} {tk_3 : Nat → Int32} {v9 : Int32} : (W_X5_clear cI cP t tr ta ti_4 ti_5 ti_6 ti_7 ti_8 ti_9 ti_10 tk_0 tk_1 tk_2 tk_3).set 0 (t, .inr (5, [.ref (tr 0), .ref (tr 1), .ref (tr 2), .ref (tr 3), .int ti_4, .int ti_5, .int ti_6, .int ti_7, .int ti_8, .int ti_9, .int ti_10].set 8 (.int v9))) = W_X5_clear cI cP t tr ta ti_4 ti_5 ti_6 ti_7 v9 ti_9 ti_10 tk_0 tk_1 tk_2 tk_3 := rfl
theorem W_X5_clear_p0_9 {cI cP : ClassId} {t : Nat} {tr : Nat → Nat} {ta : Nat → Nat} {ti_4 : Int32} {ti_5 : Int32} {ti_6 : Int32} {ti_7 : Int32} {ti_8 : Int32} {ti_9 : Int32} {ti_10 : Int32} {tk_0 : Nat → Int32} {tk_1 : Nat → Int32} {tk_2 : Nat → Int32} {tk_3 : Nat → Int32} {v9 : Int32} : (W_X5_clear cI cP t tr ta ti_4 ti_5 ti_6 ti_7 ti_8 ti_9 ti_10 tk_0 tk_1 tk_2 tk_3).set 0 (t, .inr (5, [.ref (tr 0), .ref (tr 1), .ref (tr 2), .ref (tr 3), .int ti_4, .int ti_5, .int ti_6, .int ti_7, .int ti_8, .int ti_9, .int ti_10].set 9 (.int v9))) = W_X5_clear cI cP t tr ta ti_4 ti_5 ti_6 ti_7 ti_8 v9 ti_10 tk_0 tk_1 tk_2 tk_3 := rfl
theorem W_X5_clear_p0_10 {cI cP : ClassId} {t : Nat} {tr : Nat → Nat} {ta : Nat → Nat} {ti_4 : Int32} {ti_5 : Int32} {ti_6 : Int32} {ti_7 : Int32} {ti_8 : Int32} {ti_9 : Int32} {ti_10 : Int32} {tk_0 : Nat → Int32} {tk_1 : Nat → Int32} {tk_2 : Nat → Int32} {tk_3 : Nat → Int32} {v9 : Int32} : (W_X5_clear cI cP t tr ta ti_4 ti_5 ti_6 ti_7 ti_8 ti_9 ti_10 tk_0 tk_1 tk_2 tk_3).set 0 (t, .inr (5, [.ref (tr 0), .ref (tr 1), .ref (tr 2), .ref (tr 3), .int ti_4, .int ti_5, .int ti_6, .int ti_7, .int ti_8, .int ti_9, .int ti_10].set 10 (.int v9))) = W_X5_clear cI cP t tr ta ti_4 ti_5 ti_6 ti_7 ti_8 ti_9 v9 tk_0 tk_1 tk_2 tk_3 := rfl
set_option maxHeartbeats 4000000 in
set_option maxRecDepth 100000 in
theorem c_X5_clear (l : Launch) (D : va_G) (cI cP : ClassId) (sz : Nat) (t : Nat) (tr : Nat → Nat) (ta : Nat → Nat) (ti_4 : Int32) (ti_5 : Int32) (ti_6 : Int32) (ti_7 : Int32) (ti_8 : Int32) (ti_9 : Int32) (ti_10 : Int32) (tk_0 : Nat → Int32) (tk_1 : Nat → Int32) (tk_2 : Nat → Int32) (tk_3 : Nat → Int32) (F : Nat) (hne : fX5_clear F tk_0 tk_1 ≠ none) : xMv l yX5_clear wsX5_clear ({ frames := 1, cells := 0, slots := 0, locals := 21 } : Room) D (xT cI cP) [.ref t] (W_X5_clear cI cP t tr ta ti_4 ti_5 ti_6 ti_7 ti_8 ti_9 ti_10 tk_0 tk_1 tk_2 tk_3) sz (fun (u : (Int32 × Int32 × Int32 × Int32 × Int32 × Int32 × Int32 × (Nat → Int32) × (Nat → Int32))) => fX5_clear F tk_0 tk_1 = some u) (fun u => W_X5_clear cI cP t tr ta u.1 u.2.1 u.2.2.1 u.2.2.2.1 u.2.2.2.2.1 u.2.2.2.2.2.1 u.2.2.2.2.2.2.1 u.2.2.2.2.2.2.2.1 u.2.2.2.2.2.2.2.2 tk_2 tk_3) 0 0 := by
  refine xMv_of (cc := cX5_clear) (maxL := 1) (by decide +kernel) rfl (Nat.le_of_ble_eq_true rfl) ?_
  intro p e s m args below meth c A ls hx hb hml hown hts hname hN hK hA hP hD hS hl Q hret
  have he := fX5_clear.eq_1 F tk_0 tk_1
  have hl : lv_has ls 1 [(0, .ref t)] := hl
  refine lv_aload_n hx hb dX5_clear_0 rfl (lv_at hl 0 rfl) ?_
  refine va_get (D := D) (ci := 5) (v := .ref (tr 0)) (C := RX5) (T := TX5) (N := 11) hx hb hts hi_X5_clear_5 hown hK hP 0 W_X5_clear_o0 rfl 0 (by decide) (hts (.fieldLink RX5 14 "BlindLanterns$Told" "kinds" "LBlindLanterns$Row;") (List.mem_of_getElem? (i := 1) rfl)) (fun _ h9 => h9) rfl dX5_clear_1 ?_
  have n1_ : fX3_clear F tk_0 6 ≠ none := fun z => hne (he.trans (xbd_none z))
  refine xcv (va_runV (As := []) (rest := []) ⟨hx, hb, hml, hown, hts⟩ (c_X3_clear l D cI cP s.heap.size (tr 0) (ta 0) 6 tk_0 F  n1_) (cwV 0 hts gX5_clear_X3_clear rfl rfl rfl (by decide +kernel) ⟨Nat.le_of_ble_eq_true rfl, Nat.le_of_ble_eq_true rfl⟩) (xPV hN hK hP hD [1, 2] W_X5_clear_c_X3_clear_1_2 (by decide) (ci := 3) (j := 1) rfl W_X5_clear_o1) rfl rfl hl.1 rfl (lv_room (Nat.le_of_ble_eq_true rfl)) dX5_clear_4 ⟨Nat.le_of_ble_eq_true rfl, Nat.le_of_ble_eq_true rfl⟩) hP hD hS hA [1, 2] W_X5_clear_c_X3_clear_1_2 (fun _ => rfl) (fun u4 H locs hw hP hD hS => ?_)
  rw [W_X5_clear_x_X3_clear_1_2] at hP hD
  replace he := he.trans (xbd_some hw)
  refine lv_aload_n hx hb dX5_clear_7 rfl (lv_at hl 0 rfl) ?_
  refine va_get (D := D) (ci := 5) (v := .ref (tr 1)) (C := RX5) (T := TX5) (N := 11) hx hb hts hi_X5_clear_5 hown hK hP 0 W_X5_clear_o0 rfl 1 (by decide) (hts (.fieldLink RX5 20 "BlindLanterns$Told" "oilAtFirst" "LBlindLanterns$Row;") (List.mem_of_getElem? (i := 2) rfl)) (fun _ h9 => h9) rfl dX5_clear_8 ?_
  have n2_ : fX3_clear F tk_1 6 ≠ none := fun z => hne (he.trans (xbd_none z))
  refine xcv (va_runV (As := []) (rest := []) ⟨hx, hb, hml, hown, hts⟩ (c_X3_clear l D cI cP H.size (tr 1) (ta 1) 6 tk_1 F  n2_) (cwV 0 hts gX5_clear_X3_clear rfl rfl rfl (by decide +kernel) ⟨Nat.le_of_ble_eq_true rfl, Nat.le_of_ble_eq_true rfl⟩) (xPV hN hK hP hD [3, 4] W_X5_clear_c_X3_clear_3_4 (by decide) (ci := 3) (j := 3) rfl W_X5_clear_o3) rfl rfl hl.1 rfl (lv_room (Nat.le_of_ble_eq_true rfl)) dX5_clear_11 ⟨Nat.le_of_ble_eq_true rfl, Nat.le_of_ble_eq_true rfl⟩) hP hD hS hA [3, 4] W_X5_clear_c_X3_clear_3_4 (fun _ => rfl) (fun u11 H locs hw hP hD hS => ?_)
  rw [W_X5_clear_x_X3_clear_3_4] at hP hD
  replace he := he.trans (xbd_some hw)
  refine lv_aload_n hx hb dX5_clear_14 rfl (lv_at hl 0 rfl) ?_
  refine lv_iconst (v := 0) hx hb dX5_clear_15 (by decide) ?_
  refine va_put (D := D) (ci := 5) (v := .int (0 : Int32)) (ty := .int) (C := RX5) (T := TX5) (N := 11) hx hb hts hi_X5_clear_5 tyX5 tyX5_ok nmX5 hown hK hP hD hS 0 W_X5_clear_o0 rfl 4 (by decide) (hts (.fieldLink RX5 43 "BlindLanterns$Told" "men" "I") (List.mem_of_getElem? (i := 3) rfl)) (fun _ h9 => h9) rfl (by decide +kernel) rfl rfl (Nat.le_of_ble_eq_true rfl) dX5_clear_16 (fun H locs hP hD hS => ?_)
  rw [W_X5_clear_p0_4] at hP hD
  refine lv_aload_n hx hb dX5_clear_19 rfl (lv_at hl 0 rfl) ?_
  refine lv_iconst (v := 0) hx hb dX5_clear_20 (by decide) ?_
  refine va_put (D := D) (ci := 5) (v := .int (0 : Int32)) (ty := .int) (C := RX5) (T := TX5) (N := 11) hx hb hts hi_X5_clear_5 tyX5 tyX5_ok nmX5 hown hK hP hD hS 0 W_X5_clear_o0 rfl 5 (by decide) (hts (.fieldLink RX5 46 "BlindLanterns$Told" "lit" "I") (List.mem_of_getElem? (i := 4) rfl)) (fun _ h9 => h9) rfl (by decide +kernel) rfl rfl (Nat.le_of_ble_eq_true rfl) dX5_clear_21 (fun H locs hP hD hS => ?_)
  rw [W_X5_clear_p0_5] at hP hD
  refine lv_aload_n hx hb dX5_clear_24 rfl (lv_at hl 0 rfl) ?_
  refine lv_iconst (v := 0) hx hb dX5_clear_25 (by decide) ?_
  refine va_put (D := D) (ci := 5) (v := .int (0 : Int32)) (ty := .int) (C := RX5) (T := TX5) (N := 11) hx hb hts hi_X5_clear_5 tyX5 tyX5_ok nmX5 hown hK hP hD hS 0 W_X5_clear_o0 rfl 6 (by decide) (hts (.fieldLink RX5 49 "BlindLanterns$Told" "cheeses" "I") (List.mem_of_getElem? (i := 5) rfl)) (fun _ h9 => h9) rfl (by decide +kernel) rfl rfl (Nat.le_of_ble_eq_true rfl) dX5_clear_26 (fun H locs hP hD hS => ?_)
  rw [W_X5_clear_p0_6] at hP hD
  refine lv_aload_n hx hb dX5_clear_29 rfl (lv_at hl 0 rfl) ?_
  refine lv_iconst (v := 1) hx hb dX5_clear_30 (by decide) ?_
  refine va_put (D := D) (ci := 5) (v := .int (1 : Int32)) (ty := .int) (C := RX5) (T := TX5) (N := 11) hx hb hts hi_X5_clear_5 tyX5 tyX5_ok nmX5 hown hK hP hD hS 0 W_X5_clear_o0 rfl 7 (by decide) (hts (.fieldLink RX5 29 "BlindLanterns$Told" "step" "I") (List.mem_of_getElem? (i := 6) rfl)) (fun _ h9 => h9) rfl (by decide +kernel) rfl rfl (Nat.le_of_ble_eq_true rfl) dX5_clear_31 (fun H locs hP hD hS => ?_)
  rw [W_X5_clear_p0_7] at hP hD
  refine lv_aload_n hx hb dX5_clear_34 rfl (lv_at hl 0 rfl) ?_
  refine lv_iconst (v := 0) hx hb dX5_clear_35 (by decide) ?_
  refine va_put (D := D) (ci := 5) (v := .int (0 : Int32)) (ty := .int) (C := RX5) (T := TX5) (N := 11) hx hb hts hi_X5_clear_5 tyX5 tyX5_ok nmX5 hown hK hP hD hS 0 W_X5_clear_o0 rfl 8 (by decide) (hts (.fieldLink RX5 52 "BlindLanterns$Told" "draughts" "I") (List.mem_of_getElem? (i := 7) rfl)) (fun _ h9 => h9) rfl (by decide +kernel) rfl rfl (Nat.le_of_ble_eq_true rfl) dX5_clear_36 (fun H locs hP hD hS => ?_)
  rw [W_X5_clear_p0_8] at hP hD
  refine lv_aload_n hx hb dX5_clear_39 rfl (lv_at hl 0 rfl) ?_
  refine lv_ldc hx hb hown (hts (.constant RX5 33 (1000000)) (List.mem_of_getElem? (i := 8) rfl)) dX5_clear_40 ?_
  refine va_put (D := D) (ci := 5) (v := .int (1000000 : Int32)) (ty := .int) (C := RX5) (T := TX5) (N := 11) hx hb hts hi_X5_clear_5 tyX5 tyX5_ok nmX5 hown hK hP hD hS 0 W_X5_clear_o0 rfl 9 (by decide) (hts (.fieldLink RX5 34 "BlindLanterns$Told" "sunFrom" "I") (List.mem_of_getElem? (i := 9) rfl)) (fun _ h9 => h9) rfl (by decide +kernel) rfl rfl (Nat.le_of_ble_eq_true rfl) dX5_clear_42 (fun H locs hP hD hS => ?_)
  rw [W_X5_clear_p0_9] at hP hD
  refine lv_aload_n hx hb dX5_clear_45 rfl (lv_at hl 0 rfl) ?_
  refine lv_ldc hx hb hown (hts (.constant RX5 33 (1000000)) (List.mem_of_getElem? (i := 8) rfl)) dX5_clear_46 ?_
  refine va_put (D := D) (ci := 5) (v := .int (1000000 : Int32)) (ty := .int) (C := RX5) (T := TX5) (N := 11) hx hb hts hi_X5_clear_5 tyX5 tyX5_ok nmX5 hown hK hP hD hS 0 W_X5_clear_o0 rfl 10 (by decide) (hts (.fieldLink RX5 37 "BlindLanterns$Told" "sunTo" "I") (List.mem_of_getElem? (i := 10) rfl)) (fun _ h9 => h9) rfl (by decide +kernel) rfl rfl (Nat.le_of_ble_eq_true rfl) dX5_clear_48 (fun H locs hP hD hS => ?_)
  rw [W_X5_clear_p0_10] at hP hD
  exact hret ((0 : Int32), (0 : Int32), (0 : Int32), (1 : Int32), (0 : Int32), (1000000 : Int32), (1000000 : Int32), u4, u11) _ _ _ _ dX5_clear_51 he hP hD hS

def fX5_addMan (ti_4 : Int32) (tk_0 : Nat → Int32) (a1 : Int32) : Option (Int32 × Int32 × (Nat → Int32)) :=
  if (6 : Int32) ≤ ti_4 then (some ((0 : Int32), (ti_4, tk_0))) else (if a1 < 0 then (some ((0 : Int32), (ti_4, tk_0))) else (if a1 ≤ (2 : Int32) then (xbd (fX3_set tk_0 ti_4 a1 6) (fun (u29 : (Nat → Int32)) => some ((1 : Int32), ((ti_4 + (1 : Int32)), u29)))) else (some ((0 : Int32), (ti_4, tk_0)))))
theorem hi_X5_addMan_5 : ∀ w ∈ wsX50, w ∈ wsX5_addMan := fun _ h => (List.mem_cons_of_mem _ (List.mem_append_left _ (List.mem_append_right _ h)))
def W_X5_addMan (cI cP : ClassId) (t : Nat) (tr : Nat → Nat) (ta : Nat → Nat) (ti_4 : Int32) (ti_5 : Int32) (ti_6 : Int32) (ti_7 : Int32) (ti_8 : Int32) (ti_9 : Int32) (ti_10 : Int32) (tk_0 : Nat → Int32) (tk_1 : Nat → Int32) (tk_2 : Nat → Int32) (tk_3 : Nat → Int32) : va_W := (wTold cI t tr ta ti_4 ti_5 ti_6 ti_7 ti_8 ti_9 ti_10 tk_0 tk_1 tk_2 tk_3)
theorem W_X5_addMan_o0 {cI cP : ClassId} {t : Nat} {tr : Nat → Nat} {ta : Nat → Nat} {ti_4 : Int32} {ti_5 : Int32} {ti_6 : Int32} {ti_7 : Int32} {ti_8 : Int32} {ti_9 : Int32} {ti_10 : Int32} {tk_0 : Nat → Int32} {tk_1 : Nat → Int32} {tk_2 : Nat → Int32} {tk_3 : Nat → Int32} : (W_X5_addMan cI cP t tr ta ti_4 ti_5 ti_6 ti_7 ti_8 ti_9 ti_10 tk_0 tk_1 tk_2 tk_3)[0]? = some (t, .inr (5, [.ref (tr 0), .ref (tr 1), .ref (tr 2), .ref (tr 3), .int ti_4, .int ti_5, .int ti_6, .int ti_7, .int ti_8, .int ti_9, .int ti_10])) := rfl
theorem W_X5_addMan_c_X3_set_1_2 {cI cP : ClassId} {t : Nat} {tr : Nat → Nat} {ta : Nat → Nat} {ti_4 : Int32} {ti_5 : Int32} {ti_6 : Int32} {ti_7 : Int32} {ti_8 : Int32} {ti_9 : Int32} {ti_10 : Int32} {tk_0 : Nat → Int32} {tk_1 : Nat → Int32} {tk_2 : Nat → Int32} {tk_3 : Nat → Int32} : ([1, 2] : List Nat).map (fun i => (W_X5_addMan cI cP t tr ta ti_4 ti_5 ti_6 ti_7 ti_8 ti_9 ti_10 tk_0 tk_1 tk_2 tk_3)[i]?) = (W_X3_set cI cP (tr 0) (ta 0) 6 tk_0).map some := rfl
theorem W_X5_addMan_x_X3_set_1_2 {cI cP : ClassId} {t : Nat} {tr : Nat → Nat} {ta : Nat → Nat} {ti_4 : Int32} {ti_5 : Int32} {ti_6 : Int32} {ti_7 : Int32} {ti_8 : Int32} {ti_9 : Int32} {ti_10 : Int32} {tk_0 : Nat → Int32} {tk_1 : Nat → Int32} {tk_2 : Nat → Int32} {tk_3 : Nat → Int32} {n0_ : Nat → Int32} : xset (W_X5_addMan cI cP t tr ta ti_4 ti_5 ti_6 ti_7 ti_8 ti_9 ti_10 tk_0 tk_1 tk_2 tk_3) [1, 2] (W_X3_set cI cP (tr 0) (ta 0) 6 n0_) = W_X5_addMan cI cP t tr ta ti_4 ti_5 ti_6 ti_7 ti_8 ti_9 ti_10 n0_ tk_1 tk_2 tk_3 := rfl
theorem W_X5_addMan_o1 {cI cP : ClassId} {t : Nat} {tr : Nat → Nat} {ta : Nat → Nat} {ti_4 : Int32} {ti_5 : Int32} {ti_6 : Int32} {ti_7 : Int32} {ti_8 : Int32} {ti_9 : Int32} {ti_10 : Int32} {tk_0 : Nat → Int32} {tk_1 : Nat → Int32} {tk_2 : Nat → Int32} {tk_3 : Nat → Int32} : (W_X5_addMan cI cP t tr ta ti_4 ti_5 ti_6 ti_7 ti_8 ti_9 ti_10 tk_0 tk_1 tk_2 tk_3)[1]? = some ((tr 0), .inr (3, [.ref (ta 0)])) := rfl
theorem W_X5_addMan_p0_4 {cI cP : ClassId} {t : Nat} {tr : Nat → Nat} {ta : Nat → Nat} {ti_4 : Int32} {ti_5 : Int32} {ti_6 : Int32} {ti_7 : Int32} {ti_8 : Int32} {ti_9 : Int32} {ti_10 : Int32} {tk_0 : Nat → Int32} {tk_1 : Nat → Int32} {tk_2 : Nat → Int32} {tk_3 : Nat → Int32} {v9 : Int32} : (W_X5_addMan cI cP t tr ta ti_4 ti_5 ti_6 ti_7 ti_8 ti_9 ti_10 tk_0 tk_1 tk_2 tk_3).set 0 (t, .inr (5, [.ref (tr 0), .ref (tr 1), .ref (tr 2), .ref (tr 3), .int ti_4, .int ti_5, .int ti_6, .int ti_7, .int ti_8, .int ti_9, .int ti_10].set 4 (.int v9))) = W_X5_addMan cI cP t tr ta v9 ti_5 ti_6 ti_7 ti_8 ti_9 ti_10 tk_0 tk_1 tk_2 tk_3 := rfl
set_option maxHeartbeats 4000000 in
set_option maxRecDepth 100000 in
theorem c_X5_addMan (l : Launch) (D : va_G) (cI cP : ClassId) (sz : Nat) (t : Nat) (tr : Nat → Nat) (ta : Nat → Nat) (ti_4 : Int32) (ti_5 : Int32) (ti_6 : Int32) (ti_7 : Int32) (ti_8 : Int32) (ti_9 : Int32) (ti_10 : Int32) (tk_0 : Nat → Int32) (tk_1 : Nat → Int32) (tk_2 : Nat → Int32) (tk_3 : Nat → Int32) (a1 : Int32) (hne : fX5_addMan ti_4 tk_0 a1 ≠ none) : xMi l yX5_addMan wsX5_addMan ({ frames := 1, cells := 0, slots := 0, locals := 22 } : Room) D (xT cI cP) [.ref t, .int a1] (W_X5_addMan cI cP t tr ta ti_4 ti_5 ti_6 ti_7 ti_8 ti_9 ti_10 tk_0 tk_1 tk_2 tk_3) sz (fun r (u : (Int32 × (Nat → Int32))) => fX5_addMan ti_4 tk_0 a1 = some (r, u)) (fun u => W_X5_addMan cI cP t tr ta u.1 ti_5 ti_6 ti_7 ti_8 ti_9 ti_10 u.2 tk_1 tk_2 tk_3) 0 0 := by
  refine xMz_of (cc := cX5_addMan) (maxL := 2) (by decide +kernel) rfl (Nat.le_of_ble_eq_true rfl) ?_
  intro p e s m args below meth c A ls hx hb hml hown hts hname hN hK hA hP hD hS hl Q hret
  have he := fX5_addMan.eq_1 ti_4 tk_0 a1
  have hl : lv_has ls 2 [(0, .ref t), (1, .int a1)] := hl
  refine lv_aload_n hx hb dX5_addMan_0 rfl (lv_at hl 0 rfl) ?_
  refine va_get (D := D) (ci := 5) (v := .int ti_4) (C := RX5) (T := TX5) (N := 11) hx hb hts hi_X5_addMan_5 hown hK hP 0 W_X5_addMan_o0 rfl 4 (by decide) (hts (.fieldLink RX5 43 "BlindLanterns$Told" "men" "I") (List.mem_of_getElem? (i := 1) rfl)) (fun _ h9 => h9) rfl dX5_addMan_1 ?_
  refine lv_bipush (v := 6) hx hb dX5_addMan_4 (by decide) ?_
  refine lv_icmp_ge (tgt := 18) hx hb dX5_addMan_6 (by decide) (fun c1 => ?_) (fun c1 => ?_)
  · replace he := he.trans (if_pos c1)
    refine lv_iconst (v := 0) hx hb dX5_addMan_18 (by decide) ?_
    exact hret (0 : Int32) (ti_4, tk_0) _ _ _ _ dX5_addMan_19 (Or.inl rfl) he hP hD hS
  · replace he := he.trans (if_neg c1)
    refine lv_iload_n hx hb dX5_addMan_9 rfl (lv_at hl 1 rfl) ?_
    refine lv_if_lt (tgt := 18) hx hb dX5_addMan_10 (by decide) (fun c2 => ?_) (fun c2 => ?_)
    · replace he := he.trans (if_pos c2)
      refine lv_iconst (v := 0) hx hb dX5_addMan_18 (by decide) ?_
      exact hret (0 : Int32) (ti_4, tk_0) _ _ _ _ dX5_addMan_19 (Or.inl rfl) he hP hD hS
    · replace he := he.trans (if_neg c2)
      refine lv_iload_n hx hb dX5_addMan_13 rfl (lv_at hl 1 rfl) ?_
      refine lv_iconst (v := 2) hx hb dX5_addMan_14 (by decide) ?_
      refine lv_icmp_le (tgt := 20) hx hb dX5_addMan_15 (by decide) (fun c3 => ?_) (fun c3 => ?_)
      · replace he := he.trans (if_pos c3)
        refine lv_aload_n hx hb dX5_addMan_20 rfl (lv_at hl 0 rfl) ?_
        refine va_get (D := D) (ci := 5) (v := .ref (tr 0)) (C := RX5) (T := TX5) (N := 11) hx hb hts hi_X5_addMan_5 hown hK hP 0 W_X5_addMan_o0 rfl 0 (by decide) (hts (.fieldLink RX5 14 "BlindLanterns$Told" "kinds" "LBlindLanterns$Row;") (List.mem_of_getElem? (i := 2) rfl)) (fun _ h9 => h9) rfl dX5_addMan_21 ?_
        refine lv_aload_n hx hb dX5_addMan_24 rfl (lv_at hl 0 rfl) ?_
        refine va_get (D := D) (ci := 5) (v := .int ti_4) (C := RX5) (T := TX5) (N := 11) hx hb hts hi_X5_addMan_5 hown hK hP 0 W_X5_addMan_o0 rfl 4 (by decide) (hts (.fieldLink RX5 43 "BlindLanterns$Told" "men" "I") (List.mem_of_getElem? (i := 1) rfl)) (fun _ h9 => h9) rfl dX5_addMan_25 ?_
        refine lv_iload_n hx hb dX5_addMan_28 rfl (lv_at hl 1 rfl) ?_
        have n4_ : fX3_set tk_0 ti_4 a1 6 ≠ none := fun z => hne (he.trans (xbd_none z))
        refine xcv (va_runV (As := [.int ti_4, .int a1]) (rest := []) ⟨hx, hb, hml, hown, hts⟩ (c_X3_set l D cI cP s.heap.size (tr 0) (ta 0) 6 tk_0 ti_4 a1 n4_) (cwV 2 hts gX5_addMan_X3_set rfl rfl rfl (by decide +kernel) ⟨Nat.le_of_ble_eq_true rfl, Nat.le_of_ble_eq_true rfl⟩) (xPV hN hK hP hD [1, 2] W_X5_addMan_c_X3_set_1_2 (by decide) (ci := 3) (j := 1) rfl W_X5_addMan_o1) rfl rfl hl.1 rfl (lv_room (Nat.le_of_ble_eq_true rfl)) dX5_addMan_29 ⟨Nat.le_of_ble_eq_true rfl, Nat.le_of_ble_eq_true rfl⟩) hP hD hS hA [1, 2] W_X5_addMan_c_X3_set_1_2 (fun _ => rfl) (fun u29 H locs hw hP hD hS => ?_)
        rw [W_X5_addMan_x_X3_set_1_2] at hP hD
        replace he := he.trans (xbd_some hw)
        refine lv_aload_n hx hb dX5_addMan_32 rfl (lv_at hl 0 rfl) ?_
        refine lv_dup hx hb dX5_addMan_33 rfl ?_
        refine va_get (D := D) (ci := 5) (v := .int ti_4) (C := RX5) (T := TX5) (N := 11) hx hb hts hi_X5_addMan_5 hown hK hP 0 W_X5_addMan_o0 rfl 4 (by decide) (hts (.fieldLink RX5 43 "BlindLanterns$Told" "men" "I") (List.mem_of_getElem? (i := 1) rfl)) (fun _ h9 => h9) rfl dX5_addMan_34 ?_
        refine lv_iconst (v := 1) hx hb dX5_addMan_37 (by decide) ?_
        refine lv_iadd hx hb dX5_addMan_38 ?_
        refine va_put (D := D) (ci := 5) (v := .int (ti_4 + (1 : Int32))) (ty := .int) (C := RX5) (T := TX5) (N := 11) hx hb hts hi_X5_addMan_5 tyX5 tyX5_ok nmX5 hown hK hP hD hS 0 W_X5_addMan_o0 rfl 4 (by decide) (hts (.fieldLink RX5 43 "BlindLanterns$Told" "men" "I") (List.mem_of_getElem? (i := 1) rfl)) (fun _ h9 => h9) rfl (by decide +kernel) rfl rfl (Nat.le_of_ble_eq_true rfl) dX5_addMan_39 (fun H locs hP hD hS => ?_)
        rw [W_X5_addMan_p0_4] at hP hD
        refine lv_iconst (v := 1) hx hb dX5_addMan_42 (by decide) ?_
        exact hret (1 : Int32) ((ti_4 + (1 : Int32)), u29) _ _ _ _ dX5_addMan_43 (Or.inr rfl) he hP hD hS
      · replace he := he.trans (if_neg c3)
        refine lv_iconst (v := 0) hx hb dX5_addMan_18 (by decide) ?_
        exact hret (0 : Int32) (ti_4, tk_0) _ _ _ _ dX5_addMan_19 (Or.inl rfl) he hP hD hS

def fX5_tellOil (ti_4 : Int32) (ti_5 : Int32) (ti_6 : Int32) (tk_1 : Nat → Int32) (a1 : Int32) (a2 : Int32) (a3 : Int32) : Option (Int32 × Int32 × Int32 × (Nat → Int32)) :=
  if a1 < 0 then (some ((0 : Int32), (ti_5, ti_6, tk_1))) else (if ti_4 ≤ a1 then (some ((0 : Int32), (ti_5, ti_6, tk_1))) else (if a2 < 0 then (some ((0 : Int32), (ti_5, ti_6, tk_1))) else (if (40 : Int32) < a2 then (some ((0 : Int32), (ti_5, ti_6, tk_1))) else (if a3 < 0 then (some ((0 : Int32), (ti_5, ti_6, tk_1))) else (if (1 : Int32) < a3 then (some ((0 : Int32), (ti_5, ti_6, tk_1))) else (if a3 ≤ a2 then (xbd (fX3_set tk_1 a1 a2 6) (fun (u49 : (Nat → Int32)) => if a3 = (1 : Int32) then (some ((1 : Int32), ((ti_5 ||| ((1 : Int32) <<< (a1 &&& 31))), (ti_6 &&& (((1 : Int32) <<< (a1 &&& 31)) ^^^ (-1 : Int32))), u49))) else (some ((1 : Int32), ((ti_5 &&& (((1 : Int32) <<< (a1 &&& 31)) ^^^ (-1 : Int32))), (ti_6 &&& (((1 : Int32) <<< (a1 &&& 31)) ^^^ (-1 : Int32))), u49))))) else (some ((0 : Int32), (ti_5, ti_6, tk_1)))))))))
theorem hi_X5_tellOil_5 : ∀ w ∈ wsX50, w ∈ wsX5_tellOil := fun _ h => (List.mem_cons_of_mem _ (List.mem_append_left _ (List.mem_append_right _ h)))
def W_X5_tellOil (cI cP : ClassId) (t : Nat) (tr : Nat → Nat) (ta : Nat → Nat) (ti_4 : Int32) (ti_5 : Int32) (ti_6 : Int32) (ti_7 : Int32) (ti_8 : Int32) (ti_9 : Int32) (ti_10 : Int32) (tk_0 : Nat → Int32) (tk_1 : Nat → Int32) (tk_2 : Nat → Int32) (tk_3 : Nat → Int32) : va_W := (wTold cI t tr ta ti_4 ti_5 ti_6 ti_7 ti_8 ti_9 ti_10 tk_0 tk_1 tk_2 tk_3)
theorem W_X5_tellOil_o0 {cI cP : ClassId} {t : Nat} {tr : Nat → Nat} {ta : Nat → Nat} {ti_4 : Int32} {ti_5 : Int32} {ti_6 : Int32} {ti_7 : Int32} {ti_8 : Int32} {ti_9 : Int32} {ti_10 : Int32} {tk_0 : Nat → Int32} {tk_1 : Nat → Int32} {tk_2 : Nat → Int32} {tk_3 : Nat → Int32} : (W_X5_tellOil cI cP t tr ta ti_4 ti_5 ti_6 ti_7 ti_8 ti_9 ti_10 tk_0 tk_1 tk_2 tk_3)[0]? = some (t, .inr (5, [.ref (tr 0), .ref (tr 1), .ref (tr 2), .ref (tr 3), .int ti_4, .int ti_5, .int ti_6, .int ti_7, .int ti_8, .int ti_9, .int ti_10])) := rfl
theorem W_X5_tellOil_c_X3_set_3_4 {cI cP : ClassId} {t : Nat} {tr : Nat → Nat} {ta : Nat → Nat} {ti_4 : Int32} {ti_5 : Int32} {ti_6 : Int32} {ti_7 : Int32} {ti_8 : Int32} {ti_9 : Int32} {ti_10 : Int32} {tk_0 : Nat → Int32} {tk_1 : Nat → Int32} {tk_2 : Nat → Int32} {tk_3 : Nat → Int32} : ([3, 4] : List Nat).map (fun i => (W_X5_tellOil cI cP t tr ta ti_4 ti_5 ti_6 ti_7 ti_8 ti_9 ti_10 tk_0 tk_1 tk_2 tk_3)[i]?) = (W_X3_set cI cP (tr 1) (ta 1) 6 tk_1).map some := rfl
theorem W_X5_tellOil_x_X3_set_3_4 {cI cP : ClassId} {t : Nat} {tr : Nat → Nat} {ta : Nat → Nat} {ti_4 : Int32} {ti_5 : Int32} {ti_6 : Int32} {ti_7 : Int32} {ti_8 : Int32} {ti_9 : Int32} {ti_10 : Int32} {tk_0 : Nat → Int32} {tk_1 : Nat → Int32} {tk_2 : Nat → Int32} {tk_3 : Nat → Int32} {n0_ : Nat → Int32} : xset (W_X5_tellOil cI cP t tr ta ti_4 ti_5 ti_6 ti_7 ti_8 ti_9 ti_10 tk_0 tk_1 tk_2 tk_3) [3, 4] (W_X3_set cI cP (tr 1) (ta 1) 6 n0_) = W_X5_tellOil cI cP t tr ta ti_4 ti_5 ti_6 ti_7 ti_8 ti_9 ti_10 tk_0 n0_ tk_2 tk_3 := rfl
theorem W_X5_tellOil_o3 {cI cP : ClassId} {t : Nat} {tr : Nat → Nat} {ta : Nat → Nat} {ti_4 : Int32} {ti_5 : Int32} {ti_6 : Int32} {ti_7 : Int32} {ti_8 : Int32} {ti_9 : Int32} {ti_10 : Int32} {tk_0 : Nat → Int32} {tk_1 : Nat → Int32} {tk_2 : Nat → Int32} {tk_3 : Nat → Int32} : (W_X5_tellOil cI cP t tr ta ti_4 ti_5 ti_6 ti_7 ti_8 ti_9 ti_10 tk_0 tk_1 tk_2 tk_3)[3]? = some ((tr 1), .inr (3, [.ref (ta 1)])) := rfl
theorem W_X5_tellOil_p0_5 {cI cP : ClassId} {t : Nat} {tr : Nat → Nat} {ta : Nat → Nat} {ti_4 : Int32} {ti_5 : Int32} {ti_6 : Int32} {ti_7 : Int32} {ti_8 : Int32} {ti_9 : Int32} {ti_10 : Int32} {tk_0 : Nat → Int32} {tk_1 : Nat → Int32} {tk_2 : Nat → Int32} {tk_3 : Nat → Int32} {v9 : Int32} : (W_X5_tellOil cI cP t tr ta ti_4 ti_5 ti_6 ti_7 ti_8 ti_9 ti_10 tk_0 tk_1 tk_2 tk_3).set 0 (t, .inr (5, [.ref (tr 0), .ref (tr 1), .ref (tr 2), .ref (tr 3), .int ti_4, .int ti_5, .int ti_6, .int ti_7, .int ti_8, .int ti_9, .int ti_10].set 5 (.int v9))) = W_X5_tellOil cI cP t tr ta ti_4 v9 ti_6 ti_7 ti_8 ti_9 ti_10 tk_0 tk_1 tk_2 tk_3 := rfl
theorem W_X5_tellOil_p0_6 {cI cP : ClassId} {t : Nat} {tr : Nat → Nat} {ta : Nat → Nat} {ti_4 : Int32} {ti_5 : Int32} {ti_6 : Int32} {ti_7 : Int32} {ti_8 : Int32} {ti_9 : Int32} {ti_10 : Int32} {tk_0 : Nat → Int32} {tk_1 : Nat → Int32} {tk_2 : Nat → Int32} {tk_3 : Nat → Int32} {v9 : Int32} : (W_X5_tellOil cI cP t tr ta ti_4 ti_5 ti_6 ti_7 ti_8 ti_9 ti_10 tk_0 tk_1 tk_2 tk_3).set 0 (t, .inr (5, [.ref (tr 0), .ref (tr 1), .ref (tr 2), .ref (tr 3), .int ti_4, .int ti_5, .int ti_6, .int ti_7, .int ti_8, .int ti_9, .int ti_10].set 6 (.int v9))) = W_X5_tellOil cI cP t tr ta ti_4 ti_5 v9 ti_7 ti_8 ti_9 ti_10 tk_0 tk_1 tk_2 tk_3 := rfl
set_option maxHeartbeats 4000000 in
set_option maxRecDepth 100000 in
theorem c_X5_tellOil (l : Launch) (D : va_G) (cI cP : ClassId) (sz : Nat) (t : Nat) (tr : Nat → Nat) (ta : Nat → Nat) (ti_4 : Int32) (ti_5 : Int32) (ti_6 : Int32) (ti_7 : Int32) (ti_8 : Int32) (ti_9 : Int32) (ti_10 : Int32) (tk_0 : Nat → Int32) (tk_1 : Nat → Int32) (tk_2 : Nat → Int32) (tk_3 : Nat → Int32) (a1 : Int32) (a2 : Int32) (a3 : Int32) (hne : fX5_tellOil ti_4 ti_5 ti_6 tk_1 a1 a2 a3 ≠ none) : xMi l yX5_tellOil wsX5_tellOil ({ frames := 1, cells := 0, slots := 0, locals := 22 } : Room) D (xT cI cP) [.ref t, .int a1, .int a2, .int a3] (W_X5_tellOil cI cP t tr ta ti_4 ti_5 ti_6 ti_7 ti_8 ti_9 ti_10 tk_0 tk_1 tk_2 tk_3) sz (fun r (u : (Int32 × Int32 × (Nat → Int32))) => fX5_tellOil ti_4 ti_5 ti_6 tk_1 a1 a2 a3 = some (r, u)) (fun u => W_X5_tellOil cI cP t tr ta ti_4 u.1 u.2.1 ti_7 ti_8 ti_9 ti_10 tk_0 u.2.2 tk_2 tk_3) 0 0 := by
  refine xMz_of (cc := cX5_tellOil) (maxL := 5) (by decide +kernel) rfl (Nat.le_of_ble_eq_true rfl) ?_
  intro p e s m args below meth c A ls hx hb hml hown hts hname hN hK hA hP hD hS hl Q hret
  have he := fX5_tellOil.eq_1 ti_4 ti_5 ti_6 tk_1 a1 a2 a3
  have hl : lv_has ls 5 [(0, .ref t), (1, .int a1), (2, .int a2), (3, .int a3)] := hl
  refine lv_iload_n hx hb dX5_tellOil_0 rfl (lv_at hl 1 rfl) ?_
  refine lv_if_lt (tgt := 36) hx hb dX5_tellOil_1 (by decide) (fun c1 => ?_) (fun c1 => ?_)
  · replace he := he.trans (if_pos c1)
    refine lv_iconst (v := 0) hx hb dX5_tellOil_36 (by decide) ?_
    exact hret (0 : Int32) (ti_5, ti_6, tk_1) _ _ _ _ dX5_tellOil_37 (Or.inl rfl) he hP hD hS
  · replace he := he.trans (if_neg c1)
    refine lv_iload_n hx hb dX5_tellOil_4 rfl (lv_at hl 1 rfl) ?_
    refine lv_aload_n hx hb dX5_tellOil_5 rfl (lv_at hl 0 rfl) ?_
    refine va_get (D := D) (ci := 5) (v := .int ti_4) (C := RX5) (T := TX5) (N := 11) hx hb hts hi_X5_tellOil_5 hown hK hP 0 W_X5_tellOil_o0 rfl 4 (by decide) (hts (.fieldLink RX5 43 "BlindLanterns$Told" "men" "I") (List.mem_of_getElem? (i := 1) rfl)) (fun _ h9 => h9) rfl dX5_tellOil_6 ?_
    refine lv_icmp_ge (tgt := 36) hx hb dX5_tellOil_9 (by decide) (fun c2 => ?_) (fun c2 => ?_)
    · replace he := he.trans (if_pos c2)
      refine lv_iconst (v := 0) hx hb dX5_tellOil_36 (by decide) ?_
      exact hret (0 : Int32) (ti_5, ti_6, tk_1) _ _ _ _ dX5_tellOil_37 (Or.inl rfl) he hP hD hS
    · replace he := he.trans (if_neg c2)
      refine lv_iload_n hx hb dX5_tellOil_12 rfl (lv_at hl 2 rfl) ?_
      refine lv_if_lt (tgt := 36) hx hb dX5_tellOil_13 (by decide) (fun c3 => ?_) (fun c3 => ?_)
      · replace he := he.trans (if_pos c3)
        refine lv_iconst (v := 0) hx hb dX5_tellOil_36 (by decide) ?_
        exact hret (0 : Int32) (ti_5, ti_6, tk_1) _ _ _ _ dX5_tellOil_37 (Or.inl rfl) he hP hD hS
      · replace he := he.trans (if_neg c3)
        refine lv_iload_n hx hb dX5_tellOil_16 rfl (lv_at hl 2 rfl) ?_
        refine lv_bipush (v := 40) hx hb dX5_tellOil_17 (by decide) ?_
        refine lv_icmp_gt (tgt := 36) hx hb dX5_tellOil_19 (by decide) (fun c4 => ?_) (fun c4 => ?_)
        · replace he := he.trans (if_pos c4)
          refine lv_iconst (v := 0) hx hb dX5_tellOil_36 (by decide) ?_
          exact hret (0 : Int32) (ti_5, ti_6, tk_1) _ _ _ _ dX5_tellOil_37 (Or.inl rfl) he hP hD hS
        · replace he := he.trans (if_neg c4)
          refine lv_iload_n hx hb dX5_tellOil_22 rfl (lv_at hl 3 rfl) ?_
          refine lv_if_lt (tgt := 36) hx hb dX5_tellOil_23 (by decide) (fun c5 => ?_) (fun c5 => ?_)
          · replace he := he.trans (if_pos c5)
            refine lv_iconst (v := 0) hx hb dX5_tellOil_36 (by decide) ?_
            exact hret (0 : Int32) (ti_5, ti_6, tk_1) _ _ _ _ dX5_tellOil_37 (Or.inl rfl) he hP hD hS
          · replace he := he.trans (if_neg c5)
            refine lv_iload_n hx hb dX5_tellOil_26 rfl (lv_at hl 3 rfl) ?_
            refine lv_iconst (v := 1) hx hb dX5_tellOil_27 (by decide) ?_
            refine lv_icmp_gt (tgt := 36) hx hb dX5_tellOil_28 (by decide) (fun c6 => ?_) (fun c6 => ?_)
            · replace he := he.trans (if_pos c6)
              refine lv_iconst (v := 0) hx hb dX5_tellOil_36 (by decide) ?_
              exact hret (0 : Int32) (ti_5, ti_6, tk_1) _ _ _ _ dX5_tellOil_37 (Or.inl rfl) he hP hD hS
            · replace he := he.trans (if_neg c6)
              refine lv_iload_n hx hb dX5_tellOil_31 rfl (lv_at hl 3 rfl) ?_
              refine lv_iload_n hx hb dX5_tellOil_32 rfl (lv_at hl 2 rfl) ?_
              refine lv_icmp_le (tgt := 38) hx hb dX5_tellOil_33 (by decide) (fun c7 => ?_) (fun c7 => ?_)
              · replace he := he.trans (if_pos c7)
                refine lv_iconst (v := 1) hx hb dX5_tellOil_38 (by decide) ?_
                refine lv_iload_n hx hb dX5_tellOil_39 rfl (lv_at hl 1 rfl) ?_
                refine lv_ishl hx hb dX5_tellOil_40 ?_
                refine lv_istore (lv' := [(4, .int ((1 : Int32) <<< (a1 &&& 31))), (0, .ref t), (1, .int a1), (2, .int a2), (3, .int a3)]) hx hb dX5_tellOil_41 hl (by decide) rfl (fun ls hl => ?_)
                refine lv_aload_n hx hb dX5_tellOil_43 rfl (lv_at hl 1 rfl) ?_
                refine va_get (D := D) (ci := 5) (v := .ref (tr 1)) (C := RX5) (T := TX5) (N := 11) hx hb hts hi_X5_tellOil_5 hown hK hP 0 W_X5_tellOil_o0 rfl 1 (by decide) (hts (.fieldLink RX5 20 "BlindLanterns$Told" "oilAtFirst" "LBlindLanterns$Row;") (List.mem_of_getElem? (i := 2) rfl)) (fun _ h9 => h9) rfl dX5_tellOil_44 ?_
                refine lv_iload_n hx hb dX5_tellOil_47 rfl (lv_at hl 2 rfl) ?_
                refine lv_iload_n hx hb dX5_tellOil_48 rfl (lv_at hl 3 rfl) ?_
                have n8_ : fX3_set tk_1 a1 a2 6 ≠ none := fun z => hne (he.trans (xbd_none z))
                refine xcv (va_runV (As := [.int a1, .int a2]) (rest := []) ⟨hx, hb, hml, hown, hts⟩ (c_X3_set l D cI cP s.heap.size (tr 1) (ta 1) 6 tk_1 a1 a2 n8_) (cwV 2 hts gX5_tellOil_X3_set rfl rfl rfl (by decide +kernel) ⟨Nat.le_of_ble_eq_true rfl, Nat.le_of_ble_eq_true rfl⟩) (xPV hN hK hP hD [3, 4] W_X5_tellOil_c_X3_set_3_4 (by decide) (ci := 3) (j := 3) rfl W_X5_tellOil_o3) rfl rfl hl.1 rfl (lv_room (Nat.le_of_ble_eq_true rfl)) dX5_tellOil_49 ⟨Nat.le_of_ble_eq_true rfl, Nat.le_of_ble_eq_true rfl⟩) hP hD hS hA [3, 4] W_X5_tellOil_c_X3_set_3_4 (fun _ => rfl) (fun u49 H locs hw hP hD hS => ?_)
                rw [W_X5_tellOil_x_X3_set_3_4] at hP hD
                replace he := he.trans (xbd_some hw)
                refine lv_aload_n hx hb dX5_tellOil_52 rfl (lv_at hl 1 rfl) ?_
                refine lv_iload_n hx hb dX5_tellOil_53 rfl (lv_at hl 4 rfl) ?_
                refine lv_iconst (v := 1) hx hb dX5_tellOil_54 (by decide) ?_
                refine lv_icmp_ne (tgt := 68) hx hb dX5_tellOil_55 (by decide) (fun c9 => ?_) (fun c9 => ?_)
                · replace he := he.trans (if_neg c9)
                  refine lv_aload_n hx hb dX5_tellOil_68 rfl (lv_at hl 1 rfl) ?_
                  refine va_get (D := D) (ci := 5) (v := .int ti_5) (C := RX5) (T := TX5) (N := 11) hx hb hts hi_X5_tellOil_5 hown hK hP 0 W_X5_tellOil_o0 rfl 5 (by decide) (hts (.fieldLink RX5 46 "BlindLanterns$Told" "lit" "I") (List.mem_of_getElem? (i := 3) rfl)) (fun _ h9 => h9) rfl dX5_tellOil_69 ?_
                  refine lv_iload hx hb dX5_tellOil_72 (lv_at hl 0 rfl) ?_
                  refine lv_iconst (v := -1) hx hb dX5_tellOil_74 (by decide) ?_
                  refine lv_ixor hx hb dX5_tellOil_75 ?_
                  refine lv_iand hx hb dX5_tellOil_76 ?_
                  refine va_put (D := D) (ci := 5) (v := .int (ti_5 &&& (((1 : Int32) <<< (a1 &&& 31)) ^^^ (-1 : Int32)))) (ty := .int) (C := RX5) (T := TX5) (N := 11) hx hb hts hi_X5_tellOil_5 tyX5 tyX5_ok nmX5 hown hK hP hD hS 0 W_X5_tellOil_o0 rfl 5 (by decide) (hts (.fieldLink RX5 46 "BlindLanterns$Told" "lit" "I") (List.mem_of_getElem? (i := 3) rfl)) (fun _ h9 => h9) rfl (by decide +kernel) rfl rfl (Nat.le_of_ble_eq_true rfl) dX5_tellOil_77 (fun H locs hP hD hS => ?_)
                  rw [W_X5_tellOil_p0_5] at hP hD
                  refine lv_aload_n hx hb dX5_tellOil_80 rfl (lv_at hl 1 rfl) ?_
                  refine lv_dup hx hb dX5_tellOil_81 rfl ?_
                  refine va_get (D := D) (ci := 5) (v := .int ti_6) (C := RX5) (T := TX5) (N := 11) hx hb hts hi_X5_tellOil_5 hown hK hP 0 W_X5_tellOil_o0 rfl 6 (by decide) (hts (.fieldLink RX5 49 "BlindLanterns$Told" "cheeses" "I") (List.mem_of_getElem? (i := 4) rfl)) (fun _ h9 => h9) rfl dX5_tellOil_82 ?_
                  refine lv_iload hx hb dX5_tellOil_85 (lv_at hl 0 rfl) ?_
                  refine lv_iconst (v := -1) hx hb dX5_tellOil_87 (by decide) ?_
                  refine lv_ixor hx hb dX5_tellOil_88 ?_
                  refine lv_iand hx hb dX5_tellOil_89 ?_
                  refine va_put (D := D) (ci := 5) (v := .int (ti_6 &&& (((1 : Int32) <<< (a1 &&& 31)) ^^^ (-1 : Int32)))) (ty := .int) (C := RX5) (T := TX5) (N := 11) hx hb hts hi_X5_tellOil_5 tyX5 tyX5_ok nmX5 hown hK hP hD hS 0 W_X5_tellOil_o0 rfl 6 (by decide) (hts (.fieldLink RX5 49 "BlindLanterns$Told" "cheeses" "I") (List.mem_of_getElem? (i := 4) rfl)) (fun _ h9 => h9) rfl (by decide +kernel) rfl rfl (Nat.le_of_ble_eq_true rfl) dX5_tellOil_90 (fun H locs hP hD hS => ?_)
                  rw [W_X5_tellOil_p0_6] at hP hD
                  refine lv_iconst (v := 1) hx hb dX5_tellOil_93 (by decide) ?_
                  exact hret (1 : Int32) ((ti_5 &&& (((1 : Int32) <<< (a1 &&& 31)) ^^^ (-1 : Int32))), (ti_6 &&& (((1 : Int32) <<< (a1 &&& 31)) ^^^ (-1 : Int32))), u49) _ _ _ _ dX5_tellOil_94 (Or.inr rfl) he hP hD hS
                · replace he := he.trans (if_pos c9)
                  refine lv_aload_n hx hb dX5_tellOil_58 rfl (lv_at hl 1 rfl) ?_
                  refine va_get (D := D) (ci := 5) (v := .int ti_5) (C := RX5) (T := TX5) (N := 11) hx hb hts hi_X5_tellOil_5 hown hK hP 0 W_X5_tellOil_o0 rfl 5 (by decide) (hts (.fieldLink RX5 46 "BlindLanterns$Told" "lit" "I") (List.mem_of_getElem? (i := 3) rfl)) (fun _ h9 => h9) rfl dX5_tellOil_59 ?_
                  refine lv_iload hx hb dX5_tellOil_62 (lv_at hl 0 rfl) ?_
                  refine lv_ior hx hb dX5_tellOil_64 ?_
                  refine lv_goto (tgt := 77) hx hb dX5_tellOil_65 (by decide) ?_
                  refine va_put (D := D) (ci := 5) (v := .int (ti_5 ||| ((1 : Int32) <<< (a1 &&& 31)))) (ty := .int) (C := RX5) (T := TX5) (N := 11) hx hb hts hi_X5_tellOil_5 tyX5 tyX5_ok nmX5 hown hK hP hD hS 0 W_X5_tellOil_o0 rfl 5 (by decide) (hts (.fieldLink RX5 46 "BlindLanterns$Told" "lit" "I") (List.mem_of_getElem? (i := 3) rfl)) (fun _ h9 => h9) rfl (by decide +kernel) rfl rfl (Nat.le_of_ble_eq_true rfl) dX5_tellOil_77 (fun H locs hP hD hS => ?_)
                  rw [W_X5_tellOil_p0_5] at hP hD
                  refine lv_aload_n hx hb dX5_tellOil_80 rfl (lv_at hl 1 rfl) ?_
                  refine lv_dup hx hb dX5_tellOil_81 rfl ?_
                  refine va_get (D := D) (ci := 5) (v := .int ti_6) (C := RX5) (T := TX5) (N := 11) hx hb hts hi_X5_tellOil_5 hown hK hP 0 W_X5_tellOil_o0 rfl 6 (by decide) (hts (.fieldLink RX5 49 "BlindLanterns$Told" "cheeses" "I") (List.mem_of_getElem? (i := 4) rfl)) (fun _ h9 => h9) rfl dX5_tellOil_82 ?_
                  refine lv_iload hx hb dX5_tellOil_85 (lv_at hl 0 rfl) ?_
                  refine lv_iconst (v := -1) hx hb dX5_tellOil_87 (by decide) ?_
                  refine lv_ixor hx hb dX5_tellOil_88 ?_
                  refine lv_iand hx hb dX5_tellOil_89 ?_
                  refine va_put (D := D) (ci := 5) (v := .int (ti_6 &&& (((1 : Int32) <<< (a1 &&& 31)) ^^^ (-1 : Int32)))) (ty := .int) (C := RX5) (T := TX5) (N := 11) hx hb hts hi_X5_tellOil_5 tyX5 tyX5_ok nmX5 hown hK hP hD hS 0 W_X5_tellOil_o0 rfl 6 (by decide) (hts (.fieldLink RX5 49 "BlindLanterns$Told" "cheeses" "I") (List.mem_of_getElem? (i := 4) rfl)) (fun _ h9 => h9) rfl (by decide +kernel) rfl rfl (Nat.le_of_ble_eq_true rfl) dX5_tellOil_90 (fun H locs hP hD hS => ?_)
                  rw [W_X5_tellOil_p0_6] at hP hD
                  refine lv_iconst (v := 1) hx hb dX5_tellOil_93 (by decide) ?_
                  exact hret (1 : Int32) ((ti_5 ||| ((1 : Int32) <<< (a1 &&& 31))), (ti_6 &&& (((1 : Int32) <<< (a1 &&& 31)) ^^^ (-1 : Int32))), u49) _ _ _ _ dX5_tellOil_94 (Or.inr rfl) he hP hD hS
              · replace he := he.trans (if_neg c7)
                refine lv_iconst (v := 0) hx hb dX5_tellOil_36 (by decide) ?_
                exact hret (0 : Int32) (ti_5, ti_6, tk_1) _ _ _ _ dX5_tellOil_37 (Or.inl rfl) he hP hD hS

def fX5_tellCheese (ti_4 : Int32) (ti_5 : Int32) (ti_6 : Int32) (tk_1 : Nat → Int32) (a1 : Int32) : Option (Int32 × Int32 × Int32 × (Nat → Int32)) :=
  xbd2 (fX5_tellOil ti_4 ti_5 ti_6 tk_1 a1 (0 : Int32) (0 : Int32)) (fun (r4 : Int32) (u4 : Int32 × Int32 × (Nat → Int32)) => if r4 = 0 then (some ((0 : Int32), (u4.1, u4.2.1, u4.2.2))) else (some ((1 : Int32), (u4.1, (u4.2.1 ||| ((1 : Int32) <<< (a1 &&& 31))), u4.2.2))))
theorem hi_X5_tellCheese_5 : ∀ w ∈ wsX50, w ∈ wsX5_tellCheese := fun _ h => (List.mem_cons_of_mem _ (List.mem_append_left _ (List.mem_append_right _ h)))
def W_X5_tellCheese (cI cP : ClassId) (t : Nat) (tr : Nat → Nat) (ta : Nat → Nat) (ti_4 : Int32) (ti_5 : Int32) (ti_6 : Int32) (ti_7 : Int32) (ti_8 : Int32) (ti_9 : Int32) (ti_10 : Int32) (tk_0 : Nat → Int32) (tk_1 : Nat → Int32) (tk_2 : Nat → Int32) (tk_3 : Nat → Int32) : va_W := (wTold cI t tr ta ti_4 ti_5 ti_6 ti_7 ti_8 ti_9 ti_10 tk_0 tk_1 tk_2 tk_3)
theorem W_X5_tellCheese_c_X5_tellOil_0_1_2_3_4_5_6_7_8 {cI cP : ClassId} {t : Nat} {tr : Nat → Nat} {ta : Nat → Nat} {ti_4 : Int32} {ti_5 : Int32} {ti_6 : Int32} {ti_7 : Int32} {ti_8 : Int32} {ti_9 : Int32} {ti_10 : Int32} {tk_0 : Nat → Int32} {tk_1 : Nat → Int32} {tk_2 : Nat → Int32} {tk_3 : Nat → Int32} : ([0, 1, 2, 3, 4, 5, 6, 7, 8] : List Nat).map (fun i => (W_X5_tellCheese cI cP t tr ta ti_4 ti_5 ti_6 ti_7 ti_8 ti_9 ti_10 tk_0 tk_1 tk_2 tk_3)[i]?) = (W_X5_tellOil cI cP t tr ta ti_4 ti_5 ti_6 ti_7 ti_8 ti_9 ti_10 tk_0 tk_1 tk_2 tk_3).map some := rfl
theorem W_X5_tellCheese_x_X5_tellOil_0_1_2_3_4_5_6_7_8 {cI cP : ClassId} {t : Nat} {tr : Nat → Nat} {ta : Nat → Nat} {ti_4 : Int32} {ti_5 : Int32} {ti_6 : Int32} {ti_7 : Int32} {ti_8 : Int32} {ti_9 : Int32} {ti_10 : Int32} {tk_0 : Nat → Int32} {tk_1 : Nat → Int32} {tk_2 : Nat → Int32} {tk_3 : Nat → Int32} {n0_ : Int32} {n1_ : Int32} {n2_ : Nat → Int32} : xset (W_X5_tellCheese cI cP t tr ta ti_4 ti_5 ti_6 ti_7 ti_8 ti_9 ti_10 tk_0 tk_1 tk_2 tk_3) [0, 1, 2, 3, 4, 5, 6, 7, 8] (W_X5_tellOil cI cP t tr ta ti_4 n0_ n1_ ti_7 ti_8 ti_9 ti_10 tk_0 n2_ tk_2 tk_3) = W_X5_tellCheese cI cP t tr ta ti_4 n0_ n1_ ti_7 ti_8 ti_9 ti_10 tk_0 n2_ tk_2 tk_3 := rfl
theorem W_X5_tellCheese_o0 {cI cP : ClassId} {t : Nat} {tr : Nat → Nat} {ta : Nat → Nat} {ti_4 : Int32} {ti_5 : Int32} {ti_6 : Int32} {ti_7 : Int32} {ti_8 : Int32} {ti_9 : Int32} {ti_10 : Int32} {tk_0 : Nat → Int32} {tk_1 : Nat → Int32} {tk_2 : Nat → Int32} {tk_3 : Nat → Int32} : (W_X5_tellCheese cI cP t tr ta ti_4 ti_5 ti_6 ti_7 ti_8 ti_9 ti_10 tk_0 tk_1 tk_2 tk_3)[0]? = some (t, .inr (5, [.ref (tr 0), .ref (tr 1), .ref (tr 2), .ref (tr 3), .int ti_4, .int ti_5, .int ti_6, .int ti_7, .int ti_8, .int ti_9, .int ti_10])) := rfl
theorem W_X5_tellCheese_p0_6 {cI cP : ClassId} {t : Nat} {tr : Nat → Nat} {ta : Nat → Nat} {ti_4 : Int32} {ti_5 : Int32} {ti_6 : Int32} {ti_7 : Int32} {ti_8 : Int32} {ti_9 : Int32} {ti_10 : Int32} {tk_0 : Nat → Int32} {tk_1 : Nat → Int32} {tk_2 : Nat → Int32} {tk_3 : Nat → Int32} {v9 : Int32} : (W_X5_tellCheese cI cP t tr ta ti_4 ti_5 ti_6 ti_7 ti_8 ti_9 ti_10 tk_0 tk_1 tk_2 tk_3).set 0 (t, .inr (5, [.ref (tr 0), .ref (tr 1), .ref (tr 2), .ref (tr 3), .int ti_4, .int ti_5, .int ti_6, .int ti_7, .int ti_8, .int ti_9, .int ti_10].set 6 (.int v9))) = W_X5_tellCheese cI cP t tr ta ti_4 ti_5 v9 ti_7 ti_8 ti_9 ti_10 tk_0 tk_1 tk_2 tk_3 := rfl
set_option maxHeartbeats 4000000 in
set_option maxRecDepth 100000 in
theorem c_X5_tellCheese (l : Launch) (D : va_G) (cI cP : ClassId) (sz : Nat) (t : Nat) (tr : Nat → Nat) (ta : Nat → Nat) (ti_4 : Int32) (ti_5 : Int32) (ti_6 : Int32) (ti_7 : Int32) (ti_8 : Int32) (ti_9 : Int32) (ti_10 : Int32) (tk_0 : Nat → Int32) (tk_1 : Nat → Int32) (tk_2 : Nat → Int32) (tk_3 : Nat → Int32) (a1 : Int32) (hne : fX5_tellCheese ti_4 ti_5 ti_6 tk_1 a1 ≠ none) : xMi l yX5_tellCheese wsX5_tellCheese ({ frames := 2, cells := 0, slots := 0, locals := 46 } : Room) D (xT cI cP) [.ref t, .int a1] (W_X5_tellCheese cI cP t tr ta ti_4 ti_5 ti_6 ti_7 ti_8 ti_9 ti_10 tk_0 tk_1 tk_2 tk_3) sz (fun r (u : (Int32 × Int32 × (Nat → Int32))) => fX5_tellCheese ti_4 ti_5 ti_6 tk_1 a1 = some (r, u)) (fun u => W_X5_tellCheese cI cP t tr ta ti_4 u.1 u.2.1 ti_7 ti_8 ti_9 ti_10 tk_0 u.2.2 tk_2 tk_3) 0 0 := by
  refine xMz_of (cc := cX5_tellCheese) (maxL := 2) (by decide +kernel) rfl (Nat.le_of_ble_eq_true rfl) ?_
  intro p e s m args below meth c A ls hx hb hml hown hts hname hN hK hA hP hD hS hl Q hret
  have he := fX5_tellCheese.eq_1 ti_4 ti_5 ti_6 tk_1 a1
  have hl : lv_has ls 2 [(0, .ref t), (1, .int a1)] := hl
  refine lv_aload_n hx hb dX5_tellCheese_0 rfl (lv_at hl 0 rfl) ?_
  refine lv_iload_n hx hb dX5_tellCheese_1 rfl (lv_at hl 1 rfl) ?_
  refine lv_iconst (v := 0) hx hb dX5_tellCheese_2 (by decide) ?_
  refine lv_iconst (v := 0) hx hb dX5_tellCheese_3 (by decide) ?_
  have n1_ : fX5_tellOil ti_4 ti_5 ti_6 tk_1 a1 (0 : Int32) (0 : Int32) ≠ none := fun z => hne (he.trans (xbd2_none z))
  refine xci (va_runV (As := [.int a1, .int (0 : Int32), .int (0 : Int32)]) (rest := []) ⟨hx, hb, hml, hown, hts⟩ (c_X5_tellOil l D cI cP s.heap.size t tr ta ti_4 ti_5 ti_6 ti_7 ti_8 ti_9 ti_10 tk_0 tk_1 tk_2 tk_3 a1 (0 : Int32) (0 : Int32) n1_) (cwV 3 hts gX5_tellCheese_X5_tellOil rfl rfl rfl (by decide +kernel) ⟨Nat.le_of_ble_eq_true rfl, Nat.le_of_ble_eq_true rfl⟩) (xPV hN hK hP hD [0, 1, 2, 3, 4, 5, 6, 7, 8] W_X5_tellCheese_c_X5_tellOil_0_1_2_3_4_5_6_7_8 (by decide) (ci := 5) (j := 0) rfl W_X5_tellCheese_o0) rfl rfl hl.1 rfl (lv_room (Nat.le_of_ble_eq_true rfl)) dX5_tellCheese_4 ⟨Nat.le_of_ble_eq_true rfl, Nat.le_of_ble_eq_true rfl⟩) hP hD hS hA [0, 1, 2, 3, 4, 5, 6, 7, 8] W_X5_tellCheese_c_X5_tellOil_0_1_2_3_4_5_6_7_8 (fun _ => rfl) (fun r4 u4 H locs hw hP hD hS => ?_)
  rw [W_X5_tellCheese_x_X5_tellOil_0_1_2_3_4_5_6_7_8] at hP hD
  replace he := he.trans (xbd2_some hw)
  refine lv_if_ne (tgt := 12) hx hb dX5_tellCheese_7 (by decide) (fun c2 => ?_) (fun c2 => ?_)
  · replace he := he.trans (if_neg c2)
    refine lv_aload_n hx hb dX5_tellCheese_12 rfl (lv_at hl 0 rfl) ?_
    refine lv_dup hx hb dX5_tellCheese_13 rfl ?_
    refine va_get (D := D) (ci := 5) (v := .int u4.2.1) (C := RX5) (T := TX5) (N := 11) hx hb hts hi_X5_tellCheese_5 hown hK hP 0 W_X5_tellCheese_o0 rfl 6 (by decide) (hts (.fieldLink RX5 49 "BlindLanterns$Told" "cheeses" "I") (List.mem_of_getElem? (i := 1) rfl)) (fun _ h9 => h9) rfl dX5_tellCheese_14 ?_
    refine lv_iconst (v := 1) hx hb dX5_tellCheese_17 (by decide) ?_
    refine lv_iload_n hx hb dX5_tellCheese_18 rfl (lv_at hl 1 rfl) ?_
    refine lv_ishl hx hb dX5_tellCheese_19 ?_
    refine lv_ior hx hb dX5_tellCheese_20 ?_
    refine va_put (D := D) (ci := 5) (v := .int (u4.2.1 ||| ((1 : Int32) <<< (a1 &&& 31)))) (ty := .int) (C := RX5) (T := TX5) (N := 11) hx hb hts hi_X5_tellCheese_5 tyX5 tyX5_ok nmX5 hown hK hP hD hS 0 W_X5_tellCheese_o0 rfl 6 (by decide) (hts (.fieldLink RX5 49 "BlindLanterns$Told" "cheeses" "I") (List.mem_of_getElem? (i := 1) rfl)) (fun _ h9 => h9) rfl (by decide +kernel) rfl rfl (Nat.le_of_ble_eq_true rfl) dX5_tellCheese_21 (fun H locs hP hD hS => ?_)
    rw [W_X5_tellCheese_p0_6] at hP hD
    refine lv_iconst (v := 1) hx hb dX5_tellCheese_24 (by decide) ?_
    exact hret (1 : Int32) (u4.1, (u4.2.1 ||| ((1 : Int32) <<< (a1 &&& 31))), u4.2.2) _ _ _ _ dX5_tellCheese_25 (Or.inr rfl) he hP hD hS
  · replace he := he.trans (if_pos c2)
    refine lv_iconst (v := 0) hx hb dX5_tellCheese_10 (by decide) ?_
    exact hret (0 : Int32) (u4.1, u4.2.1, u4.2.2) _ _ _ _ dX5_tellCheese_11 (Or.inl rfl) he hP hD hS

def fX5_tellStep (ti_7 : Int32) (a1 : Int32) : Option (Int32 × Int32) :=
  if a1 < 0 then (some ((0 : Int32), ti_7)) else (if a1 ≤ (5 : Int32) then (some ((1 : Int32), a1)) else (some ((0 : Int32), ti_7)))
theorem hi_X5_tellStep_5 : ∀ w ∈ wsX50, w ∈ wsX5_tellStep := fun _ h => (List.mem_cons_of_mem _ (List.mem_append_right _ h))
def W_X5_tellStep (cI cP : ClassId) (t : Nat) (tr : Nat → Nat) (ta : Nat → Nat) (ti_4 : Int32) (ti_5 : Int32) (ti_6 : Int32) (ti_7 : Int32) (ti_8 : Int32) (ti_9 : Int32) (ti_10 : Int32) (tk_0 : Nat → Int32) (tk_1 : Nat → Int32) (tk_2 : Nat → Int32) (tk_3 : Nat → Int32) : va_W := (wTold cI t tr ta ti_4 ti_5 ti_6 ti_7 ti_8 ti_9 ti_10 tk_0 tk_1 tk_2 tk_3)
theorem W_X5_tellStep_o0 {cI cP : ClassId} {t : Nat} {tr : Nat → Nat} {ta : Nat → Nat} {ti_4 : Int32} {ti_5 : Int32} {ti_6 : Int32} {ti_7 : Int32} {ti_8 : Int32} {ti_9 : Int32} {ti_10 : Int32} {tk_0 : Nat → Int32} {tk_1 : Nat → Int32} {tk_2 : Nat → Int32} {tk_3 : Nat → Int32} : (W_X5_tellStep cI cP t tr ta ti_4 ti_5 ti_6 ti_7 ti_8 ti_9 ti_10 tk_0 tk_1 tk_2 tk_3)[0]? = some (t, .inr (5, [.ref (tr 0), .ref (tr 1), .ref (tr 2), .ref (tr 3), .int ti_4, .int ti_5, .int ti_6, .int ti_7, .int ti_8, .int ti_9, .int ti_10])) := rfl
theorem W_X5_tellStep_p0_7 {cI cP : ClassId} {t : Nat} {tr : Nat → Nat} {ta : Nat → Nat} {ti_4 : Int32} {ti_5 : Int32} {ti_6 : Int32} {ti_7 : Int32} {ti_8 : Int32} {ti_9 : Int32} {ti_10 : Int32} {tk_0 : Nat → Int32} {tk_1 : Nat → Int32} {tk_2 : Nat → Int32} {tk_3 : Nat → Int32} {v9 : Int32} : (W_X5_tellStep cI cP t tr ta ti_4 ti_5 ti_6 ti_7 ti_8 ti_9 ti_10 tk_0 tk_1 tk_2 tk_3).set 0 (t, .inr (5, [.ref (tr 0), .ref (tr 1), .ref (tr 2), .ref (tr 3), .int ti_4, .int ti_5, .int ti_6, .int ti_7, .int ti_8, .int ti_9, .int ti_10].set 7 (.int v9))) = W_X5_tellStep cI cP t tr ta ti_4 ti_5 ti_6 v9 ti_8 ti_9 ti_10 tk_0 tk_1 tk_2 tk_3 := rfl
set_option maxHeartbeats 4000000 in
set_option maxRecDepth 100000 in
theorem c_X5_tellStep (l : Launch) (D : va_G) (cI cP : ClassId) (sz : Nat) (t : Nat) (tr : Nat → Nat) (ta : Nat → Nat) (ti_4 : Int32) (ti_5 : Int32) (ti_6 : Int32) (ti_7 : Int32) (ti_8 : Int32) (ti_9 : Int32) (ti_10 : Int32) (tk_0 : Nat → Int32) (tk_1 : Nat → Int32) (tk_2 : Nat → Int32) (tk_3 : Nat → Int32) (a1 : Int32) (hne : fX5_tellStep ti_7 a1 ≠ none) : xMi l yX5_tellStep wsX5_tellStep ({ frames := 0, cells := 0, slots := 0, locals := 0 } : Room) D (xT cI cP) [.ref t, .int a1] (W_X5_tellStep cI cP t tr ta ti_4 ti_5 ti_6 ti_7 ti_8 ti_9 ti_10 tk_0 tk_1 tk_2 tk_3) sz (fun r (u : (Int32)) => fX5_tellStep ti_7 a1 = some (r, u)) (fun u => W_X5_tellStep cI cP t tr ta ti_4 ti_5 ti_6 u ti_8 ti_9 ti_10 tk_0 tk_1 tk_2 tk_3) 0 0 := by
  refine xMz_of (cc := cX5_tellStep) (maxL := 2) (by decide +kernel) rfl (Nat.le_of_ble_eq_true rfl) ?_
  intro p e s m args below meth c A ls hx hb hml hown hts hname hN hK hA hP hD hS hl Q hret
  have he := fX5_tellStep.eq_1 ti_7 a1
  have hl : lv_has ls 2 [(0, .ref t), (1, .int a1)] := hl
  refine lv_iload_n hx hb dX5_tellStep_0 rfl (lv_at hl 1 rfl) ?_
  refine lv_if_lt (tgt := 9) hx hb dX5_tellStep_1 (by decide) (fun c1 => ?_) (fun c1 => ?_)
  · replace he := he.trans (if_pos c1)
    refine lv_iconst (v := 0) hx hb dX5_tellStep_9 (by decide) ?_
    exact hret (0 : Int32) ti_7 _ _ _ _ dX5_tellStep_10 (Or.inl rfl) he hP hD hS
  · replace he := he.trans (if_neg c1)
    refine lv_iload_n hx hb dX5_tellStep_4 rfl (lv_at hl 1 rfl) ?_
    refine lv_iconst (v := 5) hx hb dX5_tellStep_5 (by decide) ?_
    refine lv_icmp_le (tgt := 11) hx hb dX5_tellStep_6 (by decide) (fun c2 => ?_) (fun c2 => ?_)
    · replace he := he.trans (if_pos c2)
      refine lv_aload_n hx hb dX5_tellStep_11 rfl (lv_at hl 0 rfl) ?_
      refine lv_iload_n hx hb dX5_tellStep_12 rfl (lv_at hl 1 rfl) ?_
      refine va_put (D := D) (ci := 5) (v := .int a1) (ty := .int) (C := RX5) (T := TX5) (N := 11) hx hb hts hi_X5_tellStep_5 tyX5 tyX5_ok nmX5 hown hK hP hD hS 0 W_X5_tellStep_o0 rfl 7 (by decide) (hts (.fieldLink RX5 29 "BlindLanterns$Told" "step" "I") (List.mem_of_getElem? (i := 1) rfl)) (fun _ h9 => h9) rfl (by decide +kernel) rfl rfl (Nat.le_of_ble_eq_true rfl) dX5_tellStep_13 (fun H locs hP hD hS => ?_)
      rw [W_X5_tellStep_p0_7] at hP hD
      refine lv_iconst (v := 1) hx hb dX5_tellStep_16 (by decide) ?_
      exact hret (1 : Int32) a1 _ _ _ _ dX5_tellStep_17 (Or.inr rfl) he hP hD hS
    · replace he := he.trans (if_neg c2)
      refine lv_iconst (v := 0) hx hb dX5_tellStep_9 (by decide) ?_
      exact hret (0 : Int32) ti_7 _ _ _ _ dX5_tellStep_10 (Or.inl rfl) he hP hD hS

def fX5_addDraught (ti_8 : Int32) (tk_2 : Nat → Int32) (tk_3 : Nat → Int32) (a1 : Int32) (a2 : Int32) : Option (Int32 × Int32 × (Nat → Int32) × (Nat → Int32)) :=
  if (6 : Int32) ≤ ti_8 then (some ((0 : Int32), (ti_8, tk_2, tk_3))) else (if a1 < (1 : Int32) then (some ((0 : Int32), (ti_8, tk_2, tk_3))) else (if (60 : Int32) < a1 then (some ((0 : Int32), (ti_8, tk_2, tk_3))) else (if a2 < 0 then (some ((0 : Int32), (ti_8, tk_2, tk_3))) else (if a2 < (6 : Int32) then (xbd (fX3_set tk_2 ti_8 a1 6) (fun (u41 : (Nat → Int32)) => xbd (fX3_set tk_3 ti_8 a2 6) (fun (u53 : (Nat → Int32)) => some ((1 : Int32), ((ti_8 + (1 : Int32)), u41, u53))))) else (some ((0 : Int32), (ti_8, tk_2, tk_3)))))))
theorem hi_X5_addDraught_5 : ∀ w ∈ wsX50, w ∈ wsX5_addDraught := fun _ h => (List.mem_cons_of_mem _ (List.mem_append_left _ (List.mem_append_right _ h)))
def W_X5_addDraught (cI cP : ClassId) (t : Nat) (tr : Nat → Nat) (ta : Nat → Nat) (ti_4 : Int32) (ti_5 : Int32) (ti_6 : Int32) (ti_7 : Int32) (ti_8 : Int32) (ti_9 : Int32) (ti_10 : Int32) (tk_0 : Nat → Int32) (tk_1 : Nat → Int32) (tk_2 : Nat → Int32) (tk_3 : Nat → Int32) : va_W := (wTold cI t tr ta ti_4 ti_5 ti_6 ti_7 ti_8 ti_9 ti_10 tk_0 tk_1 tk_2 tk_3)
theorem W_X5_addDraught_o0 {cI cP : ClassId} {t : Nat} {tr : Nat → Nat} {ta : Nat → Nat} {ti_4 : Int32} {ti_5 : Int32} {ti_6 : Int32} {ti_7 : Int32} {ti_8 : Int32} {ti_9 : Int32} {ti_10 : Int32} {tk_0 : Nat → Int32} {tk_1 : Nat → Int32} {tk_2 : Nat → Int32} {tk_3 : Nat → Int32} : (W_X5_addDraught cI cP t tr ta ti_4 ti_5 ti_6 ti_7 ti_8 ti_9 ti_10 tk_0 tk_1 tk_2 tk_3)[0]? = some (t, .inr (5, [.ref (tr 0), .ref (tr 1), .ref (tr 2), .ref (tr 3), .int ti_4, .int ti_5, .int ti_6, .int ti_7, .int ti_8, .int ti_9, .int ti_10])) := rfl
theorem W_X5_addDraught_c_X3_set_5_6 {cI cP : ClassId} {t : Nat} {tr : Nat → Nat} {ta : Nat → Nat} {ti_4 : Int32} {ti_5 : Int32} {ti_6 : Int32} {ti_7 : Int32} {ti_8 : Int32} {ti_9 : Int32} {ti_10 : Int32} {tk_0 : Nat → Int32} {tk_1 : Nat → Int32} {tk_2 : Nat → Int32} {tk_3 : Nat → Int32} : ([5, 6] : List Nat).map (fun i => (W_X5_addDraught cI cP t tr ta ti_4 ti_5 ti_6 ti_7 ti_8 ti_9 ti_10 tk_0 tk_1 tk_2 tk_3)[i]?) = (W_X3_set cI cP (tr 2) (ta 2) 6 tk_2).map some := rfl
theorem W_X5_addDraught_x_X3_set_5_6 {cI cP : ClassId} {t : Nat} {tr : Nat → Nat} {ta : Nat → Nat} {ti_4 : Int32} {ti_5 : Int32} {ti_6 : Int32} {ti_7 : Int32} {ti_8 : Int32} {ti_9 : Int32} {ti_10 : Int32} {tk_0 : Nat → Int32} {tk_1 : Nat → Int32} {tk_2 : Nat → Int32} {tk_3 : Nat → Int32} {n0_ : Nat → Int32} : xset (W_X5_addDraught cI cP t tr ta ti_4 ti_5 ti_6 ti_7 ti_8 ti_9 ti_10 tk_0 tk_1 tk_2 tk_3) [5, 6] (W_X3_set cI cP (tr 2) (ta 2) 6 n0_) = W_X5_addDraught cI cP t tr ta ti_4 ti_5 ti_6 ti_7 ti_8 ti_9 ti_10 tk_0 tk_1 n0_ tk_3 := rfl
theorem W_X5_addDraught_o5 {cI cP : ClassId} {t : Nat} {tr : Nat → Nat} {ta : Nat → Nat} {ti_4 : Int32} {ti_5 : Int32} {ti_6 : Int32} {ti_7 : Int32} {ti_8 : Int32} {ti_9 : Int32} {ti_10 : Int32} {tk_0 : Nat → Int32} {tk_1 : Nat → Int32} {tk_2 : Nat → Int32} {tk_3 : Nat → Int32} : (W_X5_addDraught cI cP t tr ta ti_4 ti_5 ti_6 ti_7 ti_8 ti_9 ti_10 tk_0 tk_1 tk_2 tk_3)[5]? = some ((tr 2), .inr (3, [.ref (ta 2)])) := rfl
theorem W_X5_addDraught_c_X3_set_7_8 {cI cP : ClassId} {t : Nat} {tr : Nat → Nat} {ta : Nat → Nat} {ti_4 : Int32} {ti_5 : Int32} {ti_6 : Int32} {ti_7 : Int32} {ti_8 : Int32} {ti_9 : Int32} {ti_10 : Int32} {tk_0 : Nat → Int32} {tk_1 : Nat → Int32} {tk_2 : Nat → Int32} {tk_3 : Nat → Int32} : ([7, 8] : List Nat).map (fun i => (W_X5_addDraught cI cP t tr ta ti_4 ti_5 ti_6 ti_7 ti_8 ti_9 ti_10 tk_0 tk_1 tk_2 tk_3)[i]?) = (W_X3_set cI cP (tr 3) (ta 3) 6 tk_3).map some := rfl
theorem W_X5_addDraught_x_X3_set_7_8 {cI cP : ClassId} {t : Nat} {tr : Nat → Nat} {ta : Nat → Nat} {ti_4 : Int32} {ti_5 : Int32} {ti_6 : Int32} {ti_7 : Int32} {ti_8 : Int32} {ti_9 : Int32} {ti_10 : Int32} {tk_0 : Nat → Int32} {tk_1 : Nat → Int32} {tk_2 : Nat → Int32} {tk_3 : Nat → Int32} {n0_ : Nat → Int32} : xset (W_X5_addDraught cI cP t tr ta ti_4 ti_5 ti_6 ti_7 ti_8 ti_9 ti_10 tk_0 tk_1 tk_2 tk_3) [7, 8] (W_X3_set cI cP (tr 3) (ta 3) 6 n0_) = W_X5_addDraught cI cP t tr ta ti_4 ti_5 ti_6 ti_7 ti_8 ti_9 ti_10 tk_0 tk_1 tk_2 n0_ := rfl
theorem W_X5_addDraught_o7 {cI cP : ClassId} {t : Nat} {tr : Nat → Nat} {ta : Nat → Nat} {ti_4 : Int32} {ti_5 : Int32} {ti_6 : Int32} {ti_7 : Int32} {ti_8 : Int32} {ti_9 : Int32} {ti_10 : Int32} {tk_0 : Nat → Int32} {tk_1 : Nat → Int32} {tk_2 : Nat → Int32} {tk_3 : Nat → Int32} : (W_X5_addDraught cI cP t tr ta ti_4 ti_5 ti_6 ti_7 ti_8 ti_9 ti_10 tk_0 tk_1 tk_2 tk_3)[7]? = some ((tr 3), .inr (3, [.ref (ta 3)])) := rfl
theorem W_X5_addDraught_p0_8 {cI cP : ClassId} {t : Nat} {tr : Nat → Nat} {ta : Nat → Nat} {ti_4 : Int32} {ti_5 : Int32} {ti_6 : Int32} {ti_7 : Int32} {ti_8 : Int32} {ti_9 : Int32} {ti_10 : Int32} {tk_0 : Nat → Int32} {tk_1 : Nat → Int32} {tk_2 : Nat → Int32} {tk_3 : Nat → Int32} {v9 : Int32} : (W_X5_addDraught cI cP t tr ta ti_4 ti_5 ti_6 ti_7 ti_8 ti_9 ti_10 tk_0 tk_1 tk_2 tk_3).set 0 (t, .inr (5, [.ref (tr 0), .ref (tr 1), .ref (tr 2), .ref (tr 3), .int ti_4, .int ti_5, .int ti_6, .int ti_7, .int ti_8, .int ti_9, .int ti_10].set 8 (.int v9))) = W_X5_addDraught cI cP t tr ta ti_4 ti_5 ti_6 ti_7 v9 ti_9 ti_10 tk_0 tk_1 tk_2 tk_3 := rfl
set_option maxHeartbeats 4000000 in
set_option maxRecDepth 100000 in
theorem c_X5_addDraught (l : Launch) (D : va_G) (cI cP : ClassId) (sz : Nat) (t : Nat) (tr : Nat → Nat) (ta : Nat → Nat) (ti_4 : Int32) (ti_5 : Int32) (ti_6 : Int32) (ti_7 : Int32) (ti_8 : Int32) (ti_9 : Int32) (ti_10 : Int32) (tk_0 : Nat → Int32) (tk_1 : Nat → Int32) (tk_2 : Nat → Int32) (tk_3 : Nat → Int32) (a1 : Int32) (a2 : Int32) (hne : fX5_addDraught ti_8 tk_2 tk_3 a1 a2 ≠ none) : xMi l yX5_addDraught wsX5_addDraught ({ frames := 1, cells := 0, slots := 0, locals := 22 } : Room) D (xT cI cP) [.ref t, .int a1, .int a2] (W_X5_addDraught cI cP t tr ta ti_4 ti_5 ti_6 ti_7 ti_8 ti_9 ti_10 tk_0 tk_1 tk_2 tk_3) sz (fun r (u : (Int32 × (Nat → Int32) × (Nat → Int32))) => fX5_addDraught ti_8 tk_2 tk_3 a1 a2 = some (r, u)) (fun u => W_X5_addDraught cI cP t tr ta ti_4 ti_5 ti_6 ti_7 u.1 ti_9 ti_10 tk_0 tk_1 u.2.1 u.2.2) 0 0 := by
  refine xMz_of (cc := cX5_addDraught) (maxL := 3) (by decide +kernel) rfl (Nat.le_of_ble_eq_true rfl) ?_
  intro p e s m args below meth c A ls hx hb hml hown hts hname hN hK hA hP hD hS hl Q hret
  have he := fX5_addDraught.eq_1 ti_8 tk_2 tk_3 a1 a2
  have hl : lv_has ls 3 [(0, .ref t), (1, .int a1), (2, .int a2)] := hl
  refine lv_aload_n hx hb dX5_addDraught_0 rfl (lv_at hl 0 rfl) ?_
  refine va_get (D := D) (ci := 5) (v := .int ti_8) (C := RX5) (T := TX5) (N := 11) hx hb hts hi_X5_addDraught_5 hown hK hP 0 W_X5_addDraught_o0 rfl 8 (by decide) (hts (.fieldLink RX5 52 "BlindLanterns$Told" "draughts" "I") (List.mem_of_getElem? (i := 1) rfl)) (fun _ h9 => h9) rfl dX5_addDraught_1 ?_
  refine lv_bipush (v := 6) hx hb dX5_addDraught_4 (by decide) ?_
  refine lv_icmp_ge (tgt := 30) hx hb dX5_addDraught_6 (by decide) (fun c1 => ?_) (fun c1 => ?_)
  · replace he := he.trans (if_pos c1)
    refine lv_iconst (v := 0) hx hb dX5_addDraught_30 (by decide) ?_
    exact hret (0 : Int32) (ti_8, tk_2, tk_3) _ _ _ _ dX5_addDraught_31 (Or.inl rfl) he hP hD hS
  · replace he := he.trans (if_neg c1)
    refine lv_iload_n hx hb dX5_addDraught_9 rfl (lv_at hl 1 rfl) ?_
    refine lv_iconst (v := 1) hx hb dX5_addDraught_10 (by decide) ?_
    refine lv_icmp_lt (tgt := 30) hx hb dX5_addDraught_11 (by decide) (fun c2 => ?_) (fun c2 => ?_)
    · replace he := he.trans (if_pos c2)
      refine lv_iconst (v := 0) hx hb dX5_addDraught_30 (by decide) ?_
      exact hret (0 : Int32) (ti_8, tk_2, tk_3) _ _ _ _ dX5_addDraught_31 (Or.inl rfl) he hP hD hS
    · replace he := he.trans (if_neg c2)
      refine lv_iload_n hx hb dX5_addDraught_14 rfl (lv_at hl 1 rfl) ?_
      refine lv_bipush (v := 60) hx hb dX5_addDraught_15 (by decide) ?_
      refine lv_icmp_gt (tgt := 30) hx hb dX5_addDraught_17 (by decide) (fun c3 => ?_) (fun c3 => ?_)
      · replace he := he.trans (if_pos c3)
        refine lv_iconst (v := 0) hx hb dX5_addDraught_30 (by decide) ?_
        exact hret (0 : Int32) (ti_8, tk_2, tk_3) _ _ _ _ dX5_addDraught_31 (Or.inl rfl) he hP hD hS
      · replace he := he.trans (if_neg c3)
        refine lv_iload_n hx hb dX5_addDraught_20 rfl (lv_at hl 2 rfl) ?_
        refine lv_if_lt (tgt := 30) hx hb dX5_addDraught_21 (by decide) (fun c4 => ?_) (fun c4 => ?_)
        · replace he := he.trans (if_pos c4)
          refine lv_iconst (v := 0) hx hb dX5_addDraught_30 (by decide) ?_
          exact hret (0 : Int32) (ti_8, tk_2, tk_3) _ _ _ _ dX5_addDraught_31 (Or.inl rfl) he hP hD hS
        · replace he := he.trans (if_neg c4)
          refine lv_iload_n hx hb dX5_addDraught_24 rfl (lv_at hl 2 rfl) ?_
          refine lv_bipush (v := 6) hx hb dX5_addDraught_25 (by decide) ?_
          refine lv_icmp_lt (tgt := 32) hx hb dX5_addDraught_27 (by decide) (fun c5 => ?_) (fun c5 => ?_)
          · replace he := he.trans (if_pos c5)
            refine lv_aload_n hx hb dX5_addDraught_32 rfl (lv_at hl 0 rfl) ?_
            refine va_get (D := D) (ci := 5) (v := .ref (tr 2)) (C := RX5) (T := TX5) (N := 11) hx hb hts hi_X5_addDraught_5 hown hK hP 0 W_X5_addDraught_o0 rfl 2 (by decide) (hts (.fieldLink RX5 23 "BlindLanterns$Told" "draughtBells" "LBlindLanterns$Row;") (List.mem_of_getElem? (i := 2) rfl)) (fun _ h9 => h9) rfl dX5_addDraught_33 ?_
            refine lv_aload_n hx hb dX5_addDraught_36 rfl (lv_at hl 0 rfl) ?_
            refine va_get (D := D) (ci := 5) (v := .int ti_8) (C := RX5) (T := TX5) (N := 11) hx hb hts hi_X5_addDraught_5 hown hK hP 0 W_X5_addDraught_o0 rfl 8 (by decide) (hts (.fieldLink RX5 52 "BlindLanterns$Told" "draughts" "I") (List.mem_of_getElem? (i := 1) rfl)) (fun _ h9 => h9) rfl dX5_addDraught_37 ?_
            refine lv_iload_n hx hb dX5_addDraught_40 rfl (lv_at hl 1 rfl) ?_
            have n6_ : fX3_set tk_2 ti_8 a1 6 ≠ none := fun z => hne (he.trans (xbd_none z))
            refine xcv (va_runV (As := [.int ti_8, .int a1]) (rest := []) ⟨hx, hb, hml, hown, hts⟩ (c_X3_set l D cI cP s.heap.size (tr 2) (ta 2) 6 tk_2 ti_8 a1 n6_) (cwV 2 hts gX5_addDraught_X3_set rfl rfl rfl (by decide +kernel) ⟨Nat.le_of_ble_eq_true rfl, Nat.le_of_ble_eq_true rfl⟩) (xPV hN hK hP hD [5, 6] W_X5_addDraught_c_X3_set_5_6 (by decide) (ci := 3) (j := 5) rfl W_X5_addDraught_o5) rfl rfl hl.1 rfl (lv_room (Nat.le_of_ble_eq_true rfl)) dX5_addDraught_41 ⟨Nat.le_of_ble_eq_true rfl, Nat.le_of_ble_eq_true rfl⟩) hP hD hS hA [5, 6] W_X5_addDraught_c_X3_set_5_6 (fun _ => rfl) (fun u41 H locs hw hP hD hS => ?_)
            rw [W_X5_addDraught_x_X3_set_5_6] at hP hD
            replace he := he.trans (xbd_some hw)
            refine lv_aload_n hx hb dX5_addDraught_44 rfl (lv_at hl 0 rfl) ?_
            refine va_get (D := D) (ci := 5) (v := .ref (tr 3)) (C := RX5) (T := TX5) (N := 11) hx hb hts hi_X5_addDraught_5 hown hK hP 0 W_X5_addDraught_o0 rfl 3 (by decide) (hts (.fieldLink RX5 26 "BlindLanterns$Told" "draughtPosts" "LBlindLanterns$Row;") (List.mem_of_getElem? (i := 3) rfl)) (fun _ h9 => h9) rfl dX5_addDraught_45 ?_
            refine lv_aload_n hx hb dX5_addDraught_48 rfl (lv_at hl 0 rfl) ?_
            refine va_get (D := D) (ci := 5) (v := .int ti_8) (C := RX5) (T := TX5) (N := 11) hx hb hts hi_X5_addDraught_5 hown hK hP 0 W_X5_addDraught_o0 rfl 8 (by decide) (hts (.fieldLink RX5 52 "BlindLanterns$Told" "draughts" "I") (List.mem_of_getElem? (i := 1) rfl)) (fun _ h9 => h9) rfl dX5_addDraught_49 ?_
            refine lv_iload_n hx hb dX5_addDraught_52 rfl (lv_at hl 2 rfl) ?_
            have n7_ : fX3_set tk_3 ti_8 a2 6 ≠ none := fun z => hne (he.trans (xbd_none z))
            refine xcv (va_runV (As := [.int ti_8, .int a2]) (rest := []) ⟨hx, hb, hml, hown, hts⟩ (c_X3_set l D cI cP H.size (tr 3) (ta 3) 6 tk_3 ti_8 a2 n7_) (cwV 2 hts gX5_addDraught_X3_set rfl rfl rfl (by decide +kernel) ⟨Nat.le_of_ble_eq_true rfl, Nat.le_of_ble_eq_true rfl⟩) (xPV hN hK hP hD [7, 8] W_X5_addDraught_c_X3_set_7_8 (by decide) (ci := 3) (j := 7) rfl W_X5_addDraught_o7) rfl rfl hl.1 rfl (lv_room (Nat.le_of_ble_eq_true rfl)) dX5_addDraught_53 ⟨Nat.le_of_ble_eq_true rfl, Nat.le_of_ble_eq_true rfl⟩) hP hD hS hA [7, 8] W_X5_addDraught_c_X3_set_7_8 (fun _ => rfl) (fun u53 H locs hw hP hD hS => ?_)
            rw [W_X5_addDraught_x_X3_set_7_8] at hP hD
            replace he := he.trans (xbd_some hw)
            refine lv_aload_n hx hb dX5_addDraught_56 rfl (lv_at hl 0 rfl) ?_
            refine lv_dup hx hb dX5_addDraught_57 rfl ?_
            refine va_get (D := D) (ci := 5) (v := .int ti_8) (C := RX5) (T := TX5) (N := 11) hx hb hts hi_X5_addDraught_5 hown hK hP 0 W_X5_addDraught_o0 rfl 8 (by decide) (hts (.fieldLink RX5 52 "BlindLanterns$Told" "draughts" "I") (List.mem_of_getElem? (i := 1) rfl)) (fun _ h9 => h9) rfl dX5_addDraught_58 ?_
            refine lv_iconst (v := 1) hx hb dX5_addDraught_61 (by decide) ?_
            refine lv_iadd hx hb dX5_addDraught_62 ?_
            refine va_put (D := D) (ci := 5) (v := .int (ti_8 + (1 : Int32))) (ty := .int) (C := RX5) (T := TX5) (N := 11) hx hb hts hi_X5_addDraught_5 tyX5 tyX5_ok nmX5 hown hK hP hD hS 0 W_X5_addDraught_o0 rfl 8 (by decide) (hts (.fieldLink RX5 52 "BlindLanterns$Told" "draughts" "I") (List.mem_of_getElem? (i := 1) rfl)) (fun _ h9 => h9) rfl (by decide +kernel) rfl rfl (Nat.le_of_ble_eq_true rfl) dX5_addDraught_63 (fun H locs hP hD hS => ?_)
            rw [W_X5_addDraught_p0_8] at hP hD
            refine lv_iconst (v := 1) hx hb dX5_addDraught_66 (by decide) ?_
            exact hret (1 : Int32) ((ti_8 + (1 : Int32)), u41, u53) _ _ _ _ dX5_addDraught_67 (Or.inr rfl) he hP hD hS
          · replace he := he.trans (if_neg c5)
            refine lv_iconst (v := 0) hx hb dX5_addDraught_30 (by decide) ?_
            exact hret (0 : Int32) (ti_8, tk_2, tk_3) _ _ _ _ dX5_addDraught_31 (Or.inl rfl) he hP hD hS

def fX5_tellSun (ti_9 : Int32) (ti_10 : Int32) (a1 : Int32) (a2 : Int32) : Option (Int32 × Int32 × Int32) :=
  if a1 < 0 then (some ((0 : Int32), (ti_9, ti_10))) else (if a2 < a1 then (some ((0 : Int32), (ti_9, ti_10))) else (if a2 ≤ (60 : Int32) then (some ((1 : Int32), (a1, a2))) else (some ((0 : Int32), (ti_9, ti_10)))))
theorem hi_X5_tellSun_5 : ∀ w ∈ wsX50, w ∈ wsX5_tellSun := fun _ h => (List.mem_cons_of_mem _ (List.mem_append_right _ h))
def W_X5_tellSun (cI cP : ClassId) (t : Nat) (tr : Nat → Nat) (ta : Nat → Nat) (ti_4 : Int32) (ti_5 : Int32) (ti_6 : Int32) (ti_7 : Int32) (ti_8 : Int32) (ti_9 : Int32) (ti_10 : Int32) (tk_0 : Nat → Int32) (tk_1 : Nat → Int32) (tk_2 : Nat → Int32) (tk_3 : Nat → Int32) : va_W := (wTold cI t tr ta ti_4 ti_5 ti_6 ti_7 ti_8 ti_9 ti_10 tk_0 tk_1 tk_2 tk_3)
theorem W_X5_tellSun_o0 {cI cP : ClassId} {t : Nat} {tr : Nat → Nat} {ta : Nat → Nat} {ti_4 : Int32} {ti_5 : Int32} {ti_6 : Int32} {ti_7 : Int32} {ti_8 : Int32} {ti_9 : Int32} {ti_10 : Int32} {tk_0 : Nat → Int32} {tk_1 : Nat → Int32} {tk_2 : Nat → Int32} {tk_3 : Nat → Int32} : (W_X5_tellSun cI cP t tr ta ti_4 ti_5 ti_6 ti_7 ti_8 ti_9 ti_10 tk_0 tk_1 tk_2 tk_3)[0]? = some (t, .inr (5, [.ref (tr 0), .ref (tr 1), .ref (tr 2), .ref (tr 3), .int ti_4, .int ti_5, .int ti_6, .int ti_7, .int ti_8, .int ti_9, .int ti_10])) := rfl
theorem W_X5_tellSun_p0_9 {cI cP : ClassId} {t : Nat} {tr : Nat → Nat} {ta : Nat → Nat} {ti_4 : Int32} {ti_5 : Int32} {ti_6 : Int32} {ti_7 : Int32} {ti_8 : Int32} {ti_9 : Int32} {ti_10 : Int32} {tk_0 : Nat → Int32} {tk_1 : Nat → Int32} {tk_2 : Nat → Int32} {tk_3 : Nat → Int32} {v9 : Int32} : (W_X5_tellSun cI cP t tr ta ti_4 ti_5 ti_6 ti_7 ti_8 ti_9 ti_10 tk_0 tk_1 tk_2 tk_3).set 0 (t, .inr (5, [.ref (tr 0), .ref (tr 1), .ref (tr 2), .ref (tr 3), .int ti_4, .int ti_5, .int ti_6, .int ti_7, .int ti_8, .int ti_9, .int ti_10].set 9 (.int v9))) = W_X5_tellSun cI cP t tr ta ti_4 ti_5 ti_6 ti_7 ti_8 v9 ti_10 tk_0 tk_1 tk_2 tk_3 := rfl
theorem W_X5_tellSun_p0_10 {cI cP : ClassId} {t : Nat} {tr : Nat → Nat} {ta : Nat → Nat} {ti_4 : Int32} {ti_5 : Int32} {ti_6 : Int32} {ti_7 : Int32} {ti_8 : Int32} {ti_9 : Int32} {ti_10 : Int32} {tk_0 : Nat → Int32} {tk_1 : Nat → Int32} {tk_2 : Nat → Int32} {tk_3 : Nat → Int32} {v9 : Int32} : (W_X5_tellSun cI cP t tr ta ti_4 ti_5 ti_6 ti_7 ti_8 ti_9 ti_10 tk_0 tk_1 tk_2 tk_3).set 0 (t, .inr (5, [.ref (tr 0), .ref (tr 1), .ref (tr 2), .ref (tr 3), .int ti_4, .int ti_5, .int ti_6, .int ti_7, .int ti_8, .int ti_9, .int ti_10].set 10 (.int v9))) = W_X5_tellSun cI cP t tr ta ti_4 ti_5 ti_6 ti_7 ti_8 ti_9 v9 tk_0 tk_1 tk_2 tk_3 := rfl
set_option maxHeartbeats 4000000 in
set_option maxRecDepth 100000 in
theorem c_X5_tellSun (l : Launch) (D : va_G) (cI cP : ClassId) (sz : Nat) (t : Nat) (tr : Nat → Nat) (ta : Nat → Nat) (ti_4 : Int32) (ti_5 : Int32) (ti_6 : Int32) (ti_7 : Int32) (ti_8 : Int32) (ti_9 : Int32) (ti_10 : Int32) (tk_0 : Nat → Int32) (tk_1 : Nat → Int32) (tk_2 : Nat → Int32) (tk_3 : Nat → Int32) (a1 : Int32) (a2 : Int32) (hne : fX5_tellSun ti_9 ti_10 a1 a2 ≠ none) : xMi l yX5_tellSun wsX5_tellSun ({ frames := 0, cells := 0, slots := 0, locals := 0 } : Room) D (xT cI cP) [.ref t, .int a1, .int a2] (W_X5_tellSun cI cP t tr ta ti_4 ti_5 ti_6 ti_7 ti_8 ti_9 ti_10 tk_0 tk_1 tk_2 tk_3) sz (fun r (u : (Int32 × Int32)) => fX5_tellSun ti_9 ti_10 a1 a2 = some (r, u)) (fun u => W_X5_tellSun cI cP t tr ta ti_4 ti_5 ti_6 ti_7 ti_8 u.1 u.2 tk_0 tk_1 tk_2 tk_3) 0 0 := by
  refine xMz_of (cc := cX5_tellSun) (maxL := 3) (by decide +kernel) rfl (Nat.le_of_ble_eq_true rfl) ?_
  intro p e s m args below meth c A ls hx hb hml hown hts hname hN hK hA hP hD hS hl Q hret
  have he := fX5_tellSun.eq_1 ti_9 ti_10 a1 a2
  have hl : lv_has ls 3 [(0, .ref t), (1, .int a1), (2, .int a2)] := hl
  refine lv_iload_n hx hb dX5_tellSun_0 rfl (lv_at hl 1 rfl) ?_
  refine lv_if_lt (tgt := 15) hx hb dX5_tellSun_1 (by decide) (fun c1 => ?_) (fun c1 => ?_)
  · replace he := he.trans (if_pos c1)
    refine lv_iconst (v := 0) hx hb dX5_tellSun_15 (by decide) ?_
    exact hret (0 : Int32) (ti_9, ti_10) _ _ _ _ dX5_tellSun_16 (Or.inl rfl) he hP hD hS
  · replace he := he.trans (if_neg c1)
    refine lv_iload_n hx hb dX5_tellSun_4 rfl (lv_at hl 1 rfl) ?_
    refine lv_iload_n hx hb dX5_tellSun_5 rfl (lv_at hl 2 rfl) ?_
    refine lv_icmp_gt (tgt := 15) hx hb dX5_tellSun_6 (by decide) (fun c2 => ?_) (fun c2 => ?_)
    · replace he := he.trans (if_pos c2)
      refine lv_iconst (v := 0) hx hb dX5_tellSun_15 (by decide) ?_
      exact hret (0 : Int32) (ti_9, ti_10) _ _ _ _ dX5_tellSun_16 (Or.inl rfl) he hP hD hS
    · replace he := he.trans (if_neg c2)
      refine lv_iload_n hx hb dX5_tellSun_9 rfl (lv_at hl 2 rfl) ?_
      refine lv_bipush (v := 60) hx hb dX5_tellSun_10 (by decide) ?_
      refine lv_icmp_le (tgt := 17) hx hb dX5_tellSun_12 (by decide) (fun c3 => ?_) (fun c3 => ?_)
      · replace he := he.trans (if_pos c3)
        refine lv_aload_n hx hb dX5_tellSun_17 rfl (lv_at hl 0 rfl) ?_
        refine lv_iload_n hx hb dX5_tellSun_18 rfl (lv_at hl 1 rfl) ?_
        refine va_put (D := D) (ci := 5) (v := .int a1) (ty := .int) (C := RX5) (T := TX5) (N := 11) hx hb hts hi_X5_tellSun_5 tyX5 tyX5_ok nmX5 hown hK hP hD hS 0 W_X5_tellSun_o0 rfl 9 (by decide) (hts (.fieldLink RX5 34 "BlindLanterns$Told" "sunFrom" "I") (List.mem_of_getElem? (i := 1) rfl)) (fun _ h9 => h9) rfl (by decide +kernel) rfl rfl (Nat.le_of_ble_eq_true rfl) dX5_tellSun_19 (fun H locs hP hD hS => ?_)
        rw [W_X5_tellSun_p0_9] at hP hD
        refine lv_aload_n hx hb dX5_tellSun_22 rfl (lv_at hl 0 rfl) ?_
        refine lv_iload_n hx hb dX5_tellSun_23 rfl (lv_at hl 2 rfl) ?_
        refine va_put (D := D) (ci := 5) (v := .int a2) (ty := .int) (C := RX5) (T := TX5) (N := 11) hx hb hts hi_X5_tellSun_5 tyX5 tyX5_ok nmX5 hown hK hP hD hS 0 W_X5_tellSun_o0 rfl 10 (by decide) (hts (.fieldLink RX5 37 "BlindLanterns$Told" "sunTo" "I") (List.mem_of_getElem? (i := 2) rfl)) (fun _ h9 => h9) rfl (by decide +kernel) rfl rfl (Nat.le_of_ble_eq_true rfl) dX5_tellSun_24 (fun H locs hP hD hS => ?_)
        rw [W_X5_tellSun_p0_10] at hP hD
        refine lv_iconst (v := 1) hx hb dX5_tellSun_27 (by decide) ?_
        exact hret (1 : Int32) (a1, a2) _ _ _ _ dX5_tellSun_28 (Or.inr rfl) he hP hD hS
      · replace he := he.trans (if_neg c3)
        refine lv_iconst (v := 0) hx hb dX5_tellSun_15 (by decide) ?_
        exact hret (0 : Int32) (ti_9, ti_10) _ _ _ _ dX5_tellSun_16 (Or.inl rfl) he hP hD hS

def fX5_canBeLaid_L2 (ti_4 : Int32) (ti_8 : Int32) (tk_3 : Nat → Int32) (k2 : Int32 → Option (Int32)) : Nat → Int32 → Option (Int32)
  | 0, _ => none
  | n2 + 1, v2_1 => if ti_8 ≤ v2_1 then (k2 v2_1) else (xbd (fX3_get tk_3 v2_1 6) (fun (r15 : Int32) => if r15 < ti_4 then (fX5_canBeLaid_L2 ti_4 ti_8 tk_3 k2 n2 (v2_1 + 1)) else (some (0 : Int32))))
def fX5_canBeLaid (F : Nat) (ti_4 : Int32) (ti_8 : Int32) (tk_3 : Nat → Int32) : Option (Int32) :=
  fX5_canBeLaid_L2 ti_4 ti_8 tk_3 (fun (v2_1 : Int32) => if ti_4 < (2 : Int32) then (some (0 : Int32)) else (some (1 : Int32))) F (0 : Int32)
theorem hi_X5_canBeLaid_5 : ∀ w ∈ wsX50, w ∈ wsX5_canBeLaid := fun _ h => (List.mem_cons_of_mem _ (List.mem_append_left _ (List.mem_append_right _ h)))
def W_X5_canBeLaid (cI cP : ClassId) (t : Nat) (tr : Nat → Nat) (ta : Nat → Nat) (ti_4 : Int32) (ti_5 : Int32) (ti_6 : Int32) (ti_7 : Int32) (ti_8 : Int32) (ti_9 : Int32) (ti_10 : Int32) (tk_0 : Nat → Int32) (tk_1 : Nat → Int32) (tk_2 : Nat → Int32) (tk_3 : Nat → Int32) : va_W := (wTold cI t tr ta ti_4 ti_5 ti_6 ti_7 ti_8 ti_9 ti_10 tk_0 tk_1 tk_2 tk_3)
theorem W_X5_canBeLaid_o0 {cI cP : ClassId} {t : Nat} {tr : Nat → Nat} {ta : Nat → Nat} {ti_4 : Int32} {ti_5 : Int32} {ti_6 : Int32} {ti_7 : Int32} {ti_8 : Int32} {ti_9 : Int32} {ti_10 : Int32} {tk_0 : Nat → Int32} {tk_1 : Nat → Int32} {tk_2 : Nat → Int32} {tk_3 : Nat → Int32} : (W_X5_canBeLaid cI cP t tr ta ti_4 ti_5 ti_6 ti_7 ti_8 ti_9 ti_10 tk_0 tk_1 tk_2 tk_3)[0]? = some (t, .inr (5, [.ref (tr 0), .ref (tr 1), .ref (tr 2), .ref (tr 3), .int ti_4, .int ti_5, .int ti_6, .int ti_7, .int ti_8, .int ti_9, .int ti_10])) := rfl
theorem W_X5_canBeLaid_c_X3_get_7_8 {cI cP : ClassId} {t : Nat} {tr : Nat → Nat} {ta : Nat → Nat} {ti_4 : Int32} {ti_5 : Int32} {ti_6 : Int32} {ti_7 : Int32} {ti_8 : Int32} {ti_9 : Int32} {ti_10 : Int32} {tk_0 : Nat → Int32} {tk_1 : Nat → Int32} {tk_2 : Nat → Int32} {tk_3 : Nat → Int32} : ([7, 8] : List Nat).map (fun i => (W_X5_canBeLaid cI cP t tr ta ti_4 ti_5 ti_6 ti_7 ti_8 ti_9 ti_10 tk_0 tk_1 tk_2 tk_3)[i]?) = (W_X3_get cI cP (tr 3) (ta 3) 6 tk_3).map some := rfl
theorem W_X5_canBeLaid_x_X3_get_7_8 {cI cP : ClassId} {t : Nat} {tr : Nat → Nat} {ta : Nat → Nat} {ti_4 : Int32} {ti_5 : Int32} {ti_6 : Int32} {ti_7 : Int32} {ti_8 : Int32} {ti_9 : Int32} {ti_10 : Int32} {tk_0 : Nat → Int32} {tk_1 : Nat → Int32} {tk_2 : Nat → Int32} {tk_3 : Nat → Int32} : xset (W_X5_canBeLaid cI cP t tr ta ti_4 ti_5 ti_6 ti_7 ti_8 ti_9 ti_10 tk_0 tk_1 tk_2 tk_3) [7, 8] (W_X3_get cI cP (tr 3) (ta 3) 6 tk_3) = W_X5_canBeLaid cI cP t tr ta ti_4 ti_5 ti_6 ti_7 ti_8 ti_9 ti_10 tk_0 tk_1 tk_2 tk_3 := rfl
theorem W_X5_canBeLaid_o7 {cI cP : ClassId} {t : Nat} {tr : Nat → Nat} {ta : Nat → Nat} {ti_4 : Int32} {ti_5 : Int32} {ti_6 : Int32} {ti_7 : Int32} {ti_8 : Int32} {ti_9 : Int32} {ti_10 : Int32} {tk_0 : Nat → Int32} {tk_1 : Nat → Int32} {tk_2 : Nat → Int32} {tk_3 : Nat → Int32} : (W_X5_canBeLaid cI cP t tr ta ti_4 ti_5 ti_6 ti_7 ti_8 ti_9 ti_10 tk_0 tk_1 tk_2 tk_3)[7]? = some ((tr 3), .inr (3, [.ref (ta 3)])) := rfl
set_option maxHeartbeats 4000000 in
set_option maxRecDepth 100000 in
theorem c_X5_canBeLaid (l : Launch) (D : va_G) (cI cP : ClassId) (sz : Nat) (t : Nat) (tr : Nat → Nat) (ta : Nat → Nat) (ti_4 : Int32) (ti_5 : Int32) (ti_6 : Int32) (ti_7 : Int32) (ti_8 : Int32) (ti_9 : Int32) (ti_10 : Int32) (tk_0 : Nat → Int32) (tk_1 : Nat → Int32) (tk_2 : Nat → Int32) (tk_3 : Nat → Int32) (F : Nat) (hne : fX5_canBeLaid F ti_4 ti_8 tk_3 ≠ none) : xMi l yX5_canBeLaid wsX5_canBeLaid ({ frames := 1, cells := 0, slots := 0, locals := 21 } : Room) D (xT cI cP) [.ref t] (W_X5_canBeLaid cI cP t tr ta ti_4 ti_5 ti_6 ti_7 ti_8 ti_9 ti_10 tk_0 tk_1 tk_2 tk_3) sz (fun r (_ : Unit) => fX5_canBeLaid F ti_4 ti_8 tk_3 = some r) (fun u => W_X5_canBeLaid cI cP t tr ta ti_4 ti_5 ti_6 ti_7 ti_8 ti_9 ti_10 tk_0 tk_1 tk_2 tk_3) 0 0 := by
  refine xMz_of (cc := cX5_canBeLaid) (maxL := 2) (by decide +kernel) rfl (Nat.le_of_ble_eq_true rfl) ?_
  intro p e s m args below meth c A ls hx hb hml hown hts hname hN hK hA hP hD hS hl Q hret
  have he := fX5_canBeLaid.eq_1 F ti_4 ti_8 tk_3
  have hl : lv_has ls 2 [(0, .ref t)] := hl
  have R2_0 : ∀ (v2_1 : Int32), fX5_canBeLaid F ti_4 ti_8 tk_3 = (if ti_4 < (2 : Int32) then (some (0 : Int32)) else (some (1 : Int32))) → ∀ (H : Heap) (locs : List Loc) (ls : Array Slot), va_P D vwCl (W_X5_canBeLaid cI cP t tr ta ti_4 ti_5 ti_6 ti_7 ti_8 ti_9 ti_10 tk_0 tk_1 tk_2 tk_3) H → va_D A (W_X5_canBeLaid cI cP t tr ta ti_4 ti_5 ti_6 ti_7 ti_8 ti_9 ti_10 tk_0 tk_1 tk_2 tk_3) → va_S A s.heap H locs → lv_has ls 2 [(0, .ref t)] → W p l e ({ frames := 1, cells := 0, slots := 0, locals := 21 } : Room) s m args below meth c H locs 0 0 Q (F0 m 33 ls []) := by
    intro v2_1 he H locs ls hP hD hS hl
    refine lv_aload_n hx hb dX5_canBeLaid_33 rfl (lv_at hl 0 rfl) ?_
    refine va_get (D := D) (ci := 5) (v := .int ti_4) (C := RX5) (T := TX5) (N := 11) hx hb hts hi_X5_canBeLaid_5 hown hK hP 0 W_X5_canBeLaid_o0 rfl 4 (by decide) (hts (.fieldLink RX5 43 "BlindLanterns$Told" "men" "I") (List.mem_of_getElem? (i := 3) rfl)) (fun _ h9 => h9) rfl dX5_canBeLaid_34 ?_
    refine lv_iconst (v := 2) hx hb dX5_canBeLaid_37 (by decide) ?_
    refine lv_icmp_lt (tgt := 45) hx hb dX5_canBeLaid_38 (by decide) (fun c1 => ?_) (fun c1 => ?_)
    · replace he := he.trans (if_pos c1)
      refine lv_iconst (v := 0) hx hb dX5_canBeLaid_45 (by decide) ?_
      exact hret (0 : Int32) () _ _ _ _ dX5_canBeLaid_46 (Or.inl rfl) he hP hD hS
    · replace he := he.trans (if_neg c1)
      refine lv_iconst (v := 1) hx hb dX5_canBeLaid_41 (by decide) ?_
      refine lv_goto (tgt := 46) hx hb dX5_canBeLaid_42 (by decide) ?_
      exact hret (1 : Int32) () _ _ _ _ dX5_canBeLaid_46 (Or.inr rfl) he hP hD hS
  have L2_13 : ∀ (n2 : Nat) (v2_1 : Int32), fX5_canBeLaid F ti_4 ti_8 tk_3 = fX5_canBeLaid_L2 ti_4 ti_8 tk_3 (fun (v2_1 : Int32) => if ti_4 < (2 : Int32) then (some (0 : Int32)) else (some (1 : Int32))) n2 v2_1 → ∀ (H : Heap) (locs : List Loc) (ls : Array Slot), va_P D vwCl (W_X5_canBeLaid cI cP t tr ta ti_4 ti_5 ti_6 ti_7 ti_8 ti_9 ti_10 tk_0 tk_1 tk_2 tk_3) H → va_D A (W_X5_canBeLaid cI cP t tr ta ti_4 ti_5 ti_6 ti_7 ti_8 ti_9 ti_10 tk_0 tk_1 tk_2 tk_3) → va_S A s.heap H locs → lv_has ls 2 [(1, .int v2_1), (0, .ref t)] → W p l e ({ frames := 1, cells := 0, slots := 0, locals := 21 } : Room) s m args below meth c H locs 0 0 Q (F0 m 2 ls []) := by
    intro n2
    induction n2 with
    | zero => intro v2_1 he; exact absurd he hne
    | succ n2 ih2 =>
      intro v2_1 he H locs ls hP hD hS hl
      replace he := he.trans (fX5_canBeLaid_L2.eq_2 _ _ _ _ _ _)
      refine lv_iload_n hx hb dX5_canBeLaid_2 rfl (lv_at hl 0 rfl) ?_
      refine lv_aload_n hx hb dX5_canBeLaid_3 rfl (lv_at hl 1 rfl) ?_
      refine va_get (D := D) (ci := 5) (v := .int ti_8) (C := RX5) (T := TX5) (N := 11) hx hb hts hi_X5_canBeLaid_5 hown hK hP 0 W_X5_canBeLaid_o0 rfl 8 (by decide) (hts (.fieldLink RX5 52 "BlindLanterns$Told" "draughts" "I") (List.mem_of_getElem? (i := 1) rfl)) (fun _ h9 => h9) rfl dX5_canBeLaid_4 ?_
      refine lv_icmp_ge (tgt := 33) hx hb dX5_canBeLaid_7 (by decide) (fun c2 => ?_) (fun c2 => ?_)
      · replace he := he.trans (if_pos c2)
        exact R2_0 v2_1 he _ _ _ hP hD hS (lv_sub hl [1] rfl)
      · replace he := he.trans (if_neg c2)
        refine lv_aload_n hx hb dX5_canBeLaid_10 rfl (lv_at hl 1 rfl) ?_
        refine va_get (D := D) (ci := 5) (v := .ref (tr 3)) (C := RX5) (T := TX5) (N := 11) hx hb hts hi_X5_canBeLaid_5 hown hK hP 0 W_X5_canBeLaid_o0 rfl 3 (by decide) (hts (.fieldLink RX5 26 "BlindLanterns$Told" "draughtPosts" "LBlindLanterns$Row;") (List.mem_of_getElem? (i := 2) rfl)) (fun _ h9 => h9) rfl dX5_canBeLaid_11 ?_
        refine lv_iload_n hx hb dX5_canBeLaid_14 rfl (lv_at hl 0 rfl) ?_
        have n3_ : fX3_get tk_3 v2_1 6 ≠ none := fun z => hne (he.trans (xbd_none z))
        refine xci (va_runV (As := [.int v2_1]) (rest := []) ⟨hx, hb, hml, hown, hts⟩ (c_X3_get l D cI cP H.size (tr 3) (ta 3) 6 tk_3 v2_1 n3_) (cwV 1 hts gX5_canBeLaid_X3_get rfl rfl rfl (by decide +kernel) ⟨Nat.le_of_ble_eq_true rfl, Nat.le_of_ble_eq_true rfl⟩) (xPV hN hK hP hD [7, 8] W_X5_canBeLaid_c_X3_get_7_8 (by decide) (ci := 3) (j := 7) rfl W_X5_canBeLaid_o7) rfl rfl hl.1 rfl (lv_room (Nat.le_of_ble_eq_true rfl)) dX5_canBeLaid_15 ⟨Nat.le_of_ble_eq_true rfl, Nat.le_of_ble_eq_true rfl⟩) hP hD hS hA [7, 8] W_X5_canBeLaid_c_X3_get_7_8 (fun _ => rfl) (fun r15 u15 H locs hw hP hD hS => ?_)
        rw [W_X5_canBeLaid_x_X3_get_7_8] at hP hD
        replace he := he.trans (xbd_some hw)
        refine lv_aload_n hx hb dX5_canBeLaid_18 rfl (lv_at hl 1 rfl) ?_
        refine va_get (D := D) (ci := 5) (v := .int ti_4) (C := RX5) (T := TX5) (N := 11) hx hb hts hi_X5_canBeLaid_5 hown hK hP 0 W_X5_canBeLaid_o0 rfl 4 (by decide) (hts (.fieldLink RX5 43 "BlindLanterns$Told" "men" "I") (List.mem_of_getElem? (i := 3) rfl)) (fun _ h9 => h9) rfl dX5_canBeLaid_19 ?_
        refine lv_icmp_lt (tgt := 27) hx hb dX5_canBeLaid_22 (by decide) (fun c4 => ?_) (fun c4 => ?_)
        · replace he := he.trans (if_pos c4)
          refine lv_iinc (v := (v2_1 + 1)) (lv' := [(1, .int (v2_1 + 1)), (0, .ref t)]) hx hb dX5_canBeLaid_27 hl (k := 0) rfl rfl (by decide) rfl (fun ls hl => ?_)
          refine lv_goto (tgt := 2) hx hb dX5_canBeLaid_30 (by decide) ?_
          exact ih2 (v2_1 + 1) he _ _ _ hP hD hS (lv_sub hl [0, 1] rfl)
        · replace he := he.trans (if_neg c4)
          refine lv_iconst (v := 0) hx hb dX5_canBeLaid_25 (by decide) ?_
          exact hret (0 : Int32) () _ _ _ _ dX5_canBeLaid_26 (Or.inl rfl) he hP hD hS
  refine lv_iconst (v := 0) hx hb dX5_canBeLaid_0 (by decide) ?_
  refine lv_istore_n (lv' := [(1, .int (0 : Int32)), (0, .ref t)]) hx hb dX5_canBeLaid_1 rfl hl (by decide) rfl (fun ls hl => ?_)
  exact L2_13 F (0 : Int32) he _ _ _ hP hD hS (lv_sub hl [0, 1] rfl)

def fX5_isCheese (ti_6 : Int32) (a1 : Int32) : Option (Int32) :=
  if ((ti_6 >>> (a1 &&& 31)) &&& (1 : Int32)) = (1 : Int32) then (some (1 : Int32)) else (some (0 : Int32))
theorem hi_X5_isCheese_5 : ∀ w ∈ wsX50, w ∈ wsX5_isCheese := fun _ h => (List.mem_cons_of_mem _ (List.mem_append_right _ h))
def W_X5_isCheese (cI cP : ClassId) (t : Nat) (tr : Nat → Nat) (ta : Nat → Nat) (ti_4 : Int32) (ti_5 : Int32) (ti_6 : Int32) (ti_7 : Int32) (ti_8 : Int32) (ti_9 : Int32) (ti_10 : Int32) (tk_0 : Nat → Int32) (tk_1 : Nat → Int32) (tk_2 : Nat → Int32) (tk_3 : Nat → Int32) : va_W := (wTold cI t tr ta ti_4 ti_5 ti_6 ti_7 ti_8 ti_9 ti_10 tk_0 tk_1 tk_2 tk_3)
theorem W_X5_isCheese_o0 {cI cP : ClassId} {t : Nat} {tr : Nat → Nat} {ta : Nat → Nat} {ti_4 : Int32} {ti_5 : Int32} {ti_6 : Int32} {ti_7 : Int32} {ti_8 : Int32} {ti_9 : Int32} {ti_10 : Int32} {tk_0 : Nat → Int32} {tk_1 : Nat → Int32} {tk_2 : Nat → Int32} {tk_3 : Nat → Int32} : (W_X5_isCheese cI cP t tr ta ti_4 ti_5 ti_6 ti_7 ti_8 ti_9 ti_10 tk_0 tk_1 tk_2 tk_3)[0]? = some (t, .inr (5, [.ref (tr 0), .ref (tr 1), .ref (tr 2), .ref (tr 3), .int ti_4, .int ti_5, .int ti_6, .int ti_7, .int ti_8, .int ti_9, .int ti_10])) := rfl
set_option maxHeartbeats 4000000 in
set_option maxRecDepth 100000 in
theorem c_X5_isCheese (l : Launch) (D : va_G) (cI cP : ClassId) (sz : Nat) (t : Nat) (tr : Nat → Nat) (ta : Nat → Nat) (ti_4 : Int32) (ti_5 : Int32) (ti_6 : Int32) (ti_7 : Int32) (ti_8 : Int32) (ti_9 : Int32) (ti_10 : Int32) (tk_0 : Nat → Int32) (tk_1 : Nat → Int32) (tk_2 : Nat → Int32) (tk_3 : Nat → Int32) (a1 : Int32) (hne : fX5_isCheese ti_6 a1 ≠ none) : xMi l yX5_isCheese wsX5_isCheese ({ frames := 0, cells := 0, slots := 0, locals := 0 } : Room) D (xT cI cP) [.ref t, .int a1] (W_X5_isCheese cI cP t tr ta ti_4 ti_5 ti_6 ti_7 ti_8 ti_9 ti_10 tk_0 tk_1 tk_2 tk_3) sz (fun r (_ : Unit) => fX5_isCheese ti_6 a1 = some r) (fun u => W_X5_isCheese cI cP t tr ta ti_4 ti_5 ti_6 ti_7 ti_8 ti_9 ti_10 tk_0 tk_1 tk_2 tk_3) 0 0 := by
  refine xMz_of (cc := cX5_isCheese) (maxL := 2) (by decide +kernel) rfl (Nat.le_of_ble_eq_true rfl) ?_
  intro p e s m args below meth c A ls hx hb hml hown hts hname hN hK hA hP hD hS hl Q hret
  have he := fX5_isCheese.eq_1 ti_6 a1
  have hl : lv_has ls 2 [(0, .ref t), (1, .int a1)] := hl
  refine lv_aload_n hx hb dX5_isCheese_0 rfl (lv_at hl 0 rfl) ?_
  refine va_get (D := D) (ci := 5) (v := .int ti_6) (C := RX5) (T := TX5) (N := 11) hx hb hts hi_X5_isCheese_5 hown hK hP 0 W_X5_isCheese_o0 rfl 6 (by decide) (hts (.fieldLink RX5 49 "BlindLanterns$Told" "cheeses" "I") (List.mem_of_getElem? (i := 1) rfl)) (fun _ h9 => h9) rfl dX5_isCheese_1 ?_
  refine lv_iload_n hx hb dX5_isCheese_4 rfl (lv_at hl 1 rfl) ?_
  refine lv_ishr hx hb dX5_isCheese_5 ?_
  refine lv_iconst (v := 1) hx hb dX5_isCheese_6 (by decide) ?_
  refine lv_iand hx hb dX5_isCheese_7 ?_
  refine lv_iconst (v := 1) hx hb dX5_isCheese_8 (by decide) ?_
  refine lv_icmp_ne (tgt := 16) hx hb dX5_isCheese_9 (by decide) (fun c1 => ?_) (fun c1 => ?_)
  · replace he := he.trans (if_neg c1)
    refine lv_iconst (v := 0) hx hb dX5_isCheese_16 (by decide) ?_
    exact hret (0 : Int32) () _ _ _ _ dX5_isCheese_17 (Or.inl rfl) he hP hD hS
  · replace he := he.trans (if_pos c1)
    refine lv_iconst (v := 1) hx hb dX5_isCheese_12 (by decide) ?_
    refine lv_goto (tgt := 17) hx hb dX5_isCheese_13 (by decide) ?_
    exact hret (1 : Int32) () _ _ _ _ dX5_isCheese_17 (Or.inr rfl) he hP hD hS

def fX5_withOil_L4 (ti_4 : Int32) (tk_1 : Nat → Int32) (k4 : Int32 → Int32 → Option (Int32)) : Nat → Int32 → Int32 → Option (Int32)
  | 0, _, _ => none
  | n4 + 1, v4_2, v4_1 => if ti_4 ≤ v4_2 then (k4 v4_2 v4_1) else (xbd (fX3_get tk_1 v4_2 6) (fun (r17 : Int32) => if r17 ≤ 0 then (fX5_withOil_L4 ti_4 tk_1 k4 n4 (v4_2 + 1) v4_1) else (fX5_withOil_L4 ti_4 tk_1 k4 n4 (v4_2 + 1) (v4_1 ||| ((1 : Int32) <<< (v4_2 &&& 31))))))
def fX5_withOil (F : Nat) (ti_4 : Int32) (tk_1 : Nat → Int32) : Option (Int32) :=
  fX5_withOil_L4 ti_4 tk_1 (fun (v4_2 : Int32) (v4_1 : Int32) => some v4_1) F (0 : Int32) (0 : Int32)
theorem hi_X5_withOil_5 : ∀ w ∈ wsX50, w ∈ wsX5_withOil := fun _ h => (List.mem_cons_of_mem _ (List.mem_append_left _ (List.mem_append_right _ h)))
def W_X5_withOil (cI cP : ClassId) (t : Nat) (tr : Nat → Nat) (ta : Nat → Nat) (ti_4 : Int32) (ti_5 : Int32) (ti_6 : Int32) (ti_7 : Int32) (ti_8 : Int32) (ti_9 : Int32) (ti_10 : Int32) (tk_0 : Nat → Int32) (tk_1 : Nat → Int32) (tk_2 : Nat → Int32) (tk_3 : Nat → Int32) : va_W := (wTold cI t tr ta ti_4 ti_5 ti_6 ti_7 ti_8 ti_9 ti_10 tk_0 tk_1 tk_2 tk_3)
theorem W_X5_withOil_o0 {cI cP : ClassId} {t : Nat} {tr : Nat → Nat} {ta : Nat → Nat} {ti_4 : Int32} {ti_5 : Int32} {ti_6 : Int32} {ti_7 : Int32} {ti_8 : Int32} {ti_9 : Int32} {ti_10 : Int32} {tk_0 : Nat → Int32} {tk_1 : Nat → Int32} {tk_2 : Nat → Int32} {tk_3 : Nat → Int32} : (W_X5_withOil cI cP t tr ta ti_4 ti_5 ti_6 ti_7 ti_8 ti_9 ti_10 tk_0 tk_1 tk_2 tk_3)[0]? = some (t, .inr (5, [.ref (tr 0), .ref (tr 1), .ref (tr 2), .ref (tr 3), .int ti_4, .int ti_5, .int ti_6, .int ti_7, .int ti_8, .int ti_9, .int ti_10])) := rfl
theorem W_X5_withOil_c_X3_get_3_4 {cI cP : ClassId} {t : Nat} {tr : Nat → Nat} {ta : Nat → Nat} {ti_4 : Int32} {ti_5 : Int32} {ti_6 : Int32} {ti_7 : Int32} {ti_8 : Int32} {ti_9 : Int32} {ti_10 : Int32} {tk_0 : Nat → Int32} {tk_1 : Nat → Int32} {tk_2 : Nat → Int32} {tk_3 : Nat → Int32} : ([3, 4] : List Nat).map (fun i => (W_X5_withOil cI cP t tr ta ti_4 ti_5 ti_6 ti_7 ti_8 ti_9 ti_10 tk_0 tk_1 tk_2 tk_3)[i]?) = (W_X3_get cI cP (tr 1) (ta 1) 6 tk_1).map some := rfl
theorem W_X5_withOil_x_X3_get_3_4 {cI cP : ClassId} {t : Nat} {tr : Nat → Nat} {ta : Nat → Nat} {ti_4 : Int32} {ti_5 : Int32} {ti_6 : Int32} {ti_7 : Int32} {ti_8 : Int32} {ti_9 : Int32} {ti_10 : Int32} {tk_0 : Nat → Int32} {tk_1 : Nat → Int32} {tk_2 : Nat → Int32} {tk_3 : Nat → Int32} : xset (W_X5_withOil cI cP t tr ta ti_4 ti_5 ti_6 ti_7 ti_8 ti_9 ti_10 tk_0 tk_1 tk_2 tk_3) [3, 4] (W_X3_get cI cP (tr 1) (ta 1) 6 tk_1) = W_X5_withOil cI cP t tr ta ti_4 ti_5 ti_6 ti_7 ti_8 ti_9 ti_10 tk_0 tk_1 tk_2 tk_3 := rfl
theorem W_X5_withOil_o3 {cI cP : ClassId} {t : Nat} {tr : Nat → Nat} {ta : Nat → Nat} {ti_4 : Int32} {ti_5 : Int32} {ti_6 : Int32} {ti_7 : Int32} {ti_8 : Int32} {ti_9 : Int32} {ti_10 : Int32} {tk_0 : Nat → Int32} {tk_1 : Nat → Int32} {tk_2 : Nat → Int32} {tk_3 : Nat → Int32} : (W_X5_withOil cI cP t tr ta ti_4 ti_5 ti_6 ti_7 ti_8 ti_9 ti_10 tk_0 tk_1 tk_2 tk_3)[3]? = some ((tr 1), .inr (3, [.ref (ta 1)])) := rfl
set_option maxHeartbeats 4000000 in
set_option maxRecDepth 100000 in
theorem c_X5_withOil (l : Launch) (D : va_G) (cI cP : ClassId) (sz : Nat) (t : Nat) (tr : Nat → Nat) (ta : Nat → Nat) (ti_4 : Int32) (ti_5 : Int32) (ti_6 : Int32) (ti_7 : Int32) (ti_8 : Int32) (ti_9 : Int32) (ti_10 : Int32) (tk_0 : Nat → Int32) (tk_1 : Nat → Int32) (tk_2 : Nat → Int32) (tk_3 : Nat → Int32) (F : Nat) (hne : fX5_withOil F ti_4 tk_1 ≠ none) : xMi l yX5_withOil wsX5_withOil ({ frames := 1, cells := 0, slots := 0, locals := 21 } : Room) D (xT cI cP) [.ref t] (W_X5_withOil cI cP t tr ta ti_4 ti_5 ti_6 ti_7 ti_8 ti_9 ti_10 tk_0 tk_1 tk_2 tk_3) sz (fun r (_ : Unit) => fX5_withOil F ti_4 tk_1 = some r) (fun u => W_X5_withOil cI cP t tr ta ti_4 ti_5 ti_6 ti_7 ti_8 ti_9 ti_10 tk_0 tk_1 tk_2 tk_3) 0 0 := by
  refine xMi_of (cc := cX5_withOil) (maxL := 3) (by decide +kernel) rfl (Nat.le_of_ble_eq_true rfl) ?_
  intro p e s m args below meth c A ls hx hb hml hown hts hname hN hK hA hP hD hS hl Q hret
  have he := fX5_withOil.eq_1 F ti_4 tk_1
  have hl : lv_has ls 3 [(0, .ref t)] := hl
  have R4_0 : ∀ (v4_2 : Int32) (v4_1 : Int32), fX5_withOil F ti_4 tk_1 = (some v4_1) → ∀ (H : Heap) (locs : List Loc) (ls : Array Slot), va_P D vwCl (W_X5_withOil cI cP t tr ta ti_4 ti_5 ti_6 ti_7 ti_8 ti_9 ti_10 tk_0 tk_1 tk_2 tk_3) H → va_D A (W_X5_withOil cI cP t tr ta ti_4 ti_5 ti_6 ti_7 ti_8 ti_9 ti_10 tk_0 tk_1 tk_2 tk_3) → va_S A s.heap H locs → lv_has ls 3 [(1, .int v4_1)] → W p l e ({ frames := 1, cells := 0, slots := 0, locals := 21 } : Room) s m args below meth c H locs 0 0 Q (F0 m 35 ls []) := by
    intro v4_2 v4_1 he H locs ls hP hD hS hl
    refine lv_iload_n hx hb dX5_withOil_35 rfl (lv_at hl 0 rfl) ?_
    exact hret v4_1 () _ _ _ _ dX5_withOil_36 he hP hD hS
  have L4_4 : ∀ (n4 : Nat) (v4_2 : Int32) (v4_1 : Int32), fX5_withOil F ti_4 tk_1 = fX5_withOil_L4 ti_4 tk_1 (fun (v4_2 : Int32) (v4_1 : Int32) => some v4_1) n4 v4_2 v4_1 → ∀ (H : Heap) (locs : List Loc) (ls : Array Slot), va_P D vwCl (W_X5_withOil cI cP t tr ta ti_4 ti_5 ti_6 ti_7 ti_8 ti_9 ti_10 tk_0 tk_1 tk_2 tk_3) H → va_D A (W_X5_withOil cI cP t tr ta ti_4 ti_5 ti_6 ti_7 ti_8 ti_9 ti_10 tk_0 tk_1 tk_2 tk_3) → va_S A s.heap H locs → lv_has ls 3 [(2, .int v4_2), (1, .int v4_1), (0, .ref t)] → W p l e ({ frames := 1, cells := 0, slots := 0, locals := 21 } : Room) s m args below meth c H locs 0 0 Q (F0 m 4 ls []) := by
    intro n4
    induction n4 with
    | zero => intro v4_2 v4_1 he; exact absurd he hne
    | succ n4 ih4 =>
      intro v4_2 v4_1 he H locs ls hP hD hS hl
      replace he := he.trans (fX5_withOil_L4.eq_2 _ _ _ _ _ _)
      refine lv_iload_n hx hb dX5_withOil_4 rfl (lv_at hl 0 rfl) ?_
      refine lv_aload_n hx hb dX5_withOil_5 rfl (lv_at hl 2 rfl) ?_
      refine va_get (D := D) (ci := 5) (v := .int ti_4) (C := RX5) (T := TX5) (N := 11) hx hb hts hi_X5_withOil_5 hown hK hP 0 W_X5_withOil_o0 rfl 4 (by decide) (hts (.fieldLink RX5 43 "BlindLanterns$Told" "men" "I") (List.mem_of_getElem? (i := 1) rfl)) (fun _ h9 => h9) rfl dX5_withOil_6 ?_
      refine lv_icmp_ge (tgt := 35) hx hb dX5_withOil_9 (by decide) (fun c1 => ?_) (fun c1 => ?_)
      · replace he := he.trans (if_pos c1)
        exact R4_0 v4_2 v4_1 he _ _ _ hP hD hS (lv_sub hl [1] rfl)
      · replace he := he.trans (if_neg c1)
        refine lv_aload_n hx hb dX5_withOil_12 rfl (lv_at hl 2 rfl) ?_
        refine va_get (D := D) (ci := 5) (v := .ref (tr 1)) (C := RX5) (T := TX5) (N := 11) hx hb hts hi_X5_withOil_5 hown hK hP 0 W_X5_withOil_o0 rfl 1 (by decide) (hts (.fieldLink RX5 20 "BlindLanterns$Told" "oilAtFirst" "LBlindLanterns$Row;") (List.mem_of_getElem? (i := 2) rfl)) (fun _ h9 => h9) rfl dX5_withOil_13 ?_
        refine lv_iload_n hx hb dX5_withOil_16 rfl (lv_at hl 0 rfl) ?_
        have n2_ : fX3_get tk_1 v4_2 6 ≠ none := fun z => hne (he.trans (xbd_none z))
        refine xci (va_runV (As := [.int v4_2]) (rest := []) ⟨hx, hb, hml, hown, hts⟩ (c_X3_get l D cI cP H.size (tr 1) (ta 1) 6 tk_1 v4_2 n2_) (cwV 1 hts gX5_withOil_X3_get rfl rfl rfl (by decide +kernel) ⟨Nat.le_of_ble_eq_true rfl, Nat.le_of_ble_eq_true rfl⟩) (xPV hN hK hP hD [3, 4] W_X5_withOil_c_X3_get_3_4 (by decide) (ci := 3) (j := 3) rfl W_X5_withOil_o3) rfl rfl hl.1 rfl (lv_room (Nat.le_of_ble_eq_true rfl)) dX5_withOil_17 ⟨Nat.le_of_ble_eq_true rfl, Nat.le_of_ble_eq_true rfl⟩) hP hD hS hA [3, 4] W_X5_withOil_c_X3_get_3_4 (fun _ => rfl) (fun r17 u17 H locs hw hP hD hS => ?_)
        rw [W_X5_withOil_x_X3_get_3_4] at hP hD
        replace he := he.trans (xbd_some hw)
        refine lv_if_le (tgt := 29) hx hb dX5_withOil_20 (by decide) (fun c3 => ?_) (fun c3 => ?_)
        · replace he := he.trans (if_pos c3)
          refine lv_iinc (v := (v4_2 + 1)) (lv' := [(2, .int (v4_2 + 1)), (1, .int v4_1), (0, .ref t)]) hx hb dX5_withOil_29 hl (k := 0) rfl rfl (by decide) rfl (fun ls hl => ?_)
          refine lv_goto (tgt := 4) hx hb dX5_withOil_32 (by decide) ?_
          exact ih4 (v4_2 + 1) v4_1 he _ _ _ hP hD hS (lv_sub hl [0, 1, 2] rfl)
        · replace he := he.trans (if_neg c3)
          refine lv_iload_n hx hb dX5_withOil_23 rfl (lv_at hl 1 rfl) ?_
          refine lv_iconst (v := 1) hx hb dX5_withOil_24 (by decide) ?_
          refine lv_iload_n hx hb dX5_withOil_25 rfl (lv_at hl 0 rfl) ?_
          refine lv_ishl hx hb dX5_withOil_26 ?_
          refine lv_ior hx hb dX5_withOil_27 ?_
          refine lv_istore_n (lv' := [(1, .int (v4_1 ||| ((1 : Int32) <<< (v4_2 &&& 31)))), (2, .int v4_2), (0, .ref t)]) hx hb dX5_withOil_28 rfl hl (by decide) rfl (fun ls hl => ?_)
          refine lv_iinc (v := (v4_2 + 1)) (lv' := [(2, .int (v4_2 + 1)), (1, .int (v4_1 ||| ((1 : Int32) <<< (v4_2 &&& 31)))), (0, .ref t)]) hx hb dX5_withOil_29 hl (k := 1) rfl rfl (by decide) rfl (fun ls hl => ?_)
          refine lv_goto (tgt := 4) hx hb dX5_withOil_32 (by decide) ?_
          exact ih4 (v4_2 + 1) (v4_1 ||| ((1 : Int32) <<< (v4_2 &&& 31))) he _ _ _ hP hD hS (lv_sub hl [0, 1, 2] rfl)
  refine lv_iconst (v := 0) hx hb dX5_withOil_0 (by decide) ?_
  refine lv_istore_n (lv' := [(1, .int (0 : Int32)), (0, .ref t)]) hx hb dX5_withOil_1 rfl hl (by decide) rfl (fun ls hl => ?_)
  refine lv_iconst (v := 0) hx hb dX5_withOil_2 (by decide) ?_
  refine lv_istore_n (lv' := [(2, .int (0 : Int32)), (1, .int (0 : Int32)), (0, .ref t)]) hx hb dX5_withOil_3 rfl hl (by decide) rfl (fun ls hl => ?_)
  exact L4_4 F (0 : Int32) (0 : Int32) he _ _ _ hP hD hS (lv_sub hl [0, 1, 2] rfl)

def fX5_bellsNeeded_L3 (ti_4 : Int32) (ti_7 : Int32) (a1 : Int32) (a2 : Int32) (k3 : Int32 → Option (Int32)) : Nat → Int32 → Option (Int32)
  | 0, _ => none
  | n3 + 1, v3_4 => if v3_4 < 0 then (k3 v3_4) else (xbd (fX5_round ti_4 (a1 + (v3_4 * ti_7))) (fun (r19 : Int32) => if ((a2 >>> (r19 &&& 31)) &&& (1 : Int32)) = (1 : Int32) then (some (v3_4 + (1 : Int32))) else (fX5_bellsNeeded_L3 ti_4 ti_7 a1 a2 k3 n3 (v3_4 + (-1)))))
def fX5_bellsNeeded (F : Nat) (ti_4 : Int32) (ti_7 : Int32) (a1 : Int32) (a2 : Int32) (a3 : Int32) : Option (Int32) :=
  fX5_bellsNeeded_L3 ti_4 ti_7 a1 a2 (fun (v3_4 : Int32) => some (0 : Int32)) F a3
theorem hi_X5_bellsNeeded_5 : ∀ w ∈ wsX50, w ∈ wsX5_bellsNeeded := fun _ h => (List.mem_cons_of_mem _ (List.mem_append_right _ h))
def W_X5_bellsNeeded (cI cP : ClassId) (t : Nat) (tr : Nat → Nat) (ta : Nat → Nat) (ti_4 : Int32) (ti_5 : Int32) (ti_6 : Int32) (ti_7 : Int32) (ti_8 : Int32) (ti_9 : Int32) (ti_10 : Int32) (tk_0 : Nat → Int32) (tk_1 : Nat → Int32) (tk_2 : Nat → Int32) (tk_3 : Nat → Int32) : va_W := (wTold cI t tr ta ti_4 ti_5 ti_6 ti_7 ti_8 ti_9 ti_10 tk_0 tk_1 tk_2 tk_3)
theorem W_X5_bellsNeeded_o0 {cI cP : ClassId} {t : Nat} {tr : Nat → Nat} {ta : Nat → Nat} {ti_4 : Int32} {ti_5 : Int32} {ti_6 : Int32} {ti_7 : Int32} {ti_8 : Int32} {ti_9 : Int32} {ti_10 : Int32} {tk_0 : Nat → Int32} {tk_1 : Nat → Int32} {tk_2 : Nat → Int32} {tk_3 : Nat → Int32} : (W_X5_bellsNeeded cI cP t tr ta ti_4 ti_5 ti_6 ti_7 ti_8 ti_9 ti_10 tk_0 tk_1 tk_2 tk_3)[0]? = some (t, .inr (5, [.ref (tr 0), .ref (tr 1), .ref (tr 2), .ref (tr 3), .int ti_4, .int ti_5, .int ti_6, .int ti_7, .int ti_8, .int ti_9, .int ti_10])) := rfl
theorem W_X5_bellsNeeded_c_X5_round_0_1_2_3_4_5_6_7_8 {cI cP : ClassId} {t : Nat} {tr : Nat → Nat} {ta : Nat → Nat} {ti_4 : Int32} {ti_5 : Int32} {ti_6 : Int32} {ti_7 : Int32} {ti_8 : Int32} {ti_9 : Int32} {ti_10 : Int32} {tk_0 : Nat → Int32} {tk_1 : Nat → Int32} {tk_2 : Nat → Int32} {tk_3 : Nat → Int32} : ([0, 1, 2, 3, 4, 5, 6, 7, 8] : List Nat).map (fun i => (W_X5_bellsNeeded cI cP t tr ta ti_4 ti_5 ti_6 ti_7 ti_8 ti_9 ti_10 tk_0 tk_1 tk_2 tk_3)[i]?) = (W_X5_round cI cP t tr ta ti_4 ti_5 ti_6 ti_7 ti_8 ti_9 ti_10 tk_0 tk_1 tk_2 tk_3).map some := rfl
theorem W_X5_bellsNeeded_x_X5_round_0_1_2_3_4_5_6_7_8 {cI cP : ClassId} {t : Nat} {tr : Nat → Nat} {ta : Nat → Nat} {ti_4 : Int32} {ti_5 : Int32} {ti_6 : Int32} {ti_7 : Int32} {ti_8 : Int32} {ti_9 : Int32} {ti_10 : Int32} {tk_0 : Nat → Int32} {tk_1 : Nat → Int32} {tk_2 : Nat → Int32} {tk_3 : Nat → Int32} : xset (W_X5_bellsNeeded cI cP t tr ta ti_4 ti_5 ti_6 ti_7 ti_8 ti_9 ti_10 tk_0 tk_1 tk_2 tk_3) [0, 1, 2, 3, 4, 5, 6, 7, 8] (W_X5_round cI cP t tr ta ti_4 ti_5 ti_6 ti_7 ti_8 ti_9 ti_10 tk_0 tk_1 tk_2 tk_3) = W_X5_bellsNeeded cI cP t tr ta ti_4 ti_5 ti_6 ti_7 ti_8 ti_9 ti_10 tk_0 tk_1 tk_2 tk_3 := rfl
set_option maxHeartbeats 4000000 in
set_option maxRecDepth 100000 in
theorem c_X5_bellsNeeded (l : Launch) (D : va_G) (cI cP : ClassId) (sz : Nat) (t : Nat) (tr : Nat → Nat) (ta : Nat → Nat) (ti_4 : Int32) (ti_5 : Int32) (ti_6 : Int32) (ti_7 : Int32) (ti_8 : Int32) (ti_9 : Int32) (ti_10 : Int32) (tk_0 : Nat → Int32) (tk_1 : Nat → Int32) (tk_2 : Nat → Int32) (tk_3 : Nat → Int32) (F : Nat) (a1 : Int32) (a2 : Int32) (a3 : Int32) (hne : fX5_bellsNeeded F ti_4 ti_7 a1 a2 a3 ≠ none) : xMi l yX5_bellsNeeded wsX5_bellsNeeded ({ frames := 2, cells := 0, slots := 0, locals := 43 } : Room) D (xT cI cP) [.ref t, .int a1, .int a2, .int a3] (W_X5_bellsNeeded cI cP t tr ta ti_4 ti_5 ti_6 ti_7 ti_8 ti_9 ti_10 tk_0 tk_1 tk_2 tk_3) sz (fun r (_ : Unit) => fX5_bellsNeeded F ti_4 ti_7 a1 a2 a3 = some r) (fun u => W_X5_bellsNeeded cI cP t tr ta ti_4 ti_5 ti_6 ti_7 ti_8 ti_9 ti_10 tk_0 tk_1 tk_2 tk_3) 0 0 := by
  refine xMi_of (cc := cX5_bellsNeeded) (maxL := 5) (by decide +kernel) rfl (Nat.le_of_ble_eq_true rfl) ?_
  intro p e s m args below meth c A ls hx hb hml hown hts hname hN hK hA hP hD hS hl Q hret
  have he := fX5_bellsNeeded.eq_1 F ti_4 ti_7 a1 a2 a3
  have hl : lv_has ls 5 [(0, .ref t), (1, .int a1), (2, .int a2), (3, .int a3)] := hl
  have R3_0 : ∀ (v3_4 : Int32), fX5_bellsNeeded F ti_4 ti_7 a1 a2 a3 = (some (0 : Int32)) → ∀ (H : Heap) (locs : List Loc) (ls : Array Slot), va_P D vwCl (W_X5_bellsNeeded cI cP t tr ta ti_4 ti_5 ti_6 ti_7 ti_8 ti_9 ti_10 tk_0 tk_1 tk_2 tk_3) H → va_D A (W_X5_bellsNeeded cI cP t tr ta ti_4 ti_5 ti_6 ti_7 ti_8 ti_9 ti_10 tk_0 tk_1 tk_2 tk_3) → va_S A s.heap H locs → lv_has ls 5 [] → W p l e ({ frames := 2, cells := 0, slots := 0, locals := 43 } : Room) s m args below meth c H locs 0 0 Q (F0 m 40 ls []) := by
    intro v3_4 he H locs ls hP hD hS hl
    refine lv_iconst (v := 0) hx hb dX5_bellsNeeded_40 (by decide) ?_
    exact hret (0 : Int32) () _ _ _ _ dX5_bellsNeeded_41 he hP hD hS
  have L3_4 : ∀ (n3 : Nat) (v3_4 : Int32), fX5_bellsNeeded F ti_4 ti_7 a1 a2 a3 = fX5_bellsNeeded_L3 ti_4 ti_7 a1 a2 (fun (v3_4 : Int32) => some (0 : Int32)) n3 v3_4 → ∀ (H : Heap) (locs : List Loc) (ls : Array Slot), va_P D vwCl (W_X5_bellsNeeded cI cP t tr ta ti_4 ti_5 ti_6 ti_7 ti_8 ti_9 ti_10 tk_0 tk_1 tk_2 tk_3) H → va_D A (W_X5_bellsNeeded cI cP t tr ta ti_4 ti_5 ti_6 ti_7 ti_8 ti_9 ti_10 tk_0 tk_1 tk_2 tk_3) → va_S A s.heap H locs → lv_has ls 5 [(4, .int v3_4), (0, .ref t), (1, .int a1), (2, .int a2)] → W p l e ({ frames := 2, cells := 0, slots := 0, locals := 43 } : Room) s m args below meth c H locs 0 0 Q (F0 m 3 ls []) := by
    intro n3
    induction n3 with
    | zero => intro v3_4 he; exact absurd he hne
    | succ n3 ih3 =>
      intro v3_4 he H locs ls hP hD hS hl
      replace he := he.trans (fX5_bellsNeeded_L3.eq_2 _ _ _ _ _ _ _)
      refine lv_iload hx hb dX5_bellsNeeded_3 (lv_at hl 0 rfl) ?_
      refine lv_if_lt (tgt := 40) hx hb dX5_bellsNeeded_5 (by decide) (fun c1 => ?_) (fun c1 => ?_)
      · replace he := he.trans (if_pos c1)
        exact R3_0 v3_4 he _ _ _ hP hD hS (lv_sub hl [] rfl)
      · replace he := he.trans (if_neg c1)
        refine lv_iload_n hx hb dX5_bellsNeeded_8 rfl (lv_at hl 3 rfl) ?_
        refine lv_aload_n hx hb dX5_bellsNeeded_9 rfl (lv_at hl 1 rfl) ?_
        refine lv_iload_n hx hb dX5_bellsNeeded_10 rfl (lv_at hl 2 rfl) ?_
        refine lv_iload hx hb dX5_bellsNeeded_11 (lv_at hl 0 rfl) ?_
        refine lv_aload_n hx hb dX5_bellsNeeded_13 rfl (lv_at hl 1 rfl) ?_
        refine va_get (D := D) (ci := 5) (v := .int ti_7) (C := RX5) (T := TX5) (N := 11) hx hb hts hi_X5_bellsNeeded_5 hown hK hP 0 W_X5_bellsNeeded_o0 rfl 7 (by decide) (hts (.fieldLink RX5 29 "BlindLanterns$Told" "step" "I") (List.mem_of_getElem? (i := 1) rfl)) (fun _ h9 => h9) rfl dX5_bellsNeeded_14 ?_
        refine lv_imul hx hb dX5_bellsNeeded_17 ?_
        refine lv_iadd hx hb dX5_bellsNeeded_18 ?_
        have n2_ : fX5_round ti_4 (a1 + (v3_4 * ti_7)) ≠ none := fun z => hne (he.trans (xbd_none z))
        refine xci (va_runV (As := [.int (a1 + (v3_4 * ti_7))]) (rest := [.int a2]) ⟨hx, hb, hml, hown, hts⟩ (c_X5_round l D cI cP H.size t tr ta ti_4 ti_5 ti_6 ti_7 ti_8 ti_9 ti_10 tk_0 tk_1 tk_2 tk_3 (a1 + (v3_4 * ti_7)) n2_) (cwV 1 hts gX5_bellsNeeded_X5_round rfl rfl rfl (by decide +kernel) ⟨Nat.le_of_ble_eq_true rfl, Nat.le_of_ble_eq_true rfl⟩) (xPV hN hK hP hD [0, 1, 2, 3, 4, 5, 6, 7, 8] W_X5_bellsNeeded_c_X5_round_0_1_2_3_4_5_6_7_8 (by decide) (ci := 5) (j := 0) rfl W_X5_bellsNeeded_o0) rfl rfl hl.1 rfl (lv_room (Nat.le_of_ble_eq_true rfl)) dX5_bellsNeeded_19 ⟨Nat.le_of_ble_eq_true rfl, Nat.le_of_ble_eq_true rfl⟩) hP hD hS hA [0, 1, 2, 3, 4, 5, 6, 7, 8] W_X5_bellsNeeded_c_X5_round_0_1_2_3_4_5_6_7_8 (fun _ => rfl) (fun r19 u19 H locs hw hP hD hS => ?_)
        rw [W_X5_bellsNeeded_x_X5_round_0_1_2_3_4_5_6_7_8] at hP hD
        replace he := he.trans (xbd_some hw)
        refine lv_ishr hx hb dX5_bellsNeeded_22 ?_
        refine lv_iconst (v := 1) hx hb dX5_bellsNeeded_23 (by decide) ?_
        refine lv_iand hx hb dX5_bellsNeeded_24 ?_
        refine lv_iconst (v := 1) hx hb dX5_bellsNeeded_25 (by decide) ?_
        refine lv_icmp_ne (tgt := 34) hx hb dX5_bellsNeeded_26 (by decide) (fun c3 => ?_) (fun c3 => ?_)
        · replace he := he.trans (if_neg c3)
          refine lv_iinc (v := (v3_4 + (-1))) (lv' := [(4, .int (v3_4 + (-1))), (0, .ref t), (1, .int a1), (2, .int a2)]) hx hb dX5_bellsNeeded_34 hl (k := 0) rfl rfl (by decide) rfl (fun ls hl => ?_)
          refine lv_goto (tgt := 3) hx hb dX5_bellsNeeded_37 (by decide) ?_
          exact ih3 (v3_4 + (-1)) he _ _ _ hP hD hS (lv_sub hl [0, 1, 2, 3] rfl)
        · replace he := he.trans (if_pos c3)
          refine lv_iload hx hb dX5_bellsNeeded_29 (lv_at hl 0 rfl) ?_
          refine lv_iconst (v := 1) hx hb dX5_bellsNeeded_31 (by decide) ?_
          refine lv_iadd hx hb dX5_bellsNeeded_32 ?_
          exact hret (v3_4 + (1 : Int32)) () _ _ _ _ dX5_bellsNeeded_33 he hP hD hS
  refine lv_iload_n hx hb dX5_bellsNeeded_0 rfl (lv_at hl 3 rfl) ?_
  refine lv_istore (lv' := [(4, .int a3), (0, .ref t), (1, .int a1), (2, .int a2), (3, .int a3)]) hx hb dX5_bellsNeeded_1 hl (by decide) rfl (fun ls hl => ?_)
  exact L3_4 F a3 he _ _ _ hP hD hS (lv_sub hl [0, 1, 2, 3] rfl)

def fX5_reckonDraughts_L25 (ti_4 : Int32) (ti_7 : Int32) (ti_8 : Int32) (tk_2 : Nat → Int32) (tk_3 : Nat → Int32) (a1 : Int32) (gn : Nat) (k25 : Int32 → (Nat → Int32) → Option ((Nat → Int32))) : Nat → Int32 → (Nat → Int32) → Option ((Nat → Int32))
  | 0, _, _ => none
  | n25 + 1, v25_3, w25_gf => if ti_8 ≤ v25_3 then (k25 v25_3 w25_gf) else (xbd (fX3_get tk_2 v25_3 6) (fun (r38 : Int32) => if (r38 - a1) < (1 : Int32) then (fX5_reckonDraughts_L25 ti_4 ti_7 ti_8 tk_2 tk_3 a1 gn k25 n25 (v25_3 + 1) w25_gf) else (xbd (fX3_get tk_3 v25_3 6) (fun (r57 : Int32) => xbd (fX5_postBefore ti_4 ti_7 r57 (r38 - a1)) (fun (r62 : Int32) => xbd (fX3_get w25_gf r62 gn) (fun (r75 : Int32) => xbd (fX3_set w25_gf r62 (if r75 < (r38 - a1) then r75 else (r38 - a1)) gn) (fun (u81 : (Nat → Int32)) => fX5_reckonDraughts_L25 ti_4 ti_7 ti_8 tk_2 tk_3 a1 gn k25 n25 (v25_3 + 1) u81)))))))
def fX5_reckonDraughts_L2 (ti_4 : Int32) (gn : Nat) (k2 : Int32 → (Nat → Int32) → Option ((Nat → Int32))) : Nat → Int32 → (Nat → Int32) → Option ((Nat → Int32))
  | 0, _, _ => none
  | n2 + 1, v2_3, w2_gf => if ti_4 ≤ v2_3 then (k2 v2_3 w2_gf) else (xbd (fX3_set w2_gf v2_3 (1000000 : Int32) gn) (fun (u14 : (Nat → Int32)) => fX5_reckonDraughts_L2 ti_4 gn k2 n2 (v2_3 + 1) u14))
def fX5_reckonDraughts (F : Nat) (ti_4 : Int32) (ti_7 : Int32) (ti_8 : Int32) (tk_2 : Nat → Int32) (tk_3 : Nat → Int32) (gf : Nat → Int32) (a1 : Int32) (gn : Nat) : Option ((Nat → Int32)) :=
  fX5_reckonDraughts_L2 ti_4 gn (fun (v2_3 : Int32) (w2_gf : Nat → Int32) => fX5_reckonDraughts_L25 ti_4 ti_7 ti_8 tk_2 tk_3 a1 gn (fun (v25_3 : Int32) (w25_gf : Nat → Int32) => some w25_gf) F (0 : Int32) w2_gf) F (0 : Int32) gf
theorem hi_X5_reckonDraughts_5 : ∀ w ∈ wsX50, w ∈ wsX5_reckonDraughts := fun _ h => (List.mem_cons_of_mem _ (List.mem_append_left _ (List.mem_append_right _ h)))
def W_X5_reckonDraughts (cI cP : ClassId) (t : Nat) (tr : Nat → Nat) (ta : Nat → Nat) (ti_4 : Int32) (ti_5 : Int32) (ti_6 : Int32) (ti_7 : Int32) (ti_8 : Int32) (ti_9 : Int32) (ti_10 : Int32) (tk_0 : Nat → Int32) (tk_1 : Nat → Int32) (tk_2 : Nat → Int32) (tk_3 : Nat → Int32) (g : Nat) (ga : Nat) (gn : Nat) (gf : Nat → Int32) : va_W := (wTold cI t tr ta ti_4 ti_5 ti_6 ti_7 ti_8 ti_9 ti_10 tk_0 tk_1 tk_2 tk_3) ++ ((wRow cI g ga gn gf))
theorem W_X5_reckonDraughts_o0 {cI cP : ClassId} {t : Nat} {tr : Nat → Nat} {ta : Nat → Nat} {ti_4 : Int32} {ti_5 : Int32} {ti_6 : Int32} {ti_7 : Int32} {ti_8 : Int32} {ti_9 : Int32} {ti_10 : Int32} {tk_0 : Nat → Int32} {tk_1 : Nat → Int32} {tk_2 : Nat → Int32} {tk_3 : Nat → Int32} {g : Nat} {ga : Nat} {gn : Nat} {gf : Nat → Int32} : (W_X5_reckonDraughts cI cP t tr ta ti_4 ti_5 ti_6 ti_7 ti_8 ti_9 ti_10 tk_0 tk_1 tk_2 tk_3 g ga gn gf)[0]? = some (t, .inr (5, [.ref (tr 0), .ref (tr 1), .ref (tr 2), .ref (tr 3), .int ti_4, .int ti_5, .int ti_6, .int ti_7, .int ti_8, .int ti_9, .int ti_10])) := rfl
theorem W_X5_reckonDraughts_c_X3_get_5_6 {cI cP : ClassId} {t : Nat} {tr : Nat → Nat} {ta : Nat → Nat} {ti_4 : Int32} {ti_5 : Int32} {ti_6 : Int32} {ti_7 : Int32} {ti_8 : Int32} {ti_9 : Int32} {ti_10 : Int32} {tk_0 : Nat → Int32} {tk_1 : Nat → Int32} {tk_2 : Nat → Int32} {tk_3 : Nat → Int32} {g : Nat} {ga : Nat} {gn : Nat} {gf : Nat → Int32} : ([5, 6] : List Nat).map (fun i => (W_X5_reckonDraughts cI cP t tr ta ti_4 ti_5 ti_6 ti_7 ti_8 ti_9 ti_10 tk_0 tk_1 tk_2 tk_3 g ga gn gf)[i]?) = (W_X3_get cI cP (tr 2) (ta 2) 6 tk_2).map some := rfl
theorem W_X5_reckonDraughts_x_X3_get_5_6 {cI cP : ClassId} {t : Nat} {tr : Nat → Nat} {ta : Nat → Nat} {ti_4 : Int32} {ti_5 : Int32} {ti_6 : Int32} {ti_7 : Int32} {ti_8 : Int32} {ti_9 : Int32} {ti_10 : Int32} {tk_0 : Nat → Int32} {tk_1 : Nat → Int32} {tk_2 : Nat → Int32} {tk_3 : Nat → Int32} {g : Nat} {ga : Nat} {gn : Nat} {gf : Nat → Int32} : xset (W_X5_reckonDraughts cI cP t tr ta ti_4 ti_5 ti_6 ti_7 ti_8 ti_9 ti_10 tk_0 tk_1 tk_2 tk_3 g ga gn gf) [5, 6] (W_X3_get cI cP (tr 2) (ta 2) 6 tk_2) = W_X5_reckonDraughts cI cP t tr ta ti_4 ti_5 ti_6 ti_7 ti_8 ti_9 ti_10 tk_0 tk_1 tk_2 tk_3 g ga gn gf := rfl
theorem W_X5_reckonDraughts_o5 {cI cP : ClassId} {t : Nat} {tr : Nat → Nat} {ta : Nat → Nat} {ti_4 : Int32} {ti_5 : Int32} {ti_6 : Int32} {ti_7 : Int32} {ti_8 : Int32} {ti_9 : Int32} {ti_10 : Int32} {tk_0 : Nat → Int32} {tk_1 : Nat → Int32} {tk_2 : Nat → Int32} {tk_3 : Nat → Int32} {g : Nat} {ga : Nat} {gn : Nat} {gf : Nat → Int32} : (W_X5_reckonDraughts cI cP t tr ta ti_4 ti_5 ti_6 ti_7 ti_8 ti_9 ti_10 tk_0 tk_1 tk_2 tk_3 g ga gn gf)[5]? = some ((tr 2), .inr (3, [.ref (ta 2)])) := rfl
theorem W_X5_reckonDraughts_c_X3_get_7_8 {cI cP : ClassId} {t : Nat} {tr : Nat → Nat} {ta : Nat → Nat} {ti_4 : Int32} {ti_5 : Int32} {ti_6 : Int32} {ti_7 : Int32} {ti_8 : Int32} {ti_9 : Int32} {ti_10 : Int32} {tk_0 : Nat → Int32} {tk_1 : Nat → Int32} {tk_2 : Nat → Int32} {tk_3 : Nat → Int32} {g : Nat} {ga : Nat} {gn : Nat} {gf : Nat → Int32} : ([7, 8] : List Nat).map (fun i => (W_X5_reckonDraughts cI cP t tr ta ti_4 ti_5 ti_6 ti_7 ti_8 ti_9 ti_10 tk_0 tk_1 tk_2 tk_3 g ga gn gf)[i]?) = (W_X3_get cI cP (tr 3) (ta 3) 6 tk_3).map some := rfl
theorem W_X5_reckonDraughts_x_X3_get_7_8 {cI cP : ClassId} {t : Nat} {tr : Nat → Nat} {ta : Nat → Nat} {ti_4 : Int32} {ti_5 : Int32} {ti_6 : Int32} {ti_7 : Int32} {ti_8 : Int32} {ti_9 : Int32} {ti_10 : Int32} {tk_0 : Nat → Int32} {tk_1 : Nat → Int32} {tk_2 : Nat → Int32} {tk_3 : Nat → Int32} {g : Nat} {ga : Nat} {gn : Nat} {gf : Nat → Int32} : xset (W_X5_reckonDraughts cI cP t tr ta ti_4 ti_5 ti_6 ti_7 ti_8 ti_9 ti_10 tk_0 tk_1 tk_2 tk_3 g ga gn gf) [7, 8] (W_X3_get cI cP (tr 3) (ta 3) 6 tk_3) = W_X5_reckonDraughts cI cP t tr ta ti_4 ti_5 ti_6 ti_7 ti_8 ti_9 ti_10 tk_0 tk_1 tk_2 tk_3 g ga gn gf := rfl
theorem W_X5_reckonDraughts_o7 {cI cP : ClassId} {t : Nat} {tr : Nat → Nat} {ta : Nat → Nat} {ti_4 : Int32} {ti_5 : Int32} {ti_6 : Int32} {ti_7 : Int32} {ti_8 : Int32} {ti_9 : Int32} {ti_10 : Int32} {tk_0 : Nat → Int32} {tk_1 : Nat → Int32} {tk_2 : Nat → Int32} {tk_3 : Nat → Int32} {g : Nat} {ga : Nat} {gn : Nat} {gf : Nat → Int32} : (W_X5_reckonDraughts cI cP t tr ta ti_4 ti_5 ti_6 ti_7 ti_8 ti_9 ti_10 tk_0 tk_1 tk_2 tk_3 g ga gn gf)[7]? = some ((tr 3), .inr (3, [.ref (ta 3)])) := rfl
theorem W_X5_reckonDraughts_c_X5_postBefore_0_1_2_3_4_5_6_7_8 {cI cP : ClassId} {t : Nat} {tr : Nat → Nat} {ta : Nat → Nat} {ti_4 : Int32} {ti_5 : Int32} {ti_6 : Int32} {ti_7 : Int32} {ti_8 : Int32} {ti_9 : Int32} {ti_10 : Int32} {tk_0 : Nat → Int32} {tk_1 : Nat → Int32} {tk_2 : Nat → Int32} {tk_3 : Nat → Int32} {g : Nat} {ga : Nat} {gn : Nat} {gf : Nat → Int32} : ([0, 1, 2, 3, 4, 5, 6, 7, 8] : List Nat).map (fun i => (W_X5_reckonDraughts cI cP t tr ta ti_4 ti_5 ti_6 ti_7 ti_8 ti_9 ti_10 tk_0 tk_1 tk_2 tk_3 g ga gn gf)[i]?) = (W_X5_postBefore cI cP t tr ta ti_4 ti_5 ti_6 ti_7 ti_8 ti_9 ti_10 tk_0 tk_1 tk_2 tk_3).map some := rfl
theorem W_X5_reckonDraughts_x_X5_postBefore_0_1_2_3_4_5_6_7_8 {cI cP : ClassId} {t : Nat} {tr : Nat → Nat} {ta : Nat → Nat} {ti_4 : Int32} {ti_5 : Int32} {ti_6 : Int32} {ti_7 : Int32} {ti_8 : Int32} {ti_9 : Int32} {ti_10 : Int32} {tk_0 : Nat → Int32} {tk_1 : Nat → Int32} {tk_2 : Nat → Int32} {tk_3 : Nat → Int32} {g : Nat} {ga : Nat} {gn : Nat} {gf : Nat → Int32} : xset (W_X5_reckonDraughts cI cP t tr ta ti_4 ti_5 ti_6 ti_7 ti_8 ti_9 ti_10 tk_0 tk_1 tk_2 tk_3 g ga gn gf) [0, 1, 2, 3, 4, 5, 6, 7, 8] (W_X5_postBefore cI cP t tr ta ti_4 ti_5 ti_6 ti_7 ti_8 ti_9 ti_10 tk_0 tk_1 tk_2 tk_3) = W_X5_reckonDraughts cI cP t tr ta ti_4 ti_5 ti_6 ti_7 ti_8 ti_9 ti_10 tk_0 tk_1 tk_2 tk_3 g ga gn gf := rfl
theorem W_X5_reckonDraughts_c_X3_get_9_10 {cI cP : ClassId} {t : Nat} {tr : Nat → Nat} {ta : Nat → Nat} {ti_4 : Int32} {ti_5 : Int32} {ti_6 : Int32} {ti_7 : Int32} {ti_8 : Int32} {ti_9 : Int32} {ti_10 : Int32} {tk_0 : Nat → Int32} {tk_1 : Nat → Int32} {tk_2 : Nat → Int32} {tk_3 : Nat → Int32} {g : Nat} {ga : Nat} {gn : Nat} {gf : Nat → Int32} : ([9, 10] : List Nat).map (fun i => (W_X5_reckonDraughts cI cP t tr ta ti_4 ti_5 ti_6 ti_7 ti_8 ti_9 ti_10 tk_0 tk_1 tk_2 tk_3 g ga gn gf)[i]?) = (W_X3_get cI cP g ga gn gf).map some := rfl
theorem W_X5_reckonDraughts_x_X3_get_9_10 {cI cP : ClassId} {t : Nat} {tr : Nat → Nat} {ta : Nat → Nat} {ti_4 : Int32} {ti_5 : Int32} {ti_6 : Int32} {ti_7 : Int32} {ti_8 : Int32} {ti_9 : Int32} {ti_10 : Int32} {tk_0 : Nat → Int32} {tk_1 : Nat → Int32} {tk_2 : Nat → Int32} {tk_3 : Nat → Int32} {g : Nat} {ga : Nat} {gn : Nat} {gf : Nat → Int32} : xset (W_X5_reckonDraughts cI cP t tr ta ti_4 ti_5 ti_6 ti_7 ti_8 ti_9 ti_10 tk_0 tk_1 tk_2 tk_3 g ga gn gf) [9, 10] (W_X3_get cI cP g ga gn gf) = W_X5_reckonDraughts cI cP t tr ta ti_4 ti_5 ti_6 ti_7 ti_8 ti_9 ti_10 tk_0 tk_1 tk_2 tk_3 g ga gn gf := rfl
theorem W_X5_reckonDraughts_o9 {cI cP : ClassId} {t : Nat} {tr : Nat → Nat} {ta : Nat → Nat} {ti_4 : Int32} {ti_5 : Int32} {ti_6 : Int32} {ti_7 : Int32} {ti_8 : Int32} {ti_9 : Int32} {ti_10 : Int32} {tk_0 : Nat → Int32} {tk_1 : Nat → Int32} {tk_2 : Nat → Int32} {tk_3 : Nat → Int32} {g : Nat} {ga : Nat} {gn : Nat} {gf : Nat → Int32} : (W_X5_reckonDraughts cI cP t tr ta ti_4 ti_5 ti_6 ti_7 ti_8 ti_9 ti_10 tk_0 tk_1 tk_2 tk_3 g ga gn gf)[9]? = some (g, .inr (3, [.ref ga])) := rfl
theorem W_X5_reckonDraughts_c_X3_set_9_10 {cI cP : ClassId} {t : Nat} {tr : Nat → Nat} {ta : Nat → Nat} {ti_4 : Int32} {ti_5 : Int32} {ti_6 : Int32} {ti_7 : Int32} {ti_8 : Int32} {ti_9 : Int32} {ti_10 : Int32} {tk_0 : Nat → Int32} {tk_1 : Nat → Int32} {tk_2 : Nat → Int32} {tk_3 : Nat → Int32} {g : Nat} {ga : Nat} {gn : Nat} {gf : Nat → Int32} : ([9, 10] : List Nat).map (fun i => (W_X5_reckonDraughts cI cP t tr ta ti_4 ti_5 ti_6 ti_7 ti_8 ti_9 ti_10 tk_0 tk_1 tk_2 tk_3 g ga gn gf)[i]?) = (W_X3_set cI cP g ga gn gf).map some := rfl
theorem W_X5_reckonDraughts_x_X3_set_9_10 {cI cP : ClassId} {t : Nat} {tr : Nat → Nat} {ta : Nat → Nat} {ti_4 : Int32} {ti_5 : Int32} {ti_6 : Int32} {ti_7 : Int32} {ti_8 : Int32} {ti_9 : Int32} {ti_10 : Int32} {tk_0 : Nat → Int32} {tk_1 : Nat → Int32} {tk_2 : Nat → Int32} {tk_3 : Nat → Int32} {g : Nat} {ga : Nat} {gn : Nat} {gf : Nat → Int32} {n0_ : Nat → Int32} : xset (W_X5_reckonDraughts cI cP t tr ta ti_4 ti_5 ti_6 ti_7 ti_8 ti_9 ti_10 tk_0 tk_1 tk_2 tk_3 g ga gn gf) [9, 10] (W_X3_set cI cP g ga gn n0_) = W_X5_reckonDraughts cI cP t tr ta ti_4 ti_5 ti_6 ti_7 ti_8 ti_9 ti_10 tk_0 tk_1 tk_2 tk_3 g ga gn n0_ := rfl
set_option maxHeartbeats 4000000 in
set_option maxRecDepth 100000 in
theorem c_X5_reckonDraughts (l : Launch) (D : va_G) (cI cP : ClassId) (sz : Nat) (t : Nat) (tr : Nat → Nat) (ta : Nat → Nat) (ti_4 : Int32) (ti_5 : Int32) (ti_6 : Int32) (ti_7 : Int32) (ti_8 : Int32) (ti_9 : Int32) (ti_10 : Int32) (tk_0 : Nat → Int32) (tk_1 : Nat → Int32) (tk_2 : Nat → Int32) (tk_3 : Nat → Int32) (g : Nat) (ga : Nat) (gn : Nat) (gf : Nat → Int32) (F : Nat) (a1 : Int32) (hne : fX5_reckonDraughts F ti_4 ti_7 ti_8 tk_2 tk_3 gf a1 gn ≠ none) : xMv l yX5_reckonDraughts wsX5_reckonDraughts ({ frames := 3, cells := 0, slots := 0, locals := 65 } : Room) D (xT cI cP) [.ref t, .int a1, .ref g] (W_X5_reckonDraughts cI cP t tr ta ti_4 ti_5 ti_6 ti_7 ti_8 ti_9 ti_10 tk_0 tk_1 tk_2 tk_3 g ga gn gf) sz (fun (u : ((Nat → Int32))) => fX5_reckonDraughts F ti_4 ti_7 ti_8 tk_2 tk_3 gf a1 gn = some u) (fun u => W_X5_reckonDraughts cI cP t tr ta ti_4 ti_5 ti_6 ti_7 ti_8 ti_9 ti_10 tk_0 tk_1 tk_2 tk_3 g ga gn u) 0 0 := by
  refine xMv_of (cc := cX5_reckonDraughts) (maxL := 6) (by decide +kernel) rfl (Nat.le_of_ble_eq_true rfl) ?_
  intro p e s m args below meth c A ls hx hb hml hown hts hname hN hK hA hP hD hS hl Q hret
  have he := fX5_reckonDraughts.eq_1 F ti_4 ti_7 ti_8 tk_2 tk_3 gf a1 gn
  have hl : lv_has ls 6 [(0, .ref t), (1, .int a1), (2, .ref g)] := hl
  have R25_0 : ∀ (v25_3 : Int32) (w25_gf : Nat → Int32), fX5_reckonDraughts F ti_4 ti_7 ti_8 tk_2 tk_3 gf a1 gn = (some w25_gf) → ∀ (H : Heap) (locs : List Loc) (ls : Array Slot), va_P D vwCl (W_X5_reckonDraughts cI cP t tr ta ti_4 ti_5 ti_6 ti_7 ti_8 ti_9 ti_10 tk_0 tk_1 tk_2 tk_3 g ga gn w25_gf) H → va_D A (W_X5_reckonDraughts cI cP t tr ta ti_4 ti_5 ti_6 ti_7 ti_8 ti_9 ti_10 tk_0 tk_1 tk_2 tk_3 g ga gn w25_gf) → va_S A s.heap H locs → lv_has ls 6 [] → W p l e ({ frames := 3, cells := 0, slots := 0, locals := 65 } : Room) s m args below meth c H locs 0 0 Q (F0 m 90 ls []) := by
    intro v25_3 w25_gf he H locs ls hP hD hS hl
    exact hret w25_gf _ _ _ _ dX5_reckonDraughts_90 he hP hD hS
  have L25_3 : ∀ (n25 : Nat) (v25_3 : Int32) (w25_gf : Nat → Int32), fX5_reckonDraughts F ti_4 ti_7 ti_8 tk_2 tk_3 gf a1 gn = fX5_reckonDraughts_L25 ti_4 ti_7 ti_8 tk_2 tk_3 a1 gn (fun (v25_3 : Int32) (w25_gf : Nat → Int32) => some w25_gf) n25 v25_3 w25_gf → ∀ (H : Heap) (locs : List Loc) (ls : Array Slot), va_P D vwCl (W_X5_reckonDraughts cI cP t tr ta ti_4 ti_5 ti_6 ti_7 ti_8 ti_9 ti_10 tk_0 tk_1 tk_2 tk_3 g ga gn w25_gf) H → va_D A (W_X5_reckonDraughts cI cP t tr ta ti_4 ti_5 ti_6 ti_7 ti_8 ti_9 ti_10 tk_0 tk_1 tk_2 tk_3 g ga gn w25_gf) → va_S A s.heap H locs → lv_has ls 6 [(3, .int v25_3), (0, .ref t), (1, .int a1), (2, .ref g)] → W p l e ({ frames := 3, cells := 0, slots := 0, locals := 65 } : Room) s m args below meth c H locs 0 0 Q (F0 m 25 ls []) := by
    intro n25
    induction n25 with
    | zero => intro v25_3 w25_gf he; exact absurd he hne
    | succ n25 ih25 =>
      intro v25_3 w25_gf he H locs ls hP hD hS hl
      replace he := he.trans (fX5_reckonDraughts_L25.eq_2 _ _ _ _ _ _ _ _ _ _ _)
      refine lv_iload_n hx hb dX5_reckonDraughts_25 rfl (lv_at hl 0 rfl) ?_
      refine lv_aload_n hx hb dX5_reckonDraughts_26 rfl (lv_at hl 1 rfl) ?_
      refine va_get (D := D) (ci := 5) (v := .int ti_8) (C := RX5) (T := TX5) (N := 11) hx hb hts hi_X5_reckonDraughts_5 hown hK hP 0 W_X5_reckonDraughts_o0 rfl 8 (by decide) (hts (.fieldLink RX5 52 "BlindLanterns$Told" "draughts" "I") (List.mem_of_getElem? (i := 3) rfl)) (fun _ h9 => h9) rfl dX5_reckonDraughts_27 ?_
      refine lv_icmp_ge (tgt := 90) hx hb dX5_reckonDraughts_30 (by decide) (fun c1 => ?_) (fun c1 => ?_)
      · replace he := he.trans (if_pos c1)
        exact R25_0 v25_3 w25_gf he _ _ _ hP hD hS (lv_sub hl [] rfl)
      · replace he := he.trans (if_neg c1)
        refine lv_aload_n hx hb dX5_reckonDraughts_33 rfl (lv_at hl 1 rfl) ?_
        refine va_get (D := D) (ci := 5) (v := .ref (tr 2)) (C := RX5) (T := TX5) (N := 11) hx hb hts hi_X5_reckonDraughts_5 hown hK hP 0 W_X5_reckonDraughts_o0 rfl 2 (by decide) (hts (.fieldLink RX5 23 "BlindLanterns$Told" "draughtBells" "LBlindLanterns$Row;") (List.mem_of_getElem? (i := 4) rfl)) (fun _ h9 => h9) rfl dX5_reckonDraughts_34 ?_
        refine lv_iload_n hx hb dX5_reckonDraughts_37 rfl (lv_at hl 0 rfl) ?_
        have n2_ : fX3_get tk_2 v25_3 6 ≠ none := fun z => hne (he.trans (xbd_none z))
        refine xci (va_runV (As := [.int v25_3]) (rest := []) ⟨hx, hb, hml, hown, hts⟩ (c_X3_get l D cI cP H.size (tr 2) (ta 2) 6 tk_2 v25_3 n2_) (cwV 1 hts gX5_reckonDraughts_X3_get rfl rfl rfl (by decide +kernel) ⟨Nat.le_of_ble_eq_true rfl, Nat.le_of_ble_eq_true rfl⟩) (xPV hN hK hP hD [5, 6] W_X5_reckonDraughts_c_X3_get_5_6 (by decide) (ci := 3) (j := 5) rfl W_X5_reckonDraughts_o5) rfl rfl hl.1 rfl (lv_room (Nat.le_of_ble_eq_true rfl)) dX5_reckonDraughts_38 ⟨Nat.le_of_ble_eq_true rfl, Nat.le_of_ble_eq_true rfl⟩) hP hD hS hA [5, 6] W_X5_reckonDraughts_c_X3_get_5_6 (fun _ => rfl) (fun r38 u38 H locs hw hP hD hS => ?_)
        rw [W_X5_reckonDraughts_x_X3_get_5_6] at hP hD
        replace he := he.trans (xbd_some hw)
        refine lv_iload_n hx hb dX5_reckonDraughts_41 rfl (lv_at hl 2 rfl) ?_
        refine lv_isub hx hb dX5_reckonDraughts_42 ?_
        refine lv_istore (lv' := [(4, .int (r38 - a1)), (3, .int v25_3), (0, .ref t), (1, .int a1), (2, .ref g)]) hx hb dX5_reckonDraughts_43 hl (by decide) rfl (fun ls hl => ?_)
        refine lv_iload hx hb dX5_reckonDraughts_45 (lv_at hl 0 rfl) ?_
        refine lv_iconst (v := 1) hx hb dX5_reckonDraughts_47 (by decide) ?_
        refine lv_icmp_lt (tgt := 84) hx hb dX5_reckonDraughts_48 (by decide) (fun c3 => ?_) (fun c3 => ?_)
        · replace he := he.trans (if_pos c3)
          refine lv_iinc (v := (v25_3 + 1)) (lv' := [(3, .int (v25_3 + 1)), (4, .int (r38 - a1)), (0, .ref t), (1, .int a1), (2, .ref g)]) hx hb dX5_reckonDraughts_84 hl (k := 1) rfl rfl (by decide) rfl (fun ls hl => ?_)
          refine lv_goto (tgt := 25) hx hb dX5_reckonDraughts_87 (by decide) ?_
          exact ih25 (v25_3 + 1) w25_gf he _ _ _ hP hD hS (lv_sub hl [0, 2, 3, 4] rfl)
        · replace he := he.trans (if_neg c3)
          refine lv_aload_n hx hb dX5_reckonDraughts_51 rfl (lv_at hl 2 rfl) ?_
          refine lv_aload_n hx hb dX5_reckonDraughts_52 rfl (lv_at hl 2 rfl) ?_
          refine va_get (D := D) (ci := 5) (v := .ref (tr 3)) (C := RX5) (T := TX5) (N := 11) hx hb hts hi_X5_reckonDraughts_5 hown hK hP 0 W_X5_reckonDraughts_o0 rfl 3 (by decide) (hts (.fieldLink RX5 26 "BlindLanterns$Told" "draughtPosts" "LBlindLanterns$Row;") (List.mem_of_getElem? (i := 5) rfl)) (fun _ h9 => h9) rfl dX5_reckonDraughts_53 ?_
          refine lv_iload_n hx hb dX5_reckonDraughts_56 rfl (lv_at hl 1 rfl) ?_
          have n4_ : fX3_get tk_3 v25_3 6 ≠ none := fun z => hne (he.trans (xbd_none z))
          refine xci (va_runV (As := [.int v25_3]) (rest := [.ref t]) ⟨hx, hb, hml, hown, hts⟩ (c_X3_get l D cI cP H.size (tr 3) (ta 3) 6 tk_3 v25_3 n4_) (cwV 1 hts gX5_reckonDraughts_X3_get rfl rfl rfl (by decide +kernel) ⟨Nat.le_of_ble_eq_true rfl, Nat.le_of_ble_eq_true rfl⟩) (xPV hN hK hP hD [7, 8] W_X5_reckonDraughts_c_X3_get_7_8 (by decide) (ci := 3) (j := 7) rfl W_X5_reckonDraughts_o7) rfl rfl hl.1 rfl (lv_room (Nat.le_of_ble_eq_true rfl)) dX5_reckonDraughts_57 ⟨Nat.le_of_ble_eq_true rfl, Nat.le_of_ble_eq_true rfl⟩) hP hD hS hA [7, 8] W_X5_reckonDraughts_c_X3_get_7_8 (fun _ => rfl) (fun r57 u57 H locs hw hP hD hS => ?_)
          rw [W_X5_reckonDraughts_x_X3_get_7_8] at hP hD
          replace he := he.trans (xbd_some hw)
          refine lv_iload hx hb dX5_reckonDraughts_60 (lv_at hl 0 rfl) ?_
          have n5_ : fX5_postBefore ti_4 ti_7 r57 (r38 - a1) ≠ none := fun z => hne (he.trans (xbd_none z))
          refine xci (va_runV (As := [.int r57, .int (r38 - a1)]) (rest := []) ⟨hx, hb, hml, hown, hts⟩ (c_X5_postBefore l D cI cP H.size t tr ta ti_4 ti_5 ti_6 ti_7 ti_8 ti_9 ti_10 tk_0 tk_1 tk_2 tk_3 r57 (r38 - a1) n5_) (cwV 2 hts gX5_reckonDraughts_X5_postBefore rfl rfl rfl (by decide +kernel) ⟨Nat.le_of_ble_eq_true rfl, Nat.le_of_ble_eq_true rfl⟩) (xPV hN hK hP hD [0, 1, 2, 3, 4, 5, 6, 7, 8] W_X5_reckonDraughts_c_X5_postBefore_0_1_2_3_4_5_6_7_8 (by decide) (ci := 5) (j := 0) rfl W_X5_reckonDraughts_o0) rfl rfl hl.1 rfl (lv_room (Nat.le_of_ble_eq_true rfl)) dX5_reckonDraughts_62 ⟨Nat.le_of_ble_eq_true rfl, Nat.le_of_ble_eq_true rfl⟩) hP hD hS hA [0, 1, 2, 3, 4, 5, 6, 7, 8] W_X5_reckonDraughts_c_X5_postBefore_0_1_2_3_4_5_6_7_8 (fun _ => rfl) (fun r62 u62 H locs hw hP hD hS => ?_)
          rw [W_X5_reckonDraughts_x_X5_postBefore_0_1_2_3_4_5_6_7_8] at hP hD
          replace he := he.trans (xbd_some hw)
          refine lv_istore (lv' := [(5, .int r62), (4, .int (r38 - a1)), (3, .int v25_3), (0, .ref t), (1, .int a1), (2, .ref g)]) hx hb dX5_reckonDraughts_65 hl (by decide) rfl (fun ls hl => ?_)
          refine lv_aload_n hx hb dX5_reckonDraughts_67 rfl (lv_at hl 5 rfl) ?_
          refine lv_iload hx hb dX5_reckonDraughts_68 (lv_at hl 0 rfl) ?_
          refine lv_iload hx hb dX5_reckonDraughts_70 (lv_at hl 1 rfl) ?_
          refine lv_aload_n hx hb dX5_reckonDraughts_72 rfl (lv_at hl 5 rfl) ?_
          refine lv_iload hx hb dX5_reckonDraughts_73 (lv_at hl 0 rfl) ?_
          have n6_ : fX3_get w25_gf r62 gn ≠ none := fun z => hne (he.trans (xbd_none z))
          refine xci (va_runV (As := [.int r62]) (rest := [.int (r38 - a1), .int r62, .ref g]) ⟨hx, hb, hml, hown, hts⟩ (c_X3_get l D cI cP H.size g ga gn w25_gf r62 n6_) (cwV 1 hts gX5_reckonDraughts_X3_get rfl rfl rfl (by decide +kernel) ⟨Nat.le_of_ble_eq_true rfl, Nat.le_of_ble_eq_true rfl⟩) (xPV hN hK hP hD [9, 10] W_X5_reckonDraughts_c_X3_get_9_10 (by decide) (ci := 3) (j := 9) rfl W_X5_reckonDraughts_o9) rfl rfl hl.1 rfl (lv_room (Nat.le_of_ble_eq_true rfl)) dX5_reckonDraughts_75 ⟨Nat.le_of_ble_eq_true rfl, Nat.le_of_ble_eq_true rfl⟩) hP hD hS hA [9, 10] W_X5_reckonDraughts_c_X3_get_9_10 (fun _ => rfl) (fun r75 u75 H locs hw hP hD hS => ?_)
          rw [W_X5_reckonDraughts_x_X3_get_9_10] at hP hD
          replace he := he.trans (xbd_some hw)
          refine va_mmin hx hb (hml.trans hl.1.symm) hown (hts (.methodLink RX5 79 Lib.Math.min.name) (List.mem_of_getElem? (i := 6) rfl)) (hts (.static Lib.Math.min.name) (List.mem_of_getElem? (i := 7) rfl)) (hts (.initialized RJ9) (List.mem_of_getElem? (i := 32) rfl)) (hts (.code Lib.Math.min.name Lib.Math.min.code 2 (some .int)) (List.mem_of_getElem? (i := 9) rfl)) (Nat.le_of_ble_eq_true rfl) (Nat.le_of_ble_eq_true rfl) (Nat.le_of_ble_eq_true rfl) (Nat.le_of_ble_eq_true rfl) dX5_reckonDraughts_78 ?_
          have n7_ : fX3_set w25_gf r62 (if r75 < (r38 - a1) then r75 else (r38 - a1)) gn ≠ none := fun z => hne (he.trans (xbd_none z))
          refine xcv (va_runV (As := [.int r62, .int (if r75 < (r38 - a1) then r75 else (r38 - a1))]) (rest := []) ⟨hx, hb, hml, hown, hts⟩ (c_X3_set l D cI cP H.size g ga gn w25_gf r62 (if r75 < (r38 - a1) then r75 else (r38 - a1)) n7_) (cwV 2 hts gX5_reckonDraughts_X3_set rfl rfl rfl (by decide +kernel) ⟨Nat.le_of_ble_eq_true rfl, Nat.le_of_ble_eq_true rfl⟩) (xPV hN hK hP hD [9, 10] W_X5_reckonDraughts_c_X3_set_9_10 (by decide) (ci := 3) (j := 9) rfl W_X5_reckonDraughts_o9) rfl rfl hl.1 rfl (lv_room (Nat.le_of_ble_eq_true rfl)) dX5_reckonDraughts_81 ⟨Nat.le_of_ble_eq_true rfl, Nat.le_of_ble_eq_true rfl⟩) hP hD hS hA [9, 10] W_X5_reckonDraughts_c_X3_set_9_10 (fun _ => rfl) (fun u81 H locs hw hP hD hS => ?_)
          rw [W_X5_reckonDraughts_x_X3_set_9_10] at hP hD
          replace he := he.trans (xbd_some hw)
          refine lv_iinc (v := (v25_3 + 1)) (lv' := [(3, .int (v25_3 + 1)), (5, .int r62), (4, .int (r38 - a1)), (0, .ref t), (1, .int a1), (2, .ref g)]) hx hb dX5_reckonDraughts_84 hl (k := 2) rfl rfl (by decide) rfl (fun ls hl => ?_)
          refine lv_goto (tgt := 25) hx hb dX5_reckonDraughts_87 (by decide) ?_
          exact ih25 (v25_3 + 1) u81 he _ _ _ hP hD hS (lv_sub hl [0, 3, 4, 5] rfl)
  have R2_66 : ∀ (v2_3 : Int32) (w2_gf : Nat → Int32), fX5_reckonDraughts F ti_4 ti_7 ti_8 tk_2 tk_3 gf a1 gn = (fX5_reckonDraughts_L25 ti_4 ti_7 ti_8 tk_2 tk_3 a1 gn (fun (v25_3 : Int32) (w25_gf : Nat → Int32) => some w25_gf) F (0 : Int32) w2_gf) → ∀ (H : Heap) (locs : List Loc) (ls : Array Slot), va_P D vwCl (W_X5_reckonDraughts cI cP t tr ta ti_4 ti_5 ti_6 ti_7 ti_8 ti_9 ti_10 tk_0 tk_1 tk_2 tk_3 g ga gn w2_gf) H → va_D A (W_X5_reckonDraughts cI cP t tr ta ti_4 ti_5 ti_6 ti_7 ti_8 ti_9 ti_10 tk_0 tk_1 tk_2 tk_3 g ga gn w2_gf) → va_S A s.heap H locs → lv_has ls 6 [(0, .ref t), (1, .int a1), (2, .ref g)] → W p l e ({ frames := 3, cells := 0, slots := 0, locals := 65 } : Room) s m args below meth c H locs 0 0 Q (F0 m 23 ls []) := by
    intro v2_3 w2_gf he H locs ls hP hD hS hl
    refine lv_iconst (v := 0) hx hb dX5_reckonDraughts_23 (by decide) ?_
    refine lv_istore_n (lv' := [(3, .int (0 : Int32)), (0, .ref t), (1, .int a1), (2, .ref g)]) hx hb dX5_reckonDraughts_24 rfl hl (by decide) rfl (fun ls hl => ?_)
    exact L25_3 F (0 : Int32) w2_gf he _ _ _ hP hD hS (lv_sub hl [0, 1, 2, 3] rfl)
  have L2_71 : ∀ (n2 : Nat) (v2_3 : Int32) (w2_gf : Nat → Int32), fX5_reckonDraughts F ti_4 ti_7 ti_8 tk_2 tk_3 gf a1 gn = fX5_reckonDraughts_L2 ti_4 gn (fun (v2_3 : Int32) (w2_gf : Nat → Int32) => fX5_reckonDraughts_L25 ti_4 ti_7 ti_8 tk_2 tk_3 a1 gn (fun (v25_3 : Int32) (w25_gf : Nat → Int32) => some w25_gf) F (0 : Int32) w2_gf) n2 v2_3 w2_gf → ∀ (H : Heap) (locs : List Loc) (ls : Array Slot), va_P D vwCl (W_X5_reckonDraughts cI cP t tr ta ti_4 ti_5 ti_6 ti_7 ti_8 ti_9 ti_10 tk_0 tk_1 tk_2 tk_3 g ga gn w2_gf) H → va_D A (W_X5_reckonDraughts cI cP t tr ta ti_4 ti_5 ti_6 ti_7 ti_8 ti_9 ti_10 tk_0 tk_1 tk_2 tk_3 g ga gn w2_gf) → va_S A s.heap H locs → lv_has ls 6 [(3, .int v2_3), (0, .ref t), (1, .int a1), (2, .ref g)] → W p l e ({ frames := 3, cells := 0, slots := 0, locals := 65 } : Room) s m args below meth c H locs 0 0 Q (F0 m 2 ls []) := by
    intro n2
    induction n2 with
    | zero => intro v2_3 w2_gf he; exact absurd he hne
    | succ n2 ih2 =>
      intro v2_3 w2_gf he H locs ls hP hD hS hl
      replace he := he.trans (fX5_reckonDraughts_L2.eq_2 _ _ _ _ _ _)
      refine lv_iload_n hx hb dX5_reckonDraughts_2 rfl (lv_at hl 0 rfl) ?_
      refine lv_aload_n hx hb dX5_reckonDraughts_3 rfl (lv_at hl 1 rfl) ?_
      refine va_get (D := D) (ci := 5) (v := .int ti_4) (C := RX5) (T := TX5) (N := 11) hx hb hts hi_X5_reckonDraughts_5 hown hK hP 0 W_X5_reckonDraughts_o0 rfl 4 (by decide) (hts (.fieldLink RX5 43 "BlindLanterns$Told" "men" "I") (List.mem_of_getElem? (i := 1) rfl)) (fun _ h9 => h9) rfl dX5_reckonDraughts_4 ?_
      refine lv_icmp_ge (tgt := 23) hx hb dX5_reckonDraughts_7 (by decide) (fun c8 => ?_) (fun c8 => ?_)
      · replace he := he.trans (if_pos c8)
        exact R2_66 v2_3 w2_gf he _ _ _ hP hD hS (lv_sub hl [1, 2, 3] rfl)
      · replace he := he.trans (if_neg c8)
        refine lv_aload_n hx hb dX5_reckonDraughts_10 rfl (lv_at hl 3 rfl) ?_
        refine lv_iload_n hx hb dX5_reckonDraughts_11 rfl (lv_at hl 0 rfl) ?_
        refine lv_ldc hx hb hown (hts (.constant RX5 33 (1000000)) (List.mem_of_getElem? (i := 2) rfl)) dX5_reckonDraughts_12 ?_
        have n9_ : fX3_set w2_gf v2_3 (1000000 : Int32) gn ≠ none := fun z => hne (he.trans (xbd_none z))
        refine xcv (va_runV (As := [.int v2_3, .int (1000000 : Int32)]) (rest := []) ⟨hx, hb, hml, hown, hts⟩ (c_X3_set l D cI cP H.size g ga gn w2_gf v2_3 (1000000 : Int32) n9_) (cwV 2 hts gX5_reckonDraughts_X3_set rfl rfl rfl (by decide +kernel) ⟨Nat.le_of_ble_eq_true rfl, Nat.le_of_ble_eq_true rfl⟩) (xPV hN hK hP hD [9, 10] W_X5_reckonDraughts_c_X3_set_9_10 (by decide) (ci := 3) (j := 9) rfl W_X5_reckonDraughts_o9) rfl rfl hl.1 rfl (lv_room (Nat.le_of_ble_eq_true rfl)) dX5_reckonDraughts_14 ⟨Nat.le_of_ble_eq_true rfl, Nat.le_of_ble_eq_true rfl⟩) hP hD hS hA [9, 10] W_X5_reckonDraughts_c_X3_set_9_10 (fun _ => rfl) (fun u14 H locs hw hP hD hS => ?_)
        rw [W_X5_reckonDraughts_x_X3_set_9_10] at hP hD
        replace he := he.trans (xbd_some hw)
        refine lv_iinc (v := (v2_3 + 1)) (lv' := [(3, .int (v2_3 + 1)), (0, .ref t), (1, .int a1), (2, .ref g)]) hx hb dX5_reckonDraughts_17 hl (k := 0) rfl rfl (by decide) rfl (fun ls hl => ?_)
        refine lv_goto (tgt := 2) hx hb dX5_reckonDraughts_20 (by decide) ?_
        exact ih2 (v2_3 + 1) u14 he _ _ _ hP hD hS (lv_sub hl [0, 1, 2, 3] rfl)
  refine lv_iconst (v := 0) hx hb dX5_reckonDraughts_0 (by decide) ?_
  refine lv_istore_n (lv' := [(3, .int (0 : Int32)), (0, .ref t), (1, .int a1), (2, .ref g)]) hx hb dX5_reckonDraughts_1 rfl hl (by decide) rfl (fun ls hl => ?_)
  exact L2_71 F (0 : Int32) gf he _ _ _ hP hD hS (lv_sub hl [0, 1, 2, 3] rfl)

def fX5_reckonLit_L8 (ti_4 : Int32) (tk_1 : Nat → Int32) (a1 : Int32) (gn : Nat) (k8 : Int32 → (Nat → Int32) → Option ((Nat → Int32))) : Nat → Int32 → (Nat → Int32) → Option ((Nat → Int32))
  | 0, _, _ => none
  | n8 + 1, v8_3, w8_gf => if ti_4 ≤ v8_3 then (k8 v8_3 w8_gf) else (if ((a1 >>> (v8_3 &&& 31)) &&& (1 : Int32)) = (1 : Int32) then (xbd (fX3_get tk_1 v8_3 6) (fun (r44 : Int32) => xbd (fX3_get w8_gf v8_3 gn) (fun (r49 : Int32) => xbd (fX3_set w8_gf v8_3 (if r49 < r44 then r49 else r44) gn) (fun (u59 : (Nat → Int32)) => fX5_reckonLit_L8 ti_4 tk_1 a1 gn k8 n8 (v8_3 + 1) u59)))) else (xbd (fX3_set w8_gf v8_3 (0 : Int32) gn) (fun (u59 : (Nat → Int32)) => fX5_reckonLit_L8 ti_4 tk_1 a1 gn k8 n8 (v8_3 + 1) u59)))
def fX5_reckonLit (F : Nat) (ti_4 : Int32) (ti_7 : Int32) (ti_8 : Int32) (tk_1 : Nat → Int32) (tk_2 : Nat → Int32) (tk_3 : Nat → Int32) (gf : Nat → Int32) (a1 : Int32) (gn : Nat) : Option ((Nat → Int32)) :=
  xbd (fX5_reckonDraughts F ti_4 ti_7 ti_8 tk_2 tk_3 gf (0 : Int32) gn) (fun (u3 : (Nat → Int32)) => fX5_reckonLit_L8 ti_4 tk_1 a1 gn (fun (v8_3 : Int32) (w8_gf : Nat → Int32) => some w8_gf) F (0 : Int32) u3)
theorem hi_X5_reckonLit_5 : ∀ w ∈ wsX50, w ∈ wsX5_reckonLit := fun _ h => (List.mem_cons_of_mem _ (List.mem_append_left _ (List.mem_append_right _ h)))
def W_X5_reckonLit (cI cP : ClassId) (t : Nat) (tr : Nat → Nat) (ta : Nat → Nat) (ti_4 : Int32) (ti_5 : Int32) (ti_6 : Int32) (ti_7 : Int32) (ti_8 : Int32) (ti_9 : Int32) (ti_10 : Int32) (tk_0 : Nat → Int32) (tk_1 : Nat → Int32) (tk_2 : Nat → Int32) (tk_3 : Nat → Int32) (g : Nat) (ga : Nat) (gn : Nat) (gf : Nat → Int32) : va_W := (wTold cI t tr ta ti_4 ti_5 ti_6 ti_7 ti_8 ti_9 ti_10 tk_0 tk_1 tk_2 tk_3) ++ ((wRow cI g ga gn gf))
theorem W_X5_reckonLit_c_X5_reckonDraughts_0_1_2_3_4_5_6_7_8_9_10 {cI cP : ClassId} {t : Nat} {tr : Nat → Nat} {ta : Nat → Nat} {ti_4 : Int32} {ti_5 : Int32} {ti_6 : Int32} {ti_7 : Int32} {ti_8 : Int32} {ti_9 : Int32} {ti_10 : Int32} {tk_0 : Nat → Int32} {tk_1 : Nat → Int32} {tk_2 : Nat → Int32} {tk_3 : Nat → Int32} {g : Nat} {ga : Nat} {gn : Nat} {gf : Nat → Int32} : ([0, 1, 2, 3, 4, 5, 6, 7, 8, 9, 10] : List Nat).map (fun i => (W_X5_reckonLit cI cP t tr ta ti_4 ti_5 ti_6 ti_7 ti_8 ti_9 ti_10 tk_0 tk_1 tk_2 tk_3 g ga gn gf)[i]?) = (W_X5_reckonDraughts cI cP t tr ta ti_4 ti_5 ti_6 ti_7 ti_8 ti_9 ti_10 tk_0 tk_1 tk_2 tk_3 g ga gn gf).map some := rfl
theorem W_X5_reckonLit_x_X5_reckonDraughts_0_1_2_3_4_5_6_7_8_9_10 {cI cP : ClassId} {t : Nat} {tr : Nat → Nat} {ta : Nat → Nat} {ti_4 : Int32} {ti_5 : Int32} {ti_6 : Int32} {ti_7 : Int32} {ti_8 : Int32} {ti_9 : Int32} {ti_10 : Int32} {tk_0 : Nat → Int32} {tk_1 : Nat → Int32} {tk_2 : Nat → Int32} {tk_3 : Nat → Int32} {g : Nat} {ga : Nat} {gn : Nat} {gf : Nat → Int32} {n0_ : Nat → Int32} : xset (W_X5_reckonLit cI cP t tr ta ti_4 ti_5 ti_6 ti_7 ti_8 ti_9 ti_10 tk_0 tk_1 tk_2 tk_3 g ga gn gf) [0, 1, 2, 3, 4, 5, 6, 7, 8, 9, 10] (W_X5_reckonDraughts cI cP t tr ta ti_4 ti_5 ti_6 ti_7 ti_8 ti_9 ti_10 tk_0 tk_1 tk_2 tk_3 g ga gn n0_) = W_X5_reckonLit cI cP t tr ta ti_4 ti_5 ti_6 ti_7 ti_8 ti_9 ti_10 tk_0 tk_1 tk_2 tk_3 g ga gn n0_ := rfl
theorem W_X5_reckonLit_o0 {cI cP : ClassId} {t : Nat} {tr : Nat → Nat} {ta : Nat → Nat} {ti_4 : Int32} {ti_5 : Int32} {ti_6 : Int32} {ti_7 : Int32} {ti_8 : Int32} {ti_9 : Int32} {ti_10 : Int32} {tk_0 : Nat → Int32} {tk_1 : Nat → Int32} {tk_2 : Nat → Int32} {tk_3 : Nat → Int32} {g : Nat} {ga : Nat} {gn : Nat} {gf : Nat → Int32} : (W_X5_reckonLit cI cP t tr ta ti_4 ti_5 ti_6 ti_7 ti_8 ti_9 ti_10 tk_0 tk_1 tk_2 tk_3 g ga gn gf)[0]? = some (t, .inr (5, [.ref (tr 0), .ref (tr 1), .ref (tr 2), .ref (tr 3), .int ti_4, .int ti_5, .int ti_6, .int ti_7, .int ti_8, .int ti_9, .int ti_10])) := rfl
theorem W_X5_reckonLit_c_X3_set_9_10 {cI cP : ClassId} {t : Nat} {tr : Nat → Nat} {ta : Nat → Nat} {ti_4 : Int32} {ti_5 : Int32} {ti_6 : Int32} {ti_7 : Int32} {ti_8 : Int32} {ti_9 : Int32} {ti_10 : Int32} {tk_0 : Nat → Int32} {tk_1 : Nat → Int32} {tk_2 : Nat → Int32} {tk_3 : Nat → Int32} {g : Nat} {ga : Nat} {gn : Nat} {gf : Nat → Int32} : ([9, 10] : List Nat).map (fun i => (W_X5_reckonLit cI cP t tr ta ti_4 ti_5 ti_6 ti_7 ti_8 ti_9 ti_10 tk_0 tk_1 tk_2 tk_3 g ga gn gf)[i]?) = (W_X3_set cI cP g ga gn gf).map some := rfl
theorem W_X5_reckonLit_x_X3_set_9_10 {cI cP : ClassId} {t : Nat} {tr : Nat → Nat} {ta : Nat → Nat} {ti_4 : Int32} {ti_5 : Int32} {ti_6 : Int32} {ti_7 : Int32} {ti_8 : Int32} {ti_9 : Int32} {ti_10 : Int32} {tk_0 : Nat → Int32} {tk_1 : Nat → Int32} {tk_2 : Nat → Int32} {tk_3 : Nat → Int32} {g : Nat} {ga : Nat} {gn : Nat} {gf : Nat → Int32} {n0_ : Nat → Int32} : xset (W_X5_reckonLit cI cP t tr ta ti_4 ti_5 ti_6 ti_7 ti_8 ti_9 ti_10 tk_0 tk_1 tk_2 tk_3 g ga gn gf) [9, 10] (W_X3_set cI cP g ga gn n0_) = W_X5_reckonLit cI cP t tr ta ti_4 ti_5 ti_6 ti_7 ti_8 ti_9 ti_10 tk_0 tk_1 tk_2 tk_3 g ga gn n0_ := rfl
theorem W_X5_reckonLit_o9 {cI cP : ClassId} {t : Nat} {tr : Nat → Nat} {ta : Nat → Nat} {ti_4 : Int32} {ti_5 : Int32} {ti_6 : Int32} {ti_7 : Int32} {ti_8 : Int32} {ti_9 : Int32} {ti_10 : Int32} {tk_0 : Nat → Int32} {tk_1 : Nat → Int32} {tk_2 : Nat → Int32} {tk_3 : Nat → Int32} {g : Nat} {ga : Nat} {gn : Nat} {gf : Nat → Int32} : (W_X5_reckonLit cI cP t tr ta ti_4 ti_5 ti_6 ti_7 ti_8 ti_9 ti_10 tk_0 tk_1 tk_2 tk_3 g ga gn gf)[9]? = some (g, .inr (3, [.ref ga])) := rfl
theorem W_X5_reckonLit_c_X3_get_3_4 {cI cP : ClassId} {t : Nat} {tr : Nat → Nat} {ta : Nat → Nat} {ti_4 : Int32} {ti_5 : Int32} {ti_6 : Int32} {ti_7 : Int32} {ti_8 : Int32} {ti_9 : Int32} {ti_10 : Int32} {tk_0 : Nat → Int32} {tk_1 : Nat → Int32} {tk_2 : Nat → Int32} {tk_3 : Nat → Int32} {g : Nat} {ga : Nat} {gn : Nat} {gf : Nat → Int32} : ([3, 4] : List Nat).map (fun i => (W_X5_reckonLit cI cP t tr ta ti_4 ti_5 ti_6 ti_7 ti_8 ti_9 ti_10 tk_0 tk_1 tk_2 tk_3 g ga gn gf)[i]?) = (W_X3_get cI cP (tr 1) (ta 1) 6 tk_1).map some := rfl
theorem W_X5_reckonLit_x_X3_get_3_4 {cI cP : ClassId} {t : Nat} {tr : Nat → Nat} {ta : Nat → Nat} {ti_4 : Int32} {ti_5 : Int32} {ti_6 : Int32} {ti_7 : Int32} {ti_8 : Int32} {ti_9 : Int32} {ti_10 : Int32} {tk_0 : Nat → Int32} {tk_1 : Nat → Int32} {tk_2 : Nat → Int32} {tk_3 : Nat → Int32} {g : Nat} {ga : Nat} {gn : Nat} {gf : Nat → Int32} : xset (W_X5_reckonLit cI cP t tr ta ti_4 ti_5 ti_6 ti_7 ti_8 ti_9 ti_10 tk_0 tk_1 tk_2 tk_3 g ga gn gf) [3, 4] (W_X3_get cI cP (tr 1) (ta 1) 6 tk_1) = W_X5_reckonLit cI cP t tr ta ti_4 ti_5 ti_6 ti_7 ti_8 ti_9 ti_10 tk_0 tk_1 tk_2 tk_3 g ga gn gf := rfl
theorem W_X5_reckonLit_o3 {cI cP : ClassId} {t : Nat} {tr : Nat → Nat} {ta : Nat → Nat} {ti_4 : Int32} {ti_5 : Int32} {ti_6 : Int32} {ti_7 : Int32} {ti_8 : Int32} {ti_9 : Int32} {ti_10 : Int32} {tk_0 : Nat → Int32} {tk_1 : Nat → Int32} {tk_2 : Nat → Int32} {tk_3 : Nat → Int32} {g : Nat} {ga : Nat} {gn : Nat} {gf : Nat → Int32} : (W_X5_reckonLit cI cP t tr ta ti_4 ti_5 ti_6 ti_7 ti_8 ti_9 ti_10 tk_0 tk_1 tk_2 tk_3 g ga gn gf)[3]? = some ((tr 1), .inr (3, [.ref (ta 1)])) := rfl
theorem W_X5_reckonLit_c_X3_get_9_10 {cI cP : ClassId} {t : Nat} {tr : Nat → Nat} {ta : Nat → Nat} {ti_4 : Int32} {ti_5 : Int32} {ti_6 : Int32} {ti_7 : Int32} {ti_8 : Int32} {ti_9 : Int32} {ti_10 : Int32} {tk_0 : Nat → Int32} {tk_1 : Nat → Int32} {tk_2 : Nat → Int32} {tk_3 : Nat → Int32} {g : Nat} {ga : Nat} {gn : Nat} {gf : Nat → Int32} : ([9, 10] : List Nat).map (fun i => (W_X5_reckonLit cI cP t tr ta ti_4 ti_5 ti_6 ti_7 ti_8 ti_9 ti_10 tk_0 tk_1 tk_2 tk_3 g ga gn gf)[i]?) = (W_X3_get cI cP g ga gn gf).map some := rfl
theorem W_X5_reckonLit_x_X3_get_9_10 {cI cP : ClassId} {t : Nat} {tr : Nat → Nat} {ta : Nat → Nat} {ti_4 : Int32} {ti_5 : Int32} {ti_6 : Int32} {ti_7 : Int32} {ti_8 : Int32} {ti_9 : Int32} {ti_10 : Int32} {tk_0 : Nat → Int32} {tk_1 : Nat → Int32} {tk_2 : Nat → Int32} {tk_3 : Nat → Int32} {g : Nat} {ga : Nat} {gn : Nat} {gf : Nat → Int32} : xset (W_X5_reckonLit cI cP t tr ta ti_4 ti_5 ti_6 ti_7 ti_8 ti_9 ti_10 tk_0 tk_1 tk_2 tk_3 g ga gn gf) [9, 10] (W_X3_get cI cP g ga gn gf) = W_X5_reckonLit cI cP t tr ta ti_4 ti_5 ti_6 ti_7 ti_8 ti_9 ti_10 tk_0 tk_1 tk_2 tk_3 g ga gn gf := rfl
set_option maxHeartbeats 4000000 in
set_option maxRecDepth 100000 in
theorem c_X5_reckonLit (l : Launch) (D : va_G) (cI cP : ClassId) (sz : Nat) (t : Nat) (tr : Nat → Nat) (ta : Nat → Nat) (ti_4 : Int32) (ti_5 : Int32) (ti_6 : Int32) (ti_7 : Int32) (ti_8 : Int32) (ti_9 : Int32) (ti_10 : Int32) (tk_0 : Nat → Int32) (tk_1 : Nat → Int32) (tk_2 : Nat → Int32) (tk_3 : Nat → Int32) (g : Nat) (ga : Nat) (gn : Nat) (gf : Nat → Int32) (F : Nat) (a1 : Int32) (hne : fX5_reckonLit F ti_4 ti_7 ti_8 tk_1 tk_2 tk_3 gf a1 gn ≠ none) : xMv l yX5_reckonLit wsX5_reckonLit ({ frames := 4, cells := 0, slots := 0, locals := 90 } : Room) D (xT cI cP) [.ref t, .int a1, .ref g] (W_X5_reckonLit cI cP t tr ta ti_4 ti_5 ti_6 ti_7 ti_8 ti_9 ti_10 tk_0 tk_1 tk_2 tk_3 g ga gn gf) sz (fun (u : ((Nat → Int32))) => fX5_reckonLit F ti_4 ti_7 ti_8 tk_1 tk_2 tk_3 gf a1 gn = some u) (fun u => W_X5_reckonLit cI cP t tr ta ti_4 ti_5 ti_6 ti_7 ti_8 ti_9 ti_10 tk_0 tk_1 tk_2 tk_3 g ga gn u) 0 0 := by
  refine xMv_of (cc := cX5_reckonLit) (maxL := 5) (by decide +kernel) rfl (Nat.le_of_ble_eq_true rfl) ?_
  intro p e s m args below meth c A ls hx hb hml hown hts hname hN hK hA hP hD hS hl Q hret
  have he := fX5_reckonLit.eq_1 F ti_4 ti_7 ti_8 tk_1 tk_2 tk_3 gf a1 gn
  have hl : lv_has ls 5 [(0, .ref t), (1, .int a1), (2, .ref g)] := hl
  have R8_0 : ∀ (v8_3 : Int32) (w8_gf : Nat → Int32), fX5_reckonLit F ti_4 ti_7 ti_8 tk_1 tk_2 tk_3 gf a1 gn = (some w8_gf) → ∀ (H : Heap) (locs : List Loc) (ls : Array Slot), va_P D vwCl (W_X5_reckonLit cI cP t tr ta ti_4 ti_5 ti_6 ti_7 ti_8 ti_9 ti_10 tk_0 tk_1 tk_2 tk_3 g ga gn w8_gf) H → va_D A (W_X5_reckonLit cI cP t tr ta ti_4 ti_5 ti_6 ti_7 ti_8 ti_9 ti_10 tk_0 tk_1 tk_2 tk_3 g ga gn w8_gf) → va_S A s.heap H locs → lv_has ls 5 [] → W p l e ({ frames := 4, cells := 0, slots := 0, locals := 90 } : Room) s m args below meth c H locs 0 0 Q (F0 m 68 ls []) := by
    intro v8_3 w8_gf he H locs ls hP hD hS hl
    exact hret w8_gf _ _ _ _ dX5_reckonLit_68 he hP hD hS
  have L8_3 : ∀ (n8 : Nat) (v8_3 : Int32) (w8_gf : Nat → Int32), fX5_reckonLit F ti_4 ti_7 ti_8 tk_1 tk_2 tk_3 gf a1 gn = fX5_reckonLit_L8 ti_4 tk_1 a1 gn (fun (v8_3 : Int32) (w8_gf : Nat → Int32) => some w8_gf) n8 v8_3 w8_gf → ∀ (H : Heap) (locs : List Loc) (ls : Array Slot), va_P D vwCl (W_X5_reckonLit cI cP t tr ta ti_4 ti_5 ti_6 ti_7 ti_8 ti_9 ti_10 tk_0 tk_1 tk_2 tk_3 g ga gn w8_gf) H → va_D A (W_X5_reckonLit cI cP t tr ta ti_4 ti_5 ti_6 ti_7 ti_8 ti_9 ti_10 tk_0 tk_1 tk_2 tk_3 g ga gn w8_gf) → va_S A s.heap H locs → lv_has ls 5 [(3, .int v8_3), (0, .ref t), (1, .int a1), (2, .ref g)] → W p l e ({ frames := 4, cells := 0, slots := 0, locals := 90 } : Room) s m args below meth c H locs 0 0 Q (F0 m 8 ls []) := by
    intro n8
    induction n8 with
    | zero => intro v8_3 w8_gf he; exact absurd he hne
    | succ n8 ih8 =>
      intro v8_3 w8_gf he H locs ls hP hD hS hl
      replace he := he.trans (fX5_reckonLit_L8.eq_2 _ _ _ _ _ _ _ _)
      refine lv_iload_n hx hb dX5_reckonLit_8 rfl (lv_at hl 0 rfl) ?_
      refine lv_aload_n hx hb dX5_reckonLit_9 rfl (lv_at hl 1 rfl) ?_
      refine va_get (D := D) (ci := 5) (v := .int ti_4) (C := RX5) (T := TX5) (N := 11) hx hb hts hi_X5_reckonLit_5 hown hK hP 0 W_X5_reckonLit_o0 rfl 4 (by decide) (hts (.fieldLink RX5 43 "BlindLanterns$Told" "men" "I") (List.mem_of_getElem? (i := 1) rfl)) (fun _ h9 => h9) rfl dX5_reckonLit_10 ?_
      refine lv_icmp_ge (tgt := 68) hx hb dX5_reckonLit_13 (by decide) (fun c2 => ?_) (fun c2 => ?_)
      · replace he := he.trans (if_pos c2)
        exact R8_0 v8_3 w8_gf he _ _ _ hP hD hS (lv_sub hl [] rfl)
      · replace he := he.trans (if_neg c2)
        refine lv_iload_n hx hb dX5_reckonLit_16 rfl (lv_at hl 2 rfl) ?_
        refine lv_iload_n hx hb dX5_reckonLit_17 rfl (lv_at hl 0 rfl) ?_
        refine lv_ishr hx hb dX5_reckonLit_18 ?_
        refine lv_iconst (v := 1) hx hb dX5_reckonLit_19 (by decide) ?_
        refine lv_iand hx hb dX5_reckonLit_20 ?_
        refine lv_iconst (v := 1) hx hb dX5_reckonLit_21 (by decide) ?_
        refine lv_icmp_ne (tgt := 29) hx hb dX5_reckonLit_22 (by decide) (fun c3 => ?_) (fun c3 => ?_)
        · replace he := he.trans (if_neg c3)
          refine lv_iconst (v := 0) hx hb dX5_reckonLit_29 (by decide) ?_
          refine lv_istore (lv' := [(4, .int (0 : Int32)), (3, .int v8_3), (0, .ref t), (1, .int a1), (2, .ref g)]) hx hb dX5_reckonLit_30 hl (by decide) rfl (fun ls hl => ?_)
          refine lv_aload_n hx hb dX5_reckonLit_32 rfl (lv_at hl 4 rfl) ?_
          refine lv_iload_n hx hb dX5_reckonLit_33 rfl (lv_at hl 1 rfl) ?_
          refine lv_iload hx hb dX5_reckonLit_34 (lv_at hl 0 rfl) ?_
          refine lv_if_eq (tgt := 58) hx hb dX5_reckonLit_36 (by decide) (fun _ => ?_) (fun c0 => absurd (by decide) c0)
          refine lv_iconst (v := 0) hx hb dX5_reckonLit_58 (by decide) ?_
          have n4_ : fX3_set w8_gf v8_3 (0 : Int32) gn ≠ none := fun z => hne (he.trans (xbd_none z))
          refine xcv (va_runV (As := [.int v8_3, .int (0 : Int32)]) (rest := []) ⟨hx, hb, hml, hown, hts⟩ (c_X3_set l D cI cP H.size g ga gn w8_gf v8_3 (0 : Int32) n4_) (cwV 2 hts gX5_reckonLit_X3_set rfl rfl rfl (by decide +kernel) ⟨Nat.le_of_ble_eq_true rfl, Nat.le_of_ble_eq_true rfl⟩) (xPV hN hK hP hD [9, 10] W_X5_reckonLit_c_X3_set_9_10 (by decide) (ci := 3) (j := 9) rfl W_X5_reckonLit_o9) rfl rfl hl.1 rfl (lv_room (Nat.le_of_ble_eq_true rfl)) dX5_reckonLit_59 ⟨Nat.le_of_ble_eq_true rfl, Nat.le_of_ble_eq_true rfl⟩) hP hD hS hA [9, 10] W_X5_reckonLit_c_X3_set_9_10 (fun _ => rfl) (fun u59 H locs hw hP hD hS => ?_)
          rw [W_X5_reckonLit_x_X3_set_9_10] at hP hD
          replace he := he.trans (xbd_some hw)
          refine lv_iinc (v := (v8_3 + 1)) (lv' := [(3, .int (v8_3 + 1)), (4, .int (0 : Int32)), (0, .ref t), (1, .int a1), (2, .ref g)]) hx hb dX5_reckonLit_62 hl (k := 1) rfl rfl (by decide) rfl (fun ls hl => ?_)
          refine lv_goto (tgt := 8) hx hb dX5_reckonLit_65 (by decide) ?_
          exact ih8 (v8_3 + 1) u59 he _ _ _ hP hD hS (lv_sub hl [0, 2, 3, 4] rfl)
        · replace he := he.trans (if_pos c3)
          refine lv_iconst (v := 1) hx hb dX5_reckonLit_25 (by decide) ?_
          refine lv_goto (tgt := 30) hx hb dX5_reckonLit_26 (by decide) ?_
          refine lv_istore (lv' := [(4, .int (1 : Int32)), (3, .int v8_3), (0, .ref t), (1, .int a1), (2, .ref g)]) hx hb dX5_reckonLit_30 hl (by decide) rfl (fun ls hl => ?_)
          refine lv_aload_n hx hb dX5_reckonLit_32 rfl (lv_at hl 4 rfl) ?_
          refine lv_iload_n hx hb dX5_reckonLit_33 rfl (lv_at hl 1 rfl) ?_
          refine lv_iload hx hb dX5_reckonLit_34 (lv_at hl 0 rfl) ?_
          refine lv_if_eq (tgt := 58) hx hb dX5_reckonLit_36 (by decide) (fun c0 => absurd c0 (by decide)) (fun _ => ?_)
          refine lv_aload_n hx hb dX5_reckonLit_39 rfl (lv_at hl 2 rfl) ?_
          refine va_get (D := D) (ci := 5) (v := .ref (tr 1)) (C := RX5) (T := TX5) (N := 11) hx hb hts hi_X5_reckonLit_5 hown hK hP 0 W_X5_reckonLit_o0 rfl 1 (by decide) (hts (.fieldLink RX5 20 "BlindLanterns$Told" "oilAtFirst" "LBlindLanterns$Row;") (List.mem_of_getElem? (i := 2) rfl)) (fun _ h9 => h9) rfl dX5_reckonLit_40 ?_
          refine lv_iload_n hx hb dX5_reckonLit_43 rfl (lv_at hl 1 rfl) ?_
          have n5_ : fX3_get tk_1 v8_3 6 ≠ none := fun z => hne (he.trans (xbd_none z))
          refine xci (va_runV (As := [.int v8_3]) (rest := [.int v8_3, .ref g]) ⟨hx, hb, hml, hown, hts⟩ (c_X3_get l D cI cP H.size (tr 1) (ta 1) 6 tk_1 v8_3 n5_) (cwV 1 hts gX5_reckonLit_X3_get rfl rfl rfl (by decide +kernel) ⟨Nat.le_of_ble_eq_true rfl, Nat.le_of_ble_eq_true rfl⟩) (xPV hN hK hP hD [3, 4] W_X5_reckonLit_c_X3_get_3_4 (by decide) (ci := 3) (j := 3) rfl W_X5_reckonLit_o3) rfl rfl hl.1 rfl (lv_room (Nat.le_of_ble_eq_true rfl)) dX5_reckonLit_44 ⟨Nat.le_of_ble_eq_true rfl, Nat.le_of_ble_eq_true rfl⟩) hP hD hS hA [3, 4] W_X5_reckonLit_c_X3_get_3_4 (fun _ => rfl) (fun r44 u44 H locs hw hP hD hS => ?_)
          rw [W_X5_reckonLit_x_X3_get_3_4] at hP hD
          replace he := he.trans (xbd_some hw)
          refine lv_aload_n hx hb dX5_reckonLit_47 rfl (lv_at hl 4 rfl) ?_
          refine lv_iload_n hx hb dX5_reckonLit_48 rfl (lv_at hl 1 rfl) ?_
          have n6_ : fX3_get w8_gf v8_3 gn ≠ none := fun z => hne (he.trans (xbd_none z))
          refine xci (va_runV (As := [.int v8_3]) (rest := [.int r44, .int v8_3, .ref g]) ⟨hx, hb, hml, hown, hts⟩ (c_X3_get l D cI cP H.size g ga gn w8_gf v8_3 n6_) (cwV 1 hts gX5_reckonLit_X3_get rfl rfl rfl (by decide +kernel) ⟨Nat.le_of_ble_eq_true rfl, Nat.le_of_ble_eq_true rfl⟩) (xPV hN hK hP hD [9, 10] W_X5_reckonLit_c_X3_get_9_10 (by decide) (ci := 3) (j := 9) rfl W_X5_reckonLit_o9) rfl rfl hl.1 rfl (lv_room (Nat.le_of_ble_eq_true rfl)) dX5_reckonLit_49 ⟨Nat.le_of_ble_eq_true rfl, Nat.le_of_ble_eq_true rfl⟩) hP hD hS hA [9, 10] W_X5_reckonLit_c_X3_get_9_10 (fun _ => rfl) (fun r49 u49 H locs hw hP hD hS => ?_)
          rw [W_X5_reckonLit_x_X3_get_9_10] at hP hD
          replace he := he.trans (xbd_some hw)
          refine va_mmin hx hb (hml.trans hl.1.symm) hown (hts (.methodLink RX5 79 Lib.Math.min.name) (List.mem_of_getElem? (i := 3) rfl)) (hts (.static Lib.Math.min.name) (List.mem_of_getElem? (i := 4) rfl)) (hts (.initialized RJ9) (List.mem_of_getElem? (i := 37) rfl)) (hts (.code Lib.Math.min.name Lib.Math.min.code 2 (some .int)) (List.mem_of_getElem? (i := 6) rfl)) (Nat.le_of_ble_eq_true rfl) (Nat.le_of_ble_eq_true rfl) (Nat.le_of_ble_eq_true rfl) (Nat.le_of_ble_eq_true rfl) dX5_reckonLit_52 ?_
          refine lv_goto (tgt := 59) hx hb dX5_reckonLit_55 (by decide) ?_
          have n7_ : fX3_set w8_gf v8_3 (if r49 < r44 then r49 else r44) gn ≠ none := fun z => hne (he.trans (xbd_none z))
          refine xcv (va_runV (As := [.int v8_3, .int (if r49 < r44 then r49 else r44)]) (rest := []) ⟨hx, hb, hml, hown, hts⟩ (c_X3_set l D cI cP H.size g ga gn w8_gf v8_3 (if r49 < r44 then r49 else r44) n7_) (cwV 2 hts gX5_reckonLit_X3_set rfl rfl rfl (by decide +kernel) ⟨Nat.le_of_ble_eq_true rfl, Nat.le_of_ble_eq_true rfl⟩) (xPV hN hK hP hD [9, 10] W_X5_reckonLit_c_X3_set_9_10 (by decide) (ci := 3) (j := 9) rfl W_X5_reckonLit_o9) rfl rfl hl.1 rfl (lv_room (Nat.le_of_ble_eq_true rfl)) dX5_reckonLit_59 ⟨Nat.le_of_ble_eq_true rfl, Nat.le_of_ble_eq_true rfl⟩) hP hD hS hA [9, 10] W_X5_reckonLit_c_X3_set_9_10 (fun _ => rfl) (fun u59 H locs hw hP hD hS => ?_)
          rw [W_X5_reckonLit_x_X3_set_9_10] at hP hD
          replace he := he.trans (xbd_some hw)
          refine lv_iinc (v := (v8_3 + 1)) (lv' := [(3, .int (v8_3 + 1)), (4, .int (1 : Int32)), (0, .ref t), (1, .int a1), (2, .ref g)]) hx hb dX5_reckonLit_62 hl (k := 1) rfl rfl (by decide) rfl (fun ls hl => ?_)
          refine lv_goto (tgt := 8) hx hb dX5_reckonLit_65 (by decide) ?_
          exact ih8 (v8_3 + 1) u59 he _ _ _ hP hD hS (lv_sub hl [0, 2, 3, 4] rfl)
  refine lv_aload_n hx hb dX5_reckonLit_0 rfl (lv_at hl 0 rfl) ?_
  refine lv_iconst (v := 0) hx hb dX5_reckonLit_1 (by decide) ?_
  refine lv_aload_n hx hb dX5_reckonLit_2 rfl (lv_at hl 2 rfl) ?_
  have n1_ : fX5_reckonDraughts F ti_4 ti_7 ti_8 tk_2 tk_3 gf (0 : Int32) gn ≠ none := fun z => hne (he.trans (xbd_none z))
  refine xcv (va_runV (As := [.int (0 : Int32), .ref g]) (rest := []) ⟨hx, hb, hml, hown, hts⟩ (c_X5_reckonDraughts l D cI cP s.heap.size t tr ta ti_4 ti_5 ti_6 ti_7 ti_8 ti_9 ti_10 tk_0 tk_1 tk_2 tk_3 g ga gn gf F (0 : Int32) n1_) (cwV 2 hts gX5_reckonLit_X5_reckonDraughts rfl rfl rfl (by decide +kernel) ⟨Nat.le_of_ble_eq_true rfl, Nat.le_of_ble_eq_true rfl⟩) (xPV hN hK hP hD [0, 1, 2, 3, 4, 5, 6, 7, 8, 9, 10] W_X5_reckonLit_c_X5_reckonDraughts_0_1_2_3_4_5_6_7_8_9_10 (by decide) (ci := 5) (j := 0) rfl W_X5_reckonLit_o0) rfl rfl hl.1 rfl (lv_room (Nat.le_of_ble_eq_true rfl)) dX5_reckonLit_3 ⟨Nat.le_of_ble_eq_true rfl, Nat.le_of_ble_eq_true rfl⟩) hP hD hS hA [0, 1, 2, 3, 4, 5, 6, 7, 8, 9, 10] W_X5_reckonLit_c_X5_reckonDraughts_0_1_2_3_4_5_6_7_8_9_10 (fun _ => rfl) (fun u3 H locs hw hP hD hS => ?_)
  rw [W_X5_reckonLit_x_X5_reckonDraughts_0_1_2_3_4_5_6_7_8_9_10] at hP hD
  replace he := he.trans (xbd_some hw)
  refine lv_iconst (v := 0) hx hb dX5_reckonLit_6 (by decide) ?_
  refine lv_istore_n (lv' := [(3, .int (0 : Int32)), (0, .ref t), (1, .int a1), (2, .ref g)]) hx hb dX5_reckonLit_7 rfl hl (by decide) rfl (fun ls hl => ?_)
  exact L8_3 F (0 : Int32) u3 he _ _ _ hP hD hS (lv_sub hl [0, 1, 2, 3] rfl)
