def fX6_isLastBell (a1 : Int32) : Option (Int32) :=
  if a1 < 0 then (some (0 : Int32)) else (if (60 : Int32) < a1 then (some (0 : Int32)) else (some (1 : Int32)))
set_option maxHeartbeats 4000000 in
set_option maxRecDepth 100000 in
theorem c_X6_isLastBell (l : Launch) (D : va_G) (cI cP : ClassId) (sz : Nat) (a1 : Int32) (hne : fX6_isLastBell a1 ≠ none) : xMi l yX6_isLastBell wsX6_isLastBell ({ frames := 0, cells := 0, slots := 0, locals := 0 } : Room) D (xT cI cP) [.int a1] (([] : va_W)) sz (fun r (_ : Unit) => fX6_isLastBell a1 = some r) (fun u => ([] : va_W)) 0 0 := by
  refine xMz_of (cc := cX6_isLastBell) (maxL := 1) (by decide +kernel) rfl (Nat.le_of_ble_eq_true rfl) ?_
  intro p e s m args below meth c A ls hx hb hml hown hts hname hN hK hA hP hD hS hl Q hret
  have he := fX6_isLastBell.eq_1 a1
  have hl : lv_has ls 1 [(0, .int a1)] := hl
  refine lv_iload_n hx hb dX6_isLastBell_0 rfl (lv_at hl 0 rfl) ?_
  refine lv_if_lt (tgt := 14) hx hb dX6_isLastBell_1 (by decide) (fun c1 => ?_) (fun c1 => ?_)
  · replace he := he.trans (if_pos c1)
    refine lv_iconst (v := 0) hx hb dX6_isLastBell_14 (by decide) ?_
    exact hret (0 : Int32) () _ _ _ _ dX6_isLastBell_15 (Or.inl rfl) he hP hD hS
  · replace he := he.trans (if_neg c1)
    refine lv_iload_n hx hb dX6_isLastBell_4 rfl (lv_at hl 0 rfl) ?_
    refine lv_bipush (v := 60) hx hb dX6_isLastBell_5 (by decide) ?_
    refine lv_icmp_gt (tgt := 14) hx hb dX6_isLastBell_7 (by decide) (fun c2 => ?_) (fun c2 => ?_)
    · replace he := he.trans (if_pos c2)
      refine lv_iconst (v := 0) hx hb dX6_isLastBell_14 (by decide) ?_
      exact hret (0 : Int32) () _ _ _ _ dX6_isLastBell_15 (Or.inl rfl) he hP hD hS
    · replace he := he.trans (if_neg c2)
      refine lv_iconst (v := 1) hx hb dX6_isLastBell_10 (by decide) ?_
      refine lv_goto (tgt := 15) hx hb dX6_isLastBell_11 (by decide) ?_
      exact hret (1 : Int32) () _ _ _ _ dX6_isLastBell_15 (Or.inr rfl) he hP hD hS

def fX6_drawOf (a1 : Int32) (a2 : Int32) : Option (Int32) :=
  some (((((((7919 : Int64) * a1.toInt64) + ((6151 : Int64) * a2.toInt64)) + (1 : Int64)) * ((((7919 : Int64) * a1.toInt64) + ((6151 : Int64) * a2.toInt64)) + (1 : Int64))) - (((((7919 : Int64) * a1.toInt64) + ((6151 : Int64) * a2.toInt64)) + (1 : Int64)) * ((((7919 : Int64) * a1.toInt64) + ((6151 : Int64) * a2.toInt64)) + (1 : Int64))) / (65521 : Int64) * (65521 : Int64)).toInt32)
set_option maxHeartbeats 4000000 in
set_option maxRecDepth 100000 in
theorem c_X6_drawOf (l : Launch) (D : va_G) (cI cP : ClassId) (sz : Nat) (a1 : Int32) (a2 : Int32) (hne : fX6_drawOf a1 a2 ≠ none) : xMi l yX6_drawOf wsX6_drawOf ({ frames := 0, cells := 0, slots := 0, locals := 0 } : Room) D (xT cI cP) [.int a1, .int a2] (([] : va_W)) sz (fun r (_ : Unit) => fX6_drawOf a1 a2 = some r) (fun u => ([] : va_W)) 0 0 := by
  refine xMi_of (cc := cX6_drawOf) (maxL := 4) (by decide +kernel) rfl (Nat.le_of_ble_eq_true rfl) ?_
  intro p e s m args below meth c A ls hx hb hml hown hts hname hN hK hA hP hD hS hl Q hret
  have he := fX6_drawOf.eq_1 a1 a2
  have hl : lv_has ls 4 [(0, .int a1), (1, .int a2)] := hl
  refine lv_ldc2 hx hb hown (hts (.constantLong RX6 242 (7919)) (List.mem_of_getElem? (i := 1) rfl)) dX6_drawOf_0 ?_
  refine lv_iload_n hx hb dX6_drawOf_3 rfl (lv_at hl 0 rfl) ?_
  refine lv_i2l hx hb dX6_drawOf_4 rfl ?_
  refine lv_lmul hx hb dX6_drawOf_5 ?_
  refine lv_ldc2 hx hb hown (hts (.constantLong RX6 244 (6151)) (List.mem_of_getElem? (i := 2) rfl)) dX6_drawOf_6 ?_
  refine lv_iload_n hx hb dX6_drawOf_9 rfl (lv_at hl 1 rfl) ?_
  refine lv_i2l hx hb dX6_drawOf_10 rfl ?_
  refine lv_lmul hx hb dX6_drawOf_11 ?_
  refine lv_ladd hx hb dX6_drawOf_12 ?_
  refine lv_lconst (v := 1) hx hb dX6_drawOf_13 (by decide) ?_
  refine lv_ladd hx hb dX6_drawOf_14 ?_
  refine lv_lstore_n (lv' := [(2, .long ((((7919 : Int64) * a1.toInt64) + ((6151 : Int64) * a2.toInt64)) + (1 : Int64))), (0, .int a1), (1, .int a2)]) hx hb dX6_drawOf_15 rfl hl (by decide) rfl (fun ls hl => ?_)
  refine lv_lload_n hx hb dX6_drawOf_16 rfl (lv_at hl 0 rfl) ?_
  refine lv_lload_n hx hb dX6_drawOf_17 rfl (lv_at hl 0 rfl) ?_
  refine lv_lmul hx hb dX6_drawOf_18 ?_
  refine lv_ldc2 hx hb hown (hts (.constantLong RX6 246 (65521)) (List.mem_of_getElem? (i := 3) rfl)) dX6_drawOf_19 ?_
  refine lv_lrem hx hb dX6_drawOf_22 (by decide) ?_
  refine lv_l2i hx hb dX6_drawOf_23 rfl ?_
  exact hret (((((((7919 : Int64) * a1.toInt64) + ((6151 : Int64) * a2.toInt64)) + (1 : Int64)) * ((((7919 : Int64) * a1.toInt64) + ((6151 : Int64) * a2.toInt64)) + (1 : Int64))) - (((((7919 : Int64) * a1.toInt64) + ((6151 : Int64) * a2.toInt64)) + (1 : Int64)) * ((((7919 : Int64) * a1.toInt64) + ((6151 : Int64) * a2.toInt64)) + (1 : Int64))) / (65521 : Int64) * (65521 : Int64)).toInt32) () _ _ _ _ dX6_drawOf_24 he hP hD hS

def fX6_commonDivisor_L7 (k7 : Int32 → Int32 → Int32 → Option (Int32)) : Nat → Int32 → Int32 → Int32 → Option (Int32)
  | 0, _, _, _ => none
  | n7 + 1, v7_4, v7_3, v7_2 => if (64 : Int32) ≤ v7_4 then (k7 v7_4 v7_3 v7_2) else (if v7_3 ≤ 0 then (k7 v7_4 v7_3 v7_2) else (if v7_3 = 0 then none else (fX6_commonDivisor_L7 k7 n7 (v7_4 + 1) (v7_2 - v7_2 / v7_3 * v7_3) v7_3)))
def fX6_commonDivisor (F : Nat) (a1 : Int32) (a2 : Int32) : Option (Int32) :=
  fX6_commonDivisor_L7 (fun (v7_4 : Int32) (v7_3 : Int32) (v7_2 : Int32) => some v7_2) F (0 : Int32) a2 a1
set_option maxHeartbeats 4000000 in
set_option maxRecDepth 100000 in
theorem c_X6_commonDivisor (l : Launch) (D : va_G) (cI cP : ClassId) (sz : Nat) (F : Nat) (a1 : Int32) (a2 : Int32) (hne : fX6_commonDivisor F a1 a2 ≠ none) : xMi l yX6_commonDivisor wsX6_commonDivisor ({ frames := 0, cells := 0, slots := 0, locals := 0 } : Room) D (xT cI cP) [.int a1, .int a2] (([] : va_W)) sz (fun r (_ : Unit) => fX6_commonDivisor F a1 a2 = some r) (fun u => ([] : va_W)) 0 0 := by
  refine xMi_of (cc := cX6_commonDivisor) (maxL := 6) (by decide +kernel) rfl (Nat.le_of_ble_eq_true rfl) ?_
  intro p e s m args below meth c A ls hx hb hml hown hts hname hN hK hA hP hD hS hl Q hret
  have he := fX6_commonDivisor.eq_1 F a1 a2
  have hl : lv_has ls 6 [(0, .int a1), (1, .int a2)] := hl
  have R7_0 : ∀ (v7_4 : Int32) (v7_3 : Int32) (v7_2 : Int32), fX6_commonDivisor F a1 a2 = (some v7_2) → ∀ (H : Heap) (locs : List Loc) (ls : Array Slot), va_P D vwCl (([] : va_W)) H → va_D A (([] : va_W)) → va_S A s.heap H locs → lv_has ls 6 [(2, .int v7_2)] → W p l e ({ frames := 0, cells := 0, slots := 0, locals := 0 } : Room) s m args below meth c H locs 0 0 Q (F0 m 34 ls []) := by
    intro v7_4 v7_3 v7_2 he H locs ls hP hD hS hl
    refine lv_iload_n hx hb dX6_commonDivisor_34 rfl (lv_at hl 0 rfl) ?_
    exact hret v7_2 () _ _ _ _ dX6_commonDivisor_35 he hP hD hS
  have L7_4 : ∀ (n7 : Nat) (v7_4 : Int32) (v7_3 : Int32) (v7_2 : Int32), fX6_commonDivisor F a1 a2 = fX6_commonDivisor_L7 (fun (v7_4 : Int32) (v7_3 : Int32) (v7_2 : Int32) => some v7_2) n7 v7_4 v7_3 v7_2 → ∀ (H : Heap) (locs : List Loc) (ls : Array Slot), va_P D vwCl (([] : va_W)) H → va_D A (([] : va_W)) → va_S A s.heap H locs → lv_has ls 6 [(4, .int v7_4), (3, .int v7_3), (2, .int v7_2)] → W p l e ({ frames := 0, cells := 0, slots := 0, locals := 0 } : Room) s m args below meth c H locs 0 0 Q (F0 m 7 ls []) := by
    intro n7
    induction n7 with
    | zero => intro v7_4 v7_3 v7_2 he; exact absurd he hne
    | succ n7 ih7 =>
      intro v7_4 v7_3 v7_2 he H locs ls hP hD hS hl
      replace he := he.trans (fX6_commonDivisor_L7.eq_2 _ _ _ _ _)
      refine lv_iload hx hb dX6_commonDivisor_7 (lv_at hl 0 rfl) ?_
      refine lv_bipush (v := 64) hx hb dX6_commonDivisor_9 (by decide) ?_
      refine lv_icmp_ge (tgt := 34) hx hb dX6_commonDivisor_11 (by decide) (fun c1 => ?_) (fun c1 => ?_)
      · replace he := he.trans (if_pos c1)
        exact R7_0 v7_4 v7_3 v7_2 he _ _ _ hP hD hS (lv_sub hl [2] rfl)
      · replace he := he.trans (if_neg c1)
        refine lv_iload_n hx hb dX6_commonDivisor_14 rfl (lv_at hl 1 rfl) ?_
        refine lv_if_le (tgt := 34) hx hb dX6_commonDivisor_15 (by decide) (fun c2 => ?_) (fun c2 => ?_)
        · replace he := he.trans (if_pos c2)
          exact R7_0 v7_4 v7_3 v7_2 he _ _ _ hP hD hS (lv_sub hl [2] rfl)
        · replace he := he.trans (if_neg c2)
          refine lv_iload_n hx hb dX6_commonDivisor_18 rfl (lv_at hl 2 rfl) ?_
          refine lv_iload_n hx hb dX6_commonDivisor_19 rfl (lv_at hl 1 rfl) ?_
          by_cases g3 : v7_3 = 0
          · exact absurd (he.trans (if_pos g3)) hne
          replace he := he.trans (if_neg g3)
          refine lv_irem hx hb dX6_commonDivisor_20 g3 ?_
          refine lv_istore (lv' := [(5, .int (v7_2 - v7_2 / v7_3 * v7_3)), (4, .int v7_4), (3, .int v7_3), (2, .int v7_2)]) hx hb dX6_commonDivisor_21 hl (by decide) rfl (fun ls hl => ?_)
          refine lv_iload_n hx hb dX6_commonDivisor_23 rfl (lv_at hl 2 rfl) ?_
          refine lv_istore_n (lv' := [(2, .int v7_3), (5, .int (v7_2 - v7_2 / v7_3 * v7_3)), (4, .int v7_4), (3, .int v7_3)]) hx hb dX6_commonDivisor_24 rfl hl (by decide) rfl (fun ls hl => ?_)
          refine lv_iload hx hb dX6_commonDivisor_25 (lv_at hl 1 rfl) ?_
          refine lv_istore_n (lv' := [(3, .int (v7_2 - v7_2 / v7_3 * v7_3)), (2, .int v7_3), (5, .int (v7_2 - v7_2 / v7_3 * v7_3)), (4, .int v7_4)]) hx hb dX6_commonDivisor_27 rfl hl (by decide) rfl (fun ls hl => ?_)
          refine lv_iinc (v := (v7_4 + 1)) (lv' := [(4, .int (v7_4 + 1)), (3, .int (v7_2 - v7_2 / v7_3 * v7_3)), (2, .int v7_3), (5, .int (v7_2 - v7_2 / v7_3 * v7_3))]) hx hb dX6_commonDivisor_28 hl (k := 3) rfl rfl (by decide) rfl (fun ls hl => ?_)
          refine lv_goto (tgt := 7) hx hb dX6_commonDivisor_31 (by decide) ?_
          exact ih7 (v7_4 + 1) (v7_2 - v7_2 / v7_3 * v7_3) v7_3 he _ _ _ hP hD hS (lv_sub hl [0, 1, 2] rfl)
  refine lv_iload_n hx hb dX6_commonDivisor_0 rfl (lv_at hl 0 rfl) ?_
  refine lv_istore_n (lv' := [(2, .int a1), (0, .int a1), (1, .int a2)]) hx hb dX6_commonDivisor_1 rfl hl (by decide) rfl (fun ls hl => ?_)
  refine lv_iload_n hx hb dX6_commonDivisor_2 rfl (lv_at hl 2 rfl) ?_
  refine lv_istore_n (lv' := [(3, .int a2), (2, .int a1), (0, .int a1), (1, .int a2)]) hx hb dX6_commonDivisor_3 rfl hl (by decide) rfl (fun ls hl => ?_)
  refine lv_iconst (v := 0) hx hb dX6_commonDivisor_4 (by decide) ?_
  refine lv_istore (lv' := [(4, .int (0 : Int32)), (3, .int a2), (2, .int a1), (0, .int a1), (1, .int a2)]) hx hb dX6_commonDivisor_5 hl (by decide) rfl (fun ls hl => ?_)
  exact L7_4 F (0 : Int32) a2 a1 he _ _ _ hP hD hS (lv_sub hl [0, 1, 2] rfl)

def fX6_isMan (ti_4 : Int32) (a1 : Int32) : Option (Int32) :=
  if a1 < 0 then (some (0 : Int32)) else (if ti_4 ≤ a1 then (some (0 : Int32)) else (some (1 : Int32)))
theorem hi_X6_isMan_5 : ∀ w ∈ wsX50, w ∈ wsX6_isMan := fun _ h => (List.mem_cons_of_mem _ (List.mem_append_right _ h))
theorem hi_X6_isMan_6 : ∀ w ∈ wsX60, w ∈ wsX6_isMan := fun _ h => (List.mem_cons_of_mem _ (List.mem_append_left _ (List.mem_append_right _ h)))
set_option maxHeartbeats 4000000 in
set_option maxRecDepth 100000 in
theorem c_X6_isMan (l : Launch) (D : va_G) (cI cP : ClassId) (sz : Nat) (x : Nat) (xr : Nat → Nat) (xl : Int32) (xt : Nat) (xd : Nat) (tr : Nat → Nat) (ta : Nat → Nat) (ti : Nat → Int32) (tk : Nat → Nat → Int32) (a1 : Int32) (hne : fX6_isMan (ti 4) a1 ≠ none) : xMi l yX6_isMan wsX6_isMan ({ frames := 0, cells := 0, slots := 0, locals := 0 } : Room) D (xT cI cP) [.ref x, .int a1] ((wX x xr xl xt xd) ++ (wTold cI xt tr ta ti tk)) sz (fun r (_ : Unit) => fX6_isMan (ti 4) a1 = some r) (fun u => (wX x xr xl xt xd) ++ (wTold cI xt tr ta ti tk)) 0 0 := by
  refine xMz_of (cc := cX6_isMan) (maxL := 2) (by decide +kernel) rfl (Nat.le_of_ble_eq_true rfl) ?_
  intro p e s m args below meth c A ls hx hb hml hown hts hname hN hK hA hP hD hS hl Q hret
  have he := fX6_isMan.eq_1 (ti 4) a1
  have hl : lv_has ls 2 [(0, .ref x), (1, .int a1)] := hl
  refine lv_iload_n hx hb dX6_isMan_0 rfl (lv_at hl 1 rfl) ?_
  refine lv_if_lt (tgt := 19) hx hb dX6_isMan_1 (by decide) (fun c1 => ?_) (fun c1 => ?_)
  · replace he := he.trans (if_pos c1)
    refine lv_iconst (v := 0) hx hb dX6_isMan_19 (by decide) ?_
    exact hret (0 : Int32) () _ _ _ _ dX6_isMan_20 (Or.inl rfl) he hP hD hS
  · replace he := he.trans (if_neg c1)
    refine lv_iload_n hx hb dX6_isMan_4 rfl (lv_at hl 1 rfl) ?_
    refine lv_aload_n hx hb dX6_isMan_5 rfl (lv_at hl 0 rfl) ?_
    refine va_get (D := D) (ci := 6) (v := .ref xt) (C := RX6) (T := TX6) (N := 12) hx hb hts hi_X6_isMan_6 hown hK hP 0 rfl rfl 10 (by decide) (hts (.fieldLink RX6 61 "BlindLanterns" "told" "LBlindLanterns$Told;") (List.mem_of_getElem? (i := 1) rfl)) (fun _ h9 => h9) rfl dX6_isMan_6 ?_
    refine va_getN (D := D) (ci := 5) (v := .int (ti 4)) (C := RX5) (T := TX5) (N := 11) hx hb hts hi_X6_isMan_5 hown hK hP 1 rfl rfl 4 (by decide) (va_Nw.use rfl (hN (.fieldLinkNest RX6 100 "BlindLanterns$Told" "men" "I" "BlindLanterns") (List.mem_of_getElem? (i := 15) rfl))) (fun _ h9 => h9) rfl dX6_isMan_9 ?_
    refine lv_icmp_ge (tgt := 19) hx hb dX6_isMan_12 (by decide) (fun c2 => ?_) (fun c2 => ?_)
    · replace he := he.trans (if_pos c2)
      refine lv_iconst (v := 0) hx hb dX6_isMan_19 (by decide) ?_
      exact hret (0 : Int32) () _ _ _ _ dX6_isMan_20 (Or.inl rfl) he hP hD hS
    · replace he := he.trans (if_neg c2)
      refine lv_iconst (v := 1) hx hb dX6_isMan_15 (by decide) ?_
      refine lv_goto (tgt := 20) hx hb dX6_isMan_16 (by decide) ?_
      exact hret (1 : Int32) () _ _ _ _ dX6_isMan_20 (Or.inr rfl) he hP hD hS

def fX6_isSet (ti_4 : Int32) (a1 : Int32) : Option (Int32) :=
  if a1 < 0 then (some (0 : Int32)) else (if ((1 : Int32) <<< (ti_4 &&& 31)) ≤ a1 then (some (0 : Int32)) else (some (1 : Int32)))
theorem hi_X6_isSet_5 : ∀ w ∈ wsX50, w ∈ wsX6_isSet := fun _ h => (List.mem_cons_of_mem _ (List.mem_append_right _ h))
theorem hi_X6_isSet_6 : ∀ w ∈ wsX60, w ∈ wsX6_isSet := fun _ h => (List.mem_cons_of_mem _ (List.mem_append_left _ (List.mem_append_right _ h)))
set_option maxHeartbeats 4000000 in
set_option maxRecDepth 100000 in
theorem c_X6_isSet (l : Launch) (D : va_G) (cI cP : ClassId) (sz : Nat) (x : Nat) (xr : Nat → Nat) (xl : Int32) (xt : Nat) (xd : Nat) (tr : Nat → Nat) (ta : Nat → Nat) (ti : Nat → Int32) (tk : Nat → Nat → Int32) (a1 : Int32) (hne : fX6_isSet (ti 4) a1 ≠ none) : xMi l yX6_isSet wsX6_isSet ({ frames := 0, cells := 0, slots := 0, locals := 0 } : Room) D (xT cI cP) [.ref x, .int a1] ((wX x xr xl xt xd) ++ (wTold cI xt tr ta ti tk)) sz (fun r (_ : Unit) => fX6_isSet (ti 4) a1 = some r) (fun u => (wX x xr xl xt xd) ++ (wTold cI xt tr ta ti tk)) 0 0 := by
  refine xMz_of (cc := cX6_isSet) (maxL := 2) (by decide +kernel) rfl (Nat.le_of_ble_eq_true rfl) ?_
  intro p e s m args below meth c A ls hx hb hml hown hts hname hN hK hA hP hD hS hl Q hret
  have he := fX6_isSet.eq_1 (ti 4) a1
  have hl : lv_has ls 2 [(0, .ref x), (1, .int a1)] := hl
  refine lv_iload_n hx hb dX6_isSet_0 rfl (lv_at hl 1 rfl) ?_
  refine lv_if_lt (tgt := 21) hx hb dX6_isSet_1 (by decide) (fun c1 => ?_) (fun c1 => ?_)
  · replace he := he.trans (if_pos c1)
    refine lv_iconst (v := 0) hx hb dX6_isSet_21 (by decide) ?_
    exact hret (0 : Int32) () _ _ _ _ dX6_isSet_22 (Or.inl rfl) he hP hD hS
  · replace he := he.trans (if_neg c1)
    refine lv_iload_n hx hb dX6_isSet_4 rfl (lv_at hl 1 rfl) ?_
    refine lv_iconst (v := 1) hx hb dX6_isSet_5 (by decide) ?_
    refine lv_aload_n hx hb dX6_isSet_6 rfl (lv_at hl 0 rfl) ?_
    refine va_get (D := D) (ci := 6) (v := .ref xt) (C := RX6) (T := TX6) (N := 12) hx hb hts hi_X6_isSet_6 hown hK hP 0 rfl rfl 10 (by decide) (hts (.fieldLink RX6 61 "BlindLanterns" "told" "LBlindLanterns$Told;") (List.mem_of_getElem? (i := 1) rfl)) (fun _ h9 => h9) rfl dX6_isSet_7 ?_
    refine va_getN (D := D) (ci := 5) (v := .int (ti 4)) (C := RX5) (T := TX5) (N := 11) hx hb hts hi_X6_isSet_5 hown hK hP 1 rfl rfl 4 (by decide) (va_Nw.use rfl (hN (.fieldLinkNest RX6 100 "BlindLanterns$Told" "men" "I" "BlindLanterns") (List.mem_of_getElem? (i := 15) rfl))) (fun _ h9 => h9) rfl dX6_isSet_10 ?_
    refine lv_ishl hx hb dX6_isSet_13 ?_
    refine lv_icmp_ge (tgt := 21) hx hb dX6_isSet_14 (by decide) (fun c2 => ?_) (fun c2 => ?_)
    · replace he := he.trans (if_pos c2)
      refine lv_iconst (v := 0) hx hb dX6_isSet_21 (by decide) ?_
      exact hret (0 : Int32) () _ _ _ _ dX6_isSet_22 (Or.inl rfl) he hP hD hS
    · replace he := he.trans (if_neg c2)
      refine lv_iconst (v := 1) hx hb dX6_isSet_17 (by decide) ?_
      refine lv_goto (tgt := 22) hx hb dX6_isSet_18 (by decide) ?_
      exact hret (1 : Int32) () _ _ _ _ dX6_isSet_22 (Or.inr rfl) he hP hD hS

def fX6_isLitBehind (F : Nat) (ti_4 : Int32) (ti_7 : Int32) (qi_2 : Int32) (qi_3 : Int32) (qk_0 : Nat → Int32) (qk_1 : Nat → Int32) (zf : Nat → Int32) (a1 : Int32) (a2 : Int32) : Option (Int32) :=
  xbd (fX5_postBefore ti_4 ti_7 a2 a1) (fun (r6 : Int32) => xbd (fX1_lanternAt F qi_2 qk_0 r6) (fun (r20 : Int32) => xbd (fX3_get zf r6 6) (fun (r28 : Int32) => xbd (fX1_litFor qi_3 qk_1 r20 r28) (fun (r31 : Int32) => if r31 ≤ a1 then (some (0 : Int32)) else (some (1 : Int32))))))
theorem hi_X6_isLitBehind_6 : ∀ w ∈ wsX60, w ∈ wsX6_isLitBehind := fun _ h => (List.mem_cons_of_mem _ (List.mem_append_left _ (List.mem_append_left _ (List.mem_append_left _ (List.mem_append_right _ h)))))
set_option maxHeartbeats 4000000 in
set_option maxRecDepth 100000 in
theorem c_X6_isLitBehind (l : Launch) (D : va_G) (cI cP : ClassId) (sz : Nat) (x : Nat) (xr : Nat → Nat) (xl : Int32) (xt : Nat) (xd : Nat) (tr : Nat → Nat) (ta : Nat → Nat) (ti : Nat → Int32) (tk : Nat → Nat → Int32) (qr : Nat → Nat) (qa : Nat → Nat) (qi : Nat → Int32) (qk : Nat → Nat → Int32) (za : Nat) (zf : Nat → Int32) (F : Nat) (a1 : Int32) (a2 : Int32) (hne : fX6_isLitBehind F (ti 4) (ti 7) (qi 2) (qi 3) (qk 0) (qk 1) zf a1 a2 ≠ none) : xMi l yX6_isLitBehind wsX6_isLitBehind ({ frames := 3, cells := 0, slots := 0, locals := 65 } : Room) D (xT cI cP) [.ref x, .int a1, .int a2] ((wX x xr xl xt xd) ++ (wTold cI xt tr ta ti tk) ++ (wPass cI (xr 5) qr qa qi qk) ++ (wRow cI (xr 7) za 6 zf)) sz (fun r (_ : Unit) => fX6_isLitBehind F (ti 4) (ti 7) (qi 2) (qi 3) (qk 0) (qk 1) zf a1 a2 = some r) (fun u => (wX x xr xl xt xd) ++ (wTold cI xt tr ta ti tk) ++ (wPass cI (xr 5) qr qa qi qk) ++ (wRow cI (xr 7) za 6 zf)) 0 0 := by
  refine xMz_of (cc := cX6_isLitBehind) (maxL := 4) (by decide +kernel) rfl (Nat.le_of_ble_eq_true rfl) ?_
  intro p e s m args below meth c A ls hx hb hml hown hts hname hN hK hA hP hD hS hl Q hret
  have he := fX6_isLitBehind.eq_1 F (ti 4) (ti 7) (qi 2) (qi 3) (qk 0) (qk 1) zf a1 a2
  have hl : lv_has ls 4 [(0, .ref x), (1, .int a1), (2, .int a2)] := hl
  refine lv_aload_n hx hb dX6_isLitBehind_0 rfl (lv_at hl 0 rfl) ?_
  refine va_get (D := D) (ci := 6) (v := .ref xt) (C := RX6) (T := TX6) (N := 12) hx hb hts hi_X6_isLitBehind_6 hown hK hP 0 rfl rfl 10 (by decide) (hts (.fieldLink RX6 61 "BlindLanterns" "told" "LBlindLanterns$Told;") (List.mem_of_getElem? (i := 1) rfl)) (fun _ h9 => h9) rfl dX6_isLitBehind_1 ?_
  refine lv_iload_n hx hb dX6_isLitBehind_4 rfl (lv_at hl 2 rfl) ?_
  refine lv_iload_n hx hb dX6_isLitBehind_5 rfl (lv_at hl 1 rfl) ?_
  have n1_ : fX5_postBefore (ti 4) (ti 7) a2 a1 ≠ none := fun z => hne (he.trans (xbd_none z))
  refine xci (va_runV (As := [.int a2, .int a1]) (rest := []) ⟨hx, hb, hml, hown, hts⟩ (c_X5_postBefore l D cI cP s.heap.size xt tr ta ti tk a2 a1 n1_) (cwV 2 hts gX6_isLitBehind_X5_postBefore rfl rfl rfl (by decide +kernel) ⟨Nat.le_of_ble_eq_true rfl, Nat.le_of_ble_eq_true rfl⟩) (xPV hN hK hP hD [1, 2, 3, 4, 5, 6, 7, 8, 9] rfl (by decide) (ci := 5) (j := 1) rfl rfl) rfl rfl hl.1 rfl (lv_room (Nat.le_of_ble_eq_true rfl)) dX6_isLitBehind_6 ⟨Nat.le_of_ble_eq_true rfl, Nat.le_of_ble_eq_true rfl⟩) hP hD hS hA [1, 2, 3, 4, 5, 6, 7, 8, 9] rfl (fun _ => rfl) (fun r6 u6 H locs hw hP hD hS => ?_)
  have hP : va_P D vwCl ((wX x xr xl xt xd) ++ (wTold cI xt tr ta ti tk) ++ (wPass cI (xr 5) qr qa qi qk) ++ (wRow cI (xr 7) za 6 zf)) H := hP
  have hD : va_D A ((wX x xr xl xt xd) ++ (wTold cI xt tr ta ti tk) ++ (wPass cI (xr 5) qr qa qi qk) ++ (wRow cI (xr 7) za 6 zf)) := hD
  replace he := he.trans (xbd_some hw)
  refine lv_istore_n (lv' := [(3, .int r6), (0, .ref x), (1, .int a1), (2, .int a2)]) hx hb dX6_isLitBehind_9 rfl hl (by decide) rfl (fun ls hl => ?_)
  refine lv_iload_n hx hb dX6_isLitBehind_10 rfl (lv_at hl 2 rfl) ?_
  refine lv_aload_n hx hb dX6_isLitBehind_11 rfl (lv_at hl 1 rfl) ?_
  refine va_get (D := D) (ci := 6) (v := .ref (xr 5)) (C := RX6) (T := TX6) (N := 12) hx hb hts hi_X6_isLitBehind_6 hown hK hP 0 rfl rfl 5 (by decide) (hts (.fieldLink RX6 45 "BlindLanterns" "pass" "LBlindLanterns$Pass;") (List.mem_of_getElem? (i := 2) rfl)) (fun _ h9 => h9) rfl dX6_isLitBehind_12 ?_
  refine lv_aload_n hx hb dX6_isLitBehind_15 rfl (lv_at hl 1 rfl) ?_
  refine va_get (D := D) (ci := 6) (v := .ref (xr 5)) (C := RX6) (T := TX6) (N := 12) hx hb hts hi_X6_isLitBehind_6 hown hK hP 0 rfl rfl 5 (by decide) (hts (.fieldLink RX6 45 "BlindLanterns" "pass" "LBlindLanterns$Pass;") (List.mem_of_getElem? (i := 2) rfl)) (fun _ h9 => h9) rfl dX6_isLitBehind_16 ?_
  refine lv_iload_n hx hb dX6_isLitBehind_19 rfl (lv_at hl 0 rfl) ?_
  have n2_ : fX1_lanternAt F (qi 2) (qk 0) r6 ≠ none := fun z => hne (he.trans (xbd_none z))
  refine xci (va_runV (As := [.int r6]) (rest := [.ref (xr 5), .int a1]) ⟨hx, hb, hml, hown, hts⟩ (c_X1_lanternAt l D cI cP H.size (xr 5) qr qa qi qk F r6 n2_) (cwV 1 hts gX6_isLitBehind_X1_lanternAt rfl rfl rfl (by decide +kernel) ⟨Nat.le_of_ble_eq_true rfl, Nat.le_of_ble_eq_true rfl⟩) (xPV hN hK hP hD [10, 11, 12, 13, 14] rfl (by decide) (ci := 1) (j := 10) rfl rfl) rfl rfl hl.1 rfl (lv_room (Nat.le_of_ble_eq_true rfl)) dX6_isLitBehind_20 ⟨Nat.le_of_ble_eq_true rfl, Nat.le_of_ble_eq_true rfl⟩) hP hD hS hA [10, 11, 12, 13, 14] rfl (fun _ => rfl) (fun r20 u20 H locs hw hP hD hS => ?_)
  have hP : va_P D vwCl ((wX x xr xl xt xd) ++ (wTold cI xt tr ta ti tk) ++ (wPass cI (xr 5) qr qa qi qk) ++ (wRow cI (xr 7) za 6 zf)) H := hP
  have hD : va_D A ((wX x xr xl xt xd) ++ (wTold cI xt tr ta ti tk) ++ (wPass cI (xr 5) qr qa qi qk) ++ (wRow cI (xr 7) za 6 zf)) := hD
  replace he := he.trans (xbd_some hw)
  refine lv_aload_n hx hb dX6_isLitBehind_23 rfl (lv_at hl 1 rfl) ?_
  refine va_get (D := D) (ci := 6) (v := .ref (xr 7)) (C := RX6) (T := TX6) (N := 12) hx hb hts hi_X6_isLitBehind_6 hown hK hP 0 rfl rfl 7 (by decide) (hts (.fieldLink RX6 52 "BlindLanterns" "draughtIn" "LBlindLanterns$Row;") (List.mem_of_getElem? (i := 3) rfl)) (fun _ h9 => h9) rfl dX6_isLitBehind_24 ?_
  refine lv_iload_n hx hb dX6_isLitBehind_27 rfl (lv_at hl 0 rfl) ?_
  have n3_ : fX3_get zf r6 6 ≠ none := fun z => hne (he.trans (xbd_none z))
  refine xci (va_runV (As := [.int r6]) (rest := [.int r20, .ref (xr 5), .int a1]) ⟨hx, hb, hml, hown, hts⟩ (c_X3_get l D cI cP H.size (xr 7) za 6 zf r6 n3_) (cwV 1 hts gX6_isLitBehind_X3_get rfl rfl rfl (by decide +kernel) ⟨Nat.le_of_ble_eq_true rfl, Nat.le_of_ble_eq_true rfl⟩) (xPV hN hK hP hD [15, 16] rfl (by decide) (ci := 3) (j := 15) rfl rfl) rfl rfl hl.1 rfl (lv_room (Nat.le_of_ble_eq_true rfl)) dX6_isLitBehind_28 ⟨Nat.le_of_ble_eq_true rfl, Nat.le_of_ble_eq_true rfl⟩) hP hD hS hA [15, 16] rfl (fun _ => rfl) (fun r28 u28 H locs hw hP hD hS => ?_)
  have hP : va_P D vwCl ((wX x xr xl xt xd) ++ (wTold cI xt tr ta ti tk) ++ (wPass cI (xr 5) qr qa qi qk) ++ (wRow cI (xr 7) za 6 zf)) H := hP
  have hD : va_D A ((wX x xr xl xt xd) ++ (wTold cI xt tr ta ti tk) ++ (wPass cI (xr 5) qr qa qi qk) ++ (wRow cI (xr 7) za 6 zf)) := hD
  replace he := he.trans (xbd_some hw)
  have n4_ : fX1_litFor (qi 3) (qk 1) r20 r28 ≠ none := fun z => hne (he.trans (xbd_none z))
  refine xci (va_runV (As := [.int r20, .int r28]) (rest := [.int a1]) ⟨hx, hb, hml, hown, hts⟩ (c_X1_litFor l D cI cP H.size (xr 5) qr qa qi qk r20 r28 n4_) (cwV 2 hts gX6_isLitBehind_X1_litFor rfl rfl rfl (by decide +kernel) ⟨Nat.le_of_ble_eq_true rfl, Nat.le_of_ble_eq_true rfl⟩) (xPV hN hK hP hD [10, 11, 12, 13, 14] rfl (by decide) (ci := 1) (j := 10) rfl rfl) rfl rfl hl.1 rfl (lv_room (Nat.le_of_ble_eq_true rfl)) dX6_isLitBehind_31 ⟨Nat.le_of_ble_eq_true rfl, Nat.le_of_ble_eq_true rfl⟩) hP hD hS hA [10, 11, 12, 13, 14] rfl (fun _ => rfl) (fun r31 u31 H locs hw hP hD hS => ?_)
  have hP : va_P D vwCl ((wX x xr xl xt xd) ++ (wTold cI xt tr ta ti tk) ++ (wPass cI (xr 5) qr qa qi qk) ++ (wRow cI (xr 7) za 6 zf)) H := hP
  have hD : va_D A ((wX x xr xl xt xd) ++ (wTold cI xt tr ta ti tk) ++ (wPass cI (xr 5) qr qa qi qk) ++ (wRow cI (xr 7) za 6 zf)) := hD
  replace he := he.trans (xbd_some hw)
  refine lv_icmp_ge (tgt := 41) hx hb dX6_isLitBehind_34 (by decide) (fun c5 => ?_) (fun c5 => ?_)
  · replace he := he.trans (if_pos c5)
    refine lv_iconst (v := 0) hx hb dX6_isLitBehind_41 (by decide) ?_
    exact hret (0 : Int32) () _ _ _ _ dX6_isLitBehind_42 (Or.inl rfl) he hP hD hS
  · replace he := he.trans (if_neg c5)
    refine lv_iconst (v := 1) hx hb dX6_isLitBehind_37 (by decide) ?_
    refine lv_goto (tgt := 42) hx hb dX6_isLitBehind_38 (by decide) ?_
    exact hret (1 : Int32) () _ _ _ _ dX6_isLitBehind_42 (Or.inr rfl) he hP hD hS

def fX6_write_L33 (a2 : Int64) (k33 : Int32 → Int32 → (Nat → Int32) → Option (Int32 × Int32 × (Nat → Int32))) : Nat → Int32 → Int32 → (Nat → Int32) → Option (Int32 × Int32 × (Nat → Int32))
  | 0, _, _, _ => none
  | n33 + 1, v33_4, w33_xl, w33_gf => if v33_4 < 0 then (k33 v33_4 w33_xl w33_gf) else (xbd (fX3_set w33_gf w33_xl ((((a2.toUInt64 >>> (((8 : Int32) * v33_4).toInt64.toUInt64 &&& Int64.toUInt64 63)).toInt64).toInt32) &&& (255 : Int32)) 300) (fun (u58 : (Nat → Int32)) => fX6_write_L33 a2 k33 n33 (v33_4 + (-1)) (w33_xl + (1 : Int32)) u58))
def fX6_write (F : Nat) (xl : Int32) (gf : Nat → Int32) (a1 : Int32) (a2 : Int64) : Option (Int32 × Int32 × (Nat → Int32)) :=
  if a1 < (1 : Int32) then (some ((-1 : Int32), (xl, gf))) else (if a1 ≤ (8 : Int32) then (if (xl + a1) ≤ (300 : Int32) then (fX6_write_L33 a2 (fun (v33_4 : Int32) (w33_xl : Int32) (w33_gf : Nat → Int32) => some (w33_xl, (w33_xl, w33_gf))) F (a1 - (1 : Int32)) xl gf) else (some ((-3 : Int32), (xl, gf)))) else (some ((-1 : Int32), (xl, gf))))
theorem hi_X6_write_6 : ∀ w ∈ wsX60, w ∈ wsX6_write := fun _ h => (List.mem_cons_of_mem _ (List.mem_append_left _ (List.mem_append_right _ h)))
set_option maxHeartbeats 4000000 in
set_option maxRecDepth 100000 in
theorem c_X6_write (l : Launch) (D : va_G) (cI cP : ClassId) (sz : Nat) (x : Nat) (xr : Nat → Nat) (xl : Int32) (xt : Nat) (xd : Nat) (ga : Nat) (gf : Nat → Int32) (F : Nat) (a1 : Int32) (a2 : Int64) (hne : fX6_write F xl gf a1 a2 ≠ none) : xMi l yX6_write wsX6_write ({ frames := 1, cells := 0, slots := 0, locals := 22 } : Room) D (xT cI cP) [.ref x, .int a1, .long a2] ((wX x xr xl xt xd) ++ (wRow cI (xr 0) ga 300 gf)) sz (fun r (u : (Int32 × (Nat → Int32))) => fX6_write F xl gf a1 a2 = some (r, u)) (fun u => (wX x xr u.1 xt xd) ++ (wRow cI (xr 0) ga 300 u.2)) 0 0 := by
  refine xMi_of (cc := cX6_write) (maxL := 5) (by decide +kernel) rfl (Nat.le_of_ble_eq_true rfl) ?_
  intro p e s m args below meth c A ls hx hb hml hown hts hname hN hK hA hP hD hS hl Q hret
  have he := fX6_write.eq_1 F xl gf a1 a2
  have hl : lv_has ls 5 [(0, .ref x), (1, .int a1), (2, .long a2)] := hl
  have R33_0 : ∀ (v33_4 : Int32) (w33_xl : Int32) (w33_gf : Nat → Int32), fX6_write F xl gf a1 a2 = (some (w33_xl, (w33_xl, w33_gf))) → ∀ (H : Heap) (locs : List Loc) (ls : Array Slot), va_P D vwCl ((wX x xr w33_xl xt xd) ++ (wRow cI (xr 0) ga 300 w33_gf)) H → va_D A ((wX x xr w33_xl xt xd) ++ (wRow cI (xr 0) ga 300 w33_gf)) → va_S A s.heap H locs → lv_has ls 5 [(0, .ref x)] → W p l e ({ frames := 1, cells := 0, slots := 0, locals := 22 } : Room) s m args below meth c H locs 0 0 Q (F0 m 77 ls []) := by
    intro v33_4 w33_xl w33_gf he H locs ls hP hD hS hl
    refine lv_aload_n hx hb dX6_write_77 rfl (lv_at hl 0 rfl) ?_
    refine va_get (D := D) (ci := 6) (v := .int w33_xl) (C := RX6) (T := TX6) (N := 12) hx hb hts hi_X6_write_6 hown hK hP 0 rfl rfl 9 (by decide) (hts (.fieldLink RX6 80 "BlindLanterns" "length" "I") (List.mem_of_getElem? (i := 1) rfl)) (fun _ h9 => h9) rfl dX6_write_78 ?_
    exact hret w33_xl (w33_xl, w33_gf) _ _ _ _ dX6_write_81 he hP hD hS
  have L33_5 : ∀ (n33 : Nat) (v33_4 : Int32) (w33_xl : Int32) (w33_gf : Nat → Int32), fX6_write F xl gf a1 a2 = fX6_write_L33 a2 (fun (v33_4 : Int32) (w33_xl : Int32) (w33_gf : Nat → Int32) => some (w33_xl, (w33_xl, w33_gf))) n33 v33_4 w33_xl w33_gf → ∀ (H : Heap) (locs : List Loc) (ls : Array Slot), va_P D vwCl ((wX x xr w33_xl xt xd) ++ (wRow cI (xr 0) ga 300 w33_gf)) H → va_D A ((wX x xr w33_xl xt xd) ++ (wRow cI (xr 0) ga 300 w33_gf)) → va_S A s.heap H locs → lv_has ls 5 [(4, .int v33_4), (0, .ref x), (2, .long a2)] → W p l e ({ frames := 1, cells := 0, slots := 0, locals := 22 } : Room) s m args below meth c H locs 0 0 Q (F0 m 33 ls []) := by
    intro n33
    induction n33 with
    | zero => intro v33_4 w33_xl w33_gf he; exact absurd he hne
    | succ n33 ih33 =>
      intro v33_4 w33_xl w33_gf he H locs ls hP hD hS hl
      replace he := he.trans (fX6_write_L33.eq_2 _ _ _ _ _ _)
      refine lv_iload hx hb dX6_write_33 (lv_at hl 0 rfl) ?_
      refine lv_if_lt (tgt := 77) hx hb dX6_write_35 (by decide) (fun c4 => ?_) (fun c4 => ?_)
      · replace he := he.trans (if_pos c4)
        exact R33_0 v33_4 w33_xl w33_gf he _ _ _ hP hD hS (lv_sub hl [1] rfl)
      · replace he := he.trans (if_neg c4)
        refine lv_aload_n hx hb dX6_write_38 rfl (lv_at hl 1 rfl) ?_
        refine va_get (D := D) (ci := 6) (v := .ref (xr 0)) (C := RX6) (T := TX6) (N := 12) hx hb hts hi_X6_write_6 hown hK hP 0 rfl rfl 0 (by decide) (hts (.fieldLink RX6 14 "BlindLanterns" "text" "LBlindLanterns$Row;") (List.mem_of_getElem? (i := 2) rfl)) (fun _ h9 => h9) rfl dX6_write_39 ?_
        refine lv_aload_n hx hb dX6_write_42 rfl (lv_at hl 1 rfl) ?_
        refine va_get (D := D) (ci := 6) (v := .int w33_xl) (C := RX6) (T := TX6) (N := 12) hx hb hts hi_X6_write_6 hown hK hP 0 rfl rfl 9 (by decide) (hts (.fieldLink RX6 80 "BlindLanterns" "length" "I") (List.mem_of_getElem? (i := 1) rfl)) (fun _ h9 => h9) rfl dX6_write_43 ?_
        refine lv_lload_n hx hb dX6_write_46 rfl (lv_at hl 2 rfl) ?_
        refine lv_bipush (v := 8) hx hb dX6_write_47 (by decide) ?_
        refine lv_iload hx hb dX6_write_49 (lv_at hl 0 rfl) ?_
        refine lv_imul hx hb dX6_write_51 ?_
        refine lv_lushr hx hb dX6_write_52 rfl ?_
        refine lv_l2i hx hb dX6_write_53 rfl ?_
        refine lv_sipush (v := 255) hx hb dX6_write_54 (by decide) ?_
        refine lv_iand hx hb dX6_write_57 ?_
        have n5_ : fX3_set w33_gf w33_xl ((((a2.toUInt64 >>> (((8 : Int32) * v33_4).toInt64.toUInt64 &&& Int64.toUInt64 63)).toInt64).toInt32) &&& (255 : Int32)) 300 ≠ none := fun z => hne (he.trans (xbd_none z))
        refine xcv (va_runV (As := [.int w33_xl, .int ((((a2.toUInt64 >>> (((8 : Int32) * v33_4).toInt64.toUInt64 &&& Int64.toUInt64 63)).toInt64).toInt32) &&& (255 : Int32))]) (rest := []) ⟨hx, hb, hml, hown, hts⟩ (c_X3_set l D cI cP H.size (xr 0) ga 300 w33_gf w33_xl ((((a2.toUInt64 >>> (((8 : Int32) * v33_4).toInt64.toUInt64 &&& Int64.toUInt64 63)).toInt64).toInt32) &&& (255 : Int32)) n5_) (cwV 2 hts gX6_write_X3_set rfl rfl rfl (by decide +kernel) ⟨Nat.le_of_ble_eq_true rfl, Nat.le_of_ble_eq_true rfl⟩) (xPV hN hK hP hD [1, 2] rfl (by decide) (ci := 3) (j := 1) rfl rfl) rfl rfl hl.1 rfl (lv_room (Nat.le_of_ble_eq_true rfl)) dX6_write_58 ⟨Nat.le_of_ble_eq_true rfl, Nat.le_of_ble_eq_true rfl⟩) hP hD hS hA [1, 2] rfl (fun _ => rfl) (fun u58 H locs hw hP hD hS => ?_)
        have hP : va_P D vwCl ((wX x xr w33_xl xt xd) ++ (wRow cI (xr 0) ga 300 u58)) H := hP
        have hD : va_D A ((wX x xr w33_xl xt xd) ++ (wRow cI (xr 0) ga 300 u58)) := hD
        replace he := he.trans (xbd_some hw)
        refine lv_aload_n hx hb dX6_write_61 rfl (lv_at hl 1 rfl) ?_
        refine lv_dup hx hb dX6_write_62 rfl ?_
        refine va_get (D := D) (ci := 6) (v := .int w33_xl) (C := RX6) (T := TX6) (N := 12) hx hb hts hi_X6_write_6 hown hK hP 0 rfl rfl 9 (by decide) (hts (.fieldLink RX6 80 "BlindLanterns" "length" "I") (List.mem_of_getElem? (i := 1) rfl)) (fun _ h9 => h9) rfl dX6_write_63 ?_
        refine lv_iconst (v := 1) hx hb dX6_write_66 (by decide) ?_
        refine lv_iadd hx hb dX6_write_67 ?_
        refine va_put (D := D) (ci := 6) (v := .int (w33_xl + (1 : Int32))) (ty := .int) (C := RX6) (T := TX6) (N := 12) hx hb hts hi_X6_write_6 tyX6 tyX6_ok nmX6 hown hK hP hD hS 0 rfl rfl 9 (by decide) (hts (.fieldLink RX6 80 "BlindLanterns" "length" "I") (List.mem_of_getElem? (i := 1) rfl)) (fun _ h9 => h9) rfl (by decide +kernel) rfl rfl (Nat.le_of_ble_eq_true rfl) dX6_write_68 (fun H locs hP hD hS => ?_)
        have hP : va_P D vwCl ((wX x xr (w33_xl + (1 : Int32)) xt xd) ++ (wRow cI (xr 0) ga 300 u58)) H := hP
        have hD : va_D A ((wX x xr (w33_xl + (1 : Int32)) xt xd) ++ (wRow cI (xr 0) ga 300 u58)) := hD
        refine lv_iinc (v := (v33_4 + (-1))) (lv' := [(4, .int (v33_4 + (-1))), (0, .ref x), (2, .long a2)]) hx hb dX6_write_71 hl (k := 0) rfl rfl (by decide) rfl (fun ls hl => ?_)
        refine lv_goto (tgt := 33) hx hb dX6_write_74 (by decide) ?_
        exact ih33 (v33_4 + (-1)) (w33_xl + (1 : Int32)) u58 he _ _ _ hP hD hS (lv_sub hl [0, 1, 2] rfl)
  refine lv_iload_n hx hb dX6_write_0 rfl (lv_at hl 1 rfl) ?_
  refine lv_iconst (v := 1) hx hb dX6_write_1 (by decide) ?_
  refine lv_icmp_lt (tgt := 11) hx hb dX6_write_2 (by decide) (fun c1 => ?_) (fun c1 => ?_)
  · replace he := he.trans (if_pos c1)
    refine lv_iconst (v := -1) hx hb dX6_write_11 (by decide) ?_
    exact hret (-1 : Int32) (xl, gf) _ _ _ _ dX6_write_12 he hP hD hS
  · replace he := he.trans (if_neg c1)
    refine lv_iload_n hx hb dX6_write_5 rfl (lv_at hl 1 rfl) ?_
    refine lv_bipush (v := 8) hx hb dX6_write_6 (by decide) ?_
    refine lv_icmp_le (tgt := 13) hx hb dX6_write_8 (by decide) (fun c2 => ?_) (fun c2 => ?_)
    · replace he := he.trans (if_pos c2)
      refine lv_aload_n hx hb dX6_write_13 rfl (lv_at hl 0 rfl) ?_
      refine va_get (D := D) (ci := 6) (v := .int xl) (C := RX6) (T := TX6) (N := 12) hx hb hts hi_X6_write_6 hown hK hP 0 rfl rfl 9 (by decide) (hts (.fieldLink RX6 80 "BlindLanterns" "length" "I") (List.mem_of_getElem? (i := 1) rfl)) (fun _ h9 => h9) rfl dX6_write_14 ?_
      refine lv_iload_n hx hb dX6_write_17 rfl (lv_at hl 1 rfl) ?_
      refine lv_iadd hx hb dX6_write_18 ?_
      refine lv_sipush (v := 300) hx hb dX6_write_19 (by decide) ?_
      refine lv_icmp_le (tgt := 28) hx hb dX6_write_22 (by decide) (fun c3 => ?_) (fun c3 => ?_)
      · replace he := he.trans (if_pos c3)
        refine lv_iload_n hx hb dX6_write_28 rfl (lv_at hl 1 rfl) ?_
        refine lv_iconst (v := 1) hx hb dX6_write_29 (by decide) ?_
        refine lv_isub hx hb dX6_write_30 ?_
        refine lv_istore (lv' := [(4, .int (a1 - (1 : Int32))), (0, .ref x), (1, .int a1), (2, .long a2)]) hx hb dX6_write_31 hl (by decide) rfl (fun ls hl => ?_)
        exact L33_5 F (a1 - (1 : Int32)) xl gf he _ _ _ hP hD hS (lv_sub hl [0, 1, 3] rfl)
      · replace he := he.trans (if_neg c3)
        refine lv_bipush (v := -3) hx hb dX6_write_25 (by decide) ?_
        exact hret (-3 : Int32) (xl, gf) _ _ _ _ dX6_write_27 he hP hD hS
    · replace he := he.trans (if_neg c2)
      refine lv_iconst (v := -1) hx hb dX6_write_11 (by decide) ?_
      exact hret (-1 : Int32) (xl, gf) _ _ _ _ dX6_write_12 he hP hD hS

def fX6_wipe (xl : Int32) : Option (Int32 × Int32) :=
  some (xl, (0 : Int32))
theorem hi_X6_wipe_6 : ∀ w ∈ wsX60, w ∈ wsX6_wipe := fun _ h => (List.mem_cons_of_mem _ (List.mem_append_right _ h))
set_option maxHeartbeats 4000000 in
set_option maxRecDepth 100000 in
theorem c_X6_wipe (l : Launch) (D : va_G) (cI cP : ClassId) (sz : Nat) (x : Nat) (xr : Nat → Nat) (xl : Int32) (xt : Nat) (xd : Nat) (hne : fX6_wipe xl ≠ none) : xMi l yX6_wipe wsX6_wipe ({ frames := 0, cells := 0, slots := 0, locals := 0 } : Room) D (xT cI cP) [.ref x] (wX x xr xl xt xd) sz (fun r (u : (Int32)) => fX6_wipe xl = some (r, u)) (fun u => wX x xr u xt xd) 0 0 := by
  refine xMi_of (cc := cX6_wipe) (maxL := 2) (by decide +kernel) rfl (Nat.le_of_ble_eq_true rfl) ?_
  intro p e s m args below meth c A ls hx hb hml hown hts hname hN hK hA hP hD hS hl Q hret
  have he := fX6_wipe.eq_1 xl
  have hl : lv_has ls 2 [(0, .ref x)] := hl
  refine lv_aload_n hx hb dX6_wipe_0 rfl (lv_at hl 0 rfl) ?_
  refine va_get (D := D) (ci := 6) (v := .int xl) (C := RX6) (T := TX6) (N := 12) hx hb hts hi_X6_wipe_6 hown hK hP 0 rfl rfl 9 (by decide) (hts (.fieldLink RX6 80 "BlindLanterns" "length" "I") (List.mem_of_getElem? (i := 1) rfl)) (fun _ h9 => h9) rfl dX6_wipe_1 ?_
  refine lv_istore_n (lv' := [(1, .int xl), (0, .ref x)]) hx hb dX6_wipe_4 rfl hl (by decide) rfl (fun ls hl => ?_)
  refine lv_aload_n hx hb dX6_wipe_5 rfl (lv_at hl 1 rfl) ?_
  refine lv_iconst (v := 0) hx hb dX6_wipe_6 (by decide) ?_
  refine va_put (D := D) (ci := 6) (v := .int (0 : Int32)) (ty := .int) (C := RX6) (T := TX6) (N := 12) hx hb hts hi_X6_wipe_6 tyX6 tyX6_ok nmX6 hown hK hP hD hS 0 rfl rfl 9 (by decide) (hts (.fieldLink RX6 80 "BlindLanterns" "length" "I") (List.mem_of_getElem? (i := 1) rfl)) (fun _ h9 => h9) rfl (by decide +kernel) rfl rfl (Nat.le_of_ble_eq_true rfl) dX6_wipe_7 (fun H locs hP hD hS => ?_)
  have hP : va_P D vwCl (wX x xr (0 : Int32) xt xd) H := hP
  have hD : va_D A (wX x xr (0 : Int32) xt xd) := hD
  refine lv_iload_n hx hb dX6_wipe_10 rfl (lv_at hl 0 rfl) ?_
  exact hret xl (0 : Int32) _ _ _ _ dX6_wipe_11 he hP hD hS

def fX6_fault (F : Nat) (xl : Int32) (gf : Nat → Int32) (di_1 : Int32) (dk_0 : Nat → Int32) (uk_0 : Nat → Int32) (uk_1 : Nat → Int32) (uk_2 : Nat → Int32) (uk_3 : Nat → Int32) : Option (Int32 × Int32 × (Nat → Int32) × Int32 × Int32 × Int32 × Int32 × Int32 × Int32 × Int32 × (Nat → Int32) × (Nat → Int32) × (Nat → Int32) × (Nat → Int32)) :=
  xbd2 (fX2_firstFault F di_1 dk_0 gf uk_0 uk_1 uk_2 uk_3 xl 300) (fun (r16 : Int32) (u16 : Int32 × (Nat → Int32) × Int32 × Int32 × Int32 × Int32 × Int32 × Int32 × Int32 × (Nat → Int32) × (Nat → Int32) × (Nat → Int32) × (Nat → Int32)) => some (r16, (u16.1, u16.2.1, u16.2.2.1, u16.2.2.2.1, u16.2.2.2.2.1, u16.2.2.2.2.2.1, u16.2.2.2.2.2.2.1, u16.2.2.2.2.2.2.2.1, u16.2.2.2.2.2.2.2.2.1, u16.2.2.2.2.2.2.2.2.2.1, u16.2.2.2.2.2.2.2.2.2.2.1, u16.2.2.2.2.2.2.2.2.2.2.2.1, u16.2.2.2.2.2.2.2.2.2.2.2.2)))
theorem hi_X6_fault_6 : ∀ w ∈ wsX60, w ∈ wsX6_fault := fun _ h => (List.mem_cons_of_mem _ (List.mem_append_left _ (List.mem_append_left _ (List.mem_append_left _ (List.mem_append_right _ h)))))
set_option maxHeartbeats 4000000 in
set_option maxRecDepth 100000 in
theorem c_X6_fault (l : Launch) (D : va_G) (cI cP : ClassId) (sz : Nat) (x : Nat) (xr : Nat → Nat) (xl : Int32) (xt : Nat) (xd : Nat) (ga : Nat) (gf : Nat → Int32) (dr : Nat → Nat) (da : Nat → Nat) (di : Nat → Int32) (dk : Nat → Nat → Int32) (ur : Nat → Nat) (ua : Nat → Nat) (ui : Nat → Int32) (uk : Nat → Nat → Int32) (F : Nat) (hne : fX6_fault F xl gf (di 1) (dk 0) (uk 0) (uk 1) (uk 2) (uk 3) ≠ none) : xMi l yX6_fault wsX6_fault ({ frames := 5, cells := 0, slots := 0, locals := 117 } : Room) D (xT cI cP) [.ref x] ((wX x xr xl xt xd) ++ (wRow cI (xr 0) ga 300 gf) ++ (wReader cI (xr 1) dr da di dk) ++ (wTold cI xd ur ua ui uk)) sz (fun r (u : (Int32 × (Nat → Int32) × Int32 × Int32 × Int32 × Int32 × Int32 × Int32 × Int32 × (Nat → Int32) × (Nat → Int32) × (Nat → Int32) × (Nat → Int32))) => fX6_fault F xl gf (di 1) (dk 0) (uk 0) (uk 1) (uk 2) (uk 3) = some (r, u)) (fun u => (wX x xr xl xt xd) ++ (wRow cI (xr 0) ga 300 gf) ++ (wReader cI (xr 1) dr da (upd di 1 u.1) (va_up dk 0 u.2.1)) ++ (wTold cI xd ur ua (upd (upd (upd (upd (upd (upd (upd ui 4 u.2.2.1) 5 u.2.2.2.1) 6 u.2.2.2.2.1) 7 u.2.2.2.2.2.1) 8 u.2.2.2.2.2.2.1) 9 u.2.2.2.2.2.2.2.1) 10 u.2.2.2.2.2.2.2.2.1) (va_up (va_up (va_up (va_up uk 0 u.2.2.2.2.2.2.2.2.2.1) 1 u.2.2.2.2.2.2.2.2.2.2.1) 2 u.2.2.2.2.2.2.2.2.2.2.2.1) 3 u.2.2.2.2.2.2.2.2.2.2.2.2))) 0 0 := by
  refine xMi_of (cc := cX6_fault) (maxL := 1) (by decide +kernel) rfl (Nat.le_of_ble_eq_true rfl) ?_
  intro p e s m args below meth c A ls hx hb hml hown hts hname hN hK hA hP hD hS hl Q hret
  have he := fX6_fault.eq_1 F xl gf (di 1) (dk 0) (uk 0) (uk 1) (uk 2) (uk 3)
  have hl : lv_has ls 1 [(0, .ref x)] := hl
  refine lv_aload_n hx hb dX6_fault_0 rfl (lv_at hl 0 rfl) ?_
  refine va_get (D := D) (ci := 6) (v := .ref (xr 1)) (C := RX6) (T := TX6) (N := 12) hx hb hts hi_X6_fault_6 hown hK hP 0 rfl rfl 1 (by decide) (hts (.fieldLink RX6 21 "BlindLanterns" "reader" "LBlindLanterns$Reader;") (List.mem_of_getElem? (i := 1) rfl)) (fun _ h9 => h9) rfl dX6_fault_1 ?_
  refine lv_aload_n hx hb dX6_fault_4 rfl (lv_at hl 0 rfl) ?_
  refine va_get (D := D) (ci := 6) (v := .ref (xr 0)) (C := RX6) (T := TX6) (N := 12) hx hb hts hi_X6_fault_6 hown hK hP 0 rfl rfl 0 (by decide) (hts (.fieldLink RX6 14 "BlindLanterns" "text" "LBlindLanterns$Row;") (List.mem_of_getElem? (i := 2) rfl)) (fun _ h9 => h9) rfl dX6_fault_5 ?_
  refine lv_aload_n hx hb dX6_fault_8 rfl (lv_at hl 0 rfl) ?_
  refine va_get (D := D) (ci := 6) (v := .int xl) (C := RX6) (T := TX6) (N := 12) hx hb hts hi_X6_fault_6 hown hK hP 0 rfl rfl 9 (by decide) (hts (.fieldLink RX6 80 "BlindLanterns" "length" "I") (List.mem_of_getElem? (i := 3) rfl)) (fun _ h9 => h9) rfl dX6_fault_9 ?_
  refine lv_aload_n hx hb dX6_fault_12 rfl (lv_at hl 0 rfl) ?_
  refine va_get (D := D) (ci := 6) (v := .ref xd) (C := RX6) (T := TX6) (N := 12) hx hb hts hi_X6_fault_6 hown hK hP 0 rfl rfl 11 (by decide) (hts (.fieldLink RX6 65 "BlindLanterns" "draft" "LBlindLanterns$Told;") (List.mem_of_getElem? (i := 4) rfl)) (fun _ h9 => h9) rfl dX6_fault_13 ?_
  have n1_ : fX2_firstFault F (di 1) (dk 0) gf (uk 0) (uk 1) (uk 2) (uk 3) xl 300 ≠ none := fun z => hne (he.trans (xbd2_none z))
  refine xci (va_runV (As := [.ref (xr 0), .int xl, .ref xd]) (rest := []) ⟨hx, hb, hml, hown, hts⟩ (c_X2_firstFault l D cI cP s.heap.size (xr 1) dr da di dk (xr 0) ga 300 gf xd ur ua ui uk F xl n1_) (cwV 3 hts gX6_fault_X2_firstFault rfl rfl rfl (by decide +kernel) ⟨Nat.le_of_ble_eq_true rfl, Nat.le_of_ble_eq_true rfl⟩) (xPV hN hK hP hD [3, 4, 5, 1, 2, 6, 7, 8, 9, 10, 11, 12, 13, 14] rfl (by decide) (ci := 2) (j := 3) rfl rfl) rfl rfl hl.1 rfl (lv_room (Nat.le_of_ble_eq_true rfl)) dX6_fault_16 ⟨Nat.le_of_ble_eq_true rfl, Nat.le_of_ble_eq_true rfl⟩) hP hD hS hA [3, 4, 5, 1, 2, 6, 7, 8, 9, 10, 11, 12, 13, 14] rfl (fun _ => rfl) (fun r16 u16 H locs hw hP hD hS => ?_)
  have hP : va_P D vwCl ((wX x xr xl xt xd) ++ (wRow cI (xr 0) ga 300 gf) ++ (wReader cI (xr 1) dr da (upd di 1 u16.1) (va_up dk 0 u16.2.1)) ++ (wTold cI xd ur ua (upd (upd (upd (upd (upd (upd (upd ui 4 u16.2.2.1) 5 u16.2.2.2.1) 6 u16.2.2.2.2.1) 7 u16.2.2.2.2.2.1) 8 u16.2.2.2.2.2.2.1) 9 u16.2.2.2.2.2.2.2.1) 10 u16.2.2.2.2.2.2.2.2.1) (va_up (va_up (va_up (va_up uk 0 u16.2.2.2.2.2.2.2.2.2.1) 1 u16.2.2.2.2.2.2.2.2.2.2.1) 2 u16.2.2.2.2.2.2.2.2.2.2.2.1) 3 u16.2.2.2.2.2.2.2.2.2.2.2.2))) H := hP
  have hD : va_D A ((wX x xr xl xt xd) ++ (wRow cI (xr 0) ga 300 gf) ++ (wReader cI (xr 1) dr da (upd di 1 u16.1) (va_up dk 0 u16.2.1)) ++ (wTold cI xd ur ua (upd (upd (upd (upd (upd (upd (upd ui 4 u16.2.2.1) 5 u16.2.2.2.1) 6 u16.2.2.2.2.1) 7 u16.2.2.2.2.2.1) 8 u16.2.2.2.2.2.2.1) 9 u16.2.2.2.2.2.2.2.1) 10 u16.2.2.2.2.2.2.2.2.1) (va_up (va_up (va_up (va_up uk 0 u16.2.2.2.2.2.2.2.2.2.1) 1 u16.2.2.2.2.2.2.2.2.2.2.1) 2 u16.2.2.2.2.2.2.2.2.2.2.2.1) 3 u16.2.2.2.2.2.2.2.2.2.2.2.2))) := hD
  replace he := he.trans (xbd2_some hw)
  exact hret r16 (u16.1, u16.2.1, u16.2.2.1, u16.2.2.2.1, u16.2.2.2.2.1, u16.2.2.2.2.2.1, u16.2.2.2.2.2.2.1, u16.2.2.2.2.2.2.2.1, u16.2.2.2.2.2.2.2.2.1, u16.2.2.2.2.2.2.2.2.2.1, u16.2.2.2.2.2.2.2.2.2.2.1, u16.2.2.2.2.2.2.2.2.2.2.2.1, u16.2.2.2.2.2.2.2.2.2.2.2.2) _ _ _ _ dX6_fault_19 he hP hD hS

def fX4_clear : Option (Int32) :=
  some (0 : Int32)
theorem hi_X4_clear_4 : ∀ w ∈ wsX40, w ∈ wsX4_clear := fun _ h => (List.mem_cons_of_mem _ (List.mem_append_right _ h))
set_option maxHeartbeats 4000000 in
set_option maxRecDepth 100000 in
theorem c_X4_clear (l : Launch) (D : va_G) (cI cP : ClassId) (sz : Nat) (j : Nat) (jp : Nat) (jc : Int32) (hne : fX4_clear ≠ none) : xMv l yX4_clear wsX4_clear ({ frames := 0, cells := 0, slots := 0, locals := 0 } : Room) D (xT cI cP) [.ref j] (wHead j jp jc) sz (fun (u : (Int32)) => fX4_clear = some u) (fun u => wHead j jp u) 0 0 := by
  refine xMv_of (cc := cX4_clear) (maxL := 1) (by decide +kernel) rfl (Nat.le_of_ble_eq_true rfl) ?_
  intro p e s m args below meth c A ls hx hb hml hown hts hname hN hK hA hP hD hS hl Q hret
  have he := fX4_clear.eq_1
  have hl : lv_has ls 1 [(0, .ref j)] := hl
  refine lv_aload_n hx hb dX4_clear_0 rfl (lv_at hl 0 rfl) ?_
  refine lv_iconst (v := 0) hx hb dX4_clear_1 (by decide) ?_
  refine va_put (D := D) (ci := 4) (v := .int (0 : Int32)) (ty := .int) (C := RX4) (T := TX4) (N := 2) hx hb hts hi_X4_clear_4 tyX4 tyX4_ok nmX4 hown hK hP hD hS 0 rfl rfl 1 (by decide) (hts (.fieldLink RX4 16 "BlindLanterns$Shelf" "count" "I") (List.mem_of_getElem? (i := 1) rfl)) (fun _ h9 => h9) rfl (by decide +kernel) rfl rfl (Nat.le_of_ble_eq_true rfl) dX4_clear_2 (fun H locs hP hD hS => ?_)
  have hP : va_P D vwCl (wHead j jp (0 : Int32)) H := hP
  have hD : va_D A (wHead j jp (0 : Int32)) := hD
  exact hret (0 : Int32) _ _ _ _ dX4_clear_5 he hP hD hS

def fX6_lay (F : Nat) (xl : Int32) (xt : Nat) (xd : Nat) (gf : Nat → Int32) (di_1 : Int32) (dk_0 : Nat → Int32) (uk_0 : Nat → Int32) (uk_1 : Nat → Int32) (uk_2 : Nat → Int32) (uk_3 : Nat → Int32) (yi_3 : Int32) (jc : Int32) (kc : Int32) (qi_2 : Int32) (qi_3 : Int32) (qi_4 : Int32) (qk_0 : Nat → Int32) (qk_1 : Nat → Int32) : Option (Int32 × Nat × Nat × Int32 × (Nat → Int32) × Int32 × Int32 × Int32 × Int32 × Int32 × Int32 × Int32 × (Nat → Int32) × (Nat → Int32) × (Nat → Int32) × (Nat → Int32) × Int32 × Int32 × Int32 × Int32 × Int32 × Int32 × (Nat → Int32) × (Nat → Int32)) :=
  xbd2 (fX2_firstFault F di_1 dk_0 gf uk_0 uk_1 uk_2 uk_3 xl 300) (fun (r16 : Int32) (u16 : Int32 × (Nat → Int32) × Int32 × Int32 × Int32 × Int32 × Int32 × Int32 × Int32 × (Nat → Int32) × (Nat → Int32) × (Nat → Int32) × (Nat → Int32)) => if r16 = (-4 : Int32) then (xbd (fX5_canBeLaid F u16.2.2.1 u16.2.2.2.2.2.2.1 u16.2.2.2.2.2.2.2.2.2.2.2.2) (fun (r28 : Int32) => if r28 = 0 then (some ((-2 : Int32), (xt, xd, u16.1, u16.2.1, u16.2.2.1, u16.2.2.2.1, u16.2.2.2.2.1, u16.2.2.2.2.2.1, u16.2.2.2.2.2.2.1, u16.2.2.2.2.2.2.2.1, u16.2.2.2.2.2.2.2.2.1, u16.2.2.2.2.2.2.2.2.2.1, u16.2.2.2.2.2.2.2.2.2.2.1, u16.2.2.2.2.2.2.2.2.2.2.2.1, u16.2.2.2.2.2.2.2.2.2.2.2.2, yi_3, jc, kc, qi_2, qi_3, qi_4, qk_0, qk_1))) else (xbd (fX1_begin F qk_0 qk_1 u16.2.2.1 u16.2.2.2.1 u16.2.2.2.2.2.2.2.2.2.2.1) (fun (u63 : Int32 × Int32 × Int32 × (Nat → Int32) × (Nat → Int32)) => xbd (fX0_clear ) (fun (u70 : Int32) => xbd (fX4_clear ) (fun (u77 : Int32) => xbd (fX4_clear ) (fun (u84 : Int32) => some (u16.2.2.1, (xd, xt, u16.1, u16.2.1, u16.2.2.1, u16.2.2.2.1, u16.2.2.2.2.1, u16.2.2.2.2.2.1, u16.2.2.2.2.2.2.1, u16.2.2.2.2.2.2.2.1, u16.2.2.2.2.2.2.2.2.1, u16.2.2.2.2.2.2.2.2.2.1, u16.2.2.2.2.2.2.2.2.2.2.1, u16.2.2.2.2.2.2.2.2.2.2.2.1, u16.2.2.2.2.2.2.2.2.2.2.2.2, u70, u77, u84, u63.1, u63.2.1, u63.2.2.1, u63.2.2.2.1, u63.2.2.2.2))))))))) else (some ((-2 : Int32), (xt, xd, u16.1, u16.2.1, u16.2.2.1, u16.2.2.2.1, u16.2.2.2.2.1, u16.2.2.2.2.2.1, u16.2.2.2.2.2.2.1, u16.2.2.2.2.2.2.2.1, u16.2.2.2.2.2.2.2.2.1, u16.2.2.2.2.2.2.2.2.2.1, u16.2.2.2.2.2.2.2.2.2.2.1, u16.2.2.2.2.2.2.2.2.2.2.2.1, u16.2.2.2.2.2.2.2.2.2.2.2.2, yi_3, jc, kc, qi_2, qi_3, qi_4, qk_0, qk_1))))
theorem hi_X6_lay_5 : ∀ w ∈ wsX50, w ∈ wsX6_lay := fun _ h => (List.mem_cons_of_mem _ (List.mem_append_left _ (List.mem_append_left _ (List.mem_append_left _ (List.mem_append_left _ (List.mem_append_left _ (List.mem_append_right _ h)))))))
theorem hi_X6_lay_6 : ∀ w ∈ wsX60, w ∈ wsX6_lay := fun _ h => (List.mem_cons_of_mem _ (List.mem_append_left _ (List.mem_append_left _ (List.mem_append_left _ (List.mem_append_left _ (List.mem_append_left _ (List.mem_append_left _ (List.mem_append_right _ h))))))))
set_option maxHeartbeats 4000000 in
set_option maxRecDepth 100000 in
theorem c_X6_lay (l : Launch) (D : va_G) (cI cP : ClassId) (sz : Nat) (x : Nat) (xr : Nat → Nat) (xl : Int32) (xt : Nat) (xd : Nat) (ga : Nat) (gf : Nat → Int32) (dr : Nat → Nat) (da : Nat → Nat) (di : Nat → Int32) (dk : Nat → Nat → Int32) (ur : Nat → Nat) (ua : Nat → Nat) (ui : Nat → Int32) (uk : Nat → Nat → Int32) (yr : Nat → Nat) (ya : Nat → Nat) (yi : Nat → Int32) (yk : Nat → Nat → Int32) (jp : Nat) (jc : Int32) (kp : Nat) (kc : Int32) (qr : Nat → Nat) (qa : Nat → Nat) (qi : Nat → Int32) (qk : Nat → Nat → Int32) (F : Nat) (hne : fX6_lay F xl xt xd gf (di 1) (dk 0) (uk 0) (uk 1) (uk 2) (uk 3) (yi 3) jc kc (qi 2) (qi 3) (qi 4) (qk 0) (qk 1) ≠ none) : xMi l yX6_lay wsX6_lay ({ frames := 5, cells := 0, slots := 0, locals := 117 } : Room) D (xT cI cP) [.ref x] ((wX x xr xl xt xd) ++ (wRow cI (xr 0) ga 300 gf) ++ (wReader cI (xr 1) dr da di dk) ++ (wTold cI xd ur ua ui uk) ++ (wFelt cI (xr 2) yr ya yi yk) ++ (wHead (xr 3) jp jc) ++ (wHead (xr 4) kp kc) ++ (wPass cI (xr 5) qr qa qi qk)) sz (fun r (u : (Nat × Nat × Int32 × (Nat → Int32) × Int32 × Int32 × Int32 × Int32 × Int32 × Int32 × Int32 × (Nat → Int32) × (Nat → Int32) × (Nat → Int32) × (Nat → Int32) × Int32 × Int32 × Int32 × Int32 × Int32 × Int32 × (Nat → Int32) × (Nat → Int32))) => fX6_lay F xl xt xd gf (di 1) (dk 0) (uk 0) (uk 1) (uk 2) (uk 3) (yi 3) jc kc (qi 2) (qi 3) (qi 4) (qk 0) (qk 1) = some (r, u)) (fun u => (wX x xr xl u.1 u.2.1) ++ (wRow cI (xr 0) ga 300 gf) ++ (wReader cI (xr 1) dr da (upd di 1 u.2.2.1) (va_up dk 0 u.2.2.2.1)) ++ (wTold cI xd ur ua (upd (upd (upd (upd (upd (upd (upd ui 4 u.2.2.2.2.1) 5 u.2.2.2.2.2.1) 6 u.2.2.2.2.2.2.1) 7 u.2.2.2.2.2.2.2.1) 8 u.2.2.2.2.2.2.2.2.1) 9 u.2.2.2.2.2.2.2.2.2.1) 10 u.2.2.2.2.2.2.2.2.2.2.1) (va_up (va_up (va_up (va_up uk 0 u.2.2.2.2.2.2.2.2.2.2.2.1) 1 u.2.2.2.2.2.2.2.2.2.2.2.2.1) 2 u.2.2.2.2.2.2.2.2.2.2.2.2.2.1) 3 u.2.2.2.2.2.2.2.2.2.2.2.2.2.2.1)) ++ (wFelt cI (xr 2) yr ya (upd yi 3 u.2.2.2.2.2.2.2.2.2.2.2.2.2.2.2.1) yk) ++ (wHead (xr 3) jp u.2.2.2.2.2.2.2.2.2.2.2.2.2.2.2.2.1) ++ (wHead (xr 4) kp u.2.2.2.2.2.2.2.2.2.2.2.2.2.2.2.2.2.1) ++ (wPass cI (xr 5) qr qa (upd (upd (upd qi 2 u.2.2.2.2.2.2.2.2.2.2.2.2.2.2.2.2.2.2.1) 3 u.2.2.2.2.2.2.2.2.2.2.2.2.2.2.2.2.2.2.2.1) 4 u.2.2.2.2.2.2.2.2.2.2.2.2.2.2.2.2.2.2.2.2.1) (va_up (va_up qk 0 u.2.2.2.2.2.2.2.2.2.2.2.2.2.2.2.2.2.2.2.2.2.1) 1 u.2.2.2.2.2.2.2.2.2.2.2.2.2.2.2.2.2.2.2.2.2.2))) 0 0 := by
  refine xMi_of (cc := cX6_lay) (maxL := 2) (by decide +kernel) rfl (Nat.le_of_ble_eq_true rfl) ?_
  intro p e s m args below meth c A ls hx hb hml hown hts hname hN hK hA hP hD hS hl Q hret
  have he := fX6_lay.eq_1 F xl xt xd gf (di 1) (dk 0) (uk 0) (uk 1) (uk 2) (uk 3) (yi 3) jc kc (qi 2) (qi 3) (qi 4) (qk 0) (qk 1)
  have hl : lv_has ls 2 [(0, .ref x)] := hl
  refine lv_aload_n hx hb dX6_lay_0 rfl (lv_at hl 0 rfl) ?_
  refine va_get (D := D) (ci := 6) (v := .ref (xr 1)) (C := RX6) (T := TX6) (N := 12) hx hb hts hi_X6_lay_6 hown hK hP 0 rfl rfl 1 (by decide) (hts (.fieldLink RX6 21 "BlindLanterns" "reader" "LBlindLanterns$Reader;") (List.mem_of_getElem? (i := 1) rfl)) (fun _ h9 => h9) rfl dX6_lay_1 ?_
  refine lv_aload_n hx hb dX6_lay_4 rfl (lv_at hl 0 rfl) ?_
  refine va_get (D := D) (ci := 6) (v := .ref (xr 0)) (C := RX6) (T := TX6) (N := 12) hx hb hts hi_X6_lay_6 hown hK hP 0 rfl rfl 0 (by decide) (hts (.fieldLink RX6 14 "BlindLanterns" "text" "LBlindLanterns$Row;") (List.mem_of_getElem? (i := 2) rfl)) (fun _ h9 => h9) rfl dX6_lay_5 ?_
  refine lv_aload_n hx hb dX6_lay_8 rfl (lv_at hl 0 rfl) ?_
  refine va_get (D := D) (ci := 6) (v := .int xl) (C := RX6) (T := TX6) (N := 12) hx hb hts hi_X6_lay_6 hown hK hP 0 rfl rfl 9 (by decide) (hts (.fieldLink RX6 80 "BlindLanterns" "length" "I") (List.mem_of_getElem? (i := 3) rfl)) (fun _ h9 => h9) rfl dX6_lay_9 ?_
  refine lv_aload_n hx hb dX6_lay_12 rfl (lv_at hl 0 rfl) ?_
  refine va_get (D := D) (ci := 6) (v := .ref xd) (C := RX6) (T := TX6) (N := 12) hx hb hts hi_X6_lay_6 hown hK hP 0 rfl rfl 11 (by decide) (hts (.fieldLink RX6 65 "BlindLanterns" "draft" "LBlindLanterns$Told;") (List.mem_of_getElem? (i := 4) rfl)) (fun _ h9 => h9) rfl dX6_lay_13 ?_
  have n1_ : fX2_firstFault F (di 1) (dk 0) gf (uk 0) (uk 1) (uk 2) (uk 3) xl 300 ≠ none := fun z => hne (he.trans (xbd2_none z))
  refine xci (va_runV (As := [.ref (xr 0), .int xl, .ref xd]) (rest := []) ⟨hx, hb, hml, hown, hts⟩ (c_X2_firstFault l D cI cP s.heap.size (xr 1) dr da di dk (xr 0) ga 300 gf xd ur ua ui uk F xl n1_) (cwV 3 hts gX6_lay_X2_firstFault rfl rfl rfl (by decide +kernel) ⟨Nat.le_of_ble_eq_true rfl, Nat.le_of_ble_eq_true rfl⟩) (xPV hN hK hP hD [3, 4, 5, 1, 2, 6, 7, 8, 9, 10, 11, 12, 13, 14] rfl (by decide) (ci := 2) (j := 3) rfl rfl) rfl rfl hl.1 rfl (lv_room (Nat.le_of_ble_eq_true rfl)) dX6_lay_16 ⟨Nat.le_of_ble_eq_true rfl, Nat.le_of_ble_eq_true rfl⟩) hP hD hS hA [3, 4, 5, 1, 2, 6, 7, 8, 9, 10, 11, 12, 13, 14] rfl (fun _ => rfl) (fun r16 u16 H locs hw hP hD hS => ?_)
  have hP : va_P D vwCl ((wX x xr xl xt xd) ++ (wRow cI (xr 0) ga 300 gf) ++ (wReader cI (xr 1) dr da (upd di 1 u16.1) (va_up dk 0 u16.2.1)) ++ (wTold cI xd ur ua (upd (upd (upd (upd (upd (upd (upd ui 4 u16.2.2.1) 5 u16.2.2.2.1) 6 u16.2.2.2.2.1) 7 u16.2.2.2.2.2.1) 8 u16.2.2.2.2.2.2.1) 9 u16.2.2.2.2.2.2.2.1) 10 u16.2.2.2.2.2.2.2.2.1) (va_up (va_up (va_up (va_up uk 0 u16.2.2.2.2.2.2.2.2.2.1) 1 u16.2.2.2.2.2.2.2.2.2.2.1) 2 u16.2.2.2.2.2.2.2.2.2.2.2.1) 3 u16.2.2.2.2.2.2.2.2.2.2.2.2)) ++ (wFelt cI (xr 2) yr ya yi yk) ++ (wHead (xr 3) jp jc) ++ (wHead (xr 4) kp kc) ++ (wPass cI (xr 5) qr qa qi qk)) H := hP
  have hD : va_D A ((wX x xr xl xt xd) ++ (wRow cI (xr 0) ga 300 gf) ++ (wReader cI (xr 1) dr da (upd di 1 u16.1) (va_up dk 0 u16.2.1)) ++ (wTold cI xd ur ua (upd (upd (upd (upd (upd (upd (upd ui 4 u16.2.2.1) 5 u16.2.2.2.1) 6 u16.2.2.2.2.1) 7 u16.2.2.2.2.2.1) 8 u16.2.2.2.2.2.2.1) 9 u16.2.2.2.2.2.2.2.1) 10 u16.2.2.2.2.2.2.2.2.1) (va_up (va_up (va_up (va_up uk 0 u16.2.2.2.2.2.2.2.2.2.1) 1 u16.2.2.2.2.2.2.2.2.2.2.1) 2 u16.2.2.2.2.2.2.2.2.2.2.2.1) 3 u16.2.2.2.2.2.2.2.2.2.2.2.2)) ++ (wFelt cI (xr 2) yr ya yi yk) ++ (wHead (xr 3) jp jc) ++ (wHead (xr 4) kp kc) ++ (wPass cI (xr 5) qr qa qi qk)) := hD
  replace he := he.trans (xbd2_some hw)
  refine lv_bipush (v := -4) hx hb dX6_lay_19 (by decide) ?_
  refine lv_icmp_ne (tgt := 34) hx hb dX6_lay_21 (by decide) (fun c2 => ?_) (fun c2 => ?_)
  · replace he := he.trans (if_neg c2)
    refine lv_bipush (v := -2) hx hb dX6_lay_34 (by decide) ?_
    exact hret (-2 : Int32) (xt, xd, u16.1, u16.2.1, u16.2.2.1, u16.2.2.2.1, u16.2.2.2.2.1, u16.2.2.2.2.2.1, u16.2.2.2.2.2.2.1, u16.2.2.2.2.2.2.2.1, u16.2.2.2.2.2.2.2.2.1, u16.2.2.2.2.2.2.2.2.2.1, u16.2.2.2.2.2.2.2.2.2.2.1, u16.2.2.2.2.2.2.2.2.2.2.2.1, u16.2.2.2.2.2.2.2.2.2.2.2.2, (yi 3), jc, kc, (qi 2), (qi 3), (qi 4), (qk 0), (qk 1)) _ _ _ _ dX6_lay_36 he hP hD hS
  · replace he := he.trans (if_pos c2)
    refine lv_aload_n hx hb dX6_lay_24 rfl (lv_at hl 0 rfl) ?_
    refine va_get (D := D) (ci := 6) (v := .ref xd) (C := RX6) (T := TX6) (N := 12) hx hb hts hi_X6_lay_6 hown hK hP 0 rfl rfl 11 (by decide) (hts (.fieldLink RX6 65 "BlindLanterns" "draft" "LBlindLanterns$Told;") (List.mem_of_getElem? (i := 4) rfl)) (fun _ h9 => h9) rfl dX6_lay_25 ?_
    have n3_ : fX5_canBeLaid F u16.2.2.1 u16.2.2.2.2.2.2.1 u16.2.2.2.2.2.2.2.2.2.2.2.2 ≠ none := fun z => hne (he.trans (xbd_none z))
    refine xci (va_runV (As := []) (rest := []) ⟨hx, hb, hml, hown, hts⟩ (c_X5_canBeLaid l D cI cP H.size xd ur ua (upd (upd (upd (upd (upd (upd (upd ui 4 u16.2.2.1) 5 u16.2.2.2.1) 6 u16.2.2.2.2.1) 7 u16.2.2.2.2.2.1) 8 u16.2.2.2.2.2.2.1) 9 u16.2.2.2.2.2.2.2.1) 10 u16.2.2.2.2.2.2.2.2.1) (va_up (va_up (va_up (va_up uk 0 u16.2.2.2.2.2.2.2.2.2.1) 1 u16.2.2.2.2.2.2.2.2.2.2.1) 2 u16.2.2.2.2.2.2.2.2.2.2.2.1) 3 u16.2.2.2.2.2.2.2.2.2.2.2.2) F  n3_) (cwV 0 hts gX6_lay_X5_canBeLaid rfl rfl rfl (by decide +kernel) ⟨Nat.le_of_ble_eq_true rfl, Nat.le_of_ble_eq_true rfl⟩) (xPV hN hK hP hD [6, 7, 8, 9, 10, 11, 12, 13, 14] rfl (by decide) (ci := 5) (j := 6) rfl rfl) rfl rfl hl.1 rfl (lv_room (Nat.le_of_ble_eq_true rfl)) dX6_lay_28 ⟨Nat.le_of_ble_eq_true rfl, Nat.le_of_ble_eq_true rfl⟩) hP hD hS hA [6, 7, 8, 9, 10, 11, 12, 13, 14] rfl (fun _ => rfl) (fun r28 u28 H locs hw hP hD hS => ?_)
    have hP : va_P D vwCl ((wX x xr xl xt xd) ++ (wRow cI (xr 0) ga 300 gf) ++ (wReader cI (xr 1) dr da (upd di 1 u16.1) (va_up dk 0 u16.2.1)) ++ (wTold cI xd ur ua (upd (upd (upd (upd (upd (upd (upd ui 4 u16.2.2.1) 5 u16.2.2.2.1) 6 u16.2.2.2.2.1) 7 u16.2.2.2.2.2.1) 8 u16.2.2.2.2.2.2.1) 9 u16.2.2.2.2.2.2.2.1) 10 u16.2.2.2.2.2.2.2.2.1) (va_up (va_up (va_up (va_up uk 0 u16.2.2.2.2.2.2.2.2.2.1) 1 u16.2.2.2.2.2.2.2.2.2.2.1) 2 u16.2.2.2.2.2.2.2.2.2.2.2.1) 3 u16.2.2.2.2.2.2.2.2.2.2.2.2)) ++ (wFelt cI (xr 2) yr ya yi yk) ++ (wHead (xr 3) jp jc) ++ (wHead (xr 4) kp kc) ++ (wPass cI (xr 5) qr qa qi qk)) H := hP
    have hD : va_D A ((wX x xr xl xt xd) ++ (wRow cI (xr 0) ga 300 gf) ++ (wReader cI (xr 1) dr da (upd di 1 u16.1) (va_up dk 0 u16.2.1)) ++ (wTold cI xd ur ua (upd (upd (upd (upd (upd (upd (upd ui 4 u16.2.2.1) 5 u16.2.2.2.1) 6 u16.2.2.2.2.1) 7 u16.2.2.2.2.2.1) 8 u16.2.2.2.2.2.2.1) 9 u16.2.2.2.2.2.2.2.1) 10 u16.2.2.2.2.2.2.2.2.1) (va_up (va_up (va_up (va_up uk 0 u16.2.2.2.2.2.2.2.2.2.1) 1 u16.2.2.2.2.2.2.2.2.2.2.1) 2 u16.2.2.2.2.2.2.2.2.2.2.2.1) 3 u16.2.2.2.2.2.2.2.2.2.2.2.2)) ++ (wFelt cI (xr 2) yr ya yi yk) ++ (wHead (xr 3) jp jc) ++ (wHead (xr 4) kp kc) ++ (wPass cI (xr 5) qr qa qi qk)) := hD
    replace he := he.trans (xbd_some hw)
    refine lv_if_ne (tgt := 37) hx hb dX6_lay_31 (by decide) (fun c4 => ?_) (fun c4 => ?_)
    · replace he := he.trans (if_neg c4)
      refine lv_aload_n hx hb dX6_lay_37 rfl (lv_at hl 0 rfl) ?_
      refine va_get (D := D) (ci := 6) (v := .ref xt) (C := RX6) (T := TX6) (N := 12) hx hb hts hi_X6_lay_6 hown hK hP 0 rfl rfl 10 (by decide) (hts (.fieldLink RX6 61 "BlindLanterns" "told" "LBlindLanterns$Told;") (List.mem_of_getElem? (i := 5) rfl)) (fun _ h9 => h9) rfl dX6_lay_38 ?_
      refine lv_astore_n (lv' := [(1, .ref xt), (0, .ref x)]) hx hb dX6_lay_41 rfl hl (by decide) rfl (fun ls hl => ?_)
      refine lv_aload_n hx hb dX6_lay_42 rfl (lv_at hl 1 rfl) ?_
      refine lv_aload_n hx hb dX6_lay_43 rfl (lv_at hl 1 rfl) ?_
      refine va_get (D := D) (ci := 6) (v := .ref xd) (C := RX6) (T := TX6) (N := 12) hx hb hts hi_X6_lay_6 hown hK hP 0 rfl rfl 11 (by decide) (hts (.fieldLink RX6 65 "BlindLanterns" "draft" "LBlindLanterns$Told;") (List.mem_of_getElem? (i := 4) rfl)) (fun _ h9 => h9) rfl dX6_lay_44 ?_
      refine va_put (D := D) (ci := 6) (v := .ref xd) (ty := (.object "BlindLanterns$Told")) (C := RX6) (T := TX6) (N := 12) hx hb hts hi_X6_lay_6 tyX6 tyX6_ok nmX6 hown hK hP hD hS 0 rfl rfl 10 (by decide) (hts (.fieldLink RX6 61 "BlindLanterns" "told" "LBlindLanterns$Told;") (List.mem_of_getElem? (i := 5) rfl)) (fun _ h9 => h9) rfl (by decide +kernel) rfl rfl (Nat.le_of_ble_eq_true rfl) dX6_lay_47 (fun H locs hP hD hS => ?_)
      have hP : va_P D vwCl ((wX x xr xl xd xd) ++ (wRow cI (xr 0) ga 300 gf) ++ (wReader cI (xr 1) dr da (upd di 1 u16.1) (va_up dk 0 u16.2.1)) ++ (wTold cI xd ur ua (upd (upd (upd (upd (upd (upd (upd ui 4 u16.2.2.1) 5 u16.2.2.2.1) 6 u16.2.2.2.2.1) 7 u16.2.2.2.2.2.1) 8 u16.2.2.2.2.2.2.1) 9 u16.2.2.2.2.2.2.2.1) 10 u16.2.2.2.2.2.2.2.2.1) (va_up (va_up (va_up (va_up uk 0 u16.2.2.2.2.2.2.2.2.2.1) 1 u16.2.2.2.2.2.2.2.2.2.2.1) 2 u16.2.2.2.2.2.2.2.2.2.2.2.1) 3 u16.2.2.2.2.2.2.2.2.2.2.2.2)) ++ (wFelt cI (xr 2) yr ya yi yk) ++ (wHead (xr 3) jp jc) ++ (wHead (xr 4) kp kc) ++ (wPass cI (xr 5) qr qa qi qk)) H := hP
      have hD : va_D A ((wX x xr xl xd xd) ++ (wRow cI (xr 0) ga 300 gf) ++ (wReader cI (xr 1) dr da (upd di 1 u16.1) (va_up dk 0 u16.2.1)) ++ (wTold cI xd ur ua (upd (upd (upd (upd (upd (upd (upd ui 4 u16.2.2.1) 5 u16.2.2.2.1) 6 u16.2.2.2.2.1) 7 u16.2.2.2.2.2.1) 8 u16.2.2.2.2.2.2.1) 9 u16.2.2.2.2.2.2.2.1) 10 u16.2.2.2.2.2.2.2.2.1) (va_up (va_up (va_up (va_up uk 0 u16.2.2.2.2.2.2.2.2.2.1) 1 u16.2.2.2.2.2.2.2.2.2.2.1) 2 u16.2.2.2.2.2.2.2.2.2.2.2.1) 3 u16.2.2.2.2.2.2.2.2.2.2.2.2)) ++ (wFelt cI (xr 2) yr ya yi yk) ++ (wHead (xr 3) jp jc) ++ (wHead (xr 4) kp kc) ++ (wPass cI (xr 5) qr qa qi qk)) := hD
      refine lv_aload_n hx hb dX6_lay_50 rfl (lv_at hl 1 rfl) ?_
      refine lv_aload_n hx hb dX6_lay_51 rfl (lv_at hl 0 rfl) ?_
      refine va_put (D := D) (ci := 6) (v := .ref xt) (ty := (.object "BlindLanterns$Told")) (C := RX6) (T := TX6) (N := 12) hx hb hts hi_X6_lay_6 tyX6 tyX6_ok nmX6 hown hK hP hD hS 0 rfl rfl 11 (by decide) (hts (.fieldLink RX6 65 "BlindLanterns" "draft" "LBlindLanterns$Told;") (List.mem_of_getElem? (i := 4) rfl)) (fun _ h9 => h9) rfl (by decide +kernel) rfl rfl (Nat.le_of_ble_eq_true rfl) dX6_lay_52 (fun H locs hP hD hS => ?_)
      have hP : va_P D vwCl ((wX x xr xl xd xt) ++ (wRow cI (xr 0) ga 300 gf) ++ (wReader cI (xr 1) dr da (upd di 1 u16.1) (va_up dk 0 u16.2.1)) ++ (wTold cI xd ur ua (upd (upd (upd (upd (upd (upd (upd ui 4 u16.2.2.1) 5 u16.2.2.2.1) 6 u16.2.2.2.2.1) 7 u16.2.2.2.2.2.1) 8 u16.2.2.2.2.2.2.1) 9 u16.2.2.2.2.2.2.2.1) 10 u16.2.2.2.2.2.2.2.2.1) (va_up (va_up (va_up (va_up uk 0 u16.2.2.2.2.2.2.2.2.2.1) 1 u16.2.2.2.2.2.2.2.2.2.2.1) 2 u16.2.2.2.2.2.2.2.2.2.2.2.1) 3 u16.2.2.2.2.2.2.2.2.2.2.2.2)) ++ (wFelt cI (xr 2) yr ya yi yk) ++ (wHead (xr 3) jp jc) ++ (wHead (xr 4) kp kc) ++ (wPass cI (xr 5) qr qa qi qk)) H := hP
      have hD : va_D A ((wX x xr xl xd xt) ++ (wRow cI (xr 0) ga 300 gf) ++ (wReader cI (xr 1) dr da (upd di 1 u16.1) (va_up dk 0 u16.2.1)) ++ (wTold cI xd ur ua (upd (upd (upd (upd (upd (upd (upd ui 4 u16.2.2.1) 5 u16.2.2.2.1) 6 u16.2.2.2.2.1) 7 u16.2.2.2.2.2.1) 8 u16.2.2.2.2.2.2.1) 9 u16.2.2.2.2.2.2.2.1) 10 u16.2.2.2.2.2.2.2.2.1) (va_up (va_up (va_up (va_up uk 0 u16.2.2.2.2.2.2.2.2.2.1) 1 u16.2.2.2.2.2.2.2.2.2.2.1) 2 u16.2.2.2.2.2.2.2.2.2.2.2.1) 3 u16.2.2.2.2.2.2.2.2.2.2.2.2)) ++ (wFelt cI (xr 2) yr ya yi yk) ++ (wHead (xr 3) jp jc) ++ (wHead (xr 4) kp kc) ++ (wPass cI (xr 5) qr qa qi qk)) := hD
      refine lv_aload_n hx hb dX6_lay_55 rfl (lv_at hl 1 rfl) ?_
      refine va_get (D := D) (ci := 6) (v := .ref (xr 5)) (C := RX6) (T := TX6) (N := 12) hx hb hts hi_X6_lay_6 hown hK hP 0 rfl rfl 5 (by decide) (hts (.fieldLink RX6 45 "BlindLanterns" "pass" "LBlindLanterns$Pass;") (List.mem_of_getElem? (i := 6) rfl)) (fun _ h9 => h9) rfl dX6_lay_56 ?_
      refine lv_aload_n hx hb dX6_lay_59 rfl (lv_at hl 1 rfl) ?_
      refine va_get (D := D) (ci := 6) (v := .ref xd) (C := RX6) (T := TX6) (N := 12) hx hb hts hi_X6_lay_6 hown hK hP 0 rfl rfl 10 (by decide) (hts (.fieldLink RX6 61 "BlindLanterns" "told" "LBlindLanterns$Told;") (List.mem_of_getElem? (i := 5) rfl)) (fun _ h9 => h9) rfl dX6_lay_60 ?_
      have n5_ : fX1_begin F (qk 0) (qk 1) u16.2.2.1 u16.2.2.2.1 u16.2.2.2.2.2.2.2.2.2.2.1 ≠ none := fun z => hne (he.trans (xbd_none z))
      refine xcv (va_runV (As := [.ref xd]) (rest := []) ⟨hx, hb, hml, hown, hts⟩ (c_X1_begin l D cI cP H.size (xr 5) qr qa qi qk xd ur ua (upd (upd (upd (upd (upd (upd (upd ui 4 u16.2.2.1) 5 u16.2.2.2.1) 6 u16.2.2.2.2.1) 7 u16.2.2.2.2.2.1) 8 u16.2.2.2.2.2.2.1) 9 u16.2.2.2.2.2.2.2.1) 10 u16.2.2.2.2.2.2.2.2.1) (va_up (va_up (va_up (va_up uk 0 u16.2.2.2.2.2.2.2.2.2.1) 1 u16.2.2.2.2.2.2.2.2.2.2.1) 2 u16.2.2.2.2.2.2.2.2.2.2.2.1) 3 u16.2.2.2.2.2.2.2.2.2.2.2.2) F  n5_) (cwV 1 hts gX6_lay_X1_begin rfl rfl rfl (by decide +kernel) ⟨Nat.le_of_ble_eq_true rfl, Nat.le_of_ble_eq_true rfl⟩) (xPV hN hK hP hD [24, 25, 26, 27, 28, 6, 7, 8, 9, 10, 11, 12, 13, 14] rfl (by decide) (ci := 1) (j := 24) rfl rfl) rfl rfl hl.1 rfl (lv_room (Nat.le_of_ble_eq_true rfl)) dX6_lay_63 ⟨Nat.le_of_ble_eq_true rfl, Nat.le_of_ble_eq_true rfl⟩) hP hD hS hA [24, 25, 26, 27, 28, 6, 7, 8, 9, 10, 11, 12, 13, 14] rfl (fun _ => rfl) (fun u63 H locs hw hP hD hS => ?_)
      have hP : va_P D vwCl ((wX x xr xl xd xt) ++ (wRow cI (xr 0) ga 300 gf) ++ (wReader cI (xr 1) dr da (upd di 1 u16.1) (va_up dk 0 u16.2.1)) ++ (wTold cI xd ur ua (upd (upd (upd (upd (upd (upd (upd ui 4 u16.2.2.1) 5 u16.2.2.2.1) 6 u16.2.2.2.2.1) 7 u16.2.2.2.2.2.1) 8 u16.2.2.2.2.2.2.1) 9 u16.2.2.2.2.2.2.2.1) 10 u16.2.2.2.2.2.2.2.2.1) (va_up (va_up (va_up (va_up uk 0 u16.2.2.2.2.2.2.2.2.2.1) 1 u16.2.2.2.2.2.2.2.2.2.2.1) 2 u16.2.2.2.2.2.2.2.2.2.2.2.1) 3 u16.2.2.2.2.2.2.2.2.2.2.2.2)) ++ (wFelt cI (xr 2) yr ya yi yk) ++ (wHead (xr 3) jp jc) ++ (wHead (xr 4) kp kc) ++ (wPass cI (xr 5) qr qa (upd (upd (upd qi 2 u63.1) 3 u63.2.1) 4 u63.2.2.1) (va_up (va_up qk 0 u63.2.2.2.1) 1 u63.2.2.2.2))) H := hP
      have hD : va_D A ((wX x xr xl xd xt) ++ (wRow cI (xr 0) ga 300 gf) ++ (wReader cI (xr 1) dr da (upd di 1 u16.1) (va_up dk 0 u16.2.1)) ++ (wTold cI xd ur ua (upd (upd (upd (upd (upd (upd (upd ui 4 u16.2.2.1) 5 u16.2.2.2.1) 6 u16.2.2.2.2.1) 7 u16.2.2.2.2.2.1) 8 u16.2.2.2.2.2.2.1) 9 u16.2.2.2.2.2.2.2.1) 10 u16.2.2.2.2.2.2.2.2.1) (va_up (va_up (va_up (va_up uk 0 u16.2.2.2.2.2.2.2.2.2.1) 1 u16.2.2.2.2.2.2.2.2.2.2.1) 2 u16.2.2.2.2.2.2.2.2.2.2.2.1) 3 u16.2.2.2.2.2.2.2.2.2.2.2.2)) ++ (wFelt cI (xr 2) yr ya yi yk) ++ (wHead (xr 3) jp jc) ++ (wHead (xr 4) kp kc) ++ (wPass cI (xr 5) qr qa (upd (upd (upd qi 2 u63.1) 3 u63.2.1) 4 u63.2.2.1) (va_up (va_up qk 0 u63.2.2.2.1) 1 u63.2.2.2.2))) := hD
      replace he := he.trans (xbd_some hw)
      refine lv_aload_n hx hb dX6_lay_66 rfl (lv_at hl 1 rfl) ?_
      refine va_get (D := D) (ci := 6) (v := .ref (xr 2)) (C := RX6) (T := TX6) (N := 12) hx hb hts hi_X6_lay_6 hown hK hP 0 rfl rfl 2 (by decide) (hts (.fieldLink RX6 28 "BlindLanterns" "felt" "LBlindLanterns$Felt;") (List.mem_of_getElem? (i := 7) rfl)) (fun _ h9 => h9) rfl dX6_lay_67 ?_
      have n6_ : fX0_clear  ≠ none := fun z => hne (he.trans (xbd_none z))
      refine xcv (va_runV (As := []) (rest := []) ⟨hx, hb, hml, hown, hts⟩ (c_X0_clear l D cI cP H.size (xr 2) yr ya yi yk  n6_) (cwV 0 hts gX6_lay_X0_clear rfl rfl rfl (by decide +kernel) ⟨Nat.le_of_ble_eq_true rfl, Nat.le_of_ble_eq_true rfl⟩) (xPV hN hK hP hD [15, 16, 17, 18, 19, 20, 21] rfl (by decide) (ci := 0) (j := 15) rfl rfl) rfl rfl hl.1 rfl (lv_room (Nat.le_of_ble_eq_true rfl)) dX6_lay_70 ⟨Nat.le_of_ble_eq_true rfl, Nat.le_of_ble_eq_true rfl⟩) hP hD hS hA [15, 16, 17, 18, 19, 20, 21] rfl (fun _ => rfl) (fun u70 H locs hw hP hD hS => ?_)
      have hP : va_P D vwCl ((wX x xr xl xd xt) ++ (wRow cI (xr 0) ga 300 gf) ++ (wReader cI (xr 1) dr da (upd di 1 u16.1) (va_up dk 0 u16.2.1)) ++ (wTold cI xd ur ua (upd (upd (upd (upd (upd (upd (upd ui 4 u16.2.2.1) 5 u16.2.2.2.1) 6 u16.2.2.2.2.1) 7 u16.2.2.2.2.2.1) 8 u16.2.2.2.2.2.2.1) 9 u16.2.2.2.2.2.2.2.1) 10 u16.2.2.2.2.2.2.2.2.1) (va_up (va_up (va_up (va_up uk 0 u16.2.2.2.2.2.2.2.2.2.1) 1 u16.2.2.2.2.2.2.2.2.2.2.1) 2 u16.2.2.2.2.2.2.2.2.2.2.2.1) 3 u16.2.2.2.2.2.2.2.2.2.2.2.2)) ++ (wFelt cI (xr 2) yr ya (upd yi 3 u70) yk) ++ (wHead (xr 3) jp jc) ++ (wHead (xr 4) kp kc) ++ (wPass cI (xr 5) qr qa (upd (upd (upd qi 2 u63.1) 3 u63.2.1) 4 u63.2.2.1) (va_up (va_up qk 0 u63.2.2.2.1) 1 u63.2.2.2.2))) H := hP
      have hD : va_D A ((wX x xr xl xd xt) ++ (wRow cI (xr 0) ga 300 gf) ++ (wReader cI (xr 1) dr da (upd di 1 u16.1) (va_up dk 0 u16.2.1)) ++ (wTold cI xd ur ua (upd (upd (upd (upd (upd (upd (upd ui 4 u16.2.2.1) 5 u16.2.2.2.1) 6 u16.2.2.2.2.1) 7 u16.2.2.2.2.2.1) 8 u16.2.2.2.2.2.2.1) 9 u16.2.2.2.2.2.2.2.1) 10 u16.2.2.2.2.2.2.2.2.1) (va_up (va_up (va_up (va_up uk 0 u16.2.2.2.2.2.2.2.2.2.1) 1 u16.2.2.2.2.2.2.2.2.2.2.1) 2 u16.2.2.2.2.2.2.2.2.2.2.2.1) 3 u16.2.2.2.2.2.2.2.2.2.2.2.2)) ++ (wFelt cI (xr 2) yr ya (upd yi 3 u70) yk) ++ (wHead (xr 3) jp jc) ++ (wHead (xr 4) kp kc) ++ (wPass cI (xr 5) qr qa (upd (upd (upd qi 2 u63.1) 3 u63.2.1) 4 u63.2.2.1) (va_up (va_up qk 0 u63.2.2.2.1) 1 u63.2.2.2.2))) := hD
      replace he := he.trans (xbd_some hw)
      refine lv_aload_n hx hb dX6_lay_73 rfl (lv_at hl 1 rfl) ?_
      refine va_get (D := D) (ci := 6) (v := .ref (xr 3)) (C := RX6) (T := TX6) (N := 12) hx hb hts hi_X6_lay_6 hown hK hP 0 rfl rfl 3 (by decide) (hts (.fieldLink RX6 35 "BlindLanterns" "undone" "LBlindLanterns$Shelf;") (List.mem_of_getElem? (i := 8) rfl)) (fun _ h9 => h9) rfl dX6_lay_74 ?_
      have n7_ : fX4_clear  ≠ none := fun z => hne (he.trans (xbd_none z))
      refine xcv (va_runV (As := []) (rest := []) ⟨hx, hb, hml, hown, hts⟩ (c_X4_clear l D cI cP H.size (xr 3) jp jc  n7_) (cwV 0 hts gX6_lay_X4_clear rfl rfl rfl (by decide +kernel) ⟨Nat.le_of_ble_eq_true rfl, Nat.le_of_ble_eq_true rfl⟩) (xPV hN hK hP hD [22] rfl (by decide) (ci := 4) (j := 22) rfl rfl) rfl rfl hl.1 rfl (lv_room (Nat.le_of_ble_eq_true rfl)) dX6_lay_77 ⟨Nat.le_of_ble_eq_true rfl, Nat.le_of_ble_eq_true rfl⟩) hP hD hS hA [22] rfl (fun _ => rfl) (fun u77 H locs hw hP hD hS => ?_)
      have hP : va_P D vwCl ((wX x xr xl xd xt) ++ (wRow cI (xr 0) ga 300 gf) ++ (wReader cI (xr 1) dr da (upd di 1 u16.1) (va_up dk 0 u16.2.1)) ++ (wTold cI xd ur ua (upd (upd (upd (upd (upd (upd (upd ui 4 u16.2.2.1) 5 u16.2.2.2.1) 6 u16.2.2.2.2.1) 7 u16.2.2.2.2.2.1) 8 u16.2.2.2.2.2.2.1) 9 u16.2.2.2.2.2.2.2.1) 10 u16.2.2.2.2.2.2.2.2.1) (va_up (va_up (va_up (va_up uk 0 u16.2.2.2.2.2.2.2.2.2.1) 1 u16.2.2.2.2.2.2.2.2.2.2.1) 2 u16.2.2.2.2.2.2.2.2.2.2.2.1) 3 u16.2.2.2.2.2.2.2.2.2.2.2.2)) ++ (wFelt cI (xr 2) yr ya (upd yi 3 u70) yk) ++ (wHead (xr 3) jp u77) ++ (wHead (xr 4) kp kc) ++ (wPass cI (xr 5) qr qa (upd (upd (upd qi 2 u63.1) 3 u63.2.1) 4 u63.2.2.1) (va_up (va_up qk 0 u63.2.2.2.1) 1 u63.2.2.2.2))) H := hP
      have hD : va_D A ((wX x xr xl xd xt) ++ (wRow cI (xr 0) ga 300 gf) ++ (wReader cI (xr 1) dr da (upd di 1 u16.1) (va_up dk 0 u16.2.1)) ++ (wTold cI xd ur ua (upd (upd (upd (upd (upd (upd (upd ui 4 u16.2.2.1) 5 u16.2.2.2.1) 6 u16.2.2.2.2.1) 7 u16.2.2.2.2.2.1) 8 u16.2.2.2.2.2.2.1) 9 u16.2.2.2.2.2.2.2.1) 10 u16.2.2.2.2.2.2.2.2.1) (va_up (va_up (va_up (va_up uk 0 u16.2.2.2.2.2.2.2.2.2.1) 1 u16.2.2.2.2.2.2.2.2.2.2.1) 2 u16.2.2.2.2.2.2.2.2.2.2.2.1) 3 u16.2.2.2.2.2.2.2.2.2.2.2.2)) ++ (wFelt cI (xr 2) yr ya (upd yi 3 u70) yk) ++ (wHead (xr 3) jp u77) ++ (wHead (xr 4) kp kc) ++ (wPass cI (xr 5) qr qa (upd (upd (upd qi 2 u63.1) 3 u63.2.1) 4 u63.2.2.1) (va_up (va_up qk 0 u63.2.2.2.1) 1 u63.2.2.2.2))) := hD
      replace he := he.trans (xbd_some hw)
      refine lv_aload_n hx hb dX6_lay_80 rfl (lv_at hl 1 rfl) ?_
      refine va_get (D := D) (ci := 6) (v := .ref (xr 4)) (C := RX6) (T := TX6) (N := 12) hx hb hts hi_X6_lay_6 hown hK hP 0 rfl rfl 4 (by decide) (hts (.fieldLink RX6 39 "BlindLanterns" "kept" "LBlindLanterns$Shelf;") (List.mem_of_getElem? (i := 9) rfl)) (fun _ h9 => h9) rfl dX6_lay_81 ?_
      have n8_ : fX4_clear  ≠ none := fun z => hne (he.trans (xbd_none z))
      refine xcv (va_runV (As := []) (rest := []) ⟨hx, hb, hml, hown, hts⟩ (c_X4_clear l D cI cP H.size (xr 4) kp kc  n8_) (cwV 0 hts gX6_lay_X4_clear rfl rfl rfl (by decide +kernel) ⟨Nat.le_of_ble_eq_true rfl, Nat.le_of_ble_eq_true rfl⟩) (xPV hN hK hP hD [23] rfl (by decide) (ci := 4) (j := 23) rfl rfl) rfl rfl hl.1 rfl (lv_room (Nat.le_of_ble_eq_true rfl)) dX6_lay_84 ⟨Nat.le_of_ble_eq_true rfl, Nat.le_of_ble_eq_true rfl⟩) hP hD hS hA [23] rfl (fun _ => rfl) (fun u84 H locs hw hP hD hS => ?_)
      have hP : va_P D vwCl ((wX x xr xl xd xt) ++ (wRow cI (xr 0) ga 300 gf) ++ (wReader cI (xr 1) dr da (upd di 1 u16.1) (va_up dk 0 u16.2.1)) ++ (wTold cI xd ur ua (upd (upd (upd (upd (upd (upd (upd ui 4 u16.2.2.1) 5 u16.2.2.2.1) 6 u16.2.2.2.2.1) 7 u16.2.2.2.2.2.1) 8 u16.2.2.2.2.2.2.1) 9 u16.2.2.2.2.2.2.2.1) 10 u16.2.2.2.2.2.2.2.2.1) (va_up (va_up (va_up (va_up uk 0 u16.2.2.2.2.2.2.2.2.2.1) 1 u16.2.2.2.2.2.2.2.2.2.2.1) 2 u16.2.2.2.2.2.2.2.2.2.2.2.1) 3 u16.2.2.2.2.2.2.2.2.2.2.2.2)) ++ (wFelt cI (xr 2) yr ya (upd yi 3 u70) yk) ++ (wHead (xr 3) jp u77) ++ (wHead (xr 4) kp u84) ++ (wPass cI (xr 5) qr qa (upd (upd (upd qi 2 u63.1) 3 u63.2.1) 4 u63.2.2.1) (va_up (va_up qk 0 u63.2.2.2.1) 1 u63.2.2.2.2))) H := hP
      have hD : va_D A ((wX x xr xl xd xt) ++ (wRow cI (xr 0) ga 300 gf) ++ (wReader cI (xr 1) dr da (upd di 1 u16.1) (va_up dk 0 u16.2.1)) ++ (wTold cI xd ur ua (upd (upd (upd (upd (upd (upd (upd ui 4 u16.2.2.1) 5 u16.2.2.2.1) 6 u16.2.2.2.2.1) 7 u16.2.2.2.2.2.1) 8 u16.2.2.2.2.2.2.1) 9 u16.2.2.2.2.2.2.2.1) 10 u16.2.2.2.2.2.2.2.2.1) (va_up (va_up (va_up (va_up uk 0 u16.2.2.2.2.2.2.2.2.2.1) 1 u16.2.2.2.2.2.2.2.2.2.2.1) 2 u16.2.2.2.2.2.2.2.2.2.2.2.1) 3 u16.2.2.2.2.2.2.2.2.2.2.2.2)) ++ (wFelt cI (xr 2) yr ya (upd yi 3 u70) yk) ++ (wHead (xr 3) jp u77) ++ (wHead (xr 4) kp u84) ++ (wPass cI (xr 5) qr qa (upd (upd (upd qi 2 u63.1) 3 u63.2.1) 4 u63.2.2.1) (va_up (va_up qk 0 u63.2.2.2.1) 1 u63.2.2.2.2))) := hD
      replace he := he.trans (xbd_some hw)
      refine lv_aload_n hx hb dX6_lay_87 rfl (lv_at hl 1 rfl) ?_
      refine va_get (D := D) (ci := 6) (v := .ref xd) (C := RX6) (T := TX6) (N := 12) hx hb hts hi_X6_lay_6 hown hK hP 0 rfl rfl 10 (by decide) (hts (.fieldLink RX6 61 "BlindLanterns" "told" "LBlindLanterns$Told;") (List.mem_of_getElem? (i := 5) rfl)) (fun _ h9 => h9) rfl dX6_lay_88 ?_
      refine va_getN (D := D) (ci := 5) (v := .int u16.2.2.1) (C := RX5) (T := TX5) (N := 11) hx hb hts hi_X6_lay_5 hown hK hP 6 rfl rfl 4 (by decide) (va_Nw.use rfl (hN (.fieldLinkNest RX6 100 "BlindLanterns$Told" "men" "I" "BlindLanterns") (List.mem_of_getElem? (i := 15) rfl))) (fun _ h9 => h9) rfl dX6_lay_91 ?_
      exact hret u16.2.2.1 (xd, xt, u16.1, u16.2.1, u16.2.2.1, u16.2.2.2.1, u16.2.2.2.2.1, u16.2.2.2.2.2.1, u16.2.2.2.2.2.2.1, u16.2.2.2.2.2.2.2.1, u16.2.2.2.2.2.2.2.2.1, u16.2.2.2.2.2.2.2.2.2.1, u16.2.2.2.2.2.2.2.2.2.2.1, u16.2.2.2.2.2.2.2.2.2.2.2.1, u16.2.2.2.2.2.2.2.2.2.2.2.2, u70, u77, u84, u63.1, u63.2.1, u63.2.2.1, u63.2.2.2.1, u63.2.2.2.2) _ _ _ _ dX6_lay_94 he hP hD hS
    · replace he := he.trans (if_pos c4)
      refine lv_bipush (v := -2) hx hb dX6_lay_34 (by decide) ?_
      exact hret (-2 : Int32) (xt, xd, u16.1, u16.2.1, u16.2.2.1, u16.2.2.2.1, u16.2.2.2.2.1, u16.2.2.2.2.2.1, u16.2.2.2.2.2.2.1, u16.2.2.2.2.2.2.2.1, u16.2.2.2.2.2.2.2.2.1, u16.2.2.2.2.2.2.2.2.2.1, u16.2.2.2.2.2.2.2.2.2.2.1, u16.2.2.2.2.2.2.2.2.2.2.2.1, u16.2.2.2.2.2.2.2.2.2.2.2.2, (yi 3), jc, kc, (qi 2), (qi 3), (qi 4), (qk 0), (qk 1)) _ _ _ _ dX6_lay_36 he hP hD hS

def fX6_lantern (ti_4 : Int32) (ti_6 : Int32) (qi_3 : Int32) (qk_0 : Nat → Int32) (qk_1 : Nat → Int32) (a1 : Int32) (a2 : Int32) : Option (Int32) :=
  xbd (fX6_isMan ti_4 a1) (fun (r2 : Int32) => if r2 = 0 then (some (-1 : Int32)) else (if a2 = (0 : Int32) then (xbd (fX3_get qk_0 a1 6) (fun (r48 : Int32) => some r48)) else (if a2 = (1 : Int32) then (xbd (fX3_get qk_1 a1 6) (fun (r60 : Int32) => some r60)) else (if a2 = (2 : Int32) then (xbd (fX1_isLit qi_3 a1) (fun (r69 : Int32) => if r69 = 0 then (some (0 : Int32)) else (some (1 : Int32)))) else (if a2 = (3 : Int32) then (xbd (fX5_isCheese ti_6 a1) (fun (r86 : Int32) => if r86 = 0 then (some (0 : Int32)) else (some (1 : Int32)))) else (some (-1 : Int32)))))))
theorem hi_X6_lantern_1 : ∀ w ∈ wsX10, w ∈ wsX6_lantern := fun _ h => (List.mem_cons_of_mem _ (List.mem_append_left _ (List.mem_append_left _ (List.mem_append_right _ h))))
theorem hi_X6_lantern_6 : ∀ w ∈ wsX60, w ∈ wsX6_lantern := fun _ h => (List.mem_cons_of_mem _ (List.mem_append_left _ (List.mem_append_left _ (List.mem_append_left _ (List.mem_append_right _ h)))))
set_option maxHeartbeats 4000000 in
set_option maxRecDepth 100000 in
theorem c_X6_lantern (l : Launch) (D : va_G) (cI cP : ClassId) (sz : Nat) (x : Nat) (xr : Nat → Nat) (xl : Int32) (xt : Nat) (xd : Nat) (tr : Nat → Nat) (ta : Nat → Nat) (ti : Nat → Int32) (tk : Nat → Nat → Int32) (qr : Nat → Nat) (qa : Nat → Nat) (qi : Nat → Int32) (qk : Nat → Nat → Int32) (a1 : Int32) (a2 : Int32) (hne : fX6_lantern (ti 4) (ti 6) (qi 3) (qk 0) (qk 1) a1 a2 ≠ none) : xMi l yX6_lantern wsX6_lantern ({ frames := 1, cells := 0, slots := 0, locals := 21 } : Room) D (xT cI cP) [.ref x, .int a1, .int a2] ((wX x xr xl xt xd) ++ (wTold cI xt tr ta ti tk) ++ (wPass cI (xr 5) qr qa qi qk)) sz (fun r (_ : Unit) => fX6_lantern (ti 4) (ti 6) (qi 3) (qk 0) (qk 1) a1 a2 = some r) (fun u => (wX x xr xl xt xd) ++ (wTold cI xt tr ta ti tk) ++ (wPass cI (xr 5) qr qa qi qk)) 0 0 := by
  refine xMi_of (cc := cX6_lantern) (maxL := 3) (by decide +kernel) rfl (Nat.le_of_ble_eq_true rfl) ?_
  intro p e s m args below meth c A ls hx hb hml hown hts hname hN hK hA hP hD hS hl Q hret
  have he := fX6_lantern.eq_1 (ti 4) (ti 6) (qi 3) (qk 0) (qk 1) a1 a2
  have hl : lv_has ls 3 [(0, .ref x), (1, .int a1), (2, .int a2)] := hl
  refine lv_aload_n hx hb dX6_lantern_0 rfl (lv_at hl 0 rfl) ?_
  refine lv_iload_n hx hb dX6_lantern_1 rfl (lv_at hl 1 rfl) ?_
  have n1_ : fX6_isMan (ti 4) a1 ≠ none := fun z => hne (he.trans (xbd_none z))
  refine xci (va_runV (As := [.int a1]) (rest := []) ⟨hx, hb, hml, hown, hts⟩ (c_X6_isMan l D cI cP s.heap.size x xr xl xt xd tr ta ti tk a1 n1_) (cwV 1 hts gX6_lantern_X6_isMan rfl rfl rfl (by decide +kernel) ⟨Nat.le_of_ble_eq_true rfl, Nat.le_of_ble_eq_true rfl⟩) (xPV hN hK hP hD [0, 1, 2, 3, 4, 5, 6, 7, 8, 9] rfl (by decide) (ci := 6) (j := 0) rfl rfl) rfl rfl hl.1 rfl (lv_room (Nat.le_of_ble_eq_true rfl)) dX6_lantern_2 ⟨Nat.le_of_ble_eq_true rfl, Nat.le_of_ble_eq_true rfl⟩) hP hD hS hA [0, 1, 2, 3, 4, 5, 6, 7, 8, 9] rfl (fun _ => rfl) (fun r2 u2 H locs hw hP hD hS => ?_)
  have hP : va_P D vwCl ((wX x xr xl xt xd) ++ (wTold cI xt tr ta ti tk) ++ (wPass cI (xr 5) qr qa qi qk)) H := hP
  have hD : va_D A ((wX x xr xl xt xd) ++ (wTold cI xt tr ta ti tk) ++ (wPass cI (xr 5) qr qa qi qk)) := hD
  replace he := he.trans (xbd_some hw)
  refine lv_if_ne (tgt := 10) hx hb dX6_lantern_5 (by decide) (fun c2 => ?_) (fun c2 => ?_)
  · replace he := he.trans (if_neg c2)
    refine lv_iload_n hx hb dX6_lantern_10 rfl (lv_at hl 2 rfl) ?_
    by_cases k11_0 : a2 = (0 : Int32)
    · replace he := he.trans (if_pos k11_0)
      refine lv_tableIn hx hb dX6_lantern_11 (off := 29) (tgt := 40) (by rw [k11_0]; decide) (by rw [k11_0]; decide) (by rw [k11_0]; rfl) (by decide) ?_
      refine lv_aload_n hx hb dX6_lantern_40 rfl (lv_at hl 0 rfl) ?_
      refine va_get (D := D) (ci := 6) (v := .ref (xr 5)) (C := RX6) (T := TX6) (N := 12) hx hb hts hi_X6_lantern_6 hown hK hP 0 rfl rfl 5 (by decide) (hts (.fieldLink RX6 45 "BlindLanterns" "pass" "LBlindLanterns$Pass;") (List.mem_of_getElem? (i := 1) rfl)) (fun _ h9 => h9) rfl dX6_lantern_41 ?_
      refine va_getN (D := D) (ci := 1) (v := .ref (qr 0)) (C := RX1) (T := TX1) (N := 5) hx hb hts hi_X6_lantern_1 hown hK hP 10 rfl rfl 0 (by decide) (va_Nw.use rfl (hN (.fieldLinkNest RX6 106 "BlindLanterns$Pass" "postOf" "LBlindLanterns$Row;" "BlindLanterns") (List.mem_of_getElem? (i := 4) rfl))) (fun _ h9 => h9) rfl dX6_lantern_44 ?_
      refine lv_iload_n hx hb dX6_lantern_47 rfl (lv_at hl 1 rfl) ?_
      have n3_ : fX3_get (qk 0) a1 6 ≠ none := fun z => hne (he.trans (xbd_none z))
      refine xci (va_runV (As := [.int a1]) (rest := []) ⟨hx, hb, hml, hown, hts⟩ (c_X3_get l D cI cP H.size (qr 0) (qa 0) 6 (qk 0) a1 n3_) (cwV 1 hts gX6_lantern_X3_get rfl rfl rfl (by decide +kernel) ⟨Nat.le_of_ble_eq_true rfl, Nat.le_of_ble_eq_true rfl⟩) (xPV hN hK hP hD [11, 12] rfl (by decide) (ci := 3) (j := 11) rfl rfl) rfl rfl hl.1 rfl (lv_room (Nat.le_of_ble_eq_true rfl)) dX6_lantern_48 ⟨Nat.le_of_ble_eq_true rfl, Nat.le_of_ble_eq_true rfl⟩) hP hD hS hA [11, 12] rfl (fun _ => rfl) (fun r48 u48 H locs hw hP hD hS => ?_)
      have hP : va_P D vwCl ((wX x xr xl xt xd) ++ (wTold cI xt tr ta ti tk) ++ (wPass cI (xr 5) qr qa qi qk)) H := hP
      have hD : va_D A ((wX x xr xl xt xd) ++ (wTold cI xt tr ta ti tk) ++ (wPass cI (xr 5) qr qa qi qk)) := hD
      replace he := he.trans (xbd_some hw)
      exact hret r48 () _ _ _ _ dX6_lantern_51 he hP hD hS
    replace he := he.trans (if_neg k11_0)
    by_cases k11_1 : a2 = (1 : Int32)
    · replace he := he.trans (if_pos k11_1)
      refine lv_tableIn hx hb dX6_lantern_11 (off := 41) (tgt := 52) (by rw [k11_1]; decide) (by rw [k11_1]; decide) (by rw [k11_1]; rfl) (by decide) ?_
      refine lv_aload_n hx hb dX6_lantern_52 rfl (lv_at hl 0 rfl) ?_
      refine va_get (D := D) (ci := 6) (v := .ref (xr 5)) (C := RX6) (T := TX6) (N := 12) hx hb hts hi_X6_lantern_6 hown hK hP 0 rfl rfl 5 (by decide) (hts (.fieldLink RX6 45 "BlindLanterns" "pass" "LBlindLanterns$Pass;") (List.mem_of_getElem? (i := 1) rfl)) (fun _ h9 => h9) rfl dX6_lantern_53 ?_
      refine va_getN (D := D) (ci := 1) (v := .ref (qr 1)) (C := RX1) (T := TX1) (N := 5) hx hb hts hi_X6_lantern_1 hown hK hP 10 rfl rfl 1 (by decide) (va_Nw.use rfl (hN (.fieldLinkNest RX6 113 "BlindLanterns$Pass" "oilOf" "LBlindLanterns$Row;" "BlindLanterns") (List.mem_of_getElem? (i := 5) rfl))) (fun _ h9 => h9) rfl dX6_lantern_56 ?_
      refine lv_iload_n hx hb dX6_lantern_59 rfl (lv_at hl 1 rfl) ?_
      have n4_ : fX3_get (qk 1) a1 6 ≠ none := fun z => hne (he.trans (xbd_none z))
      refine xci (va_runV (As := [.int a1]) (rest := []) ⟨hx, hb, hml, hown, hts⟩ (c_X3_get l D cI cP H.size (qr 1) (qa 1) 6 (qk 1) a1 n4_) (cwV 1 hts gX6_lantern_X3_get rfl rfl rfl (by decide +kernel) ⟨Nat.le_of_ble_eq_true rfl, Nat.le_of_ble_eq_true rfl⟩) (xPV hN hK hP hD [13, 14] rfl (by decide) (ci := 3) (j := 13) rfl rfl) rfl rfl hl.1 rfl (lv_room (Nat.le_of_ble_eq_true rfl)) dX6_lantern_60 ⟨Nat.le_of_ble_eq_true rfl, Nat.le_of_ble_eq_true rfl⟩) hP hD hS hA [13, 14] rfl (fun _ => rfl) (fun r60 u60 H locs hw hP hD hS => ?_)
      have hP : va_P D vwCl ((wX x xr xl xt xd) ++ (wTold cI xt tr ta ti tk) ++ (wPass cI (xr 5) qr qa qi qk)) H := hP
      have hD : va_D A ((wX x xr xl xt xd) ++ (wTold cI xt tr ta ti tk) ++ (wPass cI (xr 5) qr qa qi qk)) := hD
      replace he := he.trans (xbd_some hw)
      exact hret r60 () _ _ _ _ dX6_lantern_63 he hP hD hS
    replace he := he.trans (if_neg k11_1)
    by_cases k11_2 : a2 = (2 : Int32)
    · replace he := he.trans (if_pos k11_2)
      refine lv_tableIn hx hb dX6_lantern_11 (off := 53) (tgt := 64) (by rw [k11_2]; decide) (by rw [k11_2]; decide) (by rw [k11_2]; rfl) (by decide) ?_
      refine lv_aload_n hx hb dX6_lantern_64 rfl (lv_at hl 0 rfl) ?_
      refine va_get (D := D) (ci := 6) (v := .ref (xr 5)) (C := RX6) (T := TX6) (N := 12) hx hb hts hi_X6_lantern_6 hown hK hP 0 rfl rfl 5 (by decide) (hts (.fieldLink RX6 45 "BlindLanterns" "pass" "LBlindLanterns$Pass;") (List.mem_of_getElem? (i := 1) rfl)) (fun _ h9 => h9) rfl dX6_lantern_65 ?_
      refine lv_iload_n hx hb dX6_lantern_68 rfl (lv_at hl 1 rfl) ?_
      have n5_ : fX1_isLit (qi 3) a1 ≠ none := fun z => hne (he.trans (xbd_none z))
      refine xci (va_runV (As := [.int a1]) (rest := []) ⟨hx, hb, hml, hown, hts⟩ (c_X1_isLit l D cI cP H.size (xr 5) qr qa qi qk a1 n5_) (cwV 1 hts gX6_lantern_X1_isLit rfl rfl rfl (by decide +kernel) ⟨Nat.le_of_ble_eq_true rfl, Nat.le_of_ble_eq_true rfl⟩) (xPV hN hK hP hD [10, 11, 12, 13, 14] rfl (by decide) (ci := 1) (j := 10) rfl rfl) rfl rfl hl.1 rfl (lv_room (Nat.le_of_ble_eq_true rfl)) dX6_lantern_69 ⟨Nat.le_of_ble_eq_true rfl, Nat.le_of_ble_eq_true rfl⟩) hP hD hS hA [10, 11, 12, 13, 14] rfl (fun _ => rfl) (fun r69 u69 H locs hw hP hD hS => ?_)
      have hP : va_P D vwCl ((wX x xr xl xt xd) ++ (wTold cI xt tr ta ti tk) ++ (wPass cI (xr 5) qr qa qi qk)) H := hP
      have hD : va_D A ((wX x xr xl xt xd) ++ (wTold cI xt tr ta ti tk) ++ (wPass cI (xr 5) qr qa qi qk)) := hD
      replace he := he.trans (xbd_some hw)
      refine lv_if_eq (tgt := 79) hx hb dX6_lantern_72 (by decide) (fun c6 => ?_) (fun c6 => ?_)
      · replace he := he.trans (if_pos c6)
        refine lv_iconst (v := 0) hx hb dX6_lantern_79 (by decide) ?_
        exact hret (0 : Int32) () _ _ _ _ dX6_lantern_80 he hP hD hS
      · replace he := he.trans (if_neg c6)
        refine lv_iconst (v := 1) hx hb dX6_lantern_75 (by decide) ?_
        refine lv_goto (tgt := 80) hx hb dX6_lantern_76 (by decide) ?_
        exact hret (1 : Int32) () _ _ _ _ dX6_lantern_80 he hP hD hS
    replace he := he.trans (if_neg k11_2)
    by_cases k11_3 : a2 = (3 : Int32)
    · replace he := he.trans (if_pos k11_3)
      refine lv_tableIn hx hb dX6_lantern_11 (off := 70) (tgt := 81) (by rw [k11_3]; decide) (by rw [k11_3]; decide) (by rw [k11_3]; rfl) (by decide) ?_
      refine lv_aload_n hx hb dX6_lantern_81 rfl (lv_at hl 0 rfl) ?_
      refine va_get (D := D) (ci := 6) (v := .ref xt) (C := RX6) (T := TX6) (N := 12) hx hb hts hi_X6_lantern_6 hown hK hP 0 rfl rfl 10 (by decide) (hts (.fieldLink RX6 61 "BlindLanterns" "told" "LBlindLanterns$Told;") (List.mem_of_getElem? (i := 2) rfl)) (fun _ h9 => h9) rfl dX6_lantern_82 ?_
      refine lv_iload_n hx hb dX6_lantern_85 rfl (lv_at hl 1 rfl) ?_
      have n7_ : fX5_isCheese (ti 6) a1 ≠ none := fun z => hne (he.trans (xbd_none z))
      refine xci (va_runV (As := [.int a1]) (rest := []) ⟨hx, hb, hml, hown, hts⟩ (c_X5_isCheese l D cI cP H.size xt tr ta ti tk a1 n7_) (cwV 1 hts gX6_lantern_X5_isCheese rfl rfl rfl (by decide +kernel) ⟨Nat.le_of_ble_eq_true rfl, Nat.le_of_ble_eq_true rfl⟩) (xPV hN hK hP hD [1, 2, 3, 4, 5, 6, 7, 8, 9] rfl (by decide) (ci := 5) (j := 1) rfl rfl) rfl rfl hl.1 rfl (lv_room (Nat.le_of_ble_eq_true rfl)) dX6_lantern_86 ⟨Nat.le_of_ble_eq_true rfl, Nat.le_of_ble_eq_true rfl⟩) hP hD hS hA [1, 2, 3, 4, 5, 6, 7, 8, 9] rfl (fun _ => rfl) (fun r86 u86 H locs hw hP hD hS => ?_)
      have hP : va_P D vwCl ((wX x xr xl xt xd) ++ (wTold cI xt tr ta ti tk) ++ (wPass cI (xr 5) qr qa qi qk)) H := hP
      have hD : va_D A ((wX x xr xl xt xd) ++ (wTold cI xt tr ta ti tk) ++ (wPass cI (xr 5) qr qa qi qk)) := hD
      replace he := he.trans (xbd_some hw)
      refine lv_if_eq (tgt := 96) hx hb dX6_lantern_89 (by decide) (fun c8 => ?_) (fun c8 => ?_)
      · replace he := he.trans (if_pos c8)
        refine lv_iconst (v := 0) hx hb dX6_lantern_96 (by decide) ?_
        exact hret (0 : Int32) () _ _ _ _ dX6_lantern_97 he hP hD hS
      · replace he := he.trans (if_neg c8)
        refine lv_iconst (v := 1) hx hb dX6_lantern_92 (by decide) ?_
        refine lv_goto (tgt := 97) hx hb dX6_lantern_93 (by decide) ?_
        exact hret (1 : Int32) () _ _ _ _ dX6_lantern_97 he hP hD hS
    replace he := he.trans (if_neg k11_3)
    have t11_0 := lv_neT (a := 0) k11_0 rfl
    have t11_1 := lv_neT (a := 1) k11_1 rfl
    have t11_2 := lv_neT (a := 2) k11_2 rfl
    have t11_3 := lv_neT (a := 3) k11_3 rfl
    refine lv_tableOut hx hb dX6_lantern_11 (tgt := 98) (by omega) (by decide) ?_
    refine lv_iconst (v := -1) hx hb dX6_lantern_98 (by decide) ?_
    exact hret (-1 : Int32) () _ _ _ _ dX6_lantern_99 he hP hD hS
  · replace he := he.trans (if_pos c2)
    refine lv_iconst (v := -1) hx hb dX6_lantern_8 (by decide) ?_
    exact hret (-1 : Int32) () _ _ _ _ dX6_lantern_9 he hP hD hS

def fX6_warm (F : Nat) (ti_4 : Int32) (ti_7 : Int32) (ti_8 : Int32) (ti_9 : Int32) (ti_10 : Int32) (tk_0 : Nat → Int32) (tk_2 : Nat → Int32) (tk_3 : Nat → Int32) (qi_2 : Int32) (qi_3 : Int32) (qi_4 : Int32) (qk_0 : Nat → Int32) (qk_1 : Nat → Int32) (zf : Nat → Int32) (a1 : Int32) (a2 : Int32) : Option (Int32 × (Nat → Int32)) :=
  xbd (fX6_isLastBell a1) (fun (r1 : Int32) => if r1 = 0 then (some ((-1 : Int32), zf)) else (xbd (fX6_isMan ti_4 a2) (fun (r9 : Int32) => if r9 = 0 then (some ((-1 : Int32), zf)) else (xbd (fX5_reckonDraughts F ti_4 ti_7 ti_8 tk_2 tk_3 zf qi_4 6) (fun (u32 : (Nat → Int32)) => xbd (fX6_isLitBehind F ti_4 ti_7 qi_2 qi_3 qk_0 qk_1 u32 a1 a2) (fun (r38 : Int32) => xbd (fX3_get tk_0 a2 6) (fun (r54 : Int32) => xbd (fX5_isWarm ti_9 ti_10 r54 r38 (qi_4 + a1)) (fun (r67 : Int32) => if r67 = 0 then (some ((0 : Int32), u32)) else (some ((1 : Int32), u32))))))))))
theorem hi_X6_warm_1 : ∀ w ∈ wsX10, w ∈ wsX6_warm := fun _ h => (List.mem_cons_of_mem _ (List.mem_append_left _ (List.mem_append_left _ (List.mem_append_right _ h))))
theorem hi_X6_warm_5 : ∀ w ∈ wsX50, w ∈ wsX6_warm := fun _ h => (List.mem_cons_of_mem _ (List.mem_append_left _ (List.mem_append_right _ h)))
theorem hi_X6_warm_6 : ∀ w ∈ wsX60, w ∈ wsX6_warm := fun _ h => (List.mem_cons_of_mem _ (List.mem_append_left _ (List.mem_append_left _ (List.mem_append_left _ (List.mem_append_right _ h)))))
set_option maxHeartbeats 4000000 in
set_option maxRecDepth 100000 in
theorem c_X6_warm (l : Launch) (D : va_G) (cI cP : ClassId) (sz : Nat) (x : Nat) (xr : Nat → Nat) (xl : Int32) (xt : Nat) (xd : Nat) (tr : Nat → Nat) (ta : Nat → Nat) (ti : Nat → Int32) (tk : Nat → Nat → Int32) (qr : Nat → Nat) (qa : Nat → Nat) (qi : Nat → Int32) (qk : Nat → Nat → Int32) (za : Nat) (zf : Nat → Int32) (F : Nat) (a1 : Int32) (a2 : Int32) (hne : fX6_warm F (ti 4) (ti 7) (ti 8) (ti 9) (ti 10) (tk 0) (tk 2) (tk 3) (qi 2) (qi 3) (qi 4) (qk 0) (qk 1) zf a1 a2 ≠ none) : xMi l yX6_warm wsX6_warm ({ frames := 4, cells := 0, slots := 0, locals := 90 } : Room) D (xT cI cP) [.ref x, .int a1, .int a2] ((wX x xr xl xt xd) ++ (wTold cI xt tr ta ti tk) ++ (wPass cI (xr 5) qr qa qi qk) ++ (wRow cI (xr 7) za 6 zf)) sz (fun r (u : ((Nat → Int32))) => fX6_warm F (ti 4) (ti 7) (ti 8) (ti 9) (ti 10) (tk 0) (tk 2) (tk 3) (qi 2) (qi 3) (qi 4) (qk 0) (qk 1) zf a1 a2 = some (r, u)) (fun u => (wX x xr xl xt xd) ++ (wTold cI xt tr ta ti tk) ++ (wPass cI (xr 5) qr qa qi qk) ++ (wRow cI (xr 7) za 6 u)) 0 0 := by
  refine xMi_of (cc := cX6_warm) (maxL := 4) (by decide +kernel) rfl (Nat.le_of_ble_eq_true rfl) ?_
  intro p e s m args below meth c A ls hx hb hml hown hts hname hN hK hA hP hD hS hl Q hret
  have he := fX6_warm.eq_1 F (ti 4) (ti 7) (ti 8) (ti 9) (ti 10) (tk 0) (tk 2) (tk 3) (qi 2) (qi 3) (qi 4) (qk 0) (qk 1) zf a1 a2
  have hl : lv_has ls 4 [(0, .ref x), (1, .int a1), (2, .int a2)] := hl
  refine lv_iload_n hx hb dX6_warm_0 rfl (lv_at hl 1 rfl) ?_
  have n1_ : fX6_isLastBell a1 ≠ none := fun z => hne (he.trans (xbd_none z))
  refine xci (va_runS (As := [.int a1]) (rest := []) ⟨hx, hb, hml, hown, hts⟩ (c_X6_isLastBell l D cI cP s.heap.size  a1 n1_) (va_cwS 1 hts gX6_warm_X6_isLastBell rfl rfl rfl (by decide +kernel) ⟨Nat.le_of_ble_eq_true rfl, Nat.le_of_ble_eq_true rfl⟩) (xPS hN hK hP hD [] rfl (by decide)) rfl rfl hl.1 rfl (lv_room (Nat.le_of_ble_eq_true rfl)) dX6_warm_1 ⟨Nat.le_of_ble_eq_true rfl, Nat.le_of_ble_eq_true rfl⟩) hP hD hS hA [] rfl (fun _ => rfl) (fun r1 u1 H locs hw hP hD hS => ?_)
  have hP : va_P D vwCl ((wX x xr xl xt xd) ++ (wTold cI xt tr ta ti tk) ++ (wPass cI (xr 5) qr qa qi qk) ++ (wRow cI (xr 7) za 6 zf)) H := hP
  have hD : va_D A ((wX x xr xl xt xd) ++ (wTold cI xt tr ta ti tk) ++ (wPass cI (xr 5) qr qa qi qk) ++ (wRow cI (xr 7) za 6 zf)) := hD
  replace he := he.trans (xbd_some hw)
  refine lv_if_eq (tgt := 15) hx hb dX6_warm_4 (by decide) (fun c2 => ?_) (fun c2 => ?_)
  · replace he := he.trans (if_pos c2)
    refine lv_iconst (v := -1) hx hb dX6_warm_15 (by decide) ?_
    exact hret (-1 : Int32) zf _ _ _ _ dX6_warm_16 he hP hD hS
  · replace he := he.trans (if_neg c2)
    refine lv_aload_n hx hb dX6_warm_7 rfl (lv_at hl 0 rfl) ?_
    refine lv_iload_n hx hb dX6_warm_8 rfl (lv_at hl 2 rfl) ?_
    have n3_ : fX6_isMan (ti 4) a2 ≠ none := fun z => hne (he.trans (xbd_none z))
    refine xci (va_runV (As := [.int a2]) (rest := []) ⟨hx, hb, hml, hown, hts⟩ (c_X6_isMan l D cI cP H.size x xr xl xt xd tr ta ti tk a2 n3_) (cwV 1 hts gX6_warm_X6_isMan rfl rfl rfl (by decide +kernel) ⟨Nat.le_of_ble_eq_true rfl, Nat.le_of_ble_eq_true rfl⟩) (xPV hN hK hP hD [0, 1, 2, 3, 4, 5, 6, 7, 8, 9] rfl (by decide) (ci := 6) (j := 0) rfl rfl) rfl rfl hl.1 rfl (lv_room (Nat.le_of_ble_eq_true rfl)) dX6_warm_9 ⟨Nat.le_of_ble_eq_true rfl, Nat.le_of_ble_eq_true rfl⟩) hP hD hS hA [0, 1, 2, 3, 4, 5, 6, 7, 8, 9] rfl (fun _ => rfl) (fun r9 u9 H locs hw hP hD hS => ?_)
    have hP : va_P D vwCl ((wX x xr xl xt xd) ++ (wTold cI xt tr ta ti tk) ++ (wPass cI (xr 5) qr qa qi qk) ++ (wRow cI (xr 7) za 6 zf)) H := hP
    have hD : va_D A ((wX x xr xl xt xd) ++ (wTold cI xt tr ta ti tk) ++ (wPass cI (xr 5) qr qa qi qk) ++ (wRow cI (xr 7) za 6 zf)) := hD
    replace he := he.trans (xbd_some hw)
    refine lv_if_ne (tgt := 17) hx hb dX6_warm_12 (by decide) (fun c4 => ?_) (fun c4 => ?_)
    · replace he := he.trans (if_neg c4)
      refine lv_aload_n hx hb dX6_warm_17 rfl (lv_at hl 0 rfl) ?_
      refine va_get (D := D) (ci := 6) (v := .ref xt) (C := RX6) (T := TX6) (N := 12) hx hb hts hi_X6_warm_6 hown hK hP 0 rfl rfl 10 (by decide) (hts (.fieldLink RX6 61 "BlindLanterns" "told" "LBlindLanterns$Told;") (List.mem_of_getElem? (i := 1) rfl)) (fun _ h9 => h9) rfl dX6_warm_18 ?_
      refine lv_aload_n hx hb dX6_warm_21 rfl (lv_at hl 0 rfl) ?_
      refine va_get (D := D) (ci := 6) (v := .ref (xr 5)) (C := RX6) (T := TX6) (N := 12) hx hb hts hi_X6_warm_6 hown hK hP 0 rfl rfl 5 (by decide) (hts (.fieldLink RX6 45 "BlindLanterns" "pass" "LBlindLanterns$Pass;") (List.mem_of_getElem? (i := 2) rfl)) (fun _ h9 => h9) rfl dX6_warm_22 ?_
      refine va_getN (D := D) (ci := 1) (v := .int (qi 4)) (C := RX1) (T := TX1) (N := 5) hx hb hts hi_X6_warm_1 hown hK hP 10 rfl rfl 4 (by decide) (va_Nw.use rfl (hN (.fieldLinkNest RX6 143 "BlindLanterns$Pass" "bell" "I" "BlindLanterns") (List.mem_of_getElem? (i := 7) rfl))) (fun _ h9 => h9) rfl dX6_warm_25 ?_
      refine lv_aload_n hx hb dX6_warm_28 rfl (lv_at hl 0 rfl) ?_
      refine va_get (D := D) (ci := 6) (v := .ref (xr 7)) (C := RX6) (T := TX6) (N := 12) hx hb hts hi_X6_warm_6 hown hK hP 0 rfl rfl 7 (by decide) (hts (.fieldLink RX6 52 "BlindLanterns" "draughtIn" "LBlindLanterns$Row;") (List.mem_of_getElem? (i := 3) rfl)) (fun _ h9 => h9) rfl dX6_warm_29 ?_
      have n5_ : fX5_reckonDraughts F (ti 4) (ti 7) (ti 8) (tk 2) (tk 3) zf (qi 4) 6 ≠ none := fun z => hne (he.trans (xbd_none z))
      refine xcv (va_runV (As := [.int (qi 4), .ref (xr 7)]) (rest := []) ⟨hx, hb, hml, hown, hts⟩ (c_X5_reckonDraughts l D cI cP H.size xt tr ta ti tk (xr 7) za 6 zf F (qi 4) n5_) (cwV 2 hts gX6_warm_X5_reckonDraughts rfl rfl rfl (by decide +kernel) ⟨Nat.le_of_ble_eq_true rfl, Nat.le_of_ble_eq_true rfl⟩) (xPV hN hK hP hD [1, 2, 3, 4, 5, 6, 7, 8, 9, 15, 16] rfl (by decide) (ci := 5) (j := 1) rfl rfl) rfl rfl hl.1 rfl (lv_room (Nat.le_of_ble_eq_true rfl)) dX6_warm_32 ⟨Nat.le_of_ble_eq_true rfl, Nat.le_of_ble_eq_true rfl⟩) hP hD hS hA [1, 2, 3, 4, 5, 6, 7, 8, 9, 15, 16] rfl (fun _ => rfl) (fun u32 H locs hw hP hD hS => ?_)
      have hP : va_P D vwCl ((wX x xr xl xt xd) ++ (wTold cI xt tr ta ti tk) ++ (wPass cI (xr 5) qr qa qi qk) ++ (wRow cI (xr 7) za 6 u32)) H := hP
      have hD : va_D A ((wX x xr xl xt xd) ++ (wTold cI xt tr ta ti tk) ++ (wPass cI (xr 5) qr qa qi qk) ++ (wRow cI (xr 7) za 6 u32)) := hD
      replace he := he.trans (xbd_some hw)
      refine lv_aload_n hx hb dX6_warm_35 rfl (lv_at hl 0 rfl) ?_
      refine lv_iload_n hx hb dX6_warm_36 rfl (lv_at hl 1 rfl) ?_
      refine lv_iload_n hx hb dX6_warm_37 rfl (lv_at hl 2 rfl) ?_
      have n6_ : fX6_isLitBehind F (ti 4) (ti 7) (qi 2) (qi 3) (qk 0) (qk 1) u32 a1 a2 ≠ none := fun z => hne (he.trans (xbd_none z))
      refine xci (va_runV (As := [.int a1, .int a2]) (rest := []) ⟨hx, hb, hml, hown, hts⟩ (c_X6_isLitBehind l D cI cP H.size x xr xl xt xd tr ta ti tk qr qa qi qk za u32 F a1 a2 n6_) (cwV 2 hts gX6_warm_X6_isLitBehind rfl rfl rfl (by decide +kernel) ⟨Nat.le_of_ble_eq_true rfl, Nat.le_of_ble_eq_true rfl⟩) (xPV hN hK hP hD [0, 1, 2, 3, 4, 5, 6, 7, 8, 9, 10, 11, 12, 13, 14, 15, 16] rfl (by decide) (ci := 6) (j := 0) rfl rfl) rfl rfl hl.1 rfl (lv_room (Nat.le_of_ble_eq_true rfl)) dX6_warm_38 ⟨Nat.le_of_ble_eq_true rfl, Nat.le_of_ble_eq_true rfl⟩) hP hD hS hA [0, 1, 2, 3, 4, 5, 6, 7, 8, 9, 10, 11, 12, 13, 14, 15, 16] rfl (fun _ => rfl) (fun r38 u38 H locs hw hP hD hS => ?_)
      have hP : va_P D vwCl ((wX x xr xl xt xd) ++ (wTold cI xt tr ta ti tk) ++ (wPass cI (xr 5) qr qa qi qk) ++ (wRow cI (xr 7) za 6 u32)) H := hP
      have hD : va_D A ((wX x xr xl xt xd) ++ (wTold cI xt tr ta ti tk) ++ (wPass cI (xr 5) qr qa qi qk) ++ (wRow cI (xr 7) za 6 u32)) := hD
      replace he := he.trans (xbd_some hw)
      refine lv_istore_n (lv' := [(3, .int r38), (0, .ref x), (1, .int a1), (2, .int a2)]) hx hb dX6_warm_41 rfl hl (by decide) rfl (fun ls hl => ?_)
      refine lv_aload_n hx hb dX6_warm_42 rfl (lv_at hl 1 rfl) ?_
      refine va_get (D := D) (ci := 6) (v := .ref xt) (C := RX6) (T := TX6) (N := 12) hx hb hts hi_X6_warm_6 hown hK hP 0 rfl rfl 10 (by decide) (hts (.fieldLink RX6 61 "BlindLanterns" "told" "LBlindLanterns$Told;") (List.mem_of_getElem? (i := 1) rfl)) (fun _ h9 => h9) rfl dX6_warm_43 ?_
      refine lv_aload_n hx hb dX6_warm_46 rfl (lv_at hl 1 rfl) ?_
      refine va_get (D := D) (ci := 6) (v := .ref xt) (C := RX6) (T := TX6) (N := 12) hx hb hts hi_X6_warm_6 hown hK hP 0 rfl rfl 10 (by decide) (hts (.fieldLink RX6 61 "BlindLanterns" "told" "LBlindLanterns$Told;") (List.mem_of_getElem? (i := 1) rfl)) (fun _ h9 => h9) rfl dX6_warm_47 ?_
      refine va_getN (D := D) (ci := 5) (v := .ref (tr 0)) (C := RX5) (T := TX5) (N := 11) hx hb hts hi_X6_warm_5 hown hK hP 1 rfl rfl 0 (by decide) (va_Nw.use rfl (hN (.fieldLinkNest RX6 122 "BlindLanterns$Told" "kinds" "LBlindLanterns$Row;" "BlindLanterns") (List.mem_of_getElem? (i := 12) rfl))) (fun _ h9 => h9) rfl dX6_warm_50 ?_
      refine lv_iload_n hx hb dX6_warm_53 rfl (lv_at hl 3 rfl) ?_
      have n7_ : fX3_get (tk 0) a2 6 ≠ none := fun z => hne (he.trans (xbd_none z))
      refine xci (va_runV (As := [.int a2]) (rest := [.ref xt]) ⟨hx, hb, hml, hown, hts⟩ (c_X3_get l D cI cP H.size (tr 0) (ta 0) 6 (tk 0) a2 n7_) (cwV 1 hts gX6_warm_X3_get rfl rfl rfl (by decide +kernel) ⟨Nat.le_of_ble_eq_true rfl, Nat.le_of_ble_eq_true rfl⟩) (xPV hN hK hP hD [2, 3] rfl (by decide) (ci := 3) (j := 2) rfl rfl) rfl rfl hl.1 rfl (lv_room (Nat.le_of_ble_eq_true rfl)) dX6_warm_54 ⟨Nat.le_of_ble_eq_true rfl, Nat.le_of_ble_eq_true rfl⟩) hP hD hS hA [2, 3] rfl (fun _ => rfl) (fun r54 u54 H locs hw hP hD hS => ?_)
      have hP : va_P D vwCl ((wX x xr xl xt xd) ++ (wTold cI xt tr ta ti tk) ++ (wPass cI (xr 5) qr qa qi qk) ++ (wRow cI (xr 7) za 6 u32)) H := hP
      have hD : va_D A ((wX x xr xl xt xd) ++ (wTold cI xt tr ta ti tk) ++ (wPass cI (xr 5) qr qa qi qk) ++ (wRow cI (xr 7) za 6 u32)) := hD
      replace he := he.trans (xbd_some hw)
      refine lv_iload_n hx hb dX6_warm_57 rfl (lv_at hl 0 rfl) ?_
      refine lv_aload_n hx hb dX6_warm_58 rfl (lv_at hl 1 rfl) ?_
      refine va_get (D := D) (ci := 6) (v := .ref (xr 5)) (C := RX6) (T := TX6) (N := 12) hx hb hts hi_X6_warm_6 hown hK hP 0 rfl rfl 5 (by decide) (hts (.fieldLink RX6 45 "BlindLanterns" "pass" "LBlindLanterns$Pass;") (List.mem_of_getElem? (i := 2) rfl)) (fun _ h9 => h9) rfl dX6_warm_59 ?_
      refine va_getN (D := D) (ci := 1) (v := .int (qi 4)) (C := RX1) (T := TX1) (N := 5) hx hb hts hi_X6_warm_1 hown hK hP 10 rfl rfl 4 (by decide) (va_Nw.use rfl (hN (.fieldLinkNest RX6 143 "BlindLanterns$Pass" "bell" "I" "BlindLanterns") (List.mem_of_getElem? (i := 7) rfl))) (fun _ h9 => h9) rfl dX6_warm_62 ?_
      refine lv_iload_n hx hb dX6_warm_65 rfl (lv_at hl 2 rfl) ?_
      refine lv_iadd hx hb dX6_warm_66 ?_
      have n8_ : fX5_isWarm (ti 9) (ti 10) r54 r38 ((qi 4) + a1) ≠ none := fun z => hne (he.trans (xbd_none z))
      refine xci (va_runV (As := [.int r54, .int r38, .int ((qi 4) + a1)]) (rest := []) ⟨hx, hb, hml, hown, hts⟩ (c_X5_isWarm l D cI cP H.size xt tr ta ti tk r54 r38 ((qi 4) + a1) n8_) (cwV 3 hts gX6_warm_X5_isWarm rfl rfl rfl (by decide +kernel) ⟨Nat.le_of_ble_eq_true rfl, Nat.le_of_ble_eq_true rfl⟩) (xPV hN hK hP hD [1, 2, 3, 4, 5, 6, 7, 8, 9] rfl (by decide) (ci := 5) (j := 1) rfl rfl) rfl rfl hl.1 rfl (lv_room (Nat.le_of_ble_eq_true rfl)) dX6_warm_67 ⟨Nat.le_of_ble_eq_true rfl, Nat.le_of_ble_eq_true rfl⟩) hP hD hS hA [1, 2, 3, 4, 5, 6, 7, 8, 9] rfl (fun _ => rfl) (fun r67 u67 H locs hw hP hD hS => ?_)
      have hP : va_P D vwCl ((wX x xr xl xt xd) ++ (wTold cI xt tr ta ti tk) ++ (wPass cI (xr 5) qr qa qi qk) ++ (wRow cI (xr 7) za 6 u32)) H := hP
      have hD : va_D A ((wX x xr xl xt xd) ++ (wTold cI xt tr ta ti tk) ++ (wPass cI (xr 5) qr qa qi qk) ++ (wRow cI (xr 7) za 6 u32)) := hD
      replace he := he.trans (xbd_some hw)
      refine lv_if_eq (tgt := 77) hx hb dX6_warm_70 (by decide) (fun c9 => ?_) (fun c9 => ?_)
      · replace he := he.trans (if_pos c9)
        refine lv_iconst (v := 0) hx hb dX6_warm_77 (by decide) ?_
        exact hret (0 : Int32) u32 _ _ _ _ dX6_warm_78 he hP hD hS
      · replace he := he.trans (if_neg c9)
        refine lv_iconst (v := 1) hx hb dX6_warm_73 (by decide) ?_
        refine lv_goto (tgt := 78) hx hb dX6_warm_74 (by decide) ?_
        exact hret (1 : Int32) u32 _ _ _ _ dX6_warm_78 he hP hD hS
    · replace he := he.trans (if_pos c4)
      refine lv_iconst (v := -1) hx hb dX6_warm_15 (by decide) ?_
      exact hret (-1 : Int32) zf _ _ _ _ dX6_warm_16 he hP hD hS

def fX6_post (F : Nat) (ti_4 : Int32) (ti_7 : Int32) (ti_8 : Int32) (ti_9 : Int32) (ti_10 : Int32) (tk_0 : Nat → Int32) (tk_2 : Nat → Int32) (tk_3 : Nat → Int32) (qi_2 : Int32) (qi_3 : Int32) (qi_4 : Int32) (qk_0 : Nat → Int32) (qk_1 : Nat → Int32) (zf : Nat → Int32) (a1 : Int32) (a2 : Int32) : Option (Int32 × (Nat → Int32)) :=
  xbd (fX6_isMan ti_4 a1) (fun (r2 : Int32) => if r2 = 0 then (some ((-1 : Int32), zf)) else (if a2 = (0 : Int32) then (xbd (fX3_get tk_0 a1 6) (fun (r44 : Int32) => some (r44, zf))) else (if a2 = (1 : Int32) then (xbd (fX1_lanternAt F qi_2 qk_0 a1) (fun (r53 : Int32) => some (r53, zf))) else (if a2 = (2 : Int32) then (xbd2 (fX6_warm F ti_4 ti_7 ti_8 ti_9 ti_10 tk_0 tk_2 tk_3 qi_2 qi_3 qi_4 qk_0 qk_1 zf (0 : Int32) a1) (fun (r60 : Int32) (u60 : (Nat → Int32)) => some (r60, u60))) else (some ((-1 : Int32), zf))))))
theorem hi_X6_post_5 : ∀ w ∈ wsX50, w ∈ wsX6_post := fun _ h => (List.mem_cons_of_mem _ (List.mem_append_left _ (List.mem_append_left _ (List.mem_append_right _ h))))
theorem hi_X6_post_6 : ∀ w ∈ wsX60, w ∈ wsX6_post := fun _ h => (List.mem_cons_of_mem _ (List.mem_append_left _ (List.mem_append_left _ (List.mem_append_left _ (List.mem_append_right _ h)))))
set_option maxHeartbeats 4000000 in
set_option maxRecDepth 100000 in
theorem c_X6_post (l : Launch) (D : va_G) (cI cP : ClassId) (sz : Nat) (x : Nat) (xr : Nat → Nat) (xl : Int32) (xt : Nat) (xd : Nat) (tr : Nat → Nat) (ta : Nat → Nat) (ti : Nat → Int32) (tk : Nat → Nat → Int32) (qr : Nat → Nat) (qa : Nat → Nat) (qi : Nat → Int32) (qk : Nat → Nat → Int32) (za : Nat) (zf : Nat → Int32) (F : Nat) (a1 : Int32) (a2 : Int32) (hne : fX6_post F (ti 4) (ti 7) (ti 8) (ti 9) (ti 10) (tk 0) (tk 2) (tk 3) (qi 2) (qi 3) (qi 4) (qk 0) (qk 1) zf a1 a2 ≠ none) : xMi l yX6_post wsX6_post ({ frames := 5, cells := 0, slots := 0, locals := 113 } : Room) D (xT cI cP) [.ref x, .int a1, .int a2] ((wX x xr xl xt xd) ++ (wTold cI xt tr ta ti tk) ++ (wPass cI (xr 5) qr qa qi qk) ++ (wRow cI (xr 7) za 6 zf)) sz (fun r (u : ((Nat → Int32))) => fX6_post F (ti 4) (ti 7) (ti 8) (ti 9) (ti 10) (tk 0) (tk 2) (tk 3) (qi 2) (qi 3) (qi 4) (qk 0) (qk 1) zf a1 a2 = some (r, u)) (fun u => (wX x xr xl xt xd) ++ (wTold cI xt tr ta ti tk) ++ (wPass cI (xr 5) qr qa qi qk) ++ (wRow cI (xr 7) za 6 u)) 0 0 := by
  refine xMi_of (cc := cX6_post) (maxL := 3) (by decide +kernel) rfl (Nat.le_of_ble_eq_true rfl) ?_
  intro p e s m args below meth c A ls hx hb hml hown hts hname hN hK hA hP hD hS hl Q hret
  have he := fX6_post.eq_1 F (ti 4) (ti 7) (ti 8) (ti 9) (ti 10) (tk 0) (tk 2) (tk 3) (qi 2) (qi 3) (qi 4) (qk 0) (qk 1) zf a1 a2
  have hl : lv_has ls 3 [(0, .ref x), (1, .int a1), (2, .int a2)] := hl
  refine lv_aload_n hx hb dX6_post_0 rfl (lv_at hl 0 rfl) ?_
  refine lv_iload_n hx hb dX6_post_1 rfl (lv_at hl 1 rfl) ?_
  have n1_ : fX6_isMan (ti 4) a1 ≠ none := fun z => hne (he.trans (xbd_none z))
  refine xci (va_runV (As := [.int a1]) (rest := []) ⟨hx, hb, hml, hown, hts⟩ (c_X6_isMan l D cI cP s.heap.size x xr xl xt xd tr ta ti tk a1 n1_) (cwV 1 hts gX6_post_X6_isMan rfl rfl rfl (by decide +kernel) ⟨Nat.le_of_ble_eq_true rfl, Nat.le_of_ble_eq_true rfl⟩) (xPV hN hK hP hD [0, 1, 2, 3, 4, 5, 6, 7, 8, 9] rfl (by decide) (ci := 6) (j := 0) rfl rfl) rfl rfl hl.1 rfl (lv_room (Nat.le_of_ble_eq_true rfl)) dX6_post_2 ⟨Nat.le_of_ble_eq_true rfl, Nat.le_of_ble_eq_true rfl⟩) hP hD hS hA [0, 1, 2, 3, 4, 5, 6, 7, 8, 9] rfl (fun _ => rfl) (fun r2 u2 H locs hw hP hD hS => ?_)
  have hP : va_P D vwCl ((wX x xr xl xt xd) ++ (wTold cI xt tr ta ti tk) ++ (wPass cI (xr 5) qr qa qi qk) ++ (wRow cI (xr 7) za 6 zf)) H := hP
  have hD : va_D A ((wX x xr xl xt xd) ++ (wTold cI xt tr ta ti tk) ++ (wPass cI (xr 5) qr qa qi qk) ++ (wRow cI (xr 7) za 6 zf)) := hD
  replace he := he.trans (xbd_some hw)
  refine lv_if_ne (tgt := 10) hx hb dX6_post_5 (by decide) (fun c2 => ?_) (fun c2 => ?_)
  · replace he := he.trans (if_neg c2)
    refine lv_iload_n hx hb dX6_post_10 rfl (lv_at hl 2 rfl) ?_
    by_cases k11_0 : a2 = (0 : Int32)
    · replace he := he.trans (if_pos k11_0)
      refine lv_tableIn hx hb dX6_post_11 (off := 25) (tgt := 36) (by rw [k11_0]; decide) (by rw [k11_0]; decide) (by rw [k11_0]; rfl) (by decide) ?_
      refine lv_aload_n hx hb dX6_post_36 rfl (lv_at hl 0 rfl) ?_
      refine va_get (D := D) (ci := 6) (v := .ref xt) (C := RX6) (T := TX6) (N := 12) hx hb hts hi_X6_post_6 hown hK hP 0 rfl rfl 10 (by decide) (hts (.fieldLink RX6 61 "BlindLanterns" "told" "LBlindLanterns$Told;") (List.mem_of_getElem? (i := 1) rfl)) (fun _ h9 => h9) rfl dX6_post_37 ?_
      refine va_getN (D := D) (ci := 5) (v := .ref (tr 0)) (C := RX5) (T := TX5) (N := 11) hx hb hts hi_X6_post_5 hown hK hP 1 rfl rfl 0 (by decide) (va_Nw.use rfl (hN (.fieldLinkNest RX6 122 "BlindLanterns$Told" "kinds" "LBlindLanterns$Row;" "BlindLanterns") (List.mem_of_getElem? (i := 12) rfl))) (fun _ h9 => h9) rfl dX6_post_40 ?_
      refine lv_iload_n hx hb dX6_post_43 rfl (lv_at hl 1 rfl) ?_
      have n3_ : fX3_get (tk 0) a1 6 ≠ none := fun z => hne (he.trans (xbd_none z))
      refine xci (va_runV (As := [.int a1]) (rest := []) ⟨hx, hb, hml, hown, hts⟩ (c_X3_get l D cI cP H.size (tr 0) (ta 0) 6 (tk 0) a1 n3_) (cwV 1 hts gX6_post_X3_get rfl rfl rfl (by decide +kernel) ⟨Nat.le_of_ble_eq_true rfl, Nat.le_of_ble_eq_true rfl⟩) (xPV hN hK hP hD [2, 3] rfl (by decide) (ci := 3) (j := 2) rfl rfl) rfl rfl hl.1 rfl (lv_room (Nat.le_of_ble_eq_true rfl)) dX6_post_44 ⟨Nat.le_of_ble_eq_true rfl, Nat.le_of_ble_eq_true rfl⟩) hP hD hS hA [2, 3] rfl (fun _ => rfl) (fun r44 u44 H locs hw hP hD hS => ?_)
      have hP : va_P D vwCl ((wX x xr xl xt xd) ++ (wTold cI xt tr ta ti tk) ++ (wPass cI (xr 5) qr qa qi qk) ++ (wRow cI (xr 7) za 6 zf)) H := hP
      have hD : va_D A ((wX x xr xl xt xd) ++ (wTold cI xt tr ta ti tk) ++ (wPass cI (xr 5) qr qa qi qk) ++ (wRow cI (xr 7) za 6 zf)) := hD
      replace he := he.trans (xbd_some hw)
      exact hret r44 zf _ _ _ _ dX6_post_47 he hP hD hS
    replace he := he.trans (if_neg k11_0)
    by_cases k11_1 : a2 = (1 : Int32)
    · replace he := he.trans (if_pos k11_1)
      refine lv_tableIn hx hb dX6_post_11 (off := 37) (tgt := 48) (by rw [k11_1]; decide) (by rw [k11_1]; decide) (by rw [k11_1]; rfl) (by decide) ?_
      refine lv_aload_n hx hb dX6_post_48 rfl (lv_at hl 0 rfl) ?_
      refine va_get (D := D) (ci := 6) (v := .ref (xr 5)) (C := RX6) (T := TX6) (N := 12) hx hb hts hi_X6_post_6 hown hK hP 0 rfl rfl 5 (by decide) (hts (.fieldLink RX6 45 "BlindLanterns" "pass" "LBlindLanterns$Pass;") (List.mem_of_getElem? (i := 2) rfl)) (fun _ h9 => h9) rfl dX6_post_49 ?_
      refine lv_iload_n hx hb dX6_post_52 rfl (lv_at hl 1 rfl) ?_
      have n4_ : fX1_lanternAt F (qi 2) (qk 0) a1 ≠ none := fun z => hne (he.trans (xbd_none z))
      refine xci (va_runV (As := [.int a1]) (rest := []) ⟨hx, hb, hml, hown, hts⟩ (c_X1_lanternAt l D cI cP H.size (xr 5) qr qa qi qk F a1 n4_) (cwV 1 hts gX6_post_X1_lanternAt rfl rfl rfl (by decide +kernel) ⟨Nat.le_of_ble_eq_true rfl, Nat.le_of_ble_eq_true rfl⟩) (xPV hN hK hP hD [10, 11, 12, 13, 14] rfl (by decide) (ci := 1) (j := 10) rfl rfl) rfl rfl hl.1 rfl (lv_room (Nat.le_of_ble_eq_true rfl)) dX6_post_53 ⟨Nat.le_of_ble_eq_true rfl, Nat.le_of_ble_eq_true rfl⟩) hP hD hS hA [10, 11, 12, 13, 14] rfl (fun _ => rfl) (fun r53 u53 H locs hw hP hD hS => ?_)
      have hP : va_P D vwCl ((wX x xr xl xt xd) ++ (wTold cI xt tr ta ti tk) ++ (wPass cI (xr 5) qr qa qi qk) ++ (wRow cI (xr 7) za 6 zf)) H := hP
      have hD : va_D A ((wX x xr xl xt xd) ++ (wTold cI xt tr ta ti tk) ++ (wPass cI (xr 5) qr qa qi qk) ++ (wRow cI (xr 7) za 6 zf)) := hD
      replace he := he.trans (xbd_some hw)
      exact hret r53 zf _ _ _ _ dX6_post_56 he hP hD hS
    replace he := he.trans (if_neg k11_1)
    by_cases k11_2 : a2 = (2 : Int32)
    · replace he := he.trans (if_pos k11_2)
      refine lv_tableIn hx hb dX6_post_11 (off := 46) (tgt := 57) (by rw [k11_2]; decide) (by rw [k11_2]; decide) (by rw [k11_2]; rfl) (by decide) ?_
      refine lv_aload_n hx hb dX6_post_57 rfl (lv_at hl 0 rfl) ?_
      refine lv_iconst (v := 0) hx hb dX6_post_58 (by decide) ?_
      refine lv_iload_n hx hb dX6_post_59 rfl (lv_at hl 1 rfl) ?_
      have n5_ : fX6_warm F (ti 4) (ti 7) (ti 8) (ti 9) (ti 10) (tk 0) (tk 2) (tk 3) (qi 2) (qi 3) (qi 4) (qk 0) (qk 1) zf (0 : Int32) a1 ≠ none := fun z => hne (he.trans (xbd2_none z))
      refine xci (va_runV (As := [.int (0 : Int32), .int a1]) (rest := []) ⟨hx, hb, hml, hown, hts⟩ (c_X6_warm l D cI cP H.size x xr xl xt xd tr ta ti tk qr qa qi qk za zf F (0 : Int32) a1 n5_) (cwV 2 hts gX6_post_X6_warm rfl rfl rfl (by decide +kernel) ⟨Nat.le_of_ble_eq_true rfl, Nat.le_of_ble_eq_true rfl⟩) (xPV hN hK hP hD [0, 1, 2, 3, 4, 5, 6, 7, 8, 9, 10, 11, 12, 13, 14, 15, 16] rfl (by decide) (ci := 6) (j := 0) rfl rfl) rfl rfl hl.1 rfl (lv_room (Nat.le_of_ble_eq_true rfl)) dX6_post_60 ⟨Nat.le_of_ble_eq_true rfl, Nat.le_of_ble_eq_true rfl⟩) hP hD hS hA [0, 1, 2, 3, 4, 5, 6, 7, 8, 9, 10, 11, 12, 13, 14, 15, 16] rfl (fun _ => rfl) (fun r60 u60 H locs hw hP hD hS => ?_)
      have hP : va_P D vwCl ((wX x xr xl xt xd) ++ (wTold cI xt tr ta ti tk) ++ (wPass cI (xr 5) qr qa qi qk) ++ (wRow cI (xr 7) za 6 u60)) H := hP
      have hD : va_D A ((wX x xr xl xt xd) ++ (wTold cI xt tr ta ti tk) ++ (wPass cI (xr 5) qr qa qi qk) ++ (wRow cI (xr 7) za 6 u60)) := hD
      replace he := he.trans (xbd2_some hw)
      exact hret r60 u60 _ _ _ _ dX6_post_63 he hP hD hS
    replace he := he.trans (if_neg k11_2)
    have t11_0 := lv_neT (a := 0) k11_0 rfl
    have t11_1 := lv_neT (a := 1) k11_1 rfl
    have t11_2 := lv_neT (a := 2) k11_2 rfl
    refine lv_tableOut hx hb dX6_post_11 (tgt := 64) (by omega) (by decide) ?_
    refine lv_iconst (v := -1) hx hb dX6_post_64 (by decide) ?_
    exact hret (-1 : Int32) zf _ _ _ _ dX6_post_65 he hP hD hS
  · replace he := he.trans (if_pos c2)
    refine lv_iconst (v := -1) hx hb dX6_post_8 (by decide) ?_
    exact hret (-1 : Int32) zf _ _ _ _ dX6_post_9 he hP hD hS

def fX6_dark_L31 (ti_4 : Int32) (ti_7 : Int32) (qi_2 : Int32) (qi_3 : Int32) (qk_0 : Nat → Int32) (qk_1 : Nat → Int32) (a1 : Int32) (F : Nat) (u24 : (Nat → Int32)) (k31 : Int32 → Int32 → Option (Int32 × (Nat → Int32))) : Nat → Int32 → Int32 → Option (Int32 × (Nat → Int32))
  | 0, _, _ => none
  | n31 + 1, v31_3, v31_2 => if ti_4 ≤ v31_3 then (k31 v31_3 v31_2) else (xbd (fX6_isLitBehind F ti_4 ti_7 qi_2 qi_3 qk_0 qk_1 u24 a1 v31_3) (fun (r45 : Int32) => if r45 = 0 then (fX6_dark_L31 ti_4 ti_7 qi_2 qi_3 qk_0 qk_1 a1 F u24 k31 n31 (v31_3 + 1) (v31_2 ||| ((1 : Int32) <<< (v31_3 &&& 31)))) else (fX6_dark_L31 ti_4 ti_7 qi_2 qi_3 qk_0 qk_1 a1 F u24 k31 n31 (v31_3 + 1) v31_2)))
def fX6_dark (F : Nat) (ti_4 : Int32) (ti_7 : Int32) (ti_8 : Int32) (tk_2 : Nat → Int32) (tk_3 : Nat → Int32) (qi_2 : Int32) (qi_3 : Int32) (qi_4 : Int32) (qk_0 : Nat → Int32) (qk_1 : Nat → Int32) (zf : Nat → Int32) (a1 : Int32) : Option (Int32 × (Nat → Int32)) :=
  xbd (fX6_isLastBell a1) (fun (r1 : Int32) => if r1 = 0 then (some ((-1 : Int32), zf)) else (xbd (fX5_reckonDraughts F ti_4 ti_7 ti_8 tk_2 tk_3 zf qi_4 6) (fun (u24 : (Nat → Int32)) => fX6_dark_L31 ti_4 ti_7 qi_2 qi_3 qk_0 qk_1 a1 F u24 (fun (v31_3 : Int32) (v31_2 : Int32) => some (v31_2, u24)) F (0 : Int32) (0 : Int32))))
theorem hi_X6_dark_1 : ∀ w ∈ wsX10, w ∈ wsX6_dark := fun _ h => (List.mem_cons_of_mem _ (List.mem_append_left _ (List.mem_append_left _ (List.mem_append_right _ h))))
theorem hi_X6_dark_5 : ∀ w ∈ wsX50, w ∈ wsX6_dark := fun _ h => (List.mem_cons_of_mem _ (List.mem_append_left _ (List.mem_append_right _ h)))
theorem hi_X6_dark_6 : ∀ w ∈ wsX60, w ∈ wsX6_dark := fun _ h => (List.mem_cons_of_mem _ (List.mem_append_left _ (List.mem_append_left _ (List.mem_append_left _ (List.mem_append_right _ h)))))
set_option maxHeartbeats 4000000 in
set_option maxRecDepth 100000 in
theorem c_X6_dark (l : Launch) (D : va_G) (cI cP : ClassId) (sz : Nat) (x : Nat) (xr : Nat → Nat) (xl : Int32) (xt : Nat) (xd : Nat) (tr : Nat → Nat) (ta : Nat → Nat) (ti : Nat → Int32) (tk : Nat → Nat → Int32) (qr : Nat → Nat) (qa : Nat → Nat) (qi : Nat → Int32) (qk : Nat → Nat → Int32) (za : Nat) (zf : Nat → Int32) (F : Nat) (a1 : Int32) (hne : fX6_dark F (ti 4) (ti 7) (ti 8) (tk 2) (tk 3) (qi 2) (qi 3) (qi 4) (qk 0) (qk 1) zf a1 ≠ none) : xMi l yX6_dark wsX6_dark ({ frames := 4, cells := 0, slots := 0, locals := 90 } : Room) D (xT cI cP) [.ref x, .int a1] ((wX x xr xl xt xd) ++ (wTold cI xt tr ta ti tk) ++ (wPass cI (xr 5) qr qa qi qk) ++ (wRow cI (xr 7) za 6 zf)) sz (fun r (u : ((Nat → Int32))) => fX6_dark F (ti 4) (ti 7) (ti 8) (tk 2) (tk 3) (qi 2) (qi 3) (qi 4) (qk 0) (qk 1) zf a1 = some (r, u)) (fun u => (wX x xr xl xt xd) ++ (wTold cI xt tr ta ti tk) ++ (wPass cI (xr 5) qr qa qi qk) ++ (wRow cI (xr 7) za 6 u)) 0 0 := by
  refine xMi_of (cc := cX6_dark) (maxL := 4) (by decide +kernel) rfl (Nat.le_of_ble_eq_true rfl) ?_
  intro p e s m args below meth c A ls hx hb hml hown hts hname hN hK hA hP hD hS hl Q hret
  have he := fX6_dark.eq_1 F (ti 4) (ti 7) (ti 8) (tk 2) (tk 3) (qi 2) (qi 3) (qi 4) (qk 0) (qk 1) zf a1
  have hl : lv_has ls 4 [(0, .ref x), (1, .int a1)] := hl
  have R31_0 : ∀ (u24 : (Nat → Int32)) (v31_3 : Int32) (v31_2 : Int32), fX6_dark F (ti 4) (ti 7) (ti 8) (tk 2) (tk 3) (qi 2) (qi 3) (qi 4) (qk 0) (qk 1) zf a1 = (some (v31_2, u24)) → ∀ (H : Heap) (locs : List Loc) (ls : Array Slot), va_P D vwCl ((wX x xr xl xt xd) ++ (wTold cI xt tr ta ti tk) ++ (wPass cI (xr 5) qr qa qi qk) ++ (wRow cI (xr 7) za 6 u24)) H → va_D A ((wX x xr xl xt xd) ++ (wTold cI xt tr ta ti tk) ++ (wPass cI (xr 5) qr qa qi qk) ++ (wRow cI (xr 7) za 6 u24)) → va_S A s.heap H locs → lv_has ls 4 [(2, .int v31_2)] → W p l e ({ frames := 4, cells := 0, slots := 0, locals := 90 } : Room) s m args below meth c H locs 0 0 Q (F0 m 63 ls []) := by
    intro u24 v31_3 v31_2 he H locs ls hP hD hS hl
    refine lv_iload_n hx hb dX6_dark_63 rfl (lv_at hl 0 rfl) ?_
    exact hret v31_2 u24 _ _ _ _ dX6_dark_64 he hP hD hS
  have L31_4 : ∀ (u24 : (Nat → Int32)) (n31 : Nat) (v31_3 : Int32) (v31_2 : Int32), fX6_dark F (ti 4) (ti 7) (ti 8) (tk 2) (tk 3) (qi 2) (qi 3) (qi 4) (qk 0) (qk 1) zf a1 = fX6_dark_L31 (ti 4) (ti 7) (qi 2) (qi 3) (qk 0) (qk 1) a1 F u24 (fun (v31_3 : Int32) (v31_2 : Int32) => some (v31_2, u24)) n31 v31_3 v31_2 → ∀ (H : Heap) (locs : List Loc) (ls : Array Slot), va_P D vwCl ((wX x xr xl xt xd) ++ (wTold cI xt tr ta ti tk) ++ (wPass cI (xr 5) qr qa qi qk) ++ (wRow cI (xr 7) za 6 u24)) H → va_D A ((wX x xr xl xt xd) ++ (wTold cI xt tr ta ti tk) ++ (wPass cI (xr 5) qr qa qi qk) ++ (wRow cI (xr 7) za 6 u24)) → va_S A s.heap H locs → lv_has ls 4 [(3, .int v31_3), (2, .int v31_2), (0, .ref x), (1, .int a1)] → W p l e ({ frames := 4, cells := 0, slots := 0, locals := 90 } : Room) s m args below meth c H locs 0 0 Q (F0 m 31 ls []) := by
    intro u24 n31
    induction n31 with
    | zero => intro v31_3 v31_2 he; exact absurd he hne
    | succ n31 ih31 =>
      intro v31_3 v31_2 he H locs ls hP hD hS hl
      replace he := he.trans (fX6_dark_L31.eq_2 _ _ _ _ _ _ _ _ _ _ _ _ _)
      refine lv_iload_n hx hb dX6_dark_31 rfl (lv_at hl 0 rfl) ?_
      refine lv_aload_n hx hb dX6_dark_32 rfl (lv_at hl 2 rfl) ?_
      refine va_get (D := D) (ci := 6) (v := .ref xt) (C := RX6) (T := TX6) (N := 12) hx hb hts hi_X6_dark_6 hown hK hP 0 rfl rfl 10 (by decide) (hts (.fieldLink RX6 61 "BlindLanterns" "told" "LBlindLanterns$Told;") (List.mem_of_getElem? (i := 1) rfl)) (fun _ h9 => h9) rfl dX6_dark_33 ?_
      refine va_getN (D := D) (ci := 5) (v := .int (ti 4)) (C := RX5) (T := TX5) (N := 11) hx hb hts hi_X6_dark_5 hown hK hP 1 rfl rfl 4 (by decide) (va_Nw.use rfl (hN (.fieldLinkNest RX6 100 "BlindLanterns$Told" "men" "I" "BlindLanterns") (List.mem_of_getElem? (i := 15) rfl))) (fun _ h9 => h9) rfl dX6_dark_36 ?_
      refine lv_icmp_ge (tgt := 63) hx hb dX6_dark_39 (by decide) (fun c4 => ?_) (fun c4 => ?_)
      · replace he := he.trans (if_pos c4)
        exact R31_0 u24 v31_3 v31_2 he _ _ _ hP hD hS (lv_sub hl [1] rfl)
      · replace he := he.trans (if_neg c4)
        refine lv_aload_n hx hb dX6_dark_42 rfl (lv_at hl 2 rfl) ?_
        refine lv_iload_n hx hb dX6_dark_43 rfl (lv_at hl 3 rfl) ?_
        refine lv_iload_n hx hb dX6_dark_44 rfl (lv_at hl 0 rfl) ?_
        have n5_ : fX6_isLitBehind F (ti 4) (ti 7) (qi 2) (qi 3) (qk 0) (qk 1) u24 a1 v31_3 ≠ none := fun z => hne (he.trans (xbd_none z))
        refine xci (va_runV (As := [.int a1, .int v31_3]) (rest := []) ⟨hx, hb, hml, hown, hts⟩ (c_X6_isLitBehind l D cI cP H.size x xr xl xt xd tr ta ti tk qr qa qi qk za u24 F a1 v31_3 n5_) (cwV 2 hts gX6_dark_X6_isLitBehind rfl rfl rfl (by decide +kernel) ⟨Nat.le_of_ble_eq_true rfl, Nat.le_of_ble_eq_true rfl⟩) (xPV hN hK hP hD [0, 1, 2, 3, 4, 5, 6, 7, 8, 9, 10, 11, 12, 13, 14, 15, 16] rfl (by decide) (ci := 6) (j := 0) rfl rfl) rfl rfl hl.1 rfl (lv_room (Nat.le_of_ble_eq_true rfl)) dX6_dark_45 ⟨Nat.le_of_ble_eq_true rfl, Nat.le_of_ble_eq_true rfl⟩) hP hD hS hA [0, 1, 2, 3, 4, 5, 6, 7, 8, 9, 10, 11, 12, 13, 14, 15, 16] rfl (fun _ => rfl) (fun r45 u45 H locs hw hP hD hS => ?_)
        have hP : va_P D vwCl ((wX x xr xl xt xd) ++ (wTold cI xt tr ta ti tk) ++ (wPass cI (xr 5) qr qa qi qk) ++ (wRow cI (xr 7) za 6 u24)) H := hP
        have hD : va_D A ((wX x xr xl xt xd) ++ (wTold cI xt tr ta ti tk) ++ (wPass cI (xr 5) qr qa qi qk) ++ (wRow cI (xr 7) za 6 u24)) := hD
        replace he := he.trans (xbd_some hw)
        refine lv_if_ne (tgt := 57) hx hb dX6_dark_48 (by decide) (fun c6 => ?_) (fun c6 => ?_)
        · replace he := he.trans (if_neg c6)
          refine lv_iinc (v := (v31_3 + 1)) (lv' := [(3, .int (v31_3 + 1)), (2, .int v31_2), (0, .ref x), (1, .int a1)]) hx hb dX6_dark_57 hl (k := 0) rfl rfl (by decide) rfl (fun ls hl => ?_)
          refine lv_goto (tgt := 31) hx hb dX6_dark_60 (by decide) ?_
          exact ih31 (v31_3 + 1) v31_2 he _ _ _ hP hD hS (lv_sub hl [0, 1, 2, 3] rfl)
        · replace he := he.trans (if_pos c6)
          refine lv_iload_n hx hb dX6_dark_51 rfl (lv_at hl 1 rfl) ?_
          refine lv_iconst (v := 1) hx hb dX6_dark_52 (by decide) ?_
          refine lv_iload_n hx hb dX6_dark_53 rfl (lv_at hl 0 rfl) ?_
          refine lv_ishl hx hb dX6_dark_54 ?_
          refine lv_ior hx hb dX6_dark_55 ?_
          refine lv_istore_n (lv' := [(2, .int (v31_2 ||| ((1 : Int32) <<< (v31_3 &&& 31)))), (3, .int v31_3), (0, .ref x), (1, .int a1)]) hx hb dX6_dark_56 rfl hl (by decide) rfl (fun ls hl => ?_)
          refine lv_iinc (v := (v31_3 + 1)) (lv' := [(3, .int (v31_3 + 1)), (2, .int (v31_2 ||| ((1 : Int32) <<< (v31_3 &&& 31)))), (0, .ref x), (1, .int a1)]) hx hb dX6_dark_57 hl (k := 1) rfl rfl (by decide) rfl (fun ls hl => ?_)
          refine lv_goto (tgt := 31) hx hb dX6_dark_60 (by decide) ?_
          exact ih31 (v31_3 + 1) (v31_2 ||| ((1 : Int32) <<< (v31_3 &&& 31))) he _ _ _ hP hD hS (lv_sub hl [0, 1, 2, 3] rfl)
  refine lv_iload_n hx hb dX6_dark_0 rfl (lv_at hl 1 rfl) ?_
  have n1_ : fX6_isLastBell a1 ≠ none := fun z => hne (he.trans (xbd_none z))
  refine xci (va_runS (As := [.int a1]) (rest := []) ⟨hx, hb, hml, hown, hts⟩ (c_X6_isLastBell l D cI cP s.heap.size  a1 n1_) (va_cwS 1 hts gX6_dark_X6_isLastBell rfl rfl rfl (by decide +kernel) ⟨Nat.le_of_ble_eq_true rfl, Nat.le_of_ble_eq_true rfl⟩) (xPS hN hK hP hD [] rfl (by decide)) rfl rfl hl.1 rfl (lv_room (Nat.le_of_ble_eq_true rfl)) dX6_dark_1 ⟨Nat.le_of_ble_eq_true rfl, Nat.le_of_ble_eq_true rfl⟩) hP hD hS hA [] rfl (fun _ => rfl) (fun r1 u1 H locs hw hP hD hS => ?_)
  have hP : va_P D vwCl ((wX x xr xl xt xd) ++ (wTold cI xt tr ta ti tk) ++ (wPass cI (xr 5) qr qa qi qk) ++ (wRow cI (xr 7) za 6 zf)) H := hP
  have hD : va_D A ((wX x xr xl xt xd) ++ (wTold cI xt tr ta ti tk) ++ (wPass cI (xr 5) qr qa qi qk) ++ (wRow cI (xr 7) za 6 zf)) := hD
  replace he := he.trans (xbd_some hw)
  refine lv_if_ne (tgt := 9) hx hb dX6_dark_4 (by decide) (fun c2 => ?_) (fun c2 => ?_)
  · replace he := he.trans (if_neg c2)
    refine lv_aload_n hx hb dX6_dark_9 rfl (lv_at hl 0 rfl) ?_
    refine va_get (D := D) (ci := 6) (v := .ref xt) (C := RX6) (T := TX6) (N := 12) hx hb hts hi_X6_dark_6 hown hK hP 0 rfl rfl 10 (by decide) (hts (.fieldLink RX6 61 "BlindLanterns" "told" "LBlindLanterns$Told;") (List.mem_of_getElem? (i := 1) rfl)) (fun _ h9 => h9) rfl dX6_dark_10 ?_
    refine lv_aload_n hx hb dX6_dark_13 rfl (lv_at hl 0 rfl) ?_
    refine va_get (D := D) (ci := 6) (v := .ref (xr 5)) (C := RX6) (T := TX6) (N := 12) hx hb hts hi_X6_dark_6 hown hK hP 0 rfl rfl 5 (by decide) (hts (.fieldLink RX6 45 "BlindLanterns" "pass" "LBlindLanterns$Pass;") (List.mem_of_getElem? (i := 2) rfl)) (fun _ h9 => h9) rfl dX6_dark_14 ?_
    refine va_getN (D := D) (ci := 1) (v := .int (qi 4)) (C := RX1) (T := TX1) (N := 5) hx hb hts hi_X6_dark_1 hown hK hP 10 rfl rfl 4 (by decide) (va_Nw.use rfl (hN (.fieldLinkNest RX6 143 "BlindLanterns$Pass" "bell" "I" "BlindLanterns") (List.mem_of_getElem? (i := 7) rfl))) (fun _ h9 => h9) rfl dX6_dark_17 ?_
    refine lv_aload_n hx hb dX6_dark_20 rfl (lv_at hl 0 rfl) ?_
    refine va_get (D := D) (ci := 6) (v := .ref (xr 7)) (C := RX6) (T := TX6) (N := 12) hx hb hts hi_X6_dark_6 hown hK hP 0 rfl rfl 7 (by decide) (hts (.fieldLink RX6 52 "BlindLanterns" "draughtIn" "LBlindLanterns$Row;") (List.mem_of_getElem? (i := 3) rfl)) (fun _ h9 => h9) rfl dX6_dark_21 ?_
    have n3_ : fX5_reckonDraughts F (ti 4) (ti 7) (ti 8) (tk 2) (tk 3) zf (qi 4) 6 ≠ none := fun z => hne (he.trans (xbd_none z))
    refine xcv (va_runV (As := [.int (qi 4), .ref (xr 7)]) (rest := []) ⟨hx, hb, hml, hown, hts⟩ (c_X5_reckonDraughts l D cI cP H.size xt tr ta ti tk (xr 7) za 6 zf F (qi 4) n3_) (cwV 2 hts gX6_dark_X5_reckonDraughts rfl rfl rfl (by decide +kernel) ⟨Nat.le_of_ble_eq_true rfl, Nat.le_of_ble_eq_true rfl⟩) (xPV hN hK hP hD [1, 2, 3, 4, 5, 6, 7, 8, 9, 15, 16] rfl (by decide) (ci := 5) (j := 1) rfl rfl) rfl rfl hl.1 rfl (lv_room (Nat.le_of_ble_eq_true rfl)) dX6_dark_24 ⟨Nat.le_of_ble_eq_true rfl, Nat.le_of_ble_eq_true rfl⟩) hP hD hS hA [1, 2, 3, 4, 5, 6, 7, 8, 9, 15, 16] rfl (fun _ => rfl) (fun u24 H locs hw hP hD hS => ?_)
    have hP : va_P D vwCl ((wX x xr xl xt xd) ++ (wTold cI xt tr ta ti tk) ++ (wPass cI (xr 5) qr qa qi qk) ++ (wRow cI (xr 7) za 6 u24)) H := hP
    have hD : va_D A ((wX x xr xl xt xd) ++ (wTold cI xt tr ta ti tk) ++ (wPass cI (xr 5) qr qa qi qk) ++ (wRow cI (xr 7) za 6 u24)) := hD
    replace he := he.trans (xbd_some hw)
    refine lv_iconst (v := 0) hx hb dX6_dark_27 (by decide) ?_
    refine lv_istore_n (lv' := [(2, .int (0 : Int32)), (0, .ref x), (1, .int a1)]) hx hb dX6_dark_28 rfl hl (by decide) rfl (fun ls hl => ?_)
    refine lv_iconst (v := 0) hx hb dX6_dark_29 (by decide) ?_
    refine lv_istore_n (lv' := [(3, .int (0 : Int32)), (2, .int (0 : Int32)), (0, .ref x), (1, .int a1)]) hx hb dX6_dark_30 rfl hl (by decide) rfl (fun ls hl => ?_)
    exact L31_4 u24 F (0 : Int32) (0 : Int32) he _ _ _ hP hD hS (lv_sub hl [0, 1, 2, 3] rfl)
  · replace he := he.trans (if_pos c2)
    refine lv_iconst (v := -1) hx hb dX6_dark_7 (by decide) ?_
    exact hret (-1 : Int32) zf _ _ _ _ dX6_dark_8 he hP hD hS

def fX6_walk_L40 (ti_4 : Int32) (ti_7 : Int32) (qi_2 : Int32) (qi_3 : Int32) (qk_0 : Nat → Int32) (qk_1 : Nat → Int32) (a1 : Int32) (a2 : Int32) (F : Nat) (u32 : (Nat → Int32)) (k40 : Int32 → Int32 → Option (Int32 × (Nat → Int32))) : Nat → Int32 → Int32 → Option (Int32 × (Nat → Int32))
  | 0, _, _ => none
  | n40 + 1, v40_4, v40_3 => if a2 < v40_4 then (k40 v40_4 v40_3) else (xbd (fX5_round ti_4 (a1 + v40_4)) (fun (r57 : Int32) => xbd (fX6_isLitBehind F ti_4 ti_7 qi_2 qi_3 qk_0 qk_1 u32 v40_4 r57) (fun (r60 : Int32) => if r60 = 0 then (fX6_walk_L40 ti_4 ti_7 qi_2 qi_3 qk_0 qk_1 a1 a2 F u32 k40 n40 (v40_4 + 1) v40_3) else (fX6_walk_L40 ti_4 ti_7 qi_2 qi_3 qk_0 qk_1 a1 a2 F u32 k40 n40 (v40_4 + 1) (v40_3 + 1)))))
def fX6_walk (F : Nat) (ti_4 : Int32) (ti_7 : Int32) (ti_8 : Int32) (tk_2 : Nat → Int32) (tk_3 : Nat → Int32) (qi_2 : Int32) (qi_3 : Int32) (qi_4 : Int32) (qk_0 : Nat → Int32) (qk_1 : Nat → Int32) (zf : Nat → Int32) (a1 : Int32) (a2 : Int32) : Option (Int32 × (Nat → Int32)) :=
  xbd (fX6_isMan ti_4 a1) (fun (r2 : Int32) => if r2 = 0 then (some ((-1 : Int32), zf)) else (xbd (fX6_isLastBell a2) (fun (r9 : Int32) => if r9 = 0 then (some ((-1 : Int32), zf)) else (xbd (fX5_reckonDraughts F ti_4 ti_7 ti_8 tk_2 tk_3 zf qi_4 6) (fun (u32 : (Nat → Int32)) => fX6_walk_L40 ti_4 ti_7 qi_2 qi_3 qk_0 qk_1 a1 a2 F u32 (fun (v40_4 : Int32) (v40_3 : Int32) => some (v40_3, u32)) F (0 : Int32) (0 : Int32))))))
theorem hi_X6_walk_1 : ∀ w ∈ wsX10, w ∈ wsX6_walk := fun _ h => (List.mem_cons_of_mem _ (List.mem_append_left _ (List.mem_append_left _ (List.mem_append_right _ h))))
theorem hi_X6_walk_6 : ∀ w ∈ wsX60, w ∈ wsX6_walk := fun _ h => (List.mem_cons_of_mem _ (List.mem_append_left _ (List.mem_append_left _ (List.mem_append_left _ (List.mem_append_right _ h)))))
set_option maxHeartbeats 4000000 in
set_option maxRecDepth 100000 in
theorem c_X6_walk (l : Launch) (D : va_G) (cI cP : ClassId) (sz : Nat) (x : Nat) (xr : Nat → Nat) (xl : Int32) (xt : Nat) (xd : Nat) (tr : Nat → Nat) (ta : Nat → Nat) (ti : Nat → Int32) (tk : Nat → Nat → Int32) (qr : Nat → Nat) (qa : Nat → Nat) (qi : Nat → Int32) (qk : Nat → Nat → Int32) (za : Nat) (zf : Nat → Int32) (F : Nat) (a1 : Int32) (a2 : Int32) (hne : fX6_walk F (ti 4) (ti 7) (ti 8) (tk 2) (tk 3) (qi 2) (qi 3) (qi 4) (qk 0) (qk 1) zf a1 a2 ≠ none) : xMi l yX6_walk wsX6_walk ({ frames := 4, cells := 0, slots := 0, locals := 90 } : Room) D (xT cI cP) [.ref x, .int a1, .int a2] ((wX x xr xl xt xd) ++ (wTold cI xt tr ta ti tk) ++ (wPass cI (xr 5) qr qa qi qk) ++ (wRow cI (xr 7) za 6 zf)) sz (fun r (u : ((Nat → Int32))) => fX6_walk F (ti 4) (ti 7) (ti 8) (tk 2) (tk 3) (qi 2) (qi 3) (qi 4) (qk 0) (qk 1) zf a1 a2 = some (r, u)) (fun u => (wX x xr xl xt xd) ++ (wTold cI xt tr ta ti tk) ++ (wPass cI (xr 5) qr qa qi qk) ++ (wRow cI (xr 7) za 6 u)) 0 0 := by
  refine xMi_of (cc := cX6_walk) (maxL := 5) (by decide +kernel) rfl (Nat.le_of_ble_eq_true rfl) ?_
  intro p e s m args below meth c A ls hx hb hml hown hts hname hN hK hA hP hD hS hl Q hret
  have he := fX6_walk.eq_1 F (ti 4) (ti 7) (ti 8) (tk 2) (tk 3) (qi 2) (qi 3) (qi 4) (qk 0) (qk 1) zf a1 a2
  have hl : lv_has ls 5 [(0, .ref x), (1, .int a1), (2, .int a2)] := hl
  have R40_0 : ∀ (u32 : (Nat → Int32)) (v40_4 : Int32) (v40_3 : Int32), fX6_walk F (ti 4) (ti 7) (ti 8) (tk 2) (tk 3) (qi 2) (qi 3) (qi 4) (qk 0) (qk 1) zf a1 a2 = (some (v40_3, u32)) → ∀ (H : Heap) (locs : List Loc) (ls : Array Slot), va_P D vwCl ((wX x xr xl xt xd) ++ (wTold cI xt tr ta ti tk) ++ (wPass cI (xr 5) qr qa qi qk) ++ (wRow cI (xr 7) za 6 u32)) H → va_D A ((wX x xr xl xt xd) ++ (wTold cI xt tr ta ti tk) ++ (wPass cI (xr 5) qr qa qi qk) ++ (wRow cI (xr 7) za 6 u32)) → va_S A s.heap H locs → lv_has ls 5 [(3, .int v40_3)] → W p l e ({ frames := 4, cells := 0, slots := 0, locals := 90 } : Room) s m args below meth c H locs 0 0 Q (F0 m 75 ls []) := by
    intro u32 v40_4 v40_3 he H locs ls hP hD hS hl
    refine lv_iload_n hx hb dX6_walk_75 rfl (lv_at hl 0 rfl) ?_
    exact hret v40_3 u32 _ _ _ _ dX6_walk_76 he hP hD hS
  have L40_4 : ∀ (u32 : (Nat → Int32)) (n40 : Nat) (v40_4 : Int32) (v40_3 : Int32), fX6_walk F (ti 4) (ti 7) (ti 8) (tk 2) (tk 3) (qi 2) (qi 3) (qi 4) (qk 0) (qk 1) zf a1 a2 = fX6_walk_L40 (ti 4) (ti 7) (qi 2) (qi 3) (qk 0) (qk 1) a1 a2 F u32 (fun (v40_4 : Int32) (v40_3 : Int32) => some (v40_3, u32)) n40 v40_4 v40_3 → ∀ (H : Heap) (locs : List Loc) (ls : Array Slot), va_P D vwCl ((wX x xr xl xt xd) ++ (wTold cI xt tr ta ti tk) ++ (wPass cI (xr 5) qr qa qi qk) ++ (wRow cI (xr 7) za 6 u32)) H → va_D A ((wX x xr xl xt xd) ++ (wTold cI xt tr ta ti tk) ++ (wPass cI (xr 5) qr qa qi qk) ++ (wRow cI (xr 7) za 6 u32)) → va_S A s.heap H locs → lv_has ls 5 [(4, .int v40_4), (3, .int v40_3), (0, .ref x), (1, .int a1), (2, .int a2)] → W p l e ({ frames := 4, cells := 0, slots := 0, locals := 90 } : Room) s m args below meth c H locs 0 0 Q (F0 m 40 ls []) := by
    intro u32 n40
    induction n40 with
    | zero => intro v40_4 v40_3 he; exact absurd he hne
    | succ n40 ih40 =>
      intro v40_4 v40_3 he H locs ls hP hD hS hl
      replace he := he.trans (fX6_walk_L40.eq_2 _ _ _ _ _ _ _ _ _ _ _ _ _ _)
      refine lv_iload hx hb dX6_walk_40 (lv_at hl 0 rfl) ?_
      refine lv_iload_n hx hb dX6_walk_42 rfl (lv_at hl 4 rfl) ?_
      refine lv_icmp_gt (tgt := 75) hx hb dX6_walk_43 (by decide) (fun c6 => ?_) (fun c6 => ?_)
      · replace he := he.trans (if_pos c6)
        exact R40_0 u32 v40_4 v40_3 he _ _ _ hP hD hS (lv_sub hl [1] rfl)
      · replace he := he.trans (if_neg c6)
        refine lv_aload_n hx hb dX6_walk_46 rfl (lv_at hl 2 rfl) ?_
        refine lv_iload hx hb dX6_walk_47 (lv_at hl 0 rfl) ?_
        refine lv_aload_n hx hb dX6_walk_49 rfl (lv_at hl 2 rfl) ?_
        refine va_get (D := D) (ci := 6) (v := .ref xt) (C := RX6) (T := TX6) (N := 12) hx hb hts hi_X6_walk_6 hown hK hP 0 rfl rfl 10 (by decide) (hts (.fieldLink RX6 61 "BlindLanterns" "told" "LBlindLanterns$Told;") (List.mem_of_getElem? (i := 1) rfl)) (fun _ h9 => h9) rfl dX6_walk_50 ?_
        refine lv_iload_n hx hb dX6_walk_53 rfl (lv_at hl 3 rfl) ?_
        refine lv_iload hx hb dX6_walk_54 (lv_at hl 0 rfl) ?_
        refine lv_iadd hx hb dX6_walk_56 ?_
        have n7_ : fX5_round (ti 4) (a1 + v40_4) ≠ none := fun z => hne (he.trans (xbd_none z))
        refine xci (va_runV (As := [.int (a1 + v40_4)]) (rest := [.int v40_4, .ref x]) ⟨hx, hb, hml, hown, hts⟩ (c_X5_round l D cI cP H.size xt tr ta ti tk (a1 + v40_4) n7_) (cwV 1 hts gX6_walk_X5_round rfl rfl rfl (by decide +kernel) ⟨Nat.le_of_ble_eq_true rfl, Nat.le_of_ble_eq_true rfl⟩) (xPV hN hK hP hD [1, 2, 3, 4, 5, 6, 7, 8, 9] rfl (by decide) (ci := 5) (j := 1) rfl rfl) rfl rfl hl.1 rfl (lv_room (Nat.le_of_ble_eq_true rfl)) dX6_walk_57 ⟨Nat.le_of_ble_eq_true rfl, Nat.le_of_ble_eq_true rfl⟩) hP hD hS hA [1, 2, 3, 4, 5, 6, 7, 8, 9] rfl (fun _ => rfl) (fun r57 u57 H locs hw hP hD hS => ?_)
        have hP : va_P D vwCl ((wX x xr xl xt xd) ++ (wTold cI xt tr ta ti tk) ++ (wPass cI (xr 5) qr qa qi qk) ++ (wRow cI (xr 7) za 6 u32)) H := hP
        have hD : va_D A ((wX x xr xl xt xd) ++ (wTold cI xt tr ta ti tk) ++ (wPass cI (xr 5) qr qa qi qk) ++ (wRow cI (xr 7) za 6 u32)) := hD
        replace he := he.trans (xbd_some hw)
        have n8_ : fX6_isLitBehind F (ti 4) (ti 7) (qi 2) (qi 3) (qk 0) (qk 1) u32 v40_4 r57 ≠ none := fun z => hne (he.trans (xbd_none z))
        refine xci (va_runV (As := [.int v40_4, .int r57]) (rest := []) ⟨hx, hb, hml, hown, hts⟩ (c_X6_isLitBehind l D cI cP H.size x xr xl xt xd tr ta ti tk qr qa qi qk za u32 F v40_4 r57 n8_) (cwV 2 hts gX6_walk_X6_isLitBehind rfl rfl rfl (by decide +kernel) ⟨Nat.le_of_ble_eq_true rfl, Nat.le_of_ble_eq_true rfl⟩) (xPV hN hK hP hD [0, 1, 2, 3, 4, 5, 6, 7, 8, 9, 10, 11, 12, 13, 14, 15, 16] rfl (by decide) (ci := 6) (j := 0) rfl rfl) rfl rfl hl.1 rfl (lv_room (Nat.le_of_ble_eq_true rfl)) dX6_walk_60 ⟨Nat.le_of_ble_eq_true rfl, Nat.le_of_ble_eq_true rfl⟩) hP hD hS hA [0, 1, 2, 3, 4, 5, 6, 7, 8, 9, 10, 11, 12, 13, 14, 15, 16] rfl (fun _ => rfl) (fun r60 u60 H locs hw hP hD hS => ?_)
        have hP : va_P D vwCl ((wX x xr xl xt xd) ++ (wTold cI xt tr ta ti tk) ++ (wPass cI (xr 5) qr qa qi qk) ++ (wRow cI (xr 7) za 6 u32)) H := hP
        have hD : va_D A ((wX x xr xl xt xd) ++ (wTold cI xt tr ta ti tk) ++ (wPass cI (xr 5) qr qa qi qk) ++ (wRow cI (xr 7) za 6 u32)) := hD
        replace he := he.trans (xbd_some hw)
        refine lv_if_eq (tgt := 69) hx hb dX6_walk_63 (by decide) (fun c9 => ?_) (fun c9 => ?_)
        · replace he := he.trans (if_pos c9)
          refine lv_iinc (v := (v40_4 + 1)) (lv' := [(4, .int (v40_4 + 1)), (3, .int v40_3), (0, .ref x), (1, .int a1), (2, .int a2)]) hx hb dX6_walk_69 hl (k := 0) rfl rfl (by decide) rfl (fun ls hl => ?_)
          refine lv_goto (tgt := 40) hx hb dX6_walk_72 (by decide) ?_
          exact ih40 (v40_4 + 1) v40_3 he _ _ _ hP hD hS (lv_sub hl [0, 1, 2, 3, 4] rfl)
        · replace he := he.trans (if_neg c9)
          refine lv_iinc (v := (v40_3 + 1)) (lv' := [(3, .int (v40_3 + 1)), (4, .int v40_4), (0, .ref x), (1, .int a1), (2, .int a2)]) hx hb dX6_walk_66 hl (k := 1) rfl rfl (by decide) rfl (fun ls hl => ?_)
          refine lv_iinc (v := (v40_4 + 1)) (lv' := [(4, .int (v40_4 + 1)), (3, .int (v40_3 + 1)), (0, .ref x), (1, .int a1), (2, .int a2)]) hx hb dX6_walk_69 hl (k := 1) rfl rfl (by decide) rfl (fun ls hl => ?_)
          refine lv_goto (tgt := 40) hx hb dX6_walk_72 (by decide) ?_
          exact ih40 (v40_4 + 1) (v40_3 + 1) he _ _ _ hP hD hS (lv_sub hl [0, 1, 2, 3, 4] rfl)
  refine lv_aload_n hx hb dX6_walk_0 rfl (lv_at hl 0 rfl) ?_
  refine lv_iload_n hx hb dX6_walk_1 rfl (lv_at hl 1 rfl) ?_
  have n1_ : fX6_isMan (ti 4) a1 ≠ none := fun z => hne (he.trans (xbd_none z))
  refine xci (va_runV (As := [.int a1]) (rest := []) ⟨hx, hb, hml, hown, hts⟩ (c_X6_isMan l D cI cP s.heap.size x xr xl xt xd tr ta ti tk a1 n1_) (cwV 1 hts gX6_walk_X6_isMan rfl rfl rfl (by decide +kernel) ⟨Nat.le_of_ble_eq_true rfl, Nat.le_of_ble_eq_true rfl⟩) (xPV hN hK hP hD [0, 1, 2, 3, 4, 5, 6, 7, 8, 9] rfl (by decide) (ci := 6) (j := 0) rfl rfl) rfl rfl hl.1 rfl (lv_room (Nat.le_of_ble_eq_true rfl)) dX6_walk_2 ⟨Nat.le_of_ble_eq_true rfl, Nat.le_of_ble_eq_true rfl⟩) hP hD hS hA [0, 1, 2, 3, 4, 5, 6, 7, 8, 9] rfl (fun _ => rfl) (fun r2 u2 H locs hw hP hD hS => ?_)
  have hP : va_P D vwCl ((wX x xr xl xt xd) ++ (wTold cI xt tr ta ti tk) ++ (wPass cI (xr 5) qr qa qi qk) ++ (wRow cI (xr 7) za 6 zf)) H := hP
  have hD : va_D A ((wX x xr xl xt xd) ++ (wTold cI xt tr ta ti tk) ++ (wPass cI (xr 5) qr qa qi qk) ++ (wRow cI (xr 7) za 6 zf)) := hD
  replace he := he.trans (xbd_some hw)
  refine lv_if_eq (tgt := 15) hx hb dX6_walk_5 (by decide) (fun c2 => ?_) (fun c2 => ?_)
  · replace he := he.trans (if_pos c2)
    refine lv_iconst (v := -1) hx hb dX6_walk_15 (by decide) ?_
    exact hret (-1 : Int32) zf _ _ _ _ dX6_walk_16 he hP hD hS
  · replace he := he.trans (if_neg c2)
    refine lv_iload_n hx hb dX6_walk_8 rfl (lv_at hl 2 rfl) ?_
    have n3_ : fX6_isLastBell a2 ≠ none := fun z => hne (he.trans (xbd_none z))
    refine xci (va_runS (As := [.int a2]) (rest := []) ⟨hx, hb, hml, hown, hts⟩ (c_X6_isLastBell l D cI cP H.size  a2 n3_) (va_cwS 1 hts gX6_walk_X6_isLastBell rfl rfl rfl (by decide +kernel) ⟨Nat.le_of_ble_eq_true rfl, Nat.le_of_ble_eq_true rfl⟩) (xPS hN hK hP hD [] rfl (by decide)) rfl rfl hl.1 rfl (lv_room (Nat.le_of_ble_eq_true rfl)) dX6_walk_9 ⟨Nat.le_of_ble_eq_true rfl, Nat.le_of_ble_eq_true rfl⟩) hP hD hS hA [] rfl (fun _ => rfl) (fun r9 u9 H locs hw hP hD hS => ?_)
    have hP : va_P D vwCl ((wX x xr xl xt xd) ++ (wTold cI xt tr ta ti tk) ++ (wPass cI (xr 5) qr qa qi qk) ++ (wRow cI (xr 7) za 6 zf)) H := hP
    have hD : va_D A ((wX x xr xl xt xd) ++ (wTold cI xt tr ta ti tk) ++ (wPass cI (xr 5) qr qa qi qk) ++ (wRow cI (xr 7) za 6 zf)) := hD
    replace he := he.trans (xbd_some hw)
    refine lv_if_ne (tgt := 17) hx hb dX6_walk_12 (by decide) (fun c4 => ?_) (fun c4 => ?_)
    · replace he := he.trans (if_neg c4)
      refine lv_aload_n hx hb dX6_walk_17 rfl (lv_at hl 0 rfl) ?_
      refine va_get (D := D) (ci := 6) (v := .ref xt) (C := RX6) (T := TX6) (N := 12) hx hb hts hi_X6_walk_6 hown hK hP 0 rfl rfl 10 (by decide) (hts (.fieldLink RX6 61 "BlindLanterns" "told" "LBlindLanterns$Told;") (List.mem_of_getElem? (i := 1) rfl)) (fun _ h9 => h9) rfl dX6_walk_18 ?_
      refine lv_aload_n hx hb dX6_walk_21 rfl (lv_at hl 0 rfl) ?_
      refine va_get (D := D) (ci := 6) (v := .ref (xr 5)) (C := RX6) (T := TX6) (N := 12) hx hb hts hi_X6_walk_6 hown hK hP 0 rfl rfl 5 (by decide) (hts (.fieldLink RX6 45 "BlindLanterns" "pass" "LBlindLanterns$Pass;") (List.mem_of_getElem? (i := 2) rfl)) (fun _ h9 => h9) rfl dX6_walk_22 ?_
      refine va_getN (D := D) (ci := 1) (v := .int (qi 4)) (C := RX1) (T := TX1) (N := 5) hx hb hts hi_X6_walk_1 hown hK hP 10 rfl rfl 4 (by decide) (va_Nw.use rfl (hN (.fieldLinkNest RX6 143 "BlindLanterns$Pass" "bell" "I" "BlindLanterns") (List.mem_of_getElem? (i := 7) rfl))) (fun _ h9 => h9) rfl dX6_walk_25 ?_
      refine lv_aload_n hx hb dX6_walk_28 rfl (lv_at hl 0 rfl) ?_
      refine va_get (D := D) (ci := 6) (v := .ref (xr 7)) (C := RX6) (T := TX6) (N := 12) hx hb hts hi_X6_walk_6 hown hK hP 0 rfl rfl 7 (by decide) (hts (.fieldLink RX6 52 "BlindLanterns" "draughtIn" "LBlindLanterns$Row;") (List.mem_of_getElem? (i := 3) rfl)) (fun _ h9 => h9) rfl dX6_walk_29 ?_
      have n5_ : fX5_reckonDraughts F (ti 4) (ti 7) (ti 8) (tk 2) (tk 3) zf (qi 4) 6 ≠ none := fun z => hne (he.trans (xbd_none z))
      refine xcv (va_runV (As := [.int (qi 4), .ref (xr 7)]) (rest := []) ⟨hx, hb, hml, hown, hts⟩ (c_X5_reckonDraughts l D cI cP H.size xt tr ta ti tk (xr 7) za 6 zf F (qi 4) n5_) (cwV 2 hts gX6_walk_X5_reckonDraughts rfl rfl rfl (by decide +kernel) ⟨Nat.le_of_ble_eq_true rfl, Nat.le_of_ble_eq_true rfl⟩) (xPV hN hK hP hD [1, 2, 3, 4, 5, 6, 7, 8, 9, 15, 16] rfl (by decide) (ci := 5) (j := 1) rfl rfl) rfl rfl hl.1 rfl (lv_room (Nat.le_of_ble_eq_true rfl)) dX6_walk_32 ⟨Nat.le_of_ble_eq_true rfl, Nat.le_of_ble_eq_true rfl⟩) hP hD hS hA [1, 2, 3, 4, 5, 6, 7, 8, 9, 15, 16] rfl (fun _ => rfl) (fun u32 H locs hw hP hD hS => ?_)
      have hP : va_P D vwCl ((wX x xr xl xt xd) ++ (wTold cI xt tr ta ti tk) ++ (wPass cI (xr 5) qr qa qi qk) ++ (wRow cI (xr 7) za 6 u32)) H := hP
      have hD : va_D A ((wX x xr xl xt xd) ++ (wTold cI xt tr ta ti tk) ++ (wPass cI (xr 5) qr qa qi qk) ++ (wRow cI (xr 7) za 6 u32)) := hD
      replace he := he.trans (xbd_some hw)
      refine lv_iconst (v := 0) hx hb dX6_walk_35 (by decide) ?_
      refine lv_istore_n (lv' := [(3, .int (0 : Int32)), (0, .ref x), (1, .int a1), (2, .int a2)]) hx hb dX6_walk_36 rfl hl (by decide) rfl (fun ls hl => ?_)
      refine lv_iconst (v := 0) hx hb dX6_walk_37 (by decide) ?_
      refine lv_istore (lv' := [(4, .int (0 : Int32)), (3, .int (0 : Int32)), (0, .ref x), (1, .int a1), (2, .int a2)]) hx hb dX6_walk_38 hl (by decide) rfl (fun ls hl => ?_)
      exact L40_4 u32 F (0 : Int32) (0 : Int32) he _ _ _ hP hD hS (lv_sub hl [0, 1, 2, 3, 4] rfl)
    · replace he := he.trans (if_pos c4)
      refine lv_iconst (v := -1) hx hb dX6_walk_15 (by decide) ?_
      exact hret (-1 : Int32) zf _ _ _ _ dX6_walk_16 he hP hD hS
