def fX2_splitItem_L16 (gf : Nat → Int32) (a3 : Int32) (gn : Nat) (k16 : Int32 → Int32 → Int32 → Int32 → (Nat → Int32) → Option (Int32 × Int32 × (Nat → Int32))) : Nat → Int32 → Int32 → Int32 → Int32 → (Nat → Int32) → Option (Int32 × Int32 × (Nat → Int32))
  | 0, _, _, _, _, _ => none
  | n16 + 1, v16_6, v16_5, v16_4, w16_di_1, w16_dk_0 => if a3 ≤ v16_6 then (k16 v16_6 v16_5 v16_4 w16_di_1 w16_dk_0) else (xbd (fX3_get gf v16_6 gn) (fun (r25 : Int32) => if r25 < (48 : Int32) then (if r25 = (44 : Int32) then (if v16_5 = 0 then (some ((-4 : Int32), (w16_di_1, w16_dk_0))) else (if w16_di_1 < (3 : Int32) then (xbd (fX3_set w16_dk_0 w16_di_1 v16_4 3) (fun (u109 : (Nat → Int32)) => if r25 = (59 : Int32) then (some ((v16_6 + (1 : Int32)), ((w16_di_1 + (1 : Int32)), u109))) else (fX2_splitItem_L16 gf a3 gn k16 n16 (v16_6 + 1) (0 : Int32) (0 : Int32) (w16_di_1 + (1 : Int32)) u109))) else (some ((-4 : Int32), (w16_di_1, w16_dk_0))))) else (if r25 = (59 : Int32) then (if v16_5 = 0 then (some ((-4 : Int32), (w16_di_1, w16_dk_0))) else (if w16_di_1 < (3 : Int32) then (xbd (fX3_set w16_dk_0 w16_di_1 v16_4 3) (fun (u109 : (Nat → Int32)) => if r25 = (59 : Int32) then (some ((v16_6 + (1 : Int32)), ((w16_di_1 + (1 : Int32)), u109))) else (fX2_splitItem_L16 gf a3 gn k16 n16 (v16_6 + 1) (0 : Int32) (0 : Int32) (w16_di_1 + (1 : Int32)) u109))) else (some ((-4 : Int32), (w16_di_1, w16_dk_0))))) else (some ((-4 : Int32), (w16_di_1, w16_dk_0))))) else (if (57 : Int32) < r25 then (if r25 = (44 : Int32) then (if v16_5 = 0 then (some ((-4 : Int32), (w16_di_1, w16_dk_0))) else (if w16_di_1 < (3 : Int32) then (xbd (fX3_set w16_dk_0 w16_di_1 v16_4 3) (fun (u109 : (Nat → Int32)) => if r25 = (59 : Int32) then (some ((v16_6 + (1 : Int32)), ((w16_di_1 + (1 : Int32)), u109))) else (fX2_splitItem_L16 gf a3 gn k16 n16 (v16_6 + 1) (0 : Int32) (0 : Int32) (w16_di_1 + (1 : Int32)) u109))) else (some ((-4 : Int32), (w16_di_1, w16_dk_0))))) else (if r25 = (59 : Int32) then (if v16_5 = 0 then (some ((-4 : Int32), (w16_di_1, w16_dk_0))) else (if w16_di_1 < (3 : Int32) then (xbd (fX3_set w16_dk_0 w16_di_1 v16_4 3) (fun (u109 : (Nat → Int32)) => if r25 = (59 : Int32) then (some ((v16_6 + (1 : Int32)), ((w16_di_1 + (1 : Int32)), u109))) else (fX2_splitItem_L16 gf a3 gn k16 n16 (v16_6 + 1) (0 : Int32) (0 : Int32) (w16_di_1 + (1 : Int32)) u109))) else (some ((-4 : Int32), (w16_di_1, w16_dk_0))))) else (some ((-4 : Int32), (w16_di_1, w16_dk_0))))) else (if (2 : Int32) ≤ v16_5 then (if r25 = (44 : Int32) then (if v16_5 = 0 then (some ((-4 : Int32), (w16_di_1, w16_dk_0))) else (if w16_di_1 < (3 : Int32) then (xbd (fX3_set w16_dk_0 w16_di_1 v16_4 3) (fun (u109 : (Nat → Int32)) => if r25 = (59 : Int32) then (some ((v16_6 + (1 : Int32)), ((w16_di_1 + (1 : Int32)), u109))) else (fX2_splitItem_L16 gf a3 gn k16 n16 (v16_6 + 1) (0 : Int32) (0 : Int32) (w16_di_1 + (1 : Int32)) u109))) else (some ((-4 : Int32), (w16_di_1, w16_dk_0))))) else (if r25 = (59 : Int32) then (if v16_5 = 0 then (some ((-4 : Int32), (w16_di_1, w16_dk_0))) else (if w16_di_1 < (3 : Int32) then (xbd (fX3_set w16_dk_0 w16_di_1 v16_4 3) (fun (u109 : (Nat → Int32)) => if r25 = (59 : Int32) then (some ((v16_6 + (1 : Int32)), ((w16_di_1 + (1 : Int32)), u109))) else (fX2_splitItem_L16 gf a3 gn k16 n16 (v16_6 + 1) (0 : Int32) (0 : Int32) (w16_di_1 + (1 : Int32)) u109))) else (some ((-4 : Int32), (w16_di_1, w16_dk_0))))) else (some ((-4 : Int32), (w16_di_1, w16_dk_0))))) else (fX2_splitItem_L16 gf a3 gn k16 n16 (v16_6 + 1) (v16_5 + 1) ((((10 : Int32) * v16_4) + r25) - (48 : Int32)) w16_di_1 w16_dk_0)))))
def fX2_splitItem (F : Nat) (dk_0 : Nat → Int32) (gf : Nat → Int32) (a2 : Int32) (a3 : Int32) (gn : Nat) : Option (Int32 × Int32 × (Nat → Int32)) :=
  fX2_splitItem_L16 gf a3 gn (fun (v16_6 : Int32) (v16_5 : Int32) (v16_4 : Int32) (w16_di_1 : Int32) (w16_dk_0 : Nat → Int32) => some ((-4 : Int32), (w16_di_1, w16_dk_0))) F (a2 + (1 : Int32)) (0 : Int32) (0 : Int32) (0 : Int32) dk_0
theorem hi_X2_splitItem_2 : ∀ w ∈ wsX20, w ∈ wsX2_splitItem := fun _ h => (List.mem_cons_of_mem _ (List.mem_append_left _ (List.mem_append_right _ h)))
def W_X2_splitItem (cI cP : ClassId) (d : Nat) (dr : Nat → Nat) (da : Nat → Nat) (di_1 : Int32) (dk_0 : Nat → Int32) (g : Nat) (ga : Nat) (gn : Nat) (gf : Nat → Int32) : va_W := (wReader cI d dr da di_1 dk_0) ++ ((wRow cI g ga gn gf))
theorem W_X2_splitItem_o0 {cI cP : ClassId} {d : Nat} {dr : Nat → Nat} {da : Nat → Nat} {di_1 : Int32} {dk_0 : Nat → Int32} {g : Nat} {ga : Nat} {gn : Nat} {gf : Nat → Int32} : (W_X2_splitItem cI cP d dr da di_1 dk_0 g ga gn gf)[0]? = some (d, .inr (2, [.ref (dr 0), .int di_1])) := rfl
theorem W_X2_splitItem_p0_1 {cI cP : ClassId} {d : Nat} {dr : Nat → Nat} {da : Nat → Nat} {di_1 : Int32} {dk_0 : Nat → Int32} {g : Nat} {ga : Nat} {gn : Nat} {gf : Nat → Int32} {v9 : Int32} : (W_X2_splitItem cI cP d dr da di_1 dk_0 g ga gn gf).set 0 (d, .inr (2, [.ref (dr 0), .int di_1].set 1 (.int v9))) = W_X2_splitItem cI cP d dr da v9 dk_0 g ga gn gf := rfl
theorem W_X2_splitItem_c_X3_get_3_4 {cI cP : ClassId} {d : Nat} {dr : Nat → Nat} {da : Nat → Nat} {di_1 : Int32} {dk_0 : Nat → Int32} {g : Nat} {ga : Nat} {gn : Nat} {gf : Nat → Int32} : ([3, 4] : List Nat).map (fun i => (W_X2_splitItem cI cP d dr da di_1 dk_0 g ga gn gf)[i]?) = (W_X3_get cI cP g ga gn gf).map some := rfl
theorem W_X2_splitItem_x_X3_get_3_4 {cI cP : ClassId} {d : Nat} {dr : Nat → Nat} {da : Nat → Nat} {di_1 : Int32} {dk_0 : Nat → Int32} {g : Nat} {ga : Nat} {gn : Nat} {gf : Nat → Int32} : xset (W_X2_splitItem cI cP d dr da di_1 dk_0 g ga gn gf) [3, 4] (W_X3_get cI cP g ga gn gf) = W_X2_splitItem cI cP d dr da di_1 dk_0 g ga gn gf := rfl
theorem W_X2_splitItem_o3 {cI cP : ClassId} {d : Nat} {dr : Nat → Nat} {da : Nat → Nat} {di_1 : Int32} {dk_0 : Nat → Int32} {g : Nat} {ga : Nat} {gn : Nat} {gf : Nat → Int32} : (W_X2_splitItem cI cP d dr da di_1 dk_0 g ga gn gf)[3]? = some (g, .inr (3, [.ref ga])) := rfl
theorem W_X2_splitItem_c_X3_set_1_2 {cI cP : ClassId} {d : Nat} {dr : Nat → Nat} {da : Nat → Nat} {di_1 : Int32} {dk_0 : Nat → Int32} {g : Nat} {ga : Nat} {gn : Nat} {gf : Nat → Int32} : ([1, 2] : List Nat).map (fun i => (W_X2_splitItem cI cP d dr da di_1 dk_0 g ga gn gf)[i]?) = (W_X3_set cI cP (dr 0) (da 0) 3 dk_0).map some := rfl
theorem W_X2_splitItem_x_X3_set_1_2 {cI cP : ClassId} {d : Nat} {dr : Nat → Nat} {da : Nat → Nat} {di_1 : Int32} {dk_0 : Nat → Int32} {g : Nat} {ga : Nat} {gn : Nat} {gf : Nat → Int32} {n0_ : Nat → Int32} : xset (W_X2_splitItem cI cP d dr da di_1 dk_0 g ga gn gf) [1, 2] (W_X3_set cI cP (dr 0) (da 0) 3 n0_) = W_X2_splitItem cI cP d dr da di_1 n0_ g ga gn gf := rfl
theorem W_X2_splitItem_o1 {cI cP : ClassId} {d : Nat} {dr : Nat → Nat} {da : Nat → Nat} {di_1 : Int32} {dk_0 : Nat → Int32} {g : Nat} {ga : Nat} {gn : Nat} {gf : Nat → Int32} : (W_X2_splitItem cI cP d dr da di_1 dk_0 g ga gn gf)[1]? = some ((dr 0), .inr (3, [.ref (da 0)])) := rfl
set_option maxHeartbeats 4000000 in
set_option maxRecDepth 100000 in
theorem c_X2_splitItem (l : Launch) (D : va_G) (cI cP : ClassId) (sz : Nat) (d : Nat) (dr : Nat → Nat) (da : Nat → Nat) (di_1 : Int32) (dk_0 : Nat → Int32) (g : Nat) (ga : Nat) (gn : Nat) (gf : Nat → Int32) (F : Nat) (a2 : Int32) (a3 : Int32) (hne : fX2_splitItem F dk_0 gf a2 a3 gn ≠ none) : xMi l yX2_splitItem wsX2_splitItem ({ frames := 1, cells := 0, slots := 0, locals := 22 } : Room) D (xT cI cP) [.ref d, .ref g, .int a2, .int a3] (W_X2_splitItem cI cP d dr da di_1 dk_0 g ga gn gf) sz (fun r (u : (Int32 × (Nat → Int32))) => fX2_splitItem F dk_0 gf a2 a3 gn = some (r, u)) (fun u => W_X2_splitItem cI cP d dr da u.1 u.2 g ga gn gf) 0 0 := by
  refine xMi_of (cc := cX2_splitItem) (maxL := 8) (by decide +kernel) rfl (Nat.le_of_ble_eq_true rfl) ?_
  intro p e s m args below meth c A ls hx hb hml hown hts hname hN hK hA hP hD hS hl Q hret
  have he := fX2_splitItem.eq_1 F dk_0 gf a2 a3 gn
  have hl : lv_has ls 8 [(0, .ref d), (1, .ref g), (2, .int a2), (3, .int a3)] := hl
  have R16_0 : ∀ (v16_6 : Int32) (v16_5 : Int32) (v16_4 : Int32) (w16_di_1 : Int32) (w16_dk_0 : Nat → Int32), fX2_splitItem F dk_0 gf a2 a3 gn = (some ((-4 : Int32), (w16_di_1, w16_dk_0))) → ∀ (H : Heap) (locs : List Loc) (ls : Array Slot), va_P D vwCl (W_X2_splitItem cI cP d dr da w16_di_1 w16_dk_0 g ga gn gf) H → va_D A (W_X2_splitItem cI cP d dr da w16_di_1 w16_dk_0 g ga gn gf) → va_S A s.heap H locs → lv_has ls 8 [] → W p l e ({ frames := 1, cells := 0, slots := 0, locals := 22 } : Room) s m args below meth c H locs 0 0 Q (F0 m 146 ls []) := by
    intro v16_6 v16_5 v16_4 w16_di_1 w16_dk_0 he H locs ls hP hD hS hl
    refine lv_bipush (v := -4) hx hb dX2_splitItem_146 (by decide) ?_
    exact hret (-4 : Int32) (w16_di_1, w16_dk_0) _ _ _ _ dX2_splitItem_148 he hP hD hS
  have L16_4 : ∀ (n16 : Nat) (v16_6 : Int32) (v16_5 : Int32) (v16_4 : Int32) (w16_di_1 : Int32) (w16_dk_0 : Nat → Int32), fX2_splitItem F dk_0 gf a2 a3 gn = fX2_splitItem_L16 gf a3 gn (fun (v16_6 : Int32) (v16_5 : Int32) (v16_4 : Int32) (w16_di_1 : Int32) (w16_dk_0 : Nat → Int32) => some ((-4 : Int32), (w16_di_1, w16_dk_0))) n16 v16_6 v16_5 v16_4 w16_di_1 w16_dk_0 → ∀ (H : Heap) (locs : List Loc) (ls : Array Slot), va_P D vwCl (W_X2_splitItem cI cP d dr da w16_di_1 w16_dk_0 g ga gn gf) H → va_D A (W_X2_splitItem cI cP d dr da w16_di_1 w16_dk_0 g ga gn gf) → va_S A s.heap H locs → lv_has ls 8 [(6, .int v16_6), (5, .int v16_5), (4, .int v16_4), (0, .ref d), (1, .ref g), (3, .int a3)] → W p l e ({ frames := 1, cells := 0, slots := 0, locals := 22 } : Room) s m args below meth c H locs 0 0 Q (F0 m 16 ls []) := by
    intro n16
    induction n16 with
    | zero => intro v16_6 v16_5 v16_4 w16_di_1 w16_dk_0 he; exact absurd he hne
    | succ n16 ih16 =>
      intro v16_6 v16_5 v16_4 w16_di_1 w16_dk_0 he H locs ls hP hD hS hl
      replace he := he.trans (fX2_splitItem_L16.eq_2 _ _ _ _ _ _ _ _ _ _)
      refine lv_iload hx hb dX2_splitItem_16 (lv_at hl 0 rfl) ?_
      refine lv_iload_n hx hb dX2_splitItem_18 rfl (lv_at hl 5 rfl) ?_
      refine lv_icmp_ge (tgt := 146) hx hb dX2_splitItem_19 (by decide) (fun c1 => ?_) (fun c1 => ?_)
      · replace he := he.trans (if_pos c1)
        exact R16_0 v16_6 v16_5 v16_4 w16_di_1 w16_dk_0 he _ _ _ hP hD hS (lv_sub hl [] rfl)
      · replace he := he.trans (if_neg c1)
        refine lv_aload_n hx hb dX2_splitItem_22 rfl (lv_at hl 4 rfl) ?_
        refine lv_iload hx hb dX2_splitItem_23 (lv_at hl 0 rfl) ?_
        have n2_ : fX3_get gf v16_6 gn ≠ none := fun z => hne (he.trans (xbd_none z))
        refine xci (va_runV (As := [.int v16_6]) (rest := []) ⟨hx, hb, hml, hown, hts⟩ (c_X3_get l D cI cP H.size g ga gn gf v16_6 n2_) (cwV 1 hts gX2_splitItem_X3_get rfl rfl rfl (by decide +kernel) ⟨Nat.le_of_ble_eq_true rfl, Nat.le_of_ble_eq_true rfl⟩) (xPV hN hK hP hD [3, 4] W_X2_splitItem_c_X3_get_3_4 (by decide) (ci := 3) (j := 3) rfl W_X2_splitItem_o3) rfl rfl hl.1 rfl (lv_room (Nat.le_of_ble_eq_true rfl)) dX2_splitItem_25 ⟨Nat.le_of_ble_eq_true rfl, Nat.le_of_ble_eq_true rfl⟩) hP hD hS hA [3, 4] W_X2_splitItem_c_X3_get_3_4 (fun _ => rfl) (fun r25 u25 H locs hw hP hD hS => ?_)
        rw [W_X2_splitItem_x_X3_get_3_4] at hP hD
        replace he := he.trans (xbd_some hw)
        refine lv_istore (lv' := [(7, .int r25), (6, .int v16_6), (5, .int v16_5), (4, .int v16_4), (0, .ref d), (1, .ref g), (3, .int a3)]) hx hb dX2_splitItem_28 hl (by decide) rfl (fun ls hl => ?_)
        refine lv_iload hx hb dX2_splitItem_30 (lv_at hl 0 rfl) ?_
        refine lv_bipush (v := 48) hx hb dX2_splitItem_32 (by decide) ?_
        refine lv_icmp_lt (tgt := 69) hx hb dX2_splitItem_34 (by decide) (fun c3 => ?_) (fun c3 => ?_)
        · replace he := he.trans (if_pos c3)
          refine lv_iload hx hb dX2_splitItem_69 (lv_at hl 0 rfl) ?_
          refine lv_bipush (v := 44) hx hb dX2_splitItem_71 (by decide) ?_
          refine lv_icmp_eq (tgt := 83) hx hb dX2_splitItem_73 (by decide) (fun c4 => ?_) (fun c4 => ?_)
          · replace he := he.trans (if_pos c4)
            refine lv_iload hx hb dX2_splitItem_83 (lv_at hl 2 rfl) ?_
            refine lv_if_eq (tgt := 96) hx hb dX2_splitItem_85 (by decide) (fun c5 => ?_) (fun c5 => ?_)
            · replace he := he.trans (if_pos c5)
              refine lv_bipush (v := -4) hx hb dX2_splitItem_96 (by decide) ?_
              exact hret (-4 : Int32) (w16_di_1, w16_dk_0) _ _ _ _ dX2_splitItem_98 he hP hD hS
            · replace he := he.trans (if_neg c5)
              refine lv_aload_n hx hb dX2_splitItem_88 rfl (lv_at hl 4 rfl) ?_
              refine va_get (D := D) (ci := 2) (v := .int w16_di_1) (C := RX2) (T := TX2) (N := 2) hx hb hts hi_X2_splitItem_2 hown hK hP 0 W_X2_splitItem_o0 rfl 1 (by decide) (hts (.fieldLink RX2 37 "BlindLanterns$Reader" "count" "I") (List.mem_of_getElem? (i := 1) rfl)) (fun _ h9 => h9) rfl dX2_splitItem_89 ?_
              refine lv_iconst (v := 3) hx hb dX2_splitItem_92 (by decide) ?_
              refine lv_icmp_lt (tgt := 99) hx hb dX2_splitItem_93 (by decide) (fun c6 => ?_) (fun c6 => ?_)
              · replace he := he.trans (if_pos c6)
                refine lv_aload_n hx hb dX2_splitItem_99 rfl (lv_at hl 4 rfl) ?_
                refine va_get (D := D) (ci := 2) (v := .ref (dr 0)) (C := RX2) (T := TX2) (N := 2) hx hb hts hi_X2_splitItem_2 hown hK hP 0 W_X2_splitItem_o0 rfl 0 (by decide) (hts (.fieldLink RX2 16 "BlindLanterns$Reader" "numbers" "LBlindLanterns$Row;") (List.mem_of_getElem? (i := 2) rfl)) (fun _ h9 => h9) rfl dX2_splitItem_100 ?_
                refine lv_aload_n hx hb dX2_splitItem_103 rfl (lv_at hl 4 rfl) ?_
                refine va_get (D := D) (ci := 2) (v := .int w16_di_1) (C := RX2) (T := TX2) (N := 2) hx hb hts hi_X2_splitItem_2 hown hK hP 0 W_X2_splitItem_o0 rfl 1 (by decide) (hts (.fieldLink RX2 37 "BlindLanterns$Reader" "count" "I") (List.mem_of_getElem? (i := 1) rfl)) (fun _ h9 => h9) rfl dX2_splitItem_104 ?_
                refine lv_iload hx hb dX2_splitItem_107 (lv_at hl 3 rfl) ?_
                have n7_ : fX3_set w16_dk_0 w16_di_1 v16_4 3 ≠ none := fun z => hne (he.trans (xbd_none z))
                refine xcv (va_runV (As := [.int w16_di_1, .int v16_4]) (rest := []) ⟨hx, hb, hml, hown, hts⟩ (c_X3_set l D cI cP H.size (dr 0) (da 0) 3 w16_dk_0 w16_di_1 v16_4 n7_) (cwV 2 hts gX2_splitItem_X3_set rfl rfl rfl (by decide +kernel) ⟨Nat.le_of_ble_eq_true rfl, Nat.le_of_ble_eq_true rfl⟩) (xPV hN hK hP hD [1, 2] W_X2_splitItem_c_X3_set_1_2 (by decide) (ci := 3) (j := 1) rfl W_X2_splitItem_o1) rfl rfl hl.1 rfl (lv_room (Nat.le_of_ble_eq_true rfl)) dX2_splitItem_109 ⟨Nat.le_of_ble_eq_true rfl, Nat.le_of_ble_eq_true rfl⟩) hP hD hS hA [1, 2] W_X2_splitItem_c_X3_set_1_2 (fun _ => rfl) (fun u109 H locs hw hP hD hS => ?_)
                rw [W_X2_splitItem_x_X3_set_1_2] at hP hD
                replace he := he.trans (xbd_some hw)
                refine lv_aload_n hx hb dX2_splitItem_112 rfl (lv_at hl 4 rfl) ?_
                refine lv_dup hx hb dX2_splitItem_113 rfl ?_
                refine va_get (D := D) (ci := 2) (v := .int w16_di_1) (C := RX2) (T := TX2) (N := 2) hx hb hts hi_X2_splitItem_2 hown hK hP 0 W_X2_splitItem_o0 rfl 1 (by decide) (hts (.fieldLink RX2 37 "BlindLanterns$Reader" "count" "I") (List.mem_of_getElem? (i := 1) rfl)) (fun _ h9 => h9) rfl dX2_splitItem_114 ?_
                refine lv_iconst (v := 1) hx hb dX2_splitItem_117 (by decide) ?_
                refine lv_iadd hx hb dX2_splitItem_118 ?_
                refine va_put (D := D) (ci := 2) (v := .int (w16_di_1 + (1 : Int32))) (ty := .int) (C := RX2) (T := TX2) (N := 2) hx hb hts hi_X2_splitItem_2 tyX2 tyX2_ok nmX2 hown hK hP hD hS 0 W_X2_splitItem_o0 rfl 1 (by decide) (hts (.fieldLink RX2 37 "BlindLanterns$Reader" "count" "I") (List.mem_of_getElem? (i := 1) rfl)) (fun _ h9 => h9) rfl (by decide +kernel) rfl rfl (Nat.le_of_ble_eq_true rfl) dX2_splitItem_119 (fun H locs hP hD hS => ?_)
                rw [W_X2_splitItem_p0_1] at hP hD
                refine lv_iload hx hb dX2_splitItem_122 (lv_at hl 0 rfl) ?_
                refine lv_bipush (v := 59) hx hb dX2_splitItem_124 (by decide) ?_
                refine lv_icmp_ne (tgt := 134) hx hb dX2_splitItem_126 (by decide) (fun c8 => ?_) (fun c8 => ?_)
                · replace he := he.trans (if_neg c8)
                  refine lv_iconst (v := 0) hx hb dX2_splitItem_134 (by decide) ?_
                  refine lv_istore (lv' := [(4, .int (0 : Int32)), (7, .int r25), (6, .int v16_6), (5, .int v16_5), (0, .ref d), (1, .ref g), (3, .int a3)]) hx hb dX2_splitItem_135 hl (by decide) rfl (fun ls hl => ?_)
                  refine lv_iconst (v := 0) hx hb dX2_splitItem_137 (by decide) ?_
                  refine lv_istore (lv' := [(5, .int (0 : Int32)), (4, .int (0 : Int32)), (7, .int r25), (6, .int v16_6), (0, .ref d), (1, .ref g), (3, .int a3)]) hx hb dX2_splitItem_138 hl (by decide) rfl (fun ls hl => ?_)
                  refine lv_iinc (v := (v16_6 + 1)) (lv' := [(6, .int (v16_6 + 1)), (5, .int (0 : Int32)), (4, .int (0 : Int32)), (7, .int r25), (0, .ref d), (1, .ref g), (3, .int a3)]) hx hb dX2_splitItem_140 hl (k := 3) rfl rfl (by decide) rfl (fun ls hl => ?_)
                  refine lv_goto (tgt := 16) hx hb dX2_splitItem_143 (by decide) ?_
                  exact ih16 (v16_6 + 1) (0 : Int32) (0 : Int32) (w16_di_1 + (1 : Int32)) u109 he _ _ _ hP hD hS (lv_sub hl [0, 1, 2, 4, 5, 6] rfl)
                · replace he := he.trans (if_pos c8)
                  refine lv_iload hx hb dX2_splitItem_129 (lv_at hl 1 rfl) ?_
                  refine lv_iconst (v := 1) hx hb dX2_splitItem_131 (by decide) ?_
                  refine lv_iadd hx hb dX2_splitItem_132 ?_
                  exact hret (v16_6 + (1 : Int32)) ((w16_di_1 + (1 : Int32)), u109) _ _ _ _ dX2_splitItem_133 he hP hD hS
              · replace he := he.trans (if_neg c6)
                refine lv_bipush (v := -4) hx hb dX2_splitItem_96 (by decide) ?_
                exact hret (-4 : Int32) (w16_di_1, w16_dk_0) _ _ _ _ dX2_splitItem_98 he hP hD hS
          · replace he := he.trans (if_neg c4)
            refine lv_iload hx hb dX2_splitItem_76 (lv_at hl 0 rfl) ?_
            refine lv_bipush (v := 59) hx hb dX2_splitItem_78 (by decide) ?_
            refine lv_icmp_ne (tgt := 96) hx hb dX2_splitItem_80 (by decide) (fun c9 => ?_) (fun c9 => ?_)
            · replace he := he.trans (if_neg c9)
              refine lv_bipush (v := -4) hx hb dX2_splitItem_96 (by decide) ?_
              exact hret (-4 : Int32) (w16_di_1, w16_dk_0) _ _ _ _ dX2_splitItem_98 he hP hD hS
            · replace he := he.trans (if_pos c9)
              refine lv_iload hx hb dX2_splitItem_83 (lv_at hl 2 rfl) ?_
              refine lv_if_eq (tgt := 96) hx hb dX2_splitItem_85 (by decide) (fun c10 => ?_) (fun c10 => ?_)
              · replace he := he.trans (if_pos c10)
                refine lv_bipush (v := -4) hx hb dX2_splitItem_96 (by decide) ?_
                exact hret (-4 : Int32) (w16_di_1, w16_dk_0) _ _ _ _ dX2_splitItem_98 he hP hD hS
              · replace he := he.trans (if_neg c10)
                refine lv_aload_n hx hb dX2_splitItem_88 rfl (lv_at hl 4 rfl) ?_
                refine va_get (D := D) (ci := 2) (v := .int w16_di_1) (C := RX2) (T := TX2) (N := 2) hx hb hts hi_X2_splitItem_2 hown hK hP 0 W_X2_splitItem_o0 rfl 1 (by decide) (hts (.fieldLink RX2 37 "BlindLanterns$Reader" "count" "I") (List.mem_of_getElem? (i := 1) rfl)) (fun _ h9 => h9) rfl dX2_splitItem_89 ?_
                refine lv_iconst (v := 3) hx hb dX2_splitItem_92 (by decide) ?_
                refine lv_icmp_lt (tgt := 99) hx hb dX2_splitItem_93 (by decide) (fun c11 => ?_) (fun c11 => ?_)
                · replace he := he.trans (if_pos c11)
                  refine lv_aload_n hx hb dX2_splitItem_99 rfl (lv_at hl 4 rfl) ?_
                  refine va_get (D := D) (ci := 2) (v := .ref (dr 0)) (C := RX2) (T := TX2) (N := 2) hx hb hts hi_X2_splitItem_2 hown hK hP 0 W_X2_splitItem_o0 rfl 0 (by decide) (hts (.fieldLink RX2 16 "BlindLanterns$Reader" "numbers" "LBlindLanterns$Row;") (List.mem_of_getElem? (i := 2) rfl)) (fun _ h9 => h9) rfl dX2_splitItem_100 ?_
                  refine lv_aload_n hx hb dX2_splitItem_103 rfl (lv_at hl 4 rfl) ?_
                  refine va_get (D := D) (ci := 2) (v := .int w16_di_1) (C := RX2) (T := TX2) (N := 2) hx hb hts hi_X2_splitItem_2 hown hK hP 0 W_X2_splitItem_o0 rfl 1 (by decide) (hts (.fieldLink RX2 37 "BlindLanterns$Reader" "count" "I") (List.mem_of_getElem? (i := 1) rfl)) (fun _ h9 => h9) rfl dX2_splitItem_104 ?_
                  refine lv_iload hx hb dX2_splitItem_107 (lv_at hl 3 rfl) ?_
                  have n12_ : fX3_set w16_dk_0 w16_di_1 v16_4 3 ≠ none := fun z => hne (he.trans (xbd_none z))
                  refine xcv (va_runV (As := [.int w16_di_1, .int v16_4]) (rest := []) ⟨hx, hb, hml, hown, hts⟩ (c_X3_set l D cI cP H.size (dr 0) (da 0) 3 w16_dk_0 w16_di_1 v16_4 n12_) (cwV 2 hts gX2_splitItem_X3_set rfl rfl rfl (by decide +kernel) ⟨Nat.le_of_ble_eq_true rfl, Nat.le_of_ble_eq_true rfl⟩) (xPV hN hK hP hD [1, 2] W_X2_splitItem_c_X3_set_1_2 (by decide) (ci := 3) (j := 1) rfl W_X2_splitItem_o1) rfl rfl hl.1 rfl (lv_room (Nat.le_of_ble_eq_true rfl)) dX2_splitItem_109 ⟨Nat.le_of_ble_eq_true rfl, Nat.le_of_ble_eq_true rfl⟩) hP hD hS hA [1, 2] W_X2_splitItem_c_X3_set_1_2 (fun _ => rfl) (fun u109 H locs hw hP hD hS => ?_)
                  rw [W_X2_splitItem_x_X3_set_1_2] at hP hD
                  replace he := he.trans (xbd_some hw)
                  refine lv_aload_n hx hb dX2_splitItem_112 rfl (lv_at hl 4 rfl) ?_
                  refine lv_dup hx hb dX2_splitItem_113 rfl ?_
                  refine va_get (D := D) (ci := 2) (v := .int w16_di_1) (C := RX2) (T := TX2) (N := 2) hx hb hts hi_X2_splitItem_2 hown hK hP 0 W_X2_splitItem_o0 rfl 1 (by decide) (hts (.fieldLink RX2 37 "BlindLanterns$Reader" "count" "I") (List.mem_of_getElem? (i := 1) rfl)) (fun _ h9 => h9) rfl dX2_splitItem_114 ?_
                  refine lv_iconst (v := 1) hx hb dX2_splitItem_117 (by decide) ?_
                  refine lv_iadd hx hb dX2_splitItem_118 ?_
                  refine va_put (D := D) (ci := 2) (v := .int (w16_di_1 + (1 : Int32))) (ty := .int) (C := RX2) (T := TX2) (N := 2) hx hb hts hi_X2_splitItem_2 tyX2 tyX2_ok nmX2 hown hK hP hD hS 0 W_X2_splitItem_o0 rfl 1 (by decide) (hts (.fieldLink RX2 37 "BlindLanterns$Reader" "count" "I") (List.mem_of_getElem? (i := 1) rfl)) (fun _ h9 => h9) rfl (by decide +kernel) rfl rfl (Nat.le_of_ble_eq_true rfl) dX2_splitItem_119 (fun H locs hP hD hS => ?_)
                  rw [W_X2_splitItem_p0_1] at hP hD
                  refine lv_iload hx hb dX2_splitItem_122 (lv_at hl 0 rfl) ?_
                  refine lv_bipush (v := 59) hx hb dX2_splitItem_124 (by decide) ?_
                  refine lv_icmp_ne (tgt := 134) hx hb dX2_splitItem_126 (by decide) (fun c13 => ?_) (fun c13 => ?_)
                  · replace he := he.trans (if_neg c13)
                    refine lv_iconst (v := 0) hx hb dX2_splitItem_134 (by decide) ?_
                    refine lv_istore (lv' := [(4, .int (0 : Int32)), (7, .int r25), (6, .int v16_6), (5, .int v16_5), (0, .ref d), (1, .ref g), (3, .int a3)]) hx hb dX2_splitItem_135 hl (by decide) rfl (fun ls hl => ?_)
                    refine lv_iconst (v := 0) hx hb dX2_splitItem_137 (by decide) ?_
                    refine lv_istore (lv' := [(5, .int (0 : Int32)), (4, .int (0 : Int32)), (7, .int r25), (6, .int v16_6), (0, .ref d), (1, .ref g), (3, .int a3)]) hx hb dX2_splitItem_138 hl (by decide) rfl (fun ls hl => ?_)
                    refine lv_iinc (v := (v16_6 + 1)) (lv' := [(6, .int (v16_6 + 1)), (5, .int (0 : Int32)), (4, .int (0 : Int32)), (7, .int r25), (0, .ref d), (1, .ref g), (3, .int a3)]) hx hb dX2_splitItem_140 hl (k := 3) rfl rfl (by decide) rfl (fun ls hl => ?_)
                    refine lv_goto (tgt := 16) hx hb dX2_splitItem_143 (by decide) ?_
                    exact ih16 (v16_6 + 1) (0 : Int32) (0 : Int32) (w16_di_1 + (1 : Int32)) u109 he _ _ _ hP hD hS (lv_sub hl [0, 1, 2, 4, 5, 6] rfl)
                  · replace he := he.trans (if_pos c13)
                    refine lv_iload hx hb dX2_splitItem_129 (lv_at hl 1 rfl) ?_
                    refine lv_iconst (v := 1) hx hb dX2_splitItem_131 (by decide) ?_
                    refine lv_iadd hx hb dX2_splitItem_132 ?_
                    exact hret (v16_6 + (1 : Int32)) ((w16_di_1 + (1 : Int32)), u109) _ _ _ _ dX2_splitItem_133 he hP hD hS
                · replace he := he.trans (if_neg c11)
                  refine lv_bipush (v := -4) hx hb dX2_splitItem_96 (by decide) ?_
                  exact hret (-4 : Int32) (w16_di_1, w16_dk_0) _ _ _ _ dX2_splitItem_98 he hP hD hS
        · replace he := he.trans (if_neg c3)
          refine lv_iload hx hb dX2_splitItem_37 (lv_at hl 0 rfl) ?_
          refine lv_bipush (v := 57) hx hb dX2_splitItem_39 (by decide) ?_
          refine lv_icmp_gt (tgt := 69) hx hb dX2_splitItem_41 (by decide) (fun c14 => ?_) (fun c14 => ?_)
          · replace he := he.trans (if_pos c14)
            refine lv_iload hx hb dX2_splitItem_69 (lv_at hl 0 rfl) ?_
            refine lv_bipush (v := 44) hx hb dX2_splitItem_71 (by decide) ?_
            refine lv_icmp_eq (tgt := 83) hx hb dX2_splitItem_73 (by decide) (fun c15 => ?_) (fun c15 => ?_)
            · replace he := he.trans (if_pos c15)
              refine lv_iload hx hb dX2_splitItem_83 (lv_at hl 2 rfl) ?_
              refine lv_if_eq (tgt := 96) hx hb dX2_splitItem_85 (by decide) (fun c16 => ?_) (fun c16 => ?_)
              · replace he := he.trans (if_pos c16)
                refine lv_bipush (v := -4) hx hb dX2_splitItem_96 (by decide) ?_
                exact hret (-4 : Int32) (w16_di_1, w16_dk_0) _ _ _ _ dX2_splitItem_98 he hP hD hS
              · replace he := he.trans (if_neg c16)
                refine lv_aload_n hx hb dX2_splitItem_88 rfl (lv_at hl 4 rfl) ?_
                refine va_get (D := D) (ci := 2) (v := .int w16_di_1) (C := RX2) (T := TX2) (N := 2) hx hb hts hi_X2_splitItem_2 hown hK hP 0 W_X2_splitItem_o0 rfl 1 (by decide) (hts (.fieldLink RX2 37 "BlindLanterns$Reader" "count" "I") (List.mem_of_getElem? (i := 1) rfl)) (fun _ h9 => h9) rfl dX2_splitItem_89 ?_
                refine lv_iconst (v := 3) hx hb dX2_splitItem_92 (by decide) ?_
                refine lv_icmp_lt (tgt := 99) hx hb dX2_splitItem_93 (by decide) (fun c17 => ?_) (fun c17 => ?_)
                · replace he := he.trans (if_pos c17)
                  refine lv_aload_n hx hb dX2_splitItem_99 rfl (lv_at hl 4 rfl) ?_
                  refine va_get (D := D) (ci := 2) (v := .ref (dr 0)) (C := RX2) (T := TX2) (N := 2) hx hb hts hi_X2_splitItem_2 hown hK hP 0 W_X2_splitItem_o0 rfl 0 (by decide) (hts (.fieldLink RX2 16 "BlindLanterns$Reader" "numbers" "LBlindLanterns$Row;") (List.mem_of_getElem? (i := 2) rfl)) (fun _ h9 => h9) rfl dX2_splitItem_100 ?_
                  refine lv_aload_n hx hb dX2_splitItem_103 rfl (lv_at hl 4 rfl) ?_
                  refine va_get (D := D) (ci := 2) (v := .int w16_di_1) (C := RX2) (T := TX2) (N := 2) hx hb hts hi_X2_splitItem_2 hown hK hP 0 W_X2_splitItem_o0 rfl 1 (by decide) (hts (.fieldLink RX2 37 "BlindLanterns$Reader" "count" "I") (List.mem_of_getElem? (i := 1) rfl)) (fun _ h9 => h9) rfl dX2_splitItem_104 ?_
                  refine lv_iload hx hb dX2_splitItem_107 (lv_at hl 3 rfl) ?_
                  have n18_ : fX3_set w16_dk_0 w16_di_1 v16_4 3 ≠ none := fun z => hne (he.trans (xbd_none z))
                  refine xcv (va_runV (As := [.int w16_di_1, .int v16_4]) (rest := []) ⟨hx, hb, hml, hown, hts⟩ (c_X3_set l D cI cP H.size (dr 0) (da 0) 3 w16_dk_0 w16_di_1 v16_4 n18_) (cwV 2 hts gX2_splitItem_X3_set rfl rfl rfl (by decide +kernel) ⟨Nat.le_of_ble_eq_true rfl, Nat.le_of_ble_eq_true rfl⟩) (xPV hN hK hP hD [1, 2] W_X2_splitItem_c_X3_set_1_2 (by decide) (ci := 3) (j := 1) rfl W_X2_splitItem_o1) rfl rfl hl.1 rfl (lv_room (Nat.le_of_ble_eq_true rfl)) dX2_splitItem_109 ⟨Nat.le_of_ble_eq_true rfl, Nat.le_of_ble_eq_true rfl⟩) hP hD hS hA [1, 2] W_X2_splitItem_c_X3_set_1_2 (fun _ => rfl) (fun u109 H locs hw hP hD hS => ?_)
                  rw [W_X2_splitItem_x_X3_set_1_2] at hP hD
                  replace he := he.trans (xbd_some hw)
                  refine lv_aload_n hx hb dX2_splitItem_112 rfl (lv_at hl 4 rfl) ?_
                  refine lv_dup hx hb dX2_splitItem_113 rfl ?_
                  refine va_get (D := D) (ci := 2) (v := .int w16_di_1) (C := RX2) (T := TX2) (N := 2) hx hb hts hi_X2_splitItem_2 hown hK hP 0 W_X2_splitItem_o0 rfl 1 (by decide) (hts (.fieldLink RX2 37 "BlindLanterns$Reader" "count" "I") (List.mem_of_getElem? (i := 1) rfl)) (fun _ h9 => h9) rfl dX2_splitItem_114 ?_
                  refine lv_iconst (v := 1) hx hb dX2_splitItem_117 (by decide) ?_
                  refine lv_iadd hx hb dX2_splitItem_118 ?_
                  refine va_put (D := D) (ci := 2) (v := .int (w16_di_1 + (1 : Int32))) (ty := .int) (C := RX2) (T := TX2) (N := 2) hx hb hts hi_X2_splitItem_2 tyX2 tyX2_ok nmX2 hown hK hP hD hS 0 W_X2_splitItem_o0 rfl 1 (by decide) (hts (.fieldLink RX2 37 "BlindLanterns$Reader" "count" "I") (List.mem_of_getElem? (i := 1) rfl)) (fun _ h9 => h9) rfl (by decide +kernel) rfl rfl (Nat.le_of_ble_eq_true rfl) dX2_splitItem_119 (fun H locs hP hD hS => ?_)
                  rw [W_X2_splitItem_p0_1] at hP hD
                  refine lv_iload hx hb dX2_splitItem_122 (lv_at hl 0 rfl) ?_
                  refine lv_bipush (v := 59) hx hb dX2_splitItem_124 (by decide) ?_
                  refine lv_icmp_ne (tgt := 134) hx hb dX2_splitItem_126 (by decide) (fun c19 => ?_) (fun c19 => ?_)
                  · replace he := he.trans (if_neg c19)
                    refine lv_iconst (v := 0) hx hb dX2_splitItem_134 (by decide) ?_
                    refine lv_istore (lv' := [(4, .int (0 : Int32)), (7, .int r25), (6, .int v16_6), (5, .int v16_5), (0, .ref d), (1, .ref g), (3, .int a3)]) hx hb dX2_splitItem_135 hl (by decide) rfl (fun ls hl => ?_)
                    refine lv_iconst (v := 0) hx hb dX2_splitItem_137 (by decide) ?_
                    refine lv_istore (lv' := [(5, .int (0 : Int32)), (4, .int (0 : Int32)), (7, .int r25), (6, .int v16_6), (0, .ref d), (1, .ref g), (3, .int a3)]) hx hb dX2_splitItem_138 hl (by decide) rfl (fun ls hl => ?_)
                    refine lv_iinc (v := (v16_6 + 1)) (lv' := [(6, .int (v16_6 + 1)), (5, .int (0 : Int32)), (4, .int (0 : Int32)), (7, .int r25), (0, .ref d), (1, .ref g), (3, .int a3)]) hx hb dX2_splitItem_140 hl (k := 3) rfl rfl (by decide) rfl (fun ls hl => ?_)
                    refine lv_goto (tgt := 16) hx hb dX2_splitItem_143 (by decide) ?_
                    exact ih16 (v16_6 + 1) (0 : Int32) (0 : Int32) (w16_di_1 + (1 : Int32)) u109 he _ _ _ hP hD hS (lv_sub hl [0, 1, 2, 4, 5, 6] rfl)
                  · replace he := he.trans (if_pos c19)
                    refine lv_iload hx hb dX2_splitItem_129 (lv_at hl 1 rfl) ?_
                    refine lv_iconst (v := 1) hx hb dX2_splitItem_131 (by decide) ?_
                    refine lv_iadd hx hb dX2_splitItem_132 ?_
                    exact hret (v16_6 + (1 : Int32)) ((w16_di_1 + (1 : Int32)), u109) _ _ _ _ dX2_splitItem_133 he hP hD hS
                · replace he := he.trans (if_neg c17)
                  refine lv_bipush (v := -4) hx hb dX2_splitItem_96 (by decide) ?_
                  exact hret (-4 : Int32) (w16_di_1, w16_dk_0) _ _ _ _ dX2_splitItem_98 he hP hD hS
            · replace he := he.trans (if_neg c15)
              refine lv_iload hx hb dX2_splitItem_76 (lv_at hl 0 rfl) ?_
              refine lv_bipush (v := 59) hx hb dX2_splitItem_78 (by decide) ?_
              refine lv_icmp_ne (tgt := 96) hx hb dX2_splitItem_80 (by decide) (fun c20 => ?_) (fun c20 => ?_)
              · replace he := he.trans (if_neg c20)
                refine lv_bipush (v := -4) hx hb dX2_splitItem_96 (by decide) ?_
                exact hret (-4 : Int32) (w16_di_1, w16_dk_0) _ _ _ _ dX2_splitItem_98 he hP hD hS
              · replace he := he.trans (if_pos c20)
                refine lv_iload hx hb dX2_splitItem_83 (lv_at hl 2 rfl) ?_
                refine lv_if_eq (tgt := 96) hx hb dX2_splitItem_85 (by decide) (fun c21 => ?_) (fun c21 => ?_)
                · replace he := he.trans (if_pos c21)
                  refine lv_bipush (v := -4) hx hb dX2_splitItem_96 (by decide) ?_
                  exact hret (-4 : Int32) (w16_di_1, w16_dk_0) _ _ _ _ dX2_splitItem_98 he hP hD hS
                · replace he := he.trans (if_neg c21)
                  refine lv_aload_n hx hb dX2_splitItem_88 rfl (lv_at hl 4 rfl) ?_
                  refine va_get (D := D) (ci := 2) (v := .int w16_di_1) (C := RX2) (T := TX2) (N := 2) hx hb hts hi_X2_splitItem_2 hown hK hP 0 W_X2_splitItem_o0 rfl 1 (by decide) (hts (.fieldLink RX2 37 "BlindLanterns$Reader" "count" "I") (List.mem_of_getElem? (i := 1) rfl)) (fun _ h9 => h9) rfl dX2_splitItem_89 ?_
                  refine lv_iconst (v := 3) hx hb dX2_splitItem_92 (by decide) ?_
                  refine lv_icmp_lt (tgt := 99) hx hb dX2_splitItem_93 (by decide) (fun c22 => ?_) (fun c22 => ?_)
                  · replace he := he.trans (if_pos c22)
                    refine lv_aload_n hx hb dX2_splitItem_99 rfl (lv_at hl 4 rfl) ?_
                    refine va_get (D := D) (ci := 2) (v := .ref (dr 0)) (C := RX2) (T := TX2) (N := 2) hx hb hts hi_X2_splitItem_2 hown hK hP 0 W_X2_splitItem_o0 rfl 0 (by decide) (hts (.fieldLink RX2 16 "BlindLanterns$Reader" "numbers" "LBlindLanterns$Row;") (List.mem_of_getElem? (i := 2) rfl)) (fun _ h9 => h9) rfl dX2_splitItem_100 ?_
                    refine lv_aload_n hx hb dX2_splitItem_103 rfl (lv_at hl 4 rfl) ?_
                    refine va_get (D := D) (ci := 2) (v := .int w16_di_1) (C := RX2) (T := TX2) (N := 2) hx hb hts hi_X2_splitItem_2 hown hK hP 0 W_X2_splitItem_o0 rfl 1 (by decide) (hts (.fieldLink RX2 37 "BlindLanterns$Reader" "count" "I") (List.mem_of_getElem? (i := 1) rfl)) (fun _ h9 => h9) rfl dX2_splitItem_104 ?_
                    refine lv_iload hx hb dX2_splitItem_107 (lv_at hl 3 rfl) ?_
                    have n23_ : fX3_set w16_dk_0 w16_di_1 v16_4 3 ≠ none := fun z => hne (he.trans (xbd_none z))
                    refine xcv (va_runV (As := [.int w16_di_1, .int v16_4]) (rest := []) ⟨hx, hb, hml, hown, hts⟩ (c_X3_set l D cI cP H.size (dr 0) (da 0) 3 w16_dk_0 w16_di_1 v16_4 n23_) (cwV 2 hts gX2_splitItem_X3_set rfl rfl rfl (by decide +kernel) ⟨Nat.le_of_ble_eq_true rfl, Nat.le_of_ble_eq_true rfl⟩) (xPV hN hK hP hD [1, 2] W_X2_splitItem_c_X3_set_1_2 (by decide) (ci := 3) (j := 1) rfl W_X2_splitItem_o1) rfl rfl hl.1 rfl (lv_room (Nat.le_of_ble_eq_true rfl)) dX2_splitItem_109 ⟨Nat.le_of_ble_eq_true rfl, Nat.le_of_ble_eq_true rfl⟩) hP hD hS hA [1, 2] W_X2_splitItem_c_X3_set_1_2 (fun _ => rfl) (fun u109 H locs hw hP hD hS => ?_)
                    rw [W_X2_splitItem_x_X3_set_1_2] at hP hD
                    replace he := he.trans (xbd_some hw)
                    refine lv_aload_n hx hb dX2_splitItem_112 rfl (lv_at hl 4 rfl) ?_
                    refine lv_dup hx hb dX2_splitItem_113 rfl ?_
                    refine va_get (D := D) (ci := 2) (v := .int w16_di_1) (C := RX2) (T := TX2) (N := 2) hx hb hts hi_X2_splitItem_2 hown hK hP 0 W_X2_splitItem_o0 rfl 1 (by decide) (hts (.fieldLink RX2 37 "BlindLanterns$Reader" "count" "I") (List.mem_of_getElem? (i := 1) rfl)) (fun _ h9 => h9) rfl dX2_splitItem_114 ?_
                    refine lv_iconst (v := 1) hx hb dX2_splitItem_117 (by decide) ?_
                    refine lv_iadd hx hb dX2_splitItem_118 ?_
                    refine va_put (D := D) (ci := 2) (v := .int (w16_di_1 + (1 : Int32))) (ty := .int) (C := RX2) (T := TX2) (N := 2) hx hb hts hi_X2_splitItem_2 tyX2 tyX2_ok nmX2 hown hK hP hD hS 0 W_X2_splitItem_o0 rfl 1 (by decide) (hts (.fieldLink RX2 37 "BlindLanterns$Reader" "count" "I") (List.mem_of_getElem? (i := 1) rfl)) (fun _ h9 => h9) rfl (by decide +kernel) rfl rfl (Nat.le_of_ble_eq_true rfl) dX2_splitItem_119 (fun H locs hP hD hS => ?_)
                    rw [W_X2_splitItem_p0_1] at hP hD
                    refine lv_iload hx hb dX2_splitItem_122 (lv_at hl 0 rfl) ?_
                    refine lv_bipush (v := 59) hx hb dX2_splitItem_124 (by decide) ?_
                    refine lv_icmp_ne (tgt := 134) hx hb dX2_splitItem_126 (by decide) (fun c24 => ?_) (fun c24 => ?_)
                    · replace he := he.trans (if_neg c24)
                      refine lv_iconst (v := 0) hx hb dX2_splitItem_134 (by decide) ?_
                      refine lv_istore (lv' := [(4, .int (0 : Int32)), (7, .int r25), (6, .int v16_6), (5, .int v16_5), (0, .ref d), (1, .ref g), (3, .int a3)]) hx hb dX2_splitItem_135 hl (by decide) rfl (fun ls hl => ?_)
                      refine lv_iconst (v := 0) hx hb dX2_splitItem_137 (by decide) ?_
                      refine lv_istore (lv' := [(5, .int (0 : Int32)), (4, .int (0 : Int32)), (7, .int r25), (6, .int v16_6), (0, .ref d), (1, .ref g), (3, .int a3)]) hx hb dX2_splitItem_138 hl (by decide) rfl (fun ls hl => ?_)
                      refine lv_iinc (v := (v16_6 + 1)) (lv' := [(6, .int (v16_6 + 1)), (5, .int (0 : Int32)), (4, .int (0 : Int32)), (7, .int r25), (0, .ref d), (1, .ref g), (3, .int a3)]) hx hb dX2_splitItem_140 hl (k := 3) rfl rfl (by decide) rfl (fun ls hl => ?_)
                      refine lv_goto (tgt := 16) hx hb dX2_splitItem_143 (by decide) ?_
                      exact ih16 (v16_6 + 1) (0 : Int32) (0 : Int32) (w16_di_1 + (1 : Int32)) u109 he _ _ _ hP hD hS (lv_sub hl [0, 1, 2, 4, 5, 6] rfl)
                    · replace he := he.trans (if_pos c24)
                      refine lv_iload hx hb dX2_splitItem_129 (lv_at hl 1 rfl) ?_
                      refine lv_iconst (v := 1) hx hb dX2_splitItem_131 (by decide) ?_
                      refine lv_iadd hx hb dX2_splitItem_132 ?_
                      exact hret (v16_6 + (1 : Int32)) ((w16_di_1 + (1 : Int32)), u109) _ _ _ _ dX2_splitItem_133 he hP hD hS
                  · replace he := he.trans (if_neg c22)
                    refine lv_bipush (v := -4) hx hb dX2_splitItem_96 (by decide) ?_
                    exact hret (-4 : Int32) (w16_di_1, w16_dk_0) _ _ _ _ dX2_splitItem_98 he hP hD hS
          · replace he := he.trans (if_neg c14)
            refine lv_iload hx hb dX2_splitItem_44 (lv_at hl 2 rfl) ?_
            refine lv_iconst (v := 2) hx hb dX2_splitItem_46 (by decide) ?_
            refine lv_icmp_ge (tgt := 69) hx hb dX2_splitItem_47 (by decide) (fun c25 => ?_) (fun c25 => ?_)
            · replace he := he.trans (if_pos c25)
              refine lv_iload hx hb dX2_splitItem_69 (lv_at hl 0 rfl) ?_
              refine lv_bipush (v := 44) hx hb dX2_splitItem_71 (by decide) ?_
              refine lv_icmp_eq (tgt := 83) hx hb dX2_splitItem_73 (by decide) (fun c26 => ?_) (fun c26 => ?_)
              · replace he := he.trans (if_pos c26)
                refine lv_iload hx hb dX2_splitItem_83 (lv_at hl 2 rfl) ?_
                refine lv_if_eq (tgt := 96) hx hb dX2_splitItem_85 (by decide) (fun c27 => ?_) (fun c27 => ?_)
                · replace he := he.trans (if_pos c27)
                  refine lv_bipush (v := -4) hx hb dX2_splitItem_96 (by decide) ?_
                  exact hret (-4 : Int32) (w16_di_1, w16_dk_0) _ _ _ _ dX2_splitItem_98 he hP hD hS
                · replace he := he.trans (if_neg c27)
                  refine lv_aload_n hx hb dX2_splitItem_88 rfl (lv_at hl 4 rfl) ?_
                  refine va_get (D := D) (ci := 2) (v := .int w16_di_1) (C := RX2) (T := TX2) (N := 2) hx hb hts hi_X2_splitItem_2 hown hK hP 0 W_X2_splitItem_o0 rfl 1 (by decide) (hts (.fieldLink RX2 37 "BlindLanterns$Reader" "count" "I") (List.mem_of_getElem? (i := 1) rfl)) (fun _ h9 => h9) rfl dX2_splitItem_89 ?_
                  refine lv_iconst (v := 3) hx hb dX2_splitItem_92 (by decide) ?_
                  refine lv_icmp_lt (tgt := 99) hx hb dX2_splitItem_93 (by decide) (fun c28 => ?_) (fun c28 => ?_)
                  · replace he := he.trans (if_pos c28)
                    refine lv_aload_n hx hb dX2_splitItem_99 rfl (lv_at hl 4 rfl) ?_
                    refine va_get (D := D) (ci := 2) (v := .ref (dr 0)) (C := RX2) (T := TX2) (N := 2) hx hb hts hi_X2_splitItem_2 hown hK hP 0 W_X2_splitItem_o0 rfl 0 (by decide) (hts (.fieldLink RX2 16 "BlindLanterns$Reader" "numbers" "LBlindLanterns$Row;") (List.mem_of_getElem? (i := 2) rfl)) (fun _ h9 => h9) rfl dX2_splitItem_100 ?_
                    refine lv_aload_n hx hb dX2_splitItem_103 rfl (lv_at hl 4 rfl) ?_
                    refine va_get (D := D) (ci := 2) (v := .int w16_di_1) (C := RX2) (T := TX2) (N := 2) hx hb hts hi_X2_splitItem_2 hown hK hP 0 W_X2_splitItem_o0 rfl 1 (by decide) (hts (.fieldLink RX2 37 "BlindLanterns$Reader" "count" "I") (List.mem_of_getElem? (i := 1) rfl)) (fun _ h9 => h9) rfl dX2_splitItem_104 ?_
                    refine lv_iload hx hb dX2_splitItem_107 (lv_at hl 3 rfl) ?_
                    have n29_ : fX3_set w16_dk_0 w16_di_1 v16_4 3 ≠ none := fun z => hne (he.trans (xbd_none z))
                    refine xcv (va_runV (As := [.int w16_di_1, .int v16_4]) (rest := []) ⟨hx, hb, hml, hown, hts⟩ (c_X3_set l D cI cP H.size (dr 0) (da 0) 3 w16_dk_0 w16_di_1 v16_4 n29_) (cwV 2 hts gX2_splitItem_X3_set rfl rfl rfl (by decide +kernel) ⟨Nat.le_of_ble_eq_true rfl, Nat.le_of_ble_eq_true rfl⟩) (xPV hN hK hP hD [1, 2] W_X2_splitItem_c_X3_set_1_2 (by decide) (ci := 3) (j := 1) rfl W_X2_splitItem_o1) rfl rfl hl.1 rfl (lv_room (Nat.le_of_ble_eq_true rfl)) dX2_splitItem_109 ⟨Nat.le_of_ble_eq_true rfl, Nat.le_of_ble_eq_true rfl⟩) hP hD hS hA [1, 2] W_X2_splitItem_c_X3_set_1_2 (fun _ => rfl) (fun u109 H locs hw hP hD hS => ?_)
                    rw [W_X2_splitItem_x_X3_set_1_2] at hP hD
                    replace he := he.trans (xbd_some hw)
                    refine lv_aload_n hx hb dX2_splitItem_112 rfl (lv_at hl 4 rfl) ?_
                    refine lv_dup hx hb dX2_splitItem_113 rfl ?_
                    refine va_get (D := D) (ci := 2) (v := .int w16_di_1) (C := RX2) (T := TX2) (N := 2) hx hb hts hi_X2_splitItem_2 hown hK hP 0 W_X2_splitItem_o0 rfl 1 (by decide) (hts (.fieldLink RX2 37 "BlindLanterns$Reader" "count" "I") (List.mem_of_getElem? (i := 1) rfl)) (fun _ h9 => h9) rfl dX2_splitItem_114 ?_
                    refine lv_iconst (v := 1) hx hb dX2_splitItem_117 (by decide) ?_
                    refine lv_iadd hx hb dX2_splitItem_118 ?_
                    refine va_put (D := D) (ci := 2) (v := .int (w16_di_1 + (1 : Int32))) (ty := .int) (C := RX2) (T := TX2) (N := 2) hx hb hts hi_X2_splitItem_2 tyX2 tyX2_ok nmX2 hown hK hP hD hS 0 W_X2_splitItem_o0 rfl 1 (by decide) (hts (.fieldLink RX2 37 "BlindLanterns$Reader" "count" "I") (List.mem_of_getElem? (i := 1) rfl)) (fun _ h9 => h9) rfl (by decide +kernel) rfl rfl (Nat.le_of_ble_eq_true rfl) dX2_splitItem_119 (fun H locs hP hD hS => ?_)
                    rw [W_X2_splitItem_p0_1] at hP hD
                    refine lv_iload hx hb dX2_splitItem_122 (lv_at hl 0 rfl) ?_
                    refine lv_bipush (v := 59) hx hb dX2_splitItem_124 (by decide) ?_
                    refine lv_icmp_ne (tgt := 134) hx hb dX2_splitItem_126 (by decide) (fun c30 => ?_) (fun c30 => ?_)
                    · replace he := he.trans (if_neg c30)
                      refine lv_iconst (v := 0) hx hb dX2_splitItem_134 (by decide) ?_
                      refine lv_istore (lv' := [(4, .int (0 : Int32)), (7, .int r25), (6, .int v16_6), (5, .int v16_5), (0, .ref d), (1, .ref g), (3, .int a3)]) hx hb dX2_splitItem_135 hl (by decide) rfl (fun ls hl => ?_)
                      refine lv_iconst (v := 0) hx hb dX2_splitItem_137 (by decide) ?_
                      refine lv_istore (lv' := [(5, .int (0 : Int32)), (4, .int (0 : Int32)), (7, .int r25), (6, .int v16_6), (0, .ref d), (1, .ref g), (3, .int a3)]) hx hb dX2_splitItem_138 hl (by decide) rfl (fun ls hl => ?_)
                      refine lv_iinc (v := (v16_6 + 1)) (lv' := [(6, .int (v16_6 + 1)), (5, .int (0 : Int32)), (4, .int (0 : Int32)), (7, .int r25), (0, .ref d), (1, .ref g), (3, .int a3)]) hx hb dX2_splitItem_140 hl (k := 3) rfl rfl (by decide) rfl (fun ls hl => ?_)
                      refine lv_goto (tgt := 16) hx hb dX2_splitItem_143 (by decide) ?_
                      exact ih16 (v16_6 + 1) (0 : Int32) (0 : Int32) (w16_di_1 + (1 : Int32)) u109 he _ _ _ hP hD hS (lv_sub hl [0, 1, 2, 4, 5, 6] rfl)
                    · replace he := he.trans (if_pos c30)
                      refine lv_iload hx hb dX2_splitItem_129 (lv_at hl 1 rfl) ?_
                      refine lv_iconst (v := 1) hx hb dX2_splitItem_131 (by decide) ?_
                      refine lv_iadd hx hb dX2_splitItem_132 ?_
                      exact hret (v16_6 + (1 : Int32)) ((w16_di_1 + (1 : Int32)), u109) _ _ _ _ dX2_splitItem_133 he hP hD hS
                  · replace he := he.trans (if_neg c28)
                    refine lv_bipush (v := -4) hx hb dX2_splitItem_96 (by decide) ?_
                    exact hret (-4 : Int32) (w16_di_1, w16_dk_0) _ _ _ _ dX2_splitItem_98 he hP hD hS
              · replace he := he.trans (if_neg c26)
                refine lv_iload hx hb dX2_splitItem_76 (lv_at hl 0 rfl) ?_
                refine lv_bipush (v := 59) hx hb dX2_splitItem_78 (by decide) ?_
                refine lv_icmp_ne (tgt := 96) hx hb dX2_splitItem_80 (by decide) (fun c31 => ?_) (fun c31 => ?_)
                · replace he := he.trans (if_neg c31)
                  refine lv_bipush (v := -4) hx hb dX2_splitItem_96 (by decide) ?_
                  exact hret (-4 : Int32) (w16_di_1, w16_dk_0) _ _ _ _ dX2_splitItem_98 he hP hD hS
                · replace he := he.trans (if_pos c31)
                  refine lv_iload hx hb dX2_splitItem_83 (lv_at hl 2 rfl) ?_
                  refine lv_if_eq (tgt := 96) hx hb dX2_splitItem_85 (by decide) (fun c32 => ?_) (fun c32 => ?_)
                  · replace he := he.trans (if_pos c32)
                    refine lv_bipush (v := -4) hx hb dX2_splitItem_96 (by decide) ?_
                    exact hret (-4 : Int32) (w16_di_1, w16_dk_0) _ _ _ _ dX2_splitItem_98 he hP hD hS
                  · replace he := he.trans (if_neg c32)
                    refine lv_aload_n hx hb dX2_splitItem_88 rfl (lv_at hl 4 rfl) ?_
                    refine va_get (D := D) (ci := 2) (v := .int w16_di_1) (C := RX2) (T := TX2) (N := 2) hx hb hts hi_X2_splitItem_2 hown hK hP 0 W_X2_splitItem_o0 rfl 1 (by decide) (hts (.fieldLink RX2 37 "BlindLanterns$Reader" "count" "I") (List.mem_of_getElem? (i := 1) rfl)) (fun _ h9 => h9) rfl dX2_splitItem_89 ?_
                    refine lv_iconst (v := 3) hx hb dX2_splitItem_92 (by decide) ?_
                    refine lv_icmp_lt (tgt := 99) hx hb dX2_splitItem_93 (by decide) (fun c33 => ?_) (fun c33 => ?_)
                    · replace he := he.trans (if_pos c33)
                      refine lv_aload_n hx hb dX2_splitItem_99 rfl (lv_at hl 4 rfl) ?_
                      refine va_get (D := D) (ci := 2) (v := .ref (dr 0)) (C := RX2) (T := TX2) (N := 2) hx hb hts hi_X2_splitItem_2 hown hK hP 0 W_X2_splitItem_o0 rfl 0 (by decide) (hts (.fieldLink RX2 16 "BlindLanterns$Reader" "numbers" "LBlindLanterns$Row;") (List.mem_of_getElem? (i := 2) rfl)) (fun _ h9 => h9) rfl dX2_splitItem_100 ?_
                      refine lv_aload_n hx hb dX2_splitItem_103 rfl (lv_at hl 4 rfl) ?_
                      refine va_get (D := D) (ci := 2) (v := .int w16_di_1) (C := RX2) (T := TX2) (N := 2) hx hb hts hi_X2_splitItem_2 hown hK hP 0 W_X2_splitItem_o0 rfl 1 (by decide) (hts (.fieldLink RX2 37 "BlindLanterns$Reader" "count" "I") (List.mem_of_getElem? (i := 1) rfl)) (fun _ h9 => h9) rfl dX2_splitItem_104 ?_
                      refine lv_iload hx hb dX2_splitItem_107 (lv_at hl 3 rfl) ?_
                      have n34_ : fX3_set w16_dk_0 w16_di_1 v16_4 3 ≠ none := fun z => hne (he.trans (xbd_none z))
                      refine xcv (va_runV (As := [.int w16_di_1, .int v16_4]) (rest := []) ⟨hx, hb, hml, hown, hts⟩ (c_X3_set l D cI cP H.size (dr 0) (da 0) 3 w16_dk_0 w16_di_1 v16_4 n34_) (cwV 2 hts gX2_splitItem_X3_set rfl rfl rfl (by decide +kernel) ⟨Nat.le_of_ble_eq_true rfl, Nat.le_of_ble_eq_true rfl⟩) (xPV hN hK hP hD [1, 2] W_X2_splitItem_c_X3_set_1_2 (by decide) (ci := 3) (j := 1) rfl W_X2_splitItem_o1) rfl rfl hl.1 rfl (lv_room (Nat.le_of_ble_eq_true rfl)) dX2_splitItem_109 ⟨Nat.le_of_ble_eq_true rfl, Nat.le_of_ble_eq_true rfl⟩) hP hD hS hA [1, 2] W_X2_splitItem_c_X3_set_1_2 (fun _ => rfl) (fun u109 H locs hw hP hD hS => ?_)
                      rw [W_X2_splitItem_x_X3_set_1_2] at hP hD
                      replace he := he.trans (xbd_some hw)
                      refine lv_aload_n hx hb dX2_splitItem_112 rfl (lv_at hl 4 rfl) ?_
                      refine lv_dup hx hb dX2_splitItem_113 rfl ?_
                      refine va_get (D := D) (ci := 2) (v := .int w16_di_1) (C := RX2) (T := TX2) (N := 2) hx hb hts hi_X2_splitItem_2 hown hK hP 0 W_X2_splitItem_o0 rfl 1 (by decide) (hts (.fieldLink RX2 37 "BlindLanterns$Reader" "count" "I") (List.mem_of_getElem? (i := 1) rfl)) (fun _ h9 => h9) rfl dX2_splitItem_114 ?_
                      refine lv_iconst (v := 1) hx hb dX2_splitItem_117 (by decide) ?_
                      refine lv_iadd hx hb dX2_splitItem_118 ?_
                      refine va_put (D := D) (ci := 2) (v := .int (w16_di_1 + (1 : Int32))) (ty := .int) (C := RX2) (T := TX2) (N := 2) hx hb hts hi_X2_splitItem_2 tyX2 tyX2_ok nmX2 hown hK hP hD hS 0 W_X2_splitItem_o0 rfl 1 (by decide) (hts (.fieldLink RX2 37 "BlindLanterns$Reader" "count" "I") (List.mem_of_getElem? (i := 1) rfl)) (fun _ h9 => h9) rfl (by decide +kernel) rfl rfl (Nat.le_of_ble_eq_true rfl) dX2_splitItem_119 (fun H locs hP hD hS => ?_)
                      rw [W_X2_splitItem_p0_1] at hP hD
                      refine lv_iload hx hb dX2_splitItem_122 (lv_at hl 0 rfl) ?_
                      refine lv_bipush (v := 59) hx hb dX2_splitItem_124 (by decide) ?_
                      refine lv_icmp_ne (tgt := 134) hx hb dX2_splitItem_126 (by decide) (fun c35 => ?_) (fun c35 => ?_)
                      · replace he := he.trans (if_neg c35)
                        refine lv_iconst (v := 0) hx hb dX2_splitItem_134 (by decide) ?_
                        refine lv_istore (lv' := [(4, .int (0 : Int32)), (7, .int r25), (6, .int v16_6), (5, .int v16_5), (0, .ref d), (1, .ref g), (3, .int a3)]) hx hb dX2_splitItem_135 hl (by decide) rfl (fun ls hl => ?_)
                        refine lv_iconst (v := 0) hx hb dX2_splitItem_137 (by decide) ?_
                        refine lv_istore (lv' := [(5, .int (0 : Int32)), (4, .int (0 : Int32)), (7, .int r25), (6, .int v16_6), (0, .ref d), (1, .ref g), (3, .int a3)]) hx hb dX2_splitItem_138 hl (by decide) rfl (fun ls hl => ?_)
                        refine lv_iinc (v := (v16_6 + 1)) (lv' := [(6, .int (v16_6 + 1)), (5, .int (0 : Int32)), (4, .int (0 : Int32)), (7, .int r25), (0, .ref d), (1, .ref g), (3, .int a3)]) hx hb dX2_splitItem_140 hl (k := 3) rfl rfl (by decide) rfl (fun ls hl => ?_)
                        refine lv_goto (tgt := 16) hx hb dX2_splitItem_143 (by decide) ?_
                        exact ih16 (v16_6 + 1) (0 : Int32) (0 : Int32) (w16_di_1 + (1 : Int32)) u109 he _ _ _ hP hD hS (lv_sub hl [0, 1, 2, 4, 5, 6] rfl)
                      · replace he := he.trans (if_pos c35)
                        refine lv_iload hx hb dX2_splitItem_129 (lv_at hl 1 rfl) ?_
                        refine lv_iconst (v := 1) hx hb dX2_splitItem_131 (by decide) ?_
                        refine lv_iadd hx hb dX2_splitItem_132 ?_
                        exact hret (v16_6 + (1 : Int32)) ((w16_di_1 + (1 : Int32)), u109) _ _ _ _ dX2_splitItem_133 he hP hD hS
                    · replace he := he.trans (if_neg c33)
                      refine lv_bipush (v := -4) hx hb dX2_splitItem_96 (by decide) ?_
                      exact hret (-4 : Int32) (w16_di_1, w16_dk_0) _ _ _ _ dX2_splitItem_98 he hP hD hS
            · replace he := he.trans (if_neg c25)
              refine lv_bipush (v := 10) hx hb dX2_splitItem_50 (by decide) ?_
              refine lv_iload hx hb dX2_splitItem_52 (lv_at hl 3 rfl) ?_
              refine lv_imul hx hb dX2_splitItem_54 ?_
              refine lv_iload hx hb dX2_splitItem_55 (lv_at hl 0 rfl) ?_
              refine lv_iadd hx hb dX2_splitItem_57 ?_
              refine lv_bipush (v := 48) hx hb dX2_splitItem_58 (by decide) ?_
              refine lv_isub hx hb dX2_splitItem_60 ?_
              refine lv_istore (lv' := [(4, .int ((((10 : Int32) * v16_4) + r25) - (48 : Int32))), (7, .int r25), (6, .int v16_6), (5, .int v16_5), (0, .ref d), (1, .ref g), (3, .int a3)]) hx hb dX2_splitItem_61 hl (by decide) rfl (fun ls hl => ?_)
              refine lv_iinc (v := (v16_5 + 1)) (lv' := [(5, .int (v16_5 + 1)), (4, .int ((((10 : Int32) * v16_4) + r25) - (48 : Int32))), (7, .int r25), (6, .int v16_6), (0, .ref d), (1, .ref g), (3, .int a3)]) hx hb dX2_splitItem_63 hl (k := 3) rfl rfl (by decide) rfl (fun ls hl => ?_)
              refine lv_goto (tgt := 140) hx hb dX2_splitItem_66 (by decide) ?_
              refine lv_iinc (v := (v16_6 + 1)) (lv' := [(6, .int (v16_6 + 1)), (5, .int (v16_5 + 1)), (4, .int ((((10 : Int32) * v16_4) + r25) - (48 : Int32))), (7, .int r25), (0, .ref d), (1, .ref g), (3, .int a3)]) hx hb dX2_splitItem_140 hl (k := 3) rfl rfl (by decide) rfl (fun ls hl => ?_)
              refine lv_goto (tgt := 16) hx hb dX2_splitItem_143 (by decide) ?_
              exact ih16 (v16_6 + 1) (v16_5 + 1) ((((10 : Int32) * v16_4) + r25) - (48 : Int32)) w16_di_1 w16_dk_0 he _ _ _ hP hD hS (lv_sub hl [0, 1, 2, 4, 5, 6] rfl)
  refine lv_aload_n hx hb dX2_splitItem_0 rfl (lv_at hl 0 rfl) ?_
  refine lv_iconst (v := 0) hx hb dX2_splitItem_1 (by decide) ?_
  refine va_put (D := D) (ci := 2) (v := .int (0 : Int32)) (ty := .int) (C := RX2) (T := TX2) (N := 2) hx hb hts hi_X2_splitItem_2 tyX2 tyX2_ok nmX2 hown hK hP hD hS 0 W_X2_splitItem_o0 rfl 1 (by decide) (hts (.fieldLink RX2 37 "BlindLanterns$Reader" "count" "I") (List.mem_of_getElem? (i := 1) rfl)) (fun _ h9 => h9) rfl (by decide +kernel) rfl rfl (Nat.le_of_ble_eq_true rfl) dX2_splitItem_2 (fun H locs hP hD hS => ?_)
  rw [W_X2_splitItem_p0_1] at hP hD
  refine lv_iconst (v := 0) hx hb dX2_splitItem_5 (by decide) ?_
  refine lv_istore (lv' := [(4, .int (0 : Int32)), (0, .ref d), (1, .ref g), (2, .int a2), (3, .int a3)]) hx hb dX2_splitItem_6 hl (by decide) rfl (fun ls hl => ?_)
  refine lv_iconst (v := 0) hx hb dX2_splitItem_8 (by decide) ?_
  refine lv_istore (lv' := [(5, .int (0 : Int32)), (4, .int (0 : Int32)), (0, .ref d), (1, .ref g), (2, .int a2), (3, .int a3)]) hx hb dX2_splitItem_9 hl (by decide) rfl (fun ls hl => ?_)
  refine lv_iload_n hx hb dX2_splitItem_11 rfl (lv_at hl 4 rfl) ?_
  refine lv_iconst (v := 1) hx hb dX2_splitItem_12 (by decide) ?_
  refine lv_iadd hx hb dX2_splitItem_13 ?_
  refine lv_istore (lv' := [(6, .int (a2 + (1 : Int32))), (5, .int (0 : Int32)), (4, .int (0 : Int32)), (0, .ref d), (1, .ref g), (2, .int a2), (3, .int a3)]) hx hb dX2_splitItem_14 hl (by decide) rfl (fun ls hl => ?_)
  exact L16_4 F (a2 + (1 : Int32)) (0 : Int32) (0 : Int32) (0 : Int32) dk_0 he _ _ _ hP hD hS (lv_sub hl [0, 1, 2, 3, 4, 6] rfl)

def fX2_tell (di_1 : Int32) (dk_0 : Nat → Int32) (ti_4 : Int32) (ti_5 : Int32) (ti_6 : Int32) (ti_7 : Int32) (ti_8 : Int32) (ti_9 : Int32) (ti_10 : Int32) (tk_0 : Nat → Int32) (tk_1 : Nat → Int32) (tk_2 : Nat → Int32) (tk_3 : Nat → Int32) (a1 : Int32) : Option (Int32 × Int32 × Int32 × Int32 × Int32 × Int32 × Int32 × Int32 × (Nat → Int32) × (Nat → Int32) × (Nat → Int32) × (Nat → Int32)) :=
  xbd (fX3_get dk_0 (0 : Int32) 3) (fun (r5 : Int32) => xbd (fX3_get dk_0 (1 : Int32) 3) (fun (r14 : Int32) => if a1 = (100 : Int32) then (if di_1 = (2 : Int32) then (xbd2 (fX5_addDraught ti_8 tk_2 tk_3 r5 r14) (fun (r218 : Int32) (u218 : Int32 × (Nat → Int32) × (Nat → Int32)) => if r218 = 0 then (some ((0 : Int32), (ti_4, ti_5, ti_6, ti_7, u218.1, ti_9, ti_10, tk_0, tk_1, u218.2.1, u218.2.2))) else (some ((1 : Int32), (ti_4, ti_5, ti_6, ti_7, u218.1, ti_9, ti_10, tk_0, tk_1, u218.2.1, u218.2.2))))) else (some ((0 : Int32), (ti_4, ti_5, ti_6, ti_7, ti_8, ti_9, ti_10, tk_0, tk_1, tk_2, tk_3)))) else (if a1 = (101 : Int32) then (if di_1 = (1 : Int32) then (xbd2 (fX5_tellCheese ti_4 ti_5 ti_6 tk_1 r5) (fun (r172 : Int32) (u172 : Int32 × Int32 × (Nat → Int32)) => if r172 = 0 then (some ((0 : Int32), (ti_4, u172.1, u172.2.1, ti_7, ti_8, ti_9, ti_10, tk_0, u172.2.2, tk_2, tk_3))) else (some ((1 : Int32), (ti_4, u172.1, u172.2.1, ti_7, ti_8, ti_9, ti_10, tk_0, u172.2.2, tk_2, tk_3))))) else (some ((0 : Int32), (ti_4, ti_5, ti_6, ti_7, ti_8, ti_9, ti_10, tk_0, tk_1, tk_2, tk_3)))) else (if a1 = (109 : Int32) then (if di_1 = (1 : Int32) then (xbd2 (fX5_addMan ti_4 tk_0 r5) (fun (r118 : Int32) (u118 : Int32 × (Nat → Int32)) => if r118 = 0 then (some ((0 : Int32), (u118.1, ti_5, ti_6, ti_7, ti_8, ti_9, ti_10, u118.2, tk_1, tk_2, tk_3))) else (some ((1 : Int32), (u118.1, ti_5, ti_6, ti_7, ti_8, ti_9, ti_10, u118.2, tk_1, tk_2, tk_3))))) else (some ((0 : Int32), (ti_4, ti_5, ti_6, ti_7, ti_8, ti_9, ti_10, tk_0, tk_1, tk_2, tk_3)))) else (if a1 = (111 : Int32) then (if di_1 = (3 : Int32) then (xbd (fX3_get dk_0 (2 : Int32) 3) (fun (r147 : Int32) => xbd2 (fX5_tellOil ti_4 ti_5 ti_6 tk_1 r5 r14 r147) (fun (r150 : Int32) (u150 : Int32 × Int32 × (Nat → Int32)) => if r150 = 0 then (some ((0 : Int32), (ti_4, u150.1, u150.2.1, ti_7, ti_8, ti_9, ti_10, tk_0, u150.2.2, tk_2, tk_3))) else (some ((1 : Int32), (ti_4, u150.1, u150.2.1, ti_7, ti_8, ti_9, ti_10, tk_0, u150.2.2, tk_2, tk_3)))))) else (some ((0 : Int32), (ti_4, ti_5, ti_6, ti_7, ti_8, ti_9, ti_10, tk_0, tk_1, tk_2, tk_3)))) else (if a1 = (115 : Int32) then (if di_1 = (1 : Int32) then (xbd2 (fX5_tellStep ti_7 r5) (fun (r194 : Int32) (u194 : Int32) => if r194 = 0 then (some ((0 : Int32), (ti_4, ti_5, ti_6, u194, ti_8, ti_9, ti_10, tk_0, tk_1, tk_2, tk_3))) else (some ((1 : Int32), (ti_4, ti_5, ti_6, u194, ti_8, ti_9, ti_10, tk_0, tk_1, tk_2, tk_3))))) else (some ((0 : Int32), (ti_4, ti_5, ti_6, ti_7, ti_8, ti_9, ti_10, tk_0, tk_1, tk_2, tk_3)))) else (if a1 = (117 : Int32) then (if di_1 = (2 : Int32) then (xbd2 (fX5_tellSun ti_9 ti_10 r5 r14) (fun (r242 : Int32) (u242 : Int32 × Int32) => if r242 = 0 then (some ((0 : Int32), (ti_4, ti_5, ti_6, ti_7, ti_8, u242.1, u242.2, tk_0, tk_1, tk_2, tk_3))) else (some ((1 : Int32), (ti_4, ti_5, ti_6, ti_7, ti_8, u242.1, u242.2, tk_0, tk_1, tk_2, tk_3))))) else (some ((0 : Int32), (ti_4, ti_5, ti_6, ti_7, ti_8, ti_9, ti_10, tk_0, tk_1, tk_2, tk_3)))) else (some ((0 : Int32), (ti_4, ti_5, ti_6, ti_7, ti_8, ti_9, ti_10, tk_0, tk_1, tk_2, tk_3))))))))))
theorem hi_X2_tell_2 : ∀ w ∈ wsX20, w ∈ wsX2_tell := fun _ h => (List.mem_cons_of_mem _ (List.mem_append_left _ (List.mem_append_left _ (List.mem_append_right _ h))))
def W_X2_tell (cI cP : ClassId) (d : Nat) (dr : Nat → Nat) (da : Nat → Nat) (di_1 : Int32) (dk_0 : Nat → Int32) (t : Nat) (tr : Nat → Nat) (ta : Nat → Nat) (ti_4 : Int32) (ti_5 : Int32) (ti_6 : Int32) (ti_7 : Int32) (ti_8 : Int32) (ti_9 : Int32) (ti_10 : Int32) (tk_0 : Nat → Int32) (tk_1 : Nat → Int32) (tk_2 : Nat → Int32) (tk_3 : Nat → Int32) : va_W := (wReader cI d dr da di_1 dk_0) ++ ((wTold cI t tr ta ti_4 ti_5 ti_6 ti_7 ti_8 ti_9 ti_10 tk_0 tk_1 tk_2 tk_3))
theorem W_X2_tell_o0 {cI cP : ClassId} {d : Nat} {dr : Nat → Nat} {da : Nat → Nat} {di_1 : Int32} {dk_0 : Nat → Int32} {t : Nat} {tr : Nat → Nat} {ta : Nat → Nat} {ti_4 : Int32} {ti_5 : Int32} {ti_6 : Int32} {ti_7 : Int32} {ti_8 : Int32} {ti_9 : Int32} {ti_10 : Int32} {tk_0 : Nat → Int32} {tk_1 : Nat → Int32} {tk_2 : Nat → Int32} {tk_3 : Nat → Int32} : (W_X2_tell cI cP d dr da di_1 dk_0 t tr ta ti_4 ti_5 ti_6 ti_7 ti_8 ti_9 ti_10 tk_0 tk_1 tk_2 tk_3)[0]? = some (d, .inr (2, [.ref (dr 0), .int di_1])) := rfl
theorem W_X2_tell_c_X3_get_1_2 {cI cP : ClassId} {d : Nat} {dr : Nat → Nat} {da : Nat → Nat} {di_1 : Int32} {dk_0 : Nat → Int32} {t : Nat} {tr : Nat → Nat} {ta : Nat → Nat} {ti_4 : Int32} {ti_5 : Int32} {ti_6 : Int32} {ti_7 : Int32} {ti_8 : Int32} {ti_9 : Int32} {ti_10 : Int32} {tk_0 : Nat → Int32} {tk_1 : Nat → Int32} {tk_2 : Nat → Int32} {tk_3 : Nat → Int32} : ([1, 2] : List Nat).map (fun i => (W_X2_tell cI cP d dr da di_1 dk_0 t tr ta ti_4 ti_5 ti_6 ti_7 ti_8 ti_9 ti_10 tk_0 tk_1 tk_2 tk_3)[i]?) = (W_X3_get cI cP (dr 0) (da 0) 3 dk_0).map some := rfl
theorem W_X2_tell_x_X3_get_1_2 {cI cP : ClassId} {d : Nat} {dr : Nat → Nat} {da : Nat → Nat} {di_1 : Int32} {dk_0 : Nat → Int32} {t : Nat} {tr : Nat → Nat} {ta : Nat → Nat} {ti_4 : Int32} {ti_5 : Int32} {ti_6 : Int32} {ti_7 : Int32} {ti_8 : Int32} {ti_9 : Int32} {ti_10 : Int32} {tk_0 : Nat → Int32} {tk_1 : Nat → Int32} {tk_2 : Nat → Int32} {tk_3 : Nat → Int32} : xset (W_X2_tell cI cP d dr da di_1 dk_0 t tr ta ti_4 ti_5 ti_6 ti_7 ti_8 ti_9 ti_10 tk_0 tk_1 tk_2 tk_3) [1, 2] (W_X3_get cI cP (dr 0) (da 0) 3 dk_0) = W_X2_tell cI cP d dr da di_1 dk_0 t tr ta ti_4 ti_5 ti_6 ti_7 ti_8 ti_9 ti_10 tk_0 tk_1 tk_2 tk_3 := rfl
theorem W_X2_tell_o1 {cI cP : ClassId} {d : Nat} {dr : Nat → Nat} {da : Nat → Nat} {di_1 : Int32} {dk_0 : Nat → Int32} {t : Nat} {tr : Nat → Nat} {ta : Nat → Nat} {ti_4 : Int32} {ti_5 : Int32} {ti_6 : Int32} {ti_7 : Int32} {ti_8 : Int32} {ti_9 : Int32} {ti_10 : Int32} {tk_0 : Nat → Int32} {tk_1 : Nat → Int32} {tk_2 : Nat → Int32} {tk_3 : Nat → Int32} : (W_X2_tell cI cP d dr da di_1 dk_0 t tr ta ti_4 ti_5 ti_6 ti_7 ti_8 ti_9 ti_10 tk_0 tk_1 tk_2 tk_3)[1]? = some ((dr 0), .inr (3, [.ref (da 0)])) := rfl
theorem W_X2_tell_c_X5_addDraught_3_4_5_6_7_8_9_10_11 {cI cP : ClassId} {d : Nat} {dr : Nat → Nat} {da : Nat → Nat} {di_1 : Int32} {dk_0 : Nat → Int32} {t : Nat} {tr : Nat → Nat} {ta : Nat → Nat} {ti_4 : Int32} {ti_5 : Int32} {ti_6 : Int32} {ti_7 : Int32} {ti_8 : Int32} {ti_9 : Int32} {ti_10 : Int32} {tk_0 : Nat → Int32} {tk_1 : Nat → Int32} {tk_2 : Nat → Int32} {tk_3 : Nat → Int32} : ([3, 4, 5, 6, 7, 8, 9, 10, 11] : List Nat).map (fun i => (W_X2_tell cI cP d dr da di_1 dk_0 t tr ta ti_4 ti_5 ti_6 ti_7 ti_8 ti_9 ti_10 tk_0 tk_1 tk_2 tk_3)[i]?) = (W_X5_addDraught cI cP t tr ta ti_4 ti_5 ti_6 ti_7 ti_8 ti_9 ti_10 tk_0 tk_1 tk_2 tk_3).map some := rfl
theorem W_X2_tell_x_X5_addDraught_3_4_5_6_7_8_9_10_11 {cI cP : ClassId} {d : Nat} {dr : Nat → Nat} {da : Nat → Nat} {di_1 : Int32} {dk_0 : Nat → Int32} {t : Nat} {tr : Nat → Nat} {ta : Nat → Nat} {ti_4 : Int32} {ti_5 : Int32} {ti_6 : Int32} {ti_7 : Int32} {ti_8 : Int32} {ti_9 : Int32} {ti_10 : Int32} {tk_0 : Nat → Int32} {tk_1 : Nat → Int32} {tk_2 : Nat → Int32} {tk_3 : Nat → Int32} {n0_ : Int32} {n1_ : Nat → Int32} {n2_ : Nat → Int32} : xset (W_X2_tell cI cP d dr da di_1 dk_0 t tr ta ti_4 ti_5 ti_6 ti_7 ti_8 ti_9 ti_10 tk_0 tk_1 tk_2 tk_3) [3, 4, 5, 6, 7, 8, 9, 10, 11] (W_X5_addDraught cI cP t tr ta ti_4 ti_5 ti_6 ti_7 n0_ ti_9 ti_10 tk_0 tk_1 n1_ n2_) = W_X2_tell cI cP d dr da di_1 dk_0 t tr ta ti_4 ti_5 ti_6 ti_7 n0_ ti_9 ti_10 tk_0 tk_1 n1_ n2_ := rfl
theorem W_X2_tell_o3 {cI cP : ClassId} {d : Nat} {dr : Nat → Nat} {da : Nat → Nat} {di_1 : Int32} {dk_0 : Nat → Int32} {t : Nat} {tr : Nat → Nat} {ta : Nat → Nat} {ti_4 : Int32} {ti_5 : Int32} {ti_6 : Int32} {ti_7 : Int32} {ti_8 : Int32} {ti_9 : Int32} {ti_10 : Int32} {tk_0 : Nat → Int32} {tk_1 : Nat → Int32} {tk_2 : Nat → Int32} {tk_3 : Nat → Int32} : (W_X2_tell cI cP d dr da di_1 dk_0 t tr ta ti_4 ti_5 ti_6 ti_7 ti_8 ti_9 ti_10 tk_0 tk_1 tk_2 tk_3)[3]? = some (t, .inr (5, [.ref (tr 0), .ref (tr 1), .ref (tr 2), .ref (tr 3), .int ti_4, .int ti_5, .int ti_6, .int ti_7, .int ti_8, .int ti_9, .int ti_10])) := rfl
theorem W_X2_tell_c_X5_tellCheese_3_4_5_6_7_8_9_10_11 {cI cP : ClassId} {d : Nat} {dr : Nat → Nat} {da : Nat → Nat} {di_1 : Int32} {dk_0 : Nat → Int32} {t : Nat} {tr : Nat → Nat} {ta : Nat → Nat} {ti_4 : Int32} {ti_5 : Int32} {ti_6 : Int32} {ti_7 : Int32} {ti_8 : Int32} {ti_9 : Int32} {ti_10 : Int32} {tk_0 : Nat → Int32} {tk_1 : Nat → Int32} {tk_2 : Nat → Int32} {tk_3 : Nat → Int32} : ([3, 4, 5, 6, 7, 8, 9, 10, 11] : List Nat).map (fun i => (W_X2_tell cI cP d dr da di_1 dk_0 t tr ta ti_4 ti_5 ti_6 ti_7 ti_8 ti_9 ti_10 tk_0 tk_1 tk_2 tk_3)[i]?) = (W_X5_tellCheese cI cP t tr ta ti_4 ti_5 ti_6 ti_7 ti_8 ti_9 ti_10 tk_0 tk_1 tk_2 tk_3).map some := rfl
theorem W_X2_tell_x_X5_tellCheese_3_4_5_6_7_8_9_10_11 {cI cP : ClassId} {d : Nat} {dr : Nat → Nat} {da : Nat → Nat} {di_1 : Int32} {dk_0 : Nat → Int32} {t : Nat} {tr : Nat → Nat} {ta : Nat → Nat} {ti_4 : Int32} {ti_5 : Int32} {ti_6 : Int32} {ti_7 : Int32} {ti_8 : Int32} {ti_9 : Int32} {ti_10 : Int32} {tk_0 : Nat → Int32} {tk_1 : Nat → Int32} {tk_2 : Nat → Int32} {tk_3 : Nat → Int32} {n0_ : Int32} {n1_ : Int32} {n2_ : Nat → Int32} : xset (W_X2_tell cI cP d dr da di_1 dk_0 t tr ta ti_4 ti_5 ti_6 ti_7 ti_8 ti_9 ti_10 tk_0 tk_1 tk_2 tk_3) [3, 4, 5, 6, 7, 8, 9, 10, 11] (W_X5_tellCheese cI cP t tr ta ti_4 n0_ n1_ ti_7 ti_8 ti_9 ti_10 tk_0 n2_ tk_2 tk_3) = W_X2_tell cI cP d dr da di_1 dk_0 t tr ta ti_4 n0_ n1_ ti_7 ti_8 ti_9 ti_10 tk_0 n2_ tk_2 tk_3 := rfl
theorem W_X2_tell_c_X5_addMan_3_4_5_6_7_8_9_10_11 {cI cP : ClassId} {d : Nat} {dr : Nat → Nat} {da : Nat → Nat} {di_1 : Int32} {dk_0 : Nat → Int32} {t : Nat} {tr : Nat → Nat} {ta : Nat → Nat} {ti_4 : Int32} {ti_5 : Int32} {ti_6 : Int32} {ti_7 : Int32} {ti_8 : Int32} {ti_9 : Int32} {ti_10 : Int32} {tk_0 : Nat → Int32} {tk_1 : Nat → Int32} {tk_2 : Nat → Int32} {tk_3 : Nat → Int32} : ([3, 4, 5, 6, 7, 8, 9, 10, 11] : List Nat).map (fun i => (W_X2_tell cI cP d dr da di_1 dk_0 t tr ta ti_4 ti_5 ti_6 ti_7 ti_8 ti_9 ti_10 tk_0 tk_1 tk_2 tk_3)[i]?) = (W_X5_addMan cI cP t tr ta ti_4 ti_5 ti_6 ti_7 ti_8 ti_9 ti_10 tk_0 tk_1 tk_2 tk_3).map some := rfl
theorem W_X2_tell_x_X5_addMan_3_4_5_6_7_8_9_10_11 {cI cP : ClassId} {d : Nat} {dr : Nat → Nat} {da : Nat → Nat} {di_1 : Int32} {dk_0 : Nat → Int32} {t : Nat} {tr : Nat → Nat} {ta : Nat → Nat} {ti_4 : Int32} {ti_5 : Int32} {ti_6 : Int32} {ti_7 : Int32} {ti_8 : Int32} {ti_9 : Int32} {ti_10 : Int32} {tk_0 : Nat → Int32} {tk_1 : Nat → Int32} {tk_2 : Nat → Int32} {tk_3 : Nat → Int32} {n0_ : Int32} {n1_ : Nat → Int32} : xset (W_X2_tell cI cP d dr da di_1 dk_0 t tr ta ti_4 ti_5 ti_6 ti_7 ti_8 ti_9 ti_10 tk_0 tk_1 tk_2 tk_3) [3, 4, 5, 6, 7, 8, 9, 10, 11] (W_X5_addMan cI cP t tr ta n0_ ti_5 ti_6 ti_7 ti_8 ti_9 ti_10 n1_ tk_1 tk_2 tk_3) = W_X2_tell cI cP d dr da di_1 dk_0 t tr ta n0_ ti_5 ti_6 ti_7 ti_8 ti_9 ti_10 n1_ tk_1 tk_2 tk_3 := rfl
theorem W_X2_tell_c_X5_tellOil_3_4_5_6_7_8_9_10_11 {cI cP : ClassId} {d : Nat} {dr : Nat → Nat} {da : Nat → Nat} {di_1 : Int32} {dk_0 : Nat → Int32} {t : Nat} {tr : Nat → Nat} {ta : Nat → Nat} {ti_4 : Int32} {ti_5 : Int32} {ti_6 : Int32} {ti_7 : Int32} {ti_8 : Int32} {ti_9 : Int32} {ti_10 : Int32} {tk_0 : Nat → Int32} {tk_1 : Nat → Int32} {tk_2 : Nat → Int32} {tk_3 : Nat → Int32} : ([3, 4, 5, 6, 7, 8, 9, 10, 11] : List Nat).map (fun i => (W_X2_tell cI cP d dr da di_1 dk_0 t tr ta ti_4 ti_5 ti_6 ti_7 ti_8 ti_9 ti_10 tk_0 tk_1 tk_2 tk_3)[i]?) = (W_X5_tellOil cI cP t tr ta ti_4 ti_5 ti_6 ti_7 ti_8 ti_9 ti_10 tk_0 tk_1 tk_2 tk_3).map some := rfl
theorem W_X2_tell_x_X5_tellOil_3_4_5_6_7_8_9_10_11 {cI cP : ClassId} {d : Nat} {dr : Nat → Nat} {da : Nat → Nat} {di_1 : Int32} {dk_0 : Nat → Int32} {t : Nat} {tr : Nat → Nat} {ta : Nat → Nat} {ti_4 : Int32} {ti_5 : Int32} {ti_6 : Int32} {ti_7 : Int32} {ti_8 : Int32} {ti_9 : Int32} {ti_10 : Int32} {tk_0 : Nat → Int32} {tk_1 : Nat → Int32} {tk_2 : Nat → Int32} {tk_3 : Nat → Int32} {n0_ : Int32} {n1_ : Int32} {n2_ : Nat → Int32} : xset (W_X2_tell cI cP d dr da di_1 dk_0 t tr ta ti_4 ti_5 ti_6 ti_7 ti_8 ti_9 ti_10 tk_0 tk_1 tk_2 tk_3) [3, 4, 5, 6, 7, 8, 9, 10, 11] (W_X5_tellOil cI cP t tr ta ti_4 n0_ n1_ ti_7 ti_8 ti_9 ti_10 tk_0 n2_ tk_2 tk_3) = W_X2_tell cI cP d dr da di_1 dk_0 t tr ta ti_4 n0_ n1_ ti_7 ti_8 ti_9 ti_10 tk_0 n2_ tk_2 tk_3 := rfl
theorem W_X2_tell_c_X5_tellStep_3_4_5_6_7_8_9_10_11 {cI cP : ClassId} {d : Nat} {dr : Nat → Nat} {da : Nat → Nat} {di_1 : Int32} {dk_0 : Nat → Int32} {t : Nat} {tr : Nat → Nat} {ta : Nat → Nat} {ti_4 : Int32} {ti_5 : Int32} {ti_6 : Int32} {ti_7 : Int32} {ti_8 : Int32} {ti_9 : Int32} {ti_10 : Int32} {tk_0 : Nat → Int32} {tk_1 : Nat → Int32} {tk_2 : Nat → Int32} {tk_3 : Nat → Int32} : ([3, 4, 5, 6, 7, 8, 9, 10, 11] : List Nat).map (fun i => (W_X2_tell cI cP d dr da di_1 dk_0 t tr ta ti_4 ti_5 ti_6 ti_7 ti_8 ti_9 ti_10 tk_0 tk_1 tk_2 tk_3)[i]?) = (W_X5_tellStep cI cP t tr ta ti_4 ti_5 ti_6 ti_7 ti_8 ti_9 ti_10 tk_0 tk_1 tk_2 tk_3).map some := rfl
theorem W_X2_tell_x_X5_tellStep_3_4_5_6_7_8_9_10_11 {cI cP : ClassId} {d : Nat} {dr : Nat → Nat} {da : Nat → Nat} {di_1 : Int32} {dk_0 : Nat → Int32} {t : Nat} {tr : Nat → Nat} {ta : Nat → Nat} {ti_4 : Int32} {ti_5 : Int32} {ti_6 : Int32} {ti_7 : Int32} {ti_8 : Int32} {ti_9 : Int32} {ti_10 : Int32} {tk_0 : Nat → Int32} {tk_1 : Nat → Int32} {tk_2 : Nat → Int32} {tk_3 : Nat → Int32} {n0_ : Int32} : xset (W_X2_tell cI cP d dr da di_1 dk_0 t tr ta ti_4 ti_5 ti_6 ti_7 ti_8 ti_9 ti_10 tk_0 tk_1 tk_2 tk_3) [3, 4, 5, 6, 7, 8, 9, 10, 11] (W_X5_tellStep cI cP t tr ta ti_4 ti_5 ti_6 n0_ ti_8 ti_9 ti_10 tk_0 tk_1 tk_2 tk_3) = W_X2_tell cI cP d dr da di_1 dk_0 t tr ta ti_4 ti_5 ti_6 n0_ ti_8 ti_9 ti_10 tk_0 tk_1 tk_2 tk_3 := rfl
theorem W_X2_tell_c_X5_tellSun_3_4_5_6_7_8_9_10_11 {cI cP : ClassId} {d : Nat} {dr : Nat → Nat} {da : Nat → Nat} {di_1 : Int32} {dk_0 : Nat → Int32} {t : Nat} {tr : Nat → Nat} {ta : Nat → Nat} {ti_4 : Int32} {ti_5 : Int32} {ti_6 : Int32} {ti_7 : Int32} {ti_8 : Int32} {ti_9 : Int32} {ti_10 : Int32} {tk_0 : Nat → Int32} {tk_1 : Nat → Int32} {tk_2 : Nat → Int32} {tk_3 : Nat → Int32} : ([3, 4, 5, 6, 7, 8, 9, 10, 11] : List Nat).map (fun i => (W_X2_tell cI cP d dr da di_1 dk_0 t tr ta ti_4 ti_5 ti_6 ti_7 ti_8 ti_9 ti_10 tk_0 tk_1 tk_2 tk_3)[i]?) = (W_X5_tellSun cI cP t tr ta ti_4 ti_5 ti_6 ti_7 ti_8 ti_9 ti_10 tk_0 tk_1 tk_2 tk_3).map some := rfl
theorem W_X2_tell_x_X5_tellSun_3_4_5_6_7_8_9_10_11 {cI cP : ClassId} {d : Nat} {dr : Nat → Nat} {da : Nat → Nat} {di_1 : Int32} {dk_0 : Nat → Int32} {t : Nat} {tr : Nat → Nat} {ta : Nat → Nat} {ti_4 : Int32} {ti_5 : Int32} {ti_6 : Int32} {ti_7 : Int32} {ti_8 : Int32} {ti_9 : Int32} {ti_10 : Int32} {tk_0 : Nat → Int32} {tk_1 : Nat → Int32} {tk_2 : Nat → Int32} {tk_3 : Nat → Int32} {n0_ : Int32} {n1_ : Int32} : xset (W_X2_tell cI cP d dr da di_1 dk_0 t tr ta ti_4 ti_5 ti_6 ti_7 ti_8 ti_9 ti_10 tk_0 tk_1 tk_2 tk_3) [3, 4, 5, 6, 7, 8, 9, 10, 11] (W_X5_tellSun cI cP t tr ta ti_4 ti_5 ti_6 ti_7 ti_8 n0_ n1_ tk_0 tk_1 tk_2 tk_3) = W_X2_tell cI cP d dr da di_1 dk_0 t tr ta ti_4 ti_5 ti_6 ti_7 ti_8 n0_ n1_ tk_0 tk_1 tk_2 tk_3 := rfl
set_option maxHeartbeats 4000000 in
set_option maxRecDepth 100000 in
theorem c_X2_tell (l : Launch) (D : va_G) (cI cP : ClassId) (sz : Nat) (d : Nat) (dr : Nat → Nat) (da : Nat → Nat) (di_1 : Int32) (dk_0 : Nat → Int32) (t : Nat) (tr : Nat → Nat) (ta : Nat → Nat) (ti_4 : Int32) (ti_5 : Int32) (ti_6 : Int32) (ti_7 : Int32) (ti_8 : Int32) (ti_9 : Int32) (ti_10 : Int32) (tk_0 : Nat → Int32) (tk_1 : Nat → Int32) (tk_2 : Nat → Int32) (tk_3 : Nat → Int32) (a1 : Int32) (hne : fX2_tell di_1 dk_0 ti_4 ti_5 ti_6 ti_7 ti_8 ti_9 ti_10 tk_0 tk_1 tk_2 tk_3 a1 ≠ none) : xMi l yX2_tell wsX2_tell ({ frames := 3, cells := 0, slots := 0, locals := 67 } : Room) D (xT cI cP) [.ref d, .int a1, .ref t] (W_X2_tell cI cP d dr da di_1 dk_0 t tr ta ti_4 ti_5 ti_6 ti_7 ti_8 ti_9 ti_10 tk_0 tk_1 tk_2 tk_3) sz (fun r (u : (Int32 × Int32 × Int32 × Int32 × Int32 × Int32 × Int32 × (Nat → Int32) × (Nat → Int32) × (Nat → Int32) × (Nat → Int32))) => fX2_tell di_1 dk_0 ti_4 ti_5 ti_6 ti_7 ti_8 ti_9 ti_10 tk_0 tk_1 tk_2 tk_3 a1 = some (r, u)) (fun u => W_X2_tell cI cP d dr da di_1 dk_0 t tr ta u.1 u.2.1 u.2.2.1 u.2.2.2.1 u.2.2.2.2.1 u.2.2.2.2.2.1 u.2.2.2.2.2.2.1 u.2.2.2.2.2.2.2.1 u.2.2.2.2.2.2.2.2.1 u.2.2.2.2.2.2.2.2.2.1 u.2.2.2.2.2.2.2.2.2.2) 0 0 := by
  refine xMz_of (cc := cX2_tell) (maxL := 5) (by decide +kernel) rfl (Nat.le_of_ble_eq_true rfl) ?_
  intro p e s m args below meth c A ls hx hb hml hown hts hname hN hK hA hP hD hS hl Q hret
  have he := fX2_tell.eq_1 di_1 dk_0 ti_4 ti_5 ti_6 ti_7 ti_8 ti_9 ti_10 tk_0 tk_1 tk_2 tk_3 a1
  have hl : lv_has ls 5 [(0, .ref d), (1, .int a1), (2, .ref t)] := hl
  refine lv_aload_n hx hb dX2_tell_0 rfl (lv_at hl 0 rfl) ?_
  refine va_get (D := D) (ci := 2) (v := .ref (dr 0)) (C := RX2) (T := TX2) (N := 2) hx hb hts hi_X2_tell_2 hown hK hP 0 W_X2_tell_o0 rfl 0 (by decide) (hts (.fieldLink RX2 16 "BlindLanterns$Reader" "numbers" "LBlindLanterns$Row;") (List.mem_of_getElem? (i := 1) rfl)) (fun _ h9 => h9) rfl dX2_tell_1 ?_
  refine lv_iconst (v := 0) hx hb dX2_tell_4 (by decide) ?_
  have n1_ : fX3_get dk_0 (0 : Int32) 3 ≠ none := fun z => hne (he.trans (xbd_none z))
  refine xci (va_runV (As := [.int (0 : Int32)]) (rest := []) ⟨hx, hb, hml, hown, hts⟩ (c_X3_get l D cI cP s.heap.size (dr 0) (da 0) 3 dk_0 (0 : Int32) n1_) (cwV 1 hts gX2_tell_X3_get rfl rfl rfl (by decide +kernel) ⟨Nat.le_of_ble_eq_true rfl, Nat.le_of_ble_eq_true rfl⟩) (xPV hN hK hP hD [1, 2] W_X2_tell_c_X3_get_1_2 (by decide) (ci := 3) (j := 1) rfl W_X2_tell_o1) rfl rfl hl.1 rfl (lv_room (Nat.le_of_ble_eq_true rfl)) dX2_tell_5 ⟨Nat.le_of_ble_eq_true rfl, Nat.le_of_ble_eq_true rfl⟩) hP hD hS hA [1, 2] W_X2_tell_c_X3_get_1_2 (fun _ => rfl) (fun r5 u5 H locs hw hP hD hS => ?_)
  rw [W_X2_tell_x_X3_get_1_2] at hP hD
  replace he := he.trans (xbd_some hw)
  refine lv_istore_n (lv' := [(3, .int r5), (0, .ref d), (1, .int a1), (2, .ref t)]) hx hb dX2_tell_8 rfl hl (by decide) rfl (fun ls hl => ?_)
  refine lv_aload_n hx hb dX2_tell_9 rfl (lv_at hl 1 rfl) ?_
  refine va_get (D := D) (ci := 2) (v := .ref (dr 0)) (C := RX2) (T := TX2) (N := 2) hx hb hts hi_X2_tell_2 hown hK hP 0 W_X2_tell_o0 rfl 0 (by decide) (hts (.fieldLink RX2 16 "BlindLanterns$Reader" "numbers" "LBlindLanterns$Row;") (List.mem_of_getElem? (i := 1) rfl)) (fun _ h9 => h9) rfl dX2_tell_10 ?_
  refine lv_iconst (v := 1) hx hb dX2_tell_13 (by decide) ?_
  have n2_ : fX3_get dk_0 (1 : Int32) 3 ≠ none := fun z => hne (he.trans (xbd_none z))
  refine xci (va_runV (As := [.int (1 : Int32)]) (rest := []) ⟨hx, hb, hml, hown, hts⟩ (c_X3_get l D cI cP H.size (dr 0) (da 0) 3 dk_0 (1 : Int32) n2_) (cwV 1 hts gX2_tell_X3_get rfl rfl rfl (by decide +kernel) ⟨Nat.le_of_ble_eq_true rfl, Nat.le_of_ble_eq_true rfl⟩) (xPV hN hK hP hD [1, 2] W_X2_tell_c_X3_get_1_2 (by decide) (ci := 3) (j := 1) rfl W_X2_tell_o1) rfl rfl hl.1 rfl (lv_room (Nat.le_of_ble_eq_true rfl)) dX2_tell_14 ⟨Nat.le_of_ble_eq_true rfl, Nat.le_of_ble_eq_true rfl⟩) hP hD hS hA [1, 2] W_X2_tell_c_X3_get_1_2 (fun _ => rfl) (fun r14 u14 H locs hw hP hD hS => ?_)
  rw [W_X2_tell_x_X3_get_1_2] at hP hD
  replace he := he.trans (xbd_some hw)
  refine lv_istore (lv' := [(4, .int r14), (3, .int r5), (0, .ref d), (1, .int a1), (2, .ref t)]) hx hb dX2_tell_17 hl (by decide) rfl (fun ls hl => ?_)
  refine lv_iload_n hx hb dX2_tell_19 rfl (lv_at hl 3 rfl) ?_
  by_cases k20_0 : a1 = (100 : Int32)
  · replace he := he.trans (if_pos k20_0)
    refine lv_tableIn hx hb dX2_tell_20 (off := 186) (tgt := 206) (by rw [k20_0]; decide) (by rw [k20_0]; decide) (by rw [k20_0]; rfl) (by decide) ?_
    refine lv_aload_n hx hb dX2_tell_206 rfl (lv_at hl 2 rfl) ?_
    refine va_get (D := D) (ci := 2) (v := .int di_1) (C := RX2) (T := TX2) (N := 2) hx hb hts hi_X2_tell_2 hown hK hP 0 W_X2_tell_o0 rfl 1 (by decide) (hts (.fieldLink RX2 37 "BlindLanterns$Reader" "count" "I") (List.mem_of_getElem? (i := 2) rfl)) (fun _ h9 => h9) rfl dX2_tell_207 ?_
    refine lv_iconst (v := 2) hx hb dX2_tell_210 (by decide) ?_
    refine lv_icmp_ne (tgt := 228) hx hb dX2_tell_211 (by decide) (fun c3 => ?_) (fun c3 => ?_)
    · replace he := he.trans (if_neg c3)
      refine lv_iconst (v := 0) hx hb dX2_tell_228 (by decide) ?_
      exact hret (0 : Int32) (ti_4, ti_5, ti_6, ti_7, ti_8, ti_9, ti_10, tk_0, tk_1, tk_2, tk_3) _ _ _ _ dX2_tell_229 (Or.inl rfl) he hP hD hS
    · replace he := he.trans (if_pos c3)
      refine lv_aload_n hx hb dX2_tell_214 rfl (lv_at hl 4 rfl) ?_
      refine lv_iload_n hx hb dX2_tell_215 rfl (lv_at hl 1 rfl) ?_
      refine lv_iload hx hb dX2_tell_216 (lv_at hl 0 rfl) ?_
      have n4_ : fX5_addDraught ti_8 tk_2 tk_3 r5 r14 ≠ none := fun z => hne (he.trans (xbd2_none z))
      refine xci (va_runV (As := [.int r5, .int r14]) (rest := []) ⟨hx, hb, hml, hown, hts⟩ (c_X5_addDraught l D cI cP H.size t tr ta ti_4 ti_5 ti_6 ti_7 ti_8 ti_9 ti_10 tk_0 tk_1 tk_2 tk_3 r5 r14 n4_) (cwV 2 hts gX2_tell_X5_addDraught rfl rfl rfl (by decide +kernel) ⟨Nat.le_of_ble_eq_true rfl, Nat.le_of_ble_eq_true rfl⟩) (xPV hN hK hP hD [3, 4, 5, 6, 7, 8, 9, 10, 11] W_X2_tell_c_X5_addDraught_3_4_5_6_7_8_9_10_11 (by decide) (ci := 5) (j := 3) rfl W_X2_tell_o3) rfl rfl hl.1 rfl (lv_room (Nat.le_of_ble_eq_true rfl)) dX2_tell_218 ⟨Nat.le_of_ble_eq_true rfl, Nat.le_of_ble_eq_true rfl⟩) hP hD hS hA [3, 4, 5, 6, 7, 8, 9, 10, 11] W_X2_tell_c_X5_addDraught_3_4_5_6_7_8_9_10_11 (fun _ => rfl) (fun r218 u218 H locs hw hP hD hS => ?_)
      rw [W_X2_tell_x_X5_addDraught_3_4_5_6_7_8_9_10_11] at hP hD
      replace he := he.trans (xbd2_some hw)
      refine lv_if_eq (tgt := 228) hx hb dX2_tell_221 (by decide) (fun c5 => ?_) (fun c5 => ?_)
      · replace he := he.trans (if_pos c5)
        refine lv_iconst (v := 0) hx hb dX2_tell_228 (by decide) ?_
        exact hret (0 : Int32) (ti_4, ti_5, ti_6, ti_7, u218.1, ti_9, ti_10, tk_0, tk_1, u218.2.1, u218.2.2) _ _ _ _ dX2_tell_229 (Or.inl rfl) he hP hD hS
      · replace he := he.trans (if_neg c5)
        refine lv_iconst (v := 1) hx hb dX2_tell_224 (by decide) ?_
        refine lv_goto (tgt := 229) hx hb dX2_tell_225 (by decide) ?_
        exact hret (1 : Int32) (ti_4, ti_5, ti_6, ti_7, u218.1, ti_9, ti_10, tk_0, tk_1, u218.2.1, u218.2.2) _ _ _ _ dX2_tell_229 (Or.inr rfl) he hP hD hS
  replace he := he.trans (if_neg k20_0)
  by_cases k20_1 : a1 = (101 : Int32)
  · replace he := he.trans (if_pos k20_1)
    refine lv_tableIn hx hb dX2_tell_20 (off := 142) (tgt := 162) (by rw [k20_1]; decide) (by rw [k20_1]; decide) (by rw [k20_1]; rfl) (by decide) ?_
    refine lv_aload_n hx hb dX2_tell_162 rfl (lv_at hl 2 rfl) ?_
    refine va_get (D := D) (ci := 2) (v := .int di_1) (C := RX2) (T := TX2) (N := 2) hx hb hts hi_X2_tell_2 hown hK hP 0 W_X2_tell_o0 rfl 1 (by decide) (hts (.fieldLink RX2 37 "BlindLanterns$Reader" "count" "I") (List.mem_of_getElem? (i := 2) rfl)) (fun _ h9 => h9) rfl dX2_tell_163 ?_
    refine lv_iconst (v := 1) hx hb dX2_tell_166 (by decide) ?_
    refine lv_icmp_ne (tgt := 182) hx hb dX2_tell_167 (by decide) (fun c6 => ?_) (fun c6 => ?_)
    · replace he := he.trans (if_neg c6)
      refine lv_iconst (v := 0) hx hb dX2_tell_182 (by decide) ?_
      exact hret (0 : Int32) (ti_4, ti_5, ti_6, ti_7, ti_8, ti_9, ti_10, tk_0, tk_1, tk_2, tk_3) _ _ _ _ dX2_tell_183 (Or.inl rfl) he hP hD hS
    · replace he := he.trans (if_pos c6)
      refine lv_aload_n hx hb dX2_tell_170 rfl (lv_at hl 4 rfl) ?_
      refine lv_iload_n hx hb dX2_tell_171 rfl (lv_at hl 1 rfl) ?_
      have n7_ : fX5_tellCheese ti_4 ti_5 ti_6 tk_1 r5 ≠ none := fun z => hne (he.trans (xbd2_none z))
      refine xci (va_runV (As := [.int r5]) (rest := []) ⟨hx, hb, hml, hown, hts⟩ (c_X5_tellCheese l D cI cP H.size t tr ta ti_4 ti_5 ti_6 ti_7 ti_8 ti_9 ti_10 tk_0 tk_1 tk_2 tk_3 r5 n7_) (cwV 1 hts gX2_tell_X5_tellCheese rfl rfl rfl (by decide +kernel) ⟨Nat.le_of_ble_eq_true rfl, Nat.le_of_ble_eq_true rfl⟩) (xPV hN hK hP hD [3, 4, 5, 6, 7, 8, 9, 10, 11] W_X2_tell_c_X5_tellCheese_3_4_5_6_7_8_9_10_11 (by decide) (ci := 5) (j := 3) rfl W_X2_tell_o3) rfl rfl hl.1 rfl (lv_room (Nat.le_of_ble_eq_true rfl)) dX2_tell_172 ⟨Nat.le_of_ble_eq_true rfl, Nat.le_of_ble_eq_true rfl⟩) hP hD hS hA [3, 4, 5, 6, 7, 8, 9, 10, 11] W_X2_tell_c_X5_tellCheese_3_4_5_6_7_8_9_10_11 (fun _ => rfl) (fun r172 u172 H locs hw hP hD hS => ?_)
      rw [W_X2_tell_x_X5_tellCheese_3_4_5_6_7_8_9_10_11] at hP hD
      replace he := he.trans (xbd2_some hw)
      refine lv_if_eq (tgt := 182) hx hb dX2_tell_175 (by decide) (fun c8 => ?_) (fun c8 => ?_)
      · replace he := he.trans (if_pos c8)
        refine lv_iconst (v := 0) hx hb dX2_tell_182 (by decide) ?_
        exact hret (0 : Int32) (ti_4, u172.1, u172.2.1, ti_7, ti_8, ti_9, ti_10, tk_0, u172.2.2, tk_2, tk_3) _ _ _ _ dX2_tell_183 (Or.inl rfl) he hP hD hS
      · replace he := he.trans (if_neg c8)
        refine lv_iconst (v := 1) hx hb dX2_tell_178 (by decide) ?_
        refine lv_goto (tgt := 183) hx hb dX2_tell_179 (by decide) ?_
        exact hret (1 : Int32) (ti_4, u172.1, u172.2.1, ti_7, ti_8, ti_9, ti_10, tk_0, u172.2.2, tk_2, tk_3) _ _ _ _ dX2_tell_183 (Or.inr rfl) he hP hD hS
  replace he := he.trans (if_neg k20_1)
  by_cases k20_2 : a1 = (109 : Int32)
  · replace he := he.trans (if_pos k20_2)
    refine lv_tableIn hx hb dX2_tell_20 (off := 88) (tgt := 108) (by rw [k20_2]; decide) (by rw [k20_2]; decide) (by rw [k20_2]; rfl) (by decide) ?_
    refine lv_aload_n hx hb dX2_tell_108 rfl (lv_at hl 2 rfl) ?_
    refine va_get (D := D) (ci := 2) (v := .int di_1) (C := RX2) (T := TX2) (N := 2) hx hb hts hi_X2_tell_2 hown hK hP 0 W_X2_tell_o0 rfl 1 (by decide) (hts (.fieldLink RX2 37 "BlindLanterns$Reader" "count" "I") (List.mem_of_getElem? (i := 2) rfl)) (fun _ h9 => h9) rfl dX2_tell_109 ?_
    refine lv_iconst (v := 1) hx hb dX2_tell_112 (by decide) ?_
    refine lv_icmp_ne (tgt := 128) hx hb dX2_tell_113 (by decide) (fun c9 => ?_) (fun c9 => ?_)
    · replace he := he.trans (if_neg c9)
      refine lv_iconst (v := 0) hx hb dX2_tell_128 (by decide) ?_
      exact hret (0 : Int32) (ti_4, ti_5, ti_6, ti_7, ti_8, ti_9, ti_10, tk_0, tk_1, tk_2, tk_3) _ _ _ _ dX2_tell_129 (Or.inl rfl) he hP hD hS
    · replace he := he.trans (if_pos c9)
      refine lv_aload_n hx hb dX2_tell_116 rfl (lv_at hl 4 rfl) ?_
      refine lv_iload_n hx hb dX2_tell_117 rfl (lv_at hl 1 rfl) ?_
      have n10_ : fX5_addMan ti_4 tk_0 r5 ≠ none := fun z => hne (he.trans (xbd2_none z))
      refine xci (va_runV (As := [.int r5]) (rest := []) ⟨hx, hb, hml, hown, hts⟩ (c_X5_addMan l D cI cP H.size t tr ta ti_4 ti_5 ti_6 ti_7 ti_8 ti_9 ti_10 tk_0 tk_1 tk_2 tk_3 r5 n10_) (cwV 1 hts gX2_tell_X5_addMan rfl rfl rfl (by decide +kernel) ⟨Nat.le_of_ble_eq_true rfl, Nat.le_of_ble_eq_true rfl⟩) (xPV hN hK hP hD [3, 4, 5, 6, 7, 8, 9, 10, 11] W_X2_tell_c_X5_addMan_3_4_5_6_7_8_9_10_11 (by decide) (ci := 5) (j := 3) rfl W_X2_tell_o3) rfl rfl hl.1 rfl (lv_room (Nat.le_of_ble_eq_true rfl)) dX2_tell_118 ⟨Nat.le_of_ble_eq_true rfl, Nat.le_of_ble_eq_true rfl⟩) hP hD hS hA [3, 4, 5, 6, 7, 8, 9, 10, 11] W_X2_tell_c_X5_addMan_3_4_5_6_7_8_9_10_11 (fun _ => rfl) (fun r118 u118 H locs hw hP hD hS => ?_)
      rw [W_X2_tell_x_X5_addMan_3_4_5_6_7_8_9_10_11] at hP hD
      replace he := he.trans (xbd2_some hw)
      refine lv_if_eq (tgt := 128) hx hb dX2_tell_121 (by decide) (fun c11 => ?_) (fun c11 => ?_)
      · replace he := he.trans (if_pos c11)
        refine lv_iconst (v := 0) hx hb dX2_tell_128 (by decide) ?_
        exact hret (0 : Int32) (u118.1, ti_5, ti_6, ti_7, ti_8, ti_9, ti_10, u118.2, tk_1, tk_2, tk_3) _ _ _ _ dX2_tell_129 (Or.inl rfl) he hP hD hS
      · replace he := he.trans (if_neg c11)
        refine lv_iconst (v := 1) hx hb dX2_tell_124 (by decide) ?_
        refine lv_goto (tgt := 129) hx hb dX2_tell_125 (by decide) ?_
        exact hret (1 : Int32) (u118.1, ti_5, ti_6, ti_7, ti_8, ti_9, ti_10, u118.2, tk_1, tk_2, tk_3) _ _ _ _ dX2_tell_129 (Or.inr rfl) he hP hD hS
  replace he := he.trans (if_neg k20_2)
  by_cases k20_3 : a1 = (111 : Int32)
  · replace he := he.trans (if_pos k20_3)
    refine lv_tableIn hx hb dX2_tell_20 (off := 110) (tgt := 130) (by rw [k20_3]; decide) (by rw [k20_3]; decide) (by rw [k20_3]; rfl) (by decide) ?_
    refine lv_aload_n hx hb dX2_tell_130 rfl (lv_at hl 2 rfl) ?_
    refine va_get (D := D) (ci := 2) (v := .int di_1) (C := RX2) (T := TX2) (N := 2) hx hb hts hi_X2_tell_2 hown hK hP 0 W_X2_tell_o0 rfl 1 (by decide) (hts (.fieldLink RX2 37 "BlindLanterns$Reader" "count" "I") (List.mem_of_getElem? (i := 2) rfl)) (fun _ h9 => h9) rfl dX2_tell_131 ?_
    refine lv_iconst (v := 3) hx hb dX2_tell_134 (by decide) ?_
    refine lv_icmp_ne (tgt := 160) hx hb dX2_tell_135 (by decide) (fun c12 => ?_) (fun c12 => ?_)
    · replace he := he.trans (if_neg c12)
      refine lv_iconst (v := 0) hx hb dX2_tell_160 (by decide) ?_
      exact hret (0 : Int32) (ti_4, ti_5, ti_6, ti_7, ti_8, ti_9, ti_10, tk_0, tk_1, tk_2, tk_3) _ _ _ _ dX2_tell_161 (Or.inl rfl) he hP hD hS
    · replace he := he.trans (if_pos c12)
      refine lv_aload_n hx hb dX2_tell_138 rfl (lv_at hl 4 rfl) ?_
      refine lv_iload_n hx hb dX2_tell_139 rfl (lv_at hl 1 rfl) ?_
      refine lv_iload hx hb dX2_tell_140 (lv_at hl 0 rfl) ?_
      refine lv_aload_n hx hb dX2_tell_142 rfl (lv_at hl 2 rfl) ?_
      refine va_get (D := D) (ci := 2) (v := .ref (dr 0)) (C := RX2) (T := TX2) (N := 2) hx hb hts hi_X2_tell_2 hown hK hP 0 W_X2_tell_o0 rfl 0 (by decide) (hts (.fieldLink RX2 16 "BlindLanterns$Reader" "numbers" "LBlindLanterns$Row;") (List.mem_of_getElem? (i := 1) rfl)) (fun _ h9 => h9) rfl dX2_tell_143 ?_
      refine lv_iconst (v := 2) hx hb dX2_tell_146 (by decide) ?_
      have n13_ : fX3_get dk_0 (2 : Int32) 3 ≠ none := fun z => hne (he.trans (xbd_none z))
      refine xci (va_runV (As := [.int (2 : Int32)]) (rest := [.int r14, .int r5, .ref t]) ⟨hx, hb, hml, hown, hts⟩ (c_X3_get l D cI cP H.size (dr 0) (da 0) 3 dk_0 (2 : Int32) n13_) (cwV 1 hts gX2_tell_X3_get rfl rfl rfl (by decide +kernel) ⟨Nat.le_of_ble_eq_true rfl, Nat.le_of_ble_eq_true rfl⟩) (xPV hN hK hP hD [1, 2] W_X2_tell_c_X3_get_1_2 (by decide) (ci := 3) (j := 1) rfl W_X2_tell_o1) rfl rfl hl.1 rfl (lv_room (Nat.le_of_ble_eq_true rfl)) dX2_tell_147 ⟨Nat.le_of_ble_eq_true rfl, Nat.le_of_ble_eq_true rfl⟩) hP hD hS hA [1, 2] W_X2_tell_c_X3_get_1_2 (fun _ => rfl) (fun r147 u147 H locs hw hP hD hS => ?_)
      rw [W_X2_tell_x_X3_get_1_2] at hP hD
      replace he := he.trans (xbd_some hw)
      have n14_ : fX5_tellOil ti_4 ti_5 ti_6 tk_1 r5 r14 r147 ≠ none := fun z => hne (he.trans (xbd2_none z))
      refine xci (va_runV (As := [.int r5, .int r14, .int r147]) (rest := []) ⟨hx, hb, hml, hown, hts⟩ (c_X5_tellOil l D cI cP H.size t tr ta ti_4 ti_5 ti_6 ti_7 ti_8 ti_9 ti_10 tk_0 tk_1 tk_2 tk_3 r5 r14 r147 n14_) (cwV 3 hts gX2_tell_X5_tellOil rfl rfl rfl (by decide +kernel) ⟨Nat.le_of_ble_eq_true rfl, Nat.le_of_ble_eq_true rfl⟩) (xPV hN hK hP hD [3, 4, 5, 6, 7, 8, 9, 10, 11] W_X2_tell_c_X5_tellOil_3_4_5_6_7_8_9_10_11 (by decide) (ci := 5) (j := 3) rfl W_X2_tell_o3) rfl rfl hl.1 rfl (lv_room (Nat.le_of_ble_eq_true rfl)) dX2_tell_150 ⟨Nat.le_of_ble_eq_true rfl, Nat.le_of_ble_eq_true rfl⟩) hP hD hS hA [3, 4, 5, 6, 7, 8, 9, 10, 11] W_X2_tell_c_X5_tellOil_3_4_5_6_7_8_9_10_11 (fun _ => rfl) (fun r150 u150 H locs hw hP hD hS => ?_)
      rw [W_X2_tell_x_X5_tellOil_3_4_5_6_7_8_9_10_11] at hP hD
      replace he := he.trans (xbd2_some hw)
      refine lv_if_eq (tgt := 160) hx hb dX2_tell_153 (by decide) (fun c15 => ?_) (fun c15 => ?_)
      · replace he := he.trans (if_pos c15)
        refine lv_iconst (v := 0) hx hb dX2_tell_160 (by decide) ?_
        exact hret (0 : Int32) (ti_4, u150.1, u150.2.1, ti_7, ti_8, ti_9, ti_10, tk_0, u150.2.2, tk_2, tk_3) _ _ _ _ dX2_tell_161 (Or.inl rfl) he hP hD hS
      · replace he := he.trans (if_neg c15)
        refine lv_iconst (v := 1) hx hb dX2_tell_156 (by decide) ?_
        refine lv_goto (tgt := 161) hx hb dX2_tell_157 (by decide) ?_
        exact hret (1 : Int32) (ti_4, u150.1, u150.2.1, ti_7, ti_8, ti_9, ti_10, tk_0, u150.2.2, tk_2, tk_3) _ _ _ _ dX2_tell_161 (Or.inr rfl) he hP hD hS
  replace he := he.trans (if_neg k20_3)
  by_cases k20_4 : a1 = (115 : Int32)
  · replace he := he.trans (if_pos k20_4)
    refine lv_tableIn hx hb dX2_tell_20 (off := 164) (tgt := 184) (by rw [k20_4]; decide) (by rw [k20_4]; decide) (by rw [k20_4]; rfl) (by decide) ?_
    refine lv_aload_n hx hb dX2_tell_184 rfl (lv_at hl 2 rfl) ?_
    refine va_get (D := D) (ci := 2) (v := .int di_1) (C := RX2) (T := TX2) (N := 2) hx hb hts hi_X2_tell_2 hown hK hP 0 W_X2_tell_o0 rfl 1 (by decide) (hts (.fieldLink RX2 37 "BlindLanterns$Reader" "count" "I") (List.mem_of_getElem? (i := 2) rfl)) (fun _ h9 => h9) rfl dX2_tell_185 ?_
    refine lv_iconst (v := 1) hx hb dX2_tell_188 (by decide) ?_
    refine lv_icmp_ne (tgt := 204) hx hb dX2_tell_189 (by decide) (fun c16 => ?_) (fun c16 => ?_)
    · replace he := he.trans (if_neg c16)
      refine lv_iconst (v := 0) hx hb dX2_tell_204 (by decide) ?_
      exact hret (0 : Int32) (ti_4, ti_5, ti_6, ti_7, ti_8, ti_9, ti_10, tk_0, tk_1, tk_2, tk_3) _ _ _ _ dX2_tell_205 (Or.inl rfl) he hP hD hS
    · replace he := he.trans (if_pos c16)
      refine lv_aload_n hx hb dX2_tell_192 rfl (lv_at hl 4 rfl) ?_
      refine lv_iload_n hx hb dX2_tell_193 rfl (lv_at hl 1 rfl) ?_
      have n17_ : fX5_tellStep ti_7 r5 ≠ none := fun z => hne (he.trans (xbd2_none z))
      refine xci (va_runV (As := [.int r5]) (rest := []) ⟨hx, hb, hml, hown, hts⟩ (c_X5_tellStep l D cI cP H.size t tr ta ti_4 ti_5 ti_6 ti_7 ti_8 ti_9 ti_10 tk_0 tk_1 tk_2 tk_3 r5 n17_) (cwV 1 hts gX2_tell_X5_tellStep rfl rfl rfl (by decide +kernel) ⟨Nat.le_of_ble_eq_true rfl, Nat.le_of_ble_eq_true rfl⟩) (xPV hN hK hP hD [3, 4, 5, 6, 7, 8, 9, 10, 11] W_X2_tell_c_X5_tellStep_3_4_5_6_7_8_9_10_11 (by decide) (ci := 5) (j := 3) rfl W_X2_tell_o3) rfl rfl hl.1 rfl (lv_room (Nat.le_of_ble_eq_true rfl)) dX2_tell_194 ⟨Nat.le_of_ble_eq_true rfl, Nat.le_of_ble_eq_true rfl⟩) hP hD hS hA [3, 4, 5, 6, 7, 8, 9, 10, 11] W_X2_tell_c_X5_tellStep_3_4_5_6_7_8_9_10_11 (fun _ => rfl) (fun r194 u194 H locs hw hP hD hS => ?_)
      rw [W_X2_tell_x_X5_tellStep_3_4_5_6_7_8_9_10_11] at hP hD
      replace he := he.trans (xbd2_some hw)
      refine lv_if_eq (tgt := 204) hx hb dX2_tell_197 (by decide) (fun c18 => ?_) (fun c18 => ?_)
      · replace he := he.trans (if_pos c18)
        refine lv_iconst (v := 0) hx hb dX2_tell_204 (by decide) ?_
        exact hret (0 : Int32) (ti_4, ti_5, ti_6, u194, ti_8, ti_9, ti_10, tk_0, tk_1, tk_2, tk_3) _ _ _ _ dX2_tell_205 (Or.inl rfl) he hP hD hS
      · replace he := he.trans (if_neg c18)
        refine lv_iconst (v := 1) hx hb dX2_tell_200 (by decide) ?_
        refine lv_goto (tgt := 205) hx hb dX2_tell_201 (by decide) ?_
        exact hret (1 : Int32) (ti_4, ti_5, ti_6, u194, ti_8, ti_9, ti_10, tk_0, tk_1, tk_2, tk_3) _ _ _ _ dX2_tell_205 (Or.inr rfl) he hP hD hS
  replace he := he.trans (if_neg k20_4)
  by_cases k20_5 : a1 = (117 : Int32)
  · replace he := he.trans (if_pos k20_5)
    refine lv_tableIn hx hb dX2_tell_20 (off := 210) (tgt := 230) (by rw [k20_5]; decide) (by rw [k20_5]; decide) (by rw [k20_5]; rfl) (by decide) ?_
    refine lv_aload_n hx hb dX2_tell_230 rfl (lv_at hl 2 rfl) ?_
    refine va_get (D := D) (ci := 2) (v := .int di_1) (C := RX2) (T := TX2) (N := 2) hx hb hts hi_X2_tell_2 hown hK hP 0 W_X2_tell_o0 rfl 1 (by decide) (hts (.fieldLink RX2 37 "BlindLanterns$Reader" "count" "I") (List.mem_of_getElem? (i := 2) rfl)) (fun _ h9 => h9) rfl dX2_tell_231 ?_
    refine lv_iconst (v := 2) hx hb dX2_tell_234 (by decide) ?_
    refine lv_icmp_ne (tgt := 252) hx hb dX2_tell_235 (by decide) (fun c19 => ?_) (fun c19 => ?_)
    · replace he := he.trans (if_neg c19)
      refine lv_iconst (v := 0) hx hb dX2_tell_252 (by decide) ?_
      exact hret (0 : Int32) (ti_4, ti_5, ti_6, ti_7, ti_8, ti_9, ti_10, tk_0, tk_1, tk_2, tk_3) _ _ _ _ dX2_tell_253 (Or.inl rfl) he hP hD hS
    · replace he := he.trans (if_pos c19)
      refine lv_aload_n hx hb dX2_tell_238 rfl (lv_at hl 4 rfl) ?_
      refine lv_iload_n hx hb dX2_tell_239 rfl (lv_at hl 1 rfl) ?_
      refine lv_iload hx hb dX2_tell_240 (lv_at hl 0 rfl) ?_
      have n20_ : fX5_tellSun ti_9 ti_10 r5 r14 ≠ none := fun z => hne (he.trans (xbd2_none z))
      refine xci (va_runV (As := [.int r5, .int r14]) (rest := []) ⟨hx, hb, hml, hown, hts⟩ (c_X5_tellSun l D cI cP H.size t tr ta ti_4 ti_5 ti_6 ti_7 ti_8 ti_9 ti_10 tk_0 tk_1 tk_2 tk_3 r5 r14 n20_) (cwV 2 hts gX2_tell_X5_tellSun rfl rfl rfl (by decide +kernel) ⟨Nat.le_of_ble_eq_true rfl, Nat.le_of_ble_eq_true rfl⟩) (xPV hN hK hP hD [3, 4, 5, 6, 7, 8, 9, 10, 11] W_X2_tell_c_X5_tellSun_3_4_5_6_7_8_9_10_11 (by decide) (ci := 5) (j := 3) rfl W_X2_tell_o3) rfl rfl hl.1 rfl (lv_room (Nat.le_of_ble_eq_true rfl)) dX2_tell_242 ⟨Nat.le_of_ble_eq_true rfl, Nat.le_of_ble_eq_true rfl⟩) hP hD hS hA [3, 4, 5, 6, 7, 8, 9, 10, 11] W_X2_tell_c_X5_tellSun_3_4_5_6_7_8_9_10_11 (fun _ => rfl) (fun r242 u242 H locs hw hP hD hS => ?_)
      rw [W_X2_tell_x_X5_tellSun_3_4_5_6_7_8_9_10_11] at hP hD
      replace he := he.trans (xbd2_some hw)
      refine lv_if_eq (tgt := 252) hx hb dX2_tell_245 (by decide) (fun c21 => ?_) (fun c21 => ?_)
      · replace he := he.trans (if_pos c21)
        refine lv_iconst (v := 0) hx hb dX2_tell_252 (by decide) ?_
        exact hret (0 : Int32) (ti_4, ti_5, ti_6, ti_7, ti_8, u242.1, u242.2, tk_0, tk_1, tk_2, tk_3) _ _ _ _ dX2_tell_253 (Or.inl rfl) he hP hD hS
      · replace he := he.trans (if_neg c21)
        refine lv_iconst (v := 1) hx hb dX2_tell_248 (by decide) ?_
        refine lv_goto (tgt := 253) hx hb dX2_tell_249 (by decide) ?_
        exact hret (1 : Int32) (ti_4, ti_5, ti_6, ti_7, ti_8, u242.1, u242.2, tk_0, tk_1, tk_2, tk_3) _ _ _ _ dX2_tell_253 (Or.inr rfl) he hP hD hS
  replace he := he.trans (if_neg k20_5)
  have t20_0 := lv_neT (a := 100) k20_0 rfl
  have t20_1 := lv_neT (a := 101) k20_1 rfl
  have t20_2 := lv_neT (a := 109) k20_2 rfl
  have t20_3 := lv_neT (a := 111) k20_3 rfl
  have t20_4 := lv_neT (a := 115) k20_4 rfl
  have t20_5 := lv_neT (a := 117) k20_5 rfl
  have ko20 : (a1).toInt < 100 ∨ 117 < (a1).toInt ∨ (a1).toInt = 102 ∨ (a1).toInt = 103 ∨ (a1).toInt = 104 ∨ (a1).toInt = 105 ∨ (a1).toInt = 106 ∨ (a1).toInt = 107 ∨ (a1).toInt = 108 ∨ (a1).toInt = 110 ∨ (a1).toInt = 112 ∨ (a1).toInt = 113 ∨ (a1).toInt = 114 ∨ (a1).toInt = 116 := by omega
  have kw20 : W p l e ({ frames := 3, cells := 0, slots := 0, locals := 67 } : Room) s m args below meth c H locs 0 0 Q (F0 m 254 ls []) := by
    refine lv_iconst (v := 0) hx hb dX2_tell_254 (by decide) ?_
    exact hret (0 : Int32) (ti_4, ti_5, ti_6, ti_7, ti_8, ti_9, ti_10, tk_0, tk_1, tk_2, tk_3) _ _ _ _ dX2_tell_255 (Or.inl rfl) he hP hD hS
  rcases ko20 with ko | ko | ko | ko | ko | ko | ko | ko | ko | ko | ko | ko | ko | ko
  · exact lv_tableOut hx hb dX2_tell_20 (tgt := 254) (Or.inl ko) (by decide) kw20
  · exact lv_tableOut hx hb dX2_tell_20 (tgt := 254) (Or.inr ko) (by decide) kw20
  · exact lv_tableIn hx hb dX2_tell_20 (off := 234) (tgt := 254) (by omega) (by omega) (by rw [ko]; rfl) (by decide) kw20
  · exact lv_tableIn hx hb dX2_tell_20 (off := 234) (tgt := 254) (by omega) (by omega) (by rw [ko]; rfl) (by decide) kw20
  · exact lv_tableIn hx hb dX2_tell_20 (off := 234) (tgt := 254) (by omega) (by omega) (by rw [ko]; rfl) (by decide) kw20
  · exact lv_tableIn hx hb dX2_tell_20 (off := 234) (tgt := 254) (by omega) (by omega) (by rw [ko]; rfl) (by decide) kw20
  · exact lv_tableIn hx hb dX2_tell_20 (off := 234) (tgt := 254) (by omega) (by omega) (by rw [ko]; rfl) (by decide) kw20
  · exact lv_tableIn hx hb dX2_tell_20 (off := 234) (tgt := 254) (by omega) (by omega) (by rw [ko]; rfl) (by decide) kw20
  · exact lv_tableIn hx hb dX2_tell_20 (off := 234) (tgt := 254) (by omega) (by omega) (by rw [ko]; rfl) (by decide) kw20
  · exact lv_tableIn hx hb dX2_tell_20 (off := 234) (tgt := 254) (by omega) (by omega) (by rw [ko]; rfl) (by decide) kw20
  · exact lv_tableIn hx hb dX2_tell_20 (off := 234) (tgt := 254) (by omega) (by omega) (by rw [ko]; rfl) (by decide) kw20
  · exact lv_tableIn hx hb dX2_tell_20 (off := 234) (tgt := 254) (by omega) (by omega) (by rw [ko]; rfl) (by decide) kw20
  · exact lv_tableIn hx hb dX2_tell_20 (off := 234) (tgt := 254) (by omega) (by omega) (by rw [ko]; rfl) (by decide) kw20
  · exact lv_tableIn hx hb dX2_tell_20 (off := 234) (tgt := 254) (by omega) (by omega) (by rw [ko]; rfl) (by decide) kw20

def fX2_firstFault_L10 (gf : Nat → Int32) (a2 : Int32) (gn : Nat) (F : Nat) (k10 : Int32 → Int32 → Int32 → (Nat → Int32) → Int32 → Int32 → Int32 → Int32 → Int32 → Int32 → Int32 → (Nat → Int32) → (Nat → Int32) → (Nat → Int32) → (Nat → Int32) → Option (Int32 × Int32 × (Nat → Int32) × Int32 × Int32 × Int32 × Int32 × Int32 × Int32 × Int32 × (Nat → Int32) × (Nat → Int32) × (Nat → Int32) × (Nat → Int32))) : Nat → Int32 → Int32 → Int32 → (Nat → Int32) → Int32 → Int32 → Int32 → Int32 → Int32 → Int32 → Int32 → (Nat → Int32) → (Nat → Int32) → (Nat → Int32) → (Nat → Int32) → Option (Int32 × Int32 × (Nat → Int32) × Int32 × Int32 × Int32 × Int32 × Int32 × Int32 × Int32 × (Nat → Int32) × (Nat → Int32) × (Nat → Int32) × (Nat → Int32))
  | 0, _, _, _, _, _, _, _, _, _, _, _, _, _, _, _ => none
  | n10 + 1, v10_5, v10_4, w10_di_1, w10_dk_0, w10_ti_4, w10_ti_5, w10_ti_6, w10_ti_7, w10_ti_8, w10_ti_9, w10_ti_10, w10_tk_0, w10_tk_1, w10_tk_2, w10_tk_3 => if a2 ≤ v10_5 then (k10 v10_5 v10_4 w10_di_1 w10_dk_0 w10_ti_4 w10_ti_5 w10_ti_6 w10_ti_7 w10_ti_8 w10_ti_9 w10_ti_10 w10_tk_0 w10_tk_1 w10_tk_2 w10_tk_3) else (if a2 ≤ v10_4 then (k10 v10_5 v10_4 w10_di_1 w10_dk_0 w10_ti_4 w10_ti_5 w10_ti_6 w10_ti_7 w10_ti_8 w10_ti_9 w10_ti_10 w10_tk_0 w10_tk_1 w10_tk_2 w10_tk_3) else (xbd2 (fX2_splitItem F w10_dk_0 gf v10_4 a2 gn) (fun (r27 : Int32) (u27 : Int32 × (Nat → Int32)) => if r27 = (-4 : Int32) then (some (v10_4, (u27.1, u27.2, w10_ti_4, w10_ti_5, w10_ti_6, w10_ti_7, w10_ti_8, w10_ti_9, w10_ti_10, w10_tk_0, w10_tk_1, w10_tk_2, w10_tk_3))) else (xbd (fX3_get gf v10_4 gn) (fun (r43 : Int32) => xbd2 (fX2_tell u27.1 u27.2 w10_ti_4 w10_ti_5 w10_ti_6 w10_ti_7 w10_ti_8 w10_ti_9 w10_ti_10 w10_tk_0 w10_tk_1 w10_tk_2 w10_tk_3 r43) (fun (r47 : Int32) (u47 : Int32 × Int32 × Int32 × Int32 × Int32 × Int32 × Int32 × (Nat → Int32) × (Nat → Int32) × (Nat → Int32) × (Nat → Int32)) => if r47 = 0 then (some (v10_4, (u27.1, u27.2, u47.1, u47.2.1, u47.2.2.1, u47.2.2.2.1, u47.2.2.2.2.1, u47.2.2.2.2.2.1, u47.2.2.2.2.2.2.1, u47.2.2.2.2.2.2.2.1, u47.2.2.2.2.2.2.2.2.1, u47.2.2.2.2.2.2.2.2.2.1, u47.2.2.2.2.2.2.2.2.2.2))) else (fX2_firstFault_L10 gf a2 gn F k10 n10 (v10_5 + 1) r27 u27.1 u27.2 u47.1 u47.2.1 u47.2.2.1 u47.2.2.2.1 u47.2.2.2.2.1 u47.2.2.2.2.2.1 u47.2.2.2.2.2.2.1 u47.2.2.2.2.2.2.2.1 u47.2.2.2.2.2.2.2.2.1 u47.2.2.2.2.2.2.2.2.2.1 u47.2.2.2.2.2.2.2.2.2.2)))))))
def fX2_firstFault (F : Nat) (di_1 : Int32) (dk_0 : Nat → Int32) (gf : Nat → Int32) (tk_0 : Nat → Int32) (tk_1 : Nat → Int32) (tk_2 : Nat → Int32) (tk_3 : Nat → Int32) (a2 : Int32) (gn : Nat) : Option (Int32 × Int32 × (Nat → Int32) × Int32 × Int32 × Int32 × Int32 × Int32 × Int32 × Int32 × (Nat → Int32) × (Nat → Int32) × (Nat → Int32) × (Nat → Int32)) :=
  xbd (fX5_clear F tk_0 tk_1) (fun (u1 : Int32 × Int32 × Int32 × Int32 × Int32 × Int32 × Int32 × (Nat → Int32) × (Nat → Int32)) => fX2_firstFault_L10 gf a2 gn F (fun (v10_5 : Int32) (v10_4 : Int32) (w10_di_1 : Int32) (w10_dk_0 : Nat → Int32) (w10_ti_4 : Int32) (w10_ti_5 : Int32) (w10_ti_6 : Int32) (w10_ti_7 : Int32) (w10_ti_8 : Int32) (w10_ti_9 : Int32) (w10_ti_10 : Int32) (w10_tk_0 : Nat → Int32) (w10_tk_1 : Nat → Int32) (w10_tk_2 : Nat → Int32) (w10_tk_3 : Nat → Int32) => some ((-4 : Int32), (w10_di_1, w10_dk_0, w10_ti_4, w10_ti_5, w10_ti_6, w10_ti_7, w10_ti_8, w10_ti_9, w10_ti_10, w10_tk_0, w10_tk_1, w10_tk_2, w10_tk_3))) F (0 : Int32) (0 : Int32) di_1 dk_0 u1.1 u1.2.1 u1.2.2.1 u1.2.2.2.1 u1.2.2.2.2.1 u1.2.2.2.2.2.1 u1.2.2.2.2.2.2.1 u1.2.2.2.2.2.2.2.1 u1.2.2.2.2.2.2.2.2 tk_2 tk_3)
def W_X2_firstFault (cI cP : ClassId) (d : Nat) (dr : Nat → Nat) (da : Nat → Nat) (di_1 : Int32) (dk_0 : Nat → Int32) (g : Nat) (ga : Nat) (gn : Nat) (gf : Nat → Int32) (t : Nat) (tr : Nat → Nat) (ta : Nat → Nat) (ti_4 : Int32) (ti_5 : Int32) (ti_6 : Int32) (ti_7 : Int32) (ti_8 : Int32) (ti_9 : Int32) (ti_10 : Int32) (tk_0 : Nat → Int32) (tk_1 : Nat → Int32) (tk_2 : Nat → Int32) (tk_3 : Nat → Int32) : va_W := (wReader cI d dr da di_1 dk_0) ++ ((wRow cI g ga gn gf) ++ ((wTold cI t tr ta ti_4 ti_5 ti_6 ti_7 ti_8 ti_9 ti_10 tk_0 tk_1 tk_2 tk_3)))
theorem W_X2_firstFault_c_X5_clear_5_6_7_8_9_10_11_12_13 {cI cP : ClassId} {d : Nat} {dr : Nat → Nat} {da : Nat → Nat} {di_1 : Int32} {dk_0 : Nat → Int32} {g : Nat} {ga : Nat} {gn : Nat} {gf : Nat → Int32} {t : Nat} {tr : Nat → Nat} {ta : Nat → Nat} {ti_4 : Int32} {ti_5 : Int32} {ti_6 : Int32} {ti_7 : Int32} {ti_8 : Int32} {ti_9 : Int32} {ti_10 : Int32} {tk_0 : Nat → Int32} {tk_1 : Nat → Int32} {tk_2 : Nat → Int32} {tk_3 : Nat → Int32} : ([5, 6, 7, 8, 9, 10, 11, 12, 13] : List Nat).map (fun i => (W_X2_firstFault cI cP d dr da di_1 dk_0 g ga gn gf t tr ta ti_4 ti_5 ti_6 ti_7 ti_8 ti_9 ti_10 tk_0 tk_1 tk_2 tk_3)[i]?) = (W_X5_clear cI cP t tr ta ti_4 ti_5 ti_6 ti_7 ti_8 ti_9 ti_10 tk_0 tk_1 tk_2 tk_3).map some := rfl
theorem W_X2_firstFault_x_X5_clear_5_6_7_8_9_10_11_12_13 {cI cP : ClassId} {d : Nat} {dr : Nat → Nat} {da : Nat → Nat} {di_1 : Int32} {dk_0 : Nat → Int32} {g : Nat} {ga : Nat} {gn : Nat} {gf : Nat → Int32} {t : Nat} {tr : Nat → Nat} {ta : Nat → Nat} {ti_4 : Int32} {ti_5 : Int32} {ti_6 : Int32} {ti_7 : Int32} {ti_8 : Int32} {ti_9 : Int32} {ti_10 : Int32} {tk_0 : Nat → Int32} {tk_1 : Nat → Int32} {tk_2 : Nat → Int32} {tk_3 : Nat → Int32} {n0_ : Int32} {n1_ : Int32} {n2_ : Int32} {n3_ : Int32} {n4_ : Int32} {n5_ : Int32} {n6_ : Int32} {n7_ : Nat → Int32} {n8_ : Nat → Int32} : xset (W_X2_firstFault cI cP d dr da di_1 dk_0 g ga gn gf t tr ta ti_4 ti_5 ti_6 ti_7 ti_8 ti_9 ti_10 tk_0 tk_1 tk_2 tk_3) [5, 6, 7, 8, 9, 10, 11, 12, 13] (W_X5_clear cI cP t tr ta n0_ n1_ n2_ n3_ n4_ n5_ n6_ n7_ n8_ tk_2 tk_3) = W_X2_firstFault cI cP d dr da di_1 dk_0 g ga gn gf t tr ta n0_ n1_ n2_ n3_ n4_ n5_ n6_ n7_ n8_ tk_2 tk_3 := rfl
theorem W_X2_firstFault_o5 {cI cP : ClassId} {d : Nat} {dr : Nat → Nat} {da : Nat → Nat} {di_1 : Int32} {dk_0 : Nat → Int32} {g : Nat} {ga : Nat} {gn : Nat} {gf : Nat → Int32} {t : Nat} {tr : Nat → Nat} {ta : Nat → Nat} {ti_4 : Int32} {ti_5 : Int32} {ti_6 : Int32} {ti_7 : Int32} {ti_8 : Int32} {ti_9 : Int32} {ti_10 : Int32} {tk_0 : Nat → Int32} {tk_1 : Nat → Int32} {tk_2 : Nat → Int32} {tk_3 : Nat → Int32} : (W_X2_firstFault cI cP d dr da di_1 dk_0 g ga gn gf t tr ta ti_4 ti_5 ti_6 ti_7 ti_8 ti_9 ti_10 tk_0 tk_1 tk_2 tk_3)[5]? = some (t, .inr (5, [.ref (tr 0), .ref (tr 1), .ref (tr 2), .ref (tr 3), .int ti_4, .int ti_5, .int ti_6, .int ti_7, .int ti_8, .int ti_9, .int ti_10])) := rfl
theorem W_X2_firstFault_c_X2_splitItem_0_1_2_3_4 {cI cP : ClassId} {d : Nat} {dr : Nat → Nat} {da : Nat → Nat} {di_1 : Int32} {dk_0 : Nat → Int32} {g : Nat} {ga : Nat} {gn : Nat} {gf : Nat → Int32} {t : Nat} {tr : Nat → Nat} {ta : Nat → Nat} {ti_4 : Int32} {ti_5 : Int32} {ti_6 : Int32} {ti_7 : Int32} {ti_8 : Int32} {ti_9 : Int32} {ti_10 : Int32} {tk_0 : Nat → Int32} {tk_1 : Nat → Int32} {tk_2 : Nat → Int32} {tk_3 : Nat → Int32} : ([0, 1, 2, 3, 4] : List Nat).map (fun i => (W_X2_firstFault cI cP d dr da di_1 dk_0 g ga gn gf t tr ta ti_4 ti_5 ti_6 ti_7 ti_8 ti_9 ti_10 tk_0 tk_1 tk_2 tk_3)[i]?) = (W_X2_splitItem cI cP d dr da di_1 dk_0 g ga gn gf).map some := rfl
theorem W_X2_firstFault_x_X2_splitItem_0_1_2_3_4 {cI cP : ClassId} {d : Nat} {dr : Nat → Nat} {da : Nat → Nat} {di_1 : Int32} {dk_0 : Nat → Int32} {g : Nat} {ga : Nat} {gn : Nat} {gf : Nat → Int32} {t : Nat} {tr : Nat → Nat} {ta : Nat → Nat} {ti_4 : Int32} {ti_5 : Int32} {ti_6 : Int32} {ti_7 : Int32} {ti_8 : Int32} {ti_9 : Int32} {ti_10 : Int32} {tk_0 : Nat → Int32} {tk_1 : Nat → Int32} {tk_2 : Nat → Int32} {tk_3 : Nat → Int32} {n0_ : Int32} {n1_ : Nat → Int32} : xset (W_X2_firstFault cI cP d dr da di_1 dk_0 g ga gn gf t tr ta ti_4 ti_5 ti_6 ti_7 ti_8 ti_9 ti_10 tk_0 tk_1 tk_2 tk_3) [0, 1, 2, 3, 4] (W_X2_splitItem cI cP d dr da n0_ n1_ g ga gn gf) = W_X2_firstFault cI cP d dr da n0_ n1_ g ga gn gf t tr ta ti_4 ti_5 ti_6 ti_7 ti_8 ti_9 ti_10 tk_0 tk_1 tk_2 tk_3 := rfl
theorem W_X2_firstFault_o0 {cI cP : ClassId} {d : Nat} {dr : Nat → Nat} {da : Nat → Nat} {di_1 : Int32} {dk_0 : Nat → Int32} {g : Nat} {ga : Nat} {gn : Nat} {gf : Nat → Int32} {t : Nat} {tr : Nat → Nat} {ta : Nat → Nat} {ti_4 : Int32} {ti_5 : Int32} {ti_6 : Int32} {ti_7 : Int32} {ti_8 : Int32} {ti_9 : Int32} {ti_10 : Int32} {tk_0 : Nat → Int32} {tk_1 : Nat → Int32} {tk_2 : Nat → Int32} {tk_3 : Nat → Int32} : (W_X2_firstFault cI cP d dr da di_1 dk_0 g ga gn gf t tr ta ti_4 ti_5 ti_6 ti_7 ti_8 ti_9 ti_10 tk_0 tk_1 tk_2 tk_3)[0]? = some (d, .inr (2, [.ref (dr 0), .int di_1])) := rfl
theorem W_X2_firstFault_c_X3_get_3_4 {cI cP : ClassId} {d : Nat} {dr : Nat → Nat} {da : Nat → Nat} {di_1 : Int32} {dk_0 : Nat → Int32} {g : Nat} {ga : Nat} {gn : Nat} {gf : Nat → Int32} {t : Nat} {tr : Nat → Nat} {ta : Nat → Nat} {ti_4 : Int32} {ti_5 : Int32} {ti_6 : Int32} {ti_7 : Int32} {ti_8 : Int32} {ti_9 : Int32} {ti_10 : Int32} {tk_0 : Nat → Int32} {tk_1 : Nat → Int32} {tk_2 : Nat → Int32} {tk_3 : Nat → Int32} : ([3, 4] : List Nat).map (fun i => (W_X2_firstFault cI cP d dr da di_1 dk_0 g ga gn gf t tr ta ti_4 ti_5 ti_6 ti_7 ti_8 ti_9 ti_10 tk_0 tk_1 tk_2 tk_3)[i]?) = (W_X3_get cI cP g ga gn gf).map some := rfl
theorem W_X2_firstFault_x_X3_get_3_4 {cI cP : ClassId} {d : Nat} {dr : Nat → Nat} {da : Nat → Nat} {di_1 : Int32} {dk_0 : Nat → Int32} {g : Nat} {ga : Nat} {gn : Nat} {gf : Nat → Int32} {t : Nat} {tr : Nat → Nat} {ta : Nat → Nat} {ti_4 : Int32} {ti_5 : Int32} {ti_6 : Int32} {ti_7 : Int32} {ti_8 : Int32} {ti_9 : Int32} {ti_10 : Int32} {tk_0 : Nat → Int32} {tk_1 : Nat → Int32} {tk_2 : Nat → Int32} {tk_3 : Nat → Int32} : xset (W_X2_firstFault cI cP d dr da di_1 dk_0 g ga gn gf t tr ta ti_4 ti_5 ti_6 ti_7 ti_8 ti_9 ti_10 tk_0 tk_1 tk_2 tk_3) [3, 4] (W_X3_get cI cP g ga gn gf) = W_X2_firstFault cI cP d dr da di_1 dk_0 g ga gn gf t tr ta ti_4 ti_5 ti_6 ti_7 ti_8 ti_9 ti_10 tk_0 tk_1 tk_2 tk_3 := rfl
theorem W_X2_firstFault_o3 {cI cP : ClassId} {d : Nat} {dr : Nat → Nat} {da : Nat → Nat} {di_1 : Int32} {dk_0 : Nat → Int32} {g : Nat} {ga : Nat} {gn : Nat} {gf : Nat → Int32} {t : Nat} {tr : Nat → Nat} {ta : Nat → Nat} {ti_4 : Int32} {ti_5 : Int32} {ti_6 : Int32} {ti_7 : Int32} {ti_8 : Int32} {ti_9 : Int32} {ti_10 : Int32} {tk_0 : Nat → Int32} {tk_1 : Nat → Int32} {tk_2 : Nat → Int32} {tk_3 : Nat → Int32} : (W_X2_firstFault cI cP d dr da di_1 dk_0 g ga gn gf t tr ta ti_4 ti_5 ti_6 ti_7 ti_8 ti_9 ti_10 tk_0 tk_1 tk_2 tk_3)[3]? = some (g, .inr (3, [.ref ga])) := rfl
theorem W_X2_firstFault_c_X2_tell_0_1_2_5_6_7_8_9_10_11_12_13 {cI cP : ClassId} {d : Nat} {dr : Nat → Nat} {da : Nat → Nat} {di_1 : Int32} {dk_0 : Nat → Int32} {g : Nat} {ga : Nat} {gn : Nat} {gf : Nat → Int32} {t : Nat} {tr : Nat → Nat} {ta : Nat → Nat} {ti_4 : Int32} {ti_5 : Int32} {ti_6 : Int32} {ti_7 : Int32} {ti_8 : Int32} {ti_9 : Int32} {ti_10 : Int32} {tk_0 : Nat → Int32} {tk_1 : Nat → Int32} {tk_2 : Nat → Int32} {tk_3 : Nat → Int32} : ([0, 1, 2, 5, 6, 7, 8, 9, 10, 11, 12, 13] : List Nat).map (fun i => (W_X2_firstFault cI cP d dr da di_1 dk_0 g ga gn gf t tr ta ti_4 ti_5 ti_6 ti_7 ti_8 ti_9 ti_10 tk_0 tk_1 tk_2 tk_3)[i]?) = (W_X2_tell cI cP d dr da di_1 dk_0 t tr ta ti_4 ti_5 ti_6 ti_7 ti_8 ti_9 ti_10 tk_0 tk_1 tk_2 tk_3).map some := rfl
theorem W_X2_firstFault_x_X2_tell_0_1_2_5_6_7_8_9_10_11_12_13 {cI cP : ClassId} {d : Nat} {dr : Nat → Nat} {da : Nat → Nat} {di_1 : Int32} {dk_0 : Nat → Int32} {g : Nat} {ga : Nat} {gn : Nat} {gf : Nat → Int32} {t : Nat} {tr : Nat → Nat} {ta : Nat → Nat} {ti_4 : Int32} {ti_5 : Int32} {ti_6 : Int32} {ti_7 : Int32} {ti_8 : Int32} {ti_9 : Int32} {ti_10 : Int32} {tk_0 : Nat → Int32} {tk_1 : Nat → Int32} {tk_2 : Nat → Int32} {tk_3 : Nat → Int32} {n0_ : Int32} {n1_ : Int32} {n2_ : Int32} {n3_ : Int32} {n4_ : Int32} {n5_ : Int32} {n6_ : Int32} {n7_ : Nat → Int32} {n8_ : Nat → Int32} {n9_ : Nat → Int32} {n10_ : Nat → Int32} : xset (W_X2_firstFault cI cP d dr da di_1 dk_0 g ga gn gf t tr ta ti_4 ti_5 ti_6 ti_7 ti_8 ti_9 ti_10 tk_0 tk_1 tk_2 tk_3) [0, 1, 2, 5, 6, 7, 8, 9, 10, 11, 12, 13] (W_X2_tell cI cP d dr da di_1 dk_0 t tr ta n0_ n1_ n2_ n3_ n4_ n5_ n6_ n7_ n8_ n9_ n10_) = W_X2_firstFault cI cP d dr da di_1 dk_0 g ga gn gf t tr ta n0_ n1_ n2_ n3_ n4_ n5_ n6_ n7_ n8_ n9_ n10_ := rfl
set_option maxHeartbeats 4000000 in
set_option maxRecDepth 100000 in
theorem c_X2_firstFault (l : Launch) (D : va_G) (cI cP : ClassId) (sz : Nat) (d : Nat) (dr : Nat → Nat) (da : Nat → Nat) (di_1 : Int32) (dk_0 : Nat → Int32) (g : Nat) (ga : Nat) (gn : Nat) (gf : Nat → Int32) (t : Nat) (tr : Nat → Nat) (ta : Nat → Nat) (ti_4 : Int32) (ti_5 : Int32) (ti_6 : Int32) (ti_7 : Int32) (ti_8 : Int32) (ti_9 : Int32) (ti_10 : Int32) (tk_0 : Nat → Int32) (tk_1 : Nat → Int32) (tk_2 : Nat → Int32) (tk_3 : Nat → Int32) (F : Nat) (a2 : Int32) (hne : fX2_firstFault F di_1 dk_0 gf tk_0 tk_1 tk_2 tk_3 a2 gn ≠ none) : xMi l yX2_firstFault wsX2_firstFault ({ frames := 4, cells := 0, slots := 0, locals := 91 } : Room) D (xT cI cP) [.ref d, .ref g, .int a2, .ref t] (W_X2_firstFault cI cP d dr da di_1 dk_0 g ga gn gf t tr ta ti_4 ti_5 ti_6 ti_7 ti_8 ti_9 ti_10 tk_0 tk_1 tk_2 tk_3) sz (fun r (u : (Int32 × (Nat → Int32) × Int32 × Int32 × Int32 × Int32 × Int32 × Int32 × Int32 × (Nat → Int32) × (Nat → Int32) × (Nat → Int32) × (Nat → Int32))) => fX2_firstFault F di_1 dk_0 gf tk_0 tk_1 tk_2 tk_3 a2 gn = some (r, u)) (fun u => W_X2_firstFault cI cP d dr da u.1 u.2.1 g ga gn gf t tr ta u.2.2.1 u.2.2.2.1 u.2.2.2.2.1 u.2.2.2.2.2.1 u.2.2.2.2.2.2.1 u.2.2.2.2.2.2.2.1 u.2.2.2.2.2.2.2.2.1 u.2.2.2.2.2.2.2.2.2.1 u.2.2.2.2.2.2.2.2.2.2.1 u.2.2.2.2.2.2.2.2.2.2.2.1 u.2.2.2.2.2.2.2.2.2.2.2.2) 0 0 := by
  refine xMi_of (cc := cX2_firstFault) (maxL := 7) (by decide +kernel) rfl (Nat.le_of_ble_eq_true rfl) ?_
  intro p e s m args below meth c A ls hx hb hml hown hts hname hN hK hA hP hD hS hl Q hret
  have he := fX2_firstFault.eq_1 F di_1 dk_0 gf tk_0 tk_1 tk_2 tk_3 a2 gn
  have hl : lv_has ls 7 [(0, .ref d), (1, .ref g), (2, .int a2), (3, .ref t)] := hl
  have R10_0 : ∀ (v10_5 : Int32) (v10_4 : Int32) (w10_di_1 : Int32) (w10_dk_0 : Nat → Int32) (w10_ti_4 : Int32) (w10_ti_5 : Int32) (w10_ti_6 : Int32) (w10_ti_7 : Int32) (w10_ti_8 : Int32) (w10_ti_9 : Int32) (w10_ti_10 : Int32) (w10_tk_0 : Nat → Int32) (w10_tk_1 : Nat → Int32) (w10_tk_2 : Nat → Int32) (w10_tk_3 : Nat → Int32), fX2_firstFault F di_1 dk_0 gf tk_0 tk_1 tk_2 tk_3 a2 gn = (some ((-4 : Int32), (w10_di_1, w10_dk_0, w10_ti_4, w10_ti_5, w10_ti_6, w10_ti_7, w10_ti_8, w10_ti_9, w10_ti_10, w10_tk_0, w10_tk_1, w10_tk_2, w10_tk_3))) → ∀ (H : Heap) (locs : List Loc) (ls : Array Slot), va_P D vwCl (W_X2_firstFault cI cP d dr da w10_di_1 w10_dk_0 g ga gn gf t tr ta w10_ti_4 w10_ti_5 w10_ti_6 w10_ti_7 w10_ti_8 w10_ti_9 w10_ti_10 w10_tk_0 w10_tk_1 w10_tk_2 w10_tk_3) H → va_D A (W_X2_firstFault cI cP d dr da w10_di_1 w10_dk_0 g ga gn gf t tr ta w10_ti_4 w10_ti_5 w10_ti_6 w10_ti_7 w10_ti_8 w10_ti_9 w10_ti_10 w10_tk_0 w10_tk_1 w10_tk_2 w10_tk_3) → va_S A s.heap H locs → lv_has ls 7 [] → W p l e ({ frames := 4, cells := 0, slots := 0, locals := 91 } : Room) s m args below meth c H locs 0 0 Q (F0 m 66 ls []) := by
    intro v10_5 v10_4 w10_di_1 w10_dk_0 w10_ti_4 w10_ti_5 w10_ti_6 w10_ti_7 w10_ti_8 w10_ti_9 w10_ti_10 w10_tk_0 w10_tk_1 w10_tk_2 w10_tk_3 he H locs ls hP hD hS hl
    refine lv_bipush (v := -4) hx hb dX2_firstFault_66 (by decide) ?_
    exact hret (-4 : Int32) (w10_di_1, w10_dk_0, w10_ti_4, w10_ti_5, w10_ti_6, w10_ti_7, w10_ti_8, w10_ti_9, w10_ti_10, w10_tk_0, w10_tk_1, w10_tk_2, w10_tk_3) _ _ _ _ dX2_firstFault_68 he hP hD hS
  have L10_4 : ∀ (n10 : Nat) (v10_5 : Int32) (v10_4 : Int32) (w10_di_1 : Int32) (w10_dk_0 : Nat → Int32) (w10_ti_4 : Int32) (w10_ti_5 : Int32) (w10_ti_6 : Int32) (w10_ti_7 : Int32) (w10_ti_8 : Int32) (w10_ti_9 : Int32) (w10_ti_10 : Int32) (w10_tk_0 : Nat → Int32) (w10_tk_1 : Nat → Int32) (w10_tk_2 : Nat → Int32) (w10_tk_3 : Nat → Int32), fX2_firstFault F di_1 dk_0 gf tk_0 tk_1 tk_2 tk_3 a2 gn = fX2_firstFault_L10 gf a2 gn F (fun (v10_5 : Int32) (v10_4 : Int32) (w10_di_1 : Int32) (w10_dk_0 : Nat → Int32) (w10_ti_4 : Int32) (w10_ti_5 : Int32) (w10_ti_6 : Int32) (w10_ti_7 : Int32) (w10_ti_8 : Int32) (w10_ti_9 : Int32) (w10_ti_10 : Int32) (w10_tk_0 : Nat → Int32) (w10_tk_1 : Nat → Int32) (w10_tk_2 : Nat → Int32) (w10_tk_3 : Nat → Int32) => some ((-4 : Int32), (w10_di_1, w10_dk_0, w10_ti_4, w10_ti_5, w10_ti_6, w10_ti_7, w10_ti_8, w10_ti_9, w10_ti_10, w10_tk_0, w10_tk_1, w10_tk_2, w10_tk_3))) n10 v10_5 v10_4 w10_di_1 w10_dk_0 w10_ti_4 w10_ti_5 w10_ti_6 w10_ti_7 w10_ti_8 w10_ti_9 w10_ti_10 w10_tk_0 w10_tk_1 w10_tk_2 w10_tk_3 → ∀ (H : Heap) (locs : List Loc) (ls : Array Slot), va_P D vwCl (W_X2_firstFault cI cP d dr da w10_di_1 w10_dk_0 g ga gn gf t tr ta w10_ti_4 w10_ti_5 w10_ti_6 w10_ti_7 w10_ti_8 w10_ti_9 w10_ti_10 w10_tk_0 w10_tk_1 w10_tk_2 w10_tk_3) H → va_D A (W_X2_firstFault cI cP d dr da w10_di_1 w10_dk_0 g ga gn gf t tr ta w10_ti_4 w10_ti_5 w10_ti_6 w10_ti_7 w10_ti_8 w10_ti_9 w10_ti_10 w10_tk_0 w10_tk_1 w10_tk_2 w10_tk_3) → va_S A s.heap H locs → lv_has ls 7 [(5, .int v10_5), (4, .int v10_4), (0, .ref d), (1, .ref g), (2, .int a2), (3, .ref t)] → W p l e ({ frames := 4, cells := 0, slots := 0, locals := 91 } : Room) s m args below meth c H locs 0 0 Q (F0 m 10 ls []) := by
    intro n10
    induction n10 with
    | zero => intro v10_5 v10_4 w10_di_1 w10_dk_0 w10_ti_4 w10_ti_5 w10_ti_6 w10_ti_7 w10_ti_8 w10_ti_9 w10_ti_10 w10_tk_0 w10_tk_1 w10_tk_2 w10_tk_3 he; exact absurd he hne
    | succ n10 ih10 =>
      intro v10_5 v10_4 w10_di_1 w10_dk_0 w10_ti_4 w10_ti_5 w10_ti_6 w10_ti_7 w10_ti_8 w10_ti_9 w10_ti_10 w10_tk_0 w10_tk_1 w10_tk_2 w10_tk_3 he H locs ls hP hD hS hl
      replace he := he.trans (fX2_firstFault_L10.eq_2 _ _ _ _ _ _ _ _ _ _ _ _ _ _ _ _ _ _ _ _ _)
      refine lv_iload hx hb dX2_firstFault_10 (lv_at hl 0 rfl) ?_
      refine lv_iload_n hx hb dX2_firstFault_12 rfl (lv_at hl 4 rfl) ?_
      refine lv_icmp_ge (tgt := 66) hx hb dX2_firstFault_13 (by decide) (fun c2 => ?_) (fun c2 => ?_)
      · replace he := he.trans (if_pos c2)
        exact R10_0 v10_5 v10_4 w10_di_1 w10_dk_0 w10_ti_4 w10_ti_5 w10_ti_6 w10_ti_7 w10_ti_8 w10_ti_9 w10_ti_10 w10_tk_0 w10_tk_1 w10_tk_2 w10_tk_3 he _ _ _ hP hD hS (lv_sub hl [] rfl)
      · replace he := he.trans (if_neg c2)
        refine lv_iload hx hb dX2_firstFault_16 (lv_at hl 1 rfl) ?_
        refine lv_iload_n hx hb dX2_firstFault_18 rfl (lv_at hl 4 rfl) ?_
        refine lv_icmp_ge (tgt := 66) hx hb dX2_firstFault_19 (by decide) (fun c3 => ?_) (fun c3 => ?_)
        · replace he := he.trans (if_pos c3)
          exact R10_0 v10_5 v10_4 w10_di_1 w10_dk_0 w10_ti_4 w10_ti_5 w10_ti_6 w10_ti_7 w10_ti_8 w10_ti_9 w10_ti_10 w10_tk_0 w10_tk_1 w10_tk_2 w10_tk_3 he _ _ _ hP hD hS (lv_sub hl [] rfl)
        · replace he := he.trans (if_neg c3)
          refine lv_aload_n hx hb dX2_firstFault_22 rfl (lv_at hl 2 rfl) ?_
          refine lv_aload_n hx hb dX2_firstFault_23 rfl (lv_at hl 3 rfl) ?_
          refine lv_iload hx hb dX2_firstFault_24 (lv_at hl 1 rfl) ?_
          refine lv_iload_n hx hb dX2_firstFault_26 rfl (lv_at hl 4 rfl) ?_
          have n4_ : fX2_splitItem F w10_dk_0 gf v10_4 a2 gn ≠ none := fun z => hne (he.trans (xbd2_none z))
          refine xci (va_runV (As := [.ref g, .int v10_4, .int a2]) (rest := []) ⟨hx, hb, hml, hown, hts⟩ (c_X2_splitItem l D cI cP H.size d dr da w10_di_1 w10_dk_0 g ga gn gf F v10_4 a2 n4_) (cwV 3 hts gX2_firstFault_X2_splitItem rfl rfl rfl (by decide +kernel) ⟨Nat.le_of_ble_eq_true rfl, Nat.le_of_ble_eq_true rfl⟩) (xPV hN hK hP hD [0, 1, 2, 3, 4] W_X2_firstFault_c_X2_splitItem_0_1_2_3_4 (by decide) (ci := 2) (j := 0) rfl W_X2_firstFault_o0) rfl rfl hl.1 rfl (lv_room (Nat.le_of_ble_eq_true rfl)) dX2_firstFault_27 ⟨Nat.le_of_ble_eq_true rfl, Nat.le_of_ble_eq_true rfl⟩) hP hD hS hA [0, 1, 2, 3, 4] W_X2_firstFault_c_X2_splitItem_0_1_2_3_4 (fun _ => rfl) (fun r27 u27 H locs hw hP hD hS => ?_)
          rw [W_X2_firstFault_x_X2_splitItem_0_1_2_3_4] at hP hD
          replace he := he.trans (xbd2_some hw)
          refine lv_istore (lv' := [(6, .int r27), (5, .int v10_5), (4, .int v10_4), (0, .ref d), (1, .ref g), (2, .int a2), (3, .ref t)]) hx hb dX2_firstFault_30 hl (by decide) rfl (fun ls hl => ?_)
          refine lv_iload hx hb dX2_firstFault_32 (lv_at hl 0 rfl) ?_
          refine lv_bipush (v := -4) hx hb dX2_firstFault_34 (by decide) ?_
          refine lv_icmp_eq (tgt := 53) hx hb dX2_firstFault_36 (by decide) (fun c5 => ?_) (fun c5 => ?_)
          · replace he := he.trans (if_pos c5)
            refine lv_iload hx hb dX2_firstFault_53 (lv_at hl 2 rfl) ?_
            exact hret v10_4 (u27.1, u27.2, w10_ti_4, w10_ti_5, w10_ti_6, w10_ti_7, w10_ti_8, w10_ti_9, w10_ti_10, w10_tk_0, w10_tk_1, w10_tk_2, w10_tk_3) _ _ _ _ dX2_firstFault_55 he hP hD hS
          · replace he := he.trans (if_neg c5)
            refine lv_aload_n hx hb dX2_firstFault_39 rfl (lv_at hl 3 rfl) ?_
            refine lv_aload_n hx hb dX2_firstFault_40 rfl (lv_at hl 4 rfl) ?_
            refine lv_iload hx hb dX2_firstFault_41 (lv_at hl 2 rfl) ?_
            have n6_ : fX3_get gf v10_4 gn ≠ none := fun z => hne (he.trans (xbd_none z))
            refine xci (va_runV (As := [.int v10_4]) (rest := [.ref d]) ⟨hx, hb, hml, hown, hts⟩ (c_X3_get l D cI cP H.size g ga gn gf v10_4 n6_) (cwV 1 hts gX2_firstFault_X3_get rfl rfl rfl (by decide +kernel) ⟨Nat.le_of_ble_eq_true rfl, Nat.le_of_ble_eq_true rfl⟩) (xPV hN hK hP hD [3, 4] W_X2_firstFault_c_X3_get_3_4 (by decide) (ci := 3) (j := 3) rfl W_X2_firstFault_o3) rfl rfl hl.1 rfl (lv_room (Nat.le_of_ble_eq_true rfl)) dX2_firstFault_43 ⟨Nat.le_of_ble_eq_true rfl, Nat.le_of_ble_eq_true rfl⟩) hP hD hS hA [3, 4] W_X2_firstFault_c_X3_get_3_4 (fun _ => rfl) (fun r43 u43 H locs hw hP hD hS => ?_)
            rw [W_X2_firstFault_x_X3_get_3_4] at hP hD
            replace he := he.trans (xbd_some hw)
            refine lv_aload_n hx hb dX2_firstFault_46 rfl (lv_at hl 6 rfl) ?_
            have n7_ : fX2_tell u27.1 u27.2 w10_ti_4 w10_ti_5 w10_ti_6 w10_ti_7 w10_ti_8 w10_ti_9 w10_ti_10 w10_tk_0 w10_tk_1 w10_tk_2 w10_tk_3 r43 ≠ none := fun z => hne (he.trans (xbd2_none z))
            refine xci (va_runV (As := [.int r43, .ref t]) (rest := []) ⟨hx, hb, hml, hown, hts⟩ (c_X2_tell l D cI cP H.size d dr da u27.1 u27.2 t tr ta w10_ti_4 w10_ti_5 w10_ti_6 w10_ti_7 w10_ti_8 w10_ti_9 w10_ti_10 w10_tk_0 w10_tk_1 w10_tk_2 w10_tk_3 r43 n7_) (cwV 2 hts gX2_firstFault_X2_tell rfl rfl rfl (by decide +kernel) ⟨Nat.le_of_ble_eq_true rfl, Nat.le_of_ble_eq_true rfl⟩) (xPV hN hK hP hD [0, 1, 2, 5, 6, 7, 8, 9, 10, 11, 12, 13] W_X2_firstFault_c_X2_tell_0_1_2_5_6_7_8_9_10_11_12_13 (by decide) (ci := 2) (j := 0) rfl W_X2_firstFault_o0) rfl rfl hl.1 rfl (lv_room (Nat.le_of_ble_eq_true rfl)) dX2_firstFault_47 ⟨Nat.le_of_ble_eq_true rfl, Nat.le_of_ble_eq_true rfl⟩) hP hD hS hA [0, 1, 2, 5, 6, 7, 8, 9, 10, 11, 12, 13] W_X2_firstFault_c_X2_tell_0_1_2_5_6_7_8_9_10_11_12_13 (fun _ => rfl) (fun r47 u47 H locs hw hP hD hS => ?_)
            rw [W_X2_firstFault_x_X2_tell_0_1_2_5_6_7_8_9_10_11_12_13] at hP hD
            replace he := he.trans (xbd2_some hw)
            refine lv_if_ne (tgt := 56) hx hb dX2_firstFault_50 (by decide) (fun c8 => ?_) (fun c8 => ?_)
            · replace he := he.trans (if_neg c8)
              refine lv_iload hx hb dX2_firstFault_56 (lv_at hl 0 rfl) ?_
              refine lv_istore (lv' := [(4, .int r27), (6, .int r27), (5, .int v10_5), (0, .ref d), (1, .ref g), (2, .int a2), (3, .ref t)]) hx hb dX2_firstFault_58 hl (by decide) rfl (fun ls hl => ?_)
              refine lv_iinc (v := (v10_5 + 1)) (lv' := [(5, .int (v10_5 + 1)), (4, .int r27), (6, .int r27), (0, .ref d), (1, .ref g), (2, .int a2), (3, .ref t)]) hx hb dX2_firstFault_60 hl (k := 2) rfl rfl (by decide) rfl (fun ls hl => ?_)
              refine lv_goto (tgt := 10) hx hb dX2_firstFault_63 (by decide) ?_
              exact ih10 (v10_5 + 1) r27 u27.1 u27.2 u47.1 u47.2.1 u47.2.2.1 u47.2.2.2.1 u47.2.2.2.2.1 u47.2.2.2.2.2.1 u47.2.2.2.2.2.2.1 u47.2.2.2.2.2.2.2.1 u47.2.2.2.2.2.2.2.2.1 u47.2.2.2.2.2.2.2.2.2.1 u47.2.2.2.2.2.2.2.2.2.2 he _ _ _ hP hD hS (lv_sub hl [0, 1, 3, 4, 5, 6] rfl)
            · replace he := he.trans (if_pos c8)
              refine lv_iload hx hb dX2_firstFault_53 (lv_at hl 2 rfl) ?_
              exact hret v10_4 (u27.1, u27.2, u47.1, u47.2.1, u47.2.2.1, u47.2.2.2.1, u47.2.2.2.2.1, u47.2.2.2.2.2.1, u47.2.2.2.2.2.2.1, u47.2.2.2.2.2.2.2.1, u47.2.2.2.2.2.2.2.2.1, u47.2.2.2.2.2.2.2.2.2.1, u47.2.2.2.2.2.2.2.2.2.2) _ _ _ _ dX2_firstFault_55 he hP hD hS
  refine lv_aload_n hx hb dX2_firstFault_0 rfl (lv_at hl 3 rfl) ?_
  have n1_ : fX5_clear F tk_0 tk_1 ≠ none := fun z => hne (he.trans (xbd_none z))
  refine xcv (va_runV (As := []) (rest := []) ⟨hx, hb, hml, hown, hts⟩ (c_X5_clear l D cI cP s.heap.size t tr ta ti_4 ti_5 ti_6 ti_7 ti_8 ti_9 ti_10 tk_0 tk_1 tk_2 tk_3 F  n1_) (cwV 0 hts gX2_firstFault_X5_clear rfl rfl rfl (by decide +kernel) ⟨Nat.le_of_ble_eq_true rfl, Nat.le_of_ble_eq_true rfl⟩) (xPV hN hK hP hD [5, 6, 7, 8, 9, 10, 11, 12, 13] W_X2_firstFault_c_X5_clear_5_6_7_8_9_10_11_12_13 (by decide) (ci := 5) (j := 5) rfl W_X2_firstFault_o5) rfl rfl hl.1 rfl (lv_room (Nat.le_of_ble_eq_true rfl)) dX2_firstFault_1 ⟨Nat.le_of_ble_eq_true rfl, Nat.le_of_ble_eq_true rfl⟩) hP hD hS hA [5, 6, 7, 8, 9, 10, 11, 12, 13] W_X2_firstFault_c_X5_clear_5_6_7_8_9_10_11_12_13 (fun _ => rfl) (fun u1 H locs hw hP hD hS => ?_)
  rw [W_X2_firstFault_x_X5_clear_5_6_7_8_9_10_11_12_13] at hP hD
  replace he := he.trans (xbd_some hw)
  refine lv_iconst (v := 0) hx hb dX2_firstFault_4 (by decide) ?_
  refine lv_istore (lv' := [(4, .int (0 : Int32)), (0, .ref d), (1, .ref g), (2, .int a2), (3, .ref t)]) hx hb dX2_firstFault_5 hl (by decide) rfl (fun ls hl => ?_)
  refine lv_iconst (v := 0) hx hb dX2_firstFault_7 (by decide) ?_
  refine lv_istore (lv' := [(5, .int (0 : Int32)), (4, .int (0 : Int32)), (0, .ref d), (1, .ref g), (2, .int a2), (3, .ref t)]) hx hb dX2_firstFault_8 hl (by decide) rfl (fun ls hl => ?_)
  exact L10_4 F (0 : Int32) (0 : Int32) di_1 dk_0 u1.1 u1.2.1 u1.2.2.1 u1.2.2.2.1 u1.2.2.2.2.1 u1.2.2.2.2.2.1 u1.2.2.2.2.2.2.1 u1.2.2.2.2.2.2.2.1 u1.2.2.2.2.2.2.2.2 tk_2 tk_3 he _ _ _ hP hD hS (lv_sub hl [0, 1, 2, 3, 4, 5] rfl)
