def fX3_get (zf : Nat → Int32) (a1 : Int32) (zn : Nat) : Option (Int32) :=
  if a1 < 0 then (some (0 : Int32)) else (if (nI zn) ≤ a1 then (some (0 : Int32)) else (if a1 < 0 ∨ zn ≤ a1.toNatClampNeg then none else (some (zf a1.toNatClampNeg))))
theorem hi_X3_get_3 : ∀ w ∈ wsX30, w ∈ wsX3_get := fun _ h => (List.mem_cons_of_mem _ (List.mem_append_right _ h))
def W_X3_get (cI cP : ClassId) (z : Nat) (za : Nat) (zn : Nat) (zf : Nat → Int32) : va_W := (wRow cI z za zn zf)
theorem W_X3_get_o0 {cI cP : ClassId} {z : Nat} {za : Nat} {zn : Nat} {zf : Nat → Int32} : (W_X3_get cI cP z za zn zf)[0]? = some (z, .inr (3, [.ref za])) := rfl
theorem W_X3_get_a1 {cI cP : ClassId} {z : Nat} {za : Nat} {zn : Nat} {zf : Nat → Int32} : (W_X3_get cI cP z za zn zf)[1]? = some (za, .inl (cI, zn, .inl zf)) := rfl
set_option maxHeartbeats 4000000 in
set_option maxRecDepth 100000 in
theorem c_X3_get (l : Launch) (D : va_G) (cI cP : ClassId) (sz : Nat) (z : Nat) (za : Nat) (zn : Nat) (zf : Nat → Int32) (a1 : Int32) (hne : fX3_get zf a1 zn ≠ none) : xMi l yX3_get wsX3_get ({ frames := 0, cells := 0, slots := 0, locals := 0 } : Room) D (xT cI cP) [.ref z, .int a1] (W_X3_get cI cP z za zn zf) sz (fun r (_ : Unit) => fX3_get zf a1 zn = some r) (fun u => W_X3_get cI cP z za zn zf) 0 0 := by
  refine xMi_of (cc := cX3_get) (maxL := 2) (by decide +kernel) rfl (Nat.le_of_ble_eq_true rfl) ?_
  intro p e s m args below meth c A ls hx hb hml hown hts hname hN hK hA hP hD hS hl Q hret
  have he := fX3_get.eq_1 zf a1 zn
  have hl : lv_has ls 2 [(0, .ref z), (1, .int a1)] := hl
  refine lv_iload_n hx hb dX3_get_0 rfl (lv_at hl 1 rfl) ?_
  refine lv_if_lt (tgt := 22) hx hb dX3_get_1 (by decide) (fun c1 => ?_) (fun c1 => ?_)
  · replace he := he.trans (if_pos c1)
    refine lv_iconst (v := 0) hx hb dX3_get_22 (by decide) ?_
    exact hret (0 : Int32) () _ _ _ _ dX3_get_23 he hP hD hS
  · replace he := he.trans (if_neg c1)
    refine lv_iload_n hx hb dX3_get_4 rfl (lv_at hl 1 rfl) ?_
    refine lv_aload_n hx hb dX3_get_5 rfl (lv_at hl 0 rfl) ?_
    refine va_get (D := D) (ci := 3) (v := .ref za) (C := RX3) (T := TX3) (N := 1) hx hb hts hi_X3_get_3 hown hK hP 0 W_X3_get_o0 rfl 0 (by decide) (hts (.fieldLink RX3 7 "BlindLanterns$Row" "cells" "[I") (List.mem_of_getElem? (i := 1) rfl)) (fun _ h9 => h9) rfl dX3_get_6 ?_
    refine va_alen hx hb hK hP 1 0 W_X3_get_a1 rfl (v := (nI zn)) rfl dX3_get_9 ?_
    refine lv_icmp_ge (tgt := 22) hx hb dX3_get_10 (by decide) (fun c2 => ?_) (fun c2 => ?_)
    · replace he := he.trans (if_pos c2)
      refine lv_iconst (v := 0) hx hb dX3_get_22 (by decide) ?_
      exact hret (0 : Int32) () _ _ _ _ dX3_get_23 he hP hD hS
    · replace he := he.trans (if_neg c2)
      refine lv_aload_n hx hb dX3_get_13 rfl (lv_at hl 0 rfl) ?_
      refine va_get (D := D) (ci := 3) (v := .ref za) (C := RX3) (T := TX3) (N := 1) hx hb hts hi_X3_get_3 hown hK hP 0 W_X3_get_o0 rfl 0 (by decide) (hts (.fieldLink RX3 7 "BlindLanterns$Row" "cells" "[I") (List.mem_of_getElem? (i := 1) rfl)) (fun _ h9 => h9) rfl dX3_get_14 ?_
      refine lv_iload_n hx hb dX3_get_17 rfl (lv_at hl 1 rfl) ?_
      by_cases g3 : a1 < 0 ∨ zn ≤ a1.toNatClampNeg
      · exact absurd (he.trans (if_pos g3)) hne
      replace he := he.trans (if_neg g3)
      refine va_iald hx hb hK hP 1 0 W_X3_get_a1 rfl g3 dX3_get_18 ?_
      refine lv_goto (tgt := 23) hx hb dX3_get_19 (by decide) ?_
      exact hret (zf a1.toNatClampNeg) () _ _ _ _ dX3_get_23 he hP hD hS

def fX3_set (zf : Nat → Int32) (a1 : Int32) (a2 : Int32) (zn : Nat) : Option ((Nat → Int32)) :=
  if a1 < 0 then (some zf) else (if (nI zn) ≤ a1 then (some zf) else (if a1 < 0 ∨ zn ≤ a1.toNatClampNeg then none else (some (upd zf a1.toNatClampNeg a2))))
theorem hi_X3_set_3 : ∀ w ∈ wsX30, w ∈ wsX3_set := fun _ h => (List.mem_cons_of_mem _ (List.mem_append_right _ h))
def W_X3_set (cI cP : ClassId) (z : Nat) (za : Nat) (zn : Nat) (zf : Nat → Int32) : va_W := (wRow cI z za zn zf)
theorem W_X3_set_o0 {cI cP : ClassId} {z : Nat} {za : Nat} {zn : Nat} {zf : Nat → Int32} : (W_X3_set cI cP z za zn zf)[0]? = some (z, .inr (3, [.ref za])) := rfl
theorem W_X3_set_a1 {cI cP : ClassId} {z : Nat} {za : Nat} {zn : Nat} {zf : Nat → Int32} : (W_X3_set cI cP z za zn zf)[1]? = some (za, .inl (cI, zn, .inl zf)) := rfl
theorem W_X3_set_s1 {cI cP : ClassId} {z : Nat} {za : Nat} {zn : Nat} {zf : Nat → Int32} {f9 : Nat → Int32} : (W_X3_set cI cP z za zn zf).set 1 (za, .inl (cI, zn, .inl f9)) = W_X3_set cI cP z za zn f9 := rfl
set_option maxHeartbeats 4000000 in
set_option maxRecDepth 100000 in
theorem c_X3_set (l : Launch) (D : va_G) (cI cP : ClassId) (sz : Nat) (z : Nat) (za : Nat) (zn : Nat) (zf : Nat → Int32) (a1 : Int32) (a2 : Int32) (hne : fX3_set zf a1 a2 zn ≠ none) : xMv l yX3_set wsX3_set ({ frames := 0, cells := 0, slots := 0, locals := 0 } : Room) D (xT cI cP) [.ref z, .int a1, .int a2] (W_X3_set cI cP z za zn zf) sz (fun (u : ((Nat → Int32))) => fX3_set zf a1 a2 zn = some u) (fun u => W_X3_set cI cP z za zn u) 0 0 := by
  refine xMv_of (cc := cX3_set) (maxL := 3) (by decide +kernel) rfl (Nat.le_of_ble_eq_true rfl) ?_
  intro p e s m args below meth c A ls hx hb hml hown hts hname hN hK hA hP hD hS hl Q hret
  have he := fX3_set.eq_1 zf a1 a2 zn
  have hl : lv_has ls 3 [(0, .ref z), (1, .int a1), (2, .int a2)] := hl
  refine lv_iload_n hx hb dX3_set_0 rfl (lv_at hl 1 rfl) ?_
  refine lv_if_lt (tgt := 20) hx hb dX3_set_1 (by decide) (fun c1 => ?_) (fun c1 => ?_)
  · replace he := he.trans (if_pos c1)
    exact hret zf _ _ _ _ dX3_set_20 he hP hD hS
  · replace he := he.trans (if_neg c1)
    refine lv_iload_n hx hb dX3_set_4 rfl (lv_at hl 1 rfl) ?_
    refine lv_aload_n hx hb dX3_set_5 rfl (lv_at hl 0 rfl) ?_
    refine va_get (D := D) (ci := 3) (v := .ref za) (C := RX3) (T := TX3) (N := 1) hx hb hts hi_X3_set_3 hown hK hP 0 W_X3_set_o0 rfl 0 (by decide) (hts (.fieldLink RX3 7 "BlindLanterns$Row" "cells" "[I") (List.mem_of_getElem? (i := 1) rfl)) (fun _ h9 => h9) rfl dX3_set_6 ?_
    refine va_alen hx hb hK hP 1 0 W_X3_set_a1 rfl (v := (nI zn)) rfl dX3_set_9 ?_
    refine lv_icmp_ge (tgt := 20) hx hb dX3_set_10 (by decide) (fun c2 => ?_) (fun c2 => ?_)
    · replace he := he.trans (if_pos c2)
      exact hret zf _ _ _ _ dX3_set_20 he hP hD hS
    · replace he := he.trans (if_neg c2)
      refine lv_aload_n hx hb dX3_set_13 rfl (lv_at hl 0 rfl) ?_
      refine va_get (D := D) (ci := 3) (v := .ref za) (C := RX3) (T := TX3) (N := 1) hx hb hts hi_X3_set_3 hown hK hP 0 W_X3_set_o0 rfl 0 (by decide) (hts (.fieldLink RX3 7 "BlindLanterns$Row" "cells" "[I") (List.mem_of_getElem? (i := 1) rfl)) (fun _ h9 => h9) rfl dX3_set_14 ?_
      refine lv_iload_n hx hb dX3_set_17 rfl (lv_at hl 1 rfl) ?_
      refine lv_iload_n hx hb dX3_set_18 rfl (lv_at hl 2 rfl) ?_
      by_cases g3 : a1 < 0 ∨ zn ≤ a1.toNatClampNeg
      · exact absurd (he.trans (if_pos g3)) hne
      replace he := he.trans (if_neg g3)
      refine va_iast hx hb hK hP hD hS 1 0 W_X3_set_a1 rfl g3 dX3_set_19 (fun H locs hP hD hS => ?_)
      rw [W_X3_set_s1] at hP hD
      exact hret (upd zf a1.toNatClampNeg a2) _ _ _ _ dX3_set_20 he hP hD hS

def fX3_copy_L2 (gf : Nat → Int32) (zn : Nat) (gn : Nat) (k2 : Int32 → (Nat → Int32) → Option ((Nat → Int32))) : Nat → Int32 → (Nat → Int32) → Option ((Nat → Int32))
  | 0, _, _ => none
  | n2 + 1, v2_2, w2_zf => if (nI zn) ≤ v2_2 then (k2 v2_2 w2_zf) else (xbd (fX3_get gf v2_2 gn) (fun (r18 : Int32) => if v2_2 < 0 ∨ zn ≤ v2_2.toNatClampNeg then none else (fX3_copy_L2 gf zn gn k2 n2 (v2_2 + 1) (upd w2_zf v2_2.toNatClampNeg r18))))
def fX3_copy (F : Nat) (zf : Nat → Int32) (gf : Nat → Int32) (zn : Nat) (gn : Nat) : Option ((Nat → Int32)) :=
  fX3_copy_L2 gf zn gn (fun (v2_2 : Int32) (w2_zf : Nat → Int32) => some w2_zf) F (0 : Int32) zf
theorem hi_X3_copy_3 : ∀ w ∈ wsX30, w ∈ wsX3_copy := fun _ h => (List.mem_cons_of_mem _ (List.mem_append_right _ h))
def W_X3_copy (cI cP : ClassId) (z : Nat) (za : Nat) (zn : Nat) (zf : Nat → Int32) (g : Nat) (ga : Nat) (gn : Nat) (gf : Nat → Int32) : va_W := (wRow cI z za zn zf) ++ ((wRow cI g ga gn gf))
theorem W_X3_copy_o0 {cI cP : ClassId} {z : Nat} {za : Nat} {zn : Nat} {zf : Nat → Int32} {g : Nat} {ga : Nat} {gn : Nat} {gf : Nat → Int32} : (W_X3_copy cI cP z za zn zf g ga gn gf)[0]? = some (z, .inr (3, [.ref za])) := rfl
theorem W_X3_copy_a1 {cI cP : ClassId} {z : Nat} {za : Nat} {zn : Nat} {zf : Nat → Int32} {g : Nat} {ga : Nat} {gn : Nat} {gf : Nat → Int32} : (W_X3_copy cI cP z za zn zf g ga gn gf)[1]? = some (za, .inl (cI, zn, .inl zf)) := rfl
theorem W_X3_copy_c_X3_get_2_3 {cI cP : ClassId} {z : Nat} {za : Nat} {zn : Nat} {zf : Nat → Int32} {g : Nat} {ga : Nat} {gn : Nat} {gf : Nat → Int32} : ([2, 3] : List Nat).map (fun i => (W_X3_copy cI cP z za zn zf g ga gn gf)[i]?) = (W_X3_get cI cP g ga gn gf).map some := rfl
theorem W_X3_copy_x_X3_get_2_3 {cI cP : ClassId} {z : Nat} {za : Nat} {zn : Nat} {zf : Nat → Int32} {g : Nat} {ga : Nat} {gn : Nat} {gf : Nat → Int32} : xset (W_X3_copy cI cP z za zn zf g ga gn gf) [2, 3] (W_X3_get cI cP g ga gn gf) = W_X3_copy cI cP z za zn zf g ga gn gf := rfl
theorem W_X3_copy_o2 {cI cP : ClassId} {z : Nat} {za : Nat} {zn : Nat} {zf : Nat → Int32} {g : Nat} {ga : Nat} {gn : Nat} {gf : Nat → Int32} : (W_X3_copy cI cP z za zn zf g ga gn gf)[2]? = some (g, .inr (3, [.ref ga])) := rfl
theorem W_X3_copy_s1 {cI cP : ClassId} {z : Nat} {za : Nat} {zn : Nat} {zf : Nat → Int32} {g : Nat} {ga : Nat} {gn : Nat} {gf : Nat → Int32} {f9 : Nat → Int32} : (W_X3_copy cI cP z za zn zf g ga gn gf).set 1 (za, .inl (cI, zn, .inl f9)) = W_X3_copy cI cP z za zn f9 g ga gn gf := rfl
set_option maxHeartbeats 4000000 in
set_option maxRecDepth 100000 in
theorem c_X3_copy (l : Launch) (D : va_G) (cI cP : ClassId) (sz : Nat) (z : Nat) (za : Nat) (zn : Nat) (zf : Nat → Int32) (g : Nat) (ga : Nat) (gn : Nat) (gf : Nat → Int32) (F : Nat) (hne : fX3_copy F zf gf zn gn ≠ none) : xMv l yX3_copy wsX3_copy ({ frames := 1, cells := 0, slots := 0, locals := 21 } : Room) D (xT cI cP) [.ref z, .ref g] (W_X3_copy cI cP z za zn zf g ga gn gf) sz (fun (u : ((Nat → Int32))) => fX3_copy F zf gf zn gn = some u) (fun u => W_X3_copy cI cP z za zn u g ga gn gf) 0 0 := by
  refine xMv_of (cc := cX3_copy) (maxL := 3) (by decide +kernel) rfl (Nat.le_of_ble_eq_true rfl) ?_
  intro p e s m args below meth c A ls hx hb hml hown hts hname hN hK hA hP hD hS hl Q hret
  have he := fX3_copy.eq_1 F zf gf zn gn
  have hl : lv_has ls 3 [(0, .ref z), (1, .ref g)] := hl
  have R2_0 : ∀ (v2_2 : Int32) (w2_zf : Nat → Int32), fX3_copy F zf gf zn gn = (some w2_zf) → ∀ (H : Heap) (locs : List Loc) (ls : Array Slot), va_P D vwCl (W_X3_copy cI cP z za zn w2_zf g ga gn gf) H → va_D A (W_X3_copy cI cP z za zn w2_zf g ga gn gf) → va_S A s.heap H locs → lv_has ls 3 [] → W p l e ({ frames := 1, cells := 0, slots := 0, locals := 21 } : Room) s m args below meth c H locs 0 0 Q (F0 m 28 ls []) := by
    intro v2_2 w2_zf he H locs ls hP hD hS hl
    exact hret w2_zf _ _ _ _ dX3_copy_28 he hP hD hS
  have L2_3 : ∀ (n2 : Nat) (v2_2 : Int32) (w2_zf : Nat → Int32), fX3_copy F zf gf zn gn = fX3_copy_L2 gf zn gn (fun (v2_2 : Int32) (w2_zf : Nat → Int32) => some w2_zf) n2 v2_2 w2_zf → ∀ (H : Heap) (locs : List Loc) (ls : Array Slot), va_P D vwCl (W_X3_copy cI cP z za zn w2_zf g ga gn gf) H → va_D A (W_X3_copy cI cP z za zn w2_zf g ga gn gf) → va_S A s.heap H locs → lv_has ls 3 [(2, .int v2_2), (0, .ref z), (1, .ref g)] → W p l e ({ frames := 1, cells := 0, slots := 0, locals := 21 } : Room) s m args below meth c H locs 0 0 Q (F0 m 2 ls []) := by
    intro n2
    induction n2 with
    | zero => intro v2_2 w2_zf he; exact absurd he hne
    | succ n2 ih2 =>
      intro v2_2 w2_zf he H locs ls hP hD hS hl
      replace he := he.trans (fX3_copy_L2.eq_2 _ _ _ _ _ _ _)
      refine lv_iload_n hx hb dX3_copy_2 rfl (lv_at hl 0 rfl) ?_
      refine lv_aload_n hx hb dX3_copy_3 rfl (lv_at hl 1 rfl) ?_
      refine va_get (D := D) (ci := 3) (v := .ref za) (C := RX3) (T := TX3) (N := 1) hx hb hts hi_X3_copy_3 hown hK hP 0 W_X3_copy_o0 rfl 0 (by decide) (hts (.fieldLink RX3 7 "BlindLanterns$Row" "cells" "[I") (List.mem_of_getElem? (i := 1) rfl)) (fun _ h9 => h9) rfl dX3_copy_4 ?_
      refine va_alen hx hb hK hP 1 0 W_X3_copy_a1 rfl (v := (nI zn)) rfl dX3_copy_7 ?_
      refine lv_icmp_ge (tgt := 28) hx hb dX3_copy_8 (by decide) (fun c1 => ?_) (fun c1 => ?_)
      · replace he := he.trans (if_pos c1)
        exact R2_0 v2_2 w2_zf he _ _ _ hP hD hS (lv_sub hl [] rfl)
      · replace he := he.trans (if_neg c1)
        refine lv_aload_n hx hb dX3_copy_11 rfl (lv_at hl 1 rfl) ?_
        refine va_get (D := D) (ci := 3) (v := .ref za) (C := RX3) (T := TX3) (N := 1) hx hb hts hi_X3_copy_3 hown hK hP 0 W_X3_copy_o0 rfl 0 (by decide) (hts (.fieldLink RX3 7 "BlindLanterns$Row" "cells" "[I") (List.mem_of_getElem? (i := 1) rfl)) (fun _ h9 => h9) rfl dX3_copy_12 ?_
        refine lv_iload_n hx hb dX3_copy_15 rfl (lv_at hl 0 rfl) ?_
        refine lv_aload_n hx hb dX3_copy_16 rfl (lv_at hl 2 rfl) ?_
        refine lv_iload_n hx hb dX3_copy_17 rfl (lv_at hl 0 rfl) ?_
        have n2_ : fX3_get gf v2_2 gn ≠ none := fun z => hne (he.trans (xbd_none z))
        refine xci (va_runV (As := [.int v2_2]) (rest := [.int v2_2, .ref za]) ⟨hx, hb, hml, hown, hts⟩ (c_X3_get l D cI cP H.size g ga gn gf v2_2 n2_) (cwV 1 hts gX3_copy_X3_get rfl rfl rfl (by decide +kernel) ⟨Nat.le_of_ble_eq_true rfl, Nat.le_of_ble_eq_true rfl⟩) (xPV hN hK hP hD [2, 3] W_X3_copy_c_X3_get_2_3 (by decide) (ci := 3) (j := 2) rfl W_X3_copy_o2) rfl rfl hl.1 rfl (lv_room (Nat.le_of_ble_eq_true rfl)) dX3_copy_18 ⟨Nat.le_of_ble_eq_true rfl, Nat.le_of_ble_eq_true rfl⟩) hP hD hS hA [2, 3] W_X3_copy_c_X3_get_2_3 (fun _ => rfl) (fun r18 u18 H locs hw hP hD hS => ?_)
        rw [W_X3_copy_x_X3_get_2_3] at hP hD
        replace he := he.trans (xbd_some hw)
        by_cases g3 : v2_2 < 0 ∨ zn ≤ v2_2.toNatClampNeg
        · exact absurd (he.trans (if_pos g3)) hne
        replace he := he.trans (if_neg g3)
        refine va_iast hx hb hK hP hD hS 1 0 W_X3_copy_a1 rfl g3 dX3_copy_21 (fun H locs hP hD hS => ?_)
        rw [W_X3_copy_s1] at hP hD
        refine lv_iinc (v := (v2_2 + 1)) (lv' := [(2, .int (v2_2 + 1)), (0, .ref z), (1, .ref g)]) hx hb dX3_copy_22 hl (k := 0) rfl rfl (by decide) rfl (fun ls hl => ?_)
        refine lv_goto (tgt := 2) hx hb dX3_copy_25 (by decide) ?_
        exact ih2 (v2_2 + 1) (upd w2_zf v2_2.toNatClampNeg r18) he _ _ _ hP hD hS (lv_sub hl [0, 1, 2] rfl)
  refine lv_iconst (v := 0) hx hb dX3_copy_0 (by decide) ?_
  refine lv_istore_n (lv' := [(2, .int (0 : Int32)), (0, .ref z), (1, .ref g)]) hx hb dX3_copy_1 rfl hl (by decide) rfl (fun ls hl => ?_)
  exact L2_3 F (0 : Int32) zf he _ _ _ hP hD hS (lv_sub hl [0, 1, 2] rfl)

def fX3_clear_L2 (zn : Nat) (k2 : Int32 → (Nat → Int32) → Option ((Nat → Int32))) : Nat → Int32 → (Nat → Int32) → Option ((Nat → Int32))
  | 0, _, _ => none
  | n2 + 1, v2_1, w2_zf => if (nI zn) ≤ v2_1 then (k2 v2_1 w2_zf) else (if v2_1 < 0 ∨ zn ≤ v2_1.toNatClampNeg then none else (fX3_clear_L2 zn k2 n2 (v2_1 + 1) (upd w2_zf v2_1.toNatClampNeg (0 : Int32))))
def fX3_clear (F : Nat) (zf : Nat → Int32) (zn : Nat) : Option ((Nat → Int32)) :=
  fX3_clear_L2 zn (fun (v2_1 : Int32) (w2_zf : Nat → Int32) => some w2_zf) F (0 : Int32) zf
theorem hi_X3_clear_3 : ∀ w ∈ wsX30, w ∈ wsX3_clear := fun _ h => (List.mem_cons_of_mem _ (List.mem_append_right _ h))
def W_X3_clear (cI cP : ClassId) (z : Nat) (za : Nat) (zn : Nat) (zf : Nat → Int32) : va_W := (wRow cI z za zn zf)
theorem W_X3_clear_o0 {cI cP : ClassId} {z : Nat} {za : Nat} {zn : Nat} {zf : Nat → Int32} : (W_X3_clear cI cP z za zn zf)[0]? = some (z, .inr (3, [.ref za])) := rfl
theorem W_X3_clear_a1 {cI cP : ClassId} {z : Nat} {za : Nat} {zn : Nat} {zf : Nat → Int32} : (W_X3_clear cI cP z za zn zf)[1]? = some (za, .inl (cI, zn, .inl zf)) := rfl
theorem W_X3_clear_s1 {cI cP : ClassId} {z : Nat} {za : Nat} {zn : Nat} {zf : Nat → Int32} {f9 : Nat → Int32} : (W_X3_clear cI cP z za zn zf).set 1 (za, .inl (cI, zn, .inl f9)) = W_X3_clear cI cP z za zn f9 := rfl
set_option maxHeartbeats 4000000 in
set_option maxRecDepth 100000 in
theorem c_X3_clear (l : Launch) (D : va_G) (cI cP : ClassId) (sz : Nat) (z : Nat) (za : Nat) (zn : Nat) (zf : Nat → Int32) (F : Nat) (hne : fX3_clear F zf zn ≠ none) : xMv l yX3_clear wsX3_clear ({ frames := 0, cells := 0, slots := 0, locals := 0 } : Room) D (xT cI cP) [.ref z] (W_X3_clear cI cP z za zn zf) sz (fun (u : ((Nat → Int32))) => fX3_clear F zf zn = some u) (fun u => W_X3_clear cI cP z za zn u) 0 0 := by
  refine xMv_of (cc := cX3_clear) (maxL := 2) (by decide +kernel) rfl (Nat.le_of_ble_eq_true rfl) ?_
  intro p e s m args below meth c A ls hx hb hml hown hts hname hN hK hA hP hD hS hl Q hret
  have he := fX3_clear.eq_1 F zf zn
  have hl : lv_has ls 2 [(0, .ref z)] := hl
  have R2_0 : ∀ (v2_1 : Int32) (w2_zf : Nat → Int32), fX3_clear F zf zn = (some w2_zf) → ∀ (H : Heap) (locs : List Loc) (ls : Array Slot), va_P D vwCl (W_X3_clear cI cP z za zn w2_zf) H → va_D A (W_X3_clear cI cP z za zn w2_zf) → va_S A s.heap H locs → lv_has ls 2 [] → W p l e ({ frames := 0, cells := 0, slots := 0, locals := 0 } : Room) s m args below meth c H locs 0 0 Q (F0 m 24 ls []) := by
    intro v2_1 w2_zf he H locs ls hP hD hS hl
    exact hret w2_zf _ _ _ _ dX3_clear_24 he hP hD hS
  have L2_3 : ∀ (n2 : Nat) (v2_1 : Int32) (w2_zf : Nat → Int32), fX3_clear F zf zn = fX3_clear_L2 zn (fun (v2_1 : Int32) (w2_zf : Nat → Int32) => some w2_zf) n2 v2_1 w2_zf → ∀ (H : Heap) (locs : List Loc) (ls : Array Slot), va_P D vwCl (W_X3_clear cI cP z za zn w2_zf) H → va_D A (W_X3_clear cI cP z za zn w2_zf) → va_S A s.heap H locs → lv_has ls 2 [(1, .int v2_1), (0, .ref z)] → W p l e ({ frames := 0, cells := 0, slots := 0, locals := 0 } : Room) s m args below meth c H locs 0 0 Q (F0 m 2 ls []) := by
    intro n2
    induction n2 with
    | zero => intro v2_1 w2_zf he; exact absurd he hne
    | succ n2 ih2 =>
      intro v2_1 w2_zf he H locs ls hP hD hS hl
      replace he := he.trans (fX3_clear_L2.eq_2 _ _ _ _ _)
      refine lv_iload_n hx hb dX3_clear_2 rfl (lv_at hl 0 rfl) ?_
      refine lv_aload_n hx hb dX3_clear_3 rfl (lv_at hl 1 rfl) ?_
      refine va_get (D := D) (ci := 3) (v := .ref za) (C := RX3) (T := TX3) (N := 1) hx hb hts hi_X3_clear_3 hown hK hP 0 W_X3_clear_o0 rfl 0 (by decide) (hts (.fieldLink RX3 7 "BlindLanterns$Row" "cells" "[I") (List.mem_of_getElem? (i := 1) rfl)) (fun _ h9 => h9) rfl dX3_clear_4 ?_
      refine va_alen hx hb hK hP 1 0 W_X3_clear_a1 rfl (v := (nI zn)) rfl dX3_clear_7 ?_
      refine lv_icmp_ge (tgt := 24) hx hb dX3_clear_8 (by decide) (fun c1 => ?_) (fun c1 => ?_)
      · replace he := he.trans (if_pos c1)
        exact R2_0 v2_1 w2_zf he _ _ _ hP hD hS (lv_sub hl [] rfl)
      · replace he := he.trans (if_neg c1)
        refine lv_aload_n hx hb dX3_clear_11 rfl (lv_at hl 1 rfl) ?_
        refine va_get (D := D) (ci := 3) (v := .ref za) (C := RX3) (T := TX3) (N := 1) hx hb hts hi_X3_clear_3 hown hK hP 0 W_X3_clear_o0 rfl 0 (by decide) (hts (.fieldLink RX3 7 "BlindLanterns$Row" "cells" "[I") (List.mem_of_getElem? (i := 1) rfl)) (fun _ h9 => h9) rfl dX3_clear_12 ?_
        refine lv_iload_n hx hb dX3_clear_15 rfl (lv_at hl 0 rfl) ?_
        refine lv_iconst (v := 0) hx hb dX3_clear_16 (by decide) ?_
        by_cases g2 : v2_1 < 0 ∨ zn ≤ v2_1.toNatClampNeg
        · exact absurd (he.trans (if_pos g2)) hne
        replace he := he.trans (if_neg g2)
        refine va_iast hx hb hK hP hD hS 1 0 W_X3_clear_a1 rfl g2 dX3_clear_17 (fun H locs hP hD hS => ?_)
        rw [W_X3_clear_s1] at hP hD
        refine lv_iinc (v := (v2_1 + 1)) (lv' := [(1, .int (v2_1 + 1)), (0, .ref z)]) hx hb dX3_clear_18 hl (k := 0) rfl rfl (by decide) rfl (fun ls hl => ?_)
        refine lv_goto (tgt := 2) hx hb dX3_clear_21 (by decide) ?_
        exact ih2 (v2_1 + 1) (upd w2_zf v2_1.toNatClampNeg (0 : Int32)) he _ _ _ hP hD hS (lv_sub hl [0, 1] rfl)
  refine lv_iconst (v := 0) hx hb dX3_clear_0 (by decide) ?_
  refine lv_istore_n (lv' := [(1, .int (0 : Int32)), (0, .ref z)]) hx hb dX3_clear_1 rfl hl (by decide) rfl (fun ls hl => ?_)
  exact L2_3 F (0 : Int32) zf he _ _ _ hP hD hS (lv_sub hl [0, 1] rfl)

def fJ9_floorMod_7cf53 (a1 : Int32) (a2 : Int32) : Option (Int32) :=
  if a2 = 0 then none else (if 0 ≤ (a1 ^^^ a2) then (some (a1 - a1 / a2 * a2)) else (if (a1 - a1 / a2 * a2) = 0 then (some (a1 - a1 / a2 * a2)) else (some ((a1 - a1 / a2 * a2) + a2))))
set_option maxHeartbeats 4000000 in
set_option maxRecDepth 100000 in
theorem c_J9_floorMod_7cf53 (l : Launch) (D : va_G) (cI cP : ClassId) (sz : Nat) (a1 : Int32) (a2 : Int32) (hne : fJ9_floorMod_7cf53 a1 a2 ≠ none) : xMi l yJ9_floorMod_7cf53 wsJ9_floorMod_7cf53 ({ frames := 0, cells := 0, slots := 0, locals := 0 } : Room) D (xT cI cP) [.int a1, .int a2] (([] : va_W)) sz (fun r (_ : Unit) => fJ9_floorMod_7cf53 a1 a2 = some r) (fun u => ([] : va_W)) 0 0 := by
  refine xMi_of (cc := cJ9_floorMod_7cf53) (maxL := 3) (by decide +kernel) rfl (Nat.le_of_ble_eq_true rfl) ?_
  intro p e s m args below meth c A ls hx hb hml hown hts hname hN hK hA hP hD hS hl Q hret
  have he := fJ9_floorMod_7cf53.eq_1 a1 a2
  have hl : lv_has ls 3 [(0, .int a1), (1, .int a2)] := hl
  refine lv_iload_n hx hb dJ9_floorMod_7cf53_0 rfl (lv_at hl 0 rfl) ?_
  refine lv_iload_n hx hb dJ9_floorMod_7cf53_1 rfl (lv_at hl 1 rfl) ?_
  by_cases g1 : a2 = 0
  · exact absurd (he.trans (if_pos g1)) hne
  replace he := he.trans (if_neg g1)
  refine lv_irem hx hb dJ9_floorMod_7cf53_2 g1 ?_
  refine lv_istore_n (lv' := [(2, .int (a1 - a1 / a2 * a2)), (0, .int a1), (1, .int a2)]) hx hb dJ9_floorMod_7cf53_3 rfl hl (by decide) rfl (fun ls hl => ?_)
  refine lv_iload_n hx hb dJ9_floorMod_7cf53_4 rfl (lv_at hl 1 rfl) ?_
  refine lv_iload_n hx hb dJ9_floorMod_7cf53_5 rfl (lv_at hl 2 rfl) ?_
  refine lv_ixor hx hb dJ9_floorMod_7cf53_6 ?_
  refine lv_if_ge (tgt := 18) hx hb dJ9_floorMod_7cf53_7 (by decide) (fun c2 => ?_) (fun c2 => ?_)
  · replace he := he.trans (if_pos c2)
    refine lv_iload_n hx hb dJ9_floorMod_7cf53_18 rfl (lv_at hl 0 rfl) ?_
    exact hret (a1 - a1 / a2 * a2) () _ _ _ _ dJ9_floorMod_7cf53_19 he hP hD hS
  · replace he := he.trans (if_neg c2)
    refine lv_iload_n hx hb dJ9_floorMod_7cf53_10 rfl (lv_at hl 0 rfl) ?_
    refine lv_if_eq (tgt := 18) hx hb dJ9_floorMod_7cf53_11 (by decide) (fun c3 => ?_) (fun c3 => ?_)
    · replace he := he.trans (if_pos c3)
      refine lv_iload_n hx hb dJ9_floorMod_7cf53_18 rfl (lv_at hl 0 rfl) ?_
      exact hret (a1 - a1 / a2 * a2) () _ _ _ _ dJ9_floorMod_7cf53_19 he hP hD hS
    · replace he := he.trans (if_neg c3)
      refine lv_iload_n hx hb dJ9_floorMod_7cf53_14 rfl (lv_at hl 0 rfl) ?_
      refine lv_iload_n hx hb dJ9_floorMod_7cf53_15 rfl (lv_at hl 2 rfl) ?_
      refine lv_iadd hx hb dJ9_floorMod_7cf53_16 ?_
      exact hret ((a1 - a1 / a2 * a2) + a2) () _ _ _ _ dJ9_floorMod_7cf53_17 he hP hD hS

def fJ6_bitCount_0f7a4 (a1 : Int32) : Option (Int32) :=
  some ((((((((a1 - (((a1.toUInt32 >>> ((1 : Int32).toUInt32 &&& Int32.toUInt32 31)).toInt32) &&& (1431655765 : Int32))) &&& (858993459 : Int32)) + ((((a1 - (((a1.toUInt32 >>> ((1 : Int32).toUInt32 &&& Int32.toUInt32 31)).toInt32) &&& (1431655765 : Int32))).toUInt32 >>> ((2 : Int32).toUInt32 &&& Int32.toUInt32 31)).toInt32) &&& (858993459 : Int32))) + (((((a1 - (((a1.toUInt32 >>> ((1 : Int32).toUInt32 &&& Int32.toUInt32 31)).toInt32) &&& (1431655765 : Int32))) &&& (858993459 : Int32)) + ((((a1 - (((a1.toUInt32 >>> ((1 : Int32).toUInt32 &&& Int32.toUInt32 31)).toInt32) &&& (1431655765 : Int32))).toUInt32 >>> ((2 : Int32).toUInt32 &&& Int32.toUInt32 31)).toInt32) &&& (858993459 : Int32))).toUInt32 >>> ((4 : Int32).toUInt32 &&& Int32.toUInt32 31)).toInt32)) &&& (252645135 : Int32)) + (((((((a1 - (((a1.toUInt32 >>> ((1 : Int32).toUInt32 &&& Int32.toUInt32 31)).toInt32) &&& (1431655765 : Int32))) &&& (858993459 : Int32)) + ((((a1 - (((a1.toUInt32 >>> ((1 : Int32).toUInt32 &&& Int32.toUInt32 31)).toInt32) &&& (1431655765 : Int32))).toUInt32 >>> ((2 : Int32).toUInt32 &&& Int32.toUInt32 31)).toInt32) &&& (858993459 : Int32))) + (((((a1 - (((a1.toUInt32 >>> ((1 : Int32).toUInt32 &&& Int32.toUInt32 31)).toInt32) &&& (1431655765 : Int32))) &&& (858993459 : Int32)) + ((((a1 - (((a1.toUInt32 >>> ((1 : Int32).toUInt32 &&& Int32.toUInt32 31)).toInt32) &&& (1431655765 : Int32))).toUInt32 >>> ((2 : Int32).toUInt32 &&& Int32.toUInt32 31)).toInt32) &&& (858993459 : Int32))).toUInt32 >>> ((4 : Int32).toUInt32 &&& Int32.toUInt32 31)).toInt32)) &&& (252645135 : Int32)).toUInt32 >>> ((8 : Int32).toUInt32 &&& Int32.toUInt32 31)).toInt32)) + ((((((((a1 - (((a1.toUInt32 >>> ((1 : Int32).toUInt32 &&& Int32.toUInt32 31)).toInt32) &&& (1431655765 : Int32))) &&& (858993459 : Int32)) + ((((a1 - (((a1.toUInt32 >>> ((1 : Int32).toUInt32 &&& Int32.toUInt32 31)).toInt32) &&& (1431655765 : Int32))).toUInt32 >>> ((2 : Int32).toUInt32 &&& Int32.toUInt32 31)).toInt32) &&& (858993459 : Int32))) + (((((a1 - (((a1.toUInt32 >>> ((1 : Int32).toUInt32 &&& Int32.toUInt32 31)).toInt32) &&& (1431655765 : Int32))) &&& (858993459 : Int32)) + ((((a1 - (((a1.toUInt32 >>> ((1 : Int32).toUInt32 &&& Int32.toUInt32 31)).toInt32) &&& (1431655765 : Int32))).toUInt32 >>> ((2 : Int32).toUInt32 &&& Int32.toUInt32 31)).toInt32) &&& (858993459 : Int32))).toUInt32 >>> ((4 : Int32).toUInt32 &&& Int32.toUInt32 31)).toInt32)) &&& (252645135 : Int32)) + (((((((a1 - (((a1.toUInt32 >>> ((1 : Int32).toUInt32 &&& Int32.toUInt32 31)).toInt32) &&& (1431655765 : Int32))) &&& (858993459 : Int32)) + ((((a1 - (((a1.toUInt32 >>> ((1 : Int32).toUInt32 &&& Int32.toUInt32 31)).toInt32) &&& (1431655765 : Int32))).toUInt32 >>> ((2 : Int32).toUInt32 &&& Int32.toUInt32 31)).toInt32) &&& (858993459 : Int32))) + (((((a1 - (((a1.toUInt32 >>> ((1 : Int32).toUInt32 &&& Int32.toUInt32 31)).toInt32) &&& (1431655765 : Int32))) &&& (858993459 : Int32)) + ((((a1 - (((a1.toUInt32 >>> ((1 : Int32).toUInt32 &&& Int32.toUInt32 31)).toInt32) &&& (1431655765 : Int32))).toUInt32 >>> ((2 : Int32).toUInt32 &&& Int32.toUInt32 31)).toInt32) &&& (858993459 : Int32))).toUInt32 >>> ((4 : Int32).toUInt32 &&& Int32.toUInt32 31)).toInt32)) &&& (252645135 : Int32)).toUInt32 >>> ((8 : Int32).toUInt32 &&& Int32.toUInt32 31)).toInt32)).toUInt32 >>> ((16 : Int32).toUInt32 &&& Int32.toUInt32 31)).toInt32)) &&& (63 : Int32))
set_option maxHeartbeats 4000000 in
set_option maxRecDepth 100000 in
theorem c_J6_bitCount_0f7a4 (l : Launch) (D : va_G) (cI cP : ClassId) (sz : Nat) (a1 : Int32) (hne : fJ6_bitCount_0f7a4 a1 ≠ none) : xMi l yJ6_bitCount_0f7a4 wsJ6_bitCount_0f7a4 ({ frames := 0, cells := 0, slots := 0, locals := 0 } : Room) D (xT cI cP) [.int a1] (([] : va_W)) sz (fun r (_ : Unit) => fJ6_bitCount_0f7a4 a1 = some r) (fun u => ([] : va_W)) 0 0 := by
  refine xMi_of (cc := cJ6_bitCount_0f7a4) (maxL := 1) (by decide +kernel) rfl (Nat.le_of_ble_eq_true rfl) ?_
  intro p e s m args below meth c A ls hx hb hml hown hts hname hN hK hA hP hD hS hl Q hret
  have he := fJ6_bitCount_0f7a4.eq_1 a1
  have hl : lv_has ls 1 [(0, .int a1)] := hl
  refine lv_iload_n hx hb dJ6_bitCount_0f7a4_0 rfl (lv_at hl 0 rfl) ?_
  refine lv_iload_n hx hb dJ6_bitCount_0f7a4_1 rfl (lv_at hl 0 rfl) ?_
  refine lv_iconst (v := 1) hx hb dJ6_bitCount_0f7a4_2 (by decide) ?_
  refine lv_iushr hx hb dJ6_bitCount_0f7a4_3 rfl ?_
  refine lv_ldcw hx hb hown (hts (.constant RJ6 265 (1431655765)) (List.mem_of_getElem? (i := 1) rfl)) dJ6_bitCount_0f7a4_4 ?_
  refine lv_iand hx hb dJ6_bitCount_0f7a4_7 ?_
  refine lv_isub hx hb dJ6_bitCount_0f7a4_8 ?_
  refine lv_istore_n (lv' := [(0, .int (a1 - (((a1.toUInt32 >>> ((1 : Int32).toUInt32 &&& Int32.toUInt32 31)).toInt32) &&& (1431655765 : Int32))))]) hx hb dJ6_bitCount_0f7a4_9 rfl hl (by decide) rfl (fun ls hl => ?_)
  refine lv_iload_n hx hb dJ6_bitCount_0f7a4_10 rfl (lv_at hl 0 rfl) ?_
  refine lv_ldcw hx hb hown (hts (.constant RJ6 266 (858993459)) (List.mem_of_getElem? (i := 2) rfl)) dJ6_bitCount_0f7a4_11 ?_
  refine lv_iand hx hb dJ6_bitCount_0f7a4_14 ?_
  refine lv_iload_n hx hb dJ6_bitCount_0f7a4_15 rfl (lv_at hl 0 rfl) ?_
  refine lv_iconst (v := 2) hx hb dJ6_bitCount_0f7a4_16 (by decide) ?_
  refine lv_iushr hx hb dJ6_bitCount_0f7a4_17 rfl ?_
  refine lv_ldcw hx hb hown (hts (.constant RJ6 266 (858993459)) (List.mem_of_getElem? (i := 2) rfl)) dJ6_bitCount_0f7a4_18 ?_
  refine lv_iand hx hb dJ6_bitCount_0f7a4_21 ?_
  refine lv_iadd hx hb dJ6_bitCount_0f7a4_22 ?_
  refine lv_istore_n (lv' := [(0, .int (((a1 - (((a1.toUInt32 >>> ((1 : Int32).toUInt32 &&& Int32.toUInt32 31)).toInt32) &&& (1431655765 : Int32))) &&& (858993459 : Int32)) + ((((a1 - (((a1.toUInt32 >>> ((1 : Int32).toUInt32 &&& Int32.toUInt32 31)).toInt32) &&& (1431655765 : Int32))).toUInt32 >>> ((2 : Int32).toUInt32 &&& Int32.toUInt32 31)).toInt32) &&& (858993459 : Int32))))]) hx hb dJ6_bitCount_0f7a4_23 rfl hl (by decide) rfl (fun ls hl => ?_)
  refine lv_iload_n hx hb dJ6_bitCount_0f7a4_24 rfl (lv_at hl 0 rfl) ?_
  refine lv_iload_n hx hb dJ6_bitCount_0f7a4_25 rfl (lv_at hl 0 rfl) ?_
  refine lv_iconst (v := 4) hx hb dJ6_bitCount_0f7a4_26 (by decide) ?_
  refine lv_iushr hx hb dJ6_bitCount_0f7a4_27 rfl ?_
  refine lv_iadd hx hb dJ6_bitCount_0f7a4_28 ?_
  refine lv_ldcw hx hb hown (hts (.constant RJ6 267 (252645135)) (List.mem_of_getElem? (i := 3) rfl)) dJ6_bitCount_0f7a4_29 ?_
  refine lv_iand hx hb dJ6_bitCount_0f7a4_32 ?_
  refine lv_istore_n (lv' := [(0, .int (((((a1 - (((a1.toUInt32 >>> ((1 : Int32).toUInt32 &&& Int32.toUInt32 31)).toInt32) &&& (1431655765 : Int32))) &&& (858993459 : Int32)) + ((((a1 - (((a1.toUInt32 >>> ((1 : Int32).toUInt32 &&& Int32.toUInt32 31)).toInt32) &&& (1431655765 : Int32))).toUInt32 >>> ((2 : Int32).toUInt32 &&& Int32.toUInt32 31)).toInt32) &&& (858993459 : Int32))) + (((((a1 - (((a1.toUInt32 >>> ((1 : Int32).toUInt32 &&& Int32.toUInt32 31)).toInt32) &&& (1431655765 : Int32))) &&& (858993459 : Int32)) + ((((a1 - (((a1.toUInt32 >>> ((1 : Int32).toUInt32 &&& Int32.toUInt32 31)).toInt32) &&& (1431655765 : Int32))).toUInt32 >>> ((2 : Int32).toUInt32 &&& Int32.toUInt32 31)).toInt32) &&& (858993459 : Int32))).toUInt32 >>> ((4 : Int32).toUInt32 &&& Int32.toUInt32 31)).toInt32)) &&& (252645135 : Int32)))]) hx hb dJ6_bitCount_0f7a4_33 rfl hl (by decide) rfl (fun ls hl => ?_)
  refine lv_iload_n hx hb dJ6_bitCount_0f7a4_34 rfl (lv_at hl 0 rfl) ?_
  refine lv_iload_n hx hb dJ6_bitCount_0f7a4_35 rfl (lv_at hl 0 rfl) ?_
  refine lv_bipush (v := 8) hx hb dJ6_bitCount_0f7a4_36 (by decide) ?_
  refine lv_iushr hx hb dJ6_bitCount_0f7a4_38 rfl ?_
  refine lv_iadd hx hb dJ6_bitCount_0f7a4_39 ?_
  refine lv_istore_n (lv' := [(0, .int ((((((a1 - (((a1.toUInt32 >>> ((1 : Int32).toUInt32 &&& Int32.toUInt32 31)).toInt32) &&& (1431655765 : Int32))) &&& (858993459 : Int32)) + ((((a1 - (((a1.toUInt32 >>> ((1 : Int32).toUInt32 &&& Int32.toUInt32 31)).toInt32) &&& (1431655765 : Int32))).toUInt32 >>> ((2 : Int32).toUInt32 &&& Int32.toUInt32 31)).toInt32) &&& (858993459 : Int32))) + (((((a1 - (((a1.toUInt32 >>> ((1 : Int32).toUInt32 &&& Int32.toUInt32 31)).toInt32) &&& (1431655765 : Int32))) &&& (858993459 : Int32)) + ((((a1 - (((a1.toUInt32 >>> ((1 : Int32).toUInt32 &&& Int32.toUInt32 31)).toInt32) &&& (1431655765 : Int32))).toUInt32 >>> ((2 : Int32).toUInt32 &&& Int32.toUInt32 31)).toInt32) &&& (858993459 : Int32))).toUInt32 >>> ((4 : Int32).toUInt32 &&& Int32.toUInt32 31)).toInt32)) &&& (252645135 : Int32)) + (((((((a1 - (((a1.toUInt32 >>> ((1 : Int32).toUInt32 &&& Int32.toUInt32 31)).toInt32) &&& (1431655765 : Int32))) &&& (858993459 : Int32)) + ((((a1 - (((a1.toUInt32 >>> ((1 : Int32).toUInt32 &&& Int32.toUInt32 31)).toInt32) &&& (1431655765 : Int32))).toUInt32 >>> ((2 : Int32).toUInt32 &&& Int32.toUInt32 31)).toInt32) &&& (858993459 : Int32))) + (((((a1 - (((a1.toUInt32 >>> ((1 : Int32).toUInt32 &&& Int32.toUInt32 31)).toInt32) &&& (1431655765 : Int32))) &&& (858993459 : Int32)) + ((((a1 - (((a1.toUInt32 >>> ((1 : Int32).toUInt32 &&& Int32.toUInt32 31)).toInt32) &&& (1431655765 : Int32))).toUInt32 >>> ((2 : Int32).toUInt32 &&& Int32.toUInt32 31)).toInt32) &&& (858993459 : Int32))).toUInt32 >>> ((4 : Int32).toUInt32 &&& Int32.toUInt32 31)).toInt32)) &&& (252645135 : Int32)).toUInt32 >>> ((8 : Int32).toUInt32 &&& Int32.toUInt32 31)).toInt32)))]) hx hb dJ6_bitCount_0f7a4_40 rfl hl (by decide) rfl (fun ls hl => ?_)
  refine lv_iload_n hx hb dJ6_bitCount_0f7a4_41 rfl (lv_at hl 0 rfl) ?_
  refine lv_iload_n hx hb dJ6_bitCount_0f7a4_42 rfl (lv_at hl 0 rfl) ?_
  refine lv_bipush (v := 16) hx hb dJ6_bitCount_0f7a4_43 (by decide) ?_
  refine lv_iushr hx hb dJ6_bitCount_0f7a4_45 rfl ?_
  refine lv_iadd hx hb dJ6_bitCount_0f7a4_46 ?_
  refine lv_istore_n (lv' := [(0, .int (((((((a1 - (((a1.toUInt32 >>> ((1 : Int32).toUInt32 &&& Int32.toUInt32 31)).toInt32) &&& (1431655765 : Int32))) &&& (858993459 : Int32)) + ((((a1 - (((a1.toUInt32 >>> ((1 : Int32).toUInt32 &&& Int32.toUInt32 31)).toInt32) &&& (1431655765 : Int32))).toUInt32 >>> ((2 : Int32).toUInt32 &&& Int32.toUInt32 31)).toInt32) &&& (858993459 : Int32))) + (((((a1 - (((a1.toUInt32 >>> ((1 : Int32).toUInt32 &&& Int32.toUInt32 31)).toInt32) &&& (1431655765 : Int32))) &&& (858993459 : Int32)) + ((((a1 - (((a1.toUInt32 >>> ((1 : Int32).toUInt32 &&& Int32.toUInt32 31)).toInt32) &&& (1431655765 : Int32))).toUInt32 >>> ((2 : Int32).toUInt32 &&& Int32.toUInt32 31)).toInt32) &&& (858993459 : Int32))).toUInt32 >>> ((4 : Int32).toUInt32 &&& Int32.toUInt32 31)).toInt32)) &&& (252645135 : Int32)) + (((((((a1 - (((a1.toUInt32 >>> ((1 : Int32).toUInt32 &&& Int32.toUInt32 31)).toInt32) &&& (1431655765 : Int32))) &&& (858993459 : Int32)) + ((((a1 - (((a1.toUInt32 >>> ((1 : Int32).toUInt32 &&& Int32.toUInt32 31)).toInt32) &&& (1431655765 : Int32))).toUInt32 >>> ((2 : Int32).toUInt32 &&& Int32.toUInt32 31)).toInt32) &&& (858993459 : Int32))) + (((((a1 - (((a1.toUInt32 >>> ((1 : Int32).toUInt32 &&& Int32.toUInt32 31)).toInt32) &&& (1431655765 : Int32))) &&& (858993459 : Int32)) + ((((a1 - (((a1.toUInt32 >>> ((1 : Int32).toUInt32 &&& Int32.toUInt32 31)).toInt32) &&& (1431655765 : Int32))).toUInt32 >>> ((2 : Int32).toUInt32 &&& Int32.toUInt32 31)).toInt32) &&& (858993459 : Int32))).toUInt32 >>> ((4 : Int32).toUInt32 &&& Int32.toUInt32 31)).toInt32)) &&& (252645135 : Int32)).toUInt32 >>> ((8 : Int32).toUInt32 &&& Int32.toUInt32 31)).toInt32)) + ((((((((a1 - (((a1.toUInt32 >>> ((1 : Int32).toUInt32 &&& Int32.toUInt32 31)).toInt32) &&& (1431655765 : Int32))) &&& (858993459 : Int32)) + ((((a1 - (((a1.toUInt32 >>> ((1 : Int32).toUInt32 &&& Int32.toUInt32 31)).toInt32) &&& (1431655765 : Int32))).toUInt32 >>> ((2 : Int32).toUInt32 &&& Int32.toUInt32 31)).toInt32) &&& (858993459 : Int32))) + (((((a1 - (((a1.toUInt32 >>> ((1 : Int32).toUInt32 &&& Int32.toUInt32 31)).toInt32) &&& (1431655765 : Int32))) &&& (858993459 : Int32)) + ((((a1 - (((a1.toUInt32 >>> ((1 : Int32).toUInt32 &&& Int32.toUInt32 31)).toInt32) &&& (1431655765 : Int32))).toUInt32 >>> ((2 : Int32).toUInt32 &&& Int32.toUInt32 31)).toInt32) &&& (858993459 : Int32))).toUInt32 >>> ((4 : Int32).toUInt32 &&& Int32.toUInt32 31)).toInt32)) &&& (252645135 : Int32)) + (((((((a1 - (((a1.toUInt32 >>> ((1 : Int32).toUInt32 &&& Int32.toUInt32 31)).toInt32) &&& (1431655765 : Int32))) &&& (858993459 : Int32)) + ((((a1 - (((a1.toUInt32 >>> ((1 : Int32).toUInt32 &&& Int32.toUInt32 31)).toInt32) &&& (1431655765 : Int32))).toUInt32 >>> ((2 : Int32).toUInt32 &&& Int32.toUInt32 31)).toInt32) &&& (858993459 : Int32))) + (((((a1 - (((a1.toUInt32 >>> ((1 : Int32).toUInt32 &&& Int32.toUInt32 31)).toInt32) &&& (1431655765 : Int32))) &&& (858993459 : Int32)) + ((((a1 - (((a1.toUInt32 >>> ((1 : Int32).toUInt32 &&& Int32.toUInt32 31)).toInt32) &&& (1431655765 : Int32))).toUInt32 >>> ((2 : Int32).toUInt32 &&& Int32.toUInt32 31)).toInt32) &&& (858993459 : Int32))).toUInt32 >>> ((4 : Int32).toUInt32 &&& Int32.toUInt32 31)).toInt32)) &&& (252645135 : Int32)).toUInt32 >>> ((8 : Int32).toUInt32 &&& Int32.toUInt32 31)).toInt32)).toUInt32 >>> ((16 : Int32).toUInt32 &&& Int32.toUInt32 31)).toInt32)))]) hx hb dJ6_bitCount_0f7a4_47 rfl hl (by decide) rfl (fun ls hl => ?_)
  refine lv_iload_n hx hb dJ6_bitCount_0f7a4_48 rfl (lv_at hl 0 rfl) ?_
  refine lv_bipush (v := 63) hx hb dJ6_bitCount_0f7a4_49 (by decide) ?_
  refine lv_iand hx hb dJ6_bitCount_0f7a4_51 ?_
  exact hret ((((((((a1 - (((a1.toUInt32 >>> ((1 : Int32).toUInt32 &&& Int32.toUInt32 31)).toInt32) &&& (1431655765 : Int32))) &&& (858993459 : Int32)) + ((((a1 - (((a1.toUInt32 >>> ((1 : Int32).toUInt32 &&& Int32.toUInt32 31)).toInt32) &&& (1431655765 : Int32))).toUInt32 >>> ((2 : Int32).toUInt32 &&& Int32.toUInt32 31)).toInt32) &&& (858993459 : Int32))) + (((((a1 - (((a1.toUInt32 >>> ((1 : Int32).toUInt32 &&& Int32.toUInt32 31)).toInt32) &&& (1431655765 : Int32))) &&& (858993459 : Int32)) + ((((a1 - (((a1.toUInt32 >>> ((1 : Int32).toUInt32 &&& Int32.toUInt32 31)).toInt32) &&& (1431655765 : Int32))).toUInt32 >>> ((2 : Int32).toUInt32 &&& Int32.toUInt32 31)).toInt32) &&& (858993459 : Int32))).toUInt32 >>> ((4 : Int32).toUInt32 &&& Int32.toUInt32 31)).toInt32)) &&& (252645135 : Int32)) + (((((((a1 - (((a1.toUInt32 >>> ((1 : Int32).toUInt32 &&& Int32.toUInt32 31)).toInt32) &&& (1431655765 : Int32))) &&& (858993459 : Int32)) + ((((a1 - (((a1.toUInt32 >>> ((1 : Int32).toUInt32 &&& Int32.toUInt32 31)).toInt32) &&& (1431655765 : Int32))).toUInt32 >>> ((2 : Int32).toUInt32 &&& Int32.toUInt32 31)).toInt32) &&& (858993459 : Int32))) + (((((a1 - (((a1.toUInt32 >>> ((1 : Int32).toUInt32 &&& Int32.toUInt32 31)).toInt32) &&& (1431655765 : Int32))) &&& (858993459 : Int32)) + ((((a1 - (((a1.toUInt32 >>> ((1 : Int32).toUInt32 &&& Int32.toUInt32 31)).toInt32) &&& (1431655765 : Int32))).toUInt32 >>> ((2 : Int32).toUInt32 &&& Int32.toUInt32 31)).toInt32) &&& (858993459 : Int32))).toUInt32 >>> ((4 : Int32).toUInt32 &&& Int32.toUInt32 31)).toInt32)) &&& (252645135 : Int32)).toUInt32 >>> ((8 : Int32).toUInt32 &&& Int32.toUInt32 31)).toInt32)) + ((((((((a1 - (((a1.toUInt32 >>> ((1 : Int32).toUInt32 &&& Int32.toUInt32 31)).toInt32) &&& (1431655765 : Int32))) &&& (858993459 : Int32)) + ((((a1 - (((a1.toUInt32 >>> ((1 : Int32).toUInt32 &&& Int32.toUInt32 31)).toInt32) &&& (1431655765 : Int32))).toUInt32 >>> ((2 : Int32).toUInt32 &&& Int32.toUInt32 31)).toInt32) &&& (858993459 : Int32))) + (((((a1 - (((a1.toUInt32 >>> ((1 : Int32).toUInt32 &&& Int32.toUInt32 31)).toInt32) &&& (1431655765 : Int32))) &&& (858993459 : Int32)) + ((((a1 - (((a1.toUInt32 >>> ((1 : Int32).toUInt32 &&& Int32.toUInt32 31)).toInt32) &&& (1431655765 : Int32))).toUInt32 >>> ((2 : Int32).toUInt32 &&& Int32.toUInt32 31)).toInt32) &&& (858993459 : Int32))).toUInt32 >>> ((4 : Int32).toUInt32 &&& Int32.toUInt32 31)).toInt32)) &&& (252645135 : Int32)) + (((((((a1 - (((a1.toUInt32 >>> ((1 : Int32).toUInt32 &&& Int32.toUInt32 31)).toInt32) &&& (1431655765 : Int32))) &&& (858993459 : Int32)) + ((((a1 - (((a1.toUInt32 >>> ((1 : Int32).toUInt32 &&& Int32.toUInt32 31)).toInt32) &&& (1431655765 : Int32))).toUInt32 >>> ((2 : Int32).toUInt32 &&& Int32.toUInt32 31)).toInt32) &&& (858993459 : Int32))) + (((((a1 - (((a1.toUInt32 >>> ((1 : Int32).toUInt32 &&& Int32.toUInt32 31)).toInt32) &&& (1431655765 : Int32))) &&& (858993459 : Int32)) + ((((a1 - (((a1.toUInt32 >>> ((1 : Int32).toUInt32 &&& Int32.toUInt32 31)).toInt32) &&& (1431655765 : Int32))).toUInt32 >>> ((2 : Int32).toUInt32 &&& Int32.toUInt32 31)).toInt32) &&& (858993459 : Int32))).toUInt32 >>> ((4 : Int32).toUInt32 &&& Int32.toUInt32 31)).toInt32)) &&& (252645135 : Int32)).toUInt32 >>> ((8 : Int32).toUInt32 &&& Int32.toUInt32 31)).toInt32)).toUInt32 >>> ((16 : Int32).toUInt32 &&& Int32.toUInt32 31)).toInt32)) &&& (63 : Int32)) () _ _ _ _ dJ6_bitCount_0f7a4_52 he hP hD hS
