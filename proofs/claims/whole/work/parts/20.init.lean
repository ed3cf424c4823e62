theorem hi_X3_init_6_3 : ∀ w ∈ wsX30, w ∈ wsX3_init := fun _ h => (List.mem_cons_of_mem _ (List.mem_append_right _ h))
set_option maxHeartbeats 4000000 in
set_option maxRecDepth 100000 in
theorem c_X3_init_6 (l : Launch) (D : va_G) (cI cP : ClassId) (sz : Nat) (z : Nat) : xMv l yX3_init wsX3_init ({ frames := 1, cells := 1, slots := 6, locals := 12 } : Room) D (xT cI cP) [.ref z, .int (6 : Int32)] ((z, .inr (3, [.null])) :: ([] : va_W) : va_W) sz (fun _ => True) (fun (u : Nat) => (wRow cI z u 6 (fun _ => 0))) 1 6 := by
  refine xMv_of (cc := cX3_init) (maxL := 2) (by decide +kernel) rfl (Nat.le_of_ble_eq_true rfl) ?_
  intro p e s m args below meth c A ls hx hb hml hown hts hname hN hK hA hP hD hS hl Q hret
  have hl : lv_has ls 2 [(0, .ref z), (1, .int (6 : Int32))] := hl
  refine lv_aload_n hx hb dX3_init_0 rfl (lv_at hl 0 rfl) ?_
  refine W.objInit hx hb hown (hts (.methodLink RX3 1 objectInit) (List.mem_of_getElem? (i := 1) rfl)) (hts (.instanceMethod objectInit) (List.mem_of_getElem? (i := 2) rfl)) (hts (.code objectInit ⟨#[0xb1]⟩ 1 none) (List.mem_of_getElem? (i := 3) rfl)) rfl (by rw [hml]; exact hl.1) rfl dX3_init_1 (Nat.le_of_ble_eq_true rfl) (Nat.le_of_ble_eq_true rfl) ?_
  refine W.eq (g2 := F0 m 4 ls []) rfl ?_
  refine lv_aload_n hx hb dX3_init_4 rfl (lv_at hl 0 rfl) ?_
  refine lv_iload_n hx hb dX3_init_5 rfl (lv_at hl 1 rfl) ?_
  refine lv_if_ge (tgt := 13) hx hb dX3_init_6 (by decide) (fun _ => ?_) (fun c0 => absurd (by decide) c0)
  refine lv_iload_n hx hb dX3_init_13 rfl (lv_at hl 1 rfl) ?_
  refine va_newa (atype := .int) hx hb (hts (.arrayClass .int) (List.mem_of_getElem? (i := 4) rfl)) rfl hK hP hD hS hA (a0 := (6, .inl (fun _ => 0))) (fun _ => rfl) (by decide) rfl (Nat.le_of_ble_eq_true rfl) (Nat.le_of_ble_eq_true rfl) (Nat.le_of_ble_eq_true rfl) dX3_init_14 (fun q14 cA H hK2 hP hD hS => ?_)
  obtain rfl := xcI hK hK2
  have hP : va_P D vwCl (((z, .inr (3, [.null])) :: ([(q14, .inl (cI, 6, .inl (fun _ => 0)))] : va_W) : va_W)) H := hP
  have hD : va_D A (((z, .inr (3, [.null])) :: ([(q14, .inl (cI, 6, .inl (fun _ => 0)))] : va_W) : va_W)) := hD
  refine va_putF (D := D) (ci := 3) (v := .ref q14) (ty := (.array .int)) (C := RX3) (T := TX3) (N := 1) hx hb hts hi_X3_init_6_3 tyX3 tyX3_ok nmX3 hown hK hP hD hS 0 rfl rfl 0 (by decide) (hts (.fieldLink RX3 7 "BlindLanterns$Row" "cells" "[I") (List.mem_of_getElem? (i := 5) rfl)) (fun _ h9 => h9) rfl hname rfl (by decide +kernel) rfl rfl (Nat.le_of_ble_eq_true rfl) dX3_init_16 (fun H locs hP hD hS => ?_)
  have hP : va_P D vwCl (((z, .inr (3, [.ref q14])) :: ([(q14, .inl (cI, 6, .inl (fun _ => 0)))] : va_W) : va_W)) H := hP
  have hD : va_D A (((z, .inr (3, [.ref q14])) :: ([(q14, .inl (cI, 6, .inl (fun _ => 0)))] : va_W) : va_W)) := hD
  refine W.widen (k := 1) (n := 6) (Nat.le_of_ble_eq_true rfl) (Nat.le_of_ble_eq_true rfl) ?_
  exact hret q14 _ _ _ _ dX3_init_19 trivial hP hD hS

theorem hi_X3_init_10_3 : ∀ w ∈ wsX30, w ∈ wsX3_init := fun _ h => (List.mem_cons_of_mem _ (List.mem_append_right _ h))
set_option maxHeartbeats 4000000 in
set_option maxRecDepth 100000 in
theorem c_X3_init_10 (l : Launch) (D : va_G) (cI cP : ClassId) (sz : Nat) (z : Nat) : xMv l yX3_init wsX3_init ({ frames := 1, cells := 1, slots := 10, locals := 12 } : Room) D (xT cI cP) [.ref z, .int (10 : Int32)] ((z, .inr (3, [.null])) :: ([] : va_W) : va_W) sz (fun _ => True) (fun (u : Nat) => (wRow cI z u 10 (fun _ => 0))) 1 10 := by
  refine xMv_of (cc := cX3_init) (maxL := 2) (by decide +kernel) rfl (Nat.le_of_ble_eq_true rfl) ?_
  intro p e s m args below meth c A ls hx hb hml hown hts hname hN hK hA hP hD hS hl Q hret
  have hl : lv_has ls 2 [(0, .ref z), (1, .int (10 : Int32))] := hl
  refine lv_aload_n hx hb dX3_init_0 rfl (lv_at hl 0 rfl) ?_
  refine W.objInit hx hb hown (hts (.methodLink RX3 1 objectInit) (List.mem_of_getElem? (i := 1) rfl)) (hts (.instanceMethod objectInit) (List.mem_of_getElem? (i := 2) rfl)) (hts (.code objectInit ⟨#[0xb1]⟩ 1 none) (List.mem_of_getElem? (i := 3) rfl)) rfl (by rw [hml]; exact hl.1) rfl dX3_init_1 (Nat.le_of_ble_eq_true rfl) (Nat.le_of_ble_eq_true rfl) ?_
  refine W.eq (g2 := F0 m 4 ls []) rfl ?_
  refine lv_aload_n hx hb dX3_init_4 rfl (lv_at hl 0 rfl) ?_
  refine lv_iload_n hx hb dX3_init_5 rfl (lv_at hl 1 rfl) ?_
  refine lv_if_ge (tgt := 13) hx hb dX3_init_6 (by decide) (fun _ => ?_) (fun c0 => absurd (by decide) c0)
  refine lv_iload_n hx hb dX3_init_13 rfl (lv_at hl 1 rfl) ?_
  refine va_newa (atype := .int) hx hb (hts (.arrayClass .int) (List.mem_of_getElem? (i := 4) rfl)) rfl hK hP hD hS hA (a0 := (10, .inl (fun _ => 0))) (fun _ => rfl) (by decide) rfl (Nat.le_of_ble_eq_true rfl) (Nat.le_of_ble_eq_true rfl) (Nat.le_of_ble_eq_true rfl) dX3_init_14 (fun q14 cA H hK2 hP hD hS => ?_)
  obtain rfl := xcI hK hK2
  have hP : va_P D vwCl (((z, .inr (3, [.null])) :: ([(q14, .inl (cI, 10, .inl (fun _ => 0)))] : va_W) : va_W)) H := hP
  have hD : va_D A (((z, .inr (3, [.null])) :: ([(q14, .inl (cI, 10, .inl (fun _ => 0)))] : va_W) : va_W)) := hD
  refine va_putF (D := D) (ci := 3) (v := .ref q14) (ty := (.array .int)) (C := RX3) (T := TX3) (N := 1) hx hb hts hi_X3_init_10_3 tyX3 tyX3_ok nmX3 hown hK hP hD hS 0 rfl rfl 0 (by decide) (hts (.fieldLink RX3 7 "BlindLanterns$Row" "cells" "[I") (List.mem_of_getElem? (i := 5) rfl)) (fun _ h9 => h9) rfl hname rfl (by decide +kernel) rfl rfl (Nat.le_of_ble_eq_true rfl) dX3_init_16 (fun H locs hP hD hS => ?_)
  have hP : va_P D vwCl (((z, .inr (3, [.ref q14])) :: ([(q14, .inl (cI, 10, .inl (fun _ => 0)))] : va_W) : va_W)) H := hP
  have hD : va_D A (((z, .inr (3, [.ref q14])) :: ([(q14, .inl (cI, 10, .inl (fun _ => 0)))] : va_W) : va_W)) := hD
  refine W.widen (k := 1) (n := 10) (Nat.le_of_ble_eq_true rfl) (Nat.le_of_ble_eq_true rfl) ?_
  exact hret q14 _ _ _ _ dX3_init_19 trivial hP hD hS

theorem hi_X3_init_3_3 : ∀ w ∈ wsX30, w ∈ wsX3_init := fun _ h => (List.mem_cons_of_mem _ (List.mem_append_right _ h))
set_option maxHeartbeats 4000000 in
set_option maxRecDepth 100000 in
theorem c_X3_init_3 (l : Launch) (D : va_G) (cI cP : ClassId) (sz : Nat) (z : Nat) : xMv l yX3_init wsX3_init ({ frames := 1, cells := 1, slots := 3, locals := 12 } : Room) D (xT cI cP) [.ref z, .int (3 : Int32)] ((z, .inr (3, [.null])) :: ([] : va_W) : va_W) sz (fun _ => True) (fun (u : Nat) => (wRow cI z u 3 (fun _ => 0))) 1 3 := by
  refine xMv_of (cc := cX3_init) (maxL := 2) (by decide +kernel) rfl (Nat.le_of_ble_eq_true rfl) ?_
  intro p e s m args below meth c A ls hx hb hml hown hts hname hN hK hA hP hD hS hl Q hret
  have hl : lv_has ls 2 [(0, .ref z), (1, .int (3 : Int32))] := hl
  refine lv_aload_n hx hb dX3_init_0 rfl (lv_at hl 0 rfl) ?_
  refine W.objInit hx hb hown (hts (.methodLink RX3 1 objectInit) (List.mem_of_getElem? (i := 1) rfl)) (hts (.instanceMethod objectInit) (List.mem_of_getElem? (i := 2) rfl)) (hts (.code objectInit ⟨#[0xb1]⟩ 1 none) (List.mem_of_getElem? (i := 3) rfl)) rfl (by rw [hml]; exact hl.1) rfl dX3_init_1 (Nat.le_of_ble_eq_true rfl) (Nat.le_of_ble_eq_true rfl) ?_
  refine W.eq (g2 := F0 m 4 ls []) rfl ?_
  refine lv_aload_n hx hb dX3_init_4 rfl (lv_at hl 0 rfl) ?_
  refine lv_iload_n hx hb dX3_init_5 rfl (lv_at hl 1 rfl) ?_
  refine lv_if_ge (tgt := 13) hx hb dX3_init_6 (by decide) (fun _ => ?_) (fun c0 => absurd (by decide) c0)
  refine lv_iload_n hx hb dX3_init_13 rfl (lv_at hl 1 rfl) ?_
  refine va_newa (atype := .int) hx hb (hts (.arrayClass .int) (List.mem_of_getElem? (i := 4) rfl)) rfl hK hP hD hS hA (a0 := (3, .inl (fun _ => 0))) (fun _ => rfl) (by decide) rfl (Nat.le_of_ble_eq_true rfl) (Nat.le_of_ble_eq_true rfl) (Nat.le_of_ble_eq_true rfl) dX3_init_14 (fun q14 cA H hK2 hP hD hS => ?_)
  obtain rfl := xcI hK hK2
  have hP : va_P D vwCl (((z, .inr (3, [.null])) :: ([(q14, .inl (cI, 3, .inl (fun _ => 0)))] : va_W) : va_W)) H := hP
  have hD : va_D A (((z, .inr (3, [.null])) :: ([(q14, .inl (cI, 3, .inl (fun _ => 0)))] : va_W) : va_W)) := hD
  refine va_putF (D := D) (ci := 3) (v := .ref q14) (ty := (.array .int)) (C := RX3) (T := TX3) (N := 1) hx hb hts hi_X3_init_3_3 tyX3 tyX3_ok nmX3 hown hK hP hD hS 0 rfl rfl 0 (by decide) (hts (.fieldLink RX3 7 "BlindLanterns$Row" "cells" "[I") (List.mem_of_getElem? (i := 5) rfl)) (fun _ h9 => h9) rfl hname rfl (by decide +kernel) rfl rfl (Nat.le_of_ble_eq_true rfl) dX3_init_16 (fun H locs hP hD hS => ?_)
  have hP : va_P D vwCl (((z, .inr (3, [.ref q14])) :: ([(q14, .inl (cI, 3, .inl (fun _ => 0)))] : va_W) : va_W)) H := hP
  have hD : va_D A (((z, .inr (3, [.ref q14])) :: ([(q14, .inl (cI, 3, .inl (fun _ => 0)))] : va_W) : va_W)) := hD
  refine W.widen (k := 1) (n := 3) (Nat.le_of_ble_eq_true rfl) (Nat.le_of_ble_eq_true rfl) ?_
  exact hret q14 _ _ _ _ dX3_init_19 trivial hP hD hS

theorem hi_X3_init_300_3 : ∀ w ∈ wsX30, w ∈ wsX3_init := fun _ h => (List.mem_cons_of_mem _ (List.mem_append_right _ h))
set_option maxHeartbeats 4000000 in
set_option maxRecDepth 100000 in
theorem c_X3_init_300 (l : Launch) (D : va_G) (cI cP : ClassId) (sz : Nat) (z : Nat) : xMv l yX3_init wsX3_init ({ frames := 1, cells := 1, slots := 300, locals := 12 } : Room) D (xT cI cP) [.ref z, .int (300 : Int32)] ((z, .inr (3, [.null])) :: ([] : va_W) : va_W) sz (fun _ => True) (fun (u : Nat) => (wRow cI z u 300 (fun _ => 0))) 1 300 := by
  refine xMv_of (cc := cX3_init) (maxL := 2) (by decide +kernel) rfl (Nat.le_of_ble_eq_true rfl) ?_
  intro p e s m args below meth c A ls hx hb hml hown hts hname hN hK hA hP hD hS hl Q hret
  have hl : lv_has ls 2 [(0, .ref z), (1, .int (300 : Int32))] := hl
  refine lv_aload_n hx hb dX3_init_0 rfl (lv_at hl 0 rfl) ?_
  refine W.objInit hx hb hown (hts (.methodLink RX3 1 objectInit) (List.mem_of_getElem? (i := 1) rfl)) (hts (.instanceMethod objectInit) (List.mem_of_getElem? (i := 2) rfl)) (hts (.code objectInit ⟨#[0xb1]⟩ 1 none) (List.mem_of_getElem? (i := 3) rfl)) rfl (by rw [hml]; exact hl.1) rfl dX3_init_1 (Nat.le_of_ble_eq_true rfl) (Nat.le_of_ble_eq_true rfl) ?_
  refine W.eq (g2 := F0 m 4 ls []) rfl ?_
  refine lv_aload_n hx hb dX3_init_4 rfl (lv_at hl 0 rfl) ?_
  refine lv_iload_n hx hb dX3_init_5 rfl (lv_at hl 1 rfl) ?_
  refine lv_if_ge (tgt := 13) hx hb dX3_init_6 (by decide) (fun _ => ?_) (fun c0 => absurd (by decide) c0)
  refine lv_iload_n hx hb dX3_init_13 rfl (lv_at hl 1 rfl) ?_
  refine va_newa (atype := .int) hx hb (hts (.arrayClass .int) (List.mem_of_getElem? (i := 4) rfl)) rfl hK hP hD hS hA (a0 := (300, .inl (fun _ => 0))) (fun _ => rfl) (by decide) rfl (Nat.le_of_ble_eq_true rfl) (Nat.le_of_ble_eq_true rfl) (Nat.le_of_ble_eq_true rfl) dX3_init_14 (fun q14 cA H hK2 hP hD hS => ?_)
  obtain rfl := xcI hK hK2
  have hP : va_P D vwCl (((z, .inr (3, [.null])) :: ([(q14, .inl (cI, 300, .inl (fun _ => 0)))] : va_W) : va_W)) H := hP
  have hD : va_D A (((z, .inr (3, [.null])) :: ([(q14, .inl (cI, 300, .inl (fun _ => 0)))] : va_W) : va_W)) := hD
  refine va_putF (D := D) (ci := 3) (v := .ref q14) (ty := (.array .int)) (C := RX3) (T := TX3) (N := 1) hx hb hts hi_X3_init_300_3 tyX3 tyX3_ok nmX3 hown hK hP hD hS 0 rfl rfl 0 (by decide) (hts (.fieldLink RX3 7 "BlindLanterns$Row" "cells" "[I") (List.mem_of_getElem? (i := 5) rfl)) (fun _ h9 => h9) rfl hname rfl (by decide +kernel) rfl rfl (Nat.le_of_ble_eq_true rfl) dX3_init_16 (fun H locs hP hD hS => ?_)
  have hP : va_P D vwCl (((z, .inr (3, [.ref q14])) :: ([(q14, .inl (cI, 300, .inl (fun _ => 0)))] : va_W) : va_W)) H := hP
  have hD : va_D A (((z, .inr (3, [.ref q14])) :: ([(q14, .inl (cI, 300, .inl (fun _ => 0)))] : va_W) : va_W)) := hD
  refine W.widen (k := 1) (n := 300) (Nat.le_of_ble_eq_true rfl) (Nat.le_of_ble_eq_true rfl) ?_
  exact hret q14 _ _ _ _ dX3_init_19 trivial hP hD hS

theorem hi_X5_init_3 : ∀ w ∈ wsX30, w ∈ wsX5_init := fun _ h => (List.mem_cons_of_mem _ (List.mem_append_left _ (List.mem_append_right _ h)))
theorem hi_X5_init_5 : ∀ w ∈ wsX50, w ∈ wsX5_init := fun _ h => (List.mem_cons_of_mem _ (List.mem_append_right _ h))
set_option maxHeartbeats 4000000 in
set_option maxRecDepth 100000 in
theorem c_X5_init (l : Launch) (D : va_G) (cI cP : ClassId) (sz : Nat) (z : Nat) : xMv l yX5_init wsX5_init ({ frames := 2, cells := 8, slots := 28, locals := 33 } : Room) D (xT cI cP) [.ref z] ((z, .inr (5, [.null, .null, .null, .null, .int 0, .int 0, .int 0, .int 0, .int 0, .int 0, .int 0])) :: ([] : va_W) : va_W) sz (fun _ => True) (fun (u : (Nat → Nat) × (Nat → Nat)) => (wTold cI z u.1 u.2 (0 : Int32) (0 : Int32) (0 : Int32) (1 : Int32) (0 : Int32) (1000000 : Int32) (1000000 : Int32) (fun _ => 0) (fun _ => 0) (fun _ => 0) (fun _ => 0))) 8 28 := by
  refine xMv_of (cc := cX5_init) (maxL := 1) (by decide +kernel) rfl (Nat.le_of_ble_eq_true rfl) ?_
  intro p e s m args below meth c A ls hx hb hml hown hts hname hN hK hA hP hD hS hl Q hret
  have hl : lv_has ls 1 [(0, .ref z)] := hl
  refine lv_aload_n hx hb dX5_init_0 rfl (lv_at hl 0 rfl) ?_
  refine W.objInit hx hb hown (hts (.methodLink RX5 3 objectInit) (List.mem_of_getElem? (i := 1) rfl)) (hts (.instanceMethod objectInit) (List.mem_of_getElem? (i := 2) rfl)) (hts (.code objectInit ⟨#[0xb1]⟩ 1 none) (List.mem_of_getElem? (i := 3) rfl)) rfl (by rw [hml]; exact hl.1) rfl dX5_init_1 (Nat.le_of_ble_eq_true rfl) (Nat.le_of_ble_eq_true rfl) ?_
  refine W.eq (g2 := F0 m 4 ls []) rfl ?_
  refine lv_aload_n hx hb dX5_init_4 rfl (lv_at hl 0 rfl) ?_
  refine va_new (ci := 3) (fs := [.null]) (C := RX3) (T := TX3) (N := 1) hx hb hts hi_X5_init_3 tyX3 tyX3_ok hown (hts (.classLink RX5 9 RX3) (List.mem_of_getElem? (i := 4) rfl)) (hts (.instantiable RX3 1) (List.mem_of_getElem? (i := 5) rfl)) (hts (.initialized RX3) (List.mem_of_getElem? (i := 6) rfl)) hK hP hD hS hA rfl (by decide +kernel) (Nat.le_of_ble_eq_true rfl) (Nat.le_of_ble_eq_true rfl) dX5_init_5 (fun q5 H hP hD hS => ?_)
  refine lv_dup hx hb dX5_init_8 rfl ?_
  refine lv_bipush (v := 6) hx hb dX5_init_9 (by decide) ?_
  refine xcvL (va_runI (As := [.int (6 : Int32)]) (rest := [.ref q5, .ref z]) ⟨hx, hb, hml, hown, hts⟩ (c_X3_init_6 l D cI cP H.size q5) (cwI 1 hts gX5_init_X3_init rfl rfl rfl (hts (.initialized RX3) (List.mem_of_getElem? (i := 6) rfl)) (hts (.methodLink RX5 11 yX3_init) (List.mem_of_getElem? (i := 15) rfl)) (hts (.instanceMethod yX3_init) (List.mem_of_getElem? (i := 16) rfl)) rfl (by decide +kernel) ⟨Nat.le_of_ble_eq_true rfl, Nat.le_of_ble_eq_true rfl⟩) (xPSL hN hK hP) rfl rfl hl.1 rfl (lv_room (Nat.le_of_ble_eq_true rfl)) dX5_init_11 ⟨Nat.le_of_ble_eq_true rfl, Nat.le_of_ble_eq_true rfl⟩) hP hD hS hA (fun u1 H locs hw hP hD hS => ?_)
  have hP : va_P D vwCl (((z, .inr (5, [.null, .null, .null, .null, .int 0, .int 0, .int 0, .int 0, .int 0, .int 0, .int 0])) :: (wRow cI q5 u1 6 (fun _ => 0)) : va_W)) H := hP
  have hD : va_D A (((z, .inr (5, [.null, .null, .null, .null, .int 0, .int 0, .int 0, .int 0, .int 0, .int 0, .int 0])) :: (wRow cI q5 u1 6 (fun _ => 0)) : va_W)) := hD
  have hw1 := hw
  refine va_putF (D := D) (ci := 5) (v := .ref q5) (ty := (.object "BlindLanterns$Row")) (C := RX5) (T := TX5) (N := 11) hx hb hts hi_X5_init_5 tyX5 tyX5_ok nmX5 hown hK hP hD hS 0 rfl rfl 0 (by decide) (hts (.fieldLink RX5 14 "BlindLanterns$Told" "kinds" "LBlindLanterns$Row;") (List.mem_of_getElem? (i := 7) rfl)) (fun _ h9 => h9) rfl hname rfl (by decide +kernel) rfl rfl (Nat.le_of_ble_eq_true rfl) dX5_init_14 (fun H locs hP hD hS => ?_)
  have hP : va_P D vwCl (((z, .inr (5, [.ref q5, .null, .null, .null, .int 0, .int 0, .int 0, .int 0, .int 0, .int 0, .int 0])) :: (wRow cI q5 u1 6 (fun _ => 0)) : va_W)) H := hP
  have hD : va_D A (((z, .inr (5, [.ref q5, .null, .null, .null, .int 0, .int 0, .int 0, .int 0, .int 0, .int 0, .int 0])) :: (wRow cI q5 u1 6 (fun _ => 0)) : va_W)) := hD
  refine lv_aload_n hx hb dX5_init_17 rfl (lv_at hl 0 rfl) ?_
  refine va_new (ci := 3) (fs := [.null]) (C := RX3) (T := TX3) (N := 1) hx hb hts hi_X5_init_3 tyX3 tyX3_ok hown (hts (.classLink RX5 9 RX3) (List.mem_of_getElem? (i := 4) rfl)) (hts (.instantiable RX3 1) (List.mem_of_getElem? (i := 5) rfl)) (hts (.initialized RX3) (List.mem_of_getElem? (i := 6) rfl)) hK hP hD hS hA rfl (by decide +kernel) (Nat.le_of_ble_eq_true rfl) (Nat.le_of_ble_eq_true rfl) dX5_init_18 (fun q18 H hP hD hS => ?_)
  refine lv_dup hx hb dX5_init_21 rfl ?_
  refine lv_bipush (v := 6) hx hb dX5_init_22 (by decide) ?_
  refine xcvL (va_runI (As := [.int (6 : Int32)]) (rest := [.ref q18, .ref z]) ⟨hx, hb, hml, hown, hts⟩ (c_X3_init_6 l D cI cP H.size q18) (cwI 1 hts gX5_init_X3_init rfl rfl rfl (hts (.initialized RX3) (List.mem_of_getElem? (i := 6) rfl)) (hts (.methodLink RX5 11 yX3_init) (List.mem_of_getElem? (i := 15) rfl)) (hts (.instanceMethod yX3_init) (List.mem_of_getElem? (i := 16) rfl)) rfl (by decide +kernel) ⟨Nat.le_of_ble_eq_true rfl, Nat.le_of_ble_eq_true rfl⟩) (xPSL hN hK hP) rfl rfl hl.1 rfl (lv_room (Nat.le_of_ble_eq_true rfl)) dX5_init_24 ⟨Nat.le_of_ble_eq_true rfl, Nat.le_of_ble_eq_true rfl⟩) hP hD hS hA (fun u2 H locs hw hP hD hS => ?_)
  have hP : va_P D vwCl (((z, .inr (5, [.ref q5, .null, .null, .null, .int 0, .int 0, .int 0, .int 0, .int 0, .int 0, .int 0])) :: ((wRow cI q5 u1 6 (fun _ => 0)) ++ (wRow cI q18 u2 6 (fun _ => 0))) : va_W)) H := hP
  have hD : va_D A (((z, .inr (5, [.ref q5, .null, .null, .null, .int 0, .int 0, .int 0, .int 0, .int 0, .int 0, .int 0])) :: ((wRow cI q5 u1 6 (fun _ => 0)) ++ (wRow cI q18 u2 6 (fun _ => 0))) : va_W)) := hD
  have hw2 := hw
  refine va_putF (D := D) (ci := 5) (v := .ref q18) (ty := (.object "BlindLanterns$Row")) (C := RX5) (T := TX5) (N := 11) hx hb hts hi_X5_init_5 tyX5 tyX5_ok nmX5 hown hK hP hD hS 0 rfl rfl 1 (by decide) (hts (.fieldLink RX5 20 "BlindLanterns$Told" "oilAtFirst" "LBlindLanterns$Row;") (List.mem_of_getElem? (i := 8) rfl)) (fun _ h9 => h9) rfl hname rfl (by decide +kernel) rfl rfl (Nat.le_of_ble_eq_true rfl) dX5_init_27 (fun H locs hP hD hS => ?_)
  have hP : va_P D vwCl (((z, .inr (5, [.ref q5, .ref q18, .null, .null, .int 0, .int 0, .int 0, .int 0, .int 0, .int 0, .int 0])) :: ((wRow cI q5 u1 6 (fun _ => 0)) ++ (wRow cI q18 u2 6 (fun _ => 0))) : va_W)) H := hP
  have hD : va_D A (((z, .inr (5, [.ref q5, .ref q18, .null, .null, .int 0, .int 0, .int 0, .int 0, .int 0, .int 0, .int 0])) :: ((wRow cI q5 u1 6 (fun _ => 0)) ++ (wRow cI q18 u2 6 (fun _ => 0))) : va_W)) := hD
  refine lv_aload_n hx hb dX5_init_30 rfl (lv_at hl 0 rfl) ?_
  refine va_new (ci := 3) (fs := [.null]) (C := RX3) (T := TX3) (N := 1) hx hb hts hi_X5_init_3 tyX3 tyX3_ok hown (hts (.classLink RX5 9 RX3) (List.mem_of_getElem? (i := 4) rfl)) (hts (.instantiable RX3 1) (List.mem_of_getElem? (i := 5) rfl)) (hts (.initialized RX3) (List.mem_of_getElem? (i := 6) rfl)) hK hP hD hS hA rfl (by decide +kernel) (Nat.le_of_ble_eq_true rfl) (Nat.le_of_ble_eq_true rfl) dX5_init_31 (fun q31 H hP hD hS => ?_)
  refine lv_dup hx hb dX5_init_34 rfl ?_
  refine lv_bipush (v := 6) hx hb dX5_init_35 (by decide) ?_
  refine xcvL (va_runI (As := [.int (6 : Int32)]) (rest := [.ref q31, .ref z]) ⟨hx, hb, hml, hown, hts⟩ (c_X3_init_6 l D cI cP H.size q31) (cwI 1 hts gX5_init_X3_init rfl rfl rfl (hts (.initialized RX3) (List.mem_of_getElem? (i := 6) rfl)) (hts (.methodLink RX5 11 yX3_init) (List.mem_of_getElem? (i := 15) rfl)) (hts (.instanceMethod yX3_init) (List.mem_of_getElem? (i := 16) rfl)) rfl (by decide +kernel) ⟨Nat.le_of_ble_eq_true rfl, Nat.le_of_ble_eq_true rfl⟩) (xPSL hN hK hP) rfl rfl hl.1 rfl (lv_room (Nat.le_of_ble_eq_true rfl)) dX5_init_37 ⟨Nat.le_of_ble_eq_true rfl, Nat.le_of_ble_eq_true rfl⟩) hP hD hS hA (fun u3 H locs hw hP hD hS => ?_)
  have hP : va_P D vwCl (((z, .inr (5, [.ref q5, .ref q18, .null, .null, .int 0, .int 0, .int 0, .int 0, .int 0, .int 0, .int 0])) :: (((wRow cI q5 u1 6 (fun _ => 0)) ++ (wRow cI q18 u2 6 (fun _ => 0))) ++ (wRow cI q31 u3 6 (fun _ => 0))) : va_W)) H := hP
  have hD : va_D A (((z, .inr (5, [.ref q5, .ref q18, .null, .null, .int 0, .int 0, .int 0, .int 0, .int 0, .int 0, .int 0])) :: (((wRow cI q5 u1 6 (fun _ => 0)) ++ (wRow cI q18 u2 6 (fun _ => 0))) ++ (wRow cI q31 u3 6 (fun _ => 0))) : va_W)) := hD
  have hw3 := hw
  refine va_putF (D := D) (ci := 5) (v := .ref q31) (ty := (.object "BlindLanterns$Row")) (C := RX5) (T := TX5) (N := 11) hx hb hts hi_X5_init_5 tyX5 tyX5_ok nmX5 hown hK hP hD hS 0 rfl rfl 2 (by decide) (hts (.fieldLink RX5 23 "BlindLanterns$Told" "draughtBells" "LBlindLanterns$Row;") (List.mem_of_getElem? (i := 9) rfl)) (fun _ h9 => h9) rfl hname rfl (by decide +kernel) rfl rfl (Nat.le_of_ble_eq_true rfl) dX5_init_40 (fun H locs hP hD hS => ?_)
  have hP : va_P D vwCl (((z, .inr (5, [.ref q5, .ref q18, .ref q31, .null, .int 0, .int 0, .int 0, .int 0, .int 0, .int 0, .int 0])) :: (((wRow cI q5 u1 6 (fun _ => 0)) ++ (wRow cI q18 u2 6 (fun _ => 0))) ++ (wRow cI q31 u3 6 (fun _ => 0))) : va_W)) H := hP
  have hD : va_D A (((z, .inr (5, [.ref q5, .ref q18, .ref q31, .null, .int 0, .int 0, .int 0, .int 0, .int 0, .int 0, .int 0])) :: (((wRow cI q5 u1 6 (fun _ => 0)) ++ (wRow cI q18 u2 6 (fun _ => 0))) ++ (wRow cI q31 u3 6 (fun _ => 0))) : va_W)) := hD
  refine lv_aload_n hx hb dX5_init_43 rfl (lv_at hl 0 rfl) ?_
  refine va_new (ci := 3) (fs := [.null]) (C := RX3) (T := TX3) (N := 1) hx hb hts hi_X5_init_3 tyX3 tyX3_ok hown (hts (.classLink RX5 9 RX3) (List.mem_of_getElem? (i := 4) rfl)) (hts (.instantiable RX3 1) (List.mem_of_getElem? (i := 5) rfl)) (hts (.initialized RX3) (List.mem_of_getElem? (i := 6) rfl)) hK hP hD hS hA rfl (by decide +kernel) (Nat.le_of_ble_eq_true rfl) (Nat.le_of_ble_eq_true rfl) dX5_init_44 (fun q44 H hP hD hS => ?_)
  refine lv_dup hx hb dX5_init_47 rfl ?_
  refine lv_bipush (v := 6) hx hb dX5_init_48 (by decide) ?_
  refine xcvL (va_runI (As := [.int (6 : Int32)]) (rest := [.ref q44, .ref z]) ⟨hx, hb, hml, hown, hts⟩ (c_X3_init_6 l D cI cP H.size q44) (cwI 1 hts gX5_init_X3_init rfl rfl rfl (hts (.initialized RX3) (List.mem_of_getElem? (i := 6) rfl)) (hts (.methodLink RX5 11 yX3_init) (List.mem_of_getElem? (i := 15) rfl)) (hts (.instanceMethod yX3_init) (List.mem_of_getElem? (i := 16) rfl)) rfl (by decide +kernel) ⟨Nat.le_of_ble_eq_true rfl, Nat.le_of_ble_eq_true rfl⟩) (xPSL hN hK hP) rfl rfl hl.1 rfl (lv_room (Nat.le_of_ble_eq_true rfl)) dX5_init_50 ⟨Nat.le_of_ble_eq_true rfl, Nat.le_of_ble_eq_true rfl⟩) hP hD hS hA (fun u4 H locs hw hP hD hS => ?_)
  have hP : va_P D vwCl (((z, .inr (5, [.ref q5, .ref q18, .ref q31, .null, .int 0, .int 0, .int 0, .int 0, .int 0, .int 0, .int 0])) :: ((((wRow cI q5 u1 6 (fun _ => 0)) ++ (wRow cI q18 u2 6 (fun _ => 0))) ++ (wRow cI q31 u3 6 (fun _ => 0))) ++ (wRow cI q44 u4 6 (fun _ => 0))) : va_W)) H := hP
  have hD : va_D A (((z, .inr (5, [.ref q5, .ref q18, .ref q31, .null, .int 0, .int 0, .int 0, .int 0, .int 0, .int 0, .int 0])) :: ((((wRow cI q5 u1 6 (fun _ => 0)) ++ (wRow cI q18 u2 6 (fun _ => 0))) ++ (wRow cI q31 u3 6 (fun _ => 0))) ++ (wRow cI q44 u4 6 (fun _ => 0))) : va_W)) := hD
  have hw4 := hw
  refine va_putF (D := D) (ci := 5) (v := .ref q44) (ty := (.object "BlindLanterns$Row")) (C := RX5) (T := TX5) (N := 11) hx hb hts hi_X5_init_5 tyX5 tyX5_ok nmX5 hown hK hP hD hS 0 rfl rfl 3 (by decide) (hts (.fieldLink RX5 26 "BlindLanterns$Told" "draughtPosts" "LBlindLanterns$Row;") (List.mem_of_getElem? (i := 10) rfl)) (fun _ h9 => h9) rfl hname rfl (by decide +kernel) rfl rfl (Nat.le_of_ble_eq_true rfl) dX5_init_53 (fun H locs hP hD hS => ?_)
  have hP : va_P D vwCl (((z, .inr (5, [.ref q5, .ref q18, .ref q31, .ref q44, .int 0, .int 0, .int 0, .int 0, .int 0, .int 0, .int 0])) :: ((((wRow cI q5 u1 6 (fun _ => 0)) ++ (wRow cI q18 u2 6 (fun _ => 0))) ++ (wRow cI q31 u3 6 (fun _ => 0))) ++ (wRow cI q44 u4 6 (fun _ => 0))) : va_W)) H := hP
  have hD : va_D A (((z, .inr (5, [.ref q5, .ref q18, .ref q31, .ref q44, .int 0, .int 0, .int 0, .int 0, .int 0, .int 0, .int 0])) :: ((((wRow cI q5 u1 6 (fun _ => 0)) ++ (wRow cI q18 u2 6 (fun _ => 0))) ++ (wRow cI q31 u3 6 (fun _ => 0))) ++ (wRow cI q44 u4 6 (fun _ => 0))) : va_W)) := hD
  refine lv_aload_n hx hb dX5_init_56 rfl (lv_at hl 0 rfl) ?_
  refine lv_iconst (v := 1) hx hb dX5_init_57 (by decide) ?_
  refine va_put (D := D) (ci := 5) (v := .int (1 : Int32)) (ty := .int) (C := RX5) (T := TX5) (N := 11) hx hb hts hi_X5_init_5 tyX5 tyX5_ok nmX5 hown hK hP hD hS 0 rfl rfl 7 (by decide) (hts (.fieldLink RX5 29 "BlindLanterns$Told" "step" "I") (List.mem_of_getElem? (i := 11) rfl)) (fun _ h9 => h9) rfl (by decide +kernel) rfl rfl (Nat.le_of_ble_eq_true rfl) dX5_init_58 (fun H locs hP hD hS => ?_)
  have hP : va_P D vwCl (((z, .inr (5, [.ref q5, .ref q18, .ref q31, .ref q44, .int 0, .int 0, .int 0, .int (1 : Int32), .int 0, .int 0, .int 0])) :: ((((wRow cI q5 u1 6 (fun _ => 0)) ++ (wRow cI q18 u2 6 (fun _ => 0))) ++ (wRow cI q31 u3 6 (fun _ => 0))) ++ (wRow cI q44 u4 6 (fun _ => 0))) : va_W)) H := hP
  have hD : va_D A (((z, .inr (5, [.ref q5, .ref q18, .ref q31, .ref q44, .int 0, .int 0, .int 0, .int (1 : Int32), .int 0, .int 0, .int 0])) :: ((((wRow cI q5 u1 6 (fun _ => 0)) ++ (wRow cI q18 u2 6 (fun _ => 0))) ++ (wRow cI q31 u3 6 (fun _ => 0))) ++ (wRow cI q44 u4 6 (fun _ => 0))) : va_W)) := hD
  refine lv_aload_n hx hb dX5_init_61 rfl (lv_at hl 0 rfl) ?_
  refine lv_ldc hx hb hown (hts (.constant RX5 33 (1000000)) (List.mem_of_getElem? (i := 12) rfl)) dX5_init_62 ?_
  refine va_put (D := D) (ci := 5) (v := .int (1000000 : Int32)) (ty := .int) (C := RX5) (T := TX5) (N := 11) hx hb hts hi_X5_init_5 tyX5 tyX5_ok nmX5 hown hK hP hD hS 0 rfl rfl 9 (by decide) (hts (.fieldLink RX5 34 "BlindLanterns$Told" "sunFrom" "I") (List.mem_of_getElem? (i := 13) rfl)) (fun _ h9 => h9) rfl (by decide +kernel) rfl rfl (Nat.le_of_ble_eq_true rfl) dX5_init_64 (fun H locs hP hD hS => ?_)
  have hP : va_P D vwCl (((z, .inr (5, [.ref q5, .ref q18, .ref q31, .ref q44, .int 0, .int 0, .int 0, .int (1 : Int32), .int 0, .int (1000000 : Int32), .int 0])) :: ((((wRow cI q5 u1 6 (fun _ => 0)) ++ (wRow cI q18 u2 6 (fun _ => 0))) ++ (wRow cI q31 u3 6 (fun _ => 0))) ++ (wRow cI q44 u4 6 (fun _ => 0))) : va_W)) H := hP
  have hD : va_D A (((z, .inr (5, [.ref q5, .ref q18, .ref q31, .ref q44, .int 0, .int 0, .int 0, .int (1 : Int32), .int 0, .int (1000000 : Int32), .int 0])) :: ((((wRow cI q5 u1 6 (fun _ => 0)) ++ (wRow cI q18 u2 6 (fun _ => 0))) ++ (wRow cI q31 u3 6 (fun _ => 0))) ++ (wRow cI q44 u4 6 (fun _ => 0))) : va_W)) := hD
  refine lv_aload_n hx hb dX5_init_67 rfl (lv_at hl 0 rfl) ?_
  refine lv_ldc hx hb hown (hts (.constant RX5 33 (1000000)) (List.mem_of_getElem? (i := 12) rfl)) dX5_init_68 ?_
  refine va_put (D := D) (ci := 5) (v := .int (1000000 : Int32)) (ty := .int) (C := RX5) (T := TX5) (N := 11) hx hb hts hi_X5_init_5 tyX5 tyX5_ok nmX5 hown hK hP hD hS 0 rfl rfl 10 (by decide) (hts (.fieldLink RX5 37 "BlindLanterns$Told" "sunTo" "I") (List.mem_of_getElem? (i := 14) rfl)) (fun _ h9 => h9) rfl (by decide +kernel) rfl rfl (Nat.le_of_ble_eq_true rfl) dX5_init_70 (fun H locs hP hD hS => ?_)
  have hP : va_P D vwCl (((z, .inr (5, [.ref q5, .ref q18, .ref q31, .ref q44, .int 0, .int 0, .int 0, .int (1 : Int32), .int 0, .int (1000000 : Int32), .int (1000000 : Int32)])) :: ((((wRow cI q5 u1 6 (fun _ => 0)) ++ (wRow cI q18 u2 6 (fun _ => 0))) ++ (wRow cI q31 u3 6 (fun _ => 0))) ++ (wRow cI q44 u4 6 (fun _ => 0))) : va_W)) H := hP
  have hD : va_D A (((z, .inr (5, [.ref q5, .ref q18, .ref q31, .ref q44, .int 0, .int 0, .int 0, .int (1 : Int32), .int 0, .int (1000000 : Int32), .int (1000000 : Int32)])) :: ((((wRow cI q5 u1 6 (fun _ => 0)) ++ (wRow cI q18 u2 6 (fun _ => 0))) ++ (wRow cI q31 u3 6 (fun _ => 0))) ++ (wRow cI q44 u4 6 (fun _ => 0))) : va_W)) := hD
  refine W.widen (k := 8) (n := 28) (Nat.le_of_ble_eq_true rfl) (Nat.le_of_ble_eq_true rfl) ?_
  exact hret (xfn [q5, q18, q31, q44], xfn [u1, u2, u3, u4]) _ _ _ _ dX5_init_73 trivial hP hD hS

theorem hi_X0_init_0 : ∀ w ∈ wsX00, w ∈ wsX0_init := fun _ h => (List.mem_cons_of_mem _ (List.mem_append_right _ h))
theorem hi_X0_init_3 : ∀ w ∈ wsX30, w ∈ wsX0_init := fun _ h => (List.mem_cons_of_mem _ (List.mem_append_left _ (List.mem_append_right _ h)))
set_option maxHeartbeats 4000000 in
set_option maxRecDepth 100000 in
theorem c_X0_init (l : Launch) (D : va_G) (cI cP : ClassId) (sz : Nat) (z : Nat) : xMv l yX0_init wsX0_init ({ frames := 2, cells := 6, slots := 33, locals := 33 } : Room) D (xT cI cP) [.ref z] ((z, .inr (0, [.null, .null, .null, .int 0])) :: ([] : va_W) : va_W) sz (fun _ => True) (fun (u : (Nat → Nat) × (Nat → Nat)) => (wFelt cI z u.1 u.2 (0 : Int32) (fun _ => 0) (fun _ => 0) (fun _ => 0))) 6 33 := by
  refine xMv_of (cc := cX0_init) (maxL := 1) (by decide +kernel) rfl (Nat.le_of_ble_eq_true rfl) ?_
  intro p e s m args below meth c A ls hx hb hml hown hts hname hN hK hA hP hD hS hl Q hret
  have hl : lv_has ls 1 [(0, .ref z)] := hl
  refine lv_aload_n hx hb dX0_init_0 rfl (lv_at hl 0 rfl) ?_
  refine W.objInit hx hb hown (hts (.methodLink RX0 3 objectInit) (List.mem_of_getElem? (i := 1) rfl)) (hts (.instanceMethod objectInit) (List.mem_of_getElem? (i := 2) rfl)) (hts (.code objectInit ⟨#[0xb1]⟩ 1 none) (List.mem_of_getElem? (i := 3) rfl)) rfl (by rw [hml]; exact hl.1) rfl dX0_init_1 (Nat.le_of_ble_eq_true rfl) (Nat.le_of_ble_eq_true rfl) ?_
  refine W.eq (g2 := F0 m 4 ls []) rfl ?_
  refine lv_aload_n hx hb dX0_init_4 rfl (lv_at hl 0 rfl) ?_
  refine va_new (ci := 3) (fs := [.null]) (C := RX3) (T := TX3) (N := 1) hx hb hts hi_X0_init_3 tyX3 tyX3_ok hown (hts (.classLink RX0 9 RX3) (List.mem_of_getElem? (i := 4) rfl)) (hts (.instantiable RX3 1) (List.mem_of_getElem? (i := 5) rfl)) (hts (.initialized RX3) (List.mem_of_getElem? (i := 6) rfl)) hK hP hD hS hA rfl (by decide +kernel) (Nat.le_of_ble_eq_true rfl) (Nat.le_of_ble_eq_true rfl) dX0_init_5 (fun q5 H hP hD hS => ?_)
  refine lv_dup hx hb dX0_init_8 rfl ?_
  refine lv_bipush (v := 10) hx hb dX0_init_9 (by decide) ?_
  refine xcvL (va_runI (As := [.int (10 : Int32)]) (rest := [.ref q5, .ref z]) ⟨hx, hb, hml, hown, hts⟩ (c_X3_init_10 l D cI cP H.size q5) (cwI 1 hts gX0_init_X3_init rfl rfl rfl (hts (.initialized RX3) (List.mem_of_getElem? (i := 6) rfl)) (hts (.methodLink RX0 11 yX3_init) (List.mem_of_getElem? (i := 10) rfl)) (hts (.instanceMethod yX3_init) (List.mem_of_getElem? (i := 11) rfl)) rfl (by decide +kernel) ⟨Nat.le_of_ble_eq_true rfl, Nat.le_of_ble_eq_true rfl⟩) (xPSL hN hK hP) rfl rfl hl.1 rfl (lv_room (Nat.le_of_ble_eq_true rfl)) dX0_init_11 ⟨Nat.le_of_ble_eq_true rfl, Nat.le_of_ble_eq_true rfl⟩) hP hD hS hA (fun u1 H locs hw hP hD hS => ?_)
  have hP : va_P D vwCl (((z, .inr (0, [.null, .null, .null, .int 0])) :: (wRow cI q5 u1 10 (fun _ => 0)) : va_W)) H := hP
  have hD : va_D A (((z, .inr (0, [.null, .null, .null, .int 0])) :: (wRow cI q5 u1 10 (fun _ => 0)) : va_W)) := hD
  have hw1 := hw
  refine va_putF (D := D) (ci := 0) (v := .ref q5) (ty := (.object "BlindLanterns$Row")) (C := RX0) (T := TX0) (N := 4) hx hb hts hi_X0_init_0 tyX0 tyX0_ok nmX0 hown hK hP hD hS 0 rfl rfl 0 (by decide) (hts (.fieldLink RX0 14 "BlindLanterns$Felt" "posts" "LBlindLanterns$Row;") (List.mem_of_getElem? (i := 7) rfl)) (fun _ h9 => h9) rfl hname rfl (by decide +kernel) rfl rfl (Nat.le_of_ble_eq_true rfl) dX0_init_14 (fun H locs hP hD hS => ?_)
  have hP : va_P D vwCl (((z, .inr (0, [.ref q5, .null, .null, .int 0])) :: (wRow cI q5 u1 10 (fun _ => 0)) : va_W)) H := hP
  have hD : va_D A (((z, .inr (0, [.ref q5, .null, .null, .int 0])) :: (wRow cI q5 u1 10 (fun _ => 0)) : va_W)) := hD
  refine lv_aload_n hx hb dX0_init_17 rfl (lv_at hl 0 rfl) ?_
  refine va_new (ci := 3) (fs := [.null]) (C := RX3) (T := TX3) (N := 1) hx hb hts hi_X0_init_3 tyX3 tyX3_ok hown (hts (.classLink RX0 9 RX3) (List.mem_of_getElem? (i := 4) rfl)) (hts (.instantiable RX3 1) (List.mem_of_getElem? (i := 5) rfl)) (hts (.initialized RX3) (List.mem_of_getElem? (i := 6) rfl)) hK hP hD hS hA rfl (by decide +kernel) (Nat.le_of_ble_eq_true rfl) (Nat.le_of_ble_eq_true rfl) dX0_init_18 (fun q18 H hP hD hS => ?_)
  refine lv_dup hx hb dX0_init_21 rfl ?_
  refine lv_bipush (v := 10) hx hb dX0_init_22 (by decide) ?_
  refine xcvL (va_runI (As := [.int (10 : Int32)]) (rest := [.ref q18, .ref z]) ⟨hx, hb, hml, hown, hts⟩ (c_X3_init_10 l D cI cP H.size q18) (cwI 1 hts gX0_init_X3_init rfl rfl rfl (hts (.initialized RX3) (List.mem_of_getElem? (i := 6) rfl)) (hts (.methodLink RX0 11 yX3_init) (List.mem_of_getElem? (i := 10) rfl)) (hts (.instanceMethod yX3_init) (List.mem_of_getElem? (i := 11) rfl)) rfl (by decide +kernel) ⟨Nat.le_of_ble_eq_true rfl, Nat.le_of_ble_eq_true rfl⟩) (xPSL hN hK hP) rfl rfl hl.1 rfl (lv_room (Nat.le_of_ble_eq_true rfl)) dX0_init_24 ⟨Nat.le_of_ble_eq_true rfl, Nat.le_of_ble_eq_true rfl⟩) hP hD hS hA (fun u2 H locs hw hP hD hS => ?_)
  have hP : va_P D vwCl (((z, .inr (0, [.ref q5, .null, .null, .int 0])) :: ((wRow cI q5 u1 10 (fun _ => 0)) ++ (wRow cI q18 u2 10 (fun _ => 0))) : va_W)) H := hP
  have hD : va_D A (((z, .inr (0, [.ref q5, .null, .null, .int 0])) :: ((wRow cI q5 u1 10 (fun _ => 0)) ++ (wRow cI q18 u2 10 (fun _ => 0))) : va_W)) := hD
  have hw2 := hw
  refine va_putF (D := D) (ci := 0) (v := .ref q18) (ty := (.object "BlindLanterns$Row")) (C := RX0) (T := TX0) (N := 4) hx hb hts hi_X0_init_0 tyX0 tyX0_ok nmX0 hown hK hP hD hS 0 rfl rfl 1 (by decide) (hts (.fieldLink RX0 20 "BlindLanterns$Felt" "bells" "LBlindLanterns$Row;") (List.mem_of_getElem? (i := 8) rfl)) (fun _ h9 => h9) rfl hname rfl (by decide +kernel) rfl rfl (Nat.le_of_ble_eq_true rfl) dX0_init_27 (fun H locs hP hD hS => ?_)
  have hP : va_P D vwCl (((z, .inr (0, [.ref q5, .ref q18, .null, .int 0])) :: ((wRow cI q5 u1 10 (fun _ => 0)) ++ (wRow cI q18 u2 10 (fun _ => 0))) : va_W)) H := hP
  have hD : va_D A (((z, .inr (0, [.ref q5, .ref q18, .null, .int 0])) :: ((wRow cI q5 u1 10 (fun _ => 0)) ++ (wRow cI q18 u2 10 (fun _ => 0))) : va_W)) := hD
  refine lv_aload_n hx hb dX0_init_30 rfl (lv_at hl 0 rfl) ?_
  refine va_new (ci := 3) (fs := [.null]) (C := RX3) (T := TX3) (N := 1) hx hb hts hi_X0_init_3 tyX3 tyX3_ok hown (hts (.classLink RX0 9 RX3) (List.mem_of_getElem? (i := 4) rfl)) (hts (.instantiable RX3 1) (List.mem_of_getElem? (i := 5) rfl)) (hts (.initialized RX3) (List.mem_of_getElem? (i := 6) rfl)) hK hP hD hS hA rfl (by decide +kernel) (Nat.le_of_ble_eq_true rfl) (Nat.le_of_ble_eq_true rfl) dX0_init_31 (fun q31 H hP hD hS => ?_)
  refine lv_dup hx hb dX0_init_34 rfl ?_
  refine lv_bipush (v := 10) hx hb dX0_init_35 (by decide) ?_
  refine xcvL (va_runI (As := [.int (10 : Int32)]) (rest := [.ref q31, .ref z]) ⟨hx, hb, hml, hown, hts⟩ (c_X3_init_10 l D cI cP H.size q31) (cwI 1 hts gX0_init_X3_init rfl rfl rfl (hts (.initialized RX3) (List.mem_of_getElem? (i := 6) rfl)) (hts (.methodLink RX0 11 yX3_init) (List.mem_of_getElem? (i := 10) rfl)) (hts (.instanceMethod yX3_init) (List.mem_of_getElem? (i := 11) rfl)) rfl (by decide +kernel) ⟨Nat.le_of_ble_eq_true rfl, Nat.le_of_ble_eq_true rfl⟩) (xPSL hN hK hP) rfl rfl hl.1 rfl (lv_room (Nat.le_of_ble_eq_true rfl)) dX0_init_37 ⟨Nat.le_of_ble_eq_true rfl, Nat.le_of_ble_eq_true rfl⟩) hP hD hS hA (fun u3 H locs hw hP hD hS => ?_)
  have hP : va_P D vwCl (((z, .inr (0, [.ref q5, .ref q18, .null, .int 0])) :: (((wRow cI q5 u1 10 (fun _ => 0)) ++ (wRow cI q18 u2 10 (fun _ => 0))) ++ (wRow cI q31 u3 10 (fun _ => 0))) : va_W)) H := hP
  have hD : va_D A (((z, .inr (0, [.ref q5, .ref q18, .null, .int 0])) :: (((wRow cI q5 u1 10 (fun _ => 0)) ++ (wRow cI q18 u2 10 (fun _ => 0))) ++ (wRow cI q31 u3 10 (fun _ => 0))) : va_W)) := hD
  have hw3 := hw
  refine va_putF (D := D) (ci := 0) (v := .ref q31) (ty := (.object "BlindLanterns$Row")) (C := RX0) (T := TX0) (N := 4) hx hb hts hi_X0_init_0 tyX0 tyX0_ok nmX0 hown hK hP hD hS 0 rfl rfl 2 (by decide) (hts (.fieldLink RX0 23 "BlindLanterns$Felt" "warmths" "LBlindLanterns$Row;") (List.mem_of_getElem? (i := 9) rfl)) (fun _ h9 => h9) rfl hname rfl (by decide +kernel) rfl rfl (Nat.le_of_ble_eq_true rfl) dX0_init_40 (fun H locs hP hD hS => ?_)
  have hP : va_P D vwCl (((z, .inr (0, [.ref q5, .ref q18, .ref q31, .int 0])) :: (((wRow cI q5 u1 10 (fun _ => 0)) ++ (wRow cI q18 u2 10 (fun _ => 0))) ++ (wRow cI q31 u3 10 (fun _ => 0))) : va_W)) H := hP
  have hD : va_D A (((z, .inr (0, [.ref q5, .ref q18, .ref q31, .int 0])) :: (((wRow cI q5 u1 10 (fun _ => 0)) ++ (wRow cI q18 u2 10 (fun _ => 0))) ++ (wRow cI q31 u3 10 (fun _ => 0))) : va_W)) := hD
  refine W.widen (k := 6) (n := 33) (Nat.le_of_ble_eq_true rfl) (Nat.le_of_ble_eq_true rfl) ?_
  exact hret (xfn [q5, q18, q31], xfn [u1, u2, u3]) _ _ _ _ dX0_init_43 trivial hP hD hS

theorem hi_X1_init_1 : ∀ w ∈ wsX10, w ∈ wsX1_init := fun _ h => (List.mem_cons_of_mem _ (List.mem_append_right _ h))
theorem hi_X1_init_3 : ∀ w ∈ wsX30, w ∈ wsX1_init := fun _ h => (List.mem_cons_of_mem _ (List.mem_append_left _ (List.mem_append_right _ h)))
set_option maxHeartbeats 4000000 in
set_option maxRecDepth 100000 in
theorem c_X1_init (l : Launch) (D : va_G) (cI cP : ClassId) (sz : Nat) (z : Nat) : xMv l yX1_init wsX1_init ({ frames := 2, cells := 4, slots := 14, locals := 33 } : Room) D (xT cI cP) [.ref z] ((z, .inr (1, [.null, .null, .int 0, .int 0, .int 0])) :: ([] : va_W) : va_W) sz (fun _ => True) (fun (u : (Nat → Nat) × (Nat → Nat)) => (wPass cI z u.1 u.2 (0 : Int32) (0 : Int32) (0 : Int32) (fun _ => 0) (fun _ => 0))) 4 14 := by
  refine xMv_of (cc := cX1_init) (maxL := 1) (by decide +kernel) rfl (Nat.le_of_ble_eq_true rfl) ?_
  intro p e s m args below meth c A ls hx hb hml hown hts hname hN hK hA hP hD hS hl Q hret
  have hl : lv_has ls 1 [(0, .ref z)] := hl
  refine lv_aload_n hx hb dX1_init_0 rfl (lv_at hl 0 rfl) ?_
  refine W.objInit hx hb hown (hts (.methodLink RX1 3 objectInit) (List.mem_of_getElem? (i := 1) rfl)) (hts (.instanceMethod objectInit) (List.mem_of_getElem? (i := 2) rfl)) (hts (.code objectInit ⟨#[0xb1]⟩ 1 none) (List.mem_of_getElem? (i := 3) rfl)) rfl (by rw [hml]; exact hl.1) rfl dX1_init_1 (Nat.le_of_ble_eq_true rfl) (Nat.le_of_ble_eq_true rfl) ?_
  refine W.eq (g2 := F0 m 4 ls []) rfl ?_
  refine lv_aload_n hx hb dX1_init_4 rfl (lv_at hl 0 rfl) ?_
  refine va_new (ci := 3) (fs := [.null]) (C := RX3) (T := TX3) (N := 1) hx hb hts hi_X1_init_3 tyX3 tyX3_ok hown (hts (.classLink RX1 9 RX3) (List.mem_of_getElem? (i := 4) rfl)) (hts (.instantiable RX3 1) (List.mem_of_getElem? (i := 5) rfl)) (hts (.initialized RX3) (List.mem_of_getElem? (i := 6) rfl)) hK hP hD hS hA rfl (by decide +kernel) (Nat.le_of_ble_eq_true rfl) (Nat.le_of_ble_eq_true rfl) dX1_init_5 (fun q5 H hP hD hS => ?_)
  refine lv_dup hx hb dX1_init_8 rfl ?_
  refine lv_bipush (v := 6) hx hb dX1_init_9 (by decide) ?_
  refine xcvL (va_runI (As := [.int (6 : Int32)]) (rest := [.ref q5, .ref z]) ⟨hx, hb, hml, hown, hts⟩ (c_X3_init_6 l D cI cP H.size q5) (cwI 1 hts gX1_init_X3_init rfl rfl rfl (hts (.initialized RX3) (List.mem_of_getElem? (i := 6) rfl)) (hts (.methodLink RX1 11 yX3_init) (List.mem_of_getElem? (i := 9) rfl)) (hts (.instanceMethod yX3_init) (List.mem_of_getElem? (i := 10) rfl)) rfl (by decide +kernel) ⟨Nat.le_of_ble_eq_true rfl, Nat.le_of_ble_eq_true rfl⟩) (xPSL hN hK hP) rfl rfl hl.1 rfl (lv_room (Nat.le_of_ble_eq_true rfl)) dX1_init_11 ⟨Nat.le_of_ble_eq_true rfl, Nat.le_of_ble_eq_true rfl⟩) hP hD hS hA (fun u1 H locs hw hP hD hS => ?_)
  have hP : va_P D vwCl (((z, .inr (1, [.null, .null, .int 0, .int 0, .int 0])) :: (wRow cI q5 u1 6 (fun _ => 0)) : va_W)) H := hP
  have hD : va_D A (((z, .inr (1, [.null, .null, .int 0, .int 0, .int 0])) :: (wRow cI q5 u1 6 (fun _ => 0)) : va_W)) := hD
  have hw1 := hw
  refine va_putF (D := D) (ci := 1) (v := .ref q5) (ty := (.object "BlindLanterns$Row")) (C := RX1) (T := TX1) (N := 5) hx hb hts hi_X1_init_1 tyX1 tyX1_ok nmX1 hown hK hP hD hS 0 rfl rfl 0 (by decide) (hts (.fieldLink RX1 14 "BlindLanterns$Pass" "postOf" "LBlindLanterns$Row;") (List.mem_of_getElem? (i := 7) rfl)) (fun _ h9 => h9) rfl hname rfl (by decide +kernel) rfl rfl (Nat.le_of_ble_eq_true rfl) dX1_init_14 (fun H locs hP hD hS => ?_)
  have hP : va_P D vwCl (((z, .inr (1, [.ref q5, .null, .int 0, .int 0, .int 0])) :: (wRow cI q5 u1 6 (fun _ => 0)) : va_W)) H := hP
  have hD : va_D A (((z, .inr (1, [.ref q5, .null, .int 0, .int 0, .int 0])) :: (wRow cI q5 u1 6 (fun _ => 0)) : va_W)) := hD
  refine lv_aload_n hx hb dX1_init_17 rfl (lv_at hl 0 rfl) ?_
  refine va_new (ci := 3) (fs := [.null]) (C := RX3) (T := TX3) (N := 1) hx hb hts hi_X1_init_3 tyX3 tyX3_ok hown (hts (.classLink RX1 9 RX3) (List.mem_of_getElem? (i := 4) rfl)) (hts (.instantiable RX3 1) (List.mem_of_getElem? (i := 5) rfl)) (hts (.initialized RX3) (List.mem_of_getElem? (i := 6) rfl)) hK hP hD hS hA rfl (by decide +kernel) (Nat.le_of_ble_eq_true rfl) (Nat.le_of_ble_eq_true rfl) dX1_init_18 (fun q18 H hP hD hS => ?_)
  refine lv_dup hx hb dX1_init_21 rfl ?_
  refine lv_bipush (v := 6) hx hb dX1_init_22 (by decide) ?_
  refine xcvL (va_runI (As := [.int (6 : Int32)]) (rest := [.ref q18, .ref z]) ⟨hx, hb, hml, hown, hts⟩ (c_X3_init_6 l D cI cP H.size q18) (cwI 1 hts gX1_init_X3_init rfl rfl rfl (hts (.initialized RX3) (List.mem_of_getElem? (i := 6) rfl)) (hts (.methodLink RX1 11 yX3_init) (List.mem_of_getElem? (i := 9) rfl)) (hts (.instanceMethod yX3_init) (List.mem_of_getElem? (i := 10) rfl)) rfl (by decide +kernel) ⟨Nat.le_of_ble_eq_true rfl, Nat.le_of_ble_eq_true rfl⟩) (xPSL hN hK hP) rfl rfl hl.1 rfl (lv_room (Nat.le_of_ble_eq_true rfl)) dX1_init_24 ⟨Nat.le_of_ble_eq_true rfl, Nat.le_of_ble_eq_true rfl⟩) hP hD hS hA (fun u2 H locs hw hP hD hS => ?_)
  have hP : va_P D vwCl (((z, .inr (1, [.ref q5, .null, .int 0, .int 0, .int 0])) :: ((wRow cI q5 u1 6 (fun _ => 0)) ++ (wRow cI q18 u2 6 (fun _ => 0))) : va_W)) H := hP
  have hD : va_D A (((z, .inr (1, [.ref q5, .null, .int 0, .int 0, .int 0])) :: ((wRow cI q5 u1 6 (fun _ => 0)) ++ (wRow cI q18 u2 6 (fun _ => 0))) : va_W)) := hD
  have hw2 := hw
  refine va_putF (D := D) (ci := 1) (v := .ref q18) (ty := (.object "BlindLanterns$Row")) (C := RX1) (T := TX1) (N := 5) hx hb hts hi_X1_init_1 tyX1 tyX1_ok nmX1 hown hK hP hD hS 0 rfl rfl 1 (by decide) (hts (.fieldLink RX1 20 "BlindLanterns$Pass" "oilOf" "LBlindLanterns$Row;") (List.mem_of_getElem? (i := 8) rfl)) (fun _ h9 => h9) rfl hname rfl (by decide +kernel) rfl rfl (Nat.le_of_ble_eq_true rfl) dX1_init_27 (fun H locs hP hD hS => ?_)
  have hP : va_P D vwCl (((z, .inr (1, [.ref q5, .ref q18, .int 0, .int 0, .int 0])) :: ((wRow cI q5 u1 6 (fun _ => 0)) ++ (wRow cI q18 u2 6 (fun _ => 0))) : va_W)) H := hP
  have hD : va_D A (((z, .inr (1, [.ref q5, .ref q18, .int 0, .int 0, .int 0])) :: ((wRow cI q5 u1 6 (fun _ => 0)) ++ (wRow cI q18 u2 6 (fun _ => 0))) : va_W)) := hD
  refine W.widen (k := 4) (n := 14) (Nat.le_of_ble_eq_true rfl) (Nat.le_of_ble_eq_true rfl) ?_
  exact hret (xfn [q5, q18], xfn [u1, u2]) _ _ _ _ dX1_init_30 trivial hP hD hS

theorem hi_X2_init_2 : ∀ w ∈ wsX20, w ∈ wsX2_init := fun _ h => (List.mem_cons_of_mem _ (List.mem_append_right _ h))
theorem hi_X2_init_3 : ∀ w ∈ wsX30, w ∈ wsX2_init := fun _ h => (List.mem_cons_of_mem _ (List.mem_append_left _ (List.mem_append_right _ h)))
set_option maxHeartbeats 4000000 in
set_option maxRecDepth 100000 in
theorem c_X2_init (l : Launch) (D : va_G) (cI cP : ClassId) (sz : Nat) (z : Nat) : xMv l yX2_init wsX2_init ({ frames := 2, cells := 2, slots := 4, locals := 33 } : Room) D (xT cI cP) [.ref z] ((z, .inr (2, [.null, .int 0])) :: ([] : va_W) : va_W) sz (fun _ => True) (fun (u : (Nat → Nat) × (Nat → Nat)) => (wReader cI z u.1 u.2 (0 : Int32) (fun _ => 0))) 2 4 := by
  refine xMv_of (cc := cX2_init) (maxL := 1) (by decide +kernel) rfl (Nat.le_of_ble_eq_true rfl) ?_
  intro p e s m args below meth c A ls hx hb hml hown hts hname hN hK hA hP hD hS hl Q hret
  have hl : lv_has ls 1 [(0, .ref z)] := hl
  refine lv_aload_n hx hb dX2_init_0 rfl (lv_at hl 0 rfl) ?_
  refine W.objInit hx hb hown (hts (.methodLink RX2 3 objectInit) (List.mem_of_getElem? (i := 1) rfl)) (hts (.instanceMethod objectInit) (List.mem_of_getElem? (i := 2) rfl)) (hts (.code objectInit ⟨#[0xb1]⟩ 1 none) (List.mem_of_getElem? (i := 3) rfl)) rfl (by rw [hml]; exact hl.1) rfl dX2_init_1 (Nat.le_of_ble_eq_true rfl) (Nat.le_of_ble_eq_true rfl) ?_
  refine W.eq (g2 := F0 m 4 ls []) rfl ?_
  refine lv_aload_n hx hb dX2_init_4 rfl (lv_at hl 0 rfl) ?_
  refine va_new (ci := 3) (fs := [.null]) (C := RX3) (T := TX3) (N := 1) hx hb hts hi_X2_init_3 tyX3 tyX3_ok hown (hts (.classLink RX2 9 RX3) (List.mem_of_getElem? (i := 4) rfl)) (hts (.instantiable RX3 1) (List.mem_of_getElem? (i := 5) rfl)) (hts (.initialized RX3) (List.mem_of_getElem? (i := 6) rfl)) hK hP hD hS hA rfl (by decide +kernel) (Nat.le_of_ble_eq_true rfl) (Nat.le_of_ble_eq_true rfl) dX2_init_5 (fun q5 H hP hD hS => ?_)
  refine lv_dup hx hb dX2_init_8 rfl ?_
  refine lv_iconst (v := 3) hx hb dX2_init_9 (by decide) ?_
  refine xcvL (va_runI (As := [.int (3 : Int32)]) (rest := [.ref q5, .ref z]) ⟨hx, hb, hml, hown, hts⟩ (c_X3_init_3 l D cI cP H.size q5) (cwI 1 hts gX2_init_X3_init rfl rfl rfl (hts (.initialized RX3) (List.mem_of_getElem? (i := 6) rfl)) (hts (.methodLink RX2 13 yX3_init) (List.mem_of_getElem? (i := 8) rfl)) (hts (.instanceMethod yX3_init) (List.mem_of_getElem? (i := 9) rfl)) rfl (by decide +kernel) ⟨Nat.le_of_ble_eq_true rfl, Nat.le_of_ble_eq_true rfl⟩) (xPSL hN hK hP) rfl rfl hl.1 rfl (lv_room (Nat.le_of_ble_eq_true rfl)) dX2_init_10 ⟨Nat.le_of_ble_eq_true rfl, Nat.le_of_ble_eq_true rfl⟩) hP hD hS hA (fun u1 H locs hw hP hD hS => ?_)
  have hP : va_P D vwCl (((z, .inr (2, [.null, .int 0])) :: (wRow cI q5 u1 3 (fun _ => 0)) : va_W)) H := hP
  have hD : va_D A (((z, .inr (2, [.null, .int 0])) :: (wRow cI q5 u1 3 (fun _ => 0)) : va_W)) := hD
  have hw1 := hw
  refine va_putF (D := D) (ci := 2) (v := .ref q5) (ty := (.object "BlindLanterns$Row")) (C := RX2) (T := TX2) (N := 2) hx hb hts hi_X2_init_2 tyX2 tyX2_ok nmX2 hown hK hP hD hS 0 rfl rfl 0 (by decide) (hts (.fieldLink RX2 16 "BlindLanterns$Reader" "numbers" "LBlindLanterns$Row;") (List.mem_of_getElem? (i := 7) rfl)) (fun _ h9 => h9) rfl hname rfl (by decide +kernel) rfl rfl (Nat.le_of_ble_eq_true rfl) dX2_init_13 (fun H locs hP hD hS => ?_)
  have hP : va_P D vwCl (((z, .inr (2, [.ref q5, .int 0])) :: (wRow cI q5 u1 3 (fun _ => 0)) : va_W)) H := hP
  have hD : va_D A (((z, .inr (2, [.ref q5, .int 0])) :: (wRow cI q5 u1 3 (fun _ => 0)) : va_W)) := hD
  refine W.widen (k := 2) (n := 4) (Nat.le_of_ble_eq_true rfl) (Nat.le_of_ble_eq_true rfl) ?_
  exact hret (xfn [q5], xfn [u1]) _ _ _ _ dX2_init_16 trivial hP hD hS
