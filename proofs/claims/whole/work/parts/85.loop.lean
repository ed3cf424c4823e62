theorem lw_more {L i : Nat} (hL : L ≤ 2048) (hi : i ≤ L) (h : ¬ (Int32.ofNat L - 4 < nI i)) : i + 4 ≤ L := by
  rw [Int32.lt_iff_toInt_lt, nI_toInt (by omega)] at h
  have e4 : (4 : Int32).toInt = 4 := by decide
  have eL : (Int32.ofNat L).toInt = (L : Int) := nI_toInt (by omega)
  have e : (Int32.ofNat L - 4).toInt = (L : Int) - 4 := by
    rw [x_sub (by rw [eL, e4]; omega) (by rw [eL, e4]; omega), eL, e4]
  omega
set_option maxHeartbeats 4000000 in
set_option maxRecDepth 100000 in
theorem lw_head {p : Program} {l : Launch} {e : Env} {s : State} {m : MethodId} {below : List Frame} {meth : Method} {c : Code} {D : va_G} {cI cP : ClassId} {b0 L0 x mo i : Nat} {xs : Nat → Int32} (C0 : LCx p s m c D cI cP b0 L0 xs) (hr : meth.sig.returnType = ret) (hlocks : meth.locks = false) (hi : i ≤ L0) (kk : i + 4 ≤ L0 → LG p l e s m below meth c D cI cP b0 x mo i 856) : LG p l e s m below meth c D cI cP b0 x mo i 18 := by
  have C1 := C0
  obtain ⟨hx, hb, hml, hown, hts, hX, hbl, hL, hN, hK⟩ := C0
  intro Lt M st nd cnt nu nk b tx kd o0 ch l0 dB dP su fp fn fw po pl oi lt xr rr ra yr ya qr qa nr na ur ua br ba mr jb eb xt xd ga jp ep za fa sf sto sn dk aP di o2 o3 o4 g4 g5 g6 g7 g8 g9 g10 p2 p4 p8 p9 p11 p12 kr orw lr dr now trw mvw bkw kpw srw wtw zf ff dd ok0 ok1 gk0 gk1 gk2 gk3 w3 w5 w6 w7 w10 jg eg jr ja er ea ji ei jk ek H locs ls hP hD hLt htx hT hM hC hPB hs hf hfm hnu hjg hSj hnk heg hSk hS hl
  have hbA : ¬ (fun q : Nat => s.heap.size ≤ q) b0 := Nat.not_le.mpr hbl
  refine lv_iload_n hx hb dL_law_18 rfl (lv_at hl 3 rfl) ?_
  refine lv_aload_n hx hb dL_law_19 rfl (lv_at hl 0 rfl) ?_
  refine va_slen hx hb hX hbl hbA hS dL_law_20 ?_
  refine lv_iconst (v := 4) hx hb dL_law_21 (by decide) ?_
  refine lv_isub hx hb dL_law_22 ?_
  refine lv_icmp_gt (tgt := 862) hx hb dL_law_23 (by decide) (fun c1 => ?_) (fun c1 => ?_)
  · refine lv_iconst (v := 1) hx hb dL_law_862 (by decide) ?_
    refine va_forget (fun q hq => hS.2.2 q hq) ?_
    refine W.widen (k := 600000) (n := 7302250) (Nat.le_of_ble_eq_true rfl) (Nat.le_of_ble_eq_true rfl) ?_
    exact lw_ret hx hb hr hlocks dL_law_863
  · have h4 := lw_more hL hi c1
    have kn := kk h4
    refine lv_aload_n hx hb dL_law_26 rfl (lv_at hl 0 rfl) ?_
    refine lv_iload_n hx hb dL_law_27 rfl (lv_at hl 3 rfl) ?_
    refine va_sld hx hb hX hbl hbA hS (vp_in_nI (by omega) (by omega)) dL_law_28 ?_
    refine lv_bipush (v := 31) hx hb dL_law_29 (by decide) ?_
    refine lv_iand hx hb dL_law_31 ?_
    generalize xs (nI i).toNatClampNeg &&& 31 = o
    by_cases k0 : o = 0
    · refine lv_tableIn hx hb dL_law_32 (off := 120) (tgt := 152) (by rw [k0]; decide) (by rw [k0]; decide) (by rw [k0]; rfl) (by decide) ?_
      exact lc_write C1 h4 kn Lt M st nd cnt nu nk b tx kd o0 ch l0 dB dP su fp fn fw po pl oi lt xr rr ra yr ya qr qa nr na ur ua br ba mr jb eb xt xd ga jp ep za fa sf sto sn dk aP di o2 o3 o4 g4 g5 g6 g7 g8 g9 g10 p2 p4 p8 p9 p11 p12 kr orw lr dr now trw mvw bkw kpw srw wtw zf ff dd ok0 ok1 gk0 gk1 gk2 gk3 w3 w5 w6 w7 w10 jg eg jr ja er ea ji ei jk ek H locs ls hP hD hLt htx hT hM hC hPB hs hf hfm hnu hjg hSj hnk heg hSk hS hl
    by_cases k1 : o = 1
    · refine lv_tableIn hx hb dL_law_32 (off := 183) (tgt := 215) (by rw [k1]; decide) (by rw [k1]; decide) (by rw [k1]; rfl) (by decide) ?_
      exact lc_wipe C1 h4 kn Lt M st nd cnt nu nk b tx kd o0 ch l0 dB dP su fp fn fw po pl oi lt xr rr ra yr ya qr qa nr na ur ua br ba mr jb eb xt xd ga jp ep za fa sf sto sn dk aP di o2 o3 o4 g4 g5 g6 g7 g8 g9 g10 p2 p4 p8 p9 p11 p12 kr orw lr dr now trw mvw bkw kpw srw wtw zf ff dd ok0 ok1 gk0 gk1 gk2 gk3 w3 w5 w6 w7 w10 jg eg jr ja er ea ji ei jk ek H locs ls hP hD hLt htx hT hM hC hPB hs hf hfm hnu hjg hSj hnk heg hSk hS hl
    by_cases k2 : o = 2
    · refine lv_tableIn hx hb dL_law_32 (off := 196) (tgt := 228) (by rw [k2]; decide) (by rw [k2]; decide) (by rw [k2]; rfl) (by decide) ?_
      exact lc_fault C1 h4 kn Lt M st nd cnt nu nk b tx kd o0 ch l0 dB dP su fp fn fw po pl oi lt xr rr ra yr ya qr qa nr na ur ua br ba mr jb eb xt xd ga jp ep za fa sf sto sn dk aP di o2 o3 o4 g4 g5 g6 g7 g8 g9 g10 p2 p4 p8 p9 p11 p12 kr orw lr dr now trw mvw bkw kpw srw wtw zf ff dd ok0 ok1 gk0 gk1 gk2 gk3 w3 w5 w6 w7 w10 jg eg jr ja er ea ji ei jk ek H locs ls hP hD hLt htx hT hM hC hPB hs hf hfm hnu hjg hSj hnk heg hSk hS hl
    by_cases k3 : o = 3
    · refine lv_tableIn hx hb dL_law_32 (off := 209) (tgt := 241) (by rw [k3]; decide) (by rw [k3]; decide) (by rw [k3]; rfl) (by decide) ?_
      exact lc_lay C1 h4 kn Lt M st nd cnt nu nk b tx kd o0 ch l0 dB dP su fp fn fw po pl oi lt xr rr ra yr ya qr qa nr na ur ua br ba mr jb eb xt xd ga jp ep za fa sf sto sn dk aP di o2 o3 o4 g4 g5 g6 g7 g8 g9 g10 p2 p4 p8 p9 p11 p12 kr orw lr dr now trw mvw bkw kpw srw wtw zf ff dd ok0 ok1 gk0 gk1 gk2 gk3 w3 w5 w6 w7 w10 jg eg jr ja er ea ji ei jk ek H locs ls hP hD hLt htx hT hM hC hPB hs hf hfm hnu hjg hSj hnk heg hSk hS hl
    by_cases k4 : o = 4
    · refine lv_tableIn hx hb dL_law_32 (off := 222) (tgt := 254) (by rw [k4]; decide) (by rw [k4]; decide) (by rw [k4]; rfl) (by decide) ?_
      exact lc_lantern C1 h4 kn Lt M st nd cnt nu nk b tx kd o0 ch l0 dB dP su fp fn fw po pl oi lt xr rr ra yr ya qr qa nr na ur ua br ba mr jb eb xt xd ga jp ep za fa sf sto sn dk aP di o2 o3 o4 g4 g5 g6 g7 g8 g9 g10 p2 p4 p8 p9 p11 p12 kr orw lr dr now trw mvw bkw kpw srw wtw zf ff dd ok0 ok1 gk0 gk1 gk2 gk3 w3 w5 w6 w7 w10 jg eg jr ja er ea ji ei jk ek H locs ls hP hD hLt htx hT hM hC hPB hs hf hfm hnu hjg hSj hnk heg hSk hS hl
    by_cases k5 : o = 5
    · refine lv_tableIn hx hb dL_law_32 (off := 255) (tgt := 287) (by rw [k5]; decide) (by rw [k5]; decide) (by rw [k5]; rfl) (by decide) ?_
      exact lc_post C1 h4 kn Lt M st nd cnt nu nk b tx kd o0 ch l0 dB dP su fp fn fw po pl oi lt xr rr ra yr ya qr qa nr na ur ua br ba mr jb eb xt xd ga jp ep za fa sf sto sn dk aP di o2 o3 o4 g4 g5 g6 g7 g8 g9 g10 p2 p4 p8 p9 p11 p12 kr orw lr dr now trw mvw bkw kpw srw wtw zf ff dd ok0 ok1 gk0 gk1 gk2 gk3 w3 w5 w6 w7 w10 jg eg jr ja er ea ji ei jk ek H locs ls hP hD hLt htx hT hM hC hPB hs hf hfm hnu hjg hSj hnk heg hSk hS hl
    by_cases k6 : o = 6
    · refine lv_tableIn hx hb dL_law_32 (off := 288) (tgt := 320) (by rw [k6]; decide) (by rw [k6]; decide) (by rw [k6]; rfl) (by decide) ?_
      exact lc_fill C1 h4 kn Lt M st nd cnt nu nk b tx kd o0 ch l0 dB dP su fp fn fw po pl oi lt xr rr ra yr ya qr qa nr na ur ua br ba mr jb eb xt xd ga jp ep za fa sf sto sn dk aP di o2 o3 o4 g4 g5 g6 g7 g8 g9 g10 p2 p4 p8 p9 p11 p12 kr orw lr dr now trw mvw bkw kpw srw wtw zf ff dd ok0 ok1 gk0 gk1 gk2 gk3 w3 w5 w6 w7 w10 jg eg jr ja er ea ji ei jk ek H locs ls hP hD hLt htx hT hM hC hPB hs hf hfm hnu hjg hSj hnk heg hSk hS hl
    by_cases k7 : o = 7
    · refine lv_tableIn hx hb dL_law_32 (off := 321) (tgt := 353) (by rw [k7]; decide) (by rw [k7]; decide) (by rw [k7]; rfl) (by decide) ?_
      exact lc_light C1 h4 kn Lt M st nd cnt nu nk b tx kd o0 ch l0 dB dP su fp fn fw po pl oi lt xr rr ra yr ya qr qa nr na ur ua br ba mr jb eb xt xd ga jp ep za fa sf sto sn dk aP di o2 o3 o4 g4 g5 g6 g7 g8 g9 g10 p2 p4 p8 p9 p11 p12 kr orw lr dr now trw mvw bkw kpw srw wtw zf ff dd ok0 ok1 gk0 gk1 gk2 gk3 w3 w5 w6 w7 w10 jg eg jr ja er ea ji ei jk ek H locs ls hP hD hLt htx hT hM hC hPB hs hf hfm hnu hjg hSj hnk heg hSk hS hl
    by_cases k8 : o = 8
    · refine lv_tableIn hx hb dL_law_32 (off := 344) (tgt := 376) (by rw [k8]; decide) (by rw [k8]; decide) (by rw [k8]; rfl) (by decide) ?_
      exact lc_change C1 h4 kn Lt M st nd cnt nu nk b tx kd o0 ch l0 dB dP su fp fn fw po pl oi lt xr rr ra yr ya qr qa nr na ur ua br ba mr jb eb xt xd ga jp ep za fa sf sto sn dk aP di o2 o3 o4 g4 g5 g6 g7 g8 g9 g10 p2 p4 p8 p9 p11 p12 kr orw lr dr now trw mvw bkw kpw srw wtw zf ff dd ok0 ok1 gk0 gk1 gk2 gk3 w3 w5 w6 w7 w10 jg eg jr ja er ea ji ei jk ek H locs ls hP hD hLt htx hT hM hC hPB hs hf hfm hnu hjg hSj hnk heg hSk hS hl
    by_cases k9 : o = 9
    · refine lv_tableIn hx hb dL_law_32 (off := 377) (tgt := 409) (by rw [k9]; decide) (by rw [k9]; decide) (by rw [k9]; rfl) (by decide) ?_
      exact lc_bells C1 h4 kn Lt M st nd cnt nu nk b tx kd o0 ch l0 dB dP su fp fn fw po pl oi lt xr rr ra yr ya qr qa nr na ur ua br ba mr jb eb xt xd ga jp ep za fa sf sto sn dk aP di o2 o3 o4 g4 g5 g6 g7 g8 g9 g10 p2 p4 p8 p9 p11 p12 kr orw lr dr now trw mvw bkw kpw srw wtw zf ff dd ok0 ok1 gk0 gk1 gk2 gk3 w3 w5 w6 w7 w10 jg eg jr ja er ea ji ei jk ek H locs ls hP hD hLt htx hT hM hC hPB hs hf hfm hnu hjg hSj hnk heg hSk hS hl
    by_cases k10 : o = 10
    · refine lv_tableIn hx hb dL_law_32 (off := 400) (tgt := 432) (by rw [k10]; decide) (by rw [k10]; decide) (by rw [k10]; rfl) (by decide) ?_
      exact lc_undo C1 h4 kn Lt M st nd cnt nu nk b tx kd o0 ch l0 dB dP su fp fn fw po pl oi lt xr rr ra yr ya qr qa nr na ur ua br ba mr jb eb xt xd ga jp ep za fa sf sto sn dk aP di o2 o3 o4 g4 g5 g6 g7 g8 g9 g10 p2 p4 p8 p9 p11 p12 kr orw lr dr now trw mvw bkw kpw srw wtw zf ff dd ok0 ok1 gk0 gk1 gk2 gk3 w3 w5 w6 w7 w10 jg eg jr ja er ea ji ei jk ek H locs ls hP hD hLt htx hT hM hC hPB hs hf hfm hnu hjg hSj hnk heg hSk hS hl
    by_cases k11 : o = 11
    · refine lv_tableIn hx hb dL_law_32 (off := 413) (tgt := 445) (by rw [k11]; decide) (by rw [k11]; decide) (by rw [k11]; rfl) (by decide) ?_
      exact lc_warm C1 h4 kn Lt M st nd cnt nu nk b tx kd o0 ch l0 dB dP su fp fn fw po pl oi lt xr rr ra yr ya qr qa nr na ur ua br ba mr jb eb xt xd ga jp ep za fa sf sto sn dk aP di o2 o3 o4 g4 g5 g6 g7 g8 g9 g10 p2 p4 p8 p9 p11 p12 kr orw lr dr now trw mvw bkw kpw srw wtw zf ff dd ok0 ok1 gk0 gk1 gk2 gk3 w3 w5 w6 w7 w10 jg eg jr ja er ea ji ei jk ek H locs ls hP hD hLt htx hT hM hC hPB hs hf hfm hnu hjg hSj hnk heg hSk hS hl
    by_cases k12 : o = 12
    · refine lv_tableIn hx hb dL_law_32 (off := 446) (tgt := 478) (by rw [k12]; decide) (by rw [k12]; decide) (by rw [k12]; rfl) (by decide) ?_
      exact lc_dark C1 h4 kn Lt M st nd cnt nu nk b tx kd o0 ch l0 dB dP su fp fn fw po pl oi lt xr rr ra yr ya qr qa nr na ur ua br ba mr jb eb xt xd ga jp ep za fa sf sto sn dk aP di o2 o3 o4 g4 g5 g6 g7 g8 g9 g10 p2 p4 p8 p9 p11 p12 kr orw lr dr now trw mvw bkw kpw srw wtw zf ff dd ok0 ok1 gk0 gk1 gk2 gk3 w3 w5 w6 w7 w10 jg eg jr ja er ea ji ei jk ek H locs ls hP hD hLt htx hT hM hC hPB hs hf hfm hnu hjg hSj hnk heg hSk hS hl
    by_cases k13 : o = 13
    · refine lv_tableIn hx hb dL_law_32 (off := 469) (tgt := 501) (by rw [k13]; decide) (by rw [k13]; decide) (by rw [k13]; rfl) (by decide) ?_
      exact lc_walk C1 h4 kn Lt M st nd cnt nu nk b tx kd o0 ch l0 dB dP su fp fn fw po pl oi lt xr rr ra yr ya qr qa nr na ur ua br ba mr jb eb xt xd ga jp ep za fa sf sto sn dk aP di o2 o3 o4 g4 g5 g6 g7 g8 g9 g10 p2 p4 p8 p9 p11 p12 kr orw lr dr now trw mvw bkw kpw srw wtw zf ff dd ok0 ok1 gk0 gk1 gk2 gk3 w3 w5 w6 w7 w10 jg eg jr ja er ea ji ei jk ek H locs ls hP hD hLt htx hT hM hC hPB hs hf hfm hnu hjg hSj hnk heg hSk hS hl
    by_cases k14 : o = 14
    · refine lv_tableIn hx hb dL_law_32 (off := 502) (tgt := 534) (by rw [k14]; decide) (by rw [k14]; decide) (by rw [k14]; rfl) (by decide) ?_
      exact lc_seen C1 h4 kn Lt M st nd cnt nu nk b tx kd o0 ch l0 dB dP su fp fn fw po pl oi lt xr rr ra yr ya qr qa nr na ur ua br ba mr jb eb xt xd ga jp ep za fa sf sto sn dk aP di o2 o3 o4 g4 g5 g6 g7 g8 g9 g10 p2 p4 p8 p9 p11 p12 kr orw lr dr now trw mvw bkw kpw srw wtw zf ff dd ok0 ok1 gk0 gk1 gk2 gk3 w3 w5 w6 w7 w10 jg eg jr ja er ea ji ei jk ek H locs ls hP hD hLt htx hT hM hC hPB hs hf hfm hnu hjg hSj hnk heg hSk hS hl
    by_cases k15 : o = 15
    · refine lv_tableIn hx hb dL_law_32 (off := 561) (tgt := 593) (by rw [k15]; decide) (by rw [k15]; decide) (by rw [k15]; rfl) (by decide) ?_
      exact lc_forget C1 h4 kn Lt M st nd cnt nu nk b tx kd o0 ch l0 dB dP su fp fn fw po pl oi lt xr rr ra yr ya qr qa nr na ur ua br ba mr jb eb xt xd ga jp ep za fa sf sto sn dk aP di o2 o3 o4 g4 g5 g6 g7 g8 g9 g10 p2 p4 p8 p9 p11 p12 kr orw lr dr now trw mvw bkw kpw srw wtw zf ff dd ok0 ok1 gk0 gk1 gk2 gk3 w3 w5 w6 w7 w10 jg eg jr ja er ea ji ei jk ek H locs ls hP hD hLt htx hT hM hC hPB hs hf hfm hnu hjg hSj hnk heg hSk hS hl
    by_cases k16 : o = 16
    · refine lv_tableIn hx hb dL_law_32 (off := 574) (tgt := 606) (by rw [k16]; decide) (by rw [k16]; decide) (by rw [k16]; rfl) (by decide) ?_
      exact lc_fits C1 h4 kn Lt M st nd cnt nu nk b tx kd o0 ch l0 dB dP su fp fn fw po pl oi lt xr rr ra yr ya qr qa nr na ur ua br ba mr jb eb xt xd ga jp ep za fa sf sto sn dk aP di o2 o3 o4 g4 g5 g6 g7 g8 g9 g10 p2 p4 p8 p9 p11 p12 kr orw lr dr now trw mvw bkw kpw srw wtw zf ff dd ok0 ok1 gk0 gk1 gk2 gk3 w3 w5 w6 w7 w10 jg eg jr ja er ea ji ei jk ek H locs ls hP hD hLt htx hT hM hC hPB hs hf hfm hnu hjg hSj hnk heg hSk hS hl
    by_cases k17 : o = 17
    · refine lv_tableIn hx hb dL_law_32 (off := 587) (tgt := 619) (by rw [k17]; decide) (by rw [k17]; decide) (by rw [k17]; rfl) (by decide) ?_
      exact lc_odds C1 h4 kn Lt M st nd cnt nu nk b tx kd o0 ch l0 dB dP su fp fn fw po pl oi lt xr rr ra yr ya qr qa nr na ur ua br ba mr jb eb xt xd ga jp ep za fa sf sto sn dk aP di o2 o3 o4 g4 g5 g6 g7 g8 g9 g10 p2 p4 p8 p9 p11 p12 kr orw lr dr now trw mvw bkw kpw srw wtw zf ff dd ok0 ok1 gk0 gk1 gk2 gk3 w3 w5 w6 w7 w10 jg eg jr ja er ea ji ei jk ek H locs ls hP hD hLt htx hT hM hC hPB hs hf hfm hnu hjg hSj hnk heg hSk hS hl
    by_cases k18 : o = 18
    · refine lv_tableIn hx hb dL_law_32 (off := 620) (tgt := 652) (by rw [k18]; decide) (by rw [k18]; decide) (by rw [k18]; rfl) (by decide) ?_
      exact lc_letOut C1 h4 kn Lt M st nd cnt nu nk b tx kd o0 ch l0 dB dP su fp fn fw po pl oi lt xr rr ra yr ya qr qa nr na ur ua br ba mr jb eb xt xd ga jp ep za fa sf sto sn dk aP di o2 o3 o4 g4 g5 g6 g7 g8 g9 g10 p2 p4 p8 p9 p11 p12 kr orw lr dr now trw mvw bkw kpw srw wtw zf ff dd ok0 ok1 gk0 gk1 gk2 gk3 w3 w5 w6 w7 w10 jg eg jr ja er ea ji ei jk ek H locs ls hP hD hLt htx hT hM hC hPB hs hf hfm hnu hjg hSj hnk heg hSk hS hl
    by_cases k19 : o = 19
    · refine lv_tableIn hx hb dL_law_32 (off := 643) (tgt := 675) (by rw [k19]; decide) (by rw [k19]; decide) (by rw [k19]; rfl) (by decide) ?_
      exact lc_coldHands C1 h4 kn Lt M st nd cnt nu nk b tx kd o0 ch l0 dB dP su fp fn fw po pl oi lt xr rr ra yr ya qr qa nr na ur ua br ba mr jb eb xt xd ga jp ep za fa sf sto sn dk aP di o2 o3 o4 g4 g5 g6 g7 g8 g9 g10 p2 p4 p8 p9 p11 p12 kr orw lr dr now trw mvw bkw kpw srw wtw zf ff dd ok0 ok1 gk0 gk1 gk2 gk3 w3 w5 w6 w7 w10 jg eg jr ja er ea ji ei jk ek H locs ls hP hD hLt htx hT hM hC hPB hs hf hfm hnu hjg hSj hnk heg hSk hS hl
    by_cases k20 : o = 20
    · refine lv_tableIn hx hb dL_law_32 (off := 656) (tgt := 688) (by rw [k20]; decide) (by rw [k20]; decide) (by rw [k20]; rfl) (by decide) ?_
      exact lc_keepLit C1 h4 kn Lt M st nd cnt nu nk b tx kd o0 ch l0 dB dP su fp fn fw po pl oi lt xr rr ra yr ya qr qa nr na ur ua br ba mr jb eb xt xd ga jp ep za fa sf sto sn dk aP di o2 o3 o4 g4 g5 g6 g7 g8 g9 g10 p2 p4 p8 p9 p11 p12 kr orw lr dr now trw mvw bkw kpw srw wtw zf ff dd ok0 ok1 gk0 gk1 gk2 gk3 w3 w5 w6 w7 w10 jg eg jr ja er ea ji ei jk ek H locs ls hP hD hLt htx hT hM hC hPB hs hf hfm hnu hjg hSj hnk heg hSk hS hl
    by_cases k21 : o = 21
    · refine lv_tableIn hx hb dL_law_32 (off := 699) (tgt := 731) (by rw [k21]; decide) (by rw [k21]; decide) (by rw [k21]; rfl) (by decide) ?_
      exact lc_oil C1 h4 kn Lt M st nd cnt nu nk b tx kd o0 ch l0 dB dP su fp fn fw po pl oi lt xr rr ra yr ya qr qa nr na ur ua br ba mr jb eb xt xd ga jp ep za fa sf sto sn dk aP di o2 o3 o4 g4 g5 g6 g7 g8 g9 g10 p2 p4 p8 p9 p11 p12 kr orw lr dr now trw mvw bkw kpw srw wtw zf ff dd ok0 ok1 gk0 gk1 gk2 gk3 w3 w5 w6 w7 w10 jg eg jr ja er ea ji ei jk ek H locs ls hP hD hLt htx hT hM hC hPB hs hf hfm hnu hjg hSj hnk heg hSk hS hl
    by_cases k22 : o = 22
    · refine lv_tableIn hx hb dL_law_32 (off := 732) (tgt := 764) (by rw [k22]; decide) (by rw [k22]; decide) (by rw [k22]; rfl) (by decide) ?_
      exact lc_night C1 h4 kn Lt M st nd cnt nu nk b tx kd o0 ch l0 dB dP su fp fn fw po pl oi lt xr rr ra yr ya qr qa nr na ur ua br ba mr jb eb xt xd ga jp ep za fa sf sto sn dk aP di o2 o3 o4 g4 g5 g6 g7 g8 g9 g10 p2 p4 p8 p9 p11 p12 kr orw lr dr now trw mvw bkw kpw srw wtw zf ff dd ok0 ok1 gk0 gk1 gk2 gk3 w3 w5 w6 w7 w10 jg eg jr ja er ea ji ei jk ek H locs ls hP hD hLt htx hT hM hC hPB hs hf hfm hnu hjg hSj hnk heg hSk hS hl
    by_cases k23 : o = 23
    · refine lv_tableIn hx hb dL_law_32 (off := 775) (tgt := 807) (by rw [k23]; decide) (by rw [k23]; decide) (by rw [k23]; rfl) (by decide) ?_
      exact lc_keep C1 h4 kn Lt M st nd cnt nu nk b tx kd o0 ch l0 dB dP su fp fn fw po pl oi lt xr rr ra yr ya qr qa nr na ur ua br ba mr jb eb xt xd ga jp ep za fa sf sto sn dk aP di o2 o3 o4 g4 g5 g6 g7 g8 g9 g10 p2 p4 p8 p9 p11 p12 kr orw lr dr now trw mvw bkw kpw srw wtw zf ff dd ok0 ok1 gk0 gk1 gk2 gk3 w3 w5 w6 w7 w10 jg eg jr ja er ea ji ei jk ek H locs ls hP hD hLt htx hT hM hC hPB hs hf hfm hnu hjg hSj hnk heg hSk hS hl
    by_cases k24 : o = 24
    · refine lv_tableIn hx hb dL_law_32 (off := 788) (tgt := 820) (by rw [k24]; decide) (by rw [k24]; decide) (by rw [k24]; rfl) (by decide) ?_
      exact lc_back C1 h4 kn Lt M st nd cnt nu nk b tx kd o0 ch l0 dB dP su fp fn fw po pl oi lt xr rr ra yr ya qr qa nr na ur ua br ba mr jb eb xt xd ga jp ep za fa sf sto sn dk aP di o2 o3 o4 g4 g5 g6 g7 g8 g9 g10 p2 p4 p8 p9 p11 p12 kr orw lr dr now trw mvw bkw kpw srw wtw zf ff dd ok0 ok1 gk0 gk1 gk2 gk3 w3 w5 w6 w7 w10 jg eg jr ja er ea ji ei jk ek H locs ls hP hD hLt htx hT hM hC hPB hs hf hfm hnu hjg hSj hnk heg hSk hS hl
    by_cases k25 : o = 25
    · refine lv_tableIn hx hb dL_law_32 (off := 801) (tgt := 833) (by rw [k25]; decide) (by rw [k25]; decide) (by rw [k25]; rfl) (by decide) ?_
      exact lc_count C1 h4 kn Lt M st nd cnt nu nk b tx kd o0 ch l0 dB dP su fp fn fw po pl oi lt xr rr ra yr ya qr qa nr na ur ua br ba mr jb eb xt xd ga jp ep za fa sf sto sn dk aP di o2 o3 o4 g4 g5 g6 g7 g8 g9 g10 p2 p4 p8 p9 p11 p12 kr orw lr dr now trw mvw bkw kpw srw wtw zf ff dd ok0 ok1 gk0 gk1 gk2 gk3 w3 w5 w6 w7 w10 jg eg jr ja er ea ji ei jk ek H locs ls hP hD hLt htx hT hM hC hPB hs hf hfm hnu hjg hSj hnk heg hSk hS hl
    have t0 := lv_neT (a := 0) k0 rfl
    have t1 := lv_neT (a := 1) k1 rfl
    have t2 := lv_neT (a := 2) k2 rfl
    have t3 := lv_neT (a := 3) k3 rfl
    have t4 := lv_neT (a := 4) k4 rfl
    have t5 := lv_neT (a := 5) k5 rfl
    have t6 := lv_neT (a := 6) k6 rfl
    have t7 := lv_neT (a := 7) k7 rfl
    have t8 := lv_neT (a := 8) k8 rfl
    have t9 := lv_neT (a := 9) k9 rfl
    have t10 := lv_neT (a := 10) k10 rfl
    have t11 := lv_neT (a := 11) k11 rfl
    have t12 := lv_neT (a := 12) k12 rfl
    have t13 := lv_neT (a := 13) k13 rfl
    have t14 := lv_neT (a := 14) k14 rfl
    have t15 := lv_neT (a := 15) k15 rfl
    have t16 := lv_neT (a := 16) k16 rfl
    have t17 := lv_neT (a := 17) k17 rfl
    have t18 := lv_neT (a := 18) k18 rfl
    have t19 := lv_neT (a := 19) k19 rfl
    have t20 := lv_neT (a := 20) k20 rfl
    have t21 := lv_neT (a := 21) k21 rfl
    have t22 := lv_neT (a := 22) k22 rfl
    have t23 := lv_neT (a := 23) k23 rfl
    have t24 := lv_neT (a := 24) k24 rfl
    have t25 := lv_neT (a := 25) k25 rfl
    refine lv_tableOut hx hb dL_law_32 (tgt := 856) (by omega) (by decide) ?_
    exact kn Lt M st nd cnt nu nk b tx kd o0 ch l0 dB dP su fp fn fw po pl oi lt xr rr ra yr ya qr qa nr na ur ua br ba mr jb eb xt xd ga jp ep za fa sf sto sn dk aP di o2 o3 o4 g4 g5 g6 g7 g8 g9 g10 p2 p4 p8 p9 p11 p12 kr orw lr dr now trw mvw bkw kpw srw wtw zf ff dd ok0 ok1 gk0 gk1 gk2 gk3 w3 w5 w6 w7 w10 jg eg jr ja er ea ji ei jk ek H locs ls hP hD hLt htx hT hM hC hPB hs hf hfm hnu hjg hSj hnk heg hSk hS hl
set_option maxHeartbeats 4000000 in
set_option maxRecDepth 100000 in
/-- THE LAW'S LOOP: at its head, with i ints read, both hold the same night -/
theorem law_loop {p : Program} {l : Launch} {e : Env} {s : State} {m : MethodId} {below : List Frame} {meth : Method} {c : Code} {D : va_G} {cI cP : ClassId} {b0 L0 x mo : Nat} {xs : Nat → Int32} (C0 : LCx p s m c D cI cP b0 L0 xs) (hr : meth.sig.returnType = ret) (hlocks : meth.locks = false) : ∀ (n i : Nat), i ≤ L0 → L0 + 1 ≤ i + n → LG p l e s m below meth c D cI cP b0 x mo i 18 := by
  intro n
  induction n with
  | zero => intro i h1 h2; exact absurd h2 (by omega)
  | succ n ih =>
    intro i h1 h2
    refine lw_head C0 hr hlocks h1 (fun h4 => ?_)
    have hk := ih (i + 4) h4 (by omega)
    obtain ⟨hx, hb, hml, hown, hts, hX, hbl, hL, hN, hK⟩ := C0
    intro Lt M st nd cnt nu nk b tx kd o0 ch l0 dB dP su fp fn fw po pl oi lt xr rr ra yr ya qr qa nr na ur ua br ba mr jb eb xt xd ga jp ep za fa sf sto sn dk aP di o2 o3 o4 g4 g5 g6 g7 g8 g9 g10 p2 p4 p8 p9 p11 p12 kr orw lr dr now trw mvw bkw kpw srw wtw zf ff dd ok0 ok1 gk0 gk1 gk2 gk3 w3 w5 w6 w7 w10 jg eg jr ja er ea ji ei jk ek H locs ls hP hD hLt htx hT hM hC hPB hs hf hfm hnu hjg hSj hnk heg hSk hS hl
    refine lv_iinc (v := nI (i + 4)) (lv' := [(3, .int (nI (i + 4))), (0, .ref b0), (1, .ref x), (2, .ref mo)]) hx hb dL_law_856 hl (k := 3) rfl (by rw [← nI_add]; rfl) (by decide) rfl (fun ls hl => ?_)
    refine lv_goto (tgt := 18) hx hb dL_law_859 (by decide) ?_
    exact hk Lt M st nd cnt nu nk b tx kd o0 ch l0 dB dP su fp fn fw po pl oi lt xr rr ra yr ya qr qa nr na ur ua br ba mr jb eb xt xd ga jp ep za fa sf sto sn dk aP di o2 o3 o4 g4 g5 g6 g7 g8 g9 g10 p2 p4 p8 p9 p11 p12 kr orw lr dr now trw mvw bkw kpw srw wtw zf ff dd ok0 ok1 gk0 gk1 gk2 gk3 w3 w5 w6 w7 w10 jg eg jr ja er ea ji ei jk ek H locs ls hP hD hLt htx hT hM hC hPB hs hf hfm hnu hjg hSj hnk heg hSk hS (lv_sub hl [1, 2, 3, 0] rfl)
