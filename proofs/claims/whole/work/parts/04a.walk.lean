set_option maxHeartbeats 4000000 in
set_option maxRecDepth 100000 in
theorem tX0_set (l : Launch) (D : va_G) (cI cZ cR : ClassId) (N : Nat) (q0 : Nat → Nat) (d0 : tm_M) (p1 : Int32) (p2 : Int32) (p3 : Int32) (p4 : Int32) (z0 : tm_M) (hf : fX0_set N d0 p1 p2 p3 p4 = some z0) : tm_CV l D (tm_ty cI cZ cR) yX0_set wsX0_set rmX0_set [.ref (q0 0), .int p1, .int p2, .int p3, .int p4] (WX0 cI cZ cR q0 d0) (WX0 cI cZ cR q0 z0) := by
  refine tm_mkV (cc := cX0_set) (maxL := 5) (by decide) rfl (Nat.le_of_ble_eq_true rfl) ?_
  intro p e s m below meth c A ls Q C hP hD hS hl hend
  have C : tm_Cx p s m c [.ref (q0 0), .int p1, .int p2, .int p3, .int p4].toArray cX0_set 5 RX0 wsX0_set D (tm_ty cI cZ cR) A s.heap := C
  obtain ⟨hx, hb, hml, hown, hts, hK, hA⟩ := id C
  have hl : lv_has ls 5 [(0, .ref (q0 0)), (1, .int p1), (2, .int p2), (3, .int p3), (4, .int p4)] := hl
  unfold fX0_set at hf
  refine lv_aload_n hx hb dX0_set_0 rfl (lv_at hl 0 rfl) ?_
  refine lv_iload_n hx hb dX0_set_1 rfl (lv_at hl 1 rfl) ?_
  refine tm_put (D := D) (ci := 0) (v := .int p1) (ty := .int) (C := RX0) (T := TX0) (N := 4) hx hb hts uX0_set_X0 tyX0 tyX0_ok nmX0 hown hK hP hD hS 0 rfl rfl 0 (by decide) (hts _ kX0_set_f7) (fun _ h9 => h9) rfl (by decide +kernel) rfl rfl (Nat.le_of_ble_eq_true rfl) dX0_set_2 (fun z => WX0 cI cZ cR q0 z) (tm_upk d0 0 0 p1) rfl (fun d0_1 ed0_1 H locs hP hD hS => ?_)
  have hf := tm_at ed0_1 hf
  refine lv_aload_n hx hb dX0_set_5 rfl (lv_at hl 0 rfl) ?_
  refine lv_iload_n hx hb dX0_set_6 rfl (lv_at hl 2 rfl) ?_
  refine tm_put (D := D) (ci := 0) (v := .int p2) (ty := .int) (C := RX0) (T := TX0) (N := 4) hx hb hts uX0_set_X0 tyX0 tyX0_ok nmX0 hown hK hP hD hS 0 rfl rfl 1 (by decide) (hts _ kX0_set_f13) (fun _ h9 => h9) rfl (by decide +kernel) rfl rfl (Nat.le_of_ble_eq_true rfl) dX0_set_7 (fun z => WX0 cI cZ cR q0 z) (tm_upk d0_1 0 1 p2) rfl (fun d0_2 ed0_2 H locs hP hD hS => ?_)
  have hf := tm_at ed0_2 hf
  refine lv_aload_n hx hb dX0_set_10 rfl (lv_at hl 0 rfl) ?_
  refine lv_iload_n hx hb dX0_set_11 rfl (lv_at hl 3 rfl) ?_
  refine tm_put (D := D) (ci := 0) (v := .int p3) (ty := .int) (C := RX0) (T := TX0) (N := 4) hx hb hts uX0_set_X0 tyX0 tyX0_ok nmX0 hown hK hP hD hS 0 rfl rfl 2 (by decide) (hts _ kX0_set_f16) (fun _ h9 => h9) rfl (by decide +kernel) rfl rfl (Nat.le_of_ble_eq_true rfl) dX0_set_12 (fun z => WX0 cI cZ cR q0 z) (tm_upk d0_2 0 2 p3) rfl (fun d0_3 ed0_3 H locs hP hD hS => ?_)
  have hf := tm_at ed0_3 hf
  refine lv_aload_n hx hb dX0_set_15 rfl (lv_at hl 0 rfl) ?_
  refine lv_iload hx hb dX0_set_16 (lv_at hl 4 rfl) ?_
  refine tm_put (D := D) (ci := 0) (v := .int p4) (ty := .int) (C := RX0) (T := TX0) (N := 4) hx hb hts uX0_set_X0 tyX0 tyX0_ok nmX0 hown hK hP hD hS 0 rfl rfl 3 (by decide) (hts _ kX0_set_f19) (fun _ h9 => h9) rfl (by decide +kernel) rfl rfl (Nat.le_of_ble_eq_true rfl) dX0_set_18 (fun z => WX0 cI cZ cR q0 z) (tm_upk d0_3 0 3 p4) rfl (fun d0_4 ed0_4 H locs hP hD hS => ?_)
  have hf := tm_at ed0_4 hf
  obtain rfl := Option.some.inj hf
  exact hend _ _ _ _ hP hD hS dX0_set_21
set_option maxHeartbeats 4000000 in
set_option maxRecDepth 100000 in
theorem tX0_isEmpty (l : Launch) (D : va_G) (cI cZ cR : ClassId) (N : Nat) (q0 : Nat → Nat) (d0 : tm_M) (r0 : Int32) (hf : fX0_isEmpty N d0 = some r0) : tm_CI l D (tm_ty cI cZ cR) yX0_isEmpty wsX0_isEmpty rmX0_isEmpty [.ref (q0 0)] (WX0 cI cZ cR q0 d0) r0 (WX0 cI cZ cR q0 d0) := by
  refine tm_mkI (cc := cX0_isEmpty) (maxL := 1) (ty := .boolean) (by decide) rfl (Nat.le_of_ble_eq_true rfl) ?_
  intro p e s m below meth c A ls Q C hP hD hS hl hend
  have C : tm_Cx p s m c [.ref (q0 0)].toArray cX0_isEmpty 1 RX0 wsX0_isEmpty D (tm_ty cI cZ cR) A s.heap := C
  obtain ⟨hx, hb, hml, hown, hts, hK, hA⟩ := id C
  have hl : lv_has ls 1 [(0, .ref (q0 0))] := hl
  unfold fX0_isEmpty at hf
  refine lv_aload_n hx hb dX0_isEmpty_0 rfl (lv_at hl 0 rfl) ?_
  refine va_get (D := D) (ci := 0) (v := .int (d0 0 2)) (C := RX0) (T := TX0) (N := 4) hx hb hts uX0_isEmpty_X0 hown hK hP 0 rfl rfl 2 (by decide) (hts _ kX0_isEmpty_f16) (fun _ h9 => h9) rfl dX0_isEmpty_1 ?_
  refine lv_iconst (v := 1) hx hb dX0_isEmpty_4 (by decide) ?_
  refine lv_icmp_lt (tgt := 16) hx hb dX0_isEmpty_5 (by decide) (fun c_1 => ?_) (fun c_1 => ?_)
  · have hf := tm_iT c_1 hf
    refine lv_iconst (v := 1) hx hb dX0_isEmpty_16 (by decide) ?_
    refine lv_goto (tgt := 21) hx hb dX0_isEmpty_17 (by decide) ?_
    obtain rfl := Option.some.inj hf
    exact hend _ _ _ _ hP hD hS (by decide) dX0_isEmpty_21
  · have hf := tm_iF c_1 hf
    refine lv_aload_n hx hb dX0_isEmpty_8 rfl (lv_at hl 0 rfl) ?_
    refine va_get (D := D) (ci := 0) (v := .int (d0 0 3)) (C := RX0) (T := TX0) (N := 4) hx hb hts uX0_isEmpty_X0 hown hK hP 0 rfl rfl 3 (by decide) (hts _ kX0_isEmpty_f19) (fun _ h9 => h9) rfl dX0_isEmpty_9 ?_
    refine lv_iconst (v := 1) hx hb dX0_isEmpty_12 (by decide) ?_
    refine lv_icmp_ge (tgt := 20) hx hb dX0_isEmpty_13 (by decide) (fun c_2 => ?_) (fun c_2 => ?_)
    · have hf := tm_iT c_2 hf
      refine lv_iconst (v := 0) hx hb dX0_isEmpty_20 (by decide) ?_
      obtain rfl := Option.some.inj hf
      exact hend _ _ _ _ hP hD hS (by decide) dX0_isEmpty_21
    · have hf := tm_iF c_2 hf
      refine lv_iconst (v := 1) hx hb dX0_isEmpty_16 (by decide) ?_
      refine lv_goto (tgt := 21) hx hb dX0_isEmpty_17 (by decide) ?_
      obtain rfl := Option.some.inj hf
      exact hend _ _ _ _ hP hD hS (by decide) dX0_isEmpty_21
set_option maxHeartbeats 4000000 in
set_option maxRecDepth 100000 in
theorem tX3_area (l : Launch) (D : va_G) (cI cZ cR : ClassId) (N : Nat) (q0 : Nat → Nat) (d0 : tm_M) (p1 : Int32) (r0 : Int32) (hf : fX3_area N d0 p1 = some r0) : tm_CI l D (tm_ty cI cZ cR) yX3_area wsX3_area rmX3_area [.ref (q0 0), .int p1] (WX3 cI cZ cR q0 d0) r0 (WX3 cI cZ cR q0 d0) := by
  refine tm_mkI (cc := cX3_area) (maxL := 2) (ty := .int) (by decide) rfl (Nat.le_of_ble_eq_true rfl) ?_
  intro p e s m below meth c A ls Q C hP hD hS hl hend
  have C : tm_Cx p s m c [.ref (q0 0), .int p1].toArray cX3_area 2 RX3 wsX3_area D (tm_ty cI cZ cR) A s.heap := C
  obtain ⟨hx, hb, hml, hown, hts, hK, hA⟩ := id C
  have hl : lv_has ls 2 [(0, .ref (q0 0)), (1, .int p1)] := hl
  unfold fX3_area at hf
  refine lv_aload_n hx hb dX3_area_0 rfl (lv_at hl 0 rfl) ?_
  refine va_get (D := D) (ci := 3) (v := .ref (q0 3)) (C := RX3) (T := TX3) (N := 4) hx hb hts uX3_area_X3 hown hK hP 0 rfl rfl 2 (by decide) (hts _ kX3_area_f18) (fun _ h9 => h9) rfl dX3_area_1 ?_
  refine lv_iload_n hx hb dX3_area_4 rfl (lv_at hl 1 rfl) ?_
  obtain ⟨h_1, hf⟩ := tm_gS hf
  refine va_iald hx hb hK hP 3 0 rfl rfl (tm_inb_in h_1) dX3_area_5 ?_
  refine lv_aload_n hx hb dX3_area_6 rfl (lv_at hl 0 rfl) ?_
  refine va_get (D := D) (ci := 3) (v := .ref (q0 4)) (C := RX3) (T := TX3) (N := 4) hx hb hts uX3_area_X3 hown hK hP 0 rfl rfl 3 (by decide) (hts _ kX3_area_f21) (fun _ h9 => h9) rfl dX3_area_7 ?_
  refine lv_iload_n hx hb dX3_area_10 rfl (lv_at hl 1 rfl) ?_
  refine va_iald hx hb hK hP 4 0 rfl rfl (tm_inb_in h_1) dX3_area_11 ?_
  refine lv_imul hx hb dX3_area_12 ?_
  obtain rfl := Option.some.inj hf
  exact hend _ _ _ _ hP hD hS rfl dX3_area_13
set_option maxHeartbeats 4000000 in
set_option maxRecDepth 100000 in
theorem tX3_put (l : Launch) (D : va_G) (cI cZ cR : ClassId) (N : Nat) (q0 : Nat → Nat) (d0 : tm_M) (p1 : Int32) (p2 : Int32) (p3 : Int32) (p4 : Int32) (p5 : Int32) (z0 : tm_M) (hf : fX3_put N d0 p1 p2 p3 p4 p5 = some z0) : tm_CV l D (tm_ty cI cZ cR) yX3_put wsX3_put rmX3_put [.ref (q0 0), .int p1, .int p2, .int p3, .int p4, .int p5] (WX3 cI cZ cR q0 d0) (WX3 cI cZ cR q0 z0) := by
  refine tm_mkV (cc := cX3_put) (maxL := 6) (by decide) rfl (Nat.le_of_ble_eq_true rfl) ?_
  intro p e s m below meth c A ls Q C hP hD hS hl hend
  have C : tm_Cx p s m c [.ref (q0 0), .int p1, .int p2, .int p3, .int p4, .int p5].toArray cX3_put 6 RX3 wsX3_put D (tm_ty cI cZ cR) A s.heap := C
  obtain ⟨hx, hb, hml, hown, hts, hK, hA⟩ := id C
  have hl : lv_has ls 6 [(0, .ref (q0 0)), (1, .int p1), (2, .int p2), (3, .int p3), (4, .int p4), (5, .int p5)] := hl
  unfold fX3_put at hf
  refine lv_aload_n hx hb dX3_put_0 rfl (lv_at hl 0 rfl) ?_
  refine va_get (D := D) (ci := 3) (v := .ref (q0 1)) (C := RX3) (T := TX3) (N := 4) hx hb hts uX3_put_X3 hown hK hP 0 rfl rfl 0 (by decide) (hts _ kX3_put_f9) (fun _ h9 => h9) rfl dX3_put_1 ?_
  refine lv_iload_n hx hb dX3_put_4 rfl (lv_at hl 1 rfl) ?_
  refine lv_iload_n hx hb dX3_put_5 rfl (lv_at hl 2 rfl) ?_
  obtain ⟨h_1, hf⟩ := tm_gS hf
  refine tm_iast hx hb hK hP hD hS 1 0 rfl rfl (tm_inb_in h_1) dX3_put_6 (fun z => WX3 cI cZ cR q0 z) (tm_upc d0 1 (upd (d0 1) p1.toNatClampNeg p2)) rfl (fun d0_2 ed0_2 H locs hP hD hS => ?_)
  have hf := tm_at ed0_2 hf
  refine lv_aload_n hx hb dX3_put_7 rfl (lv_at hl 0 rfl) ?_
  refine va_get (D := D) (ci := 3) (v := .ref (q0 2)) (C := RX3) (T := TX3) (N := 4) hx hb hts uX3_put_X3 hown hK hP 0 rfl rfl 1 (by decide) (hts _ kX3_put_f15) (fun _ h9 => h9) rfl dX3_put_8 ?_
  refine lv_iload_n hx hb dX3_put_11 rfl (lv_at hl 1 rfl) ?_
  refine lv_iload_n hx hb dX3_put_12 rfl (lv_at hl 3 rfl) ?_
  refine tm_iast hx hb hK hP hD hS 2 0 rfl rfl (tm_inb_in h_1) dX3_put_13 (fun z => WX3 cI cZ cR q0 z) (tm_upc d0_2 2 (upd (d0_2 2) p1.toNatClampNeg p3)) rfl (fun d0_3 ed0_3 H locs hP hD hS => ?_)
  have hf := tm_at ed0_3 hf
  refine lv_aload_n hx hb dX3_put_14 rfl (lv_at hl 0 rfl) ?_
  refine va_get (D := D) (ci := 3) (v := .ref (q0 3)) (C := RX3) (T := TX3) (N := 4) hx hb hts uX3_put_X3 hown hK hP 0 rfl rfl 2 (by decide) (hts _ kX3_put_f18) (fun _ h9 => h9) rfl dX3_put_15 ?_
  refine lv_iload_n hx hb dX3_put_18 rfl (lv_at hl 1 rfl) ?_
  refine lv_iload hx hb dX3_put_19 (lv_at hl 4 rfl) ?_
  refine tm_iast hx hb hK hP hD hS 3 0 rfl rfl (tm_inb_in h_1) dX3_put_21 (fun z => WX3 cI cZ cR q0 z) (tm_upc d0_3 3 (upd (d0_3 3) p1.toNatClampNeg p4)) rfl (fun d0_4 ed0_4 H locs hP hD hS => ?_)
  have hf := tm_at ed0_4 hf
  refine lv_aload_n hx hb dX3_put_22 rfl (lv_at hl 0 rfl) ?_
  refine va_get (D := D) (ci := 3) (v := .ref (q0 4)) (C := RX3) (T := TX3) (N := 4) hx hb hts uX3_put_X3 hown hK hP 0 rfl rfl 3 (by decide) (hts _ kX3_put_f21) (fun _ h9 => h9) rfl dX3_put_23 ?_
  refine lv_iload_n hx hb dX3_put_26 rfl (lv_at hl 1 rfl) ?_
  refine lv_iload hx hb dX3_put_27 (lv_at hl 5 rfl) ?_
  refine tm_iast hx hb hK hP hD hS 4 0 rfl rfl (tm_inb_in h_1) dX3_put_29 (fun z => WX3 cI cZ cR q0 z) (tm_upc d0_4 4 (upd (d0_4 4) p1.toNatClampNeg p5)) rfl (fun d0_5 ed0_5 H locs hP hD hS => ?_)
  have hf := tm_at ed0_5 hf
  obtain rfl := Option.some.inj hf
  exact hend _ _ _ _ hP hD hS dX3_put_30
set_option maxHeartbeats 4000000 in
set_option maxRecDepth 100000 in
theorem tX4_clear (l : Launch) (D : va_G) (cI cZ cR : ClassId) (N : Nat) (q0 : Nat → Nat) (d0 : tm_M) (z0 : tm_M) (hf : fX4_clear N d0 = some z0) : tm_CV l D (tm_ty cI cZ cR) yX4_clear wsX4_clear rmX4_clear [.ref (q0 0)] (WX4 cI cZ cR q0 d0) (WX4 cI cZ cR q0 z0) := by
  refine tm_mkV (cc := cX4_clear) (maxL := 1) (by decide) rfl (Nat.le_of_ble_eq_true rfl) ?_
  intro p e s m below meth c A ls Q C hP hD hS hl hend
  have C : tm_Cx p s m c [.ref (q0 0)].toArray cX4_clear 1 RX4 wsX4_clear D (tm_ty cI cZ cR) A s.heap := C
  obtain ⟨hx, hb, hml, hown, hts, hK, hA⟩ := id C
  have hl : lv_has ls 1 [(0, .ref (q0 0))] := hl
  unfold fX4_clear at hf
  refine lv_aload_n hx hb dX4_clear_0 rfl (lv_at hl 0 rfl) ?_
  refine lv_iconst (v := 0) hx hb dX4_clear_1 (by decide) ?_
  refine tm_put (D := D) (ci := 4) (v := .int 0) (ty := .int) (C := RX4) (T := TX4) (N := 4) hx hb hts uX4_clear_X4 tyX4 tyX4_ok nmX4 hown hK hP hD hS 0 rfl rfl 3 (by decide) (hts _ kX4_clear_f21) (fun _ h9 => h9) rfl (by decide +kernel) rfl rfl (Nat.le_of_ble_eq_true rfl) dX4_clear_2 (fun z => WX4 cI cZ cR q0 z) (tm_upk d0 0 3 0) rfl (fun d0_1 ed0_1 H locs hP hD hS => ?_)
  have hf := tm_at ed0_1 hf
  obtain rfl := Option.some.inj hf
  exact hend _ _ _ _ hP hD hS dX4_clear_5
set_option maxHeartbeats 4000000 in
set_option maxRecDepth 100000 in
theorem tX4_add (l : Launch) (D : va_G) (cI cZ cR : ClassId) (N : Nat) (q0 : Nat → Nat) (d0 : tm_M) (p1 : Int32) (z0 : tm_M) (hf : fX4_add N d0 p1 = some z0) : tm_CV l D (tm_ty cI cZ cR) yX4_add wsX4_add rmX4_add [.ref (q0 0), .int p1] (WX4 cI cZ cR q0 d0) (WX4 cI cZ cR q0 z0) := by
  refine tm_mkV (cc := cX4_add) (maxL := 2) (by decide) rfl (Nat.le_of_ble_eq_true rfl) ?_
  intro p e s m below meth c A ls Q C hP hD hS hl hend
  have C : tm_Cx p s m c [.ref (q0 0), .int p1].toArray cX4_add 2 RX4 wsX4_add D (tm_ty cI cZ cR) A s.heap := C
  obtain ⟨hx, hb, hml, hown, hts, hK, hA⟩ := id C
  have hl : lv_has ls 2 [(0, .ref (q0 0)), (1, .int p1)] := hl
  unfold fX4_add at hf
  refine lv_aload_n hx hb dX4_add_0 rfl (lv_at hl 0 rfl) ?_
  refine va_get (D := D) (ci := 4) (v := .int (d0 0 3)) (C := RX4) (T := TX4) (N := 4) hx hb hts uX4_add_X4 hown hK hP 0 rfl rfl 3 (by decide) (hts _ kX4_add_f21) (fun _ h9 => h9) rfl dX4_add_1 ?_
  refine lv_bipush (v := 24) hx hb dX4_add_4 (by decide) ?_
  refine lv_icmp_ge (tgt := 29) hx hb dX4_add_6 (by decide) (fun c_1 => ?_) (fun c_1 => ?_)
  · have hf := tm_iT c_1 hf
    obtain rfl := Option.some.inj hf
    exact hend _ _ _ _ hP hD hS dX4_add_29
  · have hf := tm_iF c_1 hf
    refine lv_aload_n hx hb dX4_add_9 rfl (lv_at hl 0 rfl) ?_
    refine va_get (D := D) (ci := 4) (v := .ref (q0 1)) (C := RX4) (T := TX4) (N := 4) hx hb hts uX4_add_X4 hown hK hP 0 rfl rfl 0 (by decide) (hts _ kX4_add_f9) (fun _ h9 => h9) rfl dX4_add_10 ?_
    refine lv_aload_n hx hb dX4_add_13 rfl (lv_at hl 0 rfl) ?_
    refine va_get (D := D) (ci := 4) (v := .int (d0 0 3)) (C := RX4) (T := TX4) (N := 4) hx hb hts uX4_add_X4 hown hK hP 0 rfl rfl 3 (by decide) (hts _ kX4_add_f21) (fun _ h9 => h9) rfl dX4_add_14 ?_
    refine lv_iload_n hx hb dX4_add_17 rfl (lv_at hl 1 rfl) ?_
    obtain ⟨h_2, hf⟩ := tm_gS hf
    refine tm_iast hx hb hK hP hD hS 1 0 rfl rfl (tm_inb_in h_2) dX4_add_18 (fun z => WX4 cI cZ cR q0 z) (tm_upc d0 1 (upd (d0 1) (d0 0 3).toNatClampNeg p1)) rfl (fun d0_3 ed0_3 H locs hP hD hS => ?_)
    have hf := tm_at ed0_3 hf
    refine lv_aload_n hx hb dX4_add_19 rfl (lv_at hl 0 rfl) ?_
    refine lv_dup hx hb dX4_add_20 rfl ?_
    refine va_get (D := D) (ci := 4) (v := .int (d0_3 0 3)) (C := RX4) (T := TX4) (N := 4) hx hb hts uX4_add_X4 hown hK hP 0 rfl rfl 3 (by decide) (hts _ kX4_add_f21) (fun _ h9 => h9) rfl dX4_add_21 ?_
    refine lv_iconst (v := 1) hx hb dX4_add_24 (by decide) ?_
    refine lv_iadd hx hb dX4_add_25 ?_
    refine tm_put (D := D) (ci := 4) (v := .int ((d0_3 0 3) + 1)) (ty := .int) (C := RX4) (T := TX4) (N := 4) hx hb hts uX4_add_X4 tyX4 tyX4_ok nmX4 hown hK hP hD hS 0 rfl rfl 3 (by decide) (hts _ kX4_add_f21) (fun _ h9 => h9) rfl (by decide +kernel) rfl rfl (Nat.le_of_ble_eq_true rfl) dX4_add_26 (fun z => WX4 cI cZ cR q0 z) (tm_upk d0_3 0 3 ((d0_3 0 3) + 1)) rfl (fun d0_4 ed0_4 H locs hP hD hS => ?_)
    have hf := tm_at ed0_4 hf
    obtain rfl := Option.some.inj hf
    exact hend _ _ _ _ hP hD hS dX4_add_29
set_option maxHeartbeats 4000000 in
set_option maxRecDepth 100000 in
theorem wX4_largestRemainder_4 (l : Launch) (D : va_G) (cI cZ cR : ClassId) (N : Nat) (q0 : Nat → Nat) {p : Program} {e : Env} {s : State} {m : MethodId} {args : Array Value} {below : List Frame} {meth : Method} {c : Code} {A : Nat → Prop} {H0 : Heap} {Q : State → Prop} (C : tm_Cx p s m c args cX4_largestRemainder 3 RX4 wsX4_largestRemainder D (tm_ty cI cZ cR) A H0) (d0 : tm_M) : ∀ (n : Nat) (st : Int32 × Int32) (o : (Int32 × Int32)), tm_whl (bX4_largestRemainder_4 N d0) n st = some o → (fun (o : Int32 × Int32) => ∀ (H : Heap) (locs : List Loc) (ls : Array Slot), va_P D vwCl (WX4 cI cZ cR q0 d0) H → va_D A (WX4 cI cZ cR q0 d0) → va_S A H0 H locs → lv_has ls 3 [(1, .int o.1)] → W p l e rmX4_largestRemainder s m args below meth c H locs 0 0 Q (F0 m 35 ls [])) o → (fun (st : Int32 × Int32) => ∀ (H : Heap) (locs : List Loc) (ls : Array Slot), va_P D vwCl (WX4 cI cZ cR q0 d0) H → va_D A (WX4 cI cZ cR q0 d0) → va_S A H0 H locs → lv_has ls 3 [(0, .ref (q0 0)), (1, .int st.1), (2, .int st.2)] → W p l e rmX4_largestRemainder s m args below meth c H locs 0 0 Q (F0 m 4 ls [])) st := by
  obtain ⟨hx, hb, hml, hown, hts, hK, hA⟩ := id C
  refine tm_whl_W (Wh := fun (st : Int32 × Int32) => ∀ (H : Heap) (locs : List Loc) (ls : Array Slot), va_P D vwCl (WX4 cI cZ cR q0 d0) H → va_D A (WX4 cI cZ cR q0 d0) → va_S A H0 H locs → lv_has ls 3 [(0, .ref (q0 0)), (1, .int st.1), (2, .int st.2)] → W p l e rmX4_largestRemainder s m args below meth c H locs 0 0 Q (F0 m 4 ls [])) (Wx := fun (o : Int32 × Int32) => ∀ (H : Heap) (locs : List Loc) (ls : Array Slot), va_P D vwCl (WX4 cI cZ cR q0 d0) H → va_D A (WX4 cI cZ cR q0 d0) → va_S A H0 H locs → lv_has ls 3 [(1, .int o.1)] → W p l e rmX4_largestRemainder s m args below meth c H locs 0 0 Q (F0 m 35 ls [])) ?_
  intro st r hf hk H locs ls hP hD hS hl
  unfold bX4_largestRemainder_4 at hf
  refine lv_iload_n hx hb dX4_largestRemainder_4 rfl (lv_at hl 2 rfl) ?_
  refine lv_aload_n hx hb dX4_largestRemainder_5 rfl (lv_at hl 0 rfl) ?_
  refine va_get (D := D) (ci := 4) (v := .int (d0 0 3)) (C := RX4) (T := TX4) (N := 4) hx hb hts uX4_largestRemainder_X4 hown hK hP 0 rfl rfl 3 (by decide) (hts _ kX4_largestRemainder_f21) (fun _ h9 => h9) rfl dX4_largestRemainder_6 ?_
  refine lv_icmp_ge (tgt := 35) hx hb dX4_largestRemainder_9 (by decide) (fun c_1 => ?_) (fun c_1 => ?_)
  · have hf := tm_iT c_1 hf
    obtain rfl := Option.some.inj hf
    exact hk _ _ _ hP hD hS (lv_sub hl [1] rfl)
  · have hf := tm_iF c_1 hf
    refine lv_aload_n hx hb dX4_largestRemainder_12 rfl (lv_at hl 0 rfl) ?_
    refine va_get (D := D) (ci := 4) (v := .ref (q0 2)) (C := RX4) (T := TX4) (N := 4) hx hb hts uX4_largestRemainder_X4 hown hK hP 0 rfl rfl 1 (by decide) (hts _ kX4_largestRemainder_f15) (fun _ h9 => h9) rfl dX4_largestRemainder_13 ?_
    refine lv_iload_n hx hb dX4_largestRemainder_16 rfl (lv_at hl 2 rfl) ?_
    obtain ⟨h_2, hf⟩ := tm_gS hf
    refine va_iald hx hb hK hP 2 0 rfl rfl (tm_inb_in h_2) dX4_largestRemainder_17 ?_
    refine lv_aload_n hx hb dX4_largestRemainder_18 rfl (lv_at hl 0 rfl) ?_
    refine va_get (D := D) (ci := 4) (v := .ref (q0 2)) (C := RX4) (T := TX4) (N := 4) hx hb hts uX4_largestRemainder_X4 hown hK hP 0 rfl rfl 1 (by decide) (hts _ kX4_largestRemainder_f15) (fun _ h9 => h9) rfl dX4_largestRemainder_19 ?_
    refine lv_iload_n hx hb dX4_largestRemainder_22 rfl (lv_at hl 1 rfl) ?_
    obtain ⟨h_3, hf⟩ := tm_gS hf
    refine va_iald hx hb hK hP 2 0 rfl rfl (tm_inb_in h_3) dX4_largestRemainder_23 ?_
    refine lv_icmp_le (tgt := 29) hx hb dX4_largestRemainder_24 (by decide) (fun c_4 => ?_) (fun c_4 => ?_)
    · have hf := tm_iT c_4 hf
      obtain ⟨x_5, ex_5⟩ : ∃ y : Int32, y = st.2 + 1 := ⟨_, rfl⟩
      have hf := tm_at ex_5 hf
      refine lv_iinc (v := x_5) (lv' := [(2, .int x_5), (0, .ref (q0 0)), (1, .int st.1)]) hx hb dX4_largestRemainder_29 hl (k := 2) rfl (by rw [ex_5]; rfl) (by decide) rfl (fun ls hl => ?_)
      refine lv_goto (tgt := 4) hx hb dX4_largestRemainder_32 (by decide) ?_
      obtain rfl := Option.some.inj hf
      exact hk _ _ _ hP hD hS (lv_sub hl [1, 2, 0] rfl)
    · have hf := tm_iF c_4 hf
      refine lv_iload_n hx hb dX4_largestRemainder_27 rfl (lv_at hl 2 rfl) ?_
      refine lv_istore_n (lv' := [(1, .int st.2), (0, .ref (q0 0)), (2, .int st.2)]) hx hb dX4_largestRemainder_28 rfl hl (by decide) rfl (fun ls hl => ?_)
      obtain ⟨x_6, ex_6⟩ : ∃ y : Int32, y = st.2 + 1 := ⟨_, rfl⟩
      have hf := tm_at ex_6 hf
      refine lv_iinc (v := x_6) (lv' := [(2, .int x_6), (1, .int st.2), (0, .ref (q0 0))]) hx hb dX4_largestRemainder_29 hl (k := 2) rfl (by rw [ex_6]; rfl) (by decide) rfl (fun ls hl => ?_)
      refine lv_goto (tgt := 4) hx hb dX4_largestRemainder_32 (by decide) ?_
      obtain rfl := Option.some.inj hf
      exact hk _ _ _ hP hD hS (lv_sub hl [2, 1, 0] rfl)
set_option maxHeartbeats 4000000 in
set_option maxRecDepth 100000 in
theorem tX4_largestRemainder (l : Launch) (D : va_G) (cI cZ cR : ClassId) (N : Nat) (q0 : Nat → Nat) (d0 : tm_M) (r0 : Int32) (hf : fX4_largestRemainder N d0 = some r0) : tm_CI l D (tm_ty cI cZ cR) yX4_largestRemainder wsX4_largestRemainder rmX4_largestRemainder [.ref (q0 0)] (WX4 cI cZ cR q0 d0) r0 (WX4 cI cZ cR q0 d0) := by
  refine tm_mkI (cc := cX4_largestRemainder) (maxL := 3) (ty := .int) (by decide) rfl (Nat.le_of_ble_eq_true rfl) ?_
  intro p e s m below meth c A ls Q C hP hD hS hl hend
  have C : tm_Cx p s m c [.ref (q0 0)].toArray cX4_largestRemainder 3 RX4 wsX4_largestRemainder D (tm_ty cI cZ cR) A s.heap := C
  obtain ⟨hx, hb, hml, hown, hts, hK, hA⟩ := id C
  have hl : lv_has ls 3 [(0, .ref (q0 0))] := hl
  unfold fX4_largestRemainder at hf
  refine lv_iconst (v := 0) hx hb dX4_largestRemainder_0 (by decide) ?_
  refine lv_istore_n (lv' := [(1, .int 0), (0, .ref (q0 0))]) hx hb dX4_largestRemainder_1 rfl hl (by decide) rfl (fun ls hl => ?_)
  refine lv_iconst (v := 1) hx hb dX4_largestRemainder_2 (by decide) ?_
  refine lv_istore_n (lv' := [(2, .int 1), (1, .int 0), (0, .ref (q0 0))]) hx hb dX4_largestRemainder_3 rfl hl (by decide) rfl (fun ls hl => ?_)
  obtain ⟨t_7, ot_7, hf⟩ := tm_bS hf
  refine wX4_largestRemainder_4 l D cI cZ cR N q0 C d0 _ _ _ ot_7 ?_ _ _ _ hP hD hS (lv_sub hl [2, 1, 0] rfl)
  intro H locs ls hP hD hS hl
  refine lv_iload_n hx hb dX4_largestRemainder_35 rfl (lv_at hl 0 rfl) ?_
  obtain rfl := Option.some.inj hf
  exact hend _ _ _ _ hP hD hS rfl dX4_largestRemainder_36
set_option maxHeartbeats 4000000 in
set_option maxRecDepth 100000 in
theorem wX4_apportion_4 (l : Launch) (D : va_G) (cI cZ cR : ClassId) (N : Nat) (q0 : Nat → Nat) {p : Program} {e : Env} {s : State} {m : MethodId} {args : Array Value} {below : List Frame} {meth : Method} {c : Code} {A : Nat → Prop} {H0 : Heap} {Q : State → Prop} (C : tm_Cx p s m c args cX4_apportion 6 RX4 wsX4_apportion D (tm_ty cI cZ cR) A H0) (d0 : tm_M) (v1 : Int32) : ∀ (n : Nat) (st : Int32 × Int32) (o : (Int32 × Int32)), tm_whl (bX4_apportion_4 N d0) n st = some o → (fun (o : Int32 × Int32) => ∀ (H : Heap) (locs : List Loc) (ls : Array Slot), va_P D vwCl (WX4 cI cZ cR q0 d0) H → va_D A (WX4 cI cZ cR q0 d0) → va_S A H0 H locs → lv_has ls 6 [(0, .ref (q0 0)), (1, .int v1), (2, .int o.1)] → W p l e rmX4_apportion s m args below meth c H locs 0 0 Q (F0 m 27 ls [])) o → (fun (st : Int32 × Int32) => ∀ (H : Heap) (locs : List Loc) (ls : Array Slot), va_P D vwCl (WX4 cI cZ cR q0 d0) H → va_D A (WX4 cI cZ cR q0 d0) → va_S A H0 H locs → lv_has ls 6 [(0, .ref (q0 0)), (1, .int v1), (2, .int st.1), (3, .int st.2)] → W p l e rmX4_apportion s m args below meth c H locs 0 0 Q (F0 m 4 ls [])) st := by
  obtain ⟨hx, hb, hml, hown, hts, hK, hA⟩ := id C
  refine tm_whl_W (Wh := fun (st : Int32 × Int32) => ∀ (H : Heap) (locs : List Loc) (ls : Array Slot), va_P D vwCl (WX4 cI cZ cR q0 d0) H → va_D A (WX4 cI cZ cR q0 d0) → va_S A H0 H locs → lv_has ls 6 [(0, .ref (q0 0)), (1, .int v1), (2, .int st.1), (3, .int st.2)] → W p l e rmX4_apportion s m args below meth c H locs 0 0 Q (F0 m 4 ls [])) (Wx := fun (o : Int32 × Int32) => ∀ (H : Heap) (locs : List Loc) (ls : Array Slot), va_P D vwCl (WX4 cI cZ cR q0 d0) H → va_D A (WX4 cI cZ cR q0 d0) → va_S A H0 H locs → lv_has ls 6 [(0, .ref (q0 0)), (1, .int v1), (2, .int o.1)] → W p l e rmX4_apportion s m args below meth c H locs 0 0 Q (F0 m 27 ls [])) ?_
  intro st r hf hk H locs ls hP hD hS hl
  unfold bX4_apportion_4 at hf
  refine lv_iload_n hx hb dX4_apportion_4 rfl (lv_at hl 3 rfl) ?_
  refine lv_aload_n hx hb dX4_apportion_5 rfl (lv_at hl 0 rfl) ?_
  refine va_get (D := D) (ci := 4) (v := .int (d0 0 3)) (C := RX4) (T := TX4) (N := 4) hx hb hts uX4_apportion_X4 hown hK hP 0 rfl rfl 3 (by decide) (hts _ kX4_apportion_f21) (fun _ h9 => h9) rfl dX4_apportion_6 ?_
  refine lv_icmp_ge (tgt := 27) hx hb dX4_apportion_9 (by decide) (fun c_1 => ?_) (fun c_1 => ?_)
  · have hf := tm_iT c_1 hf
    obtain rfl := Option.some.inj hf
    exact hk _ _ _ hP hD hS (lv_sub hl [0, 1, 2] rfl)
  · have hf := tm_iF c_1 hf
    refine lv_iload_n hx hb dX4_apportion_12 rfl (lv_at hl 2 rfl) ?_
    refine lv_aload_n hx hb dX4_apportion_13 rfl (lv_at hl 0 rfl) ?_
    refine va_get (D := D) (ci := 4) (v := .ref (q0 1)) (C := RX4) (T := TX4) (N := 4) hx hb hts uX4_apportion_X4 hown hK hP 0 rfl rfl 0 (by decide) (hts _ kX4_apportion_f9) (fun _ h9 => h9) rfl dX4_apportion_14 ?_
    refine lv_iload_n hx hb dX4_apportion_17 rfl (lv_at hl 3 rfl) ?_
    obtain ⟨h_2, hf⟩ := tm_gS hf
    refine va_iald hx hb hK hP 1 0 rfl rfl (tm_inb_in h_2) dX4_apportion_18 ?_
    refine lv_iadd hx hb dX4_apportion_19 ?_
    refine lv_topi (fun x_3 ex_3 => ?_)
    have hf := tm_at ex_3 hf
    refine lv_istore_n (lv' := [(2, .int x_3), (0, .ref (q0 0)), (1, .int v1), (3, .int st.2)]) hx hb dX4_apportion_20 rfl hl (by decide) rfl (fun ls hl => ?_)
    obtain ⟨x_4, ex_4⟩ : ∃ y : Int32, y = st.2 + 1 := ⟨_, rfl⟩
    have hf := tm_at ex_4 hf
    refine lv_iinc (v := x_4) (lv' := [(3, .int x_4), (2, .int x_3), (0, .ref (q0 0)), (1, .int v1)]) hx hb dX4_apportion_21 hl (k := 3) rfl (by rw [ex_4]; rfl) (by decide) rfl (fun ls hl => ?_)
    refine lv_goto (tgt := 4) hx hb dX4_apportion_24 (by decide) ?_
    obtain rfl := Option.some.inj hf
    exact hk _ _ _ hP hD hS (lv_sub hl [2, 3, 1, 0] rfl)
set_option maxHeartbeats 4000000 in
set_option maxRecDepth 100000 in
theorem wX4_apportion_37 (l : Launch) (D : va_G) (cI cZ cR : ClassId) (N : Nat) (q0 : Nat → Nat) {p : Program} {e : Env} {s : State} {m : MethodId} {args : Array Value} {below : List Frame} {meth : Method} {c : Code} {A : Nat → Prop} {H0 : Heap} {Q : State → Prop} (C : tm_Cx p s m c args cX4_apportion 6 RX4 wsX4_apportion D (tm_ty cI cZ cR) A H0) (v1 : Int32) (v2 : Int32) : ∀ (n : Nat) (st : Int32 × Int32 × tm_M) (o : (Int32 × Int32 × tm_M)), tm_whl (bX4_apportion_37 N v1 v2) n st = some o → (fun (o : Int32 × Int32 × tm_M) => ∀ (H : Heap) (locs : List Loc) (ls : Array Slot), va_P D vwCl (WX4 cI cZ cR q0 o.2.2) H → va_D A (WX4 cI cZ cR q0 o.2.2) → va_S A H0 H locs → lv_has ls 6 [(0, .ref (q0 0)), (3, .int o.1)] → W p l e rmX4_apportion s m args below meth c H locs 0 0 Q (F0 m 98 ls [])) o → (fun (st : Int32 × Int32 × tm_M) => ∀ (H : Heap) (locs : List Loc) (ls : Array Slot), va_P D vwCl (WX4 cI cZ cR q0 st.2.2) H → va_D A (WX4 cI cZ cR q0 st.2.2) → va_S A H0 H locs → lv_has ls 6 [(0, .ref (q0 0)), (1, .int v1), (2, .int v2), (3, .int st.1), (4, .int st.2.1)] → W p l e rmX4_apportion s m args below meth c H locs 0 0 Q (F0 m 37 ls [])) st := by
  obtain ⟨hx, hb, hml, hown, hts, hK, hA⟩ := id C
  refine tm_whl_W (Wh := fun (st : Int32 × Int32 × tm_M) => ∀ (H : Heap) (locs : List Loc) (ls : Array Slot), va_P D vwCl (WX4 cI cZ cR q0 st.2.2) H → va_D A (WX4 cI cZ cR q0 st.2.2) → va_S A H0 H locs → lv_has ls 6 [(0, .ref (q0 0)), (1, .int v1), (2, .int v2), (3, .int st.1), (4, .int st.2.1)] → W p l e rmX4_apportion s m args below meth c H locs 0 0 Q (F0 m 37 ls [])) (Wx := fun (o : Int32 × Int32 × tm_M) => ∀ (H : Heap) (locs : List Loc) (ls : Array Slot), va_P D vwCl (WX4 cI cZ cR q0 o.2.2) H → va_D A (WX4 cI cZ cR q0 o.2.2) → va_S A H0 H locs → lv_has ls 6 [(0, .ref (q0 0)), (3, .int o.1)] → W p l e rmX4_apportion s m args below meth c H locs 0 0 Q (F0 m 98 ls [])) ?_
  intro st r hf hk H locs ls hP hD hS hl
  unfold bX4_apportion_37 at hf
  refine lv_iload hx hb dX4_apportion_37 (lv_at hl 4 rfl) ?_
  refine lv_aload_n hx hb dX4_apportion_39 rfl (lv_at hl 0 rfl) ?_
  refine va_get (D := D) (ci := 4) (v := .int (st.2.2 0 3)) (C := RX4) (T := TX4) (N := 4) hx hb hts uX4_apportion_X4 hown hK hP 0 rfl rfl 3 (by decide) (hts _ kX4_apportion_f21) (fun _ h9 => h9) rfl dX4_apportion_40 ?_
  refine lv_icmp_ge (tgt := 98) hx hb dX4_apportion_43 (by decide) (fun c_7 => ?_) (fun c_7 => ?_)
  · have hf := tm_iT c_7 hf
    obtain rfl := Option.some.inj hf
    exact hk _ _ _ hP hD hS (lv_sub hl [0, 3] rfl)
  · have hf := tm_iF c_7 hf
    refine lv_aload_n hx hb dX4_apportion_46 rfl (lv_at hl 0 rfl) ?_
    refine va_get (D := D) (ci := 4) (v := .ref (q0 3)) (C := RX4) (T := TX4) (N := 4) hx hb hts uX4_apportion_X4 hown hK hP 0 rfl rfl 2 (by decide) (hts _ kX4_apportion_f18) (fun _ h9 => h9) rfl dX4_apportion_47 ?_
    refine lv_iload hx hb dX4_apportion_50 (lv_at hl 4 rfl) ?_
    refine lv_aload_n hx hb dX4_apportion_52 rfl (lv_at hl 0 rfl) ?_
    refine va_get (D := D) (ci := 4) (v := .ref (q0 1)) (C := RX4) (T := TX4) (N := 4) hx hb hts uX4_apportion_X4 hown hK hP 0 rfl rfl 0 (by decide) (hts _ kX4_apportion_f9) (fun _ h9 => h9) rfl dX4_apportion_53 ?_
    refine lv_iload hx hb dX4_apportion_56 (lv_at hl 4 rfl) ?_
    obtain ⟨h_8, hf⟩ := tm_gS hf
    refine va_iald hx hb hK hP 1 0 rfl rfl (tm_inb_in h_8) dX4_apportion_58 ?_
    refine lv_iload_n hx hb dX4_apportion_59 rfl (lv_at hl 1 rfl) ?_
    refine lv_imul hx hb dX4_apportion_60 ?_
    refine lv_iload_n hx hb dX4_apportion_61 rfl (lv_at hl 2 rfl) ?_
    obtain ⟨h_9, hf⟩ := tm_gS hf
    refine lv_idiv hx hb dX4_apportion_62 (tm_nz_ne h_9) ?_
    refine tm_iast hx hb hK hP hD hS 3 0 rfl rfl (tm_inb_in h_8) dX4_apportion_63 (fun z => WX4 cI cZ cR q0 z) (tm_upc st.2.2 3 (upd (st.2.2 3) st.2.1.toNatClampNeg (((st.2.2 1 st.2.1.toNatClampNeg) * v1) / v2))) rfl (fun d0_10 ed0_10 H locs hP hD hS => ?_)
    have hf := tm_at ed0_10 hf
    refine lv_aload_n hx hb dX4_apportion_64 rfl (lv_at hl 0 rfl) ?_
    refine va_get (D := D) (ci := 4) (v := .ref (q0 2)) (C := RX4) (T := TX4) (N := 4) hx hb hts uX4_apportion_X4 hown hK hP 0 rfl rfl 1 (by decide) (hts _ kX4_apportion_f15) (fun _ h9 => h9) rfl dX4_apportion_65 ?_
    refine lv_iload hx hb dX4_apportion_68 (lv_at hl 4 rfl) ?_
    refine lv_aload_n hx hb dX4_apportion_70 rfl (lv_at hl 0 rfl) ?_
    refine va_get (D := D) (ci := 4) (v := .ref (q0 1)) (C := RX4) (T := TX4) (N := 4) hx hb hts uX4_apportion_X4 hown hK hP 0 rfl rfl 0 (by decide) (hts _ kX4_apportion_f9) (fun _ h9 => h9) rfl dX4_apportion_71 ?_
    refine lv_iload hx hb dX4_apportion_74 (lv_at hl 4 rfl) ?_
    refine va_iald hx hb hK hP 1 0 rfl rfl (tm_inb_in h_8) dX4_apportion_76 ?_
    refine lv_iload_n hx hb dX4_apportion_77 rfl (lv_at hl 1 rfl) ?_
    refine lv_imul hx hb dX4_apportion_78 ?_
    refine lv_iload_n hx hb dX4_apportion_79 rfl (lv_at hl 2 rfl) ?_
    refine lv_irem hx hb dX4_apportion_80 (tm_nz_ne h_9) ?_
    refine tm_iast hx hb hK hP hD hS 2 0 rfl rfl (tm_inb_in h_8) dX4_apportion_81 (fun z => WX4 cI cZ cR q0 z) (tm_upc d0_10 2 (upd (d0_10 2) st.2.1.toNatClampNeg (((d0_10 1 st.2.1.toNatClampNeg) * v1) - ((d0_10 1 st.2.1.toNatClampNeg) * v1) / v2 * v2))) rfl (fun d0_11 ed0_11 H locs hP hD hS => ?_)
    have hf := tm_at ed0_11 hf
    refine lv_iload_n hx hb dX4_apportion_82 rfl (lv_at hl 3 rfl) ?_
    refine lv_aload_n hx hb dX4_apportion_83 rfl (lv_at hl 0 rfl) ?_
    refine va_get (D := D) (ci := 4) (v := .ref (q0 3)) (C := RX4) (T := TX4) (N := 4) hx hb hts uX4_apportion_X4 hown hK hP 0 rfl rfl 2 (by decide) (hts _ kX4_apportion_f18) (fun _ h9 => h9) rfl dX4_apportion_84 ?_
    refine lv_iload hx hb dX4_apportion_87 (lv_at hl 4 rfl) ?_
    refine va_iald hx hb hK hP 3 0 rfl rfl (tm_inb_in h_8) dX4_apportion_89 ?_
    refine lv_isub hx hb dX4_apportion_90 ?_
    refine lv_topi (fun x_12 ex_12 => ?_)
    have hf := tm_at ex_12 hf
    refine lv_istore_n (lv' := [(3, .int x_12), (0, .ref (q0 0)), (1, .int v1), (2, .int v2), (4, .int st.2.1)]) hx hb dX4_apportion_91 rfl hl (by decide) rfl (fun ls hl => ?_)
    obtain ⟨x_13, ex_13⟩ : ∃ y : Int32, y = st.2.1 + 1 := ⟨_, rfl⟩
    have hf := tm_at ex_13 hf
    refine lv_iinc (v := x_13) (lv' := [(4, .int x_13), (3, .int x_12), (0, .ref (q0 0)), (1, .int v1), (2, .int v2)]) hx hb dX4_apportion_92 hl (k := 4) rfl (by rw [ex_13]; rfl) (by decide) rfl (fun ls hl => ?_)
    refine lv_goto (tgt := 37) hx hb dX4_apportion_95 (by decide) ?_
    obtain rfl := Option.some.inj hf
    exact hk _ _ _ hP hD hS (lv_sub hl [2, 3, 4, 1, 0] rfl)
set_option maxHeartbeats 4000000 in
set_option maxRecDepth 100000 in
theorem wX4_apportion_101 (l : Launch) (D : va_G) (cI cZ cR : ClassId) (N : Nat) (q0 : Nat → Nat) {p : Program} {e : Env} {s : State} {m : MethodId} {args : Array Value} {below : List Frame} {meth : Method} {c : Code} {A : Nat → Prop} {H0 : Heap} {Q : State → Prop} (C : tm_Cx p s m c args cX4_apportion 6 RX4 wsX4_apportion D (tm_ty cI cZ cR) A H0) (v3 : Int32) : ∀ (n : Nat) (st : Int32 × tm_M) (o : (Int32 × tm_M)), tm_whl (bX4_apportion_101 N v3) n st = some o → (fun (o : Int32 × tm_M) => ∀ (H : Heap) (locs : List Loc) (ls : Array Slot), va_P D vwCl (WX4 cI cZ cR q0 o.2) H → va_D A (WX4 cI cZ cR q0 o.2) → va_S A H0 H locs → lv_has ls 6 [] → W p l e rmX4_apportion s m args below meth c H locs 0 0 Q (F0 m 147 ls [])) o → (fun (st : Int32 × tm_M) => ∀ (H : Heap) (locs : List Loc) (ls : Array Slot), va_P D vwCl (WX4 cI cZ cR q0 st.2) H → va_D A (WX4 cI cZ cR q0 st.2) → va_S A H0 H locs → lv_has ls 6 [(0, .ref (q0 0)), (3, .int v3), (4, .int st.1)] → W p l e rmX4_apportion s m args below meth c H locs 0 0 Q (F0 m 101 ls [])) st := by
  obtain ⟨hx, hb, hml, hown, hts, hK, hA⟩ := id C
  refine tm_whl_W (Wh := fun (st : Int32 × tm_M) => ∀ (H : Heap) (locs : List Loc) (ls : Array Slot), va_P D vwCl (WX4 cI cZ cR q0 st.2) H → va_D A (WX4 cI cZ cR q0 st.2) → va_S A H0 H locs → lv_has ls 6 [(0, .ref (q0 0)), (3, .int v3), (4, .int st.1)] → W p l e rmX4_apportion s m args below meth c H locs 0 0 Q (F0 m 101 ls [])) (Wx := fun (o : Int32 × tm_M) => ∀ (H : Heap) (locs : List Loc) (ls : Array Slot), va_P D vwCl (WX4 cI cZ cR q0 o.2) H → va_D A (WX4 cI cZ cR q0 o.2) → va_S A H0 H locs → lv_has ls 6 [] → W p l e rmX4_apportion s m args below meth c H locs 0 0 Q (F0 m 147 ls [])) ?_
  intro st r hf hk H locs ls hP hD hS hl
  unfold bX4_apportion_101 at hf
  refine lv_iload hx hb dX4_apportion_101 (lv_at hl 2 rfl) ?_
  refine lv_iload_n hx hb dX4_apportion_103 rfl (lv_at hl 1 rfl) ?_
  refine lv_icmp_ge (tgt := 147) hx hb dX4_apportion_104 (by decide) (fun c_15 => ?_) (fun c_15 => ?_)
  · have hf := tm_iT c_15 hf
    obtain rfl := Option.some.inj hf
    exact hk _ _ _ hP hD hS (lv_sub hl [] rfl)
  · have hf := tm_iF c_15 hf
    refine lv_iload hx hb dX4_apportion_107 (lv_at hl 2 rfl) ?_
    refine lv_aload_n hx hb dX4_apportion_109 rfl (lv_at hl 0 rfl) ?_
    refine va_get (D := D) (ci := 4) (v := .int (st.2 0 3)) (C := RX4) (T := TX4) (N := 4) hx hb hts uX4_apportion_X4 hown hK hP 0 rfl rfl 3 (by decide) (hts _ kX4_apportion_f21) (fun _ h9 => h9) rfl dX4_apportion_110 ?_
    refine lv_icmp_ge (tgt := 147) hx hb dX4_apportion_113 (by decide) (fun c_16 => ?_) (fun c_16 => ?_)
    · have hf := tm_iT c_16 hf
      obtain rfl := Option.some.inj hf
      exact hk _ _ _ hP hD hS (lv_sub hl [] rfl)
    · have hf := tm_iF c_16 hf
      refine lv_aload_n hx hb dX4_apportion_116 rfl (lv_at hl 0 rfl) ?_
      obtain ⟨t_17, ot_17, hf⟩ := tm_bS hf
      refine tm_cVI (As := []) (rest := []) ⟨hx, hb, hml, hown, hts⟩ (tX4_largestRemainder l D cI cZ cR N q0 st.2 t_17 ot_17) (cwV 0 hts gX4_apportion_X4_largestRemainder rfl rfl rfl hdwsV_X4_largestRemainder ⟨Nat.le_of_ble_eq_true rfl, Nat.le_of_ble_eq_true rfl⟩) hK hP hD hS hA [0, 1, 2, 3] (by decide) rfl rfl (ci := 4) rfl rfl rfl (fun _ => WX4 cI cZ cR q0 st.2) (()) rfl rfl hl.1 rfl (Nat.le_of_ble_eq_true rfl) dX4_apportion_117 ⟨Nat.zero_le _, Nat.zero_le _⟩ (fun _ _ H locs hP hD hS => ?_)
      refine lv_istore (lv' := [(5, .int t_17), (0, .ref (q0 0)), (3, .int v3), (4, .int st.1)]) hx hb dX4_apportion_120 hl (by decide) rfl (fun ls hl => ?_)
      refine lv_aload_n hx hb dX4_apportion_122 rfl (lv_at hl 1 rfl) ?_
      refine va_get (D := D) (ci := 4) (v := .ref (q0 3)) (C := RX4) (T := TX4) (N := 4) hx hb hts uX4_apportion_X4 hown hK hP 0 rfl rfl 2 (by decide) (hts _ kX4_apportion_f18) (fun _ h9 => h9) rfl dX4_apportion_123 ?_
      refine lv_iload hx hb dX4_apportion_126 (lv_at hl 0 rfl) ?_
      refine lv_dup2_11 hx hb dX4_apportion_128 rfl rfl ?_
      obtain ⟨h_18, hf⟩ := tm_gS hf
      refine va_iald hx hb hK hP 3 0 rfl rfl (tm_inb_in h_18) dX4_apportion_129 ?_
      refine lv_iconst (v := 1) hx hb dX4_apportion_130 (by decide) ?_
      refine lv_iadd hx hb dX4_apportion_131 ?_
      refine tm_iast hx hb hK hP hD hS 3 0 rfl rfl (tm_inb_in h_18) dX4_apportion_132 (fun z => WX4 cI cZ cR q0 z) (tm_upc st.2 3 (upd (st.2 3) t_17.toNatClampNeg ((st.2 3 t_17.toNatClampNeg) + 1))) rfl (fun d0_19 ed0_19 H locs hP hD hS => ?_)
      have hf := tm_at ed0_19 hf
      refine lv_aload_n hx hb dX4_apportion_133 rfl (lv_at hl 1 rfl) ?_
      refine va_get (D := D) (ci := 4) (v := .ref (q0 2)) (C := RX4) (T := TX4) (N := 4) hx hb hts uX4_apportion_X4 hown hK hP 0 rfl rfl 1 (by decide) (hts _ kX4_apportion_f15) (fun _ h9 => h9) rfl dX4_apportion_134 ?_
      refine lv_iload hx hb dX4_apportion_137 (lv_at hl 0 rfl) ?_
      refine lv_iconst (v := (-1)) hx hb dX4_apportion_139 (by decide) ?_
      refine tm_iast hx hb hK hP hD hS 2 0 rfl rfl (tm_inb_in h_18) dX4_apportion_140 (fun z => WX4 cI cZ cR q0 z) (tm_upc d0_19 2 (upd (d0_19 2) t_17.toNatClampNeg ((-1)))) rfl (fun d0_20 ed0_20 H locs hP hD hS => ?_)
      have hf := tm_at ed0_20 hf
      obtain ⟨x_21, ex_21⟩ : ∃ y : Int32, y = st.1 + 1 := ⟨_, rfl⟩
      have hf := tm_at ex_21 hf
      refine lv_iinc (v := x_21) (lv' := [(4, .int x_21), (5, .int t_17), (0, .ref (q0 0)), (3, .int v3)]) hx hb dX4_apportion_141 hl (k := 3) rfl (by rw [ex_21]; rfl) (by decide) rfl (fun ls hl => ?_)
      refine lv_goto (tgt := 101) hx hb dX4_apportion_144 (by decide) ?_
      obtain rfl := Option.some.inj hf
      exact hk _ _ _ hP hD hS (lv_sub hl [2, 3, 0] rfl)
set_option maxHeartbeats 4000000 in
set_option maxRecDepth 100000 in
theorem tX4_apportion (l : Launch) (D : va_G) (cI cZ cR : ClassId) (N : Nat) (q0 : Nat → Nat) (d0 : tm_M) (p1 : Int32) (z0 : tm_M) (hf : fX4_apportion N d0 p1 = some z0) : tm_CV l D (tm_ty cI cZ cR) yX4_apportion wsX4_apportion rmX4_apportion [.ref (q0 0), .int p1] (WX4 cI cZ cR q0 d0) (WX4 cI cZ cR q0 z0) := by
  refine tm_mkV (cc := cX4_apportion) (maxL := 6) (by decide) rfl (Nat.le_of_ble_eq_true rfl) ?_
  intro p e s m below meth c A ls Q C hP hD hS hl hend
  have C : tm_Cx p s m c [.ref (q0 0), .int p1].toArray cX4_apportion 6 RX4 wsX4_apportion D (tm_ty cI cZ cR) A s.heap := C
  obtain ⟨hx, hb, hml, hown, hts, hK, hA⟩ := id C
  have hl : lv_has ls 6 [(0, .ref (q0 0)), (1, .int p1)] := hl
  unfold fX4_apportion at hf
  refine lv_iconst (v := 0) hx hb dX4_apportion_0 (by decide) ?_
  refine lv_istore_n (lv' := [(2, .int 0), (0, .ref (q0 0)), (1, .int p1)]) hx hb dX4_apportion_1 rfl hl (by decide) rfl (fun ls hl => ?_)
  refine lv_iconst (v := 0) hx hb dX4_apportion_2 (by decide) ?_
  refine lv_istore_n (lv' := [(3, .int 0), (2, .int 0), (0, .ref (q0 0)), (1, .int p1)]) hx hb dX4_apportion_3 rfl hl (by decide) rfl (fun ls hl => ?_)
  obtain ⟨t_5, ot_5, hf⟩ := tm_bS hf
  refine wX4_apportion_4 l D cI cZ cR N q0 C d0 p1 _ _ _ ot_5 ?_ _ _ _ hP hD hS (lv_sub hl [2, 3, 1, 0] rfl)
  intro H locs ls hP hD hS hl
  refine lv_iload_n hx hb dX4_apportion_27 rfl (lv_at hl 2 rfl) ?_
  refine lv_if_gt (tgt := 32) hx hb dX4_apportion_28 (by decide) (fun c_6 => ?_) (fun c_6 => ?_)
  · have hf := tm_iT c_6 hf
    refine lv_iload_n hx hb dX4_apportion_32 rfl (lv_at hl 1 rfl) ?_
    refine lv_istore_n (lv' := [(3, .int p1), (0, .ref (q0 0)), (1, .int p1), (2, .int t_5.1)]) hx hb dX4_apportion_33 rfl hl (by decide) rfl (fun ls hl => ?_)
    refine lv_iconst (v := 0) hx hb dX4_apportion_34 (by decide) ?_
    refine lv_istore (lv' := [(4, .int 0), (3, .int p1), (0, .ref (q0 0)), (1, .int p1), (2, .int t_5.1)]) hx hb dX4_apportion_35 hl (by decide) rfl (fun ls hl => ?_)
    obtain ⟨t_14, ot_14, hf⟩ := tm_bS hf
    refine wX4_apportion_37 l D cI cZ cR N q0 C p1 t_5.1 _ _ _ ot_14 ?_ _ _ _ hP hD hS (lv_sub hl [2, 3, 4, 1, 0] rfl)
    intro H locs ls hP hD hS hl
    refine lv_iconst (v := 0) hx hb dX4_apportion_98 (by decide) ?_
    refine lv_istore (lv' := [(4, .int 0), (0, .ref (q0 0)), (3, .int t_14.1)]) hx hb dX4_apportion_99 hl (by decide) rfl (fun ls hl => ?_)
    obtain ⟨t_22, ot_22, hf⟩ := tm_bS hf
    refine wX4_apportion_101 l D cI cZ cR N q0 C t_14.1 _ _ _ ot_22 ?_ _ _ _ hP hD hS (lv_sub hl [1, 2, 0] rfl)
    intro H locs ls hP hD hS hl
    obtain rfl := Option.some.inj hf
    exact hend _ _ _ _ hP hD hS dX4_apportion_147
  · have hf := tm_iF c_6 hf
    obtain rfl := Option.some.inj hf
    exact hend _ _ _ _ hP hD hS dX4_apportion_31
set_option maxHeartbeats 4000000 in
set_option maxRecDepth 100000 in
theorem tX3_contain (l : Launch) (D : va_G) (cI cZ cR : ClassId) (N : Nat) (q0 : Nat → Nat) (d0 : tm_M) (p1 : Int32) (p2 : Int32) (p3 : Int32) (r0 : Int32) (hf : fX3_contain N d0 p1 p2 p3 = some r0) : tm_CI l D (tm_ty cI cZ cR) yX3_contain wsX3_contain rmX3_contain [.ref (q0 0), .int p1, .int p2, .int p3] (WX3 cI cZ cR q0 d0) r0 (WX3 cI cZ cR q0 d0) := by
  refine tm_mkI (cc := cX3_contain) (maxL := 4) (ty := .boolean) (by decide) rfl (Nat.le_of_ble_eq_true rfl) ?_
  intro p e s m below meth c A ls Q C hP hD hS hl hend
  have C : tm_Cx p s m c [.ref (q0 0), .int p1, .int p2, .int p3].toArray cX3_contain 4 RX3 wsX3_contain D (tm_ty cI cZ cR) A s.heap := C
  obtain ⟨hx, hb, hml, hown, hts, hK, hA⟩ := id C
  have hl : lv_has ls 4 [(0, .ref (q0 0)), (1, .int p1), (2, .int p2), (3, .int p3)] := hl
  unfold fX3_contain at hf
  refine lv_iload_n hx hb dX3_contain_0 rfl (lv_at hl 2 rfl) ?_
  refine lv_aload_n hx hb dX3_contain_1 rfl (lv_at hl 0 rfl) ?_
  refine va_get (D := D) (ci := 3) (v := .ref (q0 1)) (C := RX3) (T := TX3) (N := 4) hx hb hts uX3_contain_X3 hown hK hP 0 rfl rfl 0 (by decide) (hts _ kX3_contain_f9) (fun _ h9 => h9) rfl dX3_contain_2 ?_
  refine lv_iload_n hx hb dX3_contain_5 rfl (lv_at hl 1 rfl) ?_
  obtain ⟨h_1, hf⟩ := tm_gS hf
  refine va_iald hx hb hK hP 1 0 rfl rfl (tm_inb_in h_1) dX3_contain_6 ?_
  refine lv_icmp_lt (tgt := 58) hx hb dX3_contain_7 (by decide) (fun c_2 => ?_) (fun c_2 => ?_)
  · have hf := tm_iT c_2 hf
    refine lv_iconst (v := 0) hx hb dX3_contain_58 (by decide) ?_
    obtain rfl := Option.some.inj hf
    exact hend _ _ _ _ hP hD hS (by decide) dX3_contain_59
  · have hf := tm_iF c_2 hf
    refine lv_iload_n hx hb dX3_contain_10 rfl (lv_at hl 2 rfl) ?_
    refine lv_aload_n hx hb dX3_contain_11 rfl (lv_at hl 0 rfl) ?_
    refine va_get (D := D) (ci := 3) (v := .ref (q0 1)) (C := RX3) (T := TX3) (N := 4) hx hb hts uX3_contain_X3 hown hK hP 0 rfl rfl 0 (by decide) (hts _ kX3_contain_f9) (fun _ h9 => h9) rfl dX3_contain_12 ?_
    refine lv_iload_n hx hb dX3_contain_15 rfl (lv_at hl 1 rfl) ?_
    refine va_iald hx hb hK hP 1 0 rfl rfl (tm_inb_in h_1) dX3_contain_16 ?_
    refine lv_aload_n hx hb dX3_contain_17 rfl (lv_at hl 0 rfl) ?_
    refine va_get (D := D) (ci := 3) (v := .ref (q0 3)) (C := RX3) (T := TX3) (N := 4) hx hb hts uX3_contain_X3 hown hK hP 0 rfl rfl 2 (by decide) (hts _ kX3_contain_f18) (fun _ h9 => h9) rfl dX3_contain_18 ?_
    refine lv_iload_n hx hb dX3_contain_21 rfl (lv_at hl 1 rfl) ?_
    refine va_iald hx hb hK hP 3 0 rfl rfl (tm_inb_in h_1) dX3_contain_22 ?_
    refine lv_iadd hx hb dX3_contain_23 ?_
    refine lv_icmp_ge (tgt := 58) hx hb dX3_contain_24 (by decide) (fun c_3 => ?_) (fun c_3 => ?_)
    · have hf := tm_iT c_3 hf
      refine lv_iconst (v := 0) hx hb dX3_contain_58 (by decide) ?_
      obtain rfl := Option.some.inj hf
      exact hend _ _ _ _ hP hD hS (by decide) dX3_contain_59
    · have hf := tm_iF c_3 hf
      refine lv_iload_n hx hb dX3_contain_27 rfl (lv_at hl 3 rfl) ?_
      refine lv_aload_n hx hb dX3_contain_28 rfl (lv_at hl 0 rfl) ?_
      refine va_get (D := D) (ci := 3) (v := .ref (q0 2)) (C := RX3) (T := TX3) (N := 4) hx hb hts uX3_contain_X3 hown hK hP 0 rfl rfl 1 (by decide) (hts _ kX3_contain_f15) (fun _ h9 => h9) rfl dX3_contain_29 ?_
      refine lv_iload_n hx hb dX3_contain_32 rfl (lv_at hl 1 rfl) ?_
      refine va_iald hx hb hK hP 2 0 rfl rfl (tm_inb_in h_1) dX3_contain_33 ?_
      refine lv_icmp_lt (tgt := 58) hx hb dX3_contain_34 (by decide) (fun c_4 => ?_) (fun c_4 => ?_)
      · have hf := tm_iT c_4 hf
        refine lv_iconst (v := 0) hx hb dX3_contain_58 (by decide) ?_
        obtain rfl := Option.some.inj hf
        exact hend _ _ _ _ hP hD hS (by decide) dX3_contain_59
      · have hf := tm_iF c_4 hf
        refine lv_iload_n hx hb dX3_contain_37 rfl (lv_at hl 3 rfl) ?_
        refine lv_aload_n hx hb dX3_contain_38 rfl (lv_at hl 0 rfl) ?_
        refine va_get (D := D) (ci := 3) (v := .ref (q0 2)) (C := RX3) (T := TX3) (N := 4) hx hb hts uX3_contain_X3 hown hK hP 0 rfl rfl 1 (by decide) (hts _ kX3_contain_f15) (fun _ h9 => h9) rfl dX3_contain_39 ?_
        refine lv_iload_n hx hb dX3_contain_42 rfl (lv_at hl 1 rfl) ?_
        refine va_iald hx hb hK hP 2 0 rfl rfl (tm_inb_in h_1) dX3_contain_43 ?_
        refine lv_aload_n hx hb dX3_contain_44 rfl (lv_at hl 0 rfl) ?_
        refine va_get (D := D) (ci := 3) (v := .ref (q0 4)) (C := RX3) (T := TX3) (N := 4) hx hb hts uX3_contain_X3 hown hK hP 0 rfl rfl 3 (by decide) (hts _ kX3_contain_f21) (fun _ h9 => h9) rfl dX3_contain_45 ?_
        refine lv_iload_n hx hb dX3_contain_48 rfl (lv_at hl 1 rfl) ?_
        refine va_iald hx hb hK hP 4 0 rfl rfl (tm_inb_in h_1) dX3_contain_49 ?_
        refine lv_iadd hx hb dX3_contain_50 ?_
        refine lv_icmp_ge (tgt := 58) hx hb dX3_contain_51 (by decide) (fun c_5 => ?_) (fun c_5 => ?_)
        · have hf := tm_iT c_5 hf
          refine lv_iconst (v := 0) hx hb dX3_contain_58 (by decide) ?_
          obtain rfl := Option.some.inj hf
          exact hend _ _ _ _ hP hD hS (by decide) dX3_contain_59
        · have hf := tm_iF c_5 hf
          refine lv_iconst (v := 1) hx hb dX3_contain_54 (by decide) ?_
          refine lv_goto (tgt := 59) hx hb dX3_contain_55 (by decide) ?_
          obtain rfl := Option.some.inj hf
          exact hend _ _ _ _ hP hD hS (by decide) dX3_contain_59
set_option maxHeartbeats 4000000 in
set_option maxRecDepth 100000 in
theorem tX3_aspect (l : Launch) (D : va_G) (cI cZ cR : ClassId) (N : Nat) (q0 : Nat → Nat) (d0 : tm_M) (p1 : Int32) (r0 : UInt32) (hf : fX3_aspect N d0 p1 = some r0) : tm_CF l D (tm_ty cI cZ cR) yX3_aspect wsX3_aspect rmX3_aspect [.ref (q0 0), .int p1] (WX3 cI cZ cR q0 d0) r0 (WX3 cI cZ cR q0 d0) := by
  refine tm_mkF (cc := cX3_aspect) (maxL := 4) (by decide) rfl (Nat.le_of_ble_eq_true rfl) ?_
  intro p e s m below meth c A ls Q C hP hD hS hl hend
  have C : tm_Cx p s m c [.ref (q0 0), .int p1].toArray cX3_aspect 4 RX3 wsX3_aspect D (tm_ty cI cZ cR) A s.heap := C
  obtain ⟨hx, hb, hml, hown, hts, hK, hA⟩ := id C
  have hl : lv_has ls 4 [(0, .ref (q0 0)), (1, .int p1)] := hl
  unfold fX3_aspect at hf
  refine lv_aload_n hx hb dX3_aspect_0 rfl (lv_at hl 0 rfl) ?_
  refine va_get (D := D) (ci := 3) (v := .ref (q0 3)) (C := RX3) (T := TX3) (N := 4) hx hb hts uX3_aspect_X3 hown hK hP 0 rfl rfl 2 (by decide) (hts _ kX3_aspect_f18) (fun _ h9 => h9) rfl dX3_aspect_1 ?_
  refine lv_iload_n hx hb dX3_aspect_4 rfl (lv_at hl 1 rfl) ?_
  obtain ⟨h_1, hf⟩ := tm_gS hf
  refine va_iald hx hb hK hP 3 0 rfl rfl (tm_inb_in h_1) dX3_aspect_5 ?_
  refine lv_aload_n hx hb dX3_aspect_6 rfl (lv_at hl 0 rfl) ?_
  refine va_get (D := D) (ci := 3) (v := .ref (q0 4)) (C := RX3) (T := TX3) (N := 4) hx hb hts uX3_aspect_X3 hown hK hP 0 rfl rfl 3 (by decide) (hts _ kX3_aspect_f21) (fun _ h9 => h9) rfl dX3_aspect_7 ?_
  refine lv_iload_n hx hb dX3_aspect_10 rfl (lv_at hl 1 rfl) ?_
  refine va_iald hx hb hK hP 4 0 rfl rfl (tm_inb_in h_1) dX3_aspect_11 ?_
  refine va_mmax (x := (d0 3 p1.toNatClampNeg)) (y := (d0 4 p1.toNatClampNeg)) (rest := []) hx hb (by rw [hml]; exact hl.1.symm) hown (hts _ kX3_aspect_m24) (hts _ kX3_aspect_s24) (hts _ kX3_aspect_i24) (hts _ kX3_aspect_o24) (Nat.le_of_ble_eq_true rfl) (Nat.le_of_ble_eq_true rfl) (Nat.zero_le _) (Nat.zero_le _) dX3_aspect_12 ?_
  refine lv_topi (fun x_2 ex_2 => ?_)
  have hf := tm_at ex_2 hf
  refine lv_istore_n (lv' := [(2, .int x_2), (0, .ref (q0 0)), (1, .int p1)]) hx hb dX3_aspect_15 rfl hl (by decide) rfl (fun ls hl => ?_)
  refine lv_aload_n hx hb dX3_aspect_16 rfl (lv_at hl 1 rfl) ?_
  refine va_get (D := D) (ci := 3) (v := .ref (q0 3)) (C := RX3) (T := TX3) (N := 4) hx hb hts uX3_aspect_X3 hown hK hP 0 rfl rfl 2 (by decide) (hts _ kX3_aspect_f18) (fun _ h9 => h9) rfl dX3_aspect_17 ?_
  refine lv_iload_n hx hb dX3_aspect_20 rfl (lv_at hl 2 rfl) ?_
  refine va_iald hx hb hK hP 3 0 rfl rfl (tm_inb_in h_1) dX3_aspect_21 ?_
  refine lv_aload_n hx hb dX3_aspect_22 rfl (lv_at hl 1 rfl) ?_
  refine va_get (D := D) (ci := 3) (v := .ref (q0 4)) (C := RX3) (T := TX3) (N := 4) hx hb hts uX3_aspect_X3 hown hK hP 0 rfl rfl 3 (by decide) (hts _ kX3_aspect_f21) (fun _ h9 => h9) rfl dX3_aspect_23 ?_
  refine lv_iload_n hx hb dX3_aspect_26 rfl (lv_at hl 2 rfl) ?_
  refine va_iald hx hb hK hP 4 0 rfl rfl (tm_inb_in h_1) dX3_aspect_27 ?_
  refine va_mmin (x := (d0 3 p1.toNatClampNeg)) (y := (d0 4 p1.toNatClampNeg)) (rest := []) hx hb (by rw [hml]; exact hl.1.symm) hown (hts _ kX3_aspect_m30) (hts _ kX3_aspect_s30) (hts _ kX3_aspect_i30) (hts _ kX3_aspect_o30) (Nat.le_of_ble_eq_true rfl) (Nat.le_of_ble_eq_true rfl) (Nat.zero_le _) (Nat.zero_le _) dX3_aspect_28 ?_
  refine lv_topi (fun x_3 ex_3 => ?_)
  have hf := tm_at ex_3 hf
  refine lv_istore_n (lv' := [(3, .int x_3), (2, .int x_2), (0, .ref (q0 0)), (1, .int p1)]) hx hb dX3_aspect_31 rfl hl (by decide) rfl (fun ls hl => ?_)
  refine lv_iload_n hx hb dX3_aspect_32 rfl (lv_at hl 0 rfl) ?_
  refine lv_if_le (tgt := 44) hx hb dX3_aspect_33 (by decide) (fun c_4 => ?_) (fun c_4 => ?_)
  · have hf := tm_iT c_4 hf
    refine lv_fconst0 hx hb dX3_aspect_44 ?_
    obtain rfl := Option.some.inj hf
    exact hend _ _ _ _ hP hD hS dX3_aspect_45
  · have hf := tm_iF c_4 hf
    refine lv_iload_n hx hb dX3_aspect_36 rfl (lv_at hl 1 rfl) ?_
    refine lv_i2f hx hb dX3_aspect_37 ?_
    refine lv_iload_n hx hb dX3_aspect_38 rfl (lv_at hl 0 rfl) ?_
    refine lv_i2f hx hb dX3_aspect_39 ?_
    obtain ⟨h_5, hf⟩ := tm_gS hf
    refine lv_fdiv hx hb dX3_aspect_40 (tm_nn_n h_5) ?_
    refine lv_goto (tgt := 45) hx hb dX3_aspect_41 (by decide) ?_
    obtain rfl := Option.some.inj hf
    exact hend _ _ _ _ hP hD hS dX3_aspect_45
set_option maxHeartbeats 4000000 in
set_option maxRecDepth 100000 in
theorem tX3_difference (l : Launch) (D : va_G) (cI cZ cR : ClassId) (N : Nat) (q0 : Nat → Nat) (q1 : Nat → Nat) (d0 : tm_M) (d1 : tm_M) (p1 : Int32) (r0 : Int32) (hf : fX3_difference N d0 d1 p1 = some r0) : tm_CI l D (tm_ty cI cZ cR) yX3_difference wsX3_difference rmX3_difference [.ref (q0 0), .int p1, .ref (q1 0)] (WX3X3 cI cZ cR q0 q1 d0 d1) r0 (WX3X3 cI cZ cR q0 q1 d0 d1) := by
  refine tm_mkI (cc := cX3_difference) (maxL := 3) (ty := .int) (by decide) rfl (Nat.le_of_ble_eq_true rfl) ?_
  intro p e s m below meth c A ls Q C hP hD hS hl hend
  have C : tm_Cx p s m c [.ref (q0 0), .int p1, .ref (q1 0)].toArray cX3_difference 3 RX3 wsX3_difference D (tm_ty cI cZ cR) A s.heap := C
  obtain ⟨hx, hb, hml, hown, hts, hK, hA⟩ := id C
  have hl : lv_has ls 3 [(0, .ref (q0 0)), (1, .int p1), (2, .ref (q1 0))] := hl
  unfold fX3_difference at hf
  refine lv_aload_n hx hb dX3_difference_0 rfl (lv_at hl 0 rfl) ?_
  refine va_get (D := D) (ci := 3) (v := .ref (q0 1)) (C := RX3) (T := TX3) (N := 4) hx hb hts uX3_difference_X3 hown hK hP 0 rfl rfl 0 (by decide) (hts _ kX3_difference_f9) (fun _ h9 => h9) rfl dX3_difference_1 ?_
  refine lv_iload_n hx hb dX3_difference_4 rfl (lv_at hl 1 rfl) ?_
  obtain ⟨h_1, hf⟩ := tm_gS hf
  refine va_iald hx hb hK hP 1 0 rfl rfl (tm_inb_in h_1) dX3_difference_5 ?_
  refine lv_aload_n hx hb dX3_difference_6 rfl (lv_at hl 2 rfl) ?_
  refine va_get (D := D) (ci := 3) (v := .ref (q1 1)) (C := RX3) (T := TX3) (N := 4) hx hb hts uX3_difference_X3 hown hK hP 5 rfl rfl 0 (by decide) (hts _ kX3_difference_f9) (fun _ h9 => h9) rfl dX3_difference_7 ?_
  refine lv_iload_n hx hb dX3_difference_10 rfl (lv_at hl 1 rfl) ?_
  refine va_iald hx hb hK hP 6 0 rfl rfl (tm_inb_in h_1) dX3_difference_11 ?_
  refine lv_isub hx hb dX3_difference_12 ?_
  refine va_mabs (x := ((d0 1 p1.toNatClampNeg) - (d1 1 p1.toNatClampNeg))) (rest := []) hx hb (by rw [hml]; exact hl.1.symm) hown (hts _ kX3_difference_m33) (hts _ kX3_difference_s33) (hts _ kX3_difference_i33) (hts _ kX3_difference_o33) (Nat.le_of_ble_eq_true rfl) (Nat.le_of_ble_eq_true rfl) (Nat.zero_le _) (Nat.zero_le _) dX3_difference_13 ?_
  refine lv_aload_n hx hb dX3_difference_16 rfl (lv_at hl 0 rfl) ?_
  refine va_get (D := D) (ci := 3) (v := .ref (q0 2)) (C := RX3) (T := TX3) (N := 4) hx hb hts uX3_difference_X3 hown hK hP 0 rfl rfl 1 (by decide) (hts _ kX3_difference_f15) (fun _ h9 => h9) rfl dX3_difference_17 ?_
  refine lv_iload_n hx hb dX3_difference_20 rfl (lv_at hl 1 rfl) ?_
  refine va_iald hx hb hK hP 2 0 rfl rfl (tm_inb_in h_1) dX3_difference_21 ?_
  refine lv_aload_n hx hb dX3_difference_22 rfl (lv_at hl 2 rfl) ?_
  refine va_get (D := D) (ci := 3) (v := .ref (q1 2)) (C := RX3) (T := TX3) (N := 4) hx hb hts uX3_difference_X3 hown hK hP 5 rfl rfl 1 (by decide) (hts _ kX3_difference_f15) (fun _ h9 => h9) rfl dX3_difference_23 ?_
  refine lv_iload_n hx hb dX3_difference_26 rfl (lv_at hl 1 rfl) ?_
  refine va_iald hx hb hK hP 7 0 rfl rfl (tm_inb_in h_1) dX3_difference_27 ?_
  refine lv_isub hx hb dX3_difference_28 ?_
  refine va_mabs (x := ((d0 2 p1.toNatClampNeg) - (d1 2 p1.toNatClampNeg))) (rest := [.int (if 0 ≤ ((d0 1 p1.toNatClampNeg) - (d1 1 p1.toNatClampNeg)) then ((d0 1 p1.toNatClampNeg) - (d1 1 p1.toNatClampNeg)) else 0 - ((d0 1 p1.toNatClampNeg) - (d1 1 p1.toNatClampNeg)))]) hx hb (by rw [hml]; exact hl.1.symm) hown (hts _ kX3_difference_m33) (hts _ kX3_difference_s33) (hts _ kX3_difference_i33) (hts _ kX3_difference_o33) (Nat.le_of_ble_eq_true rfl) (Nat.le_of_ble_eq_true rfl) (Nat.zero_le _) (Nat.zero_le _) dX3_difference_29 ?_
  refine lv_iadd hx hb dX3_difference_32 ?_
  refine lv_aload_n hx hb dX3_difference_33 rfl (lv_at hl 0 rfl) ?_
  refine va_get (D := D) (ci := 3) (v := .ref (q0 3)) (C := RX3) (T := TX3) (N := 4) hx hb hts uX3_difference_X3 hown hK hP 0 rfl rfl 2 (by decide) (hts _ kX3_difference_f18) (fun _ h9 => h9) rfl dX3_difference_34 ?_
  refine lv_iload_n hx hb dX3_difference_37 rfl (lv_at hl 1 rfl) ?_
  refine va_iald hx hb hK hP 3 0 rfl rfl (tm_inb_in h_1) dX3_difference_38 ?_
  refine lv_aload_n hx hb dX3_difference_39 rfl (lv_at hl 2 rfl) ?_
  refine va_get (D := D) (ci := 3) (v := .ref (q1 3)) (C := RX3) (T := TX3) (N := 4) hx hb hts uX3_difference_X3 hown hK hP 5 rfl rfl 2 (by decide) (hts _ kX3_difference_f18) (fun _ h9 => h9) rfl dX3_difference_40 ?_
  refine lv_iload_n hx hb dX3_difference_43 rfl (lv_at hl 1 rfl) ?_
  refine va_iald hx hb hK hP 8 0 rfl rfl (tm_inb_in h_1) dX3_difference_44 ?_
  refine lv_isub hx hb dX3_difference_45 ?_
  refine va_mabs (x := ((d0 3 p1.toNatClampNeg) - (d1 3 p1.toNatClampNeg))) (rest := [.int ((if 0 ≤ ((d0 1 p1.toNatClampNeg) - (d1 1 p1.toNatClampNeg)) then ((d0 1 p1.toNatClampNeg) - (d1 1 p1.toNatClampNeg)) else 0 - ((d0 1 p1.toNatClampNeg) - (d1 1 p1.toNatClampNeg))) + (if 0 ≤ ((d0 2 p1.toNatClampNeg) - (d1 2 p1.toNatClampNeg)) then ((d0 2 p1.toNatClampNeg) - (d1 2 p1.toNatClampNeg)) else 0 - ((d0 2 p1.toNatClampNeg) - (d1 2 p1.toNatClampNeg))))]) hx hb (by rw [hml]; exact hl.1.symm) hown (hts _ kX3_difference_m33) (hts _ kX3_difference_s33) (hts _ kX3_difference_i33) (hts _ kX3_difference_o33) (Nat.le_of_ble_eq_true rfl) (Nat.le_of_ble_eq_true rfl) (Nat.zero_le _) (Nat.zero_le _) dX3_difference_46 ?_
  refine lv_iadd hx hb dX3_difference_49 ?_
  refine lv_aload_n hx hb dX3_difference_50 rfl (lv_at hl 0 rfl) ?_
  refine va_get (D := D) (ci := 3) (v := .ref (q0 4)) (C := RX3) (T := TX3) (N := 4) hx hb hts uX3_difference_X3 hown hK hP 0 rfl rfl 3 (by decide) (hts _ kX3_difference_f21) (fun _ h9 => h9) rfl dX3_difference_51 ?_
  refine lv_iload_n hx hb dX3_difference_54 rfl (lv_at hl 1 rfl) ?_
  refine va_iald hx hb hK hP 4 0 rfl rfl (tm_inb_in h_1) dX3_difference_55 ?_
  refine lv_aload_n hx hb dX3_difference_56 rfl (lv_at hl 2 rfl) ?_
  refine va_get (D := D) (ci := 3) (v := .ref (q1 4)) (C := RX3) (T := TX3) (N := 4) hx hb hts uX3_difference_X3 hown hK hP 5 rfl rfl 3 (by decide) (hts _ kX3_difference_f21) (fun _ h9 => h9) rfl dX3_difference_57 ?_
  refine lv_iload_n hx hb dX3_difference_60 rfl (lv_at hl 1 rfl) ?_
  refine va_iald hx hb hK hP 9 0 rfl rfl (tm_inb_in h_1) dX3_difference_61 ?_
  refine lv_isub hx hb dX3_difference_62 ?_
  refine va_mabs (x := ((d0 4 p1.toNatClampNeg) - (d1 4 p1.toNatClampNeg))) (rest := [.int (((if 0 ≤ ((d0 1 p1.toNatClampNeg) - (d1 1 p1.toNatClampNeg)) then ((d0 1 p1.toNatClampNeg) - (d1 1 p1.toNatClampNeg)) else 0 - ((d0 1 p1.toNatClampNeg) - (d1 1 p1.toNatClampNeg))) + (if 0 ≤ ((d0 2 p1.toNatClampNeg) - (d1 2 p1.toNatClampNeg)) then ((d0 2 p1.toNatClampNeg) - (d1 2 p1.toNatClampNeg)) else 0 - ((d0 2 p1.toNatClampNeg) - (d1 2 p1.toNatClampNeg)))) + (if 0 ≤ ((d0 3 p1.toNatClampNeg) - (d1 3 p1.toNatClampNeg)) then ((d0 3 p1.toNatClampNeg) - (d1 3 p1.toNatClampNeg)) else 0 - ((d0 3 p1.toNatClampNeg) - (d1 3 p1.toNatClampNeg))))]) hx hb (by rw [hml]; exact hl.1.symm) hown (hts _ kX3_difference_m33) (hts _ kX3_difference_s33) (hts _ kX3_difference_i33) (hts _ kX3_difference_o33) (Nat.le_of_ble_eq_true rfl) (Nat.le_of_ble_eq_true rfl) (Nat.zero_le _) (Nat.zero_le _) dX3_difference_63 ?_
  refine lv_iadd hx hb dX3_difference_66 ?_
  obtain rfl := Option.some.inj hf
  exact hend _ _ _ _ hP hD hS rfl dX3_difference_67
set_option maxHeartbeats 4000000 in
set_option maxRecDepth 100000 in
theorem tX5_copyFrom (l : Launch) (D : va_G) (cI cZ cR : ClassId) (N : Nat) (q0 : Nat → Nat) (q1 : Nat → Nat) (d0 : tm_M) (d1 : tm_M) (z0 : tm_M) (hf : fX5_copyFrom N d0 d1 = some z0) : tm_CV l D (tm_ty cI cZ cR) yX5_copyFrom wsX5_copyFrom rmX5_copyFrom [.ref (q0 0), .ref (q1 0)] (WX5X5 cI cZ cR q0 q1 d0 d1) (WX5X5 cI cZ cR q0 q1 z0 d1) := by
  refine tm_mkV (cc := cX5_copyFrom) (maxL := 2) (by decide) rfl (Nat.le_of_ble_eq_true rfl) ?_
  intro p e s m below meth c A ls Q C hP hD hS hl hend
  have C : tm_Cx p s m c [.ref (q0 0), .ref (q1 0)].toArray cX5_copyFrom 2 RX5 wsX5_copyFrom D (tm_ty cI cZ cR) A s.heap := C
  obtain ⟨hx, hb, hml, hown, hts, hK, hA⟩ := id C
  have hl : lv_has ls 2 [(0, .ref (q0 0)), (1, .ref (q1 0))] := hl
  unfold fX5_copyFrom at hf
  refine lv_aload_n hx hb dX5_copyFrom_0 rfl (lv_at hl 1 rfl) ?_
  refine va_get (D := D) (ci := 5) (v := .ref (q1 1)) (C := RX5) (T := TX5) (N := 7) hx hb hts uX5_copyFrom_X5 hown hK hP 3 rfl rfl 0 (by decide) (hts _ kX5_copyFrom_f9) (fun _ h9 => h9) rfl dX5_copyFrom_1 ?_
  refine lv_iconst (v := 0) hx hb dX5_copyFrom_4 (by decide) ?_
  refine lv_aload_n hx hb dX5_copyFrom_5 rfl (lv_at hl 0 rfl) ?_
  refine va_get (D := D) (ci := 5) (v := .ref (q0 1)) (C := RX5) (T := TX5) (N := 7) hx hb hts uX5_copyFrom_X5 hown hK hP 0 rfl rfl 0 (by decide) (hts _ kX5_copyFrom_f9) (fun _ h9 => h9) rfl dX5_copyFrom_6 ?_
  refine lv_iconst (v := 0) hx hb dX5_copyFrom_9 (by decide) ?_
  refine lv_bipush (v := 24) hx hb dX5_copyFrom_10 (by decide) ?_
  refine tm_copy (rest := []) hx hb (by rw [hml]; exact hl.1.symm) hown (hts _ kX5_copyFrom_m34) (hts _ kX5_copyFrom_n34) (hts _ kX5_copyFrom_s34) (hts _ kX5_copyFrom_i34) hK hP hD hS 4 1 0 rfl rfl rfl (by decide) (by decide) (by decide) (by decide) (by decide) (Nat.le_of_ble_eq_true rfl) (by decide +kernel) dX5_copyFrom_12 (fun z => WX5X5 cI cZ cR q0 q1 z d1) (tm_upc d0 1 (va_cpy (d1 1) (d0 1) (0 : Int32).toNatClampNeg (0 : Int32).toNatClampNeg (24 : Int32).toNatClampNeg)) rfl (fun d0_1 ed0_1 H locs hP hD hS => ?_)
  have hf := tm_at ed0_1 hf
  refine lv_aload_n hx hb dX5_copyFrom_15 rfl (lv_at hl 1 rfl) ?_
  refine va_get (D := D) (ci := 5) (v := .ref (q1 2)) (C := RX5) (T := TX5) (N := 7) hx hb hts uX5_copyFrom_X5 hown hK hP 3 rfl rfl 1 (by decide) (hts _ kX5_copyFrom_f15) (fun _ h9 => h9) rfl dX5_copyFrom_16 ?_
  refine lv_iconst (v := 0) hx hb dX5_copyFrom_19 (by decide) ?_
  refine lv_aload_n hx hb dX5_copyFrom_20 rfl (lv_at hl 0 rfl) ?_
  refine va_get (D := D) (ci := 5) (v := .ref (q0 2)) (C := RX5) (T := TX5) (N := 7) hx hb hts uX5_copyFrom_X5 hown hK hP 0 rfl rfl 1 (by decide) (hts _ kX5_copyFrom_f15) (fun _ h9 => h9) rfl dX5_copyFrom_21 ?_
  refine lv_iconst (v := 0) hx hb dX5_copyFrom_24 (by decide) ?_
  refine lv_bipush (v := 24) hx hb dX5_copyFrom_25 (by decide) ?_
  refine tm_copy (rest := []) hx hb (by rw [hml]; exact hl.1.symm) hown (hts _ kX5_copyFrom_m34) (hts _ kX5_copyFrom_n34) (hts _ kX5_copyFrom_s34) (hts _ kX5_copyFrom_i34) hK hP hD hS 5 2 0 rfl rfl rfl (by decide) (by decide) (by decide) (by decide) (by decide) (Nat.le_of_ble_eq_true rfl) (by decide +kernel) dX5_copyFrom_27 (fun z => WX5X5 cI cZ cR q0 q1 z d1) (tm_upc d0_1 2 (va_cpy (d1 2) (d0_1 2) (0 : Int32).toNatClampNeg (0 : Int32).toNatClampNeg (24 : Int32).toNatClampNeg)) rfl (fun d0_2 ed0_2 H locs hP hD hS => ?_)
  have hf := tm_at ed0_2 hf
  refine lv_aload_n hx hb dX5_copyFrom_30 rfl (lv_at hl 0 rfl) ?_
  refine lv_aload_n hx hb dX5_copyFrom_31 rfl (lv_at hl 1 rfl) ?_
  refine va_get (D := D) (ci := 5) (v := .int (d1 0 2)) (C := RX5) (T := TX5) (N := 7) hx hb hts uX5_copyFrom_X5 hown hK hP 3 rfl rfl 2 (by decide) (hts _ kX5_copyFrom_f18) (fun _ h9 => h9) rfl dX5_copyFrom_32 ?_
  refine tm_put (D := D) (ci := 5) (v := .int (d1 0 2)) (ty := .int) (C := RX5) (T := TX5) (N := 7) hx hb hts uX5_copyFrom_X5 tyX5 tyX5_ok nmX5 hown hK hP hD hS 0 rfl rfl 2 (by decide) (hts _ kX5_copyFrom_f18) (fun _ h9 => h9) rfl (by decide +kernel) rfl rfl (Nat.le_of_ble_eq_true rfl) dX5_copyFrom_35 (fun z => WX5X5 cI cZ cR q0 q1 z d1) (tm_upk d0_2 0 2 (d1 0 2)) rfl (fun d0_3 ed0_3 H locs hP hD hS => ?_)
  have hf := tm_at ed0_3 hf
  refine lv_aload_n hx hb dX5_copyFrom_38 rfl (lv_at hl 0 rfl) ?_
  refine lv_aload_n hx hb dX5_copyFrom_39 rfl (lv_at hl 1 rfl) ?_
  refine va_get (D := D) (ci := 5) (v := .int (d1 0 3)) (C := RX5) (T := TX5) (N := 7) hx hb hts uX5_copyFrom_X5 hown hK hP 3 rfl rfl 3 (by decide) (hts _ kX5_copyFrom_f22) (fun _ h9 => h9) rfl dX5_copyFrom_40 ?_
  refine tm_put (D := D) (ci := 5) (v := .int (d1 0 3)) (ty := .int) (C := RX5) (T := TX5) (N := 7) hx hb hts uX5_copyFrom_X5 tyX5 tyX5_ok nmX5 hown hK hP hD hS 0 rfl rfl 3 (by decide) (hts _ kX5_copyFrom_f22) (fun _ h9 => h9) rfl (by decide +kernel) rfl rfl (Nat.le_of_ble_eq_true rfl) dX5_copyFrom_43 (fun z => WX5X5 cI cZ cR q0 q1 z d1) (tm_upk d0_3 0 3 (d1 0 3)) rfl (fun d0_4 ed0_4 H locs hP hD hS => ?_)
  have hf := tm_at ed0_4 hf
  refine lv_aload_n hx hb dX5_copyFrom_46 rfl (lv_at hl 0 rfl) ?_
  refine lv_aload_n hx hb dX5_copyFrom_47 rfl (lv_at hl 1 rfl) ?_
  refine va_get (D := D) (ci := 5) (v := .int (d1 0 4)) (C := RX5) (T := TX5) (N := 7) hx hb hts uX5_copyFrom_X5 hown hK hP 3 rfl rfl 4 (by decide) (hts _ kX5_copyFrom_f25) (fun _ h9 => h9) rfl dX5_copyFrom_48 ?_
  refine tm_put (D := D) (ci := 5) (v := .int (d1 0 4)) (ty := .int) (C := RX5) (T := TX5) (N := 7) hx hb hts uX5_copyFrom_X5 tyX5 tyX5_ok nmX5 hown hK hP hD hS 0 rfl rfl 4 (by decide) (hts _ kX5_copyFrom_f25) (fun _ h9 => h9) rfl (by decide +kernel) rfl rfl (Nat.le_of_ble_eq_true rfl) dX5_copyFrom_51 (fun z => WX5X5 cI cZ cR q0 q1 z d1) (tm_upk d0_4 0 4 (d1 0 4)) rfl (fun d0_5 ed0_5 H locs hP hD hS => ?_)
  have hf := tm_at ed0_5 hf
  refine lv_aload_n hx hb dX5_copyFrom_54 rfl (lv_at hl 0 rfl) ?_
  refine lv_aload_n hx hb dX5_copyFrom_55 rfl (lv_at hl 1 rfl) ?_
  refine va_get (D := D) (ci := 5) (v := .int (d1 0 5)) (C := RX5) (T := TX5) (N := 7) hx hb hts uX5_copyFrom_X5 hown hK hP 3 rfl rfl 5 (by decide) (hts _ kX5_copyFrom_f28) (fun _ h9 => h9) rfl dX5_copyFrom_56 ?_
  refine tm_put (D := D) (ci := 5) (v := .int (d1 0 5)) (ty := .int) (C := RX5) (T := TX5) (N := 7) hx hb hts uX5_copyFrom_X5 tyX5 tyX5_ok nmX5 hown hK hP hD hS 0 rfl rfl 5 (by decide) (hts _ kX5_copyFrom_f28) (fun _ h9 => h9) rfl (by decide +kernel) rfl rfl (Nat.le_of_ble_eq_true rfl) dX5_copyFrom_59 (fun z => WX5X5 cI cZ cR q0 q1 z d1) (tm_upk d0_5 0 5 (d1 0 5)) rfl (fun d0_6 ed0_6 H locs hP hD hS => ?_)
  have hf := tm_at ed0_6 hf
  refine lv_aload_n hx hb dX5_copyFrom_62 rfl (lv_at hl 0 rfl) ?_
  refine lv_aload_n hx hb dX5_copyFrom_63 rfl (lv_at hl 1 rfl) ?_
  refine va_get (D := D) (ci := 5) (v := .int (d1 0 6)) (C := RX5) (T := TX5) (N := 7) hx hb hts uX5_copyFrom_X5 hown hK hP 3 rfl rfl 6 (by decide) (hts _ kX5_copyFrom_f31) (fun _ h9 => h9) rfl dX5_copyFrom_64 ?_
  refine tm_put (D := D) (ci := 5) (v := .int (d1 0 6)) (ty := .int) (C := RX5) (T := TX5) (N := 7) hx hb hts uX5_copyFrom_X5 tyX5 tyX5_ok nmX5 hown hK hP hD hS 0 rfl rfl 6 (by decide) (hts _ kX5_copyFrom_f31) (fun _ h9 => h9) rfl (by decide +kernel) rfl rfl (Nat.le_of_ble_eq_true rfl) dX5_copyFrom_67 (fun z => WX5X5 cI cZ cR q0 q1 z d1) (tm_upk d0_6 0 6 (d1 0 6)) rfl (fun d0_7 ed0_7 H locs hP hD hS => ?_)
  have hf := tm_at ed0_7 hf
  obtain rfl := Option.some.inj hf
  exact hend _ _ _ _ hP hD hS dX5_copyFrom_70
set_option maxHeartbeats 4000000 in
set_option maxRecDepth 100000 in
theorem tX5_has (l : Launch) (D : va_G) (cI cZ cR : ClassId) (N : Nat) (q0 : Nat → Nat) (d0 : tm_M) (p1 : Int32) (r0 : Int32) (hf : fX5_has N d0 p1 = some r0) : tm_CI l D (tm_ty cI cZ cR) yX5_has wsX5_has rmX5_has [.ref (q0 0), .int p1] (WX5 cI cZ cR q0 d0) r0 (WX5 cI cZ cR q0 d0) := by
  refine tm_mkI (cc := cX5_has) (maxL := 2) (ty := .boolean) (by decide) rfl (Nat.le_of_ble_eq_true rfl) ?_
  intro p e s m below meth c A ls Q C hP hD hS hl hend
  have C : tm_Cx p s m c [.ref (q0 0), .int p1].toArray cX5_has 2 RX5 wsX5_has D (tm_ty cI cZ cR) A s.heap := C
  obtain ⟨hx, hb, hml, hown, hts, hK, hA⟩ := id C
  have hl : lv_has ls 2 [(0, .ref (q0 0)), (1, .int p1)] := hl
  unfold fX5_has at hf
  refine lv_iload_n hx hb dX5_has_0 rfl (lv_at hl 1 rfl) ?_
  refine lv_if_lt (tgt := 16) hx hb dX5_has_1 (by decide) (fun c_1 => ?_) (fun c_1 => ?_)
  · have hf := tm_iT c_1 hf
    refine lv_iconst (v := 0) hx hb dX5_has_16 (by decide) ?_
    obtain rfl := Option.some.inj hf
    exact hend _ _ _ _ hP hD hS (by decide) dX5_has_17
  · have hf := tm_iF c_1 hf
    refine lv_iload_n hx hb dX5_has_4 rfl (lv_at hl 1 rfl) ?_
    refine lv_aload_n hx hb dX5_has_5 rfl (lv_at hl 0 rfl) ?_
    refine va_get (D := D) (ci := 5) (v := .int (d0 0 2)) (C := RX5) (T := TX5) (N := 7) hx hb hts uX5_has_X5 hown hK hP 0 rfl rfl 2 (by decide) (hts _ kX5_has_f18) (fun _ h9 => h9) rfl dX5_has_6 ?_
    refine lv_icmp_ge (tgt := 16) hx hb dX5_has_9 (by decide) (fun c_2 => ?_) (fun c_2 => ?_)
    · have hf := tm_iT c_2 hf
      refine lv_iconst (v := 0) hx hb dX5_has_16 (by decide) ?_
      obtain rfl := Option.some.inj hf
      exact hend _ _ _ _ hP hD hS (by decide) dX5_has_17
    · have hf := tm_iF c_2 hf
      refine lv_iconst (v := 1) hx hb dX5_has_12 (by decide) ?_
      refine lv_goto (tgt := 17) hx hb dX5_has_13 (by decide) ?_
      obtain rfl := Option.some.inj hf
      exact hend _ _ _ _ hP hD hS (by decide) dX5_has_17
set_option maxHeartbeats 4000000 in
set_option maxRecDepth 100000 in
theorem wX5_isWithin_5 (l : Launch) (D : va_G) (cI cZ cR : ClassId) (N : Nat) (q0 : Nat → Nat) {p : Program} {e : Env} {s : State} {m : MethodId} {args : Array Value} {below : List Frame} {meth : Method} {c : Code} {A : Nat → Prop} {H0 : Heap} {Q : State → Prop} (C : tm_Cx p s m c args cX5_isWithin 5 RX5 wsX5_isWithin D (tm_ty cI cZ cR) A H0) (d0 : tm_M) (v2 : Int32) : ∀ (n : Nat) (st : Int32 × Int32) (o : ((Int32 × Int32) ⊕ (Int32 × Int32))), tm_whl (bX5_isWithin_5 N d0 v2) n st = some o → (tm_elm (fun (o : Int32 × Int32) => ∀ (H : Heap) (locs : List Loc) (ls : Array Slot), va_P D vwCl (WX5 cI cZ cR q0 d0) H → va_D A (WX5 cI cZ cR q0 d0) → va_S A H0 H locs → lv_has ls 5 [] → W p l e rmX5_isWithin s m args below meth c H locs 0 0 Q (F0 m 40 ls [])) (fun (o : Int32 × Int32) => ∀ (H : Heap) (locs : List Loc) (ls : Array Slot), va_P D vwCl (WX5 cI cZ cR q0 d0) H → va_D A (WX5 cI cZ cR q0 d0) → va_S A H0 H locs → lv_has ls 5 [] → W p l e rmX5_isWithin s m args below meth c H locs 0 0 Q (F0 m 25 ls []))) o → (fun (st : Int32 × Int32) => ∀ (H : Heap) (locs : List Loc) (ls : Array Slot), va_P D vwCl (WX5 cI cZ cR q0 d0) H → va_D A (WX5 cI cZ cR q0 d0) → va_S A H0 H locs → lv_has ls 5 [(0, .ref (q0 0)), (2, .int v2), (3, .int st.1), (4, .int st.2)] → W p l e rmX5_isWithin s m args below meth c H locs 0 0 Q (F0 m 5 ls [])) st := by
  obtain ⟨hx, hb, hml, hown, hts, hK, hA⟩ := id C
  refine tm_whl_W (Wh := fun (st : Int32 × Int32) => ∀ (H : Heap) (locs : List Loc) (ls : Array Slot), va_P D vwCl (WX5 cI cZ cR q0 d0) H → va_D A (WX5 cI cZ cR q0 d0) → va_S A H0 H locs → lv_has ls 5 [(0, .ref (q0 0)), (2, .int v2), (3, .int st.1), (4, .int st.2)] → W p l e rmX5_isWithin s m args below meth c H locs 0 0 Q (F0 m 5 ls [])) (Wx := tm_elm (fun (o : Int32 × Int32) => ∀ (H : Heap) (locs : List Loc) (ls : Array Slot), va_P D vwCl (WX5 cI cZ cR q0 d0) H → va_D A (WX5 cI cZ cR q0 d0) → va_S A H0 H locs → lv_has ls 5 [] → W p l e rmX5_isWithin s m args below meth c H locs 0 0 Q (F0 m 40 ls [])) (fun (o : Int32 × Int32) => ∀ (H : Heap) (locs : List Loc) (ls : Array Slot), va_P D vwCl (WX5 cI cZ cR q0 d0) H → va_D A (WX5 cI cZ cR q0 d0) → va_S A H0 H locs → lv_has ls 5 [] → W p l e rmX5_isWithin s m args below meth c H locs 0 0 Q (F0 m 25 ls []))) ?_
  intro st r hf hk H locs ls hP hD hS hl
  unfold bX5_isWithin_5 at hf
  refine lv_iload hx hb dX5_isWithin_5 (lv_at hl 3 rfl) ?_
  refine lv_bipush (v := 24) hx hb dX5_isWithin_7 (by decide) ?_
  refine lv_icmp_ge (tgt := 40) hx hb dX5_isWithin_9 (by decide) (fun c_1 => ?_) (fun c_1 => ?_)
  · have hf := tm_iT c_1 hf
    obtain rfl := Option.some.inj hf
    exact hk _ _ _ hP hD hS (lv_sub hl [] rfl)
  · have hf := tm_iF c_1 hf
    refine lv_aload_n hx hb dX5_isWithin_12 rfl (lv_at hl 0 rfl) ?_
    refine lv_iload_n hx hb dX5_isWithin_13 rfl (lv_at hl 2 rfl) ?_
    obtain ⟨t_2, ot_2, hf⟩ := tm_bS hf
    refine tm_cVI (As := [.int st.1]) (rest := []) ⟨hx, hb, hml, hown, hts⟩ (tX5_has l D cI cZ cR N q0 d0 st.1 t_2 ot_2) (cwV 1 hts gX5_isWithin_X5_has rfl rfl rfl hdwsV_X5_has ⟨Nat.le_of_ble_eq_true rfl, Nat.le_of_ble_eq_true rfl⟩) hK hP hD hS hA [0, 1, 2] (by decide) rfl rfl (ci := 5) rfl rfl rfl (fun _ => WX5 cI cZ cR q0 d0) (()) rfl rfl hl.1 rfl (Nat.le_of_ble_eq_true rfl) dX5_isWithin_14 ⟨Nat.zero_le _, Nat.zero_le _⟩ (fun _ _ H locs hP hD hS => ?_)
    refine lv_if_eq (tgt := 40) hx hb dX5_isWithin_17 (by decide) (fun c_3 => ?_) (fun c_3 => ?_)
    · have hf := tm_iT c_3 hf
      obtain rfl := Option.some.inj hf
      exact hk _ _ _ hP hD hS (lv_sub hl [] rfl)
    · have hf := tm_iF c_3 hf
      refine lv_iload_n hx hb dX5_isWithin_20 rfl (lv_at hl 2 rfl) ?_
      refine lv_iload_n hx hb dX5_isWithin_21 rfl (lv_at hl 1 rfl) ?_
      refine lv_icmp_ne (tgt := 27) hx hb dX5_isWithin_22 (by decide) (fun c_4 => ?_) (fun c_4 => ?_)
      · have hf := tm_iF c_4 hf
        refine lv_aload_n hx hb dX5_isWithin_27 rfl (lv_at hl 0 rfl) ?_
        refine va_get (D := D) (ci := 5) (v := .ref (q0 2)) (C := RX5) (T := TX5) (N := 7) hx hb hts uX5_isWithin_X5 hown hK hP 0 rfl rfl 1 (by decide) (hts _ kX5_isWithin_f15) (fun _ h9 => h9) rfl dX5_isWithin_28 ?_
        refine lv_iload_n hx hb dX5_isWithin_31 rfl (lv_at hl 2 rfl) ?_
        obtain ⟨h_5, hf⟩ := tm_gS hf
        refine va_iald hx hb hK hP 2 0 rfl rfl (tm_inb_in h_5) dX5_isWithin_32 ?_
        refine lv_topi (fun x_6 ex_6 => ?_)
        have hf := tm_at ex_6 hf
        refine lv_istore_n (lv' := [(3, .int x_6), (0, .ref (q0 0)), (2, .int v2), (4, .int st.2)]) hx hb dX5_isWithin_33 rfl hl (by decide) rfl (fun ls hl => ?_)
        obtain ⟨x_7, ex_7⟩ : ∃ y : Int32, y = st.2 + 1 := ⟨_, rfl⟩
        have hf := tm_at ex_7 hf
        refine lv_iinc (v := x_7) (lv' := [(4, .int x_7), (3, .int x_6), (0, .ref (q0 0)), (2, .int v2)]) hx hb dX5_isWithin_34 hl (k := 3) rfl (by rw [ex_7]; rfl) (by decide) rfl (fun ls hl => ?_)
        refine lv_goto (tgt := 5) hx hb dX5_isWithin_37 (by decide) ?_
        obtain rfl := Option.some.inj hf
        exact hk _ _ _ hP hD hS (lv_sub hl [2, 3, 1, 0] rfl)
      · have hf := tm_iT c_4 hf
        obtain rfl := Option.some.inj hf
        exact hk _ _ _ hP hD hS (lv_sub hl [] rfl)
set_option maxHeartbeats 4000000 in
set_option maxRecDepth 100000 in
theorem tX5_isWithin (l : Launch) (D : va_G) (cI cZ cR : ClassId) (N : Nat) (q0 : Nat → Nat) (d0 : tm_M) (p1 : Int32) (p2 : Int32) (r0 : Int32) (hf : fX5_isWithin N d0 p1 p2 = some r0) : tm_CI l D (tm_ty cI cZ cR) yX5_isWithin wsX5_isWithin rmX5_isWithin [.ref (q0 0), .int p1, .int p2] (WX5 cI cZ cR q0 d0) r0 (WX5 cI cZ cR q0 d0) := by
  refine tm_mkI (cc := cX5_isWithin) (maxL := 5) (ty := .boolean) (by decide) rfl (Nat.le_of_ble_eq_true rfl) ?_
  intro p e s m below meth c A ls Q C hP hD hS hl hend
  have C : tm_Cx p s m c [.ref (q0 0), .int p1, .int p2].toArray cX5_isWithin 5 RX5 wsX5_isWithin D (tm_ty cI cZ cR) A s.heap := C
  obtain ⟨hx, hb, hml, hown, hts, hK, hA⟩ := id C
  have hl : lv_has ls 5 [(0, .ref (q0 0)), (1, .int p1), (2, .int p2)] := hl
  unfold fX5_isWithin at hf
  refine lv_iload_n hx hb dX5_isWithin_0 rfl (lv_at hl 1 rfl) ?_
  refine lv_istore_n (lv' := [(3, .int p1), (0, .ref (q0 0)), (1, .int p1), (2, .int p2)]) hx hb dX5_isWithin_1 rfl hl (by decide) rfl (fun ls hl => ?_)
  refine lv_iconst (v := 0) hx hb dX5_isWithin_2 (by decide) ?_
  refine lv_istore (lv' := [(4, .int 0), (3, .int p1), (0, .ref (q0 0)), (1, .int p1), (2, .int p2)]) hx hb dX5_isWithin_3 hl (by decide) rfl (fun ls hl => ?_)
  obtain ⟨t_8, ot_8, hf⟩ := tm_bS hf
  refine wX5_isWithin_5 l D cI cZ cR N q0 C d0 p2 _ _ _ ot_8 ?_ _ _ _ hP hD hS (lv_sub hl [2, 4, 1, 0] rfl)
  rcases t_8 with t_8a | t_8b
  · have hf := tm_twL hf
    intro H locs ls hP hD hS hl
    refine lv_iconst (v := 0) hx hb dX5_isWithin_40 (by decide) ?_
    obtain rfl := Option.some.inj hf
    exact hend _ _ _ _ hP hD hS (by decide) dX5_isWithin_41
  · have hf := tm_twR hf
    intro H locs ls hP hD hS hl
    refine lv_iconst (v := 1) hx hb dX5_isWithin_25 (by decide) ?_
    obtain rfl := Option.some.inj hf
    exact hend _ _ _ _ hP hD hS (by decide) dX5_isWithin_26
set_option maxHeartbeats 4000000 in
set_option maxRecDepth 100000 in
theorem tX5_append (l : Launch) (D : va_G) (cI cZ cR : ClassId) (N : Nat) (q0 : Nat → Nat) (d0 : tm_M) (p1 : Int32) (p2 : Int32) (z0 : tm_M) (hf : fX5_append N d0 p1 p2 = some z0) : tm_CV l D (tm_ty cI cZ cR) yX5_append wsX5_append rmX5_append [.ref (q0 0), .int p1, .int p2] (WX5 cI cZ cR q0 d0) (WX5 cI cZ cR q0 z0) := by
  refine tm_mkV (cc := cX5_append) (maxL := 3) (by decide) rfl (Nat.le_of_ble_eq_true rfl) ?_
  intro p e s m below meth c A ls Q C hP hD hS hl hend
  have C : tm_Cx p s m c [.ref (q0 0), .int p1, .int p2].toArray cX5_append 3 RX5 wsX5_append D (tm_ty cI cZ cR) A s.heap := C
  obtain ⟨hx, hb, hml, hown, hts, hK, hA⟩ := id C
  have hl : lv_has ls 3 [(0, .ref (q0 0)), (1, .int p1), (2, .int p2)] := hl
  unfold fX5_append at hf
  refine lv_aload_n hx hb dX5_append_0 rfl (lv_at hl 0 rfl) ?_
  refine va_get (D := D) (ci := 5) (v := .int (d0 0 2)) (C := RX5) (T := TX5) (N := 7) hx hb hts uX5_append_X5 hown hK hP 0 rfl rfl 2 (by decide) (hts _ kX5_append_f18) (fun _ h9 => h9) rfl dX5_append_1 ?_
  refine lv_bipush (v := 24) hx hb dX5_append_4 (by decide) ?_
  refine lv_icmp_ge (tgt := 39) hx hb dX5_append_6 (by decide) (fun c_1 => ?_) (fun c_1 => ?_)
  · have hf := tm_iT c_1 hf
    obtain rfl := Option.some.inj hf
    exact hend _ _ _ _ hP hD hS dX5_append_39
  · have hf := tm_iF c_1 hf
    refine lv_aload_n hx hb dX5_append_9 rfl (lv_at hl 0 rfl) ?_
    refine va_get (D := D) (ci := 5) (v := .ref (q0 1)) (C := RX5) (T := TX5) (N := 7) hx hb hts uX5_append_X5 hown hK hP 0 rfl rfl 0 (by decide) (hts _ kX5_append_f9) (fun _ h9 => h9) rfl dX5_append_10 ?_
    refine lv_aload_n hx hb dX5_append_13 rfl (lv_at hl 0 rfl) ?_
    refine va_get (D := D) (ci := 5) (v := .int (d0 0 2)) (C := RX5) (T := TX5) (N := 7) hx hb hts uX5_append_X5 hown hK hP 0 rfl rfl 2 (by decide) (hts _ kX5_append_f18) (fun _ h9 => h9) rfl dX5_append_14 ?_
    refine lv_iload_n hx hb dX5_append_17 rfl (lv_at hl 2 rfl) ?_
    obtain ⟨h_2, hf⟩ := tm_gS hf
    refine tm_iast hx hb hK hP hD hS 1 0 rfl rfl (tm_inb_in h_2) dX5_append_18 (fun z => WX5 cI cZ cR q0 z) (tm_upc d0 1 (upd (d0 1) (d0 0 2).toNatClampNeg p2)) rfl (fun d0_3 ed0_3 H locs hP hD hS => ?_)
    have hf := tm_at ed0_3 hf
    refine lv_aload_n hx hb dX5_append_19 rfl (lv_at hl 0 rfl) ?_
    refine va_get (D := D) (ci := 5) (v := .ref (q0 2)) (C := RX5) (T := TX5) (N := 7) hx hb hts uX5_append_X5 hown hK hP 0 rfl rfl 1 (by decide) (hts _ kX5_append_f15) (fun _ h9 => h9) rfl dX5_append_20 ?_
    refine lv_aload_n hx hb dX5_append_23 rfl (lv_at hl 0 rfl) ?_
    refine va_get (D := D) (ci := 5) (v := .int (d0_3 0 2)) (C := RX5) (T := TX5) (N := 7) hx hb hts uX5_append_X5 hown hK hP 0 rfl rfl 2 (by decide) (hts _ kX5_append_f18) (fun _ h9 => h9) rfl dX5_append_24 ?_
    refine lv_iload_n hx hb dX5_append_27 rfl (lv_at hl 1 rfl) ?_
    obtain ⟨h_4, hf⟩ := tm_gS hf
    refine tm_iast hx hb hK hP hD hS 2 0 rfl rfl (tm_inb_in h_4) dX5_append_28 (fun z => WX5 cI cZ cR q0 z) (tm_upc d0_3 2 (upd (d0_3 2) (d0_3 0 2).toNatClampNeg p1)) rfl (fun d0_5 ed0_5 H locs hP hD hS => ?_)
    have hf := tm_at ed0_5 hf
    refine lv_aload_n hx hb dX5_append_29 rfl (lv_at hl 0 rfl) ?_
    refine lv_dup hx hb dX5_append_30 rfl ?_
    refine va_get (D := D) (ci := 5) (v := .int (d0_5 0 2)) (C := RX5) (T := TX5) (N := 7) hx hb hts uX5_append_X5 hown hK hP 0 rfl rfl 2 (by decide) (hts _ kX5_append_f18) (fun _ h9 => h9) rfl dX5_append_31 ?_
    refine lv_iconst (v := 1) hx hb dX5_append_34 (by decide) ?_
    refine lv_iadd hx hb dX5_append_35 ?_
    refine tm_put (D := D) (ci := 5) (v := .int ((d0_5 0 2) + 1)) (ty := .int) (C := RX5) (T := TX5) (N := 7) hx hb hts uX5_append_X5 tyX5 tyX5_ok nmX5 hown hK hP hD hS 0 rfl rfl 2 (by decide) (hts _ kX5_append_f18) (fun _ h9 => h9) rfl (by decide +kernel) rfl rfl (Nat.le_of_ble_eq_true rfl) dX5_append_36 (fun z => WX5 cI cZ cR q0 z) (tm_upk d0_5 0 2 ((d0_5 0 2) + 1)) rfl (fun d0_6 ed0_6 H locs hP hD hS => ?_)
    have hf := tm_at ed0_6 hf
    obtain rfl := Option.some.inj hf
    exact hend _ _ _ _ hP hD hS dX5_append_39
set_option maxHeartbeats 4000000 in
set_option maxRecDepth 100000 in
theorem wX5_takeOut_17 (l : Launch) (D : va_G) (cI cZ cR : ClassId) (N : Nat) (q0 : Nat → Nat) {p : Program} {e : Env} {s : State} {m : MethodId} {args : Array Value} {below : List Frame} {meth : Method} {c : Code} {A : Nat → Prop} {H0 : Heap} {Q : State → Prop} (C : tm_Cx p s m c args cX5_takeOut 3 RX5 wsX5_takeOut D (tm_ty cI cZ cR) A H0) (v1 : Int32) : ∀ (n : Nat) (st : Int32 × tm_M) (o : (Int32 × tm_M)), tm_whl (bX5_takeOut_17 N) n st = some o → (fun (o : Int32 × tm_M) => ∀ (H : Heap) (locs : List Loc) (ls : Array Slot), va_P D vwCl (WX5 cI cZ cR q0 o.2) H → va_D A (WX5 cI cZ cR q0 o.2) → va_S A H0 H locs → lv_has ls 3 [(0, .ref (q0 0)), (1, .int v1)] → W p l e rmX5_takeOut s m args below meth c H locs 0 0 Q (F0 m 59 ls [])) o → (fun (st : Int32 × tm_M) => ∀ (H : Heap) (locs : List Loc) (ls : Array Slot), va_P D vwCl (WX5 cI cZ cR q0 st.2) H → va_D A (WX5 cI cZ cR q0 st.2) → va_S A H0 H locs → lv_has ls 3 [(0, .ref (q0 0)), (1, .int v1), (2, .int st.1)] → W p l e rmX5_takeOut s m args below meth c H locs 0 0 Q (F0 m 17 ls [])) st := by
  obtain ⟨hx, hb, hml, hown, hts, hK, hA⟩ := id C
  refine tm_whl_W (Wh := fun (st : Int32 × tm_M) => ∀ (H : Heap) (locs : List Loc) (ls : Array Slot), va_P D vwCl (WX5 cI cZ cR q0 st.2) H → va_D A (WX5 cI cZ cR q0 st.2) → va_S A H0 H locs → lv_has ls 3 [(0, .ref (q0 0)), (1, .int v1), (2, .int st.1)] → W p l e rmX5_takeOut s m args below meth c H locs 0 0 Q (F0 m 17 ls [])) (Wx := fun (o : Int32 × tm_M) => ∀ (H : Heap) (locs : List Loc) (ls : Array Slot), va_P D vwCl (WX5 cI cZ cR q0 o.2) H → va_D A (WX5 cI cZ cR q0 o.2) → va_S A H0 H locs → lv_has ls 3 [(0, .ref (q0 0)), (1, .int v1)] → W p l e rmX5_takeOut s m args below meth c H locs 0 0 Q (F0 m 59 ls [])) ?_
  intro st r hf hk H locs ls hP hD hS hl
  unfold bX5_takeOut_17 at hf
  refine lv_iload_n hx hb dX5_takeOut_17 rfl (lv_at hl 2 rfl) ?_
  refine lv_aload_n hx hb dX5_takeOut_18 rfl (lv_at hl 0 rfl) ?_
  refine va_get (D := D) (ci := 5) (v := .int (st.2 0 2)) (C := RX5) (T := TX5) (N := 7) hx hb hts uX5_takeOut_X5 hown hK hP 0 rfl rfl 2 (by decide) (hts _ kX5_takeOut_f18) (fun _ h9 => h9) rfl dX5_takeOut_19 ?_
  refine lv_icmp_ge (tgt := 59) hx hb dX5_takeOut_22 (by decide) (fun c_5 => ?_) (fun c_5 => ?_)
  · have hf := tm_iT c_5 hf
    obtain rfl := Option.some.inj hf
    exact hk _ _ _ hP hD hS (lv_sub hl [0, 1] rfl)
  · have hf := tm_iF c_5 hf
    refine lv_aload_n hx hb dX5_takeOut_25 rfl (lv_at hl 0 rfl) ?_
    refine va_get (D := D) (ci := 5) (v := .ref (q0 1)) (C := RX5) (T := TX5) (N := 7) hx hb hts uX5_takeOut_X5 hown hK hP 0 rfl rfl 0 (by decide) (hts _ kX5_takeOut_f9) (fun _ h9 => h9) rfl dX5_takeOut_26 ?_
    refine lv_iload_n hx hb dX5_takeOut_29 rfl (lv_at hl 2 rfl) ?_
    refine lv_iconst (v := 1) hx hb dX5_takeOut_30 (by decide) ?_
    refine lv_isub hx hb dX5_takeOut_31 ?_
    refine lv_aload_n hx hb dX5_takeOut_32 rfl (lv_at hl 0 rfl) ?_
    refine va_get (D := D) (ci := 5) (v := .ref (q0 1)) (C := RX5) (T := TX5) (N := 7) hx hb hts uX5_takeOut_X5 hown hK hP 0 rfl rfl 0 (by decide) (hts _ kX5_takeOut_f9) (fun _ h9 => h9) rfl dX5_takeOut_33 ?_
    refine lv_iload_n hx hb dX5_takeOut_36 rfl (lv_at hl 2 rfl) ?_
    obtain ⟨h_6, hf⟩ := tm_gS hf
    refine va_iald hx hb hK hP 1 0 rfl rfl (tm_inb_in h_6) dX5_takeOut_37 ?_
    obtain ⟨h_7, hf⟩ := tm_gS hf
    refine tm_iast hx hb hK hP hD hS 1 0 rfl rfl (tm_inb_in h_7) dX5_takeOut_38 (fun z => WX5 cI cZ cR q0 z) (tm_upc st.2 1 (upd (st.2 1) (st.1 - 1).toNatClampNeg (st.2 1 st.1.toNatClampNeg))) rfl (fun d0_8 ed0_8 H locs hP hD hS => ?_)
    have hf := tm_at ed0_8 hf
    refine lv_aload_n hx hb dX5_takeOut_39 rfl (lv_at hl 0 rfl) ?_
    refine va_get (D := D) (ci := 5) (v := .ref (q0 2)) (C := RX5) (T := TX5) (N := 7) hx hb hts uX5_takeOut_X5 hown hK hP 0 rfl rfl 1 (by decide) (hts _ kX5_takeOut_f15) (fun _ h9 => h9) rfl dX5_takeOut_40 ?_
    refine lv_iload_n hx hb dX5_takeOut_43 rfl (lv_at hl 2 rfl) ?_
    refine lv_iconst (v := 1) hx hb dX5_takeOut_44 (by decide) ?_
    refine lv_isub hx hb dX5_takeOut_45 ?_
    refine lv_aload_n hx hb dX5_takeOut_46 rfl (lv_at hl 0 rfl) ?_
    refine va_get (D := D) (ci := 5) (v := .ref (q0 2)) (C := RX5) (T := TX5) (N := 7) hx hb hts uX5_takeOut_X5 hown hK hP 0 rfl rfl 1 (by decide) (hts _ kX5_takeOut_f15) (fun _ h9 => h9) rfl dX5_takeOut_47 ?_
    refine lv_iload_n hx hb dX5_takeOut_50 rfl (lv_at hl 2 rfl) ?_
    refine va_iald hx hb hK hP 2 0 rfl rfl (tm_inb_in h_6) dX5_takeOut_51 ?_
    refine tm_iast hx hb hK hP hD hS 2 0 rfl rfl (tm_inb_in h_7) dX5_takeOut_52 (fun z => WX5 cI cZ cR q0 z) (tm_upc d0_8 2 (upd (d0_8 2) (st.1 - 1).toNatClampNeg (d0_8 2 st.1.toNatClampNeg))) rfl (fun d0_9 ed0_9 H locs hP hD hS => ?_)
    have hf := tm_at ed0_9 hf
    obtain ⟨x_10, ex_10⟩ : ∃ y : Int32, y = st.1 + 1 := ⟨_, rfl⟩
    have hf := tm_at ex_10 hf
    refine lv_iinc (v := x_10) (lv' := [(2, .int x_10), (0, .ref (q0 0)), (1, .int v1)]) hx hb dX5_takeOut_53 hl (k := 2) rfl (by rw [ex_10]; rfl) (by decide) rfl (fun ls hl => ?_)
    refine lv_goto (tgt := 17) hx hb dX5_takeOut_56 (by decide) ?_
    obtain rfl := Option.some.inj hf
    exact hk _ _ _ hP hD hS (lv_sub hl [1, 2, 0] rfl)
set_option maxHeartbeats 4000000 in
set_option maxRecDepth 100000 in
theorem wX5_takeOut_71 (l : Launch) (D : va_G) (cI cZ cR : ClassId) (N : Nat) (q0 : Nat → Nat) {p : Program} {e : Env} {s : State} {m : MethodId} {args : Array Value} {below : List Frame} {meth : Method} {c : Code} {A : Nat → Prop} {H0 : Heap} {Q : State → Prop} (C : tm_Cx p s m c args cX5_takeOut 3 RX5 wsX5_takeOut D (tm_ty cI cZ cR) A H0) (v1 : Int32) : ∀ (n : Nat) (st : Int32 × tm_M) (o : (Int32 × tm_M)), tm_whl (bX5_takeOut_71 N v1) n st = some o → (fun (o : Int32 × tm_M) => ∀ (H : Heap) (locs : List Loc) (ls : Array Slot), va_P D vwCl (WX5 cI cZ cR q0 o.2) H → va_D A (WX5 cI cZ cR q0 o.2) → va_S A H0 H locs → lv_has ls 3 [] → W p l e rmX5_takeOut s m args below meth c H locs 0 0 Q (F0 m 105 ls [])) o → (fun (st : Int32 × tm_M) => ∀ (H : Heap) (locs : List Loc) (ls : Array Slot), va_P D vwCl (WX5 cI cZ cR q0 st.2) H → va_D A (WX5 cI cZ cR q0 st.2) → va_S A H0 H locs → lv_has ls 3 [(0, .ref (q0 0)), (1, .int v1), (2, .int st.1)] → W p l e rmX5_takeOut s m args below meth c H locs 0 0 Q (F0 m 71 ls [])) st := by
  obtain ⟨hx, hb, hml, hown, hts, hK, hA⟩ := id C
  refine tm_whl_W (Wh := fun (st : Int32 × tm_M) => ∀ (H : Heap) (locs : List Loc) (ls : Array Slot), va_P D vwCl (WX5 cI cZ cR q0 st.2) H → va_D A (WX5 cI cZ cR q0 st.2) → va_S A H0 H locs → lv_has ls 3 [(0, .ref (q0 0)), (1, .int v1), (2, .int st.1)] → W p l e rmX5_takeOut s m args below meth c H locs 0 0 Q (F0 m 71 ls [])) (Wx := fun (o : Int32 × tm_M) => ∀ (H : Heap) (locs : List Loc) (ls : Array Slot), va_P D vwCl (WX5 cI cZ cR q0 o.2) H → va_D A (WX5 cI cZ cR q0 o.2) → va_S A H0 H locs → lv_has ls 3 [] → W p l e rmX5_takeOut s m args below meth c H locs 0 0 Q (F0 m 105 ls [])) ?_
  intro st r hf hk H locs ls hP hD hS hl
  unfold bX5_takeOut_71 at hf
  refine lv_iload_n hx hb dX5_takeOut_71 rfl (lv_at hl 2 rfl) ?_
  refine lv_aload_n hx hb dX5_takeOut_72 rfl (lv_at hl 0 rfl) ?_
  refine va_get (D := D) (ci := 5) (v := .int (st.2 0 2)) (C := RX5) (T := TX5) (N := 7) hx hb hts uX5_takeOut_X5 hown hK hP 0 rfl rfl 2 (by decide) (hts _ kX5_takeOut_f18) (fun _ h9 => h9) rfl dX5_takeOut_73 ?_
  refine lv_icmp_ge (tgt := 105) hx hb dX5_takeOut_76 (by decide) (fun c_13 => ?_) (fun c_13 => ?_)
  · have hf := tm_iT c_13 hf
    obtain rfl := Option.some.inj hf
    exact hk _ _ _ hP hD hS (lv_sub hl [] rfl)
  · have hf := tm_iF c_13 hf
    refine lv_aload_n hx hb dX5_takeOut_79 rfl (lv_at hl 0 rfl) ?_
    refine va_get (D := D) (ci := 5) (v := .ref (q0 2)) (C := RX5) (T := TX5) (N := 7) hx hb hts uX5_takeOut_X5 hown hK hP 0 rfl rfl 1 (by decide) (hts _ kX5_takeOut_f15) (fun _ h9 => h9) rfl dX5_takeOut_80 ?_
    refine lv_iload_n hx hb dX5_takeOut_83 rfl (lv_at hl 2 rfl) ?_
    obtain ⟨h_14, hf⟩ := tm_gS hf
    refine va_iald hx hb hK hP 2 0 rfl rfl (tm_inb_in h_14) dX5_takeOut_84 ?_
    refine lv_iload_n hx hb dX5_takeOut_85 rfl (lv_at hl 1 rfl) ?_
    refine lv_icmp_le (tgt := 99) hx hb dX5_takeOut_86 (by decide) (fun c_15 => ?_) (fun c_15 => ?_)
    · have hf := tm_iT c_15 hf
      obtain ⟨x_16, ex_16⟩ : ∃ y : Int32, y = st.1 + 1 := ⟨_, rfl⟩
      have hf := tm_at ex_16 hf
      refine lv_iinc (v := x_16) (lv' := [(2, .int x_16), (0, .ref (q0 0)), (1, .int v1)]) hx hb dX5_takeOut_99 hl (k := 2) rfl (by rw [ex_16]; rfl) (by decide) rfl (fun ls hl => ?_)
      refine lv_goto (tgt := 71) hx hb dX5_takeOut_102 (by decide) ?_
      obtain rfl := Option.some.inj hf
      exact hk _ _ _ hP hD hS (lv_sub hl [1, 2, 0] rfl)
    · have hf := tm_iF c_15 hf
      refine lv_aload_n hx hb dX5_takeOut_89 rfl (lv_at hl 0 rfl) ?_
      refine va_get (D := D) (ci := 5) (v := .ref (q0 2)) (C := RX5) (T := TX5) (N := 7) hx hb hts uX5_takeOut_X5 hown hK hP 0 rfl rfl 1 (by decide) (hts _ kX5_takeOut_f15) (fun _ h9 => h9) rfl dX5_takeOut_90 ?_
      refine lv_iload_n hx hb dX5_takeOut_93 rfl (lv_at hl 2 rfl) ?_
      refine lv_dup2_11 hx hb dX5_takeOut_94 rfl rfl ?_
      refine va_iald hx hb hK hP 2 0 rfl rfl (tm_inb_in h_14) dX5_takeOut_95 ?_
      refine lv_iconst (v := 1) hx hb dX5_takeOut_96 (by decide) ?_
      refine lv_isub hx hb dX5_takeOut_97 ?_
      refine tm_iast hx hb hK hP hD hS 2 0 rfl rfl (tm_inb_in h_14) dX5_takeOut_98 (fun z => WX5 cI cZ cR q0 z) (tm_upc st.2 2 (upd (st.2 2) st.1.toNatClampNeg ((st.2 2 st.1.toNatClampNeg) - 1))) rfl (fun d0_17 ed0_17 H locs hP hD hS => ?_)
      have hf := tm_at ed0_17 hf
      obtain ⟨x_18, ex_18⟩ : ∃ y : Int32, y = st.1 + 1 := ⟨_, rfl⟩
      have hf := tm_at ex_18 hf
      refine lv_iinc (v := x_18) (lv' := [(2, .int x_18), (0, .ref (q0 0)), (1, .int v1)]) hx hb dX5_takeOut_99 hl (k := 2) rfl (by rw [ex_18]; rfl) (by decide) rfl (fun ls hl => ?_)
      refine lv_goto (tgt := 71) hx hb dX5_takeOut_102 (by decide) ?_
      obtain rfl := Option.some.inj hf
      exact hk _ _ _ hP hD hS (lv_sub hl [1, 2, 0] rfl)
set_option maxHeartbeats 4000000 in
set_option maxRecDepth 100000 in
theorem tX5_takeOut (l : Launch) (D : va_G) (cI cZ cR : ClassId) (N : Nat) (q0 : Nat → Nat) (d0 : tm_M) (p1 : Int32) (z0 : tm_M) (hf : fX5_takeOut N d0 p1 = some z0) : tm_CV l D (tm_ty cI cZ cR) yX5_takeOut wsX5_takeOut rmX5_takeOut [.ref (q0 0), .int p1] (WX5 cI cZ cR q0 d0) (WX5 cI cZ cR q0 z0) := by
  refine tm_mkV (cc := cX5_takeOut) (maxL := 3) (by decide) rfl (Nat.le_of_ble_eq_true rfl) ?_
  intro p e s m below meth c A ls Q C hP hD hS hl hend
  have C : tm_Cx p s m c [.ref (q0 0), .int p1].toArray cX5_takeOut 3 RX5 wsX5_takeOut D (tm_ty cI cZ cR) A s.heap := C
  obtain ⟨hx, hb, hml, hown, hts, hK, hA⟩ := id C
  have hl : lv_has ls 3 [(0, .ref (q0 0)), (1, .int p1)] := hl
  unfold fX5_takeOut at hf
  refine lv_aload_n hx hb dX5_takeOut_0 rfl (lv_at hl 0 rfl) ?_
  refine lv_iload_n hx hb dX5_takeOut_1 rfl (lv_at hl 1 rfl) ?_
  obtain ⟨t_1, ot_1, hf⟩ := tm_bS hf
  refine tm_cVI (As := [.int p1]) (rest := []) ⟨hx, hb, hml, hown, hts⟩ (tX5_has l D cI cZ cR N q0 d0 p1 t_1 ot_1) (cwV 1 hts gX5_takeOut_X5_has rfl rfl rfl hdwsV_X5_has ⟨Nat.le_of_ble_eq_true rfl, Nat.le_of_ble_eq_true rfl⟩) hK hP hD hS hA [0, 1, 2] (by decide) rfl rfl (ci := 5) rfl rfl rfl (fun _ => WX5 cI cZ cR q0 d0) (()) rfl rfl hl.1 rfl (Nat.le_of_ble_eq_true rfl) dX5_takeOut_2 ⟨Nat.zero_le _, Nat.zero_le _⟩ (fun _ _ H locs hP hD hS => ?_)
  refine lv_if_eq (tgt := 12) hx hb dX5_takeOut_5 (by decide) (fun c_2 => ?_) (fun c_2 => ?_)
  · have hf := tm_iT c_2 hf
    obtain rfl := Option.some.inj hf
    exact hend _ _ _ _ hP hD hS dX5_takeOut_12
  · have hf := tm_iF c_2 hf
    refine lv_iload_n hx hb dX5_takeOut_8 rfl (lv_at hl 1 rfl) ?_
    refine lv_if_ne (tgt := 13) hx hb dX5_takeOut_9 (by decide) (fun c_3 => ?_) (fun c_3 => ?_)
    · have hf := tm_iF c_3 hf
      refine lv_iload_n hx hb dX5_takeOut_13 rfl (lv_at hl 1 rfl) ?_
      refine lv_iconst (v := 1) hx hb dX5_takeOut_14 (by decide) ?_
      refine lv_iadd hx hb dX5_takeOut_15 ?_
      refine lv_topi (fun x_4 ex_4 => ?_)
      have hf := tm_at ex_4 hf
      refine lv_istore_n (lv' := [(2, .int x_4), (0, .ref (q0 0)), (1, .int p1)]) hx hb dX5_takeOut_16 rfl hl (by decide) rfl (fun ls hl => ?_)
      obtain ⟨t_11, ot_11, hf⟩ := tm_bS hf
      refine wX5_takeOut_17 l D cI cZ cR N q0 C p1 _ _ _ ot_11 ?_ _ _ _ hP hD hS (lv_sub hl [1, 2, 0] rfl)
      intro H locs ls hP hD hS hl
      refine lv_aload_n hx hb dX5_takeOut_59 rfl (lv_at hl 0 rfl) ?_
      refine lv_dup hx hb dX5_takeOut_60 rfl ?_
      refine va_get (D := D) (ci := 5) (v := .int (t_11.2 0 2)) (C := RX5) (T := TX5) (N := 7) hx hb hts uX5_takeOut_X5 hown hK hP 0 rfl rfl 2 (by decide) (hts _ kX5_takeOut_f18) (fun _ h9 => h9) rfl dX5_takeOut_61 ?_
      refine lv_iconst (v := 1) hx hb dX5_takeOut_64 (by decide) ?_
      refine lv_isub hx hb dX5_takeOut_65 ?_
      refine tm_put (D := D) (ci := 5) (v := .int ((t_11.2 0 2) - 1)) (ty := .int) (C := RX5) (T := TX5) (N := 7) hx hb hts uX5_takeOut_X5 tyX5 tyX5_ok nmX5 hown hK hP hD hS 0 rfl rfl 2 (by decide) (hts _ kX5_takeOut_f18) (fun _ h9 => h9) rfl (by decide +kernel) rfl rfl (Nat.le_of_ble_eq_true rfl) dX5_takeOut_66 (fun z => WX5 cI cZ cR q0 z) (tm_upk t_11.2 0 2 ((t_11.2 0 2) - 1)) rfl (fun d0_12 ed0_12 H locs hP hD hS => ?_)
      have hf := tm_at ed0_12 hf
      refine lv_iconst (v := 0) hx hb dX5_takeOut_69 (by decide) ?_
      refine lv_istore_n (lv' := [(2, .int 0), (0, .ref (q0 0)), (1, .int p1)]) hx hb dX5_takeOut_70 rfl hl (by decide) rfl (fun ls hl => ?_)
      obtain ⟨t_19, ot_19, hf⟩ := tm_bS hf
      refine wX5_takeOut_71 l D cI cZ cR N q0 C p1 _ _ _ ot_19 ?_ _ _ _ hP hD hS (lv_sub hl [1, 2, 0] rfl)
      intro H locs ls hP hD hS hl
      obtain rfl := Option.some.inj hf
      exact hend _ _ _ _ hP hD hS dX5_takeOut_105
    · have hf := tm_iT c_3 hf
      obtain rfl := Option.some.inj hf
      exact hend _ _ _ _ hP hD hS dX5_takeOut_12
