set_option maxHeartbeats 4000000 in
set_option maxRecDepth 100000 in
theorem tX6_push (l : Launch) (D : va_G) (cI cZ cR : ClassId) (N : Nat) (q0 : Nat → Nat) (q1 : Nat → Nat) (d0 : tm_M) (d1 : tm_M) (z0 : tm_M) (hf : fX6_push N d0 d1 = some z0) : tm_CV l D (tm_ty cI cZ cR) yX6_push wsX6_push rmX6_push [.ref (q0 0), .ref (q1 0)] (WX6X5 cI cZ cR q0 q1 d0 d1) (WX6X5 cI cZ cR q0 q1 z0 d1) := by
  refine tm_mkV (cc := cX6_push) (maxL := 2) (by decide) rfl (Nat.le_of_ble_eq_true rfl) ?_
  intro p e s m below meth c A ls Q C hP hD hS hl hend
  have C : tm_Cx p s m c [.ref (q0 0), .ref (q1 0)].toArray cX6_push 2 RX6 wsX6_push D (tm_ty cI cZ cR) A s.heap := C
  obtain ⟨hx, hb, hml, hown, hts, hK, hA⟩ := id C
  have hl : lv_has ls 2 [(0, .ref (q0 0)), (1, .ref (q1 0))] := hl
  unfold fX6_push at hf
  refine lv_aload_n hx hb dX6_push_0 rfl (lv_at hl 0 rfl) ?_
  refine va_get (D := D) (ci := 6) (v := .ref (q0 1)) (C := RX6) (T := TX6) (N := 3) hx hb hts uX6_push_X6 hown hK hP 0 rfl rfl 0 (by decide) (hts _ kX6_push_f11) (fun _ h9 => h9) rfl dX6_push_1 ?_
  refine lv_aload_n hx hb dX6_push_4 rfl (lv_at hl 0 rfl) ?_
  refine va_get (D := D) (ci := 6) (v := .int (d0 0 1)) (C := RX6) (T := TX6) (N := 3) hx hb hts uX6_push_X6 hown hK hP 0 rfl rfl 1 (by decide) (hts _ kX6_push_f18) (fun _ h9 => h9) rfl dX6_push_5 ?_
  by_cases c_1 : (d0 0 1) = 0
  · have hf := tm_iT c_1 hf
    refine va_aldq (C := "TreemapLayout$State") hx hb hK hP 1 2 rfl rfl (by rw [c_1]; exact tm_inb_in (by decide)) dX6_push_8 ?_
    rw [c_1]
    refine W.eq (g2 := F0 m 9 ls ([.ref (q0 2)])) rfl ?_
    refine lv_aload_n hx hb dX6_push_9 rfl (lv_at hl 1 rfl) ?_
    obtain ⟨t_2, ot_2, hf⟩ := tm_bS hf
    refine tm_cVV (As := [.ref (q1 0)]) (rest := []) ⟨hx, hb, hml, hown, hts⟩ (tX5_copyFrom l D cI cZ cR N (tm_sq q0 2) q1 (tm_sh d0 2) d1 t_2 ot_2) (cwV 1 hts gX6_push_X5_copyFrom rfl rfl rfl hdwsV_X5_copyFrom ⟨Nat.le_of_ble_eq_true rfl, Nat.le_of_ble_eq_true rfl⟩) hK hP hD hS hA [2, 3, 4, 14, 15, 16] (by decide) rfl rfl (ci := 5) rfl rfl rfl (fun z => WX6X5 cI cZ cR q0 q1 z d1) (tm_ins d0 2 3 t_2) rfl rfl hl.1 rfl (Nat.le_of_ble_eq_true rfl) dX6_push_10 ⟨Nat.zero_le _, Nat.zero_le _⟩ (fun d0_3 ed0_3 H locs hP hD hS => ?_)
    have hf := tm_at ed0_3 hf
    refine lv_aload_n hx hb dX6_push_13 rfl (lv_at hl 0 rfl) ?_
    refine lv_aload_n hx hb dX6_push_14 rfl (lv_at hl 0 rfl) ?_
    refine va_get (D := D) (ci := 6) (v := .int (d0_3 0 1)) (C := RX6) (T := TX6) (N := 3) hx hb hts uX6_push_X6 hown hK hP 0 rfl rfl 1 (by decide) (hts _ kX6_push_f18) (fun _ h9 => h9) rfl dX6_push_15 ?_
    refine lv_iconst (v := 1) hx hb dX6_push_18 (by decide) ?_
    refine lv_iadd hx hb dX6_push_19 ?_
    refine lv_iconst (v := 4) hx hb dX6_push_20 (by decide) ?_
    refine lv_icmp_ge (tgt := 33) hx hb dX6_push_21 (by decide) (fun c_4 => ?_) (fun c_4 => ?_)
    · have hf := tm_iT c_4 hf
      refine lv_iconst (v := 0) hx hb dX6_push_33 (by decide) ?_
      refine tm_put (D := D) (ci := 6) (v := .int 0) (ty := .int) (C := RX6) (T := TX6) (N := 3) hx hb hts uX6_push_X6 tyX6 tyX6_ok nmX6 hown hK hP hD hS 0 rfl rfl 1 (by decide) (hts _ kX6_push_f18) (fun _ h9 => h9) rfl (by decide +kernel) rfl rfl (Nat.le_of_ble_eq_true rfl) dX6_push_34 (fun z => WX6X5 cI cZ cR q0 q1 z d1) (tm_upk d0_3 0 1 0) rfl (fun d0_5 ed0_5 H locs hP hD hS => ?_)
      have hf := tm_at ed0_5 hf
      refine lv_aload_n hx hb dX6_push_37 rfl (lv_at hl 0 rfl) ?_
      refine lv_aload_n hx hb dX6_push_38 rfl (lv_at hl 0 rfl) ?_
      refine va_get (D := D) (ci := 6) (v := .int (d0_5 0 2)) (C := RX6) (T := TX6) (N := 3) hx hb hts uX6_push_X6 hown hK hP 0 rfl rfl 2 (by decide) (hts _ kX6_push_f26) (fun _ h9 => h9) rfl dX6_push_39 ?_
      refine lv_iconst (v := 4) hx hb dX6_push_42 (by decide) ?_
      refine lv_icmp_ge (tgt := 55) hx hb dX6_push_43 (by decide) (fun c_6 => ?_) (fun c_6 => ?_)
      · have hf := tm_iT c_6 hf
        refine lv_iconst (v := 4) hx hb dX6_push_55 (by decide) ?_
        refine tm_put (D := D) (ci := 6) (v := .int 4) (ty := .int) (C := RX6) (T := TX6) (N := 3) hx hb hts uX6_push_X6 tyX6 tyX6_ok nmX6 hown hK hP hD hS 0 rfl rfl 2 (by decide) (hts _ kX6_push_f26) (fun _ h9 => h9) rfl (by decide +kernel) rfl rfl (Nat.le_of_ble_eq_true rfl) dX6_push_56 (fun z => WX6X5 cI cZ cR q0 q1 z d1) (tm_upk d0_5 0 2 4) rfl (fun d0_7 ed0_7 H locs hP hD hS => ?_)
        have hf := tm_at ed0_7 hf
        obtain rfl := Option.some.inj hf
        exact hend _ _ _ _ hP hD hS dX6_push_59
      · have hf := tm_iF c_6 hf
        refine lv_aload_n hx hb dX6_push_46 rfl (lv_at hl 0 rfl) ?_
        refine va_get (D := D) (ci := 6) (v := .int (d0_5 0 2)) (C := RX6) (T := TX6) (N := 3) hx hb hts uX6_push_X6 hown hK hP 0 rfl rfl 2 (by decide) (hts _ kX6_push_f26) (fun _ h9 => h9) rfl dX6_push_47 ?_
        refine lv_iconst (v := 1) hx hb dX6_push_50 (by decide) ?_
        refine lv_iadd hx hb dX6_push_51 ?_
        refine lv_goto (tgt := 56) hx hb dX6_push_52 (by decide) ?_
        refine tm_put (D := D) (ci := 6) (v := .int ((d0_5 0 2) + 1)) (ty := .int) (C := RX6) (T := TX6) (N := 3) hx hb hts uX6_push_X6 tyX6 tyX6_ok nmX6 hown hK hP hD hS 0 rfl rfl 2 (by decide) (hts _ kX6_push_f26) (fun _ h9 => h9) rfl (by decide +kernel) rfl rfl (Nat.le_of_ble_eq_true rfl) dX6_push_56 (fun z => WX6X5 cI cZ cR q0 q1 z d1) (tm_upk d0_5 0 2 ((d0_5 0 2) + 1)) rfl (fun d0_8 ed0_8 H locs hP hD hS => ?_)
        have hf := tm_at ed0_8 hf
        obtain rfl := Option.some.inj hf
        exact hend _ _ _ _ hP hD hS dX6_push_59
    · have hf := tm_iF c_4 hf
      refine lv_aload_n hx hb dX6_push_24 rfl (lv_at hl 0 rfl) ?_
      refine va_get (D := D) (ci := 6) (v := .int (d0_3 0 1)) (C := RX6) (T := TX6) (N := 3) hx hb hts uX6_push_X6 hown hK hP 0 rfl rfl 1 (by decide) (hts _ kX6_push_f18) (fun _ h9 => h9) rfl dX6_push_25 ?_
      refine lv_iconst (v := 1) hx hb dX6_push_28 (by decide) ?_
      refine lv_iadd hx hb dX6_push_29 ?_
      refine lv_goto (tgt := 34) hx hb dX6_push_30 (by decide) ?_
      refine tm_put (D := D) (ci := 6) (v := .int ((d0_3 0 1) + 1)) (ty := .int) (C := RX6) (T := TX6) (N := 3) hx hb hts uX6_push_X6 tyX6 tyX6_ok nmX6 hown hK hP hD hS 0 rfl rfl 1 (by decide) (hts _ kX6_push_f18) (fun _ h9 => h9) rfl (by decide +kernel) rfl rfl (Nat.le_of_ble_eq_true rfl) dX6_push_34 (fun z => WX6X5 cI cZ cR q0 q1 z d1) (tm_upk d0_3 0 1 ((d0_3 0 1) + 1)) rfl (fun d0_9 ed0_9 H locs hP hD hS => ?_)
      have hf := tm_at ed0_9 hf
      refine lv_aload_n hx hb dX6_push_37 rfl (lv_at hl 0 rfl) ?_
      refine lv_aload_n hx hb dX6_push_38 rfl (lv_at hl 0 rfl) ?_
      refine va_get (D := D) (ci := 6) (v := .int (d0_9 0 2)) (C := RX6) (T := TX6) (N := 3) hx hb hts uX6_push_X6 hown hK hP 0 rfl rfl 2 (by decide) (hts _ kX6_push_f26) (fun _ h9 => h9) rfl dX6_push_39 ?_
      refine lv_iconst (v := 4) hx hb dX6_push_42 (by decide) ?_
      refine lv_icmp_ge (tgt := 55) hx hb dX6_push_43 (by decide) (fun c_10 => ?_) (fun c_10 => ?_)
      · have hf := tm_iT c_10 hf
        refine lv_iconst (v := 4) hx hb dX6_push_55 (by decide) ?_
        refine tm_put (D := D) (ci := 6) (v := .int 4) (ty := .int) (C := RX6) (T := TX6) (N := 3) hx hb hts uX6_push_X6 tyX6 tyX6_ok nmX6 hown hK hP hD hS 0 rfl rfl 2 (by decide) (hts _ kX6_push_f26) (fun _ h9 => h9) rfl (by decide +kernel) rfl rfl (Nat.le_of_ble_eq_true rfl) dX6_push_56 (fun z => WX6X5 cI cZ cR q0 q1 z d1) (tm_upk d0_9 0 2 4) rfl (fun d0_11 ed0_11 H locs hP hD hS => ?_)
        have hf := tm_at ed0_11 hf
        obtain rfl := Option.some.inj hf
        exact hend _ _ _ _ hP hD hS dX6_push_59
      · have hf := tm_iF c_10 hf
        refine lv_aload_n hx hb dX6_push_46 rfl (lv_at hl 0 rfl) ?_
        refine va_get (D := D) (ci := 6) (v := .int (d0_9 0 2)) (C := RX6) (T := TX6) (N := 3) hx hb hts uX6_push_X6 hown hK hP 0 rfl rfl 2 (by decide) (hts _ kX6_push_f26) (fun _ h9 => h9) rfl dX6_push_47 ?_
        refine lv_iconst (v := 1) hx hb dX6_push_50 (by decide) ?_
        refine lv_iadd hx hb dX6_push_51 ?_
        refine lv_goto (tgt := 56) hx hb dX6_push_52 (by decide) ?_
        refine tm_put (D := D) (ci := 6) (v := .int ((d0_9 0 2) + 1)) (ty := .int) (C := RX6) (T := TX6) (N := 3) hx hb hts uX6_push_X6 tyX6 tyX6_ok nmX6 hown hK hP hD hS 0 rfl rfl 2 (by decide) (hts _ kX6_push_f26) (fun _ h9 => h9) rfl (by decide +kernel) rfl rfl (Nat.le_of_ble_eq_true rfl) dX6_push_56 (fun z => WX6X5 cI cZ cR q0 q1 z d1) (tm_upk d0_9 0 2 ((d0_9 0 2) + 1)) rfl (fun d0_12 ed0_12 H locs hP hD hS => ?_)
        have hf := tm_at ed0_12 hf
        obtain rfl := Option.some.inj hf
        exact hend _ _ _ _ hP hD hS dX6_push_59
  · have hf := tm_iF c_1 hf
    by_cases c_13 : (d0 0 1) = 1
    · have hf := tm_iT c_13 hf
      refine va_aldq (C := "TreemapLayout$State") hx hb hK hP 1 2 rfl rfl (by rw [c_13]; exact tm_inb_in (by decide)) dX6_push_8 ?_
      rw [c_13]
      refine W.eq (g2 := F0 m 9 ls ([.ref (q0 5)])) rfl ?_
      refine lv_aload_n hx hb dX6_push_9 rfl (lv_at hl 1 rfl) ?_
      obtain ⟨t_14, ot_14, hf⟩ := tm_bS hf
      refine tm_cVV (As := [.ref (q1 0)]) (rest := []) ⟨hx, hb, hml, hown, hts⟩ (tX5_copyFrom l D cI cZ cR N (tm_sq q0 5) q1 (tm_sh d0 5) d1 t_14 ot_14) (cwV 1 hts gX6_push_X5_copyFrom rfl rfl rfl hdwsV_X5_copyFrom ⟨Nat.le_of_ble_eq_true rfl, Nat.le_of_ble_eq_true rfl⟩) hK hP hD hS hA [5, 6, 7, 14, 15, 16] (by decide) rfl rfl (ci := 5) rfl rfl rfl (fun z => WX6X5 cI cZ cR q0 q1 z d1) (tm_ins d0 5 3 t_14) rfl rfl hl.1 rfl (Nat.le_of_ble_eq_true rfl) dX6_push_10 ⟨Nat.zero_le _, Nat.zero_le _⟩ (fun d0_15 ed0_15 H locs hP hD hS => ?_)
      have hf := tm_at ed0_15 hf
      refine lv_aload_n hx hb dX6_push_13 rfl (lv_at hl 0 rfl) ?_
      refine lv_aload_n hx hb dX6_push_14 rfl (lv_at hl 0 rfl) ?_
      refine va_get (D := D) (ci := 6) (v := .int (d0_15 0 1)) (C := RX6) (T := TX6) (N := 3) hx hb hts uX6_push_X6 hown hK hP 0 rfl rfl 1 (by decide) (hts _ kX6_push_f18) (fun _ h9 => h9) rfl dX6_push_15 ?_
      refine lv_iconst (v := 1) hx hb dX6_push_18 (by decide) ?_
      refine lv_iadd hx hb dX6_push_19 ?_
      refine lv_iconst (v := 4) hx hb dX6_push_20 (by decide) ?_
      refine lv_icmp_ge (tgt := 33) hx hb dX6_push_21 (by decide) (fun c_16 => ?_) (fun c_16 => ?_)
      · have hf := tm_iT c_16 hf
        refine lv_iconst (v := 0) hx hb dX6_push_33 (by decide) ?_
        refine tm_put (D := D) (ci := 6) (v := .int 0) (ty := .int) (C := RX6) (T := TX6) (N := 3) hx hb hts uX6_push_X6 tyX6 tyX6_ok nmX6 hown hK hP hD hS 0 rfl rfl 1 (by decide) (hts _ kX6_push_f18) (fun _ h9 => h9) rfl (by decide +kernel) rfl rfl (Nat.le_of_ble_eq_true rfl) dX6_push_34 (fun z => WX6X5 cI cZ cR q0 q1 z d1) (tm_upk d0_15 0 1 0) rfl (fun d0_17 ed0_17 H locs hP hD hS => ?_)
        have hf := tm_at ed0_17 hf
        refine lv_aload_n hx hb dX6_push_37 rfl (lv_at hl 0 rfl) ?_
        refine lv_aload_n hx hb dX6_push_38 rfl (lv_at hl 0 rfl) ?_
        refine va_get (D := D) (ci := 6) (v := .int (d0_17 0 2)) (C := RX6) (T := TX6) (N := 3) hx hb hts uX6_push_X6 hown hK hP 0 rfl rfl 2 (by decide) (hts _ kX6_push_f26) (fun _ h9 => h9) rfl dX6_push_39 ?_
        refine lv_iconst (v := 4) hx hb dX6_push_42 (by decide) ?_
        refine lv_icmp_ge (tgt := 55) hx hb dX6_push_43 (by decide) (fun c_18 => ?_) (fun c_18 => ?_)
        · have hf := tm_iT c_18 hf
          refine lv_iconst (v := 4) hx hb dX6_push_55 (by decide) ?_
          refine tm_put (D := D) (ci := 6) (v := .int 4) (ty := .int) (C := RX6) (T := TX6) (N := 3) hx hb hts uX6_push_X6 tyX6 tyX6_ok nmX6 hown hK hP hD hS 0 rfl rfl 2 (by decide) (hts _ kX6_push_f26) (fun _ h9 => h9) rfl (by decide +kernel) rfl rfl (Nat.le_of_ble_eq_true rfl) dX6_push_56 (fun z => WX6X5 cI cZ cR q0 q1 z d1) (tm_upk d0_17 0 2 4) rfl (fun d0_19 ed0_19 H locs hP hD hS => ?_)
          have hf := tm_at ed0_19 hf
          obtain rfl := Option.some.inj hf
          exact hend _ _ _ _ hP hD hS dX6_push_59
        · have hf := tm_iF c_18 hf
          refine lv_aload_n hx hb dX6_push_46 rfl (lv_at hl 0 rfl) ?_
          refine va_get (D := D) (ci := 6) (v := .int (d0_17 0 2)) (C := RX6) (T := TX6) (N := 3) hx hb hts uX6_push_X6 hown hK hP 0 rfl rfl 2 (by decide) (hts _ kX6_push_f26) (fun _ h9 => h9) rfl dX6_push_47 ?_
          refine lv_iconst (v := 1) hx hb dX6_push_50 (by decide) ?_
          refine lv_iadd hx hb dX6_push_51 ?_
          refine lv_goto (tgt := 56) hx hb dX6_push_52 (by decide) ?_
          refine tm_put (D := D) (ci := 6) (v := .int ((d0_17 0 2) + 1)) (ty := .int) (C := RX6) (T := TX6) (N := 3) hx hb hts uX6_push_X6 tyX6 tyX6_ok nmX6 hown hK hP hD hS 0 rfl rfl 2 (by decide) (hts _ kX6_push_f26) (fun _ h9 => h9) rfl (by decide +kernel) rfl rfl (Nat.le_of_ble_eq_true rfl) dX6_push_56 (fun z => WX6X5 cI cZ cR q0 q1 z d1) (tm_upk d0_17 0 2 ((d0_17 0 2) + 1)) rfl (fun d0_20 ed0_20 H locs hP hD hS => ?_)
          have hf := tm_at ed0_20 hf
          obtain rfl := Option.some.inj hf
          exact hend _ _ _ _ hP hD hS dX6_push_59
      · have hf := tm_iF c_16 hf
        refine lv_aload_n hx hb dX6_push_24 rfl (lv_at hl 0 rfl) ?_
        refine va_get (D := D) (ci := 6) (v := .int (d0_15 0 1)) (C := RX6) (T := TX6) (N := 3) hx hb hts uX6_push_X6 hown hK hP 0 rfl rfl 1 (by decide) (hts _ kX6_push_f18) (fun _ h9 => h9) rfl dX6_push_25 ?_
        refine lv_iconst (v := 1) hx hb dX6_push_28 (by decide) ?_
        refine lv_iadd hx hb dX6_push_29 ?_
        refine lv_goto (tgt := 34) hx hb dX6_push_30 (by decide) ?_
        refine tm_put (D := D) (ci := 6) (v := .int ((d0_15 0 1) + 1)) (ty := .int) (C := RX6) (T := TX6) (N := 3) hx hb hts uX6_push_X6 tyX6 tyX6_ok nmX6 hown hK hP hD hS 0 rfl rfl 1 (by decide) (hts _ kX6_push_f18) (fun _ h9 => h9) rfl (by decide +kernel) rfl rfl (Nat.le_of_ble_eq_true rfl) dX6_push_34 (fun z => WX6X5 cI cZ cR q0 q1 z d1) (tm_upk d0_15 0 1 ((d0_15 0 1) + 1)) rfl (fun d0_21 ed0_21 H locs hP hD hS => ?_)
        have hf := tm_at ed0_21 hf
        refine lv_aload_n hx hb dX6_push_37 rfl (lv_at hl 0 rfl) ?_
        refine lv_aload_n hx hb dX6_push_38 rfl (lv_at hl 0 rfl) ?_
        refine va_get (D := D) (ci := 6) (v := .int (d0_21 0 2)) (C := RX6) (T := TX6) (N := 3) hx hb hts uX6_push_X6 hown hK hP 0 rfl rfl 2 (by decide) (hts _ kX6_push_f26) (fun _ h9 => h9) rfl dX6_push_39 ?_
        refine lv_iconst (v := 4) hx hb dX6_push_42 (by decide) ?_
        refine lv_icmp_ge (tgt := 55) hx hb dX6_push_43 (by decide) (fun c_22 => ?_) (fun c_22 => ?_)
        · have hf := tm_iT c_22 hf
          refine lv_iconst (v := 4) hx hb dX6_push_55 (by decide) ?_
          refine tm_put (D := D) (ci := 6) (v := .int 4) (ty := .int) (C := RX6) (T := TX6) (N := 3) hx hb hts uX6_push_X6 tyX6 tyX6_ok nmX6 hown hK hP hD hS 0 rfl rfl 2 (by decide) (hts _ kX6_push_f26) (fun _ h9 => h9) rfl (by decide +kernel) rfl rfl (Nat.le_of_ble_eq_true rfl) dX6_push_56 (fun z => WX6X5 cI cZ cR q0 q1 z d1) (tm_upk d0_21 0 2 4) rfl (fun d0_23 ed0_23 H locs hP hD hS => ?_)
          have hf := tm_at ed0_23 hf
          obtain rfl := Option.some.inj hf
          exact hend _ _ _ _ hP hD hS dX6_push_59
        · have hf := tm_iF c_22 hf
          refine lv_aload_n hx hb dX6_push_46 rfl (lv_at hl 0 rfl) ?_
          refine va_get (D := D) (ci := 6) (v := .int (d0_21 0 2)) (C := RX6) (T := TX6) (N := 3) hx hb hts uX6_push_X6 hown hK hP 0 rfl rfl 2 (by decide) (hts _ kX6_push_f26) (fun _ h9 => h9) rfl dX6_push_47 ?_
          refine lv_iconst (v := 1) hx hb dX6_push_50 (by decide) ?_
          refine lv_iadd hx hb dX6_push_51 ?_
          refine lv_goto (tgt := 56) hx hb dX6_push_52 (by decide) ?_
          refine tm_put (D := D) (ci := 6) (v := .int ((d0_21 0 2) + 1)) (ty := .int) (C := RX6) (T := TX6) (N := 3) hx hb hts uX6_push_X6 tyX6 tyX6_ok nmX6 hown hK hP hD hS 0 rfl rfl 2 (by decide) (hts _ kX6_push_f26) (fun _ h9 => h9) rfl (by decide +kernel) rfl rfl (Nat.le_of_ble_eq_true rfl) dX6_push_56 (fun z => WX6X5 cI cZ cR q0 q1 z d1) (tm_upk d0_21 0 2 ((d0_21 0 2) + 1)) rfl (fun d0_24 ed0_24 H locs hP hD hS => ?_)
          have hf := tm_at ed0_24 hf
          obtain rfl := Option.some.inj hf
          exact hend _ _ _ _ hP hD hS dX6_push_59
    · have hf := tm_iF c_13 hf
      by_cases c_25 : (d0 0 1) = 2
      · have hf := tm_iT c_25 hf
        refine va_aldq (C := "TreemapLayout$State") hx hb hK hP 1 2 rfl rfl (by rw [c_25]; exact tm_inb_in (by decide)) dX6_push_8 ?_
        rw [c_25]
        refine W.eq (g2 := F0 m 9 ls ([.ref (q0 8)])) rfl ?_
        refine lv_aload_n hx hb dX6_push_9 rfl (lv_at hl 1 rfl) ?_
        obtain ⟨t_26, ot_26, hf⟩ := tm_bS hf
        refine tm_cVV (As := [.ref (q1 0)]) (rest := []) ⟨hx, hb, hml, hown, hts⟩ (tX5_copyFrom l D cI cZ cR N (tm_sq q0 8) q1 (tm_sh d0 8) d1 t_26 ot_26) (cwV 1 hts gX6_push_X5_copyFrom rfl rfl rfl hdwsV_X5_copyFrom ⟨Nat.le_of_ble_eq_true rfl, Nat.le_of_ble_eq_true rfl⟩) hK hP hD hS hA [8, 9, 10, 14, 15, 16] (by decide) rfl rfl (ci := 5) rfl rfl rfl (fun z => WX6X5 cI cZ cR q0 q1 z d1) (tm_ins d0 8 3 t_26) rfl rfl hl.1 rfl (Nat.le_of_ble_eq_true rfl) dX6_push_10 ⟨Nat.zero_le _, Nat.zero_le _⟩ (fun d0_27 ed0_27 H locs hP hD hS => ?_)
        have hf := tm_at ed0_27 hf
        refine lv_aload_n hx hb dX6_push_13 rfl (lv_at hl 0 rfl) ?_
        refine lv_aload_n hx hb dX6_push_14 rfl (lv_at hl 0 rfl) ?_
        refine va_get (D := D) (ci := 6) (v := .int (d0_27 0 1)) (C := RX6) (T := TX6) (N := 3) hx hb hts uX6_push_X6 hown hK hP 0 rfl rfl 1 (by decide) (hts _ kX6_push_f18) (fun _ h9 => h9) rfl dX6_push_15 ?_
        refine lv_iconst (v := 1) hx hb dX6_push_18 (by decide) ?_
        refine lv_iadd hx hb dX6_push_19 ?_
        refine lv_iconst (v := 4) hx hb dX6_push_20 (by decide) ?_
        refine lv_icmp_ge (tgt := 33) hx hb dX6_push_21 (by decide) (fun c_28 => ?_) (fun c_28 => ?_)
        · have hf := tm_iT c_28 hf
          refine lv_iconst (v := 0) hx hb dX6_push_33 (by decide) ?_
          refine tm_put (D := D) (ci := 6) (v := .int 0) (ty := .int) (C := RX6) (T := TX6) (N := 3) hx hb hts uX6_push_X6 tyX6 tyX6_ok nmX6 hown hK hP hD hS 0 rfl rfl 1 (by decide) (hts _ kX6_push_f18) (fun _ h9 => h9) rfl (by decide +kernel) rfl rfl (Nat.le_of_ble_eq_true rfl) dX6_push_34 (fun z => WX6X5 cI cZ cR q0 q1 z d1) (tm_upk d0_27 0 1 0) rfl (fun d0_29 ed0_29 H locs hP hD hS => ?_)
          have hf := tm_at ed0_29 hf
          refine lv_aload_n hx hb dX6_push_37 rfl (lv_at hl 0 rfl) ?_
          refine lv_aload_n hx hb dX6_push_38 rfl (lv_at hl 0 rfl) ?_
          refine va_get (D := D) (ci := 6) (v := .int (d0_29 0 2)) (C := RX6) (T := TX6) (N := 3) hx hb hts uX6_push_X6 hown hK hP 0 rfl rfl 2 (by decide) (hts _ kX6_push_f26) (fun _ h9 => h9) rfl dX6_push_39 ?_
          refine lv_iconst (v := 4) hx hb dX6_push_42 (by decide) ?_
          refine lv_icmp_ge (tgt := 55) hx hb dX6_push_43 (by decide) (fun c_30 => ?_) (fun c_30 => ?_)
          · have hf := tm_iT c_30 hf
            refine lv_iconst (v := 4) hx hb dX6_push_55 (by decide) ?_
            refine tm_put (D := D) (ci := 6) (v := .int 4) (ty := .int) (C := RX6) (T := TX6) (N := 3) hx hb hts uX6_push_X6 tyX6 tyX6_ok nmX6 hown hK hP hD hS 0 rfl rfl 2 (by decide) (hts _ kX6_push_f26) (fun _ h9 => h9) rfl (by decide +kernel) rfl rfl (Nat.le_of_ble_eq_true rfl) dX6_push_56 (fun z => WX6X5 cI cZ cR q0 q1 z d1) (tm_upk d0_29 0 2 4) rfl (fun d0_31 ed0_31 H locs hP hD hS => ?_)
            have hf := tm_at ed0_31 hf
            obtain rfl := Option.some.inj hf
            exact hend _ _ _ _ hP hD hS dX6_push_59
          · have hf := tm_iF c_30 hf
            refine lv_aload_n hx hb dX6_push_46 rfl (lv_at hl 0 rfl) ?_
            refine va_get (D := D) (ci := 6) (v := .int (d0_29 0 2)) (C := RX6) (T := TX6) (N := 3) hx hb hts uX6_push_X6 hown hK hP 0 rfl rfl 2 (by decide) (hts _ kX6_push_f26) (fun _ h9 => h9) rfl dX6_push_47 ?_
            refine lv_iconst (v := 1) hx hb dX6_push_50 (by decide) ?_
            refine lv_iadd hx hb dX6_push_51 ?_
            refine lv_goto (tgt := 56) hx hb dX6_push_52 (by decide) ?_
            refine tm_put (D := D) (ci := 6) (v := .int ((d0_29 0 2) + 1)) (ty := .int) (C := RX6) (T := TX6) (N := 3) hx hb hts uX6_push_X6 tyX6 tyX6_ok nmX6 hown hK hP hD hS 0 rfl rfl 2 (by decide) (hts _ kX6_push_f26) (fun _ h9 => h9) rfl (by decide +kernel) rfl rfl (Nat.le_of_ble_eq_true rfl) dX6_push_56 (fun z => WX6X5 cI cZ cR q0 q1 z d1) (tm_upk d0_29 0 2 ((d0_29 0 2) + 1)) rfl (fun d0_32 ed0_32 H locs hP hD hS => ?_)
            have hf := tm_at ed0_32 hf
            obtain rfl := Option.some.inj hf
            exact hend _ _ _ _ hP hD hS dX6_push_59
        · have hf := tm_iF c_28 hf
          refine lv_aload_n hx hb dX6_push_24 rfl (lv_at hl 0 rfl) ?_
          refine va_get (D := D) (ci := 6) (v := .int (d0_27 0 1)) (C := RX6) (T := TX6) (N := 3) hx hb hts uX6_push_X6 hown hK hP 0 rfl rfl 1 (by decide) (hts _ kX6_push_f18) (fun _ h9 => h9) rfl dX6_push_25 ?_
          refine lv_iconst (v := 1) hx hb dX6_push_28 (by decide) ?_
          refine lv_iadd hx hb dX6_push_29 ?_
          refine lv_goto (tgt := 34) hx hb dX6_push_30 (by decide) ?_
          refine tm_put (D := D) (ci := 6) (v := .int ((d0_27 0 1) + 1)) (ty := .int) (C := RX6) (T := TX6) (N := 3) hx hb hts uX6_push_X6 tyX6 tyX6_ok nmX6 hown hK hP hD hS 0 rfl rfl 1 (by decide) (hts _ kX6_push_f18) (fun _ h9 => h9) rfl (by decide +kernel) rfl rfl (Nat.le_of_ble_eq_true rfl) dX6_push_34 (fun z => WX6X5 cI cZ cR q0 q1 z d1) (tm_upk d0_27 0 1 ((d0_27 0 1) + 1)) rfl (fun d0_33 ed0_33 H locs hP hD hS => ?_)
          have hf := tm_at ed0_33 hf
          refine lv_aload_n hx hb dX6_push_37 rfl (lv_at hl 0 rfl) ?_
          refine lv_aload_n hx hb dX6_push_38 rfl (lv_at hl 0 rfl) ?_
          refine va_get (D := D) (ci := 6) (v := .int (d0_33 0 2)) (C := RX6) (T := TX6) (N := 3) hx hb hts uX6_push_X6 hown hK hP 0 rfl rfl 2 (by decide) (hts _ kX6_push_f26) (fun _ h9 => h9) rfl dX6_push_39 ?_
          refine lv_iconst (v := 4) hx hb dX6_push_42 (by decide) ?_
          refine lv_icmp_ge (tgt := 55) hx hb dX6_push_43 (by decide) (fun c_34 => ?_) (fun c_34 => ?_)
          · have hf := tm_iT c_34 hf
            refine lv_iconst (v := 4) hx hb dX6_push_55 (by decide) ?_
            refine tm_put (D := D) (ci := 6) (v := .int 4) (ty := .int) (C := RX6) (T := TX6) (N := 3) hx hb hts uX6_push_X6 tyX6 tyX6_ok nmX6 hown hK hP hD hS 0 rfl rfl 2 (by decide) (hts _ kX6_push_f26) (fun _ h9 => h9) rfl (by decide +kernel) rfl rfl (Nat.le_of_ble_eq_true rfl) dX6_push_56 (fun z => WX6X5 cI cZ cR q0 q1 z d1) (tm_upk d0_33 0 2 4) rfl (fun d0_35 ed0_35 H locs hP hD hS => ?_)
            have hf := tm_at ed0_35 hf
            obtain rfl := Option.some.inj hf
            exact hend _ _ _ _ hP hD hS dX6_push_59
          · have hf := tm_iF c_34 hf
            refine lv_aload_n hx hb dX6_push_46 rfl (lv_at hl 0 rfl) ?_
            refine va_get (D := D) (ci := 6) (v := .int (d0_33 0 2)) (C := RX6) (T := TX6) (N := 3) hx hb hts uX6_push_X6 hown hK hP 0 rfl rfl 2 (by decide) (hts _ kX6_push_f26) (fun _ h9 => h9) rfl dX6_push_47 ?_
            refine lv_iconst (v := 1) hx hb dX6_push_50 (by decide) ?_
            refine lv_iadd hx hb dX6_push_51 ?_
            refine lv_goto (tgt := 56) hx hb dX6_push_52 (by decide) ?_
            refine tm_put (D := D) (ci := 6) (v := .int ((d0_33 0 2) + 1)) (ty := .int) (C := RX6) (T := TX6) (N := 3) hx hb hts uX6_push_X6 tyX6 tyX6_ok nmX6 hown hK hP hD hS 0 rfl rfl 2 (by decide) (hts _ kX6_push_f26) (fun _ h9 => h9) rfl (by decide +kernel) rfl rfl (Nat.le_of_ble_eq_true rfl) dX6_push_56 (fun z => WX6X5 cI cZ cR q0 q1 z d1) (tm_upk d0_33 0 2 ((d0_33 0 2) + 1)) rfl (fun d0_36 ed0_36 H locs hP hD hS => ?_)
            have hf := tm_at ed0_36 hf
            obtain rfl := Option.some.inj hf
            exact hend _ _ _ _ hP hD hS dX6_push_59
      · have hf := tm_iF c_25 hf
        by_cases c_37 : (d0 0 1) = 3
        · have hf := tm_iT c_37 hf
          refine va_aldq (C := "TreemapLayout$State") hx hb hK hP 1 2 rfl rfl (by rw [c_37]; exact tm_inb_in (by decide)) dX6_push_8 ?_
          rw [c_37]
          refine W.eq (g2 := F0 m 9 ls ([.ref (q0 11)])) rfl ?_
          refine lv_aload_n hx hb dX6_push_9 rfl (lv_at hl 1 rfl) ?_
          obtain ⟨t_38, ot_38, hf⟩ := tm_bS hf
          refine tm_cVV (As := [.ref (q1 0)]) (rest := []) ⟨hx, hb, hml, hown, hts⟩ (tX5_copyFrom l D cI cZ cR N (tm_sq q0 11) q1 (tm_sh d0 11) d1 t_38 ot_38) (cwV 1 hts gX6_push_X5_copyFrom rfl rfl rfl hdwsV_X5_copyFrom ⟨Nat.le_of_ble_eq_true rfl, Nat.le_of_ble_eq_true rfl⟩) hK hP hD hS hA [11, 12, 13, 14, 15, 16] (by decide) rfl rfl (ci := 5) rfl rfl rfl (fun z => WX6X5 cI cZ cR q0 q1 z d1) (tm_ins d0 11 3 t_38) rfl rfl hl.1 rfl (Nat.le_of_ble_eq_true rfl) dX6_push_10 ⟨Nat.zero_le _, Nat.zero_le _⟩ (fun d0_39 ed0_39 H locs hP hD hS => ?_)
          have hf := tm_at ed0_39 hf
          refine lv_aload_n hx hb dX6_push_13 rfl (lv_at hl 0 rfl) ?_
          refine lv_aload_n hx hb dX6_push_14 rfl (lv_at hl 0 rfl) ?_
          refine va_get (D := D) (ci := 6) (v := .int (d0_39 0 1)) (C := RX6) (T := TX6) (N := 3) hx hb hts uX6_push_X6 hown hK hP 0 rfl rfl 1 (by decide) (hts _ kX6_push_f18) (fun _ h9 => h9) rfl dX6_push_15 ?_
          refine lv_iconst (v := 1) hx hb dX6_push_18 (by decide) ?_
          refine lv_iadd hx hb dX6_push_19 ?_
          refine lv_iconst (v := 4) hx hb dX6_push_20 (by decide) ?_
          refine lv_icmp_ge (tgt := 33) hx hb dX6_push_21 (by decide) (fun c_40 => ?_) (fun c_40 => ?_)
          · have hf := tm_iT c_40 hf
            refine lv_iconst (v := 0) hx hb dX6_push_33 (by decide) ?_
            refine tm_put (D := D) (ci := 6) (v := .int 0) (ty := .int) (C := RX6) (T := TX6) (N := 3) hx hb hts uX6_push_X6 tyX6 tyX6_ok nmX6 hown hK hP hD hS 0 rfl rfl 1 (by decide) (hts _ kX6_push_f18) (fun _ h9 => h9) rfl (by decide +kernel) rfl rfl (Nat.le_of_ble_eq_true rfl) dX6_push_34 (fun z => WX6X5 cI cZ cR q0 q1 z d1) (tm_upk d0_39 0 1 0) rfl (fun d0_41 ed0_41 H locs hP hD hS => ?_)
            have hf := tm_at ed0_41 hf
            refine lv_aload_n hx hb dX6_push_37 rfl (lv_at hl 0 rfl) ?_
            refine lv_aload_n hx hb dX6_push_38 rfl (lv_at hl 0 rfl) ?_
            refine va_get (D := D) (ci := 6) (v := .int (d0_41 0 2)) (C := RX6) (T := TX6) (N := 3) hx hb hts uX6_push_X6 hown hK hP 0 rfl rfl 2 (by decide) (hts _ kX6_push_f26) (fun _ h9 => h9) rfl dX6_push_39 ?_
            refine lv_iconst (v := 4) hx hb dX6_push_42 (by decide) ?_
            refine lv_icmp_ge (tgt := 55) hx hb dX6_push_43 (by decide) (fun c_42 => ?_) (fun c_42 => ?_)
            · have hf := tm_iT c_42 hf
              refine lv_iconst (v := 4) hx hb dX6_push_55 (by decide) ?_
              refine tm_put (D := D) (ci := 6) (v := .int 4) (ty := .int) (C := RX6) (T := TX6) (N := 3) hx hb hts uX6_push_X6 tyX6 tyX6_ok nmX6 hown hK hP hD hS 0 rfl rfl 2 (by decide) (hts _ kX6_push_f26) (fun _ h9 => h9) rfl (by decide +kernel) rfl rfl (Nat.le_of_ble_eq_true rfl) dX6_push_56 (fun z => WX6X5 cI cZ cR q0 q1 z d1) (tm_upk d0_41 0 2 4) rfl (fun d0_43 ed0_43 H locs hP hD hS => ?_)
              have hf := tm_at ed0_43 hf
              obtain rfl := Option.some.inj hf
              exact hend _ _ _ _ hP hD hS dX6_push_59
            · have hf := tm_iF c_42 hf
              refine lv_aload_n hx hb dX6_push_46 rfl (lv_at hl 0 rfl) ?_
              refine va_get (D := D) (ci := 6) (v := .int (d0_41 0 2)) (C := RX6) (T := TX6) (N := 3) hx hb hts uX6_push_X6 hown hK hP 0 rfl rfl 2 (by decide) (hts _ kX6_push_f26) (fun _ h9 => h9) rfl dX6_push_47 ?_
              refine lv_iconst (v := 1) hx hb dX6_push_50 (by decide) ?_
              refine lv_iadd hx hb dX6_push_51 ?_
              refine lv_goto (tgt := 56) hx hb dX6_push_52 (by decide) ?_
              refine tm_put (D := D) (ci := 6) (v := .int ((d0_41 0 2) + 1)) (ty := .int) (C := RX6) (T := TX6) (N := 3) hx hb hts uX6_push_X6 tyX6 tyX6_ok nmX6 hown hK hP hD hS 0 rfl rfl 2 (by decide) (hts _ kX6_push_f26) (fun _ h9 => h9) rfl (by decide +kernel) rfl rfl (Nat.le_of_ble_eq_true rfl) dX6_push_56 (fun z => WX6X5 cI cZ cR q0 q1 z d1) (tm_upk d0_41 0 2 ((d0_41 0 2) + 1)) rfl (fun d0_44 ed0_44 H locs hP hD hS => ?_)
              have hf := tm_at ed0_44 hf
              obtain rfl := Option.some.inj hf
              exact hend _ _ _ _ hP hD hS dX6_push_59
          · have hf := tm_iF c_40 hf
            refine lv_aload_n hx hb dX6_push_24 rfl (lv_at hl 0 rfl) ?_
            refine va_get (D := D) (ci := 6) (v := .int (d0_39 0 1)) (C := RX6) (T := TX6) (N := 3) hx hb hts uX6_push_X6 hown hK hP 0 rfl rfl 1 (by decide) (hts _ kX6_push_f18) (fun _ h9 => h9) rfl dX6_push_25 ?_
            refine lv_iconst (v := 1) hx hb dX6_push_28 (by decide) ?_
            refine lv_iadd hx hb dX6_push_29 ?_
            refine lv_goto (tgt := 34) hx hb dX6_push_30 (by decide) ?_
            refine tm_put (D := D) (ci := 6) (v := .int ((d0_39 0 1) + 1)) (ty := .int) (C := RX6) (T := TX6) (N := 3) hx hb hts uX6_push_X6 tyX6 tyX6_ok nmX6 hown hK hP hD hS 0 rfl rfl 1 (by decide) (hts _ kX6_push_f18) (fun _ h9 => h9) rfl (by decide +kernel) rfl rfl (Nat.le_of_ble_eq_true rfl) dX6_push_34 (fun z => WX6X5 cI cZ cR q0 q1 z d1) (tm_upk d0_39 0 1 ((d0_39 0 1) + 1)) rfl (fun d0_45 ed0_45 H locs hP hD hS => ?_)
            have hf := tm_at ed0_45 hf
            refine lv_aload_n hx hb dX6_push_37 rfl (lv_at hl 0 rfl) ?_
            refine lv_aload_n hx hb dX6_push_38 rfl (lv_at hl 0 rfl) ?_
            refine va_get (D := D) (ci := 6) (v := .int (d0_45 0 2)) (C := RX6) (T := TX6) (N := 3) hx hb hts uX6_push_X6 hown hK hP 0 rfl rfl 2 (by decide) (hts _ kX6_push_f26) (fun _ h9 => h9) rfl dX6_push_39 ?_
            refine lv_iconst (v := 4) hx hb dX6_push_42 (by decide) ?_
            refine lv_icmp_ge (tgt := 55) hx hb dX6_push_43 (by decide) (fun c_46 => ?_) (fun c_46 => ?_)
            · have hf := tm_iT c_46 hf
              refine lv_iconst (v := 4) hx hb dX6_push_55 (by decide) ?_
              refine tm_put (D := D) (ci := 6) (v := .int 4) (ty := .int) (C := RX6) (T := TX6) (N := 3) hx hb hts uX6_push_X6 tyX6 tyX6_ok nmX6 hown hK hP hD hS 0 rfl rfl 2 (by decide) (hts _ kX6_push_f26) (fun _ h9 => h9) rfl (by decide +kernel) rfl rfl (Nat.le_of_ble_eq_true rfl) dX6_push_56 (fun z => WX6X5 cI cZ cR q0 q1 z d1) (tm_upk d0_45 0 2 4) rfl (fun d0_47 ed0_47 H locs hP hD hS => ?_)
              have hf := tm_at ed0_47 hf
              obtain rfl := Option.some.inj hf
              exact hend _ _ _ _ hP hD hS dX6_push_59
            · have hf := tm_iF c_46 hf
              refine lv_aload_n hx hb dX6_push_46 rfl (lv_at hl 0 rfl) ?_
              refine va_get (D := D) (ci := 6) (v := .int (d0_45 0 2)) (C := RX6) (T := TX6) (N := 3) hx hb hts uX6_push_X6 hown hK hP 0 rfl rfl 2 (by decide) (hts _ kX6_push_f26) (fun _ h9 => h9) rfl dX6_push_47 ?_
              refine lv_iconst (v := 1) hx hb dX6_push_50 (by decide) ?_
              refine lv_iadd hx hb dX6_push_51 ?_
              refine lv_goto (tgt := 56) hx hb dX6_push_52 (by decide) ?_
              refine tm_put (D := D) (ci := 6) (v := .int ((d0_45 0 2) + 1)) (ty := .int) (C := RX6) (T := TX6) (N := 3) hx hb hts uX6_push_X6 tyX6 tyX6_ok nmX6 hown hK hP hD hS 0 rfl rfl 2 (by decide) (hts _ kX6_push_f26) (fun _ h9 => h9) rfl (by decide +kernel) rfl rfl (Nat.le_of_ble_eq_true rfl) dX6_push_56 (fun z => WX6X5 cI cZ cR q0 q1 z d1) (tm_upk d0_45 0 2 ((d0_45 0 2) + 1)) rfl (fun d0_48 ed0_48 H locs hP hD hS => ?_)
              have hf := tm_at ed0_48 hf
              obtain rfl := Option.some.inj hf
              exact hend _ _ _ _ hP hD hS dX6_push_59
        · have hf := tm_iF c_37 hf
          exact absurd hf (by simp)
set_option maxHeartbeats 4000000 in
set_option maxRecDepth 100000 in
theorem tX6_popInto (l : Launch) (D : va_G) (cI cZ cR : ClassId) (N : Nat) (q0 : Nat → Nat) (q1 : Nat → Nat) (d0 : tm_M) (d1 : tm_M) (z0 : tm_M) (z1 : tm_M) (hf : fX6_popInto N d0 d1 = some (z0, z1)) : tm_CV l D (tm_ty cI cZ cR) yX6_popInto wsX6_popInto rmX6_popInto [.ref (q0 0), .ref (q1 0)] (WX6X5 cI cZ cR q0 q1 d0 d1) (WX6X5 cI cZ cR q0 q1 z0 z1) := by
  refine tm_mkV (cc := cX6_popInto) (maxL := 2) (by decide) rfl (Nat.le_of_ble_eq_true rfl) ?_
  intro p e s m below meth c A ls Q C hP hD hS hl hend
  have C : tm_Cx p s m c [.ref (q0 0), .ref (q1 0)].toArray cX6_popInto 2 RX6 wsX6_popInto D (tm_ty cI cZ cR) A s.heap := C
  obtain ⟨hx, hb, hml, hown, hts, hK, hA⟩ := id C
  have hl : lv_has ls 2 [(0, .ref (q0 0)), (1, .ref (q1 0))] := hl
  unfold fX6_popInto at hf
  refine lv_aload_n hx hb dX6_popInto_0 rfl (lv_at hl 0 rfl) ?_
  refine va_get (D := D) (ci := 6) (v := .int (d0 0 2)) (C := RX6) (T := TX6) (N := 3) hx hb hts uX6_popInto_X6 hown hK hP 0 rfl rfl 2 (by decide) (hts _ kX6_popInto_f26) (fun _ h9 => h9) rfl dX6_popInto_1 ?_
  refine lv_if_le (tgt := 51) hx hb dX6_popInto_4 (by decide) (fun c_1 => ?_) (fun c_1 => ?_)
  · have hf := tm_iT c_1 hf
    simp only [Option.some.injEq, Prod.mk.injEq] at hf
    obtain ⟨rfl, rfl⟩ := hf
    exact hend _ _ _ _ hP hD hS dX6_popInto_51
  · have hf := tm_iF c_1 hf
    refine lv_aload_n hx hb dX6_popInto_7 rfl (lv_at hl 0 rfl) ?_
    refine lv_aload_n hx hb dX6_popInto_8 rfl (lv_at hl 0 rfl) ?_
    refine va_get (D := D) (ci := 6) (v := .int (d0 0 1)) (C := RX6) (T := TX6) (N := 3) hx hb hts uX6_popInto_X6 hown hK hP 0 rfl rfl 1 (by decide) (hts _ kX6_popInto_f18) (fun _ h9 => h9) rfl dX6_popInto_9 ?_
    refine lv_if_le (tgt := 24) hx hb dX6_popInto_12 (by decide) (fun c_2 => ?_) (fun c_2 => ?_)
    · have hf := tm_iT c_2 hf
      refine lv_iconst (v := 3) hx hb dX6_popInto_24 (by decide) ?_
      refine tm_put (D := D) (ci := 6) (v := .int 3) (ty := .int) (C := RX6) (T := TX6) (N := 3) hx hb hts uX6_popInto_X6 tyX6 tyX6_ok nmX6 hown hK hP hD hS 0 rfl rfl 1 (by decide) (hts _ kX6_popInto_f18) (fun _ h9 => h9) rfl (by decide +kernel) rfl rfl (Nat.le_of_ble_eq_true rfl) dX6_popInto_25 (fun z => WX6X5 cI cZ cR q0 q1 z d1) (tm_upk d0 0 1 3) rfl (fun d0_3 ed0_3 H locs hP hD hS => ?_)
      have hf := tm_at ed0_3 hf
      refine lv_aload_n hx hb dX6_popInto_28 rfl (lv_at hl 0 rfl) ?_
      refine lv_dup hx hb dX6_popInto_29 rfl ?_
      refine va_get (D := D) (ci := 6) (v := .int (d0_3 0 2)) (C := RX6) (T := TX6) (N := 3) hx hb hts uX6_popInto_X6 hown hK hP 0 rfl rfl 2 (by decide) (hts _ kX6_popInto_f26) (fun _ h9 => h9) rfl dX6_popInto_30 ?_
      refine lv_iconst (v := 1) hx hb dX6_popInto_33 (by decide) ?_
      refine lv_isub hx hb dX6_popInto_34 ?_
      refine tm_put (D := D) (ci := 6) (v := .int ((d0_3 0 2) - 1)) (ty := .int) (C := RX6) (T := TX6) (N := 3) hx hb hts uX6_popInto_X6 tyX6 tyX6_ok nmX6 hown hK hP hD hS 0 rfl rfl 2 (by decide) (hts _ kX6_popInto_f26) (fun _ h9 => h9) rfl (by decide +kernel) rfl rfl (Nat.le_of_ble_eq_true rfl) dX6_popInto_35 (fun z => WX6X5 cI cZ cR q0 q1 z d1) (tm_upk d0_3 0 2 ((d0_3 0 2) - 1)) rfl (fun d0_4 ed0_4 H locs hP hD hS => ?_)
      have hf := tm_at ed0_4 hf
      refine lv_aload_n hx hb dX6_popInto_38 rfl (lv_at hl 1 rfl) ?_
      refine lv_aload_n hx hb dX6_popInto_39 rfl (lv_at hl 0 rfl) ?_
      refine va_get (D := D) (ci := 6) (v := .ref (q0 1)) (C := RX6) (T := TX6) (N := 3) hx hb hts uX6_popInto_X6 hown hK hP 0 rfl rfl 0 (by decide) (hts _ kX6_popInto_f11) (fun _ h9 => h9) rfl dX6_popInto_40 ?_
      refine lv_aload_n hx hb dX6_popInto_43 rfl (lv_at hl 0 rfl) ?_
      refine va_get (D := D) (ci := 6) (v := .int (d0_4 0 1)) (C := RX6) (T := TX6) (N := 3) hx hb hts uX6_popInto_X6 hown hK hP 0 rfl rfl 1 (by decide) (hts _ kX6_popInto_f18) (fun _ h9 => h9) rfl dX6_popInto_44 ?_
      by_cases c_5 : (d0_4 0 1) = 0
      · have hf := tm_iT c_5 hf
        refine va_aldq (C := "TreemapLayout$State") hx hb hK hP 1 2 rfl rfl (by rw [c_5]; exact tm_inb_in (by decide)) dX6_popInto_47 ?_
        rw [c_5]
        refine W.eq (g2 := F0 m 48 ls ([.ref (q0 2), .ref (q1 0)])) rfl ?_
        obtain ⟨t_6, ot_6, hf⟩ := tm_bS hf
        refine tm_cVV (As := [.ref (q0 2)]) (rest := []) ⟨hx, hb, hml, hown, hts⟩ (tX5_copyFrom l D cI cZ cR N q1 (tm_sq q0 2) d1 (tm_sh d0_4 2) t_6 ot_6) (cwV 1 hts gX6_popInto_X5_copyFrom rfl rfl rfl hdwsV_X5_copyFrom ⟨Nat.le_of_ble_eq_true rfl, Nat.le_of_ble_eq_true rfl⟩) hK hP hD hS hA [14, 15, 16, 2, 3, 4] (by decide) rfl rfl (ci := 5) rfl rfl rfl (fun _ => WX6X5 cI cZ cR q0 q1 d0_4 t_6) (()) rfl rfl hl.1 rfl (Nat.le_of_ble_eq_true rfl) dX6_popInto_48 ⟨Nat.zero_le _, Nat.zero_le _⟩ (fun _ _ H locs hP hD hS => ?_)
        simp only [Option.some.injEq, Prod.mk.injEq] at hf
        obtain ⟨rfl, rfl⟩ := hf
        exact hend _ _ _ _ hP hD hS dX6_popInto_51
      · have hf := tm_iF c_5 hf
        by_cases c_7 : (d0_4 0 1) = 1
        · have hf := tm_iT c_7 hf
          refine va_aldq (C := "TreemapLayout$State") hx hb hK hP 1 2 rfl rfl (by rw [c_7]; exact tm_inb_in (by decide)) dX6_popInto_47 ?_
          rw [c_7]
          refine W.eq (g2 := F0 m 48 ls ([.ref (q0 5), .ref (q1 0)])) rfl ?_
          obtain ⟨t_8, ot_8, hf⟩ := tm_bS hf
          refine tm_cVV (As := [.ref (q0 5)]) (rest := []) ⟨hx, hb, hml, hown, hts⟩ (tX5_copyFrom l D cI cZ cR N q1 (tm_sq q0 5) d1 (tm_sh d0_4 5) t_8 ot_8) (cwV 1 hts gX6_popInto_X5_copyFrom rfl rfl rfl hdwsV_X5_copyFrom ⟨Nat.le_of_ble_eq_true rfl, Nat.le_of_ble_eq_true rfl⟩) hK hP hD hS hA [14, 15, 16, 5, 6, 7] (by decide) rfl rfl (ci := 5) rfl rfl rfl (fun _ => WX6X5 cI cZ cR q0 q1 d0_4 t_8) (()) rfl rfl hl.1 rfl (Nat.le_of_ble_eq_true rfl) dX6_popInto_48 ⟨Nat.zero_le _, Nat.zero_le _⟩ (fun _ _ H locs hP hD hS => ?_)
          simp only [Option.some.injEq, Prod.mk.injEq] at hf
          obtain ⟨rfl, rfl⟩ := hf
          exact hend _ _ _ _ hP hD hS dX6_popInto_51
        · have hf := tm_iF c_7 hf
          by_cases c_9 : (d0_4 0 1) = 2
          · have hf := tm_iT c_9 hf
            refine va_aldq (C := "TreemapLayout$State") hx hb hK hP 1 2 rfl rfl (by rw [c_9]; exact tm_inb_in (by decide)) dX6_popInto_47 ?_
            rw [c_9]
            refine W.eq (g2 := F0 m 48 ls ([.ref (q0 8), .ref (q1 0)])) rfl ?_
            obtain ⟨t_10, ot_10, hf⟩ := tm_bS hf
            refine tm_cVV (As := [.ref (q0 8)]) (rest := []) ⟨hx, hb, hml, hown, hts⟩ (tX5_copyFrom l D cI cZ cR N q1 (tm_sq q0 8) d1 (tm_sh d0_4 8) t_10 ot_10) (cwV 1 hts gX6_popInto_X5_copyFrom rfl rfl rfl hdwsV_X5_copyFrom ⟨Nat.le_of_ble_eq_true rfl, Nat.le_of_ble_eq_true rfl⟩) hK hP hD hS hA [14, 15, 16, 8, 9, 10] (by decide) rfl rfl (ci := 5) rfl rfl rfl (fun _ => WX6X5 cI cZ cR q0 q1 d0_4 t_10) (()) rfl rfl hl.1 rfl (Nat.le_of_ble_eq_true rfl) dX6_popInto_48 ⟨Nat.zero_le _, Nat.zero_le _⟩ (fun _ _ H locs hP hD hS => ?_)
            simp only [Option.some.injEq, Prod.mk.injEq] at hf
            obtain ⟨rfl, rfl⟩ := hf
            exact hend _ _ _ _ hP hD hS dX6_popInto_51
          · have hf := tm_iF c_9 hf
            by_cases c_11 : (d0_4 0 1) = 3
            · have hf := tm_iT c_11 hf
              refine va_aldq (C := "TreemapLayout$State") hx hb hK hP 1 2 rfl rfl (by rw [c_11]; exact tm_inb_in (by decide)) dX6_popInto_47 ?_
              rw [c_11]
              refine W.eq (g2 := F0 m 48 ls ([.ref (q0 11), .ref (q1 0)])) rfl ?_
              obtain ⟨t_12, ot_12, hf⟩ := tm_bS hf
              refine tm_cVV (As := [.ref (q0 11)]) (rest := []) ⟨hx, hb, hml, hown, hts⟩ (tX5_copyFrom l D cI cZ cR N q1 (tm_sq q0 11) d1 (tm_sh d0_4 11) t_12 ot_12) (cwV 1 hts gX6_popInto_X5_copyFrom rfl rfl rfl hdwsV_X5_copyFrom ⟨Nat.le_of_ble_eq_true rfl, Nat.le_of_ble_eq_true rfl⟩) hK hP hD hS hA [14, 15, 16, 11, 12, 13] (by decide) rfl rfl (ci := 5) rfl rfl rfl (fun _ => WX6X5 cI cZ cR q0 q1 d0_4 t_12) (()) rfl rfl hl.1 rfl (Nat.le_of_ble_eq_true rfl) dX6_popInto_48 ⟨Nat.zero_le _, Nat.zero_le _⟩ (fun _ _ H locs hP hD hS => ?_)
              simp only [Option.some.injEq, Prod.mk.injEq] at hf
              obtain ⟨rfl, rfl⟩ := hf
              exact hend _ _ _ _ hP hD hS dX6_popInto_51
            · have hf := tm_iF c_11 hf
              exact absurd hf (by simp)
    · have hf := tm_iF c_2 hf
      refine lv_aload_n hx hb dX6_popInto_15 rfl (lv_at hl 0 rfl) ?_
      refine va_get (D := D) (ci := 6) (v := .int (d0 0 1)) (C := RX6) (T := TX6) (N := 3) hx hb hts uX6_popInto_X6 hown hK hP 0 rfl rfl 1 (by decide) (hts _ kX6_popInto_f18) (fun _ h9 => h9) rfl dX6_popInto_16 ?_
      refine lv_iconst (v := 1) hx hb dX6_popInto_19 (by decide) ?_
      refine lv_isub hx hb dX6_popInto_20 ?_
      refine lv_goto (tgt := 25) hx hb dX6_popInto_21 (by decide) ?_
      refine tm_put (D := D) (ci := 6) (v := .int ((d0 0 1) - 1)) (ty := .int) (C := RX6) (T := TX6) (N := 3) hx hb hts uX6_popInto_X6 tyX6 tyX6_ok nmX6 hown hK hP hD hS 0 rfl rfl 1 (by decide) (hts _ kX6_popInto_f18) (fun _ h9 => h9) rfl (by decide +kernel) rfl rfl (Nat.le_of_ble_eq_true rfl) dX6_popInto_25 (fun z => WX6X5 cI cZ cR q0 q1 z d1) (tm_upk d0 0 1 ((d0 0 1) - 1)) rfl (fun d0_13 ed0_13 H locs hP hD hS => ?_)
      have hf := tm_at ed0_13 hf
      refine lv_aload_n hx hb dX6_popInto_28 rfl (lv_at hl 0 rfl) ?_
      refine lv_dup hx hb dX6_popInto_29 rfl ?_
      refine va_get (D := D) (ci := 6) (v := .int (d0_13 0 2)) (C := RX6) (T := TX6) (N := 3) hx hb hts uX6_popInto_X6 hown hK hP 0 rfl rfl 2 (by decide) (hts _ kX6_popInto_f26) (fun _ h9 => h9) rfl dX6_popInto_30 ?_
      refine lv_iconst (v := 1) hx hb dX6_popInto_33 (by decide) ?_
      refine lv_isub hx hb dX6_popInto_34 ?_
      refine tm_put (D := D) (ci := 6) (v := .int ((d0_13 0 2) - 1)) (ty := .int) (C := RX6) (T := TX6) (N := 3) hx hb hts uX6_popInto_X6 tyX6 tyX6_ok nmX6 hown hK hP hD hS 0 rfl rfl 2 (by decide) (hts _ kX6_popInto_f26) (fun _ h9 => h9) rfl (by decide +kernel) rfl rfl (Nat.le_of_ble_eq_true rfl) dX6_popInto_35 (fun z => WX6X5 cI cZ cR q0 q1 z d1) (tm_upk d0_13 0 2 ((d0_13 0 2) - 1)) rfl (fun d0_14 ed0_14 H locs hP hD hS => ?_)
      have hf := tm_at ed0_14 hf
      refine lv_aload_n hx hb dX6_popInto_38 rfl (lv_at hl 1 rfl) ?_
      refine lv_aload_n hx hb dX6_popInto_39 rfl (lv_at hl 0 rfl) ?_
      refine va_get (D := D) (ci := 6) (v := .ref (q0 1)) (C := RX6) (T := TX6) (N := 3) hx hb hts uX6_popInto_X6 hown hK hP 0 rfl rfl 0 (by decide) (hts _ kX6_popInto_f11) (fun _ h9 => h9) rfl dX6_popInto_40 ?_
      refine lv_aload_n hx hb dX6_popInto_43 rfl (lv_at hl 0 rfl) ?_
      refine va_get (D := D) (ci := 6) (v := .int (d0_14 0 1)) (C := RX6) (T := TX6) (N := 3) hx hb hts uX6_popInto_X6 hown hK hP 0 rfl rfl 1 (by decide) (hts _ kX6_popInto_f18) (fun _ h9 => h9) rfl dX6_popInto_44 ?_
      by_cases c_15 : (d0_14 0 1) = 0
      · have hf := tm_iT c_15 hf
        refine va_aldq (C := "TreemapLayout$State") hx hb hK hP 1 2 rfl rfl (by rw [c_15]; exact tm_inb_in (by decide)) dX6_popInto_47 ?_
        rw [c_15]
        refine W.eq (g2 := F0 m 48 ls ([.ref (q0 2), .ref (q1 0)])) rfl ?_
        obtain ⟨t_16, ot_16, hf⟩ := tm_bS hf
        refine tm_cVV (As := [.ref (q0 2)]) (rest := []) ⟨hx, hb, hml, hown, hts⟩ (tX5_copyFrom l D cI cZ cR N q1 (tm_sq q0 2) d1 (tm_sh d0_14 2) t_16 ot_16) (cwV 1 hts gX6_popInto_X5_copyFrom rfl rfl rfl hdwsV_X5_copyFrom ⟨Nat.le_of_ble_eq_true rfl, Nat.le_of_ble_eq_true rfl⟩) hK hP hD hS hA [14, 15, 16, 2, 3, 4] (by decide) rfl rfl (ci := 5) rfl rfl rfl (fun _ => WX6X5 cI cZ cR q0 q1 d0_14 t_16) (()) rfl rfl hl.1 rfl (Nat.le_of_ble_eq_true rfl) dX6_popInto_48 ⟨Nat.zero_le _, Nat.zero_le _⟩ (fun _ _ H locs hP hD hS => ?_)
        simp only [Option.some.injEq, Prod.mk.injEq] at hf
        obtain ⟨rfl, rfl⟩ := hf
        exact hend _ _ _ _ hP hD hS dX6_popInto_51
      · have hf := tm_iF c_15 hf
        by_cases c_17 : (d0_14 0 1) = 1
        · have hf := tm_iT c_17 hf
          refine va_aldq (C := "TreemapLayout$State") hx hb hK hP 1 2 rfl rfl (by rw [c_17]; exact tm_inb_in (by decide)) dX6_popInto_47 ?_
          rw [c_17]
          refine W.eq (g2 := F0 m 48 ls ([.ref (q0 5), .ref (q1 0)])) rfl ?_
          obtain ⟨t_18, ot_18, hf⟩ := tm_bS hf
          refine tm_cVV (As := [.ref (q0 5)]) (rest := []) ⟨hx, hb, hml, hown, hts⟩ (tX5_copyFrom l D cI cZ cR N q1 (tm_sq q0 5) d1 (tm_sh d0_14 5) t_18 ot_18) (cwV 1 hts gX6_popInto_X5_copyFrom rfl rfl rfl hdwsV_X5_copyFrom ⟨Nat.le_of_ble_eq_true rfl, Nat.le_of_ble_eq_true rfl⟩) hK hP hD hS hA [14, 15, 16, 5, 6, 7] (by decide) rfl rfl (ci := 5) rfl rfl rfl (fun _ => WX6X5 cI cZ cR q0 q1 d0_14 t_18) (()) rfl rfl hl.1 rfl (Nat.le_of_ble_eq_true rfl) dX6_popInto_48 ⟨Nat.zero_le _, Nat.zero_le _⟩ (fun _ _ H locs hP hD hS => ?_)
          simp only [Option.some.injEq, Prod.mk.injEq] at hf
          obtain ⟨rfl, rfl⟩ := hf
          exact hend _ _ _ _ hP hD hS dX6_popInto_51
        · have hf := tm_iF c_17 hf
          by_cases c_19 : (d0_14 0 1) = 2
          · have hf := tm_iT c_19 hf
            refine va_aldq (C := "TreemapLayout$State") hx hb hK hP 1 2 rfl rfl (by rw [c_19]; exact tm_inb_in (by decide)) dX6_popInto_47 ?_
            rw [c_19]
            refine W.eq (g2 := F0 m 48 ls ([.ref (q0 8), .ref (q1 0)])) rfl ?_
            obtain ⟨t_20, ot_20, hf⟩ := tm_bS hf
            refine tm_cVV (As := [.ref (q0 8)]) (rest := []) ⟨hx, hb, hml, hown, hts⟩ (tX5_copyFrom l D cI cZ cR N q1 (tm_sq q0 8) d1 (tm_sh d0_14 8) t_20 ot_20) (cwV 1 hts gX6_popInto_X5_copyFrom rfl rfl rfl hdwsV_X5_copyFrom ⟨Nat.le_of_ble_eq_true rfl, Nat.le_of_ble_eq_true rfl⟩) hK hP hD hS hA [14, 15, 16, 8, 9, 10] (by decide) rfl rfl (ci := 5) rfl rfl rfl (fun _ => WX6X5 cI cZ cR q0 q1 d0_14 t_20) (()) rfl rfl hl.1 rfl (Nat.le_of_ble_eq_true rfl) dX6_popInto_48 ⟨Nat.zero_le _, Nat.zero_le _⟩ (fun _ _ H locs hP hD hS => ?_)
            simp only [Option.some.injEq, Prod.mk.injEq] at hf
            obtain ⟨rfl, rfl⟩ := hf
            exact hend _ _ _ _ hP hD hS dX6_popInto_51
          · have hf := tm_iF c_19 hf
            by_cases c_21 : (d0_14 0 1) = 3
            · have hf := tm_iT c_21 hf
              refine va_aldq (C := "TreemapLayout$State") hx hb hK hP 1 2 rfl rfl (by rw [c_21]; exact tm_inb_in (by decide)) dX6_popInto_47 ?_
              rw [c_21]
              refine W.eq (g2 := F0 m 48 ls ([.ref (q0 11), .ref (q1 0)])) rfl ?_
              obtain ⟨t_22, ot_22, hf⟩ := tm_bS hf
              refine tm_cVV (As := [.ref (q0 11)]) (rest := []) ⟨hx, hb, hml, hown, hts⟩ (tX5_copyFrom l D cI cZ cR N q1 (tm_sq q0 11) d1 (tm_sh d0_14 11) t_22 ot_22) (cwV 1 hts gX6_popInto_X5_copyFrom rfl rfl rfl hdwsV_X5_copyFrom ⟨Nat.le_of_ble_eq_true rfl, Nat.le_of_ble_eq_true rfl⟩) hK hP hD hS hA [14, 15, 16, 11, 12, 13] (by decide) rfl rfl (ci := 5) rfl rfl rfl (fun _ => WX6X5 cI cZ cR q0 q1 d0_14 t_22) (()) rfl rfl hl.1 rfl (Nat.le_of_ble_eq_true rfl) dX6_popInto_48 ⟨Nat.zero_le _, Nat.zero_le _⟩ (fun _ _ H locs hP hD hS => ?_)
              simp only [Option.some.injEq, Prod.mk.injEq] at hf
              obtain ⟨rfl, rfl⟩ := hf
              exact hend _ _ _ _ hP hD hS dX6_popInto_51
            · have hf := tm_iF c_21 hf
              exact absurd hf (by simp)
set_option maxHeartbeats 4000000 in
set_option maxRecDepth 100000 in
theorem tX7_failInvalid (l : Launch) (D : va_G) (cI cZ cR : ClassId) (N : Nat) (q0 : Nat → Nat) (d0 : tm_M) (r0 : Int32) (z0 : tm_M) (hf : fX7_failInvalid N d0 = some (r0, z0)) : tm_CI l D (tm_ty cI cZ cR) yX7_failInvalid wsX7_failInvalid rmX7_failInvalid [.ref (q0 0)] (WX7 cI cZ cR q0 d0) r0 (WX7 cI cZ cR q0 z0) := by
  refine tm_mkI (cc := cX7_failInvalid) (maxL := 1) (ty := .int) (by decide) rfl (Nat.le_of_ble_eq_true rfl) ?_
  intro p e s m below meth c A ls Q C hP hD hS hl hend
  have C : tm_Cx p s m c [.ref (q0 0)].toArray cX7_failInvalid 1 RX7 wsX7_failInvalid D (tm_ty cI cZ cR) A s.heap := C
  obtain ⟨hx, hb, hml, hown, hts, hK, hA⟩ := id C
  have hl : lv_has ls 1 [(0, .ref (q0 0))] := hl
  unfold fX7_failInvalid at hf
  refine lv_aload_n hx hb dX7_failInvalid_0 rfl (lv_at hl 0 rfl) ?_
  refine lv_dup hx hb dX7_failInvalid_1 rfl ?_
  refine va_get (D := D) (ci := 7) (v := .int (d0 0 5)) (C := RX7) (T := TX7) (N := 8) hx hb hts uX7_failInvalid_X7 hown hK hP 0 rfl rfl 5 (by decide) (hts _ kX7_failInvalid_f158) (fun _ h9 => h9) rfl dX7_failInvalid_2 ?_
  refine lv_iconst (v := 1) hx hb dX7_failInvalid_5 (by decide) ?_
  refine lv_iadd hx hb dX7_failInvalid_6 ?_
  refine tm_put (D := D) (ci := 7) (v := .int ((d0 0 5) + 1)) (ty := .int) (C := RX7) (T := TX7) (N := 8) hx hb hts uX7_failInvalid_X7 tyX7 tyX7_ok nmX7 hown hK hP hD hS 0 rfl rfl 5 (by decide) (hts _ kX7_failInvalid_f158) (fun _ h9 => h9) rfl (by decide +kernel) rfl rfl (Nat.le_of_ble_eq_true rfl) dX7_failInvalid_7 (fun z => WX7 cI cZ cR q0 z) (tm_upk d0 0 5 ((d0 0 5) + 1)) rfl (fun d0_1 ed0_1 H locs hP hD hS => ?_)
  have hf := tm_at ed0_1 hf
  refine lv_bipush (v := (-2)) hx hb dX7_failInvalid_10 (by decide) ?_
  simp only [Option.some.injEq, Prod.mk.injEq] at hf
  obtain ⟨rfl, rfl⟩ := hf
  exact hend _ _ _ _ hP hD hS rfl dX7_failInvalid_12
set_option maxHeartbeats 4000000 in
set_option maxRecDepth 100000 in
theorem tX7_isSize (l : Launch) (D : va_G) (cI cZ cR : ClassId) (N : Nat) (p1 : Int32) (r0 : Int32) (hf : fX7_isSize N p1 = some r0) : tm_CI l D (tm_ty cI cZ cR) yX7_isSize wsX7_isSize rmX7_isSize [.int p1] (([] : va_W)) r0 (([] : va_W)) := by
  refine tm_mkI (cc := cX7_isSize) (maxL := 1) (ty := .boolean) (by decide) rfl (Nat.le_of_ble_eq_true rfl) ?_
  intro p e s m below meth c A ls Q C hP hD hS hl hend
  have C : tm_Cx p s m c [.int p1].toArray cX7_isSize 1 RX7 wsX7_isSize D (tm_ty cI cZ cR) A s.heap := C
  obtain ⟨hx, hb, hml, hown, hts, hK, hA⟩ := id C
  have hl : lv_has ls 1 [(0, .int p1)] := hl
  unfold fX7_isSize at hf
  refine lv_iload_n hx hb dX7_isSize_0 rfl (lv_at hl 0 rfl) ?_
  refine lv_iconst (v := 1) hx hb dX7_isSize_1 (by decide) ?_
  refine lv_icmp_lt (tgt := 15) hx hb dX7_isSize_2 (by decide) (fun c_1 => ?_) (fun c_1 => ?_)
  · have hf := tm_iT c_1 hf
    refine lv_iconst (v := 0) hx hb dX7_isSize_15 (by decide) ?_
    obtain rfl := Option.some.inj hf
    exact hend _ _ _ _ hP hD hS (by decide) dX7_isSize_16
  · have hf := tm_iF c_1 hf
    refine lv_iload_n hx hb dX7_isSize_5 rfl (lv_at hl 0 rfl) ?_
    refine lv_bipush (v := 99) hx hb dX7_isSize_6 (by decide) ?_
    refine lv_icmp_gt (tgt := 15) hx hb dX7_isSize_8 (by decide) (fun c_2 => ?_) (fun c_2 => ?_)
    · have hf := tm_iT c_2 hf
      refine lv_iconst (v := 0) hx hb dX7_isSize_15 (by decide) ?_
      obtain rfl := Option.some.inj hf
      exact hend _ _ _ _ hP hD hS (by decide) dX7_isSize_16
    · have hf := tm_iF c_2 hf
      refine lv_iconst (v := 1) hx hb dX7_isSize_11 (by decide) ?_
      refine lv_goto (tgt := 16) hx hb dX7_isSize_12 (by decide) ?_
      obtain rfl := Option.some.inj hf
      exact hend _ _ _ _ hP hD hS (by decide) dX7_isSize_16
set_option maxHeartbeats 4000000 in
set_option maxRecDepth 100000 in
theorem tX7_failFull (l : Launch) (D : va_G) (cI cZ cR : ClassId) (N : Nat) (q0 : Nat → Nat) (d0 : tm_M) (r0 : Int32) (z0 : tm_M) (hf : fX7_failFull N d0 = some (r0, z0)) : tm_CI l D (tm_ty cI cZ cR) yX7_failFull wsX7_failFull rmX7_failFull [.ref (q0 0)] (WX7 cI cZ cR q0 d0) r0 (WX7 cI cZ cR q0 z0) := by
  refine tm_mkI (cc := cX7_failFull) (maxL := 1) (ty := .int) (by decide) rfl (Nat.le_of_ble_eq_true rfl) ?_
  intro p e s m below meth c A ls Q C hP hD hS hl hend
  have C : tm_Cx p s m c [.ref (q0 0)].toArray cX7_failFull 1 RX7 wsX7_failFull D (tm_ty cI cZ cR) A s.heap := C
  obtain ⟨hx, hb, hml, hown, hts, hK, hA⟩ := id C
  have hl : lv_has ls 1 [(0, .ref (q0 0))] := hl
  unfold fX7_failFull at hf
  refine lv_aload_n hx hb dX7_failFull_0 rfl (lv_at hl 0 rfl) ?_
  refine lv_dup hx hb dX7_failFull_1 rfl ?_
  refine va_get (D := D) (ci := 7) (v := .int (d0 0 7)) (C := RX7) (T := TX7) (N := 8) hx hb hts uX7_failFull_X7 hown hK hP 0 rfl rfl 7 (by decide) (hts _ kX7_failFull_f164) (fun _ h9 => h9) rfl dX7_failFull_2 ?_
  refine lv_iconst (v := 1) hx hb dX7_failFull_5 (by decide) ?_
  refine lv_iadd hx hb dX7_failFull_6 ?_
  refine tm_put (D := D) (ci := 7) (v := .int ((d0 0 7) + 1)) (ty := .int) (C := RX7) (T := TX7) (N := 8) hx hb hts uX7_failFull_X7 tyX7 tyX7_ok nmX7 hown hK hP hD hS 0 rfl rfl 7 (by decide) (hts _ kX7_failFull_f164) (fun _ h9 => h9) rfl (by decide +kernel) rfl rfl (Nat.le_of_ble_eq_true rfl) dX7_failFull_7 (fun z => WX7 cI cZ cR q0 z) (tm_upk d0 0 7 ((d0 0 7) + 1)) rfl (fun d0_1 ed0_1 H locs hP hD hS => ?_)
  have hf := tm_at ed0_1 hf
  refine lv_bipush (v := (-4)) hx hb dX7_failFull_10 (by decide) ?_
  simp only [Option.some.injEq, Prod.mk.injEq] at hf
  obtain ⟨rfl, rfl⟩ := hf
  exact hend _ _ _ _ hP hD hS rfl dX7_failFull_12
set_option maxHeartbeats 4000000 in
set_option maxRecDepth 100000 in
theorem tX7_addNode (l : Launch) (D : va_G) (cI cZ cR : ClassId) (N : Nat) (q0 : Nat → Nat) (d0 : tm_M) (p1 : Int32) (p2 : Int32) (r0 : Int32) (z0 : tm_M) (hf : fX7_addNode N d0 p1 p2 = some (r0, z0)) : tm_CI l D (tm_ty cI cZ cR) yX7_addNode wsX7_addNode rmX7_addNode [.ref (q0 0), .int p1, .int p2] (WX7 cI cZ cR q0 d0) r0 (WX7 cI cZ cR q0 z0) := by
  refine tm_mkI (cc := cX7_addNode) (maxL := 3) (ty := .int) (by decide) rfl (Nat.le_of_ble_eq_true rfl) ?_
  intro p e s m below meth c A ls Q C hP hD hS hl hend
  have C : tm_Cx p s m c [.ref (q0 0), .int p1, .int p2].toArray cX7_addNode 3 RX7 wsX7_addNode D (tm_ty cI cZ cR) A s.heap := C
  obtain ⟨hx, hb, hml, hown, hts, hK, hA⟩ := id C
  have hl : lv_has ls 3 [(0, .ref (q0 0)), (1, .int p1), (2, .int p2)] := hl
  unfold fX7_addNode at hf
  refine lv_aload_n hx hb dX7_addNode_0 rfl (lv_at hl 0 rfl) ?_
  refine va_get (D := D) (ci := 7) (v := .ref (q0 1)) (C := RX7) (T := TX7) (N := 8) hx hb hts uX7_addNode_X7 hown hK hP 0 rfl rfl 0 (by decide) (hts _ kX7_addNode_f10) (fun _ h9 => h9) rfl dX7_addNode_1 ?_
  refine lv_iload_n hx hb dX7_addNode_4 rfl (lv_at hl 1 rfl) ?_
  obtain ⟨t_1, ot_1, hf⟩ := tm_bS hf
  refine tm_cVI (As := [.int p1]) (rest := []) ⟨hx, hb, hml, hown, hts⟩ (tX5_has l D cI cZ cR N (tm_sq q0 1) (tm_sh d0 1) p1 t_1 ot_1) (cwV 1 hts gX7_addNode_X5_has rfl rfl rfl hdwsV_X5_has ⟨Nat.le_of_ble_eq_true rfl, Nat.le_of_ble_eq_true rfl⟩) hK hP hD hS hA [1, 2, 3] (by decide) rfl rfl (ci := 5) rfl rfl rfl (fun _ => WX7 cI cZ cR q0 d0) (()) rfl rfl hl.1 rfl (Nat.le_of_ble_eq_true rfl) dX7_addNode_5 ⟨Nat.zero_le _, Nat.zero_le _⟩ (fun _ _ H locs hP hD hS => ?_)
  refine lv_if_eq (tgt := 18) hx hb dX7_addNode_8 (by decide) (fun c_2 => ?_) (fun c_2 => ?_)
  · have hf := tm_iT c_2 hf
    refine lv_aload_n hx hb dX7_addNode_18 rfl (lv_at hl 0 rfl) ?_
    obtain ⟨t_3, ot_3, hf⟩ := tm_bS hf
    refine tm_cVI (As := []) (rest := []) ⟨hx, hb, hml, hown, hts⟩ (tX7_failInvalid l D cI cZ cR N q0 d0 t_3.1 t_3.2 ot_3) (cwV 0 hts gX7_addNode_X7_failInvalid rfl rfl rfl hdwsV_X7_failInvalid ⟨Nat.le_of_ble_eq_true rfl, Nat.le_of_ble_eq_true rfl⟩) hK hP hD hS hA [0, 1, 2, 3, 4, 5, 6, 7, 8, 9, 10, 11, 12, 13, 14, 15, 16, 17, 18, 19, 20, 21, 22, 23, 24, 25, 26, 27, 28, 29, 30, 31, 32, 33, 34, 35, 36, 37, 38, 39, 40, 41, 42, 43, 44, 45, 46, 47, 48, 49, 50, 51, 52, 53, 54, 55, 56, 57, 58, 59, 60, 61, 62, 63, 64, 65, 66, 67, 68, 69, 70, 71, 72] (by decide) rfl rfl (ci := 7) rfl rfl rfl (fun _ => WX7 cI cZ cR q0 t_3.2) (()) rfl rfl hl.1 rfl (Nat.le_of_ble_eq_true rfl) dX7_addNode_19 ⟨Nat.zero_le _, Nat.zero_le _⟩ (fun _ _ H locs hP hD hS => ?_)
    simp only [Option.some.injEq, Prod.mk.injEq] at hf
    obtain ⟨rfl, rfl⟩ := hf
    exact hend _ _ _ _ hP hD hS rfl dX7_addNode_22
  · have hf := tm_iF c_2 hf
    refine lv_iload_n hx hb dX7_addNode_11 rfl (lv_at hl 2 rfl) ?_
    obtain ⟨t_4, ot_4, hf⟩ := tm_bS hf
    refine tm_cSI (As := [.int p2]) (rest := []) ⟨hx, hb, hml, hown, hts⟩ (tX7_isSize l D cI cZ cR N p2 t_4 ot_4) (va_cwS 1 hts gX7_addNode_X7_isSize rfl rfl rfl hdwsS_X7_isSize ⟨Nat.le_of_ble_eq_true rfl, Nat.le_of_ble_eq_true rfl⟩) hK hP hD hS hA [] (by decide) rfl rfl (fun _ => WX7 cI cZ cR q0 d0) (()) rfl rfl hl.1 rfl (Nat.le_of_ble_eq_true rfl) dX7_addNode_12 ⟨Nat.zero_le _, Nat.zero_le _⟩ (fun _ _ H locs hP hD hS => ?_)
    refine lv_if_ne (tgt := 23) hx hb dX7_addNode_15 (by decide) (fun c_5 => ?_) (fun c_5 => ?_)
    · have hf := tm_iF c_5 hf
      refine lv_aload_n hx hb dX7_addNode_23 rfl (lv_at hl 0 rfl) ?_
      refine va_get (D := D) (ci := 7) (v := .ref (q0 1)) (C := RX7) (T := TX7) (N := 8) hx hb hts uX7_addNode_X7 hown hK hP 0 rfl rfl 0 (by decide) (hts _ kX7_addNode_f10) (fun _ h9 => h9) rfl dX7_addNode_24 ?_
      refine va_get (D := D) (ci := 5) (v := .int (d0 1 2)) (C := RX5) (T := TX5) (N := 7) hx hb hts uX7_addNode_X5 hown hK hP 1 rfl rfl 2 (by decide) (hts _ kX7_addNode_f51) (fun _ h9 => h9) rfl dX7_addNode_27 ?_
      refine lv_bipush (v := 24) hx hb dX7_addNode_30 (by decide) ?_
      refine lv_icmp_lt (tgt := 40) hx hb dX7_addNode_32 (by decide) (fun c_6 => ?_) (fun c_6 => ?_)
      · have hf := tm_iT c_6 hf
        refine lv_aload_n hx hb dX7_addNode_40 rfl (lv_at hl 0 rfl) ?_
        refine va_get (D := D) (ci := 7) (v := .ref (q0 30)) (C := RX7) (T := TX7) (N := 8) hx hb hts uX7_addNode_X7 hown hK hP 0 rfl rfl 2 (by decide) (hts _ kX7_addNode_f26) (fun _ h9 => h9) rfl dX7_addNode_41 ?_
        refine lv_aload_n hx hb dX7_addNode_44 rfl (lv_at hl 0 rfl) ?_
        refine va_get (D := D) (ci := 7) (v := .ref (q0 1)) (C := RX7) (T := TX7) (N := 8) hx hb hts uX7_addNode_X7 hown hK hP 0 rfl rfl 0 (by decide) (hts _ kX7_addNode_f10) (fun _ h9 => h9) rfl dX7_addNode_45 ?_
        obtain ⟨t_7, ot_7, hf⟩ := tm_bS hf
        refine tm_cVV (As := [.ref (q0 1)]) (rest := []) ⟨hx, hb, hml, hown, hts⟩ (tX6_push l D cI cZ cR N (tm_sq q0 30) (tm_sq q0 1) (tm_sh d0 30) (tm_sh d0 1) t_7 ot_7) (cwV 1 hts gX7_addNode_X6_push rfl rfl rfl hdwsV_X6_push ⟨Nat.le_of_ble_eq_true rfl, Nat.le_of_ble_eq_true rfl⟩) hK hP hD hS hA [30, 31, 32, 33, 34, 35, 36, 37, 38, 39, 40, 41, 42, 43, 1, 2, 3] (by decide) rfl rfl (ci := 6) rfl rfl rfl (fun z => WX7 cI cZ cR q0 z) (tm_ins d0 30 14 t_7) rfl rfl hl.1 rfl (Nat.le_of_ble_eq_true rfl) dX7_addNode_48 ⟨Nat.zero_le _, Nat.zero_le _⟩ (fun d0_8 ed0_8 H locs hP hD hS => ?_)
        have hf := tm_at ed0_8 hf
        refine lv_aload_n hx hb dX7_addNode_51 rfl (lv_at hl 0 rfl) ?_
        refine va_get (D := D) (ci := 7) (v := .ref (q0 1)) (C := RX7) (T := TX7) (N := 8) hx hb hts uX7_addNode_X7 hown hK hP 0 rfl rfl 0 (by decide) (hts _ kX7_addNode_f10) (fun _ h9 => h9) rfl dX7_addNode_52 ?_
        refine lv_iload_n hx hb dX7_addNode_55 rfl (lv_at hl 1 rfl) ?_
        refine lv_iload_n hx hb dX7_addNode_56 rfl (lv_at hl 2 rfl) ?_
        obtain ⟨t_9, ot_9, hf⟩ := tm_bS hf
        refine tm_cVV (As := [.int p1, .int p2]) (rest := []) ⟨hx, hb, hml, hown, hts⟩ (tX5_append l D cI cZ cR N (tm_sq q0 1) (tm_sh d0_8 1) p1 p2 t_9 ot_9) (cwV 2 hts gX7_addNode_X5_append rfl rfl rfl hdwsV_X5_append ⟨Nat.le_of_ble_eq_true rfl, Nat.le_of_ble_eq_true rfl⟩) hK hP hD hS hA [1, 2, 3] (by decide) rfl rfl (ci := 5) rfl rfl rfl (fun z => WX7 cI cZ cR q0 z) (tm_ins d0_8 1 3 t_9) rfl rfl hl.1 rfl (Nat.le_of_ble_eq_true rfl) dX7_addNode_57 ⟨Nat.zero_le _, Nat.zero_le _⟩ (fun d0_10 ed0_10 H locs hP hD hS => ?_)
        have hf := tm_at ed0_10 hf
        refine lv_aload_n hx hb dX7_addNode_60 rfl (lv_at hl 0 rfl) ?_
        refine va_get (D := D) (ci := 7) (v := .ref (q0 4)) (C := RX7) (T := TX7) (N := 8) hx hb hts uX7_addNode_X7 hown hK hP 0 rfl rfl 1 (by decide) (hts _ kX7_addNode_f19) (fun _ h9 => h9) rfl dX7_addNode_61 ?_
        refine lv_aload_n hx hb dX7_addNode_64 rfl (lv_at hl 0 rfl) ?_
        refine va_get (D := D) (ci := 7) (v := .ref (q0 1)) (C := RX7) (T := TX7) (N := 8) hx hb hts uX7_addNode_X7 hown hK hP 0 rfl rfl 0 (by decide) (hts _ kX7_addNode_f10) (fun _ h9 => h9) rfl dX7_addNode_65 ?_
        obtain ⟨t_11, ot_11, hf⟩ := tm_bS hf
        refine tm_cVV (As := [.ref (q0 1)]) (rest := []) ⟨hx, hb, hml, hown, hts⟩ (tX1_arrange l D cI cZ cR N (tm_sq q0 4) (tm_sq q0 1) (tm_sh d0_10 4) (tm_sh d0_10 1) t_11 ot_11) (cwV 1 hts gX7_addNode_X1_arrange rfl rfl rfl hdwsV_X1_arrange ⟨Nat.le_of_ble_eq_true rfl, Nat.le_of_ble_eq_true rfl⟩) hK hP hD hS hA [4, 5, 6, 7, 8, 9, 10, 11, 12, 13, 14, 15, 16, 17, 18, 19, 20, 21, 22, 23, 24, 25, 26, 27, 28, 29, 1, 2, 3] (by decide) rfl rfl (ci := 1) rfl rfl rfl (fun z => WX7 cI cZ cR q0 z) (tm_ins d0_10 4 26 t_11) rfl rfl hl.1 rfl (Nat.le_of_ble_eq_true rfl) dX7_addNode_68 ⟨Nat.zero_le _, Nat.zero_le _⟩ (fun d0_12 ed0_12 H locs hP hD hS => ?_)
        have hf := tm_at ed0_12 hf
        refine lv_aload_n hx hb dX7_addNode_71 rfl (lv_at hl 0 rfl) ?_
        refine va_get (D := D) (ci := 7) (v := .ref (q0 1)) (C := RX7) (T := TX7) (N := 8) hx hb hts uX7_addNode_X7 hown hK hP 0 rfl rfl 0 (by decide) (hts _ kX7_addNode_f10) (fun _ h9 => h9) rfl dX7_addNode_72 ?_
        refine va_get (D := D) (ci := 5) (v := .int (d0_12 1 2)) (C := RX5) (T := TX5) (N := 7) hx hb hts uX7_addNode_X5 hown hK hP 1 rfl rfl 2 (by decide) (hts _ kX7_addNode_f51) (fun _ h9 => h9) rfl dX7_addNode_75 ?_
        refine lv_iconst (v := 1) hx hb dX7_addNode_78 (by decide) ?_
        refine lv_isub hx hb dX7_addNode_79 ?_
        simp only [Option.some.injEq, Prod.mk.injEq] at hf
        obtain ⟨rfl, rfl⟩ := hf
        exact hend _ _ _ _ hP hD hS rfl dX7_addNode_80
      · have hf := tm_iF c_6 hf
        refine lv_aload_n hx hb dX7_addNode_35 rfl (lv_at hl 0 rfl) ?_
        obtain ⟨t_13, ot_13, hf⟩ := tm_bS hf
        refine tm_cVI (As := []) (rest := []) ⟨hx, hb, hml, hown, hts⟩ (tX7_failFull l D cI cZ cR N q0 d0 t_13.1 t_13.2 ot_13) (cwV 0 hts gX7_addNode_X7_failFull rfl rfl rfl hdwsV_X7_failFull ⟨Nat.le_of_ble_eq_true rfl, Nat.le_of_ble_eq_true rfl⟩) hK hP hD hS hA [0, 1, 2, 3, 4, 5, 6, 7, 8, 9, 10, 11, 12, 13, 14, 15, 16, 17, 18, 19, 20, 21, 22, 23, 24, 25, 26, 27, 28, 29, 30, 31, 32, 33, 34, 35, 36, 37, 38, 39, 40, 41, 42, 43, 44, 45, 46, 47, 48, 49, 50, 51, 52, 53, 54, 55, 56, 57, 58, 59, 60, 61, 62, 63, 64, 65, 66, 67, 68, 69, 70, 71, 72] (by decide) rfl rfl (ci := 7) rfl rfl rfl (fun _ => WX7 cI cZ cR q0 t_13.2) (()) rfl rfl hl.1 rfl (Nat.le_of_ble_eq_true rfl) dX7_addNode_36 ⟨Nat.zero_le _, Nat.zero_le _⟩ (fun _ _ H locs hP hD hS => ?_)
        simp only [Option.some.injEq, Prod.mk.injEq] at hf
        obtain ⟨rfl, rfl⟩ := hf
        exact hend _ _ _ _ hP hD hS rfl dX7_addNode_39
    · have hf := tm_iT c_5 hf
      refine lv_aload_n hx hb dX7_addNode_18 rfl (lv_at hl 0 rfl) ?_
      obtain ⟨t_14, ot_14, hf⟩ := tm_bS hf
      refine tm_cVI (As := []) (rest := []) ⟨hx, hb, hml, hown, hts⟩ (tX7_failInvalid l D cI cZ cR N q0 d0 t_14.1 t_14.2 ot_14) (cwV 0 hts gX7_addNode_X7_failInvalid rfl rfl rfl hdwsV_X7_failInvalid ⟨Nat.le_of_ble_eq_true rfl, Nat.le_of_ble_eq_true rfl⟩) hK hP hD hS hA [0, 1, 2, 3, 4, 5, 6, 7, 8, 9, 10, 11, 12, 13, 14, 15, 16, 17, 18, 19, 20, 21, 22, 23, 24, 25, 26, 27, 28, 29, 30, 31, 32, 33, 34, 35, 36, 37, 38, 39, 40, 41, 42, 43, 44, 45, 46, 47, 48, 49, 50, 51, 52, 53, 54, 55, 56, 57, 58, 59, 60, 61, 62, 63, 64, 65, 66, 67, 68, 69, 70, 71, 72] (by decide) rfl rfl (ci := 7) rfl rfl rfl (fun _ => WX7 cI cZ cR q0 t_14.2) (()) rfl rfl hl.1 rfl (Nat.le_of_ble_eq_true rfl) dX7_addNode_19 ⟨Nat.zero_le _, Nat.zero_le _⟩ (fun _ _ H locs hP hD hS => ?_)
      simp only [Option.some.injEq, Prod.mk.injEq] at hf
      obtain ⟨rfl, rfl⟩ := hf
      exact hend _ _ _ _ hP hD hS rfl dX7_addNode_22
set_option maxHeartbeats 4000000 in
set_option maxRecDepth 100000 in
theorem tX7_setSize (l : Launch) (D : va_G) (cI cZ cR : ClassId) (N : Nat) (q0 : Nat → Nat) (d0 : tm_M) (p1 : Int32) (p2 : Int32) (r0 : Int32) (z0 : tm_M) (hf : fX7_setSize N d0 p1 p2 = some (r0, z0)) : tm_CI l D (tm_ty cI cZ cR) yX7_setSize wsX7_setSize rmX7_setSize [.ref (q0 0), .int p1, .int p2] (WX7 cI cZ cR q0 d0) r0 (WX7 cI cZ cR q0 z0) := by
  refine tm_mkI (cc := cX7_setSize) (maxL := 4) (ty := .int) (by decide) rfl (Nat.le_of_ble_eq_true rfl) ?_
  intro p e s m below meth c A ls Q C hP hD hS hl hend
  have C : tm_Cx p s m c [.ref (q0 0), .int p1, .int p2].toArray cX7_setSize 4 RX7 wsX7_setSize D (tm_ty cI cZ cR) A s.heap := C
  obtain ⟨hx, hb, hml, hown, hts, hK, hA⟩ := id C
  have hl : lv_has ls 4 [(0, .ref (q0 0)), (1, .int p1), (2, .int p2)] := hl
  unfold fX7_setSize at hf
  refine lv_aload_n hx hb dX7_setSize_0 rfl (lv_at hl 0 rfl) ?_
  refine va_get (D := D) (ci := 7) (v := .ref (q0 1)) (C := RX7) (T := TX7) (N := 8) hx hb hts uX7_setSize_X7 hown hK hP 0 rfl rfl 0 (by decide) (hts _ kX7_setSize_f10) (fun _ h9 => h9) rfl dX7_setSize_1 ?_
  refine lv_iload_n hx hb dX7_setSize_4 rfl (lv_at hl 1 rfl) ?_
  obtain ⟨t_1, ot_1, hf⟩ := tm_bS hf
  refine tm_cVI (As := [.int p1]) (rest := []) ⟨hx, hb, hml, hown, hts⟩ (tX5_has l D cI cZ cR N (tm_sq q0 1) (tm_sh d0 1) p1 t_1 ot_1) (cwV 1 hts gX7_setSize_X5_has rfl rfl rfl hdwsV_X5_has ⟨Nat.le_of_ble_eq_true rfl, Nat.le_of_ble_eq_true rfl⟩) hK hP hD hS hA [1, 2, 3] (by decide) rfl rfl (ci := 5) rfl rfl rfl (fun _ => WX7 cI cZ cR q0 d0) (()) rfl rfl hl.1 rfl (Nat.le_of_ble_eq_true rfl) dX7_setSize_5 ⟨Nat.zero_le _, Nat.zero_le _⟩ (fun _ _ H locs hP hD hS => ?_)
  refine lv_if_eq (tgt := 18) hx hb dX7_setSize_8 (by decide) (fun c_2 => ?_) (fun c_2 => ?_)
  · have hf := tm_iT c_2 hf
    refine lv_aload_n hx hb dX7_setSize_18 rfl (lv_at hl 0 rfl) ?_
    obtain ⟨t_3, ot_3, hf⟩ := tm_bS hf
    refine tm_cVI (As := []) (rest := []) ⟨hx, hb, hml, hown, hts⟩ (tX7_failInvalid l D cI cZ cR N q0 d0 t_3.1 t_3.2 ot_3) (cwV 0 hts gX7_setSize_X7_failInvalid rfl rfl rfl hdwsV_X7_failInvalid ⟨Nat.le_of_ble_eq_true rfl, Nat.le_of_ble_eq_true rfl⟩) hK hP hD hS hA [0, 1, 2, 3, 4, 5, 6, 7, 8, 9, 10, 11, 12, 13, 14, 15, 16, 17, 18, 19, 20, 21, 22, 23, 24, 25, 26, 27, 28, 29, 30, 31, 32, 33, 34, 35, 36, 37, 38, 39, 40, 41, 42, 43, 44, 45, 46, 47, 48, 49, 50, 51, 52, 53, 54, 55, 56, 57, 58, 59, 60, 61, 62, 63, 64, 65, 66, 67, 68, 69, 70, 71, 72] (by decide) rfl rfl (ci := 7) rfl rfl rfl (fun _ => WX7 cI cZ cR q0 t_3.2) (()) rfl rfl hl.1 rfl (Nat.le_of_ble_eq_true rfl) dX7_setSize_19 ⟨Nat.zero_le _, Nat.zero_le _⟩ (fun _ _ H locs hP hD hS => ?_)
    simp only [Option.some.injEq, Prod.mk.injEq] at hf
    obtain ⟨rfl, rfl⟩ := hf
    exact hend _ _ _ _ hP hD hS rfl dX7_setSize_22
  · have hf := tm_iF c_2 hf
    refine lv_iload_n hx hb dX7_setSize_11 rfl (lv_at hl 2 rfl) ?_
    obtain ⟨t_4, ot_4, hf⟩ := tm_bS hf
    refine tm_cSI (As := [.int p2]) (rest := []) ⟨hx, hb, hml, hown, hts⟩ (tX7_isSize l D cI cZ cR N p2 t_4 ot_4) (va_cwS 1 hts gX7_setSize_X7_isSize rfl rfl rfl hdwsS_X7_isSize ⟨Nat.le_of_ble_eq_true rfl, Nat.le_of_ble_eq_true rfl⟩) hK hP hD hS hA [] (by decide) rfl rfl (fun _ => WX7 cI cZ cR q0 d0) (()) rfl rfl hl.1 rfl (Nat.le_of_ble_eq_true rfl) dX7_setSize_12 ⟨Nat.zero_le _, Nat.zero_le _⟩ (fun _ _ H locs hP hD hS => ?_)
    refine lv_if_ne (tgt := 23) hx hb dX7_setSize_15 (by decide) (fun c_5 => ?_) (fun c_5 => ?_)
    · have hf := tm_iF c_5 hf
      refine lv_aload_n hx hb dX7_setSize_23 rfl (lv_at hl 0 rfl) ?_
      refine va_get (D := D) (ci := 7) (v := .ref (q0 30)) (C := RX7) (T := TX7) (N := 8) hx hb hts uX7_setSize_X7 hown hK hP 0 rfl rfl 2 (by decide) (hts _ kX7_setSize_f26) (fun _ h9 => h9) rfl dX7_setSize_24 ?_
      refine lv_aload_n hx hb dX7_setSize_27 rfl (lv_at hl 0 rfl) ?_
      refine va_get (D := D) (ci := 7) (v := .ref (q0 1)) (C := RX7) (T := TX7) (N := 8) hx hb hts uX7_setSize_X7 hown hK hP 0 rfl rfl 0 (by decide) (hts _ kX7_setSize_f10) (fun _ h9 => h9) rfl dX7_setSize_28 ?_
      obtain ⟨t_6, ot_6, hf⟩ := tm_bS hf
      refine tm_cVV (As := [.ref (q0 1)]) (rest := []) ⟨hx, hb, hml, hown, hts⟩ (tX6_push l D cI cZ cR N (tm_sq q0 30) (tm_sq q0 1) (tm_sh d0 30) (tm_sh d0 1) t_6 ot_6) (cwV 1 hts gX7_setSize_X6_push rfl rfl rfl hdwsV_X6_push ⟨Nat.le_of_ble_eq_true rfl, Nat.le_of_ble_eq_true rfl⟩) hK hP hD hS hA [30, 31, 32, 33, 34, 35, 36, 37, 38, 39, 40, 41, 42, 43, 1, 2, 3] (by decide) rfl rfl (ci := 6) rfl rfl rfl (fun z => WX7 cI cZ cR q0 z) (tm_ins d0 30 14 t_6) rfl rfl hl.1 rfl (Nat.le_of_ble_eq_true rfl) dX7_setSize_31 ⟨Nat.zero_le _, Nat.zero_le _⟩ (fun d0_7 ed0_7 H locs hP hD hS => ?_)
      have hf := tm_at ed0_7 hf
      refine lv_aload_n hx hb dX7_setSize_34 rfl (lv_at hl 0 rfl) ?_
      refine va_get (D := D) (ci := 7) (v := .ref (q0 1)) (C := RX7) (T := TX7) (N := 8) hx hb hts uX7_setSize_X7 hown hK hP 0 rfl rfl 0 (by decide) (hts _ kX7_setSize_f10) (fun _ h9 => h9) rfl dX7_setSize_35 ?_
      refine va_get (D := D) (ci := 5) (v := .ref (q0 2)) (C := RX5) (T := TX5) (N := 7) hx hb hts uX7_setSize_X5 hown hK hP 1 rfl rfl 0 (by decide) (hts _ kX7_setSize_f65) (fun _ h9 => h9) rfl dX7_setSize_38 ?_
      refine lv_iload_n hx hb dX7_setSize_41 rfl (lv_at hl 1 rfl) ?_
      obtain ⟨h_8, hf⟩ := tm_gS hf
      refine va_iald hx hb hK hP 2 0 rfl rfl (tm_inb_in h_8) dX7_setSize_42 ?_
      refine lv_topi (fun x_9 ex_9 => ?_)
      have hf := tm_at ex_9 hf
      refine lv_istore_n (lv' := [(3, .int x_9), (0, .ref (q0 0)), (1, .int p1), (2, .int p2)]) hx hb dX7_setSize_43 rfl hl (by decide) rfl (fun ls hl => ?_)
      refine lv_aload_n hx hb dX7_setSize_44 rfl (lv_at hl 1 rfl) ?_
      refine va_get (D := D) (ci := 7) (v := .ref (q0 1)) (C := RX7) (T := TX7) (N := 8) hx hb hts uX7_setSize_X7 hown hK hP 0 rfl rfl 0 (by decide) (hts _ kX7_setSize_f10) (fun _ h9 => h9) rfl dX7_setSize_45 ?_
      refine va_get (D := D) (ci := 5) (v := .ref (q0 2)) (C := RX5) (T := TX5) (N := 7) hx hb hts uX7_setSize_X5 hown hK hP 1 rfl rfl 0 (by decide) (hts _ kX7_setSize_f65) (fun _ h9 => h9) rfl dX7_setSize_48 ?_
      refine lv_iload_n hx hb dX7_setSize_51 rfl (lv_at hl 2 rfl) ?_
      refine lv_iload_n hx hb dX7_setSize_52 rfl (lv_at hl 3 rfl) ?_
      refine tm_iast hx hb hK hP hD hS 2 0 rfl rfl (tm_inb_in h_8) dX7_setSize_53 (fun z => WX7 cI cZ cR q0 z) (tm_upc d0_7 2 (upd (d0_7 2) p1.toNatClampNeg p2)) rfl (fun d0_10 ed0_10 H locs hP hD hS => ?_)
      have hf := tm_at ed0_10 hf
      refine lv_aload_n hx hb dX7_setSize_54 rfl (lv_at hl 1 rfl) ?_
      refine va_get (D := D) (ci := 7) (v := .ref (q0 4)) (C := RX7) (T := TX7) (N := 8) hx hb hts uX7_setSize_X7 hown hK hP 0 rfl rfl 1 (by decide) (hts _ kX7_setSize_f19) (fun _ h9 => h9) rfl dX7_setSize_55 ?_
      refine lv_aload_n hx hb dX7_setSize_58 rfl (lv_at hl 1 rfl) ?_
      refine va_get (D := D) (ci := 7) (v := .ref (q0 1)) (C := RX7) (T := TX7) (N := 8) hx hb hts uX7_setSize_X7 hown hK hP 0 rfl rfl 0 (by decide) (hts _ kX7_setSize_f10) (fun _ h9 => h9) rfl dX7_setSize_59 ?_
      obtain ⟨t_11, ot_11, hf⟩ := tm_bS hf
      refine tm_cVV (As := [.ref (q0 1)]) (rest := []) ⟨hx, hb, hml, hown, hts⟩ (tX1_arrange l D cI cZ cR N (tm_sq q0 4) (tm_sq q0 1) (tm_sh d0_10 4) (tm_sh d0_10 1) t_11 ot_11) (cwV 1 hts gX7_setSize_X1_arrange rfl rfl rfl hdwsV_X1_arrange ⟨Nat.le_of_ble_eq_true rfl, Nat.le_of_ble_eq_true rfl⟩) hK hP hD hS hA [4, 5, 6, 7, 8, 9, 10, 11, 12, 13, 14, 15, 16, 17, 18, 19, 20, 21, 22, 23, 24, 25, 26, 27, 28, 29, 1, 2, 3] (by decide) rfl rfl (ci := 1) rfl rfl rfl (fun z => WX7 cI cZ cR q0 z) (tm_ins d0_10 4 26 t_11) rfl rfl hl.1 rfl (Nat.le_of_ble_eq_true rfl) dX7_setSize_62 ⟨Nat.zero_le _, Nat.zero_le _⟩ (fun d0_12 ed0_12 H locs hP hD hS => ?_)
      have hf := tm_at ed0_12 hf
      refine lv_iload_n hx hb dX7_setSize_65 rfl (lv_at hl 0 rfl) ?_
      simp only [Option.some.injEq, Prod.mk.injEq] at hf
      obtain ⟨rfl, rfl⟩ := hf
      exact hend _ _ _ _ hP hD hS rfl dX7_setSize_66
    · have hf := tm_iT c_5 hf
      refine lv_aload_n hx hb dX7_setSize_18 rfl (lv_at hl 0 rfl) ?_
      obtain ⟨t_13, ot_13, hf⟩ := tm_bS hf
      refine tm_cVI (As := []) (rest := []) ⟨hx, hb, hml, hown, hts⟩ (tX7_failInvalid l D cI cZ cR N q0 d0 t_13.1 t_13.2 ot_13) (cwV 0 hts gX7_setSize_X7_failInvalid rfl rfl rfl hdwsV_X7_failInvalid ⟨Nat.le_of_ble_eq_true rfl, Nat.le_of_ble_eq_true rfl⟩) hK hP hD hS hA [0, 1, 2, 3, 4, 5, 6, 7, 8, 9, 10, 11, 12, 13, 14, 15, 16, 17, 18, 19, 20, 21, 22, 23, 24, 25, 26, 27, 28, 29, 30, 31, 32, 33, 34, 35, 36, 37, 38, 39, 40, 41, 42, 43, 44, 45, 46, 47, 48, 49, 50, 51, 52, 53, 54, 55, 56, 57, 58, 59, 60, 61, 62, 63, 64, 65, 66, 67, 68, 69, 70, 71, 72] (by decide) rfl rfl (ci := 7) rfl rfl rfl (fun _ => WX7 cI cZ cR q0 t_13.2) (()) rfl rfl hl.1 rfl (Nat.le_of_ble_eq_true rfl) dX7_setSize_19 ⟨Nat.zero_le _, Nat.zero_le _⟩ (fun _ _ H locs hP hD hS => ?_)
      simp only [Option.some.injEq, Prod.mk.injEq] at hf
      obtain ⟨rfl, rfl⟩ := hf
      exact hend _ _ _ _ hP hD hS rfl dX7_setSize_22
set_option maxHeartbeats 4000000 in
set_option maxRecDepth 100000 in
theorem tX7_failRejected (l : Launch) (D : va_G) (cI cZ cR : ClassId) (N : Nat) (q0 : Nat → Nat) (d0 : tm_M) (r0 : Int32) (z0 : tm_M) (hf : fX7_failRejected N d0 = some (r0, z0)) : tm_CI l D (tm_ty cI cZ cR) yX7_failRejected wsX7_failRejected rmX7_failRejected [.ref (q0 0)] (WX7 cI cZ cR q0 d0) r0 (WX7 cI cZ cR q0 z0) := by
  refine tm_mkI (cc := cX7_failRejected) (maxL := 1) (ty := .int) (by decide) rfl (Nat.le_of_ble_eq_true rfl) ?_
  intro p e s m below meth c A ls Q C hP hD hS hl hend
  have C : tm_Cx p s m c [.ref (q0 0)].toArray cX7_failRejected 1 RX7 wsX7_failRejected D (tm_ty cI cZ cR) A s.heap := C
  obtain ⟨hx, hb, hml, hown, hts, hK, hA⟩ := id C
  have hl : lv_has ls 1 [(0, .ref (q0 0))] := hl
  unfold fX7_failRejected at hf
  refine lv_aload_n hx hb dX7_failRejected_0 rfl (lv_at hl 0 rfl) ?_
  refine lv_dup hx hb dX7_failRejected_1 rfl ?_
  refine va_get (D := D) (ci := 7) (v := .int (d0 0 6)) (C := RX7) (T := TX7) (N := 8) hx hb hts uX7_failRejected_X7 hown hK hP 0 rfl rfl 6 (by decide) (hts _ kX7_failRejected_f161) (fun _ h9 => h9) rfl dX7_failRejected_2 ?_
  refine lv_iconst (v := 1) hx hb dX7_failRejected_5 (by decide) ?_
  refine lv_iadd hx hb dX7_failRejected_6 ?_
  refine tm_put (D := D) (ci := 7) (v := .int ((d0 0 6) + 1)) (ty := .int) (C := RX7) (T := TX7) (N := 8) hx hb hts uX7_failRejected_X7 tyX7 tyX7_ok nmX7 hown hK hP hD hS 0 rfl rfl 6 (by decide) (hts _ kX7_failRejected_f161) (fun _ h9 => h9) rfl (by decide +kernel) rfl rfl (Nat.le_of_ble_eq_true rfl) dX7_failRejected_7 (fun z => WX7 cI cZ cR q0 z) (tm_upk d0 0 6 ((d0 0 6) + 1)) rfl (fun d0_1 ed0_1 H locs hP hD hS => ?_)
  have hf := tm_at ed0_1 hf
  refine lv_bipush (v := (-3)) hx hb dX7_failRejected_10 (by decide) ?_
  simp only [Option.some.injEq, Prod.mk.injEq] at hf
  obtain ⟨rfl, rfl⟩ := hf
  exact hend _ _ _ _ hP hD hS rfl dX7_failRejected_12
set_option maxHeartbeats 4000000 in
set_option maxRecDepth 100000 in
theorem tX7_removeLeaf (l : Launch) (D : va_G) (cI cZ cR : ClassId) (N : Nat) (q0 : Nat → Nat) (d0 : tm_M) (p1 : Int32) (r0 : Int32) (z0 : tm_M) (hf : fX7_removeLeaf N d0 p1 = some (r0, z0)) : tm_CI l D (tm_ty cI cZ cR) yX7_removeLeaf wsX7_removeLeaf rmX7_removeLeaf [.ref (q0 0), .int p1] (WX7 cI cZ cR q0 d0) r0 (WX7 cI cZ cR q0 z0) := by
  refine tm_mkI (cc := cX7_removeLeaf) (maxL := 2) (ty := .int) (by decide) rfl (Nat.le_of_ble_eq_true rfl) ?_
  intro p e s m below meth c A ls Q C hP hD hS hl hend
  have C : tm_Cx p s m c [.ref (q0 0), .int p1].toArray cX7_removeLeaf 2 RX7 wsX7_removeLeaf D (tm_ty cI cZ cR) A s.heap := C
  obtain ⟨hx, hb, hml, hown, hts, hK, hA⟩ := id C
  have hl : lv_has ls 2 [(0, .ref (q0 0)), (1, .int p1)] := hl
  unfold fX7_removeLeaf at hf
  refine lv_aload_n hx hb dX7_removeLeaf_0 rfl (lv_at hl 0 rfl) ?_
  refine va_get (D := D) (ci := 7) (v := .ref (q0 1)) (C := RX7) (T := TX7) (N := 8) hx hb hts uX7_removeLeaf_X7 hown hK hP 0 rfl rfl 0 (by decide) (hts _ kX7_removeLeaf_f10) (fun _ h9 => h9) rfl dX7_removeLeaf_1 ?_
  refine lv_iload_n hx hb dX7_removeLeaf_4 rfl (lv_at hl 1 rfl) ?_
  obtain ⟨t_1, ot_1, hf⟩ := tm_bS hf
  refine tm_cVI (As := [.int p1]) (rest := []) ⟨hx, hb, hml, hown, hts⟩ (tX5_has l D cI cZ cR N (tm_sq q0 1) (tm_sh d0 1) p1 t_1 ot_1) (cwV 1 hts gX7_removeLeaf_X5_has rfl rfl rfl hdwsV_X5_has ⟨Nat.le_of_ble_eq_true rfl, Nat.le_of_ble_eq_true rfl⟩) hK hP hD hS hA [1, 2, 3] (by decide) rfl rfl (ci := 5) rfl rfl rfl (fun _ => WX7 cI cZ cR q0 d0) (()) rfl rfl hl.1 rfl (Nat.le_of_ble_eq_true rfl) dX7_removeLeaf_5 ⟨Nat.zero_le _, Nat.zero_le _⟩ (fun _ _ H locs hP hD hS => ?_)
  refine lv_if_ne (tgt := 16) hx hb dX7_removeLeaf_8 (by decide) (fun c_2 => ?_) (fun c_2 => ?_)
  · have hf := tm_iF c_2 hf
    refine lv_iload_n hx hb dX7_removeLeaf_16 rfl (lv_at hl 1 rfl) ?_
    refine lv_if_eq (tgt := 31) hx hb dX7_removeLeaf_17 (by decide) (fun c_3 => ?_) (fun c_3 => ?_)
    · have hf := tm_iT c_3 hf
      refine lv_aload_n hx hb dX7_removeLeaf_31 rfl (lv_at hl 0 rfl) ?_
      obtain ⟨t_4, ot_4, hf⟩ := tm_bS hf
      refine tm_cVI (As := []) (rest := []) ⟨hx, hb, hml, hown, hts⟩ (tX7_failRejected l D cI cZ cR N q0 d0 t_4.1 t_4.2 ot_4) (cwV 0 hts gX7_removeLeaf_X7_failRejected rfl rfl rfl hdwsV_X7_failRejected ⟨Nat.le_of_ble_eq_true rfl, Nat.le_of_ble_eq_true rfl⟩) hK hP hD hS hA [0, 1, 2, 3, 4, 5, 6, 7, 8, 9, 10, 11, 12, 13, 14, 15, 16, 17, 18, 19, 20, 21, 22, 23, 24, 25, 26, 27, 28, 29, 30, 31, 32, 33, 34, 35, 36, 37, 38, 39, 40, 41, 42, 43, 44, 45, 46, 47, 48, 49, 50, 51, 52, 53, 54, 55, 56, 57, 58, 59, 60, 61, 62, 63, 64, 65, 66, 67, 68, 69, 70, 71, 72] (by decide) rfl rfl (ci := 7) rfl rfl rfl (fun _ => WX7 cI cZ cR q0 t_4.2) (()) rfl rfl hl.1 rfl (Nat.le_of_ble_eq_true rfl) dX7_removeLeaf_32 ⟨Nat.zero_le _, Nat.zero_le _⟩ (fun _ _ H locs hP hD hS => ?_)
      simp only [Option.some.injEq, Prod.mk.injEq] at hf
      obtain ⟨rfl, rfl⟩ := hf
      exact hend _ _ _ _ hP hD hS rfl dX7_removeLeaf_35
    · have hf := tm_iF c_3 hf
      refine lv_aload_n hx hb dX7_removeLeaf_20 rfl (lv_at hl 0 rfl) ?_
      refine va_get (D := D) (ci := 7) (v := .ref (q0 4)) (C := RX7) (T := TX7) (N := 8) hx hb hts uX7_removeLeaf_X7 hown hK hP 0 rfl rfl 1 (by decide) (hts _ kX7_removeLeaf_f19) (fun _ h9 => h9) rfl dX7_removeLeaf_21 ?_
      refine lv_iload_n hx hb dX7_removeLeaf_24 rfl (lv_at hl 1 rfl) ?_
      obtain ⟨t_5, ot_5, hf⟩ := tm_bS hf
      refine tm_cVI (As := [.int p1]) (rest := []) ⟨hx, hb, hml, hown, hts⟩ (tX1_isLeaf l D cI cZ cR N (tm_sq q0 4) (tm_sh d0 4) p1 t_5 ot_5) (cwV 1 hts gX7_removeLeaf_X1_isLeaf rfl rfl rfl hdwsV_X1_isLeaf ⟨Nat.le_of_ble_eq_true rfl, Nat.le_of_ble_eq_true rfl⟩) hK hP hD hS hA [4, 5, 6, 7, 8, 9, 10, 11, 12, 13, 14, 15, 16, 17, 18, 19, 20, 21, 22, 23, 24, 25, 26, 27, 28, 29] (by decide) rfl rfl (ci := 1) rfl rfl rfl (fun _ => WX7 cI cZ cR q0 d0) (()) rfl rfl hl.1 rfl (Nat.le_of_ble_eq_true rfl) dX7_removeLeaf_25 ⟨Nat.zero_le _, Nat.zero_le _⟩ (fun _ _ H locs hP hD hS => ?_)
      refine lv_if_ne (tgt := 36) hx hb dX7_removeLeaf_28 (by decide) (fun c_6 => ?_) (fun c_6 => ?_)
      · have hf := tm_iF c_6 hf
        refine lv_aload_n hx hb dX7_removeLeaf_36 rfl (lv_at hl 0 rfl) ?_
        refine va_get (D := D) (ci := 7) (v := .ref (q0 30)) (C := RX7) (T := TX7) (N := 8) hx hb hts uX7_removeLeaf_X7 hown hK hP 0 rfl rfl 2 (by decide) (hts _ kX7_removeLeaf_f26) (fun _ h9 => h9) rfl dX7_removeLeaf_37 ?_
        refine lv_aload_n hx hb dX7_removeLeaf_40 rfl (lv_at hl 0 rfl) ?_
        refine va_get (D := D) (ci := 7) (v := .ref (q0 1)) (C := RX7) (T := TX7) (N := 8) hx hb hts uX7_removeLeaf_X7 hown hK hP 0 rfl rfl 0 (by decide) (hts _ kX7_removeLeaf_f10) (fun _ h9 => h9) rfl dX7_removeLeaf_41 ?_
        obtain ⟨t_7, ot_7, hf⟩ := tm_bS hf
        refine tm_cVV (As := [.ref (q0 1)]) (rest := []) ⟨hx, hb, hml, hown, hts⟩ (tX6_push l D cI cZ cR N (tm_sq q0 30) (tm_sq q0 1) (tm_sh d0 30) (tm_sh d0 1) t_7 ot_7) (cwV 1 hts gX7_removeLeaf_X6_push rfl rfl rfl hdwsV_X6_push ⟨Nat.le_of_ble_eq_true rfl, Nat.le_of_ble_eq_true rfl⟩) hK hP hD hS hA [30, 31, 32, 33, 34, 35, 36, 37, 38, 39, 40, 41, 42, 43, 1, 2, 3] (by decide) rfl rfl (ci := 6) rfl rfl rfl (fun z => WX7 cI cZ cR q0 z) (tm_ins d0 30 14 t_7) rfl rfl hl.1 rfl (Nat.le_of_ble_eq_true rfl) dX7_removeLeaf_44 ⟨Nat.zero_le _, Nat.zero_le _⟩ (fun d0_8 ed0_8 H locs hP hD hS => ?_)
        have hf := tm_at ed0_8 hf
        refine lv_aload_n hx hb dX7_removeLeaf_47 rfl (lv_at hl 0 rfl) ?_
        refine va_get (D := D) (ci := 7) (v := .ref (q0 1)) (C := RX7) (T := TX7) (N := 8) hx hb hts uX7_removeLeaf_X7 hown hK hP 0 rfl rfl 0 (by decide) (hts _ kX7_removeLeaf_f10) (fun _ h9 => h9) rfl dX7_removeLeaf_48 ?_
        refine lv_iload_n hx hb dX7_removeLeaf_51 rfl (lv_at hl 1 rfl) ?_
        obtain ⟨t_9, ot_9, hf⟩ := tm_bS hf
        refine tm_cVV (As := [.int p1]) (rest := []) ⟨hx, hb, hml, hown, hts⟩ (tX5_takeOut l D cI cZ cR N (tm_sq q0 1) (tm_sh d0_8 1) p1 t_9 ot_9) (cwV 1 hts gX7_removeLeaf_X5_takeOut rfl rfl rfl hdwsV_X5_takeOut ⟨Nat.le_of_ble_eq_true rfl, Nat.le_of_ble_eq_true rfl⟩) hK hP hD hS hA [1, 2, 3] (by decide) rfl rfl (ci := 5) rfl rfl rfl (fun z => WX7 cI cZ cR q0 z) (tm_ins d0_8 1 3 t_9) rfl rfl hl.1 rfl (Nat.le_of_ble_eq_true rfl) dX7_removeLeaf_52 ⟨Nat.zero_le _, Nat.zero_le _⟩ (fun d0_10 ed0_10 H locs hP hD hS => ?_)
        have hf := tm_at ed0_10 hf
        refine lv_aload_n hx hb dX7_removeLeaf_55 rfl (lv_at hl 0 rfl) ?_
        refine va_get (D := D) (ci := 7) (v := .ref (q0 4)) (C := RX7) (T := TX7) (N := 8) hx hb hts uX7_removeLeaf_X7 hown hK hP 0 rfl rfl 1 (by decide) (hts _ kX7_removeLeaf_f19) (fun _ h9 => h9) rfl dX7_removeLeaf_56 ?_
        refine lv_aload_n hx hb dX7_removeLeaf_59 rfl (lv_at hl 0 rfl) ?_
        refine va_get (D := D) (ci := 7) (v := .ref (q0 1)) (C := RX7) (T := TX7) (N := 8) hx hb hts uX7_removeLeaf_X7 hown hK hP 0 rfl rfl 0 (by decide) (hts _ kX7_removeLeaf_f10) (fun _ h9 => h9) rfl dX7_removeLeaf_60 ?_
        obtain ⟨t_11, ot_11, hf⟩ := tm_bS hf
        refine tm_cVV (As := [.ref (q0 1)]) (rest := []) ⟨hx, hb, hml, hown, hts⟩ (tX1_arrange l D cI cZ cR N (tm_sq q0 4) (tm_sq q0 1) (tm_sh d0_10 4) (tm_sh d0_10 1) t_11 ot_11) (cwV 1 hts gX7_removeLeaf_X1_arrange rfl rfl rfl hdwsV_X1_arrange ⟨Nat.le_of_ble_eq_true rfl, Nat.le_of_ble_eq_true rfl⟩) hK hP hD hS hA [4, 5, 6, 7, 8, 9, 10, 11, 12, 13, 14, 15, 16, 17, 18, 19, 20, 21, 22, 23, 24, 25, 26, 27, 28, 29, 1, 2, 3] (by decide) rfl rfl (ci := 1) rfl rfl rfl (fun z => WX7 cI cZ cR q0 z) (tm_ins d0_10 4 26 t_11) rfl rfl hl.1 rfl (Nat.le_of_ble_eq_true rfl) dX7_removeLeaf_63 ⟨Nat.zero_le _, Nat.zero_le _⟩ (fun d0_12 ed0_12 H locs hP hD hS => ?_)
        have hf := tm_at ed0_12 hf
        refine lv_aload_n hx hb dX7_removeLeaf_66 rfl (lv_at hl 0 rfl) ?_
        refine va_get (D := D) (ci := 7) (v := .ref (q0 1)) (C := RX7) (T := TX7) (N := 8) hx hb hts uX7_removeLeaf_X7 hown hK hP 0 rfl rfl 0 (by decide) (hts _ kX7_removeLeaf_f10) (fun _ h9 => h9) rfl dX7_removeLeaf_67 ?_
        refine va_get (D := D) (ci := 5) (v := .int (d0_12 1 2)) (C := RX5) (T := TX5) (N := 7) hx hb hts uX7_removeLeaf_X5 hown hK hP 1 rfl rfl 2 (by decide) (hts _ kX7_removeLeaf_f51) (fun _ h9 => h9) rfl dX7_removeLeaf_70 ?_
        simp only [Option.some.injEq, Prod.mk.injEq] at hf
        obtain ⟨rfl, rfl⟩ := hf
        exact hend _ _ _ _ hP hD hS rfl dX7_removeLeaf_73
      · have hf := tm_iT c_6 hf
        refine lv_aload_n hx hb dX7_removeLeaf_31 rfl (lv_at hl 0 rfl) ?_
        obtain ⟨t_13, ot_13, hf⟩ := tm_bS hf
        refine tm_cVI (As := []) (rest := []) ⟨hx, hb, hml, hown, hts⟩ (tX7_failRejected l D cI cZ cR N q0 d0 t_13.1 t_13.2 ot_13) (cwV 0 hts gX7_removeLeaf_X7_failRejected rfl rfl rfl hdwsV_X7_failRejected ⟨Nat.le_of_ble_eq_true rfl, Nat.le_of_ble_eq_true rfl⟩) hK hP hD hS hA [0, 1, 2, 3, 4, 5, 6, 7, 8, 9, 10, 11, 12, 13, 14, 15, 16, 17, 18, 19, 20, 21, 22, 23, 24, 25, 26, 27, 28, 29, 30, 31, 32, 33, 34, 35, 36, 37, 38, 39, 40, 41, 42, 43, 44, 45, 46, 47, 48, 49, 50, 51, 52, 53, 54, 55, 56, 57, 58, 59, 60, 61, 62, 63, 64, 65, 66, 67, 68, 69, 70, 71, 72] (by decide) rfl rfl (ci := 7) rfl rfl rfl (fun _ => WX7 cI cZ cR q0 t_13.2) (()) rfl rfl hl.1 rfl (Nat.le_of_ble_eq_true rfl) dX7_removeLeaf_32 ⟨Nat.zero_le _, Nat.zero_le _⟩ (fun _ _ H locs hP hD hS => ?_)
        simp only [Option.some.injEq, Prod.mk.injEq] at hf
        obtain ⟨rfl, rfl⟩ := hf
        exact hend _ _ _ _ hP hD hS rfl dX7_removeLeaf_35
  · have hf := tm_iT c_2 hf
    refine lv_aload_n hx hb dX7_removeLeaf_11 rfl (lv_at hl 0 rfl) ?_
    obtain ⟨t_14, ot_14, hf⟩ := tm_bS hf
    refine tm_cVI (As := []) (rest := []) ⟨hx, hb, hml, hown, hts⟩ (tX7_failInvalid l D cI cZ cR N q0 d0 t_14.1 t_14.2 ot_14) (cwV 0 hts gX7_removeLeaf_X7_failInvalid rfl rfl rfl hdwsV_X7_failInvalid ⟨Nat.le_of_ble_eq_true rfl, Nat.le_of_ble_eq_true rfl⟩) hK hP hD hS hA [0, 1, 2, 3, 4, 5, 6, 7, 8, 9, 10, 11, 12, 13, 14, 15, 16, 17, 18, 19, 20, 21, 22, 23, 24, 25, 26, 27, 28, 29, 30, 31, 32, 33, 34, 35, 36, 37, 38, 39, 40, 41, 42, 43, 44, 45, 46, 47, 48, 49, 50, 51, 52, 53, 54, 55, 56, 57, 58, 59, 60, 61, 62, 63, 64, 65, 66, 67, 68, 69, 70, 71, 72] (by decide) rfl rfl (ci := 7) rfl rfl rfl (fun _ => WX7 cI cZ cR q0 t_14.2) (()) rfl rfl hl.1 rfl (Nat.le_of_ble_eq_true rfl) dX7_removeLeaf_12 ⟨Nat.zero_le _, Nat.zero_le _⟩ (fun _ _ H locs hP hD hS => ?_)
    simp only [Option.some.injEq, Prod.mk.injEq] at hf
    obtain ⟨rfl, rfl⟩ := hf
    exact hend _ _ _ _ hP hD hS rfl dX7_removeLeaf_15
set_option maxHeartbeats 4000000 in
set_option maxRecDepth 100000 in
theorem tX7_setParent (l : Launch) (D : va_G) (cI cZ cR : ClassId) (N : Nat) (q0 : Nat → Nat) (d0 : tm_M) (p1 : Int32) (p2 : Int32) (r0 : Int32) (z0 : tm_M) (hf : fX7_setParent N d0 p1 p2 = some (r0, z0)) : tm_CI l D (tm_ty cI cZ cR) yX7_setParent wsX7_setParent rmX7_setParent [.ref (q0 0), .int p1, .int p2] (WX7 cI cZ cR q0 d0) r0 (WX7 cI cZ cR q0 z0) := by
  refine tm_mkI (cc := cX7_setParent) (maxL := 4) (ty := .int) (by decide) rfl (Nat.le_of_ble_eq_true rfl) ?_
  intro p e s m below meth c A ls Q C hP hD hS hl hend
  have C : tm_Cx p s m c [.ref (q0 0), .int p1, .int p2].toArray cX7_setParent 4 RX7 wsX7_setParent D (tm_ty cI cZ cR) A s.heap := C
  obtain ⟨hx, hb, hml, hown, hts, hK, hA⟩ := id C
  have hl : lv_has ls 4 [(0, .ref (q0 0)), (1, .int p1), (2, .int p2)] := hl
  unfold fX7_setParent at hf
  refine lv_aload_n hx hb dX7_setParent_0 rfl (lv_at hl 0 rfl) ?_
  refine va_get (D := D) (ci := 7) (v := .ref (q0 1)) (C := RX7) (T := TX7) (N := 8) hx hb hts uX7_setParent_X7 hown hK hP 0 rfl rfl 0 (by decide) (hts _ kX7_setParent_f10) (fun _ h9 => h9) rfl dX7_setParent_1 ?_
  refine lv_iload_n hx hb dX7_setParent_4 rfl (lv_at hl 1 rfl) ?_
  obtain ⟨t_1, ot_1, hf⟩ := tm_bS hf
  refine tm_cVI (As := [.int p1]) (rest := []) ⟨hx, hb, hml, hown, hts⟩ (tX5_has l D cI cZ cR N (tm_sq q0 1) (tm_sh d0 1) p1 t_1 ot_1) (cwV 1 hts gX7_setParent_X5_has rfl rfl rfl hdwsV_X5_has ⟨Nat.le_of_ble_eq_true rfl, Nat.le_of_ble_eq_true rfl⟩) hK hP hD hS hA [1, 2, 3] (by decide) rfl rfl (ci := 5) rfl rfl rfl (fun _ => WX7 cI cZ cR q0 d0) (()) rfl rfl hl.1 rfl (Nat.le_of_ble_eq_true rfl) dX7_setParent_5 ⟨Nat.zero_le _, Nat.zero_le _⟩ (fun _ _ H locs hP hD hS => ?_)
  refine lv_if_eq (tgt := 22) hx hb dX7_setParent_8 (by decide) (fun c_2 => ?_) (fun c_2 => ?_)
  · have hf := tm_iT c_2 hf
    refine lv_aload_n hx hb dX7_setParent_22 rfl (lv_at hl 0 rfl) ?_
    obtain ⟨t_3, ot_3, hf⟩ := tm_bS hf
    refine tm_cVI (As := []) (rest := []) ⟨hx, hb, hml, hown, hts⟩ (tX7_failInvalid l D cI cZ cR N q0 d0 t_3.1 t_3.2 ot_3) (cwV 0 hts gX7_setParent_X7_failInvalid rfl rfl rfl hdwsV_X7_failInvalid ⟨Nat.le_of_ble_eq_true rfl, Nat.le_of_ble_eq_true rfl⟩) hK hP hD hS hA [0, 1, 2, 3, 4, 5, 6, 7, 8, 9, 10, 11, 12, 13, 14, 15, 16, 17, 18, 19, 20, 21, 22, 23, 24, 25, 26, 27, 28, 29, 30, 31, 32, 33, 34, 35, 36, 37, 38, 39, 40, 41, 42, 43, 44, 45, 46, 47, 48, 49, 50, 51, 52, 53, 54, 55, 56, 57, 58, 59, 60, 61, 62, 63, 64, 65, 66, 67, 68, 69, 70, 71, 72] (by decide) rfl rfl (ci := 7) rfl rfl rfl (fun _ => WX7 cI cZ cR q0 t_3.2) (()) rfl rfl hl.1 rfl (Nat.le_of_ble_eq_true rfl) dX7_setParent_23 ⟨Nat.zero_le _, Nat.zero_le _⟩ (fun _ _ H locs hP hD hS => ?_)
    simp only [Option.some.injEq, Prod.mk.injEq] at hf
    obtain ⟨rfl, rfl⟩ := hf
    exact hend _ _ _ _ hP hD hS rfl dX7_setParent_26
  · have hf := tm_iF c_2 hf
    refine lv_aload_n hx hb dX7_setParent_11 rfl (lv_at hl 0 rfl) ?_
    refine va_get (D := D) (ci := 7) (v := .ref (q0 1)) (C := RX7) (T := TX7) (N := 8) hx hb hts uX7_setParent_X7 hown hK hP 0 rfl rfl 0 (by decide) (hts _ kX7_setParent_f10) (fun _ h9 => h9) rfl dX7_setParent_12 ?_
    refine lv_iload_n hx hb dX7_setParent_15 rfl (lv_at hl 2 rfl) ?_
    obtain ⟨t_4, ot_4, hf⟩ := tm_bS hf
    refine tm_cVI (As := [.int p2]) (rest := []) ⟨hx, hb, hml, hown, hts⟩ (tX5_has l D cI cZ cR N (tm_sq q0 1) (tm_sh d0 1) p2 t_4 ot_4) (cwV 1 hts gX7_setParent_X5_has rfl rfl rfl hdwsV_X5_has ⟨Nat.le_of_ble_eq_true rfl, Nat.le_of_ble_eq_true rfl⟩) hK hP hD hS hA [1, 2, 3] (by decide) rfl rfl (ci := 5) rfl rfl rfl (fun _ => WX7 cI cZ cR q0 d0) (()) rfl rfl hl.1 rfl (Nat.le_of_ble_eq_true rfl) dX7_setParent_16 ⟨Nat.zero_le _, Nat.zero_le _⟩ (fun _ _ H locs hP hD hS => ?_)
    refine lv_if_ne (tgt := 27) hx hb dX7_setParent_19 (by decide) (fun c_5 => ?_) (fun c_5 => ?_)
    · have hf := tm_iF c_5 hf
      refine lv_iload_n hx hb dX7_setParent_27 rfl (lv_at hl 1 rfl) ?_
      refine lv_if_eq (tgt := 43) hx hb dX7_setParent_28 (by decide) (fun c_6 => ?_) (fun c_6 => ?_)
      · have hf := tm_iT c_6 hf
        refine lv_aload_n hx hb dX7_setParent_43 rfl (lv_at hl 0 rfl) ?_
        obtain ⟨t_7, ot_7, hf⟩ := tm_bS hf
        refine tm_cVI (As := []) (rest := []) ⟨hx, hb, hml, hown, hts⟩ (tX7_failRejected l D cI cZ cR N q0 d0 t_7.1 t_7.2 ot_7) (cwV 0 hts gX7_setParent_X7_failRejected rfl rfl rfl hdwsV_X7_failRejected ⟨Nat.le_of_ble_eq_true rfl, Nat.le_of_ble_eq_true rfl⟩) hK hP hD hS hA [0, 1, 2, 3, 4, 5, 6, 7, 8, 9, 10, 11, 12, 13, 14, 15, 16, 17, 18, 19, 20, 21, 22, 23, 24, 25, 26, 27, 28, 29, 30, 31, 32, 33, 34, 35, 36, 37, 38, 39, 40, 41, 42, 43, 44, 45, 46, 47, 48, 49, 50, 51, 52, 53, 54, 55, 56, 57, 58, 59, 60, 61, 62, 63, 64, 65, 66, 67, 68, 69, 70, 71, 72] (by decide) rfl rfl (ci := 7) rfl rfl rfl (fun _ => WX7 cI cZ cR q0 t_7.2) (()) rfl rfl hl.1 rfl (Nat.le_of_ble_eq_true rfl) dX7_setParent_44 ⟨Nat.zero_le _, Nat.zero_le _⟩ (fun _ _ H locs hP hD hS => ?_)
        simp only [Option.some.injEq, Prod.mk.injEq] at hf
        obtain ⟨rfl, rfl⟩ := hf
        exact hend _ _ _ _ hP hD hS rfl dX7_setParent_47
      · have hf := tm_iF c_6 hf
        refine lv_aload_n hx hb dX7_setParent_31 rfl (lv_at hl 0 rfl) ?_
        refine va_get (D := D) (ci := 7) (v := .ref (q0 1)) (C := RX7) (T := TX7) (N := 8) hx hb hts uX7_setParent_X7 hown hK hP 0 rfl rfl 0 (by decide) (hts _ kX7_setParent_f10) (fun _ h9 => h9) rfl dX7_setParent_32 ?_
        refine lv_iload_n hx hb dX7_setParent_35 rfl (lv_at hl 2 rfl) ?_
        refine lv_iload_n hx hb dX7_setParent_36 rfl (lv_at hl 1 rfl) ?_
        obtain ⟨t_8, ot_8, hf⟩ := tm_bS hf
        refine tm_cVI (As := [.int p2, .int p1]) (rest := []) ⟨hx, hb, hml, hown, hts⟩ (tX5_isWithin l D cI cZ cR N (tm_sq q0 1) (tm_sh d0 1) p2 p1 t_8 ot_8) (cwV 2 hts gX7_setParent_X5_isWithin rfl rfl rfl hdwsV_X5_isWithin ⟨Nat.le_of_ble_eq_true rfl, Nat.le_of_ble_eq_true rfl⟩) hK hP hD hS hA [1, 2, 3] (by decide) rfl rfl (ci := 5) rfl rfl rfl (fun _ => WX7 cI cZ cR q0 d0) (()) rfl rfl hl.1 rfl (Nat.le_of_ble_eq_true rfl) dX7_setParent_37 ⟨Nat.zero_le _, Nat.zero_le _⟩ (fun _ _ H locs hP hD hS => ?_)
        refine lv_if_eq (tgt := 48) hx hb dX7_setParent_40 (by decide) (fun c_9 => ?_) (fun c_9 => ?_)
        · have hf := tm_iT c_9 hf
          refine lv_aload_n hx hb dX7_setParent_48 rfl (lv_at hl 0 rfl) ?_
          refine va_get (D := D) (ci := 7) (v := .ref (q0 30)) (C := RX7) (T := TX7) (N := 8) hx hb hts uX7_setParent_X7 hown hK hP 0 rfl rfl 2 (by decide) (hts _ kX7_setParent_f26) (fun _ h9 => h9) rfl dX7_setParent_49 ?_
          refine lv_aload_n hx hb dX7_setParent_52 rfl (lv_at hl 0 rfl) ?_
          refine va_get (D := D) (ci := 7) (v := .ref (q0 1)) (C := RX7) (T := TX7) (N := 8) hx hb hts uX7_setParent_X7 hown hK hP 0 rfl rfl 0 (by decide) (hts _ kX7_setParent_f10) (fun _ h9 => h9) rfl dX7_setParent_53 ?_
          obtain ⟨t_10, ot_10, hf⟩ := tm_bS hf
          refine tm_cVV (As := [.ref (q0 1)]) (rest := []) ⟨hx, hb, hml, hown, hts⟩ (tX6_push l D cI cZ cR N (tm_sq q0 30) (tm_sq q0 1) (tm_sh d0 30) (tm_sh d0 1) t_10 ot_10) (cwV 1 hts gX7_setParent_X6_push rfl rfl rfl hdwsV_X6_push ⟨Nat.le_of_ble_eq_true rfl, Nat.le_of_ble_eq_true rfl⟩) hK hP hD hS hA [30, 31, 32, 33, 34, 35, 36, 37, 38, 39, 40, 41, 42, 43, 1, 2, 3] (by decide) rfl rfl (ci := 6) rfl rfl rfl (fun z => WX7 cI cZ cR q0 z) (tm_ins d0 30 14 t_10) rfl rfl hl.1 rfl (Nat.le_of_ble_eq_true rfl) dX7_setParent_56 ⟨Nat.zero_le _, Nat.zero_le _⟩ (fun d0_11 ed0_11 H locs hP hD hS => ?_)
          have hf := tm_at ed0_11 hf
          refine lv_aload_n hx hb dX7_setParent_59 rfl (lv_at hl 0 rfl) ?_
          refine va_get (D := D) (ci := 7) (v := .ref (q0 1)) (C := RX7) (T := TX7) (N := 8) hx hb hts uX7_setParent_X7 hown hK hP 0 rfl rfl 0 (by decide) (hts _ kX7_setParent_f10) (fun _ h9 => h9) rfl dX7_setParent_60 ?_
          refine va_get (D := D) (ci := 5) (v := .ref (q0 3)) (C := RX5) (T := TX5) (N := 7) hx hb hts uX7_setParent_X5 hown hK hP 1 rfl rfl 1 (by decide) (hts _ kX7_setParent_f83) (fun _ h9 => h9) rfl dX7_setParent_63 ?_
          refine lv_iload_n hx hb dX7_setParent_66 rfl (lv_at hl 1 rfl) ?_
          obtain ⟨h_12, hf⟩ := tm_gS hf
          refine va_iald hx hb hK hP 3 0 rfl rfl (tm_inb_in h_12) dX7_setParent_67 ?_
          refine lv_topi (fun x_13 ex_13 => ?_)
          have hf := tm_at ex_13 hf
          refine lv_istore_n (lv' := [(3, .int x_13), (0, .ref (q0 0)), (1, .int p1), (2, .int p2)]) hx hb dX7_setParent_68 rfl hl (by decide) rfl (fun ls hl => ?_)
          refine lv_aload_n hx hb dX7_setParent_69 rfl (lv_at hl 1 rfl) ?_
          refine va_get (D := D) (ci := 7) (v := .ref (q0 1)) (C := RX7) (T := TX7) (N := 8) hx hb hts uX7_setParent_X7 hown hK hP 0 rfl rfl 0 (by decide) (hts _ kX7_setParent_f10) (fun _ h9 => h9) rfl dX7_setParent_70 ?_
          refine va_get (D := D) (ci := 5) (v := .ref (q0 3)) (C := RX5) (T := TX5) (N := 7) hx hb hts uX7_setParent_X5 hown hK hP 1 rfl rfl 1 (by decide) (hts _ kX7_setParent_f83) (fun _ h9 => h9) rfl dX7_setParent_73 ?_
          refine lv_iload_n hx hb dX7_setParent_76 rfl (lv_at hl 2 rfl) ?_
          refine lv_iload_n hx hb dX7_setParent_77 rfl (lv_at hl 3 rfl) ?_
          refine tm_iast hx hb hK hP hD hS 3 0 rfl rfl (tm_inb_in h_12) dX7_setParent_78 (fun z => WX7 cI cZ cR q0 z) (tm_upc d0_11 3 (upd (d0_11 3) p1.toNatClampNeg p2)) rfl (fun d0_14 ed0_14 H locs hP hD hS => ?_)
          have hf := tm_at ed0_14 hf
          refine lv_aload_n hx hb dX7_setParent_79 rfl (lv_at hl 1 rfl) ?_
          refine va_get (D := D) (ci := 7) (v := .ref (q0 4)) (C := RX7) (T := TX7) (N := 8) hx hb hts uX7_setParent_X7 hown hK hP 0 rfl rfl 1 (by decide) (hts _ kX7_setParent_f19) (fun _ h9 => h9) rfl dX7_setParent_80 ?_
          refine lv_aload_n hx hb dX7_setParent_83 rfl (lv_at hl 1 rfl) ?_
          refine va_get (D := D) (ci := 7) (v := .ref (q0 1)) (C := RX7) (T := TX7) (N := 8) hx hb hts uX7_setParent_X7 hown hK hP 0 rfl rfl 0 (by decide) (hts _ kX7_setParent_f10) (fun _ h9 => h9) rfl dX7_setParent_84 ?_
          obtain ⟨t_15, ot_15, hf⟩ := tm_bS hf
          refine tm_cVV (As := [.ref (q0 1)]) (rest := []) ⟨hx, hb, hml, hown, hts⟩ (tX1_arrange l D cI cZ cR N (tm_sq q0 4) (tm_sq q0 1) (tm_sh d0_14 4) (tm_sh d0_14 1) t_15 ot_15) (cwV 1 hts gX7_setParent_X1_arrange rfl rfl rfl hdwsV_X1_arrange ⟨Nat.le_of_ble_eq_true rfl, Nat.le_of_ble_eq_true rfl⟩) hK hP hD hS hA [4, 5, 6, 7, 8, 9, 10, 11, 12, 13, 14, 15, 16, 17, 18, 19, 20, 21, 22, 23, 24, 25, 26, 27, 28, 29, 1, 2, 3] (by decide) rfl rfl (ci := 1) rfl rfl rfl (fun z => WX7 cI cZ cR q0 z) (tm_ins d0_14 4 26 t_15) rfl rfl hl.1 rfl (Nat.le_of_ble_eq_true rfl) dX7_setParent_87 ⟨Nat.zero_le _, Nat.zero_le _⟩ (fun d0_16 ed0_16 H locs hP hD hS => ?_)
          have hf := tm_at ed0_16 hf
          refine lv_iload_n hx hb dX7_setParent_90 rfl (lv_at hl 0 rfl) ?_
          simp only [Option.some.injEq, Prod.mk.injEq] at hf
          obtain ⟨rfl, rfl⟩ := hf
          exact hend _ _ _ _ hP hD hS rfl dX7_setParent_91
        · have hf := tm_iF c_9 hf
          refine lv_aload_n hx hb dX7_setParent_43 rfl (lv_at hl 0 rfl) ?_
          obtain ⟨t_17, ot_17, hf⟩ := tm_bS hf
          refine tm_cVI (As := []) (rest := []) ⟨hx, hb, hml, hown, hts⟩ (tX7_failRejected l D cI cZ cR N q0 d0 t_17.1 t_17.2 ot_17) (cwV 0 hts gX7_setParent_X7_failRejected rfl rfl rfl hdwsV_X7_failRejected ⟨Nat.le_of_ble_eq_true rfl, Nat.le_of_ble_eq_true rfl⟩) hK hP hD hS hA [0, 1, 2, 3, 4, 5, 6, 7, 8, 9, 10, 11, 12, 13, 14, 15, 16, 17, 18, 19, 20, 21, 22, 23, 24, 25, 26, 27, 28, 29, 30, 31, 32, 33, 34, 35, 36, 37, 38, 39, 40, 41, 42, 43, 44, 45, 46, 47, 48, 49, 50, 51, 52, 53, 54, 55, 56, 57, 58, 59, 60, 61, 62, 63, 64, 65, 66, 67, 68, 69, 70, 71, 72] (by decide) rfl rfl (ci := 7) rfl rfl rfl (fun _ => WX7 cI cZ cR q0 t_17.2) (()) rfl rfl hl.1 rfl (Nat.le_of_ble_eq_true rfl) dX7_setParent_44 ⟨Nat.zero_le _, Nat.zero_le _⟩ (fun _ _ H locs hP hD hS => ?_)
          simp only [Option.some.injEq, Prod.mk.injEq] at hf
          obtain ⟨rfl, rfl⟩ := hf
          exact hend _ _ _ _ hP hD hS rfl dX7_setParent_47
    · have hf := tm_iT c_5 hf
      refine lv_aload_n hx hb dX7_setParent_22 rfl (lv_at hl 0 rfl) ?_
      obtain ⟨t_18, ot_18, hf⟩ := tm_bS hf
      refine tm_cVI (As := []) (rest := []) ⟨hx, hb, hml, hown, hts⟩ (tX7_failInvalid l D cI cZ cR N q0 d0 t_18.1 t_18.2 ot_18) (cwV 0 hts gX7_setParent_X7_failInvalid rfl rfl rfl hdwsV_X7_failInvalid ⟨Nat.le_of_ble_eq_true rfl, Nat.le_of_ble_eq_true rfl⟩) hK hP hD hS hA [0, 1, 2, 3, 4, 5, 6, 7, 8, 9, 10, 11, 12, 13, 14, 15, 16, 17, 18, 19, 20, 21, 22, 23, 24, 25, 26, 27, 28, 29, 30, 31, 32, 33, 34, 35, 36, 37, 38, 39, 40, 41, 42, 43, 44, 45, 46, 47, 48, 49, 50, 51, 52, 53, 54, 55, 56, 57, 58, 59, 60, 61, 62, 63, 64, 65, 66, 67, 68, 69, 70, 71, 72] (by decide) rfl rfl (ci := 7) rfl rfl rfl (fun _ => WX7 cI cZ cR q0 t_18.2) (()) rfl rfl hl.1 rfl (Nat.le_of_ble_eq_true rfl) dX7_setParent_23 ⟨Nat.zero_le _, Nat.zero_le _⟩ (fun _ _ H locs hP hD hS => ?_)
      simp only [Option.some.injEq, Prod.mk.injEq] at hf
      obtain ⟨rfl, rfl⟩ := hf
      exact hend _ _ _ _ hP hD hS rfl dX7_setParent_26
set_option maxHeartbeats 4000000 in
set_option maxRecDepth 100000 in
theorem tX7_isSide (l : Launch) (D : va_G) (cI cZ cR : ClassId) (N : Nat) (p1 : Int32) (r0 : Int32) (hf : fX7_isSide N p1 = some r0) : tm_CI l D (tm_ty cI cZ cR) yX7_isSide wsX7_isSide rmX7_isSide [.int p1] (([] : va_W)) r0 (([] : va_W)) := by
  refine tm_mkI (cc := cX7_isSide) (maxL := 1) (ty := .boolean) (by decide) rfl (Nat.le_of_ble_eq_true rfl) ?_
  intro p e s m below meth c A ls Q C hP hD hS hl hend
  have C : tm_Cx p s m c [.int p1].toArray cX7_isSide 1 RX7 wsX7_isSide D (tm_ty cI cZ cR) A s.heap := C
  obtain ⟨hx, hb, hml, hown, hts, hK, hA⟩ := id C
  have hl : lv_has ls 1 [(0, .int p1)] := hl
  unfold fX7_isSide at hf
  refine lv_iload_n hx hb dX7_isSide_0 rfl (lv_at hl 0 rfl) ?_
  refine lv_iconst (v := 1) hx hb dX7_isSide_1 (by decide) ?_
  refine lv_icmp_lt (tgt := 16) hx hb dX7_isSide_2 (by decide) (fun c_1 => ?_) (fun c_1 => ?_)
  · have hf := tm_iT c_1 hf
    refine lv_iconst (v := 0) hx hb dX7_isSide_16 (by decide) ?_
    obtain rfl := Option.some.inj hf
    exact hend _ _ _ _ hP hD hS (by decide) dX7_isSide_17
  · have hf := tm_iF c_1 hf
    refine lv_iload_n hx hb dX7_isSide_5 rfl (lv_at hl 0 rfl) ?_
    refine lv_sipush (v := 200) hx hb dX7_isSide_6 (by decide) ?_
    refine lv_icmp_gt (tgt := 16) hx hb dX7_isSide_9 (by decide) (fun c_2 => ?_) (fun c_2 => ?_)
    · have hf := tm_iT c_2 hf
      refine lv_iconst (v := 0) hx hb dX7_isSide_16 (by decide) ?_
      obtain rfl := Option.some.inj hf
      exact hend _ _ _ _ hP hD hS (by decide) dX7_isSide_17
    · have hf := tm_iF c_2 hf
      refine lv_iconst (v := 1) hx hb dX7_isSide_12 (by decide) ?_
      refine lv_goto (tgt := 17) hx hb dX7_isSide_13 (by decide) ?_
      obtain rfl := Option.some.inj hf
      exact hend _ _ _ _ hP hD hS (by decide) dX7_isSide_17
set_option maxHeartbeats 4000000 in
set_option maxRecDepth 100000 in
theorem tX7_setCanvas (l : Launch) (D : va_G) (cI cZ cR : ClassId) (N : Nat) (q0 : Nat → Nat) (d0 : tm_M) (p1 : Int32) (p2 : Int32) (r0 : Int32) (z0 : tm_M) (hf : fX7_setCanvas N d0 p1 p2 = some (r0, z0)) : tm_CI l D (tm_ty cI cZ cR) yX7_setCanvas wsX7_setCanvas rmX7_setCanvas [.ref (q0 0), .int p1, .int p2] (WX7 cI cZ cR q0 d0) r0 (WX7 cI cZ cR q0 z0) := by
  refine tm_mkI (cc := cX7_setCanvas) (maxL := 4) (ty := .int) (by decide) rfl (Nat.le_of_ble_eq_true rfl) ?_
  intro p e s m below meth c A ls Q C hP hD hS hl hend
  have C : tm_Cx p s m c [.ref (q0 0), .int p1, .int p2].toArray cX7_setCanvas 4 RX7 wsX7_setCanvas D (tm_ty cI cZ cR) A s.heap := C
  obtain ⟨hx, hb, hml, hown, hts, hK, hA⟩ := id C
  have hl : lv_has ls 4 [(0, .ref (q0 0)), (1, .int p1), (2, .int p2)] := hl
  unfold fX7_setCanvas at hf
  refine lv_iload_n hx hb dX7_setCanvas_0 rfl (lv_at hl 1 rfl) ?_
  obtain ⟨t_1, ot_1, hf⟩ := tm_bS hf
  refine tm_cSI (As := [.int p1]) (rest := []) ⟨hx, hb, hml, hown, hts⟩ (tX7_isSide l D cI cZ cR N p1 t_1 ot_1) (va_cwS 1 hts gX7_setCanvas_X7_isSide rfl rfl rfl hdwsS_X7_isSide ⟨Nat.le_of_ble_eq_true rfl, Nat.le_of_ble_eq_true rfl⟩) hK hP hD hS hA [] (by decide) rfl rfl (fun _ => WX7 cI cZ cR q0 d0) (()) rfl rfl hl.1 rfl (Nat.le_of_ble_eq_true rfl) dX7_setCanvas_1 ⟨Nat.zero_le _, Nat.zero_le _⟩ (fun _ _ H locs hP hD hS => ?_)
  refine lv_if_eq (tgt := 14) hx hb dX7_setCanvas_4 (by decide) (fun c_2 => ?_) (fun c_2 => ?_)
  · have hf := tm_iT c_2 hf
    refine lv_aload_n hx hb dX7_setCanvas_14 rfl (lv_at hl 0 rfl) ?_
    obtain ⟨t_3, ot_3, hf⟩ := tm_bS hf
    refine tm_cVI (As := []) (rest := []) ⟨hx, hb, hml, hown, hts⟩ (tX7_failInvalid l D cI cZ cR N q0 d0 t_3.1 t_3.2 ot_3) (cwV 0 hts gX7_setCanvas_X7_failInvalid rfl rfl rfl hdwsV_X7_failInvalid ⟨Nat.le_of_ble_eq_true rfl, Nat.le_of_ble_eq_true rfl⟩) hK hP hD hS hA [0, 1, 2, 3, 4, 5, 6, 7, 8, 9, 10, 11, 12, 13, 14, 15, 16, 17, 18, 19, 20, 21, 22, 23, 24, 25, 26, 27, 28, 29, 30, 31, 32, 33, 34, 35, 36, 37, 38, 39, 40, 41, 42, 43, 44, 45, 46, 47, 48, 49, 50, 51, 52, 53, 54, 55, 56, 57, 58, 59, 60, 61, 62, 63, 64, 65, 66, 67, 68, 69, 70, 71, 72] (by decide) rfl rfl (ci := 7) rfl rfl rfl (fun _ => WX7 cI cZ cR q0 t_3.2) (()) rfl rfl hl.1 rfl (Nat.le_of_ble_eq_true rfl) dX7_setCanvas_15 ⟨Nat.zero_le _, Nat.zero_le _⟩ (fun _ _ H locs hP hD hS => ?_)
    simp only [Option.some.injEq, Prod.mk.injEq] at hf
    obtain ⟨rfl, rfl⟩ := hf
    exact hend _ _ _ _ hP hD hS rfl dX7_setCanvas_18
  · have hf := tm_iF c_2 hf
    refine lv_iload_n hx hb dX7_setCanvas_7 rfl (lv_at hl 2 rfl) ?_
    obtain ⟨t_4, ot_4, hf⟩ := tm_bS hf
    refine tm_cSI (As := [.int p2]) (rest := []) ⟨hx, hb, hml, hown, hts⟩ (tX7_isSide l D cI cZ cR N p2 t_4 ot_4) (va_cwS 1 hts gX7_setCanvas_X7_isSide rfl rfl rfl hdwsS_X7_isSide ⟨Nat.le_of_ble_eq_true rfl, Nat.le_of_ble_eq_true rfl⟩) hK hP hD hS hA [] (by decide) rfl rfl (fun _ => WX7 cI cZ cR q0 d0) (()) rfl rfl hl.1 rfl (Nat.le_of_ble_eq_true rfl) dX7_setCanvas_8 ⟨Nat.zero_le _, Nat.zero_le _⟩ (fun _ _ H locs hP hD hS => ?_)
    refine lv_if_ne (tgt := 19) hx hb dX7_setCanvas_11 (by decide) (fun c_5 => ?_) (fun c_5 => ?_)
    · have hf := tm_iF c_5 hf
      refine lv_aload_n hx hb dX7_setCanvas_19 rfl (lv_at hl 0 rfl) ?_
      refine va_get (D := D) (ci := 7) (v := .ref (q0 30)) (C := RX7) (T := TX7) (N := 8) hx hb hts uX7_setCanvas_X7 hown hK hP 0 rfl rfl 2 (by decide) (hts _ kX7_setCanvas_f26) (fun _ h9 => h9) rfl dX7_setCanvas_20 ?_
      refine lv_aload_n hx hb dX7_setCanvas_23 rfl (lv_at hl 0 rfl) ?_
      refine va_get (D := D) (ci := 7) (v := .ref (q0 1)) (C := RX7) (T := TX7) (N := 8) hx hb hts uX7_setCanvas_X7 hown hK hP 0 rfl rfl 0 (by decide) (hts _ kX7_setCanvas_f10) (fun _ h9 => h9) rfl dX7_setCanvas_24 ?_
      obtain ⟨t_6, ot_6, hf⟩ := tm_bS hf
      refine tm_cVV (As := [.ref (q0 1)]) (rest := []) ⟨hx, hb, hml, hown, hts⟩ (tX6_push l D cI cZ cR N (tm_sq q0 30) (tm_sq q0 1) (tm_sh d0 30) (tm_sh d0 1) t_6 ot_6) (cwV 1 hts gX7_setCanvas_X6_push rfl rfl rfl hdwsV_X6_push ⟨Nat.le_of_ble_eq_true rfl, Nat.le_of_ble_eq_true rfl⟩) hK hP hD hS hA [30, 31, 32, 33, 34, 35, 36, 37, 38, 39, 40, 41, 42, 43, 1, 2, 3] (by decide) rfl rfl (ci := 6) rfl rfl rfl (fun z => WX7 cI cZ cR q0 z) (tm_ins d0 30 14 t_6) rfl rfl hl.1 rfl (Nat.le_of_ble_eq_true rfl) dX7_setCanvas_27 ⟨Nat.zero_le _, Nat.zero_le _⟩ (fun d0_7 ed0_7 H locs hP hD hS => ?_)
      have hf := tm_at ed0_7 hf
      refine lv_sipush (v := 1000) hx hb dX7_setCanvas_30 (by decide) ?_
      refine lv_aload_n hx hb dX7_setCanvas_33 rfl (lv_at hl 0 rfl) ?_
      refine va_get (D := D) (ci := 7) (v := .ref (q0 1)) (C := RX7) (T := TX7) (N := 8) hx hb hts uX7_setCanvas_X7 hown hK hP 0 rfl rfl 0 (by decide) (hts _ kX7_setCanvas_f10) (fun _ h9 => h9) rfl dX7_setCanvas_34 ?_
      refine va_get (D := D) (ci := 5) (v := .int (d0_7 1 3)) (C := RX5) (T := TX5) (N := 7) hx hb hts uX7_setCanvas_X5 hown hK hP 1 rfl rfl 3 (by decide) (hts _ kX7_setCanvas_f89) (fun _ h9 => h9) rfl dX7_setCanvas_37 ?_
      refine lv_imul hx hb dX7_setCanvas_40 ?_
      refine lv_aload_n hx hb dX7_setCanvas_41 rfl (lv_at hl 0 rfl) ?_
      refine va_get (D := D) (ci := 7) (v := .ref (q0 1)) (C := RX7) (T := TX7) (N := 8) hx hb hts uX7_setCanvas_X7 hown hK hP 0 rfl rfl 0 (by decide) (hts _ kX7_setCanvas_f10) (fun _ h9 => h9) rfl dX7_setCanvas_42 ?_
      refine va_get (D := D) (ci := 5) (v := .int (d0_7 1 4)) (C := RX5) (T := TX5) (N := 7) hx hb hts uX7_setCanvas_X5 hown hK hP 1 rfl rfl 4 (by decide) (hts _ kX7_setCanvas_f92) (fun _ h9 => h9) rfl dX7_setCanvas_45 ?_
      refine lv_iadd hx hb dX7_setCanvas_48 ?_
      refine lv_topi (fun x_8 ex_8 => ?_)
      have hf := tm_at ex_8 hf
      refine lv_istore_n (lv' := [(3, .int x_8), (0, .ref (q0 0)), (1, .int p1), (2, .int p2)]) hx hb dX7_setCanvas_49 rfl hl (by decide) rfl (fun ls hl => ?_)
      refine lv_aload_n hx hb dX7_setCanvas_50 rfl (lv_at hl 1 rfl) ?_
      refine va_get (D := D) (ci := 7) (v := .ref (q0 1)) (C := RX7) (T := TX7) (N := 8) hx hb hts uX7_setCanvas_X7 hown hK hP 0 rfl rfl 0 (by decide) (hts _ kX7_setCanvas_f10) (fun _ h9 => h9) rfl dX7_setCanvas_51 ?_
      refine lv_iload_n hx hb dX7_setCanvas_54 rfl (lv_at hl 2 rfl) ?_
      refine tm_put (D := D) (ci := 5) (v := .int p1) (ty := .int) (C := RX5) (T := TX5) (N := 7) hx hb hts uX7_setCanvas_X5 tyX5 tyX5_ok nmX5 hown hK hP hD hS 1 rfl rfl 3 (by decide) (hts _ kX7_setCanvas_f89) (fun _ h9 => h9) rfl (by decide +kernel) rfl rfl (Nat.le_of_ble_eq_true rfl) dX7_setCanvas_55 (fun z => WX7 cI cZ cR q0 z) (tm_upk d0_7 1 3 p1) rfl (fun d0_9 ed0_9 H locs hP hD hS => ?_)
      have hf := tm_at ed0_9 hf
      refine lv_aload_n hx hb dX7_setCanvas_58 rfl (lv_at hl 1 rfl) ?_
      refine va_get (D := D) (ci := 7) (v := .ref (q0 1)) (C := RX7) (T := TX7) (N := 8) hx hb hts uX7_setCanvas_X7 hown hK hP 0 rfl rfl 0 (by decide) (hts _ kX7_setCanvas_f10) (fun _ h9 => h9) rfl dX7_setCanvas_59 ?_
      refine lv_iload_n hx hb dX7_setCanvas_62 rfl (lv_at hl 3 rfl) ?_
      refine tm_put (D := D) (ci := 5) (v := .int p2) (ty := .int) (C := RX5) (T := TX5) (N := 7) hx hb hts uX7_setCanvas_X5 tyX5 tyX5_ok nmX5 hown hK hP hD hS 1 rfl rfl 4 (by decide) (hts _ kX7_setCanvas_f92) (fun _ h9 => h9) rfl (by decide +kernel) rfl rfl (Nat.le_of_ble_eq_true rfl) dX7_setCanvas_63 (fun z => WX7 cI cZ cR q0 z) (tm_upk d0_9 1 4 p2) rfl (fun d0_10 ed0_10 H locs hP hD hS => ?_)
      have hf := tm_at ed0_10 hf
      refine lv_aload_n hx hb dX7_setCanvas_66 rfl (lv_at hl 1 rfl) ?_
      refine va_get (D := D) (ci := 7) (v := .ref (q0 4)) (C := RX7) (T := TX7) (N := 8) hx hb hts uX7_setCanvas_X7 hown hK hP 0 rfl rfl 1 (by decide) (hts _ kX7_setCanvas_f19) (fun _ h9 => h9) rfl dX7_setCanvas_67 ?_
      refine lv_aload_n hx hb dX7_setCanvas_70 rfl (lv_at hl 1 rfl) ?_
      refine va_get (D := D) (ci := 7) (v := .ref (q0 1)) (C := RX7) (T := TX7) (N := 8) hx hb hts uX7_setCanvas_X7 hown hK hP 0 rfl rfl 0 (by decide) (hts _ kX7_setCanvas_f10) (fun _ h9 => h9) rfl dX7_setCanvas_71 ?_
      obtain ⟨t_11, ot_11, hf⟩ := tm_bS hf
      refine tm_cVV (As := [.ref (q0 1)]) (rest := []) ⟨hx, hb, hml, hown, hts⟩ (tX1_arrange l D cI cZ cR N (tm_sq q0 4) (tm_sq q0 1) (tm_sh d0_10 4) (tm_sh d0_10 1) t_11 ot_11) (cwV 1 hts gX7_setCanvas_X1_arrange rfl rfl rfl hdwsV_X1_arrange ⟨Nat.le_of_ble_eq_true rfl, Nat.le_of_ble_eq_true rfl⟩) hK hP hD hS hA [4, 5, 6, 7, 8, 9, 10, 11, 12, 13, 14, 15, 16, 17, 18, 19, 20, 21, 22, 23, 24, 25, 26, 27, 28, 29, 1, 2, 3] (by decide) rfl rfl (ci := 1) rfl rfl rfl (fun z => WX7 cI cZ cR q0 z) (tm_ins d0_10 4 26 t_11) rfl rfl hl.1 rfl (Nat.le_of_ble_eq_true rfl) dX7_setCanvas_74 ⟨Nat.zero_le _, Nat.zero_le _⟩ (fun d0_12 ed0_12 H locs hP hD hS => ?_)
      have hf := tm_at ed0_12 hf
      refine lv_iload_n hx hb dX7_setCanvas_77 rfl (lv_at hl 0 rfl) ?_
      simp only [Option.some.injEq, Prod.mk.injEq] at hf
      obtain ⟨rfl, rfl⟩ := hf
      exact hend _ _ _ _ hP hD hS rfl dX7_setCanvas_78
    · have hf := tm_iT c_5 hf
      refine lv_aload_n hx hb dX7_setCanvas_14 rfl (lv_at hl 0 rfl) ?_
      obtain ⟨t_13, ot_13, hf⟩ := tm_bS hf
      refine tm_cVI (As := []) (rest := []) ⟨hx, hb, hml, hown, hts⟩ (tX7_failInvalid l D cI cZ cR N q0 d0 t_13.1 t_13.2 ot_13) (cwV 0 hts gX7_setCanvas_X7_failInvalid rfl rfl rfl hdwsV_X7_failInvalid ⟨Nat.le_of_ble_eq_true rfl, Nat.le_of_ble_eq_true rfl⟩) hK hP hD hS hA [0, 1, 2, 3, 4, 5, 6, 7, 8, 9, 10, 11, 12, 13, 14, 15, 16, 17, 18, 19, 20, 21, 22, 23, 24, 25, 26, 27, 28, 29, 30, 31, 32, 33, 34, 35, 36, 37, 38, 39, 40, 41, 42, 43, 44, 45, 46, 47, 48, 49, 50, 51, 52, 53, 54, 55, 56, 57, 58, 59, 60, 61, 62, 63, 64, 65, 66, 67, 68, 69, 70, 71, 72] (by decide) rfl rfl (ci := 7) rfl rfl rfl (fun _ => WX7 cI cZ cR q0 t_13.2) (()) rfl rfl hl.1 rfl (Nat.le_of_ble_eq_true rfl) dX7_setCanvas_15 ⟨Nat.zero_le _, Nat.zero_le _⟩ (fun _ _ H locs hP hD hS => ?_)
      simp only [Option.some.injEq, Prod.mk.injEq] at hf
      obtain ⟨rfl, rfl⟩ := hf
      exact hend _ _ _ _ hP hD hS rfl dX7_setCanvas_18
set_option maxHeartbeats 4000000 in
set_option maxRecDepth 100000 in
theorem tX7_setPadding (l : Launch) (D : va_G) (cI cZ cR : ClassId) (N : Nat) (q0 : Nat → Nat) (d0 : tm_M) (p1 : Int32) (r0 : Int32) (z0 : tm_M) (hf : fX7_setPadding N d0 p1 = some (r0, z0)) : tm_CI l D (tm_ty cI cZ cR) yX7_setPadding wsX7_setPadding rmX7_setPadding [.ref (q0 0), .int p1] (WX7 cI cZ cR q0 d0) r0 (WX7 cI cZ cR q0 z0) := by
  refine tm_mkI (cc := cX7_setPadding) (maxL := 3) (ty := .int) (by decide) rfl (Nat.le_of_ble_eq_true rfl) ?_
  intro p e s m below meth c A ls Q C hP hD hS hl hend
  have C : tm_Cx p s m c [.ref (q0 0), .int p1].toArray cX7_setPadding 3 RX7 wsX7_setPadding D (tm_ty cI cZ cR) A s.heap := C
  obtain ⟨hx, hb, hml, hown, hts, hK, hA⟩ := id C
  have hl : lv_has ls 3 [(0, .ref (q0 0)), (1, .int p1)] := hl
  unfold fX7_setPadding at hf
  refine lv_iload_n hx hb dX7_setPadding_0 rfl (lv_at hl 1 rfl) ?_
  refine lv_if_lt (tgt := 9) hx hb dX7_setPadding_1 (by decide) (fun c_1 => ?_) (fun c_1 => ?_)
  · have hf := tm_iT c_1 hf
    refine lv_aload_n hx hb dX7_setPadding_9 rfl (lv_at hl 0 rfl) ?_
    obtain ⟨t_2, ot_2, hf⟩ := tm_bS hf
    refine tm_cVI (As := []) (rest := []) ⟨hx, hb, hml, hown, hts⟩ (tX7_failInvalid l D cI cZ cR N q0 d0 t_2.1 t_2.2 ot_2) (cwV 0 hts gX7_setPadding_X7_failInvalid rfl rfl rfl hdwsV_X7_failInvalid ⟨Nat.le_of_ble_eq_true rfl, Nat.le_of_ble_eq_true rfl⟩) hK hP hD hS hA [0, 1, 2, 3, 4, 5, 6, 7, 8, 9, 10, 11, 12, 13, 14, 15, 16, 17, 18, 19, 20, 21, 22, 23, 24, 25, 26, 27, 28, 29, 30, 31, 32, 33, 34, 35, 36, 37, 38, 39, 40, 41, 42, 43, 44, 45, 46, 47, 48, 49, 50, 51, 52, 53, 54, 55, 56, 57, 58, 59, 60, 61, 62, 63, 64, 65, 66, 67, 68, 69, 70, 71, 72] (by decide) rfl rfl (ci := 7) rfl rfl rfl (fun _ => WX7 cI cZ cR q0 t_2.2) (()) rfl rfl hl.1 rfl (Nat.le_of_ble_eq_true rfl) dX7_setPadding_10 ⟨Nat.zero_le _, Nat.zero_le _⟩ (fun _ _ H locs hP hD hS => ?_)
    simp only [Option.some.injEq, Prod.mk.injEq] at hf
    obtain ⟨rfl, rfl⟩ := hf
    exact hend _ _ _ _ hP hD hS rfl dX7_setPadding_13
  · have hf := tm_iF c_1 hf
    refine lv_iload_n hx hb dX7_setPadding_4 rfl (lv_at hl 1 rfl) ?_
    refine lv_iconst (v := 3) hx hb dX7_setPadding_5 (by decide) ?_
    refine lv_icmp_le (tgt := 14) hx hb dX7_setPadding_6 (by decide) (fun c_3 => ?_) (fun c_3 => ?_)
    · have hf := tm_iT c_3 hf
      refine lv_aload_n hx hb dX7_setPadding_14 rfl (lv_at hl 0 rfl) ?_
      refine va_get (D := D) (ci := 7) (v := .ref (q0 30)) (C := RX7) (T := TX7) (N := 8) hx hb hts uX7_setPadding_X7 hown hK hP 0 rfl rfl 2 (by decide) (hts _ kX7_setPadding_f26) (fun _ h9 => h9) rfl dX7_setPadding_15 ?_
      refine lv_aload_n hx hb dX7_setPadding_18 rfl (lv_at hl 0 rfl) ?_
      refine va_get (D := D) (ci := 7) (v := .ref (q0 1)) (C := RX7) (T := TX7) (N := 8) hx hb hts uX7_setPadding_X7 hown hK hP 0 rfl rfl 0 (by decide) (hts _ kX7_setPadding_f10) (fun _ h9 => h9) rfl dX7_setPadding_19 ?_
      obtain ⟨t_4, ot_4, hf⟩ := tm_bS hf
      refine tm_cVV (As := [.ref (q0 1)]) (rest := []) ⟨hx, hb, hml, hown, hts⟩ (tX6_push l D cI cZ cR N (tm_sq q0 30) (tm_sq q0 1) (tm_sh d0 30) (tm_sh d0 1) t_4 ot_4) (cwV 1 hts gX7_setPadding_X6_push rfl rfl rfl hdwsV_X6_push ⟨Nat.le_of_ble_eq_true rfl, Nat.le_of_ble_eq_true rfl⟩) hK hP hD hS hA [30, 31, 32, 33, 34, 35, 36, 37, 38, 39, 40, 41, 42, 43, 1, 2, 3] (by decide) rfl rfl (ci := 6) rfl rfl rfl (fun z => WX7 cI cZ cR q0 z) (tm_ins d0 30 14 t_4) rfl rfl hl.1 rfl (Nat.le_of_ble_eq_true rfl) dX7_setPadding_22 ⟨Nat.zero_le _, Nat.zero_le _⟩ (fun d0_5 ed0_5 H locs hP hD hS => ?_)
      have hf := tm_at ed0_5 hf
      refine lv_aload_n hx hb dX7_setPadding_25 rfl (lv_at hl 0 rfl) ?_
      refine va_get (D := D) (ci := 7) (v := .ref (q0 1)) (C := RX7) (T := TX7) (N := 8) hx hb hts uX7_setPadding_X7 hown hK hP 0 rfl rfl 0 (by decide) (hts _ kX7_setPadding_f10) (fun _ h9 => h9) rfl dX7_setPadding_26 ?_
      refine va_get (D := D) (ci := 5) (v := .int (d0_5 1 5)) (C := RX5) (T := TX5) (N := 7) hx hb hts uX7_setPadding_X5 hown hK hP 1 rfl rfl 5 (by decide) (hts _ kX7_setPadding_f95) (fun _ h9 => h9) rfl dX7_setPadding_29 ?_
      refine lv_topi (fun x_6 ex_6 => ?_)
      have hf := tm_at ex_6 hf
      refine lv_istore_n (lv' := [(2, .int x_6), (0, .ref (q0 0)), (1, .int p1)]) hx hb dX7_setPadding_32 rfl hl (by decide) rfl (fun ls hl => ?_)
      refine lv_aload_n hx hb dX7_setPadding_33 rfl (lv_at hl 1 rfl) ?_
      refine va_get (D := D) (ci := 7) (v := .ref (q0 1)) (C := RX7) (T := TX7) (N := 8) hx hb hts uX7_setPadding_X7 hown hK hP 0 rfl rfl 0 (by decide) (hts _ kX7_setPadding_f10) (fun _ h9 => h9) rfl dX7_setPadding_34 ?_
      refine lv_iload_n hx hb dX7_setPadding_37 rfl (lv_at hl 2 rfl) ?_
      refine tm_put (D := D) (ci := 5) (v := .int p1) (ty := .int) (C := RX5) (T := TX5) (N := 7) hx hb hts uX7_setPadding_X5 tyX5 tyX5_ok nmX5 hown hK hP hD hS 1 rfl rfl 5 (by decide) (hts _ kX7_setPadding_f95) (fun _ h9 => h9) rfl (by decide +kernel) rfl rfl (Nat.le_of_ble_eq_true rfl) dX7_setPadding_38 (fun z => WX7 cI cZ cR q0 z) (tm_upk d0_5 1 5 p1) rfl (fun d0_7 ed0_7 H locs hP hD hS => ?_)
      have hf := tm_at ed0_7 hf
      refine lv_aload_n hx hb dX7_setPadding_41 rfl (lv_at hl 1 rfl) ?_
      refine va_get (D := D) (ci := 7) (v := .ref (q0 4)) (C := RX7) (T := TX7) (N := 8) hx hb hts uX7_setPadding_X7 hown hK hP 0 rfl rfl 1 (by decide) (hts _ kX7_setPadding_f19) (fun _ h9 => h9) rfl dX7_setPadding_42 ?_
      refine lv_aload_n hx hb dX7_setPadding_45 rfl (lv_at hl 1 rfl) ?_
      refine va_get (D := D) (ci := 7) (v := .ref (q0 1)) (C := RX7) (T := TX7) (N := 8) hx hb hts uX7_setPadding_X7 hown hK hP 0 rfl rfl 0 (by decide) (hts _ kX7_setPadding_f10) (fun _ h9 => h9) rfl dX7_setPadding_46 ?_
      obtain ⟨t_8, ot_8, hf⟩ := tm_bS hf
      refine tm_cVV (As := [.ref (q0 1)]) (rest := []) ⟨hx, hb, hml, hown, hts⟩ (tX1_arrange l D cI cZ cR N (tm_sq q0 4) (tm_sq q0 1) (tm_sh d0_7 4) (tm_sh d0_7 1) t_8 ot_8) (cwV 1 hts gX7_setPadding_X1_arrange rfl rfl rfl hdwsV_X1_arrange ⟨Nat.le_of_ble_eq_true rfl, Nat.le_of_ble_eq_true rfl⟩) hK hP hD hS hA [4, 5, 6, 7, 8, 9, 10, 11, 12, 13, 14, 15, 16, 17, 18, 19, 20, 21, 22, 23, 24, 25, 26, 27, 28, 29, 1, 2, 3] (by decide) rfl rfl (ci := 1) rfl rfl rfl (fun z => WX7 cI cZ cR q0 z) (tm_ins d0_7 4 26 t_8) rfl rfl hl.1 rfl (Nat.le_of_ble_eq_true rfl) dX7_setPadding_49 ⟨Nat.zero_le _, Nat.zero_le _⟩ (fun d0_9 ed0_9 H locs hP hD hS => ?_)
      have hf := tm_at ed0_9 hf
      refine lv_iload_n hx hb dX7_setPadding_52 rfl (lv_at hl 0 rfl) ?_
      simp only [Option.some.injEq, Prod.mk.injEq] at hf
      obtain ⟨rfl, rfl⟩ := hf
      exact hend _ _ _ _ hP hD hS rfl dX7_setPadding_53
    · have hf := tm_iF c_3 hf
      refine lv_aload_n hx hb dX7_setPadding_9 rfl (lv_at hl 0 rfl) ?_
      obtain ⟨t_10, ot_10, hf⟩ := tm_bS hf
      refine tm_cVI (As := []) (rest := []) ⟨hx, hb, hml, hown, hts⟩ (tX7_failInvalid l D cI cZ cR N q0 d0 t_10.1 t_10.2 ot_10) (cwV 0 hts gX7_setPadding_X7_failInvalid rfl rfl rfl hdwsV_X7_failInvalid ⟨Nat.le_of_ble_eq_true rfl, Nat.le_of_ble_eq_true rfl⟩) hK hP hD hS hA [0, 1, 2, 3, 4, 5, 6, 7, 8, 9, 10, 11, 12, 13, 14, 15, 16, 17, 18, 19, 20, 21, 22, 23, 24, 25, 26, 27, 28, 29, 30, 31, 32, 33, 34, 35, 36, 37, 38, 39, 40, 41, 42, 43, 44, 45, 46, 47, 48, 49, 50, 51, 52, 53, 54, 55, 56, 57, 58, 59, 60, 61, 62, 63, 64, 65, 66, 67, 68, 69, 70, 71, 72] (by decide) rfl rfl (ci := 7) rfl rfl rfl (fun _ => WX7 cI cZ cR q0 t_10.2) (()) rfl rfl hl.1 rfl (Nat.le_of_ble_eq_true rfl) dX7_setPadding_10 ⟨Nat.zero_le _, Nat.zero_le _⟩ (fun _ _ H locs hP hD hS => ?_)
      simp only [Option.some.injEq, Prod.mk.injEq] at hf
      obtain ⟨rfl, rfl⟩ := hf
      exact hend _ _ _ _ hP hD hS rfl dX7_setPadding_13
set_option maxHeartbeats 4000000 in
set_option maxRecDepth 100000 in
theorem tX7_setMode (l : Launch) (D : va_G) (cI cZ cR : ClassId) (N : Nat) (q0 : Nat → Nat) (d0 : tm_M) (p1 : Int32) (r0 : Int32) (z0 : tm_M) (hf : fX7_setMode N d0 p1 = some (r0, z0)) : tm_CI l D (tm_ty cI cZ cR) yX7_setMode wsX7_setMode rmX7_setMode [.ref (q0 0), .int p1] (WX7 cI cZ cR q0 d0) r0 (WX7 cI cZ cR q0 z0) := by
  refine tm_mkI (cc := cX7_setMode) (maxL := 3) (ty := .int) (by decide) rfl (Nat.le_of_ble_eq_true rfl) ?_
  intro p e s m below meth c A ls Q C hP hD hS hl hend
  have C : tm_Cx p s m c [.ref (q0 0), .int p1].toArray cX7_setMode 3 RX7 wsX7_setMode D (tm_ty cI cZ cR) A s.heap := C
  obtain ⟨hx, hb, hml, hown, hts, hK, hA⟩ := id C
  have hl : lv_has ls 3 [(0, .ref (q0 0)), (1, .int p1)] := hl
  unfold fX7_setMode at hf
  refine lv_iload_n hx hb dX7_setMode_0 rfl (lv_at hl 1 rfl) ?_
  refine lv_if_eq (tgt := 19) hx hb dX7_setMode_1 (by decide) (fun c_1 => ?_) (fun c_1 => ?_)
  · have hf := tm_iT c_1 hf
    refine lv_aload_n hx hb dX7_setMode_19 rfl (lv_at hl 0 rfl) ?_
    refine va_get (D := D) (ci := 7) (v := .ref (q0 30)) (C := RX7) (T := TX7) (N := 8) hx hb hts uX7_setMode_X7 hown hK hP 0 rfl rfl 2 (by decide) (hts _ kX7_setMode_f26) (fun _ h9 => h9) rfl dX7_setMode_20 ?_
    refine lv_aload_n hx hb dX7_setMode_23 rfl (lv_at hl 0 rfl) ?_
    refine va_get (D := D) (ci := 7) (v := .ref (q0 1)) (C := RX7) (T := TX7) (N := 8) hx hb hts uX7_setMode_X7 hown hK hP 0 rfl rfl 0 (by decide) (hts _ kX7_setMode_f10) (fun _ h9 => h9) rfl dX7_setMode_24 ?_
    obtain ⟨t_2, ot_2, hf⟩ := tm_bS hf
    refine tm_cVV (As := [.ref (q0 1)]) (rest := []) ⟨hx, hb, hml, hown, hts⟩ (tX6_push l D cI cZ cR N (tm_sq q0 30) (tm_sq q0 1) (tm_sh d0 30) (tm_sh d0 1) t_2 ot_2) (cwV 1 hts gX7_setMode_X6_push rfl rfl rfl hdwsV_X6_push ⟨Nat.le_of_ble_eq_true rfl, Nat.le_of_ble_eq_true rfl⟩) hK hP hD hS hA [30, 31, 32, 33, 34, 35, 36, 37, 38, 39, 40, 41, 42, 43, 1, 2, 3] (by decide) rfl rfl (ci := 6) rfl rfl rfl (fun z => WX7 cI cZ cR q0 z) (tm_ins d0 30 14 t_2) rfl rfl hl.1 rfl (Nat.le_of_ble_eq_true rfl) dX7_setMode_27 ⟨Nat.zero_le _, Nat.zero_le _⟩ (fun d0_3 ed0_3 H locs hP hD hS => ?_)
    have hf := tm_at ed0_3 hf
    refine lv_aload_n hx hb dX7_setMode_30 rfl (lv_at hl 0 rfl) ?_
    refine va_get (D := D) (ci := 7) (v := .ref (q0 1)) (C := RX7) (T := TX7) (N := 8) hx hb hts uX7_setMode_X7 hown hK hP 0 rfl rfl 0 (by decide) (hts _ kX7_setMode_f10) (fun _ h9 => h9) rfl dX7_setMode_31 ?_
    refine va_get (D := D) (ci := 5) (v := .int (d0_3 1 6)) (C := RX5) (T := TX5) (N := 7) hx hb hts uX7_setMode_X5 hown hK hP 1 rfl rfl 6 (by decide) (hts _ kX7_setMode_f98) (fun _ h9 => h9) rfl dX7_setMode_34 ?_
    refine lv_topi (fun x_4 ex_4 => ?_)
    have hf := tm_at ex_4 hf
    refine lv_istore_n (lv' := [(2, .int x_4), (0, .ref (q0 0)), (1, .int p1)]) hx hb dX7_setMode_37 rfl hl (by decide) rfl (fun ls hl => ?_)
    refine lv_aload_n hx hb dX7_setMode_38 rfl (lv_at hl 1 rfl) ?_
    refine va_get (D := D) (ci := 7) (v := .ref (q0 1)) (C := RX7) (T := TX7) (N := 8) hx hb hts uX7_setMode_X7 hown hK hP 0 rfl rfl 0 (by decide) (hts _ kX7_setMode_f10) (fun _ h9 => h9) rfl dX7_setMode_39 ?_
    refine lv_iload_n hx hb dX7_setMode_42 rfl (lv_at hl 2 rfl) ?_
    refine tm_put (D := D) (ci := 5) (v := .int p1) (ty := .int) (C := RX5) (T := TX5) (N := 7) hx hb hts uX7_setMode_X5 tyX5 tyX5_ok nmX5 hown hK hP hD hS 1 rfl rfl 6 (by decide) (hts _ kX7_setMode_f98) (fun _ h9 => h9) rfl (by decide +kernel) rfl rfl (Nat.le_of_ble_eq_true rfl) dX7_setMode_43 (fun z => WX7 cI cZ cR q0 z) (tm_upk d0_3 1 6 p1) rfl (fun d0_5 ed0_5 H locs hP hD hS => ?_)
    have hf := tm_at ed0_5 hf
    refine lv_aload_n hx hb dX7_setMode_46 rfl (lv_at hl 1 rfl) ?_
    refine va_get (D := D) (ci := 7) (v := .ref (q0 4)) (C := RX7) (T := TX7) (N := 8) hx hb hts uX7_setMode_X7 hown hK hP 0 rfl rfl 1 (by decide) (hts _ kX7_setMode_f19) (fun _ h9 => h9) rfl dX7_setMode_47 ?_
    refine lv_aload_n hx hb dX7_setMode_50 rfl (lv_at hl 1 rfl) ?_
    refine va_get (D := D) (ci := 7) (v := .ref (q0 1)) (C := RX7) (T := TX7) (N := 8) hx hb hts uX7_setMode_X7 hown hK hP 0 rfl rfl 0 (by decide) (hts _ kX7_setMode_f10) (fun _ h9 => h9) rfl dX7_setMode_51 ?_
    obtain ⟨t_6, ot_6, hf⟩ := tm_bS hf
    refine tm_cVV (As := [.ref (q0 1)]) (rest := []) ⟨hx, hb, hml, hown, hts⟩ (tX1_arrange l D cI cZ cR N (tm_sq q0 4) (tm_sq q0 1) (tm_sh d0_5 4) (tm_sh d0_5 1) t_6 ot_6) (cwV 1 hts gX7_setMode_X1_arrange rfl rfl rfl hdwsV_X1_arrange ⟨Nat.le_of_ble_eq_true rfl, Nat.le_of_ble_eq_true rfl⟩) hK hP hD hS hA [4, 5, 6, 7, 8, 9, 10, 11, 12, 13, 14, 15, 16, 17, 18, 19, 20, 21, 22, 23, 24, 25, 26, 27, 28, 29, 1, 2, 3] (by decide) rfl rfl (ci := 1) rfl rfl rfl (fun z => WX7 cI cZ cR q0 z) (tm_ins d0_5 4 26 t_6) rfl rfl hl.1 rfl (Nat.le_of_ble_eq_true rfl) dX7_setMode_54 ⟨Nat.zero_le _, Nat.zero_le _⟩ (fun d0_7 ed0_7 H locs hP hD hS => ?_)
    have hf := tm_at ed0_7 hf
    refine lv_iload_n hx hb dX7_setMode_57 rfl (lv_at hl 0 rfl) ?_
    simp only [Option.some.injEq, Prod.mk.injEq] at hf
    obtain ⟨rfl, rfl⟩ := hf
    exact hend _ _ _ _ hP hD hS rfl dX7_setMode_58
  · have hf := tm_iF c_1 hf
    refine lv_iload_n hx hb dX7_setMode_4 rfl (lv_at hl 1 rfl) ?_
    refine lv_iconst (v := 1) hx hb dX7_setMode_5 (by decide) ?_
    refine lv_icmp_eq (tgt := 19) hx hb dX7_setMode_6 (by decide) (fun c_8 => ?_) (fun c_8 => ?_)
    · have hf := tm_iT c_8 hf
      refine lv_aload_n hx hb dX7_setMode_19 rfl (lv_at hl 0 rfl) ?_
      refine va_get (D := D) (ci := 7) (v := .ref (q0 30)) (C := RX7) (T := TX7) (N := 8) hx hb hts uX7_setMode_X7 hown hK hP 0 rfl rfl 2 (by decide) (hts _ kX7_setMode_f26) (fun _ h9 => h9) rfl dX7_setMode_20 ?_
      refine lv_aload_n hx hb dX7_setMode_23 rfl (lv_at hl 0 rfl) ?_
      refine va_get (D := D) (ci := 7) (v := .ref (q0 1)) (C := RX7) (T := TX7) (N := 8) hx hb hts uX7_setMode_X7 hown hK hP 0 rfl rfl 0 (by decide) (hts _ kX7_setMode_f10) (fun _ h9 => h9) rfl dX7_setMode_24 ?_
      obtain ⟨t_9, ot_9, hf⟩ := tm_bS hf
      refine tm_cVV (As := [.ref (q0 1)]) (rest := []) ⟨hx, hb, hml, hown, hts⟩ (tX6_push l D cI cZ cR N (tm_sq q0 30) (tm_sq q0 1) (tm_sh d0 30) (tm_sh d0 1) t_9 ot_9) (cwV 1 hts gX7_setMode_X6_push rfl rfl rfl hdwsV_X6_push ⟨Nat.le_of_ble_eq_true rfl, Nat.le_of_ble_eq_true rfl⟩) hK hP hD hS hA [30, 31, 32, 33, 34, 35, 36, 37, 38, 39, 40, 41, 42, 43, 1, 2, 3] (by decide) rfl rfl (ci := 6) rfl rfl rfl (fun z => WX7 cI cZ cR q0 z) (tm_ins d0 30 14 t_9) rfl rfl hl.1 rfl (Nat.le_of_ble_eq_true rfl) dX7_setMode_27 ⟨Nat.zero_le _, Nat.zero_le _⟩ (fun d0_10 ed0_10 H locs hP hD hS => ?_)
      have hf := tm_at ed0_10 hf
      refine lv_aload_n hx hb dX7_setMode_30 rfl (lv_at hl 0 rfl) ?_
      refine va_get (D := D) (ci := 7) (v := .ref (q0 1)) (C := RX7) (T := TX7) (N := 8) hx hb hts uX7_setMode_X7 hown hK hP 0 rfl rfl 0 (by decide) (hts _ kX7_setMode_f10) (fun _ h9 => h9) rfl dX7_setMode_31 ?_
      refine va_get (D := D) (ci := 5) (v := .int (d0_10 1 6)) (C := RX5) (T := TX5) (N := 7) hx hb hts uX7_setMode_X5 hown hK hP 1 rfl rfl 6 (by decide) (hts _ kX7_setMode_f98) (fun _ h9 => h9) rfl dX7_setMode_34 ?_
      refine lv_topi (fun x_11 ex_11 => ?_)
      have hf := tm_at ex_11 hf
      refine lv_istore_n (lv' := [(2, .int x_11), (0, .ref (q0 0)), (1, .int p1)]) hx hb dX7_setMode_37 rfl hl (by decide) rfl (fun ls hl => ?_)
      refine lv_aload_n hx hb dX7_setMode_38 rfl (lv_at hl 1 rfl) ?_
      refine va_get (D := D) (ci := 7) (v := .ref (q0 1)) (C := RX7) (T := TX7) (N := 8) hx hb hts uX7_setMode_X7 hown hK hP 0 rfl rfl 0 (by decide) (hts _ kX7_setMode_f10) (fun _ h9 => h9) rfl dX7_setMode_39 ?_
      refine lv_iload_n hx hb dX7_setMode_42 rfl (lv_at hl 2 rfl) ?_
      refine tm_put (D := D) (ci := 5) (v := .int p1) (ty := .int) (C := RX5) (T := TX5) (N := 7) hx hb hts uX7_setMode_X5 tyX5 tyX5_ok nmX5 hown hK hP hD hS 1 rfl rfl 6 (by decide) (hts _ kX7_setMode_f98) (fun _ h9 => h9) rfl (by decide +kernel) rfl rfl (Nat.le_of_ble_eq_true rfl) dX7_setMode_43 (fun z => WX7 cI cZ cR q0 z) (tm_upk d0_10 1 6 p1) rfl (fun d0_12 ed0_12 H locs hP hD hS => ?_)
      have hf := tm_at ed0_12 hf
      refine lv_aload_n hx hb dX7_setMode_46 rfl (lv_at hl 1 rfl) ?_
      refine va_get (D := D) (ci := 7) (v := .ref (q0 4)) (C := RX7) (T := TX7) (N := 8) hx hb hts uX7_setMode_X7 hown hK hP 0 rfl rfl 1 (by decide) (hts _ kX7_setMode_f19) (fun _ h9 => h9) rfl dX7_setMode_47 ?_
      refine lv_aload_n hx hb dX7_setMode_50 rfl (lv_at hl 1 rfl) ?_
      refine va_get (D := D) (ci := 7) (v := .ref (q0 1)) (C := RX7) (T := TX7) (N := 8) hx hb hts uX7_setMode_X7 hown hK hP 0 rfl rfl 0 (by decide) (hts _ kX7_setMode_f10) (fun _ h9 => h9) rfl dX7_setMode_51 ?_
      obtain ⟨t_13, ot_13, hf⟩ := tm_bS hf
      refine tm_cVV (As := [.ref (q0 1)]) (rest := []) ⟨hx, hb, hml, hown, hts⟩ (tX1_arrange l D cI cZ cR N (tm_sq q0 4) (tm_sq q0 1) (tm_sh d0_12 4) (tm_sh d0_12 1) t_13 ot_13) (cwV 1 hts gX7_setMode_X1_arrange rfl rfl rfl hdwsV_X1_arrange ⟨Nat.le_of_ble_eq_true rfl, Nat.le_of_ble_eq_true rfl⟩) hK hP hD hS hA [4, 5, 6, 7, 8, 9, 10, 11, 12, 13, 14, 15, 16, 17, 18, 19, 20, 21, 22, 23, 24, 25, 26, 27, 28, 29, 1, 2, 3] (by decide) rfl rfl (ci := 1) rfl rfl rfl (fun z => WX7 cI cZ cR q0 z) (tm_ins d0_12 4 26 t_13) rfl rfl hl.1 rfl (Nat.le_of_ble_eq_true rfl) dX7_setMode_54 ⟨Nat.zero_le _, Nat.zero_le _⟩ (fun d0_14 ed0_14 H locs hP hD hS => ?_)
      have hf := tm_at ed0_14 hf
      refine lv_iload_n hx hb dX7_setMode_57 rfl (lv_at hl 0 rfl) ?_
      simp only [Option.some.injEq, Prod.mk.injEq] at hf
      obtain ⟨rfl, rfl⟩ := hf
      exact hend _ _ _ _ hP hD hS rfl dX7_setMode_58
    · have hf := tm_iF c_8 hf
      refine lv_iload_n hx hb dX7_setMode_9 rfl (lv_at hl 1 rfl) ?_
      refine lv_iconst (v := 2) hx hb dX7_setMode_10 (by decide) ?_
      refine lv_icmp_eq (tgt := 19) hx hb dX7_setMode_11 (by decide) (fun c_15 => ?_) (fun c_15 => ?_)
      · have hf := tm_iT c_15 hf
        refine lv_aload_n hx hb dX7_setMode_19 rfl (lv_at hl 0 rfl) ?_
        refine va_get (D := D) (ci := 7) (v := .ref (q0 30)) (C := RX7) (T := TX7) (N := 8) hx hb hts uX7_setMode_X7 hown hK hP 0 rfl rfl 2 (by decide) (hts _ kX7_setMode_f26) (fun _ h9 => h9) rfl dX7_setMode_20 ?_
        refine lv_aload_n hx hb dX7_setMode_23 rfl (lv_at hl 0 rfl) ?_
        refine va_get (D := D) (ci := 7) (v := .ref (q0 1)) (C := RX7) (T := TX7) (N := 8) hx hb hts uX7_setMode_X7 hown hK hP 0 rfl rfl 0 (by decide) (hts _ kX7_setMode_f10) (fun _ h9 => h9) rfl dX7_setMode_24 ?_
        obtain ⟨t_16, ot_16, hf⟩ := tm_bS hf
        refine tm_cVV (As := [.ref (q0 1)]) (rest := []) ⟨hx, hb, hml, hown, hts⟩ (tX6_push l D cI cZ cR N (tm_sq q0 30) (tm_sq q0 1) (tm_sh d0 30) (tm_sh d0 1) t_16 ot_16) (cwV 1 hts gX7_setMode_X6_push rfl rfl rfl hdwsV_X6_push ⟨Nat.le_of_ble_eq_true rfl, Nat.le_of_ble_eq_true rfl⟩) hK hP hD hS hA [30, 31, 32, 33, 34, 35, 36, 37, 38, 39, 40, 41, 42, 43, 1, 2, 3] (by decide) rfl rfl (ci := 6) rfl rfl rfl (fun z => WX7 cI cZ cR q0 z) (tm_ins d0 30 14 t_16) rfl rfl hl.1 rfl (Nat.le_of_ble_eq_true rfl) dX7_setMode_27 ⟨Nat.zero_le _, Nat.zero_le _⟩ (fun d0_17 ed0_17 H locs hP hD hS => ?_)
        have hf := tm_at ed0_17 hf
        refine lv_aload_n hx hb dX7_setMode_30 rfl (lv_at hl 0 rfl) ?_
        refine va_get (D := D) (ci := 7) (v := .ref (q0 1)) (C := RX7) (T := TX7) (N := 8) hx hb hts uX7_setMode_X7 hown hK hP 0 rfl rfl 0 (by decide) (hts _ kX7_setMode_f10) (fun _ h9 => h9) rfl dX7_setMode_31 ?_
        refine va_get (D := D) (ci := 5) (v := .int (d0_17 1 6)) (C := RX5) (T := TX5) (N := 7) hx hb hts uX7_setMode_X5 hown hK hP 1 rfl rfl 6 (by decide) (hts _ kX7_setMode_f98) (fun _ h9 => h9) rfl dX7_setMode_34 ?_
        refine lv_topi (fun x_18 ex_18 => ?_)
        have hf := tm_at ex_18 hf
        refine lv_istore_n (lv' := [(2, .int x_18), (0, .ref (q0 0)), (1, .int p1)]) hx hb dX7_setMode_37 rfl hl (by decide) rfl (fun ls hl => ?_)
        refine lv_aload_n hx hb dX7_setMode_38 rfl (lv_at hl 1 rfl) ?_
        refine va_get (D := D) (ci := 7) (v := .ref (q0 1)) (C := RX7) (T := TX7) (N := 8) hx hb hts uX7_setMode_X7 hown hK hP 0 rfl rfl 0 (by decide) (hts _ kX7_setMode_f10) (fun _ h9 => h9) rfl dX7_setMode_39 ?_
        refine lv_iload_n hx hb dX7_setMode_42 rfl (lv_at hl 2 rfl) ?_
        refine tm_put (D := D) (ci := 5) (v := .int p1) (ty := .int) (C := RX5) (T := TX5) (N := 7) hx hb hts uX7_setMode_X5 tyX5 tyX5_ok nmX5 hown hK hP hD hS 1 rfl rfl 6 (by decide) (hts _ kX7_setMode_f98) (fun _ h9 => h9) rfl (by decide +kernel) rfl rfl (Nat.le_of_ble_eq_true rfl) dX7_setMode_43 (fun z => WX7 cI cZ cR q0 z) (tm_upk d0_17 1 6 p1) rfl (fun d0_19 ed0_19 H locs hP hD hS => ?_)
        have hf := tm_at ed0_19 hf
        refine lv_aload_n hx hb dX7_setMode_46 rfl (lv_at hl 1 rfl) ?_
        refine va_get (D := D) (ci := 7) (v := .ref (q0 4)) (C := RX7) (T := TX7) (N := 8) hx hb hts uX7_setMode_X7 hown hK hP 0 rfl rfl 1 (by decide) (hts _ kX7_setMode_f19) (fun _ h9 => h9) rfl dX7_setMode_47 ?_
        refine lv_aload_n hx hb dX7_setMode_50 rfl (lv_at hl 1 rfl) ?_
        refine va_get (D := D) (ci := 7) (v := .ref (q0 1)) (C := RX7) (T := TX7) (N := 8) hx hb hts uX7_setMode_X7 hown hK hP 0 rfl rfl 0 (by decide) (hts _ kX7_setMode_f10) (fun _ h9 => h9) rfl dX7_setMode_51 ?_
        obtain ⟨t_20, ot_20, hf⟩ := tm_bS hf
        refine tm_cVV (As := [.ref (q0 1)]) (rest := []) ⟨hx, hb, hml, hown, hts⟩ (tX1_arrange l D cI cZ cR N (tm_sq q0 4) (tm_sq q0 1) (tm_sh d0_19 4) (tm_sh d0_19 1) t_20 ot_20) (cwV 1 hts gX7_setMode_X1_arrange rfl rfl rfl hdwsV_X1_arrange ⟨Nat.le_of_ble_eq_true rfl, Nat.le_of_ble_eq_true rfl⟩) hK hP hD hS hA [4, 5, 6, 7, 8, 9, 10, 11, 12, 13, 14, 15, 16, 17, 18, 19, 20, 21, 22, 23, 24, 25, 26, 27, 28, 29, 1, 2, 3] (by decide) rfl rfl (ci := 1) rfl rfl rfl (fun z => WX7 cI cZ cR q0 z) (tm_ins d0_19 4 26 t_20) rfl rfl hl.1 rfl (Nat.le_of_ble_eq_true rfl) dX7_setMode_54 ⟨Nat.zero_le _, Nat.zero_le _⟩ (fun d0_21 ed0_21 H locs hP hD hS => ?_)
        have hf := tm_at ed0_21 hf
        refine lv_iload_n hx hb dX7_setMode_57 rfl (lv_at hl 0 rfl) ?_
        simp only [Option.some.injEq, Prod.mk.injEq] at hf
        obtain ⟨rfl, rfl⟩ := hf
        exact hend _ _ _ _ hP hD hS rfl dX7_setMode_58
      · have hf := tm_iF c_15 hf
        refine lv_aload_n hx hb dX7_setMode_14 rfl (lv_at hl 0 rfl) ?_
        obtain ⟨t_22, ot_22, hf⟩ := tm_bS hf
        refine tm_cVI (As := []) (rest := []) ⟨hx, hb, hml, hown, hts⟩ (tX7_failInvalid l D cI cZ cR N q0 d0 t_22.1 t_22.2 ot_22) (cwV 0 hts gX7_setMode_X7_failInvalid rfl rfl rfl hdwsV_X7_failInvalid ⟨Nat.le_of_ble_eq_true rfl, Nat.le_of_ble_eq_true rfl⟩) hK hP hD hS hA [0, 1, 2, 3, 4, 5, 6, 7, 8, 9, 10, 11, 12, 13, 14, 15, 16, 17, 18, 19, 20, 21, 22, 23, 24, 25, 26, 27, 28, 29, 30, 31, 32, 33, 34, 35, 36, 37, 38, 39, 40, 41, 42, 43, 44, 45, 46, 47, 48, 49, 50, 51, 52, 53, 54, 55, 56, 57, 58, 59, 60, 61, 62, 63, 64, 65, 66, 67, 68, 69, 70, 71, 72] (by decide) rfl rfl (ci := 7) rfl rfl rfl (fun _ => WX7 cI cZ cR q0 t_22.2) (()) rfl rfl hl.1 rfl (Nat.le_of_ble_eq_true rfl) dX7_setMode_15 ⟨Nat.zero_le _, Nat.zero_le _⟩ (fun _ _ H locs hP hD hS => ?_)
        simp only [Option.some.injEq, Prod.mk.injEq] at hf
        obtain ⟨rfl, rfl⟩ := hf
        exact hend _ _ _ _ hP hD hS rfl dX7_setMode_18
set_option maxHeartbeats 4000000 in
set_option maxRecDepth 100000 in
theorem tX7_nodeCount (l : Launch) (D : va_G) (cI cZ cR : ClassId) (N : Nat) (q0 : Nat → Nat) (d0 : tm_M) (r0 : Int32) (hf : fX7_nodeCount N d0 = some r0) : tm_CI l D (tm_ty cI cZ cR) yX7_nodeCount wsX7_nodeCount rmX7_nodeCount [.ref (q0 0)] (WX7 cI cZ cR q0 d0) r0 (WX7 cI cZ cR q0 d0) := by
  refine tm_mkI (cc := cX7_nodeCount) (maxL := 1) (ty := .int) (by decide) rfl (Nat.le_of_ble_eq_true rfl) ?_
  intro p e s m below meth c A ls Q C hP hD hS hl hend
  have C : tm_Cx p s m c [.ref (q0 0)].toArray cX7_nodeCount 1 RX7 wsX7_nodeCount D (tm_ty cI cZ cR) A s.heap := C
  obtain ⟨hx, hb, hml, hown, hts, hK, hA⟩ := id C
  have hl : lv_has ls 1 [(0, .ref (q0 0))] := hl
  unfold fX7_nodeCount at hf
  refine lv_aload_n hx hb dX7_nodeCount_0 rfl (lv_at hl 0 rfl) ?_
  refine va_get (D := D) (ci := 7) (v := .ref (q0 1)) (C := RX7) (T := TX7) (N := 8) hx hb hts uX7_nodeCount_X7 hown hK hP 0 rfl rfl 0 (by decide) (hts _ kX7_nodeCount_f10) (fun _ h9 => h9) rfl dX7_nodeCount_1 ?_
  refine va_get (D := D) (ci := 5) (v := .int (d0 1 2)) (C := RX5) (T := TX5) (N := 7) hx hb hts uX7_nodeCount_X5 hown hK hP 1 rfl rfl 2 (by decide) (hts _ kX7_nodeCount_f51) (fun _ h9 => h9) rfl dX7_nodeCount_4 ?_
  obtain rfl := Option.some.inj hf
  exact hend _ _ _ _ hP hD hS rfl dX7_nodeCount_7
set_option maxHeartbeats 4000000 in
set_option maxRecDepth 100000 in
theorem tX7_size (l : Launch) (D : va_G) (cI cZ cR : ClassId) (N : Nat) (q0 : Nat → Nat) (d0 : tm_M) (p1 : Int32) (r0 : Int32) (z0 : tm_M) (hf : fX7_size N d0 p1 = some (r0, z0)) : tm_CI l D (tm_ty cI cZ cR) yX7_size wsX7_size rmX7_size [.ref (q0 0), .int p1] (WX7 cI cZ cR q0 d0) r0 (WX7 cI cZ cR q0 z0) := by
  refine tm_mkI (cc := cX7_size) (maxL := 2) (ty := .int) (by decide) rfl (Nat.le_of_ble_eq_true rfl) ?_
  intro p e s m below meth c A ls Q C hP hD hS hl hend
  have C : tm_Cx p s m c [.ref (q0 0), .int p1].toArray cX7_size 2 RX7 wsX7_size D (tm_ty cI cZ cR) A s.heap := C
  obtain ⟨hx, hb, hml, hown, hts, hK, hA⟩ := id C
  have hl : lv_has ls 2 [(0, .ref (q0 0)), (1, .int p1)] := hl
  unfold fX7_size at hf
  refine lv_aload_n hx hb dX7_size_0 rfl (lv_at hl 0 rfl) ?_
  refine va_get (D := D) (ci := 7) (v := .ref (q0 1)) (C := RX7) (T := TX7) (N := 8) hx hb hts uX7_size_X7 hown hK hP 0 rfl rfl 0 (by decide) (hts _ kX7_size_f10) (fun _ h9 => h9) rfl dX7_size_1 ?_
  refine lv_iload_n hx hb dX7_size_4 rfl (lv_at hl 1 rfl) ?_
  obtain ⟨t_1, ot_1, hf⟩ := tm_bS hf
  refine tm_cVI (As := [.int p1]) (rest := []) ⟨hx, hb, hml, hown, hts⟩ (tX5_has l D cI cZ cR N (tm_sq q0 1) (tm_sh d0 1) p1 t_1 ot_1) (cwV 1 hts gX7_size_X5_has rfl rfl rfl hdwsV_X5_has ⟨Nat.le_of_ble_eq_true rfl, Nat.le_of_ble_eq_true rfl⟩) hK hP hD hS hA [1, 2, 3] (by decide) rfl rfl (ci := 5) rfl rfl rfl (fun _ => WX7 cI cZ cR q0 d0) (()) rfl rfl hl.1 rfl (Nat.le_of_ble_eq_true rfl) dX7_size_5 ⟨Nat.zero_le _, Nat.zero_le _⟩ (fun _ _ H locs hP hD hS => ?_)
  refine lv_if_eq (tgt := 23) hx hb dX7_size_8 (by decide) (fun c_2 => ?_) (fun c_2 => ?_)
  · have hf := tm_iT c_2 hf
    refine lv_aload_n hx hb dX7_size_23 rfl (lv_at hl 0 rfl) ?_
    obtain ⟨t_3, ot_3, hf⟩ := tm_bS hf
    refine tm_cVI (As := []) (rest := []) ⟨hx, hb, hml, hown, hts⟩ (tX7_failInvalid l D cI cZ cR N q0 d0 t_3.1 t_3.2 ot_3) (cwV 0 hts gX7_size_X7_failInvalid rfl rfl rfl hdwsV_X7_failInvalid ⟨Nat.le_of_ble_eq_true rfl, Nat.le_of_ble_eq_true rfl⟩) hK hP hD hS hA [0, 1, 2, 3, 4, 5, 6, 7, 8, 9, 10, 11, 12, 13, 14, 15, 16, 17, 18, 19, 20, 21, 22, 23, 24, 25, 26, 27, 28, 29, 30, 31, 32, 33, 34, 35, 36, 37, 38, 39, 40, 41, 42, 43, 44, 45, 46, 47, 48, 49, 50, 51, 52, 53, 54, 55, 56, 57, 58, 59, 60, 61, 62, 63, 64, 65, 66, 67, 68, 69, 70, 71, 72] (by decide) rfl rfl (ci := 7) rfl rfl rfl (fun _ => WX7 cI cZ cR q0 t_3.2) (()) rfl rfl hl.1 rfl (Nat.le_of_ble_eq_true rfl) dX7_size_24 ⟨Nat.zero_le _, Nat.zero_le _⟩ (fun _ _ H locs hP hD hS => ?_)
    simp only [Option.some.injEq, Prod.mk.injEq] at hf
    obtain ⟨rfl, rfl⟩ := hf
    exact hend _ _ _ _ hP hD hS rfl dX7_size_27
  · have hf := tm_iF c_2 hf
    refine lv_aload_n hx hb dX7_size_11 rfl (lv_at hl 0 rfl) ?_
    refine va_get (D := D) (ci := 7) (v := .ref (q0 4)) (C := RX7) (T := TX7) (N := 8) hx hb hts uX7_size_X7 hown hK hP 0 rfl rfl 1 (by decide) (hts _ kX7_size_f19) (fun _ h9 => h9) rfl dX7_size_12 ?_
    refine va_get (D := D) (ci := 1) (v := .ref (q0 5)) (C := RX1) (T := TX1) (N := 8) hx hb hts uX7_size_X1 hown hK hP 4 rfl rfl 0 (by decide) (hts _ kX7_size_f101) (fun _ h9 => h9) rfl dX7_size_15 ?_
    refine lv_iload_n hx hb dX7_size_18 rfl (lv_at hl 1 rfl) ?_
    obtain ⟨h_4, hf⟩ := tm_gS hf
    refine va_iald hx hb hK hP 5 0 rfl rfl (tm_inb_in h_4) dX7_size_19 ?_
    refine lv_goto (tgt := 27) hx hb dX7_size_20 (by decide) ?_
    simp only [Option.some.injEq, Prod.mk.injEq] at hf
    obtain ⟨rfl, rfl⟩ := hf
    exact hend _ _ _ _ hP hD hS rfl dX7_size_27
set_option maxHeartbeats 4000000 in
set_option maxRecDepth 100000 in
theorem tX7_parent (l : Launch) (D : va_G) (cI cZ cR : ClassId) (N : Nat) (q0 : Nat → Nat) (d0 : tm_M) (p1 : Int32) (r0 : Int32) (z0 : tm_M) (hf : fX7_parent N d0 p1 = some (r0, z0)) : tm_CI l D (tm_ty cI cZ cR) yX7_parent wsX7_parent rmX7_parent [.ref (q0 0), .int p1] (WX7 cI cZ cR q0 d0) r0 (WX7 cI cZ cR q0 z0) := by
  refine tm_mkI (cc := cX7_parent) (maxL := 2) (ty := .int) (by decide) rfl (Nat.le_of_ble_eq_true rfl) ?_
  intro p e s m below meth c A ls Q C hP hD hS hl hend
  have C : tm_Cx p s m c [.ref (q0 0), .int p1].toArray cX7_parent 2 RX7 wsX7_parent D (tm_ty cI cZ cR) A s.heap := C
  obtain ⟨hx, hb, hml, hown, hts, hK, hA⟩ := id C
  have hl : lv_has ls 2 [(0, .ref (q0 0)), (1, .int p1)] := hl
  unfold fX7_parent at hf
  refine lv_aload_n hx hb dX7_parent_0 rfl (lv_at hl 0 rfl) ?_
  refine va_get (D := D) (ci := 7) (v := .ref (q0 1)) (C := RX7) (T := TX7) (N := 8) hx hb hts uX7_parent_X7 hown hK hP 0 rfl rfl 0 (by decide) (hts _ kX7_parent_f10) (fun _ h9 => h9) rfl dX7_parent_1 ?_
  refine lv_iload_n hx hb dX7_parent_4 rfl (lv_at hl 1 rfl) ?_
  obtain ⟨t_1, ot_1, hf⟩ := tm_bS hf
  refine tm_cVI (As := [.int p1]) (rest := []) ⟨hx, hb, hml, hown, hts⟩ (tX5_has l D cI cZ cR N (tm_sq q0 1) (tm_sh d0 1) p1 t_1 ot_1) (cwV 1 hts gX7_parent_X5_has rfl rfl rfl hdwsV_X5_has ⟨Nat.le_of_ble_eq_true rfl, Nat.le_of_ble_eq_true rfl⟩) hK hP hD hS hA [1, 2, 3] (by decide) rfl rfl (ci := 5) rfl rfl rfl (fun _ => WX7 cI cZ cR q0 d0) (()) rfl rfl hl.1 rfl (Nat.le_of_ble_eq_true rfl) dX7_parent_5 ⟨Nat.zero_le _, Nat.zero_le _⟩ (fun _ _ H locs hP hD hS => ?_)
  refine lv_if_eq (tgt := 23) hx hb dX7_parent_8 (by decide) (fun c_2 => ?_) (fun c_2 => ?_)
  · have hf := tm_iT c_2 hf
    refine lv_aload_n hx hb dX7_parent_23 rfl (lv_at hl 0 rfl) ?_
    obtain ⟨t_3, ot_3, hf⟩ := tm_bS hf
    refine tm_cVI (As := []) (rest := []) ⟨hx, hb, hml, hown, hts⟩ (tX7_failInvalid l D cI cZ cR N q0 d0 t_3.1 t_3.2 ot_3) (cwV 0 hts gX7_parent_X7_failInvalid rfl rfl rfl hdwsV_X7_failInvalid ⟨Nat.le_of_ble_eq_true rfl, Nat.le_of_ble_eq_true rfl⟩) hK hP hD hS hA [0, 1, 2, 3, 4, 5, 6, 7, 8, 9, 10, 11, 12, 13, 14, 15, 16, 17, 18, 19, 20, 21, 22, 23, 24, 25, 26, 27, 28, 29, 30, 31, 32, 33, 34, 35, 36, 37, 38, 39, 40, 41, 42, 43, 44, 45, 46, 47, 48, 49, 50, 51, 52, 53, 54, 55, 56, 57, 58, 59, 60, 61, 62, 63, 64, 65, 66, 67, 68, 69, 70, 71, 72] (by decide) rfl rfl (ci := 7) rfl rfl rfl (fun _ => WX7 cI cZ cR q0 t_3.2) (()) rfl rfl hl.1 rfl (Nat.le_of_ble_eq_true rfl) dX7_parent_24 ⟨Nat.zero_le _, Nat.zero_le _⟩ (fun _ _ H locs hP hD hS => ?_)
    simp only [Option.some.injEq, Prod.mk.injEq] at hf
    obtain ⟨rfl, rfl⟩ := hf
    exact hend _ _ _ _ hP hD hS rfl dX7_parent_27
  · have hf := tm_iF c_2 hf
    refine lv_aload_n hx hb dX7_parent_11 rfl (lv_at hl 0 rfl) ?_
    refine va_get (D := D) (ci := 7) (v := .ref (q0 1)) (C := RX7) (T := TX7) (N := 8) hx hb hts uX7_parent_X7 hown hK hP 0 rfl rfl 0 (by decide) (hts _ kX7_parent_f10) (fun _ h9 => h9) rfl dX7_parent_12 ?_
    refine va_get (D := D) (ci := 5) (v := .ref (q0 3)) (C := RX5) (T := TX5) (N := 7) hx hb hts uX7_parent_X5 hown hK hP 1 rfl rfl 1 (by decide) (hts _ kX7_parent_f83) (fun _ h9 => h9) rfl dX7_parent_15 ?_
    refine lv_iload_n hx hb dX7_parent_18 rfl (lv_at hl 1 rfl) ?_
    obtain ⟨h_4, hf⟩ := tm_gS hf
    refine va_iald hx hb hK hP 3 0 rfl rfl (tm_inb_in h_4) dX7_parent_19 ?_
    refine lv_goto (tgt := 27) hx hb dX7_parent_20 (by decide) ?_
    simp only [Option.some.injEq, Prod.mk.injEq] at hf
    obtain ⟨rfl, rfl⟩ := hf
    exact hend _ _ _ _ hP hD hS rfl dX7_parent_27
set_option maxHeartbeats 4000000 in
set_option maxRecDepth 100000 in
theorem tX7_depth (l : Launch) (D : va_G) (cI cZ cR : ClassId) (N : Nat) (q0 : Nat → Nat) (d0 : tm_M) (p1 : Int32) (r0 : Int32) (z0 : tm_M) (hf : fX7_depth N d0 p1 = some (r0, z0)) : tm_CI l D (tm_ty cI cZ cR) yX7_depth wsX7_depth rmX7_depth [.ref (q0 0), .int p1] (WX7 cI cZ cR q0 d0) r0 (WX7 cI cZ cR q0 z0) := by
  refine tm_mkI (cc := cX7_depth) (maxL := 2) (ty := .int) (by decide) rfl (Nat.le_of_ble_eq_true rfl) ?_
  intro p e s m below meth c A ls Q C hP hD hS hl hend
  have C : tm_Cx p s m c [.ref (q0 0), .int p1].toArray cX7_depth 2 RX7 wsX7_depth D (tm_ty cI cZ cR) A s.heap := C
  obtain ⟨hx, hb, hml, hown, hts, hK, hA⟩ := id C
  have hl : lv_has ls 2 [(0, .ref (q0 0)), (1, .int p1)] := hl
  unfold fX7_depth at hf
  refine lv_aload_n hx hb dX7_depth_0 rfl (lv_at hl 0 rfl) ?_
  refine va_get (D := D) (ci := 7) (v := .ref (q0 1)) (C := RX7) (T := TX7) (N := 8) hx hb hts uX7_depth_X7 hown hK hP 0 rfl rfl 0 (by decide) (hts _ kX7_depth_f10) (fun _ h9 => h9) rfl dX7_depth_1 ?_
  refine lv_iload_n hx hb dX7_depth_4 rfl (lv_at hl 1 rfl) ?_
  obtain ⟨t_1, ot_1, hf⟩ := tm_bS hf
  refine tm_cVI (As := [.int p1]) (rest := []) ⟨hx, hb, hml, hown, hts⟩ (tX5_has l D cI cZ cR N (tm_sq q0 1) (tm_sh d0 1) p1 t_1 ot_1) (cwV 1 hts gX7_depth_X5_has rfl rfl rfl hdwsV_X5_has ⟨Nat.le_of_ble_eq_true rfl, Nat.le_of_ble_eq_true rfl⟩) hK hP hD hS hA [1, 2, 3] (by decide) rfl rfl (ci := 5) rfl rfl rfl (fun _ => WX7 cI cZ cR q0 d0) (()) rfl rfl hl.1 rfl (Nat.le_of_ble_eq_true rfl) dX7_depth_5 ⟨Nat.zero_le _, Nat.zero_le _⟩ (fun _ _ H locs hP hD hS => ?_)
  refine lv_if_eq (tgt := 23) hx hb dX7_depth_8 (by decide) (fun c_2 => ?_) (fun c_2 => ?_)
  · have hf := tm_iT c_2 hf
    refine lv_aload_n hx hb dX7_depth_23 rfl (lv_at hl 0 rfl) ?_
    obtain ⟨t_3, ot_3, hf⟩ := tm_bS hf
    refine tm_cVI (As := []) (rest := []) ⟨hx, hb, hml, hown, hts⟩ (tX7_failInvalid l D cI cZ cR N q0 d0 t_3.1 t_3.2 ot_3) (cwV 0 hts gX7_depth_X7_failInvalid rfl rfl rfl hdwsV_X7_failInvalid ⟨Nat.le_of_ble_eq_true rfl, Nat.le_of_ble_eq_true rfl⟩) hK hP hD hS hA [0, 1, 2, 3, 4, 5, 6, 7, 8, 9, 10, 11, 12, 13, 14, 15, 16, 17, 18, 19, 20, 21, 22, 23, 24, 25, 26, 27, 28, 29, 30, 31, 32, 33, 34, 35, 36, 37, 38, 39, 40, 41, 42, 43, 44, 45, 46, 47, 48, 49, 50, 51, 52, 53, 54, 55, 56, 57, 58, 59, 60, 61, 62, 63, 64, 65, 66, 67, 68, 69, 70, 71, 72] (by decide) rfl rfl (ci := 7) rfl rfl rfl (fun _ => WX7 cI cZ cR q0 t_3.2) (()) rfl rfl hl.1 rfl (Nat.le_of_ble_eq_true rfl) dX7_depth_24 ⟨Nat.zero_le _, Nat.zero_le _⟩ (fun _ _ H locs hP hD hS => ?_)
    simp only [Option.some.injEq, Prod.mk.injEq] at hf
    obtain ⟨rfl, rfl⟩ := hf
    exact hend _ _ _ _ hP hD hS rfl dX7_depth_27
  · have hf := tm_iF c_2 hf
    refine lv_aload_n hx hb dX7_depth_11 rfl (lv_at hl 0 rfl) ?_
    refine va_get (D := D) (ci := 7) (v := .ref (q0 4)) (C := RX7) (T := TX7) (N := 8) hx hb hts uX7_depth_X7 hown hK hP 0 rfl rfl 1 (by decide) (hts _ kX7_depth_f19) (fun _ h9 => h9) rfl dX7_depth_12 ?_
    refine va_get (D := D) (ci := 1) (v := .ref (q0 6)) (C := RX1) (T := TX1) (N := 8) hx hb hts uX7_depth_X1 hown hK hP 4 rfl rfl 1 (by decide) (hts _ kX7_depth_f104) (fun _ h9 => h9) rfl dX7_depth_15 ?_
    refine lv_iload_n hx hb dX7_depth_18 rfl (lv_at hl 1 rfl) ?_
    obtain ⟨h_4, hf⟩ := tm_gS hf
    refine va_iald hx hb hK hP 6 0 rfl rfl (tm_inb_in h_4) dX7_depth_19 ?_
    refine lv_goto (tgt := 27) hx hb dX7_depth_20 (by decide) ?_
    simp only [Option.some.injEq, Prod.mk.injEq] at hf
    obtain ⟨rfl, rfl⟩ := hf
    exact hend _ _ _ _ hP hD hS rfl dX7_depth_27
set_option maxHeartbeats 4000000 in
set_option maxRecDepth 100000 in
theorem wX7_leafCount_4 (l : Launch) (D : va_G) (cI cZ cR : ClassId) (N : Nat) (q0 : Nat → Nat) {p : Program} {e : Env} {s : State} {m : MethodId} {args : Array Value} {below : List Frame} {meth : Method} {c : Code} {A : Nat → Prop} {H0 : Heap} {Q : State → Prop} (C : tm_Cx p s m c args cX7_leafCount 3 RX7 wsX7_leafCount D (tm_ty cI cZ cR) A H0) (d0 : tm_M) : ∀ (n : Nat) (st : Int32 × Int32) (o : (Int32 × Int32)), tm_whl (bX7_leafCount_4 N d0) n st = some o → (fun (o : Int32 × Int32) => ∀ (H : Heap) (locs : List Loc) (ls : Array Slot), va_P D vwCl (WX7 cI cZ cR q0 d0) H → va_D A (WX7 cI cZ cR q0 d0) → va_S A H0 H locs → lv_has ls 3 [(1, .int o.1)] → W p l e rmX7_leafCount s m args below meth c H locs 0 0 Q (F0 m 35 ls [])) o → (fun (st : Int32 × Int32) => ∀ (H : Heap) (locs : List Loc) (ls : Array Slot), va_P D vwCl (WX7 cI cZ cR q0 d0) H → va_D A (WX7 cI cZ cR q0 d0) → va_S A H0 H locs → lv_has ls 3 [(0, .ref (q0 0)), (1, .int st.1), (2, .int st.2)] → W p l e rmX7_leafCount s m args below meth c H locs 0 0 Q (F0 m 4 ls [])) st := by
  obtain ⟨hx, hb, hml, hown, hts, hK, hA⟩ := id C
  refine tm_whl_W (Wh := fun (st : Int32 × Int32) => ∀ (H : Heap) (locs : List Loc) (ls : Array Slot), va_P D vwCl (WX7 cI cZ cR q0 d0) H → va_D A (WX7 cI cZ cR q0 d0) → va_S A H0 H locs → lv_has ls 3 [(0, .ref (q0 0)), (1, .int st.1), (2, .int st.2)] → W p l e rmX7_leafCount s m args below meth c H locs 0 0 Q (F0 m 4 ls [])) (Wx := fun (o : Int32 × Int32) => ∀ (H : Heap) (locs : List Loc) (ls : Array Slot), va_P D vwCl (WX7 cI cZ cR q0 d0) H → va_D A (WX7 cI cZ cR q0 d0) → va_S A H0 H locs → lv_has ls 3 [(1, .int o.1)] → W p l e rmX7_leafCount s m args below meth c H locs 0 0 Q (F0 m 35 ls [])) ?_
  intro st r hf hk H locs ls hP hD hS hl
  unfold bX7_leafCount_4 at hf
  refine lv_iload_n hx hb dX7_leafCount_4 rfl (lv_at hl 2 rfl) ?_
  refine lv_aload_n hx hb dX7_leafCount_5 rfl (lv_at hl 0 rfl) ?_
  refine va_get (D := D) (ci := 7) (v := .ref (q0 1)) (C := RX7) (T := TX7) (N := 8) hx hb hts uX7_leafCount_X7 hown hK hP 0 rfl rfl 0 (by decide) (hts _ kX7_leafCount_f10) (fun _ h9 => h9) rfl dX7_leafCount_6 ?_
  refine va_get (D := D) (ci := 5) (v := .int (d0 1 2)) (C := RX5) (T := TX5) (N := 7) hx hb hts uX7_leafCount_X5 hown hK hP 1 rfl rfl 2 (by decide) (hts _ kX7_leafCount_f51) (fun _ h9 => h9) rfl dX7_leafCount_9 ?_
  refine lv_icmp_ge (tgt := 35) hx hb dX7_leafCount_12 (by decide) (fun c_1 => ?_) (fun c_1 => ?_)
  · have hf := tm_iT c_1 hf
    obtain rfl := Option.some.inj hf
    exact hk _ _ _ hP hD hS (lv_sub hl [1] rfl)
  · have hf := tm_iF c_1 hf
    refine lv_aload_n hx hb dX7_leafCount_15 rfl (lv_at hl 0 rfl) ?_
    refine va_get (D := D) (ci := 7) (v := .ref (q0 4)) (C := RX7) (T := TX7) (N := 8) hx hb hts uX7_leafCount_X7 hown hK hP 0 rfl rfl 1 (by decide) (hts _ kX7_leafCount_f19) (fun _ h9 => h9) rfl dX7_leafCount_16 ?_
    refine lv_iload_n hx hb dX7_leafCount_19 rfl (lv_at hl 2 rfl) ?_
    obtain ⟨t_2, ot_2, hf⟩ := tm_bS hf
    refine tm_cVI (As := [.int st.2]) (rest := []) ⟨hx, hb, hml, hown, hts⟩ (tX1_isLeaf l D cI cZ cR N (tm_sq q0 4) (tm_sh d0 4) st.2 t_2 ot_2) (cwV 1 hts gX7_leafCount_X1_isLeaf rfl rfl rfl hdwsV_X1_isLeaf ⟨Nat.le_of_ble_eq_true rfl, Nat.le_of_ble_eq_true rfl⟩) hK hP hD hS hA [4, 5, 6, 7, 8, 9, 10, 11, 12, 13, 14, 15, 16, 17, 18, 19, 20, 21, 22, 23, 24, 25, 26, 27, 28, 29] (by decide) rfl rfl (ci := 1) rfl rfl rfl (fun _ => WX7 cI cZ cR q0 d0) (()) rfl rfl hl.1 rfl (Nat.le_of_ble_eq_true rfl) dX7_leafCount_20 ⟨Nat.zero_le _, Nat.zero_le _⟩ (fun _ _ H locs hP hD hS => ?_)
    refine lv_if_eq (tgt := 29) hx hb dX7_leafCount_23 (by decide) (fun c_3 => ?_) (fun c_3 => ?_)
    · have hf := tm_iT c_3 hf
      obtain ⟨x_4, ex_4⟩ : ∃ y : Int32, y = st.2 + 1 := ⟨_, rfl⟩
      have hf := tm_at ex_4 hf
      refine lv_iinc (v := x_4) (lv' := [(2, .int x_4), (0, .ref (q0 0)), (1, .int st.1)]) hx hb dX7_leafCount_29 hl (k := 2) rfl (by rw [ex_4]; rfl) (by decide) rfl (fun ls hl => ?_)
      refine lv_goto (tgt := 4) hx hb dX7_leafCount_32 (by decide) ?_
      obtain rfl := Option.some.inj hf
      exact hk _ _ _ hP hD hS (lv_sub hl [1, 2, 0] rfl)
    · have hf := tm_iF c_3 hf
      obtain ⟨x_5, ex_5⟩ : ∃ y : Int32, y = st.1 + 1 := ⟨_, rfl⟩
      have hf := tm_at ex_5 hf
      refine lv_iinc (v := x_5) (lv' := [(1, .int x_5), (0, .ref (q0 0)), (2, .int st.2)]) hx hb dX7_leafCount_26 hl (k := 1) rfl (by rw [ex_5]; rfl) (by decide) rfl (fun ls hl => ?_)
      obtain ⟨x_6, ex_6⟩ : ∃ y : Int32, y = st.2 + 1 := ⟨_, rfl⟩
      have hf := tm_at ex_6 hf
      refine lv_iinc (v := x_6) (lv' := [(2, .int x_6), (1, .int x_5), (0, .ref (q0 0))]) hx hb dX7_leafCount_29 hl (k := 2) rfl (by rw [ex_6]; rfl) (by decide) rfl (fun ls hl => ?_)
      refine lv_goto (tgt := 4) hx hb dX7_leafCount_32 (by decide) ?_
      obtain rfl := Option.some.inj hf
      exact hk _ _ _ hP hD hS (lv_sub hl [2, 1, 0] rfl)
set_option maxHeartbeats 4000000 in
set_option maxRecDepth 100000 in
theorem tX7_leafCount (l : Launch) (D : va_G) (cI cZ cR : ClassId) (N : Nat) (q0 : Nat → Nat) (d0 : tm_M) (r0 : Int32) (hf : fX7_leafCount N d0 = some r0) : tm_CI l D (tm_ty cI cZ cR) yX7_leafCount wsX7_leafCount rmX7_leafCount [.ref (q0 0)] (WX7 cI cZ cR q0 d0) r0 (WX7 cI cZ cR q0 d0) := by
  refine tm_mkI (cc := cX7_leafCount) (maxL := 3) (ty := .int) (by decide) rfl (Nat.le_of_ble_eq_true rfl) ?_
  intro p e s m below meth c A ls Q C hP hD hS hl hend
  have C : tm_Cx p s m c [.ref (q0 0)].toArray cX7_leafCount 3 RX7 wsX7_leafCount D (tm_ty cI cZ cR) A s.heap := C
  obtain ⟨hx, hb, hml, hown, hts, hK, hA⟩ := id C
  have hl : lv_has ls 3 [(0, .ref (q0 0))] := hl
  unfold fX7_leafCount at hf
  refine lv_iconst (v := 0) hx hb dX7_leafCount_0 (by decide) ?_
  refine lv_istore_n (lv' := [(1, .int 0), (0, .ref (q0 0))]) hx hb dX7_leafCount_1 rfl hl (by decide) rfl (fun ls hl => ?_)
  refine lv_iconst (v := 0) hx hb dX7_leafCount_2 (by decide) ?_
  refine lv_istore_n (lv' := [(2, .int 0), (1, .int 0), (0, .ref (q0 0))]) hx hb dX7_leafCount_3 rfl hl (by decide) rfl (fun ls hl => ?_)
  obtain ⟨t_7, ot_7, hf⟩ := tm_bS hf
  refine wX7_leafCount_4 l D cI cZ cR N q0 C d0 _ _ _ ot_7 ?_ _ _ _ hP hD hS (lv_sub hl [2, 1, 0] rfl)
  intro H locs ls hP hD hS hl
  refine lv_iload_n hx hb dX7_leafCount_35 rfl (lv_at hl 0 rfl) ?_
  obtain rfl := Option.some.inj hf
  exact hend _ _ _ _ hP hD hS rfl dX7_leafCount_36
set_option maxHeartbeats 4000000 in
set_option maxRecDepth 100000 in
theorem tX7_x (l : Launch) (D : va_G) (cI cZ cR : ClassId) (N : Nat) (q0 : Nat → Nat) (d0 : tm_M) (p1 : Int32) (r0 : Int32) (z0 : tm_M) (hf : fX7_x N d0 p1 = some (r0, z0)) : tm_CI l D (tm_ty cI cZ cR) yX7_x wsX7_x rmX7_x [.ref (q0 0), .int p1] (WX7 cI cZ cR q0 d0) r0 (WX7 cI cZ cR q0 z0) := by
  refine tm_mkI (cc := cX7_x) (maxL := 2) (ty := .int) (by decide) rfl (Nat.le_of_ble_eq_true rfl) ?_
  intro p e s m below meth c A ls Q C hP hD hS hl hend
  have C : tm_Cx p s m c [.ref (q0 0), .int p1].toArray cX7_x 2 RX7 wsX7_x D (tm_ty cI cZ cR) A s.heap := C
  obtain ⟨hx, hb, hml, hown, hts, hK, hA⟩ := id C
  have hl : lv_has ls 2 [(0, .ref (q0 0)), (1, .int p1)] := hl
  unfold fX7_x at hf
  refine lv_aload_n hx hb dX7_x_0 rfl (lv_at hl 0 rfl) ?_
  refine va_get (D := D) (ci := 7) (v := .ref (q0 1)) (C := RX7) (T := TX7) (N := 8) hx hb hts uX7_x_X7 hown hK hP 0 rfl rfl 0 (by decide) (hts _ kX7_x_f10) (fun _ h9 => h9) rfl dX7_x_1 ?_
  refine lv_iload_n hx hb dX7_x_4 rfl (lv_at hl 1 rfl) ?_
  obtain ⟨t_1, ot_1, hf⟩ := tm_bS hf
  refine tm_cVI (As := [.int p1]) (rest := []) ⟨hx, hb, hml, hown, hts⟩ (tX5_has l D cI cZ cR N (tm_sq q0 1) (tm_sh d0 1) p1 t_1 ot_1) (cwV 1 hts gX7_x_X5_has rfl rfl rfl hdwsV_X5_has ⟨Nat.le_of_ble_eq_true rfl, Nat.le_of_ble_eq_true rfl⟩) hK hP hD hS hA [1, 2, 3] (by decide) rfl rfl (ci := 5) rfl rfl rfl (fun _ => WX7 cI cZ cR q0 d0) (()) rfl rfl hl.1 rfl (Nat.le_of_ble_eq_true rfl) dX7_x_5 ⟨Nat.zero_le _, Nat.zero_le _⟩ (fun _ _ H locs hP hD hS => ?_)
  refine lv_if_eq (tgt := 26) hx hb dX7_x_8 (by decide) (fun c_2 => ?_) (fun c_2 => ?_)
  · have hf := tm_iT c_2 hf
    refine lv_aload_n hx hb dX7_x_26 rfl (lv_at hl 0 rfl) ?_
    obtain ⟨t_3, ot_3, hf⟩ := tm_bS hf
    refine tm_cVI (As := []) (rest := []) ⟨hx, hb, hml, hown, hts⟩ (tX7_failInvalid l D cI cZ cR N q0 d0 t_3.1 t_3.2 ot_3) (cwV 0 hts gX7_x_X7_failInvalid rfl rfl rfl hdwsV_X7_failInvalid ⟨Nat.le_of_ble_eq_true rfl, Nat.le_of_ble_eq_true rfl⟩) hK hP hD hS hA [0, 1, 2, 3, 4, 5, 6, 7, 8, 9, 10, 11, 12, 13, 14, 15, 16, 17, 18, 19, 20, 21, 22, 23, 24, 25, 26, 27, 28, 29, 30, 31, 32, 33, 34, 35, 36, 37, 38, 39, 40, 41, 42, 43, 44, 45, 46, 47, 48, 49, 50, 51, 52, 53, 54, 55, 56, 57, 58, 59, 60, 61, 62, 63, 64, 65, 66, 67, 68, 69, 70, 71, 72] (by decide) rfl rfl (ci := 7) rfl rfl rfl (fun _ => WX7 cI cZ cR q0 t_3.2) (()) rfl rfl hl.1 rfl (Nat.le_of_ble_eq_true rfl) dX7_x_27 ⟨Nat.zero_le _, Nat.zero_le _⟩ (fun _ _ H locs hP hD hS => ?_)
    simp only [Option.some.injEq, Prod.mk.injEq] at hf
    obtain ⟨rfl, rfl⟩ := hf
    exact hend _ _ _ _ hP hD hS rfl dX7_x_30
  · have hf := tm_iF c_2 hf
    refine lv_aload_n hx hb dX7_x_11 rfl (lv_at hl 0 rfl) ?_
    refine va_get (D := D) (ci := 7) (v := .ref (q0 4)) (C := RX7) (T := TX7) (N := 8) hx hb hts uX7_x_X7 hown hK hP 0 rfl rfl 1 (by decide) (hts _ kX7_x_f19) (fun _ h9 => h9) rfl dX7_x_12 ?_
    refine va_get (D := D) (ci := 1) (v := .ref (q0 8)) (C := RX1) (T := TX1) (N := 8) hx hb hts uX7_x_X1 hown hK hP 4 rfl rfl 3 (by decide) (hts _ kX7_x_f107) (fun _ h9 => h9) rfl dX7_x_15 ?_
    refine va_get (D := D) (ci := 3) (v := .ref (q0 9)) (C := RX3) (T := TX3) (N := 4) hx hb hts uX7_x_X3 hown hK hP 8 rfl rfl 0 (by decide) (hts _ kX7_x_f111) (fun _ h9 => h9) rfl dX7_x_18 ?_
    refine lv_iload_n hx hb dX7_x_21 rfl (lv_at hl 1 rfl) ?_
    obtain ⟨h_4, hf⟩ := tm_gS hf
    refine va_iald hx hb hK hP 9 0 rfl rfl (tm_inb_in h_4) dX7_x_22 ?_
    refine lv_goto (tgt := 30) hx hb dX7_x_23 (by decide) ?_
    simp only [Option.some.injEq, Prod.mk.injEq] at hf
    obtain ⟨rfl, rfl⟩ := hf
    exact hend _ _ _ _ hP hD hS rfl dX7_x_30
set_option maxHeartbeats 4000000 in
set_option maxRecDepth 100000 in
theorem tX7_y (l : Launch) (D : va_G) (cI cZ cR : ClassId) (N : Nat) (q0 : Nat → Nat) (d0 : tm_M) (p1 : Int32) (r0 : Int32) (z0 : tm_M) (hf : fX7_y N d0 p1 = some (r0, z0)) : tm_CI l D (tm_ty cI cZ cR) yX7_y wsX7_y rmX7_y [.ref (q0 0), .int p1] (WX7 cI cZ cR q0 d0) r0 (WX7 cI cZ cR q0 z0) := by
  refine tm_mkI (cc := cX7_y) (maxL := 2) (ty := .int) (by decide) rfl (Nat.le_of_ble_eq_true rfl) ?_
  intro p e s m below meth c A ls Q C hP hD hS hl hend
  have C : tm_Cx p s m c [.ref (q0 0), .int p1].toArray cX7_y 2 RX7 wsX7_y D (tm_ty cI cZ cR) A s.heap := C
  obtain ⟨hx, hb, hml, hown, hts, hK, hA⟩ := id C
  have hl : lv_has ls 2 [(0, .ref (q0 0)), (1, .int p1)] := hl
  unfold fX7_y at hf
  refine lv_aload_n hx hb dX7_y_0 rfl (lv_at hl 0 rfl) ?_
  refine va_get (D := D) (ci := 7) (v := .ref (q0 1)) (C := RX7) (T := TX7) (N := 8) hx hb hts uX7_y_X7 hown hK hP 0 rfl rfl 0 (by decide) (hts _ kX7_y_f10) (fun _ h9 => h9) rfl dX7_y_1 ?_
  refine lv_iload_n hx hb dX7_y_4 rfl (lv_at hl 1 rfl) ?_
  obtain ⟨t_1, ot_1, hf⟩ := tm_bS hf
  refine tm_cVI (As := [.int p1]) (rest := []) ⟨hx, hb, hml, hown, hts⟩ (tX5_has l D cI cZ cR N (tm_sq q0 1) (tm_sh d0 1) p1 t_1 ot_1) (cwV 1 hts gX7_y_X5_has rfl rfl rfl hdwsV_X5_has ⟨Nat.le_of_ble_eq_true rfl, Nat.le_of_ble_eq_true rfl⟩) hK hP hD hS hA [1, 2, 3] (by decide) rfl rfl (ci := 5) rfl rfl rfl (fun _ => WX7 cI cZ cR q0 d0) (()) rfl rfl hl.1 rfl (Nat.le_of_ble_eq_true rfl) dX7_y_5 ⟨Nat.zero_le _, Nat.zero_le _⟩ (fun _ _ H locs hP hD hS => ?_)
  refine lv_if_eq (tgt := 26) hx hb dX7_y_8 (by decide) (fun c_2 => ?_) (fun c_2 => ?_)
  · have hf := tm_iT c_2 hf
    refine lv_aload_n hx hb dX7_y_26 rfl (lv_at hl 0 rfl) ?_
    obtain ⟨t_3, ot_3, hf⟩ := tm_bS hf
    refine tm_cVI (As := []) (rest := []) ⟨hx, hb, hml, hown, hts⟩ (tX7_failInvalid l D cI cZ cR N q0 d0 t_3.1 t_3.2 ot_3) (cwV 0 hts gX7_y_X7_failInvalid rfl rfl rfl hdwsV_X7_failInvalid ⟨Nat.le_of_ble_eq_true rfl, Nat.le_of_ble_eq_true rfl⟩) hK hP hD hS hA [0, 1, 2, 3, 4, 5, 6, 7, 8, 9, 10, 11, 12, 13, 14, 15, 16, 17, 18, 19, 20, 21, 22, 23, 24, 25, 26, 27, 28, 29, 30, 31, 32, 33, 34, 35, 36, 37, 38, 39, 40, 41, 42, 43, 44, 45, 46, 47, 48, 49, 50, 51, 52, 53, 54, 55, 56, 57, 58, 59, 60, 61, 62, 63, 64, 65, 66, 67, 68, 69, 70, 71, 72] (by decide) rfl rfl (ci := 7) rfl rfl rfl (fun _ => WX7 cI cZ cR q0 t_3.2) (()) rfl rfl hl.1 rfl (Nat.le_of_ble_eq_true rfl) dX7_y_27 ⟨Nat.zero_le _, Nat.zero_le _⟩ (fun _ _ H locs hP hD hS => ?_)
    simp only [Option.some.injEq, Prod.mk.injEq] at hf
    obtain ⟨rfl, rfl⟩ := hf
    exact hend _ _ _ _ hP hD hS rfl dX7_y_30
  · have hf := tm_iF c_2 hf
    refine lv_aload_n hx hb dX7_y_11 rfl (lv_at hl 0 rfl) ?_
    refine va_get (D := D) (ci := 7) (v := .ref (q0 4)) (C := RX7) (T := TX7) (N := 8) hx hb hts uX7_y_X7 hown hK hP 0 rfl rfl 1 (by decide) (hts _ kX7_y_f19) (fun _ h9 => h9) rfl dX7_y_12 ?_
    refine va_get (D := D) (ci := 1) (v := .ref (q0 8)) (C := RX1) (T := TX1) (N := 8) hx hb hts uX7_y_X1 hown hK hP 4 rfl rfl 3 (by decide) (hts _ kX7_y_f107) (fun _ h9 => h9) rfl dX7_y_15 ?_
    refine va_get (D := D) (ci := 3) (v := .ref (q0 10)) (C := RX3) (T := TX3) (N := 4) hx hb hts uX7_y_X3 hown hK hP 8 rfl rfl 1 (by decide) (hts _ kX7_y_f116) (fun _ h9 => h9) rfl dX7_y_18 ?_
    refine lv_iload_n hx hb dX7_y_21 rfl (lv_at hl 1 rfl) ?_
    obtain ⟨h_4, hf⟩ := tm_gS hf
    refine va_iald hx hb hK hP 10 0 rfl rfl (tm_inb_in h_4) dX7_y_22 ?_
    refine lv_goto (tgt := 30) hx hb dX7_y_23 (by decide) ?_
    simp only [Option.some.injEq, Prod.mk.injEq] at hf
    obtain ⟨rfl, rfl⟩ := hf
    exact hend _ _ _ _ hP hD hS rfl dX7_y_30
set_option maxHeartbeats 4000000 in
set_option maxRecDepth 100000 in
theorem tX7_width (l : Launch) (D : va_G) (cI cZ cR : ClassId) (N : Nat) (q0 : Nat → Nat) (d0 : tm_M) (p1 : Int32) (r0 : Int32) (z0 : tm_M) (hf : fX7_width N d0 p1 = some (r0, z0)) : tm_CI l D (tm_ty cI cZ cR) yX7_width wsX7_width rmX7_width [.ref (q0 0), .int p1] (WX7 cI cZ cR q0 d0) r0 (WX7 cI cZ cR q0 z0) := by
  refine tm_mkI (cc := cX7_width) (maxL := 2) (ty := .int) (by decide) rfl (Nat.le_of_ble_eq_true rfl) ?_
  intro p e s m below meth c A ls Q C hP hD hS hl hend
  have C : tm_Cx p s m c [.ref (q0 0), .int p1].toArray cX7_width 2 RX7 wsX7_width D (tm_ty cI cZ cR) A s.heap := C
  obtain ⟨hx, hb, hml, hown, hts, hK, hA⟩ := id C
  have hl : lv_has ls 2 [(0, .ref (q0 0)), (1, .int p1)] := hl
  unfold fX7_width at hf
  refine lv_aload_n hx hb dX7_width_0 rfl (lv_at hl 0 rfl) ?_
  refine va_get (D := D) (ci := 7) (v := .ref (q0 1)) (C := RX7) (T := TX7) (N := 8) hx hb hts uX7_width_X7 hown hK hP 0 rfl rfl 0 (by decide) (hts _ kX7_width_f10) (fun _ h9 => h9) rfl dX7_width_1 ?_
  refine lv_iload_n hx hb dX7_width_4 rfl (lv_at hl 1 rfl) ?_
  obtain ⟨t_1, ot_1, hf⟩ := tm_bS hf
  refine tm_cVI (As := [.int p1]) (rest := []) ⟨hx, hb, hml, hown, hts⟩ (tX5_has l D cI cZ cR N (tm_sq q0 1) (tm_sh d0 1) p1 t_1 ot_1) (cwV 1 hts gX7_width_X5_has rfl rfl rfl hdwsV_X5_has ⟨Nat.le_of_ble_eq_true rfl, Nat.le_of_ble_eq_true rfl⟩) hK hP hD hS hA [1, 2, 3] (by decide) rfl rfl (ci := 5) rfl rfl rfl (fun _ => WX7 cI cZ cR q0 d0) (()) rfl rfl hl.1 rfl (Nat.le_of_ble_eq_true rfl) dX7_width_5 ⟨Nat.zero_le _, Nat.zero_le _⟩ (fun _ _ H locs hP hD hS => ?_)
  refine lv_if_eq (tgt := 26) hx hb dX7_width_8 (by decide) (fun c_2 => ?_) (fun c_2 => ?_)
  · have hf := tm_iT c_2 hf
    refine lv_aload_n hx hb dX7_width_26 rfl (lv_at hl 0 rfl) ?_
    obtain ⟨t_3, ot_3, hf⟩ := tm_bS hf
    refine tm_cVI (As := []) (rest := []) ⟨hx, hb, hml, hown, hts⟩ (tX7_failInvalid l D cI cZ cR N q0 d0 t_3.1 t_3.2 ot_3) (cwV 0 hts gX7_width_X7_failInvalid rfl rfl rfl hdwsV_X7_failInvalid ⟨Nat.le_of_ble_eq_true rfl, Nat.le_of_ble_eq_true rfl⟩) hK hP hD hS hA [0, 1, 2, 3, 4, 5, 6, 7, 8, 9, 10, 11, 12, 13, 14, 15, 16, 17, 18, 19, 20, 21, 22, 23, 24, 25, 26, 27, 28, 29, 30, 31, 32, 33, 34, 35, 36, 37, 38, 39, 40, 41, 42, 43, 44, 45, 46, 47, 48, 49, 50, 51, 52, 53, 54, 55, 56, 57, 58, 59, 60, 61, 62, 63, 64, 65, 66, 67, 68, 69, 70, 71, 72] (by decide) rfl rfl (ci := 7) rfl rfl rfl (fun _ => WX7 cI cZ cR q0 t_3.2) (()) rfl rfl hl.1 rfl (Nat.le_of_ble_eq_true rfl) dX7_width_27 ⟨Nat.zero_le _, Nat.zero_le _⟩ (fun _ _ H locs hP hD hS => ?_)
    simp only [Option.some.injEq, Prod.mk.injEq] at hf
    obtain ⟨rfl, rfl⟩ := hf
    exact hend _ _ _ _ hP hD hS rfl dX7_width_30
  · have hf := tm_iF c_2 hf
    refine lv_aload_n hx hb dX7_width_11 rfl (lv_at hl 0 rfl) ?_
    refine va_get (D := D) (ci := 7) (v := .ref (q0 4)) (C := RX7) (T := TX7) (N := 8) hx hb hts uX7_width_X7 hown hK hP 0 rfl rfl 1 (by decide) (hts _ kX7_width_f19) (fun _ h9 => h9) rfl dX7_width_12 ?_
    refine va_get (D := D) (ci := 1) (v := .ref (q0 8)) (C := RX1) (T := TX1) (N := 8) hx hb hts uX7_width_X1 hown hK hP 4 rfl rfl 3 (by decide) (hts _ kX7_width_f107) (fun _ h9 => h9) rfl dX7_width_15 ?_
    refine va_get (D := D) (ci := 3) (v := .ref (q0 11)) (C := RX3) (T := TX3) (N := 4) hx hb hts uX7_width_X3 hown hK hP 8 rfl rfl 2 (by decide) (hts _ kX7_width_f119) (fun _ h9 => h9) rfl dX7_width_18 ?_
    refine lv_iload_n hx hb dX7_width_21 rfl (lv_at hl 1 rfl) ?_
    obtain ⟨h_4, hf⟩ := tm_gS hf
    refine va_iald hx hb hK hP 11 0 rfl rfl (tm_inb_in h_4) dX7_width_22 ?_
    refine lv_goto (tgt := 30) hx hb dX7_width_23 (by decide) ?_
    simp only [Option.some.injEq, Prod.mk.injEq] at hf
    obtain ⟨rfl, rfl⟩ := hf
    exact hend _ _ _ _ hP hD hS rfl dX7_width_30
set_option maxHeartbeats 4000000 in
set_option maxRecDepth 100000 in
theorem tX7_height (l : Launch) (D : va_G) (cI cZ cR : ClassId) (N : Nat) (q0 : Nat → Nat) (d0 : tm_M) (p1 : Int32) (r0 : Int32) (z0 : tm_M) (hf : fX7_height N d0 p1 = some (r0, z0)) : tm_CI l D (tm_ty cI cZ cR) yX7_height wsX7_height rmX7_height [.ref (q0 0), .int p1] (WX7 cI cZ cR q0 d0) r0 (WX7 cI cZ cR q0 z0) := by
  refine tm_mkI (cc := cX7_height) (maxL := 2) (ty := .int) (by decide) rfl (Nat.le_of_ble_eq_true rfl) ?_
  intro p e s m below meth c A ls Q C hP hD hS hl hend
  have C : tm_Cx p s m c [.ref (q0 0), .int p1].toArray cX7_height 2 RX7 wsX7_height D (tm_ty cI cZ cR) A s.heap := C
  obtain ⟨hx, hb, hml, hown, hts, hK, hA⟩ := id C
  have hl : lv_has ls 2 [(0, .ref (q0 0)), (1, .int p1)] := hl
  unfold fX7_height at hf
  refine lv_aload_n hx hb dX7_height_0 rfl (lv_at hl 0 rfl) ?_
  refine va_get (D := D) (ci := 7) (v := .ref (q0 1)) (C := RX7) (T := TX7) (N := 8) hx hb hts uX7_height_X7 hown hK hP 0 rfl rfl 0 (by decide) (hts _ kX7_height_f10) (fun _ h9 => h9) rfl dX7_height_1 ?_
  refine lv_iload_n hx hb dX7_height_4 rfl (lv_at hl 1 rfl) ?_
  obtain ⟨t_1, ot_1, hf⟩ := tm_bS hf
  refine tm_cVI (As := [.int p1]) (rest := []) ⟨hx, hb, hml, hown, hts⟩ (tX5_has l D cI cZ cR N (tm_sq q0 1) (tm_sh d0 1) p1 t_1 ot_1) (cwV 1 hts gX7_height_X5_has rfl rfl rfl hdwsV_X5_has ⟨Nat.le_of_ble_eq_true rfl, Nat.le_of_ble_eq_true rfl⟩) hK hP hD hS hA [1, 2, 3] (by decide) rfl rfl (ci := 5) rfl rfl rfl (fun _ => WX7 cI cZ cR q0 d0) (()) rfl rfl hl.1 rfl (Nat.le_of_ble_eq_true rfl) dX7_height_5 ⟨Nat.zero_le _, Nat.zero_le _⟩ (fun _ _ H locs hP hD hS => ?_)
  refine lv_if_eq (tgt := 26) hx hb dX7_height_8 (by decide) (fun c_2 => ?_) (fun c_2 => ?_)
  · have hf := tm_iT c_2 hf
    refine lv_aload_n hx hb dX7_height_26 rfl (lv_at hl 0 rfl) ?_
    obtain ⟨t_3, ot_3, hf⟩ := tm_bS hf
    refine tm_cVI (As := []) (rest := []) ⟨hx, hb, hml, hown, hts⟩ (tX7_failInvalid l D cI cZ cR N q0 d0 t_3.1 t_3.2 ot_3) (cwV 0 hts gX7_height_X7_failInvalid rfl rfl rfl hdwsV_X7_failInvalid ⟨Nat.le_of_ble_eq_true rfl, Nat.le_of_ble_eq_true rfl⟩) hK hP hD hS hA [0, 1, 2, 3, 4, 5, 6, 7, 8, 9, 10, 11, 12, 13, 14, 15, 16, 17, 18, 19, 20, 21, 22, 23, 24, 25, 26, 27, 28, 29, 30, 31, 32, 33, 34, 35, 36, 37, 38, 39, 40, 41, 42, 43, 44, 45, 46, 47, 48, 49, 50, 51, 52, 53, 54, 55, 56, 57, 58, 59, 60, 61, 62, 63, 64, 65, 66, 67, 68, 69, 70, 71, 72] (by decide) rfl rfl (ci := 7) rfl rfl rfl (fun _ => WX7 cI cZ cR q0 t_3.2) (()) rfl rfl hl.1 rfl (Nat.le_of_ble_eq_true rfl) dX7_height_27 ⟨Nat.zero_le _, Nat.zero_le _⟩ (fun _ _ H locs hP hD hS => ?_)
    simp only [Option.some.injEq, Prod.mk.injEq] at hf
    obtain ⟨rfl, rfl⟩ := hf
    exact hend _ _ _ _ hP hD hS rfl dX7_height_30
  · have hf := tm_iF c_2 hf
    refine lv_aload_n hx hb dX7_height_11 rfl (lv_at hl 0 rfl) ?_
    refine va_get (D := D) (ci := 7) (v := .ref (q0 4)) (C := RX7) (T := TX7) (N := 8) hx hb hts uX7_height_X7 hown hK hP 0 rfl rfl 1 (by decide) (hts _ kX7_height_f19) (fun _ h9 => h9) rfl dX7_height_12 ?_
    refine va_get (D := D) (ci := 1) (v := .ref (q0 8)) (C := RX1) (T := TX1) (N := 8) hx hb hts uX7_height_X1 hown hK hP 4 rfl rfl 3 (by decide) (hts _ kX7_height_f107) (fun _ h9 => h9) rfl dX7_height_15 ?_
    refine va_get (D := D) (ci := 3) (v := .ref (q0 12)) (C := RX3) (T := TX3) (N := 4) hx hb hts uX7_height_X3 hown hK hP 8 rfl rfl 3 (by decide) (hts _ kX7_height_f122) (fun _ h9 => h9) rfl dX7_height_18 ?_
    refine lv_iload_n hx hb dX7_height_21 rfl (lv_at hl 1 rfl) ?_
    obtain ⟨h_4, hf⟩ := tm_gS hf
    refine va_iald hx hb hK hP 12 0 rfl rfl (tm_inb_in h_4) dX7_height_22 ?_
    refine lv_goto (tgt := 30) hx hb dX7_height_23 (by decide) ?_
    simp only [Option.some.injEq, Prod.mk.injEq] at hf
    obtain ⟨rfl, rfl⟩ := hf
    exact hend _ _ _ _ hP hD hS rfl dX7_height_30
set_option maxHeartbeats 4000000 in
set_option maxRecDepth 100000 in
theorem tX7_hiddenFlag (l : Launch) (D : va_G) (cI cZ cR : ClassId) (N : Nat) (q0 : Nat → Nat) (d0 : tm_M) (p1 : Int32) (r0 : Int32) (hf : fX7_hiddenFlag N d0 p1 = some r0) : tm_CI l D (tm_ty cI cZ cR) yX7_hiddenFlag wsX7_hiddenFlag rmX7_hiddenFlag [.ref (q0 0), .int p1] (WX7 cI cZ cR q0 d0) r0 (WX7 cI cZ cR q0 d0) := by
  refine tm_mkI (cc := cX7_hiddenFlag) (maxL := 2) (ty := .int) (by decide) rfl (Nat.le_of_ble_eq_true rfl) ?_
  intro p e s m below meth c A ls Q C hP hD hS hl hend
  have C : tm_Cx p s m c [.ref (q0 0), .int p1].toArray cX7_hiddenFlag 2 RX7 wsX7_hiddenFlag D (tm_ty cI cZ cR) A s.heap := C
  obtain ⟨hx, hb, hml, hown, hts, hK, hA⟩ := id C
  have hl : lv_has ls 2 [(0, .ref (q0 0)), (1, .int p1)] := hl
  unfold fX7_hiddenFlag at hf
  refine lv_aload_n hx hb dX7_hiddenFlag_0 rfl (lv_at hl 0 rfl) ?_
  refine va_get (D := D) (ci := 7) (v := .ref (q0 4)) (C := RX7) (T := TX7) (N := 8) hx hb hts uX7_hiddenFlag_X7 hown hK hP 0 rfl rfl 1 (by decide) (hts _ kX7_hiddenFlag_f19) (fun _ h9 => h9) rfl dX7_hiddenFlag_1 ?_
  refine va_get (D := D) (ci := 1) (v := .ref (q0 7)) (C := RX1) (T := TX1) (N := 8) hx hb hts uX7_hiddenFlag_X1 hown hK hP 4 rfl rfl 2 (by decide) (hts _ kX7_hiddenFlag_f187) (fun _ h9 => h9) rfl dX7_hiddenFlag_4 ?_
  refine lv_iload_n hx hb dX7_hiddenFlag_7 rfl (lv_at hl 1 rfl) ?_
  obtain ⟨h_1, hf⟩ := tm_gS hf
  refine va_zald hx hb hK hP 7 1 rfl rfl (tm_inb_in h_1) dX7_hiddenFlag_8 ?_
  refine lv_if_eq (tgt := 16) hx hb dX7_hiddenFlag_9 (by decide) (fun c_2 => ?_) (fun c_2 => ?_)
  · have hf := tm_iT c_2 hf
    refine lv_iconst (v := 0) hx hb dX7_hiddenFlag_16 (by decide) ?_
    obtain rfl := Option.some.inj hf
    exact hend _ _ _ _ hP hD hS rfl dX7_hiddenFlag_17
  · have hf := tm_iF c_2 hf
    refine lv_iconst (v := 1) hx hb dX7_hiddenFlag_12 (by decide) ?_
    refine lv_goto (tgt := 17) hx hb dX7_hiddenFlag_13 (by decide) ?_
    obtain rfl := Option.some.inj hf
    exact hend _ _ _ _ hP hD hS rfl dX7_hiddenFlag_17
set_option maxHeartbeats 4000000 in
set_option maxRecDepth 100000 in
theorem tX7_isHidden (l : Launch) (D : va_G) (cI cZ cR : ClassId) (N : Nat) (q0 : Nat → Nat) (d0 : tm_M) (p1 : Int32) (r0 : Int32) (z0 : tm_M) (hf : fX7_isHidden N d0 p1 = some (r0, z0)) : tm_CI l D (tm_ty cI cZ cR) yX7_isHidden wsX7_isHidden rmX7_isHidden [.ref (q0 0), .int p1] (WX7 cI cZ cR q0 d0) r0 (WX7 cI cZ cR q0 z0) := by
  refine tm_mkI (cc := cX7_isHidden) (maxL := 2) (ty := .int) (by decide) rfl (Nat.le_of_ble_eq_true rfl) ?_
  intro p e s m below meth c A ls Q C hP hD hS hl hend
  have C : tm_Cx p s m c [.ref (q0 0), .int p1].toArray cX7_isHidden 2 RX7 wsX7_isHidden D (tm_ty cI cZ cR) A s.heap := C
  obtain ⟨hx, hb, hml, hown, hts, hK, hA⟩ := id C
  have hl : lv_has ls 2 [(0, .ref (q0 0)), (1, .int p1)] := hl
  unfold fX7_isHidden at hf
  refine lv_aload_n hx hb dX7_isHidden_0 rfl (lv_at hl 0 rfl) ?_
  refine va_get (D := D) (ci := 7) (v := .ref (q0 1)) (C := RX7) (T := TX7) (N := 8) hx hb hts uX7_isHidden_X7 hown hK hP 0 rfl rfl 0 (by decide) (hts _ kX7_isHidden_f10) (fun _ h9 => h9) rfl dX7_isHidden_1 ?_
  refine lv_iload_n hx hb dX7_isHidden_4 rfl (lv_at hl 1 rfl) ?_
  obtain ⟨t_1, ot_1, hf⟩ := tm_bS hf
  refine tm_cVI (As := [.int p1]) (rest := []) ⟨hx, hb, hml, hown, hts⟩ (tX5_has l D cI cZ cR N (tm_sq q0 1) (tm_sh d0 1) p1 t_1 ot_1) (cwV 1 hts gX7_isHidden_X5_has rfl rfl rfl hdwsV_X5_has ⟨Nat.le_of_ble_eq_true rfl, Nat.le_of_ble_eq_true rfl⟩) hK hP hD hS hA [1, 2, 3] (by decide) rfl rfl (ci := 5) rfl rfl rfl (fun _ => WX7 cI cZ cR q0 d0) (()) rfl rfl hl.1 rfl (Nat.le_of_ble_eq_true rfl) dX7_isHidden_5 ⟨Nat.zero_le _, Nat.zero_le _⟩ (fun _ _ H locs hP hD hS => ?_)
  refine lv_if_eq (tgt := 19) hx hb dX7_isHidden_8 (by decide) (fun c_2 => ?_) (fun c_2 => ?_)
  · have hf := tm_iT c_2 hf
    refine lv_aload_n hx hb dX7_isHidden_19 rfl (lv_at hl 0 rfl) ?_
    obtain ⟨t_3, ot_3, hf⟩ := tm_bS hf
    refine tm_cVI (As := []) (rest := []) ⟨hx, hb, hml, hown, hts⟩ (tX7_failInvalid l D cI cZ cR N q0 d0 t_3.1 t_3.2 ot_3) (cwV 0 hts gX7_isHidden_X7_failInvalid rfl rfl rfl hdwsV_X7_failInvalid ⟨Nat.le_of_ble_eq_true rfl, Nat.le_of_ble_eq_true rfl⟩) hK hP hD hS hA [0, 1, 2, 3, 4, 5, 6, 7, 8, 9, 10, 11, 12, 13, 14, 15, 16, 17, 18, 19, 20, 21, 22, 23, 24, 25, 26, 27, 28, 29, 30, 31, 32, 33, 34, 35, 36, 37, 38, 39, 40, 41, 42, 43, 44, 45, 46, 47, 48, 49, 50, 51, 52, 53, 54, 55, 56, 57, 58, 59, 60, 61, 62, 63, 64, 65, 66, 67, 68, 69, 70, 71, 72] (by decide) rfl rfl (ci := 7) rfl rfl rfl (fun _ => WX7 cI cZ cR q0 t_3.2) (()) rfl rfl hl.1 rfl (Nat.le_of_ble_eq_true rfl) dX7_isHidden_20 ⟨Nat.zero_le _, Nat.zero_le _⟩ (fun _ _ H locs hP hD hS => ?_)
    simp only [Option.some.injEq, Prod.mk.injEq] at hf
    obtain ⟨rfl, rfl⟩ := hf
    exact hend _ _ _ _ hP hD hS rfl dX7_isHidden_23
  · have hf := tm_iF c_2 hf
    refine lv_aload_n hx hb dX7_isHidden_11 rfl (lv_at hl 0 rfl) ?_
    refine lv_iload_n hx hb dX7_isHidden_12 rfl (lv_at hl 1 rfl) ?_
    obtain ⟨t_4, ot_4, hf⟩ := tm_bS hf
    refine tm_cVI (As := [.int p1]) (rest := []) ⟨hx, hb, hml, hown, hts⟩ (tX7_hiddenFlag l D cI cZ cR N q0 d0 p1 t_4 ot_4) (cwV 1 hts gX7_isHidden_X7_hiddenFlag rfl rfl rfl hdwsV_X7_hiddenFlag ⟨Nat.le_of_ble_eq_true rfl, Nat.le_of_ble_eq_true rfl⟩) hK hP hD hS hA [0, 1, 2, 3, 4, 5, 6, 7, 8, 9, 10, 11, 12, 13, 14, 15, 16, 17, 18, 19, 20, 21, 22, 23, 24, 25, 26, 27, 28, 29, 30, 31, 32, 33, 34, 35, 36, 37, 38, 39, 40, 41, 42, 43, 44, 45, 46, 47, 48, 49, 50, 51, 52, 53, 54, 55, 56, 57, 58, 59, 60, 61, 62, 63, 64, 65, 66, 67, 68, 69, 70, 71, 72] (by decide) rfl rfl (ci := 7) rfl rfl rfl (fun _ => WX7 cI cZ cR q0 d0) (()) rfl rfl hl.1 rfl (Nat.le_of_ble_eq_true rfl) dX7_isHidden_13 ⟨Nat.zero_le _, Nat.zero_le _⟩ (fun _ _ H locs hP hD hS => ?_)
    refine lv_goto (tgt := 23) hx hb dX7_isHidden_16 (by decide) ?_
    simp only [Option.some.injEq, Prod.mk.injEq] at hf
    obtain ⟨rfl, rfl⟩ := hf
    exact hend _ _ _ _ hP hD hS rfl dX7_isHidden_23
set_option maxHeartbeats 4000000 in
set_option maxRecDepth 100000 in
theorem wX7_nodeAt_40 (l : Launch) (D : va_G) (cI cZ cR : ClassId) (N : Nat) (q0 : Nat → Nat) {p : Program} {e : Env} {s : State} {m : MethodId} {args : Array Value} {below : List Frame} {meth : Method} {c : Code} {A : Nat → Prop} {H0 : Heap} {Q : State → Prop} (C : tm_Cx p s m c args cX7_nodeAt 5 RX7 wsX7_nodeAt D (tm_ty cI cZ cR) A H0) (d0 : tm_M) (v1 : Int32) (v2 : Int32) : ∀ (n : Nat) (st : Int32 × Int32) (o : (Int32 × Int32)), tm_whl (bX7_nodeAt_40 N d0 v1 v2) n st = some o → (fun (o : Int32 × Int32) => ∀ (H : Heap) (locs : List Loc) (ls : Array Slot), va_P D vwCl (WX7 cI cZ cR q0 d0) H → va_D A (WX7 cI cZ cR q0 d0) → va_S A H0 H locs → lv_has ls 5 [(3, .int o.1)] → W p l e rmX7_nodeAt s m args below meth c H locs 0 0 Q (F0 m 100 ls [])) o → (fun (st : Int32 × Int32) => ∀ (H : Heap) (locs : List Loc) (ls : Array Slot), va_P D vwCl (WX7 cI cZ cR q0 d0) H → va_D A (WX7 cI cZ cR q0 d0) → va_S A H0 H locs → lv_has ls 5 [(0, .ref (q0 0)), (1, .int v1), (2, .int v2), (3, .int st.1), (4, .int st.2)] → W p l e rmX7_nodeAt s m args below meth c H locs 0 0 Q (F0 m 40 ls [])) st := by
  obtain ⟨hx, hb, hml, hown, hts, hK, hA⟩ := id C
  refine tm_whl_W (Wh := fun (st : Int32 × Int32) => ∀ (H : Heap) (locs : List Loc) (ls : Array Slot), va_P D vwCl (WX7 cI cZ cR q0 d0) H → va_D A (WX7 cI cZ cR q0 d0) → va_S A H0 H locs → lv_has ls 5 [(0, .ref (q0 0)), (1, .int v1), (2, .int v2), (3, .int st.1), (4, .int st.2)] → W p l e rmX7_nodeAt s m args below meth c H locs 0 0 Q (F0 m 40 ls [])) (Wx := fun (o : Int32 × Int32) => ∀ (H : Heap) (locs : List Loc) (ls : Array Slot), va_P D vwCl (WX7 cI cZ cR q0 d0) H → va_D A (WX7 cI cZ cR q0 d0) → va_S A H0 H locs → lv_has ls 5 [(3, .int o.1)] → W p l e rmX7_nodeAt s m args below meth c H locs 0 0 Q (F0 m 100 ls [])) ?_
  intro st r hf hk H locs ls hP hD hS hl
  unfold bX7_nodeAt_40 at hf
  refine lv_iload hx hb dX7_nodeAt_40 (lv_at hl 4 rfl) ?_
  refine lv_aload_n hx hb dX7_nodeAt_42 rfl (lv_at hl 0 rfl) ?_
  refine va_get (D := D) (ci := 7) (v := .ref (q0 1)) (C := RX7) (T := TX7) (N := 8) hx hb hts uX7_nodeAt_X7 hown hK hP 0 rfl rfl 0 (by decide) (hts _ kX7_nodeAt_f10) (fun _ h9 => h9) rfl dX7_nodeAt_43 ?_
  refine va_get (D := D) (ci := 5) (v := .int (d0 1 2)) (C := RX5) (T := TX5) (N := 7) hx hb hts uX7_nodeAt_X5 hown hK hP 1 rfl rfl 2 (by decide) (hts _ kX7_nodeAt_f51) (fun _ h9 => h9) rfl dX7_nodeAt_46 ?_
  refine lv_icmp_ge (tgt := 100) hx hb dX7_nodeAt_49 (by decide) (fun c_8 => ?_) (fun c_8 => ?_)
  · have hf := tm_iT c_8 hf
    obtain rfl := Option.some.inj hf
    exact hk _ _ _ hP hD hS (lv_sub hl [3] rfl)
  · have hf := tm_iF c_8 hf
    refine lv_aload_n hx hb dX7_nodeAt_52 rfl (lv_at hl 0 rfl) ?_
    refine va_get (D := D) (ci := 7) (v := .ref (q0 4)) (C := RX7) (T := TX7) (N := 8) hx hb hts uX7_nodeAt_X7 hown hK hP 0 rfl rfl 1 (by decide) (hts _ kX7_nodeAt_f19) (fun _ h9 => h9) rfl dX7_nodeAt_53 ?_
    refine va_get (D := D) (ci := 1) (v := .ref (q0 8)) (C := RX1) (T := TX1) (N := 8) hx hb hts uX7_nodeAt_X1 hown hK hP 4 rfl rfl 3 (by decide) (hts _ kX7_nodeAt_f107) (fun _ h9 => h9) rfl dX7_nodeAt_56 ?_
    refine lv_iload hx hb dX7_nodeAt_59 (lv_at hl 4 rfl) ?_
    refine lv_iload_n hx hb dX7_nodeAt_61 rfl (lv_at hl 1 rfl) ?_
    refine lv_iload_n hx hb dX7_nodeAt_62 rfl (lv_at hl 2 rfl) ?_
    obtain ⟨t_9, ot_9, hf⟩ := tm_bS hf
    refine tm_cVI (As := [.int st.2, .int v1, .int v2]) (rest := []) ⟨hx, hb, hml, hown, hts⟩ (tX3_contain l D cI cZ cR N (tm_sq q0 8) (tm_sh d0 8) st.2 v1 v2 t_9 ot_9) (cwV 3 hts gX7_nodeAt_X3_contain rfl rfl rfl hdwsV_X3_contain ⟨Nat.le_of_ble_eq_true rfl, Nat.le_of_ble_eq_true rfl⟩) hK hP hD hS hA [8, 9, 10, 11, 12] (by decide) rfl rfl (ci := 3) rfl rfl rfl (fun _ => WX7 cI cZ cR q0 d0) (()) rfl rfl hl.1 rfl (Nat.le_of_ble_eq_true rfl) dX7_nodeAt_63 ⟨Nat.zero_le _, Nat.zero_le _⟩ (fun _ _ H locs hP hD hS => ?_)
    refine lv_if_eq (tgt := 94) hx hb dX7_nodeAt_66 (by decide) (fun c_10 => ?_) (fun c_10 => ?_)
    · have hf := tm_iT c_10 hf
      obtain ⟨x_11, ex_11⟩ : ∃ y : Int32, y = st.2 + 1 := ⟨_, rfl⟩
      have hf := tm_at ex_11 hf
      refine lv_iinc (v := x_11) (lv' := [(4, .int x_11), (0, .ref (q0 0)), (1, .int v1), (2, .int v2), (3, .int st.1)]) hx hb dX7_nodeAt_94 hl (k := 4) rfl (by rw [ex_11]; rfl) (by decide) rfl (fun ls hl => ?_)
      refine lv_goto (tgt := 40) hx hb dX7_nodeAt_97 (by decide) ?_
      obtain rfl := Option.some.inj hf
      exact hk _ _ _ hP hD hS (lv_sub hl [1, 2, 3, 4, 0] rfl)
    · have hf := tm_iF c_10 hf
      refine lv_aload_n hx hb dX7_nodeAt_69 rfl (lv_at hl 0 rfl) ?_
      refine va_get (D := D) (ci := 7) (v := .ref (q0 4)) (C := RX7) (T := TX7) (N := 8) hx hb hts uX7_nodeAt_X7 hown hK hP 0 rfl rfl 1 (by decide) (hts _ kX7_nodeAt_f19) (fun _ h9 => h9) rfl dX7_nodeAt_70 ?_
      refine va_get (D := D) (ci := 1) (v := .ref (q0 6)) (C := RX1) (T := TX1) (N := 8) hx hb hts uX7_nodeAt_X1 hown hK hP 4 rfl rfl 1 (by decide) (hts _ kX7_nodeAt_f104) (fun _ h9 => h9) rfl dX7_nodeAt_73 ?_
      refine lv_iload hx hb dX7_nodeAt_76 (lv_at hl 4 rfl) ?_
      obtain ⟨h_12, hf⟩ := tm_gS hf
      refine va_iald hx hb hK hP 6 0 rfl rfl (tm_inb_in h_12) dX7_nodeAt_78 ?_
      refine lv_aload_n hx hb dX7_nodeAt_79 rfl (lv_at hl 0 rfl) ?_
      refine va_get (D := D) (ci := 7) (v := .ref (q0 4)) (C := RX7) (T := TX7) (N := 8) hx hb hts uX7_nodeAt_X7 hown hK hP 0 rfl rfl 1 (by decide) (hts _ kX7_nodeAt_f19) (fun _ h9 => h9) rfl dX7_nodeAt_80 ?_
      refine va_get (D := D) (ci := 1) (v := .ref (q0 6)) (C := RX1) (T := TX1) (N := 8) hx hb hts uX7_nodeAt_X1 hown hK hP 4 rfl rfl 1 (by decide) (hts _ kX7_nodeAt_f104) (fun _ h9 => h9) rfl dX7_nodeAt_83 ?_
      refine lv_iload_n hx hb dX7_nodeAt_86 rfl (lv_at hl 3 rfl) ?_
      obtain ⟨h_13, hf⟩ := tm_gS hf
      refine va_iald hx hb hK hP 6 0 rfl rfl (tm_inb_in h_13) dX7_nodeAt_87 ?_
      refine lv_icmp_le (tgt := 94) hx hb dX7_nodeAt_88 (by decide) (fun c_14 => ?_) (fun c_14 => ?_)
      · have hf := tm_iT c_14 hf
        obtain ⟨x_15, ex_15⟩ : ∃ y : Int32, y = st.2 + 1 := ⟨_, rfl⟩
        have hf := tm_at ex_15 hf
        refine lv_iinc (v := x_15) (lv' := [(4, .int x_15), (0, .ref (q0 0)), (1, .int v1), (2, .int v2), (3, .int st.1)]) hx hb dX7_nodeAt_94 hl (k := 4) rfl (by rw [ex_15]; rfl) (by decide) rfl (fun ls hl => ?_)
        refine lv_goto (tgt := 40) hx hb dX7_nodeAt_97 (by decide) ?_
        obtain rfl := Option.some.inj hf
        exact hk _ _ _ hP hD hS (lv_sub hl [1, 2, 3, 4, 0] rfl)
      · have hf := tm_iF c_14 hf
        refine lv_iload hx hb dX7_nodeAt_91 (lv_at hl 4 rfl) ?_
        refine lv_istore_n (lv' := [(3, .int st.2), (0, .ref (q0 0)), (1, .int v1), (2, .int v2), (4, .int st.2)]) hx hb dX7_nodeAt_93 rfl hl (by decide) rfl (fun ls hl => ?_)
        obtain ⟨x_16, ex_16⟩ : ∃ y : Int32, y = st.2 + 1 := ⟨_, rfl⟩
        have hf := tm_at ex_16 hf
        refine lv_iinc (v := x_16) (lv' := [(4, .int x_16), (3, .int st.2), (0, .ref (q0 0)), (1, .int v1), (2, .int v2)]) hx hb dX7_nodeAt_94 hl (k := 4) rfl (by rw [ex_16]; rfl) (by decide) rfl (fun ls hl => ?_)
        refine lv_goto (tgt := 40) hx hb dX7_nodeAt_97 (by decide) ?_
        obtain rfl := Option.some.inj hf
        exact hk _ _ _ hP hD hS (lv_sub hl [2, 3, 4, 1, 0] rfl)
set_option maxHeartbeats 4000000 in
set_option maxRecDepth 100000 in
theorem tX7_nodeAt (l : Launch) (D : va_G) (cI cZ cR : ClassId) (N : Nat) (q0 : Nat → Nat) (d0 : tm_M) (p1 : Int32) (p2 : Int32) (r0 : Int32) (z0 : tm_M) (hf : fX7_nodeAt N d0 p1 p2 = some (r0, z0)) : tm_CI l D (tm_ty cI cZ cR) yX7_nodeAt wsX7_nodeAt rmX7_nodeAt [.ref (q0 0), .int p1, .int p2] (WX7 cI cZ cR q0 d0) r0 (WX7 cI cZ cR q0 z0) := by
  refine tm_mkI (cc := cX7_nodeAt) (maxL := 5) (ty := .int) (by decide) rfl (Nat.le_of_ble_eq_true rfl) ?_
  intro p e s m below meth c A ls Q C hP hD hS hl hend
  have C : tm_Cx p s m c [.ref (q0 0), .int p1, .int p2].toArray cX7_nodeAt 5 RX7 wsX7_nodeAt D (tm_ty cI cZ cR) A s.heap := C
  obtain ⟨hx, hb, hml, hown, hts, hK, hA⟩ := id C
  have hl : lv_has ls 5 [(0, .ref (q0 0)), (1, .int p1), (2, .int p2)] := hl
  unfold fX7_nodeAt at hf
  refine lv_iload_n hx hb dX7_nodeAt_0 rfl (lv_at hl 1 rfl) ?_
  refine lv_if_lt (tgt := 30) hx hb dX7_nodeAt_1 (by decide) (fun c_1 => ?_) (fun c_1 => ?_)
  · have hf := tm_iT c_1 hf
    refine lv_aload_n hx hb dX7_nodeAt_30 rfl (lv_at hl 0 rfl) ?_
    obtain ⟨t_2, ot_2, hf⟩ := tm_bS hf
    refine tm_cVI (As := []) (rest := []) ⟨hx, hb, hml, hown, hts⟩ (tX7_failInvalid l D cI cZ cR N q0 d0 t_2.1 t_2.2 ot_2) (cwV 0 hts gX7_nodeAt_X7_failInvalid rfl rfl rfl hdwsV_X7_failInvalid ⟨Nat.le_of_ble_eq_true rfl, Nat.le_of_ble_eq_true rfl⟩) hK hP hD hS hA [0, 1, 2, 3, 4, 5, 6, 7, 8, 9, 10, 11, 12, 13, 14, 15, 16, 17, 18, 19, 20, 21, 22, 23, 24, 25, 26, 27, 28, 29, 30, 31, 32, 33, 34, 35, 36, 37, 38, 39, 40, 41, 42, 43, 44, 45, 46, 47, 48, 49, 50, 51, 52, 53, 54, 55, 56, 57, 58, 59, 60, 61, 62, 63, 64, 65, 66, 67, 68, 69, 70, 71, 72] (by decide) rfl rfl (ci := 7) rfl rfl rfl (fun _ => WX7 cI cZ cR q0 t_2.2) (()) rfl rfl hl.1 rfl (Nat.le_of_ble_eq_true rfl) dX7_nodeAt_31 ⟨Nat.zero_le _, Nat.zero_le _⟩ (fun _ _ H locs hP hD hS => ?_)
    simp only [Option.some.injEq, Prod.mk.injEq] at hf
    obtain ⟨rfl, rfl⟩ := hf
    exact hend _ _ _ _ hP hD hS rfl dX7_nodeAt_34
  · have hf := tm_iF c_1 hf
    refine lv_iload_n hx hb dX7_nodeAt_4 rfl (lv_at hl 1 rfl) ?_
    refine lv_aload_n hx hb dX7_nodeAt_5 rfl (lv_at hl 0 rfl) ?_
    refine va_get (D := D) (ci := 7) (v := .ref (q0 1)) (C := RX7) (T := TX7) (N := 8) hx hb hts uX7_nodeAt_X7 hown hK hP 0 rfl rfl 0 (by decide) (hts _ kX7_nodeAt_f10) (fun _ h9 => h9) rfl dX7_nodeAt_6 ?_
    refine va_get (D := D) (ci := 5) (v := .int (d0 1 3)) (C := RX5) (T := TX5) (N := 7) hx hb hts uX7_nodeAt_X5 hown hK hP 1 rfl rfl 3 (by decide) (hts _ kX7_nodeAt_f89) (fun _ h9 => h9) rfl dX7_nodeAt_9 ?_
    refine lv_icmp_ge (tgt := 30) hx hb dX7_nodeAt_12 (by decide) (fun c_3 => ?_) (fun c_3 => ?_)
    · have hf := tm_iT c_3 hf
      refine lv_aload_n hx hb dX7_nodeAt_30 rfl (lv_at hl 0 rfl) ?_
      obtain ⟨t_4, ot_4, hf⟩ := tm_bS hf
      refine tm_cVI (As := []) (rest := []) ⟨hx, hb, hml, hown, hts⟩ (tX7_failInvalid l D cI cZ cR N q0 d0 t_4.1 t_4.2 ot_4) (cwV 0 hts gX7_nodeAt_X7_failInvalid rfl rfl rfl hdwsV_X7_failInvalid ⟨Nat.le_of_ble_eq_true rfl, Nat.le_of_ble_eq_true rfl⟩) hK hP hD hS hA [0, 1, 2, 3, 4, 5, 6, 7, 8, 9, 10, 11, 12, 13, 14, 15, 16, 17, 18, 19, 20, 21, 22, 23, 24, 25, 26, 27, 28, 29, 30, 31, 32, 33, 34, 35, 36, 37, 38, 39, 40, 41, 42, 43, 44, 45, 46, 47, 48, 49, 50, 51, 52, 53, 54, 55, 56, 57, 58, 59, 60, 61, 62, 63, 64, 65, 66, 67, 68, 69, 70, 71, 72] (by decide) rfl rfl (ci := 7) rfl rfl rfl (fun _ => WX7 cI cZ cR q0 t_4.2) (()) rfl rfl hl.1 rfl (Nat.le_of_ble_eq_true rfl) dX7_nodeAt_31 ⟨Nat.zero_le _, Nat.zero_le _⟩ (fun _ _ H locs hP hD hS => ?_)
      simp only [Option.some.injEq, Prod.mk.injEq] at hf
      obtain ⟨rfl, rfl⟩ := hf
      exact hend _ _ _ _ hP hD hS rfl dX7_nodeAt_34
    · have hf := tm_iF c_3 hf
      refine lv_iload_n hx hb dX7_nodeAt_15 rfl (lv_at hl 2 rfl) ?_
      refine lv_if_lt (tgt := 30) hx hb dX7_nodeAt_16 (by decide) (fun c_5 => ?_) (fun c_5 => ?_)
      · have hf := tm_iT c_5 hf
        refine lv_aload_n hx hb dX7_nodeAt_30 rfl (lv_at hl 0 rfl) ?_
        obtain ⟨t_6, ot_6, hf⟩ := tm_bS hf
        refine tm_cVI (As := []) (rest := []) ⟨hx, hb, hml, hown, hts⟩ (tX7_failInvalid l D cI cZ cR N q0 d0 t_6.1 t_6.2 ot_6) (cwV 0 hts gX7_nodeAt_X7_failInvalid rfl rfl rfl hdwsV_X7_failInvalid ⟨Nat.le_of_ble_eq_true rfl, Nat.le_of_ble_eq_true rfl⟩) hK hP hD hS hA [0, 1, 2, 3, 4, 5, 6, 7, 8, 9, 10, 11, 12, 13, 14, 15, 16, 17, 18, 19, 20, 21, 22, 23, 24, 25, 26, 27, 28, 29, 30, 31, 32, 33, 34, 35, 36, 37, 38, 39, 40, 41, 42, 43, 44, 45, 46, 47, 48, 49, 50, 51, 52, 53, 54, 55, 56, 57, 58, 59, 60, 61, 62, 63, 64, 65, 66, 67, 68, 69, 70, 71, 72] (by decide) rfl rfl (ci := 7) rfl rfl rfl (fun _ => WX7 cI cZ cR q0 t_6.2) (()) rfl rfl hl.1 rfl (Nat.le_of_ble_eq_true rfl) dX7_nodeAt_31 ⟨Nat.zero_le _, Nat.zero_le _⟩ (fun _ _ H locs hP hD hS => ?_)
        simp only [Option.some.injEq, Prod.mk.injEq] at hf
        obtain ⟨rfl, rfl⟩ := hf
        exact hend _ _ _ _ hP hD hS rfl dX7_nodeAt_34
      · have hf := tm_iF c_5 hf
        refine lv_iload_n hx hb dX7_nodeAt_19 rfl (lv_at hl 2 rfl) ?_
        refine lv_aload_n hx hb dX7_nodeAt_20 rfl (lv_at hl 0 rfl) ?_
        refine va_get (D := D) (ci := 7) (v := .ref (q0 1)) (C := RX7) (T := TX7) (N := 8) hx hb hts uX7_nodeAt_X7 hown hK hP 0 rfl rfl 0 (by decide) (hts _ kX7_nodeAt_f10) (fun _ h9 => h9) rfl dX7_nodeAt_21 ?_
        refine va_get (D := D) (ci := 5) (v := .int (d0 1 4)) (C := RX5) (T := TX5) (N := 7) hx hb hts uX7_nodeAt_X5 hown hK hP 1 rfl rfl 4 (by decide) (hts _ kX7_nodeAt_f92) (fun _ h9 => h9) rfl dX7_nodeAt_24 ?_
        refine lv_icmp_lt (tgt := 35) hx hb dX7_nodeAt_27 (by decide) (fun c_7 => ?_) (fun c_7 => ?_)
        · have hf := tm_iT c_7 hf
          refine lv_iconst (v := 0) hx hb dX7_nodeAt_35 (by decide) ?_
          refine lv_istore_n (lv' := [(3, .int 0), (0, .ref (q0 0)), (1, .int p1), (2, .int p2)]) hx hb dX7_nodeAt_36 rfl hl (by decide) rfl (fun ls hl => ?_)
          refine lv_iconst (v := 0) hx hb dX7_nodeAt_37 (by decide) ?_
          refine lv_istore (lv' := [(4, .int 0), (3, .int 0), (0, .ref (q0 0)), (1, .int p1), (2, .int p2)]) hx hb dX7_nodeAt_38 hl (by decide) rfl (fun ls hl => ?_)
          obtain ⟨t_17, ot_17, hf⟩ := tm_bS hf
          refine wX7_nodeAt_40 l D cI cZ cR N q0 C d0 p1 p2 _ _ _ ot_17 ?_ _ _ _ hP hD hS (lv_sub hl [2, 3, 4, 1, 0] rfl)
          intro H locs ls hP hD hS hl
          refine lv_iload_n hx hb dX7_nodeAt_100 rfl (lv_at hl 0 rfl) ?_
          simp only [Option.some.injEq, Prod.mk.injEq] at hf
          obtain ⟨rfl, rfl⟩ := hf
          exact hend _ _ _ _ hP hD hS rfl dX7_nodeAt_101
        · have hf := tm_iF c_7 hf
          refine lv_aload_n hx hb dX7_nodeAt_30 rfl (lv_at hl 0 rfl) ?_
          obtain ⟨t_18, ot_18, hf⟩ := tm_bS hf
          refine tm_cVI (As := []) (rest := []) ⟨hx, hb, hml, hown, hts⟩ (tX7_failInvalid l D cI cZ cR N q0 d0 t_18.1 t_18.2 ot_18) (cwV 0 hts gX7_nodeAt_X7_failInvalid rfl rfl rfl hdwsV_X7_failInvalid ⟨Nat.le_of_ble_eq_true rfl, Nat.le_of_ble_eq_true rfl⟩) hK hP hD hS hA [0, 1, 2, 3, 4, 5, 6, 7, 8, 9, 10, 11, 12, 13, 14, 15, 16, 17, 18, 19, 20, 21, 22, 23, 24, 25, 26, 27, 28, 29, 30, 31, 32, 33, 34, 35, 36, 37, 38, 39, 40, 41, 42, 43, 44, 45, 46, 47, 48, 49, 50, 51, 52, 53, 54, 55, 56, 57, 58, 59, 60, 61, 62, 63, 64, 65, 66, 67, 68, 69, 70, 71, 72] (by decide) rfl rfl (ci := 7) rfl rfl rfl (fun _ => WX7 cI cZ cR q0 t_18.2) (()) rfl rfl hl.1 rfl (Nat.le_of_ble_eq_true rfl) dX7_nodeAt_31 ⟨Nat.zero_le _, Nat.zero_le _⟩ (fun _ _ H locs hP hD hS => ?_)
          simp only [Option.some.injEq, Prod.mk.injEq] at hf
          obtain ⟨rfl, rfl⟩ := hf
          exact hend _ _ _ _ hP hD hS rfl dX7_nodeAt_34
set_option maxHeartbeats 4000000 in
set_option maxRecDepth 100000 in
theorem wX7_leafPixels_4 (l : Launch) (D : va_G) (cI cZ cR : ClassId) (N : Nat) (q0 : Nat → Nat) {p : Program} {e : Env} {s : State} {m : MethodId} {args : Array Value} {below : List Frame} {meth : Method} {c : Code} {A : Nat → Prop} {H0 : Heap} {Q : State → Prop} (C : tm_Cx p s m c args cX7_leafPixels 3 RX7 wsX7_leafPixels D (tm_ty cI cZ cR) A H0) (d0 : tm_M) : ∀ (n : Nat) (st : Int32 × Int32) (o : (Int32 × Int32)), tm_whl (bX7_leafPixels_4 N d0) n st = some o → (fun (o : Int32 × Int32) => ∀ (H : Heap) (locs : List Loc) (ls : Array Slot), va_P D vwCl (WX7 cI cZ cR q0 d0) H → va_D A (WX7 cI cZ cR q0 d0) → va_S A H0 H locs → lv_has ls 3 [(1, .int o.1)] → W p l e rmX7_leafPixels s m args below meth c H locs 0 0 Q (F0 m 46 ls [])) o → (fun (st : Int32 × Int32) => ∀ (H : Heap) (locs : List Loc) (ls : Array Slot), va_P D vwCl (WX7 cI cZ cR q0 d0) H → va_D A (WX7 cI cZ cR q0 d0) → va_S A H0 H locs → lv_has ls 3 [(0, .ref (q0 0)), (1, .int st.1), (2, .int st.2)] → W p l e rmX7_leafPixels s m args below meth c H locs 0 0 Q (F0 m 4 ls [])) st := by
  obtain ⟨hx, hb, hml, hown, hts, hK, hA⟩ := id C
  refine tm_whl_W (Wh := fun (st : Int32 × Int32) => ∀ (H : Heap) (locs : List Loc) (ls : Array Slot), va_P D vwCl (WX7 cI cZ cR q0 d0) H → va_D A (WX7 cI cZ cR q0 d0) → va_S A H0 H locs → lv_has ls 3 [(0, .ref (q0 0)), (1, .int st.1), (2, .int st.2)] → W p l e rmX7_leafPixels s m args below meth c H locs 0 0 Q (F0 m 4 ls [])) (Wx := fun (o : Int32 × Int32) => ∀ (H : Heap) (locs : List Loc) (ls : Array Slot), va_P D vwCl (WX7 cI cZ cR q0 d0) H → va_D A (WX7 cI cZ cR q0 d0) → va_S A H0 H locs → lv_has ls 3 [(1, .int o.1)] → W p l e rmX7_leafPixels s m args below meth c H locs 0 0 Q (F0 m 46 ls [])) ?_
  intro st r hf hk H locs ls hP hD hS hl
  unfold bX7_leafPixels_4 at hf
  refine lv_iload_n hx hb dX7_leafPixels_4 rfl (lv_at hl 2 rfl) ?_
  refine lv_aload_n hx hb dX7_leafPixels_5 rfl (lv_at hl 0 rfl) ?_
  refine va_get (D := D) (ci := 7) (v := .ref (q0 1)) (C := RX7) (T := TX7) (N := 8) hx hb hts uX7_leafPixels_X7 hown hK hP 0 rfl rfl 0 (by decide) (hts _ kX7_leafPixels_f10) (fun _ h9 => h9) rfl dX7_leafPixels_6 ?_
  refine va_get (D := D) (ci := 5) (v := .int (d0 1 2)) (C := RX5) (T := TX5) (N := 7) hx hb hts uX7_leafPixels_X5 hown hK hP 1 rfl rfl 2 (by decide) (hts _ kX7_leafPixels_f51) (fun _ h9 => h9) rfl dX7_leafPixels_9 ?_
  refine lv_icmp_ge (tgt := 46) hx hb dX7_leafPixels_12 (by decide) (fun c_1 => ?_) (fun c_1 => ?_)
  · have hf := tm_iT c_1 hf
    obtain rfl := Option.some.inj hf
    exact hk _ _ _ hP hD hS (lv_sub hl [1] rfl)
  · have hf := tm_iF c_1 hf
    refine lv_aload_n hx hb dX7_leafPixels_15 rfl (lv_at hl 0 rfl) ?_
    refine va_get (D := D) (ci := 7) (v := .ref (q0 4)) (C := RX7) (T := TX7) (N := 8) hx hb hts uX7_leafPixels_X7 hown hK hP 0 rfl rfl 1 (by decide) (hts _ kX7_leafPixels_f19) (fun _ h9 => h9) rfl dX7_leafPixels_16 ?_
    refine lv_iload_n hx hb dX7_leafPixels_19 rfl (lv_at hl 2 rfl) ?_
    obtain ⟨t_2, ot_2, hf⟩ := tm_bS hf
    refine tm_cVI (As := [.int st.2]) (rest := []) ⟨hx, hb, hml, hown, hts⟩ (tX1_isLeaf l D cI cZ cR N (tm_sq q0 4) (tm_sh d0 4) st.2 t_2 ot_2) (cwV 1 hts gX7_leafPixels_X1_isLeaf rfl rfl rfl hdwsV_X1_isLeaf ⟨Nat.le_of_ble_eq_true rfl, Nat.le_of_ble_eq_true rfl⟩) hK hP hD hS hA [4, 5, 6, 7, 8, 9, 10, 11, 12, 13, 14, 15, 16, 17, 18, 19, 20, 21, 22, 23, 24, 25, 26, 27, 28, 29] (by decide) rfl rfl (ci := 1) rfl rfl rfl (fun _ => WX7 cI cZ cR q0 d0) (()) rfl rfl hl.1 rfl (Nat.le_of_ble_eq_true rfl) dX7_leafPixels_20 ⟨Nat.zero_le _, Nat.zero_le _⟩ (fun _ _ H locs hP hD hS => ?_)
    refine lv_if_eq (tgt := 40) hx hb dX7_leafPixels_23 (by decide) (fun c_3 => ?_) (fun c_3 => ?_)
    · have hf := tm_iT c_3 hf
      obtain ⟨x_4, ex_4⟩ : ∃ y : Int32, y = st.2 + 1 := ⟨_, rfl⟩
      have hf := tm_at ex_4 hf
      refine lv_iinc (v := x_4) (lv' := [(2, .int x_4), (0, .ref (q0 0)), (1, .int st.1)]) hx hb dX7_leafPixels_40 hl (k := 2) rfl (by rw [ex_4]; rfl) (by decide) rfl (fun ls hl => ?_)
      refine lv_goto (tgt := 4) hx hb dX7_leafPixels_43 (by decide) ?_
      obtain rfl := Option.some.inj hf
      exact hk _ _ _ hP hD hS (lv_sub hl [1, 2, 0] rfl)
    · have hf := tm_iF c_3 hf
      refine lv_iload_n hx hb dX7_leafPixels_26 rfl (lv_at hl 1 rfl) ?_
      refine lv_aload_n hx hb dX7_leafPixels_27 rfl (lv_at hl 0 rfl) ?_
      refine va_get (D := D) (ci := 7) (v := .ref (q0 4)) (C := RX7) (T := TX7) (N := 8) hx hb hts uX7_leafPixels_X7 hown hK hP 0 rfl rfl 1 (by decide) (hts _ kX7_leafPixels_f19) (fun _ h9 => h9) rfl dX7_leafPixels_28 ?_
      refine va_get (D := D) (ci := 1) (v := .ref (q0 8)) (C := RX1) (T := TX1) (N := 8) hx hb hts uX7_leafPixels_X1 hown hK hP 4 rfl rfl 3 (by decide) (hts _ kX7_leafPixels_f107) (fun _ h9 => h9) rfl dX7_leafPixels_31 ?_
      refine lv_iload_n hx hb dX7_leafPixels_34 rfl (lv_at hl 2 rfl) ?_
      obtain ⟨t_5, ot_5, hf⟩ := tm_bS hf
      refine tm_cVI (As := [.int st.2]) (rest := [.int st.1]) ⟨hx, hb, hml, hown, hts⟩ (tX3_area l D cI cZ cR N (tm_sq q0 8) (tm_sh d0 8) st.2 t_5 ot_5) (cwV 1 hts gX7_leafPixels_X3_area rfl rfl rfl hdwsV_X3_area ⟨Nat.le_of_ble_eq_true rfl, Nat.le_of_ble_eq_true rfl⟩) hK hP hD hS hA [8, 9, 10, 11, 12] (by decide) rfl rfl (ci := 3) rfl rfl rfl (fun _ => WX7 cI cZ cR q0 d0) (()) rfl rfl hl.1 rfl (Nat.le_of_ble_eq_true rfl) dX7_leafPixels_35 ⟨Nat.zero_le _, Nat.zero_le _⟩ (fun _ _ H locs hP hD hS => ?_)
      refine lv_iadd hx hb dX7_leafPixels_38 ?_
      refine lv_topi (fun x_6 ex_6 => ?_)
      have hf := tm_at ex_6 hf
      refine lv_istore_n (lv' := [(1, .int x_6), (0, .ref (q0 0)), (2, .int st.2)]) hx hb dX7_leafPixels_39 rfl hl (by decide) rfl (fun ls hl => ?_)
      obtain ⟨x_7, ex_7⟩ : ∃ y : Int32, y = st.2 + 1 := ⟨_, rfl⟩
      have hf := tm_at ex_7 hf
      refine lv_iinc (v := x_7) (lv' := [(2, .int x_7), (1, .int x_6), (0, .ref (q0 0))]) hx hb dX7_leafPixels_40 hl (k := 2) rfl (by rw [ex_7]; rfl) (by decide) rfl (fun ls hl => ?_)
      refine lv_goto (tgt := 4) hx hb dX7_leafPixels_43 (by decide) ?_
      obtain rfl := Option.some.inj hf
      exact hk _ _ _ hP hD hS (lv_sub hl [2, 1, 0] rfl)
set_option maxHeartbeats 4000000 in
set_option maxRecDepth 100000 in
theorem tX7_leafPixels (l : Launch) (D : va_G) (cI cZ cR : ClassId) (N : Nat) (q0 : Nat → Nat) (d0 : tm_M) (r0 : Int32) (hf : fX7_leafPixels N d0 = some r0) : tm_CI l D (tm_ty cI cZ cR) yX7_leafPixels wsX7_leafPixels rmX7_leafPixels [.ref (q0 0)] (WX7 cI cZ cR q0 d0) r0 (WX7 cI cZ cR q0 d0) := by
  refine tm_mkI (cc := cX7_leafPixels) (maxL := 3) (ty := .int) (by decide) rfl (Nat.le_of_ble_eq_true rfl) ?_
  intro p e s m below meth c A ls Q C hP hD hS hl hend
  have C : tm_Cx p s m c [.ref (q0 0)].toArray cX7_leafPixels 3 RX7 wsX7_leafPixels D (tm_ty cI cZ cR) A s.heap := C
  obtain ⟨hx, hb, hml, hown, hts, hK, hA⟩ := id C
  have hl : lv_has ls 3 [(0, .ref (q0 0))] := hl
  unfold fX7_leafPixels at hf
  refine lv_iconst (v := 0) hx hb dX7_leafPixels_0 (by decide) ?_
  refine lv_istore_n (lv' := [(1, .int 0), (0, .ref (q0 0))]) hx hb dX7_leafPixels_1 rfl hl (by decide) rfl (fun ls hl => ?_)
  refine lv_iconst (v := 0) hx hb dX7_leafPixels_2 (by decide) ?_
  refine lv_istore_n (lv' := [(2, .int 0), (1, .int 0), (0, .ref (q0 0))]) hx hb dX7_leafPixels_3 rfl hl (by decide) rfl (fun ls hl => ?_)
  obtain ⟨t_8, ot_8, hf⟩ := tm_bS hf
  refine wX7_leafPixels_4 l D cI cZ cR N q0 C d0 _ _ _ ot_8 ?_ _ _ _ hP hD hS (lv_sub hl [2, 1, 0] rfl)
  intro H locs ls hP hD hS hl
  refine lv_iload_n hx hb dX7_leafPixels_46 rfl (lv_at hl 0 rfl) ?_
  obtain rfl := Option.some.inj hf
  exact hend _ _ _ _ hP hD hS rfl dX7_leafPixels_47
set_option maxHeartbeats 4000000 in
set_option maxRecDepth 100000 in
theorem wX7_floatBits_4 (l : Launch) (D : va_G) (cI cZ cR : ClassId) (N : Nat) {p : Program} {e : Env} {s : State} {m : MethodId} {args : Array Value} {below : List Frame} {meth : Method} {c : Code} {A : Nat → Prop} {H0 : Heap} {Q : State → Prop} (C : tm_Cx p s m c args cX7_floatBits 4 RX7 wsX7_floatBits D (tm_ty cI cZ cR) A H0) : ∀ (n : Nat) (st : UInt32 × Int32) (o : (UInt32 × Int32)), tm_whl (bX7_floatBits_4 N) n st = some o → (fun (o : UInt32 × Int32) => ∀ (H : Heap) (locs : List Loc) (ls : Array Slot), va_P D vwCl (([] : va_W)) H → va_D A (([] : va_W)) → va_S A H0 H locs → lv_has ls 4 [(1, .float o.1), (2, .int o.2)] → W p l e rmX7_floatBits s m args below meth c H locs 0 0 Q (F0 m 26 ls [])) o → (fun (st : UInt32 × Int32) => ∀ (H : Heap) (locs : List Loc) (ls : Array Slot), va_P D vwCl (([] : va_W)) H → va_D A (([] : va_W)) → va_S A H0 H locs → lv_has ls 4 [(1, .float st.1), (2, .int st.2)] → W p l e rmX7_floatBits s m args below meth c H locs 0 0 Q (F0 m 4 ls [])) st := by
  obtain ⟨hx, hb, hml, hown, hts, hK, hA⟩ := id C
  refine tm_whl_W (Wh := fun (st : UInt32 × Int32) => ∀ (H : Heap) (locs : List Loc) (ls : Array Slot), va_P D vwCl (([] : va_W)) H → va_D A (([] : va_W)) → va_S A H0 H locs → lv_has ls 4 [(1, .float st.1), (2, .int st.2)] → W p l e rmX7_floatBits s m args below meth c H locs 0 0 Q (F0 m 4 ls [])) (Wx := fun (o : UInt32 × Int32) => ∀ (H : Heap) (locs : List Loc) (ls : Array Slot), va_P D vwCl (([] : va_W)) H → va_D A (([] : va_W)) → va_S A H0 H locs → lv_has ls 4 [(1, .float o.1), (2, .int o.2)] → W p l e rmX7_floatBits s m args below meth c H locs 0 0 Q (F0 m 26 ls [])) ?_
  intro st r hf hk H locs ls hP hD hS hl
  unfold bX7_floatBits_4 at hf
  refine lv_fload_n hx hb dX7_floatBits_4 rfl (lv_at hl 0 rfl) ?_
  refine lv_fconst2 hx hb dX7_floatBits_5 ?_
  refine lv_fcmp hx hb dX7_floatBits_6 ?_
  refine lv_if_lt (tgt := 26) hx hb dX7_floatBits_7 (by decide) (fun c_1 => ?_) (fun c_1 => ?_)
  · have hf := tm_iT c_1 hf
    obtain rfl := Option.some.inj hf
    exact hk _ _ _ hP hD hS (lv_sub hl [0, 1] rfl)
  · have hf := tm_iF c_1 hf
    refine lv_iload_n hx hb dX7_floatBits_10 rfl (lv_at hl 1 rfl) ?_
    refine lv_bipush (v := 127) hx hb dX7_floatBits_11 (by decide) ?_
    refine lv_icmp_ge (tgt := 26) hx hb dX7_floatBits_13 (by decide) (fun c_2 => ?_) (fun c_2 => ?_)
    · have hf := tm_iT c_2 hf
      obtain rfl := Option.some.inj hf
      exact hk _ _ _ hP hD hS (lv_sub hl [0, 1] rfl)
    · have hf := tm_iF c_2 hf
      refine lv_fload_n hx hb dX7_floatBits_16 rfl (lv_at hl 0 rfl) ?_
      refine lv_fconst2 hx hb dX7_floatBits_17 ?_
      obtain ⟨h_3, hf⟩ := tm_gS hf
      refine lv_fdiv hx hb dX7_floatBits_18 (tm_nn_n h_3) ?_
      refine lv_topf (fun x_4 ex_4 => ?_)
      have hf := tm_at ex_4 hf
      refine lv_fstore_n (lv' := [(1, .float x_4), (2, .int st.2)]) hx hb dX7_floatBits_19 rfl hl (by decide) rfl (fun ls hl => ?_)
      obtain ⟨x_5, ex_5⟩ : ∃ y : Int32, y = st.2 + 1 := ⟨_, rfl⟩
      have hf := tm_at ex_5 hf
      refine lv_iinc (v := x_5) (lv' := [(2, .int x_5), (1, .float x_4)]) hx hb dX7_floatBits_20 hl (k := 1) rfl (by rw [ex_5]; rfl) (by decide) rfl (fun ls hl => ?_)
      refine lv_goto (tgt := 4) hx hb dX7_floatBits_23 (by decide) ?_
      obtain rfl := Option.some.inj hf
      exact hk _ _ _ hP hD hS (lv_sub hl [1, 0] rfl)
set_option maxHeartbeats 4000000 in
set_option maxRecDepth 100000 in
theorem tX7_floatBits (l : Launch) (D : va_G) (cI cZ cR : ClassId) (N : Nat) (p1 : UInt32) (r0 : Int32) (hf : fX7_floatBits N p1 = some r0) : tm_CI l D (tm_ty cI cZ cR) yX7_floatBits wsX7_floatBits rmX7_floatBits [.float p1] (([] : va_W)) r0 (([] : va_W)) := by
  refine tm_mkI (cc := cX7_floatBits) (maxL := 4) (ty := .int) (by decide) rfl (Nat.le_of_ble_eq_true rfl) ?_
  intro p e s m below meth c A ls Q C hP hD hS hl hend
  have C : tm_Cx p s m c [.float p1].toArray cX7_floatBits 4 RX7 wsX7_floatBits D (tm_ty cI cZ cR) A s.heap := C
  obtain ⟨hx, hb, hml, hown, hts, hK, hA⟩ := id C
  have hl : lv_has ls 4 [(0, .float p1)] := hl
  unfold fX7_floatBits at hf
  refine lv_fload_n hx hb dX7_floatBits_0 rfl (lv_at hl 0 rfl) ?_
  refine lv_fstore_n (lv' := [(1, .float p1), (0, .float p1)]) hx hb dX7_floatBits_1 rfl hl (by decide) rfl (fun ls hl => ?_)
  refine lv_iconst (v := 0) hx hb dX7_floatBits_2 (by decide) ?_
  refine lv_istore_n (lv' := [(2, .int 0), (1, .float p1), (0, .float p1)]) hx hb dX7_floatBits_3 rfl hl (by decide) rfl (fun ls hl => ?_)
  obtain ⟨t_6, ot_6, hf⟩ := tm_bS hf
  refine wX7_floatBits_4 l D cI cZ cR N C _ _ _ ot_6 ?_ _ _ _ hP hD hS (lv_sub hl [1, 0] rfl)
  intro H locs ls hP hD hS hl
  refine lv_fload_n hx hb dX7_floatBits_26 rfl (lv_at hl 0 rfl) ?_
  refine lv_ldcf (v := 1258291200) hx hb hown (hts _ kX7_floatBits_c191) dX7_floatBits_27 ?_
  obtain ⟨h_7, hf⟩ := tm_gS hf
  refine lv_fmul hx hb dX7_floatBits_29 (tm_nn_n h_7) ?_
  refine lv_f2i hx hb dX7_floatBits_30 ?_
  refine lv_ldc (v := 8388608) hx hb hown (hts _ kX7_floatBits_c192) dX7_floatBits_31 ?_
  refine lv_isub hx hb dX7_floatBits_33 ?_
  refine lv_topi (fun x_8 ex_8 => ?_)
  have hf := tm_at ex_8 hf
  refine lv_istore_n (lv' := [(3, .int x_8), (1, .float t_6.1), (2, .int t_6.2)]) hx hb dX7_floatBits_34 rfl hl (by decide) rfl (fun ls hl => ?_)
  refine lv_bipush (v := 127) hx hb dX7_floatBits_35 (by decide) ?_
  refine lv_iload_n hx hb dX7_floatBits_37 rfl (lv_at hl 2 rfl) ?_
  refine lv_iadd hx hb dX7_floatBits_38 ?_
  refine lv_bipush (v := 23) hx hb dX7_floatBits_39 (by decide) ?_
  refine lv_ishl hx hb dX7_floatBits_41 ?_
  refine lv_iload_n hx hb dX7_floatBits_42 rfl (lv_at hl 0 rfl) ?_
  refine lv_iadd hx hb dX7_floatBits_43 ?_
  obtain rfl := Option.some.inj hf
  exact hend _ _ _ _ hP hD hS rfl dX7_floatBits_44
set_option maxHeartbeats 4000000 in
set_option maxRecDepth 100000 in
theorem wX7_worstAspect_4 (l : Launch) (D : va_G) (cI cZ cR : ClassId) (N : Nat) (q0 : Nat → Nat) {p : Program} {e : Env} {s : State} {m : MethodId} {args : Array Value} {below : List Frame} {meth : Method} {c : Code} {A : Nat → Prop} {H0 : Heap} {Q : State → Prop} (C : tm_Cx p s m c args cX7_worstAspect 4 RX7 wsX7_worstAspect D (tm_ty cI cZ cR) A H0) (d0 : tm_M) : ∀ (n : Nat) (st : UInt32 × Int32) (o : (UInt32 × Int32)), tm_whl (bX7_worstAspect_4 N d0) n st = some o → (fun (o : UInt32 × Int32) => ∀ (H : Heap) (locs : List Loc) (ls : Array Slot), va_P D vwCl (WX7 cI cZ cR q0 d0) H → va_D A (WX7 cI cZ cR q0 d0) → va_S A H0 H locs → lv_has ls 4 [(1, .float o.1)] → W p l e rmX7_worstAspect s m args below meth c H locs 0 0 Q (F0 m 56 ls [])) o → (fun (st : UInt32 × Int32) => ∀ (H : Heap) (locs : List Loc) (ls : Array Slot), va_P D vwCl (WX7 cI cZ cR q0 d0) H → va_D A (WX7 cI cZ cR q0 d0) → va_S A H0 H locs → lv_has ls 4 [(0, .ref (q0 0)), (1, .float st.1), (2, .int st.2)] → W p l e rmX7_worstAspect s m args below meth c H locs 0 0 Q (F0 m 4 ls [])) st := by
  obtain ⟨hx, hb, hml, hown, hts, hK, hA⟩ := id C
  refine tm_whl_W (Wh := fun (st : UInt32 × Int32) => ∀ (H : Heap) (locs : List Loc) (ls : Array Slot), va_P D vwCl (WX7 cI cZ cR q0 d0) H → va_D A (WX7 cI cZ cR q0 d0) → va_S A H0 H locs → lv_has ls 4 [(0, .ref (q0 0)), (1, .float st.1), (2, .int st.2)] → W p l e rmX7_worstAspect s m args below meth c H locs 0 0 Q (F0 m 4 ls [])) (Wx := fun (o : UInt32 × Int32) => ∀ (H : Heap) (locs : List Loc) (ls : Array Slot), va_P D vwCl (WX7 cI cZ cR q0 d0) H → va_D A (WX7 cI cZ cR q0 d0) → va_S A H0 H locs → lv_has ls 4 [(1, .float o.1)] → W p l e rmX7_worstAspect s m args below meth c H locs 0 0 Q (F0 m 56 ls [])) ?_
  intro st r hf hk H locs ls hP hD hS hl
  unfold bX7_worstAspect_4 at hf
  refine lv_iload_n hx hb dX7_worstAspect_4 rfl (lv_at hl 2 rfl) ?_
  refine lv_aload_n hx hb dX7_worstAspect_5 rfl (lv_at hl 0 rfl) ?_
  refine va_get (D := D) (ci := 7) (v := .ref (q0 1)) (C := RX7) (T := TX7) (N := 8) hx hb hts uX7_worstAspect_X7 hown hK hP 0 rfl rfl 0 (by decide) (hts _ kX7_worstAspect_f10) (fun _ h9 => h9) rfl dX7_worstAspect_6 ?_
  refine va_get (D := D) (ci := 5) (v := .int (d0 1 2)) (C := RX5) (T := TX5) (N := 7) hx hb hts uX7_worstAspect_X5 hown hK hP 1 rfl rfl 2 (by decide) (hts _ kX7_worstAspect_f51) (fun _ h9 => h9) rfl dX7_worstAspect_9 ?_
  refine lv_icmp_ge (tgt := 56) hx hb dX7_worstAspect_12 (by decide) (fun c_1 => ?_) (fun c_1 => ?_)
  · have hf := tm_iT c_1 hf
    obtain rfl := Option.some.inj hf
    exact hk _ _ _ hP hD hS (lv_sub hl [1] rfl)
  · have hf := tm_iF c_1 hf
    refine lv_aload_n hx hb dX7_worstAspect_15 rfl (lv_at hl 0 rfl) ?_
    refine va_get (D := D) (ci := 7) (v := .ref (q0 4)) (C := RX7) (T := TX7) (N := 8) hx hb hts uX7_worstAspect_X7 hown hK hP 0 rfl rfl 1 (by decide) (hts _ kX7_worstAspect_f19) (fun _ h9 => h9) rfl dX7_worstAspect_16 ?_
    refine lv_iload_n hx hb dX7_worstAspect_19 rfl (lv_at hl 2 rfl) ?_
    obtain ⟨t_2, ot_2, hf⟩ := tm_bS hf
    refine tm_cVI (As := [.int st.2]) (rest := []) ⟨hx, hb, hml, hown, hts⟩ (tX1_isLeafWithArea l D cI cZ cR N (tm_sq q0 4) (tm_sh d0 4) st.2 t_2 ot_2) (cwV 1 hts gX7_worstAspect_X1_isLeafWithArea rfl rfl rfl hdwsV_X1_isLeafWithArea ⟨Nat.le_of_ble_eq_true rfl, Nat.le_of_ble_eq_true rfl⟩) hK hP hD hS hA [4, 5, 6, 7, 8, 9, 10, 11, 12, 13, 14, 15, 16, 17, 18, 19, 20, 21, 22, 23, 24, 25, 26, 27, 28, 29] (by decide) rfl rfl (ci := 1) rfl rfl rfl (fun _ => WX7 cI cZ cR q0 d0) (()) rfl rfl hl.1 rfl (Nat.le_of_ble_eq_true rfl) dX7_worstAspect_20 ⟨Nat.zero_le _, Nat.zero_le _⟩ (fun _ _ H locs hP hD hS => ?_)
    refine lv_if_eq (tgt := 50) hx hb dX7_worstAspect_23 (by decide) (fun c_3 => ?_) (fun c_3 => ?_)
    · have hf := tm_iT c_3 hf
      obtain ⟨x_4, ex_4⟩ : ∃ y : Int32, y = st.2 + 1 := ⟨_, rfl⟩
      have hf := tm_at ex_4 hf
      refine lv_iinc (v := x_4) (lv' := [(2, .int x_4), (0, .ref (q0 0)), (1, .float st.1)]) hx hb dX7_worstAspect_50 hl (k := 2) rfl (by rw [ex_4]; rfl) (by decide) rfl (fun ls hl => ?_)
      refine lv_goto (tgt := 4) hx hb dX7_worstAspect_53 (by decide) ?_
      obtain rfl := Option.some.inj hf
      exact hk _ _ _ hP hD hS (lv_sub hl [1, 2, 0] rfl)
    · have hf := tm_iF c_3 hf
      refine lv_aload_n hx hb dX7_worstAspect_26 rfl (lv_at hl 0 rfl) ?_
      refine va_get (D := D) (ci := 7) (v := .ref (q0 4)) (C := RX7) (T := TX7) (N := 8) hx hb hts uX7_worstAspect_X7 hown hK hP 0 rfl rfl 1 (by decide) (hts _ kX7_worstAspect_f19) (fun _ h9 => h9) rfl dX7_worstAspect_27 ?_
      refine va_get (D := D) (ci := 1) (v := .ref (q0 8)) (C := RX1) (T := TX1) (N := 8) hx hb hts uX7_worstAspect_X1 hown hK hP 4 rfl rfl 3 (by decide) (hts _ kX7_worstAspect_f107) (fun _ h9 => h9) rfl dX7_worstAspect_30 ?_
      refine lv_iload_n hx hb dX7_worstAspect_33 rfl (lv_at hl 2 rfl) ?_
      obtain ⟨t_5, ot_5, hf⟩ := tm_bS hf
      refine tm_cVF (As := [.int st.2]) (rest := []) ⟨hx, hb, hml, hown, hts⟩ (tX3_aspect l D cI cZ cR N (tm_sq q0 8) (tm_sh d0 8) st.2 t_5 ot_5) (cwV 1 hts gX7_worstAspect_X3_aspect rfl rfl rfl hdwsV_X3_aspect ⟨Nat.le_of_ble_eq_true rfl, Nat.le_of_ble_eq_true rfl⟩) hK hP hD hS hA [8, 9, 10, 11, 12] (by decide) rfl rfl (ci := 3) rfl rfl rfl (fun _ => WX7 cI cZ cR q0 d0) (()) rfl rfl hl.1 rfl (Nat.le_of_ble_eq_true rfl) dX7_worstAspect_34 ⟨Nat.zero_le _, Nat.zero_le _⟩ (fun _ _ H locs hP hD hS => ?_)
      refine lv_fstore_n (lv' := [(3, .float t_5), (0, .ref (q0 0)), (1, .float st.1), (2, .int st.2)]) hx hb dX7_worstAspect_37 rfl hl (by decide) rfl (fun ls hl => ?_)
      refine lv_fload_n hx hb dX7_worstAspect_38 rfl (lv_at hl 0 rfl) ?_
      refine lv_fload_n hx hb dX7_worstAspect_39 rfl (lv_at hl 2 rfl) ?_
      refine lv_fcmp hx hb dX7_worstAspect_40 ?_
      refine lv_if_lt (tgt := 48) hx hb dX7_worstAspect_41 (by decide) (fun c_6 => ?_) (fun c_6 => ?_)
      · have hf := tm_iT c_6 hf
        refine lv_fload_n hx hb dX7_worstAspect_48 rfl (lv_at hl 2 rfl) ?_
        refine lv_fstore_n (lv' := [(1, .float st.1), (3, .float t_5), (0, .ref (q0 0)), (2, .int st.2)]) hx hb dX7_worstAspect_49 rfl hl (by decide) rfl (fun ls hl => ?_)
        obtain ⟨x_7, ex_7⟩ : ∃ y : Int32, y = st.2 + 1 := ⟨_, rfl⟩
        have hf := tm_at ex_7 hf
        refine lv_iinc (v := x_7) (lv' := [(2, .int x_7), (1, .float st.1), (3, .float t_5), (0, .ref (q0 0))]) hx hb dX7_worstAspect_50 hl (k := 3) rfl (by rw [ex_7]; rfl) (by decide) rfl (fun ls hl => ?_)
        refine lv_goto (tgt := 4) hx hb dX7_worstAspect_53 (by decide) ?_
        obtain rfl := Option.some.inj hf
        exact hk _ _ _ hP hD hS (lv_sub hl [3, 1, 0] rfl)
      · have hf := tm_iF c_6 hf
        refine lv_fload_n hx hb dX7_worstAspect_44 rfl (lv_at hl 0 rfl) ?_
        refine lv_goto (tgt := 49) hx hb dX7_worstAspect_45 (by decide) ?_
        refine lv_fstore_n (lv' := [(1, .float t_5), (3, .float t_5), (0, .ref (q0 0)), (2, .int st.2)]) hx hb dX7_worstAspect_49 rfl hl (by decide) rfl (fun ls hl => ?_)
        obtain ⟨x_8, ex_8⟩ : ∃ y : Int32, y = st.2 + 1 := ⟨_, rfl⟩
        have hf := tm_at ex_8 hf
        refine lv_iinc (v := x_8) (lv' := [(2, .int x_8), (1, .float t_5), (3, .float t_5), (0, .ref (q0 0))]) hx hb dX7_worstAspect_50 hl (k := 3) rfl (by rw [ex_8]; rfl) (by decide) rfl (fun ls hl => ?_)
        refine lv_goto (tgt := 4) hx hb dX7_worstAspect_53 (by decide) ?_
        obtain rfl := Option.some.inj hf
        exact hk _ _ _ hP hD hS (lv_sub hl [3, 1, 0] rfl)
set_option maxHeartbeats 4000000 in
set_option maxRecDepth 100000 in
theorem tX7_worstAspect (l : Launch) (D : va_G) (cI cZ cR : ClassId) (N : Nat) (q0 : Nat → Nat) (d0 : tm_M) (r0 : Int32) (hf : fX7_worstAspect N d0 = some r0) : tm_CI l D (tm_ty cI cZ cR) yX7_worstAspect wsX7_worstAspect rmX7_worstAspect [.ref (q0 0)] (WX7 cI cZ cR q0 d0) r0 (WX7 cI cZ cR q0 d0) := by
  refine tm_mkI (cc := cX7_worstAspect) (maxL := 4) (ty := .int) (by decide) rfl (Nat.le_of_ble_eq_true rfl) ?_
  intro p e s m below meth c A ls Q C hP hD hS hl hend
  have C : tm_Cx p s m c [.ref (q0 0)].toArray cX7_worstAspect 4 RX7 wsX7_worstAspect D (tm_ty cI cZ cR) A s.heap := C
  obtain ⟨hx, hb, hml, hown, hts, hK, hA⟩ := id C
  have hl : lv_has ls 4 [(0, .ref (q0 0))] := hl
  unfold fX7_worstAspect at hf
  refine lv_fconst0 hx hb dX7_worstAspect_0 ?_
  refine lv_fstore_n (lv' := [(1, .float FP.fconst0), (0, .ref (q0 0))]) hx hb dX7_worstAspect_1 rfl hl (by decide) rfl (fun ls hl => ?_)
  refine lv_iconst (v := 0) hx hb dX7_worstAspect_2 (by decide) ?_
  refine lv_istore_n (lv' := [(2, .int 0), (1, .float FP.fconst0), (0, .ref (q0 0))]) hx hb dX7_worstAspect_3 rfl hl (by decide) rfl (fun ls hl => ?_)
  obtain ⟨t_9, ot_9, hf⟩ := tm_bS hf
  refine wX7_worstAspect_4 l D cI cZ cR N q0 C d0 _ _ _ ot_9 ?_ _ _ _ hP hD hS (lv_sub hl [2, 1, 0] rfl)
  intro H locs ls hP hD hS hl
  refine lv_fload_n hx hb dX7_worstAspect_56 rfl (lv_at hl 0 rfl) ?_
  refine lv_fconst0 hx hb dX7_worstAspect_57 ?_
  refine lv_fcmp hx hb dX7_worstAspect_58 ?_
  refine lv_if_le (tgt := 69) hx hb dX7_worstAspect_59 (by decide) (fun c_10 => ?_) (fun c_10 => ?_)
  · have hf := tm_iT c_10 hf
    refine lv_iconst (v := (-1)) hx hb dX7_worstAspect_69 (by decide) ?_
    obtain rfl := Option.some.inj hf
    exact hend _ _ _ _ hP hD hS rfl dX7_worstAspect_70
  · have hf := tm_iF c_10 hf
    refine lv_fload_n hx hb dX7_worstAspect_62 rfl (lv_at hl 0 rfl) ?_
    obtain ⟨t_11, ot_11, hf⟩ := tm_bS hf
    refine tm_cSI (As := [.float t_9.1]) (rest := []) ⟨hx, hb, hml, hown, hts⟩ (tX7_floatBits l D cI cZ cR N t_9.1 t_11 ot_11) (va_cwS 1 hts gX7_worstAspect_X7_floatBits rfl rfl rfl hdwsS_X7_floatBits ⟨Nat.le_of_ble_eq_true rfl, Nat.le_of_ble_eq_true rfl⟩) hK hP hD hS hA [] (by decide) rfl rfl (fun _ => WX7 cI cZ cR q0 d0) (()) rfl rfl hl.1 rfl (Nat.le_of_ble_eq_true rfl) dX7_worstAspect_63 ⟨Nat.zero_le _, Nat.zero_le _⟩ (fun _ _ H locs hP hD hS => ?_)
    refine lv_goto (tgt := 70) hx hb dX7_worstAspect_66 (by decide) ?_
    obtain rfl := Option.some.inj hf
    exact hend _ _ _ _ hP hD hS rfl dX7_worstAspect_70
set_option maxHeartbeats 4000000 in
set_option maxRecDepth 100000 in
theorem wX7_averageAspect_6 (l : Launch) (D : va_G) (cI cZ cR : ClassId) (N : Nat) (q0 : Nat → Nat) {p : Program} {e : Env} {s : State} {m : MethodId} {args : Array Value} {below : List Frame} {meth : Method} {c : Code} {A : Nat → Prop} {H0 : Heap} {Q : State → Prop} (C : tm_Cx p s m c args cX7_averageAspect 4 RX7 wsX7_averageAspect D (tm_ty cI cZ cR) A H0) (d0 : tm_M) : ∀ (n : Nat) (st : UInt32 × Int32 × Int32) (o : (UInt32 × Int32 × Int32)), tm_whl (bX7_averageAspect_6 N d0) n st = some o → (fun (o : UInt32 × Int32 × Int32) => ∀ (H : Heap) (locs : List Loc) (ls : Array Slot), va_P D vwCl (WX7 cI cZ cR q0 d0) H → va_D A (WX7 cI cZ cR q0 d0) → va_S A H0 H locs → lv_has ls 4 [(1, .float o.1), (2, .int o.2.1)] → W p l e rmX7_averageAspect s m args below meth c H locs 0 0 Q (F0 m 51 ls [])) o → (fun (st : UInt32 × Int32 × Int32) => ∀ (H : Heap) (locs : List Loc) (ls : Array Slot), va_P D vwCl (WX7 cI cZ cR q0 d0) H → va_D A (WX7 cI cZ cR q0 d0) → va_S A H0 H locs → lv_has ls 4 [(0, .ref (q0 0)), (1, .float st.1), (2, .int st.2.1), (3, .int st.2.2)] → W p l e rmX7_averageAspect s m args below meth c H locs 0 0 Q (F0 m 6 ls [])) st := by
  obtain ⟨hx, hb, hml, hown, hts, hK, hA⟩ := id C
  refine tm_whl_W (Wh := fun (st : UInt32 × Int32 × Int32) => ∀ (H : Heap) (locs : List Loc) (ls : Array Slot), va_P D vwCl (WX7 cI cZ cR q0 d0) H → va_D A (WX7 cI cZ cR q0 d0) → va_S A H0 H locs → lv_has ls 4 [(0, .ref (q0 0)), (1, .float st.1), (2, .int st.2.1), (3, .int st.2.2)] → W p l e rmX7_averageAspect s m args below meth c H locs 0 0 Q (F0 m 6 ls [])) (Wx := fun (o : UInt32 × Int32 × Int32) => ∀ (H : Heap) (locs : List Loc) (ls : Array Slot), va_P D vwCl (WX7 cI cZ cR q0 d0) H → va_D A (WX7 cI cZ cR q0 d0) → va_S A H0 H locs → lv_has ls 4 [(1, .float o.1), (2, .int o.2.1)] → W p l e rmX7_averageAspect s m args below meth c H locs 0 0 Q (F0 m 51 ls [])) ?_
  intro st r hf hk H locs ls hP hD hS hl
  unfold bX7_averageAspect_6 at hf
  refine lv_iload_n hx hb dX7_averageAspect_6 rfl (lv_at hl 3 rfl) ?_
  refine lv_aload_n hx hb dX7_averageAspect_7 rfl (lv_at hl 0 rfl) ?_
  refine va_get (D := D) (ci := 7) (v := .ref (q0 1)) (C := RX7) (T := TX7) (N := 8) hx hb hts uX7_averageAspect_X7 hown hK hP 0 rfl rfl 0 (by decide) (hts _ kX7_averageAspect_f10) (fun _ h9 => h9) rfl dX7_averageAspect_8 ?_
  refine va_get (D := D) (ci := 5) (v := .int (d0 1 2)) (C := RX5) (T := TX5) (N := 7) hx hb hts uX7_averageAspect_X5 hown hK hP 1 rfl rfl 2 (by decide) (hts _ kX7_averageAspect_f51) (fun _ h9 => h9) rfl dX7_averageAspect_11 ?_
  refine lv_icmp_ge (tgt := 51) hx hb dX7_averageAspect_14 (by decide) (fun c_1 => ?_) (fun c_1 => ?_)
  · have hf := tm_iT c_1 hf
    obtain rfl := Option.some.inj hf
    exact hk _ _ _ hP hD hS (lv_sub hl [1, 2] rfl)
  · have hf := tm_iF c_1 hf
    refine lv_aload_n hx hb dX7_averageAspect_17 rfl (lv_at hl 0 rfl) ?_
    refine va_get (D := D) (ci := 7) (v := .ref (q0 4)) (C := RX7) (T := TX7) (N := 8) hx hb hts uX7_averageAspect_X7 hown hK hP 0 rfl rfl 1 (by decide) (hts _ kX7_averageAspect_f19) (fun _ h9 => h9) rfl dX7_averageAspect_18 ?_
    refine lv_iload_n hx hb dX7_averageAspect_21 rfl (lv_at hl 3 rfl) ?_
    obtain ⟨t_2, ot_2, hf⟩ := tm_bS hf
    refine tm_cVI (As := [.int st.2.2]) (rest := []) ⟨hx, hb, hml, hown, hts⟩ (tX1_isLeafWithArea l D cI cZ cR N (tm_sq q0 4) (tm_sh d0 4) st.2.2 t_2 ot_2) (cwV 1 hts gX7_averageAspect_X1_isLeafWithArea rfl rfl rfl hdwsV_X1_isLeafWithArea ⟨Nat.le_of_ble_eq_true rfl, Nat.le_of_ble_eq_true rfl⟩) hK hP hD hS hA [4, 5, 6, 7, 8, 9, 10, 11, 12, 13, 14, 15, 16, 17, 18, 19, 20, 21, 22, 23, 24, 25, 26, 27, 28, 29] (by decide) rfl rfl (ci := 1) rfl rfl rfl (fun _ => WX7 cI cZ cR q0 d0) (()) rfl rfl hl.1 rfl (Nat.le_of_ble_eq_true rfl) dX7_averageAspect_22 ⟨Nat.zero_le _, Nat.zero_le _⟩ (fun _ _ H locs hP hD hS => ?_)
    refine lv_if_eq (tgt := 45) hx hb dX7_averageAspect_25 (by decide) (fun c_3 => ?_) (fun c_3 => ?_)
    · have hf := tm_iT c_3 hf
      obtain ⟨x_4, ex_4⟩ : ∃ y : Int32, y = st.2.2 + 1 := ⟨_, rfl⟩
      have hf := tm_at ex_4 hf
      refine lv_iinc (v := x_4) (lv' := [(3, .int x_4), (0, .ref (q0 0)), (1, .float st.1), (2, .int st.2.1)]) hx hb dX7_averageAspect_45 hl (k := 3) rfl (by rw [ex_4]; rfl) (by decide) rfl (fun ls hl => ?_)
      refine lv_goto (tgt := 6) hx hb dX7_averageAspect_48 (by decide) ?_
      obtain rfl := Option.some.inj hf
      exact hk _ _ _ hP hD hS (lv_sub hl [1, 2, 3, 0] rfl)
    · have hf := tm_iF c_3 hf
      refine lv_fload_n hx hb dX7_averageAspect_28 rfl (lv_at hl 1 rfl) ?_
      refine lv_aload_n hx hb dX7_averageAspect_29 rfl (lv_at hl 0 rfl) ?_
      refine va_get (D := D) (ci := 7) (v := .ref (q0 4)) (C := RX7) (T := TX7) (N := 8) hx hb hts uX7_averageAspect_X7 hown hK hP 0 rfl rfl 1 (by decide) (hts _ kX7_averageAspect_f19) (fun _ h9 => h9) rfl dX7_averageAspect_30 ?_
      refine va_get (D := D) (ci := 1) (v := .ref (q0 8)) (C := RX1) (T := TX1) (N := 8) hx hb hts uX7_averageAspect_X1 hown hK hP 4 rfl rfl 3 (by decide) (hts _ kX7_averageAspect_f107) (fun _ h9 => h9) rfl dX7_averageAspect_33 ?_
      refine lv_iload_n hx hb dX7_averageAspect_36 rfl (lv_at hl 3 rfl) ?_
      obtain ⟨t_5, ot_5, hf⟩ := tm_bS hf
      refine tm_cVF (As := [.int st.2.2]) (rest := [.float st.1]) ⟨hx, hb, hml, hown, hts⟩ (tX3_aspect l D cI cZ cR N (tm_sq q0 8) (tm_sh d0 8) st.2.2 t_5 ot_5) (cwV 1 hts gX7_averageAspect_X3_aspect rfl rfl rfl hdwsV_X3_aspect ⟨Nat.le_of_ble_eq_true rfl, Nat.le_of_ble_eq_true rfl⟩) hK hP hD hS hA [8, 9, 10, 11, 12] (by decide) rfl rfl (ci := 3) rfl rfl rfl (fun _ => WX7 cI cZ cR q0 d0) (()) rfl rfl hl.1 rfl (Nat.le_of_ble_eq_true rfl) dX7_averageAspect_37 ⟨Nat.zero_le _, Nat.zero_le _⟩ (fun _ _ H locs hP hD hS => ?_)
      obtain ⟨h_6, hf⟩ := tm_gS hf
      refine lv_fadd hx hb dX7_averageAspect_40 (tm_nn_n h_6) ?_
      refine lv_topf (fun x_7 ex_7 => ?_)
      have hf := tm_at ex_7 hf
      refine lv_fstore_n (lv' := [(1, .float x_7), (0, .ref (q0 0)), (2, .int st.2.1), (3, .int st.2.2)]) hx hb dX7_averageAspect_41 rfl hl (by decide) rfl (fun ls hl => ?_)
      obtain ⟨x_8, ex_8⟩ : ∃ y : Int32, y = st.2.1 + 1 := ⟨_, rfl⟩
      have hf := tm_at ex_8 hf
      refine lv_iinc (v := x_8) (lv' := [(2, .int x_8), (1, .float x_7), (0, .ref (q0 0)), (3, .int st.2.2)]) hx hb dX7_averageAspect_42 hl (k := 2) rfl (by rw [ex_8]; rfl) (by decide) rfl (fun ls hl => ?_)
      obtain ⟨x_9, ex_9⟩ : ∃ y : Int32, y = st.2.2 + 1 := ⟨_, rfl⟩
      have hf := tm_at ex_9 hf
      refine lv_iinc (v := x_9) (lv' := [(3, .int x_9), (2, .int x_8), (1, .float x_7), (0, .ref (q0 0))]) hx hb dX7_averageAspect_45 hl (k := 3) rfl (by rw [ex_9]; rfl) (by decide) rfl (fun ls hl => ?_)
      refine lv_goto (tgt := 6) hx hb dX7_averageAspect_48 (by decide) ?_
      obtain rfl := Option.some.inj hf
      exact hk _ _ _ hP hD hS (lv_sub hl [3, 2, 1, 0] rfl)
set_option maxHeartbeats 4000000 in
set_option maxRecDepth 100000 in
theorem tX7_averageAspect (l : Launch) (D : va_G) (cI cZ cR : ClassId) (N : Nat) (q0 : Nat → Nat) (d0 : tm_M) (r0 : Int32) (hf : fX7_averageAspect N d0 = some r0) : tm_CI l D (tm_ty cI cZ cR) yX7_averageAspect wsX7_averageAspect rmX7_averageAspect [.ref (q0 0)] (WX7 cI cZ cR q0 d0) r0 (WX7 cI cZ cR q0 d0) := by
  refine tm_mkI (cc := cX7_averageAspect) (maxL := 4) (ty := .int) (by decide) rfl (Nat.le_of_ble_eq_true rfl) ?_
  intro p e s m below meth c A ls Q C hP hD hS hl hend
  have C : tm_Cx p s m c [.ref (q0 0)].toArray cX7_averageAspect 4 RX7 wsX7_averageAspect D (tm_ty cI cZ cR) A s.heap := C
  obtain ⟨hx, hb, hml, hown, hts, hK, hA⟩ := id C
  have hl : lv_has ls 4 [(0, .ref (q0 0))] := hl
  unfold fX7_averageAspect at hf
  refine lv_fconst0 hx hb dX7_averageAspect_0 ?_
  refine lv_fstore_n (lv' := [(1, .float FP.fconst0), (0, .ref (q0 0))]) hx hb dX7_averageAspect_1 rfl hl (by decide) rfl (fun ls hl => ?_)
  refine lv_iconst (v := 0) hx hb dX7_averageAspect_2 (by decide) ?_
  refine lv_istore_n (lv' := [(2, .int 0), (1, .float FP.fconst0), (0, .ref (q0 0))]) hx hb dX7_averageAspect_3 rfl hl (by decide) rfl (fun ls hl => ?_)
  refine lv_iconst (v := 0) hx hb dX7_averageAspect_4 (by decide) ?_
  refine lv_istore_n (lv' := [(3, .int 0), (2, .int 0), (1, .float FP.fconst0), (0, .ref (q0 0))]) hx hb dX7_averageAspect_5 rfl hl (by decide) rfl (fun ls hl => ?_)
  obtain ⟨t_10, ot_10, hf⟩ := tm_bS hf
  refine wX7_averageAspect_6 l D cI cZ cR N q0 C d0 _ _ _ ot_10 ?_ _ _ _ hP hD hS (lv_sub hl [3, 2, 1, 0] rfl)
  intro H locs ls hP hD hS hl
  refine lv_iload_n hx hb dX7_averageAspect_51 rfl (lv_at hl 1 rfl) ?_
  refine lv_if_le (tgt := 65) hx hb dX7_averageAspect_52 (by decide) (fun c_11 => ?_) (fun c_11 => ?_)
  · have hf := tm_iT c_11 hf
    refine lv_iconst (v := (-1)) hx hb dX7_averageAspect_65 (by decide) ?_
    obtain rfl := Option.some.inj hf
    exact hend _ _ _ _ hP hD hS rfl dX7_averageAspect_66
  · have hf := tm_iF c_11 hf
    refine lv_fload_n hx hb dX7_averageAspect_55 rfl (lv_at hl 0 rfl) ?_
    refine lv_iload_n hx hb dX7_averageAspect_56 rfl (lv_at hl 1 rfl) ?_
    refine lv_i2f hx hb dX7_averageAspect_57 ?_
    obtain ⟨h_12, hf⟩ := tm_gS hf
    refine lv_fdiv hx hb dX7_averageAspect_58 (tm_nn_n h_12) ?_
    obtain ⟨t_13, ot_13, hf⟩ := tm_bS hf
    refine tm_cSI (As := [.float (FP.fdiv t_10.1 (FP.i2f t_10.2.1))]) (rest := []) ⟨hx, hb, hml, hown, hts⟩ (tX7_floatBits l D cI cZ cR N (FP.fdiv t_10.1 (FP.i2f t_10.2.1)) t_13 ot_13) (va_cwS 1 hts gX7_averageAspect_X7_floatBits rfl rfl rfl hdwsS_X7_floatBits ⟨Nat.le_of_ble_eq_true rfl, Nat.le_of_ble_eq_true rfl⟩) hK hP hD hS hA [] (by decide) rfl rfl (fun _ => WX7 cI cZ cR q0 d0) (()) rfl rfl hl.1 rfl (Nat.le_of_ble_eq_true rfl) dX7_averageAspect_59 ⟨Nat.zero_le _, Nat.zero_le _⟩ (fun _ _ H locs hP hD hS => ?_)
    refine lv_goto (tgt := 66) hx hb dX7_averageAspect_62 (by decide) ?_
    obtain rfl := Option.some.inj hf
    exact hend _ _ _ _ hP hD hS rfl dX7_averageAspect_66
set_option maxHeartbeats 4000000 in
set_option maxRecDepth 100000 in
theorem wX7_changeBy_60 (l : Launch) (D : va_G) (cI cZ cR : ClassId) (N : Nat) (q0 : Nat → Nat) {p : Program} {e : Env} {s : State} {m : MethodId} {args : Array Value} {below : List Frame} {meth : Method} {c : Code} {A : Nat → Prop} {H0 : Heap} {Q : State → Prop} (C : tm_Cx p s m c args cX7_changeBy 5 RX7 wsX7_changeBy D (tm_ty cI cZ cR) A H0) (d0 : tm_M) : ∀ (n : Nat) (st : Int32 × Int32) (o : (Int32 × Int32)), tm_whl (bX7_changeBy_60 N d0) n st = some o → (fun (o : Int32 × Int32) => ∀ (H : Heap) (locs : List Loc) (ls : Array Slot), va_P D vwCl (WX7 cI cZ cR q0 d0) H → va_D A (WX7 cI cZ cR q0 d0) → va_S A H0 H locs → lv_has ls 5 [(3, .int o.1)] → W p l e rmX7_changeBy s m args below meth c H locs 0 0 Q (F0 m 100 ls [])) o → (fun (st : Int32 × Int32) => ∀ (H : Heap) (locs : List Loc) (ls : Array Slot), va_P D vwCl (WX7 cI cZ cR q0 d0) H → va_D A (WX7 cI cZ cR q0 d0) → va_S A H0 H locs → lv_has ls 5 [(0, .ref (q0 0)), (3, .int st.1), (4, .int st.2)] → W p l e rmX7_changeBy s m args below meth c H locs 0 0 Q (F0 m 60 ls [])) st := by
  obtain ⟨hx, hb, hml, hown, hts, hK, hA⟩ := id C
  refine tm_whl_W (Wh := fun (st : Int32 × Int32) => ∀ (H : Heap) (locs : List Loc) (ls : Array Slot), va_P D vwCl (WX7 cI cZ cR q0 d0) H → va_D A (WX7 cI cZ cR q0 d0) → va_S A H0 H locs → lv_has ls 5 [(0, .ref (q0 0)), (3, .int st.1), (4, .int st.2)] → W p l e rmX7_changeBy s m args below meth c H locs 0 0 Q (F0 m 60 ls [])) (Wx := fun (o : Int32 × Int32) => ∀ (H : Heap) (locs : List Loc) (ls : Array Slot), va_P D vwCl (WX7 cI cZ cR q0 d0) H → va_D A (WX7 cI cZ cR q0 d0) → va_S A H0 H locs → lv_has ls 5 [(3, .int o.1)] → W p l e rmX7_changeBy s m args below meth c H locs 0 0 Q (F0 m 100 ls [])) ?_
  intro st r hf hk H locs ls hP hD hS hl
  unfold bX7_changeBy_60 at hf
  refine lv_iload hx hb dX7_changeBy_60 (lv_at hl 2 rfl) ?_
  refine lv_aload_n hx hb dX7_changeBy_62 rfl (lv_at hl 0 rfl) ?_
  refine va_get (D := D) (ci := 7) (v := .ref (q0 1)) (C := RX7) (T := TX7) (N := 8) hx hb hts uX7_changeBy_X7 hown hK hP 0 rfl rfl 0 (by decide) (hts _ kX7_changeBy_f10) (fun _ h9 => h9) rfl dX7_changeBy_63 ?_
  refine va_get (D := D) (ci := 5) (v := .int (d0 1 2)) (C := RX5) (T := TX5) (N := 7) hx hb hts uX7_changeBy_X5 hown hK hP 1 rfl rfl 2 (by decide) (hts _ kX7_changeBy_f51) (fun _ h9 => h9) rfl dX7_changeBy_66 ?_
  refine lv_icmp_ge (tgt := 100) hx hb dX7_changeBy_69 (by decide) (fun c_12 => ?_) (fun c_12 => ?_)
  · have hf := tm_iT c_12 hf
    obtain rfl := Option.some.inj hf
    exact hk _ _ _ hP hD hS (lv_sub hl [1] rfl)
  · have hf := tm_iF c_12 hf
    refine lv_iload_n hx hb dX7_changeBy_72 rfl (lv_at hl 1 rfl) ?_
    refine lv_aload_n hx hb dX7_changeBy_73 rfl (lv_at hl 0 rfl) ?_
    refine va_get (D := D) (ci := 7) (v := .ref (q0 4)) (C := RX7) (T := TX7) (N := 8) hx hb hts uX7_changeBy_X7 hown hK hP 0 rfl rfl 1 (by decide) (hts _ kX7_changeBy_f19) (fun _ h9 => h9) rfl dX7_changeBy_74 ?_
    refine va_get (D := D) (ci := 1) (v := .ref (q0 8)) (C := RX1) (T := TX1) (N := 8) hx hb hts uX7_changeBy_X1 hown hK hP 4 rfl rfl 3 (by decide) (hts _ kX7_changeBy_f107) (fun _ h9 => h9) rfl dX7_changeBy_77 ?_
    refine lv_iload hx hb dX7_changeBy_80 (lv_at hl 2 rfl) ?_
    refine lv_aload_n hx hb dX7_changeBy_82 rfl (lv_at hl 0 rfl) ?_
    refine va_get (D := D) (ci := 7) (v := .ref (q0 47)) (C := RX7) (T := TX7) (N := 8) hx hb hts uX7_changeBy_X7 hown hK hP 0 rfl rfl 4 (by decide) (hts _ kX7_changeBy_f33) (fun _ h9 => h9) rfl dX7_changeBy_83 ?_
    refine va_get (D := D) (ci := 1) (v := .ref (q0 51)) (C := RX1) (T := TX1) (N := 8) hx hb hts uX7_changeBy_X1 hown hK hP 47 rfl rfl 3 (by decide) (hts _ kX7_changeBy_f107) (fun _ h9 => h9) rfl dX7_changeBy_86 ?_
    obtain ⟨t_13, ot_13, hf⟩ := tm_bS hf
    refine tm_cVI (As := [.int st.2, .ref (q0 51)]) (rest := [.int st.1]) ⟨hx, hb, hml, hown, hts⟩ (tX3_difference l D cI cZ cR N (tm_sq q0 8) (tm_sq q0 51) (tm_sh d0 8) (tm_sh d0 51) st.2 t_13 ot_13) (cwV 2 hts gX7_changeBy_X3_difference rfl rfl rfl hdwsV_X3_difference ⟨Nat.le_of_ble_eq_true rfl, Nat.le_of_ble_eq_true rfl⟩) hK hP hD hS hA [8, 9, 10, 11, 12, 51, 52, 53, 54, 55] (by decide) rfl rfl (ci := 3) rfl rfl rfl (fun _ => WX7 cI cZ cR q0 d0) (()) rfl rfl hl.1 rfl (Nat.le_of_ble_eq_true rfl) dX7_changeBy_89 ⟨Nat.zero_le _, Nat.zero_le _⟩ (fun _ _ H locs hP hD hS => ?_)
    refine lv_iadd hx hb dX7_changeBy_92 ?_
    refine lv_topi (fun x_14 ex_14 => ?_)
    have hf := tm_at ex_14 hf
    refine lv_istore_n (lv' := [(3, .int x_14), (0, .ref (q0 0)), (4, .int st.2)]) hx hb dX7_changeBy_93 rfl hl (by decide) rfl (fun ls hl => ?_)
    obtain ⟨x_15, ex_15⟩ : ∃ y : Int32, y = st.2 + 1 := ⟨_, rfl⟩
    have hf := tm_at ex_15 hf
    refine lv_iinc (v := x_15) (lv' := [(4, .int x_15), (3, .int x_14), (0, .ref (q0 0))]) hx hb dX7_changeBy_94 hl (k := 2) rfl (by rw [ex_15]; rfl) (by decide) rfl (fun ls hl => ?_)
    refine lv_goto (tgt := 60) hx hb dX7_changeBy_97 (by decide) ?_
    obtain rfl := Option.some.inj hf
    exact hk _ _ _ hP hD hS (lv_sub hl [2, 1, 0] rfl)
set_option maxHeartbeats 4000000 in
set_option maxRecDepth 100000 in
theorem tX7_changeBy (l : Launch) (D : va_G) (cI cZ cR : ClassId) (N : Nat) (q0 : Nat → Nat) (d0 : tm_M) (p1 : Int32) (p2 : Int32) (r0 : Int32) (z0 : tm_M) (hf : fX7_changeBy N d0 p1 p2 = some (r0, z0)) : tm_CI l D (tm_ty cI cZ cR) yX7_changeBy wsX7_changeBy rmX7_changeBy [.ref (q0 0), .int p1, .int p2] (WX7 cI cZ cR q0 d0) r0 (WX7 cI cZ cR q0 z0) := by
  refine tm_mkI (cc := cX7_changeBy) (maxL := 5) (ty := .int) (by decide) rfl (Nat.le_of_ble_eq_true rfl) ?_
  intro p e s m below meth c A ls Q C hP hD hS hl hend
  have C : tm_Cx p s m c [.ref (q0 0), .int p1, .int p2].toArray cX7_changeBy 5 RX7 wsX7_changeBy D (tm_ty cI cZ cR) A s.heap := C
  obtain ⟨hx, hb, hml, hown, hts, hK, hA⟩ := id C
  have hl : lv_has ls 5 [(0, .ref (q0 0)), (1, .int p1), (2, .int p2)] := hl
  unfold fX7_changeBy at hf
  refine lv_aload_n hx hb dX7_changeBy_0 rfl (lv_at hl 0 rfl) ?_
  refine va_get (D := D) (ci := 7) (v := .ref (q0 1)) (C := RX7) (T := TX7) (N := 8) hx hb hts uX7_changeBy_X7 hown hK hP 0 rfl rfl 0 (by decide) (hts _ kX7_changeBy_f10) (fun _ h9 => h9) rfl dX7_changeBy_1 ?_
  refine lv_iload_n hx hb dX7_changeBy_4 rfl (lv_at hl 1 rfl) ?_
  obtain ⟨t_1, ot_1, hf⟩ := tm_bS hf
  refine tm_cVI (As := [.int p1]) (rest := []) ⟨hx, hb, hml, hown, hts⟩ (tX5_has l D cI cZ cR N (tm_sq q0 1) (tm_sh d0 1) p1 t_1 ot_1) (cwV 1 hts gX7_changeBy_X5_has rfl rfl rfl hdwsV_X5_has ⟨Nat.le_of_ble_eq_true rfl, Nat.le_of_ble_eq_true rfl⟩) hK hP hD hS hA [1, 2, 3] (by decide) rfl rfl (ci := 5) rfl rfl rfl (fun _ => WX7 cI cZ cR q0 d0) (()) rfl rfl hl.1 rfl (Nat.le_of_ble_eq_true rfl) dX7_changeBy_5 ⟨Nat.zero_le _, Nat.zero_le _⟩ (fun _ _ H locs hP hD hS => ?_)
  refine lv_if_eq (tgt := 18) hx hb dX7_changeBy_8 (by decide) (fun c_2 => ?_) (fun c_2 => ?_)
  · have hf := tm_iT c_2 hf
    refine lv_aload_n hx hb dX7_changeBy_18 rfl (lv_at hl 0 rfl) ?_
    obtain ⟨t_3, ot_3, hf⟩ := tm_bS hf
    refine tm_cVI (As := []) (rest := []) ⟨hx, hb, hml, hown, hts⟩ (tX7_failInvalid l D cI cZ cR N q0 d0 t_3.1 t_3.2 ot_3) (cwV 0 hts gX7_changeBy_X7_failInvalid rfl rfl rfl hdwsV_X7_failInvalid ⟨Nat.le_of_ble_eq_true rfl, Nat.le_of_ble_eq_true rfl⟩) hK hP hD hS hA [0, 1, 2, 3, 4, 5, 6, 7, 8, 9, 10, 11, 12, 13, 14, 15, 16, 17, 18, 19, 20, 21, 22, 23, 24, 25, 26, 27, 28, 29, 30, 31, 32, 33, 34, 35, 36, 37, 38, 39, 40, 41, 42, 43, 44, 45, 46, 47, 48, 49, 50, 51, 52, 53, 54, 55, 56, 57, 58, 59, 60, 61, 62, 63, 64, 65, 66, 67, 68, 69, 70, 71, 72] (by decide) rfl rfl (ci := 7) rfl rfl rfl (fun _ => WX7 cI cZ cR q0 t_3.2) (()) rfl rfl hl.1 rfl (Nat.le_of_ble_eq_true rfl) dX7_changeBy_19 ⟨Nat.zero_le _, Nat.zero_le _⟩ (fun _ _ H locs hP hD hS => ?_)
    simp only [Option.some.injEq, Prod.mk.injEq] at hf
    obtain ⟨rfl, rfl⟩ := hf
    exact hend _ _ _ _ hP hD hS rfl dX7_changeBy_22
  · have hf := tm_iF c_2 hf
    refine lv_iload_n hx hb dX7_changeBy_11 rfl (lv_at hl 2 rfl) ?_
    obtain ⟨t_4, ot_4, hf⟩ := tm_bS hf
    refine tm_cSI (As := [.int p2]) (rest := []) ⟨hx, hb, hml, hown, hts⟩ (tX7_isSize l D cI cZ cR N p2 t_4 ot_4) (va_cwS 1 hts gX7_changeBy_X7_isSize rfl rfl rfl hdwsS_X7_isSize ⟨Nat.le_of_ble_eq_true rfl, Nat.le_of_ble_eq_true rfl⟩) hK hP hD hS hA [] (by decide) rfl rfl (fun _ => WX7 cI cZ cR q0 d0) (()) rfl rfl hl.1 rfl (Nat.le_of_ble_eq_true rfl) dX7_changeBy_12 ⟨Nat.zero_le _, Nat.zero_le _⟩ (fun _ _ H locs hP hD hS => ?_)
    refine lv_if_ne (tgt := 23) hx hb dX7_changeBy_15 (by decide) (fun c_5 => ?_) (fun c_5 => ?_)
    · have hf := tm_iF c_5 hf
      refine lv_aload_n hx hb dX7_changeBy_23 rfl (lv_at hl 0 rfl) ?_
      refine va_get (D := D) (ci := 7) (v := .ref (q0 44)) (C := RX7) (T := TX7) (N := 8) hx hb hts uX7_changeBy_X7 hown hK hP 0 rfl rfl 3 (by decide) (hts _ kX7_changeBy_f30) (fun _ h9 => h9) rfl dX7_changeBy_24 ?_
      refine lv_aload_n hx hb dX7_changeBy_27 rfl (lv_at hl 0 rfl) ?_
      refine va_get (D := D) (ci := 7) (v := .ref (q0 1)) (C := RX7) (T := TX7) (N := 8) hx hb hts uX7_changeBy_X7 hown hK hP 0 rfl rfl 0 (by decide) (hts _ kX7_changeBy_f10) (fun _ h9 => h9) rfl dX7_changeBy_28 ?_
      obtain ⟨t_6, ot_6, hf⟩ := tm_bS hf
      refine tm_cVV (As := [.ref (q0 1)]) (rest := []) ⟨hx, hb, hml, hown, hts⟩ (tX5_copyFrom l D cI cZ cR N (tm_sq q0 44) (tm_sq q0 1) (tm_sh d0 44) (tm_sh d0 1) t_6 ot_6) (cwV 1 hts gX7_changeBy_X5_copyFrom rfl rfl rfl hdwsV_X5_copyFrom ⟨Nat.le_of_ble_eq_true rfl, Nat.le_of_ble_eq_true rfl⟩) hK hP hD hS hA [44, 45, 46, 1, 2, 3] (by decide) rfl rfl (ci := 5) rfl rfl rfl (fun z => WX7 cI cZ cR q0 z) (tm_ins d0 44 3 t_6) rfl rfl hl.1 rfl (Nat.le_of_ble_eq_true rfl) dX7_changeBy_31 ⟨Nat.zero_le _, Nat.zero_le _⟩ (fun d0_7 ed0_7 H locs hP hD hS => ?_)
      have hf := tm_at ed0_7 hf
      refine lv_aload_n hx hb dX7_changeBy_34 rfl (lv_at hl 0 rfl) ?_
      refine va_get (D := D) (ci := 7) (v := .ref (q0 44)) (C := RX7) (T := TX7) (N := 8) hx hb hts uX7_changeBy_X7 hown hK hP 0 rfl rfl 3 (by decide) (hts _ kX7_changeBy_f30) (fun _ h9 => h9) rfl dX7_changeBy_35 ?_
      refine va_get (D := D) (ci := 5) (v := .ref (q0 45)) (C := RX5) (T := TX5) (N := 7) hx hb hts uX7_changeBy_X5 hown hK hP 44 rfl rfl 0 (by decide) (hts _ kX7_changeBy_f65) (fun _ h9 => h9) rfl dX7_changeBy_38 ?_
      refine lv_iload_n hx hb dX7_changeBy_41 rfl (lv_at hl 1 rfl) ?_
      refine lv_iload_n hx hb dX7_changeBy_42 rfl (lv_at hl 2 rfl) ?_
      obtain ⟨h_8, hf⟩ := tm_gS hf
      refine tm_iast hx hb hK hP hD hS 45 0 rfl rfl (tm_inb_in h_8) dX7_changeBy_43 (fun z => WX7 cI cZ cR q0 z) (tm_upc d0_7 45 (upd (d0_7 45) p1.toNatClampNeg p2)) rfl (fun d0_9 ed0_9 H locs hP hD hS => ?_)
      have hf := tm_at ed0_9 hf
      refine lv_aload_n hx hb dX7_changeBy_44 rfl (lv_at hl 0 rfl) ?_
      refine va_get (D := D) (ci := 7) (v := .ref (q0 47)) (C := RX7) (T := TX7) (N := 8) hx hb hts uX7_changeBy_X7 hown hK hP 0 rfl rfl 4 (by decide) (hts _ kX7_changeBy_f33) (fun _ h9 => h9) rfl dX7_changeBy_45 ?_
      refine lv_aload_n hx hb dX7_changeBy_48 rfl (lv_at hl 0 rfl) ?_
      refine va_get (D := D) (ci := 7) (v := .ref (q0 44)) (C := RX7) (T := TX7) (N := 8) hx hb hts uX7_changeBy_X7 hown hK hP 0 rfl rfl 3 (by decide) (hts _ kX7_changeBy_f30) (fun _ h9 => h9) rfl dX7_changeBy_49 ?_
      obtain ⟨t_10, ot_10, hf⟩ := tm_bS hf
      refine tm_cVV (As := [.ref (q0 44)]) (rest := []) ⟨hx, hb, hml, hown, hts⟩ (tX1_arrange l D cI cZ cR N (tm_sq q0 47) (tm_sq q0 44) (tm_sh d0_9 47) (tm_sh d0_9 44) t_10 ot_10) (cwV 1 hts gX7_changeBy_X1_arrange rfl rfl rfl hdwsV_X1_arrange ⟨Nat.le_of_ble_eq_true rfl, Nat.le_of_ble_eq_true rfl⟩) hK hP hD hS hA [47, 48, 49, 50, 51, 52, 53, 54, 55, 56, 57, 58, 59, 60, 61, 62, 63, 64, 65, 66, 67, 68, 69, 70, 71, 72, 44, 45, 46] (by decide) rfl rfl (ci := 1) rfl rfl rfl (fun z => WX7 cI cZ cR q0 z) (tm_ins d0_9 47 26 t_10) rfl rfl hl.1 rfl (Nat.le_of_ble_eq_true rfl) dX7_changeBy_52 ⟨Nat.zero_le _, Nat.zero_le _⟩ (fun d0_11 ed0_11 H locs hP hD hS => ?_)
      have hf := tm_at ed0_11 hf
      refine lv_iconst (v := 0) hx hb dX7_changeBy_55 (by decide) ?_
      refine lv_istore_n (lv' := [(3, .int 0), (0, .ref (q0 0)), (1, .int p1), (2, .int p2)]) hx hb dX7_changeBy_56 rfl hl (by decide) rfl (fun ls hl => ?_)
      refine lv_iconst (v := 0) hx hb dX7_changeBy_57 (by decide) ?_
      refine lv_istore (lv' := [(4, .int 0), (3, .int 0), (0, .ref (q0 0)), (1, .int p1), (2, .int p2)]) hx hb dX7_changeBy_58 hl (by decide) rfl (fun ls hl => ?_)
      obtain ⟨t_16, ot_16, hf⟩ := tm_bS hf
      refine wX7_changeBy_60 l D cI cZ cR N q0 C d0_11 _ _ _ ot_16 ?_ _ _ _ hP hD hS (lv_sub hl [2, 1, 0] rfl)
      intro H locs ls hP hD hS hl
      refine lv_iload_n hx hb dX7_changeBy_100 rfl (lv_at hl 0 rfl) ?_
      simp only [Option.some.injEq, Prod.mk.injEq] at hf
      obtain ⟨rfl, rfl⟩ := hf
      exact hend _ _ _ _ hP hD hS rfl dX7_changeBy_101
    · have hf := tm_iT c_5 hf
      refine lv_aload_n hx hb dX7_changeBy_18 rfl (lv_at hl 0 rfl) ?_
      obtain ⟨t_17, ot_17, hf⟩ := tm_bS hf
      refine tm_cVI (As := []) (rest := []) ⟨hx, hb, hml, hown, hts⟩ (tX7_failInvalid l D cI cZ cR N q0 d0 t_17.1 t_17.2 ot_17) (cwV 0 hts gX7_changeBy_X7_failInvalid rfl rfl rfl hdwsV_X7_failInvalid ⟨Nat.le_of_ble_eq_true rfl, Nat.le_of_ble_eq_true rfl⟩) hK hP hD hS hA [0, 1, 2, 3, 4, 5, 6, 7, 8, 9, 10, 11, 12, 13, 14, 15, 16, 17, 18, 19, 20, 21, 22, 23, 24, 25, 26, 27, 28, 29, 30, 31, 32, 33, 34, 35, 36, 37, 38, 39, 40, 41, 42, 43, 44, 45, 46, 47, 48, 49, 50, 51, 52, 53, 54, 55, 56, 57, 58, 59, 60, 61, 62, 63, 64, 65, 66, 67, 68, 69, 70, 71, 72] (by decide) rfl rfl (ci := 7) rfl rfl rfl (fun _ => WX7 cI cZ cR q0 t_17.2) (()) rfl rfl hl.1 rfl (Nat.le_of_ble_eq_true rfl) dX7_changeBy_19 ⟨Nat.zero_le _, Nat.zero_le _⟩ (fun _ _ H locs hP hD hS => ?_)
      simp only [Option.some.injEq, Prod.mk.injEq] at hf
      obtain ⟨rfl, rfl⟩ := hf
      exact hend _ _ _ _ hP hD hS rfl dX7_changeBy_22
set_option maxHeartbeats 4000000 in
set_option maxRecDepth 100000 in
theorem tX7_undo (l : Launch) (D : va_G) (cI cZ cR : ClassId) (N : Nat) (q0 : Nat → Nat) (d0 : tm_M) (r0 : Int32) (z0 : tm_M) (hf : fX7_undo N d0 = some (r0, z0)) : tm_CI l D (tm_ty cI cZ cR) yX7_undo wsX7_undo rmX7_undo [.ref (q0 0)] (WX7 cI cZ cR q0 d0) r0 (WX7 cI cZ cR q0 z0) := by
  refine tm_mkI (cc := cX7_undo) (maxL := 1) (ty := .int) (by decide) rfl (Nat.le_of_ble_eq_true rfl) ?_
  intro p e s m below meth c A ls Q C hP hD hS hl hend
  have C : tm_Cx p s m c [.ref (q0 0)].toArray cX7_undo 1 RX7 wsX7_undo D (tm_ty cI cZ cR) A s.heap := C
  obtain ⟨hx, hb, hml, hown, hts, hK, hA⟩ := id C
  have hl : lv_has ls 1 [(0, .ref (q0 0))] := hl
  unfold fX7_undo at hf
  refine lv_aload_n hx hb dX7_undo_0 rfl (lv_at hl 0 rfl) ?_
  refine va_get (D := D) (ci := 7) (v := .ref (q0 30)) (C := RX7) (T := TX7) (N := 8) hx hb hts uX7_undo_X7 hown hK hP 0 rfl rfl 2 (by decide) (hts _ kX7_undo_f26) (fun _ h9 => h9) rfl dX7_undo_1 ?_
  refine va_get (D := D) (ci := 6) (v := .int (d0 30 2)) (C := RX6) (T := TX6) (N := 3) hx hb hts uX7_undo_X6 hown hK hP 30 rfl rfl 2 (by decide) (hts _ kX7_undo_f154) (fun _ h9 => h9) rfl dX7_undo_4 ?_
  refine lv_if_gt (tgt := 15) hx hb dX7_undo_7 (by decide) (fun c_1 => ?_) (fun c_1 => ?_)
  · have hf := tm_iT c_1 hf
    refine lv_aload_n hx hb dX7_undo_15 rfl (lv_at hl 0 rfl) ?_
    refine va_get (D := D) (ci := 7) (v := .ref (q0 30)) (C := RX7) (T := TX7) (N := 8) hx hb hts uX7_undo_X7 hown hK hP 0 rfl rfl 2 (by decide) (hts _ kX7_undo_f26) (fun _ h9 => h9) rfl dX7_undo_16 ?_
    refine lv_aload_n hx hb dX7_undo_19 rfl (lv_at hl 0 rfl) ?_
    refine va_get (D := D) (ci := 7) (v := .ref (q0 1)) (C := RX7) (T := TX7) (N := 8) hx hb hts uX7_undo_X7 hown hK hP 0 rfl rfl 0 (by decide) (hts _ kX7_undo_f10) (fun _ h9 => h9) rfl dX7_undo_20 ?_
    obtain ⟨t_2, ot_2, hf⟩ := tm_bS hf
    refine tm_cVV (As := [.ref (q0 1)]) (rest := []) ⟨hx, hb, hml, hown, hts⟩ (tX6_popInto l D cI cZ cR N (tm_sq q0 30) (tm_sq q0 1) (tm_sh d0 30) (tm_sh d0 1) t_2.1 t_2.2 ot_2) (cwV 1 hts gX7_undo_X6_popInto rfl rfl rfl hdwsV_X6_popInto ⟨Nat.le_of_ble_eq_true rfl, Nat.le_of_ble_eq_true rfl⟩) hK hP hD hS hA [30, 31, 32, 33, 34, 35, 36, 37, 38, 39, 40, 41, 42, 43, 1, 2, 3] (by decide) rfl rfl (ci := 6) rfl rfl rfl (fun z => WX7 cI cZ cR q0 z) (tm_ins (tm_ins d0 30 14 t_2.1) 1 3 t_2.2) rfl rfl hl.1 rfl (Nat.le_of_ble_eq_true rfl) dX7_undo_23 ⟨Nat.zero_le _, Nat.zero_le _⟩ (fun d0_3 ed0_3 H locs hP hD hS => ?_)
    have hf := tm_at ed0_3 hf
    refine lv_aload_n hx hb dX7_undo_26 rfl (lv_at hl 0 rfl) ?_
    refine va_get (D := D) (ci := 7) (v := .ref (q0 4)) (C := RX7) (T := TX7) (N := 8) hx hb hts uX7_undo_X7 hown hK hP 0 rfl rfl 1 (by decide) (hts _ kX7_undo_f19) (fun _ h9 => h9) rfl dX7_undo_27 ?_
    refine lv_aload_n hx hb dX7_undo_30 rfl (lv_at hl 0 rfl) ?_
    refine va_get (D := D) (ci := 7) (v := .ref (q0 1)) (C := RX7) (T := TX7) (N := 8) hx hb hts uX7_undo_X7 hown hK hP 0 rfl rfl 0 (by decide) (hts _ kX7_undo_f10) (fun _ h9 => h9) rfl dX7_undo_31 ?_
    obtain ⟨t_4, ot_4, hf⟩ := tm_bS hf
    refine tm_cVV (As := [.ref (q0 1)]) (rest := []) ⟨hx, hb, hml, hown, hts⟩ (tX1_arrange l D cI cZ cR N (tm_sq q0 4) (tm_sq q0 1) (tm_sh d0_3 4) (tm_sh d0_3 1) t_4 ot_4) (cwV 1 hts gX7_undo_X1_arrange rfl rfl rfl hdwsV_X1_arrange ⟨Nat.le_of_ble_eq_true rfl, Nat.le_of_ble_eq_true rfl⟩) hK hP hD hS hA [4, 5, 6, 7, 8, 9, 10, 11, 12, 13, 14, 15, 16, 17, 18, 19, 20, 21, 22, 23, 24, 25, 26, 27, 28, 29, 1, 2, 3] (by decide) rfl rfl (ci := 1) rfl rfl rfl (fun z => WX7 cI cZ cR q0 z) (tm_ins d0_3 4 26 t_4) rfl rfl hl.1 rfl (Nat.le_of_ble_eq_true rfl) dX7_undo_34 ⟨Nat.zero_le _, Nat.zero_le _⟩ (fun d0_5 ed0_5 H locs hP hD hS => ?_)
    have hf := tm_at ed0_5 hf
    refine lv_aload_n hx hb dX7_undo_37 rfl (lv_at hl 0 rfl) ?_
    refine va_get (D := D) (ci := 7) (v := .ref (q0 30)) (C := RX7) (T := TX7) (N := 8) hx hb hts uX7_undo_X7 hown hK hP 0 rfl rfl 2 (by decide) (hts _ kX7_undo_f26) (fun _ h9 => h9) rfl dX7_undo_38 ?_
    refine va_get (D := D) (ci := 6) (v := .int (d0_5 30 2)) (C := RX6) (T := TX6) (N := 3) hx hb hts uX7_undo_X6 hown hK hP 30 rfl rfl 2 (by decide) (hts _ kX7_undo_f154) (fun _ h9 => h9) rfl dX7_undo_41 ?_
    simp only [Option.some.injEq, Prod.mk.injEq] at hf
    obtain ⟨rfl, rfl⟩ := hf
    exact hend _ _ _ _ hP hD hS rfl dX7_undo_44
  · have hf := tm_iF c_1 hf
    refine lv_aload_n hx hb dX7_undo_10 rfl (lv_at hl 0 rfl) ?_
    obtain ⟨t_6, ot_6, hf⟩ := tm_bS hf
    refine tm_cVI (As := []) (rest := []) ⟨hx, hb, hml, hown, hts⟩ (tX7_failRejected l D cI cZ cR N q0 d0 t_6.1 t_6.2 ot_6) (cwV 0 hts gX7_undo_X7_failRejected rfl rfl rfl hdwsV_X7_failRejected ⟨Nat.le_of_ble_eq_true rfl, Nat.le_of_ble_eq_true rfl⟩) hK hP hD hS hA [0, 1, 2, 3, 4, 5, 6, 7, 8, 9, 10, 11, 12, 13, 14, 15, 16, 17, 18, 19, 20, 21, 22, 23, 24, 25, 26, 27, 28, 29, 30, 31, 32, 33, 34, 35, 36, 37, 38, 39, 40, 41, 42, 43, 44, 45, 46, 47, 48, 49, 50, 51, 52, 53, 54, 55, 56, 57, 58, 59, 60, 61, 62, 63, 64, 65, 66, 67, 68, 69, 70, 71, 72] (by decide) rfl rfl (ci := 7) rfl rfl rfl (fun _ => WX7 cI cZ cR q0 t_6.2) (()) rfl rfl hl.1 rfl (Nat.le_of_ble_eq_true rfl) dX7_undo_11 ⟨Nat.zero_le _, Nat.zero_le _⟩ (fun _ _ H locs hP hD hS => ?_)
    simp only [Option.some.injEq, Prod.mk.injEq] at hf
    obtain ⟨rfl, rfl⟩ := hf
    exact hend _ _ _ _ hP hD hS rfl dX7_undo_14
set_option maxHeartbeats 4000000 in
set_option maxRecDepth 100000 in
theorem tX7_errorCount (l : Launch) (D : va_G) (cI cZ cR : ClassId) (N : Nat) (q0 : Nat → Nat) (d0 : tm_M) (p1 : Int32) (r0 : Int32) (z0 : tm_M) (hf : fX7_errorCount N d0 p1 = some (r0, z0)) : tm_CI l D (tm_ty cI cZ cR) yX7_errorCount wsX7_errorCount rmX7_errorCount [.ref (q0 0), .int p1] (WX7 cI cZ cR q0 d0) r0 (WX7 cI cZ cR q0 z0) := by
  refine tm_mkI (cc := cX7_errorCount) (maxL := 2) (ty := .int) (by decide) rfl (Nat.le_of_ble_eq_true rfl) ?_
  intro p e s m below meth c A ls Q C hP hD hS hl hend
  have C : tm_Cx p s m c [.ref (q0 0), .int p1].toArray cX7_errorCount 2 RX7 wsX7_errorCount D (tm_ty cI cZ cR) A s.heap := C
  obtain ⟨hx, hb, hml, hown, hts, hK, hA⟩ := id C
  have hl : lv_has ls 2 [(0, .ref (q0 0)), (1, .int p1)] := hl
  unfold fX7_errorCount at hf
  refine lv_iload_n hx hb dX7_errorCount_0 rfl (lv_at hl 1 rfl) ?_
  by_cases c_1 : p1 = 0
  · have hf := tm_iT c_1 hf
    refine lv_tableIn (off := 27) (tgt := 28) hx hb dX7_errorCount_1 (by rw [c_1]; decide) (by rw [c_1]; decide) (by rw [c_1] <;> rfl) (by decide) ?_
    refine lv_aload_n hx hb dX7_errorCount_28 rfl (lv_at hl 0 rfl) ?_
    refine va_get (D := D) (ci := 7) (v := .int (d0 0 5)) (C := RX7) (T := TX7) (N := 8) hx hb hts uX7_errorCount_X7 hown hK hP 0 rfl rfl 5 (by decide) (hts _ kX7_errorCount_f158) (fun _ h9 => h9) rfl dX7_errorCount_29 ?_
    simp only [Option.some.injEq, Prod.mk.injEq] at hf
    obtain ⟨rfl, rfl⟩ := hf
    exact hend _ _ _ _ hP hD hS rfl dX7_errorCount_32
  · have hf := tm_iF c_1 hf
    by_cases c_2 : p1 = 1
    · have hf := tm_iT c_2 hf
      refine lv_tableIn (off := 32) (tgt := 33) hx hb dX7_errorCount_1 (by rw [c_2]; decide) (by rw [c_2]; decide) (by rw [c_2] <;> rfl) (by decide) ?_
      refine lv_aload_n hx hb dX7_errorCount_33 rfl (lv_at hl 0 rfl) ?_
      refine va_get (D := D) (ci := 7) (v := .int (d0 0 6)) (C := RX7) (T := TX7) (N := 8) hx hb hts uX7_errorCount_X7 hown hK hP 0 rfl rfl 6 (by decide) (hts _ kX7_errorCount_f161) (fun _ h9 => h9) rfl dX7_errorCount_34 ?_
      simp only [Option.some.injEq, Prod.mk.injEq] at hf
      obtain ⟨rfl, rfl⟩ := hf
      exact hend _ _ _ _ hP hD hS rfl dX7_errorCount_37
    · have hf := tm_iF c_2 hf
      by_cases c_3 : p1 = 2
      · have hf := tm_iT c_3 hf
        refine lv_tableIn (off := 37) (tgt := 38) hx hb dX7_errorCount_1 (by rw [c_3]; decide) (by rw [c_3]; decide) (by rw [c_3] <;> rfl) (by decide) ?_
        refine lv_aload_n hx hb dX7_errorCount_38 rfl (lv_at hl 0 rfl) ?_
        refine va_get (D := D) (ci := 7) (v := .int (d0 0 7)) (C := RX7) (T := TX7) (N := 8) hx hb hts uX7_errorCount_X7 hown hK hP 0 rfl rfl 7 (by decide) (hts _ kX7_errorCount_f164) (fun _ h9 => h9) rfl dX7_errorCount_39 ?_
        simp only [Option.some.injEq, Prod.mk.injEq] at hf
        obtain ⟨rfl, rfl⟩ := hf
        exact hend _ _ _ _ hP hD hS rfl dX7_errorCount_42
      · have hf := tm_iF c_3 hf
        refine lv_tableOut (tgt := 43) hx hb dX7_errorCount_1 (tm_tab3 c_1 c_2 c_3) (by decide) ?_
        refine lv_aload_n hx hb dX7_errorCount_43 rfl (lv_at hl 0 rfl) ?_
        obtain ⟨t_4, ot_4, hf⟩ := tm_bS hf
        refine tm_cVI (As := []) (rest := []) ⟨hx, hb, hml, hown, hts⟩ (tX7_failInvalid l D cI cZ cR N q0 d0 t_4.1 t_4.2 ot_4) (cwV 0 hts gX7_errorCount_X7_failInvalid rfl rfl rfl hdwsV_X7_failInvalid ⟨Nat.le_of_ble_eq_true rfl, Nat.le_of_ble_eq_true rfl⟩) hK hP hD hS hA [0, 1, 2, 3, 4, 5, 6, 7, 8, 9, 10, 11, 12, 13, 14, 15, 16, 17, 18, 19, 20, 21, 22, 23, 24, 25, 26, 27, 28, 29, 30, 31, 32, 33, 34, 35, 36, 37, 38, 39, 40, 41, 42, 43, 44, 45, 46, 47, 48, 49, 50, 51, 52, 53, 54, 55, 56, 57, 58, 59, 60, 61, 62, 63, 64, 65, 66, 67, 68, 69, 70, 71, 72] (by decide) rfl rfl (ci := 7) rfl rfl rfl (fun _ => WX7 cI cZ cR q0 t_4.2) (()) rfl rfl hl.1 rfl (Nat.le_of_ble_eq_true rfl) dX7_errorCount_44 ⟨Nat.zero_le _, Nat.zero_le _⟩ (fun _ _ H locs hP hD hS => ?_)
        simp only [Option.some.injEq, Prod.mk.injEq] at hf
        obtain ⟨rfl, rfl⟩ := hf
        exact hend _ _ _ _ hP hD hS rfl dX7_errorCount_47
set_option maxHeartbeats 4000000 in
set_option maxRecDepth 100000 in
theorem tX7_mix (l : Launch) (D : va_G) (cI cZ cR : ClassId) (N : Nat) (p1 : Int64) (p2 : Int32) (r0 : Int64) (hf : fX7_mix N p1 p2 = some r0) : tm_CL l D (tm_ty cI cZ cR) yX7_mix wsX7_mix rmX7_mix [.long p1, .int p2] (([] : va_W)) r0 (([] : va_W)) := by
  refine tm_mkL (cc := cX7_mix) (maxL := 3) (by decide) rfl (Nat.le_of_ble_eq_true rfl) ?_
  intro p e s m below meth c A ls Q C hP hD hS hl hend
  have C : tm_Cx p s m c [.long p1, .int p2].toArray cX7_mix 3 RX7 wsX7_mix D (tm_ty cI cZ cR) A s.heap := C
  obtain ⟨hx, hb, hml, hown, hts, hK, hA⟩ := id C
  have hl : lv_has ls 3 [(0, .long p1), (2, .int p2)] := hl
  unfold fX7_mix at hf
  refine lv_ldc2 (v := 31) hx hb hown (hts _ kX7_mix_c185) dX7_mix_0 ?_
  refine lv_lload_n hx hb dX7_mix_3 rfl (lv_at hl 0 rfl) ?_
  refine lv_lmul hx hb dX7_mix_4 ?_
  refine lv_iload_n hx hb dX7_mix_5 rfl (lv_at hl 1 rfl) ?_
  refine lv_i2l (v := p2.toInt64) hx hb dX7_mix_6 rfl ?_
  refine lv_ladd hx hb dX7_mix_7 ?_
  obtain rfl := Option.some.inj hf
  exact hend _ _ _ _ hP hD hS dX7_mix_8
set_option maxHeartbeats 4000000 in
set_option maxRecDepth 100000 in
theorem tX7_mixNode (l : Launch) (D : va_G) (cI cZ cR : ClassId) (N : Nat) (q0 : Nat → Nat) (d0 : tm_M) (p1 : Int64) (p2 : Int32) (r0 : Int64) (hf : fX7_mixNode N d0 p1 p2 = some r0) : tm_CL l D (tm_ty cI cZ cR) yX7_mixNode wsX7_mixNode rmX7_mixNode [.ref (q0 0), .long p1, .int p2] (WX7 cI cZ cR q0 d0) r0 (WX7 cI cZ cR q0 d0) := by
  refine tm_mkL (cc := cX7_mixNode) (maxL := 6) (by decide) rfl (Nat.le_of_ble_eq_true rfl) ?_
  intro p e s m below meth c A ls Q C hP hD hS hl hend
  have C : tm_Cx p s m c [.ref (q0 0), .long p1, .int p2].toArray cX7_mixNode 6 RX7 wsX7_mixNode D (tm_ty cI cZ cR) A s.heap := C
  obtain ⟨hx, hb, hml, hown, hts, hK, hA⟩ := id C
  have hl : lv_has ls 6 [(0, .ref (q0 0)), (1, .long p1), (3, .int p2)] := hl
  unfold fX7_mixNode at hf
  refine lv_lload_n hx hb dX7_mixNode_0 rfl (lv_at hl 1 rfl) ?_
  refine lv_aload_n hx hb dX7_mixNode_1 rfl (lv_at hl 0 rfl) ?_
  refine va_get (D := D) (ci := 7) (v := .ref (q0 1)) (C := RX7) (T := TX7) (N := 8) hx hb hts uX7_mixNode_X7 hown hK hP 0 rfl rfl 0 (by decide) (hts _ kX7_mixNode_f10) (fun _ h9 => h9) rfl dX7_mixNode_2 ?_
  refine va_get (D := D) (ci := 5) (v := .ref (q0 2)) (C := RX5) (T := TX5) (N := 7) hx hb hts uX7_mixNode_X5 hown hK hP 1 rfl rfl 0 (by decide) (hts _ kX7_mixNode_f65) (fun _ h9 => h9) rfl dX7_mixNode_5 ?_
  refine lv_iload_n hx hb dX7_mixNode_8 rfl (lv_at hl 2 rfl) ?_
  obtain ⟨h_1, hf⟩ := tm_gS hf
  refine va_iald hx hb hK hP 2 0 rfl rfl (tm_inb_in h_1) dX7_mixNode_9 ?_
  obtain ⟨t_2, ot_2, hf⟩ := tm_bS hf
  refine tm_cSL (As := [.long p1, .int (d0 2 p2.toNatClampNeg)]) (rest := []) ⟨hx, hb, hml, hown, hts⟩ (tX7_mix l D cI cZ cR N p1 (d0 2 p2.toNatClampNeg) t_2 ot_2) (va_cwS 2 hts gX7_mixNode_X7_mix rfl rfl rfl hdwsS_X7_mix ⟨Nat.le_of_ble_eq_true rfl, Nat.le_of_ble_eq_true rfl⟩) hK hP hD hS hA [] (by decide) rfl rfl (fun _ => WX7 cI cZ cR q0 d0) (()) rfl rfl hl.1 rfl (Nat.le_of_ble_eq_true rfl) dX7_mixNode_10 ⟨Nat.zero_le _, Nat.zero_le _⟩ (fun _ _ H locs hP hD hS => ?_)
  refine lv_lstore (lv' := [(4, .long t_2), (0, .ref (q0 0)), (1, .long p1), (3, .int p2)]) hx hb dX7_mixNode_13 hl (by decide) rfl (fun ls hl => ?_)
  refine lv_lload hx hb dX7_mixNode_15 (lv_at hl 0 rfl) ?_
  refine lv_aload_n hx hb dX7_mixNode_17 rfl (lv_at hl 1 rfl) ?_
  refine va_get (D := D) (ci := 7) (v := .ref (q0 4)) (C := RX7) (T := TX7) (N := 8) hx hb hts uX7_mixNode_X7 hown hK hP 0 rfl rfl 1 (by decide) (hts _ kX7_mixNode_f19) (fun _ h9 => h9) rfl dX7_mixNode_18 ?_
  refine va_get (D := D) (ci := 1) (v := .ref (q0 5)) (C := RX1) (T := TX1) (N := 8) hx hb hts uX7_mixNode_X1 hown hK hP 4 rfl rfl 0 (by decide) (hts _ kX7_mixNode_f101) (fun _ h9 => h9) rfl dX7_mixNode_21 ?_
  refine lv_iload_n hx hb dX7_mixNode_24 rfl (lv_at hl 3 rfl) ?_
  refine va_iald hx hb hK hP 5 0 rfl rfl (tm_inb_in h_1) dX7_mixNode_25 ?_
  obtain ⟨t_3, ot_3, hf⟩ := tm_bS hf
  refine tm_cSL (As := [.long t_2, .int (d0 5 p2.toNatClampNeg)]) (rest := []) ⟨hx, hb, hml, hown, hts⟩ (tX7_mix l D cI cZ cR N t_2 (d0 5 p2.toNatClampNeg) t_3 ot_3) (va_cwS 2 hts gX7_mixNode_X7_mix rfl rfl rfl hdwsS_X7_mix ⟨Nat.le_of_ble_eq_true rfl, Nat.le_of_ble_eq_true rfl⟩) hK hP hD hS hA [] (by decide) rfl rfl (fun _ => WX7 cI cZ cR q0 d0) (()) rfl rfl hl.1 rfl (Nat.le_of_ble_eq_true rfl) dX7_mixNode_26 ⟨Nat.zero_le _, Nat.zero_le _⟩ (fun _ _ H locs hP hD hS => ?_)
  refine lv_lstore (lv' := [(4, .long t_3), (0, .ref (q0 0)), (1, .long p1), (3, .int p2)]) hx hb dX7_mixNode_29 hl (by decide) rfl (fun ls hl => ?_)
  refine lv_lload hx hb dX7_mixNode_31 (lv_at hl 0 rfl) ?_
  refine lv_aload_n hx hb dX7_mixNode_33 rfl (lv_at hl 1 rfl) ?_
  refine va_get (D := D) (ci := 7) (v := .ref (q0 1)) (C := RX7) (T := TX7) (N := 8) hx hb hts uX7_mixNode_X7 hown hK hP 0 rfl rfl 0 (by decide) (hts _ kX7_mixNode_f10) (fun _ h9 => h9) rfl dX7_mixNode_34 ?_
  refine va_get (D := D) (ci := 5) (v := .ref (q0 3)) (C := RX5) (T := TX5) (N := 7) hx hb hts uX7_mixNode_X5 hown hK hP 1 rfl rfl 1 (by decide) (hts _ kX7_mixNode_f83) (fun _ h9 => h9) rfl dX7_mixNode_37 ?_
  refine lv_iload_n hx hb dX7_mixNode_40 rfl (lv_at hl 3 rfl) ?_
  refine va_iald hx hb hK hP 3 0 rfl rfl (tm_inb_in h_1) dX7_mixNode_41 ?_
  obtain ⟨t_4, ot_4, hf⟩ := tm_bS hf
  refine tm_cSL (As := [.long t_3, .int (d0 3 p2.toNatClampNeg)]) (rest := []) ⟨hx, hb, hml, hown, hts⟩ (tX7_mix l D cI cZ cR N t_3 (d0 3 p2.toNatClampNeg) t_4 ot_4) (va_cwS 2 hts gX7_mixNode_X7_mix rfl rfl rfl hdwsS_X7_mix ⟨Nat.le_of_ble_eq_true rfl, Nat.le_of_ble_eq_true rfl⟩) hK hP hD hS hA [] (by decide) rfl rfl (fun _ => WX7 cI cZ cR q0 d0) (()) rfl rfl hl.1 rfl (Nat.le_of_ble_eq_true rfl) dX7_mixNode_42 ⟨Nat.zero_le _, Nat.zero_le _⟩ (fun _ _ H locs hP hD hS => ?_)
  refine lv_lstore (lv' := [(4, .long t_4), (0, .ref (q0 0)), (1, .long p1), (3, .int p2)]) hx hb dX7_mixNode_45 hl (by decide) rfl (fun ls hl => ?_)
  refine lv_lload hx hb dX7_mixNode_47 (lv_at hl 0 rfl) ?_
  refine lv_aload_n hx hb dX7_mixNode_49 rfl (lv_at hl 1 rfl) ?_
  refine va_get (D := D) (ci := 7) (v := .ref (q0 4)) (C := RX7) (T := TX7) (N := 8) hx hb hts uX7_mixNode_X7 hown hK hP 0 rfl rfl 1 (by decide) (hts _ kX7_mixNode_f19) (fun _ h9 => h9) rfl dX7_mixNode_50 ?_
  refine va_get (D := D) (ci := 1) (v := .ref (q0 8)) (C := RX1) (T := TX1) (N := 8) hx hb hts uX7_mixNode_X1 hown hK hP 4 rfl rfl 3 (by decide) (hts _ kX7_mixNode_f107) (fun _ h9 => h9) rfl dX7_mixNode_53 ?_
  refine va_get (D := D) (ci := 3) (v := .ref (q0 9)) (C := RX3) (T := TX3) (N := 4) hx hb hts uX7_mixNode_X3 hown hK hP 8 rfl rfl 0 (by decide) (hts _ kX7_mixNode_f111) (fun _ h9 => h9) rfl dX7_mixNode_56 ?_
  refine lv_iload_n hx hb dX7_mixNode_59 rfl (lv_at hl 3 rfl) ?_
  refine va_iald hx hb hK hP 9 0 rfl rfl (tm_inb_in h_1) dX7_mixNode_60 ?_
  obtain ⟨t_5, ot_5, hf⟩ := tm_bS hf
  refine tm_cSL (As := [.long t_4, .int (d0 9 p2.toNatClampNeg)]) (rest := []) ⟨hx, hb, hml, hown, hts⟩ (tX7_mix l D cI cZ cR N t_4 (d0 9 p2.toNatClampNeg) t_5 ot_5) (va_cwS 2 hts gX7_mixNode_X7_mix rfl rfl rfl hdwsS_X7_mix ⟨Nat.le_of_ble_eq_true rfl, Nat.le_of_ble_eq_true rfl⟩) hK hP hD hS hA [] (by decide) rfl rfl (fun _ => WX7 cI cZ cR q0 d0) (()) rfl rfl hl.1 rfl (Nat.le_of_ble_eq_true rfl) dX7_mixNode_61 ⟨Nat.zero_le _, Nat.zero_le _⟩ (fun _ _ H locs hP hD hS => ?_)
  refine lv_lstore (lv' := [(4, .long t_5), (0, .ref (q0 0)), (1, .long p1), (3, .int p2)]) hx hb dX7_mixNode_64 hl (by decide) rfl (fun ls hl => ?_)
  refine lv_lload hx hb dX7_mixNode_66 (lv_at hl 0 rfl) ?_
  refine lv_aload_n hx hb dX7_mixNode_68 rfl (lv_at hl 1 rfl) ?_
  refine va_get (D := D) (ci := 7) (v := .ref (q0 4)) (C := RX7) (T := TX7) (N := 8) hx hb hts uX7_mixNode_X7 hown hK hP 0 rfl rfl 1 (by decide) (hts _ kX7_mixNode_f19) (fun _ h9 => h9) rfl dX7_mixNode_69 ?_
  refine va_get (D := D) (ci := 1) (v := .ref (q0 8)) (C := RX1) (T := TX1) (N := 8) hx hb hts uX7_mixNode_X1 hown hK hP 4 rfl rfl 3 (by decide) (hts _ kX7_mixNode_f107) (fun _ h9 => h9) rfl dX7_mixNode_72 ?_
  refine va_get (D := D) (ci := 3) (v := .ref (q0 10)) (C := RX3) (T := TX3) (N := 4) hx hb hts uX7_mixNode_X3 hown hK hP 8 rfl rfl 1 (by decide) (hts _ kX7_mixNode_f116) (fun _ h9 => h9) rfl dX7_mixNode_75 ?_
  refine lv_iload_n hx hb dX7_mixNode_78 rfl (lv_at hl 3 rfl) ?_
  refine va_iald hx hb hK hP 10 0 rfl rfl (tm_inb_in h_1) dX7_mixNode_79 ?_
  obtain ⟨t_6, ot_6, hf⟩ := tm_bS hf
  refine tm_cSL (As := [.long t_5, .int (d0 10 p2.toNatClampNeg)]) (rest := []) ⟨hx, hb, hml, hown, hts⟩ (tX7_mix l D cI cZ cR N t_5 (d0 10 p2.toNatClampNeg) t_6 ot_6) (va_cwS 2 hts gX7_mixNode_X7_mix rfl rfl rfl hdwsS_X7_mix ⟨Nat.le_of_ble_eq_true rfl, Nat.le_of_ble_eq_true rfl⟩) hK hP hD hS hA [] (by decide) rfl rfl (fun _ => WX7 cI cZ cR q0 d0) (()) rfl rfl hl.1 rfl (Nat.le_of_ble_eq_true rfl) dX7_mixNode_80 ⟨Nat.zero_le _, Nat.zero_le _⟩ (fun _ _ H locs hP hD hS => ?_)
  refine lv_lstore (lv' := [(4, .long t_6), (0, .ref (q0 0)), (1, .long p1), (3, .int p2)]) hx hb dX7_mixNode_83 hl (by decide) rfl (fun ls hl => ?_)
  refine lv_lload hx hb dX7_mixNode_85 (lv_at hl 0 rfl) ?_
  refine lv_aload_n hx hb dX7_mixNode_87 rfl (lv_at hl 1 rfl) ?_
  refine va_get (D := D) (ci := 7) (v := .ref (q0 4)) (C := RX7) (T := TX7) (N := 8) hx hb hts uX7_mixNode_X7 hown hK hP 0 rfl rfl 1 (by decide) (hts _ kX7_mixNode_f19) (fun _ h9 => h9) rfl dX7_mixNode_88 ?_
  refine va_get (D := D) (ci := 1) (v := .ref (q0 8)) (C := RX1) (T := TX1) (N := 8) hx hb hts uX7_mixNode_X1 hown hK hP 4 rfl rfl 3 (by decide) (hts _ kX7_mixNode_f107) (fun _ h9 => h9) rfl dX7_mixNode_91 ?_
  refine va_get (D := D) (ci := 3) (v := .ref (q0 11)) (C := RX3) (T := TX3) (N := 4) hx hb hts uX7_mixNode_X3 hown hK hP 8 rfl rfl 2 (by decide) (hts _ kX7_mixNode_f119) (fun _ h9 => h9) rfl dX7_mixNode_94 ?_
  refine lv_iload_n hx hb dX7_mixNode_97 rfl (lv_at hl 3 rfl) ?_
  refine va_iald hx hb hK hP 11 0 rfl rfl (tm_inb_in h_1) dX7_mixNode_98 ?_
  obtain ⟨t_7, ot_7, hf⟩ := tm_bS hf
  refine tm_cSL (As := [.long t_6, .int (d0 11 p2.toNatClampNeg)]) (rest := []) ⟨hx, hb, hml, hown, hts⟩ (tX7_mix l D cI cZ cR N t_6 (d0 11 p2.toNatClampNeg) t_7 ot_7) (va_cwS 2 hts gX7_mixNode_X7_mix rfl rfl rfl hdwsS_X7_mix ⟨Nat.le_of_ble_eq_true rfl, Nat.le_of_ble_eq_true rfl⟩) hK hP hD hS hA [] (by decide) rfl rfl (fun _ => WX7 cI cZ cR q0 d0) (()) rfl rfl hl.1 rfl (Nat.le_of_ble_eq_true rfl) dX7_mixNode_99 ⟨Nat.zero_le _, Nat.zero_le _⟩ (fun _ _ H locs hP hD hS => ?_)
  refine lv_lstore (lv' := [(4, .long t_7), (0, .ref (q0 0)), (1, .long p1), (3, .int p2)]) hx hb dX7_mixNode_102 hl (by decide) rfl (fun ls hl => ?_)
  refine lv_lload hx hb dX7_mixNode_104 (lv_at hl 0 rfl) ?_
  refine lv_aload_n hx hb dX7_mixNode_106 rfl (lv_at hl 1 rfl) ?_
  refine va_get (D := D) (ci := 7) (v := .ref (q0 4)) (C := RX7) (T := TX7) (N := 8) hx hb hts uX7_mixNode_X7 hown hK hP 0 rfl rfl 1 (by decide) (hts _ kX7_mixNode_f19) (fun _ h9 => h9) rfl dX7_mixNode_107 ?_
  refine va_get (D := D) (ci := 1) (v := .ref (q0 8)) (C := RX1) (T := TX1) (N := 8) hx hb hts uX7_mixNode_X1 hown hK hP 4 rfl rfl 3 (by decide) (hts _ kX7_mixNode_f107) (fun _ h9 => h9) rfl dX7_mixNode_110 ?_
  refine va_get (D := D) (ci := 3) (v := .ref (q0 12)) (C := RX3) (T := TX3) (N := 4) hx hb hts uX7_mixNode_X3 hown hK hP 8 rfl rfl 3 (by decide) (hts _ kX7_mixNode_f122) (fun _ h9 => h9) rfl dX7_mixNode_113 ?_
  refine lv_iload_n hx hb dX7_mixNode_116 rfl (lv_at hl 3 rfl) ?_
  refine va_iald hx hb hK hP 12 0 rfl rfl (tm_inb_in h_1) dX7_mixNode_117 ?_
  obtain ⟨t_8, ot_8, hf⟩ := tm_bS hf
  refine tm_cSL (As := [.long t_7, .int (d0 12 p2.toNatClampNeg)]) (rest := []) ⟨hx, hb, hml, hown, hts⟩ (tX7_mix l D cI cZ cR N t_7 (d0 12 p2.toNatClampNeg) t_8 ot_8) (va_cwS 2 hts gX7_mixNode_X7_mix rfl rfl rfl hdwsS_X7_mix ⟨Nat.le_of_ble_eq_true rfl, Nat.le_of_ble_eq_true rfl⟩) hK hP hD hS hA [] (by decide) rfl rfl (fun _ => WX7 cI cZ cR q0 d0) (()) rfl rfl hl.1 rfl (Nat.le_of_ble_eq_true rfl) dX7_mixNode_118 ⟨Nat.zero_le _, Nat.zero_le _⟩ (fun _ _ H locs hP hD hS => ?_)
  refine lv_lstore (lv' := [(4, .long t_8), (0, .ref (q0 0)), (1, .long p1), (3, .int p2)]) hx hb dX7_mixNode_121 hl (by decide) rfl (fun ls hl => ?_)
  refine lv_lload hx hb dX7_mixNode_123 (lv_at hl 0 rfl) ?_
  refine lv_aload_n hx hb dX7_mixNode_125 rfl (lv_at hl 1 rfl) ?_
  refine lv_iload_n hx hb dX7_mixNode_126 rfl (lv_at hl 3 rfl) ?_
  obtain ⟨t_9, ot_9, hf⟩ := tm_bS hf
  refine tm_cVI (As := [.int p2]) (rest := [.long t_8]) ⟨hx, hb, hml, hown, hts⟩ (tX7_hiddenFlag l D cI cZ cR N q0 d0 p2 t_9 ot_9) (cwV 1 hts gX7_mixNode_X7_hiddenFlag rfl rfl rfl hdwsV_X7_hiddenFlag ⟨Nat.le_of_ble_eq_true rfl, Nat.le_of_ble_eq_true rfl⟩) hK hP hD hS hA [0, 1, 2, 3, 4, 5, 6, 7, 8, 9, 10, 11, 12, 13, 14, 15, 16, 17, 18, 19, 20, 21, 22, 23, 24, 25, 26, 27, 28, 29, 30, 31, 32, 33, 34, 35, 36, 37, 38, 39, 40, 41, 42, 43, 44, 45, 46, 47, 48, 49, 50, 51, 52, 53, 54, 55, 56, 57, 58, 59, 60, 61, 62, 63, 64, 65, 66, 67, 68, 69, 70, 71, 72] (by decide) rfl rfl (ci := 7) rfl rfl rfl (fun _ => WX7 cI cZ cR q0 d0) (()) rfl rfl hl.1 rfl (Nat.le_of_ble_eq_true rfl) dX7_mixNode_127 ⟨Nat.zero_le _, Nat.zero_le _⟩ (fun _ _ H locs hP hD hS => ?_)
  obtain ⟨t_10, ot_10, hf⟩ := tm_bS hf
  refine tm_cSL (As := [.long t_8, .int t_9]) (rest := []) ⟨hx, hb, hml, hown, hts⟩ (tX7_mix l D cI cZ cR N t_8 t_9 t_10 ot_10) (va_cwS 2 hts gX7_mixNode_X7_mix rfl rfl rfl hdwsS_X7_mix ⟨Nat.le_of_ble_eq_true rfl, Nat.le_of_ble_eq_true rfl⟩) hK hP hD hS hA [] (by decide) rfl rfl (fun _ => WX7 cI cZ cR q0 d0) (()) rfl rfl hl.1 rfl (Nat.le_of_ble_eq_true rfl) dX7_mixNode_130 ⟨Nat.zero_le _, Nat.zero_le _⟩ (fun _ _ H locs hP hD hS => ?_)
  obtain rfl := Option.some.inj hf
  exact hend _ _ _ _ hP hD hS dX7_mixNode_133
set_option maxHeartbeats 4000000 in
set_option maxRecDepth 100000 in
theorem wX7_digest_105 (l : Launch) (D : va_G) (cI cZ cR : ClassId) (N : Nat) (q0 : Nat → Nat) {p : Program} {e : Env} {s : State} {m : MethodId} {args : Array Value} {below : List Frame} {meth : Method} {c : Code} {A : Nat → Prop} {H0 : Heap} {Q : State → Prop} (C : tm_Cx p s m c args cX7_digest 4 RX7 wsX7_digest D (tm_ty cI cZ cR) A H0) (d0 : tm_M) : ∀ (n : Nat) (st : Int64 × Int32) (o : (Int64 × Int32)), tm_whl (bX7_digest_105 N d0) n st = some o → (fun (o : Int64 × Int32) => ∀ (H : Heap) (locs : List Loc) (ls : Array Slot), va_P D vwCl (WX7 cI cZ cR q0 d0) H → va_D A (WX7 cI cZ cR q0 d0) → va_S A H0 H locs → lv_has ls 4 [(0, .ref (q0 0)), (1, .long o.1)] → W p l e rmX7_digest s m args below meth c H locs 0 0 Q (F0 m 129 ls [])) o → (fun (st : Int64 × Int32) => ∀ (H : Heap) (locs : List Loc) (ls : Array Slot), va_P D vwCl (WX7 cI cZ cR q0 d0) H → va_D A (WX7 cI cZ cR q0 d0) → va_S A H0 H locs → lv_has ls 4 [(0, .ref (q0 0)), (1, .long st.1), (3, .int st.2)] → W p l e rmX7_digest s m args below meth c H locs 0 0 Q (F0 m 105 ls [])) st := by
  obtain ⟨hx, hb, hml, hown, hts, hK, hA⟩ := id C
  refine tm_whl_W (Wh := fun (st : Int64 × Int32) => ∀ (H : Heap) (locs : List Loc) (ls : Array Slot), va_P D vwCl (WX7 cI cZ cR q0 d0) H → va_D A (WX7 cI cZ cR q0 d0) → va_S A H0 H locs → lv_has ls 4 [(0, .ref (q0 0)), (1, .long st.1), (3, .int st.2)] → W p l e rmX7_digest s m args below meth c H locs 0 0 Q (F0 m 105 ls [])) (Wx := fun (o : Int64 × Int32) => ∀ (H : Heap) (locs : List Loc) (ls : Array Slot), va_P D vwCl (WX7 cI cZ cR q0 d0) H → va_D A (WX7 cI cZ cR q0 d0) → va_S A H0 H locs → lv_has ls 4 [(0, .ref (q0 0)), (1, .long o.1)] → W p l e rmX7_digest s m args below meth c H locs 0 0 Q (F0 m 129 ls [])) ?_
  intro st r hf hk H locs ls hP hD hS hl
  unfold bX7_digest_105 at hf
  refine lv_iload_n hx hb dX7_digest_105 rfl (lv_at hl 2 rfl) ?_
  refine lv_aload_n hx hb dX7_digest_106 rfl (lv_at hl 0 rfl) ?_
  refine va_get (D := D) (ci := 7) (v := .ref (q0 1)) (C := RX7) (T := TX7) (N := 8) hx hb hts uX7_digest_X7 hown hK hP 0 rfl rfl 0 (by decide) (hts _ kX7_digest_f10) (fun _ h9 => h9) rfl dX7_digest_107 ?_
  refine va_get (D := D) (ci := 5) (v := .int (d0 1 2)) (C := RX5) (T := TX5) (N := 7) hx hb hts uX7_digest_X5 hown hK hP 1 rfl rfl 2 (by decide) (hts _ kX7_digest_f51) (fun _ h9 => h9) rfl dX7_digest_110 ?_
  refine lv_icmp_ge (tgt := 129) hx hb dX7_digest_113 (by decide) (fun c_10 => ?_) (fun c_10 => ?_)
  · have hf := tm_iT c_10 hf
    obtain rfl := Option.some.inj hf
    exact hk _ _ _ hP hD hS (lv_sub hl [0, 1] rfl)
  · have hf := tm_iF c_10 hf
    refine lv_aload_n hx hb dX7_digest_116 rfl (lv_at hl 0 rfl) ?_
    refine lv_lload_n hx hb dX7_digest_117 rfl (lv_at hl 1 rfl) ?_
    refine lv_iload_n hx hb dX7_digest_118 rfl (lv_at hl 2 rfl) ?_
    obtain ⟨t_11, ot_11, hf⟩ := tm_bS hf
    refine tm_cVL (As := [.long st.1, .int st.2]) (rest := []) ⟨hx, hb, hml, hown, hts⟩ (tX7_mixNode l D cI cZ cR N q0 d0 st.1 st.2 t_11 ot_11) (cwV 2 hts gX7_digest_X7_mixNode rfl rfl rfl hdwsV_X7_mixNode ⟨Nat.le_of_ble_eq_true rfl, Nat.le_of_ble_eq_true rfl⟩) hK hP hD hS hA [0, 1, 2, 3, 4, 5, 6, 7, 8, 9, 10, 11, 12, 13, 14, 15, 16, 17, 18, 19, 20, 21, 22, 23, 24, 25, 26, 27, 28, 29, 30, 31, 32, 33, 34, 35, 36, 37, 38, 39, 40, 41, 42, 43, 44, 45, 46, 47, 48, 49, 50, 51, 52, 53, 54, 55, 56, 57, 58, 59, 60, 61, 62, 63, 64, 65, 66, 67, 68, 69, 70, 71, 72] (by decide) rfl rfl (ci := 7) rfl rfl rfl (fun _ => WX7 cI cZ cR q0 d0) (()) rfl rfl hl.1 rfl (Nat.le_of_ble_eq_true rfl) dX7_digest_119 ⟨Nat.zero_le _, Nat.zero_le _⟩ (fun _ _ H locs hP hD hS => ?_)
    refine lv_lstore_n (lv' := [(1, .long t_11), (0, .ref (q0 0)), (3, .int st.2)]) hx hb dX7_digest_122 rfl hl (by decide) rfl (fun ls hl => ?_)
    obtain ⟨x_12, ex_12⟩ : ∃ y : Int32, y = st.2 + 1 := ⟨_, rfl⟩
    have hf := tm_at ex_12 hf
    refine lv_iinc (v := x_12) (lv' := [(3, .int x_12), (1, .long t_11), (0, .ref (q0 0))]) hx hb dX7_digest_123 hl (k := 2) rfl (by rw [ex_12]; rfl) (by decide) rfl (fun ls hl => ?_)
    refine lv_goto (tgt := 105) hx hb dX7_digest_126 (by decide) ?_
    obtain rfl := Option.some.inj hf
    exact hk _ _ _ hP hD hS (lv_sub hl [2, 1, 0] rfl)
set_option maxHeartbeats 4000000 in
set_option maxRecDepth 100000 in
theorem tX7_digest (l : Launch) (D : va_G) (cI cZ cR : ClassId) (N : Nat) (q0 : Nat → Nat) (d0 : tm_M) (r0 : Int64) (hf : fX7_digest N d0 = some r0) : tm_CL l D (tm_ty cI cZ cR) yX7_digest wsX7_digest rmX7_digest [.ref (q0 0)] (WX7 cI cZ cR q0 d0) r0 (WX7 cI cZ cR q0 d0) := by
  refine tm_mkL (cc := cX7_digest) (maxL := 4) (by decide) rfl (Nat.le_of_ble_eq_true rfl) ?_
  intro p e s m below meth c A ls Q C hP hD hS hl hend
  have C : tm_Cx p s m c [.ref (q0 0)].toArray cX7_digest 4 RX7 wsX7_digest D (tm_ty cI cZ cR) A s.heap := C
  obtain ⟨hx, hb, hml, hown, hts, hK, hA⟩ := id C
  have hl : lv_has ls 4 [(0, .ref (q0 0))] := hl
  unfold fX7_digest at hf
  refine lv_ldc2 (v := 11759) hx hb hown (hts _ kX7_digest_c167) dX7_digest_0 ?_
  refine lv_lstore_n (lv' := [(1, .long 11759), (0, .ref (q0 0))]) hx hb dX7_digest_3 rfl hl (by decide) rfl (fun ls hl => ?_)
  refine lv_lload_n hx hb dX7_digest_4 rfl (lv_at hl 0 rfl) ?_
  refine lv_aload_n hx hb dX7_digest_5 rfl (lv_at hl 1 rfl) ?_
  refine va_get (D := D) (ci := 7) (v := .int (d0 0 5)) (C := RX7) (T := TX7) (N := 8) hx hb hts uX7_digest_X7 hown hK hP 0 rfl rfl 5 (by decide) (hts _ kX7_digest_f158) (fun _ h9 => h9) rfl dX7_digest_6 ?_
  obtain ⟨t_1, ot_1, hf⟩ := tm_bS hf
  refine tm_cSL (As := [.long 11759, .int (d0 0 5)]) (rest := []) ⟨hx, hb, hml, hown, hts⟩ (tX7_mix l D cI cZ cR N 11759 (d0 0 5) t_1 ot_1) (va_cwS 2 hts gX7_digest_X7_mix rfl rfl rfl hdwsS_X7_mix ⟨Nat.le_of_ble_eq_true rfl, Nat.le_of_ble_eq_true rfl⟩) hK hP hD hS hA [] (by decide) rfl rfl (fun _ => WX7 cI cZ cR q0 d0) (()) rfl rfl hl.1 rfl (Nat.le_of_ble_eq_true rfl) dX7_digest_9 ⟨Nat.zero_le _, Nat.zero_le _⟩ (fun _ _ H locs hP hD hS => ?_)
  refine lv_lstore_n (lv' := [(1, .long t_1), (0, .ref (q0 0))]) hx hb dX7_digest_12 rfl hl (by decide) rfl (fun ls hl => ?_)
  refine lv_lload_n hx hb dX7_digest_13 rfl (lv_at hl 0 rfl) ?_
  refine lv_aload_n hx hb dX7_digest_14 rfl (lv_at hl 1 rfl) ?_
  refine va_get (D := D) (ci := 7) (v := .int (d0 0 6)) (C := RX7) (T := TX7) (N := 8) hx hb hts uX7_digest_X7 hown hK hP 0 rfl rfl 6 (by decide) (hts _ kX7_digest_f161) (fun _ h9 => h9) rfl dX7_digest_15 ?_
  obtain ⟨t_2, ot_2, hf⟩ := tm_bS hf
  refine tm_cSL (As := [.long t_1, .int (d0 0 6)]) (rest := []) ⟨hx, hb, hml, hown, hts⟩ (tX7_mix l D cI cZ cR N t_1 (d0 0 6) t_2 ot_2) (va_cwS 2 hts gX7_digest_X7_mix rfl rfl rfl hdwsS_X7_mix ⟨Nat.le_of_ble_eq_true rfl, Nat.le_of_ble_eq_true rfl⟩) hK hP hD hS hA [] (by decide) rfl rfl (fun _ => WX7 cI cZ cR q0 d0) (()) rfl rfl hl.1 rfl (Nat.le_of_ble_eq_true rfl) dX7_digest_18 ⟨Nat.zero_le _, Nat.zero_le _⟩ (fun _ _ H locs hP hD hS => ?_)
  refine lv_lstore_n (lv' := [(1, .long t_2), (0, .ref (q0 0))]) hx hb dX7_digest_21 rfl hl (by decide) rfl (fun ls hl => ?_)
  refine lv_lload_n hx hb dX7_digest_22 rfl (lv_at hl 0 rfl) ?_
  refine lv_aload_n hx hb dX7_digest_23 rfl (lv_at hl 1 rfl) ?_
  refine va_get (D := D) (ci := 7) (v := .int (d0 0 7)) (C := RX7) (T := TX7) (N := 8) hx hb hts uX7_digest_X7 hown hK hP 0 rfl rfl 7 (by decide) (hts _ kX7_digest_f164) (fun _ h9 => h9) rfl dX7_digest_24 ?_
  obtain ⟨t_3, ot_3, hf⟩ := tm_bS hf
  refine tm_cSL (As := [.long t_2, .int (d0 0 7)]) (rest := []) ⟨hx, hb, hml, hown, hts⟩ (tX7_mix l D cI cZ cR N t_2 (d0 0 7) t_3 ot_3) (va_cwS 2 hts gX7_digest_X7_mix rfl rfl rfl hdwsS_X7_mix ⟨Nat.le_of_ble_eq_true rfl, Nat.le_of_ble_eq_true rfl⟩) hK hP hD hS hA [] (by decide) rfl rfl (fun _ => WX7 cI cZ cR q0 d0) (()) rfl rfl hl.1 rfl (Nat.le_of_ble_eq_true rfl) dX7_digest_27 ⟨Nat.zero_le _, Nat.zero_le _⟩ (fun _ _ H locs hP hD hS => ?_)
  refine lv_lstore_n (lv' := [(1, .long t_3), (0, .ref (q0 0))]) hx hb dX7_digest_30 rfl hl (by decide) rfl (fun ls hl => ?_)
  refine lv_lload_n hx hb dX7_digest_31 rfl (lv_at hl 0 rfl) ?_
  refine lv_aload_n hx hb dX7_digest_32 rfl (lv_at hl 1 rfl) ?_
  refine va_get (D := D) (ci := 7) (v := .ref (q0 30)) (C := RX7) (T := TX7) (N := 8) hx hb hts uX7_digest_X7 hown hK hP 0 rfl rfl 2 (by decide) (hts _ kX7_digest_f26) (fun _ h9 => h9) rfl dX7_digest_33 ?_
  refine va_get (D := D) (ci := 6) (v := .int (d0 30 2)) (C := RX6) (T := TX6) (N := 3) hx hb hts uX7_digest_X6 hown hK hP 30 rfl rfl 2 (by decide) (hts _ kX7_digest_f154) (fun _ h9 => h9) rfl dX7_digest_36 ?_
  obtain ⟨t_4, ot_4, hf⟩ := tm_bS hf
  refine tm_cSL (As := [.long t_3, .int (d0 30 2)]) (rest := []) ⟨hx, hb, hml, hown, hts⟩ (tX7_mix l D cI cZ cR N t_3 (d0 30 2) t_4 ot_4) (va_cwS 2 hts gX7_digest_X7_mix rfl rfl rfl hdwsS_X7_mix ⟨Nat.le_of_ble_eq_true rfl, Nat.le_of_ble_eq_true rfl⟩) hK hP hD hS hA [] (by decide) rfl rfl (fun _ => WX7 cI cZ cR q0 d0) (()) rfl rfl hl.1 rfl (Nat.le_of_ble_eq_true rfl) dX7_digest_39 ⟨Nat.zero_le _, Nat.zero_le _⟩ (fun _ _ H locs hP hD hS => ?_)
  refine lv_lstore_n (lv' := [(1, .long t_4), (0, .ref (q0 0))]) hx hb dX7_digest_42 rfl hl (by decide) rfl (fun ls hl => ?_)
  refine lv_lload_n hx hb dX7_digest_43 rfl (lv_at hl 0 rfl) ?_
  refine lv_aload_n hx hb dX7_digest_44 rfl (lv_at hl 1 rfl) ?_
  refine va_get (D := D) (ci := 7) (v := .ref (q0 1)) (C := RX7) (T := TX7) (N := 8) hx hb hts uX7_digest_X7 hown hK hP 0 rfl rfl 0 (by decide) (hts _ kX7_digest_f10) (fun _ h9 => h9) rfl dX7_digest_45 ?_
  refine va_get (D := D) (ci := 5) (v := .int (d0 1 3)) (C := RX5) (T := TX5) (N := 7) hx hb hts uX7_digest_X5 hown hK hP 1 rfl rfl 3 (by decide) (hts _ kX7_digest_f89) (fun _ h9 => h9) rfl dX7_digest_48 ?_
  obtain ⟨t_5, ot_5, hf⟩ := tm_bS hf
  refine tm_cSL (As := [.long t_4, .int (d0 1 3)]) (rest := []) ⟨hx, hb, hml, hown, hts⟩ (tX7_mix l D cI cZ cR N t_4 (d0 1 3) t_5 ot_5) (va_cwS 2 hts gX7_digest_X7_mix rfl rfl rfl hdwsS_X7_mix ⟨Nat.le_of_ble_eq_true rfl, Nat.le_of_ble_eq_true rfl⟩) hK hP hD hS hA [] (by decide) rfl rfl (fun _ => WX7 cI cZ cR q0 d0) (()) rfl rfl hl.1 rfl (Nat.le_of_ble_eq_true rfl) dX7_digest_51 ⟨Nat.zero_le _, Nat.zero_le _⟩ (fun _ _ H locs hP hD hS => ?_)
  refine lv_lstore_n (lv' := [(1, .long t_5), (0, .ref (q0 0))]) hx hb dX7_digest_54 rfl hl (by decide) rfl (fun ls hl => ?_)
  refine lv_lload_n hx hb dX7_digest_55 rfl (lv_at hl 0 rfl) ?_
  refine lv_aload_n hx hb dX7_digest_56 rfl (lv_at hl 1 rfl) ?_
  refine va_get (D := D) (ci := 7) (v := .ref (q0 1)) (C := RX7) (T := TX7) (N := 8) hx hb hts uX7_digest_X7 hown hK hP 0 rfl rfl 0 (by decide) (hts _ kX7_digest_f10) (fun _ h9 => h9) rfl dX7_digest_57 ?_
  refine va_get (D := D) (ci := 5) (v := .int (d0 1 4)) (C := RX5) (T := TX5) (N := 7) hx hb hts uX7_digest_X5 hown hK hP 1 rfl rfl 4 (by decide) (hts _ kX7_digest_f92) (fun _ h9 => h9) rfl dX7_digest_60 ?_
  obtain ⟨t_6, ot_6, hf⟩ := tm_bS hf
  refine tm_cSL (As := [.long t_5, .int (d0 1 4)]) (rest := []) ⟨hx, hb, hml, hown, hts⟩ (tX7_mix l D cI cZ cR N t_5 (d0 1 4) t_6 ot_6) (va_cwS 2 hts gX7_digest_X7_mix rfl rfl rfl hdwsS_X7_mix ⟨Nat.le_of_ble_eq_true rfl, Nat.le_of_ble_eq_true rfl⟩) hK hP hD hS hA [] (by decide) rfl rfl (fun _ => WX7 cI cZ cR q0 d0) (()) rfl rfl hl.1 rfl (Nat.le_of_ble_eq_true rfl) dX7_digest_63 ⟨Nat.zero_le _, Nat.zero_le _⟩ (fun _ _ H locs hP hD hS => ?_)
  refine lv_lstore_n (lv' := [(1, .long t_6), (0, .ref (q0 0))]) hx hb dX7_digest_66 rfl hl (by decide) rfl (fun ls hl => ?_)
  refine lv_lload_n hx hb dX7_digest_67 rfl (lv_at hl 0 rfl) ?_
  refine lv_aload_n hx hb dX7_digest_68 rfl (lv_at hl 1 rfl) ?_
  refine va_get (D := D) (ci := 7) (v := .ref (q0 1)) (C := RX7) (T := TX7) (N := 8) hx hb hts uX7_digest_X7 hown hK hP 0 rfl rfl 0 (by decide) (hts _ kX7_digest_f10) (fun _ h9 => h9) rfl dX7_digest_69 ?_
  refine va_get (D := D) (ci := 5) (v := .int (d0 1 5)) (C := RX5) (T := TX5) (N := 7) hx hb hts uX7_digest_X5 hown hK hP 1 rfl rfl 5 (by decide) (hts _ kX7_digest_f95) (fun _ h9 => h9) rfl dX7_digest_72 ?_
  obtain ⟨t_7, ot_7, hf⟩ := tm_bS hf
  refine tm_cSL (As := [.long t_6, .int (d0 1 5)]) (rest := []) ⟨hx, hb, hml, hown, hts⟩ (tX7_mix l D cI cZ cR N t_6 (d0 1 5) t_7 ot_7) (va_cwS 2 hts gX7_digest_X7_mix rfl rfl rfl hdwsS_X7_mix ⟨Nat.le_of_ble_eq_true rfl, Nat.le_of_ble_eq_true rfl⟩) hK hP hD hS hA [] (by decide) rfl rfl (fun _ => WX7 cI cZ cR q0 d0) (()) rfl rfl hl.1 rfl (Nat.le_of_ble_eq_true rfl) dX7_digest_75 ⟨Nat.zero_le _, Nat.zero_le _⟩ (fun _ _ H locs hP hD hS => ?_)
  refine lv_lstore_n (lv' := [(1, .long t_7), (0, .ref (q0 0))]) hx hb dX7_digest_78 rfl hl (by decide) rfl (fun ls hl => ?_)
  refine lv_lload_n hx hb dX7_digest_79 rfl (lv_at hl 0 rfl) ?_
  refine lv_aload_n hx hb dX7_digest_80 rfl (lv_at hl 1 rfl) ?_
  refine va_get (D := D) (ci := 7) (v := .ref (q0 1)) (C := RX7) (T := TX7) (N := 8) hx hb hts uX7_digest_X7 hown hK hP 0 rfl rfl 0 (by decide) (hts _ kX7_digest_f10) (fun _ h9 => h9) rfl dX7_digest_81 ?_
  refine va_get (D := D) (ci := 5) (v := .int (d0 1 6)) (C := RX5) (T := TX5) (N := 7) hx hb hts uX7_digest_X5 hown hK hP 1 rfl rfl 6 (by decide) (hts _ kX7_digest_f98) (fun _ h9 => h9) rfl dX7_digest_84 ?_
  obtain ⟨t_8, ot_8, hf⟩ := tm_bS hf
  refine tm_cSL (As := [.long t_7, .int (d0 1 6)]) (rest := []) ⟨hx, hb, hml, hown, hts⟩ (tX7_mix l D cI cZ cR N t_7 (d0 1 6) t_8 ot_8) (va_cwS 2 hts gX7_digest_X7_mix rfl rfl rfl hdwsS_X7_mix ⟨Nat.le_of_ble_eq_true rfl, Nat.le_of_ble_eq_true rfl⟩) hK hP hD hS hA [] (by decide) rfl rfl (fun _ => WX7 cI cZ cR q0 d0) (()) rfl rfl hl.1 rfl (Nat.le_of_ble_eq_true rfl) dX7_digest_87 ⟨Nat.zero_le _, Nat.zero_le _⟩ (fun _ _ H locs hP hD hS => ?_)
  refine lv_lstore_n (lv' := [(1, .long t_8), (0, .ref (q0 0))]) hx hb dX7_digest_90 rfl hl (by decide) rfl (fun ls hl => ?_)
  refine lv_lload_n hx hb dX7_digest_91 rfl (lv_at hl 0 rfl) ?_
  refine lv_aload_n hx hb dX7_digest_92 rfl (lv_at hl 1 rfl) ?_
  refine va_get (D := D) (ci := 7) (v := .ref (q0 1)) (C := RX7) (T := TX7) (N := 8) hx hb hts uX7_digest_X7 hown hK hP 0 rfl rfl 0 (by decide) (hts _ kX7_digest_f10) (fun _ h9 => h9) rfl dX7_digest_93 ?_
  refine va_get (D := D) (ci := 5) (v := .int (d0 1 2)) (C := RX5) (T := TX5) (N := 7) hx hb hts uX7_digest_X5 hown hK hP 1 rfl rfl 2 (by decide) (hts _ kX7_digest_f51) (fun _ h9 => h9) rfl dX7_digest_96 ?_
  obtain ⟨t_9, ot_9, hf⟩ := tm_bS hf
  refine tm_cSL (As := [.long t_8, .int (d0 1 2)]) (rest := []) ⟨hx, hb, hml, hown, hts⟩ (tX7_mix l D cI cZ cR N t_8 (d0 1 2) t_9 ot_9) (va_cwS 2 hts gX7_digest_X7_mix rfl rfl rfl hdwsS_X7_mix ⟨Nat.le_of_ble_eq_true rfl, Nat.le_of_ble_eq_true rfl⟩) hK hP hD hS hA [] (by decide) rfl rfl (fun _ => WX7 cI cZ cR q0 d0) (()) rfl rfl hl.1 rfl (Nat.le_of_ble_eq_true rfl) dX7_digest_99 ⟨Nat.zero_le _, Nat.zero_le _⟩ (fun _ _ H locs hP hD hS => ?_)
  refine lv_lstore_n (lv' := [(1, .long t_9), (0, .ref (q0 0))]) hx hb dX7_digest_102 rfl hl (by decide) rfl (fun ls hl => ?_)
  refine lv_iconst (v := 0) hx hb dX7_digest_103 (by decide) ?_
  refine lv_istore_n (lv' := [(3, .int 0), (1, .long t_9), (0, .ref (q0 0))]) hx hb dX7_digest_104 rfl hl (by decide) rfl (fun ls hl => ?_)
  obtain ⟨t_13, ot_13, hf⟩ := tm_bS hf
  refine wX7_digest_105 l D cI cZ cR N q0 C d0 _ _ _ ot_13 ?_ _ _ _ hP hD hS (lv_sub hl [2, 1, 0] rfl)
  intro H locs ls hP hD hS hl
  refine lv_lload_n hx hb dX7_digest_129 rfl (lv_at hl 1 rfl) ?_
  refine lv_aload_n hx hb dX7_digest_130 rfl (lv_at hl 0 rfl) ?_
  obtain ⟨t_14, ot_14, hf⟩ := tm_bS hf
  refine tm_cVI (As := []) (rest := [.long t_13.1]) ⟨hx, hb, hml, hown, hts⟩ (tX7_leafPixels l D cI cZ cR N q0 d0 t_14 ot_14) (cwV 0 hts gX7_digest_X7_leafPixels rfl rfl rfl hdwsV_X7_leafPixels ⟨Nat.le_of_ble_eq_true rfl, Nat.le_of_ble_eq_true rfl⟩) hK hP hD hS hA [0, 1, 2, 3, 4, 5, 6, 7, 8, 9, 10, 11, 12, 13, 14, 15, 16, 17, 18, 19, 20, 21, 22, 23, 24, 25, 26, 27, 28, 29, 30, 31, 32, 33, 34, 35, 36, 37, 38, 39, 40, 41, 42, 43, 44, 45, 46, 47, 48, 49, 50, 51, 52, 53, 54, 55, 56, 57, 58, 59, 60, 61, 62, 63, 64, 65, 66, 67, 68, 69, 70, 71, 72] (by decide) rfl rfl (ci := 7) rfl rfl rfl (fun _ => WX7 cI cZ cR q0 d0) (()) rfl rfl hl.1 rfl (Nat.le_of_ble_eq_true rfl) dX7_digest_131 ⟨Nat.zero_le _, Nat.zero_le _⟩ (fun _ _ H locs hP hD hS => ?_)
  obtain ⟨t_15, ot_15, hf⟩ := tm_bS hf
  refine tm_cSL (As := [.long t_13.1, .int t_14]) (rest := []) ⟨hx, hb, hml, hown, hts⟩ (tX7_mix l D cI cZ cR N t_13.1 t_14 t_15 ot_15) (va_cwS 2 hts gX7_digest_X7_mix rfl rfl rfl hdwsS_X7_mix ⟨Nat.le_of_ble_eq_true rfl, Nat.le_of_ble_eq_true rfl⟩) hK hP hD hS hA [] (by decide) rfl rfl (fun _ => WX7 cI cZ cR q0 d0) (()) rfl rfl hl.1 rfl (Nat.le_of_ble_eq_true rfl) dX7_digest_134 ⟨Nat.zero_le _, Nat.zero_le _⟩ (fun _ _ H locs hP hD hS => ?_)
  refine lv_lstore_n (lv' := [(1, .long t_15), (0, .ref (q0 0))]) hx hb dX7_digest_137 rfl hl (by decide) rfl (fun ls hl => ?_)
  refine lv_lload_n hx hb dX7_digest_138 rfl (lv_at hl 0 rfl) ?_
  refine lv_aload_n hx hb dX7_digest_139 rfl (lv_at hl 1 rfl) ?_
  obtain ⟨t_16, ot_16, hf⟩ := tm_bS hf
  refine tm_cVI (As := []) (rest := [.long t_15]) ⟨hx, hb, hml, hown, hts⟩ (tX7_worstAspect l D cI cZ cR N q0 d0 t_16 ot_16) (cwV 0 hts gX7_digest_X7_worstAspect rfl rfl rfl hdwsV_X7_worstAspect ⟨Nat.le_of_ble_eq_true rfl, Nat.le_of_ble_eq_true rfl⟩) hK hP hD hS hA [0, 1, 2, 3, 4, 5, 6, 7, 8, 9, 10, 11, 12, 13, 14, 15, 16, 17, 18, 19, 20, 21, 22, 23, 24, 25, 26, 27, 28, 29, 30, 31, 32, 33, 34, 35, 36, 37, 38, 39, 40, 41, 42, 43, 44, 45, 46, 47, 48, 49, 50, 51, 52, 53, 54, 55, 56, 57, 58, 59, 60, 61, 62, 63, 64, 65, 66, 67, 68, 69, 70, 71, 72] (by decide) rfl rfl (ci := 7) rfl rfl rfl (fun _ => WX7 cI cZ cR q0 d0) (()) rfl rfl hl.1 rfl (Nat.le_of_ble_eq_true rfl) dX7_digest_140 ⟨Nat.zero_le _, Nat.zero_le _⟩ (fun _ _ H locs hP hD hS => ?_)
  obtain ⟨t_17, ot_17, hf⟩ := tm_bS hf
  refine tm_cSL (As := [.long t_15, .int t_16]) (rest := []) ⟨hx, hb, hml, hown, hts⟩ (tX7_mix l D cI cZ cR N t_15 t_16 t_17 ot_17) (va_cwS 2 hts gX7_digest_X7_mix rfl rfl rfl hdwsS_X7_mix ⟨Nat.le_of_ble_eq_true rfl, Nat.le_of_ble_eq_true rfl⟩) hK hP hD hS hA [] (by decide) rfl rfl (fun _ => WX7 cI cZ cR q0 d0) (()) rfl rfl hl.1 rfl (Nat.le_of_ble_eq_true rfl) dX7_digest_143 ⟨Nat.zero_le _, Nat.zero_le _⟩ (fun _ _ H locs hP hD hS => ?_)
  refine lv_lstore_n (lv' := [(1, .long t_17), (0, .ref (q0 0))]) hx hb dX7_digest_146 rfl hl (by decide) rfl (fun ls hl => ?_)
  refine lv_lload_n hx hb dX7_digest_147 rfl (lv_at hl 0 rfl) ?_
  refine lv_aload_n hx hb dX7_digest_148 rfl (lv_at hl 1 rfl) ?_
  obtain ⟨t_18, ot_18, hf⟩ := tm_bS hf
  refine tm_cVI (As := []) (rest := [.long t_17]) ⟨hx, hb, hml, hown, hts⟩ (tX7_averageAspect l D cI cZ cR N q0 d0 t_18 ot_18) (cwV 0 hts gX7_digest_X7_averageAspect rfl rfl rfl hdwsV_X7_averageAspect ⟨Nat.le_of_ble_eq_true rfl, Nat.le_of_ble_eq_true rfl⟩) hK hP hD hS hA [0, 1, 2, 3, 4, 5, 6, 7, 8, 9, 10, 11, 12, 13, 14, 15, 16, 17, 18, 19, 20, 21, 22, 23, 24, 25, 26, 27, 28, 29, 30, 31, 32, 33, 34, 35, 36, 37, 38, 39, 40, 41, 42, 43, 44, 45, 46, 47, 48, 49, 50, 51, 52, 53, 54, 55, 56, 57, 58, 59, 60, 61, 62, 63, 64, 65, 66, 67, 68, 69, 70, 71, 72] (by decide) rfl rfl (ci := 7) rfl rfl rfl (fun _ => WX7 cI cZ cR q0 d0) (()) rfl rfl hl.1 rfl (Nat.le_of_ble_eq_true rfl) dX7_digest_149 ⟨Nat.zero_le _, Nat.zero_le _⟩ (fun _ _ H locs hP hD hS => ?_)
  obtain ⟨t_19, ot_19, hf⟩ := tm_bS hf
  refine tm_cSL (As := [.long t_17, .int t_18]) (rest := []) ⟨hx, hb, hml, hown, hts⟩ (tX7_mix l D cI cZ cR N t_17 t_18 t_19 ot_19) (va_cwS 2 hts gX7_digest_X7_mix rfl rfl rfl hdwsS_X7_mix ⟨Nat.le_of_ble_eq_true rfl, Nat.le_of_ble_eq_true rfl⟩) hK hP hD hS hA [] (by decide) rfl rfl (fun _ => WX7 cI cZ cR q0 d0) (()) rfl rfl hl.1 rfl (Nat.le_of_ble_eq_true rfl) dX7_digest_152 ⟨Nat.zero_le _, Nat.zero_le _⟩ (fun _ _ H locs hP hD hS => ?_)
  obtain rfl := Option.some.inj hf
  exact hend _ _ _ _ hP hD hS dX7_digest_155
