set_option maxHeartbeats 4000000 in
set_option maxRecDepth 100000 in
theorem tX2_open (l : Launch) (D : va_G) (cI cZ cR : ClassId) (N : Nat) (q0 : Nat → Nat) (d0 : tm_M) (p1 : Int32) (p2 : Int32) (p3 : Int32) (p4 : Int32) (z0 : tm_M) (hf : fX2_open N d0 p1 p2 p3 p4 = some z0) : tm_CV l D (tm_ty cI cZ cR) yX2_open wsX2_open rmX2_open [.ref (q0 0), .int p1, .int p2, .int p3, .int p4] (WX2 cI cZ cR q0 d0) (WX2 cI cZ cR q0 z0) := by
  refine tm_mkV (cc := cX2_open) (maxL := 5) (by decide) rfl (Nat.le_of_ble_eq_true rfl) ?_
  intro p e s m below meth c A ls Q C hP hD hS hl hend
  have C : tm_Cx p s m c [.ref (q0 0), .int p1, .int p2, .int p3, .int p4].toArray cX2_open 5 RX2 wsX2_open D (tm_ty cI cZ cR) A s.heap := C
  obtain ⟨hx, hb, hml, hown, hts, hK, hA⟩ := id C
  have hl : lv_has ls 5 [(0, .ref (q0 0)), (1, .int p1), (2, .int p2), (3, .int p3), (4, .int p4)] := hl
  unfold fX2_open at hf
  refine lv_aload_n hx hb dX2_open_0 rfl (lv_at hl 0 rfl) ?_
  refine lv_iconst (v := 0) hx hb dX2_open_1 (by decide) ?_
  refine tm_put (D := D) (ci := 2) (v := .int 0) (ty := .int) (C := RX2) (T := TX2) (N := 8) hx hb hts uX2_open_X2 tyX2 tyX2_ok nmX2 hown hK hP hD hS 0 rfl rfl 2 (by decide) (hts _ kX2_open_f41) (fun _ h9 => h9) rfl (by decide +kernel) rfl rfl (Nat.le_of_ble_eq_true rfl) dX2_open_2 (fun z => WX2 cI cZ cR q0 z) (tm_upk d0 0 2 0) rfl (fun d0_1 ed0_1 H locs hP hD hS => ?_)
  have hf := tm_at ed0_1 hf
  refine lv_aload_n hx hb dX2_open_5 rfl (lv_at hl 0 rfl) ?_
  refine va_get (D := D) (ci := 2) (v := .ref (q0 3)) (C := RX2) (T := TX2) (N := 8) hx hb hts uX2_open_X2 hown hK hP 0 rfl rfl 3 (by decide) (hts _ kX2_open_f21) (fun _ h9 => h9) rfl dX2_open_6 ?_
  refine lv_iload_n hx hb dX2_open_9 rfl (lv_at hl 1 rfl) ?_
  refine lv_iload_n hx hb dX2_open_10 rfl (lv_at hl 2 rfl) ?_
  refine lv_iload_n hx hb dX2_open_11 rfl (lv_at hl 3 rfl) ?_
  refine lv_iload hx hb dX2_open_12 (lv_at hl 4 rfl) ?_
  obtain ⟨t_2, ot_2, hf⟩ := tm_bS hf
  refine tm_cVV (As := [.int p1, .int p2, .int p3, .int p4]) (rest := []) ⟨hx, hb, hml, hown, hts⟩ (tX0_set l D cI cZ cR N (tm_sq q0 3) (tm_sh d0_1 3) p1 p2 p3 p4 t_2 ot_2) (cwV 4 hts gX2_open_X0_set rfl rfl rfl hdwsV_X0_set ⟨Nat.le_of_ble_eq_true rfl, Nat.le_of_ble_eq_true rfl⟩) hK hP hD hS hA [3] (by decide) rfl rfl (ci := 0) rfl rfl rfl (fun z => WX2 cI cZ cR q0 z) (tm_ins d0_1 3 1 t_2) rfl rfl hl.1 rfl (Nat.le_of_ble_eq_true rfl) dX2_open_14 ⟨Nat.zero_le _, Nat.zero_le _⟩ (fun d0_3 ed0_3 H locs hP hD hS => ?_)
  have hf := tm_at ed0_3 hf
  obtain rfl := Option.some.inj hf
  exact hend _ _ _ _ hP hD hS dX2_open_17
set_option maxHeartbeats 4000000 in
set_option maxRecDepth 100000 in
theorem tX2_hasNoRoom (l : Launch) (D : va_G) (cI cZ cR : ClassId) (N : Nat) (q0 : Nat → Nat) (d0 : tm_M) (r0 : Int32) (hf : fX2_hasNoRoom N d0 = some r0) : tm_CI l D (tm_ty cI cZ cR) yX2_hasNoRoom wsX2_hasNoRoom rmX2_hasNoRoom [.ref (q0 0)] (WX2 cI cZ cR q0 d0) r0 (WX2 cI cZ cR q0 d0) := by
  refine tm_mkI (cc := cX2_hasNoRoom) (maxL := 1) (ty := .boolean) (by decide) rfl (Nat.le_of_ble_eq_true rfl) ?_
  intro p e s m below meth c A ls Q C hP hD hS hl hend
  have C : tm_Cx p s m c [.ref (q0 0)].toArray cX2_hasNoRoom 1 RX2 wsX2_hasNoRoom D (tm_ty cI cZ cR) A s.heap := C
  obtain ⟨hx, hb, hml, hown, hts, hK, hA⟩ := id C
  have hl : lv_has ls 1 [(0, .ref (q0 0))] := hl
  unfold fX2_hasNoRoom at hf
  refine lv_aload_n hx hb dX2_hasNoRoom_0 rfl (lv_at hl 0 rfl) ?_
  refine va_get (D := D) (ci := 2) (v := .ref (q0 3)) (C := RX2) (T := TX2) (N := 8) hx hb hts uX2_hasNoRoom_X2 hown hK hP 0 rfl rfl 3 (by decide) (hts _ kX2_hasNoRoom_f21) (fun _ h9 => h9) rfl dX2_hasNoRoom_1 ?_
  obtain ⟨t_1, ot_1, hf⟩ := tm_bS hf
  refine tm_cVI (As := []) (rest := []) ⟨hx, hb, hml, hown, hts⟩ (tX0_isEmpty l D cI cZ cR N (tm_sq q0 3) (tm_sh d0 3) t_1 ot_1) (cwV 0 hts gX2_hasNoRoom_X0_isEmpty rfl rfl rfl hdwsV_X0_isEmpty ⟨Nat.le_of_ble_eq_true rfl, Nat.le_of_ble_eq_true rfl⟩) hK hP hD hS hA [3] (by decide) rfl rfl (ci := 0) rfl rfl rfl (fun _ => WX2 cI cZ cR q0 d0) (()) rfl rfl hl.1 rfl (Nat.le_of_ble_eq_true rfl) dX2_hasNoRoom_4 ⟨Nat.zero_le _, Nat.zero_le _⟩ (fun _ _ H locs hP hD hS => ?_)
  obtain ⟨h_2, hf⟩ := tm_gS hf
  obtain rfl := Option.some.inj hf
  exact hend _ _ _ _ hP hD hS (tm_bl_nar h_2) dX2_hasNoRoom_7
set_option maxHeartbeats 4000000 in
set_option maxRecDepth 100000 in
theorem tX2_add (l : Launch) (D : va_G) (cI cZ cR : ClassId) (N : Nat) (q0 : Nat → Nat) (d0 : tm_M) (p1 : Int32) (p2 : Int32) (z0 : tm_M) (hf : fX2_add N d0 p1 p2 = some z0) : tm_CV l D (tm_ty cI cZ cR) yX2_add wsX2_add rmX2_add [.ref (q0 0), .int p1, .int p2] (WX2 cI cZ cR q0 d0) (WX2 cI cZ cR q0 z0) := by
  refine tm_mkV (cc := cX2_add) (maxL := 3) (by decide) rfl (Nat.le_of_ble_eq_true rfl) ?_
  intro p e s m below meth c A ls Q C hP hD hS hl hend
  have C : tm_Cx p s m c [.ref (q0 0), .int p1, .int p2].toArray cX2_add 3 RX2 wsX2_add D (tm_ty cI cZ cR) A s.heap := C
  obtain ⟨hx, hb, hml, hown, hts, hK, hA⟩ := id C
  have hl : lv_has ls 3 [(0, .ref (q0 0)), (1, .int p1), (2, .int p2)] := hl
  unfold fX2_add at hf
  refine lv_aload_n hx hb dX2_add_0 rfl (lv_at hl 0 rfl) ?_
  refine va_get (D := D) (ci := 2) (v := .int (d0 0 2)) (C := RX2) (T := TX2) (N := 8) hx hb hts uX2_add_X2 hown hK hP 0 rfl rfl 2 (by decide) (hts _ kX2_add_f41) (fun _ h9 => h9) rfl dX2_add_1 ?_
  refine lv_bipush (v := 24) hx hb dX2_add_4 (by decide) ?_
  refine lv_icmp_ge (tgt := 39) hx hb dX2_add_6 (by decide) (fun c_1 => ?_) (fun c_1 => ?_)
  · have hf := tm_iT c_1 hf
    obtain rfl := Option.some.inj hf
    exact hend _ _ _ _ hP hD hS dX2_add_39
  · have hf := tm_iF c_1 hf
    refine lv_aload_n hx hb dX2_add_9 rfl (lv_at hl 0 rfl) ?_
    refine va_get (D := D) (ci := 2) (v := .ref (q0 1)) (C := RX2) (T := TX2) (N := 8) hx hb hts uX2_add_X2 hown hK hP 0 rfl rfl 0 (by decide) (hts _ kX2_add_f9) (fun _ h9 => h9) rfl dX2_add_10 ?_
    refine lv_aload_n hx hb dX2_add_13 rfl (lv_at hl 0 rfl) ?_
    refine va_get (D := D) (ci := 2) (v := .int (d0 0 2)) (C := RX2) (T := TX2) (N := 8) hx hb hts uX2_add_X2 hown hK hP 0 rfl rfl 2 (by decide) (hts _ kX2_add_f41) (fun _ h9 => h9) rfl dX2_add_14 ?_
    refine lv_iload_n hx hb dX2_add_17 rfl (lv_at hl 1 rfl) ?_
    obtain ⟨h_2, hf⟩ := tm_gS hf
    refine tm_iast hx hb hK hP hD hS 1 0 rfl rfl (tm_inb_in h_2) dX2_add_18 (fun z => WX2 cI cZ cR q0 z) (tm_upc d0 1 (upd (d0 1) (d0 0 2).toNatClampNeg p1)) rfl (fun d0_3 ed0_3 H locs hP hD hS => ?_)
    have hf := tm_at ed0_3 hf
    refine lv_aload_n hx hb dX2_add_19 rfl (lv_at hl 0 rfl) ?_
    refine va_get (D := D) (ci := 2) (v := .ref (q0 2)) (C := RX2) (T := TX2) (N := 8) hx hb hts uX2_add_X2 hown hK hP 0 rfl rfl 1 (by decide) (hts _ kX2_add_f15) (fun _ h9 => h9) rfl dX2_add_20 ?_
    refine lv_aload_n hx hb dX2_add_23 rfl (lv_at hl 0 rfl) ?_
    refine va_get (D := D) (ci := 2) (v := .int (d0_3 0 2)) (C := RX2) (T := TX2) (N := 8) hx hb hts uX2_add_X2 hown hK hP 0 rfl rfl 2 (by decide) (hts _ kX2_add_f41) (fun _ h9 => h9) rfl dX2_add_24 ?_
    refine lv_iload_n hx hb dX2_add_27 rfl (lv_at hl 2 rfl) ?_
    obtain ⟨h_4, hf⟩ := tm_gS hf
    refine tm_iast hx hb hK hP hD hS 2 0 rfl rfl (tm_inb_in h_4) dX2_add_28 (fun z => WX2 cI cZ cR q0 z) (tm_upc d0_3 2 (upd (d0_3 2) (d0_3 0 2).toNatClampNeg p2)) rfl (fun d0_5 ed0_5 H locs hP hD hS => ?_)
    have hf := tm_at ed0_5 hf
    refine lv_aload_n hx hb dX2_add_29 rfl (lv_at hl 0 rfl) ?_
    refine lv_dup hx hb dX2_add_30 rfl ?_
    refine va_get (D := D) (ci := 2) (v := .int (d0_5 0 2)) (C := RX2) (T := TX2) (N := 8) hx hb hts uX2_add_X2 hown hK hP 0 rfl rfl 2 (by decide) (hts _ kX2_add_f41) (fun _ h9 => h9) rfl dX2_add_31 ?_
    refine lv_iconst (v := 1) hx hb dX2_add_34 (by decide) ?_
    refine lv_iadd hx hb dX2_add_35 ?_
    refine tm_put (D := D) (ci := 2) (v := .int ((d0_5 0 2) + 1)) (ty := .int) (C := RX2) (T := TX2) (N := 8) hx hb hts uX2_add_X2 tyX2 tyX2_ok nmX2 hown hK hP hD hS 0 rfl rfl 2 (by decide) (hts _ kX2_add_f41) (fun _ h9 => h9) rfl (by decide +kernel) rfl rfl (Nat.le_of_ble_eq_true rfl) dX2_add_36 (fun z => WX2 cI cZ cR q0 z) (tm_upk d0_5 0 2 ((d0_5 0 2) + 1)) rfl (fun d0_6 ed0_6 H locs hP hD hS => ?_)
    have hf := tm_at ed0_6 hf
    obtain rfl := Option.some.inj hf
    exact hend _ _ _ _ hP hD hS dX2_add_39
set_option maxHeartbeats 4000000 in
set_option maxRecDepth 100000 in
theorem wX2_fillBand_10 (l : Launch) (D : va_G) (cI cZ cR : ClassId) (N : Nat) (q0 : Nat → Nat) (q1 : Nat → Nat) {p : Program} {e : Env} {s : State} {m : MethodId} {args : Array Value} {below : List Frame} {meth : Method} {c : Code} {A : Nat → Prop} {H0 : Heap} {Q : State → Prop} (C : tm_Cx p s m c args cX2_fillBand 8 RX2 wsX2_fillBand D (tm_ty cI cZ cR) A H0) (d1 : tm_M) (v1 : Int32) (v2 : Int32) (v3 : Int32) : ∀ (n : Nat) (st : Int32 × tm_M) (o : (Int32 × tm_M)), tm_whl (bX2_fillBand_10 N v2) n st = some o → (fun (o : Int32 × tm_M) => ∀ (H : Heap) (locs : List Loc) (ls : Array Slot), va_P D vwCl (WX2X3 cI cZ cR q0 q1 o.2 d1) H → va_D A (WX2X3 cI cZ cR q0 q1 o.2 d1) → va_S A H0 H locs → lv_has ls 8 [(0, .ref (q0 0)), (1, .int v1), (2, .int v2), (3, .int v3), (4, .ref (q1 0))] → W p l e rmX2_fillBand s m args below meth c H locs 0 0 Q (F0 m 36 ls [])) o → (fun (st : Int32 × tm_M) => ∀ (H : Heap) (locs : List Loc) (ls : Array Slot), va_P D vwCl (WX2X3 cI cZ cR q0 q1 st.2 d1) H → va_D A (WX2X3 cI cZ cR q0 q1 st.2 d1) → va_S A H0 H locs → lv_has ls 8 [(0, .ref (q0 0)), (1, .int v1), (2, .int v2), (3, .int v3), (4, .ref (q1 0)), (5, .int st.1)] → W p l e rmX2_fillBand s m args below meth c H locs 0 0 Q (F0 m 10 ls [])) st := by
  obtain ⟨hx, hb, hml, hown, hts, hK, hA⟩ := id C
  refine tm_whl_W (Wh := fun (st : Int32 × tm_M) => ∀ (H : Heap) (locs : List Loc) (ls : Array Slot), va_P D vwCl (WX2X3 cI cZ cR q0 q1 st.2 d1) H → va_D A (WX2X3 cI cZ cR q0 q1 st.2 d1) → va_S A H0 H locs → lv_has ls 8 [(0, .ref (q0 0)), (1, .int v1), (2, .int v2), (3, .int v3), (4, .ref (q1 0)), (5, .int st.1)] → W p l e rmX2_fillBand s m args below meth c H locs 0 0 Q (F0 m 10 ls [])) (Wx := fun (o : Int32 × tm_M) => ∀ (H : Heap) (locs : List Loc) (ls : Array Slot), va_P D vwCl (WX2X3 cI cZ cR q0 q1 o.2 d1) H → va_D A (WX2X3 cI cZ cR q0 q1 o.2 d1) → va_S A H0 H locs → lv_has ls 8 [(0, .ref (q0 0)), (1, .int v1), (2, .int v2), (3, .int v3), (4, .ref (q1 0))] → W p l e rmX2_fillBand s m args below meth c H locs 0 0 Q (F0 m 36 ls [])) ?_
  intro st r hf hk H locs ls hP hD hS hl
  unfold bX2_fillBand_10 at hf
  refine lv_iload hx hb dX2_fillBand_10 (lv_at hl 5 rfl) ?_
  refine lv_iload_n hx hb dX2_fillBand_12 rfl (lv_at hl 2 rfl) ?_
  refine lv_icmp_ge (tgt := 36) hx hb dX2_fillBand_13 (by decide) (fun c_3 => ?_) (fun c_3 => ?_)
  · have hf := tm_iT c_3 hf
    obtain rfl := Option.some.inj hf
    exact hk _ _ _ hP hD hS (lv_sub hl [0, 1, 2, 3, 4] rfl)
  · have hf := tm_iF c_3 hf
    refine lv_aload_n hx hb dX2_fillBand_16 rfl (lv_at hl 0 rfl) ?_
    refine va_get (D := D) (ci := 2) (v := .ref (q0 5)) (C := RX2) (T := TX2) (N := 8) hx hb hts uX2_fillBand_X2 hown hK hP 0 rfl rfl 5 (by decide) (hts _ kX2_fillBand_f31) (fun _ h9 => h9) rfl dX2_fillBand_17 ?_
    refine lv_aload_n hx hb dX2_fillBand_20 rfl (lv_at hl 0 rfl) ?_
    refine va_get (D := D) (ci := 2) (v := .ref (q0 2)) (C := RX2) (T := TX2) (N := 8) hx hb hts uX2_fillBand_X2 hown hK hP 0 rfl rfl 1 (by decide) (hts _ kX2_fillBand_f15) (fun _ h9 => h9) rfl dX2_fillBand_21 ?_
    refine lv_iload hx hb dX2_fillBand_24 (lv_at hl 5 rfl) ?_
    obtain ⟨h_4, hf⟩ := tm_gS hf
    refine va_iald hx hb hK hP 2 0 rfl rfl (tm_inb_in h_4) dX2_fillBand_26 ?_
    obtain ⟨t_5, ot_5, hf⟩ := tm_bS hf
    refine tm_cVV (As := [.int (st.2 2 st.1.toNatClampNeg)]) (rest := []) ⟨hx, hb, hml, hown, hts⟩ (tX4_add l D cI cZ cR N (tm_sq q0 5) (tm_sh st.2 5) (st.2 2 st.1.toNatClampNeg) t_5 ot_5) (cwV 1 hts gX2_fillBand_X4_add rfl rfl rfl hdwsV_X4_add ⟨Nat.le_of_ble_eq_true rfl, Nat.le_of_ble_eq_true rfl⟩) hK hP hD hS hA [5, 6, 7, 8] (by decide) rfl rfl (ci := 4) rfl rfl rfl (fun z => WX2X3 cI cZ cR q0 q1 z d1) (tm_ins st.2 5 4 t_5) rfl rfl hl.1 rfl (Nat.le_of_ble_eq_true rfl) dX2_fillBand_27 ⟨Nat.zero_le _, Nat.zero_le _⟩ (fun d0_6 ed0_6 H locs hP hD hS => ?_)
    have hf := tm_at ed0_6 hf
    obtain ⟨x_7, ex_7⟩ : ∃ y : Int32, y = st.1 + 1 := ⟨_, rfl⟩
    have hf := tm_at ex_7 hf
    refine lv_iinc (v := x_7) (lv' := [(5, .int x_7), (0, .ref (q0 0)), (1, .int v1), (2, .int v2), (3, .int v3), (4, .ref (q1 0))]) hx hb dX2_fillBand_30 hl (k := 5) rfl (by rw [ex_7]; rfl) (by decide) rfl (fun ls hl => ?_)
    refine lv_goto (tgt := 10) hx hb dX2_fillBand_33 (by decide) ?_
    obtain rfl := Option.some.inj hf
    exact hk _ _ _ hP hD hS (lv_sub hl [1, 2, 3, 4, 5, 0] rfl)
set_option maxHeartbeats 4000000 in
set_option maxRecDepth 100000 in
theorem wX2_fillBand_70 (l : Launch) (D : va_G) (cI cZ cR : ClassId) (N : Nat) (q0 : Nat → Nat) (q1 : Nat → Nat) {p : Program} {e : Env} {s : State} {m : MethodId} {args : Array Value} {below : List Frame} {meth : Method} {c : Code} {A : Nat → Prop} {H0 : Heap} {Q : State → Prop} (C : tm_Cx p s m c args cX2_fillBand 8 RX2 wsX2_fillBand D (tm_ty cI cZ cR) A H0) (d0 : tm_M) (v1 : Int32) (v2 : Int32) (v3 : Int32) : ∀ (n : Nat) (st : Int32 × Int32 × tm_M) (o : (Int32 × Int32 × tm_M)), tm_whl (bX2_fillBand_70 N d0 v1 v2 v3) n st = some o → (fun (o : Int32 × Int32 × tm_M) => ∀ (H : Heap) (locs : List Loc) (ls : Array Slot), va_P D vwCl (WX2X3 cI cZ cR q0 q1 d0 o.2.2) H → va_D A (WX2X3 cI cZ cR q0 q1 d0 o.2.2) → va_S A H0 H locs → lv_has ls 8 [] → W p l e rmX2_fillBand s m args below meth c H locs 0 0 Q (F0 m 186 ls [])) o → (fun (st : Int32 × Int32 × tm_M) => ∀ (H : Heap) (locs : List Loc) (ls : Array Slot), va_P D vwCl (WX2X3 cI cZ cR q0 q1 d0 st.2.2) H → va_D A (WX2X3 cI cZ cR q0 q1 d0 st.2.2) → va_S A H0 H locs → lv_has ls 8 [(0, .ref (q0 0)), (1, .int v1), (2, .int v2), (3, .int v3), (4, .ref (q1 0)), (5, .int st.1), (6, .int st.2.1)] → W p l e rmX2_fillBand s m args below meth c H locs 0 0 Q (F0 m 70 ls [])) st := by
  obtain ⟨hx, hb, hml, hown, hts, hK, hA⟩ := id C
  refine tm_whl_W (Wh := fun (st : Int32 × Int32 × tm_M) => ∀ (H : Heap) (locs : List Loc) (ls : Array Slot), va_P D vwCl (WX2X3 cI cZ cR q0 q1 d0 st.2.2) H → va_D A (WX2X3 cI cZ cR q0 q1 d0 st.2.2) → va_S A H0 H locs → lv_has ls 8 [(0, .ref (q0 0)), (1, .int v1), (2, .int v2), (3, .int v3), (4, .ref (q1 0)), (5, .int st.1), (6, .int st.2.1)] → W p l e rmX2_fillBand s m args below meth c H locs 0 0 Q (F0 m 70 ls [])) (Wx := fun (o : Int32 × Int32 × tm_M) => ∀ (H : Heap) (locs : List Loc) (ls : Array Slot), va_P D vwCl (WX2X3 cI cZ cR q0 q1 d0 o.2.2) H → va_D A (WX2X3 cI cZ cR q0 q1 d0 o.2.2) → va_S A H0 H locs → lv_has ls 8 [] → W p l e rmX2_fillBand s m args below meth c H locs 0 0 Q (F0 m 186 ls [])) ?_
  intro st r hf hk H locs ls hP hD hS hl
  unfold bX2_fillBand_70 at hf
  refine lv_iload hx hb dX2_fillBand_70 (lv_at hl 6 rfl) ?_
  refine lv_iload_n hx hb dX2_fillBand_72 rfl (lv_at hl 2 rfl) ?_
  refine lv_icmp_ge (tgt := 186) hx hb dX2_fillBand_73 (by decide) (fun c_12 => ?_) (fun c_12 => ?_)
  · have hf := tm_iT c_12 hf
    obtain rfl := Option.some.inj hf
    exact hk _ _ _ hP hD hS (lv_sub hl [] rfl)
  · have hf := tm_iF c_12 hf
    refine lv_aload_n hx hb dX2_fillBand_76 rfl (lv_at hl 0 rfl) ?_
    refine va_get (D := D) (ci := 2) (v := .ref (q0 5)) (C := RX2) (T := TX2) (N := 8) hx hb hts uX2_fillBand_X2 hown hK hP 0 rfl rfl 5 (by decide) (hts _ kX2_fillBand_f31) (fun _ h9 => h9) rfl dX2_fillBand_77 ?_
    refine va_get (D := D) (ci := 4) (v := .ref (q0 8)) (C := RX4) (T := TX4) (N := 4) hx hb hts uX2_fillBand_X4 hown hK hP 5 rfl rfl 2 (by decide) (hts _ kX2_fillBand_f79) (fun _ h9 => h9) rfl dX2_fillBand_80 ?_
    refine lv_iload hx hb dX2_fillBand_83 (lv_at hl 6 rfl) ?_
    refine lv_iload_n hx hb dX2_fillBand_85 rfl (lv_at hl 1 rfl) ?_
    refine lv_isub hx hb dX2_fillBand_86 ?_
    obtain ⟨h_13, hf⟩ := tm_gS hf
    refine va_iald hx hb hK hP 8 0 rfl rfl (tm_inb_in h_13) dX2_fillBand_87 ?_
    refine lv_topi (fun x_14 ex_14 => ?_)
    have hf := tm_at ex_14 hf
    refine lv_istore (lv' := [(7, .int x_14), (0, .ref (q0 0)), (1, .int v1), (2, .int v2), (3, .int v3), (4, .ref (q1 0)), (5, .int st.1), (6, .int st.2.1)]) hx hb dX2_fillBand_88 hl (by decide) rfl (fun ls hl => ?_)
    refine lv_iload_n hx hb dX2_fillBand_90 rfl (lv_at hl 4 rfl) ?_
    refine lv_if_eq (tgt := 135) hx hb dX2_fillBand_91 (by decide) (fun c_15 => ?_) (fun c_15 => ?_)
    · have hf := tm_iT c_15 hf
      refine lv_aload hx hb dX2_fillBand_135 (lv_at hl 5 rfl) ?_
      refine lv_aload_n hx hb dX2_fillBand_137 rfl (lv_at hl 1 rfl) ?_
      refine va_get (D := D) (ci := 2) (v := .ref (q0 1)) (C := RX2) (T := TX2) (N := 8) hx hb hts uX2_fillBand_X2 hown hK hP 0 rfl rfl 0 (by decide) (hts _ kX2_fillBand_f9) (fun _ h9 => h9) rfl dX2_fillBand_138 ?_
      refine lv_iload hx hb dX2_fillBand_141 (lv_at hl 7 rfl) ?_
      obtain ⟨h_16, hf⟩ := tm_gS hf
      refine va_iald hx hb hK hP 1 0 rfl rfl (tm_inb_in h_16) dX2_fillBand_143 ?_
      refine lv_aload_n hx hb dX2_fillBand_144 rfl (lv_at hl 1 rfl) ?_
      refine va_get (D := D) (ci := 2) (v := .ref (q0 4)) (C := RX2) (T := TX2) (N := 8) hx hb hts uX2_fillBand_X2 hown hK hP 0 rfl rfl 4 (by decide) (hts _ kX2_fillBand_f25) (fun _ h9 => h9) rfl dX2_fillBand_145 ?_
      refine va_get (D := D) (ci := 0) (v := .int (d0 4 0)) (C := RX0) (T := TX0) (N := 4) hx hb hts uX2_fillBand_X0 hown hK hP 4 rfl rfl 0 (by decide) (hts _ kX2_fillBand_f53) (fun _ h9 => h9) rfl dX2_fillBand_148 ?_
      refine lv_aload_n hx hb dX2_fillBand_151 rfl (lv_at hl 1 rfl) ?_
      refine va_get (D := D) (ci := 2) (v := .ref (q0 4)) (C := RX2) (T := TX2) (N := 8) hx hb hts uX2_fillBand_X2 hown hK hP 0 rfl rfl 4 (by decide) (hts _ kX2_fillBand_f25) (fun _ h9 => h9) rfl dX2_fillBand_152 ?_
      refine va_get (D := D) (ci := 0) (v := .int (d0 4 1)) (C := RX0) (T := TX0) (N := 4) hx hb hts uX2_fillBand_X0 hown hK hP 4 rfl rfl 1 (by decide) (hts _ kX2_fillBand_f56) (fun _ h9 => h9) rfl dX2_fillBand_155 ?_
      refine lv_iload hx hb dX2_fillBand_158 (lv_at hl 6 rfl) ?_
      refine lv_iadd hx hb dX2_fillBand_160 ?_
      refine lv_aload_n hx hb dX2_fillBand_161 rfl (lv_at hl 1 rfl) ?_
      refine va_get (D := D) (ci := 2) (v := .ref (q0 4)) (C := RX2) (T := TX2) (N := 8) hx hb hts uX2_fillBand_X2 hown hK hP 0 rfl rfl 4 (by decide) (hts _ kX2_fillBand_f25) (fun _ h9 => h9) rfl dX2_fillBand_162 ?_
      refine va_get (D := D) (ci := 0) (v := .int (d0 4 2)) (C := RX0) (T := TX0) (N := 4) hx hb hts uX2_fillBand_X0 hown hK hP 4 rfl rfl 2 (by decide) (hts _ kX2_fillBand_f59) (fun _ h9 => h9) rfl dX2_fillBand_165 ?_
      refine lv_iload hx hb dX2_fillBand_168 (lv_at hl 0 rfl) ?_
      obtain ⟨t_17, ot_17, hf⟩ := tm_bS hf
      refine tm_cVV (As := [.int (d0 1 st.2.1.toNatClampNeg), .int (d0 4 0), .int ((d0 4 1) + st.1), .int (d0 4 2), .int x_14]) (rest := []) ⟨hx, hb, hml, hown, hts⟩ (tX3_put l D cI cZ cR N q1 st.2.2 (d0 1 st.2.1.toNatClampNeg) (d0 4 0) ((d0 4 1) + st.1) (d0 4 2) x_14 t_17 ot_17) (cwV 5 hts gX2_fillBand_X3_put rfl rfl rfl hdwsV_X3_put ⟨Nat.le_of_ble_eq_true rfl, Nat.le_of_ble_eq_true rfl⟩) hK hP hD hS hA [14, 15, 16, 17, 18] (by decide) rfl rfl (ci := 3) rfl rfl rfl (fun _ => WX2X3 cI cZ cR q0 q1 d0 t_17) (()) rfl rfl hl.1 rfl (Nat.le_of_ble_eq_true rfl) dX2_fillBand_170 ⟨Nat.zero_le _, Nat.zero_le _⟩ (fun _ _ H locs hP hD hS => ?_)
      refine lv_iload hx hb dX2_fillBand_173 (lv_at hl 6 rfl) ?_
      refine lv_iload hx hb dX2_fillBand_175 (lv_at hl 0 rfl) ?_
      refine lv_iadd hx hb dX2_fillBand_177 ?_
      refine lv_topi (fun x_18 ex_18 => ?_)
      have hf := tm_at ex_18 hf
      refine lv_istore (lv' := [(5, .int x_18), (7, .int x_14), (0, .ref (q0 0)), (1, .int v1), (2, .int v2), (3, .int v3), (4, .ref (q1 0)), (6, .int st.2.1)]) hx hb dX2_fillBand_178 hl (by decide) rfl (fun ls hl => ?_)
      obtain ⟨x_19, ex_19⟩ : ∃ y : Int32, y = st.2.1 + 1 := ⟨_, rfl⟩
      have hf := tm_at ex_19 hf
      refine lv_iinc (v := x_19) (lv' := [(6, .int x_19), (5, .int x_18), (7, .int x_14), (0, .ref (q0 0)), (1, .int v1), (2, .int v2), (3, .int v3), (4, .ref (q1 0))]) hx hb dX2_fillBand_180 hl (k := 7) rfl (by rw [ex_19]; rfl) (by decide) rfl (fun ls hl => ?_)
      refine lv_goto (tgt := 70) hx hb dX2_fillBand_183 (by decide) ?_
      obtain rfl := Option.some.inj hf
      exact hk _ _ _ hP hD hS (lv_sub hl [3, 4, 5, 6, 7, 1, 0] rfl)
    · have hf := tm_iF c_15 hf
      refine lv_aload hx hb dX2_fillBand_94 (lv_at hl 5 rfl) ?_
      refine lv_aload_n hx hb dX2_fillBand_96 rfl (lv_at hl 1 rfl) ?_
      refine va_get (D := D) (ci := 2) (v := .ref (q0 1)) (C := RX2) (T := TX2) (N := 8) hx hb hts uX2_fillBand_X2 hown hK hP 0 rfl rfl 0 (by decide) (hts _ kX2_fillBand_f9) (fun _ h9 => h9) rfl dX2_fillBand_97 ?_
      refine lv_iload hx hb dX2_fillBand_100 (lv_at hl 7 rfl) ?_
      obtain ⟨h_20, hf⟩ := tm_gS hf
      refine va_iald hx hb hK hP 1 0 rfl rfl (tm_inb_in h_20) dX2_fillBand_102 ?_
      refine lv_aload_n hx hb dX2_fillBand_103 rfl (lv_at hl 1 rfl) ?_
      refine va_get (D := D) (ci := 2) (v := .ref (q0 4)) (C := RX2) (T := TX2) (N := 8) hx hb hts uX2_fillBand_X2 hown hK hP 0 rfl rfl 4 (by decide) (hts _ kX2_fillBand_f25) (fun _ h9 => h9) rfl dX2_fillBand_104 ?_
      refine va_get (D := D) (ci := 0) (v := .int (d0 4 0)) (C := RX0) (T := TX0) (N := 4) hx hb hts uX2_fillBand_X0 hown hK hP 4 rfl rfl 0 (by decide) (hts _ kX2_fillBand_f53) (fun _ h9 => h9) rfl dX2_fillBand_107 ?_
      refine lv_iload hx hb dX2_fillBand_110 (lv_at hl 6 rfl) ?_
      refine lv_iadd hx hb dX2_fillBand_112 ?_
      refine lv_aload_n hx hb dX2_fillBand_113 rfl (lv_at hl 1 rfl) ?_
      refine va_get (D := D) (ci := 2) (v := .ref (q0 4)) (C := RX2) (T := TX2) (N := 8) hx hb hts uX2_fillBand_X2 hown hK hP 0 rfl rfl 4 (by decide) (hts _ kX2_fillBand_f25) (fun _ h9 => h9) rfl dX2_fillBand_114 ?_
      refine va_get (D := D) (ci := 0) (v := .int (d0 4 1)) (C := RX0) (T := TX0) (N := 4) hx hb hts uX2_fillBand_X0 hown hK hP 4 rfl rfl 1 (by decide) (hts _ kX2_fillBand_f56) (fun _ h9 => h9) rfl dX2_fillBand_117 ?_
      refine lv_iload hx hb dX2_fillBand_120 (lv_at hl 0 rfl) ?_
      refine lv_aload_n hx hb dX2_fillBand_122 rfl (lv_at hl 1 rfl) ?_
      refine va_get (D := D) (ci := 2) (v := .ref (q0 4)) (C := RX2) (T := TX2) (N := 8) hx hb hts uX2_fillBand_X2 hown hK hP 0 rfl rfl 4 (by decide) (hts _ kX2_fillBand_f25) (fun _ h9 => h9) rfl dX2_fillBand_123 ?_
      refine va_get (D := D) (ci := 0) (v := .int (d0 4 3)) (C := RX0) (T := TX0) (N := 4) hx hb hts uX2_fillBand_X0 hown hK hP 4 rfl rfl 3 (by decide) (hts _ kX2_fillBand_f62) (fun _ h9 => h9) rfl dX2_fillBand_126 ?_
      obtain ⟨t_21, ot_21, hf⟩ := tm_bS hf
      refine tm_cVV (As := [.int (d0 1 st.2.1.toNatClampNeg), .int ((d0 4 0) + st.1), .int (d0 4 1), .int x_14, .int (d0 4 3)]) (rest := []) ⟨hx, hb, hml, hown, hts⟩ (tX3_put l D cI cZ cR N q1 st.2.2 (d0 1 st.2.1.toNatClampNeg) ((d0 4 0) + st.1) (d0 4 1) x_14 (d0 4 3) t_21 ot_21) (cwV 5 hts gX2_fillBand_X3_put rfl rfl rfl hdwsV_X3_put ⟨Nat.le_of_ble_eq_true rfl, Nat.le_of_ble_eq_true rfl⟩) hK hP hD hS hA [14, 15, 16, 17, 18] (by decide) rfl rfl (ci := 3) rfl rfl rfl (fun _ => WX2X3 cI cZ cR q0 q1 d0 t_21) (()) rfl rfl hl.1 rfl (Nat.le_of_ble_eq_true rfl) dX2_fillBand_129 ⟨Nat.zero_le _, Nat.zero_le _⟩ (fun _ _ H locs hP hD hS => ?_)
      refine lv_goto (tgt := 173) hx hb dX2_fillBand_132 (by decide) ?_
      refine lv_iload hx hb dX2_fillBand_173 (lv_at hl 6 rfl) ?_
      refine lv_iload hx hb dX2_fillBand_175 (lv_at hl 0 rfl) ?_
      refine lv_iadd hx hb dX2_fillBand_177 ?_
      refine lv_topi (fun x_22 ex_22 => ?_)
      have hf := tm_at ex_22 hf
      refine lv_istore (lv' := [(5, .int x_22), (7, .int x_14), (0, .ref (q0 0)), (1, .int v1), (2, .int v2), (3, .int v3), (4, .ref (q1 0)), (6, .int st.2.1)]) hx hb dX2_fillBand_178 hl (by decide) rfl (fun ls hl => ?_)
      obtain ⟨x_23, ex_23⟩ : ∃ y : Int32, y = st.2.1 + 1 := ⟨_, rfl⟩
      have hf := tm_at ex_23 hf
      refine lv_iinc (v := x_23) (lv' := [(6, .int x_23), (5, .int x_22), (7, .int x_14), (0, .ref (q0 0)), (1, .int v1), (2, .int v2), (3, .int v3), (4, .ref (q1 0))]) hx hb dX2_fillBand_180 hl (k := 7) rfl (by rw [ex_23]; rfl) (by decide) rfl (fun ls hl => ?_)
      refine lv_goto (tgt := 70) hx hb dX2_fillBand_183 (by decide) ?_
      obtain rfl := Option.some.inj hf
      exact hk _ _ _ hP hD hS (lv_sub hl [3, 4, 5, 6, 7, 1, 0] rfl)
set_option maxHeartbeats 4000000 in
set_option maxRecDepth 100000 in
theorem tX2_fillBand (l : Launch) (D : va_G) (cI cZ cR : ClassId) (N : Nat) (q0 : Nat → Nat) (q1 : Nat → Nat) (d0 : tm_M) (d1 : tm_M) (p1 : Int32) (p2 : Int32) (p3 : Int32) (z0 : tm_M) (z1 : tm_M) (hf : fX2_fillBand N d0 d1 p1 p2 p3 = some (z0, z1)) : tm_CV l D (tm_ty cI cZ cR) yX2_fillBand wsX2_fillBand rmX2_fillBand [.ref (q0 0), .int p1, .int p2, .int p3, .ref (q1 0)] (WX2X3 cI cZ cR q0 q1 d0 d1) (WX2X3 cI cZ cR q0 q1 z0 z1) := by
  refine tm_mkV (cc := cX2_fillBand) (maxL := 8) (by decide) rfl (Nat.le_of_ble_eq_true rfl) ?_
  intro p e s m below meth c A ls Q C hP hD hS hl hend
  have C : tm_Cx p s m c [.ref (q0 0), .int p1, .int p2, .int p3, .ref (q1 0)].toArray cX2_fillBand 8 RX2 wsX2_fillBand D (tm_ty cI cZ cR) A s.heap := C
  obtain ⟨hx, hb, hml, hown, hts, hK, hA⟩ := id C
  have hl : lv_has ls 8 [(0, .ref (q0 0)), (1, .int p1), (2, .int p2), (3, .int p3), (4, .ref (q1 0))] := hl
  unfold fX2_fillBand at hf
  refine lv_aload_n hx hb dX2_fillBand_0 rfl (lv_at hl 0 rfl) ?_
  refine va_get (D := D) (ci := 2) (v := .ref (q0 5)) (C := RX2) (T := TX2) (N := 8) hx hb hts uX2_fillBand_X2 hown hK hP 0 rfl rfl 5 (by decide) (hts _ kX2_fillBand_f31) (fun _ h9 => h9) rfl dX2_fillBand_1 ?_
  obtain ⟨t_1, ot_1, hf⟩ := tm_bS hf
  refine tm_cVV (As := []) (rest := []) ⟨hx, hb, hml, hown, hts⟩ (tX4_clear l D cI cZ cR N (tm_sq q0 5) (tm_sh d0 5) t_1 ot_1) (cwV 0 hts gX2_fillBand_X4_clear rfl rfl rfl hdwsV_X4_clear ⟨Nat.le_of_ble_eq_true rfl, Nat.le_of_ble_eq_true rfl⟩) hK hP hD hS hA [5, 6, 7, 8] (by decide) rfl rfl (ci := 4) rfl rfl rfl (fun z => WX2X3 cI cZ cR q0 q1 z d1) (tm_ins d0 5 4 t_1) rfl rfl hl.1 rfl (Nat.le_of_ble_eq_true rfl) dX2_fillBand_4 ⟨Nat.zero_le _, Nat.zero_le _⟩ (fun d0_2 ed0_2 H locs hP hD hS => ?_)
  have hf := tm_at ed0_2 hf
  refine lv_iload_n hx hb dX2_fillBand_7 rfl (lv_at hl 1 rfl) ?_
  refine lv_istore (lv' := [(5, .int p1), (0, .ref (q0 0)), (1, .int p1), (2, .int p2), (3, .int p3), (4, .ref (q1 0))]) hx hb dX2_fillBand_8 hl (by decide) rfl (fun ls hl => ?_)
  obtain ⟨t_8, ot_8, hf⟩ := tm_bS hf
  refine wX2_fillBand_10 l D cI cZ cR N q0 q1 C d1 p1 p2 p3 _ _ _ ot_8 ?_ _ _ _ hP hD hS (lv_sub hl [1, 2, 3, 4, 5, 0] rfl)
  intro H locs ls hP hD hS hl
  refine lv_aload_n hx hb dX2_fillBand_36 rfl (lv_at hl 0 rfl) ?_
  refine va_get (D := D) (ci := 2) (v := .ref (q0 5)) (C := RX2) (T := TX2) (N := 8) hx hb hts uX2_fillBand_X2 hown hK hP 0 rfl rfl 5 (by decide) (hts _ kX2_fillBand_f31) (fun _ h9 => h9) rfl dX2_fillBand_37 ?_
  refine lv_iload_n hx hb dX2_fillBand_40 rfl (lv_at hl 3 rfl) ?_
  refine lv_if_eq (tgt := 54) hx hb dX2_fillBand_41 (by decide) (fun c_9 => ?_) (fun c_9 => ?_)
  · have hf := tm_iT c_9 hf
    refine lv_aload_n hx hb dX2_fillBand_54 rfl (lv_at hl 0 rfl) ?_
    refine va_get (D := D) (ci := 2) (v := .ref (q0 4)) (C := RX2) (T := TX2) (N := 8) hx hb hts uX2_fillBand_X2 hown hK hP 0 rfl rfl 4 (by decide) (hts _ kX2_fillBand_f25) (fun _ h9 => h9) rfl dX2_fillBand_55 ?_
    refine va_get (D := D) (ci := 0) (v := .int (t_8.2 4 3)) (C := RX0) (T := TX0) (N := 4) hx hb hts uX2_fillBand_X0 hown hK hP 4 rfl rfl 3 (by decide) (hts _ kX2_fillBand_f62) (fun _ h9 => h9) rfl dX2_fillBand_58 ?_
    obtain ⟨t_10, ot_10, hf⟩ := tm_bS hf
    refine tm_cVV (As := [.int (t_8.2 4 3)]) (rest := []) ⟨hx, hb, hml, hown, hts⟩ (tX4_apportion l D cI cZ cR N (tm_sq q0 5) (tm_sh t_8.2 5) (t_8.2 4 3) t_10 ot_10) (cwV 1 hts gX2_fillBand_X4_apportion rfl rfl rfl hdwsV_X4_apportion ⟨Nat.le_of_ble_eq_true rfl, Nat.le_of_ble_eq_true rfl⟩) hK hP hD hS hA [5, 6, 7, 8] (by decide) rfl rfl (ci := 4) rfl rfl rfl (fun z => WX2X3 cI cZ cR q0 q1 z d1) (tm_ins t_8.2 5 4 t_10) rfl rfl hl.1 rfl (Nat.le_of_ble_eq_true rfl) dX2_fillBand_61 ⟨Nat.zero_le _, Nat.zero_le _⟩ (fun d0_11 ed0_11 H locs hP hD hS => ?_)
    have hf := tm_at ed0_11 hf
    refine lv_iconst (v := 0) hx hb dX2_fillBand_64 (by decide) ?_
    refine lv_istore (lv' := [(5, .int 0), (0, .ref (q0 0)), (1, .int p1), (2, .int p2), (3, .int p3), (4, .ref (q1 0))]) hx hb dX2_fillBand_65 hl (by decide) rfl (fun ls hl => ?_)
    refine lv_iload_n hx hb dX2_fillBand_67 rfl (lv_at hl 2 rfl) ?_
    refine lv_istore (lv' := [(6, .int p1), (5, .int 0), (0, .ref (q0 0)), (1, .int p1), (2, .int p2), (3, .int p3), (4, .ref (q1 0))]) hx hb dX2_fillBand_68 hl (by decide) rfl (fun ls hl => ?_)
    obtain ⟨t_24, ot_24, hf⟩ := tm_bS hf
    refine wX2_fillBand_70 l D cI cZ cR N q0 q1 C d0_11 p1 p2 p3 _ _ _ ot_24 ?_ _ _ _ hP hD hS (lv_sub hl [2, 3, 4, 5, 6, 1, 0] rfl)
    intro H locs ls hP hD hS hl
    simp only [Option.some.injEq, Prod.mk.injEq] at hf
    obtain ⟨rfl, rfl⟩ := hf
    exact hend _ _ _ _ hP hD hS dX2_fillBand_186
  · have hf := tm_iF c_9 hf
    refine lv_aload_n hx hb dX2_fillBand_44 rfl (lv_at hl 0 rfl) ?_
    refine va_get (D := D) (ci := 2) (v := .ref (q0 4)) (C := RX2) (T := TX2) (N := 8) hx hb hts uX2_fillBand_X2 hown hK hP 0 rfl rfl 4 (by decide) (hts _ kX2_fillBand_f25) (fun _ h9 => h9) rfl dX2_fillBand_45 ?_
    refine va_get (D := D) (ci := 0) (v := .int (t_8.2 4 2)) (C := RX0) (T := TX0) (N := 4) hx hb hts uX2_fillBand_X0 hown hK hP 4 rfl rfl 2 (by decide) (hts _ kX2_fillBand_f59) (fun _ h9 => h9) rfl dX2_fillBand_48 ?_
    refine lv_goto (tgt := 61) hx hb dX2_fillBand_51 (by decide) ?_
    obtain ⟨t_25, ot_25, hf⟩ := tm_bS hf
    refine tm_cVV (As := [.int (t_8.2 4 2)]) (rest := []) ⟨hx, hb, hml, hown, hts⟩ (tX4_apportion l D cI cZ cR N (tm_sq q0 5) (tm_sh t_8.2 5) (t_8.2 4 2) t_25 ot_25) (cwV 1 hts gX2_fillBand_X4_apportion rfl rfl rfl hdwsV_X4_apportion ⟨Nat.le_of_ble_eq_true rfl, Nat.le_of_ble_eq_true rfl⟩) hK hP hD hS hA [5, 6, 7, 8] (by decide) rfl rfl (ci := 4) rfl rfl rfl (fun z => WX2X3 cI cZ cR q0 q1 z d1) (tm_ins t_8.2 5 4 t_25) rfl rfl hl.1 rfl (Nat.le_of_ble_eq_true rfl) dX2_fillBand_61 ⟨Nat.zero_le _, Nat.zero_le _⟩ (fun d0_26 ed0_26 H locs hP hD hS => ?_)
    have hf := tm_at ed0_26 hf
    refine lv_iconst (v := 0) hx hb dX2_fillBand_64 (by decide) ?_
    refine lv_istore (lv' := [(5, .int 0), (0, .ref (q0 0)), (1, .int p1), (2, .int p2), (3, .int p3), (4, .ref (q1 0))]) hx hb dX2_fillBand_65 hl (by decide) rfl (fun ls hl => ?_)
    refine lv_iload_n hx hb dX2_fillBand_67 rfl (lv_at hl 2 rfl) ?_
    refine lv_istore (lv' := [(6, .int p1), (5, .int 0), (0, .ref (q0 0)), (1, .int p1), (2, .int p2), (3, .int p3), (4, .ref (q1 0))]) hx hb dX2_fillBand_68 hl (by decide) rfl (fun ls hl => ?_)
    obtain ⟨t_27, ot_27, hf⟩ := tm_bS hf
    refine wX2_fillBand_70 l D cI cZ cR N q0 q1 C d0_26 p1 p2 p3 _ _ _ ot_27 ?_ _ _ _ hP hD hS (lv_sub hl [2, 3, 4, 5, 6, 1, 0] rfl)
    intro H locs ls hP hD hS hl
    simp only [Option.some.injEq, Prod.mk.injEq] at hf
    obtain ⟨rfl, rfl⟩ := hf
    exact hend _ _ _ _ hP hD hS dX2_fillBand_186
set_option maxHeartbeats 4000000 in
set_option maxRecDepth 100000 in
theorem tX2_slice (l : Launch) (D : va_G) (cI cZ cR : ClassId) (N : Nat) (q0 : Nat → Nat) (q1 : Nat → Nat) (d0 : tm_M) (d1 : tm_M) (p1 : Int32) (z0 : tm_M) (z1 : tm_M) (hf : fX2_slice N d0 d1 p1 = some (z0, z1)) : tm_CV l D (tm_ty cI cZ cR) yX2_slice wsX2_slice rmX2_slice [.ref (q0 0), .int p1, .ref (q1 0)] (WX2X3 cI cZ cR q0 q1 d0 d1) (WX2X3 cI cZ cR q0 q1 z0 z1) := by
  refine tm_mkV (cc := cX2_slice) (maxL := 3) (by decide) rfl (Nat.le_of_ble_eq_true rfl) ?_
  intro p e s m below meth c A ls Q C hP hD hS hl hend
  have C : tm_Cx p s m c [.ref (q0 0), .int p1, .ref (q1 0)].toArray cX2_slice 3 RX2 wsX2_slice D (tm_ty cI cZ cR) A s.heap := C
  obtain ⟨hx, hb, hml, hown, hts, hK, hA⟩ := id C
  have hl : lv_has ls 3 [(0, .ref (q0 0)), (1, .int p1), (2, .ref (q1 0))] := hl
  unfold fX2_slice at hf
  refine lv_aload_n hx hb dX2_slice_0 rfl (lv_at hl 0 rfl) ?_
  refine va_get (D := D) (ci := 2) (v := .ref (q0 4)) (C := RX2) (T := TX2) (N := 8) hx hb hts uX2_slice_X2 hown hK hP 0 rfl rfl 4 (by decide) (hts _ kX2_slice_f25) (fun _ h9 => h9) rfl dX2_slice_1 ?_
  refine lv_aload_n hx hb dX2_slice_4 rfl (lv_at hl 0 rfl) ?_
  refine va_get (D := D) (ci := 2) (v := .ref (q0 3)) (C := RX2) (T := TX2) (N := 8) hx hb hts uX2_slice_X2 hown hK hP 0 rfl rfl 3 (by decide) (hts _ kX2_slice_f21) (fun _ h9 => h9) rfl dX2_slice_5 ?_
  refine va_get (D := D) (ci := 0) (v := .int (d0 3 0)) (C := RX0) (T := TX0) (N := 4) hx hb hts uX2_slice_X0 hown hK hP 3 rfl rfl 0 (by decide) (hts _ kX2_slice_f53) (fun _ h9 => h9) rfl dX2_slice_8 ?_
  refine lv_aload_n hx hb dX2_slice_11 rfl (lv_at hl 0 rfl) ?_
  refine va_get (D := D) (ci := 2) (v := .ref (q0 3)) (C := RX2) (T := TX2) (N := 8) hx hb hts uX2_slice_X2 hown hK hP 0 rfl rfl 3 (by decide) (hts _ kX2_slice_f21) (fun _ h9 => h9) rfl dX2_slice_12 ?_
  refine va_get (D := D) (ci := 0) (v := .int (d0 3 1)) (C := RX0) (T := TX0) (N := 4) hx hb hts uX2_slice_X0 hown hK hP 3 rfl rfl 1 (by decide) (hts _ kX2_slice_f56) (fun _ h9 => h9) rfl dX2_slice_15 ?_
  refine lv_aload_n hx hb dX2_slice_18 rfl (lv_at hl 0 rfl) ?_
  refine va_get (D := D) (ci := 2) (v := .ref (q0 3)) (C := RX2) (T := TX2) (N := 8) hx hb hts uX2_slice_X2 hown hK hP 0 rfl rfl 3 (by decide) (hts _ kX2_slice_f21) (fun _ h9 => h9) rfl dX2_slice_19 ?_
  refine va_get (D := D) (ci := 0) (v := .int (d0 3 2)) (C := RX0) (T := TX0) (N := 4) hx hb hts uX2_slice_X0 hown hK hP 3 rfl rfl 2 (by decide) (hts _ kX2_slice_f59) (fun _ h9 => h9) rfl dX2_slice_22 ?_
  refine lv_aload_n hx hb dX2_slice_25 rfl (lv_at hl 0 rfl) ?_
  refine va_get (D := D) (ci := 2) (v := .ref (q0 3)) (C := RX2) (T := TX2) (N := 8) hx hb hts uX2_slice_X2 hown hK hP 0 rfl rfl 3 (by decide) (hts _ kX2_slice_f21) (fun _ h9 => h9) rfl dX2_slice_26 ?_
  refine va_get (D := D) (ci := 0) (v := .int (d0 3 3)) (C := RX0) (T := TX0) (N := 4) hx hb hts uX2_slice_X0 hown hK hP 3 rfl rfl 3 (by decide) (hts _ kX2_slice_f62) (fun _ h9 => h9) rfl dX2_slice_29 ?_
  obtain ⟨t_1, ot_1, hf⟩ := tm_bS hf
  refine tm_cVV (As := [.int (d0 3 0), .int (d0 3 1), .int (d0 3 2), .int (d0 3 3)]) (rest := []) ⟨hx, hb, hml, hown, hts⟩ (tX0_set l D cI cZ cR N (tm_sq q0 4) (tm_sh d0 4) (d0 3 0) (d0 3 1) (d0 3 2) (d0 3 3) t_1 ot_1) (cwV 4 hts gX2_slice_X0_set rfl rfl rfl hdwsV_X0_set ⟨Nat.le_of_ble_eq_true rfl, Nat.le_of_ble_eq_true rfl⟩) hK hP hD hS hA [4] (by decide) rfl rfl (ci := 0) rfl rfl rfl (fun z => WX2X3 cI cZ cR q0 q1 z d1) (tm_ins d0 4 1 t_1) rfl rfl hl.1 rfl (Nat.le_of_ble_eq_true rfl) dX2_slice_32 ⟨Nat.zero_le _, Nat.zero_le _⟩ (fun d0_2 ed0_2 H locs hP hD hS => ?_)
  have hf := tm_at ed0_2 hf
  refine lv_aload_n hx hb dX2_slice_35 rfl (lv_at hl 0 rfl) ?_
  refine lv_iconst (v := 0) hx hb dX2_slice_36 (by decide) ?_
  refine lv_aload_n hx hb dX2_slice_37 rfl (lv_at hl 0 rfl) ?_
  refine va_get (D := D) (ci := 2) (v := .int (d0_2 0 2)) (C := RX2) (T := TX2) (N := 8) hx hb hts uX2_slice_X2 hown hK hP 0 rfl rfl 2 (by decide) (hts _ kX2_slice_f41) (fun _ h9 => h9) rfl dX2_slice_38 ?_
  refine lv_iload_n hx hb dX2_slice_41 rfl (lv_at hl 1 rfl) ?_
  refine lv_aload_n hx hb dX2_slice_42 rfl (lv_at hl 2 rfl) ?_
  obtain ⟨t_3, ot_3, hf⟩ := tm_bS hf
  refine tm_cVV (As := [.int 0, .int (d0_2 0 2), .int p1, .ref (q1 0)]) (rest := []) ⟨hx, hb, hml, hown, hts⟩ (tX2_fillBand l D cI cZ cR N q0 q1 d0_2 d1 (0 : Int32) (d0_2 0 2) p1 t_3.1 t_3.2 ot_3) (cwV 4 hts gX2_slice_X2_fillBand rfl rfl rfl hdwsV_X2_fillBand ⟨Nat.le_of_ble_eq_true rfl, Nat.le_of_ble_eq_true rfl⟩) hK hP hD hS hA [0, 1, 2, 3, 4, 5, 6, 7, 8, 9, 10, 11, 12, 13, 14, 15, 16, 17, 18] (by decide) rfl rfl (ci := 2) rfl rfl rfl (fun _ => WX2X3 cI cZ cR q0 q1 t_3.1 t_3.2) (()) rfl rfl hl.1 rfl (Nat.le_of_ble_eq_true rfl) dX2_slice_43 ⟨Nat.zero_le _, Nat.zero_le _⟩ (fun _ _ H locs hP hD hS => ?_)
  simp only [Option.some.injEq, Prod.mk.injEq] at hf
  obtain ⟨rfl, rfl⟩ := hf
  exact hend _ _ _ _ hP hD hS dX2_slice_46
set_option maxHeartbeats 4000000 in
set_option maxRecDepth 100000 in
theorem wX2_sumOfSizes_5 (l : Launch) (D : va_G) (cI cZ cR : ClassId) (N : Nat) (q0 : Nat → Nat) {p : Program} {e : Env} {s : State} {m : MethodId} {args : Array Value} {below : List Frame} {meth : Method} {c : Code} {A : Nat → Prop} {H0 : Heap} {Q : State → Prop} (C : tm_Cx p s m c args cX2_sumOfSizes 5 RX2 wsX2_sumOfSizes D (tm_ty cI cZ cR) A H0) (d0 : tm_M) (v2 : Int32) : ∀ (n : Nat) (st : Int32 × Int32) (o : (Int32 × Int32)), tm_whl (bX2_sumOfSizes_5 N d0 v2) n st = some o → (fun (o : Int32 × Int32) => ∀ (H : Heap) (locs : List Loc) (ls : Array Slot), va_P D vwCl (WX2 cI cZ cR q0 d0) H → va_D A (WX2 cI cZ cR q0 d0) → va_S A H0 H locs → lv_has ls 5 [(3, .int o.1)] → W p l e rmX2_sumOfSizes s m args below meth c H locs 0 0 Q (F0 m 27 ls [])) o → (fun (st : Int32 × Int32) => ∀ (H : Heap) (locs : List Loc) (ls : Array Slot), va_P D vwCl (WX2 cI cZ cR q0 d0) H → va_D A (WX2 cI cZ cR q0 d0) → va_S A H0 H locs → lv_has ls 5 [(0, .ref (q0 0)), (2, .int v2), (3, .int st.1), (4, .int st.2)] → W p l e rmX2_sumOfSizes s m args below meth c H locs 0 0 Q (F0 m 5 ls [])) st := by
  obtain ⟨hx, hb, hml, hown, hts, hK, hA⟩ := id C
  refine tm_whl_W (Wh := fun (st : Int32 × Int32) => ∀ (H : Heap) (locs : List Loc) (ls : Array Slot), va_P D vwCl (WX2 cI cZ cR q0 d0) H → va_D A (WX2 cI cZ cR q0 d0) → va_S A H0 H locs → lv_has ls 5 [(0, .ref (q0 0)), (2, .int v2), (3, .int st.1), (4, .int st.2)] → W p l e rmX2_sumOfSizes s m args below meth c H locs 0 0 Q (F0 m 5 ls [])) (Wx := fun (o : Int32 × Int32) => ∀ (H : Heap) (locs : List Loc) (ls : Array Slot), va_P D vwCl (WX2 cI cZ cR q0 d0) H → va_D A (WX2 cI cZ cR q0 d0) → va_S A H0 H locs → lv_has ls 5 [(3, .int o.1)] → W p l e rmX2_sumOfSizes s m args below meth c H locs 0 0 Q (F0 m 27 ls [])) ?_
  intro st r hf hk H locs ls hP hD hS hl
  unfold bX2_sumOfSizes_5 at hf
  refine lv_iload hx hb dX2_sumOfSizes_5 (lv_at hl 3 rfl) ?_
  refine lv_iload_n hx hb dX2_sumOfSizes_7 rfl (lv_at hl 1 rfl) ?_
  refine lv_icmp_ge (tgt := 27) hx hb dX2_sumOfSizes_8 (by decide) (fun c_1 => ?_) (fun c_1 => ?_)
  · have hf := tm_iT c_1 hf
    obtain rfl := Option.some.inj hf
    exact hk _ _ _ hP hD hS (lv_sub hl [2] rfl)
  · have hf := tm_iF c_1 hf
    refine lv_iload_n hx hb dX2_sumOfSizes_11 rfl (lv_at hl 2 rfl) ?_
    refine lv_aload_n hx hb dX2_sumOfSizes_12 rfl (lv_at hl 0 rfl) ?_
    refine va_get (D := D) (ci := 2) (v := .ref (q0 2)) (C := RX2) (T := TX2) (N := 8) hx hb hts uX2_sumOfSizes_X2 hown hK hP 0 rfl rfl 1 (by decide) (hts _ kX2_sumOfSizes_f15) (fun _ h9 => h9) rfl dX2_sumOfSizes_13 ?_
    refine lv_iload hx hb dX2_sumOfSizes_16 (lv_at hl 3 rfl) ?_
    obtain ⟨h_2, hf⟩ := tm_gS hf
    refine va_iald hx hb hK hP 2 0 rfl rfl (tm_inb_in h_2) dX2_sumOfSizes_18 ?_
    refine lv_iadd hx hb dX2_sumOfSizes_19 ?_
    refine lv_topi (fun x_3 ex_3 => ?_)
    have hf := tm_at ex_3 hf
    refine lv_istore_n (lv' := [(3, .int x_3), (0, .ref (q0 0)), (2, .int v2), (4, .int st.2)]) hx hb dX2_sumOfSizes_20 rfl hl (by decide) rfl (fun ls hl => ?_)
    obtain ⟨x_4, ex_4⟩ : ∃ y : Int32, y = st.2 + 1 := ⟨_, rfl⟩
    have hf := tm_at ex_4 hf
    refine lv_iinc (v := x_4) (lv' := [(4, .int x_4), (3, .int x_3), (0, .ref (q0 0)), (2, .int v2)]) hx hb dX2_sumOfSizes_21 hl (k := 3) rfl (by rw [ex_4]; rfl) (by decide) rfl (fun ls hl => ?_)
    refine lv_goto (tgt := 5) hx hb dX2_sumOfSizes_24 (by decide) ?_
    obtain rfl := Option.some.inj hf
    exact hk _ _ _ hP hD hS (lv_sub hl [2, 3, 1, 0] rfl)
set_option maxHeartbeats 4000000 in
set_option maxRecDepth 100000 in
theorem tX2_sumOfSizes (l : Launch) (D : va_G) (cI cZ cR : ClassId) (N : Nat) (q0 : Nat → Nat) (d0 : tm_M) (p1 : Int32) (p2 : Int32) (r0 : Int32) (hf : fX2_sumOfSizes N d0 p1 p2 = some r0) : tm_CI l D (tm_ty cI cZ cR) yX2_sumOfSizes wsX2_sumOfSizes rmX2_sumOfSizes [.ref (q0 0), .int p1, .int p2] (WX2 cI cZ cR q0 d0) r0 (WX2 cI cZ cR q0 d0) := by
  refine tm_mkI (cc := cX2_sumOfSizes) (maxL := 5) (ty := .int) (by decide) rfl (Nat.le_of_ble_eq_true rfl) ?_
  intro p e s m below meth c A ls Q C hP hD hS hl hend
  have C : tm_Cx p s m c [.ref (q0 0), .int p1, .int p2].toArray cX2_sumOfSizes 5 RX2 wsX2_sumOfSizes D (tm_ty cI cZ cR) A s.heap := C
  obtain ⟨hx, hb, hml, hown, hts, hK, hA⟩ := id C
  have hl : lv_has ls 5 [(0, .ref (q0 0)), (1, .int p1), (2, .int p2)] := hl
  unfold fX2_sumOfSizes at hf
  refine lv_iconst (v := 0) hx hb dX2_sumOfSizes_0 (by decide) ?_
  refine lv_istore_n (lv' := [(3, .int 0), (0, .ref (q0 0)), (1, .int p1), (2, .int p2)]) hx hb dX2_sumOfSizes_1 rfl hl (by decide) rfl (fun ls hl => ?_)
  refine lv_iload_n hx hb dX2_sumOfSizes_2 rfl (lv_at hl 2 rfl) ?_
  refine lv_istore (lv' := [(4, .int p1), (3, .int 0), (0, .ref (q0 0)), (1, .int p1), (2, .int p2)]) hx hb dX2_sumOfSizes_3 hl (by decide) rfl (fun ls hl => ?_)
  obtain ⟨t_5, ot_5, hf⟩ := tm_bS hf
  refine wX2_sumOfSizes_5 l D cI cZ cR N q0 C d0 p2 _ _ _ ot_5 ?_ _ _ _ hP hD hS (lv_sub hl [2, 4, 1, 0] rfl)
  intro H locs ls hP hD hS hl
  refine lv_iload_n hx hb dX2_sumOfSizes_27 rfl (lv_at hl 0 rfl) ?_
  obtain rfl := Option.some.inj hf
  exact hend _ _ _ _ hP hD hS rfl dX2_sumOfSizes_28
set_option maxHeartbeats 4000000 in
set_option maxRecDepth 100000 in
theorem tX2_pixelsPerSize (l : Launch) (D : va_G) (cI cZ cR : ClassId) (N : Nat) (q0 : Nat → Nat) (d0 : tm_M) (p1 : Int32) (r0 : UInt32) (hf : fX2_pixelsPerSize N d0 p1 = some r0) : tm_CF l D (tm_ty cI cZ cR) yX2_pixelsPerSize wsX2_pixelsPerSize rmX2_pixelsPerSize [.ref (q0 0), .int p1] (WX2 cI cZ cR q0 d0) r0 (WX2 cI cZ cR q0 d0) := by
  refine tm_mkF (cc := cX2_pixelsPerSize) (maxL := 3) (by decide) rfl (Nat.le_of_ble_eq_true rfl) ?_
  intro p e s m below meth c A ls Q C hP hD hS hl hend
  have C : tm_Cx p s m c [.ref (q0 0), .int p1].toArray cX2_pixelsPerSize 3 RX2 wsX2_pixelsPerSize D (tm_ty cI cZ cR) A s.heap := C
  obtain ⟨hx, hb, hml, hown, hts, hK, hA⟩ := id C
  have hl : lv_has ls 3 [(0, .ref (q0 0)), (1, .int p1)] := hl
  unfold fX2_pixelsPerSize at hf
  refine lv_aload_n hx hb dX2_pixelsPerSize_0 rfl (lv_at hl 0 rfl) ?_
  refine lv_iload_n hx hb dX2_pixelsPerSize_1 rfl (lv_at hl 1 rfl) ?_
  refine lv_aload_n hx hb dX2_pixelsPerSize_2 rfl (lv_at hl 0 rfl) ?_
  refine va_get (D := D) (ci := 2) (v := .int (d0 0 2)) (C := RX2) (T := TX2) (N := 8) hx hb hts uX2_pixelsPerSize_X2 hown hK hP 0 rfl rfl 2 (by decide) (hts _ kX2_pixelsPerSize_f41) (fun _ h9 => h9) rfl dX2_pixelsPerSize_3 ?_
  obtain ⟨t_1, ot_1, hf⟩ := tm_bS hf
  refine tm_cVI (As := [.int p1, .int (d0 0 2)]) (rest := []) ⟨hx, hb, hml, hown, hts⟩ (tX2_sumOfSizes l D cI cZ cR N q0 d0 p1 (d0 0 2) t_1 ot_1) (cwV 2 hts gX2_pixelsPerSize_X2_sumOfSizes rfl rfl rfl hdwsV_X2_sumOfSizes ⟨Nat.le_of_ble_eq_true rfl, Nat.le_of_ble_eq_true rfl⟩) hK hP hD hS hA [0, 1, 2, 3, 4, 5, 6, 7, 8, 9, 10, 11, 12, 13] (by decide) rfl rfl (ci := 2) rfl rfl rfl (fun _ => WX2 cI cZ cR q0 d0) (()) rfl rfl hl.1 rfl (Nat.le_of_ble_eq_true rfl) dX2_pixelsPerSize_6 ⟨Nat.zero_le _, Nat.zero_le _⟩ (fun _ _ H locs hP hD hS => ?_)
  refine lv_istore_n (lv' := [(2, .int t_1), (0, .ref (q0 0)), (1, .int p1)]) hx hb dX2_pixelsPerSize_9 rfl hl (by decide) rfl (fun ls hl => ?_)
  refine lv_iload_n hx hb dX2_pixelsPerSize_10 rfl (lv_at hl 0 rfl) ?_
  refine lv_if_le (tgt := 36) hx hb dX2_pixelsPerSize_11 (by decide) (fun c_2 => ?_) (fun c_2 => ?_)
  · have hf := tm_iT c_2 hf
    refine lv_fconst0 hx hb dX2_pixelsPerSize_36 ?_
    obtain rfl := Option.some.inj hf
    exact hend _ _ _ _ hP hD hS dX2_pixelsPerSize_37
  · have hf := tm_iF c_2 hf
    refine lv_aload_n hx hb dX2_pixelsPerSize_14 rfl (lv_at hl 1 rfl) ?_
    refine va_get (D := D) (ci := 2) (v := .ref (q0 3)) (C := RX2) (T := TX2) (N := 8) hx hb hts uX2_pixelsPerSize_X2 hown hK hP 0 rfl rfl 3 (by decide) (hts _ kX2_pixelsPerSize_f21) (fun _ h9 => h9) rfl dX2_pixelsPerSize_15 ?_
    refine va_get (D := D) (ci := 0) (v := .int (d0 3 2)) (C := RX0) (T := TX0) (N := 4) hx hb hts uX2_pixelsPerSize_X0 hown hK hP 3 rfl rfl 2 (by decide) (hts _ kX2_pixelsPerSize_f59) (fun _ h9 => h9) rfl dX2_pixelsPerSize_18 ?_
    refine lv_aload_n hx hb dX2_pixelsPerSize_21 rfl (lv_at hl 1 rfl) ?_
    refine va_get (D := D) (ci := 2) (v := .ref (q0 3)) (C := RX2) (T := TX2) (N := 8) hx hb hts uX2_pixelsPerSize_X2 hown hK hP 0 rfl rfl 3 (by decide) (hts _ kX2_pixelsPerSize_f21) (fun _ h9 => h9) rfl dX2_pixelsPerSize_22 ?_
    refine va_get (D := D) (ci := 0) (v := .int (d0 3 3)) (C := RX0) (T := TX0) (N := 4) hx hb hts uX2_pixelsPerSize_X0 hown hK hP 3 rfl rfl 3 (by decide) (hts _ kX2_pixelsPerSize_f62) (fun _ h9 => h9) rfl dX2_pixelsPerSize_25 ?_
    refine lv_imul hx hb dX2_pixelsPerSize_28 ?_
    refine lv_i2f hx hb dX2_pixelsPerSize_29 ?_
    refine lv_iload_n hx hb dX2_pixelsPerSize_30 rfl (lv_at hl 0 rfl) ?_
    refine lv_i2f hx hb dX2_pixelsPerSize_31 ?_
    obtain ⟨h_3, hf⟩ := tm_gS hf
    refine lv_fdiv hx hb dX2_pixelsPerSize_32 (tm_nn_n h_3) ?_
    refine lv_goto (tgt := 37) hx hb dX2_pixelsPerSize_33 (by decide) ?_
    obtain rfl := Option.some.inj hf
    exact hend _ _ _ _ hP hD hS dX2_pixelsPerSize_37
set_option maxHeartbeats 4000000 in
set_option maxRecDepth 100000 in
theorem tX2_thicknessOf (l : Launch) (D : va_G) (cI cZ cR : ClassId) (N : Nat) (p1 : Int32) (p2 : UInt32) (p3 : Int32) (r0 : UInt32) (hf : fX2_thicknessOf N p1 p2 p3 = some r0) : tm_CF l D (tm_ty cI cZ cR) yX2_thicknessOf wsX2_thicknessOf rmX2_thicknessOf [.int p1, .float p2, .int p3] (([] : va_W)) r0 (([] : va_W)) := by
  refine tm_mkF (cc := cX2_thicknessOf) (maxL := 3) (by decide) rfl (Nat.le_of_ble_eq_true rfl) ?_
  intro p e s m below meth c A ls Q C hP hD hS hl hend
  have C : tm_Cx p s m c [.int p1, .float p2, .int p3].toArray cX2_thicknessOf 3 RX2 wsX2_thicknessOf D (tm_ty cI cZ cR) A s.heap := C
  obtain ⟨hx, hb, hml, hown, hts, hK, hA⟩ := id C
  have hl : lv_has ls 3 [(0, .int p1), (1, .float p2), (2, .int p3)] := hl
  unfold fX2_thicknessOf at hf
  refine lv_iload_n hx hb dX2_thicknessOf_0 rfl (lv_at hl 2 rfl) ?_
  refine lv_if_le (tgt := 14) hx hb dX2_thicknessOf_1 (by decide) (fun c_1 => ?_) (fun c_1 => ?_)
  · have hf := tm_iT c_1 hf
    refine lv_fconst0 hx hb dX2_thicknessOf_14 ?_
    obtain rfl := Option.some.inj hf
    exact hend _ _ _ _ hP hD hS dX2_thicknessOf_15
  · have hf := tm_iF c_1 hf
    refine lv_iload_n hx hb dX2_thicknessOf_4 rfl (lv_at hl 0 rfl) ?_
    refine lv_i2f hx hb dX2_thicknessOf_5 ?_
    refine lv_fload_n hx hb dX2_thicknessOf_6 rfl (lv_at hl 1 rfl) ?_
    obtain ⟨h_2, hf⟩ := tm_gS hf
    refine lv_fmul hx hb dX2_thicknessOf_7 (tm_nn_n h_2) ?_
    refine lv_iload_n hx hb dX2_thicknessOf_8 rfl (lv_at hl 2 rfl) ?_
    refine lv_i2f hx hb dX2_thicknessOf_9 ?_
    obtain ⟨h_3, hf⟩ := tm_gS hf
    refine lv_fdiv hx hb dX2_thicknessOf_10 (tm_nn_n h_3) ?_
    refine lv_goto (tgt := 15) hx hb dX2_thicknessOf_11 (by decide) ?_
    obtain rfl := Option.some.inj hf
    exact hend _ _ _ _ hP hD hS dX2_thicknessOf_15
set_option maxHeartbeats 4000000 in
set_option maxRecDepth 100000 in
theorem tX2_ratio (l : Launch) (D : va_G) (cI cZ cR : ClassId) (N : Nat) (p1 : Int32) (p2 : UInt32) (p3 : UInt32) (r0 : UInt32) (hf : fX2_ratio N p1 p2 p3 = some r0) : tm_CF l D (tm_ty cI cZ cR) yX2_ratio wsX2_ratio rmX2_ratio [.int p1, .float p2, .float p3] (([] : va_W)) r0 (([] : va_W)) := by
  refine tm_mkF (cc := cX2_ratio) (maxL := 6) (by decide) rfl (Nat.le_of_ble_eq_true rfl) ?_
  intro p e s m below meth c A ls Q C hP hD hS hl hend
  have C : tm_Cx p s m c [.int p1, .float p2, .float p3].toArray cX2_ratio 6 RX2 wsX2_ratio D (tm_ty cI cZ cR) A s.heap := C
  obtain ⟨hx, hb, hml, hown, hts, hK, hA⟩ := id C
  have hl : lv_has ls 6 [(0, .int p1), (1, .float p2), (2, .float p3)] := hl
  unfold fX2_ratio at hf
  refine lv_fload_n hx hb dX2_ratio_0 rfl (lv_at hl 2 rfl) ?_
  refine lv_fconst0 hx hb dX2_ratio_1 ?_
  refine lv_fcmp hx hb dX2_ratio_2 ?_
  refine lv_if_le (tgt := 15) hx hb dX2_ratio_3 (by decide) (fun c_1 => ?_) (fun c_1 => ?_)
  · have hf := tm_iT c_1 hf
    refine lv_fconst0 hx hb dX2_ratio_15 ?_
    refine lv_fstore_n (lv' := [(3, .float FP.fconst0), (0, .int p1), (1, .float p2), (2, .float p3)]) hx hb dX2_ratio_16 rfl hl (by decide) rfl (fun ls hl => ?_)
    refine lv_fload_n hx hb dX2_ratio_17 rfl (lv_at hl 0 rfl) ?_
    refine lv_fconst0 hx hb dX2_ratio_18 ?_
    refine lv_fcmp hx hb dX2_ratio_19 ?_
    refine lv_if_gt (tgt := 25) hx hb dX2_ratio_20 (by decide) (fun c_2 => ?_) (fun c_2 => ?_)
    · have hf := tm_iT c_2 hf
      refine lv_fload_n hx hb dX2_ratio_25 rfl (lv_at hl 0 rfl) ?_
      refine lv_fload_n hx hb dX2_ratio_26 rfl (lv_at hl 3 rfl) ?_
      obtain ⟨h_3, hf⟩ := tm_gS hf
      refine lv_fdiv hx hb dX2_ratio_27 (tm_nn_n h_3) ?_
      refine lv_topf (fun x_4 ex_4 => ?_)
      have hf := tm_at ex_4 hf
      refine lv_fstore (lv' := [(4, .float x_4), (3, .float FP.fconst0), (0, .int p1), (1, .float p2), (2, .float p3)]) hx hb dX2_ratio_28 hl (by decide) rfl (fun ls hl => ?_)
      refine lv_fload_n hx hb dX2_ratio_30 rfl (lv_at hl 4 rfl) ?_
      refine lv_fload_n hx hb dX2_ratio_31 rfl (lv_at hl 1 rfl) ?_
      obtain ⟨h_5, hf⟩ := tm_gS hf
      refine lv_fdiv hx hb dX2_ratio_32 (tm_nn_n h_5) ?_
      refine lv_topf (fun x_6 ex_6 => ?_)
      have hf := tm_at ex_6 hf
      refine lv_fstore (lv' := [(5, .float x_6), (4, .float x_4), (3, .float FP.fconst0), (0, .int p1), (1, .float p2), (2, .float p3)]) hx hb dX2_ratio_33 hl (by decide) rfl (fun ls hl => ?_)
      refine lv_fload hx hb dX2_ratio_35 (lv_at hl 1 rfl) ?_
      refine lv_fload hx hb dX2_ratio_37 (lv_at hl 0 rfl) ?_
      refine lv_fcmp hx hb dX2_ratio_39 ?_
      refine lv_if_lt (tgt := 48) hx hb dX2_ratio_40 (by decide) (fun c_7 => ?_) (fun c_7 => ?_)
      · have hf := tm_iT c_7 hf
        refine lv_fload hx hb dX2_ratio_48 (lv_at hl 0 rfl) ?_
        obtain rfl := Option.some.inj hf
        exact hend _ _ _ _ hP hD hS dX2_ratio_50
      · have hf := tm_iF c_7 hf
        refine lv_fload hx hb dX2_ratio_43 (lv_at hl 1 rfl) ?_
        refine lv_goto (tgt := 50) hx hb dX2_ratio_45 (by decide) ?_
        obtain rfl := Option.some.inj hf
        exact hend _ _ _ _ hP hD hS dX2_ratio_50
    · have hf := tm_iF c_2 hf
      refine lv_fconst0 hx hb dX2_ratio_23 ?_
      obtain rfl := Option.some.inj hf
      exact hend _ _ _ _ hP hD hS dX2_ratio_24
  · have hf := tm_iF c_1 hf
    refine lv_iload_n hx hb dX2_ratio_6 rfl (lv_at hl 0 rfl) ?_
    refine lv_i2f hx hb dX2_ratio_7 ?_
    refine lv_fload_n hx hb dX2_ratio_8 rfl (lv_at hl 1 rfl) ?_
    obtain ⟨h_8, hf⟩ := tm_gS hf
    refine lv_fmul hx hb dX2_ratio_9 (tm_nn_n h_8) ?_
    refine lv_fload_n hx hb dX2_ratio_10 rfl (lv_at hl 2 rfl) ?_
    obtain ⟨h_9, hf⟩ := tm_gS hf
    refine lv_fdiv hx hb dX2_ratio_11 (tm_nn_n h_9) ?_
    refine lv_goto (tgt := 16) hx hb dX2_ratio_12 (by decide) ?_
    refine lv_topf (fun x_10 ex_10 => ?_)
    have hf := tm_at ex_10 hf
    refine lv_fstore_n (lv' := [(3, .float x_10), (0, .int p1), (1, .float p2), (2, .float p3)]) hx hb dX2_ratio_16 rfl hl (by decide) rfl (fun ls hl => ?_)
    refine lv_fload_n hx hb dX2_ratio_17 rfl (lv_at hl 0 rfl) ?_
    refine lv_fconst0 hx hb dX2_ratio_18 ?_
    refine lv_fcmp hx hb dX2_ratio_19 ?_
    refine lv_if_gt (tgt := 25) hx hb dX2_ratio_20 (by decide) (fun c_11 => ?_) (fun c_11 => ?_)
    · have hf := tm_iT c_11 hf
      refine lv_fload_n hx hb dX2_ratio_25 rfl (lv_at hl 0 rfl) ?_
      refine lv_fload_n hx hb dX2_ratio_26 rfl (lv_at hl 3 rfl) ?_
      obtain ⟨h_12, hf⟩ := tm_gS hf
      refine lv_fdiv hx hb dX2_ratio_27 (tm_nn_n h_12) ?_
      refine lv_topf (fun x_13 ex_13 => ?_)
      have hf := tm_at ex_13 hf
      refine lv_fstore (lv' := [(4, .float x_13), (3, .float x_10), (0, .int p1), (1, .float p2), (2, .float p3)]) hx hb dX2_ratio_28 hl (by decide) rfl (fun ls hl => ?_)
      refine lv_fload_n hx hb dX2_ratio_30 rfl (lv_at hl 4 rfl) ?_
      refine lv_fload_n hx hb dX2_ratio_31 rfl (lv_at hl 1 rfl) ?_
      obtain ⟨h_14, hf⟩ := tm_gS hf
      refine lv_fdiv hx hb dX2_ratio_32 (tm_nn_n h_14) ?_
      refine lv_topf (fun x_15 ex_15 => ?_)
      have hf := tm_at ex_15 hf
      refine lv_fstore (lv' := [(5, .float x_15), (4, .float x_13), (3, .float x_10), (0, .int p1), (1, .float p2), (2, .float p3)]) hx hb dX2_ratio_33 hl (by decide) rfl (fun ls hl => ?_)
      refine lv_fload hx hb dX2_ratio_35 (lv_at hl 1 rfl) ?_
      refine lv_fload hx hb dX2_ratio_37 (lv_at hl 0 rfl) ?_
      refine lv_fcmp hx hb dX2_ratio_39 ?_
      refine lv_if_lt (tgt := 48) hx hb dX2_ratio_40 (by decide) (fun c_16 => ?_) (fun c_16 => ?_)
      · have hf := tm_iT c_16 hf
        refine lv_fload hx hb dX2_ratio_48 (lv_at hl 0 rfl) ?_
        obtain rfl := Option.some.inj hf
        exact hend _ _ _ _ hP hD hS dX2_ratio_50
      · have hf := tm_iF c_16 hf
        refine lv_fload hx hb dX2_ratio_43 (lv_at hl 1 rfl) ?_
        refine lv_goto (tgt := 50) hx hb dX2_ratio_45 (by decide) ?_
        obtain rfl := Option.some.inj hf
        exact hend _ _ _ _ hP hD hS dX2_ratio_50
    · have hf := tm_iF c_11 hf
      refine lv_fconst0 hx hb dX2_ratio_23 ?_
      obtain rfl := Option.some.inj hf
      exact hend _ _ _ _ hP hD hS dX2_ratio_24
set_option maxHeartbeats 4000000 in
set_option maxRecDepth 100000 in
theorem wX2_averageRatio_25 (l : Launch) (D : va_G) (cI cZ cR : ClassId) (N : Nat) (q0 : Nat → Nat) {p : Program} {e : Env} {s : State} {m : MethodId} {args : Array Value} {below : List Frame} {meth : Method} {c : Code} {A : Nat → Prop} {H0 : Heap} {Q : State → Prop} (C : tm_Cx p s m c args cX2_averageRatio 7 RX2 wsX2_averageRatio D (tm_ty cI cZ cR) A H0) (d0 : tm_M) (v1 : Int32) (v2 : Int32) (v3 : UInt32) (v4 : UInt32) : ∀ (n : Nat) (st : UInt32 × Int32) (o : (UInt32 × Int32)), tm_whl (bX2_averageRatio_25 N d0 v2 v3 v4) n st = some o → (fun (o : UInt32 × Int32) => ∀ (H : Heap) (locs : List Loc) (ls : Array Slot), va_P D vwCl (WX2 cI cZ cR q0 d0) H → va_D A (WX2 cI cZ cR q0 d0) → va_S A H0 H locs → lv_has ls 7 [(1, .int v1), (2, .int v2), (5, .float o.1)] → W p l e rmX2_averageRatio s m args below meth c H locs 0 0 Q (F0 m 55 ls [])) o → (fun (st : UInt32 × Int32) => ∀ (H : Heap) (locs : List Loc) (ls : Array Slot), va_P D vwCl (WX2 cI cZ cR q0 d0) H → va_D A (WX2 cI cZ cR q0 d0) → va_S A H0 H locs → lv_has ls 7 [(0, .ref (q0 0)), (1, .int v1), (2, .int v2), (3, .float v3), (4, .float v4), (5, .float st.1), (6, .int st.2)] → W p l e rmX2_averageRatio s m args below meth c H locs 0 0 Q (F0 m 25 ls [])) st := by
  obtain ⟨hx, hb, hml, hown, hts, hK, hA⟩ := id C
  refine tm_whl_W (Wh := fun (st : UInt32 × Int32) => ∀ (H : Heap) (locs : List Loc) (ls : Array Slot), va_P D vwCl (WX2 cI cZ cR q0 d0) H → va_D A (WX2 cI cZ cR q0 d0) → va_S A H0 H locs → lv_has ls 7 [(0, .ref (q0 0)), (1, .int v1), (2, .int v2), (3, .float v3), (4, .float v4), (5, .float st.1), (6, .int st.2)] → W p l e rmX2_averageRatio s m args below meth c H locs 0 0 Q (F0 m 25 ls [])) (Wx := fun (o : UInt32 × Int32) => ∀ (H : Heap) (locs : List Loc) (ls : Array Slot), va_P D vwCl (WX2 cI cZ cR q0 d0) H → va_D A (WX2 cI cZ cR q0 d0) → va_S A H0 H locs → lv_has ls 7 [(1, .int v1), (2, .int v2), (5, .float o.1)] → W p l e rmX2_averageRatio s m args below meth c H locs 0 0 Q (F0 m 55 ls [])) ?_
  intro st r hf hk H locs ls hP hD hS hl
  unfold bX2_averageRatio_25 at hf
  refine lv_iload hx hb dX2_averageRatio_25 (lv_at hl 6 rfl) ?_
  refine lv_iload_n hx hb dX2_averageRatio_27 rfl (lv_at hl 2 rfl) ?_
  refine lv_icmp_ge (tgt := 55) hx hb dX2_averageRatio_28 (by decide) (fun c_3 => ?_) (fun c_3 => ?_)
  · have hf := tm_iT c_3 hf
    obtain rfl := Option.some.inj hf
    exact hk _ _ _ hP hD hS (lv_sub hl [1, 2, 5] rfl)
  · have hf := tm_iF c_3 hf
    refine lv_fload hx hb dX2_averageRatio_31 (lv_at hl 5 rfl) ?_
    refine lv_aload_n hx hb dX2_averageRatio_33 rfl (lv_at hl 0 rfl) ?_
    refine va_get (D := D) (ci := 2) (v := .ref (q0 2)) (C := RX2) (T := TX2) (N := 8) hx hb hts uX2_averageRatio_X2 hown hK hP 0 rfl rfl 1 (by decide) (hts _ kX2_averageRatio_f15) (fun _ h9 => h9) rfl dX2_averageRatio_34 ?_
    refine lv_iload hx hb dX2_averageRatio_37 (lv_at hl 6 rfl) ?_
    obtain ⟨h_4, hf⟩ := tm_gS hf
    refine va_iald hx hb hK hP 2 0 rfl rfl (tm_inb_in h_4) dX2_averageRatio_39 ?_
    refine lv_fload_n hx hb dX2_averageRatio_40 rfl (lv_at hl 3 rfl) ?_
    refine lv_fload hx hb dX2_averageRatio_41 (lv_at hl 4 rfl) ?_
    obtain ⟨t_5, ot_5, hf⟩ := tm_bS hf
    refine tm_cSF (As := [.int (d0 2 st.2.toNatClampNeg), .float v3, .float v4]) (rest := [.float st.1]) ⟨hx, hb, hml, hown, hts⟩ (tX2_ratio l D cI cZ cR N (d0 2 st.2.toNatClampNeg) v3 v4 t_5 ot_5) (va_cwS 3 hts gX2_averageRatio_X2_ratio rfl rfl rfl hdwsS_X2_ratio ⟨Nat.le_of_ble_eq_true rfl, Nat.le_of_ble_eq_true rfl⟩) hK hP hD hS hA [] (by decide) rfl rfl (fun _ => WX2 cI cZ cR q0 d0) (()) rfl rfl hl.1 rfl (Nat.le_of_ble_eq_true rfl) dX2_averageRatio_43 ⟨Nat.zero_le _, Nat.zero_le _⟩ (fun _ _ H locs hP hD hS => ?_)
    obtain ⟨h_6, hf⟩ := tm_gS hf
    refine lv_fadd hx hb dX2_averageRatio_46 (tm_nn_n h_6) ?_
    refine lv_topf (fun x_7 ex_7 => ?_)
    have hf := tm_at ex_7 hf
    refine lv_fstore (lv' := [(5, .float x_7), (0, .ref (q0 0)), (1, .int v1), (2, .int v2), (3, .float v3), (4, .float v4), (6, .int st.2)]) hx hb dX2_averageRatio_47 hl (by decide) rfl (fun ls hl => ?_)
    obtain ⟨x_8, ex_8⟩ : ∃ y : Int32, y = st.2 + 1 := ⟨_, rfl⟩
    have hf := tm_at ex_8 hf
    refine lv_iinc (v := x_8) (lv' := [(6, .int x_8), (5, .float x_7), (0, .ref (q0 0)), (1, .int v1), (2, .int v2), (3, .float v3), (4, .float v4)]) hx hb dX2_averageRatio_49 hl (k := 6) rfl (by rw [ex_8]; rfl) (by decide) rfl (fun ls hl => ?_)
    refine lv_goto (tgt := 25) hx hb dX2_averageRatio_52 (by decide) ?_
    obtain rfl := Option.some.inj hf
    exact hk _ _ _ hP hD hS (lv_sub hl [2, 3, 4, 5, 6, 1, 0] rfl)
set_option maxHeartbeats 4000000 in
set_option maxRecDepth 100000 in
theorem tX2_averageRatio (l : Launch) (D : va_G) (cI cZ cR : ClassId) (N : Nat) (q0 : Nat → Nat) (d0 : tm_M) (p1 : Int32) (p2 : Int32) (p3 : UInt32) (r0 : UInt32) (hf : fX2_averageRatio N d0 p1 p2 p3 = some r0) : tm_CF l D (tm_ty cI cZ cR) yX2_averageRatio wsX2_averageRatio rmX2_averageRatio [.ref (q0 0), .int p1, .int p2, .float p3] (WX2 cI cZ cR q0 d0) r0 (WX2 cI cZ cR q0 d0) := by
  refine tm_mkF (cc := cX2_averageRatio) (maxL := 7) (by decide) rfl (Nat.le_of_ble_eq_true rfl) ?_
  intro p e s m below meth c A ls Q C hP hD hS hl hend
  have C : tm_Cx p s m c [.ref (q0 0), .int p1, .int p2, .float p3].toArray cX2_averageRatio 7 RX2 wsX2_averageRatio D (tm_ty cI cZ cR) A s.heap := C
  obtain ⟨hx, hb, hml, hown, hts, hK, hA⟩ := id C
  have hl : lv_has ls 7 [(0, .ref (q0 0)), (1, .int p1), (2, .int p2), (3, .float p3)] := hl
  unfold fX2_averageRatio at hf
  refine lv_aload_n hx hb dX2_averageRatio_0 rfl (lv_at hl 0 rfl) ?_
  refine lv_iload_n hx hb dX2_averageRatio_1 rfl (lv_at hl 1 rfl) ?_
  refine lv_iload_n hx hb dX2_averageRatio_2 rfl (lv_at hl 2 rfl) ?_
  obtain ⟨t_1, ot_1, hf⟩ := tm_bS hf
  refine tm_cVI (As := [.int p1, .int p2]) (rest := []) ⟨hx, hb, hml, hown, hts⟩ (tX2_sumOfSizes l D cI cZ cR N q0 d0 p1 p2 t_1 ot_1) (cwV 2 hts gX2_averageRatio_X2_sumOfSizes rfl rfl rfl hdwsV_X2_sumOfSizes ⟨Nat.le_of_ble_eq_true rfl, Nat.le_of_ble_eq_true rfl⟩) hK hP hD hS hA [0, 1, 2, 3, 4, 5, 6, 7, 8, 9, 10, 11, 12, 13] (by decide) rfl rfl (ci := 2) rfl rfl rfl (fun _ => WX2 cI cZ cR q0 d0) (()) rfl rfl hl.1 rfl (Nat.le_of_ble_eq_true rfl) dX2_averageRatio_3 ⟨Nat.zero_le _, Nat.zero_le _⟩ (fun _ _ H locs hP hD hS => ?_)
  refine lv_fload_n hx hb dX2_averageRatio_6 rfl (lv_at hl 3 rfl) ?_
  refine lv_aload_n hx hb dX2_averageRatio_7 rfl (lv_at hl 0 rfl) ?_
  refine va_get (D := D) (ci := 2) (v := .ref (q0 3)) (C := RX2) (T := TX2) (N := 8) hx hb hts uX2_averageRatio_X2 hown hK hP 0 rfl rfl 3 (by decide) (hts _ kX2_averageRatio_f21) (fun _ h9 => h9) rfl dX2_averageRatio_8 ?_
  refine va_get (D := D) (ci := 0) (v := .int (d0 3 2)) (C := RX0) (T := TX0) (N := 4) hx hb hts uX2_averageRatio_X0 hown hK hP 3 rfl rfl 2 (by decide) (hts _ kX2_averageRatio_f59) (fun _ h9 => h9) rfl dX2_averageRatio_11 ?_
  obtain ⟨t_2, ot_2, hf⟩ := tm_bS hf
  refine tm_cSF (As := [.int t_1, .float p3, .int (d0 3 2)]) (rest := []) ⟨hx, hb, hml, hown, hts⟩ (tX2_thicknessOf l D cI cZ cR N t_1 p3 (d0 3 2) t_2 ot_2) (va_cwS 3 hts gX2_averageRatio_X2_thicknessOf rfl rfl rfl hdwsS_X2_thicknessOf ⟨Nat.le_of_ble_eq_true rfl, Nat.le_of_ble_eq_true rfl⟩) hK hP hD hS hA [] (by decide) rfl rfl (fun _ => WX2 cI cZ cR q0 d0) (()) rfl rfl hl.1 rfl (Nat.le_of_ble_eq_true rfl) dX2_averageRatio_14 ⟨Nat.zero_le _, Nat.zero_le _⟩ (fun _ _ H locs hP hD hS => ?_)
  refine lv_fstore (lv' := [(4, .float t_2), (0, .ref (q0 0)), (1, .int p1), (2, .int p2), (3, .float p3)]) hx hb dX2_averageRatio_17 hl (by decide) rfl (fun ls hl => ?_)
  refine lv_fconst0 hx hb dX2_averageRatio_19 ?_
  refine lv_fstore (lv' := [(5, .float FP.fconst0), (4, .float t_2), (0, .ref (q0 0)), (1, .int p1), (2, .int p2), (3, .float p3)]) hx hb dX2_averageRatio_20 hl (by decide) rfl (fun ls hl => ?_)
  refine lv_iload_n hx hb dX2_averageRatio_22 rfl (lv_at hl 3 rfl) ?_
  refine lv_istore (lv' := [(6, .int p1), (5, .float FP.fconst0), (4, .float t_2), (0, .ref (q0 0)), (1, .int p1), (2, .int p2), (3, .float p3)]) hx hb dX2_averageRatio_23 hl (by decide) rfl (fun ls hl => ?_)
  obtain ⟨t_9, ot_9, hf⟩ := tm_bS hf
  refine wX2_averageRatio_25 l D cI cZ cR N q0 C d0 p1 p2 p3 t_2 _ _ _ ot_9 ?_ _ _ _ hP hD hS (lv_sub hl [3, 4, 5, 6, 2, 1, 0] rfl)
  intro H locs ls hP hD hS hl
  refine lv_iload_n hx hb dX2_averageRatio_55 rfl (lv_at hl 1 rfl) ?_
  refine lv_iload_n hx hb dX2_averageRatio_56 rfl (lv_at hl 0 rfl) ?_
  refine lv_icmp_le (tgt := 70) hx hb dX2_averageRatio_57 (by decide) (fun c_10 => ?_) (fun c_10 => ?_)
  · have hf := tm_iT c_10 hf
    refine lv_fconst0 hx hb dX2_averageRatio_70 ?_
    obtain rfl := Option.some.inj hf
    exact hend _ _ _ _ hP hD hS dX2_averageRatio_71
  · have hf := tm_iF c_10 hf
    refine lv_fload hx hb dX2_averageRatio_60 (lv_at hl 2 rfl) ?_
    refine lv_iload_n hx hb dX2_averageRatio_62 rfl (lv_at hl 1 rfl) ?_
    refine lv_iload_n hx hb dX2_averageRatio_63 rfl (lv_at hl 0 rfl) ?_
    refine lv_isub hx hb dX2_averageRatio_64 ?_
    refine lv_i2f hx hb dX2_averageRatio_65 ?_
    obtain ⟨h_11, hf⟩ := tm_gS hf
    refine lv_fdiv hx hb dX2_averageRatio_66 (tm_nn_n h_11) ?_
    refine lv_goto (tgt := 71) hx hb dX2_averageRatio_67 (by decide) ?_
    obtain rfl := Option.some.inj hf
    exact hend _ _ _ _ hP hD hS dX2_averageRatio_71
set_option maxHeartbeats 4000000 in
set_option maxRecDepth 100000 in
theorem wX2_splitIntoStrips_17 (l : Launch) (D : va_G) (cI cZ cR : ClassId) (N : Nat) (q0 : Nat → Nat) {p : Program} {e : Env} {s : State} {m : MethodId} {args : Array Value} {below : List Frame} {meth : Method} {c : Code} {A : Nat → Prop} {H0 : Heap} {Q : State → Prop} (C : tm_Cx p s m c args cX2_splitIntoStrips 5 RX2 wsX2_splitIntoStrips D (tm_ty cI cZ cR) A H0) (v1 : UInt32) : ∀ (n : Nat) (st : Int32 × Int32 × tm_M) (o : (Int32 × Int32 × tm_M)), tm_whl (bX2_splitIntoStrips_17 N v1) n st = some o → (fun (o : Int32 × Int32 × tm_M) => ∀ (H : Heap) (locs : List Loc) (ls : Array Slot), va_P D vwCl (WX2 cI cZ cR q0 o.2.2) H → va_D A (WX2 cI cZ cR q0 o.2.2) → va_S A H0 H locs → lv_has ls 5 [] → W p l e rmX2_splitIntoStrips s m args below meth c H locs 0 0 Q (F0 m 111 ls [])) o → (fun (st : Int32 × Int32 × tm_M) => ∀ (H : Heap) (locs : List Loc) (ls : Array Slot), va_P D vwCl (WX2 cI cZ cR q0 st.2.2) H → va_D A (WX2 cI cZ cR q0 st.2.2) → va_S A H0 H locs → lv_has ls 5 [(0, .ref (q0 0)), (1, .float v1), (2, .int st.1), (3, .int st.2.1)] → W p l e rmX2_splitIntoStrips s m args below meth c H locs 0 0 Q (F0 m 17 ls [])) st := by
  obtain ⟨hx, hb, hml, hown, hts, hK, hA⟩ := id C
  refine tm_whl_W (Wh := fun (st : Int32 × Int32 × tm_M) => ∀ (H : Heap) (locs : List Loc) (ls : Array Slot), va_P D vwCl (WX2 cI cZ cR q0 st.2.2) H → va_D A (WX2 cI cZ cR q0 st.2.2) → va_S A H0 H locs → lv_has ls 5 [(0, .ref (q0 0)), (1, .float v1), (2, .int st.1), (3, .int st.2.1)] → W p l e rmX2_splitIntoStrips s m args below meth c H locs 0 0 Q (F0 m 17 ls [])) (Wx := fun (o : Int32 × Int32 × tm_M) => ∀ (H : Heap) (locs : List Loc) (ls : Array Slot), va_P D vwCl (WX2 cI cZ cR q0 o.2.2) H → va_D A (WX2 cI cZ cR q0 o.2.2) → va_S A H0 H locs → lv_has ls 5 [] → W p l e rmX2_splitIntoStrips s m args below meth c H locs 0 0 Q (F0 m 111 ls [])) ?_
  intro st r hf hk H locs ls hP hD hS hl
  unfold bX2_splitIntoStrips_17 at hf
  refine lv_iload_n hx hb dX2_splitIntoStrips_17 rfl (lv_at hl 3 rfl) ?_
  refine lv_aload_n hx hb dX2_splitIntoStrips_18 rfl (lv_at hl 0 rfl) ?_
  refine va_get (D := D) (ci := 2) (v := .int (st.2.2 0 2)) (C := RX2) (T := TX2) (N := 8) hx hb hts uX2_splitIntoStrips_X2 hown hK hP 0 rfl rfl 2 (by decide) (hts _ kX2_splitIntoStrips_f41) (fun _ h9 => h9) rfl dX2_splitIntoStrips_19 ?_
  refine lv_icmp_gt (tgt := 111) hx hb dX2_splitIntoStrips_22 (by decide) (fun c_4 => ?_) (fun c_4 => ?_)
  · have hf := tm_iT c_4 hf
    obtain rfl := Option.some.inj hf
    exact hk _ _ _ hP hD hS (lv_sub hl [] rfl)
  · have hf := tm_iF c_4 hf
    refine lv_iload_n hx hb dX2_splitIntoStrips_25 rfl (lv_at hl 3 rfl) ?_
    refine lv_aload_n hx hb dX2_splitIntoStrips_26 rfl (lv_at hl 0 rfl) ?_
    refine va_get (D := D) (ci := 2) (v := .int (st.2.2 0 2)) (C := RX2) (T := TX2) (N := 8) hx hb hts uX2_splitIntoStrips_X2 hown hK hP 0 rfl rfl 2 (by decide) (hts _ kX2_splitIntoStrips_f41) (fun _ h9 => h9) rfl dX2_splitIntoStrips_27 ?_
    refine lv_icmp_eq (tgt := 53) hx hb dX2_splitIntoStrips_30 (by decide) (fun c_5 => ?_) (fun c_5 => ?_)
    · have hf := tm_iT c_5 hf
      refine lv_iconst (v := 1) hx hb dX2_splitIntoStrips_53 (by decide) ?_
      refine lv_goto (tgt := 58) hx hb dX2_splitIntoStrips_54 (by decide) ?_
      refine lv_istore (lv' := [(4, .int 1), (0, .ref (q0 0)), (1, .float v1), (2, .int st.1), (3, .int st.2.1)]) hx hb dX2_splitIntoStrips_58 hl (by decide) rfl (fun ls hl => ?_)
      refine lv_iload hx hb dX2_splitIntoStrips_60 (lv_at hl 0 rfl) ?_
      refine lv_if_eq (tgt := 105) hx hb dX2_splitIntoStrips_62 (by decide) (fun c9 => absurd c9 (by decide)) (fun _ => ?_)
      refine lv_aload_n hx hb dX2_splitIntoStrips_65 rfl (lv_at hl 1 rfl) ?_
      refine va_get (D := D) (ci := 2) (v := .ref (q0 9)) (C := RX2) (T := TX2) (N := 8) hx hb hts uX2_splitIntoStrips_X2 hown hK hP 0 rfl rfl 6 (by decide) (hts _ kX2_splitIntoStrips_f35) (fun _ h9 => h9) rfl dX2_splitIntoStrips_66 ?_
      refine va_get (D := D) (ci := 4) (v := .int (st.2.2 9 3)) (C := RX4) (T := TX4) (N := 4) hx hb hts uX2_splitIntoStrips_X4 hown hK hP 9 rfl rfl 3 (by decide) (hts _ kX2_splitIntoStrips_f76) (fun _ h9 => h9) rfl dX2_splitIntoStrips_69 ?_
      refine lv_bipush (v := 24) hx hb dX2_splitIntoStrips_72 (by decide) ?_
      refine lv_icmp_ge (tgt := 105) hx hb dX2_splitIntoStrips_74 (by decide) (fun c_6 => ?_) (fun c_6 => ?_)
      · have hf := tm_iT c_6 hf
        obtain ⟨x_7, ex_7⟩ : ∃ y : Int32, y = st.2.1 + 1 := ⟨_, rfl⟩
        have hf := tm_at ex_7 hf
        refine lv_iinc (v := x_7) (lv' := [(3, .int x_7), (4, .int 1), (0, .ref (q0 0)), (1, .float v1), (2, .int st.1)]) hx hb dX2_splitIntoStrips_105 hl (k := 4) rfl (by rw [ex_7]; rfl) (by decide) rfl (fun ls hl => ?_)
        refine lv_goto (tgt := 17) hx hb dX2_splitIntoStrips_108 (by decide) ?_
        obtain rfl := Option.some.inj hf
        exact hk _ _ _ hP hD hS (lv_sub hl [2, 3, 4, 0] rfl)
      · have hf := tm_iF c_6 hf
        refine lv_aload_n hx hb dX2_splitIntoStrips_77 rfl (lv_at hl 1 rfl) ?_
        refine va_get (D := D) (ci := 2) (v := .ref (q0 13)) (C := RX2) (T := TX2) (N := 8) hx hb hts uX2_splitIntoStrips_X2 hown hK hP 0 rfl rfl 7 (by decide) (hts _ kX2_splitIntoStrips_f38) (fun _ h9 => h9) rfl dX2_splitIntoStrips_78 ?_
        refine lv_aload_n hx hb dX2_splitIntoStrips_81 rfl (lv_at hl 1 rfl) ?_
        refine va_get (D := D) (ci := 2) (v := .ref (q0 9)) (C := RX2) (T := TX2) (N := 8) hx hb hts uX2_splitIntoStrips_X2 hown hK hP 0 rfl rfl 6 (by decide) (hts _ kX2_splitIntoStrips_f35) (fun _ h9 => h9) rfl dX2_splitIntoStrips_82 ?_
        refine va_get (D := D) (ci := 4) (v := .int (st.2.2 9 3)) (C := RX4) (T := TX4) (N := 4) hx hb hts uX2_splitIntoStrips_X4 hown hK hP 9 rfl rfl 3 (by decide) (hts _ kX2_splitIntoStrips_f76) (fun _ h9 => h9) rfl dX2_splitIntoStrips_85 ?_
        refine lv_iload_n hx hb dX2_splitIntoStrips_88 rfl (lv_at hl 4 rfl) ?_
        obtain ⟨h_8, hf⟩ := tm_gS hf
        refine tm_iast hx hb hK hP hD hS 13 0 rfl rfl (tm_inb_in h_8) dX2_splitIntoStrips_89 (fun z => WX2 cI cZ cR q0 z) (tm_upc st.2.2 13 (upd (st.2.2 13) (st.2.2 9 3).toNatClampNeg st.2.1)) rfl (fun d0_9 ed0_9 H locs hP hD hS => ?_)
        have hf := tm_at ed0_9 hf
        refine lv_aload_n hx hb dX2_splitIntoStrips_90 rfl (lv_at hl 1 rfl) ?_
        refine va_get (D := D) (ci := 2) (v := .ref (q0 9)) (C := RX2) (T := TX2) (N := 8) hx hb hts uX2_splitIntoStrips_X2 hown hK hP 0 rfl rfl 6 (by decide) (hts _ kX2_splitIntoStrips_f35) (fun _ h9 => h9) rfl dX2_splitIntoStrips_91 ?_
        refine lv_aload_n hx hb dX2_splitIntoStrips_94 rfl (lv_at hl 1 rfl) ?_
        refine lv_iload_n hx hb dX2_splitIntoStrips_95 rfl (lv_at hl 3 rfl) ?_
        refine lv_iload_n hx hb dX2_splitIntoStrips_96 rfl (lv_at hl 4 rfl) ?_
        obtain ⟨t_10, ot_10, hf⟩ := tm_bS hf
        refine tm_cVI (As := [.int st.1, .int st.2.1]) (rest := [.ref (q0 9)]) ⟨hx, hb, hml, hown, hts⟩ (tX2_sumOfSizes l D cI cZ cR N q0 d0_9 st.1 st.2.1 t_10 ot_10) (cwV 2 hts gX2_splitIntoStrips_X2_sumOfSizes rfl rfl rfl hdwsV_X2_sumOfSizes ⟨Nat.le_of_ble_eq_true rfl, Nat.le_of_ble_eq_true rfl⟩) hK hP hD hS hA [0, 1, 2, 3, 4, 5, 6, 7, 8, 9, 10, 11, 12, 13] (by decide) rfl rfl (ci := 2) rfl rfl rfl (fun _ => WX2 cI cZ cR q0 d0_9) (()) rfl rfl hl.1 rfl (Nat.le_of_ble_eq_true rfl) dX2_splitIntoStrips_97 ⟨Nat.zero_le _, Nat.zero_le _⟩ (fun _ _ H locs hP hD hS => ?_)
        obtain ⟨t_11, ot_11, hf⟩ := tm_bS hf
        refine tm_cVV (As := [.int t_10]) (rest := []) ⟨hx, hb, hml, hown, hts⟩ (tX4_add l D cI cZ cR N (tm_sq q0 9) (tm_sh d0_9 9) t_10 t_11 ot_11) (cwV 1 hts gX2_splitIntoStrips_X4_add rfl rfl rfl hdwsV_X4_add ⟨Nat.le_of_ble_eq_true rfl, Nat.le_of_ble_eq_true rfl⟩) hK hP hD hS hA [9, 10, 11, 12] (by decide) rfl rfl (ci := 4) rfl rfl rfl (fun z => WX2 cI cZ cR q0 z) (tm_ins d0_9 9 4 t_11) rfl rfl hl.1 rfl (Nat.le_of_ble_eq_true rfl) dX2_splitIntoStrips_100 ⟨Nat.zero_le _, Nat.zero_le _⟩ (fun d0_12 ed0_12 H locs hP hD hS => ?_)
        have hf := tm_at ed0_12 hf
        refine lv_iload_n hx hb dX2_splitIntoStrips_103 rfl (lv_at hl 4 rfl) ?_
        refine lv_istore_n (lv' := [(2, .int st.2.1), (4, .int 1), (0, .ref (q0 0)), (1, .float v1), (3, .int st.2.1)]) hx hb dX2_splitIntoStrips_104 rfl hl (by decide) rfl (fun ls hl => ?_)
        obtain ⟨x_13, ex_13⟩ : ∃ y : Int32, y = st.2.1 + 1 := ⟨_, rfl⟩
        have hf := tm_at ex_13 hf
        refine lv_iinc (v := x_13) (lv' := [(3, .int x_13), (2, .int st.2.1), (4, .int 1), (0, .ref (q0 0)), (1, .float v1)]) hx hb dX2_splitIntoStrips_105 hl (k := 4) rfl (by rw [ex_13]; rfl) (by decide) rfl (fun ls hl => ?_)
        refine lv_goto (tgt := 17) hx hb dX2_splitIntoStrips_108 (by decide) ?_
        obtain rfl := Option.some.inj hf
        exact hk _ _ _ hP hD hS (lv_sub hl [3, 4, 1, 0] rfl)
    · have hf := tm_iF c_5 hf
      refine lv_aload_n hx hb dX2_splitIntoStrips_33 rfl (lv_at hl 0 rfl) ?_
      refine lv_iload_n hx hb dX2_splitIntoStrips_34 rfl (lv_at hl 2 rfl) ?_
      refine lv_iload_n hx hb dX2_splitIntoStrips_35 rfl (lv_at hl 3 rfl) ?_
      refine lv_iconst (v := 1) hx hb dX2_splitIntoStrips_36 (by decide) ?_
      refine lv_iadd hx hb dX2_splitIntoStrips_37 ?_
      refine lv_fload_n hx hb dX2_splitIntoStrips_38 rfl (lv_at hl 1 rfl) ?_
      obtain ⟨t_14, ot_14, hf⟩ := tm_bS hf
      refine tm_cVF (As := [.int st.1, .int (st.2.1 + 1), .float v1]) (rest := []) ⟨hx, hb, hml, hown, hts⟩ (tX2_averageRatio l D cI cZ cR N q0 st.2.2 st.1 (st.2.1 + 1) v1 t_14 ot_14) (cwV 3 hts gX2_splitIntoStrips_X2_averageRatio rfl rfl rfl hdwsV_X2_averageRatio ⟨Nat.le_of_ble_eq_true rfl, Nat.le_of_ble_eq_true rfl⟩) hK hP hD hS hA [0, 1, 2, 3, 4, 5, 6, 7, 8, 9, 10, 11, 12, 13] (by decide) rfl rfl (ci := 2) rfl rfl rfl (fun _ => WX2 cI cZ cR q0 st.2.2) (()) rfl rfl hl.1 rfl (Nat.le_of_ble_eq_true rfl) dX2_splitIntoStrips_39 ⟨Nat.zero_le _, Nat.zero_le _⟩ (fun _ _ H locs hP hD hS => ?_)
      refine lv_aload_n hx hb dX2_splitIntoStrips_42 rfl (lv_at hl 0 rfl) ?_
      refine lv_iload_n hx hb dX2_splitIntoStrips_43 rfl (lv_at hl 2 rfl) ?_
      refine lv_iload_n hx hb dX2_splitIntoStrips_44 rfl (lv_at hl 3 rfl) ?_
      refine lv_fload_n hx hb dX2_splitIntoStrips_45 rfl (lv_at hl 1 rfl) ?_
      obtain ⟨t_15, ot_15, hf⟩ := tm_bS hf
      refine tm_cVF (As := [.int st.1, .int st.2.1, .float v1]) (rest := [.float t_14]) ⟨hx, hb, hml, hown, hts⟩ (tX2_averageRatio l D cI cZ cR N q0 st.2.2 st.1 st.2.1 v1 t_15 ot_15) (cwV 3 hts gX2_splitIntoStrips_X2_averageRatio rfl rfl rfl hdwsV_X2_averageRatio ⟨Nat.le_of_ble_eq_true rfl, Nat.le_of_ble_eq_true rfl⟩) hK hP hD hS hA [0, 1, 2, 3, 4, 5, 6, 7, 8, 9, 10, 11, 12, 13] (by decide) rfl rfl (ci := 2) rfl rfl rfl (fun _ => WX2 cI cZ cR q0 st.2.2) (()) rfl rfl hl.1 rfl (Nat.le_of_ble_eq_true rfl) dX2_splitIntoStrips_46 ⟨Nat.zero_le _, Nat.zero_le _⟩ (fun _ _ H locs hP hD hS => ?_)
      refine lv_fcmp hx hb dX2_splitIntoStrips_49 ?_
      refine lv_if_le (tgt := 57) hx hb dX2_splitIntoStrips_50 (by decide) (fun c_16 => ?_) (fun c_16 => ?_)
      · have hf := tm_iT c_16 hf
        refine lv_iconst (v := 0) hx hb dX2_splitIntoStrips_57 (by decide) ?_
        refine lv_istore (lv' := [(4, .int 0), (0, .ref (q0 0)), (1, .float v1), (2, .int st.1), (3, .int st.2.1)]) hx hb dX2_splitIntoStrips_58 hl (by decide) rfl (fun ls hl => ?_)
        refine lv_iload hx hb dX2_splitIntoStrips_60 (lv_at hl 0 rfl) ?_
        refine lv_if_eq (tgt := 105) hx hb dX2_splitIntoStrips_62 (by decide) (fun _ => ?_) (fun c9 => absurd c9 (by decide))
        obtain ⟨x_17, ex_17⟩ : ∃ y : Int32, y = st.2.1 + 1 := ⟨_, rfl⟩
        have hf := tm_at ex_17 hf
        refine lv_iinc (v := x_17) (lv' := [(3, .int x_17), (4, .int 0), (0, .ref (q0 0)), (1, .float v1), (2, .int st.1)]) hx hb dX2_splitIntoStrips_105 hl (k := 4) rfl (by rw [ex_17]; rfl) (by decide) rfl (fun ls hl => ?_)
        refine lv_goto (tgt := 17) hx hb dX2_splitIntoStrips_108 (by decide) ?_
        obtain rfl := Option.some.inj hf
        exact hk _ _ _ hP hD hS (lv_sub hl [2, 3, 4, 0] rfl)
      · have hf := tm_iF c_16 hf
        refine lv_iconst (v := 1) hx hb dX2_splitIntoStrips_53 (by decide) ?_
        refine lv_goto (tgt := 58) hx hb dX2_splitIntoStrips_54 (by decide) ?_
        refine lv_istore (lv' := [(4, .int 1), (0, .ref (q0 0)), (1, .float v1), (2, .int st.1), (3, .int st.2.1)]) hx hb dX2_splitIntoStrips_58 hl (by decide) rfl (fun ls hl => ?_)
        refine lv_iload hx hb dX2_splitIntoStrips_60 (lv_at hl 0 rfl) ?_
        refine lv_if_eq (tgt := 105) hx hb dX2_splitIntoStrips_62 (by decide) (fun c9 => absurd c9 (by decide)) (fun _ => ?_)
        refine lv_aload_n hx hb dX2_splitIntoStrips_65 rfl (lv_at hl 1 rfl) ?_
        refine va_get (D := D) (ci := 2) (v := .ref (q0 9)) (C := RX2) (T := TX2) (N := 8) hx hb hts uX2_splitIntoStrips_X2 hown hK hP 0 rfl rfl 6 (by decide) (hts _ kX2_splitIntoStrips_f35) (fun _ h9 => h9) rfl dX2_splitIntoStrips_66 ?_
        refine va_get (D := D) (ci := 4) (v := .int (st.2.2 9 3)) (C := RX4) (T := TX4) (N := 4) hx hb hts uX2_splitIntoStrips_X4 hown hK hP 9 rfl rfl 3 (by decide) (hts _ kX2_splitIntoStrips_f76) (fun _ h9 => h9) rfl dX2_splitIntoStrips_69 ?_
        refine lv_bipush (v := 24) hx hb dX2_splitIntoStrips_72 (by decide) ?_
        refine lv_icmp_ge (tgt := 105) hx hb dX2_splitIntoStrips_74 (by decide) (fun c_18 => ?_) (fun c_18 => ?_)
        · have hf := tm_iT c_18 hf
          obtain ⟨x_19, ex_19⟩ : ∃ y : Int32, y = st.2.1 + 1 := ⟨_, rfl⟩
          have hf := tm_at ex_19 hf
          refine lv_iinc (v := x_19) (lv' := [(3, .int x_19), (4, .int 1), (0, .ref (q0 0)), (1, .float v1), (2, .int st.1)]) hx hb dX2_splitIntoStrips_105 hl (k := 4) rfl (by rw [ex_19]; rfl) (by decide) rfl (fun ls hl => ?_)
          refine lv_goto (tgt := 17) hx hb dX2_splitIntoStrips_108 (by decide) ?_
          obtain rfl := Option.some.inj hf
          exact hk _ _ _ hP hD hS (lv_sub hl [2, 3, 4, 0] rfl)
        · have hf := tm_iF c_18 hf
          refine lv_aload_n hx hb dX2_splitIntoStrips_77 rfl (lv_at hl 1 rfl) ?_
          refine va_get (D := D) (ci := 2) (v := .ref (q0 13)) (C := RX2) (T := TX2) (N := 8) hx hb hts uX2_splitIntoStrips_X2 hown hK hP 0 rfl rfl 7 (by decide) (hts _ kX2_splitIntoStrips_f38) (fun _ h9 => h9) rfl dX2_splitIntoStrips_78 ?_
          refine lv_aload_n hx hb dX2_splitIntoStrips_81 rfl (lv_at hl 1 rfl) ?_
          refine va_get (D := D) (ci := 2) (v := .ref (q0 9)) (C := RX2) (T := TX2) (N := 8) hx hb hts uX2_splitIntoStrips_X2 hown hK hP 0 rfl rfl 6 (by decide) (hts _ kX2_splitIntoStrips_f35) (fun _ h9 => h9) rfl dX2_splitIntoStrips_82 ?_
          refine va_get (D := D) (ci := 4) (v := .int (st.2.2 9 3)) (C := RX4) (T := TX4) (N := 4) hx hb hts uX2_splitIntoStrips_X4 hown hK hP 9 rfl rfl 3 (by decide) (hts _ kX2_splitIntoStrips_f76) (fun _ h9 => h9) rfl dX2_splitIntoStrips_85 ?_
          refine lv_iload_n hx hb dX2_splitIntoStrips_88 rfl (lv_at hl 4 rfl) ?_
          obtain ⟨h_20, hf⟩ := tm_gS hf
          refine tm_iast hx hb hK hP hD hS 13 0 rfl rfl (tm_inb_in h_20) dX2_splitIntoStrips_89 (fun z => WX2 cI cZ cR q0 z) (tm_upc st.2.2 13 (upd (st.2.2 13) (st.2.2 9 3).toNatClampNeg st.2.1)) rfl (fun d0_21 ed0_21 H locs hP hD hS => ?_)
          have hf := tm_at ed0_21 hf
          refine lv_aload_n hx hb dX2_splitIntoStrips_90 rfl (lv_at hl 1 rfl) ?_
          refine va_get (D := D) (ci := 2) (v := .ref (q0 9)) (C := RX2) (T := TX2) (N := 8) hx hb hts uX2_splitIntoStrips_X2 hown hK hP 0 rfl rfl 6 (by decide) (hts _ kX2_splitIntoStrips_f35) (fun _ h9 => h9) rfl dX2_splitIntoStrips_91 ?_
          refine lv_aload_n hx hb dX2_splitIntoStrips_94 rfl (lv_at hl 1 rfl) ?_
          refine lv_iload_n hx hb dX2_splitIntoStrips_95 rfl (lv_at hl 3 rfl) ?_
          refine lv_iload_n hx hb dX2_splitIntoStrips_96 rfl (lv_at hl 4 rfl) ?_
          obtain ⟨t_22, ot_22, hf⟩ := tm_bS hf
          refine tm_cVI (As := [.int st.1, .int st.2.1]) (rest := [.ref (q0 9)]) ⟨hx, hb, hml, hown, hts⟩ (tX2_sumOfSizes l D cI cZ cR N q0 d0_21 st.1 st.2.1 t_22 ot_22) (cwV 2 hts gX2_splitIntoStrips_X2_sumOfSizes rfl rfl rfl hdwsV_X2_sumOfSizes ⟨Nat.le_of_ble_eq_true rfl, Nat.le_of_ble_eq_true rfl⟩) hK hP hD hS hA [0, 1, 2, 3, 4, 5, 6, 7, 8, 9, 10, 11, 12, 13] (by decide) rfl rfl (ci := 2) rfl rfl rfl (fun _ => WX2 cI cZ cR q0 d0_21) (()) rfl rfl hl.1 rfl (Nat.le_of_ble_eq_true rfl) dX2_splitIntoStrips_97 ⟨Nat.zero_le _, Nat.zero_le _⟩ (fun _ _ H locs hP hD hS => ?_)
          obtain ⟨t_23, ot_23, hf⟩ := tm_bS hf
          refine tm_cVV (As := [.int t_22]) (rest := []) ⟨hx, hb, hml, hown, hts⟩ (tX4_add l D cI cZ cR N (tm_sq q0 9) (tm_sh d0_21 9) t_22 t_23 ot_23) (cwV 1 hts gX2_splitIntoStrips_X4_add rfl rfl rfl hdwsV_X4_add ⟨Nat.le_of_ble_eq_true rfl, Nat.le_of_ble_eq_true rfl⟩) hK hP hD hS hA [9, 10, 11, 12] (by decide) rfl rfl (ci := 4) rfl rfl rfl (fun z => WX2 cI cZ cR q0 z) (tm_ins d0_21 9 4 t_23) rfl rfl hl.1 rfl (Nat.le_of_ble_eq_true rfl) dX2_splitIntoStrips_100 ⟨Nat.zero_le _, Nat.zero_le _⟩ (fun d0_24 ed0_24 H locs hP hD hS => ?_)
          have hf := tm_at ed0_24 hf
          refine lv_iload_n hx hb dX2_splitIntoStrips_103 rfl (lv_at hl 4 rfl) ?_
          refine lv_istore_n (lv' := [(2, .int st.2.1), (4, .int 1), (0, .ref (q0 0)), (1, .float v1), (3, .int st.2.1)]) hx hb dX2_splitIntoStrips_104 rfl hl (by decide) rfl (fun ls hl => ?_)
          obtain ⟨x_25, ex_25⟩ : ∃ y : Int32, y = st.2.1 + 1 := ⟨_, rfl⟩
          have hf := tm_at ex_25 hf
          refine lv_iinc (v := x_25) (lv' := [(3, .int x_25), (2, .int st.2.1), (4, .int 1), (0, .ref (q0 0)), (1, .float v1)]) hx hb dX2_splitIntoStrips_105 hl (k := 4) rfl (by rw [ex_25]; rfl) (by decide) rfl (fun ls hl => ?_)
          refine lv_goto (tgt := 17) hx hb dX2_splitIntoStrips_108 (by decide) ?_
          obtain rfl := Option.some.inj hf
          exact hk _ _ _ hP hD hS (lv_sub hl [3, 4, 1, 0] rfl)
set_option maxHeartbeats 4000000 in
set_option maxRecDepth 100000 in
theorem tX2_splitIntoStrips (l : Launch) (D : va_G) (cI cZ cR : ClassId) (N : Nat) (q0 : Nat → Nat) (d0 : tm_M) (z0 : tm_M) (hf : fX2_splitIntoStrips N d0 = some z0) : tm_CV l D (tm_ty cI cZ cR) yX2_splitIntoStrips wsX2_splitIntoStrips rmX2_splitIntoStrips [.ref (q0 0)] (WX2 cI cZ cR q0 d0) (WX2 cI cZ cR q0 z0) := by
  refine tm_mkV (cc := cX2_splitIntoStrips) (maxL := 5) (by decide) rfl (Nat.le_of_ble_eq_true rfl) ?_
  intro p e s m below meth c A ls Q C hP hD hS hl hend
  have C : tm_Cx p s m c [.ref (q0 0)].toArray cX2_splitIntoStrips 5 RX2 wsX2_splitIntoStrips D (tm_ty cI cZ cR) A s.heap := C
  obtain ⟨hx, hb, hml, hown, hts, hK, hA⟩ := id C
  have hl : lv_has ls 5 [(0, .ref (q0 0))] := hl
  unfold fX2_splitIntoStrips at hf
  refine lv_aload_n hx hb dX2_splitIntoStrips_0 rfl (lv_at hl 0 rfl) ?_
  refine lv_iconst (v := 0) hx hb dX2_splitIntoStrips_1 (by decide) ?_
  obtain ⟨t_1, ot_1, hf⟩ := tm_bS hf
  refine tm_cVF (As := [.int 0]) (rest := []) ⟨hx, hb, hml, hown, hts⟩ (tX2_pixelsPerSize l D cI cZ cR N q0 d0 (0 : Int32) t_1 ot_1) (cwV 1 hts gX2_splitIntoStrips_X2_pixelsPerSize rfl rfl rfl hdwsV_X2_pixelsPerSize ⟨Nat.le_of_ble_eq_true rfl, Nat.le_of_ble_eq_true rfl⟩) hK hP hD hS hA [0, 1, 2, 3, 4, 5, 6, 7, 8, 9, 10, 11, 12, 13] (by decide) rfl rfl (ci := 2) rfl rfl rfl (fun _ => WX2 cI cZ cR q0 d0) (()) rfl rfl hl.1 rfl (Nat.le_of_ble_eq_true rfl) dX2_splitIntoStrips_2 ⟨Nat.zero_le _, Nat.zero_le _⟩ (fun _ _ H locs hP hD hS => ?_)
  refine lv_fstore_n (lv' := [(1, .float t_1), (0, .ref (q0 0))]) hx hb dX2_splitIntoStrips_5 rfl hl (by decide) rfl (fun ls hl => ?_)
  refine lv_aload_n hx hb dX2_splitIntoStrips_6 rfl (lv_at hl 1 rfl) ?_
  refine va_get (D := D) (ci := 2) (v := .ref (q0 9)) (C := RX2) (T := TX2) (N := 8) hx hb hts uX2_splitIntoStrips_X2 hown hK hP 0 rfl rfl 6 (by decide) (hts _ kX2_splitIntoStrips_f35) (fun _ h9 => h9) rfl dX2_splitIntoStrips_7 ?_
  obtain ⟨t_2, ot_2, hf⟩ := tm_bS hf
  refine tm_cVV (As := []) (rest := []) ⟨hx, hb, hml, hown, hts⟩ (tX4_clear l D cI cZ cR N (tm_sq q0 9) (tm_sh d0 9) t_2 ot_2) (cwV 0 hts gX2_splitIntoStrips_X4_clear rfl rfl rfl hdwsV_X4_clear ⟨Nat.le_of_ble_eq_true rfl, Nat.le_of_ble_eq_true rfl⟩) hK hP hD hS hA [9, 10, 11, 12] (by decide) rfl rfl (ci := 4) rfl rfl rfl (fun z => WX2 cI cZ cR q0 z) (tm_ins d0 9 4 t_2) rfl rfl hl.1 rfl (Nat.le_of_ble_eq_true rfl) dX2_splitIntoStrips_10 ⟨Nat.zero_le _, Nat.zero_le _⟩ (fun d0_3 ed0_3 H locs hP hD hS => ?_)
  have hf := tm_at ed0_3 hf
  refine lv_iconst (v := 0) hx hb dX2_splitIntoStrips_13 (by decide) ?_
  refine lv_istore_n (lv' := [(2, .int 0), (1, .float t_1), (0, .ref (q0 0))]) hx hb dX2_splitIntoStrips_14 rfl hl (by decide) rfl (fun ls hl => ?_)
  refine lv_iconst (v := 1) hx hb dX2_splitIntoStrips_15 (by decide) ?_
  refine lv_istore_n (lv' := [(3, .int 1), (2, .int 0), (1, .float t_1), (0, .ref (q0 0))]) hx hb dX2_splitIntoStrips_16 rfl hl (by decide) rfl (fun ls hl => ?_)
  obtain ⟨t_26, ot_26, hf⟩ := tm_bS hf
  refine wX2_splitIntoStrips_17 l D cI cZ cR N q0 C t_1 _ _ _ ot_26 ?_ _ _ _ hP hD hS (lv_sub hl [3, 2, 1, 0] rfl)
  intro H locs ls hP hD hS hl
  obtain rfl := Option.some.inj hf
  exact hend _ _ _ _ hP hD hS dX2_splitIntoStrips_111
set_option maxHeartbeats 4000000 in
set_option maxRecDepth 100000 in
theorem wX2_strip_31 (l : Launch) (D : va_G) (cI cZ cR : ClassId) (N : Nat) (q0 : Nat → Nat) (q1 : Nat → Nat) {p : Program} {e : Env} {s : State} {m : MethodId} {args : Array Value} {below : List Frame} {meth : Method} {c : Code} {A : Nat → Prop} {H0 : Heap} {Q : State → Prop} (C : tm_Cx p s m c args cX2_strip 5 RX2 wsX2_strip D (tm_ty cI cZ cR) A H0) : ∀ (n : Nat) (st : Int32 × Int32 × Int32 × tm_M × tm_M) (o : (Int32 × Int32 × Int32 × tm_M × tm_M)), tm_whl (bX2_strip_31 N) n st = some o → (fun (o : Int32 × Int32 × Int32 × tm_M × tm_M) => ∀ (H : Heap) (locs : List Loc) (ls : Array Slot), va_P D vwCl (WX2X3 cI cZ cR q0 q1 o.2.2.2.1 o.2.2.2.2) H → va_D A (WX2X3 cI cZ cR q0 q1 o.2.2.2.1 o.2.2.2.2) → va_S A H0 H locs → lv_has ls 5 [] → W p l e rmX2_strip s m args below meth c H locs 0 0 Q (F0 m 113 ls [])) o → (fun (st : Int32 × Int32 × Int32 × tm_M × tm_M) => ∀ (H : Heap) (locs : List Loc) (ls : Array Slot), va_P D vwCl (WX2X3 cI cZ cR q0 q1 st.2.2.2.1 st.2.2.2.2) H → va_D A (WX2X3 cI cZ cR q0 q1 st.2.2.2.1 st.2.2.2.2) → va_S A H0 H locs → lv_has ls 5 [(0, .ref (q0 0)), (1, .ref (q1 0)), (2, .int st.1), (3, .int st.2.1), (4, .int st.2.2.1)] → W p l e rmX2_strip s m args below meth c H locs 0 0 Q (F0 m 31 ls [])) st := by
  obtain ⟨hx, hb, hml, hown, hts, hK, hA⟩ := id C
  refine tm_whl_W (Wh := fun (st : Int32 × Int32 × Int32 × tm_M × tm_M) => ∀ (H : Heap) (locs : List Loc) (ls : Array Slot), va_P D vwCl (WX2X3 cI cZ cR q0 q1 st.2.2.2.1 st.2.2.2.2) H → va_D A (WX2X3 cI cZ cR q0 q1 st.2.2.2.1 st.2.2.2.2) → va_S A H0 H locs → lv_has ls 5 [(0, .ref (q0 0)), (1, .ref (q1 0)), (2, .int st.1), (3, .int st.2.1), (4, .int st.2.2.1)] → W p l e rmX2_strip s m args below meth c H locs 0 0 Q (F0 m 31 ls [])) (Wx := fun (o : Int32 × Int32 × Int32 × tm_M × tm_M) => ∀ (H : Heap) (locs : List Loc) (ls : Array Slot), va_P D vwCl (WX2X3 cI cZ cR q0 q1 o.2.2.2.1 o.2.2.2.2) H → va_D A (WX2X3 cI cZ cR q0 q1 o.2.2.2.1 o.2.2.2.2) → va_S A H0 H locs → lv_has ls 5 [] → W p l e rmX2_strip s m args below meth c H locs 0 0 Q (F0 m 113 ls [])) ?_
  intro st r hf hk H locs ls hP hD hS hl
  unfold bX2_strip_31 at hf
  refine lv_iload hx hb dX2_strip_31 (lv_at hl 4 rfl) ?_
  refine lv_aload_n hx hb dX2_strip_33 rfl (lv_at hl 0 rfl) ?_
  refine va_get (D := D) (ci := 2) (v := .ref (q0 9)) (C := RX2) (T := TX2) (N := 8) hx hb hts uX2_strip_X2 hown hK hP 0 rfl rfl 6 (by decide) (hts _ kX2_strip_f35) (fun _ h9 => h9) rfl dX2_strip_34 ?_
  refine va_get (D := D) (ci := 4) (v := .int (st.2.2.2.1 9 3)) (C := RX4) (T := TX4) (N := 4) hx hb hts uX2_strip_X4 hown hK hP 9 rfl rfl 3 (by decide) (hts _ kX2_strip_f76) (fun _ h9 => h9) rfl dX2_strip_37 ?_
  refine lv_icmp_ge (tgt := 113) hx hb dX2_strip_40 (by decide) (fun c_5 => ?_) (fun c_5 => ?_)
  · have hf := tm_iT c_5 hf
    obtain rfl := Option.some.inj hf
    exact hk _ _ _ hP hD hS (lv_sub hl [] rfl)
  · have hf := tm_iF c_5 hf
    refine lv_aload_n hx hb dX2_strip_43 rfl (lv_at hl 0 rfl) ?_
    refine va_get (D := D) (ci := 2) (v := .ref (q0 4)) (C := RX2) (T := TX2) (N := 8) hx hb hts uX2_strip_X2 hown hK hP 0 rfl rfl 4 (by decide) (hts _ kX2_strip_f25) (fun _ h9 => h9) rfl dX2_strip_44 ?_
    refine lv_aload_n hx hb dX2_strip_47 rfl (lv_at hl 0 rfl) ?_
    refine va_get (D := D) (ci := 2) (v := .ref (q0 3)) (C := RX2) (T := TX2) (N := 8) hx hb hts uX2_strip_X2 hown hK hP 0 rfl rfl 3 (by decide) (hts _ kX2_strip_f21) (fun _ h9 => h9) rfl dX2_strip_48 ?_
    refine va_get (D := D) (ci := 0) (v := .int (st.2.2.2.1 3 0)) (C := RX0) (T := TX0) (N := 4) hx hb hts uX2_strip_X0 hown hK hP 3 rfl rfl 0 (by decide) (hts _ kX2_strip_f53) (fun _ h9 => h9) rfl dX2_strip_51 ?_
    refine lv_iload_n hx hb dX2_strip_54 rfl (lv_at hl 3 rfl) ?_
    refine lv_aload_n hx hb dX2_strip_55 rfl (lv_at hl 0 rfl) ?_
    refine va_get (D := D) (ci := 2) (v := .ref (q0 3)) (C := RX2) (T := TX2) (N := 8) hx hb hts uX2_strip_X2 hown hK hP 0 rfl rfl 3 (by decide) (hts _ kX2_strip_f21) (fun _ h9 => h9) rfl dX2_strip_56 ?_
    refine va_get (D := D) (ci := 0) (v := .int (st.2.2.2.1 3 2)) (C := RX0) (T := TX0) (N := 4) hx hb hts uX2_strip_X0 hown hK hP 3 rfl rfl 2 (by decide) (hts _ kX2_strip_f59) (fun _ h9 => h9) rfl dX2_strip_59 ?_
    refine lv_aload_n hx hb dX2_strip_62 rfl (lv_at hl 0 rfl) ?_
    refine va_get (D := D) (ci := 2) (v := .ref (q0 9)) (C := RX2) (T := TX2) (N := 8) hx hb hts uX2_strip_X2 hown hK hP 0 rfl rfl 6 (by decide) (hts _ kX2_strip_f35) (fun _ h9 => h9) rfl dX2_strip_63 ?_
    refine va_get (D := D) (ci := 4) (v := .ref (q0 12)) (C := RX4) (T := TX4) (N := 4) hx hb hts uX2_strip_X4 hown hK hP 9 rfl rfl 2 (by decide) (hts _ kX2_strip_f79) (fun _ h9 => h9) rfl dX2_strip_66 ?_
    refine lv_iload hx hb dX2_strip_69 (lv_at hl 4 rfl) ?_
    obtain ⟨h_6, hf⟩ := tm_gS hf
    refine va_iald hx hb hK hP 12 0 rfl rfl (tm_inb_in h_6) dX2_strip_71 ?_
    obtain ⟨t_7, ot_7, hf⟩ := tm_bS hf
    refine tm_cVV (As := [.int (st.2.2.2.1 3 0), .int st.2.1, .int (st.2.2.2.1 3 2), .int (st.2.2.2.1 12 st.2.2.1.toNatClampNeg)]) (rest := []) ⟨hx, hb, hml, hown, hts⟩ (tX0_set l D cI cZ cR N (tm_sq q0 4) (tm_sh st.2.2.2.1 4) (st.2.2.2.1 3 0) st.2.1 (st.2.2.2.1 3 2) (st.2.2.2.1 12 st.2.2.1.toNatClampNeg) t_7 ot_7) (cwV 4 hts gX2_strip_X0_set rfl rfl rfl hdwsV_X0_set ⟨Nat.le_of_ble_eq_true rfl, Nat.le_of_ble_eq_true rfl⟩) hK hP hD hS hA [4] (by decide) rfl rfl (ci := 0) rfl rfl rfl (fun z => WX2X3 cI cZ cR q0 q1 z st.2.2.2.2) (tm_ins st.2.2.2.1 4 1 t_7) rfl rfl hl.1 rfl (Nat.le_of_ble_eq_true rfl) dX2_strip_72 ⟨Nat.zero_le _, Nat.zero_le _⟩ (fun d0_8 ed0_8 H locs hP hD hS => ?_)
    have hf := tm_at ed0_8 hf
    refine lv_aload_n hx hb dX2_strip_75 rfl (lv_at hl 0 rfl) ?_
    refine lv_iload_n hx hb dX2_strip_76 rfl (lv_at hl 2 rfl) ?_
    refine lv_aload_n hx hb dX2_strip_77 rfl (lv_at hl 0 rfl) ?_
    refine va_get (D := D) (ci := 2) (v := .ref (q0 13)) (C := RX2) (T := TX2) (N := 8) hx hb hts uX2_strip_X2 hown hK hP 0 rfl rfl 7 (by decide) (hts _ kX2_strip_f38) (fun _ h9 => h9) rfl dX2_strip_78 ?_
    refine lv_iload hx hb dX2_strip_81 (lv_at hl 4 rfl) ?_
    refine va_iald hx hb hK hP 13 0 rfl rfl (tm_inb_in h_6) dX2_strip_83 ?_
    refine lv_iconst (v := 1) hx hb dX2_strip_84 (by decide) ?_
    refine lv_aload_n hx hb dX2_strip_85 rfl (lv_at hl 1 rfl) ?_
    obtain ⟨t_9, ot_9, hf⟩ := tm_bS hf
    refine tm_cVV (As := [.int st.1, .int (d0_8 13 st.2.2.1.toNatClampNeg), .int 1, .ref (q1 0)]) (rest := []) ⟨hx, hb, hml, hown, hts⟩ (tX2_fillBand l D cI cZ cR N q0 q1 d0_8 st.2.2.2.2 st.1 (d0_8 13 st.2.2.1.toNatClampNeg) (1 : Int32) t_9.1 t_9.2 ot_9) (cwV 4 hts gX2_strip_X2_fillBand rfl rfl rfl hdwsV_X2_fillBand ⟨Nat.le_of_ble_eq_true rfl, Nat.le_of_ble_eq_true rfl⟩) hK hP hD hS hA [0, 1, 2, 3, 4, 5, 6, 7, 8, 9, 10, 11, 12, 13, 14, 15, 16, 17, 18] (by decide) rfl rfl (ci := 2) rfl rfl rfl (fun _ => WX2X3 cI cZ cR q0 q1 t_9.1 t_9.2) (()) rfl rfl hl.1 rfl (Nat.le_of_ble_eq_true rfl) dX2_strip_86 ⟨Nat.zero_le _, Nat.zero_le _⟩ (fun _ _ H locs hP hD hS => ?_)
    refine lv_iload_n hx hb dX2_strip_89 rfl (lv_at hl 3 rfl) ?_
    refine lv_aload_n hx hb dX2_strip_90 rfl (lv_at hl 0 rfl) ?_
    refine va_get (D := D) (ci := 2) (v := .ref (q0 4)) (C := RX2) (T := TX2) (N := 8) hx hb hts uX2_strip_X2 hown hK hP 0 rfl rfl 4 (by decide) (hts _ kX2_strip_f25) (fun _ h9 => h9) rfl dX2_strip_91 ?_
    refine va_get (D := D) (ci := 0) (v := .int (t_9.1 4 3)) (C := RX0) (T := TX0) (N := 4) hx hb hts uX2_strip_X0 hown hK hP 4 rfl rfl 3 (by decide) (hts _ kX2_strip_f62) (fun _ h9 => h9) rfl dX2_strip_94 ?_
    refine lv_iadd hx hb dX2_strip_97 ?_
    refine lv_topi (fun x_10 ex_10 => ?_)
    have hf := tm_at ex_10 hf
    refine lv_istore_n (lv' := [(3, .int x_10), (0, .ref (q0 0)), (1, .ref (q1 0)), (2, .int st.1), (4, .int st.2.2.1)]) hx hb dX2_strip_98 rfl hl (by decide) rfl (fun ls hl => ?_)
    refine lv_aload_n hx hb dX2_strip_99 rfl (lv_at hl 1 rfl) ?_
    refine va_get (D := D) (ci := 2) (v := .ref (q0 13)) (C := RX2) (T := TX2) (N := 8) hx hb hts uX2_strip_X2 hown hK hP 0 rfl rfl 7 (by decide) (hts _ kX2_strip_f38) (fun _ h9 => h9) rfl dX2_strip_100 ?_
    refine lv_iload hx hb dX2_strip_103 (lv_at hl 4 rfl) ?_
    refine va_iald hx hb hK hP 13 0 rfl rfl (tm_inb_in h_6) dX2_strip_105 ?_
    refine lv_topi (fun x_11 ex_11 => ?_)
    have hf := tm_at ex_11 hf
    refine lv_istore_n (lv' := [(2, .int x_11), (3, .int x_10), (0, .ref (q0 0)), (1, .ref (q1 0)), (4, .int st.2.2.1)]) hx hb dX2_strip_106 rfl hl (by decide) rfl (fun ls hl => ?_)
    obtain ⟨x_12, ex_12⟩ : ∃ y : Int32, y = st.2.2.1 + 1 := ⟨_, rfl⟩
    have hf := tm_at ex_12 hf
    refine lv_iinc (v := x_12) (lv' := [(4, .int x_12), (2, .int x_11), (3, .int x_10), (0, .ref (q0 0)), (1, .ref (q1 0))]) hx hb dX2_strip_107 hl (k := 4) rfl (by rw [ex_12]; rfl) (by decide) rfl (fun ls hl => ?_)
    refine lv_goto (tgt := 31) hx hb dX2_strip_110 (by decide) ?_
    obtain rfl := Option.some.inj hf
    exact hk _ _ _ hP hD hS (lv_sub hl [3, 4, 1, 2, 0] rfl)
set_option maxHeartbeats 4000000 in
set_option maxRecDepth 100000 in
theorem tX2_strip (l : Launch) (D : va_G) (cI cZ cR : ClassId) (N : Nat) (q0 : Nat → Nat) (q1 : Nat → Nat) (d0 : tm_M) (d1 : tm_M) (z0 : tm_M) (z1 : tm_M) (hf : fX2_strip N d0 d1 = some (z0, z1)) : tm_CV l D (tm_ty cI cZ cR) yX2_strip wsX2_strip rmX2_strip [.ref (q0 0), .ref (q1 0)] (WX2X3 cI cZ cR q0 q1 d0 d1) (WX2X3 cI cZ cR q0 q1 z0 z1) := by
  refine tm_mkV (cc := cX2_strip) (maxL := 5) (by decide) rfl (Nat.le_of_ble_eq_true rfl) ?_
  intro p e s m below meth c A ls Q C hP hD hS hl hend
  have C : tm_Cx p s m c [.ref (q0 0), .ref (q1 0)].toArray cX2_strip 5 RX2 wsX2_strip D (tm_ty cI cZ cR) A s.heap := C
  obtain ⟨hx, hb, hml, hown, hts, hK, hA⟩ := id C
  have hl : lv_has ls 5 [(0, .ref (q0 0)), (1, .ref (q1 0))] := hl
  unfold fX2_strip at hf
  refine lv_aload_n hx hb dX2_strip_0 rfl (lv_at hl 0 rfl) ?_
  obtain ⟨t_1, ot_1, hf⟩ := tm_bS hf
  refine tm_cVV (As := []) (rest := []) ⟨hx, hb, hml, hown, hts⟩ (tX2_splitIntoStrips l D cI cZ cR N q0 d0 t_1 ot_1) (cwV 0 hts gX2_strip_X2_splitIntoStrips rfl rfl rfl hdwsV_X2_splitIntoStrips ⟨Nat.le_of_ble_eq_true rfl, Nat.le_of_ble_eq_true rfl⟩) hK hP hD hS hA [0, 1, 2, 3, 4, 5, 6, 7, 8, 9, 10, 11, 12, 13] (by decide) rfl rfl (ci := 2) rfl rfl rfl (fun _ => WX2X3 cI cZ cR q0 q1 t_1 d1) (()) rfl rfl hl.1 rfl (Nat.le_of_ble_eq_true rfl) dX2_strip_1 ⟨Nat.zero_le _, Nat.zero_le _⟩ (fun _ _ H locs hP hD hS => ?_)
  refine lv_aload_n hx hb dX2_strip_4 rfl (lv_at hl 0 rfl) ?_
  refine va_get (D := D) (ci := 2) (v := .ref (q0 9)) (C := RX2) (T := TX2) (N := 8) hx hb hts uX2_strip_X2 hown hK hP 0 rfl rfl 6 (by decide) (hts _ kX2_strip_f35) (fun _ h9 => h9) rfl dX2_strip_5 ?_
  refine lv_aload_n hx hb dX2_strip_8 rfl (lv_at hl 0 rfl) ?_
  refine va_get (D := D) (ci := 2) (v := .ref (q0 3)) (C := RX2) (T := TX2) (N := 8) hx hb hts uX2_strip_X2 hown hK hP 0 rfl rfl 3 (by decide) (hts _ kX2_strip_f21) (fun _ h9 => h9) rfl dX2_strip_9 ?_
  refine va_get (D := D) (ci := 0) (v := .int (t_1 3 3)) (C := RX0) (T := TX0) (N := 4) hx hb hts uX2_strip_X0 hown hK hP 3 rfl rfl 3 (by decide) (hts _ kX2_strip_f62) (fun _ h9 => h9) rfl dX2_strip_12 ?_
  obtain ⟨t_2, ot_2, hf⟩ := tm_bS hf
  refine tm_cVV (As := [.int (t_1 3 3)]) (rest := []) ⟨hx, hb, hml, hown, hts⟩ (tX4_apportion l D cI cZ cR N (tm_sq q0 9) (tm_sh t_1 9) (t_1 3 3) t_2 ot_2) (cwV 1 hts gX2_strip_X4_apportion rfl rfl rfl hdwsV_X4_apportion ⟨Nat.le_of_ble_eq_true rfl, Nat.le_of_ble_eq_true rfl⟩) hK hP hD hS hA [9, 10, 11, 12] (by decide) rfl rfl (ci := 4) rfl rfl rfl (fun z => WX2X3 cI cZ cR q0 q1 z d1) (tm_ins t_1 9 4 t_2) rfl rfl hl.1 rfl (Nat.le_of_ble_eq_true rfl) dX2_strip_15 ⟨Nat.zero_le _, Nat.zero_le _⟩ (fun d0_3 ed0_3 H locs hP hD hS => ?_)
  have hf := tm_at ed0_3 hf
  refine lv_iconst (v := 0) hx hb dX2_strip_18 (by decide) ?_
  refine lv_istore_n (lv' := [(2, .int 0), (0, .ref (q0 0)), (1, .ref (q1 0))]) hx hb dX2_strip_19 rfl hl (by decide) rfl (fun ls hl => ?_)
  refine lv_aload_n hx hb dX2_strip_20 rfl (lv_at hl 1 rfl) ?_
  refine va_get (D := D) (ci := 2) (v := .ref (q0 3)) (C := RX2) (T := TX2) (N := 8) hx hb hts uX2_strip_X2 hown hK hP 0 rfl rfl 3 (by decide) (hts _ kX2_strip_f21) (fun _ h9 => h9) rfl dX2_strip_21 ?_
  refine va_get (D := D) (ci := 0) (v := .int (d0_3 3 1)) (C := RX0) (T := TX0) (N := 4) hx hb hts uX2_strip_X0 hown hK hP 3 rfl rfl 1 (by decide) (hts _ kX2_strip_f56) (fun _ h9 => h9) rfl dX2_strip_24 ?_
  refine lv_topi (fun x_4 ex_4 => ?_)
  have hf := tm_at ex_4 hf
  refine lv_istore_n (lv' := [(3, .int x_4), (2, .int 0), (0, .ref (q0 0)), (1, .ref (q1 0))]) hx hb dX2_strip_27 rfl hl (by decide) rfl (fun ls hl => ?_)
  refine lv_iconst (v := 0) hx hb dX2_strip_28 (by decide) ?_
  refine lv_istore (lv' := [(4, .int 0), (3, .int x_4), (2, .int 0), (0, .ref (q0 0)), (1, .ref (q1 0))]) hx hb dX2_strip_29 hl (by decide) rfl (fun ls hl => ?_)
  obtain ⟨t_13, ot_13, hf⟩ := tm_bS hf
  refine wX2_strip_31 l D cI cZ cR N q0 q1 C _ _ _ ot_13 ?_ _ _ _ hP hD hS (lv_sub hl [3, 4, 2, 1, 0] rfl)
  intro H locs ls hP hD hS hl
  simp only [Option.some.injEq, Prod.mk.injEq] at hf
  obtain ⟨rfl, rfl⟩ := hf
  exact hend _ _ _ _ hP hD hS dX2_strip_113
set_option maxHeartbeats 4000000 in
set_option maxRecDepth 100000 in
theorem wX2_sortByFallingSize_27 (l : Launch) (D : va_G) (cI cZ cR : ClassId) (N : Nat) (q0 : Nat → Nat) {p : Program} {e : Env} {s : State} {m : MethodId} {args : Array Value} {below : List Frame} {meth : Method} {c : Code} {A : Nat → Prop} {H0 : Heap} {Q : State → Prop} (C : tm_Cx p s m c args cX2_sortByFallingSize 5 RX2 wsX2_sortByFallingSize D (tm_ty cI cZ cR) A H0) (v1 : Int32) (v2 : Int32) (v3 : Int32) : ∀ (n : Nat) (st : Int32 × tm_M) (o : (Int32 × tm_M)), tm_whl (bX2_sortByFallingSize_27 N v3) n st = some o → (fun (o : Int32 × tm_M) => ∀ (H : Heap) (locs : List Loc) (ls : Array Slot), va_P D vwCl (WX2 cI cZ cR q0 o.2) H → va_D A (WX2 cI cZ cR q0 o.2) → va_S A H0 H locs → lv_has ls 5 [(0, .ref (q0 0)), (1, .int v1), (2, .int v2), (3, .int v3), (4, .int o.1)] → W p l e rmX2_sortByFallingSize s m args below meth c H locs 0 0 Q (F0 m 83 ls [])) o → (fun (st : Int32 × tm_M) => ∀ (H : Heap) (locs : List Loc) (ls : Array Slot), va_P D vwCl (WX2 cI cZ cR q0 st.2) H → va_D A (WX2 cI cZ cR q0 st.2) → va_S A H0 H locs → lv_has ls 5 [(0, .ref (q0 0)), (1, .int v1), (2, .int v2), (3, .int v3), (4, .int st.1)] → W p l e rmX2_sortByFallingSize s m args below meth c H locs 0 0 Q (F0 m 27 ls [])) st := by
  obtain ⟨hx, hb, hml, hown, hts, hK, hA⟩ := id C
  refine tm_whl_W (Wh := fun (st : Int32 × tm_M) => ∀ (H : Heap) (locs : List Loc) (ls : Array Slot), va_P D vwCl (WX2 cI cZ cR q0 st.2) H → va_D A (WX2 cI cZ cR q0 st.2) → va_S A H0 H locs → lv_has ls 5 [(0, .ref (q0 0)), (1, .int v1), (2, .int v2), (3, .int v3), (4, .int st.1)] → W p l e rmX2_sortByFallingSize s m args below meth c H locs 0 0 Q (F0 m 27 ls [])) (Wx := fun (o : Int32 × tm_M) => ∀ (H : Heap) (locs : List Loc) (ls : Array Slot), va_P D vwCl (WX2 cI cZ cR q0 o.2) H → va_D A (WX2 cI cZ cR q0 o.2) → va_S A H0 H locs → lv_has ls 5 [(0, .ref (q0 0)), (1, .int v1), (2, .int v2), (3, .int v3), (4, .int o.1)] → W p l e rmX2_sortByFallingSize s m args below meth c H locs 0 0 Q (F0 m 83 ls [])) ?_
  intro st r hf hk H locs ls hP hD hS hl
  unfold bX2_sortByFallingSize_27 at hf
  refine lv_iload hx hb dX2_sortByFallingSize_27 (lv_at hl 4 rfl) ?_
  refine lv_if_le (tgt := 83) hx hb dX2_sortByFallingSize_29 (by decide) (fun c_5 => ?_) (fun c_5 => ?_)
  · have hf := tm_iT c_5 hf
    obtain rfl := Option.some.inj hf
    exact hk _ _ _ hP hD hS (lv_sub hl [0, 1, 2, 3, 4] rfl)
  · have hf := tm_iF c_5 hf
    refine lv_aload_n hx hb dX2_sortByFallingSize_32 rfl (lv_at hl 0 rfl) ?_
    refine va_get (D := D) (ci := 2) (v := .ref (q0 2)) (C := RX2) (T := TX2) (N := 8) hx hb hts uX2_sortByFallingSize_X2 hown hK hP 0 rfl rfl 1 (by decide) (hts _ kX2_sortByFallingSize_f15) (fun _ h9 => h9) rfl dX2_sortByFallingSize_33 ?_
    refine lv_iload hx hb dX2_sortByFallingSize_36 (lv_at hl 4 rfl) ?_
    refine lv_iconst (v := 1) hx hb dX2_sortByFallingSize_38 (by decide) ?_
    refine lv_isub hx hb dX2_sortByFallingSize_39 ?_
    obtain ⟨h_6, hf⟩ := tm_gS hf
    refine va_iald hx hb hK hP 2 0 rfl rfl (tm_inb_in h_6) dX2_sortByFallingSize_40 ?_
    refine lv_iload_n hx hb dX2_sortByFallingSize_41 rfl (lv_at hl 3 rfl) ?_
    refine lv_icmp_ge (tgt := 83) hx hb dX2_sortByFallingSize_42 (by decide) (fun c_7 => ?_) (fun c_7 => ?_)
    · have hf := tm_iT c_7 hf
      obtain rfl := Option.some.inj hf
      exact hk _ _ _ hP hD hS (lv_sub hl [0, 1, 2, 3, 4] rfl)
    · have hf := tm_iF c_7 hf
      refine lv_aload_n hx hb dX2_sortByFallingSize_45 rfl (lv_at hl 0 rfl) ?_
      refine va_get (D := D) (ci := 2) (v := .ref (q0 1)) (C := RX2) (T := TX2) (N := 8) hx hb hts uX2_sortByFallingSize_X2 hown hK hP 0 rfl rfl 0 (by decide) (hts _ kX2_sortByFallingSize_f9) (fun _ h9 => h9) rfl dX2_sortByFallingSize_46 ?_
      refine lv_iload hx hb dX2_sortByFallingSize_49 (lv_at hl 4 rfl) ?_
      refine lv_aload_n hx hb dX2_sortByFallingSize_51 rfl (lv_at hl 0 rfl) ?_
      refine va_get (D := D) (ci := 2) (v := .ref (q0 1)) (C := RX2) (T := TX2) (N := 8) hx hb hts uX2_sortByFallingSize_X2 hown hK hP 0 rfl rfl 0 (by decide) (hts _ kX2_sortByFallingSize_f9) (fun _ h9 => h9) rfl dX2_sortByFallingSize_52 ?_
      refine lv_iload hx hb dX2_sortByFallingSize_55 (lv_at hl 4 rfl) ?_
      refine lv_iconst (v := 1) hx hb dX2_sortByFallingSize_57 (by decide) ?_
      refine lv_isub hx hb dX2_sortByFallingSize_58 ?_
      refine va_iald hx hb hK hP 1 0 rfl rfl (tm_inb_in h_6) dX2_sortByFallingSize_59 ?_
      obtain ⟨h_8, hf⟩ := tm_gS hf
      refine tm_iast hx hb hK hP hD hS 1 0 rfl rfl (tm_inb_in h_8) dX2_sortByFallingSize_60 (fun z => WX2 cI cZ cR q0 z) (tm_upc st.2 1 (upd (st.2 1) st.1.toNatClampNeg (st.2 1 (st.1 - 1).toNatClampNeg))) rfl (fun d0_9 ed0_9 H locs hP hD hS => ?_)
      have hf := tm_at ed0_9 hf
      refine lv_aload_n hx hb dX2_sortByFallingSize_61 rfl (lv_at hl 0 rfl) ?_
      refine va_get (D := D) (ci := 2) (v := .ref (q0 2)) (C := RX2) (T := TX2) (N := 8) hx hb hts uX2_sortByFallingSize_X2 hown hK hP 0 rfl rfl 1 (by decide) (hts _ kX2_sortByFallingSize_f15) (fun _ h9 => h9) rfl dX2_sortByFallingSize_62 ?_
      refine lv_iload hx hb dX2_sortByFallingSize_65 (lv_at hl 4 rfl) ?_
      refine lv_aload_n hx hb dX2_sortByFallingSize_67 rfl (lv_at hl 0 rfl) ?_
      refine va_get (D := D) (ci := 2) (v := .ref (q0 2)) (C := RX2) (T := TX2) (N := 8) hx hb hts uX2_sortByFallingSize_X2 hown hK hP 0 rfl rfl 1 (by decide) (hts _ kX2_sortByFallingSize_f15) (fun _ h9 => h9) rfl dX2_sortByFallingSize_68 ?_
      refine lv_iload hx hb dX2_sortByFallingSize_71 (lv_at hl 4 rfl) ?_
      refine lv_iconst (v := 1) hx hb dX2_sortByFallingSize_73 (by decide) ?_
      refine lv_isub hx hb dX2_sortByFallingSize_74 ?_
      refine va_iald hx hb hK hP 2 0 rfl rfl (tm_inb_in h_6) dX2_sortByFallingSize_75 ?_
      refine tm_iast hx hb hK hP hD hS 2 0 rfl rfl (tm_inb_in h_8) dX2_sortByFallingSize_76 (fun z => WX2 cI cZ cR q0 z) (tm_upc d0_9 2 (upd (d0_9 2) st.1.toNatClampNeg (d0_9 2 (st.1 - 1).toNatClampNeg))) rfl (fun d0_10 ed0_10 H locs hP hD hS => ?_)
      have hf := tm_at ed0_10 hf
      obtain ⟨x_11, ex_11⟩ : ∃ y : Int32, y = st.1 + (-1) := ⟨_, rfl⟩
      have hf := tm_at ex_11 hf
      refine lv_iinc (v := x_11) (lv' := [(4, .int x_11), (0, .ref (q0 0)), (1, .int v1), (2, .int v2), (3, .int v3)]) hx hb dX2_sortByFallingSize_77 hl (k := 4) rfl (by rw [ex_11]; rfl) (by decide) rfl (fun ls hl => ?_)
      refine lv_goto (tgt := 27) hx hb dX2_sortByFallingSize_80 (by decide) ?_
      obtain rfl := Option.some.inj hf
      exact hk _ _ _ hP hD hS (lv_sub hl [1, 2, 3, 4, 0] rfl)
set_option maxHeartbeats 4000000 in
set_option maxRecDepth 100000 in
theorem wX2_sortByFallingSize_2 (l : Launch) (D : va_G) (cI cZ cR : ClassId) (N : Nat) (q0 : Nat → Nat) {p : Program} {e : Env} {s : State} {m : MethodId} {args : Array Value} {below : List Frame} {meth : Method} {c : Code} {A : Nat → Prop} {H0 : Heap} {Q : State → Prop} (C : tm_Cx p s m c args cX2_sortByFallingSize 5 RX2 wsX2_sortByFallingSize D (tm_ty cI cZ cR) A H0) : ∀ (n : Nat) (st : Int32 × tm_M) (o : (Int32 × tm_M)), tm_whl (bX2_sortByFallingSize_2 N) n st = some o → (fun (o : Int32 × tm_M) => ∀ (H : Heap) (locs : List Loc) (ls : Array Slot), va_P D vwCl (WX2 cI cZ cR q0 o.2) H → va_D A (WX2 cI cZ cR q0 o.2) → va_S A H0 H locs → lv_has ls 5 [] → W p l e rmX2_sortByFallingSize s m args below meth c H locs 0 0 Q (F0 m 105 ls [])) o → (fun (st : Int32 × tm_M) => ∀ (H : Heap) (locs : List Loc) (ls : Array Slot), va_P D vwCl (WX2 cI cZ cR q0 st.2) H → va_D A (WX2 cI cZ cR q0 st.2) → va_S A H0 H locs → lv_has ls 5 [(0, .ref (q0 0)), (1, .int st.1)] → W p l e rmX2_sortByFallingSize s m args below meth c H locs 0 0 Q (F0 m 2 ls [])) st := by
  obtain ⟨hx, hb, hml, hown, hts, hK, hA⟩ := id C
  refine tm_whl_W (Wh := fun (st : Int32 × tm_M) => ∀ (H : Heap) (locs : List Loc) (ls : Array Slot), va_P D vwCl (WX2 cI cZ cR q0 st.2) H → va_D A (WX2 cI cZ cR q0 st.2) → va_S A H0 H locs → lv_has ls 5 [(0, .ref (q0 0)), (1, .int st.1)] → W p l e rmX2_sortByFallingSize s m args below meth c H locs 0 0 Q (F0 m 2 ls [])) (Wx := fun (o : Int32 × tm_M) => ∀ (H : Heap) (locs : List Loc) (ls : Array Slot), va_P D vwCl (WX2 cI cZ cR q0 o.2) H → va_D A (WX2 cI cZ cR q0 o.2) → va_S A H0 H locs → lv_has ls 5 [] → W p l e rmX2_sortByFallingSize s m args below meth c H locs 0 0 Q (F0 m 105 ls [])) ?_
  intro st r hf hk H locs ls hP hD hS hl
  unfold bX2_sortByFallingSize_2 at hf
  refine lv_iload_n hx hb dX2_sortByFallingSize_2 rfl (lv_at hl 1 rfl) ?_
  refine lv_aload_n hx hb dX2_sortByFallingSize_3 rfl (lv_at hl 0 rfl) ?_
  refine va_get (D := D) (ci := 2) (v := .int (st.2 0 2)) (C := RX2) (T := TX2) (N := 8) hx hb hts uX2_sortByFallingSize_X2 hown hK hP 0 rfl rfl 2 (by decide) (hts _ kX2_sortByFallingSize_f41) (fun _ h9 => h9) rfl dX2_sortByFallingSize_4 ?_
  refine lv_icmp_ge (tgt := 105) hx hb dX2_sortByFallingSize_7 (by decide) (fun c_1 => ?_) (fun c_1 => ?_)
  · have hf := tm_iT c_1 hf
    obtain rfl := Option.some.inj hf
    exact hk _ _ _ hP hD hS (lv_sub hl [] rfl)
  · have hf := tm_iF c_1 hf
    refine lv_aload_n hx hb dX2_sortByFallingSize_10 rfl (lv_at hl 0 rfl) ?_
    refine va_get (D := D) (ci := 2) (v := .ref (q0 1)) (C := RX2) (T := TX2) (N := 8) hx hb hts uX2_sortByFallingSize_X2 hown hK hP 0 rfl rfl 0 (by decide) (hts _ kX2_sortByFallingSize_f9) (fun _ h9 => h9) rfl dX2_sortByFallingSize_11 ?_
    refine lv_iload_n hx hb dX2_sortByFallingSize_14 rfl (lv_at hl 1 rfl) ?_
    obtain ⟨h_2, hf⟩ := tm_gS hf
    refine va_iald hx hb hK hP 1 0 rfl rfl (tm_inb_in h_2) dX2_sortByFallingSize_15 ?_
    refine lv_topi (fun x_3 ex_3 => ?_)
    have hf := tm_at ex_3 hf
    refine lv_istore_n (lv' := [(2, .int x_3), (0, .ref (q0 0)), (1, .int st.1)]) hx hb dX2_sortByFallingSize_16 rfl hl (by decide) rfl (fun ls hl => ?_)
    refine lv_aload_n hx hb dX2_sortByFallingSize_17 rfl (lv_at hl 1 rfl) ?_
    refine va_get (D := D) (ci := 2) (v := .ref (q0 2)) (C := RX2) (T := TX2) (N := 8) hx hb hts uX2_sortByFallingSize_X2 hown hK hP 0 rfl rfl 1 (by decide) (hts _ kX2_sortByFallingSize_f15) (fun _ h9 => h9) rfl dX2_sortByFallingSize_18 ?_
    refine lv_iload_n hx hb dX2_sortByFallingSize_21 rfl (lv_at hl 2 rfl) ?_
    refine va_iald hx hb hK hP 2 0 rfl rfl (tm_inb_in h_2) dX2_sortByFallingSize_22 ?_
    refine lv_topi (fun x_4 ex_4 => ?_)
    have hf := tm_at ex_4 hf
    refine lv_istore_n (lv' := [(3, .int x_4), (2, .int x_3), (0, .ref (q0 0)), (1, .int st.1)]) hx hb dX2_sortByFallingSize_23 rfl hl (by decide) rfl (fun ls hl => ?_)
    refine lv_iload_n hx hb dX2_sortByFallingSize_24 rfl (lv_at hl 3 rfl) ?_
    refine lv_istore (lv' := [(4, .int st.1), (3, .int x_4), (2, .int x_3), (0, .ref (q0 0)), (1, .int st.1)]) hx hb dX2_sortByFallingSize_25 hl (by decide) rfl (fun ls hl => ?_)
    obtain ⟨t_12, ot_12, hf⟩ := tm_bS hf
    refine wX2_sortByFallingSize_27 l D cI cZ cR N q0 C st.1 x_3 x_4 _ _ _ ot_12 ?_ _ _ _ hP hD hS (lv_sub hl [3, 4, 2, 1, 0] rfl)
    intro H locs ls hP hD hS hl
    refine lv_aload_n hx hb dX2_sortByFallingSize_83 rfl (lv_at hl 0 rfl) ?_
    refine va_get (D := D) (ci := 2) (v := .ref (q0 1)) (C := RX2) (T := TX2) (N := 8) hx hb hts uX2_sortByFallingSize_X2 hown hK hP 0 rfl rfl 0 (by decide) (hts _ kX2_sortByFallingSize_f9) (fun _ h9 => h9) rfl dX2_sortByFallingSize_84 ?_
    refine lv_iload hx hb dX2_sortByFallingSize_87 (lv_at hl 4 rfl) ?_
    refine lv_iload_n hx hb dX2_sortByFallingSize_89 rfl (lv_at hl 2 rfl) ?_
    obtain ⟨h_13, hf⟩ := tm_gS hf
    refine tm_iast hx hb hK hP hD hS 1 0 rfl rfl (tm_inb_in h_13) dX2_sortByFallingSize_90 (fun z => WX2 cI cZ cR q0 z) (tm_upc t_12.2 1 (upd (t_12.2 1) t_12.1.toNatClampNeg x_3)) rfl (fun d0_14 ed0_14 H locs hP hD hS => ?_)
    have hf := tm_at ed0_14 hf
    refine lv_aload_n hx hb dX2_sortByFallingSize_91 rfl (lv_at hl 0 rfl) ?_
    refine va_get (D := D) (ci := 2) (v := .ref (q0 2)) (C := RX2) (T := TX2) (N := 8) hx hb hts uX2_sortByFallingSize_X2 hown hK hP 0 rfl rfl 1 (by decide) (hts _ kX2_sortByFallingSize_f15) (fun _ h9 => h9) rfl dX2_sortByFallingSize_92 ?_
    refine lv_iload hx hb dX2_sortByFallingSize_95 (lv_at hl 4 rfl) ?_
    refine lv_iload_n hx hb dX2_sortByFallingSize_97 rfl (lv_at hl 3 rfl) ?_
    refine tm_iast hx hb hK hP hD hS 2 0 rfl rfl (tm_inb_in h_13) dX2_sortByFallingSize_98 (fun z => WX2 cI cZ cR q0 z) (tm_upc d0_14 2 (upd (d0_14 2) t_12.1.toNatClampNeg x_4)) rfl (fun d0_15 ed0_15 H locs hP hD hS => ?_)
    have hf := tm_at ed0_15 hf
    obtain ⟨x_16, ex_16⟩ : ∃ y : Int32, y = st.1 + 1 := ⟨_, rfl⟩
    have hf := tm_at ex_16 hf
    refine lv_iinc (v := x_16) (lv' := [(1, .int x_16), (0, .ref (q0 0)), (2, .int x_3), (3, .int x_4), (4, .int t_12.1)]) hx hb dX2_sortByFallingSize_99 hl (k := 1) rfl (by rw [ex_16]; rfl) (by decide) rfl (fun ls hl => ?_)
    refine lv_goto (tgt := 2) hx hb dX2_sortByFallingSize_102 (by decide) ?_
    obtain rfl := Option.some.inj hf
    exact hk _ _ _ hP hD hS (lv_sub hl [1, 0] rfl)
set_option maxHeartbeats 4000000 in
set_option maxRecDepth 100000 in
theorem tX2_sortByFallingSize (l : Launch) (D : va_G) (cI cZ cR : ClassId) (N : Nat) (q0 : Nat → Nat) (d0 : tm_M) (z0 : tm_M) (hf : fX2_sortByFallingSize N d0 = some z0) : tm_CV l D (tm_ty cI cZ cR) yX2_sortByFallingSize wsX2_sortByFallingSize rmX2_sortByFallingSize [.ref (q0 0)] (WX2 cI cZ cR q0 d0) (WX2 cI cZ cR q0 z0) := by
  refine tm_mkV (cc := cX2_sortByFallingSize) (maxL := 5) (by decide) rfl (Nat.le_of_ble_eq_true rfl) ?_
  intro p e s m below meth c A ls Q C hP hD hS hl hend
  have C : tm_Cx p s m c [.ref (q0 0)].toArray cX2_sortByFallingSize 5 RX2 wsX2_sortByFallingSize D (tm_ty cI cZ cR) A s.heap := C
  obtain ⟨hx, hb, hml, hown, hts, hK, hA⟩ := id C
  have hl : lv_has ls 5 [(0, .ref (q0 0))] := hl
  unfold fX2_sortByFallingSize at hf
  refine lv_iconst (v := 1) hx hb dX2_sortByFallingSize_0 (by decide) ?_
  refine lv_istore_n (lv' := [(1, .int 1), (0, .ref (q0 0))]) hx hb dX2_sortByFallingSize_1 rfl hl (by decide) rfl (fun ls hl => ?_)
  obtain ⟨t_17, ot_17, hf⟩ := tm_bS hf
  refine wX2_sortByFallingSize_2 l D cI cZ cR N q0 C _ _ _ ot_17 ?_ _ _ _ hP hD hS (lv_sub hl [1, 0] rfl)
  intro H locs ls hP hD hS hl
  obtain rfl := Option.some.inj hf
  exact hend _ _ _ _ hP hD hS dX2_sortByFallingSize_105
set_option maxHeartbeats 4000000 in
set_option maxRecDepth 100000 in
theorem wX2_worstRatio_20 (l : Launch) (D : va_G) (cI cZ cR : ClassId) (N : Nat) (q0 : Nat → Nat) {p : Program} {e : Env} {s : State} {m : MethodId} {args : Array Value} {below : List Frame} {meth : Method} {c : Code} {A : Nat → Prop} {H0 : Heap} {Q : State → Prop} (C : tm_Cx p s m c args cX2_worstRatio 9 RX2 wsX2_worstRatio D (tm_ty cI cZ cR) A H0) (d0 : tm_M) (v2 : Int32) (v3 : UInt32) (v5 : UInt32) : ∀ (n : Nat) (st : UInt32 × Int32) (o : (UInt32 × Int32)), tm_whl (bX2_worstRatio_20 N d0 v2 v3 v5) n st = some o → (fun (o : UInt32 × Int32) => ∀ (H : Heap) (locs : List Loc) (ls : Array Slot), va_P D vwCl (WX2 cI cZ cR q0 d0) H → va_D A (WX2 cI cZ cR q0 d0) → va_S A H0 H locs → lv_has ls 9 [(6, .float o.1)] → W p l e rmX2_worstRatio s m args below meth c H locs 0 0 Q (F0 m 64 ls [])) o → (fun (st : UInt32 × Int32) => ∀ (H : Heap) (locs : List Loc) (ls : Array Slot), va_P D vwCl (WX2 cI cZ cR q0 d0) H → va_D A (WX2 cI cZ cR q0 d0) → va_S A H0 H locs → lv_has ls 9 [(0, .ref (q0 0)), (2, .int v2), (3, .float v3), (5, .float v5), (6, .float st.1), (7, .int st.2)] → W p l e rmX2_worstRatio s m args below meth c H locs 0 0 Q (F0 m 20 ls [])) st := by
  obtain ⟨hx, hb, hml, hown, hts, hK, hA⟩ := id C
  refine tm_whl_W (Wh := fun (st : UInt32 × Int32) => ∀ (H : Heap) (locs : List Loc) (ls : Array Slot), va_P D vwCl (WX2 cI cZ cR q0 d0) H → va_D A (WX2 cI cZ cR q0 d0) → va_S A H0 H locs → lv_has ls 9 [(0, .ref (q0 0)), (2, .int v2), (3, .float v3), (5, .float v5), (6, .float st.1), (7, .int st.2)] → W p l e rmX2_worstRatio s m args below meth c H locs 0 0 Q (F0 m 20 ls [])) (Wx := fun (o : UInt32 × Int32) => ∀ (H : Heap) (locs : List Loc) (ls : Array Slot), va_P D vwCl (WX2 cI cZ cR q0 d0) H → va_D A (WX2 cI cZ cR q0 d0) → va_S A H0 H locs → lv_has ls 9 [(6, .float o.1)] → W p l e rmX2_worstRatio s m args below meth c H locs 0 0 Q (F0 m 64 ls [])) ?_
  intro st r hf hk H locs ls hP hD hS hl
  unfold bX2_worstRatio_20 at hf
  refine lv_iload hx hb dX2_worstRatio_20 (lv_at hl 5 rfl) ?_
  refine lv_iload_n hx hb dX2_worstRatio_22 rfl (lv_at hl 1 rfl) ?_
  refine lv_icmp_ge (tgt := 64) hx hb dX2_worstRatio_23 (by decide) (fun c_3 => ?_) (fun c_3 => ?_)
  · have hf := tm_iT c_3 hf
    obtain rfl := Option.some.inj hf
    exact hk _ _ _ hP hD hS (lv_sub hl [4] rfl)
  · have hf := tm_iF c_3 hf
    refine lv_aload_n hx hb dX2_worstRatio_26 rfl (lv_at hl 0 rfl) ?_
    refine va_get (D := D) (ci := 2) (v := .ref (q0 2)) (C := RX2) (T := TX2) (N := 8) hx hb hts uX2_worstRatio_X2 hown hK hP 0 rfl rfl 1 (by decide) (hts _ kX2_worstRatio_f15) (fun _ h9 => h9) rfl dX2_worstRatio_27 ?_
    refine lv_iload hx hb dX2_worstRatio_30 (lv_at hl 5 rfl) ?_
    obtain ⟨h_4, hf⟩ := tm_gS hf
    refine va_iald hx hb hK hP 2 0 rfl rfl (tm_inb_in h_4) dX2_worstRatio_32 ?_
    refine lv_fload_n hx hb dX2_worstRatio_33 rfl (lv_at hl 2 rfl) ?_
    refine lv_fload hx hb dX2_worstRatio_34 (lv_at hl 3 rfl) ?_
    obtain ⟨t_5, ot_5, hf⟩ := tm_bS hf
    refine tm_cSF (As := [.int (d0 2 st.2.toNatClampNeg), .float v3, .float v5]) (rest := []) ⟨hx, hb, hml, hown, hts⟩ (tX2_ratio l D cI cZ cR N (d0 2 st.2.toNatClampNeg) v3 v5 t_5 ot_5) (va_cwS 3 hts gX2_worstRatio_X2_ratio rfl rfl rfl hdwsS_X2_ratio ⟨Nat.le_of_ble_eq_true rfl, Nat.le_of_ble_eq_true rfl⟩) hK hP hD hS hA [] (by decide) rfl rfl (fun _ => WX2 cI cZ cR q0 d0) (()) rfl rfl hl.1 rfl (Nat.le_of_ble_eq_true rfl) dX2_worstRatio_36 ⟨Nat.zero_le _, Nat.zero_le _⟩ (fun _ _ H locs hP hD hS => ?_)
    refine lv_fstore (lv' := [(8, .float t_5), (0, .ref (q0 0)), (2, .int v2), (3, .float v3), (5, .float v5), (6, .float st.1), (7, .int st.2)]) hx hb dX2_worstRatio_39 hl (by decide) rfl (fun ls hl => ?_)
    refine lv_fload hx hb dX2_worstRatio_41 (lv_at hl 0 rfl) ?_
    refine lv_fload hx hb dX2_worstRatio_43 (lv_at hl 5 rfl) ?_
    refine lv_fcmp hx hb dX2_worstRatio_45 ?_
    refine lv_if_lt (tgt := 54) hx hb dX2_worstRatio_46 (by decide) (fun c_6 => ?_) (fun c_6 => ?_)
    · have hf := tm_iT c_6 hf
      refine lv_fload hx hb dX2_worstRatio_54 (lv_at hl 5 rfl) ?_
      refine lv_fstore (lv' := [(6, .float st.1), (8, .float t_5), (0, .ref (q0 0)), (2, .int v2), (3, .float v3), (5, .float v5), (7, .int st.2)]) hx hb dX2_worstRatio_56 hl (by decide) rfl (fun ls hl => ?_)
      obtain ⟨x_7, ex_7⟩ : ∃ y : Int32, y = st.2 + 1 := ⟨_, rfl⟩
      have hf := tm_at ex_7 hf
      refine lv_iinc (v := x_7) (lv' := [(7, .int x_7), (6, .float st.1), (8, .float t_5), (0, .ref (q0 0)), (2, .int v2), (3, .float v3), (5, .float v5)]) hx hb dX2_worstRatio_58 hl (k := 6) rfl (by rw [ex_7]; rfl) (by decide) rfl (fun ls hl => ?_)
      refine lv_goto (tgt := 20) hx hb dX2_worstRatio_61 (by decide) ?_
      obtain rfl := Option.some.inj hf
      exact hk _ _ _ hP hD hS (lv_sub hl [3, 4, 5, 6, 1, 0] rfl)
    · have hf := tm_iF c_6 hf
      refine lv_fload hx hb dX2_worstRatio_49 (lv_at hl 0 rfl) ?_
      refine lv_goto (tgt := 56) hx hb dX2_worstRatio_51 (by decide) ?_
      refine lv_fstore (lv' := [(6, .float t_5), (8, .float t_5), (0, .ref (q0 0)), (2, .int v2), (3, .float v3), (5, .float v5), (7, .int st.2)]) hx hb dX2_worstRatio_56 hl (by decide) rfl (fun ls hl => ?_)
      obtain ⟨x_8, ex_8⟩ : ∃ y : Int32, y = st.2 + 1 := ⟨_, rfl⟩
      have hf := tm_at ex_8 hf
      refine lv_iinc (v := x_8) (lv' := [(7, .int x_8), (6, .float t_5), (8, .float t_5), (0, .ref (q0 0)), (2, .int v2), (3, .float v3), (5, .float v5)]) hx hb dX2_worstRatio_58 hl (k := 6) rfl (by rw [ex_8]; rfl) (by decide) rfl (fun ls hl => ?_)
      refine lv_goto (tgt := 20) hx hb dX2_worstRatio_61 (by decide) ?_
      obtain rfl := Option.some.inj hf
      exact hk _ _ _ hP hD hS (lv_sub hl [3, 4, 5, 6, 1, 0] rfl)
set_option maxHeartbeats 4000000 in
set_option maxRecDepth 100000 in
theorem tX2_worstRatio (l : Launch) (D : va_G) (cI cZ cR : ClassId) (N : Nat) (q0 : Nat → Nat) (d0 : tm_M) (p1 : Int32) (p2 : Int32) (p3 : UInt32) (p4 : Int32) (r0 : UInt32) (hf : fX2_worstRatio N d0 p1 p2 p3 p4 = some r0) : tm_CF l D (tm_ty cI cZ cR) yX2_worstRatio wsX2_worstRatio rmX2_worstRatio [.ref (q0 0), .int p1, .int p2, .float p3, .int p4] (WX2 cI cZ cR q0 d0) r0 (WX2 cI cZ cR q0 d0) := by
  refine tm_mkF (cc := cX2_worstRatio) (maxL := 9) (by decide) rfl (Nat.le_of_ble_eq_true rfl) ?_
  intro p e s m below meth c A ls Q C hP hD hS hl hend
  have C : tm_Cx p s m c [.ref (q0 0), .int p1, .int p2, .float p3, .int p4].toArray cX2_worstRatio 9 RX2 wsX2_worstRatio D (tm_ty cI cZ cR) A s.heap := C
  obtain ⟨hx, hb, hml, hown, hts, hK, hA⟩ := id C
  have hl : lv_has ls 9 [(0, .ref (q0 0)), (1, .int p1), (2, .int p2), (3, .float p3), (4, .int p4)] := hl
  unfold fX2_worstRatio at hf
  refine lv_aload_n hx hb dX2_worstRatio_0 rfl (lv_at hl 0 rfl) ?_
  refine lv_iload_n hx hb dX2_worstRatio_1 rfl (lv_at hl 1 rfl) ?_
  refine lv_iload_n hx hb dX2_worstRatio_2 rfl (lv_at hl 2 rfl) ?_
  obtain ⟨t_1, ot_1, hf⟩ := tm_bS hf
  refine tm_cVI (As := [.int p1, .int p2]) (rest := []) ⟨hx, hb, hml, hown, hts⟩ (tX2_sumOfSizes l D cI cZ cR N q0 d0 p1 p2 t_1 ot_1) (cwV 2 hts gX2_worstRatio_X2_sumOfSizes rfl rfl rfl hdwsV_X2_sumOfSizes ⟨Nat.le_of_ble_eq_true rfl, Nat.le_of_ble_eq_true rfl⟩) hK hP hD hS hA [0, 1, 2, 3, 4, 5, 6, 7, 8, 9, 10, 11, 12, 13] (by decide) rfl rfl (ci := 2) rfl rfl rfl (fun _ => WX2 cI cZ cR q0 d0) (()) rfl rfl hl.1 rfl (Nat.le_of_ble_eq_true rfl) dX2_worstRatio_3 ⟨Nat.zero_le _, Nat.zero_le _⟩ (fun _ _ H locs hP hD hS => ?_)
  refine lv_fload_n hx hb dX2_worstRatio_6 rfl (lv_at hl 3 rfl) ?_
  refine lv_iload hx hb dX2_worstRatio_7 (lv_at hl 4 rfl) ?_
  obtain ⟨t_2, ot_2, hf⟩ := tm_bS hf
  refine tm_cSF (As := [.int t_1, .float p3, .int p4]) (rest := []) ⟨hx, hb, hml, hown, hts⟩ (tX2_thicknessOf l D cI cZ cR N t_1 p3 p4 t_2 ot_2) (va_cwS 3 hts gX2_worstRatio_X2_thicknessOf rfl rfl rfl hdwsS_X2_thicknessOf ⟨Nat.le_of_ble_eq_true rfl, Nat.le_of_ble_eq_true rfl⟩) hK hP hD hS hA [] (by decide) rfl rfl (fun _ => WX2 cI cZ cR q0 d0) (()) rfl rfl hl.1 rfl (Nat.le_of_ble_eq_true rfl) dX2_worstRatio_9 ⟨Nat.zero_le _, Nat.zero_le _⟩ (fun _ _ H locs hP hD hS => ?_)
  refine lv_fstore (lv' := [(5, .float t_2), (0, .ref (q0 0)), (1, .int p1), (2, .int p2), (3, .float p3), (4, .int p4)]) hx hb dX2_worstRatio_12 hl (by decide) rfl (fun ls hl => ?_)
  refine lv_fconst0 hx hb dX2_worstRatio_14 ?_
  refine lv_fstore (lv' := [(6, .float FP.fconst0), (5, .float t_2), (0, .ref (q0 0)), (1, .int p1), (2, .int p2), (3, .float p3), (4, .int p4)]) hx hb dX2_worstRatio_15 hl (by decide) rfl (fun ls hl => ?_)
  refine lv_iload_n hx hb dX2_worstRatio_17 rfl (lv_at hl 3 rfl) ?_
  refine lv_istore (lv' := [(7, .int p1), (6, .float FP.fconst0), (5, .float t_2), (0, .ref (q0 0)), (1, .int p1), (2, .int p2), (3, .float p3), (4, .int p4)]) hx hb dX2_worstRatio_18 hl (by decide) rfl (fun ls hl => ?_)
  obtain ⟨t_9, ot_9, hf⟩ := tm_bS hf
  refine wX2_worstRatio_20 l D cI cZ cR N q0 C d0 p2 p3 t_2 _ _ _ ot_9 ?_ _ _ _ hP hD hS (lv_sub hl [3, 5, 6, 2, 1, 0] rfl)
  intro H locs ls hP hD hS hl
  refine lv_fload hx hb dX2_worstRatio_64 (lv_at hl 0 rfl) ?_
  obtain rfl := Option.some.inj hf
  exact hend _ _ _ _ hP hD hS dX2_worstRatio_66
set_option maxHeartbeats 4000000 in
set_option maxRecDepth 100000 in
theorem wX2_endOfRow_41 (l : Launch) (D : va_G) (cI cZ cR : ClassId) (N : Nat) (q0 : Nat → Nat) {p : Program} {e : Env} {s : State} {m : MethodId} {args : Array Value} {below : List Frame} {meth : Method} {c : Code} {A : Nat → Prop} {H0 : Heap} {Q : State → Prop} (C : tm_Cx p s m c args cX2_endOfRow 7 RX2 wsX2_endOfRow D (tm_ty cI cZ cR) A H0) (d0 : tm_M) (v1 : Int32) (v2 : UInt32) (v3 : Int32) : ∀ (n : Nat) (st : UInt32 × Int32) (o : ((UInt32 × Int32) ⊕ (UInt32 × Int32))), tm_whl (bX2_endOfRow_41 N d0 v1 v2 v3) n st = some o → (tm_elm (fun (o : UInt32 × Int32) => ∀ (H : Heap) (locs : List Loc) (ls : Array Slot), va_P D vwCl (WX2 cI cZ cR q0 d0) H → va_D A (WX2 cI cZ cR q0 d0) → va_S A H0 H locs → lv_has ls 7 [(0, .ref (q0 0))] → W p l e rmX2_endOfRow s m args below meth c H locs 0 0 Q (F0 m 84 ls [])) (fun (o : UInt32 × Int32) => ∀ (H : Heap) (locs : List Loc) (ls : Array Slot), va_P D vwCl (WX2 cI cZ cR q0 d0) H → va_D A (WX2 cI cZ cR q0 d0) → va_S A H0 H locs → lv_has ls 7 [(5, .int o.2)] → W p l e rmX2_endOfRow s m args below meth c H locs 0 0 Q (F0 m 71 ls []))) o → (fun (st : UInt32 × Int32) => ∀ (H : Heap) (locs : List Loc) (ls : Array Slot), va_P D vwCl (WX2 cI cZ cR q0 d0) H → va_D A (WX2 cI cZ cR q0 d0) → va_S A H0 H locs → lv_has ls 7 [(0, .ref (q0 0)), (1, .int v1), (2, .float v2), (3, .int v3), (4, .float st.1), (5, .int st.2)] → W p l e rmX2_endOfRow s m args below meth c H locs 0 0 Q (F0 m 41 ls [])) st := by
  obtain ⟨hx, hb, hml, hown, hts, hK, hA⟩ := id C
  refine tm_whl_W (Wh := fun (st : UInt32 × Int32) => ∀ (H : Heap) (locs : List Loc) (ls : Array Slot), va_P D vwCl (WX2 cI cZ cR q0 d0) H → va_D A (WX2 cI cZ cR q0 d0) → va_S A H0 H locs → lv_has ls 7 [(0, .ref (q0 0)), (1, .int v1), (2, .float v2), (3, .int v3), (4, .float st.1), (5, .int st.2)] → W p l e rmX2_endOfRow s m args below meth c H locs 0 0 Q (F0 m 41 ls [])) (Wx := tm_elm (fun (o : UInt32 × Int32) => ∀ (H : Heap) (locs : List Loc) (ls : Array Slot), va_P D vwCl (WX2 cI cZ cR q0 d0) H → va_D A (WX2 cI cZ cR q0 d0) → va_S A H0 H locs → lv_has ls 7 [(0, .ref (q0 0))] → W p l e rmX2_endOfRow s m args below meth c H locs 0 0 Q (F0 m 84 ls [])) (fun (o : UInt32 × Int32) => ∀ (H : Heap) (locs : List Loc) (ls : Array Slot), va_P D vwCl (WX2 cI cZ cR q0 d0) H → va_D A (WX2 cI cZ cR q0 d0) → va_S A H0 H locs → lv_has ls 7 [(5, .int o.2)] → W p l e rmX2_endOfRow s m args below meth c H locs 0 0 Q (F0 m 71 ls []))) ?_
  intro st r hf hk H locs ls hP hD hS hl
  unfold bX2_endOfRow_41 at hf
  refine lv_iload hx hb dX2_endOfRow_41 (lv_at hl 5 rfl) ?_
  refine lv_aload_n hx hb dX2_endOfRow_43 rfl (lv_at hl 0 rfl) ?_
  refine va_get (D := D) (ci := 2) (v := .int (d0 0 2)) (C := RX2) (T := TX2) (N := 8) hx hb hts uX2_endOfRow_X2 hown hK hP 0 rfl rfl 2 (by decide) (hts _ kX2_endOfRow_f41) (fun _ h9 => h9) rfl dX2_endOfRow_44 ?_
  refine lv_icmp_ge (tgt := 84) hx hb dX2_endOfRow_47 (by decide) (fun c_5 => ?_) (fun c_5 => ?_)
  · have hf := tm_iT c_5 hf
    obtain rfl := Option.some.inj hf
    exact hk _ _ _ hP hD hS (lv_sub hl [0] rfl)
  · have hf := tm_iF c_5 hf
    refine lv_aload_n hx hb dX2_endOfRow_50 rfl (lv_at hl 0 rfl) ?_
    refine lv_iload_n hx hb dX2_endOfRow_51 rfl (lv_at hl 1 rfl) ?_
    refine lv_iload hx hb dX2_endOfRow_52 (lv_at hl 5 rfl) ?_
    refine lv_iconst (v := 1) hx hb dX2_endOfRow_54 (by decide) ?_
    refine lv_iadd hx hb dX2_endOfRow_55 ?_
    refine lv_fload_n hx hb dX2_endOfRow_56 rfl (lv_at hl 2 rfl) ?_
    refine lv_iload_n hx hb dX2_endOfRow_57 rfl (lv_at hl 3 rfl) ?_
    obtain ⟨t_6, ot_6, hf⟩ := tm_bS hf
    refine tm_cVF (As := [.int v1, .int (st.2 + 1), .float v2, .int v3]) (rest := []) ⟨hx, hb, hml, hown, hts⟩ (tX2_worstRatio l D cI cZ cR N q0 d0 v1 (st.2 + 1) v2 v3 t_6 ot_6) (cwV 4 hts gX2_endOfRow_X2_worstRatio rfl rfl rfl hdwsV_X2_worstRatio ⟨Nat.le_of_ble_eq_true rfl, Nat.le_of_ble_eq_true rfl⟩) hK hP hD hS hA [0, 1, 2, 3, 4, 5, 6, 7, 8, 9, 10, 11, 12, 13] (by decide) rfl rfl (ci := 2) rfl rfl rfl (fun _ => WX2 cI cZ cR q0 d0) (()) rfl rfl hl.1 rfl (Nat.le_of_ble_eq_true rfl) dX2_endOfRow_58 ⟨Nat.zero_le _, Nat.zero_le _⟩ (fun _ _ H locs hP hD hS => ?_)
    refine lv_fstore (lv' := [(6, .float t_6), (0, .ref (q0 0)), (1, .int v1), (2, .float v2), (3, .int v3), (4, .float st.1), (5, .int st.2)]) hx hb dX2_endOfRow_61 hl (by decide) rfl (fun ls hl => ?_)
    refine lv_fload hx hb dX2_endOfRow_63 (lv_at hl 0 rfl) ?_
    refine lv_fload hx hb dX2_endOfRow_65 (lv_at hl 5 rfl) ?_
    refine lv_fcmp hx hb dX2_endOfRow_67 ?_
    refine lv_if_le (tgt := 74) hx hb dX2_endOfRow_68 (by decide) (fun c_7 => ?_) (fun c_7 => ?_)
    · have hf := tm_iT c_7 hf
      refine lv_fload hx hb dX2_endOfRow_74 (lv_at hl 0 rfl) ?_
      refine lv_fstore (lv' := [(4, .float t_6), (6, .float t_6), (0, .ref (q0 0)), (1, .int v1), (2, .float v2), (3, .int v3), (5, .int st.2)]) hx hb dX2_endOfRow_76 hl (by decide) rfl (fun ls hl => ?_)
      obtain ⟨x_8, ex_8⟩ : ∃ y : Int32, y = st.2 + 1 := ⟨_, rfl⟩
      have hf := tm_at ex_8 hf
      refine lv_iinc (v := x_8) (lv' := [(5, .int x_8), (4, .float t_6), (6, .float t_6), (0, .ref (q0 0)), (1, .int v1), (2, .float v2), (3, .int v3)]) hx hb dX2_endOfRow_78 hl (k := 6) rfl (by rw [ex_8]; rfl) (by decide) rfl (fun ls hl => ?_)
      refine lv_goto (tgt := 41) hx hb dX2_endOfRow_81 (by decide) ?_
      obtain rfl := Option.some.inj hf
      exact hk _ _ _ hP hD hS (lv_sub hl [3, 4, 5, 6, 1, 0] rfl)
    · have hf := tm_iF c_7 hf
      obtain rfl := Option.some.inj hf
      exact hk _ _ _ hP hD hS (lv_sub hl [6] rfl)
set_option maxHeartbeats 4000000 in
set_option maxRecDepth 100000 in
theorem tX2_endOfRow (l : Launch) (D : va_G) (cI cZ cR : ClassId) (N : Nat) (q0 : Nat → Nat) (d0 : tm_M) (p1 : Int32) (r0 : Int32) (hf : fX2_endOfRow N d0 p1 = some r0) : tm_CI l D (tm_ty cI cZ cR) yX2_endOfRow wsX2_endOfRow rmX2_endOfRow [.ref (q0 0), .int p1] (WX2 cI cZ cR q0 d0) r0 (WX2 cI cZ cR q0 d0) := by
  refine tm_mkI (cc := cX2_endOfRow) (maxL := 7) (ty := .int) (by decide) rfl (Nat.le_of_ble_eq_true rfl) ?_
  intro p e s m below meth c A ls Q C hP hD hS hl hend
  have C : tm_Cx p s m c [.ref (q0 0), .int p1].toArray cX2_endOfRow 7 RX2 wsX2_endOfRow D (tm_ty cI cZ cR) A s.heap := C
  obtain ⟨hx, hb, hml, hown, hts, hK, hA⟩ := id C
  have hl : lv_has ls 7 [(0, .ref (q0 0)), (1, .int p1)] := hl
  unfold fX2_endOfRow at hf
  refine lv_aload_n hx hb dX2_endOfRow_0 rfl (lv_at hl 0 rfl) ?_
  refine lv_iload_n hx hb dX2_endOfRow_1 rfl (lv_at hl 1 rfl) ?_
  obtain ⟨t_1, ot_1, hf⟩ := tm_bS hf
  refine tm_cVF (As := [.int p1]) (rest := []) ⟨hx, hb, hml, hown, hts⟩ (tX2_pixelsPerSize l D cI cZ cR N q0 d0 p1 t_1 ot_1) (cwV 1 hts gX2_endOfRow_X2_pixelsPerSize rfl rfl rfl hdwsV_X2_pixelsPerSize ⟨Nat.le_of_ble_eq_true rfl, Nat.le_of_ble_eq_true rfl⟩) hK hP hD hS hA [0, 1, 2, 3, 4, 5, 6, 7, 8, 9, 10, 11, 12, 13] (by decide) rfl rfl (ci := 2) rfl rfl rfl (fun _ => WX2 cI cZ cR q0 d0) (()) rfl rfl hl.1 rfl (Nat.le_of_ble_eq_true rfl) dX2_endOfRow_2 ⟨Nat.zero_le _, Nat.zero_le _⟩ (fun _ _ H locs hP hD hS => ?_)
  refine lv_fstore_n (lv' := [(2, .float t_1), (0, .ref (q0 0)), (1, .int p1)]) hx hb dX2_endOfRow_5 rfl hl (by decide) rfl (fun ls hl => ?_)
  refine lv_aload_n hx hb dX2_endOfRow_6 rfl (lv_at hl 1 rfl) ?_
  refine va_get (D := D) (ci := 2) (v := .ref (q0 3)) (C := RX2) (T := TX2) (N := 8) hx hb hts uX2_endOfRow_X2 hown hK hP 0 rfl rfl 3 (by decide) (hts _ kX2_endOfRow_f21) (fun _ h9 => h9) rfl dX2_endOfRow_7 ?_
  refine va_get (D := D) (ci := 0) (v := .int (d0 3 2)) (C := RX0) (T := TX0) (N := 4) hx hb hts uX2_endOfRow_X0 hown hK hP 3 rfl rfl 2 (by decide) (hts _ kX2_endOfRow_f59) (fun _ h9 => h9) rfl dX2_endOfRow_10 ?_
  refine lv_aload_n hx hb dX2_endOfRow_13 rfl (lv_at hl 1 rfl) ?_
  refine va_get (D := D) (ci := 2) (v := .ref (q0 3)) (C := RX2) (T := TX2) (N := 8) hx hb hts uX2_endOfRow_X2 hown hK hP 0 rfl rfl 3 (by decide) (hts _ kX2_endOfRow_f21) (fun _ h9 => h9) rfl dX2_endOfRow_14 ?_
  refine va_get (D := D) (ci := 0) (v := .int (d0 3 3)) (C := RX0) (T := TX0) (N := 4) hx hb hts uX2_endOfRow_X0 hown hK hP 3 rfl rfl 3 (by decide) (hts _ kX2_endOfRow_f62) (fun _ h9 => h9) rfl dX2_endOfRow_17 ?_
  refine va_mmin (x := (d0 3 2)) (y := (d0 3 3)) (rest := []) hx hb (by rw [hml]; exact hl.1.symm) hown (hts _ kX2_endOfRow_m123) (hts _ kX2_endOfRow_s123) (hts _ kX2_endOfRow_i123) (hts _ kX2_endOfRow_o123) (Nat.le_of_ble_eq_true rfl) (Nat.le_of_ble_eq_true rfl) (Nat.zero_le _) (Nat.zero_le _) dX2_endOfRow_20 ?_
  refine lv_topi (fun x_2 ex_2 => ?_)
  have hf := tm_at ex_2 hf
  refine lv_istore_n (lv' := [(3, .int x_2), (2, .float t_1), (0, .ref (q0 0)), (1, .int p1)]) hx hb dX2_endOfRow_23 rfl hl (by decide) rfl (fun ls hl => ?_)
  refine lv_aload_n hx hb dX2_endOfRow_24 rfl (lv_at hl 2 rfl) ?_
  refine lv_iload_n hx hb dX2_endOfRow_25 rfl (lv_at hl 3 rfl) ?_
  refine lv_iload_n hx hb dX2_endOfRow_26 rfl (lv_at hl 3 rfl) ?_
  refine lv_iconst (v := 1) hx hb dX2_endOfRow_27 (by decide) ?_
  refine lv_iadd hx hb dX2_endOfRow_28 ?_
  refine lv_fload_n hx hb dX2_endOfRow_29 rfl (lv_at hl 1 rfl) ?_
  refine lv_iload_n hx hb dX2_endOfRow_30 rfl (lv_at hl 0 rfl) ?_
  obtain ⟨t_3, ot_3, hf⟩ := tm_bS hf
  refine tm_cVF (As := [.int p1, .int (p1 + 1), .float t_1, .int x_2]) (rest := []) ⟨hx, hb, hml, hown, hts⟩ (tX2_worstRatio l D cI cZ cR N q0 d0 p1 (p1 + 1) t_1 x_2 t_3 ot_3) (cwV 4 hts gX2_endOfRow_X2_worstRatio rfl rfl rfl hdwsV_X2_worstRatio ⟨Nat.le_of_ble_eq_true rfl, Nat.le_of_ble_eq_true rfl⟩) hK hP hD hS hA [0, 1, 2, 3, 4, 5, 6, 7, 8, 9, 10, 11, 12, 13] (by decide) rfl rfl (ci := 2) rfl rfl rfl (fun _ => WX2 cI cZ cR q0 d0) (()) rfl rfl hl.1 rfl (Nat.le_of_ble_eq_true rfl) dX2_endOfRow_31 ⟨Nat.zero_le _, Nat.zero_le _⟩ (fun _ _ H locs hP hD hS => ?_)
  refine lv_fstore (lv' := [(4, .float t_3), (3, .int x_2), (2, .float t_1), (0, .ref (q0 0)), (1, .int p1)]) hx hb dX2_endOfRow_34 hl (by decide) rfl (fun ls hl => ?_)
  refine lv_iload_n hx hb dX2_endOfRow_36 rfl (lv_at hl 4 rfl) ?_
  refine lv_iconst (v := 1) hx hb dX2_endOfRow_37 (by decide) ?_
  refine lv_iadd hx hb dX2_endOfRow_38 ?_
  refine lv_topi (fun x_4 ex_4 => ?_)
  have hf := tm_at ex_4 hf
  refine lv_istore (lv' := [(5, .int x_4), (4, .float t_3), (3, .int x_2), (2, .float t_1), (0, .ref (q0 0)), (1, .int p1)]) hx hb dX2_endOfRow_39 hl (by decide) rfl (fun ls hl => ?_)
  obtain ⟨t_9, ot_9, hf⟩ := tm_bS hf
  refine wX2_endOfRow_41 l D cI cZ cR N q0 C d0 p1 t_1 x_2 _ _ _ ot_9 ?_ _ _ _ hP hD hS (lv_sub hl [4, 5, 3, 2, 1, 0] rfl)
  rcases t_9 with t_9a | t_9b
  · have hf := tm_twL hf
    intro H locs ls hP hD hS hl
    refine lv_aload_n hx hb dX2_endOfRow_84 rfl (lv_at hl 0 rfl) ?_
    refine va_get (D := D) (ci := 2) (v := .int (d0 0 2)) (C := RX2) (T := TX2) (N := 8) hx hb hts uX2_endOfRow_X2 hown hK hP 0 rfl rfl 2 (by decide) (hts _ kX2_endOfRow_f41) (fun _ h9 => h9) rfl dX2_endOfRow_85 ?_
    obtain rfl := Option.some.inj hf
    exact hend _ _ _ _ hP hD hS rfl dX2_endOfRow_88
  · have hf := tm_twR hf
    intro H locs ls hP hD hS hl
    refine lv_iload hx hb dX2_endOfRow_71 (lv_at hl 0 rfl) ?_
    obtain rfl := Option.some.inj hf
    exact hend _ _ _ _ hP hD hS rfl dX2_endOfRow_73
set_option maxHeartbeats 4000000 in
set_option maxRecDepth 100000 in
theorem tX2_rowThickness (l : Launch) (D : va_G) (cI cZ cR : ClassId) (N : Nat) (q0 : Nat → Nat) (d0 : tm_M) (p1 : Int32) (p2 : Int32) (p3 : Int32) (r0 : Int32) (hf : fX2_rowThickness N d0 p1 p2 p3 = some r0) : tm_CI l D (tm_ty cI cZ cR) yX2_rowThickness wsX2_rowThickness rmX2_rowThickness [.ref (q0 0), .int p1, .int p2, .int p3] (WX2 cI cZ cR q0 d0) r0 (WX2 cI cZ cR q0 d0) := by
  refine tm_mkI (cc := cX2_rowThickness) (maxL := 5) (ty := .int) (by decide) rfl (Nat.le_of_ble_eq_true rfl) ?_
  intro p e s m below meth c A ls Q C hP hD hS hl hend
  have C : tm_Cx p s m c [.ref (q0 0), .int p1, .int p2, .int p3].toArray cX2_rowThickness 5 RX2 wsX2_rowThickness D (tm_ty cI cZ cR) A s.heap := C
  obtain ⟨hx, hb, hml, hown, hts, hK, hA⟩ := id C
  have hl : lv_has ls 5 [(0, .ref (q0 0)), (1, .int p1), (2, .int p2), (3, .int p3)] := hl
  unfold fX2_rowThickness at hf
  refine lv_aload_n hx hb dX2_rowThickness_0 rfl (lv_at hl 0 rfl) ?_
  refine lv_iload_n hx hb dX2_rowThickness_1 rfl (lv_at hl 1 rfl) ?_
  refine lv_aload_n hx hb dX2_rowThickness_2 rfl (lv_at hl 0 rfl) ?_
  refine va_get (D := D) (ci := 2) (v := .int (d0 0 2)) (C := RX2) (T := TX2) (N := 8) hx hb hts uX2_rowThickness_X2 hown hK hP 0 rfl rfl 2 (by decide) (hts _ kX2_rowThickness_f41) (fun _ h9 => h9) rfl dX2_rowThickness_3 ?_
  obtain ⟨t_1, ot_1, hf⟩ := tm_bS hf
  refine tm_cVI (As := [.int p1, .int (d0 0 2)]) (rest := []) ⟨hx, hb, hml, hown, hts⟩ (tX2_sumOfSizes l D cI cZ cR N q0 d0 p1 (d0 0 2) t_1 ot_1) (cwV 2 hts gX2_rowThickness_X2_sumOfSizes rfl rfl rfl hdwsV_X2_sumOfSizes ⟨Nat.le_of_ble_eq_true rfl, Nat.le_of_ble_eq_true rfl⟩) hK hP hD hS hA [0, 1, 2, 3, 4, 5, 6, 7, 8, 9, 10, 11, 12, 13] (by decide) rfl rfl (ci := 2) rfl rfl rfl (fun _ => WX2 cI cZ cR q0 d0) (()) rfl rfl hl.1 rfl (Nat.le_of_ble_eq_true rfl) dX2_rowThickness_6 ⟨Nat.zero_le _, Nat.zero_le _⟩ (fun _ _ H locs hP hD hS => ?_)
  refine lv_istore (lv' := [(4, .int t_1), (0, .ref (q0 0)), (1, .int p1), (2, .int p2), (3, .int p3)]) hx hb dX2_rowThickness_9 hl (by decide) rfl (fun ls hl => ?_)
  refine lv_iload_n hx hb dX2_rowThickness_11 rfl (lv_at hl 3 rfl) ?_
  refine lv_aload_n hx hb dX2_rowThickness_12 rfl (lv_at hl 1 rfl) ?_
  refine va_get (D := D) (ci := 2) (v := .int (d0 0 2)) (C := RX2) (T := TX2) (N := 8) hx hb hts uX2_rowThickness_X2 hown hK hP 0 rfl rfl 2 (by decide) (hts _ kX2_rowThickness_f41) (fun _ h9 => h9) rfl dX2_rowThickness_13 ?_
  refine lv_icmp_ge (tgt := 24) hx hb dX2_rowThickness_16 (by decide) (fun c_2 => ?_) (fun c_2 => ?_)
  · have hf := tm_iT c_2 hf
    refine lv_iload_n hx hb dX2_rowThickness_24 rfl (lv_at hl 4 rfl) ?_
    obtain rfl := Option.some.inj hf
    exact hend _ _ _ _ hP hD hS rfl dX2_rowThickness_25
  · have hf := tm_iF c_2 hf
    refine lv_iload hx hb dX2_rowThickness_19 (lv_at hl 0 rfl) ?_
    refine lv_if_gt (tgt := 26) hx hb dX2_rowThickness_21 (by decide) (fun c_3 => ?_) (fun c_3 => ?_)
    · have hf := tm_iT c_3 hf
      refine lv_iconst (v := 2) hx hb dX2_rowThickness_26 (by decide) ?_
      refine lv_aload_n hx hb dX2_rowThickness_27 rfl (lv_at hl 1 rfl) ?_
      refine lv_iload_n hx hb dX2_rowThickness_28 rfl (lv_at hl 2 rfl) ?_
      refine lv_iload_n hx hb dX2_rowThickness_29 rfl (lv_at hl 3 rfl) ?_
      obtain ⟨t_4, ot_4, hf⟩ := tm_bS hf
      refine tm_cVI (As := [.int p1, .int p2]) (rest := [.int 2]) ⟨hx, hb, hml, hown, hts⟩ (tX2_sumOfSizes l D cI cZ cR N q0 d0 p1 p2 t_4 ot_4) (cwV 2 hts gX2_rowThickness_X2_sumOfSizes rfl rfl rfl hdwsV_X2_sumOfSizes ⟨Nat.le_of_ble_eq_true rfl, Nat.le_of_ble_eq_true rfl⟩) hK hP hD hS hA [0, 1, 2, 3, 4, 5, 6, 7, 8, 9, 10, 11, 12, 13] (by decide) rfl rfl (ci := 2) rfl rfl rfl (fun _ => WX2 cI cZ cR q0 d0) (()) rfl rfl hl.1 rfl (Nat.le_of_ble_eq_true rfl) dX2_rowThickness_30 ⟨Nat.zero_le _, Nat.zero_le _⟩ (fun _ _ H locs hP hD hS => ?_)
      refine lv_imul hx hb dX2_rowThickness_33 ?_
      refine lv_iload_n hx hb dX2_rowThickness_34 rfl (lv_at hl 4 rfl) ?_
      refine lv_imul hx hb dX2_rowThickness_35 ?_
      refine lv_iload hx hb dX2_rowThickness_36 (lv_at hl 0 rfl) ?_
      refine lv_iadd hx hb dX2_rowThickness_38 ?_
      refine lv_iconst (v := 2) hx hb dX2_rowThickness_39 (by decide) ?_
      refine lv_iload hx hb dX2_rowThickness_40 (lv_at hl 0 rfl) ?_
      refine lv_imul hx hb dX2_rowThickness_42 ?_
      obtain ⟨h_5, hf⟩ := tm_gS hf
      refine lv_idiv hx hb dX2_rowThickness_43 (tm_nz_ne h_5) ?_
      obtain rfl := Option.some.inj hf
      exact hend _ _ _ _ hP hD hS rfl dX2_rowThickness_44
    · have hf := tm_iF c_3 hf
      refine lv_iload_n hx hb dX2_rowThickness_24 rfl (lv_at hl 4 rfl) ?_
      obtain rfl := Option.some.inj hf
      exact hend _ _ _ _ hP hD hS rfl dX2_rowThickness_25
set_option maxHeartbeats 4000000 in
set_option maxRecDepth 100000 in
theorem tX2_cutBand (l : Launch) (D : va_G) (cI cZ cR : ClassId) (N : Nat) (q0 : Nat → Nat) (d0 : tm_M) (p1 : Int32) (p2 : Int32) (p3 : Int32) (z0 : tm_M) (hf : fX2_cutBand N d0 p1 p2 p3 = some z0) : tm_CV l D (tm_ty cI cZ cR) yX2_cutBand wsX2_cutBand rmX2_cutBand [.ref (q0 0), .int p1, .int p2, .int p3] (WX2 cI cZ cR q0 d0) (WX2 cI cZ cR q0 z0) := by
  refine tm_mkV (cc := cX2_cutBand) (maxL := 5) (by decide) rfl (Nat.le_of_ble_eq_true rfl) ?_
  intro p e s m below meth c A ls Q C hP hD hS hl hend
  have C : tm_Cx p s m c [.ref (q0 0), .int p1, .int p2, .int p3].toArray cX2_cutBand 5 RX2 wsX2_cutBand D (tm_ty cI cZ cR) A s.heap := C
  obtain ⟨hx, hb, hml, hown, hts, hK, hA⟩ := id C
  have hl : lv_has ls 5 [(0, .ref (q0 0)), (1, .int p1), (2, .int p2), (3, .int p3)] := hl
  unfold fX2_cutBand at hf
  refine lv_iload_n hx hb dX2_cutBand_0 rfl (lv_at hl 3 rfl) ?_
  refine lv_if_eq (tgt := 80) hx hb dX2_cutBand_1 (by decide) (fun c_1 => ?_) (fun c_1 => ?_)
  · have hf := tm_iT c_1 hf
    refine lv_aload_n hx hb dX2_cutBand_80 rfl (lv_at hl 0 rfl) ?_
    refine lv_iload_n hx hb dX2_cutBand_81 rfl (lv_at hl 1 rfl) ?_
    refine lv_iload_n hx hb dX2_cutBand_82 rfl (lv_at hl 2 rfl) ?_
    refine lv_aload_n hx hb dX2_cutBand_83 rfl (lv_at hl 0 rfl) ?_
    refine va_get (D := D) (ci := 2) (v := .ref (q0 3)) (C := RX2) (T := TX2) (N := 8) hx hb hts uX2_cutBand_X2 hown hK hP 0 rfl rfl 3 (by decide) (hts _ kX2_cutBand_f21) (fun _ h9 => h9) rfl dX2_cutBand_84 ?_
    refine va_get (D := D) (ci := 0) (v := .int (d0 3 3)) (C := RX0) (T := TX0) (N := 4) hx hb hts uX2_cutBand_X0 hown hK hP 3 rfl rfl 3 (by decide) (hts _ kX2_cutBand_f62) (fun _ h9 => h9) rfl dX2_cutBand_87 ?_
    obtain ⟨t_2, ot_2, hf⟩ := tm_bS hf
    refine tm_cVI (As := [.int p1, .int p2, .int (d0 3 3)]) (rest := []) ⟨hx, hb, hml, hown, hts⟩ (tX2_rowThickness l D cI cZ cR N q0 d0 p1 p2 (d0 3 3) t_2 ot_2) (cwV 3 hts gX2_cutBand_X2_rowThickness rfl rfl rfl hdwsV_X2_rowThickness ⟨Nat.le_of_ble_eq_true rfl, Nat.le_of_ble_eq_true rfl⟩) hK hP hD hS hA [0, 1, 2, 3, 4, 5, 6, 7, 8, 9, 10, 11, 12, 13] (by decide) rfl rfl (ci := 2) rfl rfl rfl (fun _ => WX2 cI cZ cR q0 d0) (()) rfl rfl hl.1 rfl (Nat.le_of_ble_eq_true rfl) dX2_cutBand_90 ⟨Nat.zero_le _, Nat.zero_le _⟩ (fun _ _ H locs hP hD hS => ?_)
    refine lv_istore (lv' := [(4, .int t_2), (0, .ref (q0 0)), (1, .int p1), (2, .int p2), (3, .int p3)]) hx hb dX2_cutBand_93 hl (by decide) rfl (fun ls hl => ?_)
    refine lv_aload_n hx hb dX2_cutBand_95 rfl (lv_at hl 1 rfl) ?_
    refine va_get (D := D) (ci := 2) (v := .ref (q0 4)) (C := RX2) (T := TX2) (N := 8) hx hb hts uX2_cutBand_X2 hown hK hP 0 rfl rfl 4 (by decide) (hts _ kX2_cutBand_f25) (fun _ h9 => h9) rfl dX2_cutBand_96 ?_
    refine lv_aload_n hx hb dX2_cutBand_99 rfl (lv_at hl 1 rfl) ?_
    refine va_get (D := D) (ci := 2) (v := .ref (q0 3)) (C := RX2) (T := TX2) (N := 8) hx hb hts uX2_cutBand_X2 hown hK hP 0 rfl rfl 3 (by decide) (hts _ kX2_cutBand_f21) (fun _ h9 => h9) rfl dX2_cutBand_100 ?_
    refine va_get (D := D) (ci := 0) (v := .int (d0 3 0)) (C := RX0) (T := TX0) (N := 4) hx hb hts uX2_cutBand_X0 hown hK hP 3 rfl rfl 0 (by decide) (hts _ kX2_cutBand_f53) (fun _ h9 => h9) rfl dX2_cutBand_103 ?_
    refine lv_aload_n hx hb dX2_cutBand_106 rfl (lv_at hl 1 rfl) ?_
    refine va_get (D := D) (ci := 2) (v := .ref (q0 3)) (C := RX2) (T := TX2) (N := 8) hx hb hts uX2_cutBand_X2 hown hK hP 0 rfl rfl 3 (by decide) (hts _ kX2_cutBand_f21) (fun _ h9 => h9) rfl dX2_cutBand_107 ?_
    refine va_get (D := D) (ci := 0) (v := .int (d0 3 1)) (C := RX0) (T := TX0) (N := 4) hx hb hts uX2_cutBand_X0 hown hK hP 3 rfl rfl 1 (by decide) (hts _ kX2_cutBand_f56) (fun _ h9 => h9) rfl dX2_cutBand_110 ?_
    refine lv_aload_n hx hb dX2_cutBand_113 rfl (lv_at hl 1 rfl) ?_
    refine va_get (D := D) (ci := 2) (v := .ref (q0 3)) (C := RX2) (T := TX2) (N := 8) hx hb hts uX2_cutBand_X2 hown hK hP 0 rfl rfl 3 (by decide) (hts _ kX2_cutBand_f21) (fun _ h9 => h9) rfl dX2_cutBand_114 ?_
    refine va_get (D := D) (ci := 0) (v := .int (d0 3 2)) (C := RX0) (T := TX0) (N := 4) hx hb hts uX2_cutBand_X0 hown hK hP 3 rfl rfl 2 (by decide) (hts _ kX2_cutBand_f59) (fun _ h9 => h9) rfl dX2_cutBand_117 ?_
    refine lv_iload hx hb dX2_cutBand_120 (lv_at hl 0 rfl) ?_
    obtain ⟨t_3, ot_3, hf⟩ := tm_bS hf
    refine tm_cVV (As := [.int (d0 3 0), .int (d0 3 1), .int (d0 3 2), .int t_2]) (rest := []) ⟨hx, hb, hml, hown, hts⟩ (tX0_set l D cI cZ cR N (tm_sq q0 4) (tm_sh d0 4) (d0 3 0) (d0 3 1) (d0 3 2) t_2 t_3 ot_3) (cwV 4 hts gX2_cutBand_X0_set rfl rfl rfl hdwsV_X0_set ⟨Nat.le_of_ble_eq_true rfl, Nat.le_of_ble_eq_true rfl⟩) hK hP hD hS hA [4] (by decide) rfl rfl (ci := 0) rfl rfl rfl (fun z => WX2 cI cZ cR q0 z) (tm_ins d0 4 1 t_3) rfl rfl hl.1 rfl (Nat.le_of_ble_eq_true rfl) dX2_cutBand_122 ⟨Nat.zero_le _, Nat.zero_le _⟩ (fun d0_4 ed0_4 H locs hP hD hS => ?_)
    have hf := tm_at ed0_4 hf
    refine lv_aload_n hx hb dX2_cutBand_125 rfl (lv_at hl 1 rfl) ?_
    refine va_get (D := D) (ci := 2) (v := .ref (q0 3)) (C := RX2) (T := TX2) (N := 8) hx hb hts uX2_cutBand_X2 hown hK hP 0 rfl rfl 3 (by decide) (hts _ kX2_cutBand_f21) (fun _ h9 => h9) rfl dX2_cutBand_126 ?_
    refine lv_dup hx hb dX2_cutBand_129 rfl ?_
    refine va_get (D := D) (ci := 0) (v := .int (d0_4 3 1)) (C := RX0) (T := TX0) (N := 4) hx hb hts uX2_cutBand_X0 hown hK hP 3 rfl rfl 1 (by decide) (hts _ kX2_cutBand_f56) (fun _ h9 => h9) rfl dX2_cutBand_130 ?_
    refine lv_iload hx hb dX2_cutBand_133 (lv_at hl 0 rfl) ?_
    refine lv_iadd hx hb dX2_cutBand_135 ?_
    refine tm_put (D := D) (ci := 0) (v := .int ((d0_4 3 1) + t_2)) (ty := .int) (C := RX0) (T := TX0) (N := 4) hx hb hts uX2_cutBand_X0 tyX0 tyX0_ok nmX0 hown hK hP hD hS 3 rfl rfl 1 (by decide) (hts _ kX2_cutBand_f56) (fun _ h9 => h9) rfl (by decide +kernel) rfl rfl (Nat.le_of_ble_eq_true rfl) dX2_cutBand_136 (fun z => WX2 cI cZ cR q0 z) (tm_upk d0_4 3 1 ((d0_4 3 1) + t_2)) rfl (fun d0_5 ed0_5 H locs hP hD hS => ?_)
    have hf := tm_at ed0_5 hf
    refine lv_aload_n hx hb dX2_cutBand_139 rfl (lv_at hl 1 rfl) ?_
    refine va_get (D := D) (ci := 2) (v := .ref (q0 3)) (C := RX2) (T := TX2) (N := 8) hx hb hts uX2_cutBand_X2 hown hK hP 0 rfl rfl 3 (by decide) (hts _ kX2_cutBand_f21) (fun _ h9 => h9) rfl dX2_cutBand_140 ?_
    refine lv_dup hx hb dX2_cutBand_143 rfl ?_
    refine va_get (D := D) (ci := 0) (v := .int (d0_5 3 3)) (C := RX0) (T := TX0) (N := 4) hx hb hts uX2_cutBand_X0 hown hK hP 3 rfl rfl 3 (by decide) (hts _ kX2_cutBand_f62) (fun _ h9 => h9) rfl dX2_cutBand_144 ?_
    refine lv_iload hx hb dX2_cutBand_147 (lv_at hl 0 rfl) ?_
    refine lv_isub hx hb dX2_cutBand_149 ?_
    refine tm_put (D := D) (ci := 0) (v := .int ((d0_5 3 3) - t_2)) (ty := .int) (C := RX0) (T := TX0) (N := 4) hx hb hts uX2_cutBand_X0 tyX0 tyX0_ok nmX0 hown hK hP hD hS 3 rfl rfl 3 (by decide) (hts _ kX2_cutBand_f62) (fun _ h9 => h9) rfl (by decide +kernel) rfl rfl (Nat.le_of_ble_eq_true rfl) dX2_cutBand_150 (fun z => WX2 cI cZ cR q0 z) (tm_upk d0_5 3 3 ((d0_5 3 3) - t_2)) rfl (fun d0_6 ed0_6 H locs hP hD hS => ?_)
    have hf := tm_at ed0_6 hf
    obtain rfl := Option.some.inj hf
    exact hend _ _ _ _ hP hD hS dX2_cutBand_153
  · have hf := tm_iF c_1 hf
    refine lv_aload_n hx hb dX2_cutBand_4 rfl (lv_at hl 0 rfl) ?_
    refine lv_iload_n hx hb dX2_cutBand_5 rfl (lv_at hl 1 rfl) ?_
    refine lv_iload_n hx hb dX2_cutBand_6 rfl (lv_at hl 2 rfl) ?_
    refine lv_aload_n hx hb dX2_cutBand_7 rfl (lv_at hl 0 rfl) ?_
    refine va_get (D := D) (ci := 2) (v := .ref (q0 3)) (C := RX2) (T := TX2) (N := 8) hx hb hts uX2_cutBand_X2 hown hK hP 0 rfl rfl 3 (by decide) (hts _ kX2_cutBand_f21) (fun _ h9 => h9) rfl dX2_cutBand_8 ?_
    refine va_get (D := D) (ci := 0) (v := .int (d0 3 2)) (C := RX0) (T := TX0) (N := 4) hx hb hts uX2_cutBand_X0 hown hK hP 3 rfl rfl 2 (by decide) (hts _ kX2_cutBand_f59) (fun _ h9 => h9) rfl dX2_cutBand_11 ?_
    obtain ⟨t_7, ot_7, hf⟩ := tm_bS hf
    refine tm_cVI (As := [.int p1, .int p2, .int (d0 3 2)]) (rest := []) ⟨hx, hb, hml, hown, hts⟩ (tX2_rowThickness l D cI cZ cR N q0 d0 p1 p2 (d0 3 2) t_7 ot_7) (cwV 3 hts gX2_cutBand_X2_rowThickness rfl rfl rfl hdwsV_X2_rowThickness ⟨Nat.le_of_ble_eq_true rfl, Nat.le_of_ble_eq_true rfl⟩) hK hP hD hS hA [0, 1, 2, 3, 4, 5, 6, 7, 8, 9, 10, 11, 12, 13] (by decide) rfl rfl (ci := 2) rfl rfl rfl (fun _ => WX2 cI cZ cR q0 d0) (()) rfl rfl hl.1 rfl (Nat.le_of_ble_eq_true rfl) dX2_cutBand_14 ⟨Nat.zero_le _, Nat.zero_le _⟩ (fun _ _ H locs hP hD hS => ?_)
    refine lv_istore (lv' := [(4, .int t_7), (0, .ref (q0 0)), (1, .int p1), (2, .int p2), (3, .int p3)]) hx hb dX2_cutBand_17 hl (by decide) rfl (fun ls hl => ?_)
    refine lv_aload_n hx hb dX2_cutBand_19 rfl (lv_at hl 1 rfl) ?_
    refine va_get (D := D) (ci := 2) (v := .ref (q0 4)) (C := RX2) (T := TX2) (N := 8) hx hb hts uX2_cutBand_X2 hown hK hP 0 rfl rfl 4 (by decide) (hts _ kX2_cutBand_f25) (fun _ h9 => h9) rfl dX2_cutBand_20 ?_
    refine lv_aload_n hx hb dX2_cutBand_23 rfl (lv_at hl 1 rfl) ?_
    refine va_get (D := D) (ci := 2) (v := .ref (q0 3)) (C := RX2) (T := TX2) (N := 8) hx hb hts uX2_cutBand_X2 hown hK hP 0 rfl rfl 3 (by decide) (hts _ kX2_cutBand_f21) (fun _ h9 => h9) rfl dX2_cutBand_24 ?_
    refine va_get (D := D) (ci := 0) (v := .int (d0 3 0)) (C := RX0) (T := TX0) (N := 4) hx hb hts uX2_cutBand_X0 hown hK hP 3 rfl rfl 0 (by decide) (hts _ kX2_cutBand_f53) (fun _ h9 => h9) rfl dX2_cutBand_27 ?_
    refine lv_aload_n hx hb dX2_cutBand_30 rfl (lv_at hl 1 rfl) ?_
    refine va_get (D := D) (ci := 2) (v := .ref (q0 3)) (C := RX2) (T := TX2) (N := 8) hx hb hts uX2_cutBand_X2 hown hK hP 0 rfl rfl 3 (by decide) (hts _ kX2_cutBand_f21) (fun _ h9 => h9) rfl dX2_cutBand_31 ?_
    refine va_get (D := D) (ci := 0) (v := .int (d0 3 1)) (C := RX0) (T := TX0) (N := 4) hx hb hts uX2_cutBand_X0 hown hK hP 3 rfl rfl 1 (by decide) (hts _ kX2_cutBand_f56) (fun _ h9 => h9) rfl dX2_cutBand_34 ?_
    refine lv_iload hx hb dX2_cutBand_37 (lv_at hl 0 rfl) ?_
    refine lv_aload_n hx hb dX2_cutBand_39 rfl (lv_at hl 1 rfl) ?_
    refine va_get (D := D) (ci := 2) (v := .ref (q0 3)) (C := RX2) (T := TX2) (N := 8) hx hb hts uX2_cutBand_X2 hown hK hP 0 rfl rfl 3 (by decide) (hts _ kX2_cutBand_f21) (fun _ h9 => h9) rfl dX2_cutBand_40 ?_
    refine va_get (D := D) (ci := 0) (v := .int (d0 3 3)) (C := RX0) (T := TX0) (N := 4) hx hb hts uX2_cutBand_X0 hown hK hP 3 rfl rfl 3 (by decide) (hts _ kX2_cutBand_f62) (fun _ h9 => h9) rfl dX2_cutBand_43 ?_
    obtain ⟨t_8, ot_8, hf⟩ := tm_bS hf
    refine tm_cVV (As := [.int (d0 3 0), .int (d0 3 1), .int t_7, .int (d0 3 3)]) (rest := []) ⟨hx, hb, hml, hown, hts⟩ (tX0_set l D cI cZ cR N (tm_sq q0 4) (tm_sh d0 4) (d0 3 0) (d0 3 1) t_7 (d0 3 3) t_8 ot_8) (cwV 4 hts gX2_cutBand_X0_set rfl rfl rfl hdwsV_X0_set ⟨Nat.le_of_ble_eq_true rfl, Nat.le_of_ble_eq_true rfl⟩) hK hP hD hS hA [4] (by decide) rfl rfl (ci := 0) rfl rfl rfl (fun z => WX2 cI cZ cR q0 z) (tm_ins d0 4 1 t_8) rfl rfl hl.1 rfl (Nat.le_of_ble_eq_true rfl) dX2_cutBand_46 ⟨Nat.zero_le _, Nat.zero_le _⟩ (fun d0_9 ed0_9 H locs hP hD hS => ?_)
    have hf := tm_at ed0_9 hf
    refine lv_aload_n hx hb dX2_cutBand_49 rfl (lv_at hl 1 rfl) ?_
    refine va_get (D := D) (ci := 2) (v := .ref (q0 3)) (C := RX2) (T := TX2) (N := 8) hx hb hts uX2_cutBand_X2 hown hK hP 0 rfl rfl 3 (by decide) (hts _ kX2_cutBand_f21) (fun _ h9 => h9) rfl dX2_cutBand_50 ?_
    refine lv_dup hx hb dX2_cutBand_53 rfl ?_
    refine va_get (D := D) (ci := 0) (v := .int (d0_9 3 0)) (C := RX0) (T := TX0) (N := 4) hx hb hts uX2_cutBand_X0 hown hK hP 3 rfl rfl 0 (by decide) (hts _ kX2_cutBand_f53) (fun _ h9 => h9) rfl dX2_cutBand_54 ?_
    refine lv_iload hx hb dX2_cutBand_57 (lv_at hl 0 rfl) ?_
    refine lv_iadd hx hb dX2_cutBand_59 ?_
    refine tm_put (D := D) (ci := 0) (v := .int ((d0_9 3 0) + t_7)) (ty := .int) (C := RX0) (T := TX0) (N := 4) hx hb hts uX2_cutBand_X0 tyX0 tyX0_ok nmX0 hown hK hP hD hS 3 rfl rfl 0 (by decide) (hts _ kX2_cutBand_f53) (fun _ h9 => h9) rfl (by decide +kernel) rfl rfl (Nat.le_of_ble_eq_true rfl) dX2_cutBand_60 (fun z => WX2 cI cZ cR q0 z) (tm_upk d0_9 3 0 ((d0_9 3 0) + t_7)) rfl (fun d0_10 ed0_10 H locs hP hD hS => ?_)
    have hf := tm_at ed0_10 hf
    refine lv_aload_n hx hb dX2_cutBand_63 rfl (lv_at hl 1 rfl) ?_
    refine va_get (D := D) (ci := 2) (v := .ref (q0 3)) (C := RX2) (T := TX2) (N := 8) hx hb hts uX2_cutBand_X2 hown hK hP 0 rfl rfl 3 (by decide) (hts _ kX2_cutBand_f21) (fun _ h9 => h9) rfl dX2_cutBand_64 ?_
    refine lv_dup hx hb dX2_cutBand_67 rfl ?_
    refine va_get (D := D) (ci := 0) (v := .int (d0_10 3 2)) (C := RX0) (T := TX0) (N := 4) hx hb hts uX2_cutBand_X0 hown hK hP 3 rfl rfl 2 (by decide) (hts _ kX2_cutBand_f59) (fun _ h9 => h9) rfl dX2_cutBand_68 ?_
    refine lv_iload hx hb dX2_cutBand_71 (lv_at hl 0 rfl) ?_
    refine lv_isub hx hb dX2_cutBand_73 ?_
    refine tm_put (D := D) (ci := 0) (v := .int ((d0_10 3 2) - t_7)) (ty := .int) (C := RX0) (T := TX0) (N := 4) hx hb hts uX2_cutBand_X0 tyX0 tyX0_ok nmX0 hown hK hP hD hS 3 rfl rfl 2 (by decide) (hts _ kX2_cutBand_f59) (fun _ h9 => h9) rfl (by decide +kernel) rfl rfl (Nat.le_of_ble_eq_true rfl) dX2_cutBand_74 (fun z => WX2 cI cZ cR q0 z) (tm_upk d0_10 3 2 ((d0_10 3 2) - t_7)) rfl (fun d0_11 ed0_11 H locs hP hD hS => ?_)
    have hf := tm_at ed0_11 hf
    refine lv_goto (tgt := 153) hx hb dX2_cutBand_77 (by decide) ?_
    obtain rfl := Option.some.inj hf
    exact hend _ _ _ _ hP hD hS dX2_cutBand_153
set_option maxHeartbeats 4000000 in
set_option maxRecDepth 100000 in
theorem wX2_collapse_2 (l : Launch) (D : va_G) (cI cZ cR : ClassId) (N : Nat) (q0 : Nat → Nat) (q1 : Nat → Nat) {p : Program} {e : Env} {s : State} {m : MethodId} {args : Array Value} {below : List Frame} {meth : Method} {c : Code} {A : Nat → Prop} {H0 : Heap} {Q : State → Prop} (C : tm_Cx p s m c args cX2_collapse 4 RX2 wsX2_collapse D (tm_ty cI cZ cR) A H0) (d0 : tm_M) : ∀ (n : Nat) (st : Int32 × tm_M) (o : (Int32 × tm_M)), tm_whl (bX2_collapse_2 N d0) n st = some o → (fun (o : Int32 × tm_M) => ∀ (H : Heap) (locs : List Loc) (ls : Array Slot), va_P D vwCl (WX2X3 cI cZ cR q0 q1 d0 o.2) H → va_D A (WX2X3 cI cZ cR q0 q1 d0 o.2) → va_S A H0 H locs → lv_has ls 4 [] → W p l e rmX2_collapse s m args below meth c H locs 0 0 Q (F0 m 42 ls [])) o → (fun (st : Int32 × tm_M) => ∀ (H : Heap) (locs : List Loc) (ls : Array Slot), va_P D vwCl (WX2X3 cI cZ cR q0 q1 d0 st.2) H → va_D A (WX2X3 cI cZ cR q0 q1 d0 st.2) → va_S A H0 H locs → lv_has ls 4 [(0, .ref (q0 0)), (2, .ref (q1 0)), (3, .int st.1)] → W p l e rmX2_collapse s m args below meth c H locs 0 0 Q (F0 m 2 ls [])) st := by
  obtain ⟨hx, hb, hml, hown, hts, hK, hA⟩ := id C
  refine tm_whl_W (Wh := fun (st : Int32 × tm_M) => ∀ (H : Heap) (locs : List Loc) (ls : Array Slot), va_P D vwCl (WX2X3 cI cZ cR q0 q1 d0 st.2) H → va_D A (WX2X3 cI cZ cR q0 q1 d0 st.2) → va_S A H0 H locs → lv_has ls 4 [(0, .ref (q0 0)), (2, .ref (q1 0)), (3, .int st.1)] → W p l e rmX2_collapse s m args below meth c H locs 0 0 Q (F0 m 2 ls [])) (Wx := fun (o : Int32 × tm_M) => ∀ (H : Heap) (locs : List Loc) (ls : Array Slot), va_P D vwCl (WX2X3 cI cZ cR q0 q1 d0 o.2) H → va_D A (WX2X3 cI cZ cR q0 q1 d0 o.2) → va_S A H0 H locs → lv_has ls 4 [] → W p l e rmX2_collapse s m args below meth c H locs 0 0 Q (F0 m 42 ls [])) ?_
  intro st r hf hk H locs ls hP hD hS hl
  unfold bX2_collapse_2 at hf
  refine lv_iload_n hx hb dX2_collapse_2 rfl (lv_at hl 2 rfl) ?_
  refine lv_aload_n hx hb dX2_collapse_3 rfl (lv_at hl 0 rfl) ?_
  refine va_get (D := D) (ci := 2) (v := .int (d0 0 2)) (C := RX2) (T := TX2) (N := 8) hx hb hts uX2_collapse_X2 hown hK hP 0 rfl rfl 2 (by decide) (hts _ kX2_collapse_f41) (fun _ h9 => h9) rfl dX2_collapse_4 ?_
  refine lv_icmp_ge (tgt := 42) hx hb dX2_collapse_7 (by decide) (fun c_1 => ?_) (fun c_1 => ?_)
  · have hf := tm_iT c_1 hf
    obtain rfl := Option.some.inj hf
    exact hk _ _ _ hP hD hS (lv_sub hl [] rfl)
  · have hf := tm_iF c_1 hf
    refine lv_aload_n hx hb dX2_collapse_10 rfl (lv_at hl 1 rfl) ?_
    refine lv_aload_n hx hb dX2_collapse_11 rfl (lv_at hl 0 rfl) ?_
    refine va_get (D := D) (ci := 2) (v := .ref (q0 1)) (C := RX2) (T := TX2) (N := 8) hx hb hts uX2_collapse_X2 hown hK hP 0 rfl rfl 0 (by decide) (hts _ kX2_collapse_f9) (fun _ h9 => h9) rfl dX2_collapse_12 ?_
    refine lv_iload_n hx hb dX2_collapse_15 rfl (lv_at hl 2 rfl) ?_
    obtain ⟨h_2, hf⟩ := tm_gS hf
    refine va_iald hx hb hK hP 1 0 rfl rfl (tm_inb_in h_2) dX2_collapse_16 ?_
    refine lv_aload_n hx hb dX2_collapse_17 rfl (lv_at hl 0 rfl) ?_
    refine va_get (D := D) (ci := 2) (v := .ref (q0 3)) (C := RX2) (T := TX2) (N := 8) hx hb hts uX2_collapse_X2 hown hK hP 0 rfl rfl 3 (by decide) (hts _ kX2_collapse_f21) (fun _ h9 => h9) rfl dX2_collapse_18 ?_
    refine va_get (D := D) (ci := 0) (v := .int (d0 3 0)) (C := RX0) (T := TX0) (N := 4) hx hb hts uX2_collapse_X0 hown hK hP 3 rfl rfl 0 (by decide) (hts _ kX2_collapse_f53) (fun _ h9 => h9) rfl dX2_collapse_21 ?_
    refine lv_aload_n hx hb dX2_collapse_24 rfl (lv_at hl 0 rfl) ?_
    refine va_get (D := D) (ci := 2) (v := .ref (q0 3)) (C := RX2) (T := TX2) (N := 8) hx hb hts uX2_collapse_X2 hown hK hP 0 rfl rfl 3 (by decide) (hts _ kX2_collapse_f21) (fun _ h9 => h9) rfl dX2_collapse_25 ?_
    refine va_get (D := D) (ci := 0) (v := .int (d0 3 1)) (C := RX0) (T := TX0) (N := 4) hx hb hts uX2_collapse_X0 hown hK hP 3 rfl rfl 1 (by decide) (hts _ kX2_collapse_f56) (fun _ h9 => h9) rfl dX2_collapse_28 ?_
    refine lv_iconst (v := 0) hx hb dX2_collapse_31 (by decide) ?_
    refine lv_iconst (v := 0) hx hb dX2_collapse_32 (by decide) ?_
    obtain ⟨t_3, ot_3, hf⟩ := tm_bS hf
    refine tm_cVV (As := [.int (d0 1 st.1.toNatClampNeg), .int (d0 3 0), .int (d0 3 1), .int 0, .int 0]) (rest := []) ⟨hx, hb, hml, hown, hts⟩ (tX3_put l D cI cZ cR N q1 st.2 (d0 1 st.1.toNatClampNeg) (d0 3 0) (d0 3 1) (0 : Int32) (0 : Int32) t_3 ot_3) (cwV 5 hts gX2_collapse_X3_put rfl rfl rfl hdwsV_X3_put ⟨Nat.le_of_ble_eq_true rfl, Nat.le_of_ble_eq_true rfl⟩) hK hP hD hS hA [14, 15, 16, 17, 18] (by decide) rfl rfl (ci := 3) rfl rfl rfl (fun _ => WX2X3 cI cZ cR q0 q1 d0 t_3) (()) rfl rfl hl.1 rfl (Nat.le_of_ble_eq_true rfl) dX2_collapse_33 ⟨Nat.zero_le _, Nat.zero_le _⟩ (fun _ _ H locs hP hD hS => ?_)
    obtain ⟨x_4, ex_4⟩ : ∃ y : Int32, y = st.1 + 1 := ⟨_, rfl⟩
    have hf := tm_at ex_4 hf
    refine lv_iinc (v := x_4) (lv' := [(3, .int x_4), (0, .ref (q0 0)), (2, .ref (q1 0))]) hx hb dX2_collapse_36 hl (k := 2) rfl (by rw [ex_4]; rfl) (by decide) rfl (fun ls hl => ?_)
    refine lv_goto (tgt := 2) hx hb dX2_collapse_39 (by decide) ?_
    obtain rfl := Option.some.inj hf
    exact hk _ _ _ hP hD hS (lv_sub hl [1, 2, 0] rfl)
set_option maxHeartbeats 4000000 in
set_option maxRecDepth 100000 in
theorem tX2_collapse (l : Launch) (D : va_G) (cI cZ cR : ClassId) (N : Nat) (q0 : Nat → Nat) (q1 : Nat → Nat) (d0 : tm_M) (d1 : tm_M) (p1 : Int32) (z1 : tm_M) (hf : fX2_collapse N d0 d1 p1 = some z1) : tm_CV l D (tm_ty cI cZ cR) yX2_collapse wsX2_collapse rmX2_collapse [.ref (q0 0), .int p1, .ref (q1 0)] (WX2X3 cI cZ cR q0 q1 d0 d1) (WX2X3 cI cZ cR q0 q1 d0 z1) := by
  refine tm_mkV (cc := cX2_collapse) (maxL := 4) (by decide) rfl (Nat.le_of_ble_eq_true rfl) ?_
  intro p e s m below meth c A ls Q C hP hD hS hl hend
  have C : tm_Cx p s m c [.ref (q0 0), .int p1, .ref (q1 0)].toArray cX2_collapse 4 RX2 wsX2_collapse D (tm_ty cI cZ cR) A s.heap := C
  obtain ⟨hx, hb, hml, hown, hts, hK, hA⟩ := id C
  have hl : lv_has ls 4 [(0, .ref (q0 0)), (1, .int p1), (2, .ref (q1 0))] := hl
  unfold fX2_collapse at hf
  refine lv_iload_n hx hb dX2_collapse_0 rfl (lv_at hl 1 rfl) ?_
  refine lv_istore_n (lv' := [(3, .int p1), (0, .ref (q0 0)), (1, .int p1), (2, .ref (q1 0))]) hx hb dX2_collapse_1 rfl hl (by decide) rfl (fun ls hl => ?_)
  obtain ⟨t_5, ot_5, hf⟩ := tm_bS hf
  refine wX2_collapse_2 l D cI cZ cR N q0 q1 C d0 _ _ _ ot_5 ?_ _ _ _ hP hD hS (lv_sub hl [1, 3, 0] rfl)
  intro H locs ls hP hD hS hl
  obtain rfl := Option.some.inj hf
  exact hend _ _ _ _ hP hD hS dX2_collapse_42
set_option maxHeartbeats 4000000 in
set_option maxRecDepth 100000 in
theorem wX2_squarify_8 (l : Launch) (D : va_G) (cI cZ cR : ClassId) (N : Nat) (q0 : Nat → Nat) (q1 : Nat → Nat) {p : Program} {e : Env} {s : State} {m : MethodId} {args : Array Value} {below : List Frame} {meth : Method} {c : Code} {A : Nat → Prop} {H0 : Heap} {Q : State → Prop} (C : tm_Cx p s m c args cX2_squarify 6 RX2 wsX2_squarify D (tm_ty cI cZ cR) A H0) : ∀ (n : Nat) (st : Int32 × Int32 × tm_M × tm_M) (o : ((Int32 × Int32 × tm_M × tm_M) ⊕ (Int32 × Int32 × tm_M × tm_M))), tm_whl (bX2_squarify_8 N) n st = some o → (tm_elm (fun (o : Int32 × Int32 × tm_M × tm_M) => ∀ (H : Heap) (locs : List Loc) (ls : Array Slot), va_P D vwCl (WX2X3 cI cZ cR q0 q1 o.2.2.1 o.2.2.2) H → va_D A (WX2X3 cI cZ cR q0 q1 o.2.2.1 o.2.2.2) → va_S A H0 H locs → lv_has ls 6 [] → W p l e rmX2_squarify s m args below meth c H locs 0 0 Q (F0 m 108 ls [])) (fun (o : Int32 × Int32 × tm_M × tm_M) => ∀ (H : Heap) (locs : List Loc) (ls : Array Slot), va_P D vwCl (WX2X3 cI cZ cR q0 q1 o.2.2.1 o.2.2.2) H → va_D A (WX2X3 cI cZ cR q0 q1 o.2.2.1 o.2.2.2) → va_S A H0 H locs → lv_has ls 6 [(0, .ref (q0 0)), (1, .ref (q1 0)), (2, .int o.1)] → W p l e rmX2_squarify s m args below meth c H locs 0 0 Q (F0 m 34 ls []))) o → (fun (st : Int32 × Int32 × tm_M × tm_M) => ∀ (H : Heap) (locs : List Loc) (ls : Array Slot), va_P D vwCl (WX2X3 cI cZ cR q0 q1 st.2.2.1 st.2.2.2) H → va_D A (WX2X3 cI cZ cR q0 q1 st.2.2.1 st.2.2.2) → va_S A H0 H locs → lv_has ls 6 [(0, .ref (q0 0)), (1, .ref (q1 0)), (2, .int st.1), (3, .int st.2.1)] → W p l e rmX2_squarify s m args below meth c H locs 0 0 Q (F0 m 8 ls [])) st := by
  obtain ⟨hx, hb, hml, hown, hts, hK, hA⟩ := id C
  refine tm_whl_W (Wh := fun (st : Int32 × Int32 × tm_M × tm_M) => ∀ (H : Heap) (locs : List Loc) (ls : Array Slot), va_P D vwCl (WX2X3 cI cZ cR q0 q1 st.2.2.1 st.2.2.2) H → va_D A (WX2X3 cI cZ cR q0 q1 st.2.2.1 st.2.2.2) → va_S A H0 H locs → lv_has ls 6 [(0, .ref (q0 0)), (1, .ref (q1 0)), (2, .int st.1), (3, .int st.2.1)] → W p l e rmX2_squarify s m args below meth c H locs 0 0 Q (F0 m 8 ls [])) (Wx := tm_elm (fun (o : Int32 × Int32 × tm_M × tm_M) => ∀ (H : Heap) (locs : List Loc) (ls : Array Slot), va_P D vwCl (WX2X3 cI cZ cR q0 q1 o.2.2.1 o.2.2.2) H → va_D A (WX2X3 cI cZ cR q0 q1 o.2.2.1 o.2.2.2) → va_S A H0 H locs → lv_has ls 6 [] → W p l e rmX2_squarify s m args below meth c H locs 0 0 Q (F0 m 108 ls [])) (fun (o : Int32 × Int32 × tm_M × tm_M) => ∀ (H : Heap) (locs : List Loc) (ls : Array Slot), va_P D vwCl (WX2X3 cI cZ cR q0 q1 o.2.2.1 o.2.2.2) H → va_D A (WX2X3 cI cZ cR q0 q1 o.2.2.1 o.2.2.2) → va_S A H0 H locs → lv_has ls 6 [(0, .ref (q0 0)), (1, .ref (q1 0)), (2, .int o.1)] → W p l e rmX2_squarify s m args below meth c H locs 0 0 Q (F0 m 34 ls []))) ?_
  intro st r hf hk H locs ls hP hD hS hl
  unfold bX2_squarify_8 at hf
  refine lv_iload_n hx hb dX2_squarify_8 rfl (lv_at hl 3 rfl) ?_
  refine lv_aload_n hx hb dX2_squarify_9 rfl (lv_at hl 0 rfl) ?_
  refine va_get (D := D) (ci := 2) (v := .int (st.2.2.1 0 2)) (C := RX2) (T := TX2) (N := 8) hx hb hts uX2_squarify_X2 hown hK hP 0 rfl rfl 2 (by decide) (hts _ kX2_squarify_f41) (fun _ h9 => h9) rfl dX2_squarify_10 ?_
  refine lv_icmp_ge (tgt := 108) hx hb dX2_squarify_13 (by decide) (fun c_2 => ?_) (fun c_2 => ?_)
  · have hf := tm_iT c_2 hf
    obtain rfl := Option.some.inj hf
    exact hk _ _ _ hP hD hS (lv_sub hl [] rfl)
  · have hf := tm_iF c_2 hf
    refine lv_iload_n hx hb dX2_squarify_16 rfl (lv_at hl 2 rfl) ?_
    refine lv_aload_n hx hb dX2_squarify_17 rfl (lv_at hl 0 rfl) ?_
    refine va_get (D := D) (ci := 2) (v := .int (st.2.2.1 0 2)) (C := RX2) (T := TX2) (N := 8) hx hb hts uX2_squarify_X2 hown hK hP 0 rfl rfl 2 (by decide) (hts _ kX2_squarify_f41) (fun _ h9 => h9) rfl dX2_squarify_18 ?_
    refine lv_icmp_ge (tgt := 108) hx hb dX2_squarify_21 (by decide) (fun c_3 => ?_) (fun c_3 => ?_)
    · have hf := tm_iT c_3 hf
      obtain rfl := Option.some.inj hf
      exact hk _ _ _ hP hD hS (lv_sub hl [] rfl)
    · have hf := tm_iF c_3 hf
      refine lv_aload_n hx hb dX2_squarify_24 rfl (lv_at hl 0 rfl) ?_
      refine va_get (D := D) (ci := 2) (v := .ref (q0 3)) (C := RX2) (T := TX2) (N := 8) hx hb hts uX2_squarify_X2 hown hK hP 0 rfl rfl 3 (by decide) (hts _ kX2_squarify_f21) (fun _ h9 => h9) rfl dX2_squarify_25 ?_
      obtain ⟨t_4, ot_4, hf⟩ := tm_bS hf
      refine tm_cVI (As := []) (rest := []) ⟨hx, hb, hml, hown, hts⟩ (tX0_isEmpty l D cI cZ cR N (tm_sq q0 3) (tm_sh st.2.2.1 3) t_4 ot_4) (cwV 0 hts gX2_squarify_X0_isEmpty rfl rfl rfl hdwsV_X0_isEmpty ⟨Nat.le_of_ble_eq_true rfl, Nat.le_of_ble_eq_true rfl⟩) hK hP hD hS hA [3] (by decide) rfl rfl (ci := 0) rfl rfl rfl (fun _ => WX2X3 cI cZ cR q0 q1 st.2.2.1 st.2.2.2) (()) rfl rfl hl.1 rfl (Nat.le_of_ble_eq_true rfl) dX2_squarify_28 ⟨Nat.zero_le _, Nat.zero_le _⟩ (fun _ _ H locs hP hD hS => ?_)
      refine lv_if_eq (tgt := 41) hx hb dX2_squarify_31 (by decide) (fun c_5 => ?_) (fun c_5 => ?_)
      · have hf := tm_iT c_5 hf
        refine lv_aload_n hx hb dX2_squarify_41 rfl (lv_at hl 0 rfl) ?_
        refine lv_iload_n hx hb dX2_squarify_42 rfl (lv_at hl 2 rfl) ?_
        obtain ⟨t_6, ot_6, hf⟩ := tm_bS hf
        refine tm_cVI (As := [.int st.1]) (rest := []) ⟨hx, hb, hml, hown, hts⟩ (tX2_endOfRow l D cI cZ cR N q0 st.2.2.1 st.1 t_6 ot_6) (cwV 1 hts gX2_squarify_X2_endOfRow rfl rfl rfl hdwsV_X2_endOfRow ⟨Nat.le_of_ble_eq_true rfl, Nat.le_of_ble_eq_true rfl⟩) hK hP hD hS hA [0, 1, 2, 3, 4, 5, 6, 7, 8, 9, 10, 11, 12, 13] (by decide) rfl rfl (ci := 2) rfl rfl rfl (fun _ => WX2X3 cI cZ cR q0 q1 st.2.2.1 st.2.2.2) (()) rfl rfl hl.1 rfl (Nat.le_of_ble_eq_true rfl) dX2_squarify_43 ⟨Nat.zero_le _, Nat.zero_le _⟩ (fun _ _ H locs hP hD hS => ?_)
        refine lv_istore (lv' := [(4, .int t_6), (0, .ref (q0 0)), (1, .ref (q1 0)), (2, .int st.1), (3, .int st.2.1)]) hx hb dX2_squarify_46 hl (by decide) rfl (fun ls hl => ?_)
        refine lv_aload_n hx hb dX2_squarify_48 rfl (lv_at hl 1 rfl) ?_
        refine va_get (D := D) (ci := 2) (v := .ref (q0 3)) (C := RX2) (T := TX2) (N := 8) hx hb hts uX2_squarify_X2 hown hK hP 0 rfl rfl 3 (by decide) (hts _ kX2_squarify_f21) (fun _ h9 => h9) rfl dX2_squarify_49 ?_
        refine va_get (D := D) (ci := 0) (v := .int (st.2.2.1 3 3)) (C := RX0) (T := TX0) (N := 4) hx hb hts uX2_squarify_X0 hown hK hP 3 rfl rfl 3 (by decide) (hts _ kX2_squarify_f62) (fun _ h9 => h9) rfl dX2_squarify_52 ?_
        refine lv_aload_n hx hb dX2_squarify_55 rfl (lv_at hl 1 rfl) ?_
        refine va_get (D := D) (ci := 2) (v := .ref (q0 3)) (C := RX2) (T := TX2) (N := 8) hx hb hts uX2_squarify_X2 hown hK hP 0 rfl rfl 3 (by decide) (hts _ kX2_squarify_f21) (fun _ h9 => h9) rfl dX2_squarify_56 ?_
        refine va_get (D := D) (ci := 0) (v := .int (st.2.2.1 3 2)) (C := RX0) (T := TX0) (N := 4) hx hb hts uX2_squarify_X0 hown hK hP 3 rfl rfl 2 (by decide) (hts _ kX2_squarify_f59) (fun _ h9 => h9) rfl dX2_squarify_59 ?_
        refine lv_icmp_gt (tgt := 69) hx hb dX2_squarify_62 (by decide) (fun c_7 => ?_) (fun c_7 => ?_)
        · have hf := tm_iT c_7 hf
          refine lv_iconst (v := 0) hx hb dX2_squarify_69 (by decide) ?_
          refine lv_istore (lv' := [(5, .int 0), (4, .int t_6), (0, .ref (q0 0)), (1, .ref (q1 0)), (2, .int st.1), (3, .int st.2.1)]) hx hb dX2_squarify_70 hl (by decide) rfl (fun ls hl => ?_)
          refine lv_aload_n hx hb dX2_squarify_72 rfl (lv_at hl 2 rfl) ?_
          refine lv_iload_n hx hb dX2_squarify_73 rfl (lv_at hl 4 rfl) ?_
          refine lv_iload hx hb dX2_squarify_74 (lv_at hl 1 rfl) ?_
          refine lv_iload hx hb dX2_squarify_76 (lv_at hl 0 rfl) ?_
          obtain ⟨t_8, ot_8, hf⟩ := tm_bS hf
          refine tm_cVV (As := [.int st.1, .int t_6, .int 0]) (rest := []) ⟨hx, hb, hml, hown, hts⟩ (tX2_cutBand l D cI cZ cR N q0 st.2.2.1 st.1 t_6 (0 : Int32) t_8 ot_8) (cwV 3 hts gX2_squarify_X2_cutBand rfl rfl rfl hdwsV_X2_cutBand ⟨Nat.le_of_ble_eq_true rfl, Nat.le_of_ble_eq_true rfl⟩) hK hP hD hS hA [0, 1, 2, 3, 4, 5, 6, 7, 8, 9, 10, 11, 12, 13] (by decide) rfl rfl (ci := 2) rfl rfl rfl (fun _ => WX2X3 cI cZ cR q0 q1 t_8 st.2.2.2) (()) rfl rfl hl.1 rfl (Nat.le_of_ble_eq_true rfl) dX2_squarify_78 ⟨Nat.zero_le _, Nat.zero_le _⟩ (fun _ _ H locs hP hD hS => ?_)
          refine lv_aload_n hx hb dX2_squarify_81 rfl (lv_at hl 2 rfl) ?_
          refine lv_iload_n hx hb dX2_squarify_82 rfl (lv_at hl 4 rfl) ?_
          refine lv_iload hx hb dX2_squarify_83 (lv_at hl 1 rfl) ?_
          refine lv_iload hx hb dX2_squarify_85 (lv_at hl 0 rfl) ?_
          refine lv_if_ne (tgt := 94) hx hb dX2_squarify_87 (by decide) (fun c9 => absurd c9 (by decide)) (fun _ => ?_)
          refine lv_iconst (v := 1) hx hb dX2_squarify_90 (by decide) ?_
          refine lv_goto (tgt := 95) hx hb dX2_squarify_91 (by decide) ?_
          refine lv_aload_n hx hb dX2_squarify_95 rfl (lv_at hl 3 rfl) ?_
          obtain ⟨t_9, ot_9, hf⟩ := tm_bS hf
          refine tm_cVV (As := [.int st.1, .int t_6, .int 1, .ref (q1 0)]) (rest := []) ⟨hx, hb, hml, hown, hts⟩ (tX2_fillBand l D cI cZ cR N q0 q1 t_8 st.2.2.2 st.1 t_6 (1 : Int32) t_9.1 t_9.2 ot_9) (cwV 4 hts gX2_squarify_X2_fillBand rfl rfl rfl hdwsV_X2_fillBand ⟨Nat.le_of_ble_eq_true rfl, Nat.le_of_ble_eq_true rfl⟩) hK hP hD hS hA [0, 1, 2, 3, 4, 5, 6, 7, 8, 9, 10, 11, 12, 13, 14, 15, 16, 17, 18] (by decide) rfl rfl (ci := 2) rfl rfl rfl (fun _ => WX2X3 cI cZ cR q0 q1 t_9.1 t_9.2) (()) rfl rfl hl.1 rfl (Nat.le_of_ble_eq_true rfl) dX2_squarify_96 ⟨Nat.zero_le _, Nat.zero_le _⟩ (fun _ _ H locs hP hD hS => ?_)
          refine lv_iload hx hb dX2_squarify_99 (lv_at hl 1 rfl) ?_
          refine lv_istore_n (lv' := [(2, .int t_6), (5, .int 0), (4, .int t_6), (0, .ref (q0 0)), (1, .ref (q1 0)), (3, .int st.2.1)]) hx hb dX2_squarify_101 rfl hl (by decide) rfl (fun ls hl => ?_)
          obtain ⟨x_10, ex_10⟩ : ∃ y : Int32, y = st.2.1 + 1 := ⟨_, rfl⟩
          have hf := tm_at ex_10 hf
          refine lv_iinc (v := x_10) (lv' := [(3, .int x_10), (2, .int t_6), (5, .int 0), (4, .int t_6), (0, .ref (q0 0)), (1, .ref (q1 0))]) hx hb dX2_squarify_102 hl (k := 5) rfl (by rw [ex_10]; rfl) (by decide) rfl (fun ls hl => ?_)
          refine lv_goto (tgt := 8) hx hb dX2_squarify_105 (by decide) ?_
          obtain rfl := Option.some.inj hf
          exact hk _ _ _ hP hD hS (lv_sub hl [4, 5, 1, 0] rfl)
        · have hf := tm_iF c_7 hf
          refine lv_iconst (v := 1) hx hb dX2_squarify_65 (by decide) ?_
          refine lv_goto (tgt := 70) hx hb dX2_squarify_66 (by decide) ?_
          refine lv_istore (lv' := [(5, .int 1), (4, .int t_6), (0, .ref (q0 0)), (1, .ref (q1 0)), (2, .int st.1), (3, .int st.2.1)]) hx hb dX2_squarify_70 hl (by decide) rfl (fun ls hl => ?_)
          refine lv_aload_n hx hb dX2_squarify_72 rfl (lv_at hl 2 rfl) ?_
          refine lv_iload_n hx hb dX2_squarify_73 rfl (lv_at hl 4 rfl) ?_
          refine lv_iload hx hb dX2_squarify_74 (lv_at hl 1 rfl) ?_
          refine lv_iload hx hb dX2_squarify_76 (lv_at hl 0 rfl) ?_
          obtain ⟨t_11, ot_11, hf⟩ := tm_bS hf
          refine tm_cVV (As := [.int st.1, .int t_6, .int 1]) (rest := []) ⟨hx, hb, hml, hown, hts⟩ (tX2_cutBand l D cI cZ cR N q0 st.2.2.1 st.1 t_6 (1 : Int32) t_11 ot_11) (cwV 3 hts gX2_squarify_X2_cutBand rfl rfl rfl hdwsV_X2_cutBand ⟨Nat.le_of_ble_eq_true rfl, Nat.le_of_ble_eq_true rfl⟩) hK hP hD hS hA [0, 1, 2, 3, 4, 5, 6, 7, 8, 9, 10, 11, 12, 13] (by decide) rfl rfl (ci := 2) rfl rfl rfl (fun _ => WX2X3 cI cZ cR q0 q1 t_11 st.2.2.2) (()) rfl rfl hl.1 rfl (Nat.le_of_ble_eq_true rfl) dX2_squarify_78 ⟨Nat.zero_le _, Nat.zero_le _⟩ (fun _ _ H locs hP hD hS => ?_)
          refine lv_aload_n hx hb dX2_squarify_81 rfl (lv_at hl 2 rfl) ?_
          refine lv_iload_n hx hb dX2_squarify_82 rfl (lv_at hl 4 rfl) ?_
          refine lv_iload hx hb dX2_squarify_83 (lv_at hl 1 rfl) ?_
          refine lv_iload hx hb dX2_squarify_85 (lv_at hl 0 rfl) ?_
          refine lv_if_ne (tgt := 94) hx hb dX2_squarify_87 (by decide) (fun _ => ?_) (fun c9 => absurd c9 (by decide))
          refine lv_iconst (v := 0) hx hb dX2_squarify_94 (by decide) ?_
          refine lv_aload_n hx hb dX2_squarify_95 rfl (lv_at hl 3 rfl) ?_
          obtain ⟨t_12, ot_12, hf⟩ := tm_bS hf
          refine tm_cVV (As := [.int st.1, .int t_6, .int 0, .ref (q1 0)]) (rest := []) ⟨hx, hb, hml, hown, hts⟩ (tX2_fillBand l D cI cZ cR N q0 q1 t_11 st.2.2.2 st.1 t_6 (0 : Int32) t_12.1 t_12.2 ot_12) (cwV 4 hts gX2_squarify_X2_fillBand rfl rfl rfl hdwsV_X2_fillBand ⟨Nat.le_of_ble_eq_true rfl, Nat.le_of_ble_eq_true rfl⟩) hK hP hD hS hA [0, 1, 2, 3, 4, 5, 6, 7, 8, 9, 10, 11, 12, 13, 14, 15, 16, 17, 18] (by decide) rfl rfl (ci := 2) rfl rfl rfl (fun _ => WX2X3 cI cZ cR q0 q1 t_12.1 t_12.2) (()) rfl rfl hl.1 rfl (Nat.le_of_ble_eq_true rfl) dX2_squarify_96 ⟨Nat.zero_le _, Nat.zero_le _⟩ (fun _ _ H locs hP hD hS => ?_)
          refine lv_iload hx hb dX2_squarify_99 (lv_at hl 1 rfl) ?_
          refine lv_istore_n (lv' := [(2, .int t_6), (5, .int 1), (4, .int t_6), (0, .ref (q0 0)), (1, .ref (q1 0)), (3, .int st.2.1)]) hx hb dX2_squarify_101 rfl hl (by decide) rfl (fun ls hl => ?_)
          obtain ⟨x_13, ex_13⟩ : ∃ y : Int32, y = st.2.1 + 1 := ⟨_, rfl⟩
          have hf := tm_at ex_13 hf
          refine lv_iinc (v := x_13) (lv' := [(3, .int x_13), (2, .int t_6), (5, .int 1), (4, .int t_6), (0, .ref (q0 0)), (1, .ref (q1 0))]) hx hb dX2_squarify_102 hl (k := 5) rfl (by rw [ex_13]; rfl) (by decide) rfl (fun ls hl => ?_)
          refine lv_goto (tgt := 8) hx hb dX2_squarify_105 (by decide) ?_
          obtain rfl := Option.some.inj hf
          exact hk _ _ _ hP hD hS (lv_sub hl [4, 5, 1, 0] rfl)
      · have hf := tm_iF c_5 hf
        obtain rfl := Option.some.inj hf
        exact hk _ _ _ hP hD hS (lv_sub hl [0, 1, 2] rfl)
set_option maxHeartbeats 4000000 in
set_option maxRecDepth 100000 in
theorem tX2_squarify (l : Launch) (D : va_G) (cI cZ cR : ClassId) (N : Nat) (q0 : Nat → Nat) (q1 : Nat → Nat) (d0 : tm_M) (d1 : tm_M) (z0 : tm_M) (z1 : tm_M) (hf : fX2_squarify N d0 d1 = some (z0, z1)) : tm_CV l D (tm_ty cI cZ cR) yX2_squarify wsX2_squarify rmX2_squarify [.ref (q0 0), .ref (q1 0)] (WX2X3 cI cZ cR q0 q1 d0 d1) (WX2X3 cI cZ cR q0 q1 z0 z1) := by
  refine tm_mkV (cc := cX2_squarify) (maxL := 6) (by decide) rfl (Nat.le_of_ble_eq_true rfl) ?_
  intro p e s m below meth c A ls Q C hP hD hS hl hend
  have C : tm_Cx p s m c [.ref (q0 0), .ref (q1 0)].toArray cX2_squarify 6 RX2 wsX2_squarify D (tm_ty cI cZ cR) A s.heap := C
  obtain ⟨hx, hb, hml, hown, hts, hK, hA⟩ := id C
  have hl : lv_has ls 6 [(0, .ref (q0 0)), (1, .ref (q1 0))] := hl
  unfold fX2_squarify at hf
  refine lv_aload_n hx hb dX2_squarify_0 rfl (lv_at hl 0 rfl) ?_
  obtain ⟨t_1, ot_1, hf⟩ := tm_bS hf
  refine tm_cVV (As := []) (rest := []) ⟨hx, hb, hml, hown, hts⟩ (tX2_sortByFallingSize l D cI cZ cR N q0 d0 t_1 ot_1) (cwV 0 hts gX2_squarify_X2_sortByFallingSize rfl rfl rfl hdwsV_X2_sortByFallingSize ⟨Nat.le_of_ble_eq_true rfl, Nat.le_of_ble_eq_true rfl⟩) hK hP hD hS hA [0, 1, 2, 3, 4, 5, 6, 7, 8, 9, 10, 11, 12, 13] (by decide) rfl rfl (ci := 2) rfl rfl rfl (fun _ => WX2X3 cI cZ cR q0 q1 t_1 d1) (()) rfl rfl hl.1 rfl (Nat.le_of_ble_eq_true rfl) dX2_squarify_1 ⟨Nat.zero_le _, Nat.zero_le _⟩ (fun _ _ H locs hP hD hS => ?_)
  refine lv_iconst (v := 0) hx hb dX2_squarify_4 (by decide) ?_
  refine lv_istore_n (lv' := [(2, .int 0), (0, .ref (q0 0)), (1, .ref (q1 0))]) hx hb dX2_squarify_5 rfl hl (by decide) rfl (fun ls hl => ?_)
  refine lv_iconst (v := 0) hx hb dX2_squarify_6 (by decide) ?_
  refine lv_istore_n (lv' := [(3, .int 0), (2, .int 0), (0, .ref (q0 0)), (1, .ref (q1 0))]) hx hb dX2_squarify_7 rfl hl (by decide) rfl (fun ls hl => ?_)
  obtain ⟨t_14, ot_14, hf⟩ := tm_bS hf
  refine wX2_squarify_8 l D cI cZ cR N q0 q1 C _ _ _ ot_14 ?_ _ _ _ hP hD hS (lv_sub hl [2, 3, 1, 0] rfl)
  rcases t_14 with t_14a | t_14b
  · have hf := tm_twL hf
    intro H locs ls hP hD hS hl
    simp only [Option.some.injEq, Prod.mk.injEq] at hf
    obtain ⟨rfl, rfl⟩ := hf
    exact hend _ _ _ _ hP hD hS dX2_squarify_108
  · have hf := tm_twR hf
    intro H locs ls hP hD hS hl
    refine lv_aload_n hx hb dX2_squarify_34 rfl (lv_at hl 0 rfl) ?_
    refine lv_iload_n hx hb dX2_squarify_35 rfl (lv_at hl 2 rfl) ?_
    refine lv_aload_n hx hb dX2_squarify_36 rfl (lv_at hl 1 rfl) ?_
    obtain ⟨t_15, ot_15, hf⟩ := tm_bS hf
    refine tm_cVV (As := [.int t_14b.1, .ref (q1 0)]) (rest := []) ⟨hx, hb, hml, hown, hts⟩ (tX2_collapse l D cI cZ cR N q0 q1 t_14b.2.2.1 t_14b.2.2.2 t_14b.1 t_15 ot_15) (cwV 2 hts gX2_squarify_X2_collapse rfl rfl rfl hdwsV_X2_collapse ⟨Nat.le_of_ble_eq_true rfl, Nat.le_of_ble_eq_true rfl⟩) hK hP hD hS hA [0, 1, 2, 3, 4, 5, 6, 7, 8, 9, 10, 11, 12, 13, 14, 15, 16, 17, 18] (by decide) rfl rfl (ci := 2) rfl rfl rfl (fun _ => WX2X3 cI cZ cR q0 q1 t_14b.2.2.1 t_15) (()) rfl rfl hl.1 rfl (Nat.le_of_ble_eq_true rfl) dX2_squarify_37 ⟨Nat.zero_le _, Nat.zero_le _⟩ (fun _ _ H locs hP hD hS => ?_)
    simp only [Option.some.injEq, Prod.mk.injEq] at hf
    obtain ⟨rfl, rfl⟩ := hf
    exact hend _ _ _ _ hP hD hS dX2_squarify_40
