set_option maxHeartbeats 4000000 in
set_option maxRecDepth 100000 in
theorem wX8_pixels_4 (l : Launch) (D : va_G) (cI cZ cR : ClassId) (N : Nat) (q0 : Nat → Nat) {p : Program} {e : Env} {s : State} {m : MethodId} {args : Array Value} {below : List Frame} {meth : Method} {c : Code} {A : Nat → Prop} {H0 : Heap} {Q : State → Prop} (C : tm_Cx p s m c args cX8_pixels 3 RX8 wsX8_pixels D (tm_ty cI cZ cR) A H0) (d0 : tm_M) (g0 : Int64) : ∀ (n : Nat) (st : Int32 × Int32) (o : (Int32 × Int32)), tm_whl (bX8_pixels_4 N d0 g0) n st = some o → (fun (o : Int32 × Int32) => ∀ (H : Heap) (locs : List Loc) (ls : Array Slot), va_P D vwCl (WX8 cI cZ cR q0 d0 g0) H → va_D A (WX8 cI cZ cR q0 d0 g0) → va_S A H0 H locs → lv_has ls 3 [(1, .int o.1)] → W p l e rmX8_pixels s m args below meth c H locs 0 0 Q (F0 m 48 ls [])) o → (fun (st : Int32 × Int32) => ∀ (H : Heap) (locs : List Loc) (ls : Array Slot), va_P D vwCl (WX8 cI cZ cR q0 d0 g0) H → va_D A (WX8 cI cZ cR q0 d0 g0) → va_S A H0 H locs → lv_has ls 3 [(0, .ref (q0 0)), (1, .int st.1), (2, .int st.2)] → W p l e rmX8_pixels s m args below meth c H locs 0 0 Q (F0 m 4 ls [])) st := by
  obtain ⟨hx, hb, hml, hown, hts, hK, hA⟩ := id C
  refine tm_whl_W (Wh := fun (st : Int32 × Int32) => ∀ (H : Heap) (locs : List Loc) (ls : Array Slot), va_P D vwCl (WX8 cI cZ cR q0 d0 g0) H → va_D A (WX8 cI cZ cR q0 d0 g0) → va_S A H0 H locs → lv_has ls 3 [(0, .ref (q0 0)), (1, .int st.1), (2, .int st.2)] → W p l e rmX8_pixels s m args below meth c H locs 0 0 Q (F0 m 4 ls [])) (Wx := fun (o : Int32 × Int32) => ∀ (H : Heap) (locs : List Loc) (ls : Array Slot), va_P D vwCl (WX8 cI cZ cR q0 d0 g0) H → va_D A (WX8 cI cZ cR q0 d0 g0) → va_S A H0 H locs → lv_has ls 3 [(1, .int o.1)] → W p l e rmX8_pixels s m args below meth c H locs 0 0 Q (F0 m 48 ls [])) ?_
  intro st r hf hk H locs ls hP hD hS hl
  unfold bX8_pixels_4 at hf
  refine lv_iload_n hx hb dX8_pixels_4 rfl (lv_at hl 2 rfl) ?_
  refine lv_aload_n hx hb dX8_pixels_5 rfl (lv_at hl 0 rfl) ?_
  refine va_get (D := D) (ci := 8) (v := .ref (q0 1)) (C := RX8) (T := TX8) (N := 18) hx hb hts uX8_pixels_X8 hown hK hP 0 rfl rfl 0 (by decide) (hts _ kX8_pixels_f7) (fun _ h9 => h9) rfl dX8_pixels_6 ?_
  refine lv_iconst (v := 0) hx hb dX8_pixels_9 (by decide) ?_
  refine va_iald hx hb hK hP 1 0 rfl rfl (tm_inb_in (by decide)) dX8_pixels_10 ?_
  refine lv_icmp_ge (tgt := 48) hx hb dX8_pixels_11 (by decide) (fun c_1 => ?_) (fun c_1 => ?_)
  · have hf := tm_iT c_1 hf
    obtain rfl := Option.some.inj hf
    exact hk _ _ _ hP hD hS (lv_sub hl [1] rfl)
  · have hf := tm_iF c_1 hf
    refine lv_iload_n hx hb dX8_pixels_14 rfl (lv_at hl 1 rfl) ?_
    refine lv_aload_n hx hb dX8_pixels_15 rfl (lv_at hl 0 rfl) ?_
    refine lv_iload_n hx hb dX8_pixels_16 rfl (lv_at hl 2 rfl) ?_
    obtain ⟨t_2, ot_2, hf⟩ := tm_bS hf
    refine tm_cVI (As := [.int st.2]) (rest := [.int st.1]) ⟨hx, hb, hml, hown, hts⟩ (tX8_childMany l D cI cZ cR N q0 d0 g0 st.2 t_2 ot_2) (cwV 1 hts gX8_pixels_X8_childMany rfl rfl rfl hdwsV_X8_childMany ⟨Nat.le_of_ble_eq_true rfl, Nat.le_of_ble_eq_true rfl⟩) hK hP hD hS hA [0, 1, 2, 3, 4, 5, 6, 7, 8, 9, 10, 11, 12, 13, 14, 15] (by decide) rfl rfl (ci := 8) rfl rfl rfl (fun _ => WX8 cI cZ cR q0 d0 g0) (()) rfl rfl hl.1 rfl (Nat.le_of_ble_eq_true rfl) dX8_pixels_17 ⟨Nat.zero_le _, Nat.zero_le _⟩ (fun _ _ H locs hP hD hS => ?_)
    refine lv_if_ne (tgt := 39) hx hb dX8_pixels_20 (by decide) (fun c_3 => ?_) (fun c_3 => ?_)
    · have hf := tm_iF c_3 hf
      refine lv_iconst (v := 0) hx hb dX8_pixels_39 (by decide) ?_
      refine lv_iadd hx hb dX8_pixels_40 ?_
      refine lv_topi (fun x_4 ex_4 => ?_)
      have hf := tm_at ex_4 hf
      refine lv_istore_n (lv' := [(1, .int x_4), (0, .ref (q0 0)), (2, .int st.2)]) hx hb dX8_pixels_41 rfl hl (by decide) rfl (fun ls hl => ?_)
      obtain ⟨x_5, ex_5⟩ : ∃ y : Int32, y = st.2 + 1 := ⟨_, rfl⟩
      have hf := tm_at ex_5 hf
      refine lv_iinc (v := x_5) (lv' := [(2, .int x_5), (1, .int x_4), (0, .ref (q0 0))]) hx hb dX8_pixels_42 hl (k := 2) rfl (by rw [ex_5]; rfl) (by decide) rfl (fun ls hl => ?_)
      refine lv_goto (tgt := 4) hx hb dX8_pixels_45 (by decide) ?_
      obtain rfl := Option.some.inj hf
      exact hk _ _ _ hP hD hS (lv_sub hl [2, 1, 0] rfl)
    · have hf := tm_iT c_3 hf
      refine lv_aload_n hx hb dX8_pixels_23 rfl (lv_at hl 0 rfl) ?_
      refine va_get (D := D) (ci := 8) (v := .ref (q0 8)) (C := RX8) (T := TX8) (N := 18) hx hb hts uX8_pixels_X8 hown hK hP 0 rfl rfl 8 (by decide) (hts _ kX8_pixels_f31) (fun _ h9 => h9) rfl dX8_pixels_24 ?_
      refine lv_iload_n hx hb dX8_pixels_27 rfl (lv_at hl 2 rfl) ?_
      obtain ⟨h_6, hf⟩ := tm_gS hf
      refine va_iald hx hb hK hP 8 0 rfl rfl (tm_inb_in h_6) dX8_pixels_28 ?_
      refine lv_aload_n hx hb dX8_pixels_29 rfl (lv_at hl 0 rfl) ?_
      refine va_get (D := D) (ci := 8) (v := .ref (q0 9)) (C := RX8) (T := TX8) (N := 18) hx hb hts uX8_pixels_X8 hown hK hP 0 rfl rfl 9 (by decide) (hts _ kX8_pixels_f34) (fun _ h9 => h9) rfl dX8_pixels_30 ?_
      refine lv_iload_n hx hb dX8_pixels_33 rfl (lv_at hl 2 rfl) ?_
      refine va_iald hx hb hK hP 9 0 rfl rfl (tm_inb_in h_6) dX8_pixels_34 ?_
      refine lv_imul hx hb dX8_pixels_35 ?_
      refine lv_goto (tgt := 40) hx hb dX8_pixels_36 (by decide) ?_
      refine lv_iadd hx hb dX8_pixels_40 ?_
      refine lv_topi (fun x_7 ex_7 => ?_)
      have hf := tm_at ex_7 hf
      refine lv_istore_n (lv' := [(1, .int x_7), (0, .ref (q0 0)), (2, .int st.2)]) hx hb dX8_pixels_41 rfl hl (by decide) rfl (fun ls hl => ?_)
      obtain ⟨x_8, ex_8⟩ : ∃ y : Int32, y = st.2 + 1 := ⟨_, rfl⟩
      have hf := tm_at ex_8 hf
      refine lv_iinc (v := x_8) (lv' := [(2, .int x_8), (1, .int x_7), (0, .ref (q0 0))]) hx hb dX8_pixels_42 hl (k := 2) rfl (by rw [ex_8]; rfl) (by decide) rfl (fun ls hl => ?_)
      refine lv_goto (tgt := 4) hx hb dX8_pixels_45 (by decide) ?_
      obtain rfl := Option.some.inj hf
      exact hk _ _ _ hP hD hS (lv_sub hl [2, 1, 0] rfl)
set_option maxHeartbeats 4000000 in
set_option maxRecDepth 100000 in
theorem tX8_pixels (l : Launch) (D : va_G) (cI cZ cR : ClassId) (N : Nat) (q0 : Nat → Nat) (d0 : tm_M) (g0 : Int64) (r0 : Int32) (hf : fX8_pixels N d0 g0 = some r0) : tm_CI l D (tm_ty cI cZ cR) yX8_pixels wsX8_pixels rmX8_pixels [.ref (q0 0)] (WX8 cI cZ cR q0 d0 g0) r0 (WX8 cI cZ cR q0 d0 g0) := by
  refine tm_mkI (cc := cX8_pixels) (maxL := 3) (ty := .int) (by decide) rfl (Nat.le_of_ble_eq_true rfl) ?_
  intro p e s m below meth c A ls Q C hP hD hS hl hend
  have C : tm_Cx p s m c [.ref (q0 0)].toArray cX8_pixels 3 RX8 wsX8_pixels D (tm_ty cI cZ cR) A s.heap := C
  obtain ⟨hx, hb, hml, hown, hts, hK, hA⟩ := id C
  have hl : lv_has ls 3 [(0, .ref (q0 0))] := hl
  unfold fX8_pixels at hf
  refine lv_iconst (v := 0) hx hb dX8_pixels_0 (by decide) ?_
  refine lv_istore_n (lv' := [(1, .int 0), (0, .ref (q0 0))]) hx hb dX8_pixels_1 rfl hl (by decide) rfl (fun ls hl => ?_)
  refine lv_iconst (v := 0) hx hb dX8_pixels_2 (by decide) ?_
  refine lv_istore_n (lv' := [(2, .int 0), (1, .int 0), (0, .ref (q0 0))]) hx hb dX8_pixels_3 rfl hl (by decide) rfl (fun ls hl => ?_)
  obtain ⟨t_9, ot_9, hf⟩ := tm_bS hf
  refine wX8_pixels_4 l D cI cZ cR N q0 C d0 g0 _ _ _ ot_9 ?_ _ _ _ hP hD hS (lv_sub hl [2, 1, 0] rfl)
  intro H locs ls hP hD hS hl
  refine lv_iload_n hx hb dX8_pixels_48 rfl (lv_at hl 0 rfl) ?_
  obtain rfl := Option.some.inj hf
  exact hend _ _ _ _ hP hD hS rfl dX8_pixels_49
set_option maxHeartbeats 4000000 in
set_option maxRecDepth 100000 in
theorem tX8_leafPixels (l : Launch) (D : va_G) (cI cZ cR : ClassId) (N : Nat) (q0 : Nat → Nat) (d0 : tm_M) (g0 : Int64) (r0 : Int32) (z0 : tm_M) (hf : fX8_leafPixels N d0 g0 = some (r0, z0)) : tm_CI l D (tm_ty cI cZ cR) yX8_leafPixels wsX8_leafPixels rmX8_leafPixels [.ref (q0 0)] (WX8 cI cZ cR q0 d0 g0) r0 (WX8 cI cZ cR q0 z0 g0) := by
  refine tm_mkI (cc := cX8_leafPixels) (maxL := 1) (ty := .int) (by decide) rfl (Nat.le_of_ble_eq_true rfl) ?_
  intro p e s m below meth c A ls Q C hP hD hS hl hend
  have C : tm_Cx p s m c [.ref (q0 0)].toArray cX8_leafPixels 1 RX8 wsX8_leafPixels D (tm_ty cI cZ cR) A s.heap := C
  obtain ⟨hx, hb, hml, hown, hts, hK, hA⟩ := id C
  have hl : lv_has ls 1 [(0, .ref (q0 0))] := hl
  unfold fX8_leafPixels at hf
  refine lv_aload_n hx hb dX8_leafPixels_0 rfl (lv_at hl 0 rfl) ?_
  obtain ⟨t_1, ot_1, hf⟩ := tm_bS hf
  refine tm_cVV (As := []) (rest := []) ⟨hx, hb, hml, hown, hts⟩ (tX8_lays l D cI cZ cR N q0 d0 g0 t_1 ot_1) (cwV 0 hts gX8_leafPixels_X8_lays rfl rfl rfl hdwsV_X8_lays ⟨Nat.le_of_ble_eq_true rfl, Nat.le_of_ble_eq_true rfl⟩) hK hP hD hS hA [0, 1, 2, 3, 4, 5, 6, 7, 8, 9, 10, 11, 12, 13, 14, 15] (by decide) rfl rfl (ci := 8) rfl rfl rfl (fun _ => WX8 cI cZ cR q0 t_1 g0) (()) rfl rfl hl.1 rfl (Nat.le_of_ble_eq_true rfl) dX8_leafPixels_1 ⟨Nat.zero_le _, Nat.zero_le _⟩ (fun _ _ H locs hP hD hS => ?_)
  refine lv_aload_n hx hb dX8_leafPixels_4 rfl (lv_at hl 0 rfl) ?_
  obtain ⟨t_2, ot_2, hf⟩ := tm_bS hf
  refine tm_cVI (As := []) (rest := []) ⟨hx, hb, hml, hown, hts⟩ (tX8_pixels l D cI cZ cR N q0 t_1 g0 t_2 ot_2) (cwV 0 hts gX8_leafPixels_X8_pixels rfl rfl rfl hdwsV_X8_pixels ⟨Nat.le_of_ble_eq_true rfl, Nat.le_of_ble_eq_true rfl⟩) hK hP hD hS hA [0, 1, 2, 3, 4, 5, 6, 7, 8, 9, 10, 11, 12, 13, 14, 15] (by decide) rfl rfl (ci := 8) rfl rfl rfl (fun _ => WX8 cI cZ cR q0 t_1 g0) (()) rfl rfl hl.1 rfl (Nat.le_of_ble_eq_true rfl) dX8_leafPixels_5 ⟨Nat.zero_le _, Nat.zero_le _⟩ (fun _ _ H locs hP hD hS => ?_)
  simp only [Option.some.injEq, Prod.mk.injEq] at hf
  obtain ⟨rfl, rfl⟩ := hf
  exact hend _ _ _ _ hP hD hS rfl dX8_leafPixels_8
set_option maxHeartbeats 4000000 in
set_option maxRecDepth 100000 in
theorem tJxf58ca_isNaN_12338 (l : Launch) (D : va_G) (cI cZ cR : ClassId) (N : Nat) (p1 : UInt32) (r0 : Int32) (hf : fJxf58ca_isNaN_12338 N p1 = some r0) : tm_CI l D (tm_ty cI cZ cR) yJxf58ca_isNaN_12338 wsJxf58ca_isNaN_12338 rmJxf58ca_isNaN_12338 [.float p1] (([] : va_W)) r0 (([] : va_W)) := by
  refine tm_mkIJ (cc := cJxf58ca_isNaN_12338) (maxL := 1) (ty := .boolean) (by decide +kernel) rfl (Nat.le_of_ble_eq_true rfl) ?_
  intro p e s m below meth c A ls Q C hP hD hS hl hend
  have C : tm_Cx p s m c [.float p1].toArray cJxf58ca_isNaN_12338 1 RJxf58ca wsJxf58ca_isNaN_12338 D (tm_ty cI cZ cR) A s.heap := C
  obtain ⟨hx, hb, hml, hown, hts, hK, hA⟩ := id C
  have hl : lv_has ls 1 [(0, .float p1)] := hl
  unfold fJxf58ca_isNaN_12338 at hf
  refine lv_fload_n hx hb dJxf58ca_isNaN_12338_0 rfl (lv_at hl 0 rfl) ?_
  refine lv_fload_n hx hb dJxf58ca_isNaN_12338_1 rfl (lv_at hl 0 rfl) ?_
  refine lv_fcmp hx hb dJxf58ca_isNaN_12338_2 ?_
  refine lv_if_eq (tgt := 10) hx hb dJxf58ca_isNaN_12338_3 (by decide) (fun c_1 => ?_) (fun c_1 => ?_)
  · have hf := tm_iT c_1 hf
    refine lv_iconst (v := 0) hx hb dJxf58ca_isNaN_12338_10 (by decide) ?_
    obtain rfl := Option.some.inj hf
    exact hend _ _ _ _ hP hD hS (by decide) dJxf58ca_isNaN_12338_11
  · have hf := tm_iF c_1 hf
    refine lv_iconst (v := 1) hx hb dJxf58ca_isNaN_12338_6 (by decide) ?_
    refine lv_goto (tgt := 11) hx hb dJxf58ca_isNaN_12338_7 (by decide) ?_
    obtain rfl := Option.some.inj hf
    exact hend _ _ _ _ hP hD hS (by decide) dJxf58ca_isNaN_12338_11
set_option maxHeartbeats 4000000 in
set_option maxRecDepth 100000 in
theorem tJxf58ca_floatToIntBits_5c35a (l : Launch) (D : va_G) (cI cZ cR : ClassId) (N : Nat) (p1 : UInt32) (r0 : Int32) (hf : fJxf58ca_floatToIntBits_5c35a N p1 = some r0) : tm_CI l D (tm_ty cI cZ cR) yJxf58ca_floatToIntBits_5c35a wsJxf58ca_floatToIntBits_5c35a rmJxf58ca_floatToIntBits_5c35a [.float p1] (([] : va_W)) r0 (([] : va_W)) := by
  refine tm_mkIJ (cc := cJxf58ca_floatToIntBits_5c35a) (maxL := 1) (ty := .int) (by decide +kernel) rfl (Nat.le_of_ble_eq_true rfl) ?_
  intro p e s m below meth c A ls Q C hP hD hS hl hend
  have C : tm_Cx p s m c [.float p1].toArray cJxf58ca_floatToIntBits_5c35a 1 RJxf58ca wsJxf58ca_floatToIntBits_5c35a D (tm_ty cI cZ cR) A s.heap := C
  obtain ⟨hx, hb, hml, hown, hts, hK, hA⟩ := id C
  have hl : lv_has ls 1 [(0, .float p1)] := hl
  unfold fJxf58ca_floatToIntBits_5c35a at hf
  refine lv_fload_n hx hb dJxf58ca_floatToIntBits_5c35a_0 rfl (lv_at hl 0 rfl) ?_
  obtain ⟨t_1, ot_1, hf⟩ := tm_bS hf
  refine tm_cSI (As := [.float p1]) (rest := []) ⟨hx, hb, hml, hown, hts⟩ (tJxf58ca_isNaN_12338 l D cI cZ cR N p1 t_1 ot_1) (va_cwS 1 hts gJxf58ca_floatToIntBits_5c35a_Jxf58ca_isNaN_12338 rfl rfl rfl hdwsS_Jxf58ca_isNaN_12338 ⟨Nat.le_of_ble_eq_true rfl, Nat.le_of_ble_eq_true rfl⟩) hK hP hD hS hA [] (by decide) rfl rfl (fun _ => ([] : va_W)) (()) rfl rfl hl.1 rfl (Nat.le_of_ble_eq_true rfl) dJxf58ca_floatToIntBits_5c35a_1 ⟨Nat.zero_le _, Nat.zero_le _⟩ (fun _ _ H locs hP hD hS => ?_)
  refine lv_if_ne (tgt := 12) hx hb dJxf58ca_floatToIntBits_5c35a_4 (by decide) (fun c_2 => ?_) (fun c_2 => ?_)
  · have hf := tm_iF c_2 hf
    refine lv_ldc (v := 2143289344) hx hb hown (hts _ kJxf58ca_floatToIntBits_5c35a_c77) dJxf58ca_floatToIntBits_5c35a_12 ?_
    obtain rfl := Option.some.inj hf
    exact hend _ _ _ _ hP hD hS rfl dJxf58ca_floatToIntBits_5c35a_14
  · have hf := tm_iT c_2 hf
    refine lv_fload_n hx hb dJxf58ca_floatToIntBits_5c35a_7 rfl (lv_at hl 0 rfl) ?_
    refine vn_f2i hx hb (by rw [hml]; exact hl.1.symm) hown (hts _ kJxf58ca_floatToIntBits_5c35a_m74) (hts _ kJxf58ca_floatToIntBits_5c35a_n74) (hts _ kJxf58ca_floatToIntBits_5c35a_s74) (hts _ kJxf58ca_floatToIntBits_5c35a_i74) (Nat.le_of_ble_eq_true rfl) (Nat.le_of_ble_eq_true rfl) dJxf58ca_floatToIntBits_5c35a_8 ?_
    obtain rfl := Option.some.inj hf
    exact hend _ _ _ _ hP hD hS rfl dJxf58ca_floatToIntBits_5c35a_11
set_option maxHeartbeats 4000000 in
set_option maxRecDepth 100000 in
theorem wX8_aspects_10 (l : Launch) (D : va_G) (cI cZ cR : ClassId) (N : Nat) (q0 : Nat → Nat) {p : Program} {e : Env} {s : State} {m : MethodId} {args : Array Value} {below : List Frame} {meth : Method} {c : Code} {A : Nat → Prop} {H0 : Heap} {Q : State → Prop} (C : tm_Cx p s m c args cX8_aspects 9 RX8 wsX8_aspects D (tm_ty cI cZ cR) A H0) (d0 : tm_M) (g0 : Int64) (v1 : Int32) : ∀ (n : Nat) (st : UInt32 × UInt32 × Int32 × Int32) (o : (UInt32 × UInt32 × Int32 × Int32)), tm_whl (bX8_aspects_10 N d0 g0) n st = some o → (fun (o : UInt32 × UInt32 × Int32 × Int32) => ∀ (H : Heap) (locs : List Loc) (ls : Array Slot), va_P D vwCl (WX8 cI cZ cR q0 d0 g0) H → va_D A (WX8 cI cZ cR q0 d0 g0) → va_S A H0 H locs → lv_has ls 9 [(1, .int v1), (2, .float o.1), (3, .float o.2.1), (4, .int o.2.2.1)] → W p l e rmX8_aspects s m args below meth c H locs 0 0 Q (F0 m 159 ls [])) o → (fun (st : UInt32 × UInt32 × Int32 × Int32) => ∀ (H : Heap) (locs : List Loc) (ls : Array Slot), va_P D vwCl (WX8 cI cZ cR q0 d0 g0) H → va_D A (WX8 cI cZ cR q0 d0 g0) → va_S A H0 H locs → lv_has ls 9 [(0, .ref (q0 0)), (1, .int v1), (2, .float st.1), (3, .float st.2.1), (4, .int st.2.2.1), (5, .int st.2.2.2)] → W p l e rmX8_aspects s m args below meth c H locs 0 0 Q (F0 m 10 ls [])) st := by
  obtain ⟨hx, hb, hml, hown, hts, hK, hA⟩ := id C
  refine tm_whl_W (Wh := fun (st : UInt32 × UInt32 × Int32 × Int32) => ∀ (H : Heap) (locs : List Loc) (ls : Array Slot), va_P D vwCl (WX8 cI cZ cR q0 d0 g0) H → va_D A (WX8 cI cZ cR q0 d0 g0) → va_S A H0 H locs → lv_has ls 9 [(0, .ref (q0 0)), (1, .int v1), (2, .float st.1), (3, .float st.2.1), (4, .int st.2.2.1), (5, .int st.2.2.2)] → W p l e rmX8_aspects s m args below meth c H locs 0 0 Q (F0 m 10 ls [])) (Wx := fun (o : UInt32 × UInt32 × Int32 × Int32) => ∀ (H : Heap) (locs : List Loc) (ls : Array Slot), va_P D vwCl (WX8 cI cZ cR q0 d0 g0) H → va_D A (WX8 cI cZ cR q0 d0 g0) → va_S A H0 H locs → lv_has ls 9 [(1, .int v1), (2, .float o.1), (3, .float o.2.1), (4, .int o.2.2.1)] → W p l e rmX8_aspects s m args below meth c H locs 0 0 Q (F0 m 159 ls [])) ?_
  intro st r hf hk H locs ls hP hD hS hl
  unfold bX8_aspects_10 at hf
  refine lv_iload hx hb dX8_aspects_10 (lv_at hl 5 rfl) ?_
  refine lv_aload_n hx hb dX8_aspects_12 rfl (lv_at hl 0 rfl) ?_
  refine va_get (D := D) (ci := 8) (v := .ref (q0 1)) (C := RX8) (T := TX8) (N := 18) hx hb hts uX8_aspects_X8 hown hK hP 0 rfl rfl 0 (by decide) (hts _ kX8_aspects_f7) (fun _ h9 => h9) rfl dX8_aspects_13 ?_
  refine lv_iconst (v := 0) hx hb dX8_aspects_16 (by decide) ?_
  refine va_iald hx hb hK hP 1 0 rfl rfl (tm_inb_in (by decide)) dX8_aspects_17 ?_
  refine lv_icmp_ge (tgt := 159) hx hb dX8_aspects_18 (by decide) (fun c_1 => ?_) (fun c_1 => ?_)
  · have hf := tm_iT c_1 hf
    obtain rfl := Option.some.inj hf
    exact hk _ _ _ hP hD hS (lv_sub hl [1, 2, 3, 4] rfl)
  · have hf := tm_iF c_1 hf
    refine lv_aload_n hx hb dX8_aspects_21 rfl (lv_at hl 0 rfl) ?_
    refine lv_iload hx hb dX8_aspects_22 (lv_at hl 5 rfl) ?_
    obtain ⟨t_2, ot_2, hf⟩ := tm_bS hf
    refine tm_cVI (As := [.int st.2.2.2]) (rest := []) ⟨hx, hb, hml, hown, hts⟩ (tX8_childMany l D cI cZ cR N q0 d0 g0 st.2.2.2 t_2 ot_2) (cwV 1 hts gX8_aspects_X8_childMany rfl rfl rfl hdwsV_X8_childMany ⟨Nat.le_of_ble_eq_true rfl, Nat.le_of_ble_eq_true rfl⟩) hK hP hD hS hA [0, 1, 2, 3, 4, 5, 6, 7, 8, 9, 10, 11, 12, 13, 14, 15] (by decide) rfl rfl (ci := 8) rfl rfl rfl (fun _ => WX8 cI cZ cR q0 d0 g0) (()) rfl rfl hl.1 rfl (Nat.le_of_ble_eq_true rfl) dX8_aspects_24 ⟨Nat.zero_le _, Nat.zero_le _⟩ (fun _ _ H locs hP hD hS => ?_)
    refine lv_if_ne (tgt := 153) hx hb dX8_aspects_27 (by decide) (fun c_3 => ?_) (fun c_3 => ?_)
    · have hf := tm_iF c_3 hf
      obtain ⟨x_4, ex_4⟩ : ∃ y : Int32, y = st.2.2.2 + 1 := ⟨_, rfl⟩
      have hf := tm_at ex_4 hf
      refine lv_iinc (v := x_4) (lv' := [(5, .int x_4), (0, .ref (q0 0)), (1, .int v1), (2, .float st.1), (3, .float st.2.1), (4, .int st.2.2.1)]) hx hb dX8_aspects_153 hl (k := 5) rfl (by rw [ex_4]; rfl) (by decide) rfl (fun ls hl => ?_)
      refine lv_goto (tgt := 10) hx hb dX8_aspects_156 (by decide) ?_
      obtain rfl := Option.some.inj hf
      exact hk _ _ _ hP hD hS (lv_sub hl [1, 2, 3, 4, 5, 0] rfl)
    · have hf := tm_iT c_3 hf
      refine lv_aload_n hx hb dX8_aspects_30 rfl (lv_at hl 0 rfl) ?_
      refine va_get (D := D) (ci := 8) (v := .ref (q0 8)) (C := RX8) (T := TX8) (N := 18) hx hb hts uX8_aspects_X8 hown hK hP 0 rfl rfl 8 (by decide) (hts _ kX8_aspects_f31) (fun _ h9 => h9) rfl dX8_aspects_31 ?_
      refine lv_iload hx hb dX8_aspects_34 (lv_at hl 5 rfl) ?_
      obtain ⟨h_5, hf⟩ := tm_gS hf
      refine va_iald hx hb hK hP 8 0 rfl rfl (tm_inb_in h_5) dX8_aspects_36 ?_
      refine lv_if_le (tgt := 153) hx hb dX8_aspects_37 (by decide) (fun c_6 => ?_) (fun c_6 => ?_)
      · have hf := tm_iT c_6 hf
        obtain ⟨x_7, ex_7⟩ : ∃ y : Int32, y = st.2.2.2 + 1 := ⟨_, rfl⟩
        have hf := tm_at ex_7 hf
        refine lv_iinc (v := x_7) (lv' := [(5, .int x_7), (0, .ref (q0 0)), (1, .int v1), (2, .float st.1), (3, .float st.2.1), (4, .int st.2.2.1)]) hx hb dX8_aspects_153 hl (k := 5) rfl (by rw [ex_7]; rfl) (by decide) rfl (fun ls hl => ?_)
        refine lv_goto (tgt := 10) hx hb dX8_aspects_156 (by decide) ?_
        obtain rfl := Option.some.inj hf
        exact hk _ _ _ hP hD hS (lv_sub hl [1, 2, 3, 4, 5, 0] rfl)
      · have hf := tm_iF c_6 hf
        refine lv_aload_n hx hb dX8_aspects_40 rfl (lv_at hl 0 rfl) ?_
        refine va_get (D := D) (ci := 8) (v := .ref (q0 9)) (C := RX8) (T := TX8) (N := 18) hx hb hts uX8_aspects_X8 hown hK hP 0 rfl rfl 9 (by decide) (hts _ kX8_aspects_f34) (fun _ h9 => h9) rfl dX8_aspects_41 ?_
        refine lv_iload hx hb dX8_aspects_44 (lv_at hl 5 rfl) ?_
        refine va_iald hx hb hK hP 9 0 rfl rfl (tm_inb_in h_5) dX8_aspects_46 ?_
        refine lv_if_le (tgt := 153) hx hb dX8_aspects_47 (by decide) (fun c_8 => ?_) (fun c_8 => ?_)
        · have hf := tm_iT c_8 hf
          obtain ⟨x_9, ex_9⟩ : ∃ y : Int32, y = st.2.2.2 + 1 := ⟨_, rfl⟩
          have hf := tm_at ex_9 hf
          refine lv_iinc (v := x_9) (lv' := [(5, .int x_9), (0, .ref (q0 0)), (1, .int v1), (2, .float st.1), (3, .float st.2.1), (4, .int st.2.2.1)]) hx hb dX8_aspects_153 hl (k := 5) rfl (by rw [ex_9]; rfl) (by decide) rfl (fun ls hl => ?_)
          refine lv_goto (tgt := 10) hx hb dX8_aspects_156 (by decide) ?_
          obtain rfl := Option.some.inj hf
          exact hk _ _ _ hP hD hS (lv_sub hl [1, 2, 3, 4, 5, 0] rfl)
        · have hf := tm_iF c_8 hf
          refine lv_aload_n hx hb dX8_aspects_50 rfl (lv_at hl 0 rfl) ?_
          refine va_get (D := D) (ci := 8) (v := .ref (q0 8)) (C := RX8) (T := TX8) (N := 18) hx hb hts uX8_aspects_X8 hown hK hP 0 rfl rfl 8 (by decide) (hts _ kX8_aspects_f31) (fun _ h9 => h9) rfl dX8_aspects_51 ?_
          refine lv_iload hx hb dX8_aspects_54 (lv_at hl 5 rfl) ?_
          refine va_iald hx hb hK hP 8 0 rfl rfl (tm_inb_in h_5) dX8_aspects_56 ?_
          refine lv_aload_n hx hb dX8_aspects_57 rfl (lv_at hl 0 rfl) ?_
          refine va_get (D := D) (ci := 8) (v := .ref (q0 9)) (C := RX8) (T := TX8) (N := 18) hx hb hts uX8_aspects_X8 hown hK hP 0 rfl rfl 9 (by decide) (hts _ kX8_aspects_f34) (fun _ h9 => h9) rfl dX8_aspects_58 ?_
          refine lv_iload hx hb dX8_aspects_61 (lv_at hl 5 rfl) ?_
          refine va_iald hx hb hK hP 9 0 rfl rfl (tm_inb_in h_5) dX8_aspects_63 ?_
          refine lv_icmp_le (tgt := 77) hx hb dX8_aspects_64 (by decide) (fun c_10 => ?_) (fun c_10 => ?_)
          · have hf := tm_iT c_10 hf
            refine lv_aload_n hx hb dX8_aspects_77 rfl (lv_at hl 0 rfl) ?_
            refine va_get (D := D) (ci := 8) (v := .ref (q0 9)) (C := RX8) (T := TX8) (N := 18) hx hb hts uX8_aspects_X8 hown hK hP 0 rfl rfl 9 (by decide) (hts _ kX8_aspects_f34) (fun _ h9 => h9) rfl dX8_aspects_78 ?_
            refine lv_iload hx hb dX8_aspects_81 (lv_at hl 5 rfl) ?_
            refine va_iald hx hb hK hP 9 0 rfl rfl (tm_inb_in h_5) dX8_aspects_83 ?_
            refine lv_topi (fun x_11 ex_11 => ?_)
            have hf := tm_at ex_11 hf
            refine lv_istore (lv' := [(6, .int x_11), (0, .ref (q0 0)), (1, .int v1), (2, .float st.1), (3, .float st.2.1), (4, .int st.2.2.1), (5, .int st.2.2.2)]) hx hb dX8_aspects_84 hl (by decide) rfl (fun ls hl => ?_)
            refine lv_aload_n hx hb dX8_aspects_86 rfl (lv_at hl 1 rfl) ?_
            refine va_get (D := D) (ci := 8) (v := .ref (q0 8)) (C := RX8) (T := TX8) (N := 18) hx hb hts uX8_aspects_X8 hown hK hP 0 rfl rfl 8 (by decide) (hts _ kX8_aspects_f31) (fun _ h9 => h9) rfl dX8_aspects_87 ?_
            refine lv_iload hx hb dX8_aspects_90 (lv_at hl 6 rfl) ?_
            refine va_iald hx hb hK hP 8 0 rfl rfl (tm_inb_in h_5) dX8_aspects_92 ?_
            refine lv_aload_n hx hb dX8_aspects_93 rfl (lv_at hl 1 rfl) ?_
            refine va_get (D := D) (ci := 8) (v := .ref (q0 9)) (C := RX8) (T := TX8) (N := 18) hx hb hts uX8_aspects_X8 hown hK hP 0 rfl rfl 9 (by decide) (hts _ kX8_aspects_f34) (fun _ h9 => h9) rfl dX8_aspects_94 ?_
            refine lv_iload hx hb dX8_aspects_97 (lv_at hl 6 rfl) ?_
            refine va_iald hx hb hK hP 9 0 rfl rfl (tm_inb_in h_5) dX8_aspects_99 ?_
            refine lv_icmp_le (tgt := 113) hx hb dX8_aspects_100 (by decide) (fun _ => ?_) (fun c9 => absurd c_10 c9)
            refine lv_aload_n hx hb dX8_aspects_113 rfl (lv_at hl 1 rfl) ?_
            refine va_get (D := D) (ci := 8) (v := .ref (q0 8)) (C := RX8) (T := TX8) (N := 18) hx hb hts uX8_aspects_X8 hown hK hP 0 rfl rfl 8 (by decide) (hts _ kX8_aspects_f31) (fun _ h9 => h9) rfl dX8_aspects_114 ?_
            refine lv_iload hx hb dX8_aspects_117 (lv_at hl 6 rfl) ?_
            refine va_iald hx hb hK hP 8 0 rfl rfl (tm_inb_in h_5) dX8_aspects_119 ?_
            refine lv_topi (fun x_12 ex_12 => ?_)
            have hf := tm_at ex_12 hf
            refine lv_istore (lv' := [(7, .int x_12), (6, .int x_11), (0, .ref (q0 0)), (1, .int v1), (2, .float st.1), (3, .float st.2.1), (4, .int st.2.2.1), (5, .int st.2.2.2)]) hx hb dX8_aspects_120 hl (by decide) rfl (fun ls hl => ?_)
            refine lv_iload hx hb dX8_aspects_122 (lv_at hl 1 rfl) ?_
            refine lv_i2f hx hb dX8_aspects_124 ?_
            refine lv_iload hx hb dX8_aspects_125 (lv_at hl 0 rfl) ?_
            refine lv_i2f hx hb dX8_aspects_127 ?_
            obtain ⟨h_13, hf⟩ := tm_gS hf
            refine lv_fdiv hx hb dX8_aspects_128 (tm_nn_n h_13) ?_
            refine lv_topf (fun x_14 ex_14 => ?_)
            have hf := tm_at ex_14 hf
            refine lv_fstore (lv' := [(8, .float x_14), (7, .int x_12), (6, .int x_11), (0, .ref (q0 0)), (1, .int v1), (2, .float st.1), (3, .float st.2.1), (4, .int st.2.2.1), (5, .int st.2.2.2)]) hx hb dX8_aspects_129 hl (by decide) rfl (fun ls hl => ?_)
            refine lv_fload hx hb dX8_aspects_131 (lv_at hl 0 rfl) ?_
            refine lv_fload_n hx hb dX8_aspects_133 rfl (lv_at hl 5 rfl) ?_
            refine lv_fcmp hx hb dX8_aspects_134 ?_
            refine lv_if_le (tgt := 143) hx hb dX8_aspects_135 (by decide) (fun c_15 => ?_) (fun c_15 => ?_)
            · have hf := tm_iT c_15 hf
              refine lv_fload_n hx hb dX8_aspects_143 rfl (lv_at hl 5 rfl) ?_
              refine lv_fstore_n (lv' := [(2, .float st.1), (8, .float x_14), (7, .int x_12), (6, .int x_11), (0, .ref (q0 0)), (1, .int v1), (3, .float st.2.1), (4, .int st.2.2.1), (5, .int st.2.2.2)]) hx hb dX8_aspects_144 rfl hl (by decide) rfl (fun ls hl => ?_)
              refine lv_fload_n hx hb dX8_aspects_145 rfl (lv_at hl 6 rfl) ?_
              refine lv_fload hx hb dX8_aspects_146 (lv_at hl 1 rfl) ?_
              obtain ⟨h_16, hf⟩ := tm_gS hf
              refine lv_fadd hx hb dX8_aspects_148 (tm_nn_n h_16) ?_
              refine lv_topf (fun x_17 ex_17 => ?_)
              have hf := tm_at ex_17 hf
              refine lv_fstore_n (lv' := [(3, .float x_17), (2, .float st.1), (8, .float x_14), (7, .int x_12), (6, .int x_11), (0, .ref (q0 0)), (1, .int v1), (4, .int st.2.2.1), (5, .int st.2.2.2)]) hx hb dX8_aspects_149 rfl hl (by decide) rfl (fun ls hl => ?_)
              obtain ⟨x_18, ex_18⟩ : ∃ y : Int32, y = st.2.2.1 + 1 := ⟨_, rfl⟩
              have hf := tm_at ex_18 hf
              refine lv_iinc (v := x_18) (lv' := [(4, .int x_18), (3, .float x_17), (2, .float st.1), (8, .float x_14), (7, .int x_12), (6, .int x_11), (0, .ref (q0 0)), (1, .int v1), (5, .int st.2.2.2)]) hx hb dX8_aspects_150 hl (k := 7) rfl (by rw [ex_18]; rfl) (by decide) rfl (fun ls hl => ?_)
              obtain ⟨x_19, ex_19⟩ : ∃ y : Int32, y = st.2.2.2 + 1 := ⟨_, rfl⟩
              have hf := tm_at ex_19 hf
              refine lv_iinc (v := x_19) (lv' := [(5, .int x_19), (4, .int x_18), (3, .float x_17), (2, .float st.1), (8, .float x_14), (7, .int x_12), (6, .int x_11), (0, .ref (q0 0)), (1, .int v1)]) hx hb dX8_aspects_153 hl (k := 8) rfl (by rw [ex_19]; rfl) (by decide) rfl (fun ls hl => ?_)
              refine lv_goto (tgt := 10) hx hb dX8_aspects_156 (by decide) ?_
              obtain rfl := Option.some.inj hf
              exact hk _ _ _ hP hD hS (lv_sub hl [7, 8, 3, 2, 1, 0] rfl)
            · have hf := tm_iF c_15 hf
              refine lv_fload hx hb dX8_aspects_138 (lv_at hl 0 rfl) ?_
              refine lv_goto (tgt := 144) hx hb dX8_aspects_140 (by decide) ?_
              refine lv_fstore_n (lv' := [(2, .float x_14), (8, .float x_14), (7, .int x_12), (6, .int x_11), (0, .ref (q0 0)), (1, .int v1), (3, .float st.2.1), (4, .int st.2.2.1), (5, .int st.2.2.2)]) hx hb dX8_aspects_144 rfl hl (by decide) rfl (fun ls hl => ?_)
              refine lv_fload_n hx hb dX8_aspects_145 rfl (lv_at hl 6 rfl) ?_
              refine lv_fload hx hb dX8_aspects_146 (lv_at hl 1 rfl) ?_
              obtain ⟨h_20, hf⟩ := tm_gS hf
              refine lv_fadd hx hb dX8_aspects_148 (tm_nn_n h_20) ?_
              refine lv_topf (fun x_21 ex_21 => ?_)
              have hf := tm_at ex_21 hf
              refine lv_fstore_n (lv' := [(3, .float x_21), (2, .float x_14), (8, .float x_14), (7, .int x_12), (6, .int x_11), (0, .ref (q0 0)), (1, .int v1), (4, .int st.2.2.1), (5, .int st.2.2.2)]) hx hb dX8_aspects_149 rfl hl (by decide) rfl (fun ls hl => ?_)
              obtain ⟨x_22, ex_22⟩ : ∃ y : Int32, y = st.2.2.1 + 1 := ⟨_, rfl⟩
              have hf := tm_at ex_22 hf
              refine lv_iinc (v := x_22) (lv' := [(4, .int x_22), (3, .float x_21), (2, .float x_14), (8, .float x_14), (7, .int x_12), (6, .int x_11), (0, .ref (q0 0)), (1, .int v1), (5, .int st.2.2.2)]) hx hb dX8_aspects_150 hl (k := 7) rfl (by rw [ex_22]; rfl) (by decide) rfl (fun ls hl => ?_)
              obtain ⟨x_23, ex_23⟩ : ∃ y : Int32, y = st.2.2.2 + 1 := ⟨_, rfl⟩
              have hf := tm_at ex_23 hf
              refine lv_iinc (v := x_23) (lv' := [(5, .int x_23), (4, .int x_22), (3, .float x_21), (2, .float x_14), (8, .float x_14), (7, .int x_12), (6, .int x_11), (0, .ref (q0 0)), (1, .int v1)]) hx hb dX8_aspects_153 hl (k := 8) rfl (by rw [ex_23]; rfl) (by decide) rfl (fun ls hl => ?_)
              refine lv_goto (tgt := 10) hx hb dX8_aspects_156 (by decide) ?_
              obtain rfl := Option.some.inj hf
              exact hk _ _ _ hP hD hS (lv_sub hl [7, 8, 3, 2, 1, 0] rfl)
          · have hf := tm_iF c_10 hf
            refine lv_aload_n hx hb dX8_aspects_67 rfl (lv_at hl 0 rfl) ?_
            refine va_get (D := D) (ci := 8) (v := .ref (q0 8)) (C := RX8) (T := TX8) (N := 18) hx hb hts uX8_aspects_X8 hown hK hP 0 rfl rfl 8 (by decide) (hts _ kX8_aspects_f31) (fun _ h9 => h9) rfl dX8_aspects_68 ?_
            refine lv_iload hx hb dX8_aspects_71 (lv_at hl 5 rfl) ?_
            refine va_iald hx hb hK hP 8 0 rfl rfl (tm_inb_in h_5) dX8_aspects_73 ?_
            refine lv_goto (tgt := 84) hx hb dX8_aspects_74 (by decide) ?_
            refine lv_topi (fun x_24 ex_24 => ?_)
            have hf := tm_at ex_24 hf
            refine lv_istore (lv' := [(6, .int x_24), (0, .ref (q0 0)), (1, .int v1), (2, .float st.1), (3, .float st.2.1), (4, .int st.2.2.1), (5, .int st.2.2.2)]) hx hb dX8_aspects_84 hl (by decide) rfl (fun ls hl => ?_)
            refine lv_aload_n hx hb dX8_aspects_86 rfl (lv_at hl 1 rfl) ?_
            refine va_get (D := D) (ci := 8) (v := .ref (q0 8)) (C := RX8) (T := TX8) (N := 18) hx hb hts uX8_aspects_X8 hown hK hP 0 rfl rfl 8 (by decide) (hts _ kX8_aspects_f31) (fun _ h9 => h9) rfl dX8_aspects_87 ?_
            refine lv_iload hx hb dX8_aspects_90 (lv_at hl 6 rfl) ?_
            refine va_iald hx hb hK hP 8 0 rfl rfl (tm_inb_in h_5) dX8_aspects_92 ?_
            refine lv_aload_n hx hb dX8_aspects_93 rfl (lv_at hl 1 rfl) ?_
            refine va_get (D := D) (ci := 8) (v := .ref (q0 9)) (C := RX8) (T := TX8) (N := 18) hx hb hts uX8_aspects_X8 hown hK hP 0 rfl rfl 9 (by decide) (hts _ kX8_aspects_f34) (fun _ h9 => h9) rfl dX8_aspects_94 ?_
            refine lv_iload hx hb dX8_aspects_97 (lv_at hl 6 rfl) ?_
            refine va_iald hx hb hK hP 9 0 rfl rfl (tm_inb_in h_5) dX8_aspects_99 ?_
            refine lv_icmp_le (tgt := 113) hx hb dX8_aspects_100 (by decide) (fun c9 => absurd c9 c_10) (fun _ => ?_)
            refine lv_aload_n hx hb dX8_aspects_103 rfl (lv_at hl 1 rfl) ?_
            refine va_get (D := D) (ci := 8) (v := .ref (q0 9)) (C := RX8) (T := TX8) (N := 18) hx hb hts uX8_aspects_X8 hown hK hP 0 rfl rfl 9 (by decide) (hts _ kX8_aspects_f34) (fun _ h9 => h9) rfl dX8_aspects_104 ?_
            refine lv_iload hx hb dX8_aspects_107 (lv_at hl 6 rfl) ?_
            refine va_iald hx hb hK hP 9 0 rfl rfl (tm_inb_in h_5) dX8_aspects_109 ?_
            refine lv_goto (tgt := 120) hx hb dX8_aspects_110 (by decide) ?_
            refine lv_topi (fun x_25 ex_25 => ?_)
            have hf := tm_at ex_25 hf
            refine lv_istore (lv' := [(7, .int x_25), (6, .int x_24), (0, .ref (q0 0)), (1, .int v1), (2, .float st.1), (3, .float st.2.1), (4, .int st.2.2.1), (5, .int st.2.2.2)]) hx hb dX8_aspects_120 hl (by decide) rfl (fun ls hl => ?_)
            refine lv_iload hx hb dX8_aspects_122 (lv_at hl 1 rfl) ?_
            refine lv_i2f hx hb dX8_aspects_124 ?_
            refine lv_iload hx hb dX8_aspects_125 (lv_at hl 0 rfl) ?_
            refine lv_i2f hx hb dX8_aspects_127 ?_
            obtain ⟨h_26, hf⟩ := tm_gS hf
            refine lv_fdiv hx hb dX8_aspects_128 (tm_nn_n h_26) ?_
            refine lv_topf (fun x_27 ex_27 => ?_)
            have hf := tm_at ex_27 hf
            refine lv_fstore (lv' := [(8, .float x_27), (7, .int x_25), (6, .int x_24), (0, .ref (q0 0)), (1, .int v1), (2, .float st.1), (3, .float st.2.1), (4, .int st.2.2.1), (5, .int st.2.2.2)]) hx hb dX8_aspects_129 hl (by decide) rfl (fun ls hl => ?_)
            refine lv_fload hx hb dX8_aspects_131 (lv_at hl 0 rfl) ?_
            refine lv_fload_n hx hb dX8_aspects_133 rfl (lv_at hl 5 rfl) ?_
            refine lv_fcmp hx hb dX8_aspects_134 ?_
            refine lv_if_le (tgt := 143) hx hb dX8_aspects_135 (by decide) (fun c_28 => ?_) (fun c_28 => ?_)
            · have hf := tm_iT c_28 hf
              refine lv_fload_n hx hb dX8_aspects_143 rfl (lv_at hl 5 rfl) ?_
              refine lv_fstore_n (lv' := [(2, .float st.1), (8, .float x_27), (7, .int x_25), (6, .int x_24), (0, .ref (q0 0)), (1, .int v1), (3, .float st.2.1), (4, .int st.2.2.1), (5, .int st.2.2.2)]) hx hb dX8_aspects_144 rfl hl (by decide) rfl (fun ls hl => ?_)
              refine lv_fload_n hx hb dX8_aspects_145 rfl (lv_at hl 6 rfl) ?_
              refine lv_fload hx hb dX8_aspects_146 (lv_at hl 1 rfl) ?_
              obtain ⟨h_29, hf⟩ := tm_gS hf
              refine lv_fadd hx hb dX8_aspects_148 (tm_nn_n h_29) ?_
              refine lv_topf (fun x_30 ex_30 => ?_)
              have hf := tm_at ex_30 hf
              refine lv_fstore_n (lv' := [(3, .float x_30), (2, .float st.1), (8, .float x_27), (7, .int x_25), (6, .int x_24), (0, .ref (q0 0)), (1, .int v1), (4, .int st.2.2.1), (5, .int st.2.2.2)]) hx hb dX8_aspects_149 rfl hl (by decide) rfl (fun ls hl => ?_)
              obtain ⟨x_31, ex_31⟩ : ∃ y : Int32, y = st.2.2.1 + 1 := ⟨_, rfl⟩
              have hf := tm_at ex_31 hf
              refine lv_iinc (v := x_31) (lv' := [(4, .int x_31), (3, .float x_30), (2, .float st.1), (8, .float x_27), (7, .int x_25), (6, .int x_24), (0, .ref (q0 0)), (1, .int v1), (5, .int st.2.2.2)]) hx hb dX8_aspects_150 hl (k := 7) rfl (by rw [ex_31]; rfl) (by decide) rfl (fun ls hl => ?_)
              obtain ⟨x_32, ex_32⟩ : ∃ y : Int32, y = st.2.2.2 + 1 := ⟨_, rfl⟩
              have hf := tm_at ex_32 hf
              refine lv_iinc (v := x_32) (lv' := [(5, .int x_32), (4, .int x_31), (3, .float x_30), (2, .float st.1), (8, .float x_27), (7, .int x_25), (6, .int x_24), (0, .ref (q0 0)), (1, .int v1)]) hx hb dX8_aspects_153 hl (k := 8) rfl (by rw [ex_32]; rfl) (by decide) rfl (fun ls hl => ?_)
              refine lv_goto (tgt := 10) hx hb dX8_aspects_156 (by decide) ?_
              obtain rfl := Option.some.inj hf
              exact hk _ _ _ hP hD hS (lv_sub hl [7, 8, 3, 2, 1, 0] rfl)
            · have hf := tm_iF c_28 hf
              refine lv_fload hx hb dX8_aspects_138 (lv_at hl 0 rfl) ?_
              refine lv_goto (tgt := 144) hx hb dX8_aspects_140 (by decide) ?_
              refine lv_fstore_n (lv' := [(2, .float x_27), (8, .float x_27), (7, .int x_25), (6, .int x_24), (0, .ref (q0 0)), (1, .int v1), (3, .float st.2.1), (4, .int st.2.2.1), (5, .int st.2.2.2)]) hx hb dX8_aspects_144 rfl hl (by decide) rfl (fun ls hl => ?_)
              refine lv_fload_n hx hb dX8_aspects_145 rfl (lv_at hl 6 rfl) ?_
              refine lv_fload hx hb dX8_aspects_146 (lv_at hl 1 rfl) ?_
              obtain ⟨h_33, hf⟩ := tm_gS hf
              refine lv_fadd hx hb dX8_aspects_148 (tm_nn_n h_33) ?_
              refine lv_topf (fun x_34 ex_34 => ?_)
              have hf := tm_at ex_34 hf
              refine lv_fstore_n (lv' := [(3, .float x_34), (2, .float x_27), (8, .float x_27), (7, .int x_25), (6, .int x_24), (0, .ref (q0 0)), (1, .int v1), (4, .int st.2.2.1), (5, .int st.2.2.2)]) hx hb dX8_aspects_149 rfl hl (by decide) rfl (fun ls hl => ?_)
              obtain ⟨x_35, ex_35⟩ : ∃ y : Int32, y = st.2.2.1 + 1 := ⟨_, rfl⟩
              have hf := tm_at ex_35 hf
              refine lv_iinc (v := x_35) (lv' := [(4, .int x_35), (3, .float x_34), (2, .float x_27), (8, .float x_27), (7, .int x_25), (6, .int x_24), (0, .ref (q0 0)), (1, .int v1), (5, .int st.2.2.2)]) hx hb dX8_aspects_150 hl (k := 7) rfl (by rw [ex_35]; rfl) (by decide) rfl (fun ls hl => ?_)
              obtain ⟨x_36, ex_36⟩ : ∃ y : Int32, y = st.2.2.2 + 1 := ⟨_, rfl⟩
              have hf := tm_at ex_36 hf
              refine lv_iinc (v := x_36) (lv' := [(5, .int x_36), (4, .int x_35), (3, .float x_34), (2, .float x_27), (8, .float x_27), (7, .int x_25), (6, .int x_24), (0, .ref (q0 0)), (1, .int v1)]) hx hb dX8_aspects_153 hl (k := 8) rfl (by rw [ex_36]; rfl) (by decide) rfl (fun ls hl => ?_)
              refine lv_goto (tgt := 10) hx hb dX8_aspects_156 (by decide) ?_
              obtain rfl := Option.some.inj hf
              exact hk _ _ _ hP hD hS (lv_sub hl [7, 8, 3, 2, 1, 0] rfl)
set_option maxHeartbeats 4000000 in
set_option maxRecDepth 100000 in
theorem tX8_aspects (l : Launch) (D : va_G) (cI cZ cR : ClassId) (N : Nat) (q0 : Nat → Nat) (d0 : tm_M) (g0 : Int64) (p1 : Int32) (r0 : Int32) (hf : fX8_aspects N d0 g0 p1 = some r0) : tm_CI l D (tm_ty cI cZ cR) yX8_aspects wsX8_aspects rmX8_aspects [.ref (q0 0), .int p1] (WX8 cI cZ cR q0 d0 g0) r0 (WX8 cI cZ cR q0 d0 g0) := by
  refine tm_mkI (cc := cX8_aspects) (maxL := 9) (ty := .int) (by decide) rfl (Nat.le_of_ble_eq_true rfl) ?_
  intro p e s m below meth c A ls Q C hP hD hS hl hend
  have C : tm_Cx p s m c [.ref (q0 0), .int p1].toArray cX8_aspects 9 RX8 wsX8_aspects D (tm_ty cI cZ cR) A s.heap := C
  obtain ⟨hx, hb, hml, hown, hts, hK, hA⟩ := id C
  have hl : lv_has ls 9 [(0, .ref (q0 0)), (1, .int p1)] := hl
  unfold fX8_aspects at hf
  refine lv_fconst0 hx hb dX8_aspects_0 ?_
  refine lv_fstore_n (lv' := [(2, .float FP.fconst0), (0, .ref (q0 0)), (1, .int p1)]) hx hb dX8_aspects_1 rfl hl (by decide) rfl (fun ls hl => ?_)
  refine lv_fconst0 hx hb dX8_aspects_2 ?_
  refine lv_fstore_n (lv' := [(3, .float FP.fconst0), (2, .float FP.fconst0), (0, .ref (q0 0)), (1, .int p1)]) hx hb dX8_aspects_3 rfl hl (by decide) rfl (fun ls hl => ?_)
  refine lv_iconst (v := 0) hx hb dX8_aspects_4 (by decide) ?_
  refine lv_istore (lv' := [(4, .int 0), (3, .float FP.fconst0), (2, .float FP.fconst0), (0, .ref (q0 0)), (1, .int p1)]) hx hb dX8_aspects_5 hl (by decide) rfl (fun ls hl => ?_)
  refine lv_iconst (v := 0) hx hb dX8_aspects_7 (by decide) ?_
  refine lv_istore (lv' := [(5, .int 0), (4, .int 0), (3, .float FP.fconst0), (2, .float FP.fconst0), (0, .ref (q0 0)), (1, .int p1)]) hx hb dX8_aspects_8 hl (by decide) rfl (fun ls hl => ?_)
  obtain ⟨t_37, ot_37, hf⟩ := tm_bS hf
  refine wX8_aspects_10 l D cI cZ cR N q0 C d0 g0 p1 _ _ _ ot_37 ?_ _ _ _ hP hD hS (lv_sub hl [4, 5, 3, 2, 1, 0] rfl)
  intro H locs ls hP hD hS hl
  refine lv_iload hx hb dX8_aspects_159 (lv_at hl 3 rfl) ?_
  refine lv_if_ne (tgt := 168) hx hb dX8_aspects_161 (by decide) (fun c_38 => ?_) (fun c_38 => ?_)
  · have hf := tm_iF c_38 hf
    refine lv_iload_n hx hb dX8_aspects_168 rfl (lv_at hl 0 rfl) ?_
    refine lv_if_eq (tgt := 176) hx hb dX8_aspects_169 (by decide) (fun c_39 => ?_) (fun c_39 => ?_)
    · have hf := tm_iT c_39 hf
      refine lv_fload_n hx hb dX8_aspects_176 rfl (lv_at hl 2 rfl) ?_
      refine lv_iload hx hb dX8_aspects_177 (lv_at hl 3 rfl) ?_
      refine lv_i2f hx hb dX8_aspects_179 ?_
      obtain ⟨h_40, hf⟩ := tm_gS hf
      refine lv_fdiv hx hb dX8_aspects_180 (tm_nn_n h_40) ?_
      obtain ⟨t_41, ot_41, hf⟩ := tm_bS hf
      refine tm_cSI (As := [.float (FP.fdiv t_37.2.1 (FP.i2f t_37.2.2.1))]) (rest := []) ⟨hx, hb, hml, hown, hts⟩ (tJxf58ca_floatToIntBits_5c35a l D cI cZ cR N (FP.fdiv t_37.2.1 (FP.i2f t_37.2.2.1)) t_41 ot_41) (va_cwS 1 hts gX8_aspects_Jxf58ca_floatToIntBits_5c35a rfl rfl rfl hdwsS_Jxf58ca_floatToIntBits_5c35a ⟨Nat.le_of_ble_eq_true rfl, Nat.le_of_ble_eq_true rfl⟩) hK hP hD hS hA [] (by decide) rfl rfl (fun _ => WX8 cI cZ cR q0 d0 g0) (()) rfl rfl hl.1 rfl (Nat.le_of_ble_eq_true rfl) dX8_aspects_181 ⟨Nat.zero_le _, Nat.zero_le _⟩ (fun _ _ H locs hP hD hS => ?_)
      obtain rfl := Option.some.inj hf
      exact hend _ _ _ _ hP hD hS rfl dX8_aspects_184
    · have hf := tm_iF c_39 hf
      refine lv_fload_n hx hb dX8_aspects_172 rfl (lv_at hl 1 rfl) ?_
      refine lv_goto (tgt := 181) hx hb dX8_aspects_173 (by decide) ?_
      obtain ⟨t_42, ot_42, hf⟩ := tm_bS hf
      refine tm_cSI (As := [.float t_37.1]) (rest := []) ⟨hx, hb, hml, hown, hts⟩ (tJxf58ca_floatToIntBits_5c35a l D cI cZ cR N t_37.1 t_42 ot_42) (va_cwS 1 hts gX8_aspects_Jxf58ca_floatToIntBits_5c35a rfl rfl rfl hdwsS_Jxf58ca_floatToIntBits_5c35a ⟨Nat.le_of_ble_eq_true rfl, Nat.le_of_ble_eq_true rfl⟩) hK hP hD hS hA [] (by decide) rfl rfl (fun _ => WX8 cI cZ cR q0 d0 g0) (()) rfl rfl hl.1 rfl (Nat.le_of_ble_eq_true rfl) dX8_aspects_181 ⟨Nat.zero_le _, Nat.zero_le _⟩ (fun _ _ H locs hP hD hS => ?_)
      obtain rfl := Option.some.inj hf
      exact hend _ _ _ _ hP hD hS rfl dX8_aspects_184
  · have hf := tm_iT c_38 hf
    refine lv_iconst (v := (-1)) hx hb dX8_aspects_164 (by decide) ?_
    refine lv_goto (tgt := 184) hx hb dX8_aspects_165 (by decide) ?_
    obtain rfl := Option.some.inj hf
    exact hend _ _ _ _ hP hD hS rfl dX8_aspects_184
set_option maxHeartbeats 4000000 in
set_option maxRecDepth 100000 in
theorem tX8_worstAspect (l : Launch) (D : va_G) (cI cZ cR : ClassId) (N : Nat) (q0 : Nat → Nat) (d0 : tm_M) (g0 : Int64) (r0 : Int32) (z0 : tm_M) (hf : fX8_worstAspect N d0 g0 = some (r0, z0)) : tm_CI l D (tm_ty cI cZ cR) yX8_worstAspect wsX8_worstAspect rmX8_worstAspect [.ref (q0 0)] (WX8 cI cZ cR q0 d0 g0) r0 (WX8 cI cZ cR q0 z0 g0) := by
  refine tm_mkI (cc := cX8_worstAspect) (maxL := 1) (ty := .int) (by decide) rfl (Nat.le_of_ble_eq_true rfl) ?_
  intro p e s m below meth c A ls Q C hP hD hS hl hend
  have C : tm_Cx p s m c [.ref (q0 0)].toArray cX8_worstAspect 1 RX8 wsX8_worstAspect D (tm_ty cI cZ cR) A s.heap := C
  obtain ⟨hx, hb, hml, hown, hts, hK, hA⟩ := id C
  have hl : lv_has ls 1 [(0, .ref (q0 0))] := hl
  unfold fX8_worstAspect at hf
  refine lv_aload_n hx hb dX8_worstAspect_0 rfl (lv_at hl 0 rfl) ?_
  obtain ⟨t_1, ot_1, hf⟩ := tm_bS hf
  refine tm_cVV (As := []) (rest := []) ⟨hx, hb, hml, hown, hts⟩ (tX8_lays l D cI cZ cR N q0 d0 g0 t_1 ot_1) (cwV 0 hts gX8_worstAspect_X8_lays rfl rfl rfl hdwsV_X8_lays ⟨Nat.le_of_ble_eq_true rfl, Nat.le_of_ble_eq_true rfl⟩) hK hP hD hS hA [0, 1, 2, 3, 4, 5, 6, 7, 8, 9, 10, 11, 12, 13, 14, 15] (by decide) rfl rfl (ci := 8) rfl rfl rfl (fun _ => WX8 cI cZ cR q0 t_1 g0) (()) rfl rfl hl.1 rfl (Nat.le_of_ble_eq_true rfl) dX8_worstAspect_1 ⟨Nat.zero_le _, Nat.zero_le _⟩ (fun _ _ H locs hP hD hS => ?_)
  refine lv_aload_n hx hb dX8_worstAspect_4 rfl (lv_at hl 0 rfl) ?_
  refine lv_iconst (v := 1) hx hb dX8_worstAspect_5 (by decide) ?_
  obtain ⟨t_2, ot_2, hf⟩ := tm_bS hf
  refine tm_cVI (As := [.int 1]) (rest := []) ⟨hx, hb, hml, hown, hts⟩ (tX8_aspects l D cI cZ cR N q0 t_1 g0 (1 : Int32) t_2 ot_2) (cwV 1 hts gX8_worstAspect_X8_aspects rfl rfl rfl hdwsV_X8_aspects ⟨Nat.le_of_ble_eq_true rfl, Nat.le_of_ble_eq_true rfl⟩) hK hP hD hS hA [0, 1, 2, 3, 4, 5, 6, 7, 8, 9, 10, 11, 12, 13, 14, 15] (by decide) rfl rfl (ci := 8) rfl rfl rfl (fun _ => WX8 cI cZ cR q0 t_1 g0) (()) rfl rfl hl.1 rfl (Nat.le_of_ble_eq_true rfl) dX8_worstAspect_6 ⟨Nat.zero_le _, Nat.zero_le _⟩ (fun _ _ H locs hP hD hS => ?_)
  simp only [Option.some.injEq, Prod.mk.injEq] at hf
  obtain ⟨rfl, rfl⟩ := hf
  exact hend _ _ _ _ hP hD hS rfl dX8_worstAspect_9
set_option maxHeartbeats 4000000 in
set_option maxRecDepth 100000 in
theorem tX8_averageAspect (l : Launch) (D : va_G) (cI cZ cR : ClassId) (N : Nat) (q0 : Nat → Nat) (d0 : tm_M) (g0 : Int64) (r0 : Int32) (z0 : tm_M) (hf : fX8_averageAspect N d0 g0 = some (r0, z0)) : tm_CI l D (tm_ty cI cZ cR) yX8_averageAspect wsX8_averageAspect rmX8_averageAspect [.ref (q0 0)] (WX8 cI cZ cR q0 d0 g0) r0 (WX8 cI cZ cR q0 z0 g0) := by
  refine tm_mkI (cc := cX8_averageAspect) (maxL := 1) (ty := .int) (by decide) rfl (Nat.le_of_ble_eq_true rfl) ?_
  intro p e s m below meth c A ls Q C hP hD hS hl hend
  have C : tm_Cx p s m c [.ref (q0 0)].toArray cX8_averageAspect 1 RX8 wsX8_averageAspect D (tm_ty cI cZ cR) A s.heap := C
  obtain ⟨hx, hb, hml, hown, hts, hK, hA⟩ := id C
  have hl : lv_has ls 1 [(0, .ref (q0 0))] := hl
  unfold fX8_averageAspect at hf
  refine lv_aload_n hx hb dX8_averageAspect_0 rfl (lv_at hl 0 rfl) ?_
  obtain ⟨t_1, ot_1, hf⟩ := tm_bS hf
  refine tm_cVV (As := []) (rest := []) ⟨hx, hb, hml, hown, hts⟩ (tX8_lays l D cI cZ cR N q0 d0 g0 t_1 ot_1) (cwV 0 hts gX8_averageAspect_X8_lays rfl rfl rfl hdwsV_X8_lays ⟨Nat.le_of_ble_eq_true rfl, Nat.le_of_ble_eq_true rfl⟩) hK hP hD hS hA [0, 1, 2, 3, 4, 5, 6, 7, 8, 9, 10, 11, 12, 13, 14, 15] (by decide) rfl rfl (ci := 8) rfl rfl rfl (fun _ => WX8 cI cZ cR q0 t_1 g0) (()) rfl rfl hl.1 rfl (Nat.le_of_ble_eq_true rfl) dX8_averageAspect_1 ⟨Nat.zero_le _, Nat.zero_le _⟩ (fun _ _ H locs hP hD hS => ?_)
  refine lv_aload_n hx hb dX8_averageAspect_4 rfl (lv_at hl 0 rfl) ?_
  refine lv_iconst (v := 0) hx hb dX8_averageAspect_5 (by decide) ?_
  obtain ⟨t_2, ot_2, hf⟩ := tm_bS hf
  refine tm_cVI (As := [.int 0]) (rest := []) ⟨hx, hb, hml, hown, hts⟩ (tX8_aspects l D cI cZ cR N q0 t_1 g0 (0 : Int32) t_2 ot_2) (cwV 1 hts gX8_averageAspect_X8_aspects rfl rfl rfl hdwsV_X8_aspects ⟨Nat.le_of_ble_eq_true rfl, Nat.le_of_ble_eq_true rfl⟩) hK hP hD hS hA [0, 1, 2, 3, 4, 5, 6, 7, 8, 9, 10, 11, 12, 13, 14, 15] (by decide) rfl rfl (ci := 8) rfl rfl rfl (fun _ => WX8 cI cZ cR q0 t_1 g0) (()) rfl rfl hl.1 rfl (Nat.le_of_ble_eq_true rfl) dX8_averageAspect_6 ⟨Nat.zero_le _, Nat.zero_le _⟩ (fun _ _ H locs hP hD hS => ?_)
  simp only [Option.some.injEq, Prod.mk.injEq] at hf
  obtain ⟨rfl, rfl⟩ := hf
  exact hend _ _ _ _ hP hD hS rfl dX8_averageAspect_9
set_option maxHeartbeats 4000000 in
set_option maxRecDepth 100000 in
theorem tX8_far (l : Launch) (D : va_G) (cI cZ cR : ClassId) (N : Nat) (p1 : Int32) (r0 : Int32) (hf : fX8_far N p1 = some r0) : tm_CI l D (tm_ty cI cZ cR) yX8_far wsX8_far rmX8_far [.int p1] (([] : va_W)) r0 (([] : va_W)) := by
  refine tm_mkI (cc := cX8_far) (maxL := 1) (ty := .int) (by decide) rfl (Nat.le_of_ble_eq_true rfl) ?_
  intro p e s m below meth c A ls Q C hP hD hS hl hend
  have C : tm_Cx p s m c [.int p1].toArray cX8_far 1 RX8 wsX8_far D (tm_ty cI cZ cR) A s.heap := C
  obtain ⟨hx, hb, hml, hown, hts, hK, hA⟩ := id C
  have hl : lv_has ls 1 [(0, .int p1)] := hl
  unfold fX8_far at hf
  refine lv_iload_n hx hb dX8_far_0 rfl (lv_at hl 0 rfl) ?_
  refine lv_if_ge (tgt := 9) hx hb dX8_far_1 (by decide) (fun c_1 => ?_) (fun c_1 => ?_)
  · have hf := tm_iT c_1 hf
    refine lv_iload_n hx hb dX8_far_9 rfl (lv_at hl 0 rfl) ?_
    obtain rfl := Option.some.inj hf
    exact hend _ _ _ _ hP hD hS rfl dX8_far_10
  · have hf := tm_iF c_1 hf
    refine lv_iload_n hx hb dX8_far_4 rfl (lv_at hl 0 rfl) ?_
    refine lv_ineg hx hb dX8_far_5 ?_
    refine lv_goto (tgt := 10) hx hb dX8_far_6 (by decide) ?_
    obtain rfl := Option.some.inj hf
    exact hend _ _ _ _ hP hD hS rfl dX8_far_10
set_option maxHeartbeats 4000000 in
set_option maxRecDepth 100000 in
theorem wX8_changeBy_31 (l : Launch) (D : va_G) (cI cZ cR : ClassId) (N : Nat) (q0 : Nat → Nat) {p : Program} {e : Env} {s : State} {m : MethodId} {args : Array Value} {below : List Frame} {meth : Method} {c : Code} {A : Nat → Prop} {H0 : Heap} {Q : State → Prop} (C : tm_Cx p s m c args cX8_changeBy 6 RX8 wsX8_changeBy D (tm_ty cI cZ cR) A H0) (g0 : Int64) (v1 : Int32) (v2 : Int32) : ∀ (n : Nat) (st : Int32 × tm_M) (o : (Int32 × tm_M)), tm_whl (bX8_changeBy_31 N) n st = some o → (fun (o : Int32 × tm_M) => ∀ (H : Heap) (locs : List Loc) (ls : Array Slot), va_P D vwCl (WX8 cI cZ cR q0 o.2 g0) H → va_D A (WX8 cI cZ cR q0 o.2 g0) → va_S A H0 H locs → lv_has ls 6 [(0, .ref (q0 0)), (1, .int v1), (2, .int v2)] → W p l e rmX8_changeBy s m args below meth c H locs 0 0 Q (F0 m 109 ls [])) o → (fun (st : Int32 × tm_M) => ∀ (H : Heap) (locs : List Loc) (ls : Array Slot), va_P D vwCl (WX8 cI cZ cR q0 st.2 g0) H → va_D A (WX8 cI cZ cR q0 st.2 g0) → va_S A H0 H locs → lv_has ls 6 [(0, .ref (q0 0)), (1, .int v1), (2, .int v2), (3, .int st.1)] → W p l e rmX8_changeBy s m args below meth c H locs 0 0 Q (F0 m 31 ls [])) st := by
  obtain ⟨hx, hb, hml, hown, hts, hK, hA⟩ := id C
  refine tm_whl_W (Wh := fun (st : Int32 × tm_M) => ∀ (H : Heap) (locs : List Loc) (ls : Array Slot), va_P D vwCl (WX8 cI cZ cR q0 st.2 g0) H → va_D A (WX8 cI cZ cR q0 st.2 g0) → va_S A H0 H locs → lv_has ls 6 [(0, .ref (q0 0)), (1, .int v1), (2, .int v2), (3, .int st.1)] → W p l e rmX8_changeBy s m args below meth c H locs 0 0 Q (F0 m 31 ls [])) (Wx := fun (o : Int32 × tm_M) => ∀ (H : Heap) (locs : List Loc) (ls : Array Slot), va_P D vwCl (WX8 cI cZ cR q0 o.2 g0) H → va_D A (WX8 cI cZ cR q0 o.2 g0) → va_S A H0 H locs → lv_has ls 6 [(0, .ref (q0 0)), (1, .int v1), (2, .int v2)] → W p l e rmX8_changeBy s m args below meth c H locs 0 0 Q (F0 m 109 ls [])) ?_
  intro st r hf hk H locs ls hP hD hS hl
  unfold bX8_changeBy_31 at hf
  refine lv_iload_n hx hb dX8_changeBy_31 rfl (lv_at hl 3 rfl) ?_
  refine lv_aload_n hx hb dX8_changeBy_32 rfl (lv_at hl 0 rfl) ?_
  refine va_get (D := D) (ci := 8) (v := .ref (q0 1)) (C := RX8) (T := TX8) (N := 18) hx hb hts uX8_changeBy_X8 hown hK hP 0 rfl rfl 0 (by decide) (hts _ kX8_changeBy_f7) (fun _ h9 => h9) rfl dX8_changeBy_33 ?_
  refine lv_iconst (v := 0) hx hb dX8_changeBy_36 (by decide) ?_
  refine va_iald hx hb hK hP 1 0 rfl rfl (tm_inb_in (by decide)) dX8_changeBy_37 ?_
  refine lv_icmp_ge (tgt := 109) hx hb dX8_changeBy_38 (by decide) (fun c_7 => ?_) (fun c_7 => ?_)
  · have hf := tm_iT c_7 hf
    obtain rfl := Option.some.inj hf
    exact hk _ _ _ hP hD hS (lv_sub hl [0, 1, 2] rfl)
  · have hf := tm_iF c_7 hf
    refine lv_aload_n hx hb dX8_changeBy_41 rfl (lv_at hl 0 rfl) ?_
    refine va_get (D := D) (ci := 8) (v := .ref (q0 15)) (C := RX8) (T := TX8) (N := 18) hx hb hts uX8_changeBy_X8 hown hK hP 0 rfl rfl 16 (by decide) (hts _ kX8_changeBy_f53) (fun _ h9 => h9) rfl dX8_changeBy_42 ?_
    refine lv_iconst (v := 4) hx hb dX8_changeBy_45 (by decide) ?_
    refine lv_iload_n hx hb dX8_changeBy_46 rfl (lv_at hl 3 rfl) ?_
    refine lv_imul hx hb dX8_changeBy_47 ?_
    refine lv_aload_n hx hb dX8_changeBy_48 rfl (lv_at hl 0 rfl) ?_
    refine va_get (D := D) (ci := 8) (v := .ref (q0 6)) (C := RX8) (T := TX8) (N := 18) hx hb hts uX8_changeBy_X8 hown hK hP 0 rfl rfl 6 (by decide) (hts _ kX8_changeBy_f25) (fun _ h9 => h9) rfl dX8_changeBy_49 ?_
    refine lv_iload_n hx hb dX8_changeBy_52 rfl (lv_at hl 3 rfl) ?_
    obtain ⟨h_8, hf⟩ := tm_gS hf
    refine va_iald hx hb hK hP 6 0 rfl rfl (tm_inb_in h_8) dX8_changeBy_53 ?_
    obtain ⟨h_9, hf⟩ := tm_gS hf
    refine tm_iast hx hb hK hP hD hS 15 0 rfl rfl (tm_inb_in h_9) dX8_changeBy_54 (fun z => WX8 cI cZ cR q0 z g0) (tm_upc st.2 15 (upd (st.2 15) (4 * st.1).toNatClampNeg (st.2 6 st.1.toNatClampNeg))) rfl (fun d0_10 ed0_10 H locs hP hD hS => ?_)
    have hf := tm_at ed0_10 hf
    refine lv_aload_n hx hb dX8_changeBy_55 rfl (lv_at hl 0 rfl) ?_
    refine va_get (D := D) (ci := 8) (v := .ref (q0 15)) (C := RX8) (T := TX8) (N := 18) hx hb hts uX8_changeBy_X8 hown hK hP 0 rfl rfl 16 (by decide) (hts _ kX8_changeBy_f53) (fun _ h9 => h9) rfl dX8_changeBy_56 ?_
    refine lv_iconst (v := 4) hx hb dX8_changeBy_59 (by decide) ?_
    refine lv_iload_n hx hb dX8_changeBy_60 rfl (lv_at hl 3 rfl) ?_
    refine lv_imul hx hb dX8_changeBy_61 ?_
    refine lv_iconst (v := 1) hx hb dX8_changeBy_62 (by decide) ?_
    refine lv_iadd hx hb dX8_changeBy_63 ?_
    refine lv_aload_n hx hb dX8_changeBy_64 rfl (lv_at hl 0 rfl) ?_
    refine va_get (D := D) (ci := 8) (v := .ref (q0 7)) (C := RX8) (T := TX8) (N := 18) hx hb hts uX8_changeBy_X8 hown hK hP 0 rfl rfl 7 (by decide) (hts _ kX8_changeBy_f28) (fun _ h9 => h9) rfl dX8_changeBy_65 ?_
    refine lv_iload_n hx hb dX8_changeBy_68 rfl (lv_at hl 3 rfl) ?_
    refine va_iald hx hb hK hP 7 0 rfl rfl (tm_inb_in h_8) dX8_changeBy_69 ?_
    obtain ⟨h_11, hf⟩ := tm_gS hf
    refine tm_iast hx hb hK hP hD hS 15 0 rfl rfl (tm_inb_in h_11) dX8_changeBy_70 (fun z => WX8 cI cZ cR q0 z g0) (tm_upc d0_10 15 (upd (d0_10 15) ((4 * st.1) + 1).toNatClampNeg (d0_10 7 st.1.toNatClampNeg))) rfl (fun d0_12 ed0_12 H locs hP hD hS => ?_)
    have hf := tm_at ed0_12 hf
    refine lv_aload_n hx hb dX8_changeBy_71 rfl (lv_at hl 0 rfl) ?_
    refine va_get (D := D) (ci := 8) (v := .ref (q0 15)) (C := RX8) (T := TX8) (N := 18) hx hb hts uX8_changeBy_X8 hown hK hP 0 rfl rfl 16 (by decide) (hts _ kX8_changeBy_f53) (fun _ h9 => h9) rfl dX8_changeBy_72 ?_
    refine lv_iconst (v := 4) hx hb dX8_changeBy_75 (by decide) ?_
    refine lv_iload_n hx hb dX8_changeBy_76 rfl (lv_at hl 3 rfl) ?_
    refine lv_imul hx hb dX8_changeBy_77 ?_
    refine lv_iconst (v := 2) hx hb dX8_changeBy_78 (by decide) ?_
    refine lv_iadd hx hb dX8_changeBy_79 ?_
    refine lv_aload_n hx hb dX8_changeBy_80 rfl (lv_at hl 0 rfl) ?_
    refine va_get (D := D) (ci := 8) (v := .ref (q0 8)) (C := RX8) (T := TX8) (N := 18) hx hb hts uX8_changeBy_X8 hown hK hP 0 rfl rfl 8 (by decide) (hts _ kX8_changeBy_f31) (fun _ h9 => h9) rfl dX8_changeBy_81 ?_
    refine lv_iload_n hx hb dX8_changeBy_84 rfl (lv_at hl 3 rfl) ?_
    refine va_iald hx hb hK hP 8 0 rfl rfl (tm_inb_in h_8) dX8_changeBy_85 ?_
    obtain ⟨h_13, hf⟩ := tm_gS hf
    refine tm_iast hx hb hK hP hD hS 15 0 rfl rfl (tm_inb_in h_13) dX8_changeBy_86 (fun z => WX8 cI cZ cR q0 z g0) (tm_upc d0_12 15 (upd (d0_12 15) ((4 * st.1) + 2).toNatClampNeg (d0_12 8 st.1.toNatClampNeg))) rfl (fun d0_14 ed0_14 H locs hP hD hS => ?_)
    have hf := tm_at ed0_14 hf
    refine lv_aload_n hx hb dX8_changeBy_87 rfl (lv_at hl 0 rfl) ?_
    refine va_get (D := D) (ci := 8) (v := .ref (q0 15)) (C := RX8) (T := TX8) (N := 18) hx hb hts uX8_changeBy_X8 hown hK hP 0 rfl rfl 16 (by decide) (hts _ kX8_changeBy_f53) (fun _ h9 => h9) rfl dX8_changeBy_88 ?_
    refine lv_iconst (v := 4) hx hb dX8_changeBy_91 (by decide) ?_
    refine lv_iload_n hx hb dX8_changeBy_92 rfl (lv_at hl 3 rfl) ?_
    refine lv_imul hx hb dX8_changeBy_93 ?_
    refine lv_iconst (v := 3) hx hb dX8_changeBy_94 (by decide) ?_
    refine lv_iadd hx hb dX8_changeBy_95 ?_
    refine lv_aload_n hx hb dX8_changeBy_96 rfl (lv_at hl 0 rfl) ?_
    refine va_get (D := D) (ci := 8) (v := .ref (q0 9)) (C := RX8) (T := TX8) (N := 18) hx hb hts uX8_changeBy_X8 hown hK hP 0 rfl rfl 9 (by decide) (hts _ kX8_changeBy_f34) (fun _ h9 => h9) rfl dX8_changeBy_97 ?_
    refine lv_iload_n hx hb dX8_changeBy_100 rfl (lv_at hl 3 rfl) ?_
    refine va_iald hx hb hK hP 9 0 rfl rfl (tm_inb_in h_8) dX8_changeBy_101 ?_
    obtain ⟨h_15, hf⟩ := tm_gS hf
    refine tm_iast hx hb hK hP hD hS 15 0 rfl rfl (tm_inb_in h_15) dX8_changeBy_102 (fun z => WX8 cI cZ cR q0 z g0) (tm_upc d0_14 15 (upd (d0_14 15) ((4 * st.1) + 3).toNatClampNeg (d0_14 9 st.1.toNatClampNeg))) rfl (fun d0_16 ed0_16 H locs hP hD hS => ?_)
    have hf := tm_at ed0_16 hf
    obtain ⟨x_17, ex_17⟩ : ∃ y : Int32, y = st.1 + 1 := ⟨_, rfl⟩
    have hf := tm_at ex_17 hf
    refine lv_iinc (v := x_17) (lv' := [(3, .int x_17), (0, .ref (q0 0)), (1, .int v1), (2, .int v2)]) hx hb dX8_changeBy_103 hl (k := 3) rfl (by rw [ex_17]; rfl) (by decide) rfl (fun ls hl => ?_)
    refine lv_goto (tgt := 31) hx hb dX8_changeBy_106 (by decide) ?_
    obtain rfl := Option.some.inj hf
    exact hk _ _ _ hP hD hS (lv_sub hl [1, 2, 3, 0] rfl)
set_option maxHeartbeats 4000000 in
set_option maxRecDepth 100000 in
theorem wX8_changeBy_146 (l : Launch) (D : va_G) (cI cZ cR : ClassId) (N : Nat) (q0 : Nat → Nat) {p : Program} {e : Env} {s : State} {m : MethodId} {args : Array Value} {below : List Frame} {meth : Method} {c : Code} {A : Nat → Prop} {H0 : Heap} {Q : State → Prop} (C : tm_Cx p s m c args cX8_changeBy 6 RX8 wsX8_changeBy D (tm_ty cI cZ cR) A H0) (d0 : tm_M) (g0 : Int64) : ∀ (n : Nat) (st : Int32 × Int32) (o : (Int32 × Int32)), tm_whl (bX8_changeBy_146 N d0) n st = some o → (fun (o : Int32 × Int32) => ∀ (H : Heap) (locs : List Loc) (ls : Array Slot), va_P D vwCl (WX8 cI cZ cR q0 d0 g0) H → va_D A (WX8 cI cZ cR q0 d0 g0) → va_S A H0 H locs → lv_has ls 6 [(4, .int o.1)] → W p l e rmX8_changeBy s m args below meth c H locs 0 0 Q (F0 m 257 ls [])) o → (fun (st : Int32 × Int32) => ∀ (H : Heap) (locs : List Loc) (ls : Array Slot), va_P D vwCl (WX8 cI cZ cR q0 d0 g0) H → va_D A (WX8 cI cZ cR q0 d0 g0) → va_S A H0 H locs → lv_has ls 6 [(0, .ref (q0 0)), (4, .int st.1), (5, .int st.2)] → W p l e rmX8_changeBy s m args below meth c H locs 0 0 Q (F0 m 146 ls [])) st := by
  obtain ⟨hx, hb, hml, hown, hts, hK, hA⟩ := id C
  refine tm_whl_W (Wh := fun (st : Int32 × Int32) => ∀ (H : Heap) (locs : List Loc) (ls : Array Slot), va_P D vwCl (WX8 cI cZ cR q0 d0 g0) H → va_D A (WX8 cI cZ cR q0 d0 g0) → va_S A H0 H locs → lv_has ls 6 [(0, .ref (q0 0)), (4, .int st.1), (5, .int st.2)] → W p l e rmX8_changeBy s m args below meth c H locs 0 0 Q (F0 m 146 ls [])) (Wx := fun (o : Int32 × Int32) => ∀ (H : Heap) (locs : List Loc) (ls : Array Slot), va_P D vwCl (WX8 cI cZ cR q0 d0 g0) H → va_D A (WX8 cI cZ cR q0 d0 g0) → va_S A H0 H locs → lv_has ls 6 [(4, .int o.1)] → W p l e rmX8_changeBy s m args below meth c H locs 0 0 Q (F0 m 257 ls [])) ?_
  intro st r hf hk H locs ls hP hD hS hl
  unfold bX8_changeBy_146 at hf
  refine lv_iload hx hb dX8_changeBy_146 (lv_at hl 2 rfl) ?_
  refine lv_aload_n hx hb dX8_changeBy_148 rfl (lv_at hl 0 rfl) ?_
  refine va_get (D := D) (ci := 8) (v := .ref (q0 1)) (C := RX8) (T := TX8) (N := 18) hx hb hts uX8_changeBy_X8 hown hK hP 0 rfl rfl 0 (by decide) (hts _ kX8_changeBy_f7) (fun _ h9 => h9) rfl dX8_changeBy_149 ?_
  refine lv_iconst (v := 0) hx hb dX8_changeBy_152 (by decide) ?_
  refine va_iald hx hb hK hP 1 0 rfl rfl (tm_inb_in (by decide)) dX8_changeBy_153 ?_
  refine lv_icmp_ge (tgt := 257) hx hb dX8_changeBy_154 (by decide) (fun c_24 => ?_) (fun c_24 => ?_)
  · have hf := tm_iT c_24 hf
    obtain rfl := Option.some.inj hf
    exact hk _ _ _ hP hD hS (lv_sub hl [1] rfl)
  · have hf := tm_iF c_24 hf
    refine lv_iload hx hb dX8_changeBy_157 (lv_at hl 1 rfl) ?_
    refine lv_aload_n hx hb dX8_changeBy_159 rfl (lv_at hl 0 rfl) ?_
    refine va_get (D := D) (ci := 8) (v := .ref (q0 6)) (C := RX8) (T := TX8) (N := 18) hx hb hts uX8_changeBy_X8 hown hK hP 0 rfl rfl 6 (by decide) (hts _ kX8_changeBy_f25) (fun _ h9 => h9) rfl dX8_changeBy_160 ?_
    refine lv_iload hx hb dX8_changeBy_163 (lv_at hl 2 rfl) ?_
    obtain ⟨h_25, hf⟩ := tm_gS hf
    refine va_iald hx hb hK hP 6 0 rfl rfl (tm_inb_in h_25) dX8_changeBy_165 ?_
    refine lv_aload_n hx hb dX8_changeBy_166 rfl (lv_at hl 0 rfl) ?_
    refine va_get (D := D) (ci := 8) (v := .ref (q0 15)) (C := RX8) (T := TX8) (N := 18) hx hb hts uX8_changeBy_X8 hown hK hP 0 rfl rfl 16 (by decide) (hts _ kX8_changeBy_f53) (fun _ h9 => h9) rfl dX8_changeBy_167 ?_
    refine lv_iconst (v := 4) hx hb dX8_changeBy_170 (by decide) ?_
    refine lv_iload hx hb dX8_changeBy_171 (lv_at hl 2 rfl) ?_
    refine lv_imul hx hb dX8_changeBy_173 ?_
    obtain ⟨h_26, hf⟩ := tm_gS hf
    refine va_iald hx hb hK hP 15 0 rfl rfl (tm_inb_in h_26) dX8_changeBy_174 ?_
    refine lv_isub hx hb dX8_changeBy_175 ?_
    obtain ⟨t_27, ot_27, hf⟩ := tm_bS hf
    refine tm_cSI (As := [.int ((d0 6 st.2.toNatClampNeg) - (d0 15 (4 * st.2).toNatClampNeg))]) (rest := [.int st.1]) ⟨hx, hb, hml, hown, hts⟩ (tX8_far l D cI cZ cR N ((d0 6 st.2.toNatClampNeg) - (d0 15 (4 * st.2).toNatClampNeg)) t_27 ot_27) (va_cwS 1 hts gX8_changeBy_X8_far rfl rfl rfl hdwsS_X8_far ⟨Nat.le_of_ble_eq_true rfl, Nat.le_of_ble_eq_true rfl⟩) hK hP hD hS hA [] (by decide) rfl rfl (fun _ => WX8 cI cZ cR q0 d0 g0) (()) rfl rfl hl.1 rfl (Nat.le_of_ble_eq_true rfl) dX8_changeBy_176 ⟨Nat.zero_le _, Nat.zero_le _⟩ (fun _ _ H locs hP hD hS => ?_)
    refine lv_aload_n hx hb dX8_changeBy_179 rfl (lv_at hl 0 rfl) ?_
    refine va_get (D := D) (ci := 8) (v := .ref (q0 7)) (C := RX8) (T := TX8) (N := 18) hx hb hts uX8_changeBy_X8 hown hK hP 0 rfl rfl 7 (by decide) (hts _ kX8_changeBy_f28) (fun _ h9 => h9) rfl dX8_changeBy_180 ?_
    refine lv_iload hx hb dX8_changeBy_183 (lv_at hl 2 rfl) ?_
    refine va_iald hx hb hK hP 7 0 rfl rfl (tm_inb_in h_25) dX8_changeBy_185 ?_
    refine lv_aload_n hx hb dX8_changeBy_186 rfl (lv_at hl 0 rfl) ?_
    refine va_get (D := D) (ci := 8) (v := .ref (q0 15)) (C := RX8) (T := TX8) (N := 18) hx hb hts uX8_changeBy_X8 hown hK hP 0 rfl rfl 16 (by decide) (hts _ kX8_changeBy_f53) (fun _ h9 => h9) rfl dX8_changeBy_187 ?_
    refine lv_iconst (v := 4) hx hb dX8_changeBy_190 (by decide) ?_
    refine lv_iload hx hb dX8_changeBy_191 (lv_at hl 2 rfl) ?_
    refine lv_imul hx hb dX8_changeBy_193 ?_
    refine lv_iconst (v := 1) hx hb dX8_changeBy_194 (by decide) ?_
    refine lv_iadd hx hb dX8_changeBy_195 ?_
    obtain ⟨h_28, hf⟩ := tm_gS hf
    refine va_iald hx hb hK hP 15 0 rfl rfl (tm_inb_in h_28) dX8_changeBy_196 ?_
    refine lv_isub hx hb dX8_changeBy_197 ?_
    obtain ⟨t_29, ot_29, hf⟩ := tm_bS hf
    refine tm_cSI (As := [.int ((d0 7 st.2.toNatClampNeg) - (d0 15 ((4 * st.2) + 1).toNatClampNeg))]) (rest := [.int t_27, .int st.1]) ⟨hx, hb, hml, hown, hts⟩ (tX8_far l D cI cZ cR N ((d0 7 st.2.toNatClampNeg) - (d0 15 ((4 * st.2) + 1).toNatClampNeg)) t_29 ot_29) (va_cwS 1 hts gX8_changeBy_X8_far rfl rfl rfl hdwsS_X8_far ⟨Nat.le_of_ble_eq_true rfl, Nat.le_of_ble_eq_true rfl⟩) hK hP hD hS hA [] (by decide) rfl rfl (fun _ => WX8 cI cZ cR q0 d0 g0) (()) rfl rfl hl.1 rfl (Nat.le_of_ble_eq_true rfl) dX8_changeBy_198 ⟨Nat.zero_le _, Nat.zero_le _⟩ (fun _ _ H locs hP hD hS => ?_)
    refine lv_iadd hx hb dX8_changeBy_201 ?_
    refine lv_aload_n hx hb dX8_changeBy_202 rfl (lv_at hl 0 rfl) ?_
    refine va_get (D := D) (ci := 8) (v := .ref (q0 8)) (C := RX8) (T := TX8) (N := 18) hx hb hts uX8_changeBy_X8 hown hK hP 0 rfl rfl 8 (by decide) (hts _ kX8_changeBy_f31) (fun _ h9 => h9) rfl dX8_changeBy_203 ?_
    refine lv_iload hx hb dX8_changeBy_206 (lv_at hl 2 rfl) ?_
    refine va_iald hx hb hK hP 8 0 rfl rfl (tm_inb_in h_25) dX8_changeBy_208 ?_
    refine lv_aload_n hx hb dX8_changeBy_209 rfl (lv_at hl 0 rfl) ?_
    refine va_get (D := D) (ci := 8) (v := .ref (q0 15)) (C := RX8) (T := TX8) (N := 18) hx hb hts uX8_changeBy_X8 hown hK hP 0 rfl rfl 16 (by decide) (hts _ kX8_changeBy_f53) (fun _ h9 => h9) rfl dX8_changeBy_210 ?_
    refine lv_iconst (v := 4) hx hb dX8_changeBy_213 (by decide) ?_
    refine lv_iload hx hb dX8_changeBy_214 (lv_at hl 2 rfl) ?_
    refine lv_imul hx hb dX8_changeBy_216 ?_
    refine lv_iconst (v := 2) hx hb dX8_changeBy_217 (by decide) ?_
    refine lv_iadd hx hb dX8_changeBy_218 ?_
    obtain ⟨h_30, hf⟩ := tm_gS hf
    refine va_iald hx hb hK hP 15 0 rfl rfl (tm_inb_in h_30) dX8_changeBy_219 ?_
    refine lv_isub hx hb dX8_changeBy_220 ?_
    obtain ⟨t_31, ot_31, hf⟩ := tm_bS hf
    refine tm_cSI (As := [.int ((d0 8 st.2.toNatClampNeg) - (d0 15 ((4 * st.2) + 2).toNatClampNeg))]) (rest := [.int (t_27 + t_29), .int st.1]) ⟨hx, hb, hml, hown, hts⟩ (tX8_far l D cI cZ cR N ((d0 8 st.2.toNatClampNeg) - (d0 15 ((4 * st.2) + 2).toNatClampNeg)) t_31 ot_31) (va_cwS 1 hts gX8_changeBy_X8_far rfl rfl rfl hdwsS_X8_far ⟨Nat.le_of_ble_eq_true rfl, Nat.le_of_ble_eq_true rfl⟩) hK hP hD hS hA [] (by decide) rfl rfl (fun _ => WX8 cI cZ cR q0 d0 g0) (()) rfl rfl hl.1 rfl (Nat.le_of_ble_eq_true rfl) dX8_changeBy_221 ⟨Nat.zero_le _, Nat.zero_le _⟩ (fun _ _ H locs hP hD hS => ?_)
    refine lv_iadd hx hb dX8_changeBy_224 ?_
    refine lv_aload_n hx hb dX8_changeBy_225 rfl (lv_at hl 0 rfl) ?_
    refine va_get (D := D) (ci := 8) (v := .ref (q0 9)) (C := RX8) (T := TX8) (N := 18) hx hb hts uX8_changeBy_X8 hown hK hP 0 rfl rfl 9 (by decide) (hts _ kX8_changeBy_f34) (fun _ h9 => h9) rfl dX8_changeBy_226 ?_
    refine lv_iload hx hb dX8_changeBy_229 (lv_at hl 2 rfl) ?_
    refine va_iald hx hb hK hP 9 0 rfl rfl (tm_inb_in h_25) dX8_changeBy_231 ?_
    refine lv_aload_n hx hb dX8_changeBy_232 rfl (lv_at hl 0 rfl) ?_
    refine va_get (D := D) (ci := 8) (v := .ref (q0 15)) (C := RX8) (T := TX8) (N := 18) hx hb hts uX8_changeBy_X8 hown hK hP 0 rfl rfl 16 (by decide) (hts _ kX8_changeBy_f53) (fun _ h9 => h9) rfl dX8_changeBy_233 ?_
    refine lv_iconst (v := 4) hx hb dX8_changeBy_236 (by decide) ?_
    refine lv_iload hx hb dX8_changeBy_237 (lv_at hl 2 rfl) ?_
    refine lv_imul hx hb dX8_changeBy_239 ?_
    refine lv_iconst (v := 3) hx hb dX8_changeBy_240 (by decide) ?_
    refine lv_iadd hx hb dX8_changeBy_241 ?_
    obtain ⟨h_32, hf⟩ := tm_gS hf
    refine va_iald hx hb hK hP 15 0 rfl rfl (tm_inb_in h_32) dX8_changeBy_242 ?_
    refine lv_isub hx hb dX8_changeBy_243 ?_
    obtain ⟨t_33, ot_33, hf⟩ := tm_bS hf
    refine tm_cSI (As := [.int ((d0 9 st.2.toNatClampNeg) - (d0 15 ((4 * st.2) + 3).toNatClampNeg))]) (rest := [.int ((t_27 + t_29) + t_31), .int st.1]) ⟨hx, hb, hml, hown, hts⟩ (tX8_far l D cI cZ cR N ((d0 9 st.2.toNatClampNeg) - (d0 15 ((4 * st.2) + 3).toNatClampNeg)) t_33 ot_33) (va_cwS 1 hts gX8_changeBy_X8_far rfl rfl rfl hdwsS_X8_far ⟨Nat.le_of_ble_eq_true rfl, Nat.le_of_ble_eq_true rfl⟩) hK hP hD hS hA [] (by decide) rfl rfl (fun _ => WX8 cI cZ cR q0 d0 g0) (()) rfl rfl hl.1 rfl (Nat.le_of_ble_eq_true rfl) dX8_changeBy_244 ⟨Nat.zero_le _, Nat.zero_le _⟩ (fun _ _ H locs hP hD hS => ?_)
    refine lv_iadd hx hb dX8_changeBy_247 ?_
    refine lv_iadd hx hb dX8_changeBy_248 ?_
    refine lv_topi (fun x_34 ex_34 => ?_)
    have hf := tm_at ex_34 hf
    refine lv_istore (lv' := [(4, .int x_34), (0, .ref (q0 0)), (5, .int st.2)]) hx hb dX8_changeBy_249 hl (by decide) rfl (fun ls hl => ?_)
    obtain ⟨x_35, ex_35⟩ : ∃ y : Int32, y = st.2 + 1 := ⟨_, rfl⟩
    have hf := tm_at ex_35 hf
    refine lv_iinc (v := x_35) (lv' := [(5, .int x_35), (4, .int x_34), (0, .ref (q0 0))]) hx hb dX8_changeBy_251 hl (k := 2) rfl (by rw [ex_35]; rfl) (by decide) rfl (fun ls hl => ?_)
    refine lv_goto (tgt := 146) hx hb dX8_changeBy_254 (by decide) ?_
    obtain rfl := Option.some.inj hf
    exact hk _ _ _ hP hD hS (lv_sub hl [2, 1, 0] rfl)
set_option maxHeartbeats 4000000 in
set_option maxRecDepth 100000 in
theorem tX8_changeBy (l : Launch) (D : va_G) (cI cZ cR : ClassId) (N : Nat) (q0 : Nat → Nat) (d0 : tm_M) (g0 : Int64) (p1 : Int32) (p2 : Int32) (r0 : Int32) (z0 : tm_M) (hf : fX8_changeBy N d0 g0 p1 p2 = some (r0, z0)) : tm_CI l D (tm_ty cI cZ cR) yX8_changeBy wsX8_changeBy rmX8_changeBy [.ref (q0 0), .int p1, .int p2] (WX8 cI cZ cR q0 d0 g0) r0 (WX8 cI cZ cR q0 z0 g0) := by
  refine tm_mkI (cc := cX8_changeBy) (maxL := 6) (ty := .int) (by decide) rfl (Nat.le_of_ble_eq_true rfl) ?_
  intro p e s m below meth c A ls Q C hP hD hS hl hend
  have C : tm_Cx p s m c [.ref (q0 0), .int p1, .int p2].toArray cX8_changeBy 6 RX8 wsX8_changeBy D (tm_ty cI cZ cR) A s.heap := C
  obtain ⟨hx, hb, hml, hown, hts, hK, hA⟩ := id C
  have hl : lv_has ls 6 [(0, .ref (q0 0)), (1, .int p1), (2, .int p2)] := hl
  unfold fX8_changeBy at hf
  refine lv_aload_n hx hb dX8_changeBy_0 rfl (lv_at hl 0 rfl) ?_
  refine lv_iload_n hx hb dX8_changeBy_1 rfl (lv_at hl 1 rfl) ?_
  obtain ⟨t_1, ot_1, hf⟩ := tm_bS hf
  refine tm_cVI (As := [.int p1]) (rest := []) ⟨hx, hb, hml, hown, hts⟩ (tX8_isNode l D cI cZ cR N q0 d0 g0 p1 t_1 ot_1) (cwV 1 hts gX8_changeBy_X8_isNode rfl rfl rfl hdwsV_X8_isNode ⟨Nat.le_of_ble_eq_true rfl, Nat.le_of_ble_eq_true rfl⟩) hK hP hD hS hA [0, 1, 2, 3, 4, 5, 6, 7, 8, 9, 10, 11, 12, 13, 14, 15] (by decide) rfl rfl (ci := 8) rfl rfl rfl (fun _ => WX8 cI cZ cR q0 d0 g0) (()) rfl rfl hl.1 rfl (Nat.le_of_ble_eq_true rfl) dX8_changeBy_2 ⟨Nat.zero_le _, Nat.zero_le _⟩ (fun _ _ H locs hP hD hS => ?_)
  refine lv_if_eq (tgt := 18) hx hb dX8_changeBy_5 (by decide) (fun c_2 => ?_) (fun c_2 => ?_)
  · have hf := tm_iT c_2 hf
    refine lv_aload_n hx hb dX8_changeBy_18 rfl (lv_at hl 0 rfl) ?_
    refine lv_bipush (v := (-2)) hx hb dX8_changeBy_19 (by decide) ?_
    obtain ⟨t_3, ot_3, hf⟩ := tm_bS hf
    refine tm_cVI (As := [.int ((-2))]) (rest := []) ⟨hx, hb, hml, hown, hts⟩ (tX8_fails l D cI cZ cR N q0 d0 g0 ((-2) : Int32) t_3.1 t_3.2 ot_3) (cwV 1 hts gX8_changeBy_X8_fails rfl rfl rfl hdwsV_X8_fails ⟨Nat.le_of_ble_eq_true rfl, Nat.le_of_ble_eq_true rfl⟩) hK hP hD hS hA [0, 1, 2, 3, 4, 5, 6, 7, 8, 9, 10, 11, 12, 13, 14, 15] (by decide) rfl rfl (ci := 8) rfl rfl rfl (fun _ => WX8 cI cZ cR q0 t_3.2 g0) (()) rfl rfl hl.1 rfl (Nat.le_of_ble_eq_true rfl) dX8_changeBy_21 ⟨Nat.zero_le _, Nat.zero_le _⟩ (fun _ _ H locs hP hD hS => ?_)
    simp only [Option.some.injEq, Prod.mk.injEq] at hf
    obtain ⟨rfl, rfl⟩ := hf
    exact hend _ _ _ _ hP hD hS rfl dX8_changeBy_24
  · have hf := tm_iF c_2 hf
    refine lv_iload_n hx hb dX8_changeBy_8 rfl (lv_at hl 2 rfl) ?_
    refine lv_iconst (v := 1) hx hb dX8_changeBy_9 (by decide) ?_
    refine lv_bipush (v := 99) hx hb dX8_changeBy_10 (by decide) ?_
    obtain ⟨t_4, ot_4, hf⟩ := tm_bS hf
    refine tm_cSI (As := [.int p2, .int 1, .int 99]) (rest := []) ⟨hx, hb, hml, hown, hts⟩ (tX8_within l D cI cZ cR N p2 (1 : Int32) (99 : Int32) t_4 ot_4) (va_cwS 3 hts gX8_changeBy_X8_within rfl rfl rfl hdwsS_X8_within ⟨Nat.le_of_ble_eq_true rfl, Nat.le_of_ble_eq_true rfl⟩) hK hP hD hS hA [] (by decide) rfl rfl (fun _ => WX8 cI cZ cR q0 d0 g0) (()) rfl rfl hl.1 rfl (Nat.le_of_ble_eq_true rfl) dX8_changeBy_12 ⟨Nat.zero_le _, Nat.zero_le _⟩ (fun _ _ H locs hP hD hS => ?_)
    refine lv_if_ne (tgt := 25) hx hb dX8_changeBy_15 (by decide) (fun c_5 => ?_) (fun c_5 => ?_)
    · have hf := tm_iF c_5 hf
      refine lv_aload_n hx hb dX8_changeBy_25 rfl (lv_at hl 0 rfl) ?_
      obtain ⟨t_6, ot_6, hf⟩ := tm_bS hf
      refine tm_cVV (As := []) (rest := []) ⟨hx, hb, hml, hown, hts⟩ (tX8_lays l D cI cZ cR N q0 d0 g0 t_6 ot_6) (cwV 0 hts gX8_changeBy_X8_lays rfl rfl rfl hdwsV_X8_lays ⟨Nat.le_of_ble_eq_true rfl, Nat.le_of_ble_eq_true rfl⟩) hK hP hD hS hA [0, 1, 2, 3, 4, 5, 6, 7, 8, 9, 10, 11, 12, 13, 14, 15] (by decide) rfl rfl (ci := 8) rfl rfl rfl (fun _ => WX8 cI cZ cR q0 t_6 g0) (()) rfl rfl hl.1 rfl (Nat.le_of_ble_eq_true rfl) dX8_changeBy_26 ⟨Nat.zero_le _, Nat.zero_le _⟩ (fun _ _ H locs hP hD hS => ?_)
      refine lv_iconst (v := 0) hx hb dX8_changeBy_29 (by decide) ?_
      refine lv_istore_n (lv' := [(3, .int 0), (0, .ref (q0 0)), (1, .int p1), (2, .int p2)]) hx hb dX8_changeBy_30 rfl hl (by decide) rfl (fun ls hl => ?_)
      obtain ⟨t_18, ot_18, hf⟩ := tm_bS hf
      refine wX8_changeBy_31 l D cI cZ cR N q0 C g0 p1 p2 _ _ _ ot_18 ?_ _ _ _ hP hD hS (lv_sub hl [1, 2, 3, 0] rfl)
      intro H locs ls hP hD hS hl
      refine lv_aload_n hx hb dX8_changeBy_109 rfl (lv_at hl 0 rfl) ?_
      refine va_get (D := D) (ci := 8) (v := .ref (q0 1)) (C := RX8) (T := TX8) (N := 18) hx hb hts uX8_changeBy_X8 hown hK hP 0 rfl rfl 0 (by decide) (hts _ kX8_changeBy_f7) (fun _ h9 => h9) rfl dX8_changeBy_110 ?_
      refine lv_iconst (v := 5) hx hb dX8_changeBy_113 (by decide) ?_
      refine lv_iload_n hx hb dX8_changeBy_114 rfl (lv_at hl 1 rfl) ?_
      refine lv_iadd hx hb dX8_changeBy_115 ?_
      obtain ⟨h_19, hf⟩ := tm_gS hf
      refine va_iald hx hb hK hP 1 0 rfl rfl (tm_inb_in h_19) dX8_changeBy_116 ?_
      refine lv_topi (fun x_20 ex_20 => ?_)
      have hf := tm_at ex_20 hf
      refine lv_istore_n (lv' := [(3, .int x_20), (0, .ref (q0 0)), (1, .int p1), (2, .int p2)]) hx hb dX8_changeBy_117 rfl hl (by decide) rfl (fun ls hl => ?_)
      refine lv_aload_n hx hb dX8_changeBy_118 rfl (lv_at hl 1 rfl) ?_
      refine va_get (D := D) (ci := 8) (v := .ref (q0 1)) (C := RX8) (T := TX8) (N := 18) hx hb hts uX8_changeBy_X8 hown hK hP 0 rfl rfl 0 (by decide) (hts _ kX8_changeBy_f7) (fun _ h9 => h9) rfl dX8_changeBy_119 ?_
      refine lv_iconst (v := 5) hx hb dX8_changeBy_122 (by decide) ?_
      refine lv_iload_n hx hb dX8_changeBy_123 rfl (lv_at hl 2 rfl) ?_
      refine lv_iadd hx hb dX8_changeBy_124 ?_
      refine lv_iload_n hx hb dX8_changeBy_125 rfl (lv_at hl 3 rfl) ?_
      refine tm_iast hx hb hK hP hD hS 1 0 rfl rfl (tm_inb_in h_19) dX8_changeBy_126 (fun z => WX8 cI cZ cR q0 z g0) (tm_upc t_18.2 1 (upd (t_18.2 1) (5 + p1).toNatClampNeg p2)) rfl (fun d0_21 ed0_21 H locs hP hD hS => ?_)
      have hf := tm_at ed0_21 hf
      refine lv_aload_n hx hb dX8_changeBy_127 rfl (lv_at hl 1 rfl) ?_
      obtain ⟨t_22, ot_22, hf⟩ := tm_bS hf
      refine tm_cVV (As := []) (rest := []) ⟨hx, hb, hml, hown, hts⟩ (tX8_lays l D cI cZ cR N q0 d0_21 g0 t_22 ot_22) (cwV 0 hts gX8_changeBy_X8_lays rfl rfl rfl hdwsV_X8_lays ⟨Nat.le_of_ble_eq_true rfl, Nat.le_of_ble_eq_true rfl⟩) hK hP hD hS hA [0, 1, 2, 3, 4, 5, 6, 7, 8, 9, 10, 11, 12, 13, 14, 15] (by decide) rfl rfl (ci := 8) rfl rfl rfl (fun _ => WX8 cI cZ cR q0 t_22 g0) (()) rfl rfl hl.1 rfl (Nat.le_of_ble_eq_true rfl) dX8_changeBy_128 ⟨Nat.zero_le _, Nat.zero_le _⟩ (fun _ _ H locs hP hD hS => ?_)
      refine lv_aload_n hx hb dX8_changeBy_131 rfl (lv_at hl 1 rfl) ?_
      refine va_get (D := D) (ci := 8) (v := .ref (q0 1)) (C := RX8) (T := TX8) (N := 18) hx hb hts uX8_changeBy_X8 hown hK hP 0 rfl rfl 0 (by decide) (hts _ kX8_changeBy_f7) (fun _ h9 => h9) rfl dX8_changeBy_132 ?_
      refine lv_iconst (v := 5) hx hb dX8_changeBy_135 (by decide) ?_
      refine lv_iload_n hx hb dX8_changeBy_136 rfl (lv_at hl 2 rfl) ?_
      refine lv_iadd hx hb dX8_changeBy_137 ?_
      refine lv_iload_n hx hb dX8_changeBy_138 rfl (lv_at hl 0 rfl) ?_
      refine tm_iast hx hb hK hP hD hS 1 0 rfl rfl (tm_inb_in h_19) dX8_changeBy_139 (fun z => WX8 cI cZ cR q0 z g0) (tm_upc t_22 1 (upd (t_22 1) (5 + p1).toNatClampNeg x_20)) rfl (fun d0_23 ed0_23 H locs hP hD hS => ?_)
      have hf := tm_at ed0_23 hf
      refine lv_iconst (v := 0) hx hb dX8_changeBy_140 (by decide) ?_
      refine lv_istore (lv' := [(4, .int 0), (3, .int x_20), (0, .ref (q0 0)), (1, .int p1), (2, .int p2)]) hx hb dX8_changeBy_141 hl (by decide) rfl (fun ls hl => ?_)
      refine lv_iconst (v := 0) hx hb dX8_changeBy_143 (by decide) ?_
      refine lv_istore (lv' := [(5, .int 0), (4, .int 0), (3, .int x_20), (0, .ref (q0 0)), (1, .int p1), (2, .int p2)]) hx hb dX8_changeBy_144 hl (by decide) rfl (fun ls hl => ?_)
      obtain ⟨t_36, ot_36, hf⟩ := tm_bS hf
      refine wX8_changeBy_146 l D cI cZ cR N q0 C d0_23 g0 _ _ _ ot_36 ?_ _ _ _ hP hD hS (lv_sub hl [3, 1, 0] rfl)
      intro H locs ls hP hD hS hl
      refine lv_iload hx hb dX8_changeBy_257 (lv_at hl 0 rfl) ?_
      simp only [Option.some.injEq, Prod.mk.injEq] at hf
      obtain ⟨rfl, rfl⟩ := hf
      exact hend _ _ _ _ hP hD hS rfl dX8_changeBy_259
    · have hf := tm_iT c_5 hf
      refine lv_aload_n hx hb dX8_changeBy_18 rfl (lv_at hl 0 rfl) ?_
      refine lv_bipush (v := (-2)) hx hb dX8_changeBy_19 (by decide) ?_
      obtain ⟨t_37, ot_37, hf⟩ := tm_bS hf
      refine tm_cVI (As := [.int ((-2))]) (rest := []) ⟨hx, hb, hml, hown, hts⟩ (tX8_fails l D cI cZ cR N q0 d0 g0 ((-2) : Int32) t_37.1 t_37.2 ot_37) (cwV 1 hts gX8_changeBy_X8_fails rfl rfl rfl hdwsV_X8_fails ⟨Nat.le_of_ble_eq_true rfl, Nat.le_of_ble_eq_true rfl⟩) hK hP hD hS hA [0, 1, 2, 3, 4, 5, 6, 7, 8, 9, 10, 11, 12, 13, 14, 15] (by decide) rfl rfl (ci := 8) rfl rfl rfl (fun _ => WX8 cI cZ cR q0 t_37.2 g0) (()) rfl rfl hl.1 rfl (Nat.le_of_ble_eq_true rfl) dX8_changeBy_21 ⟨Nat.zero_le _, Nat.zero_le _⟩ (fun _ _ H locs hP hD hS => ?_)
      simp only [Option.some.injEq, Prod.mk.injEq] at hf
      obtain ⟨rfl, rfl⟩ := hf
      exact hend _ _ _ _ hP hD hS rfl dX8_changeBy_24
set_option maxHeartbeats 4000000 in
set_option maxRecDepth 100000 in
theorem tX8_errorCount (l : Launch) (D : va_G) (cI cZ cR : ClassId) (N : Nat) (q0 : Nat → Nat) (d0 : tm_M) (g0 : Int64) (p1 : Int32) (r0 : Int32) (z0 : tm_M) (hf : fX8_errorCount N d0 g0 p1 = some (r0, z0)) : tm_CI l D (tm_ty cI cZ cR) yX8_errorCount wsX8_errorCount rmX8_errorCount [.ref (q0 0), .int p1] (WX8 cI cZ cR q0 d0 g0) r0 (WX8 cI cZ cR q0 z0 g0) := by
  refine tm_mkI (cc := cX8_errorCount) (maxL := 2) (ty := .int) (by decide) rfl (Nat.le_of_ble_eq_true rfl) ?_
  intro p e s m below meth c A ls Q C hP hD hS hl hend
  have C : tm_Cx p s m c [.ref (q0 0), .int p1].toArray cX8_errorCount 2 RX8 wsX8_errorCount D (tm_ty cI cZ cR) A s.heap := C
  obtain ⟨hx, hb, hml, hown, hts, hK, hA⟩ := id C
  have hl : lv_has ls 2 [(0, .ref (q0 0)), (1, .int p1)] := hl
  unfold fX8_errorCount at hf
  refine lv_iload_n hx hb dX8_errorCount_0 rfl (lv_at hl 1 rfl) ?_
  refine lv_iconst (v := 0) hx hb dX8_errorCount_1 (by decide) ?_
  refine lv_iconst (v := 2) hx hb dX8_errorCount_2 (by decide) ?_
  obtain ⟨t_1, ot_1, hf⟩ := tm_bS hf
  refine tm_cSI (As := [.int p1, .int 0, .int 2]) (rest := []) ⟨hx, hb, hml, hown, hts⟩ (tX8_within l D cI cZ cR N p1 (0 : Int32) (2 : Int32) t_1 ot_1) (va_cwS 3 hts gX8_errorCount_X8_within rfl rfl rfl hdwsS_X8_within ⟨Nat.le_of_ble_eq_true rfl, Nat.le_of_ble_eq_true rfl⟩) hK hP hD hS hA [] (by decide) rfl rfl (fun _ => WX8 cI cZ cR q0 d0 g0) (()) rfl rfl hl.1 rfl (Nat.le_of_ble_eq_true rfl) dX8_errorCount_3 ⟨Nat.zero_le _, Nat.zero_le _⟩ (fun _ _ H locs hP hD hS => ?_)
  refine lv_if_eq (tgt := 18) hx hb dX8_errorCount_6 (by decide) (fun c_2 => ?_) (fun c_2 => ?_)
  · have hf := tm_iT c_2 hf
    refine lv_aload_n hx hb dX8_errorCount_18 rfl (lv_at hl 0 rfl) ?_
    refine lv_bipush (v := (-2)) hx hb dX8_errorCount_19 (by decide) ?_
    obtain ⟨t_3, ot_3, hf⟩ := tm_bS hf
    refine tm_cVI (As := [.int ((-2))]) (rest := []) ⟨hx, hb, hml, hown, hts⟩ (tX8_fails l D cI cZ cR N q0 d0 g0 ((-2) : Int32) t_3.1 t_3.2 ot_3) (cwV 1 hts gX8_errorCount_X8_fails rfl rfl rfl hdwsV_X8_fails ⟨Nat.le_of_ble_eq_true rfl, Nat.le_of_ble_eq_true rfl⟩) hK hP hD hS hA [0, 1, 2, 3, 4, 5, 6, 7, 8, 9, 10, 11, 12, 13, 14, 15] (by decide) rfl rfl (ci := 8) rfl rfl rfl (fun _ => WX8 cI cZ cR q0 t_3.2 g0) (()) rfl rfl hl.1 rfl (Nat.le_of_ble_eq_true rfl) dX8_errorCount_21 ⟨Nat.zero_le _, Nat.zero_le _⟩ (fun _ _ H locs hP hD hS => ?_)
    simp only [Option.some.injEq, Prod.mk.injEq] at hf
    obtain ⟨rfl, rfl⟩ := hf
    exact hend _ _ _ _ hP hD hS rfl dX8_errorCount_24
  · have hf := tm_iF c_2 hf
    refine lv_aload_n hx hb dX8_errorCount_9 rfl (lv_at hl 0 rfl) ?_
    refine va_get (D := D) (ci := 8) (v := .ref (q0 3)) (C := RX8) (T := TX8) (N := 18) hx hb hts uX8_errorCount_X8 hown hK hP 0 rfl rfl 3 (by decide) (hts _ kX8_errorCount_f16) (fun _ h9 => h9) rfl dX8_errorCount_10 ?_
    refine lv_iload_n hx hb dX8_errorCount_13 rfl (lv_at hl 1 rfl) ?_
    obtain ⟨h_4, hf⟩ := tm_gS hf
    refine va_iald hx hb hK hP 3 0 rfl rfl (tm_inb_in h_4) dX8_errorCount_14 ?_
    refine lv_goto (tgt := 24) hx hb dX8_errorCount_15 (by decide) ?_
    simp only [Option.some.injEq, Prod.mk.injEq] at hf
    obtain ⟨rfl, rfl⟩ := hf
    exact hend _ _ _ _ hP hD hS rfl dX8_errorCount_24
set_option maxHeartbeats 4000000 in
set_option maxRecDepth 100000 in
theorem tX8_mix (l : Launch) (D : va_G) (cI cZ cR : ClassId) (N : Nat) (q0 : Nat → Nat) (d0 : tm_M) (g0 : Int64) (p1 : Int32) (g9 : Int64) (hf : fX8_mix N d0 g0 p1 = some g9) : tm_CV l D (tm_ty cI cZ cR) yX8_mix wsX8_mix rmX8_mix [.ref (q0 0), .int p1] (WX8 cI cZ cR q0 d0 g0) (WX8 cI cZ cR q0 d0 g9) := by
  refine tm_mkV (cc := cX8_mix) (maxL := 2) (by decide) rfl (Nat.le_of_ble_eq_true rfl) ?_
  intro p e s m below meth c A ls Q C hP hD hS hl hend
  have C : tm_Cx p s m c [.ref (q0 0), .int p1].toArray cX8_mix 2 RX8 wsX8_mix D (tm_ty cI cZ cR) A s.heap := C
  obtain ⟨hx, hb, hml, hown, hts, hK, hA⟩ := id C
  have hl : lv_has ls 2 [(0, .ref (q0 0)), (1, .int p1)] := hl
  unfold fX8_mix at hf
  refine lv_aload_n hx hb dX8_mix_0 rfl (lv_at hl 0 rfl) ?_
  refine lv_ldc2 (v := 31) hx hb hown (hts _ kX8_mix_c168) dX8_mix_1 ?_
  refine lv_aload_n hx hb dX8_mix_4 rfl (lv_at hl 0 rfl) ?_
  refine va_get (D := D) (ci := 8) (v := .long g0) (C := RX8) (T := TX8) (N := 18) hx hb hts uX8_mix_X8 hown hK hP 0 rfl rfl 17 (by decide) (hts _ kX8_mix_f170) (fun _ h9 => h9) rfl dX8_mix_5 ?_
  refine lv_lmul hx hb dX8_mix_8 ?_
  refine lv_iload_n hx hb dX8_mix_9 rfl (lv_at hl 1 rfl) ?_
  refine lv_i2l (v := p1.toInt64) hx hb dX8_mix_10 rfl ?_
  refine lv_ladd hx hb dX8_mix_11 ?_
  refine tm_put (D := D) (ci := 8) (v := .long ((31 * g0) + p1.toInt64)) (ty := .long) (C := RX8) (T := TX8) (N := 18) hx hb hts uX8_mix_X8 tyX8 tyX8_ok nmX8 hown hK hP hD hS 0 rfl rfl 17 (by decide) (hts _ kX8_mix_f170) (fun _ h9 => h9) rfl (by decide +kernel) rfl rfl (Nat.le_of_ble_eq_true rfl) dX8_mix_12 (fun z => WX8 cI cZ cR q0 d0 z) ((31 * g0) + p1.toInt64) rfl (fun g_1 eg_1 H locs hP hD hS => ?_)
  have hf := tm_at eg_1 hf
  obtain rfl := Option.some.inj hf
  exact hend _ _ _ _ hP hD hS dX8_mix_15
set_option maxHeartbeats 4000000 in
set_option maxRecDepth 100000 in
theorem wX8_digest_9 (l : Launch) (D : va_G) (cI cZ cR : ClassId) (N : Nat) (q0 : Nat → Nat) {p : Program} {e : Env} {s : State} {m : MethodId} {args : Array Value} {below : List Frame} {meth : Method} {c : Code} {A : Nat → Prop} {H0 : Heap} {Q : State → Prop} (C : tm_Cx p s m c args cX8_digest 2 RX8 wsX8_digest D (tm_ty cI cZ cR) A H0) (d0 : tm_M) : ∀ (n : Nat) (st : Int32 × Int64) (o : (Int32 × Int64)), tm_whl (bX8_digest_9 N d0) n st = some o → (fun (o : Int32 × Int64) => ∀ (H : Heap) (locs : List Loc) (ls : Array Slot), va_P D vwCl (WX8 cI cZ cR q0 d0 o.2) H → va_D A (WX8 cI cZ cR q0 d0 o.2) → va_S A H0 H locs → lv_has ls 2 [(0, .ref (q0 0))] → W p l e rmX8_digest s m args below meth c H locs 0 0 Q (F0 m 30 ls [])) o → (fun (st : Int32 × Int64) => ∀ (H : Heap) (locs : List Loc) (ls : Array Slot), va_P D vwCl (WX8 cI cZ cR q0 d0 st.2) H → va_D A (WX8 cI cZ cR q0 d0 st.2) → va_S A H0 H locs → lv_has ls 2 [(0, .ref (q0 0)), (1, .int st.1)] → W p l e rmX8_digest s m args below meth c H locs 0 0 Q (F0 m 9 ls [])) st := by
  obtain ⟨hx, hb, hml, hown, hts, hK, hA⟩ := id C
  refine tm_whl_W (Wh := fun (st : Int32 × Int64) => ∀ (H : Heap) (locs : List Loc) (ls : Array Slot), va_P D vwCl (WX8 cI cZ cR q0 d0 st.2) H → va_D A (WX8 cI cZ cR q0 d0 st.2) → va_S A H0 H locs → lv_has ls 2 [(0, .ref (q0 0)), (1, .int st.1)] → W p l e rmX8_digest s m args below meth c H locs 0 0 Q (F0 m 9 ls [])) (Wx := fun (o : Int32 × Int64) => ∀ (H : Heap) (locs : List Loc) (ls : Array Slot), va_P D vwCl (WX8 cI cZ cR q0 d0 o.2) H → va_D A (WX8 cI cZ cR q0 d0 o.2) → va_S A H0 H locs → lv_has ls 2 [(0, .ref (q0 0))] → W p l e rmX8_digest s m args below meth c H locs 0 0 Q (F0 m 30 ls [])) ?_
  intro st r hf hk H locs ls hP hD hS hl
  unfold bX8_digest_9 at hf
  refine lv_iload_n hx hb dX8_digest_9 rfl (lv_at hl 1 rfl) ?_
  refine lv_iconst (v := 3) hx hb dX8_digest_10 (by decide) ?_
  refine lv_icmp_ge (tgt := 30) hx hb dX8_digest_11 (by decide) (fun c_2 => ?_) (fun c_2 => ?_)
  · have hf := tm_iT c_2 hf
    obtain rfl := Option.some.inj hf
    exact hk _ _ _ hP hD hS (lv_sub hl [0] rfl)
  · have hf := tm_iF c_2 hf
    refine lv_aload_n hx hb dX8_digest_14 rfl (lv_at hl 0 rfl) ?_
    refine lv_aload_n hx hb dX8_digest_15 rfl (lv_at hl 0 rfl) ?_
    refine va_get (D := D) (ci := 8) (v := .ref (q0 3)) (C := RX8) (T := TX8) (N := 18) hx hb hts uX8_digest_X8 hown hK hP 0 rfl rfl 3 (by decide) (hts _ kX8_digest_f16) (fun _ h9 => h9) rfl dX8_digest_16 ?_
    refine lv_iload_n hx hb dX8_digest_19 rfl (lv_at hl 1 rfl) ?_
    obtain ⟨h_3, hf⟩ := tm_gS hf
    refine va_iald hx hb hK hP 3 0 rfl rfl (tm_inb_in h_3) dX8_digest_20 ?_
    obtain ⟨t_4, ot_4, hf⟩ := tm_bS hf
    refine tm_cVV (As := [.int (d0 3 st.1.toNatClampNeg)]) (rest := []) ⟨hx, hb, hml, hown, hts⟩ (tX8_mix l D cI cZ cR N q0 d0 st.2 (d0 3 st.1.toNatClampNeg) t_4 ot_4) (cwV 1 hts gX8_digest_X8_mix rfl rfl rfl hdwsV_X8_mix ⟨Nat.le_of_ble_eq_true rfl, Nat.le_of_ble_eq_true rfl⟩) hK hP hD hS hA [0, 1, 2, 3, 4, 5, 6, 7, 8, 9, 10, 11, 12, 13, 14, 15] (by decide) rfl rfl (ci := 8) rfl rfl rfl (fun _ => WX8 cI cZ cR q0 d0 t_4) (()) rfl rfl hl.1 rfl (Nat.le_of_ble_eq_true rfl) dX8_digest_21 ⟨Nat.zero_le _, Nat.zero_le _⟩ (fun _ _ H locs hP hD hS => ?_)
    obtain ⟨x_5, ex_5⟩ : ∃ y : Int32, y = st.1 + 1 := ⟨_, rfl⟩
    have hf := tm_at ex_5 hf
    refine lv_iinc (v := x_5) (lv' := [(1, .int x_5), (0, .ref (q0 0))]) hx hb dX8_digest_24 hl (k := 1) rfl (by rw [ex_5]; rfl) (by decide) rfl (fun ls hl => ?_)
    refine lv_goto (tgt := 9) hx hb dX8_digest_27 (by decide) ?_
    obtain rfl := Option.some.inj hf
    exact hk _ _ _ hP hD hS (lv_sub hl [1, 0] rfl)
set_option maxHeartbeats 4000000 in
set_option maxRecDepth 100000 in
theorem wX8_digest_40 (l : Launch) (D : va_G) (cI cZ cR : ClassId) (N : Nat) (q0 : Nat → Nat) {p : Program} {e : Env} {s : State} {m : MethodId} {args : Array Value} {below : List Frame} {meth : Method} {c : Code} {A : Nat → Prop} {H0 : Heap} {Q : State → Prop} (C : tm_Cx p s m c args cX8_digest 2 RX8 wsX8_digest D (tm_ty cI cZ cR) A H0) (d0 : tm_M) : ∀ (n : Nat) (st : Int32 × Int64) (o : (Int32 × Int64)), tm_whl (bX8_digest_40 N d0) n st = some o → (fun (o : Int32 × Int64) => ∀ (H : Heap) (locs : List Loc) (ls : Array Slot), va_P D vwCl (WX8 cI cZ cR q0 d0 o.2) H → va_D A (WX8 cI cZ cR q0 d0 o.2) → va_S A H0 H locs → lv_has ls 2 [(0, .ref (q0 0))] → W p l e rmX8_digest s m args below meth c H locs 0 0 Q (F0 m 61 ls [])) o → (fun (st : Int32 × Int64) => ∀ (H : Heap) (locs : List Loc) (ls : Array Slot), va_P D vwCl (WX8 cI cZ cR q0 d0 st.2) H → va_D A (WX8 cI cZ cR q0 d0 st.2) → va_S A H0 H locs → lv_has ls 2 [(0, .ref (q0 0)), (1, .int st.1)] → W p l e rmX8_digest s m args below meth c H locs 0 0 Q (F0 m 40 ls [])) st := by
  obtain ⟨hx, hb, hml, hown, hts, hK, hA⟩ := id C
  refine tm_whl_W (Wh := fun (st : Int32 × Int64) => ∀ (H : Heap) (locs : List Loc) (ls : Array Slot), va_P D vwCl (WX8 cI cZ cR q0 d0 st.2) H → va_D A (WX8 cI cZ cR q0 d0 st.2) → va_S A H0 H locs → lv_has ls 2 [(0, .ref (q0 0)), (1, .int st.1)] → W p l e rmX8_digest s m args below meth c H locs 0 0 Q (F0 m 40 ls [])) (Wx := fun (o : Int32 × Int64) => ∀ (H : Heap) (locs : List Loc) (ls : Array Slot), va_P D vwCl (WX8 cI cZ cR q0 d0 o.2) H → va_D A (WX8 cI cZ cR q0 d0 o.2) → va_S A H0 H locs → lv_has ls 2 [(0, .ref (q0 0))] → W p l e rmX8_digest s m args below meth c H locs 0 0 Q (F0 m 61 ls [])) ?_
  intro st r hf hk H locs ls hP hD hS hl
  unfold bX8_digest_40 at hf
  refine lv_iload_n hx hb dX8_digest_40 rfl (lv_at hl 1 rfl) ?_
  refine lv_iconst (v := 4) hx hb dX8_digest_41 (by decide) ?_
  refine lv_icmp_gt (tgt := 61) hx hb dX8_digest_42 (by decide) (fun c_8 => ?_) (fun c_8 => ?_)
  · have hf := tm_iT c_8 hf
    obtain rfl := Option.some.inj hf
    exact hk _ _ _ hP hD hS (lv_sub hl [0] rfl)
  · have hf := tm_iF c_8 hf
    refine lv_aload_n hx hb dX8_digest_45 rfl (lv_at hl 0 rfl) ?_
    refine lv_aload_n hx hb dX8_digest_46 rfl (lv_at hl 0 rfl) ?_
    refine va_get (D := D) (ci := 8) (v := .ref (q0 1)) (C := RX8) (T := TX8) (N := 18) hx hb hts uX8_digest_X8 hown hK hP 0 rfl rfl 0 (by decide) (hts _ kX8_digest_f7) (fun _ h9 => h9) rfl dX8_digest_47 ?_
    refine lv_iload_n hx hb dX8_digest_50 rfl (lv_at hl 1 rfl) ?_
    obtain ⟨h_9, hf⟩ := tm_gS hf
    refine va_iald hx hb hK hP 1 0 rfl rfl (tm_inb_in h_9) dX8_digest_51 ?_
    obtain ⟨t_10, ot_10, hf⟩ := tm_bS hf
    refine tm_cVV (As := [.int (d0 1 st.1.toNatClampNeg)]) (rest := []) ⟨hx, hb, hml, hown, hts⟩ (tX8_mix l D cI cZ cR N q0 d0 st.2 (d0 1 st.1.toNatClampNeg) t_10 ot_10) (cwV 1 hts gX8_digest_X8_mix rfl rfl rfl hdwsV_X8_mix ⟨Nat.le_of_ble_eq_true rfl, Nat.le_of_ble_eq_true rfl⟩) hK hP hD hS hA [0, 1, 2, 3, 4, 5, 6, 7, 8, 9, 10, 11, 12, 13, 14, 15] (by decide) rfl rfl (ci := 8) rfl rfl rfl (fun _ => WX8 cI cZ cR q0 d0 t_10) (()) rfl rfl hl.1 rfl (Nat.le_of_ble_eq_true rfl) dX8_digest_52 ⟨Nat.zero_le _, Nat.zero_le _⟩ (fun _ _ H locs hP hD hS => ?_)
    obtain ⟨x_11, ex_11⟩ : ∃ y : Int32, y = st.1 + 1 := ⟨_, rfl⟩
    have hf := tm_at ex_11 hf
    refine lv_iinc (v := x_11) (lv' := [(1, .int x_11), (0, .ref (q0 0))]) hx hb dX8_digest_55 hl (k := 1) rfl (by rw [ex_11]; rfl) (by decide) rfl (fun ls hl => ?_)
    refine lv_goto (tgt := 40) hx hb dX8_digest_58 (by decide) ?_
    obtain rfl := Option.some.inj hf
    exact hk _ _ _ hP hD hS (lv_sub hl [1, 0] rfl)
set_option maxHeartbeats 4000000 in
set_option maxRecDepth 100000 in
theorem wX8_digest_77 (l : Launch) (D : va_G) (cI cZ cR : ClassId) (N : Nat) (q0 : Nat → Nat) {p : Program} {e : Env} {s : State} {m : MethodId} {args : Array Value} {below : List Frame} {meth : Method} {c : Code} {A : Nat → Prop} {H0 : Heap} {Q : State → Prop} (C : tm_Cx p s m c args cX8_digest 2 RX8 wsX8_digest D (tm_ty cI cZ cR) A H0) (d0 : tm_M) : ∀ (n : Nat) (st : Int32 × Int64) (o : (Int32 × Int64)), tm_whl (bX8_digest_77 N d0) n st = some o → (fun (o : Int32 × Int64) => ∀ (H : Heap) (locs : List Loc) (ls : Array Slot), va_P D vwCl (WX8 cI cZ cR q0 d0 o.2) H → va_D A (WX8 cI cZ cR q0 d0 o.2) → va_S A H0 H locs → lv_has ls 2 [(0, .ref (q0 0))] → W p l e rmX8_digest s m args below meth c H locs 0 0 Q (F0 m 186 ls [])) o → (fun (st : Int32 × Int64) => ∀ (H : Heap) (locs : List Loc) (ls : Array Slot), va_P D vwCl (WX8 cI cZ cR q0 d0 st.2) H → va_D A (WX8 cI cZ cR q0 d0 st.2) → va_S A H0 H locs → lv_has ls 2 [(0, .ref (q0 0)), (1, .int st.1)] → W p l e rmX8_digest s m args below meth c H locs 0 0 Q (F0 m 77 ls [])) st := by
  obtain ⟨hx, hb, hml, hown, hts, hK, hA⟩ := id C
  refine tm_whl_W (Wh := fun (st : Int32 × Int64) => ∀ (H : Heap) (locs : List Loc) (ls : Array Slot), va_P D vwCl (WX8 cI cZ cR q0 d0 st.2) H → va_D A (WX8 cI cZ cR q0 d0 st.2) → va_S A H0 H locs → lv_has ls 2 [(0, .ref (q0 0)), (1, .int st.1)] → W p l e rmX8_digest s m args below meth c H locs 0 0 Q (F0 m 77 ls [])) (Wx := fun (o : Int32 × Int64) => ∀ (H : Heap) (locs : List Loc) (ls : Array Slot), va_P D vwCl (WX8 cI cZ cR q0 d0 o.2) H → va_D A (WX8 cI cZ cR q0 d0 o.2) → va_S A H0 H locs → lv_has ls 2 [(0, .ref (q0 0))] → W p l e rmX8_digest s m args below meth c H locs 0 0 Q (F0 m 186 ls [])) ?_
  intro st r hf hk H locs ls hP hD hS hl
  unfold bX8_digest_77 at hf
  refine lv_iload_n hx hb dX8_digest_77 rfl (lv_at hl 1 rfl) ?_
  refine lv_aload_n hx hb dX8_digest_78 rfl (lv_at hl 0 rfl) ?_
  refine va_get (D := D) (ci := 8) (v := .ref (q0 1)) (C := RX8) (T := TX8) (N := 18) hx hb hts uX8_digest_X8 hown hK hP 0 rfl rfl 0 (by decide) (hts _ kX8_digest_f7) (fun _ h9 => h9) rfl dX8_digest_79 ?_
  refine lv_iconst (v := 0) hx hb dX8_digest_82 (by decide) ?_
  refine va_iald hx hb hK hP 1 0 rfl rfl (tm_inb_in (by decide)) dX8_digest_83 ?_
  refine lv_icmp_ge (tgt := 186) hx hb dX8_digest_84 (by decide) (fun c_15 => ?_) (fun c_15 => ?_)
  · have hf := tm_iT c_15 hf
    obtain rfl := Option.some.inj hf
    exact hk _ _ _ hP hD hS (lv_sub hl [0] rfl)
  · have hf := tm_iF c_15 hf
    refine lv_aload_n hx hb dX8_digest_87 rfl (lv_at hl 0 rfl) ?_
    refine lv_aload_n hx hb dX8_digest_88 rfl (lv_at hl 0 rfl) ?_
    refine va_get (D := D) (ci := 8) (v := .ref (q0 1)) (C := RX8) (T := TX8) (N := 18) hx hb hts uX8_digest_X8 hown hK hP 0 rfl rfl 0 (by decide) (hts _ kX8_digest_f7) (fun _ h9 => h9) rfl dX8_digest_89 ?_
    refine lv_iconst (v := 5) hx hb dX8_digest_92 (by decide) ?_
    refine lv_iload_n hx hb dX8_digest_93 rfl (lv_at hl 1 rfl) ?_
    refine lv_iadd hx hb dX8_digest_94 ?_
    obtain ⟨h_16, hf⟩ := tm_gS hf
    refine va_iald hx hb hK hP 1 0 rfl rfl (tm_inb_in h_16) dX8_digest_95 ?_
    obtain ⟨t_17, ot_17, hf⟩ := tm_bS hf
    refine tm_cVV (As := [.int (d0 1 (5 + st.1).toNatClampNeg)]) (rest := []) ⟨hx, hb, hml, hown, hts⟩ (tX8_mix l D cI cZ cR N q0 d0 st.2 (d0 1 (5 + st.1).toNatClampNeg) t_17 ot_17) (cwV 1 hts gX8_digest_X8_mix rfl rfl rfl hdwsV_X8_mix ⟨Nat.le_of_ble_eq_true rfl, Nat.le_of_ble_eq_true rfl⟩) hK hP hD hS hA [0, 1, 2, 3, 4, 5, 6, 7, 8, 9, 10, 11, 12, 13, 14, 15] (by decide) rfl rfl (ci := 8) rfl rfl rfl (fun _ => WX8 cI cZ cR q0 d0 t_17) (()) rfl rfl hl.1 rfl (Nat.le_of_ble_eq_true rfl) dX8_digest_96 ⟨Nat.zero_le _, Nat.zero_le _⟩ (fun _ _ H locs hP hD hS => ?_)
    refine lv_aload_n hx hb dX8_digest_99 rfl (lv_at hl 0 rfl) ?_
    refine lv_aload_n hx hb dX8_digest_100 rfl (lv_at hl 0 rfl) ?_
    refine va_get (D := D) (ci := 8) (v := .ref (q0 11)) (C := RX8) (T := TX8) (N := 18) hx hb hts uX8_digest_X8 hown hK hP 0 rfl rfl 11 (by decide) (hts _ kX8_digest_f41) (fun _ h9 => h9) rfl dX8_digest_101 ?_
    refine lv_iload_n hx hb dX8_digest_104 rfl (lv_at hl 1 rfl) ?_
    obtain ⟨h_18, hf⟩ := tm_gS hf
    refine va_iald hx hb hK hP 11 0 rfl rfl (tm_inb_in h_18) dX8_digest_105 ?_
    obtain ⟨t_19, ot_19, hf⟩ := tm_bS hf
    refine tm_cVV (As := [.int (d0 11 st.1.toNatClampNeg)]) (rest := []) ⟨hx, hb, hml, hown, hts⟩ (tX8_mix l D cI cZ cR N q0 d0 t_17 (d0 11 st.1.toNatClampNeg) t_19 ot_19) (cwV 1 hts gX8_digest_X8_mix rfl rfl rfl hdwsV_X8_mix ⟨Nat.le_of_ble_eq_true rfl, Nat.le_of_ble_eq_true rfl⟩) hK hP hD hS hA [0, 1, 2, 3, 4, 5, 6, 7, 8, 9, 10, 11, 12, 13, 14, 15] (by decide) rfl rfl (ci := 8) rfl rfl rfl (fun _ => WX8 cI cZ cR q0 d0 t_19) (()) rfl rfl hl.1 rfl (Nat.le_of_ble_eq_true rfl) dX8_digest_106 ⟨Nat.zero_le _, Nat.zero_le _⟩ (fun _ _ H locs hP hD hS => ?_)
    refine lv_aload_n hx hb dX8_digest_109 rfl (lv_at hl 0 rfl) ?_
    refine lv_aload_n hx hb dX8_digest_110 rfl (lv_at hl 0 rfl) ?_
    refine va_get (D := D) (ci := 8) (v := .ref (q0 1)) (C := RX8) (T := TX8) (N := 18) hx hb hts uX8_digest_X8 hown hK hP 0 rfl rfl 0 (by decide) (hts _ kX8_digest_f7) (fun _ h9 => h9) rfl dX8_digest_111 ?_
    refine lv_bipush (v := 29) hx hb dX8_digest_114 (by decide) ?_
    refine lv_iload_n hx hb dX8_digest_116 rfl (lv_at hl 1 rfl) ?_
    refine lv_iadd hx hb dX8_digest_117 ?_
    obtain ⟨h_20, hf⟩ := tm_gS hf
    refine va_iald hx hb hK hP 1 0 rfl rfl (tm_inb_in h_20) dX8_digest_118 ?_
    obtain ⟨t_21, ot_21, hf⟩ := tm_bS hf
    refine tm_cVV (As := [.int (d0 1 (29 + st.1).toNatClampNeg)]) (rest := []) ⟨hx, hb, hml, hown, hts⟩ (tX8_mix l D cI cZ cR N q0 d0 t_19 (d0 1 (29 + st.1).toNatClampNeg) t_21 ot_21) (cwV 1 hts gX8_digest_X8_mix rfl rfl rfl hdwsV_X8_mix ⟨Nat.le_of_ble_eq_true rfl, Nat.le_of_ble_eq_true rfl⟩) hK hP hD hS hA [0, 1, 2, 3, 4, 5, 6, 7, 8, 9, 10, 11, 12, 13, 14, 15] (by decide) rfl rfl (ci := 8) rfl rfl rfl (fun _ => WX8 cI cZ cR q0 d0 t_21) (()) rfl rfl hl.1 rfl (Nat.le_of_ble_eq_true rfl) dX8_digest_119 ⟨Nat.zero_le _, Nat.zero_le _⟩ (fun _ _ H locs hP hD hS => ?_)
    refine lv_aload_n hx hb dX8_digest_122 rfl (lv_at hl 0 rfl) ?_
    refine lv_aload_n hx hb dX8_digest_123 rfl (lv_at hl 0 rfl) ?_
    refine va_get (D := D) (ci := 8) (v := .ref (q0 6)) (C := RX8) (T := TX8) (N := 18) hx hb hts uX8_digest_X8 hown hK hP 0 rfl rfl 6 (by decide) (hts _ kX8_digest_f25) (fun _ h9 => h9) rfl dX8_digest_124 ?_
    refine lv_iload_n hx hb dX8_digest_127 rfl (lv_at hl 1 rfl) ?_
    refine va_iald hx hb hK hP 6 0 rfl rfl (tm_inb_in h_18) dX8_digest_128 ?_
    obtain ⟨t_22, ot_22, hf⟩ := tm_bS hf
    refine tm_cVV (As := [.int (d0 6 st.1.toNatClampNeg)]) (rest := []) ⟨hx, hb, hml, hown, hts⟩ (tX8_mix l D cI cZ cR N q0 d0 t_21 (d0 6 st.1.toNatClampNeg) t_22 ot_22) (cwV 1 hts gX8_digest_X8_mix rfl rfl rfl hdwsV_X8_mix ⟨Nat.le_of_ble_eq_true rfl, Nat.le_of_ble_eq_true rfl⟩) hK hP hD hS hA [0, 1, 2, 3, 4, 5, 6, 7, 8, 9, 10, 11, 12, 13, 14, 15] (by decide) rfl rfl (ci := 8) rfl rfl rfl (fun _ => WX8 cI cZ cR q0 d0 t_22) (()) rfl rfl hl.1 rfl (Nat.le_of_ble_eq_true rfl) dX8_digest_129 ⟨Nat.zero_le _, Nat.zero_le _⟩ (fun _ _ H locs hP hD hS => ?_)
    refine lv_aload_n hx hb dX8_digest_132 rfl (lv_at hl 0 rfl) ?_
    refine lv_aload_n hx hb dX8_digest_133 rfl (lv_at hl 0 rfl) ?_
    refine va_get (D := D) (ci := 8) (v := .ref (q0 7)) (C := RX8) (T := TX8) (N := 18) hx hb hts uX8_digest_X8 hown hK hP 0 rfl rfl 7 (by decide) (hts _ kX8_digest_f28) (fun _ h9 => h9) rfl dX8_digest_134 ?_
    refine lv_iload_n hx hb dX8_digest_137 rfl (lv_at hl 1 rfl) ?_
    refine va_iald hx hb hK hP 7 0 rfl rfl (tm_inb_in h_18) dX8_digest_138 ?_
    obtain ⟨t_23, ot_23, hf⟩ := tm_bS hf
    refine tm_cVV (As := [.int (d0 7 st.1.toNatClampNeg)]) (rest := []) ⟨hx, hb, hml, hown, hts⟩ (tX8_mix l D cI cZ cR N q0 d0 t_22 (d0 7 st.1.toNatClampNeg) t_23 ot_23) (cwV 1 hts gX8_digest_X8_mix rfl rfl rfl hdwsV_X8_mix ⟨Nat.le_of_ble_eq_true rfl, Nat.le_of_ble_eq_true rfl⟩) hK hP hD hS hA [0, 1, 2, 3, 4, 5, 6, 7, 8, 9, 10, 11, 12, 13, 14, 15] (by decide) rfl rfl (ci := 8) rfl rfl rfl (fun _ => WX8 cI cZ cR q0 d0 t_23) (()) rfl rfl hl.1 rfl (Nat.le_of_ble_eq_true rfl) dX8_digest_139 ⟨Nat.zero_le _, Nat.zero_le _⟩ (fun _ _ H locs hP hD hS => ?_)
    refine lv_aload_n hx hb dX8_digest_142 rfl (lv_at hl 0 rfl) ?_
    refine lv_aload_n hx hb dX8_digest_143 rfl (lv_at hl 0 rfl) ?_
    refine va_get (D := D) (ci := 8) (v := .ref (q0 8)) (C := RX8) (T := TX8) (N := 18) hx hb hts uX8_digest_X8 hown hK hP 0 rfl rfl 8 (by decide) (hts _ kX8_digest_f31) (fun _ h9 => h9) rfl dX8_digest_144 ?_
    refine lv_iload_n hx hb dX8_digest_147 rfl (lv_at hl 1 rfl) ?_
    refine va_iald hx hb hK hP 8 0 rfl rfl (tm_inb_in h_18) dX8_digest_148 ?_
    obtain ⟨t_24, ot_24, hf⟩ := tm_bS hf
    refine tm_cVV (As := [.int (d0 8 st.1.toNatClampNeg)]) (rest := []) ⟨hx, hb, hml, hown, hts⟩ (tX8_mix l D cI cZ cR N q0 d0 t_23 (d0 8 st.1.toNatClampNeg) t_24 ot_24) (cwV 1 hts gX8_digest_X8_mix rfl rfl rfl hdwsV_X8_mix ⟨Nat.le_of_ble_eq_true rfl, Nat.le_of_ble_eq_true rfl⟩) hK hP hD hS hA [0, 1, 2, 3, 4, 5, 6, 7, 8, 9, 10, 11, 12, 13, 14, 15] (by decide) rfl rfl (ci := 8) rfl rfl rfl (fun _ => WX8 cI cZ cR q0 d0 t_24) (()) rfl rfl hl.1 rfl (Nat.le_of_ble_eq_true rfl) dX8_digest_149 ⟨Nat.zero_le _, Nat.zero_le _⟩ (fun _ _ H locs hP hD hS => ?_)
    refine lv_aload_n hx hb dX8_digest_152 rfl (lv_at hl 0 rfl) ?_
    refine lv_aload_n hx hb dX8_digest_153 rfl (lv_at hl 0 rfl) ?_
    refine va_get (D := D) (ci := 8) (v := .ref (q0 9)) (C := RX8) (T := TX8) (N := 18) hx hb hts uX8_digest_X8 hown hK hP 0 rfl rfl 9 (by decide) (hts _ kX8_digest_f34) (fun _ h9 => h9) rfl dX8_digest_154 ?_
    refine lv_iload_n hx hb dX8_digest_157 rfl (lv_at hl 1 rfl) ?_
    refine va_iald hx hb hK hP 9 0 rfl rfl (tm_inb_in h_18) dX8_digest_158 ?_
    obtain ⟨t_25, ot_25, hf⟩ := tm_bS hf
    refine tm_cVV (As := [.int (d0 9 st.1.toNatClampNeg)]) (rest := []) ⟨hx, hb, hml, hown, hts⟩ (tX8_mix l D cI cZ cR N q0 d0 t_24 (d0 9 st.1.toNatClampNeg) t_25 ot_25) (cwV 1 hts gX8_digest_X8_mix rfl rfl rfl hdwsV_X8_mix ⟨Nat.le_of_ble_eq_true rfl, Nat.le_of_ble_eq_true rfl⟩) hK hP hD hS hA [0, 1, 2, 3, 4, 5, 6, 7, 8, 9, 10, 11, 12, 13, 14, 15] (by decide) rfl rfl (ci := 8) rfl rfl rfl (fun _ => WX8 cI cZ cR q0 d0 t_25) (()) rfl rfl hl.1 rfl (Nat.le_of_ble_eq_true rfl) dX8_digest_159 ⟨Nat.zero_le _, Nat.zero_le _⟩ (fun _ _ H locs hP hD hS => ?_)
    refine lv_aload_n hx hb dX8_digest_162 rfl (lv_at hl 0 rfl) ?_
    refine lv_aload_n hx hb dX8_digest_163 rfl (lv_at hl 0 rfl) ?_
    refine va_get (D := D) (ci := 8) (v := .ref (q0 10)) (C := RX8) (T := TX8) (N := 18) hx hb hts uX8_digest_X8 hown hK hP 0 rfl rfl 10 (by decide) (hts _ kX8_digest_f37) (fun _ h9 => h9) rfl dX8_digest_164 ?_
    refine lv_iload_n hx hb dX8_digest_167 rfl (lv_at hl 1 rfl) ?_
    refine va_zald hx hb hK hP 10 1 rfl rfl (tm_inb_in h_18) dX8_digest_168 ?_
    refine lv_if_eq (tgt := 176) hx hb dX8_digest_169 (by decide) (fun c_26 => ?_) (fun c_26 => ?_)
    · have hf := tm_iT c_26 hf
      refine lv_iconst (v := 0) hx hb dX8_digest_176 (by decide) ?_
      obtain ⟨t_27, ot_27, hf⟩ := tm_bS hf
      refine tm_cVV (As := [.int 0]) (rest := []) ⟨hx, hb, hml, hown, hts⟩ (tX8_mix l D cI cZ cR N q0 d0 t_25 (0 : Int32) t_27 ot_27) (cwV 1 hts gX8_digest_X8_mix rfl rfl rfl hdwsV_X8_mix ⟨Nat.le_of_ble_eq_true rfl, Nat.le_of_ble_eq_true rfl⟩) hK hP hD hS hA [0, 1, 2, 3, 4, 5, 6, 7, 8, 9, 10, 11, 12, 13, 14, 15] (by decide) rfl rfl (ci := 8) rfl rfl rfl (fun _ => WX8 cI cZ cR q0 d0 t_27) (()) rfl rfl hl.1 rfl (Nat.le_of_ble_eq_true rfl) dX8_digest_177 ⟨Nat.zero_le _, Nat.zero_le _⟩ (fun _ _ H locs hP hD hS => ?_)
      obtain ⟨x_28, ex_28⟩ : ∃ y : Int32, y = st.1 + 1 := ⟨_, rfl⟩
      have hf := tm_at ex_28 hf
      refine lv_iinc (v := x_28) (lv' := [(1, .int x_28), (0, .ref (q0 0))]) hx hb dX8_digest_180 hl (k := 1) rfl (by rw [ex_28]; rfl) (by decide) rfl (fun ls hl => ?_)
      refine lv_goto (tgt := 77) hx hb dX8_digest_183 (by decide) ?_
      obtain rfl := Option.some.inj hf
      exact hk _ _ _ hP hD hS (lv_sub hl [1, 0] rfl)
    · have hf := tm_iF c_26 hf
      refine lv_iconst (v := 1) hx hb dX8_digest_172 (by decide) ?_
      refine lv_goto (tgt := 177) hx hb dX8_digest_173 (by decide) ?_
      obtain ⟨t_29, ot_29, hf⟩ := tm_bS hf
      refine tm_cVV (As := [.int 1]) (rest := []) ⟨hx, hb, hml, hown, hts⟩ (tX8_mix l D cI cZ cR N q0 d0 t_25 (1 : Int32) t_29 ot_29) (cwV 1 hts gX8_digest_X8_mix rfl rfl rfl hdwsV_X8_mix ⟨Nat.le_of_ble_eq_true rfl, Nat.le_of_ble_eq_true rfl⟩) hK hP hD hS hA [0, 1, 2, 3, 4, 5, 6, 7, 8, 9, 10, 11, 12, 13, 14, 15] (by decide) rfl rfl (ci := 8) rfl rfl rfl (fun _ => WX8 cI cZ cR q0 d0 t_29) (()) rfl rfl hl.1 rfl (Nat.le_of_ble_eq_true rfl) dX8_digest_177 ⟨Nat.zero_le _, Nat.zero_le _⟩ (fun _ _ H locs hP hD hS => ?_)
      obtain ⟨x_30, ex_30⟩ : ∃ y : Int32, y = st.1 + 1 := ⟨_, rfl⟩
      have hf := tm_at ex_30 hf
      refine lv_iinc (v := x_30) (lv' := [(1, .int x_30), (0, .ref (q0 0))]) hx hb dX8_digest_180 hl (k := 1) rfl (by rw [ex_30]; rfl) (by decide) rfl (fun ls hl => ?_)
      refine lv_goto (tgt := 77) hx hb dX8_digest_183 (by decide) ?_
      obtain rfl := Option.some.inj hf
      exact hk _ _ _ hP hD hS (lv_sub hl [1, 0] rfl)
set_option maxHeartbeats 4000000 in
set_option maxRecDepth 100000 in
theorem tX8_digest (l : Launch) (D : va_G) (cI cZ cR : ClassId) (N : Nat) (q0 : Nat → Nat) (d0 : tm_M) (g0 : Int64) (r0 : Int64) (z0 : tm_M) (g9 : Int64) (hf : fX8_digest N d0 g0 = some (r0, z0, g9)) : tm_CL l D (tm_ty cI cZ cR) yX8_digest wsX8_digest rmX8_digest [.ref (q0 0)] (WX8 cI cZ cR q0 d0 g0) r0 (WX8 cI cZ cR q0 z0 g9) := by
  refine tm_mkL (cc := cX8_digest) (maxL := 2) (by decide) rfl (Nat.le_of_ble_eq_true rfl) ?_
  intro p e s m below meth c A ls Q C hP hD hS hl hend
  have C : tm_Cx p s m c [.ref (q0 0)].toArray cX8_digest 2 RX8 wsX8_digest D (tm_ty cI cZ cR) A s.heap := C
  obtain ⟨hx, hb, hml, hown, hts, hK, hA⟩ := id C
  have hl : lv_has ls 2 [(0, .ref (q0 0))] := hl
  unfold fX8_digest at hf
  refine lv_aload_n hx hb dX8_digest_0 rfl (lv_at hl 0 rfl) ?_
  refine lv_ldc2 (v := 11759) hx hb hown (hts _ kX8_digest_c174) dX8_digest_1 ?_
  refine tm_put (D := D) (ci := 8) (v := .long 11759) (ty := .long) (C := RX8) (T := TX8) (N := 18) hx hb hts uX8_digest_X8 tyX8 tyX8_ok nmX8 hown hK hP hD hS 0 rfl rfl 17 (by decide) (hts _ kX8_digest_f170) (fun _ h9 => h9) rfl (by decide +kernel) rfl rfl (Nat.le_of_ble_eq_true rfl) dX8_digest_4 (fun z => WX8 cI cZ cR q0 d0 z) (11759) rfl (fun g_1 eg_1 H locs hP hD hS => ?_)
  have hf := tm_at eg_1 hf
  refine lv_iconst (v := 0) hx hb dX8_digest_7 (by decide) ?_
  refine lv_istore_n (lv' := [(1, .int 0), (0, .ref (q0 0))]) hx hb dX8_digest_8 rfl hl (by decide) rfl (fun ls hl => ?_)
  obtain ⟨t_6, ot_6, hf⟩ := tm_bS hf
  refine wX8_digest_9 l D cI cZ cR N q0 C d0 _ _ _ ot_6 ?_ _ _ _ hP hD hS (lv_sub hl [1, 0] rfl)
  intro H locs ls hP hD hS hl
  refine lv_aload_n hx hb dX8_digest_30 rfl (lv_at hl 0 rfl) ?_
  refine lv_aload_n hx hb dX8_digest_31 rfl (lv_at hl 0 rfl) ?_
  refine va_get (D := D) (ci := 8) (v := .int (d0 0 2)) (C := RX8) (T := TX8) (N := 18) hx hb hts uX8_digest_X8 hown hK hP 0 rfl rfl 2 (by decide) (hts _ kX8_digest_f60) (fun _ h9 => h9) rfl dX8_digest_32 ?_
  obtain ⟨t_7, ot_7, hf⟩ := tm_bS hf
  refine tm_cVV (As := [.int (d0 0 2)]) (rest := []) ⟨hx, hb, hml, hown, hts⟩ (tX8_mix l D cI cZ cR N q0 d0 t_6.2 (d0 0 2) t_7 ot_7) (cwV 1 hts gX8_digest_X8_mix rfl rfl rfl hdwsV_X8_mix ⟨Nat.le_of_ble_eq_true rfl, Nat.le_of_ble_eq_true rfl⟩) hK hP hD hS hA [0, 1, 2, 3, 4, 5, 6, 7, 8, 9, 10, 11, 12, 13, 14, 15] (by decide) rfl rfl (ci := 8) rfl rfl rfl (fun _ => WX8 cI cZ cR q0 d0 t_7) (()) rfl rfl hl.1 rfl (Nat.le_of_ble_eq_true rfl) dX8_digest_35 ⟨Nat.zero_le _, Nat.zero_le _⟩ (fun _ _ H locs hP hD hS => ?_)
  refine lv_iconst (v := 1) hx hb dX8_digest_38 (by decide) ?_
  refine lv_istore_n (lv' := [(1, .int 1), (0, .ref (q0 0))]) hx hb dX8_digest_39 rfl hl (by decide) rfl (fun ls hl => ?_)
  obtain ⟨t_12, ot_12, hf⟩ := tm_bS hf
  refine wX8_digest_40 l D cI cZ cR N q0 C d0 _ _ _ ot_12 ?_ _ _ _ hP hD hS (lv_sub hl [1, 0] rfl)
  intro H locs ls hP hD hS hl
  refine lv_aload_n hx hb dX8_digest_61 rfl (lv_at hl 0 rfl) ?_
  refine lv_aload_n hx hb dX8_digest_62 rfl (lv_at hl 0 rfl) ?_
  refine va_get (D := D) (ci := 8) (v := .ref (q0 1)) (C := RX8) (T := TX8) (N := 18) hx hb hts uX8_digest_X8 hown hK hP 0 rfl rfl 0 (by decide) (hts _ kX8_digest_f7) (fun _ h9 => h9) rfl dX8_digest_63 ?_
  refine lv_iconst (v := 0) hx hb dX8_digest_66 (by decide) ?_
  refine va_iald hx hb hK hP 1 0 rfl rfl (tm_inb_in (by decide)) dX8_digest_67 ?_
  obtain ⟨t_13, ot_13, hf⟩ := tm_bS hf
  refine tm_cVV (As := [.int (d0 1 (0 : Int32).toNatClampNeg)]) (rest := []) ⟨hx, hb, hml, hown, hts⟩ (tX8_mix l D cI cZ cR N q0 d0 t_12.2 (d0 1 (0 : Int32).toNatClampNeg) t_13 ot_13) (cwV 1 hts gX8_digest_X8_mix rfl rfl rfl hdwsV_X8_mix ⟨Nat.le_of_ble_eq_true rfl, Nat.le_of_ble_eq_true rfl⟩) hK hP hD hS hA [0, 1, 2, 3, 4, 5, 6, 7, 8, 9, 10, 11, 12, 13, 14, 15] (by decide) rfl rfl (ci := 8) rfl rfl rfl (fun _ => WX8 cI cZ cR q0 d0 t_13) (()) rfl rfl hl.1 rfl (Nat.le_of_ble_eq_true rfl) dX8_digest_68 ⟨Nat.zero_le _, Nat.zero_le _⟩ (fun _ _ H locs hP hD hS => ?_)
  refine lv_aload_n hx hb dX8_digest_71 rfl (lv_at hl 0 rfl) ?_
  obtain ⟨t_14, ot_14, hf⟩ := tm_bS hf
  refine tm_cVV (As := []) (rest := []) ⟨hx, hb, hml, hown, hts⟩ (tX8_lays l D cI cZ cR N q0 d0 t_13 t_14 ot_14) (cwV 0 hts gX8_digest_X8_lays rfl rfl rfl hdwsV_X8_lays ⟨Nat.le_of_ble_eq_true rfl, Nat.le_of_ble_eq_true rfl⟩) hK hP hD hS hA [0, 1, 2, 3, 4, 5, 6, 7, 8, 9, 10, 11, 12, 13, 14, 15] (by decide) rfl rfl (ci := 8) rfl rfl rfl (fun _ => WX8 cI cZ cR q0 t_14 t_13) (()) rfl rfl hl.1 rfl (Nat.le_of_ble_eq_true rfl) dX8_digest_72 ⟨Nat.zero_le _, Nat.zero_le _⟩ (fun _ _ H locs hP hD hS => ?_)
  refine lv_iconst (v := 0) hx hb dX8_digest_75 (by decide) ?_
  refine lv_istore_n (lv' := [(1, .int 0), (0, .ref (q0 0))]) hx hb dX8_digest_76 rfl hl (by decide) rfl (fun ls hl => ?_)
  obtain ⟨t_31, ot_31, hf⟩ := tm_bS hf
  refine wX8_digest_77 l D cI cZ cR N q0 C t_14 _ _ _ ot_31 ?_ _ _ _ hP hD hS (lv_sub hl [1, 0] rfl)
  intro H locs ls hP hD hS hl
  refine lv_aload_n hx hb dX8_digest_186 rfl (lv_at hl 0 rfl) ?_
  refine lv_aload_n hx hb dX8_digest_187 rfl (lv_at hl 0 rfl) ?_
  obtain ⟨t_32, ot_32, hf⟩ := tm_bS hf
  refine tm_cVI (As := []) (rest := [.ref (q0 0)]) ⟨hx, hb, hml, hown, hts⟩ (tX8_pixels l D cI cZ cR N q0 t_14 t_31.2 t_32 ot_32) (cwV 0 hts gX8_digest_X8_pixels rfl rfl rfl hdwsV_X8_pixels ⟨Nat.le_of_ble_eq_true rfl, Nat.le_of_ble_eq_true rfl⟩) hK hP hD hS hA [0, 1, 2, 3, 4, 5, 6, 7, 8, 9, 10, 11, 12, 13, 14, 15] (by decide) rfl rfl (ci := 8) rfl rfl rfl (fun _ => WX8 cI cZ cR q0 t_14 t_31.2) (()) rfl rfl hl.1 rfl (Nat.le_of_ble_eq_true rfl) dX8_digest_188 ⟨Nat.zero_le _, Nat.zero_le _⟩ (fun _ _ H locs hP hD hS => ?_)
  obtain ⟨t_33, ot_33, hf⟩ := tm_bS hf
  refine tm_cVV (As := [.int t_32]) (rest := []) ⟨hx, hb, hml, hown, hts⟩ (tX8_mix l D cI cZ cR N q0 t_14 t_31.2 t_32 t_33 ot_33) (cwV 1 hts gX8_digest_X8_mix rfl rfl rfl hdwsV_X8_mix ⟨Nat.le_of_ble_eq_true rfl, Nat.le_of_ble_eq_true rfl⟩) hK hP hD hS hA [0, 1, 2, 3, 4, 5, 6, 7, 8, 9, 10, 11, 12, 13, 14, 15] (by decide) rfl rfl (ci := 8) rfl rfl rfl (fun _ => WX8 cI cZ cR q0 t_14 t_33) (()) rfl rfl hl.1 rfl (Nat.le_of_ble_eq_true rfl) dX8_digest_191 ⟨Nat.zero_le _, Nat.zero_le _⟩ (fun _ _ H locs hP hD hS => ?_)
  refine lv_aload_n hx hb dX8_digest_194 rfl (lv_at hl 0 rfl) ?_
  refine lv_aload_n hx hb dX8_digest_195 rfl (lv_at hl 0 rfl) ?_
  refine lv_iconst (v := 1) hx hb dX8_digest_196 (by decide) ?_
  obtain ⟨t_34, ot_34, hf⟩ := tm_bS hf
  refine tm_cVI (As := [.int 1]) (rest := [.ref (q0 0)]) ⟨hx, hb, hml, hown, hts⟩ (tX8_aspects l D cI cZ cR N q0 t_14 t_33 (1 : Int32) t_34 ot_34) (cwV 1 hts gX8_digest_X8_aspects rfl rfl rfl hdwsV_X8_aspects ⟨Nat.le_of_ble_eq_true rfl, Nat.le_of_ble_eq_true rfl⟩) hK hP hD hS hA [0, 1, 2, 3, 4, 5, 6, 7, 8, 9, 10, 11, 12, 13, 14, 15] (by decide) rfl rfl (ci := 8) rfl rfl rfl (fun _ => WX8 cI cZ cR q0 t_14 t_33) (()) rfl rfl hl.1 rfl (Nat.le_of_ble_eq_true rfl) dX8_digest_197 ⟨Nat.zero_le _, Nat.zero_le _⟩ (fun _ _ H locs hP hD hS => ?_)
  obtain ⟨t_35, ot_35, hf⟩ := tm_bS hf
  refine tm_cVV (As := [.int t_34]) (rest := []) ⟨hx, hb, hml, hown, hts⟩ (tX8_mix l D cI cZ cR N q0 t_14 t_33 t_34 t_35 ot_35) (cwV 1 hts gX8_digest_X8_mix rfl rfl rfl hdwsV_X8_mix ⟨Nat.le_of_ble_eq_true rfl, Nat.le_of_ble_eq_true rfl⟩) hK hP hD hS hA [0, 1, 2, 3, 4, 5, 6, 7, 8, 9, 10, 11, 12, 13, 14, 15] (by decide) rfl rfl (ci := 8) rfl rfl rfl (fun _ => WX8 cI cZ cR q0 t_14 t_35) (()) rfl rfl hl.1 rfl (Nat.le_of_ble_eq_true rfl) dX8_digest_200 ⟨Nat.zero_le _, Nat.zero_le _⟩ (fun _ _ H locs hP hD hS => ?_)
  refine lv_aload_n hx hb dX8_digest_203 rfl (lv_at hl 0 rfl) ?_
  refine lv_aload_n hx hb dX8_digest_204 rfl (lv_at hl 0 rfl) ?_
  refine lv_iconst (v := 0) hx hb dX8_digest_205 (by decide) ?_
  obtain ⟨t_36, ot_36, hf⟩ := tm_bS hf
  refine tm_cVI (As := [.int 0]) (rest := [.ref (q0 0)]) ⟨hx, hb, hml, hown, hts⟩ (tX8_aspects l D cI cZ cR N q0 t_14 t_35 (0 : Int32) t_36 ot_36) (cwV 1 hts gX8_digest_X8_aspects rfl rfl rfl hdwsV_X8_aspects ⟨Nat.le_of_ble_eq_true rfl, Nat.le_of_ble_eq_true rfl⟩) hK hP hD hS hA [0, 1, 2, 3, 4, 5, 6, 7, 8, 9, 10, 11, 12, 13, 14, 15] (by decide) rfl rfl (ci := 8) rfl rfl rfl (fun _ => WX8 cI cZ cR q0 t_14 t_35) (()) rfl rfl hl.1 rfl (Nat.le_of_ble_eq_true rfl) dX8_digest_206 ⟨Nat.zero_le _, Nat.zero_le _⟩ (fun _ _ H locs hP hD hS => ?_)
  obtain ⟨t_37, ot_37, hf⟩ := tm_bS hf
  refine tm_cVV (As := [.int t_36]) (rest := []) ⟨hx, hb, hml, hown, hts⟩ (tX8_mix l D cI cZ cR N q0 t_14 t_35 t_36 t_37 ot_37) (cwV 1 hts gX8_digest_X8_mix rfl rfl rfl hdwsV_X8_mix ⟨Nat.le_of_ble_eq_true rfl, Nat.le_of_ble_eq_true rfl⟩) hK hP hD hS hA [0, 1, 2, 3, 4, 5, 6, 7, 8, 9, 10, 11, 12, 13, 14, 15] (by decide) rfl rfl (ci := 8) rfl rfl rfl (fun _ => WX8 cI cZ cR q0 t_14 t_37) (()) rfl rfl hl.1 rfl (Nat.le_of_ble_eq_true rfl) dX8_digest_209 ⟨Nat.zero_le _, Nat.zero_le _⟩ (fun _ _ H locs hP hD hS => ?_)
  refine lv_aload_n hx hb dX8_digest_212 rfl (lv_at hl 0 rfl) ?_
  refine va_get (D := D) (ci := 8) (v := .long t_37) (C := RX8) (T := TX8) (N := 18) hx hb hts uX8_digest_X8 hown hK hP 0 rfl rfl 17 (by decide) (hts _ kX8_digest_f170) (fun _ h9 => h9) rfl dX8_digest_213 ?_
  simp only [Option.some.injEq, Prod.mk.injEq] at hf
  obtain ⟨rfl, rfl, rfl⟩ := hf
  exact hend _ _ _ _ hP hD hS dX8_digest_216
