set_option maxHeartbeats 4000000 in
set_option maxRecDepth 100000 in
theorem tX1_isLeaf (l : Launch) (D : va_G) (cI cZ cR : ClassId) (N : Nat) (q0 : Nat → Nat) (d0 : tm_M) (p1 : Int32) (r0 : Int32) (hf : fX1_isLeaf N d0 p1 = some r0) : tm_CI l D (tm_ty cI cZ cR) yX1_isLeaf wsX1_isLeaf rmX1_isLeaf [.ref (q0 0), .int p1] (WX1 cI cZ cR q0 d0) r0 (WX1 cI cZ cR q0 d0) := by
  refine tm_mkI (cc := cX1_isLeaf) (maxL := 2) (ty := .boolean) (by decide) rfl (Nat.le_of_ble_eq_true rfl) ?_
  intro p e s m below meth c A ls Q C hP hD hS hl hend
  have C : tm_Cx p s m c [.ref (q0 0), .int p1].toArray cX1_isLeaf 2 RX1 wsX1_isLeaf D (tm_ty cI cZ cR) A s.heap := C
  obtain ⟨hx, hb, hml, hown, hts, hK, hA⟩ := id C
  have hl : lv_has ls 2 [(0, .ref (q0 0)), (1, .int p1)] := hl
  unfold fX1_isLeaf at hf
  refine lv_aload_n hx hb dX1_isLeaf_0 rfl (lv_at hl 0 rfl) ?_
  refine va_get (D := D) (ci := 1) (v := .ref (q0 11)) (C := RX1) (T := TX1) (N := 8) hx hb hts uX1_isLeaf_X1 hown hK hP 0 rfl rfl 6 (by decide) (hts _ kX1_isLeaf_f35) (fun _ h9 => h9) rfl dX1_isLeaf_1 ?_
  refine lv_iload_n hx hb dX1_isLeaf_4 rfl (lv_at hl 1 rfl) ?_
  obtain ⟨h_1, hf⟩ := tm_gS hf
  refine va_iald hx hb hK hP 11 0 rfl rfl (tm_inb_in h_1) dX1_isLeaf_5 ?_
  refine lv_if_ne (tgt := 13) hx hb dX1_isLeaf_6 (by decide) (fun c_2 => ?_) (fun c_2 => ?_)
  · have hf := tm_iF c_2 hf
    refine lv_iconst (v := 0) hx hb dX1_isLeaf_13 (by decide) ?_
    obtain rfl := Option.some.inj hf
    exact hend _ _ _ _ hP hD hS (by decide) dX1_isLeaf_14
  · have hf := tm_iT c_2 hf
    refine lv_iconst (v := 1) hx hb dX1_isLeaf_9 (by decide) ?_
    refine lv_goto (tgt := 14) hx hb dX1_isLeaf_10 (by decide) ?_
    obtain rfl := Option.some.inj hf
    exact hend _ _ _ _ hP hD hS (by decide) dX1_isLeaf_14
set_option maxHeartbeats 4000000 in
set_option maxRecDepth 100000 in
theorem tX1_isLeafWithArea (l : Launch) (D : va_G) (cI cZ cR : ClassId) (N : Nat) (q0 : Nat → Nat) (d0 : tm_M) (p1 : Int32) (r0 : Int32) (hf : fX1_isLeafWithArea N d0 p1 = some r0) : tm_CI l D (tm_ty cI cZ cR) yX1_isLeafWithArea wsX1_isLeafWithArea rmX1_isLeafWithArea [.ref (q0 0), .int p1] (WX1 cI cZ cR q0 d0) r0 (WX1 cI cZ cR q0 d0) := by
  refine tm_mkI (cc := cX1_isLeafWithArea) (maxL := 2) (ty := .boolean) (by decide) rfl (Nat.le_of_ble_eq_true rfl) ?_
  intro p e s m below meth c A ls Q C hP hD hS hl hend
  have C : tm_Cx p s m c [.ref (q0 0), .int p1].toArray cX1_isLeafWithArea 2 RX1 wsX1_isLeafWithArea D (tm_ty cI cZ cR) A s.heap := C
  obtain ⟨hx, hb, hml, hown, hts, hK, hA⟩ := id C
  have hl : lv_has ls 2 [(0, .ref (q0 0)), (1, .int p1)] := hl
  unfold fX1_isLeafWithArea at hf
  refine lv_aload_n hx hb dX1_isLeafWithArea_0 rfl (lv_at hl 0 rfl) ?_
  refine lv_iload_n hx hb dX1_isLeafWithArea_1 rfl (lv_at hl 1 rfl) ?_
  obtain ⟨t_1, ot_1, hf⟩ := tm_bS hf
  refine tm_cVI (As := [.int p1]) (rest := []) ⟨hx, hb, hml, hown, hts⟩ (tX1_isLeaf l D cI cZ cR N q0 d0 p1 t_1 ot_1) (cwV 1 hts gX1_isLeafWithArea_X1_isLeaf rfl rfl rfl hdwsV_X1_isLeaf ⟨Nat.le_of_ble_eq_true rfl, Nat.le_of_ble_eq_true rfl⟩) hK hP hD hS hA [0, 1, 2, 3, 4, 5, 6, 7, 8, 9, 10, 11, 12, 13, 14, 15, 16, 17, 18, 19, 20, 21, 22, 23, 24, 25] (by decide) rfl rfl (ci := 1) rfl rfl rfl (fun _ => WX1 cI cZ cR q0 d0) (()) rfl rfl hl.1 rfl (Nat.le_of_ble_eq_true rfl) dX1_isLeafWithArea_2 ⟨Nat.zero_le _, Nat.zero_le _⟩ (fun _ _ H locs hP hD hS => ?_)
  refine lv_if_eq (tgt := 23) hx hb dX1_isLeafWithArea_5 (by decide) (fun c_2 => ?_) (fun c_2 => ?_)
  · have hf := tm_iT c_2 hf
    refine lv_iconst (v := 0) hx hb dX1_isLeafWithArea_23 (by decide) ?_
    obtain rfl := Option.some.inj hf
    exact hend _ _ _ _ hP hD hS (by decide) dX1_isLeafWithArea_24
  · have hf := tm_iF c_2 hf
    refine lv_aload_n hx hb dX1_isLeafWithArea_8 rfl (lv_at hl 0 rfl) ?_
    refine va_get (D := D) (ci := 1) (v := .ref (q0 4)) (C := RX1) (T := TX1) (N := 8) hx hb hts uX1_isLeafWithArea_X1 hown hK hP 0 rfl rfl 3 (by decide) (hts _ kX1_isLeafWithArea_f25) (fun _ h9 => h9) rfl dX1_isLeafWithArea_9 ?_
    refine lv_iload_n hx hb dX1_isLeafWithArea_12 rfl (lv_at hl 1 rfl) ?_
    obtain ⟨t_3, ot_3, hf⟩ := tm_bS hf
    refine tm_cVI (As := [.int p1]) (rest := []) ⟨hx, hb, hml, hown, hts⟩ (tX3_area l D cI cZ cR N (tm_sq q0 4) (tm_sh d0 4) p1 t_3 ot_3) (cwV 1 hts gX1_isLeafWithArea_X3_area rfl rfl rfl hdwsV_X3_area ⟨Nat.le_of_ble_eq_true rfl, Nat.le_of_ble_eq_true rfl⟩) hK hP hD hS hA [4, 5, 6, 7, 8] (by decide) rfl rfl (ci := 3) rfl rfl rfl (fun _ => WX1 cI cZ cR q0 d0) (()) rfl rfl hl.1 rfl (Nat.le_of_ble_eq_true rfl) dX1_isLeafWithArea_13 ⟨Nat.zero_le _, Nat.zero_le _⟩ (fun _ _ H locs hP hD hS => ?_)
    refine lv_if_le (tgt := 23) hx hb dX1_isLeafWithArea_16 (by decide) (fun c_4 => ?_) (fun c_4 => ?_)
    · have hf := tm_iT c_4 hf
      refine lv_iconst (v := 0) hx hb dX1_isLeafWithArea_23 (by decide) ?_
      obtain rfl := Option.some.inj hf
      exact hend _ _ _ _ hP hD hS (by decide) dX1_isLeafWithArea_24
    · have hf := tm_iF c_4 hf
      refine lv_iconst (v := 1) hx hb dX1_isLeafWithArea_19 (by decide) ?_
      refine lv_goto (tgt := 24) hx hb dX1_isLeafWithArea_20 (by decide) ?_
      obtain rfl := Option.some.inj hf
      exact hend _ _ _ _ hP hD hS (by decide) dX1_isLeafWithArea_24
set_option maxHeartbeats 4000000 in
set_option maxRecDepth 100000 in
theorem wX1_orderNodes_45 (l : Launch) (D : va_G) (cI cZ cR : ClassId) (N : Nat) (q0 : Nat → Nat) (q1 : Nat → Nat) {p : Program} {e : Env} {s : State} {m : MethodId} {args : Array Value} {below : List Frame} {meth : Method} {c : Code} {A : Nat → Prop} {H0 : Heap} {Q : State → Prop} (C : tm_Cx p s m c args cX1_orderNodes 6 RX1 wsX1_orderNodes D (tm_ty cI cZ cR) A H0) (d1 : tm_M) (v3 : Int32) (v4 : Int32) : ∀ (n : Nat) (st : Int32 × Int32 × tm_M) (o : (Int32 × Int32 × tm_M)), tm_whl (bX1_orderNodes_45 N d1 v4) n st = some o → (fun (o : Int32 × Int32 × tm_M) => ∀ (H : Heap) (locs : List Loc) (ls : Array Slot), va_P D vwCl (WX1X5 cI cZ cR q0 q1 o.2.2 d1) H → va_D A (WX1X5 cI cZ cR q0 q1 o.2.2 d1) → va_S A H0 H locs → lv_has ls 6 [(0, .ref (q0 0)), (1, .ref (q1 0)), (2, .int o.1), (3, .int v3), (4, .int v4)] → W p l e rmX1_orderNodes s m args below meth c H locs 0 0 Q (F0 m 105 ls [])) o → (fun (st : Int32 × Int32 × tm_M) => ∀ (H : Heap) (locs : List Loc) (ls : Array Slot), va_P D vwCl (WX1X5 cI cZ cR q0 q1 st.2.2 d1) H → va_D A (WX1X5 cI cZ cR q0 q1 st.2.2 d1) → va_S A H0 H locs → lv_has ls 6 [(0, .ref (q0 0)), (1, .ref (q1 0)), (2, .int st.1), (3, .int v3), (4, .int v4), (5, .int st.2.1)] → W p l e rmX1_orderNodes s m args below meth c H locs 0 0 Q (F0 m 45 ls [])) st := by
  obtain ⟨hx, hb, hml, hown, hts, hK, hA⟩ := id C
  refine tm_whl_W (Wh := fun (st : Int32 × Int32 × tm_M) => ∀ (H : Heap) (locs : List Loc) (ls : Array Slot), va_P D vwCl (WX1X5 cI cZ cR q0 q1 st.2.2 d1) H → va_D A (WX1X5 cI cZ cR q0 q1 st.2.2 d1) → va_S A H0 H locs → lv_has ls 6 [(0, .ref (q0 0)), (1, .ref (q1 0)), (2, .int st.1), (3, .int v3), (4, .int v4), (5, .int st.2.1)] → W p l e rmX1_orderNodes s m args below meth c H locs 0 0 Q (F0 m 45 ls [])) (Wx := fun (o : Int32 × Int32 × tm_M) => ∀ (H : Heap) (locs : List Loc) (ls : Array Slot), va_P D vwCl (WX1X5 cI cZ cR q0 q1 o.2.2 d1) H → va_D A (WX1X5 cI cZ cR q0 q1 o.2.2 d1) → va_S A H0 H locs → lv_has ls 6 [(0, .ref (q0 0)), (1, .ref (q1 0)), (2, .int o.1), (3, .int v3), (4, .int v4)] → W p l e rmX1_orderNodes s m args below meth c H locs 0 0 Q (F0 m 105 ls [])) ?_
  intro st r hf hk H locs ls hP hD hS hl
  unfold bX1_orderNodes_45 at hf
  refine lv_iload hx hb dX1_orderNodes_45 (lv_at hl 5 rfl) ?_
  refine lv_aload_n hx hb dX1_orderNodes_47 rfl (lv_at hl 1 rfl) ?_
  refine va_get (D := D) (ci := 5) (v := .int (d1 0 2)) (C := RX5) (T := TX5) (N := 7) hx hb hts uX1_orderNodes_X5 hown hK hP 26 rfl rfl 2 (by decide) (hts _ kX1_orderNodes_f73) (fun _ h9 => h9) rfl dX1_orderNodes_48 ?_
  refine lv_icmp_ge (tgt := 105) hx hb dX1_orderNodes_51 (by decide) (fun c_8 => ?_) (fun c_8 => ?_)
  · have hf := tm_iT c_8 hf
    obtain rfl := Option.some.inj hf
    exact hk _ _ _ hP hD hS (lv_sub hl [0, 1, 2, 3, 4] rfl)
  · have hf := tm_iF c_8 hf
    refine lv_aload_n hx hb dX1_orderNodes_54 rfl (lv_at hl 1 rfl) ?_
    refine va_get (D := D) (ci := 5) (v := .ref (q1 2)) (C := RX5) (T := TX5) (N := 7) hx hb hts uX1_orderNodes_X5 hown hK hP 26 rfl rfl 1 (by decide) (hts _ kX1_orderNodes_f80) (fun _ h9 => h9) rfl dX1_orderNodes_55 ?_
    refine lv_iload hx hb dX1_orderNodes_58 (lv_at hl 5 rfl) ?_
    obtain ⟨h_9, hf⟩ := tm_gS hf
    refine va_iald hx hb hK hP 28 0 rfl rfl (tm_inb_in h_9) dX1_orderNodes_60 ?_
    refine lv_iload hx hb dX1_orderNodes_61 (lv_at hl 4 rfl) ?_
    refine lv_icmp_ne (tgt := 99) hx hb dX1_orderNodes_63 (by decide) (fun c_10 => ?_) (fun c_10 => ?_)
    · have hf := tm_iF c_10 hf
      obtain ⟨x_11, ex_11⟩ : ∃ y : Int32, y = st.2.1 + 1 := ⟨_, rfl⟩
      have hf := tm_at ex_11 hf
      refine lv_iinc (v := x_11) (lv' := [(5, .int x_11), (0, .ref (q0 0)), (1, .ref (q1 0)), (2, .int st.1), (3, .int v3), (4, .int v4)]) hx hb dX1_orderNodes_99 hl (k := 5) rfl (by rw [ex_11]; rfl) (by decide) rfl (fun ls hl => ?_)
      refine lv_goto (tgt := 45) hx hb dX1_orderNodes_102 (by decide) ?_
      obtain rfl := Option.some.inj hf
      exact hk _ _ _ hP hD hS (lv_sub hl [1, 2, 3, 4, 5, 0] rfl)
    · have hf := tm_iT c_10 hf
      refine lv_iload_n hx hb dX1_orderNodes_66 rfl (lv_at hl 2 rfl) ?_
      refine lv_bipush (v := 24) hx hb dX1_orderNodes_67 (by decide) ?_
      refine lv_icmp_ge (tgt := 99) hx hb dX1_orderNodes_69 (by decide) (fun c_12 => ?_) (fun c_12 => ?_)
      · have hf := tm_iT c_12 hf
        obtain ⟨x_13, ex_13⟩ : ∃ y : Int32, y = st.2.1 + 1 := ⟨_, rfl⟩
        have hf := tm_at ex_13 hf
        refine lv_iinc (v := x_13) (lv' := [(5, .int x_13), (0, .ref (q0 0)), (1, .ref (q1 0)), (2, .int st.1), (3, .int v3), (4, .int v4)]) hx hb dX1_orderNodes_99 hl (k := 5) rfl (by rw [ex_13]; rfl) (by decide) rfl (fun ls hl => ?_)
        refine lv_goto (tgt := 45) hx hb dX1_orderNodes_102 (by decide) ?_
        obtain rfl := Option.some.inj hf
        exact hk _ _ _ hP hD hS (lv_sub hl [1, 2, 3, 4, 5, 0] rfl)
      · have hf := tm_iF c_12 hf
        refine lv_aload_n hx hb dX1_orderNodes_72 rfl (lv_at hl 0 rfl) ?_
        refine va_get (D := D) (ci := 1) (v := .ref (q0 2)) (C := RX1) (T := TX1) (N := 8) hx hb hts uX1_orderNodes_X1 hown hK hP 0 rfl rfl 1 (by decide) (hts _ kX1_orderNodes_f15) (fun _ h9 => h9) rfl dX1_orderNodes_73 ?_
        refine lv_iload hx hb dX1_orderNodes_76 (lv_at hl 5 rfl) ?_
        refine lv_aload_n hx hb dX1_orderNodes_78 rfl (lv_at hl 0 rfl) ?_
        refine va_get (D := D) (ci := 1) (v := .ref (q0 2)) (C := RX1) (T := TX1) (N := 8) hx hb hts uX1_orderNodes_X1 hown hK hP 0 rfl rfl 1 (by decide) (hts _ kX1_orderNodes_f15) (fun _ h9 => h9) rfl dX1_orderNodes_79 ?_
        refine lv_iload hx hb dX1_orderNodes_82 (lv_at hl 4 rfl) ?_
        obtain ⟨h_14, hf⟩ := tm_gS hf
        refine va_iald hx hb hK hP 2 0 rfl rfl (tm_inb_in h_14) dX1_orderNodes_84 ?_
        refine lv_iconst (v := 1) hx hb dX1_orderNodes_85 (by decide) ?_
        refine lv_iadd hx hb dX1_orderNodes_86 ?_
        refine tm_iast hx hb hK hP hD hS 2 0 rfl rfl (tm_inb_in h_9) dX1_orderNodes_87 (fun z => WX1X5 cI cZ cR q0 q1 z d1) (tm_upc st.2.2 2 (upd (st.2.2 2) st.2.1.toNatClampNeg ((st.2.2 2 v4.toNatClampNeg) + 1))) rfl (fun d0_15 ed0_15 H locs hP hD hS => ?_)
        have hf := tm_at ed0_15 hf
        refine lv_aload_n hx hb dX1_orderNodes_88 rfl (lv_at hl 0 rfl) ?_
        refine va_get (D := D) (ci := 1) (v := .ref (q0 9)) (C := RX1) (T := TX1) (N := 8) hx hb hts uX1_orderNodes_X1 hown hK hP 0 rfl rfl 4 (by decide) (hts _ kX1_orderNodes_f29) (fun _ h9 => h9) rfl dX1_orderNodes_89 ?_
        refine lv_iload_n hx hb dX1_orderNodes_92 rfl (lv_at hl 2 rfl) ?_
        refine lv_iload hx hb dX1_orderNodes_93 (lv_at hl 5 rfl) ?_
        obtain ⟨h_16, hf⟩ := tm_gS hf
        refine tm_iast hx hb hK hP hD hS 9 0 rfl rfl (tm_inb_in h_16) dX1_orderNodes_95 (fun z => WX1X5 cI cZ cR q0 q1 z d1) (tm_upc d0_15 9 (upd (d0_15 9) st.1.toNatClampNeg st.2.1)) rfl (fun d0_17 ed0_17 H locs hP hD hS => ?_)
        have hf := tm_at ed0_17 hf
        obtain ⟨x_18, ex_18⟩ : ∃ y : Int32, y = st.1 + 1 := ⟨_, rfl⟩
        have hf := tm_at ex_18 hf
        refine lv_iinc (v := x_18) (lv' := [(2, .int x_18), (0, .ref (q0 0)), (1, .ref (q1 0)), (3, .int v3), (4, .int v4), (5, .int st.2.1)]) hx hb dX1_orderNodes_96 hl (k := 2) rfl (by rw [ex_18]; rfl) (by decide) rfl (fun ls hl => ?_)
        obtain ⟨x_19, ex_19⟩ : ∃ y : Int32, y = st.2.1 + 1 := ⟨_, rfl⟩
        have hf := tm_at ex_19 hf
        refine lv_iinc (v := x_19) (lv' := [(5, .int x_19), (2, .int x_18), (0, .ref (q0 0)), (1, .ref (q1 0)), (3, .int v3), (4, .int v4)]) hx hb dX1_orderNodes_99 hl (k := 5) rfl (by rw [ex_19]; rfl) (by decide) rfl (fun ls hl => ?_)
        refine lv_goto (tgt := 45) hx hb dX1_orderNodes_102 (by decide) ?_
        obtain rfl := Option.some.inj hf
        exact hk _ _ _ hP hD hS (lv_sub hl [2, 3, 1, 4, 5, 0] rfl)
set_option maxHeartbeats 4000000 in
set_option maxRecDepth 100000 in
theorem wX1_orderNodes_18 (l : Launch) (D : va_G) (cI cZ cR : ClassId) (N : Nat) (q0 : Nat → Nat) (q1 : Nat → Nat) {p : Program} {e : Env} {s : State} {m : MethodId} {args : Array Value} {below : List Frame} {meth : Method} {c : Code} {A : Nat → Prop} {H0 : Heap} {Q : State → Prop} (C : tm_Cx p s m c args cX1_orderNodes 6 RX1 wsX1_orderNodes D (tm_ty cI cZ cR) A H0) (d1 : tm_M) : ∀ (n : Nat) (st : Int32 × Int32 × tm_M) (o : (Int32 × Int32 × tm_M)), tm_whl (bX1_orderNodes_18 N d1) n st = some o → (fun (o : Int32 × Int32 × tm_M) => ∀ (H : Heap) (locs : List Loc) (ls : Array Slot), va_P D vwCl (WX1X5 cI cZ cR q0 q1 o.2.2 d1) H → va_D A (WX1X5 cI cZ cR q0 q1 o.2.2 d1) → va_S A H0 H locs → lv_has ls 6 [] → W p l e rmX1_orderNodes s m args below meth c H locs 0 0 Q (F0 m 127 ls [])) o → (fun (st : Int32 × Int32 × tm_M) => ∀ (H : Heap) (locs : List Loc) (ls : Array Slot), va_P D vwCl (WX1X5 cI cZ cR q0 q1 st.2.2 d1) H → va_D A (WX1X5 cI cZ cR q0 q1 st.2.2 d1) → va_S A H0 H locs → lv_has ls 6 [(0, .ref (q0 0)), (1, .ref (q1 0)), (2, .int st.1), (3, .int st.2.1)] → W p l e rmX1_orderNodes s m args below meth c H locs 0 0 Q (F0 m 18 ls [])) st := by
  obtain ⟨hx, hb, hml, hown, hts, hK, hA⟩ := id C
  refine tm_whl_W (Wh := fun (st : Int32 × Int32 × tm_M) => ∀ (H : Heap) (locs : List Loc) (ls : Array Slot), va_P D vwCl (WX1X5 cI cZ cR q0 q1 st.2.2 d1) H → va_D A (WX1X5 cI cZ cR q0 q1 st.2.2 d1) → va_S A H0 H locs → lv_has ls 6 [(0, .ref (q0 0)), (1, .ref (q1 0)), (2, .int st.1), (3, .int st.2.1)] → W p l e rmX1_orderNodes s m args below meth c H locs 0 0 Q (F0 m 18 ls [])) (Wx := fun (o : Int32 × Int32 × tm_M) => ∀ (H : Heap) (locs : List Loc) (ls : Array Slot), va_P D vwCl (WX1X5 cI cZ cR q0 q1 o.2.2 d1) H → va_D A (WX1X5 cI cZ cR q0 q1 o.2.2 d1) → va_S A H0 H locs → lv_has ls 6 [] → W p l e rmX1_orderNodes s m args below meth c H locs 0 0 Q (F0 m 127 ls [])) ?_
  intro st r hf hk H locs ls hP hD hS hl
  unfold bX1_orderNodes_18 at hf
  refine lv_iload_n hx hb dX1_orderNodes_18 rfl (lv_at hl 3 rfl) ?_
  refine lv_aload_n hx hb dX1_orderNodes_19 rfl (lv_at hl 1 rfl) ?_
  refine va_get (D := D) (ci := 5) (v := .int (d1 0 2)) (C := RX5) (T := TX5) (N := 7) hx hb hts uX1_orderNodes_X5 hown hK hP 26 rfl rfl 2 (by decide) (hts _ kX1_orderNodes_f73) (fun _ h9 => h9) rfl dX1_orderNodes_20 ?_
  refine lv_icmp_ge (tgt := 127) hx hb dX1_orderNodes_23 (by decide) (fun c_3 => ?_) (fun c_3 => ?_)
  · have hf := tm_iT c_3 hf
    obtain rfl := Option.some.inj hf
    exact hk _ _ _ hP hD hS (lv_sub hl [] rfl)
  · have hf := tm_iF c_3 hf
    refine lv_aload_n hx hb dX1_orderNodes_26 rfl (lv_at hl 0 rfl) ?_
    refine va_get (D := D) (ci := 1) (v := .ref (q0 9)) (C := RX1) (T := TX1) (N := 8) hx hb hts uX1_orderNodes_X1 hown hK hP 0 rfl rfl 4 (by decide) (hts _ kX1_orderNodes_f29) (fun _ h9 => h9) rfl dX1_orderNodes_27 ?_
    refine lv_iload_n hx hb dX1_orderNodes_30 rfl (lv_at hl 3 rfl) ?_
    obtain ⟨h_4, hf⟩ := tm_gS hf
    refine va_iald hx hb hK hP 9 0 rfl rfl (tm_inb_in h_4) dX1_orderNodes_31 ?_
    refine lv_topi (fun x_5 ex_5 => ?_)
    have hf := tm_at ex_5 hf
    refine lv_istore (lv' := [(4, .int x_5), (0, .ref (q0 0)), (1, .ref (q1 0)), (2, .int st.1), (3, .int st.2.1)]) hx hb dX1_orderNodes_32 hl (by decide) rfl (fun ls hl => ?_)
    refine lv_aload_n hx hb dX1_orderNodes_34 rfl (lv_at hl 1 rfl) ?_
    refine va_get (D := D) (ci := 1) (v := .ref (q0 10)) (C := RX1) (T := TX1) (N := 8) hx hb hts uX1_orderNodes_X1 hown hK hP 0 rfl rfl 5 (by decide) (hts _ kX1_orderNodes_f32) (fun _ h9 => h9) rfl dX1_orderNodes_35 ?_
    refine lv_iload hx hb dX1_orderNodes_38 (lv_at hl 0 rfl) ?_
    refine lv_iload_n hx hb dX1_orderNodes_40 rfl (lv_at hl 3 rfl) ?_
    obtain ⟨h_6, hf⟩ := tm_gS hf
    refine tm_iast hx hb hK hP hD hS 10 0 rfl rfl (tm_inb_in h_6) dX1_orderNodes_41 (fun z => WX1X5 cI cZ cR q0 q1 z d1) (tm_upc st.2.2 10 (upd (st.2.2 10) x_5.toNatClampNeg st.1)) rfl (fun d0_7 ed0_7 H locs hP hD hS => ?_)
    have hf := tm_at ed0_7 hf
    refine lv_iconst (v := 1) hx hb dX1_orderNodes_42 (by decide) ?_
    refine lv_istore (lv' := [(5, .int 1), (4, .int x_5), (0, .ref (q0 0)), (1, .ref (q1 0)), (2, .int st.1), (3, .int st.2.1)]) hx hb dX1_orderNodes_43 hl (by decide) rfl (fun ls hl => ?_)
    obtain ⟨t_20, ot_20, hf⟩ := tm_bS hf
    refine wX1_orderNodes_45 l D cI cZ cR N q0 q1 C d1 st.2.1 x_5 _ _ _ ot_20 ?_ _ _ _ hP hD hS (lv_sub hl [2, 3, 4, 5, 1, 0] rfl)
    intro H locs ls hP hD hS hl
    refine lv_aload_n hx hb dX1_orderNodes_105 rfl (lv_at hl 0 rfl) ?_
    refine va_get (D := D) (ci := 1) (v := .ref (q0 11)) (C := RX1) (T := TX1) (N := 8) hx hb hts uX1_orderNodes_X1 hown hK hP 0 rfl rfl 6 (by decide) (hts _ kX1_orderNodes_f35) (fun _ h9 => h9) rfl dX1_orderNodes_106 ?_
    refine lv_iload hx hb dX1_orderNodes_109 (lv_at hl 4 rfl) ?_
    refine lv_iload_n hx hb dX1_orderNodes_111 rfl (lv_at hl 2 rfl) ?_
    refine lv_aload_n hx hb dX1_orderNodes_112 rfl (lv_at hl 0 rfl) ?_
    refine va_get (D := D) (ci := 1) (v := .ref (q0 10)) (C := RX1) (T := TX1) (N := 8) hx hb hts uX1_orderNodes_X1 hown hK hP 0 rfl rfl 5 (by decide) (hts _ kX1_orderNodes_f32) (fun _ h9 => h9) rfl dX1_orderNodes_113 ?_
    refine lv_iload hx hb dX1_orderNodes_116 (lv_at hl 4 rfl) ?_
    obtain ⟨h_21, hf⟩ := tm_gS hf
    refine va_iald hx hb hK hP 10 0 rfl rfl (tm_inb_in h_21) dX1_orderNodes_118 ?_
    refine lv_isub hx hb dX1_orderNodes_119 ?_
    refine tm_iast hx hb hK hP hD hS 11 0 rfl rfl (tm_inb_in h_21) dX1_orderNodes_120 (fun z => WX1X5 cI cZ cR q0 q1 z d1) (tm_upc t_20.2.2 11 (upd (t_20.2.2 11) x_5.toNatClampNeg (t_20.1 - (t_20.2.2 10 x_5.toNatClampNeg)))) rfl (fun d0_22 ed0_22 H locs hP hD hS => ?_)
    have hf := tm_at ed0_22 hf
    obtain ⟨x_23, ex_23⟩ : ∃ y : Int32, y = st.2.1 + 1 := ⟨_, rfl⟩
    have hf := tm_at ex_23 hf
    refine lv_iinc (v := x_23) (lv' := [(3, .int x_23), (0, .ref (q0 0)), (1, .ref (q1 0)), (2, .int t_20.1), (4, .int x_5)]) hx hb dX1_orderNodes_121 hl (k := 3) rfl (by rw [ex_23]; rfl) (by decide) rfl (fun ls hl => ?_)
    refine lv_goto (tgt := 18) hx hb dX1_orderNodes_124 (by decide) ?_
    obtain rfl := Option.some.inj hf
    exact hk _ _ _ hP hD hS (lv_sub hl [1, 2, 3, 0] rfl)
set_option maxHeartbeats 4000000 in
set_option maxRecDepth 100000 in
theorem tX1_orderNodes (l : Launch) (D : va_G) (cI cZ cR : ClassId) (N : Nat) (q0 : Nat → Nat) (q1 : Nat → Nat) (d0 : tm_M) (d1 : tm_M) (z0 : tm_M) (hf : fX1_orderNodes N d0 d1 = some z0) : tm_CV l D (tm_ty cI cZ cR) yX1_orderNodes wsX1_orderNodes rmX1_orderNodes [.ref (q0 0), .ref (q1 0)] (WX1X5 cI cZ cR q0 q1 d0 d1) (WX1X5 cI cZ cR q0 q1 z0 d1) := by
  refine tm_mkV (cc := cX1_orderNodes) (maxL := 6) (by decide) rfl (Nat.le_of_ble_eq_true rfl) ?_
  intro p e s m below meth c A ls Q C hP hD hS hl hend
  have C : tm_Cx p s m c [.ref (q0 0), .ref (q1 0)].toArray cX1_orderNodes 6 RX1 wsX1_orderNodes D (tm_ty cI cZ cR) A s.heap := C
  obtain ⟨hx, hb, hml, hown, hts, hK, hA⟩ := id C
  have hl : lv_has ls 6 [(0, .ref (q0 0)), (1, .ref (q1 0))] := hl
  unfold fX1_orderNodes at hf
  refine lv_aload_n hx hb dX1_orderNodes_0 rfl (lv_at hl 0 rfl) ?_
  refine va_get (D := D) (ci := 1) (v := .ref (q0 9)) (C := RX1) (T := TX1) (N := 8) hx hb hts uX1_orderNodes_X1 hown hK hP 0 rfl rfl 4 (by decide) (hts _ kX1_orderNodes_f29) (fun _ h9 => h9) rfl dX1_orderNodes_1 ?_
  refine lv_iconst (v := 0) hx hb dX1_orderNodes_4 (by decide) ?_
  refine lv_iconst (v := 0) hx hb dX1_orderNodes_5 (by decide) ?_
  refine tm_iast hx hb hK hP hD hS 9 0 rfl rfl (tm_inb_in (by decide)) dX1_orderNodes_6 (fun z => WX1X5 cI cZ cR q0 q1 z d1) (tm_upc d0 9 (upd (d0 9) (0 : Int32).toNatClampNeg 0)) rfl (fun d0_1 ed0_1 H locs hP hD hS => ?_)
  have hf := tm_at ed0_1 hf
  refine lv_aload_n hx hb dX1_orderNodes_7 rfl (lv_at hl 0 rfl) ?_
  refine va_get (D := D) (ci := 1) (v := .ref (q0 2)) (C := RX1) (T := TX1) (N := 8) hx hb hts uX1_orderNodes_X1 hown hK hP 0 rfl rfl 1 (by decide) (hts _ kX1_orderNodes_f15) (fun _ h9 => h9) rfl dX1_orderNodes_8 ?_
  refine lv_iconst (v := 0) hx hb dX1_orderNodes_11 (by decide) ?_
  refine lv_iconst (v := 0) hx hb dX1_orderNodes_12 (by decide) ?_
  refine tm_iast hx hb hK hP hD hS 2 0 rfl rfl (tm_inb_in (by decide)) dX1_orderNodes_13 (fun z => WX1X5 cI cZ cR q0 q1 z d1) (tm_upc d0_1 2 (upd (d0_1 2) (0 : Int32).toNatClampNeg 0)) rfl (fun d0_2 ed0_2 H locs hP hD hS => ?_)
  have hf := tm_at ed0_2 hf
  refine lv_iconst (v := 1) hx hb dX1_orderNodes_14 (by decide) ?_
  refine lv_istore_n (lv' := [(2, .int 1), (0, .ref (q0 0)), (1, .ref (q1 0))]) hx hb dX1_orderNodes_15 rfl hl (by decide) rfl (fun ls hl => ?_)
  refine lv_iconst (v := 0) hx hb dX1_orderNodes_16 (by decide) ?_
  refine lv_istore_n (lv' := [(3, .int 0), (2, .int 1), (0, .ref (q0 0)), (1, .ref (q1 0))]) hx hb dX1_orderNodes_17 rfl hl (by decide) rfl (fun ls hl => ?_)
  obtain ⟨t_24, ot_24, hf⟩ := tm_bS hf
  refine wX1_orderNodes_18 l D cI cZ cR N q0 q1 C d1 _ _ _ ot_24 ?_ _ _ _ hP hD hS (lv_sub hl [2, 3, 1, 0] rfl)
  intro H locs ls hP hD hS hl
  obtain rfl := Option.some.inj hf
  exact hend _ _ _ _ hP hD hS dX1_orderNodes_127
set_option maxHeartbeats 4000000 in
set_option maxRecDepth 100000 in
theorem wX1_sumSizes_44 (l : Launch) (D : va_G) (cI cZ cR : ClassId) (N : Nat) (q0 : Nat → Nat) (q1 : Nat → Nat) {p : Program} {e : Env} {s : State} {m : MethodId} {args : Array Value} {below : List Frame} {meth : Method} {c : Code} {A : Nat → Prop} {H0 : Heap} {Q : State → Prop} (C : tm_Cx p s m c args cX1_sumSizes 7 RX1 wsX1_sumSizes D (tm_ty cI cZ cR) A H0) (d0 : tm_M) (d1 : tm_M) (v2 : Int32) (v3 : Int32) (v5 : Int32) : ∀ (n : Nat) (st : Int32 × Int32) (o : (Int32 × Int32)), tm_whl (bX1_sumSizes_44 N d0 v5) n st = some o → (fun (o : Int32 × Int32) => ∀ (H : Heap) (locs : List Loc) (ls : Array Slot), va_P D vwCl (WX1X5 cI cZ cR q0 q1 d0 d1) H → va_D A (WX1X5 cI cZ cR q0 q1 d0 d1) → va_S A H0 H locs → lv_has ls 7 [(0, .ref (q0 0)), (1, .ref (q1 0)), (2, .int v2), (3, .int v3), (4, .int o.1)] → W p l e rmX1_sumSizes s m args below meth c H locs 0 0 Q (F0 m 74 ls [])) o → (fun (st : Int32 × Int32) => ∀ (H : Heap) (locs : List Loc) (ls : Array Slot), va_P D vwCl (WX1X5 cI cZ cR q0 q1 d0 d1) H → va_D A (WX1X5 cI cZ cR q0 q1 d0 d1) → va_S A H0 H locs → lv_has ls 7 [(0, .ref (q0 0)), (1, .ref (q1 0)), (2, .int v2), (3, .int v3), (4, .int st.1), (5, .int v5), (6, .int st.2)] → W p l e rmX1_sumSizes s m args below meth c H locs 0 0 Q (F0 m 44 ls [])) st := by
  obtain ⟨hx, hb, hml, hown, hts, hK, hA⟩ := id C
  refine tm_whl_W (Wh := fun (st : Int32 × Int32) => ∀ (H : Heap) (locs : List Loc) (ls : Array Slot), va_P D vwCl (WX1X5 cI cZ cR q0 q1 d0 d1) H → va_D A (WX1X5 cI cZ cR q0 q1 d0 d1) → va_S A H0 H locs → lv_has ls 7 [(0, .ref (q0 0)), (1, .ref (q1 0)), (2, .int v2), (3, .int v3), (4, .int st.1), (5, .int v5), (6, .int st.2)] → W p l e rmX1_sumSizes s m args below meth c H locs 0 0 Q (F0 m 44 ls [])) (Wx := fun (o : Int32 × Int32) => ∀ (H : Heap) (locs : List Loc) (ls : Array Slot), va_P D vwCl (WX1X5 cI cZ cR q0 q1 d0 d1) H → va_D A (WX1X5 cI cZ cR q0 q1 d0 d1) → va_S A H0 H locs → lv_has ls 7 [(0, .ref (q0 0)), (1, .ref (q1 0)), (2, .int v2), (3, .int v3), (4, .int o.1)] → W p l e rmX1_sumSizes s m args below meth c H locs 0 0 Q (F0 m 74 ls [])) ?_
  intro st r hf hk H locs ls hP hD hS hl
  unfold bX1_sumSizes_44 at hf
  refine lv_iload hx hb dX1_sumSizes_44 (lv_at hl 6 rfl) ?_
  refine lv_iload hx hb dX1_sumSizes_46 (lv_at hl 5 rfl) ?_
  refine lv_icmp_ge (tgt := 74) hx hb dX1_sumSizes_48 (by decide) (fun c_8 => ?_) (fun c_8 => ?_)
  · have hf := tm_iT c_8 hf
    obtain rfl := Option.some.inj hf
    exact hk _ _ _ hP hD hS (lv_sub hl [0, 1, 2, 3, 4] rfl)
  · have hf := tm_iF c_8 hf
    refine lv_iload hx hb dX1_sumSizes_51 (lv_at hl 4 rfl) ?_
    refine lv_aload_n hx hb dX1_sumSizes_53 rfl (lv_at hl 0 rfl) ?_
    refine va_get (D := D) (ci := 1) (v := .ref (q0 1)) (C := RX1) (T := TX1) (N := 8) hx hb hts uX1_sumSizes_X1 hown hK hP 0 rfl rfl 0 (by decide) (hts _ kX1_sumSizes_f9) (fun _ h9 => h9) rfl dX1_sumSizes_54 ?_
    refine lv_aload_n hx hb dX1_sumSizes_57 rfl (lv_at hl 0 rfl) ?_
    refine va_get (D := D) (ci := 1) (v := .ref (q0 9)) (C := RX1) (T := TX1) (N := 8) hx hb hts uX1_sumSizes_X1 hown hK hP 0 rfl rfl 4 (by decide) (hts _ kX1_sumSizes_f29) (fun _ h9 => h9) rfl dX1_sumSizes_58 ?_
    refine lv_iload hx hb dX1_sumSizes_61 (lv_at hl 6 rfl) ?_
    obtain ⟨h_9, hf⟩ := tm_gS hf
    refine va_iald hx hb hK hP 9 0 rfl rfl (tm_inb_in h_9) dX1_sumSizes_63 ?_
    obtain ⟨h_10, hf⟩ := tm_gS hf
    refine va_iald hx hb hK hP 1 0 rfl rfl (tm_inb_in h_10) dX1_sumSizes_64 ?_
    refine lv_iadd hx hb dX1_sumSizes_65 ?_
    refine lv_topi (fun x_11 ex_11 => ?_)
    have hf := tm_at ex_11 hf
    refine lv_istore (lv' := [(4, .int x_11), (0, .ref (q0 0)), (1, .ref (q1 0)), (2, .int v2), (3, .int v3), (5, .int v5), (6, .int st.2)]) hx hb dX1_sumSizes_66 hl (by decide) rfl (fun ls hl => ?_)
    obtain ⟨x_12, ex_12⟩ : ∃ y : Int32, y = st.2 + 1 := ⟨_, rfl⟩
    have hf := tm_at ex_12 hf
    refine lv_iinc (v := x_12) (lv' := [(6, .int x_12), (4, .int x_11), (0, .ref (q0 0)), (1, .ref (q1 0)), (2, .int v2), (3, .int v3), (5, .int v5)]) hx hb dX1_sumSizes_68 hl (k := 6) rfl (by rw [ex_12]; rfl) (by decide) rfl (fun ls hl => ?_)
    refine lv_goto (tgt := 44) hx hb dX1_sumSizes_71 (by decide) ?_
    obtain rfl := Option.some.inj hf
    exact hk _ _ _ hP hD hS (lv_sub hl [2, 3, 4, 5, 1, 6, 0] rfl)
set_option maxHeartbeats 4000000 in
set_option maxRecDepth 100000 in
theorem wX1_sumSizes_7 (l : Launch) (D : va_G) (cI cZ cR : ClassId) (N : Nat) (q0 : Nat → Nat) (q1 : Nat → Nat) {p : Program} {e : Env} {s : State} {m : MethodId} {args : Array Value} {below : List Frame} {meth : Method} {c : Code} {A : Nat → Prop} {H0 : Heap} {Q : State → Prop} (C : tm_Cx p s m c args cX1_sumSizes 7 RX1 wsX1_sumSizes D (tm_ty cI cZ cR) A H0) (d1 : tm_M) : ∀ (n : Nat) (st : Int32 × tm_M) (o : (Int32 × tm_M)), tm_whl (bX1_sumSizes_7 N d1) n st = some o → (fun (o : Int32 × tm_M) => ∀ (H : Heap) (locs : List Loc) (ls : Array Slot), va_P D vwCl (WX1X5 cI cZ cR q0 q1 o.2 d1) H → va_D A (WX1X5 cI cZ cR q0 q1 o.2 d1) → va_S A H0 H locs → lv_has ls 7 [] → W p l e rmX1_sumSizes s m args below meth c H locs 0 0 Q (F0 m 105 ls [])) o → (fun (st : Int32 × tm_M) => ∀ (H : Heap) (locs : List Loc) (ls : Array Slot), va_P D vwCl (WX1X5 cI cZ cR q0 q1 st.2 d1) H → va_D A (WX1X5 cI cZ cR q0 q1 st.2 d1) → va_S A H0 H locs → lv_has ls 7 [(0, .ref (q0 0)), (1, .ref (q1 0)), (2, .int st.1)] → W p l e rmX1_sumSizes s m args below meth c H locs 0 0 Q (F0 m 7 ls [])) st := by
  obtain ⟨hx, hb, hml, hown, hts, hK, hA⟩ := id C
  refine tm_whl_W (Wh := fun (st : Int32 × tm_M) => ∀ (H : Heap) (locs : List Loc) (ls : Array Slot), va_P D vwCl (WX1X5 cI cZ cR q0 q1 st.2 d1) H → va_D A (WX1X5 cI cZ cR q0 q1 st.2 d1) → va_S A H0 H locs → lv_has ls 7 [(0, .ref (q0 0)), (1, .ref (q1 0)), (2, .int st.1)] → W p l e rmX1_sumSizes s m args below meth c H locs 0 0 Q (F0 m 7 ls [])) (Wx := fun (o : Int32 × tm_M) => ∀ (H : Heap) (locs : List Loc) (ls : Array Slot), va_P D vwCl (WX1X5 cI cZ cR q0 q1 o.2 d1) H → va_D A (WX1X5 cI cZ cR q0 q1 o.2 d1) → va_S A H0 H locs → lv_has ls 7 [] → W p l e rmX1_sumSizes s m args below meth c H locs 0 0 Q (F0 m 105 ls [])) ?_
  intro st r hf hk H locs ls hP hD hS hl
  unfold bX1_sumSizes_7 at hf
  refine lv_iload_n hx hb dX1_sumSizes_7 rfl (lv_at hl 2 rfl) ?_
  refine lv_if_lt (tgt := 105) hx hb dX1_sumSizes_8 (by decide) (fun c_2 => ?_) (fun c_2 => ?_)
  · have hf := tm_iT c_2 hf
    obtain rfl := Option.some.inj hf
    exact hk _ _ _ hP hD hS (lv_sub hl [] rfl)
  · have hf := tm_iF c_2 hf
    refine lv_aload_n hx hb dX1_sumSizes_11 rfl (lv_at hl 0 rfl) ?_
    refine va_get (D := D) (ci := 1) (v := .ref (q0 9)) (C := RX1) (T := TX1) (N := 8) hx hb hts uX1_sumSizes_X1 hown hK hP 0 rfl rfl 4 (by decide) (hts _ kX1_sumSizes_f29) (fun _ h9 => h9) rfl dX1_sumSizes_12 ?_
    refine lv_iload_n hx hb dX1_sumSizes_15 rfl (lv_at hl 2 rfl) ?_
    obtain ⟨h_3, hf⟩ := tm_gS hf
    refine va_iald hx hb hK hP 9 0 rfl rfl (tm_inb_in h_3) dX1_sumSizes_16 ?_
    refine lv_topi (fun x_4 ex_4 => ?_)
    have hf := tm_at ex_4 hf
    refine lv_istore_n (lv' := [(3, .int x_4), (0, .ref (q0 0)), (1, .ref (q1 0)), (2, .int st.1)]) hx hb dX1_sumSizes_17 rfl hl (by decide) rfl (fun ls hl => ?_)
    refine lv_iconst (v := 0) hx hb dX1_sumSizes_18 (by decide) ?_
    refine lv_istore (lv' := [(4, .int 0), (3, .int x_4), (0, .ref (q0 0)), (1, .ref (q1 0)), (2, .int st.1)]) hx hb dX1_sumSizes_19 hl (by decide) rfl (fun ls hl => ?_)
    refine lv_aload_n hx hb dX1_sumSizes_21 rfl (lv_at hl 2 rfl) ?_
    refine va_get (D := D) (ci := 1) (v := .ref (q0 10)) (C := RX1) (T := TX1) (N := 8) hx hb hts uX1_sumSizes_X1 hown hK hP 0 rfl rfl 5 (by decide) (hts _ kX1_sumSizes_f32) (fun _ h9 => h9) rfl dX1_sumSizes_22 ?_
    refine lv_iload_n hx hb dX1_sumSizes_25 rfl (lv_at hl 1 rfl) ?_
    obtain ⟨h_5, hf⟩ := tm_gS hf
    refine va_iald hx hb hK hP 10 0 rfl rfl (tm_inb_in h_5) dX1_sumSizes_26 ?_
    refine lv_aload_n hx hb dX1_sumSizes_27 rfl (lv_at hl 2 rfl) ?_
    refine va_get (D := D) (ci := 1) (v := .ref (q0 11)) (C := RX1) (T := TX1) (N := 8) hx hb hts uX1_sumSizes_X1 hown hK hP 0 rfl rfl 6 (by decide) (hts _ kX1_sumSizes_f35) (fun _ h9 => h9) rfl dX1_sumSizes_28 ?_
    refine lv_iload_n hx hb dX1_sumSizes_31 rfl (lv_at hl 1 rfl) ?_
    refine va_iald hx hb hK hP 11 0 rfl rfl (tm_inb_in h_5) dX1_sumSizes_32 ?_
    refine lv_iadd hx hb dX1_sumSizes_33 ?_
    refine lv_topi (fun x_6 ex_6 => ?_)
    have hf := tm_at ex_6 hf
    refine lv_istore (lv' := [(5, .int x_6), (4, .int 0), (3, .int x_4), (0, .ref (q0 0)), (1, .ref (q1 0)), (2, .int st.1)]) hx hb dX1_sumSizes_34 hl (by decide) rfl (fun ls hl => ?_)
    refine lv_aload_n hx hb dX1_sumSizes_36 rfl (lv_at hl 3 rfl) ?_
    refine va_get (D := D) (ci := 1) (v := .ref (q0 10)) (C := RX1) (T := TX1) (N := 8) hx hb hts uX1_sumSizes_X1 hown hK hP 0 rfl rfl 5 (by decide) (hts _ kX1_sumSizes_f32) (fun _ h9 => h9) rfl dX1_sumSizes_37 ?_
    refine lv_iload_n hx hb dX1_sumSizes_40 rfl (lv_at hl 2 rfl) ?_
    refine va_iald hx hb hK hP 10 0 rfl rfl (tm_inb_in h_5) dX1_sumSizes_41 ?_
    refine lv_topi (fun x_7 ex_7 => ?_)
    have hf := tm_at ex_7 hf
    refine lv_istore (lv' := [(6, .int x_7), (5, .int x_6), (4, .int 0), (3, .int x_4), (0, .ref (q0 0)), (1, .ref (q1 0)), (2, .int st.1)]) hx hb dX1_sumSizes_42 hl (by decide) rfl (fun ls hl => ?_)
    obtain ⟨t_13, ot_13, hf⟩ := tm_bS hf
    refine wX1_sumSizes_44 l D cI cZ cR N q0 q1 C st.2 d1 st.1 x_4 x_6 _ _ _ ot_13 ?_ _ _ _ hP hD hS (lv_sub hl [4, 5, 6, 3, 2, 1, 0] rfl)
    intro H locs ls hP hD hS hl
    refine lv_aload_n hx hb dX1_sumSizes_74 rfl (lv_at hl 0 rfl) ?_
    refine va_get (D := D) (ci := 1) (v := .ref (q0 1)) (C := RX1) (T := TX1) (N := 8) hx hb hts uX1_sumSizes_X1 hown hK hP 0 rfl rfl 0 (by decide) (hts _ kX1_sumSizes_f9) (fun _ h9 => h9) rfl dX1_sumSizes_75 ?_
    refine lv_iload_n hx hb dX1_sumSizes_78 rfl (lv_at hl 3 rfl) ?_
    refine lv_aload_n hx hb dX1_sumSizes_79 rfl (lv_at hl 0 rfl) ?_
    refine lv_iload_n hx hb dX1_sumSizes_80 rfl (lv_at hl 3 rfl) ?_
    obtain ⟨t_14, ot_14, hf⟩ := tm_bS hf
    refine tm_cVI (As := [.int x_4]) (rest := [.int x_4, .ref (q0 1)]) ⟨hx, hb, hml, hown, hts⟩ (tX1_isLeaf l D cI cZ cR N q0 st.2 x_4 t_14 ot_14) (cwV 1 hts gX1_sumSizes_X1_isLeaf rfl rfl rfl hdwsV_X1_isLeaf ⟨Nat.le_of_ble_eq_true rfl, Nat.le_of_ble_eq_true rfl⟩) hK hP hD hS hA [0, 1, 2, 3, 4, 5, 6, 7, 8, 9, 10, 11, 12, 13, 14, 15, 16, 17, 18, 19, 20, 21, 22, 23, 24, 25] (by decide) rfl rfl (ci := 1) rfl rfl rfl (fun _ => WX1X5 cI cZ cR q0 q1 st.2 d1) (()) rfl rfl hl.1 rfl (Nat.le_of_ble_eq_true rfl) dX1_sumSizes_81 ⟨Nat.zero_le _, Nat.zero_le _⟩ (fun _ _ H locs hP hD hS => ?_)
    refine lv_if_eq (tgt := 96) hx hb dX1_sumSizes_84 (by decide) (fun c_15 => ?_) (fun c_15 => ?_)
    · have hf := tm_iT c_15 hf
      refine lv_iload hx hb dX1_sumSizes_96 (lv_at hl 4 rfl) ?_
      obtain ⟨h_16, hf⟩ := tm_gS hf
      refine tm_iast hx hb hK hP hD hS 1 0 rfl rfl (tm_inb_in h_16) dX1_sumSizes_98 (fun z => WX1X5 cI cZ cR q0 q1 z d1) (tm_upc st.2 1 (upd (st.2 1) x_4.toNatClampNeg t_13.1)) rfl (fun d0_17 ed0_17 H locs hP hD hS => ?_)
      have hf := tm_at ed0_17 hf
      obtain ⟨x_18, ex_18⟩ : ∃ y : Int32, y = st.1 + (-1) := ⟨_, rfl⟩
      have hf := tm_at ex_18 hf
      refine lv_iinc (v := x_18) (lv' := [(2, .int x_18), (0, .ref (q0 0)), (1, .ref (q1 0)), (3, .int x_4), (4, .int t_13.1)]) hx hb dX1_sumSizes_99 hl (k := 2) rfl (by rw [ex_18]; rfl) (by decide) rfl (fun ls hl => ?_)
      refine lv_goto (tgt := 7) hx hb dX1_sumSizes_102 (by decide) ?_
      obtain rfl := Option.some.inj hf
      exact hk _ _ _ hP hD hS (lv_sub hl [1, 2, 0] rfl)
    · have hf := tm_iF c_15 hf
      refine lv_aload_n hx hb dX1_sumSizes_87 rfl (lv_at hl 1 rfl) ?_
      refine va_get (D := D) (ci := 5) (v := .ref (q1 1)) (C := RX5) (T := TX5) (N := 7) hx hb hts uX1_sumSizes_X5 hown hK hP 26 rfl rfl 0 (by decide) (hts _ kX1_sumSizes_f83) (fun _ h9 => h9) rfl dX1_sumSizes_88 ?_
      refine lv_iload_n hx hb dX1_sumSizes_91 rfl (lv_at hl 3 rfl) ?_
      obtain ⟨h_19, hf⟩ := tm_gS hf
      refine va_iald hx hb hK hP 27 0 rfl rfl (tm_inb_in h_19) dX1_sumSizes_92 ?_
      refine lv_goto (tgt := 98) hx hb dX1_sumSizes_93 (by decide) ?_
      refine tm_iast hx hb hK hP hD hS 1 0 rfl rfl (tm_inb_in h_19) dX1_sumSizes_98 (fun z => WX1X5 cI cZ cR q0 q1 z d1) (tm_upc st.2 1 (upd (st.2 1) x_4.toNatClampNeg (d1 1 x_4.toNatClampNeg))) rfl (fun d0_20 ed0_20 H locs hP hD hS => ?_)
      have hf := tm_at ed0_20 hf
      obtain ⟨x_21, ex_21⟩ : ∃ y : Int32, y = st.1 + (-1) := ⟨_, rfl⟩
      have hf := tm_at ex_21 hf
      refine lv_iinc (v := x_21) (lv' := [(2, .int x_21), (0, .ref (q0 0)), (1, .ref (q1 0)), (3, .int x_4), (4, .int t_13.1)]) hx hb dX1_sumSizes_99 hl (k := 2) rfl (by rw [ex_21]; rfl) (by decide) rfl (fun ls hl => ?_)
      refine lv_goto (tgt := 7) hx hb dX1_sumSizes_102 (by decide) ?_
      obtain rfl := Option.some.inj hf
      exact hk _ _ _ hP hD hS (lv_sub hl [1, 2, 0] rfl)
set_option maxHeartbeats 4000000 in
set_option maxRecDepth 100000 in
theorem tX1_sumSizes (l : Launch) (D : va_G) (cI cZ cR : ClassId) (N : Nat) (q0 : Nat → Nat) (q1 : Nat → Nat) (d0 : tm_M) (d1 : tm_M) (z0 : tm_M) (hf : fX1_sumSizes N d0 d1 = some z0) : tm_CV l D (tm_ty cI cZ cR) yX1_sumSizes wsX1_sumSizes rmX1_sumSizes [.ref (q0 0), .ref (q1 0)] (WX1X5 cI cZ cR q0 q1 d0 d1) (WX1X5 cI cZ cR q0 q1 z0 d1) := by
  refine tm_mkV (cc := cX1_sumSizes) (maxL := 7) (by decide) rfl (Nat.le_of_ble_eq_true rfl) ?_
  intro p e s m below meth c A ls Q C hP hD hS hl hend
  have C : tm_Cx p s m c [.ref (q0 0), .ref (q1 0)].toArray cX1_sumSizes 7 RX1 wsX1_sumSizes D (tm_ty cI cZ cR) A s.heap := C
  obtain ⟨hx, hb, hml, hown, hts, hK, hA⟩ := id C
  have hl : lv_has ls 7 [(0, .ref (q0 0)), (1, .ref (q1 0))] := hl
  unfold fX1_sumSizes at hf
  refine lv_aload_n hx hb dX1_sumSizes_0 rfl (lv_at hl 1 rfl) ?_
  refine va_get (D := D) (ci := 5) (v := .int (d1 0 2)) (C := RX5) (T := TX5) (N := 7) hx hb hts uX1_sumSizes_X5 hown hK hP 26 rfl rfl 2 (by decide) (hts _ kX1_sumSizes_f73) (fun _ h9 => h9) rfl dX1_sumSizes_1 ?_
  refine lv_iconst (v := 1) hx hb dX1_sumSizes_4 (by decide) ?_
  refine lv_isub hx hb dX1_sumSizes_5 ?_
  refine lv_topi (fun x_1 ex_1 => ?_)
  have hf := tm_at ex_1 hf
  refine lv_istore_n (lv' := [(2, .int x_1), (0, .ref (q0 0)), (1, .ref (q1 0))]) hx hb dX1_sumSizes_6 rfl hl (by decide) rfl (fun ls hl => ?_)
  obtain ⟨t_22, ot_22, hf⟩ := tm_bS hf
  refine wX1_sumSizes_7 l D cI cZ cR N q0 q1 C d1 _ _ _ ot_22 ?_ _ _ _ hP hD hS (lv_sub hl [1, 2, 0] rfl)
  intro H locs ls hP hD hS hl
  obtain rfl := Option.some.inj hf
  exact hend _ _ _ _ hP hD hS dX1_sumSizes_105
set_option maxHeartbeats 4000000 in
set_option maxRecDepth 100000 in
theorem wX1_placeChildren_92 (l : Launch) (D : va_G) (cI cZ cR : ClassId) (N : Nat) (q0 : Nat → Nat) (q1 : Nat → Nat) {p : Program} {e : Env} {s : State} {m : MethodId} {args : Array Value} {below : List Frame} {meth : Method} {c : Code} {A : Nat → Prop} {H0 : Heap} {Q : State → Prop} (C : tm_Cx p s m c args cX1_placeChildren 8 RX1 wsX1_placeChildren D (tm_ty cI cZ cR) A H0) (d1 : tm_M) (v1 : Int32) (v4 : Int32) (v5 : Int32) : ∀ (n : Nat) (st : Int32 × tm_M) (o : (Int32 × tm_M)), tm_whl (bX1_placeChildren_92 N v4 v5) n st = some o → (fun (o : Int32 × tm_M) => ∀ (H : Heap) (locs : List Loc) (ls : Array Slot), va_P D vwCl (WX1X5 cI cZ cR q0 q1 o.2 d1) H → va_D A (WX1X5 cI cZ cR q0 q1 o.2 d1) → va_S A H0 H locs → lv_has ls 8 [(0, .ref (q0 0)), (1, .int v1), (2, .ref (q1 0)), (4, .int v4)] → W p l e rmX1_placeChildren s m args below meth c H locs 0 0 Q (F0 m 152 ls [])) o → (fun (st : Int32 × tm_M) => ∀ (H : Heap) (locs : List Loc) (ls : Array Slot), va_P D vwCl (WX1X5 cI cZ cR q0 q1 st.2 d1) H → va_D A (WX1X5 cI cZ cR q0 q1 st.2 d1) → va_S A H0 H locs → lv_has ls 8 [(0, .ref (q0 0)), (1, .int v1), (2, .ref (q1 0)), (4, .int v4), (5, .int v5), (6, .int st.1)] → W p l e rmX1_placeChildren s m args below meth c H locs 0 0 Q (F0 m 92 ls [])) st := by
  obtain ⟨hx, hb, hml, hown, hts, hK, hA⟩ := id C
  refine tm_whl_W (Wh := fun (st : Int32 × tm_M) => ∀ (H : Heap) (locs : List Loc) (ls : Array Slot), va_P D vwCl (WX1X5 cI cZ cR q0 q1 st.2 d1) H → va_D A (WX1X5 cI cZ cR q0 q1 st.2 d1) → va_S A H0 H locs → lv_has ls 8 [(0, .ref (q0 0)), (1, .int v1), (2, .ref (q1 0)), (4, .int v4), (5, .int v5), (6, .int st.1)] → W p l e rmX1_placeChildren s m args below meth c H locs 0 0 Q (F0 m 92 ls [])) (Wx := fun (o : Int32 × tm_M) => ∀ (H : Heap) (locs : List Loc) (ls : Array Slot), va_P D vwCl (WX1X5 cI cZ cR q0 q1 o.2 d1) H → va_D A (WX1X5 cI cZ cR q0 q1 o.2 d1) → va_S A H0 H locs → lv_has ls 8 [(0, .ref (q0 0)), (1, .int v1), (2, .ref (q1 0)), (4, .int v4)] → W p l e rmX1_placeChildren s m args below meth c H locs 0 0 Q (F0 m 152 ls [])) ?_
  intro st r hf hk H locs ls hP hD hS hl
  unfold bX1_placeChildren_92 at hf
  refine lv_iload hx hb dX1_placeChildren_92 (lv_at hl 5 rfl) ?_
  refine lv_iload hx hb dX1_placeChildren_94 (lv_at hl 4 rfl) ?_
  refine lv_icmp_ge (tgt := 152) hx hb dX1_placeChildren_96 (by decide) (fun c_8 => ?_) (fun c_8 => ?_)
  · have hf := tm_iT c_8 hf
    obtain rfl := Option.some.inj hf
    exact hk _ _ _ hP hD hS (lv_sub hl [0, 1, 2, 3] rfl)
  · have hf := tm_iF c_8 hf
    refine lv_aload_n hx hb dX1_placeChildren_99 rfl (lv_at hl 0 rfl) ?_
    refine va_get (D := D) (ci := 1) (v := .ref (q0 9)) (C := RX1) (T := TX1) (N := 8) hx hb hts uX1_placeChildren_X1 hown hK hP 0 rfl rfl 4 (by decide) (hts _ kX1_placeChildren_f29) (fun _ h9 => h9) rfl dX1_placeChildren_100 ?_
    refine lv_iload hx hb dX1_placeChildren_103 (lv_at hl 5 rfl) ?_
    obtain ⟨h_9, hf⟩ := tm_gS hf
    refine va_iald hx hb hK hP 9 0 rfl rfl (tm_inb_in h_9) dX1_placeChildren_105 ?_
    refine lv_topi (fun x_10 ex_10 => ?_)
    have hf := tm_at ex_10 hf
    refine lv_istore (lv' := [(7, .int x_10), (0, .ref (q0 0)), (1, .int v1), (2, .ref (q1 0)), (4, .int v4), (5, .int v5), (6, .int st.1)]) hx hb dX1_placeChildren_106 hl (by decide) rfl (fun ls hl => ?_)
    refine lv_aload_n hx hb dX1_placeChildren_108 rfl (lv_at hl 1 rfl) ?_
    refine va_get (D := D) (ci := 1) (v := .ref (q0 3)) (C := RX1) (T := TX1) (N := 8) hx hb hts uX1_placeChildren_X1 hown hK hP 0 rfl rfl 2 (by decide) (hts _ kX1_placeChildren_f18) (fun _ h9 => h9) rfl dX1_placeChildren_109 ?_
    refine lv_iload hx hb dX1_placeChildren_112 (lv_at hl 0 rfl) ?_
    refine lv_iload hx hb dX1_placeChildren_114 (lv_at hl 4 rfl) ?_
    obtain ⟨h_11, hf⟩ := tm_gS hf
    refine tm_zast hx hb hK hP hD hS 3 1 rfl rfl (tm_inb_in h_11) dX1_placeChildren_116 (fun z => WX1X5 cI cZ cR q0 q1 z d1) (tm_upc st.2 3 (upd (st.2 3) x_10.toNatClampNeg (vp_nar .boolean v4))) rfl (fun d0_12 ed0_12 H locs hP hD hS => ?_)
    have hf := tm_at ed0_12 hf
    refine lv_aload_n hx hb dX1_placeChildren_117 rfl (lv_at hl 1 rfl) ?_
    refine va_get (D := D) (ci := 1) (v := .ref (q0 4)) (C := RX1) (T := TX1) (N := 8) hx hb hts uX1_placeChildren_X1 hown hK hP 0 rfl rfl 3 (by decide) (hts _ kX1_placeChildren_f25) (fun _ h9 => h9) rfl dX1_placeChildren_118 ?_
    refine lv_iload hx hb dX1_placeChildren_121 (lv_at hl 0 rfl) ?_
    refine lv_iconst (v := 0) hx hb dX1_placeChildren_123 (by decide) ?_
    refine lv_iconst (v := 0) hx hb dX1_placeChildren_124 (by decide) ?_
    refine lv_iconst (v := 0) hx hb dX1_placeChildren_125 (by decide) ?_
    refine lv_iconst (v := 0) hx hb dX1_placeChildren_126 (by decide) ?_
    obtain ⟨t_13, ot_13, hf⟩ := tm_bS hf
    refine tm_cVV (As := [.int x_10, .int 0, .int 0, .int 0, .int 0]) (rest := []) ⟨hx, hb, hml, hown, hts⟩ (tX3_put l D cI cZ cR N (tm_sq q0 4) (tm_sh d0_12 4) x_10 (0 : Int32) (0 : Int32) (0 : Int32) (0 : Int32) t_13 ot_13) (cwV 5 hts gX1_placeChildren_X3_put rfl rfl rfl hdwsV_X3_put ⟨Nat.le_of_ble_eq_true rfl, Nat.le_of_ble_eq_true rfl⟩) hK hP hD hS hA [4, 5, 6, 7, 8] (by decide) rfl rfl (ci := 3) rfl rfl rfl (fun z => WX1X5 cI cZ cR q0 q1 z d1) (tm_ins d0_12 4 5 t_13) rfl rfl hl.1 rfl (Nat.le_of_ble_eq_true rfl) dX1_placeChildren_127 ⟨Nat.zero_le _, Nat.zero_le _⟩ (fun d0_14 ed0_14 H locs hP hD hS => ?_)
    have hf := tm_at ed0_14 hf
    refine lv_aload_n hx hb dX1_placeChildren_130 rfl (lv_at hl 1 rfl) ?_
    refine va_get (D := D) (ci := 1) (v := .ref (q0 12)) (C := RX1) (T := TX1) (N := 8) hx hb hts uX1_placeChildren_X1 hown hK hP 0 rfl rfl 7 (by decide) (hts _ kX1_placeChildren_f41) (fun _ h9 => h9) rfl dX1_placeChildren_131 ?_
    refine lv_iload hx hb dX1_placeChildren_134 (lv_at hl 0 rfl) ?_
    refine lv_aload_n hx hb dX1_placeChildren_136 rfl (lv_at hl 1 rfl) ?_
    refine va_get (D := D) (ci := 1) (v := .ref (q0 1)) (C := RX1) (T := TX1) (N := 8) hx hb hts uX1_placeChildren_X1 hown hK hP 0 rfl rfl 0 (by decide) (hts _ kX1_placeChildren_f9) (fun _ h9 => h9) rfl dX1_placeChildren_137 ?_
    refine lv_iload hx hb dX1_placeChildren_140 (lv_at hl 0 rfl) ?_
    refine va_iald hx hb hK hP 1 0 rfl rfl (tm_inb_in h_11) dX1_placeChildren_142 ?_
    obtain ⟨t_15, ot_15, hf⟩ := tm_bS hf
    refine tm_cVV (As := [.int x_10, .int (d0_14 1 x_10.toNatClampNeg)]) (rest := []) ⟨hx, hb, hml, hown, hts⟩ (tX2_add l D cI cZ cR N (tm_sq q0 12) (tm_sh d0_14 12) x_10 (d0_14 1 x_10.toNatClampNeg) t_15 ot_15) (cwV 2 hts gX1_placeChildren_X2_add rfl rfl rfl hdwsV_X2_add ⟨Nat.le_of_ble_eq_true rfl, Nat.le_of_ble_eq_true rfl⟩) hK hP hD hS hA [12, 13, 14, 15, 16, 17, 18, 19, 20, 21, 22, 23, 24, 25] (by decide) rfl rfl (ci := 2) rfl rfl rfl (fun z => WX1X5 cI cZ cR q0 q1 z d1) (tm_ins d0_14 12 14 t_15) rfl rfl hl.1 rfl (Nat.le_of_ble_eq_true rfl) dX1_placeChildren_143 ⟨Nat.zero_le _, Nat.zero_le _⟩ (fun d0_16 ed0_16 H locs hP hD hS => ?_)
    have hf := tm_at ed0_16 hf
    obtain ⟨x_17, ex_17⟩ : ∃ y : Int32, y = st.1 + 1 := ⟨_, rfl⟩
    have hf := tm_at ex_17 hf
    refine lv_iinc (v := x_17) (lv' := [(6, .int x_17), (7, .int x_10), (0, .ref (q0 0)), (1, .int v1), (2, .ref (q1 0)), (4, .int v4), (5, .int v5)]) hx hb dX1_placeChildren_146 hl (k := 6) rfl (by rw [ex_17]; rfl) (by decide) rfl (fun ls hl => ?_)
    refine lv_goto (tgt := 92) hx hb dX1_placeChildren_149 (by decide) ?_
    obtain rfl := Option.some.inj hf
    exact hk _ _ _ hP hD hS (lv_sub hl [2, 3, 4, 5, 6, 0] rfl)
set_option maxHeartbeats 4000000 in
set_option maxRecDepth 100000 in
theorem tX1_placeChildren (l : Launch) (D : va_G) (cI cZ cR : ClassId) (N : Nat) (q0 : Nat → Nat) (q1 : Nat → Nat) (d0 : tm_M) (d1 : tm_M) (p1 : Int32) (z0 : tm_M) (hf : fX1_placeChildren N d0 d1 p1 = some z0) : tm_CV l D (tm_ty cI cZ cR) yX1_placeChildren wsX1_placeChildren rmX1_placeChildren [.ref (q0 0), .int p1, .ref (q1 0)] (WX1X5 cI cZ cR q0 q1 d0 d1) (WX1X5 cI cZ cR q0 q1 z0 d1) := by
  refine tm_mkV (cc := cX1_placeChildren) (maxL := 8) (by decide) rfl (Nat.le_of_ble_eq_true rfl) ?_
  intro p e s m below meth c A ls Q C hP hD hS hl hend
  have C : tm_Cx p s m c [.ref (q0 0), .int p1, .ref (q1 0)].toArray cX1_placeChildren 8 RX1 wsX1_placeChildren D (tm_ty cI cZ cR) A s.heap := C
  obtain ⟨hx, hb, hml, hown, hts, hK, hA⟩ := id C
  have hl : lv_has ls 8 [(0, .ref (q0 0)), (1, .int p1), (2, .ref (q1 0))] := hl
  unfold fX1_placeChildren at hf
  refine lv_aload_n hx hb dX1_placeChildren_0 rfl (lv_at hl 2 rfl) ?_
  refine va_get (D := D) (ci := 5) (v := .int (d1 0 5)) (C := RX5) (T := TX5) (N := 7) hx hb hts uX1_placeChildren_X5 hown hK hP 26 rfl rfl 5 (by decide) (hts _ kX1_placeChildren_f86) (fun _ h9 => h9) rfl dX1_placeChildren_1 ?_
  refine lv_topi (fun x_1 ex_1 => ?_)
  have hf := tm_at ex_1 hf
  refine lv_istore_n (lv' := [(3, .int x_1), (0, .ref (q0 0)), (1, .int p1), (2, .ref (q1 0))]) hx hb dX1_placeChildren_4 rfl hl (by decide) rfl (fun ls hl => ?_)
  refine lv_aload_n hx hb dX1_placeChildren_5 rfl (lv_at hl 1 rfl) ?_
  refine va_get (D := D) (ci := 1) (v := .ref (q0 12)) (C := RX1) (T := TX1) (N := 8) hx hb hts uX1_placeChildren_X1 hown hK hP 0 rfl rfl 7 (by decide) (hts _ kX1_placeChildren_f41) (fun _ h9 => h9) rfl dX1_placeChildren_6 ?_
  refine lv_aload_n hx hb dX1_placeChildren_9 rfl (lv_at hl 1 rfl) ?_
  refine va_get (D := D) (ci := 1) (v := .ref (q0 4)) (C := RX1) (T := TX1) (N := 8) hx hb hts uX1_placeChildren_X1 hown hK hP 0 rfl rfl 3 (by decide) (hts _ kX1_placeChildren_f25) (fun _ h9 => h9) rfl dX1_placeChildren_10 ?_
  refine va_get (D := D) (ci := 3) (v := .ref (q0 5)) (C := RX3) (T := TX3) (N := 4) hx hb hts uX1_placeChildren_X3 hown hK hP 4 rfl rfl 0 (by decide) (hts _ kX1_placeChildren_f89) (fun _ h9 => h9) rfl dX1_placeChildren_13 ?_
  refine lv_iload_n hx hb dX1_placeChildren_16 rfl (lv_at hl 2 rfl) ?_
  obtain ⟨h_2, hf⟩ := tm_gS hf
  refine va_iald hx hb hK hP 5 0 rfl rfl (tm_inb_in h_2) dX1_placeChildren_17 ?_
  refine lv_iload_n hx hb dX1_placeChildren_18 rfl (lv_at hl 0 rfl) ?_
  refine lv_iadd hx hb dX1_placeChildren_19 ?_
  refine lv_aload_n hx hb dX1_placeChildren_20 rfl (lv_at hl 1 rfl) ?_
  refine va_get (D := D) (ci := 1) (v := .ref (q0 4)) (C := RX1) (T := TX1) (N := 8) hx hb hts uX1_placeChildren_X1 hown hK hP 0 rfl rfl 3 (by decide) (hts _ kX1_placeChildren_f25) (fun _ h9 => h9) rfl dX1_placeChildren_21 ?_
  refine va_get (D := D) (ci := 3) (v := .ref (q0 6)) (C := RX3) (T := TX3) (N := 4) hx hb hts uX1_placeChildren_X3 hown hK hP 4 rfl rfl 1 (by decide) (hts _ kX1_placeChildren_f92) (fun _ h9 => h9) rfl dX1_placeChildren_24 ?_
  refine lv_iload_n hx hb dX1_placeChildren_27 rfl (lv_at hl 2 rfl) ?_
  refine va_iald hx hb hK hP 6 0 rfl rfl (tm_inb_in h_2) dX1_placeChildren_28 ?_
  refine lv_iload_n hx hb dX1_placeChildren_29 rfl (lv_at hl 0 rfl) ?_
  refine lv_iadd hx hb dX1_placeChildren_30 ?_
  refine lv_aload_n hx hb dX1_placeChildren_31 rfl (lv_at hl 1 rfl) ?_
  refine va_get (D := D) (ci := 1) (v := .ref (q0 4)) (C := RX1) (T := TX1) (N := 8) hx hb hts uX1_placeChildren_X1 hown hK hP 0 rfl rfl 3 (by decide) (hts _ kX1_placeChildren_f25) (fun _ h9 => h9) rfl dX1_placeChildren_32 ?_
  refine va_get (D := D) (ci := 3) (v := .ref (q0 7)) (C := RX3) (T := TX3) (N := 4) hx hb hts uX1_placeChildren_X3 hown hK hP 4 rfl rfl 2 (by decide) (hts _ kX1_placeChildren_f95) (fun _ h9 => h9) rfl dX1_placeChildren_35 ?_
  refine lv_iload_n hx hb dX1_placeChildren_38 rfl (lv_at hl 2 rfl) ?_
  refine va_iald hx hb hK hP 7 0 rfl rfl (tm_inb_in h_2) dX1_placeChildren_39 ?_
  refine lv_iconst (v := 2) hx hb dX1_placeChildren_40 (by decide) ?_
  refine lv_iload_n hx hb dX1_placeChildren_41 rfl (lv_at hl 0 rfl) ?_
  refine lv_imul hx hb dX1_placeChildren_42 ?_
  refine lv_isub hx hb dX1_placeChildren_43 ?_
  refine lv_aload_n hx hb dX1_placeChildren_44 rfl (lv_at hl 1 rfl) ?_
  refine va_get (D := D) (ci := 1) (v := .ref (q0 4)) (C := RX1) (T := TX1) (N := 8) hx hb hts uX1_placeChildren_X1 hown hK hP 0 rfl rfl 3 (by decide) (hts _ kX1_placeChildren_f25) (fun _ h9 => h9) rfl dX1_placeChildren_45 ?_
  refine va_get (D := D) (ci := 3) (v := .ref (q0 8)) (C := RX3) (T := TX3) (N := 4) hx hb hts uX1_placeChildren_X3 hown hK hP 4 rfl rfl 3 (by decide) (hts _ kX1_placeChildren_f98) (fun _ h9 => h9) rfl dX1_placeChildren_48 ?_
  refine lv_iload_n hx hb dX1_placeChildren_51 rfl (lv_at hl 2 rfl) ?_
  refine va_iald hx hb hK hP 8 0 rfl rfl (tm_inb_in h_2) dX1_placeChildren_52 ?_
  refine lv_iconst (v := 2) hx hb dX1_placeChildren_53 (by decide) ?_
  refine lv_iload_n hx hb dX1_placeChildren_54 rfl (lv_at hl 0 rfl) ?_
  refine lv_imul hx hb dX1_placeChildren_55 ?_
  refine lv_isub hx hb dX1_placeChildren_56 ?_
  obtain ⟨t_3, ot_3, hf⟩ := tm_bS hf
  refine tm_cVV (As := [.int ((d0 5 p1.toNatClampNeg) + x_1), .int ((d0 6 p1.toNatClampNeg) + x_1), .int ((d0 7 p1.toNatClampNeg) - (2 * x_1)), .int ((d0 8 p1.toNatClampNeg) - (2 * x_1))]) (rest := []) ⟨hx, hb, hml, hown, hts⟩ (tX2_open l D cI cZ cR N (tm_sq q0 12) (tm_sh d0 12) ((d0 5 p1.toNatClampNeg) + x_1) ((d0 6 p1.toNatClampNeg) + x_1) ((d0 7 p1.toNatClampNeg) - (2 * x_1)) ((d0 8 p1.toNatClampNeg) - (2 * x_1)) t_3 ot_3) (cwV 4 hts gX1_placeChildren_X2_open rfl rfl rfl hdwsV_X2_open ⟨Nat.le_of_ble_eq_true rfl, Nat.le_of_ble_eq_true rfl⟩) hK hP hD hS hA [12, 13, 14, 15, 16, 17, 18, 19, 20, 21, 22, 23, 24, 25] (by decide) rfl rfl (ci := 2) rfl rfl rfl (fun z => WX1X5 cI cZ cR q0 q1 z d1) (tm_ins d0 12 14 t_3) rfl rfl hl.1 rfl (Nat.le_of_ble_eq_true rfl) dX1_placeChildren_57 ⟨Nat.zero_le _, Nat.zero_le _⟩ (fun d0_4 ed0_4 H locs hP hD hS => ?_)
  have hf := tm_at ed0_4 hf
  refine lv_aload_n hx hb dX1_placeChildren_60 rfl (lv_at hl 1 rfl) ?_
  refine va_get (D := D) (ci := 1) (v := .ref (q0 12)) (C := RX1) (T := TX1) (N := 8) hx hb hts uX1_placeChildren_X1 hown hK hP 0 rfl rfl 7 (by decide) (hts _ kX1_placeChildren_f41) (fun _ h9 => h9) rfl dX1_placeChildren_61 ?_
  obtain ⟨t_5, ot_5, hf⟩ := tm_bS hf
  refine tm_cVI (As := []) (rest := []) ⟨hx, hb, hml, hown, hts⟩ (tX2_hasNoRoom l D cI cZ cR N (tm_sq q0 12) (tm_sh d0_4 12) t_5 ot_5) (cwV 0 hts gX1_placeChildren_X2_hasNoRoom rfl rfl rfl hdwsV_X2_hasNoRoom ⟨Nat.le_of_ble_eq_true rfl, Nat.le_of_ble_eq_true rfl⟩) hK hP hD hS hA [12, 13, 14, 15, 16, 17, 18, 19, 20, 21, 22, 23, 24, 25] (by decide) rfl rfl (ci := 2) rfl rfl rfl (fun _ => WX1X5 cI cZ cR q0 q1 d0_4 d1) (()) rfl rfl hl.1 rfl (Nat.le_of_ble_eq_true rfl) dX1_placeChildren_64 ⟨Nat.zero_le _, Nat.zero_le _⟩ (fun _ _ H locs hP hD hS => ?_)
  refine lv_istore (lv' := [(4, .int t_5), (3, .int x_1), (0, .ref (q0 0)), (1, .int p1), (2, .ref (q1 0))]) hx hb dX1_placeChildren_67 hl (by decide) rfl (fun ls hl => ?_)
  refine lv_aload_n hx hb dX1_placeChildren_69 rfl (lv_at hl 2 rfl) ?_
  refine va_get (D := D) (ci := 1) (v := .ref (q0 10)) (C := RX1) (T := TX1) (N := 8) hx hb hts uX1_placeChildren_X1 hown hK hP 0 rfl rfl 5 (by decide) (hts _ kX1_placeChildren_f32) (fun _ h9 => h9) rfl dX1_placeChildren_70 ?_
  refine lv_iload_n hx hb dX1_placeChildren_73 rfl (lv_at hl 3 rfl) ?_
  refine va_iald hx hb hK hP 10 0 rfl rfl (tm_inb_in h_2) dX1_placeChildren_74 ?_
  refine lv_aload_n hx hb dX1_placeChildren_75 rfl (lv_at hl 2 rfl) ?_
  refine va_get (D := D) (ci := 1) (v := .ref (q0 11)) (C := RX1) (T := TX1) (N := 8) hx hb hts uX1_placeChildren_X1 hown hK hP 0 rfl rfl 6 (by decide) (hts _ kX1_placeChildren_f35) (fun _ h9 => h9) rfl dX1_placeChildren_76 ?_
  refine lv_iload_n hx hb dX1_placeChildren_79 rfl (lv_at hl 3 rfl) ?_
  refine va_iald hx hb hK hP 11 0 rfl rfl (tm_inb_in h_2) dX1_placeChildren_80 ?_
  refine lv_iadd hx hb dX1_placeChildren_81 ?_
  refine lv_topi (fun x_6 ex_6 => ?_)
  have hf := tm_at ex_6 hf
  refine lv_istore (lv' := [(5, .int x_6), (4, .int t_5), (3, .int x_1), (0, .ref (q0 0)), (1, .int p1), (2, .ref (q1 0))]) hx hb dX1_placeChildren_82 hl (by decide) rfl (fun ls hl => ?_)
  refine lv_aload_n hx hb dX1_placeChildren_84 rfl (lv_at hl 3 rfl) ?_
  refine va_get (D := D) (ci := 1) (v := .ref (q0 10)) (C := RX1) (T := TX1) (N := 8) hx hb hts uX1_placeChildren_X1 hown hK hP 0 rfl rfl 5 (by decide) (hts _ kX1_placeChildren_f32) (fun _ h9 => h9) rfl dX1_placeChildren_85 ?_
  refine lv_iload_n hx hb dX1_placeChildren_88 rfl (lv_at hl 4 rfl) ?_
  refine va_iald hx hb hK hP 10 0 rfl rfl (tm_inb_in h_2) dX1_placeChildren_89 ?_
  refine lv_topi (fun x_7 ex_7 => ?_)
  have hf := tm_at ex_7 hf
  refine lv_istore (lv' := [(6, .int x_7), (5, .int x_6), (4, .int t_5), (3, .int x_1), (0, .ref (q0 0)), (1, .int p1), (2, .ref (q1 0))]) hx hb dX1_placeChildren_90 hl (by decide) rfl (fun ls hl => ?_)
  obtain ⟨t_18, ot_18, hf⟩ := tm_bS hf
  refine wX1_placeChildren_92 l D cI cZ cR N q0 q1 C d1 p1 t_5 x_6 _ _ _ ot_18 ?_ _ _ _ hP hD hS (lv_sub hl [4, 5, 6, 2, 1, 0] rfl)
  intro H locs ls hP hD hS hl
  refine lv_iload hx hb dX1_placeChildren_152 (lv_at hl 3 rfl) ?_
  refine lv_if_ne (tgt := 165) hx hb dX1_placeChildren_154 (by decide) (fun c_19 => ?_) (fun c_19 => ?_)
  · have hf := tm_iF c_19 hf
    obtain rfl := Option.some.inj hf
    exact hend _ _ _ _ hP hD hS dX1_placeChildren_165
  · have hf := tm_iT c_19 hf
    refine lv_aload_n hx hb dX1_placeChildren_157 rfl (lv_at hl 0 rfl) ?_
    refine lv_iload_n hx hb dX1_placeChildren_158 rfl (lv_at hl 1 rfl) ?_
    obtain ⟨t_20, ot_20, hf⟩ := tm_bS hf
    refine tm_cVI (As := [.int p1]) (rest := []) ⟨hx, hb, hml, hown, hts⟩ (tX1_isLeaf l D cI cZ cR N q0 t_18.2 p1 t_20 ot_20) (cwV 1 hts gX1_placeChildren_X1_isLeaf rfl rfl rfl hdwsV_X1_isLeaf ⟨Nat.le_of_ble_eq_true rfl, Nat.le_of_ble_eq_true rfl⟩) hK hP hD hS hA [0, 1, 2, 3, 4, 5, 6, 7, 8, 9, 10, 11, 12, 13, 14, 15, 16, 17, 18, 19, 20, 21, 22, 23, 24, 25] (by decide) rfl rfl (ci := 1) rfl rfl rfl (fun _ => WX1X5 cI cZ cR q0 q1 t_18.2 d1) (()) rfl rfl hl.1 rfl (Nat.le_of_ble_eq_true rfl) dX1_placeChildren_159 ⟨Nat.zero_le _, Nat.zero_le _⟩ (fun _ _ H locs hP hD hS => ?_)
    refine lv_if_eq (tgt := 166) hx hb dX1_placeChildren_162 (by decide) (fun c_21 => ?_) (fun c_21 => ?_)
    · have hf := tm_iT c_21 hf
      refine lv_aload_n hx hb dX1_placeChildren_166 rfl (lv_at hl 2 rfl) ?_
      refine va_get (D := D) (ci := 5) (v := .int (d1 0 6)) (C := RX5) (T := TX5) (N := 7) hx hb hts uX1_placeChildren_X5 hown hK hP 26 rfl rfl 6 (by decide) (hts _ kX1_placeChildren_f113) (fun _ h9 => h9) rfl dX1_placeChildren_167 ?_
      by_cases c_22 : (d1 0 6) = 0
      · have hf := tm_iT c_22 hf
        refine lv_lookup (tgt := 196) hx hb dX1_placeChildren_170 (by decide) (by rw [c_22] <;> rfl) (by decide) ?_
        refine lv_aload_n hx hb dX1_placeChildren_196 rfl (lv_at hl 0 rfl) ?_
        refine va_get (D := D) (ci := 1) (v := .ref (q0 12)) (C := RX1) (T := TX1) (N := 8) hx hb hts uX1_placeChildren_X1 hown hK hP 0 rfl rfl 7 (by decide) (hts _ kX1_placeChildren_f41) (fun _ h9 => h9) rfl dX1_placeChildren_197 ?_
        refine lv_aload_n hx hb dX1_placeChildren_200 rfl (lv_at hl 0 rfl) ?_
        refine va_get (D := D) (ci := 1) (v := .ref (q0 2)) (C := RX1) (T := TX1) (N := 8) hx hb hts uX1_placeChildren_X1 hown hK hP 0 rfl rfl 1 (by decide) (hts _ kX1_placeChildren_f15) (fun _ h9 => h9) rfl dX1_placeChildren_201 ?_
        refine lv_iload_n hx hb dX1_placeChildren_204 rfl (lv_at hl 1 rfl) ?_
        obtain ⟨h_23, hf⟩ := tm_gS hf
        refine va_iald hx hb hK hP 2 0 rfl rfl (tm_inb_in h_23) dX1_placeChildren_205 ?_
        refine lv_iconst (v := 2) hx hb dX1_placeChildren_206 (by decide) ?_
        refine lv_irem hx hb dX1_placeChildren_207 (by decide) ?_
        refine lv_if_ne (tgt := 215) hx hb dX1_placeChildren_208 (by decide) (fun c_24 => ?_) (fun c_24 => ?_)
        · have hf := tm_iF c_24 hf
          refine lv_iconst (v := 0) hx hb dX1_placeChildren_215 (by decide) ?_
          refine lv_aload_n hx hb dX1_placeChildren_216 rfl (lv_at hl 0 rfl) ?_
          refine va_get (D := D) (ci := 1) (v := .ref (q0 4)) (C := RX1) (T := TX1) (N := 8) hx hb hts uX1_placeChildren_X1 hown hK hP 0 rfl rfl 3 (by decide) (hts _ kX1_placeChildren_f25) (fun _ h9 => h9) rfl dX1_placeChildren_217 ?_
          obtain ⟨t_25, ot_25, hf⟩ := tm_bS hf
          refine tm_cVV (As := [.int 0, .ref (q0 4)]) (rest := []) ⟨hx, hb, hml, hown, hts⟩ (tX2_slice l D cI cZ cR N (tm_sq q0 12) (tm_sq q0 4) (tm_sh t_18.2 12) (tm_sh t_18.2 4) (0 : Int32) t_25.1 t_25.2 ot_25) (cwV 2 hts gX1_placeChildren_X2_slice rfl rfl rfl hdwsV_X2_slice ⟨Nat.le_of_ble_eq_true rfl, Nat.le_of_ble_eq_true rfl⟩) hK hP hD hS hA [12, 13, 14, 15, 16, 17, 18, 19, 20, 21, 22, 23, 24, 25, 4, 5, 6, 7, 8] (by decide) rfl rfl (ci := 2) rfl rfl rfl (fun z => WX1X5 cI cZ cR q0 q1 z d1) (tm_ins (tm_ins t_18.2 12 14 t_25.1) 4 5 t_25.2) rfl rfl hl.1 rfl (Nat.le_of_ble_eq_true rfl) dX1_placeChildren_220 ⟨Nat.zero_le _, Nat.zero_le _⟩ (fun d0_26 ed0_26 H locs hP hD hS => ?_)
          have hf := tm_at ed0_26 hf
          refine lv_goto (tgt := 251) hx hb dX1_placeChildren_223 (by decide) ?_
          obtain rfl := Option.some.inj hf
          exact hend _ _ _ _ hP hD hS dX1_placeChildren_251
        · have hf := tm_iT c_24 hf
          refine lv_iconst (v := 1) hx hb dX1_placeChildren_211 (by decide) ?_
          refine lv_goto (tgt := 216) hx hb dX1_placeChildren_212 (by decide) ?_
          refine lv_aload_n hx hb dX1_placeChildren_216 rfl (lv_at hl 0 rfl) ?_
          refine va_get (D := D) (ci := 1) (v := .ref (q0 4)) (C := RX1) (T := TX1) (N := 8) hx hb hts uX1_placeChildren_X1 hown hK hP 0 rfl rfl 3 (by decide) (hts _ kX1_placeChildren_f25) (fun _ h9 => h9) rfl dX1_placeChildren_217 ?_
          obtain ⟨t_27, ot_27, hf⟩ := tm_bS hf
          refine tm_cVV (As := [.int 1, .ref (q0 4)]) (rest := []) ⟨hx, hb, hml, hown, hts⟩ (tX2_slice l D cI cZ cR N (tm_sq q0 12) (tm_sq q0 4) (tm_sh t_18.2 12) (tm_sh t_18.2 4) (1 : Int32) t_27.1 t_27.2 ot_27) (cwV 2 hts gX1_placeChildren_X2_slice rfl rfl rfl hdwsV_X2_slice ⟨Nat.le_of_ble_eq_true rfl, Nat.le_of_ble_eq_true rfl⟩) hK hP hD hS hA [12, 13, 14, 15, 16, 17, 18, 19, 20, 21, 22, 23, 24, 25, 4, 5, 6, 7, 8] (by decide) rfl rfl (ci := 2) rfl rfl rfl (fun z => WX1X5 cI cZ cR q0 q1 z d1) (tm_ins (tm_ins t_18.2 12 14 t_27.1) 4 5 t_27.2) rfl rfl hl.1 rfl (Nat.le_of_ble_eq_true rfl) dX1_placeChildren_220 ⟨Nat.zero_le _, Nat.zero_le _⟩ (fun d0_28 ed0_28 H locs hP hD hS => ?_)
          have hf := tm_at ed0_28 hf
          refine lv_goto (tgt := 251) hx hb dX1_placeChildren_223 (by decide) ?_
          obtain rfl := Option.some.inj hf
          exact hend _ _ _ _ hP hD hS dX1_placeChildren_251
      · have hf := tm_iF c_22 hf
        by_cases c_29 : (d1 0 6) = 1
        · have hf := tm_iT c_29 hf
          refine lv_lookup (tgt := 226) hx hb dX1_placeChildren_170 (by decide) (by rw [c_29] <;> rfl) (by decide) ?_
          refine lv_aload_n hx hb dX1_placeChildren_226 rfl (lv_at hl 0 rfl) ?_
          refine va_get (D := D) (ci := 1) (v := .ref (q0 12)) (C := RX1) (T := TX1) (N := 8) hx hb hts uX1_placeChildren_X1 hown hK hP 0 rfl rfl 7 (by decide) (hts _ kX1_placeChildren_f41) (fun _ h9 => h9) rfl dX1_placeChildren_227 ?_
          refine lv_aload_n hx hb dX1_placeChildren_230 rfl (lv_at hl 0 rfl) ?_
          refine va_get (D := D) (ci := 1) (v := .ref (q0 4)) (C := RX1) (T := TX1) (N := 8) hx hb hts uX1_placeChildren_X1 hown hK hP 0 rfl rfl 3 (by decide) (hts _ kX1_placeChildren_f25) (fun _ h9 => h9) rfl dX1_placeChildren_231 ?_
          obtain ⟨t_30, ot_30, hf⟩ := tm_bS hf
          refine tm_cVV (As := [.ref (q0 4)]) (rest := []) ⟨hx, hb, hml, hown, hts⟩ (tX2_strip l D cI cZ cR N (tm_sq q0 12) (tm_sq q0 4) (tm_sh t_18.2 12) (tm_sh t_18.2 4) t_30.1 t_30.2 ot_30) (cwV 1 hts gX1_placeChildren_X2_strip rfl rfl rfl hdwsV_X2_strip ⟨Nat.le_of_ble_eq_true rfl, Nat.le_of_ble_eq_true rfl⟩) hK hP hD hS hA [12, 13, 14, 15, 16, 17, 18, 19, 20, 21, 22, 23, 24, 25, 4, 5, 6, 7, 8] (by decide) rfl rfl (ci := 2) rfl rfl rfl (fun z => WX1X5 cI cZ cR q0 q1 z d1) (tm_ins (tm_ins t_18.2 12 14 t_30.1) 4 5 t_30.2) rfl rfl hl.1 rfl (Nat.le_of_ble_eq_true rfl) dX1_placeChildren_234 ⟨Nat.zero_le _, Nat.zero_le _⟩ (fun d0_31 ed0_31 H locs hP hD hS => ?_)
          have hf := tm_at ed0_31 hf
          refine lv_goto (tgt := 251) hx hb dX1_placeChildren_237 (by decide) ?_
          obtain rfl := Option.some.inj hf
          exact hend _ _ _ _ hP hD hS dX1_placeChildren_251
        · have hf := tm_iF c_29 hf
          refine lv_lookup (off := 70) (tgt := 240) hx hb dX1_placeChildren_170 (by decide) (tm_look2 c_22 c_29) (by decide) ?_
          refine lv_aload_n hx hb dX1_placeChildren_240 rfl (lv_at hl 0 rfl) ?_
          refine va_get (D := D) (ci := 1) (v := .ref (q0 12)) (C := RX1) (T := TX1) (N := 8) hx hb hts uX1_placeChildren_X1 hown hK hP 0 rfl rfl 7 (by decide) (hts _ kX1_placeChildren_f41) (fun _ h9 => h9) rfl dX1_placeChildren_241 ?_
          refine lv_aload_n hx hb dX1_placeChildren_244 rfl (lv_at hl 0 rfl) ?_
          refine va_get (D := D) (ci := 1) (v := .ref (q0 4)) (C := RX1) (T := TX1) (N := 8) hx hb hts uX1_placeChildren_X1 hown hK hP 0 rfl rfl 3 (by decide) (hts _ kX1_placeChildren_f25) (fun _ h9 => h9) rfl dX1_placeChildren_245 ?_
          obtain ⟨t_32, ot_32, hf⟩ := tm_bS hf
          refine tm_cVV (As := [.ref (q0 4)]) (rest := []) ⟨hx, hb, hml, hown, hts⟩ (tX2_squarify l D cI cZ cR N (tm_sq q0 12) (tm_sq q0 4) (tm_sh t_18.2 12) (tm_sh t_18.2 4) t_32.1 t_32.2 ot_32) (cwV 1 hts gX1_placeChildren_X2_squarify rfl rfl rfl hdwsV_X2_squarify ⟨Nat.le_of_ble_eq_true rfl, Nat.le_of_ble_eq_true rfl⟩) hK hP hD hS hA [12, 13, 14, 15, 16, 17, 18, 19, 20, 21, 22, 23, 24, 25, 4, 5, 6, 7, 8] (by decide) rfl rfl (ci := 2) rfl rfl rfl (fun z => WX1X5 cI cZ cR q0 q1 z d1) (tm_ins (tm_ins t_18.2 12 14 t_32.1) 4 5 t_32.2) rfl rfl hl.1 rfl (Nat.le_of_ble_eq_true rfl) dX1_placeChildren_248 ⟨Nat.zero_le _, Nat.zero_le _⟩ (fun d0_33 ed0_33 H locs hP hD hS => ?_)
          have hf := tm_at ed0_33 hf
          obtain rfl := Option.some.inj hf
          exact hend _ _ _ _ hP hD hS dX1_placeChildren_251
    · have hf := tm_iF c_21 hf
      obtain rfl := Option.some.inj hf
      exact hend _ _ _ _ hP hD hS dX1_placeChildren_165
set_option maxHeartbeats 4000000 in
set_option maxRecDepth 100000 in
theorem wX1_arrange_37 (l : Launch) (D : va_G) (cI cZ cR : ClassId) (N : Nat) (q0 : Nat → Nat) (q1 : Nat → Nat) {p : Program} {e : Env} {s : State} {m : MethodId} {args : Array Value} {below : List Frame} {meth : Method} {c : Code} {A : Nat → Prop} {H0 : Heap} {Q : State → Prop} (C : tm_Cx p s m c args cX1_arrange 3 RX1 wsX1_arrange D (tm_ty cI cZ cR) A H0) (d1 : tm_M) : ∀ (n : Nat) (st : Int32 × tm_M) (o : (Int32 × tm_M)), tm_whl (bX1_arrange_37 N d1) n st = some o → (fun (o : Int32 × tm_M) => ∀ (H : Heap) (locs : List Loc) (ls : Array Slot), va_P D vwCl (WX1X5 cI cZ cR q0 q1 o.2 d1) H → va_D A (WX1X5 cI cZ cR q0 q1 o.2 d1) → va_S A H0 H locs → lv_has ls 3 [] → W p l e rmX1_arrange s m args below meth c H locs 0 0 Q (F0 m 62 ls [])) o → (fun (st : Int32 × tm_M) => ∀ (H : Heap) (locs : List Loc) (ls : Array Slot), va_P D vwCl (WX1X5 cI cZ cR q0 q1 st.2 d1) H → va_D A (WX1X5 cI cZ cR q0 q1 st.2 d1) → va_S A H0 H locs → lv_has ls 3 [(0, .ref (q0 0)), (1, .ref (q1 0)), (2, .int st.1)] → W p l e rmX1_arrange s m args below meth c H locs 0 0 Q (F0 m 37 ls [])) st := by
  obtain ⟨hx, hb, hml, hown, hts, hK, hA⟩ := id C
  refine tm_whl_W (Wh := fun (st : Int32 × tm_M) => ∀ (H : Heap) (locs : List Loc) (ls : Array Slot), va_P D vwCl (WX1X5 cI cZ cR q0 q1 st.2 d1) H → va_D A (WX1X5 cI cZ cR q0 q1 st.2 d1) → va_S A H0 H locs → lv_has ls 3 [(0, .ref (q0 0)), (1, .ref (q1 0)), (2, .int st.1)] → W p l e rmX1_arrange s m args below meth c H locs 0 0 Q (F0 m 37 ls [])) (Wx := fun (o : Int32 × tm_M) => ∀ (H : Heap) (locs : List Loc) (ls : Array Slot), va_P D vwCl (WX1X5 cI cZ cR q0 q1 o.2 d1) H → va_D A (WX1X5 cI cZ cR q0 q1 o.2 d1) → va_S A H0 H locs → lv_has ls 3 [] → W p l e rmX1_arrange s m args below meth c H locs 0 0 Q (F0 m 62 ls [])) ?_
  intro st r hf hk H locs ls hP hD hS hl
  unfold bX1_arrange_37 at hf
  refine lv_iload_n hx hb dX1_arrange_37 rfl (lv_at hl 2 rfl) ?_
  refine lv_aload_n hx hb dX1_arrange_38 rfl (lv_at hl 1 rfl) ?_
  refine va_get (D := D) (ci := 5) (v := .int (d1 0 2)) (C := RX5) (T := TX5) (N := 7) hx hb hts uX1_arrange_X5 hown hK hP 26 rfl rfl 2 (by decide) (hts _ kX1_arrange_f73) (fun _ h9 => h9) rfl dX1_arrange_39 ?_
  refine lv_icmp_ge (tgt := 62) hx hb dX1_arrange_42 (by decide) (fun c_6 => ?_) (fun c_6 => ?_)
  · have hf := tm_iT c_6 hf
    obtain rfl := Option.some.inj hf
    exact hk _ _ _ hP hD hS (lv_sub hl [] rfl)
  · have hf := tm_iF c_6 hf
    refine lv_aload_n hx hb dX1_arrange_45 rfl (lv_at hl 0 rfl) ?_
    refine lv_aload_n hx hb dX1_arrange_46 rfl (lv_at hl 0 rfl) ?_
    refine va_get (D := D) (ci := 1) (v := .ref (q0 9)) (C := RX1) (T := TX1) (N := 8) hx hb hts uX1_arrange_X1 hown hK hP 0 rfl rfl 4 (by decide) (hts _ kX1_arrange_f29) (fun _ h9 => h9) rfl dX1_arrange_47 ?_
    refine lv_iload_n hx hb dX1_arrange_50 rfl (lv_at hl 2 rfl) ?_
    obtain ⟨h_7, hf⟩ := tm_gS hf
    refine va_iald hx hb hK hP 9 0 rfl rfl (tm_inb_in h_7) dX1_arrange_51 ?_
    refine lv_aload_n hx hb dX1_arrange_52 rfl (lv_at hl 1 rfl) ?_
    obtain ⟨t_8, ot_8, hf⟩ := tm_bS hf
    refine tm_cVV (As := [.int (st.2 9 st.1.toNatClampNeg), .ref (q1 0)]) (rest := []) ⟨hx, hb, hml, hown, hts⟩ (tX1_placeChildren l D cI cZ cR N q0 q1 st.2 d1 (st.2 9 st.1.toNatClampNeg) t_8 ot_8) (cwV 2 hts gX1_arrange_X1_placeChildren rfl rfl rfl hdwsV_X1_placeChildren ⟨Nat.le_of_ble_eq_true rfl, Nat.le_of_ble_eq_true rfl⟩) hK hP hD hS hA [0, 1, 2, 3, 4, 5, 6, 7, 8, 9, 10, 11, 12, 13, 14, 15, 16, 17, 18, 19, 20, 21, 22, 23, 24, 25, 26, 27, 28] (by decide) rfl rfl (ci := 1) rfl rfl rfl (fun _ => WX1X5 cI cZ cR q0 q1 t_8 d1) (()) rfl rfl hl.1 rfl (Nat.le_of_ble_eq_true rfl) dX1_arrange_53 ⟨Nat.zero_le _, Nat.zero_le _⟩ (fun _ _ H locs hP hD hS => ?_)
    obtain ⟨x_9, ex_9⟩ : ∃ y : Int32, y = st.1 + 1 := ⟨_, rfl⟩
    have hf := tm_at ex_9 hf
    refine lv_iinc (v := x_9) (lv' := [(2, .int x_9), (0, .ref (q0 0)), (1, .ref (q1 0))]) hx hb dX1_arrange_56 hl (k := 2) rfl (by rw [ex_9]; rfl) (by decide) rfl (fun ls hl => ?_)
    refine lv_goto (tgt := 37) hx hb dX1_arrange_59 (by decide) ?_
    obtain rfl := Option.some.inj hf
    exact hk _ _ _ hP hD hS (lv_sub hl [1, 2, 0] rfl)
set_option maxHeartbeats 4000000 in
set_option maxRecDepth 100000 in
theorem tX1_arrange (l : Launch) (D : va_G) (cI cZ cR : ClassId) (N : Nat) (q0 : Nat → Nat) (q1 : Nat → Nat) (d0 : tm_M) (d1 : tm_M) (z0 : tm_M) (hf : fX1_arrange N d0 d1 = some z0) : tm_CV l D (tm_ty cI cZ cR) yX1_arrange wsX1_arrange rmX1_arrange [.ref (q0 0), .ref (q1 0)] (WX1X5 cI cZ cR q0 q1 d0 d1) (WX1X5 cI cZ cR q0 q1 z0 d1) := by
  refine tm_mkV (cc := cX1_arrange) (maxL := 3) (by decide) rfl (Nat.le_of_ble_eq_true rfl) ?_
  intro p e s m below meth c A ls Q C hP hD hS hl hend
  have C : tm_Cx p s m c [.ref (q0 0), .ref (q1 0)].toArray cX1_arrange 3 RX1 wsX1_arrange D (tm_ty cI cZ cR) A s.heap := C
  obtain ⟨hx, hb, hml, hown, hts, hK, hA⟩ := id C
  have hl : lv_has ls 3 [(0, .ref (q0 0)), (1, .ref (q1 0))] := hl
  unfold fX1_arrange at hf
  refine lv_aload_n hx hb dX1_arrange_0 rfl (lv_at hl 0 rfl) ?_
  refine lv_aload_n hx hb dX1_arrange_1 rfl (lv_at hl 1 rfl) ?_
  obtain ⟨t_1, ot_1, hf⟩ := tm_bS hf
  refine tm_cVV (As := [.ref (q1 0)]) (rest := []) ⟨hx, hb, hml, hown, hts⟩ (tX1_orderNodes l D cI cZ cR N q0 q1 d0 d1 t_1 ot_1) (cwV 1 hts gX1_arrange_X1_orderNodes rfl rfl rfl hdwsV_X1_orderNodes ⟨Nat.le_of_ble_eq_true rfl, Nat.le_of_ble_eq_true rfl⟩) hK hP hD hS hA [0, 1, 2, 3, 4, 5, 6, 7, 8, 9, 10, 11, 12, 13, 14, 15, 16, 17, 18, 19, 20, 21, 22, 23, 24, 25, 26, 27, 28] (by decide) rfl rfl (ci := 1) rfl rfl rfl (fun _ => WX1X5 cI cZ cR q0 q1 t_1 d1) (()) rfl rfl hl.1 rfl (Nat.le_of_ble_eq_true rfl) dX1_arrange_2 ⟨Nat.zero_le _, Nat.zero_le _⟩ (fun _ _ H locs hP hD hS => ?_)
  refine lv_aload_n hx hb dX1_arrange_5 rfl (lv_at hl 0 rfl) ?_
  refine lv_aload_n hx hb dX1_arrange_6 rfl (lv_at hl 1 rfl) ?_
  obtain ⟨t_2, ot_2, hf⟩ := tm_bS hf
  refine tm_cVV (As := [.ref (q1 0)]) (rest := []) ⟨hx, hb, hml, hown, hts⟩ (tX1_sumSizes l D cI cZ cR N q0 q1 t_1 d1 t_2 ot_2) (cwV 1 hts gX1_arrange_X1_sumSizes rfl rfl rfl hdwsV_X1_sumSizes ⟨Nat.le_of_ble_eq_true rfl, Nat.le_of_ble_eq_true rfl⟩) hK hP hD hS hA [0, 1, 2, 3, 4, 5, 6, 7, 8, 9, 10, 11, 12, 13, 14, 15, 16, 17, 18, 19, 20, 21, 22, 23, 24, 25, 26, 27, 28] (by decide) rfl rfl (ci := 1) rfl rfl rfl (fun _ => WX1X5 cI cZ cR q0 q1 t_2 d1) (()) rfl rfl hl.1 rfl (Nat.le_of_ble_eq_true rfl) dX1_arrange_7 ⟨Nat.zero_le _, Nat.zero_le _⟩ (fun _ _ H locs hP hD hS => ?_)
  refine lv_aload_n hx hb dX1_arrange_10 rfl (lv_at hl 0 rfl) ?_
  refine va_get (D := D) (ci := 1) (v := .ref (q0 4)) (C := RX1) (T := TX1) (N := 8) hx hb hts uX1_arrange_X1 hown hK hP 0 rfl rfl 3 (by decide) (hts _ kX1_arrange_f25) (fun _ h9 => h9) rfl dX1_arrange_11 ?_
  refine lv_iconst (v := 0) hx hb dX1_arrange_14 (by decide) ?_
  refine lv_iconst (v := 0) hx hb dX1_arrange_15 (by decide) ?_
  refine lv_iconst (v := 0) hx hb dX1_arrange_16 (by decide) ?_
  refine lv_aload_n hx hb dX1_arrange_17 rfl (lv_at hl 1 rfl) ?_
  refine va_get (D := D) (ci := 5) (v := .int (d1 0 3)) (C := RX5) (T := TX5) (N := 7) hx hb hts uX1_arrange_X5 hown hK hP 26 rfl rfl 3 (by decide) (hts _ kX1_arrange_f60) (fun _ h9 => h9) rfl dX1_arrange_18 ?_
  refine lv_aload_n hx hb dX1_arrange_21 rfl (lv_at hl 1 rfl) ?_
  refine va_get (D := D) (ci := 5) (v := .int (d1 0 4)) (C := RX5) (T := TX5) (N := 7) hx hb hts uX1_arrange_X5 hown hK hP 26 rfl rfl 4 (by decide) (hts _ kX1_arrange_f66) (fun _ h9 => h9) rfl dX1_arrange_22 ?_
  obtain ⟨t_3, ot_3, hf⟩ := tm_bS hf
  refine tm_cVV (As := [.int 0, .int 0, .int 0, .int (d1 0 3), .int (d1 0 4)]) (rest := []) ⟨hx, hb, hml, hown, hts⟩ (tX3_put l D cI cZ cR N (tm_sq q0 4) (tm_sh t_2 4) (0 : Int32) (0 : Int32) (0 : Int32) (d1 0 3) (d1 0 4) t_3 ot_3) (cwV 5 hts gX1_arrange_X3_put rfl rfl rfl hdwsV_X3_put ⟨Nat.le_of_ble_eq_true rfl, Nat.le_of_ble_eq_true rfl⟩) hK hP hD hS hA [4, 5, 6, 7, 8] (by decide) rfl rfl (ci := 3) rfl rfl rfl (fun z => WX1X5 cI cZ cR q0 q1 z d1) (tm_ins t_2 4 5 t_3) rfl rfl hl.1 rfl (Nat.le_of_ble_eq_true rfl) dX1_arrange_25 ⟨Nat.zero_le _, Nat.zero_le _⟩ (fun d0_4 ed0_4 H locs hP hD hS => ?_)
  have hf := tm_at ed0_4 hf
  refine lv_aload_n hx hb dX1_arrange_28 rfl (lv_at hl 0 rfl) ?_
  refine va_get (D := D) (ci := 1) (v := .ref (q0 3)) (C := RX1) (T := TX1) (N := 8) hx hb hts uX1_arrange_X1 hown hK hP 0 rfl rfl 2 (by decide) (hts _ kX1_arrange_f18) (fun _ h9 => h9) rfl dX1_arrange_29 ?_
  refine lv_iconst (v := 0) hx hb dX1_arrange_32 (by decide) ?_
  refine lv_iconst (v := 0) hx hb dX1_arrange_33 (by decide) ?_
  refine tm_zast hx hb hK hP hD hS 3 1 rfl rfl (tm_inb_in (by decide)) dX1_arrange_34 (fun z => WX1X5 cI cZ cR q0 q1 z d1) (tm_upc d0_4 3 (upd (d0_4 3) (0 : Int32).toNatClampNeg (vp_nar .boolean 0))) rfl (fun d0_5 ed0_5 H locs hP hD hS => ?_)
  have hf := tm_at ed0_5 hf
  refine lv_iconst (v := 0) hx hb dX1_arrange_35 (by decide) ?_
  refine lv_istore_n (lv' := [(2, .int 0), (0, .ref (q0 0)), (1, .ref (q1 0))]) hx hb dX1_arrange_36 rfl hl (by decide) rfl (fun ls hl => ?_)
  obtain ⟨t_10, ot_10, hf⟩ := tm_bS hf
  refine wX1_arrange_37 l D cI cZ cR N q0 q1 C d1 _ _ _ ot_10 ?_ _ _ _ hP hD hS (lv_sub hl [1, 2, 0] rfl)
  intro H locs ls hP hD hS hl
  obtain rfl := Option.some.inj hf
  exact hend _ _ _ _ hP hD hS dX1_arrange_62
