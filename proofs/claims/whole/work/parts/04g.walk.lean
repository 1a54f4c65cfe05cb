set_option maxHeartbeats 4000000 in
set_option maxRecDepth 100000 in
theorem wX8_rowOf_3 (l : Launch) (D : va_G) (cI cZ cR : ClassId) (N : Nat) (q0 : Nat → Nat) {p : Program} {e : Env} {s : State} {m : MethodId} {args : Array Value} {below : List Frame} {meth : Method} {c : Code} {A : Nat → Prop} {H0 : Heap} {Q : State → Prop} (C : tm_Cx p s m c args cX8_rowOf 5 RX8 wsX8_rowOf D (tm_ty cI cZ cR) A H0) (d0 : tm_M) (g0 : Int64) (v1 : Int32) (v2 : UInt32) (v3 : Int32) : ∀ (n : Nat) (st : Int32) (o : (Int32)), tm_whl (bX8_rowOf_3 N d0 g0 v1 v2 v3) n st = some o → (fun (o : Int32) => ∀ (H : Heap) (locs : List Loc) (ls : Array Slot), va_P D vwCl (WX8 cI cZ cR q0 d0 g0) H → va_D A (WX8 cI cZ cR q0 d0 g0) → va_S A H0 H locs → lv_has ls 5 [(4, .int o)] → W p l e rmX8_rowOf s m args below meth c H locs 0 0 Q (F0 m 44 ls [])) o → (fun (st : Int32) => ∀ (H : Heap) (locs : List Loc) (ls : Array Slot), va_P D vwCl (WX8 cI cZ cR q0 d0 g0) H → va_D A (WX8 cI cZ cR q0 d0 g0) → va_S A H0 H locs → lv_has ls 5 [(0, .ref (q0 0)), (1, .int v1), (2, .float v2), (3, .int v3), (4, .int st)] → W p l e rmX8_rowOf s m args below meth c H locs 0 0 Q (F0 m 3 ls [])) st := by
  obtain ⟨hx, hb, hml, hown, hts, hK, hA⟩ := id C
  refine tm_whl_W (Wh := fun (st : Int32) => ∀ (H : Heap) (locs : List Loc) (ls : Array Slot), va_P D vwCl (WX8 cI cZ cR q0 d0 g0) H → va_D A (WX8 cI cZ cR q0 d0 g0) → va_S A H0 H locs → lv_has ls 5 [(0, .ref (q0 0)), (1, .int v1), (2, .float v2), (3, .int v3), (4, .int st)] → W p l e rmX8_rowOf s m args below meth c H locs 0 0 Q (F0 m 3 ls [])) (Wx := fun (o : Int32) => ∀ (H : Heap) (locs : List Loc) (ls : Array Slot), va_P D vwCl (WX8 cI cZ cR q0 d0 g0) H → va_D A (WX8 cI cZ cR q0 d0 g0) → va_S A H0 H locs → lv_has ls 5 [(4, .int o)] → W p l e rmX8_rowOf s m args below meth c H locs 0 0 Q (F0 m 44 ls [])) ?_
  intro st r hf hk H locs ls hP hD hS hl
  unfold bX8_rowOf_3 at hf
  refine lv_iload_n hx hb dX8_rowOf_3 rfl (lv_at hl 1 rfl) ?_
  refine lv_iload hx hb dX8_rowOf_4 (lv_at hl 4 rfl) ?_
  refine lv_iadd hx hb dX8_rowOf_6 ?_
  refine lv_aload_n hx hb dX8_rowOf_7 rfl (lv_at hl 0 rfl) ?_
  refine va_get (D := D) (ci := 8) (v := .int (d0 0 13)) (C := RX8) (T := TX8) (N := 18) hx hb hts uX8_rowOf_X8 hown hK hP 0 rfl rfl 13 (by decide) (hts _ kX8_rowOf_f96) (fun _ h9 => h9) rfl dX8_rowOf_8 ?_
  refine lv_icmp_ge (tgt := 44) hx hb dX8_rowOf_11 (by decide) (fun c_1 => ?_) (fun c_1 => ?_)
  · have hf := tm_iT c_1 hf
    obtain rfl := Option.some.inj hf
    exact hk _ _ _ hP hD hS (lv_sub hl [4] rfl)
  · have hf := tm_iF c_1 hf
    refine lv_aload_n hx hb dX8_rowOf_14 rfl (lv_at hl 0 rfl) ?_
    refine lv_iload_n hx hb dX8_rowOf_15 rfl (lv_at hl 1 rfl) ?_
    refine lv_iload hx hb dX8_rowOf_16 (lv_at hl 4 rfl) ?_
    refine lv_iconst (v := 1) hx hb dX8_rowOf_18 (by decide) ?_
    refine lv_iadd hx hb dX8_rowOf_19 ?_
    refine lv_fload_n hx hb dX8_rowOf_20 rfl (lv_at hl 2 rfl) ?_
    refine lv_iload_n hx hb dX8_rowOf_21 rfl (lv_at hl 3 rfl) ?_
    obtain ⟨t_2, ot_2, hf⟩ := tm_bS hf
    refine tm_cVF (As := [.int v1, .int (st + 1), .float v2, .int v3]) (rest := []) ⟨hx, hb, hml, hown, hts⟩ (tX8_worst l D cI cZ cR N q0 d0 g0 v1 (st + 1) v2 v3 t_2 ot_2) (cwV 4 hts gX8_rowOf_X8_worst rfl rfl rfl hdwsV_X8_worst ⟨Nat.le_of_ble_eq_true rfl, Nat.le_of_ble_eq_true rfl⟩) hK hP hD hS hA [0, 1, 2, 3, 4, 5, 6, 7, 8, 9, 10, 11, 12, 13, 14, 15] (by decide) rfl rfl (ci := 8) rfl rfl rfl (fun _ => WX8 cI cZ cR q0 d0 g0) (()) rfl rfl hl.1 rfl (Nat.le_of_ble_eq_true rfl) dX8_rowOf_22 ⟨Nat.zero_le _, Nat.zero_le _⟩ (fun _ _ H locs hP hD hS => ?_)
    refine lv_aload_n hx hb dX8_rowOf_25 rfl (lv_at hl 0 rfl) ?_
    refine lv_iload_n hx hb dX8_rowOf_26 rfl (lv_at hl 1 rfl) ?_
    refine lv_iload hx hb dX8_rowOf_27 (lv_at hl 4 rfl) ?_
    refine lv_fload_n hx hb dX8_rowOf_29 rfl (lv_at hl 2 rfl) ?_
    refine lv_iload_n hx hb dX8_rowOf_30 rfl (lv_at hl 3 rfl) ?_
    obtain ⟨t_3, ot_3, hf⟩ := tm_bS hf
    refine tm_cVF (As := [.int v1, .int st, .float v2, .int v3]) (rest := [.float t_2]) ⟨hx, hb, hml, hown, hts⟩ (tX8_worst l D cI cZ cR N q0 d0 g0 v1 st v2 v3 t_3 ot_3) (cwV 4 hts gX8_rowOf_X8_worst rfl rfl rfl hdwsV_X8_worst ⟨Nat.le_of_ble_eq_true rfl, Nat.le_of_ble_eq_true rfl⟩) hK hP hD hS hA [0, 1, 2, 3, 4, 5, 6, 7, 8, 9, 10, 11, 12, 13, 14, 15] (by decide) rfl rfl (ci := 8) rfl rfl rfl (fun _ => WX8 cI cZ cR q0 d0 g0) (()) rfl rfl hl.1 rfl (Nat.le_of_ble_eq_true rfl) dX8_rowOf_31 ⟨Nat.zero_le _, Nat.zero_le _⟩ (fun _ _ H locs hP hD hS => ?_)
    refine lv_fcmp hx hb dX8_rowOf_34 ?_
    refine lv_if_gt (tgt := 44) hx hb dX8_rowOf_35 (by decide) (fun c_4 => ?_) (fun c_4 => ?_)
    · have hf := tm_iT c_4 hf
      obtain rfl := Option.some.inj hf
      exact hk _ _ _ hP hD hS (lv_sub hl [4] rfl)
    · have hf := tm_iF c_4 hf
      obtain ⟨x_5, ex_5⟩ : ∃ y : Int32, y = st + 1 := ⟨_, rfl⟩
      have hf := tm_at ex_5 hf
      refine lv_iinc (v := x_5) (lv' := [(4, .int x_5), (0, .ref (q0 0)), (1, .int v1), (2, .float v2), (3, .int v3)]) hx hb dX8_rowOf_38 hl (k := 4) rfl (by rw [ex_5]; rfl) (by decide) rfl (fun ls hl => ?_)
      refine lv_goto (tgt := 3) hx hb dX8_rowOf_41 (by decide) ?_
      obtain rfl := Option.some.inj hf
      exact hk _ _ _ hP hD hS (lv_sub hl [1, 2, 3, 4, 0] rfl)
set_option maxHeartbeats 4000000 in
set_option maxRecDepth 100000 in
theorem tX8_rowOf (l : Launch) (D : va_G) (cI cZ cR : ClassId) (N : Nat) (q0 : Nat → Nat) (d0 : tm_M) (g0 : Int64) (p1 : Int32) (p2 : UInt32) (p3 : Int32) (r0 : Int32) (hf : fX8_rowOf N d0 g0 p1 p2 p3 = some r0) : tm_CI l D (tm_ty cI cZ cR) yX8_rowOf wsX8_rowOf rmX8_rowOf [.ref (q0 0), .int p1, .float p2, .int p3] (WX8 cI cZ cR q0 d0 g0) r0 (WX8 cI cZ cR q0 d0 g0) := by
  refine tm_mkI (cc := cX8_rowOf) (maxL := 5) (ty := .int) (by decide) rfl (Nat.le_of_ble_eq_true rfl) ?_
  intro p e s m below meth c A ls Q C hP hD hS hl hend
  have C : tm_Cx p s m c [.ref (q0 0), .int p1, .float p2, .int p3].toArray cX8_rowOf 5 RX8 wsX8_rowOf D (tm_ty cI cZ cR) A s.heap := C
  obtain ⟨hx, hb, hml, hown, hts, hK, hA⟩ := id C
  have hl : lv_has ls 5 [(0, .ref (q0 0)), (1, .int p1), (2, .float p2), (3, .int p3)] := hl
  unfold fX8_rowOf at hf
  refine lv_iconst (v := 1) hx hb dX8_rowOf_0 (by decide) ?_
  refine lv_istore (lv' := [(4, .int 1), (0, .ref (q0 0)), (1, .int p1), (2, .float p2), (3, .int p3)]) hx hb dX8_rowOf_1 hl (by decide) rfl (fun ls hl => ?_)
  obtain ⟨t_6, ot_6, hf⟩ := tm_bS hf
  refine wX8_rowOf_3 l D cI cZ cR N q0 C d0 g0 p1 p2 p3 _ _ _ ot_6 ?_ _ _ _ hP hD hS (lv_sub hl [1, 2, 3, 4, 0] rfl)
  intro H locs ls hP hD hS hl
  refine lv_iload hx hb dX8_rowOf_44 (lv_at hl 0 rfl) ?_
  obtain rfl := Option.some.inj hf
  exact hend _ _ _ _ hP hD hS rfl dX8_rowOf_46
set_option maxHeartbeats 4000000 in
set_option maxRecDepth 100000 in
theorem wX8_laysSquares_20 (l : Launch) (D : va_G) (cI cZ cR : ClassId) (N : Nat) (q0 : Nat → Nat) {p : Program} {e : Env} {s : State} {m : MethodId} {args : Array Value} {below : List Frame} {meth : Method} {c : Code} {A : Nat → Prop} {H0 : Heap} {Q : State → Prop} (C : tm_Cx p s m c args cX8_laysSquares 16 RX8 wsX8_laysSquares D (tm_ty cI cZ cR) A H0) (g0 : Int64) : ∀ (n : Nat) (st : Int32 × Int32 × Int32 × Int32 × Int32 × tm_M) (o : (Int32 × Int32 × Int32 × Int32 × Int32 × tm_M)), tm_whl (bX8_laysSquares_20 N g0) n st = some o → (fun (o : Int32 × Int32 × Int32 × Int32 × Int32 × tm_M) => ∀ (H : Heap) (locs : List Loc) (ls : Array Slot), va_P D vwCl (WX8 cI cZ cR q0 o.2.2.2.2.2 g0) H → va_D A (WX8 cI cZ cR q0 o.2.2.2.2.2 g0) → va_S A H0 H locs → lv_has ls 16 [] → W p l e rmX8_laysSquares s m args below meth c H locs 0 0 Q (F0 m 299 ls [])) o → (fun (st : Int32 × Int32 × Int32 × Int32 × Int32 × tm_M) => ∀ (H : Heap) (locs : List Loc) (ls : Array Slot), va_P D vwCl (WX8 cI cZ cR q0 st.2.2.2.2.2 g0) H → va_D A (WX8 cI cZ cR q0 st.2.2.2.2.2 g0) → va_S A H0 H locs → lv_has ls 16 [(0, .ref (q0 0)), (5, .int st.1), (6, .int st.2.1), (7, .int st.2.2.1), (8, .int st.2.2.2.1), (9, .int st.2.2.2.2.1)] → W p l e rmX8_laysSquares s m args below meth c H locs 0 0 Q (F0 m 20 ls [])) st := by
  obtain ⟨hx, hb, hml, hown, hts, hK, hA⟩ := id C
  refine tm_whl_W (Wh := fun (st : Int32 × Int32 × Int32 × Int32 × Int32 × tm_M) => ∀ (H : Heap) (locs : List Loc) (ls : Array Slot), va_P D vwCl (WX8 cI cZ cR q0 st.2.2.2.2.2 g0) H → va_D A (WX8 cI cZ cR q0 st.2.2.2.2.2 g0) → va_S A H0 H locs → lv_has ls 16 [(0, .ref (q0 0)), (5, .int st.1), (6, .int st.2.1), (7, .int st.2.2.1), (8, .int st.2.2.2.1), (9, .int st.2.2.2.2.1)] → W p l e rmX8_laysSquares s m args below meth c H locs 0 0 Q (F0 m 20 ls [])) (Wx := fun (o : Int32 × Int32 × Int32 × Int32 × Int32 × tm_M) => ∀ (H : Heap) (locs : List Loc) (ls : Array Slot), va_P D vwCl (WX8 cI cZ cR q0 o.2.2.2.2.2 g0) H → va_D A (WX8 cI cZ cR q0 o.2.2.2.2.2 g0) → va_S A H0 H locs → lv_has ls 16 [] → W p l e rmX8_laysSquares s m args below meth c H locs 0 0 Q (F0 m 299 ls [])) ?_
  intro st r hf hk H locs ls hP hD hS hl
  unfold bX8_laysSquares_20 at hf
  refine lv_iload hx hb dX8_laysSquares_20 (lv_at hl 5 rfl) ?_
  refine lv_aload_n hx hb dX8_laysSquares_22 rfl (lv_at hl 0 rfl) ?_
  refine va_get (D := D) (ci := 8) (v := .int (st.2.2.2.2.2 0 13)) (C := RX8) (T := TX8) (N := 18) hx hb hts uX8_laysSquares_X8 hown hK hP 0 rfl rfl 13 (by decide) (hts _ kX8_laysSquares_f96) (fun _ h9 => h9) rfl dX8_laysSquares_23 ?_
  refine lv_icmp_ge (tgt := 299) hx hb dX8_laysSquares_26 (by decide) (fun c_2 => ?_) (fun c_2 => ?_)
  · have hf := tm_iT c_2 hf
    obtain rfl := Option.some.inj hf
    exact hk _ _ _ hP hD hS (lv_sub hl [] rfl)
  · have hf := tm_iF c_2 hf
    refine lv_iload hx hb dX8_laysSquares_29 (lv_at hl 3 rfl) ?_
    refine lv_if_eq (tgt := 39) hx hb dX8_laysSquares_31 (by decide) (fun c_3 => ?_) (fun c_3 => ?_)
    · have hf := tm_iT c_3 hf
      refine lv_aload_n hx hb dX8_laysSquares_39 rfl (lv_at hl 0 rfl) ?_
      refine lv_aload_n hx hb dX8_laysSquares_40 rfl (lv_at hl 0 rfl) ?_
      refine va_get (D := D) (ci := 8) (v := .ref (q0 12)) (C := RX8) (T := TX8) (N := 18) hx hb hts uX8_laysSquares_X8 hown hK hP 0 rfl rfl 12 (by decide) (hts _ kX8_laysSquares_f44) (fun _ h9 => h9) rfl dX8_laysSquares_41 ?_
      refine lv_iload hx hb dX8_laysSquares_44 (lv_at hl 5 rfl) ?_
      obtain ⟨h_4, hf⟩ := tm_gS hf
      refine va_iald hx hb hK hP 12 0 rfl rfl (tm_inb_in h_4) dX8_laysSquares_46 ?_
      refine lv_iload hx hb dX8_laysSquares_47 (lv_at hl 1 rfl) ?_
      refine lv_iload hx hb dX8_laysSquares_49 (lv_at hl 2 rfl) ?_
      refine lv_iconst (v := 0) hx hb dX8_laysSquares_51 (by decide) ?_
      refine lv_iconst (v := 0) hx hb dX8_laysSquares_52 (by decide) ?_
      obtain ⟨t_5, ot_5, hf⟩ := tm_bS hf
      refine tm_cVV (As := [.int (st.2.2.2.2.2 12 st.2.2.2.2.1.toNatClampNeg), .int st.1, .int st.2.1, .int 0, .int 0]) (rest := []) ⟨hx, hb, hml, hown, hts⟩ (tX8_puts l D cI cZ cR N q0 st.2.2.2.2.2 g0 (st.2.2.2.2.2 12 st.2.2.2.2.1.toNatClampNeg) st.1 st.2.1 (0 : Int32) (0 : Int32) t_5 ot_5) (cwV 5 hts gX8_laysSquares_X8_puts rfl rfl rfl hdwsV_X8_puts ⟨Nat.le_of_ble_eq_true rfl, Nat.le_of_ble_eq_true rfl⟩) hK hP hD hS hA [0, 1, 2, 3, 4, 5, 6, 7, 8, 9, 10, 11, 12, 13, 14, 15] (by decide) rfl rfl (ci := 8) rfl rfl rfl (fun _ => WX8 cI cZ cR q0 t_5 g0) (()) rfl rfl hl.1 rfl (Nat.le_of_ble_eq_true rfl) dX8_laysSquares_53 ⟨Nat.zero_le _, Nat.zero_le _⟩ (fun _ _ H locs hP hD hS => ?_)
      obtain ⟨x_6, ex_6⟩ : ∃ y : Int32, y = st.2.2.2.2.1 + 1 := ⟨_, rfl⟩
      have hf := tm_at ex_6 hf
      refine lv_iinc (v := x_6) (lv' := [(9, .int x_6), (0, .ref (q0 0)), (5, .int st.1), (6, .int st.2.1), (7, .int st.2.2.1), (8, .int st.2.2.2.1)]) hx hb dX8_laysSquares_56 hl (k := 5) rfl (by rw [ex_6]; rfl) (by decide) rfl (fun ls hl => ?_)
      refine lv_goto (tgt := 20) hx hb dX8_laysSquares_59 (by decide) ?_
      obtain rfl := Option.some.inj hf
      exact hk _ _ _ hP hD hS (lv_sub hl [1, 2, 3, 4, 5, 0] rfl)
    · have hf := tm_iF c_3 hf
      refine lv_iload hx hb dX8_laysSquares_34 (lv_at hl 4 rfl) ?_
      refine lv_if_ne (tgt := 62) hx hb dX8_laysSquares_36 (by decide) (fun c_7 => ?_) (fun c_7 => ?_)
      · have hf := tm_iF c_7 hf
        refine lv_aload_n hx hb dX8_laysSquares_62 rfl (lv_at hl 0 rfl) ?_
        refine lv_iload hx hb dX8_laysSquares_63 (lv_at hl 5 rfl) ?_
        refine lv_aload_n hx hb dX8_laysSquares_65 rfl (lv_at hl 0 rfl) ?_
        refine va_get (D := D) (ci := 8) (v := .int (st.2.2.2.2.2 0 13)) (C := RX8) (T := TX8) (N := 18) hx hb hts uX8_laysSquares_X8 hown hK hP 0 rfl rfl 13 (by decide) (hts _ kX8_laysSquares_f96) (fun _ h9 => h9) rfl dX8_laysSquares_66 ?_
        refine lv_iload hx hb dX8_laysSquares_69 (lv_at hl 5 rfl) ?_
        refine lv_isub hx hb dX8_laysSquares_71 ?_
        obtain ⟨t_8, ot_8, hf⟩ := tm_bS hf
        refine tm_cVI (As := [.int st.2.2.2.2.1, .int ((st.2.2.2.2.2 0 13) - st.2.2.2.2.1)]) (rest := []) ⟨hx, hb, hml, hown, hts⟩ (tX8_sumOf l D cI cZ cR N q0 st.2.2.2.2.2 g0 st.2.2.2.2.1 ((st.2.2.2.2.2 0 13) - st.2.2.2.2.1) t_8 ot_8) (cwV 2 hts gX8_laysSquares_X8_sumOf rfl rfl rfl hdwsV_X8_sumOf ⟨Nat.le_of_ble_eq_true rfl, Nat.le_of_ble_eq_true rfl⟩) hK hP hD hS hA [0, 1, 2, 3, 4, 5, 6, 7, 8, 9, 10, 11, 12, 13, 14, 15] (by decide) rfl rfl (ci := 8) rfl rfl rfl (fun _ => WX8 cI cZ cR q0 st.2.2.2.2.2 g0) (()) rfl rfl hl.1 rfl (Nat.le_of_ble_eq_true rfl) dX8_laysSquares_72 ⟨Nat.zero_le _, Nat.zero_le _⟩ (fun _ _ H locs hP hD hS => ?_)
        refine lv_istore (lv' := [(10, .int t_8), (0, .ref (q0 0)), (5, .int st.1), (6, .int st.2.1), (7, .int st.2.2.1), (8, .int st.2.2.2.1), (9, .int st.2.2.2.2.1)]) hx hb dX8_laysSquares_75 hl (by decide) rfl (fun ls hl => ?_)
        refine lv_iload hx hb dX8_laysSquares_77 (lv_at hl 5 rfl) ?_
        refine lv_iload hx hb dX8_laysSquares_79 (lv_at hl 4 rfl) ?_
        refine lv_icmp_gt (tgt := 88) hx hb dX8_laysSquares_81 (by decide) (fun c_9 => ?_) (fun c_9 => ?_)
        · have hf := tm_iT c_9 hf
          refine lv_iconst (v := 0) hx hb dX8_laysSquares_88 (by decide) ?_
          refine lv_istore (lv' := [(11, .int 0), (10, .int t_8), (0, .ref (q0 0)), (5, .int st.1), (6, .int st.2.1), (7, .int st.2.2.1), (8, .int st.2.2.2.1), (9, .int st.2.2.2.2.1)]) hx hb dX8_laysSquares_89 hl (by decide) rfl (fun ls hl => ?_)
          refine lv_iload hx hb dX8_laysSquares_91 (lv_at hl 0 rfl) ?_
          refine lv_if_eq (tgt := 101) hx hb dX8_laysSquares_93 (by decide) (fun _ => ?_) (fun c9 => absurd c9 (by decide))
          refine lv_iload hx hb dX8_laysSquares_101 (lv_at hl 5 rfl) ?_
          refine lv_istore (lv' := [(12, .int st.2.2.1), (11, .int 0), (10, .int t_8), (0, .ref (q0 0)), (5, .int st.1), (6, .int st.2.1), (7, .int st.2.2.1), (8, .int st.2.2.2.1), (9, .int st.2.2.2.2.1)]) hx hb dX8_laysSquares_103 hl (by decide) rfl (fun ls hl => ?_)
          refine lv_iload hx hb dX8_laysSquares_105 (lv_at hl 1 rfl) ?_
          refine lv_if_eq (tgt := 115) hx hb dX8_laysSquares_107 (by decide) (fun _ => ?_) (fun c9 => absurd c9 (by decide))
          refine lv_iload hx hb dX8_laysSquares_115 (lv_at hl 7 rfl) ?_
          refine lv_istore (lv' := [(13, .int st.2.2.2.1), (12, .int st.2.2.1), (11, .int 0), (10, .int t_8), (0, .ref (q0 0)), (5, .int st.1), (6, .int st.2.1), (7, .int st.2.2.1), (8, .int st.2.2.2.1), (9, .int st.2.2.2.2.1)]) hx hb dX8_laysSquares_117 hl (by decide) rfl (fun ls hl => ?_)
          refine lv_aload_n hx hb dX8_laysSquares_119 rfl (lv_at hl 4 rfl) ?_
          refine lv_iload hx hb dX8_laysSquares_120 (lv_at hl 9 rfl) ?_
          refine lv_iload hx hb dX8_laysSquares_122 (lv_at hl 7 rfl) ?_
          refine lv_iload hx hb dX8_laysSquares_124 (lv_at hl 8 rfl) ?_
          refine lv_imul hx hb dX8_laysSquares_126 ?_
          refine lv_i2f hx hb dX8_laysSquares_127 ?_
          refine lv_iload hx hb dX8_laysSquares_128 (lv_at hl 3 rfl) ?_
          refine lv_i2f hx hb dX8_laysSquares_130 ?_
          obtain ⟨h_10, hf⟩ := tm_gS hf
          refine lv_fdiv hx hb dX8_laysSquares_131 (tm_nn_n h_10) ?_
          refine lv_iload hx hb dX8_laysSquares_132 (lv_at hl 1 rfl) ?_
          obtain ⟨t_11, ot_11, hf⟩ := tm_bS hf
          refine tm_cVI (As := [.int st.2.2.2.2.1, .float (FP.fdiv (FP.i2f (st.2.2.1 * st.2.2.2.1)) (FP.i2f t_8)), .int st.2.2.1]) (rest := []) ⟨hx, hb, hml, hown, hts⟩ (tX8_rowOf l D cI cZ cR N q0 st.2.2.2.2.2 g0 st.2.2.2.2.1 (FP.fdiv (FP.i2f (st.2.2.1 * st.2.2.2.1)) (FP.i2f t_8)) st.2.2.1 t_11 ot_11) (cwV 3 hts gX8_laysSquares_X8_rowOf rfl rfl rfl hdwsV_X8_rowOf ⟨Nat.le_of_ble_eq_true rfl, Nat.le_of_ble_eq_true rfl⟩) hK hP hD hS hA [0, 1, 2, 3, 4, 5, 6, 7, 8, 9, 10, 11, 12, 13, 14, 15] (by decide) rfl rfl (ci := 8) rfl rfl rfl (fun _ => WX8 cI cZ cR q0 st.2.2.2.2.2 g0) (()) rfl rfl hl.1 rfl (Nat.le_of_ble_eq_true rfl) dX8_laysSquares_134 ⟨Nat.zero_le _, Nat.zero_le _⟩ (fun _ _ H locs hP hD hS => ?_)
          refine lv_istore (lv' := [(14, .int t_11), (13, .int st.2.2.2.1), (12, .int st.2.2.1), (11, .int 0), (10, .int t_8), (0, .ref (q0 0)), (5, .int st.1), (6, .int st.2.1), (7, .int st.2.2.1), (8, .int st.2.2.2.1), (9, .int st.2.2.2.2.1)]) hx hb dX8_laysSquares_137 hl (by decide) rfl (fun ls hl => ?_)
          refine lv_iload hx hb dX8_laysSquares_139 (lv_at hl 10 rfl) ?_
          refine lv_iload hx hb dX8_laysSquares_141 (lv_at hl 0 rfl) ?_
          refine lv_iadd hx hb dX8_laysSquares_143 ?_
          refine lv_aload_n hx hb dX8_laysSquares_144 rfl (lv_at hl 5 rfl) ?_
          refine va_get (D := D) (ci := 8) (v := .int (st.2.2.2.2.2 0 13)) (C := RX8) (T := TX8) (N := 18) hx hb hts uX8_laysSquares_X8 hown hK hP 0 rfl rfl 13 (by decide) (hts _ kX8_laysSquares_f96) (fun _ h9 => h9) rfl dX8_laysSquares_145 ?_
          refine lv_icmp_ne (tgt := 156) hx hb dX8_laysSquares_148 (by decide) (fun c_12 => ?_) (fun c_12 => ?_)
          · have hf := tm_iF c_12 hf
            refine lv_iconst (v := 2) hx hb dX8_laysSquares_156 (by decide) ?_
            refine lv_aload_n hx hb dX8_laysSquares_157 rfl (lv_at hl 5 rfl) ?_
            refine lv_iload hx hb dX8_laysSquares_158 (lv_at hl 10 rfl) ?_
            refine lv_iload hx hb dX8_laysSquares_160 (lv_at hl 0 rfl) ?_
            obtain ⟨t_13, ot_13, hf⟩ := tm_bS hf
            refine tm_cVI (As := [.int st.2.2.2.2.1, .int t_11]) (rest := [.int 2]) ⟨hx, hb, hml, hown, hts⟩ (tX8_sumOf l D cI cZ cR N q0 st.2.2.2.2.2 g0 st.2.2.2.2.1 t_11 t_13 ot_13) (cwV 2 hts gX8_laysSquares_X8_sumOf rfl rfl rfl hdwsV_X8_sumOf ⟨Nat.le_of_ble_eq_true rfl, Nat.le_of_ble_eq_true rfl⟩) hK hP hD hS hA [0, 1, 2, 3, 4, 5, 6, 7, 8, 9, 10, 11, 12, 13, 14, 15] (by decide) rfl rfl (ci := 8) rfl rfl rfl (fun _ => WX8 cI cZ cR q0 st.2.2.2.2.2 g0) (()) rfl rfl hl.1 rfl (Nat.le_of_ble_eq_true rfl) dX8_laysSquares_162 ⟨Nat.zero_le _, Nat.zero_le _⟩ (fun _ _ H locs hP hD hS => ?_)
            refine lv_imul hx hb dX8_laysSquares_165 ?_
            refine lv_iload hx hb dX8_laysSquares_166 (lv_at hl 1 rfl) ?_
            refine lv_imul hx hb dX8_laysSquares_168 ?_
            refine lv_iload hx hb dX8_laysSquares_169 (lv_at hl 4 rfl) ?_
            refine lv_iadd hx hb dX8_laysSquares_171 ?_
            refine lv_iconst (v := 2) hx hb dX8_laysSquares_172 (by decide) ?_
            refine lv_iload hx hb dX8_laysSquares_173 (lv_at hl 4 rfl) ?_
            refine lv_imul hx hb dX8_laysSquares_175 ?_
            obtain ⟨h_14, hf⟩ := tm_gS hf
            refine lv_idiv hx hb dX8_laysSquares_176 (tm_nz_ne h_14) ?_
            refine lv_topi (fun x_15 ex_15 => ?_)
            have hf := tm_at ex_15 hf
            refine lv_istore (lv' := [(15, .int x_15), (14, .int t_11), (13, .int st.2.2.2.1), (12, .int st.2.2.1), (11, .int 0), (10, .int t_8), (0, .ref (q0 0)), (5, .int st.1), (6, .int st.2.1), (7, .int st.2.2.1), (8, .int st.2.2.2.1), (9, .int st.2.2.2.2.1)]) hx hb dX8_laysSquares_177 hl (by decide) rfl (fun ls hl => ?_)
            refine lv_aload_n hx hb dX8_laysSquares_179 rfl (lv_at hl 6 rfl) ?_
            refine lv_iload hx hb dX8_laysSquares_180 (lv_at hl 11 rfl) ?_
            refine lv_iload hx hb dX8_laysSquares_182 (lv_at hl 1 rfl) ?_
            refine lv_iload hx hb dX8_laysSquares_184 (lv_at hl 7 rfl) ?_
            refine lv_iload hx hb dX8_laysSquares_186 (lv_at hl 8 rfl) ?_
            refine lv_iload hx hb dX8_laysSquares_188 (lv_at hl 4 rfl) ?_
            refine lv_if_eq (tgt := 198) hx hb dX8_laysSquares_190 (by decide) (fun _ => ?_) (fun c9 => absurd c9 (by decide))
            refine lv_iload hx hb dX8_laysSquares_198 (lv_at hl 9 rfl) ?_
            refine lv_iload hx hb dX8_laysSquares_200 (lv_at hl 4 rfl) ?_
            refine lv_if_eq (tgt := 210) hx hb dX8_laysSquares_202 (by decide) (fun _ => ?_) (fun c9 => absurd c9 (by decide))
            refine lv_iload hx hb dX8_laysSquares_210 (lv_at hl 0 rfl) ?_
            refine lv_iload hx hb dX8_laysSquares_212 (lv_at hl 4 rfl) ?_
            refine lv_if_ne (tgt := 221) hx hb dX8_laysSquares_214 (by decide) (fun c9 => absurd c9 (by decide)) (fun _ => ?_)
            refine lv_iconst (v := 1) hx hb dX8_laysSquares_217 (by decide) ?_
            refine lv_goto (tgt := 222) hx hb dX8_laysSquares_218 (by decide) ?_
            obtain ⟨t_16, ot_16, hf⟩ := tm_bS hf
            refine tm_cVV (As := [.int st.2.2.2.2.1, .int t_11, .int st.1, .int st.2.1, .int st.2.2.1, .int x_15, .int 1]) (rest := []) ⟨hx, hb, hml, hown, hts⟩ (tX8_laysRow l D cI cZ cR N q0 st.2.2.2.2.2 g0 st.2.2.2.2.1 t_11 st.1 st.2.1 st.2.2.1 x_15 (1 : Int32) t_16 ot_16) (cwV 7 hts gX8_laysSquares_X8_laysRow rfl rfl rfl hdwsV_X8_laysRow ⟨Nat.le_of_ble_eq_true rfl, Nat.le_of_ble_eq_true rfl⟩) hK hP hD hS hA [0, 1, 2, 3, 4, 5, 6, 7, 8, 9, 10, 11, 12, 13, 14, 15] (by decide) rfl rfl (ci := 8) rfl rfl rfl (fun _ => WX8 cI cZ cR q0 t_16 g0) (()) rfl rfl hl.1 rfl (Nat.le_of_ble_eq_true rfl) dX8_laysSquares_222 ⟨Nat.zero_le _, Nat.zero_le _⟩ (fun _ _ H locs hP hD hS => ?_)
            refine lv_iload hx hb dX8_laysSquares_225 (lv_at hl 7 rfl) ?_
            refine lv_iload hx hb dX8_laysSquares_227 (lv_at hl 4 rfl) ?_
            refine lv_if_eq (tgt := 237) hx hb dX8_laysSquares_229 (by decide) (fun _ => ?_) (fun c9 => absurd c9 (by decide))
            refine lv_iconst (v := 0) hx hb dX8_laysSquares_237 (by decide) ?_
            refine lv_iadd hx hb dX8_laysSquares_238 ?_
            refine lv_topi (fun x_17 ex_17 => ?_)
            have hf := tm_at ex_17 hf
            refine lv_istore (lv' := [(5, .int x_17), (15, .int x_15), (14, .int t_11), (13, .int st.2.2.2.1), (12, .int st.2.2.1), (11, .int 0), (10, .int t_8), (0, .ref (q0 0)), (6, .int st.2.1), (7, .int st.2.2.1), (8, .int st.2.2.2.1), (9, .int st.2.2.2.2.1)]) hx hb dX8_laysSquares_239 hl (by decide) rfl (fun ls hl => ?_)
            refine lv_iload hx hb dX8_laysSquares_241 (lv_at hl 8 rfl) ?_
            refine lv_iload hx hb dX8_laysSquares_243 (lv_at hl 5 rfl) ?_
            refine lv_if_eq (tgt := 252) hx hb dX8_laysSquares_245 (by decide) (fun _ => ?_) (fun c9 => absurd c9 (by decide))
            refine lv_iload hx hb dX8_laysSquares_252 (lv_at hl 1 rfl) ?_
            refine lv_iadd hx hb dX8_laysSquares_254 ?_
            refine lv_topi (fun x_18 ex_18 => ?_)
            have hf := tm_at ex_18 hf
            refine lv_istore (lv' := [(6, .int x_18), (5, .int x_17), (15, .int x_15), (14, .int t_11), (13, .int st.2.2.2.1), (12, .int st.2.2.1), (11, .int 0), (10, .int t_8), (0, .ref (q0 0)), (7, .int st.2.2.1), (8, .int st.2.2.2.1), (9, .int st.2.2.2.2.1)]) hx hb dX8_laysSquares_255 hl (by decide) rfl (fun ls hl => ?_)
            refine lv_iload hx hb dX8_laysSquares_257 (lv_at hl 9 rfl) ?_
            refine lv_iload hx hb dX8_laysSquares_259 (lv_at hl 6 rfl) ?_
            refine lv_if_eq (tgt := 269) hx hb dX8_laysSquares_261 (by decide) (fun _ => ?_) (fun c9 => absurd c9 (by decide))
            refine lv_iconst (v := 0) hx hb dX8_laysSquares_269 (by decide) ?_
            refine lv_isub hx hb dX8_laysSquares_270 ?_
            refine lv_topi (fun x_19 ex_19 => ?_)
            have hf := tm_at ex_19 hf
            refine lv_istore (lv' := [(7, .int x_19), (6, .int x_18), (5, .int x_17), (15, .int x_15), (14, .int t_11), (13, .int st.2.2.2.1), (12, .int st.2.2.1), (11, .int 0), (10, .int t_8), (0, .ref (q0 0)), (8, .int st.2.2.2.1), (9, .int st.2.2.2.2.1)]) hx hb dX8_laysSquares_271 hl (by decide) rfl (fun ls hl => ?_)
            refine lv_iload hx hb dX8_laysSquares_273 (lv_at hl 10 rfl) ?_
            refine lv_iload hx hb dX8_laysSquares_275 (lv_at hl 7 rfl) ?_
            refine lv_if_eq (tgt := 284) hx hb dX8_laysSquares_277 (by decide) (fun _ => ?_) (fun c9 => absurd c9 (by decide))
            refine lv_iload hx hb dX8_laysSquares_284 (lv_at hl 3 rfl) ?_
            refine lv_isub hx hb dX8_laysSquares_286 ?_
            refine lv_topi (fun x_20 ex_20 => ?_)
            have hf := tm_at ex_20 hf
            refine lv_istore (lv' := [(8, .int x_20), (7, .int x_19), (6, .int x_18), (5, .int x_17), (15, .int x_15), (14, .int t_11), (13, .int st.2.2.2.1), (12, .int st.2.2.1), (11, .int 0), (10, .int t_8), (0, .ref (q0 0)), (9, .int st.2.2.2.2.1)]) hx hb dX8_laysSquares_287 hl (by decide) rfl (fun ls hl => ?_)
            refine lv_iload hx hb dX8_laysSquares_289 (lv_at hl 11 rfl) ?_
            refine lv_iload hx hb dX8_laysSquares_291 (lv_at hl 5 rfl) ?_
            refine lv_iadd hx hb dX8_laysSquares_293 ?_
            refine lv_topi (fun x_21 ex_21 => ?_)
            have hf := tm_at ex_21 hf
            refine lv_istore (lv' := [(9, .int x_21), (8, .int x_20), (7, .int x_19), (6, .int x_18), (5, .int x_17), (15, .int x_15), (14, .int t_11), (13, .int st.2.2.2.1), (12, .int st.2.2.1), (11, .int 0), (10, .int t_8), (0, .ref (q0 0))]) hx hb dX8_laysSquares_294 hl (by decide) rfl (fun ls hl => ?_)
            refine lv_goto (tgt := 20) hx hb dX8_laysSquares_296 (by decide) ?_
            obtain rfl := Option.some.inj hf
            exact hk _ _ _ hP hD hS (lv_sub hl [11, 4, 3, 2, 1, 0] rfl)
          · have hf := tm_iT c_12 hf
            refine lv_iload hx hb dX8_laysSquares_151 (lv_at hl 1 rfl) ?_
            refine lv_goto (tgt := 177) hx hb dX8_laysSquares_153 (by decide) ?_
            refine lv_istore (lv' := [(15, .int st.2.2.2.1), (14, .int t_11), (13, .int st.2.2.2.1), (12, .int st.2.2.1), (11, .int 0), (10, .int t_8), (0, .ref (q0 0)), (5, .int st.1), (6, .int st.2.1), (7, .int st.2.2.1), (8, .int st.2.2.2.1), (9, .int st.2.2.2.2.1)]) hx hb dX8_laysSquares_177 hl (by decide) rfl (fun ls hl => ?_)
            refine lv_aload_n hx hb dX8_laysSquares_179 rfl (lv_at hl 6 rfl) ?_
            refine lv_iload hx hb dX8_laysSquares_180 (lv_at hl 11 rfl) ?_
            refine lv_iload hx hb dX8_laysSquares_182 (lv_at hl 1 rfl) ?_
            refine lv_iload hx hb dX8_laysSquares_184 (lv_at hl 7 rfl) ?_
            refine lv_iload hx hb dX8_laysSquares_186 (lv_at hl 8 rfl) ?_
            refine lv_iload hx hb dX8_laysSquares_188 (lv_at hl 4 rfl) ?_
            refine lv_if_eq (tgt := 198) hx hb dX8_laysSquares_190 (by decide) (fun _ => ?_) (fun c9 => absurd c9 (by decide))
            refine lv_iload hx hb dX8_laysSquares_198 (lv_at hl 9 rfl) ?_
            refine lv_iload hx hb dX8_laysSquares_200 (lv_at hl 4 rfl) ?_
            refine lv_if_eq (tgt := 210) hx hb dX8_laysSquares_202 (by decide) (fun _ => ?_) (fun c9 => absurd c9 (by decide))
            refine lv_iload hx hb dX8_laysSquares_210 (lv_at hl 0 rfl) ?_
            refine lv_iload hx hb dX8_laysSquares_212 (lv_at hl 4 rfl) ?_
            refine lv_if_ne (tgt := 221) hx hb dX8_laysSquares_214 (by decide) (fun c9 => absurd c9 (by decide)) (fun _ => ?_)
            refine lv_iconst (v := 1) hx hb dX8_laysSquares_217 (by decide) ?_
            refine lv_goto (tgt := 222) hx hb dX8_laysSquares_218 (by decide) ?_
            obtain ⟨t_22, ot_22, hf⟩ := tm_bS hf
            refine tm_cVV (As := [.int st.2.2.2.2.1, .int t_11, .int st.1, .int st.2.1, .int st.2.2.1, .int st.2.2.2.1, .int 1]) (rest := []) ⟨hx, hb, hml, hown, hts⟩ (tX8_laysRow l D cI cZ cR N q0 st.2.2.2.2.2 g0 st.2.2.2.2.1 t_11 st.1 st.2.1 st.2.2.1 st.2.2.2.1 (1 : Int32) t_22 ot_22) (cwV 7 hts gX8_laysSquares_X8_laysRow rfl rfl rfl hdwsV_X8_laysRow ⟨Nat.le_of_ble_eq_true rfl, Nat.le_of_ble_eq_true rfl⟩) hK hP hD hS hA [0, 1, 2, 3, 4, 5, 6, 7, 8, 9, 10, 11, 12, 13, 14, 15] (by decide) rfl rfl (ci := 8) rfl rfl rfl (fun _ => WX8 cI cZ cR q0 t_22 g0) (()) rfl rfl hl.1 rfl (Nat.le_of_ble_eq_true rfl) dX8_laysSquares_222 ⟨Nat.zero_le _, Nat.zero_le _⟩ (fun _ _ H locs hP hD hS => ?_)
            refine lv_iload hx hb dX8_laysSquares_225 (lv_at hl 7 rfl) ?_
            refine lv_iload hx hb dX8_laysSquares_227 (lv_at hl 4 rfl) ?_
            refine lv_if_eq (tgt := 237) hx hb dX8_laysSquares_229 (by decide) (fun _ => ?_) (fun c9 => absurd c9 (by decide))
            refine lv_iconst (v := 0) hx hb dX8_laysSquares_237 (by decide) ?_
            refine lv_iadd hx hb dX8_laysSquares_238 ?_
            refine lv_topi (fun x_23 ex_23 => ?_)
            have hf := tm_at ex_23 hf
            refine lv_istore (lv' := [(5, .int x_23), (15, .int st.2.2.2.1), (14, .int t_11), (13, .int st.2.2.2.1), (12, .int st.2.2.1), (11, .int 0), (10, .int t_8), (0, .ref (q0 0)), (6, .int st.2.1), (7, .int st.2.2.1), (8, .int st.2.2.2.1), (9, .int st.2.2.2.2.1)]) hx hb dX8_laysSquares_239 hl (by decide) rfl (fun ls hl => ?_)
            refine lv_iload hx hb dX8_laysSquares_241 (lv_at hl 8 rfl) ?_
            refine lv_iload hx hb dX8_laysSquares_243 (lv_at hl 5 rfl) ?_
            refine lv_if_eq (tgt := 252) hx hb dX8_laysSquares_245 (by decide) (fun _ => ?_) (fun c9 => absurd c9 (by decide))
            refine lv_iload hx hb dX8_laysSquares_252 (lv_at hl 1 rfl) ?_
            refine lv_iadd hx hb dX8_laysSquares_254 ?_
            refine lv_topi (fun x_24 ex_24 => ?_)
            have hf := tm_at ex_24 hf
            refine lv_istore (lv' := [(6, .int x_24), (5, .int x_23), (15, .int st.2.2.2.1), (14, .int t_11), (13, .int st.2.2.2.1), (12, .int st.2.2.1), (11, .int 0), (10, .int t_8), (0, .ref (q0 0)), (7, .int st.2.2.1), (8, .int st.2.2.2.1), (9, .int st.2.2.2.2.1)]) hx hb dX8_laysSquares_255 hl (by decide) rfl (fun ls hl => ?_)
            refine lv_iload hx hb dX8_laysSquares_257 (lv_at hl 9 rfl) ?_
            refine lv_iload hx hb dX8_laysSquares_259 (lv_at hl 6 rfl) ?_
            refine lv_if_eq (tgt := 269) hx hb dX8_laysSquares_261 (by decide) (fun _ => ?_) (fun c9 => absurd c9 (by decide))
            refine lv_iconst (v := 0) hx hb dX8_laysSquares_269 (by decide) ?_
            refine lv_isub hx hb dX8_laysSquares_270 ?_
            refine lv_topi (fun x_25 ex_25 => ?_)
            have hf := tm_at ex_25 hf
            refine lv_istore (lv' := [(7, .int x_25), (6, .int x_24), (5, .int x_23), (15, .int st.2.2.2.1), (14, .int t_11), (13, .int st.2.2.2.1), (12, .int st.2.2.1), (11, .int 0), (10, .int t_8), (0, .ref (q0 0)), (8, .int st.2.2.2.1), (9, .int st.2.2.2.2.1)]) hx hb dX8_laysSquares_271 hl (by decide) rfl (fun ls hl => ?_)
            refine lv_iload hx hb dX8_laysSquares_273 (lv_at hl 10 rfl) ?_
            refine lv_iload hx hb dX8_laysSquares_275 (lv_at hl 7 rfl) ?_
            refine lv_if_eq (tgt := 284) hx hb dX8_laysSquares_277 (by decide) (fun _ => ?_) (fun c9 => absurd c9 (by decide))
            refine lv_iload hx hb dX8_laysSquares_284 (lv_at hl 3 rfl) ?_
            refine lv_isub hx hb dX8_laysSquares_286 ?_
            refine lv_topi (fun x_26 ex_26 => ?_)
            have hf := tm_at ex_26 hf
            refine lv_istore (lv' := [(8, .int x_26), (7, .int x_25), (6, .int x_24), (5, .int x_23), (15, .int st.2.2.2.1), (14, .int t_11), (13, .int st.2.2.2.1), (12, .int st.2.2.1), (11, .int 0), (10, .int t_8), (0, .ref (q0 0)), (9, .int st.2.2.2.2.1)]) hx hb dX8_laysSquares_287 hl (by decide) rfl (fun ls hl => ?_)
            refine lv_iload hx hb dX8_laysSquares_289 (lv_at hl 11 rfl) ?_
            refine lv_iload hx hb dX8_laysSquares_291 (lv_at hl 5 rfl) ?_
            refine lv_iadd hx hb dX8_laysSquares_293 ?_
            refine lv_topi (fun x_27 ex_27 => ?_)
            have hf := tm_at ex_27 hf
            refine lv_istore (lv' := [(9, .int x_27), (8, .int x_26), (7, .int x_25), (6, .int x_24), (5, .int x_23), (15, .int st.2.2.2.1), (14, .int t_11), (13, .int st.2.2.2.1), (12, .int st.2.2.1), (11, .int 0), (10, .int t_8), (0, .ref (q0 0))]) hx hb dX8_laysSquares_294 hl (by decide) rfl (fun ls hl => ?_)
            refine lv_goto (tgt := 20) hx hb dX8_laysSquares_296 (by decide) ?_
            obtain rfl := Option.some.inj hf
            exact hk _ _ _ hP hD hS (lv_sub hl [11, 4, 3, 2, 1, 0] rfl)
        · have hf := tm_iF c_9 hf
          refine lv_iconst (v := 1) hx hb dX8_laysSquares_84 (by decide) ?_
          refine lv_goto (tgt := 89) hx hb dX8_laysSquares_85 (by decide) ?_
          refine lv_istore (lv' := [(11, .int 1), (10, .int t_8), (0, .ref (q0 0)), (5, .int st.1), (6, .int st.2.1), (7, .int st.2.2.1), (8, .int st.2.2.2.1), (9, .int st.2.2.2.2.1)]) hx hb dX8_laysSquares_89 hl (by decide) rfl (fun ls hl => ?_)
          refine lv_iload hx hb dX8_laysSquares_91 (lv_at hl 0 rfl) ?_
          refine lv_if_eq (tgt := 101) hx hb dX8_laysSquares_93 (by decide) (fun c9 => absurd c9 (by decide)) (fun _ => ?_)
          refine lv_iload hx hb dX8_laysSquares_96 (lv_at hl 6 rfl) ?_
          refine lv_goto (tgt := 103) hx hb dX8_laysSquares_98 (by decide) ?_
          refine lv_istore (lv' := [(12, .int st.2.2.2.1), (11, .int 1), (10, .int t_8), (0, .ref (q0 0)), (5, .int st.1), (6, .int st.2.1), (7, .int st.2.2.1), (8, .int st.2.2.2.1), (9, .int st.2.2.2.2.1)]) hx hb dX8_laysSquares_103 hl (by decide) rfl (fun ls hl => ?_)
          refine lv_iload hx hb dX8_laysSquares_105 (lv_at hl 1 rfl) ?_
          refine lv_if_eq (tgt := 115) hx hb dX8_laysSquares_107 (by decide) (fun c9 => absurd c9 (by decide)) (fun _ => ?_)
          refine lv_iload hx hb dX8_laysSquares_110 (lv_at hl 6 rfl) ?_
          refine lv_goto (tgt := 117) hx hb dX8_laysSquares_112 (by decide) ?_
          refine lv_istore (lv' := [(13, .int st.2.2.1), (12, .int st.2.2.2.1), (11, .int 1), (10, .int t_8), (0, .ref (q0 0)), (5, .int st.1), (6, .int st.2.1), (7, .int st.2.2.1), (8, .int st.2.2.2.1), (9, .int st.2.2.2.2.1)]) hx hb dX8_laysSquares_117 hl (by decide) rfl (fun ls hl => ?_)
          refine lv_aload_n hx hb dX8_laysSquares_119 rfl (lv_at hl 4 rfl) ?_
          refine lv_iload hx hb dX8_laysSquares_120 (lv_at hl 9 rfl) ?_
          refine lv_iload hx hb dX8_laysSquares_122 (lv_at hl 7 rfl) ?_
          refine lv_iload hx hb dX8_laysSquares_124 (lv_at hl 8 rfl) ?_
          refine lv_imul hx hb dX8_laysSquares_126 ?_
          refine lv_i2f hx hb dX8_laysSquares_127 ?_
          refine lv_iload hx hb dX8_laysSquares_128 (lv_at hl 3 rfl) ?_
          refine lv_i2f hx hb dX8_laysSquares_130 ?_
          obtain ⟨h_28, hf⟩ := tm_gS hf
          refine lv_fdiv hx hb dX8_laysSquares_131 (tm_nn_n h_28) ?_
          refine lv_iload hx hb dX8_laysSquares_132 (lv_at hl 1 rfl) ?_
          obtain ⟨t_29, ot_29, hf⟩ := tm_bS hf
          refine tm_cVI (As := [.int st.2.2.2.2.1, .float (FP.fdiv (FP.i2f (st.2.2.1 * st.2.2.2.1)) (FP.i2f t_8)), .int st.2.2.2.1]) (rest := []) ⟨hx, hb, hml, hown, hts⟩ (tX8_rowOf l D cI cZ cR N q0 st.2.2.2.2.2 g0 st.2.2.2.2.1 (FP.fdiv (FP.i2f (st.2.2.1 * st.2.2.2.1)) (FP.i2f t_8)) st.2.2.2.1 t_29 ot_29) (cwV 3 hts gX8_laysSquares_X8_rowOf rfl rfl rfl hdwsV_X8_rowOf ⟨Nat.le_of_ble_eq_true rfl, Nat.le_of_ble_eq_true rfl⟩) hK hP hD hS hA [0, 1, 2, 3, 4, 5, 6, 7, 8, 9, 10, 11, 12, 13, 14, 15] (by decide) rfl rfl (ci := 8) rfl rfl rfl (fun _ => WX8 cI cZ cR q0 st.2.2.2.2.2 g0) (()) rfl rfl hl.1 rfl (Nat.le_of_ble_eq_true rfl) dX8_laysSquares_134 ⟨Nat.zero_le _, Nat.zero_le _⟩ (fun _ _ H locs hP hD hS => ?_)
          refine lv_istore (lv' := [(14, .int t_29), (13, .int st.2.2.1), (12, .int st.2.2.2.1), (11, .int 1), (10, .int t_8), (0, .ref (q0 0)), (5, .int st.1), (6, .int st.2.1), (7, .int st.2.2.1), (8, .int st.2.2.2.1), (9, .int st.2.2.2.2.1)]) hx hb dX8_laysSquares_137 hl (by decide) rfl (fun ls hl => ?_)
          refine lv_iload hx hb dX8_laysSquares_139 (lv_at hl 10 rfl) ?_
          refine lv_iload hx hb dX8_laysSquares_141 (lv_at hl 0 rfl) ?_
          refine lv_iadd hx hb dX8_laysSquares_143 ?_
          refine lv_aload_n hx hb dX8_laysSquares_144 rfl (lv_at hl 5 rfl) ?_
          refine va_get (D := D) (ci := 8) (v := .int (st.2.2.2.2.2 0 13)) (C := RX8) (T := TX8) (N := 18) hx hb hts uX8_laysSquares_X8 hown hK hP 0 rfl rfl 13 (by decide) (hts _ kX8_laysSquares_f96) (fun _ h9 => h9) rfl dX8_laysSquares_145 ?_
          refine lv_icmp_ne (tgt := 156) hx hb dX8_laysSquares_148 (by decide) (fun c_30 => ?_) (fun c_30 => ?_)
          · have hf := tm_iF c_30 hf
            refine lv_iconst (v := 2) hx hb dX8_laysSquares_156 (by decide) ?_
            refine lv_aload_n hx hb dX8_laysSquares_157 rfl (lv_at hl 5 rfl) ?_
            refine lv_iload hx hb dX8_laysSquares_158 (lv_at hl 10 rfl) ?_
            refine lv_iload hx hb dX8_laysSquares_160 (lv_at hl 0 rfl) ?_
            obtain ⟨t_31, ot_31, hf⟩ := tm_bS hf
            refine tm_cVI (As := [.int st.2.2.2.2.1, .int t_29]) (rest := [.int 2]) ⟨hx, hb, hml, hown, hts⟩ (tX8_sumOf l D cI cZ cR N q0 st.2.2.2.2.2 g0 st.2.2.2.2.1 t_29 t_31 ot_31) (cwV 2 hts gX8_laysSquares_X8_sumOf rfl rfl rfl hdwsV_X8_sumOf ⟨Nat.le_of_ble_eq_true rfl, Nat.le_of_ble_eq_true rfl⟩) hK hP hD hS hA [0, 1, 2, 3, 4, 5, 6, 7, 8, 9, 10, 11, 12, 13, 14, 15] (by decide) rfl rfl (ci := 8) rfl rfl rfl (fun _ => WX8 cI cZ cR q0 st.2.2.2.2.2 g0) (()) rfl rfl hl.1 rfl (Nat.le_of_ble_eq_true rfl) dX8_laysSquares_162 ⟨Nat.zero_le _, Nat.zero_le _⟩ (fun _ _ H locs hP hD hS => ?_)
            refine lv_imul hx hb dX8_laysSquares_165 ?_
            refine lv_iload hx hb dX8_laysSquares_166 (lv_at hl 1 rfl) ?_
            refine lv_imul hx hb dX8_laysSquares_168 ?_
            refine lv_iload hx hb dX8_laysSquares_169 (lv_at hl 4 rfl) ?_
            refine lv_iadd hx hb dX8_laysSquares_171 ?_
            refine lv_iconst (v := 2) hx hb dX8_laysSquares_172 (by decide) ?_
            refine lv_iload hx hb dX8_laysSquares_173 (lv_at hl 4 rfl) ?_
            refine lv_imul hx hb dX8_laysSquares_175 ?_
            obtain ⟨h_32, hf⟩ := tm_gS hf
            refine lv_idiv hx hb dX8_laysSquares_176 (tm_nz_ne h_32) ?_
            refine lv_topi (fun x_33 ex_33 => ?_)
            have hf := tm_at ex_33 hf
            refine lv_istore (lv' := [(15, .int x_33), (14, .int t_29), (13, .int st.2.2.1), (12, .int st.2.2.2.1), (11, .int 1), (10, .int t_8), (0, .ref (q0 0)), (5, .int st.1), (6, .int st.2.1), (7, .int st.2.2.1), (8, .int st.2.2.2.1), (9, .int st.2.2.2.2.1)]) hx hb dX8_laysSquares_177 hl (by decide) rfl (fun ls hl => ?_)
            refine lv_aload_n hx hb dX8_laysSquares_179 rfl (lv_at hl 6 rfl) ?_
            refine lv_iload hx hb dX8_laysSquares_180 (lv_at hl 11 rfl) ?_
            refine lv_iload hx hb dX8_laysSquares_182 (lv_at hl 1 rfl) ?_
            refine lv_iload hx hb dX8_laysSquares_184 (lv_at hl 7 rfl) ?_
            refine lv_iload hx hb dX8_laysSquares_186 (lv_at hl 8 rfl) ?_
            refine lv_iload hx hb dX8_laysSquares_188 (lv_at hl 4 rfl) ?_
            refine lv_if_eq (tgt := 198) hx hb dX8_laysSquares_190 (by decide) (fun c9 => absurd c9 (by decide)) (fun _ => ?_)
            refine lv_iload hx hb dX8_laysSquares_193 (lv_at hl 0 rfl) ?_
            refine lv_goto (tgt := 200) hx hb dX8_laysSquares_195 (by decide) ?_
            refine lv_iload hx hb dX8_laysSquares_200 (lv_at hl 4 rfl) ?_
            refine lv_if_eq (tgt := 210) hx hb dX8_laysSquares_202 (by decide) (fun c9 => absurd c9 (by decide)) (fun _ => ?_)
            refine lv_iload hx hb dX8_laysSquares_205 (lv_at hl 10 rfl) ?_
            refine lv_goto (tgt := 212) hx hb dX8_laysSquares_207 (by decide) ?_
            refine lv_iload hx hb dX8_laysSquares_212 (lv_at hl 4 rfl) ?_
            refine lv_if_ne (tgt := 221) hx hb dX8_laysSquares_214 (by decide) (fun _ => ?_) (fun c9 => absurd c9 (by decide))
            refine lv_iconst (v := 0) hx hb dX8_laysSquares_221 (by decide) ?_
            obtain ⟨t_34, ot_34, hf⟩ := tm_bS hf
            refine tm_cVV (As := [.int st.2.2.2.2.1, .int t_29, .int st.1, .int st.2.1, .int x_33, .int st.2.2.2.1, .int 0]) (rest := []) ⟨hx, hb, hml, hown, hts⟩ (tX8_laysRow l D cI cZ cR N q0 st.2.2.2.2.2 g0 st.2.2.2.2.1 t_29 st.1 st.2.1 x_33 st.2.2.2.1 (0 : Int32) t_34 ot_34) (cwV 7 hts gX8_laysSquares_X8_laysRow rfl rfl rfl hdwsV_X8_laysRow ⟨Nat.le_of_ble_eq_true rfl, Nat.le_of_ble_eq_true rfl⟩) hK hP hD hS hA [0, 1, 2, 3, 4, 5, 6, 7, 8, 9, 10, 11, 12, 13, 14, 15] (by decide) rfl rfl (ci := 8) rfl rfl rfl (fun _ => WX8 cI cZ cR q0 t_34 g0) (()) rfl rfl hl.1 rfl (Nat.le_of_ble_eq_true rfl) dX8_laysSquares_222 ⟨Nat.zero_le _, Nat.zero_le _⟩ (fun _ _ H locs hP hD hS => ?_)
            refine lv_iload hx hb dX8_laysSquares_225 (lv_at hl 7 rfl) ?_
            refine lv_iload hx hb dX8_laysSquares_227 (lv_at hl 4 rfl) ?_
            refine lv_if_eq (tgt := 237) hx hb dX8_laysSquares_229 (by decide) (fun c9 => absurd c9 (by decide)) (fun _ => ?_)
            refine lv_iload hx hb dX8_laysSquares_232 (lv_at hl 0 rfl) ?_
            refine lv_goto (tgt := 238) hx hb dX8_laysSquares_234 (by decide) ?_
            refine lv_iadd hx hb dX8_laysSquares_238 ?_
            refine lv_topi (fun x_35 ex_35 => ?_)
            have hf := tm_at ex_35 hf
            refine lv_istore (lv' := [(5, .int x_35), (15, .int x_33), (14, .int t_29), (13, .int st.2.2.1), (12, .int st.2.2.2.1), (11, .int 1), (10, .int t_8), (0, .ref (q0 0)), (6, .int st.2.1), (7, .int st.2.2.1), (8, .int st.2.2.2.1), (9, .int st.2.2.2.2.1)]) hx hb dX8_laysSquares_239 hl (by decide) rfl (fun ls hl => ?_)
            refine lv_iload hx hb dX8_laysSquares_241 (lv_at hl 8 rfl) ?_
            refine lv_iload hx hb dX8_laysSquares_243 (lv_at hl 5 rfl) ?_
            refine lv_if_eq (tgt := 252) hx hb dX8_laysSquares_245 (by decide) (fun c9 => absurd c9 (by decide)) (fun _ => ?_)
            refine lv_iconst (v := 0) hx hb dX8_laysSquares_248 (by decide) ?_
            refine lv_goto (tgt := 254) hx hb dX8_laysSquares_249 (by decide) ?_
            refine lv_iadd hx hb dX8_laysSquares_254 ?_
            refine lv_topi (fun x_36 ex_36 => ?_)
            have hf := tm_at ex_36 hf
            refine lv_istore (lv' := [(6, .int x_36), (5, .int x_35), (15, .int x_33), (14, .int t_29), (13, .int st.2.2.1), (12, .int st.2.2.2.1), (11, .int 1), (10, .int t_8), (0, .ref (q0 0)), (7, .int st.2.2.1), (8, .int st.2.2.2.1), (9, .int st.2.2.2.2.1)]) hx hb dX8_laysSquares_255 hl (by decide) rfl (fun ls hl => ?_)
            refine lv_iload hx hb dX8_laysSquares_257 (lv_at hl 9 rfl) ?_
            refine lv_iload hx hb dX8_laysSquares_259 (lv_at hl 6 rfl) ?_
            refine lv_if_eq (tgt := 269) hx hb dX8_laysSquares_261 (by decide) (fun c9 => absurd c9 (by decide)) (fun _ => ?_)
            refine lv_iload hx hb dX8_laysSquares_264 (lv_at hl 2 rfl) ?_
            refine lv_goto (tgt := 270) hx hb dX8_laysSquares_266 (by decide) ?_
            refine lv_isub hx hb dX8_laysSquares_270 ?_
            refine lv_topi (fun x_37 ex_37 => ?_)
            have hf := tm_at ex_37 hf
            refine lv_istore (lv' := [(7, .int x_37), (6, .int x_36), (5, .int x_35), (15, .int x_33), (14, .int t_29), (13, .int st.2.2.1), (12, .int st.2.2.2.1), (11, .int 1), (10, .int t_8), (0, .ref (q0 0)), (8, .int st.2.2.2.1), (9, .int st.2.2.2.2.1)]) hx hb dX8_laysSquares_271 hl (by decide) rfl (fun ls hl => ?_)
            refine lv_iload hx hb dX8_laysSquares_273 (lv_at hl 10 rfl) ?_
            refine lv_iload hx hb dX8_laysSquares_275 (lv_at hl 7 rfl) ?_
            refine lv_if_eq (tgt := 284) hx hb dX8_laysSquares_277 (by decide) (fun c9 => absurd c9 (by decide)) (fun _ => ?_)
            refine lv_iconst (v := 0) hx hb dX8_laysSquares_280 (by decide) ?_
            refine lv_goto (tgt := 286) hx hb dX8_laysSquares_281 (by decide) ?_
            refine lv_isub hx hb dX8_laysSquares_286 ?_
            refine lv_topi (fun x_38 ex_38 => ?_)
            have hf := tm_at ex_38 hf
            refine lv_istore (lv' := [(8, .int x_38), (7, .int x_37), (6, .int x_36), (5, .int x_35), (15, .int x_33), (14, .int t_29), (13, .int st.2.2.1), (12, .int st.2.2.2.1), (11, .int 1), (10, .int t_8), (0, .ref (q0 0)), (9, .int st.2.2.2.2.1)]) hx hb dX8_laysSquares_287 hl (by decide) rfl (fun ls hl => ?_)
            refine lv_iload hx hb dX8_laysSquares_289 (lv_at hl 11 rfl) ?_
            refine lv_iload hx hb dX8_laysSquares_291 (lv_at hl 5 rfl) ?_
            refine lv_iadd hx hb dX8_laysSquares_293 ?_
            refine lv_topi (fun x_39 ex_39 => ?_)
            have hf := tm_at ex_39 hf
            refine lv_istore (lv' := [(9, .int x_39), (8, .int x_38), (7, .int x_37), (6, .int x_36), (5, .int x_35), (15, .int x_33), (14, .int t_29), (13, .int st.2.2.1), (12, .int st.2.2.2.1), (11, .int 1), (10, .int t_8), (0, .ref (q0 0))]) hx hb dX8_laysSquares_294 hl (by decide) rfl (fun ls hl => ?_)
            refine lv_goto (tgt := 20) hx hb dX8_laysSquares_296 (by decide) ?_
            obtain rfl := Option.some.inj hf
            exact hk _ _ _ hP hD hS (lv_sub hl [11, 4, 3, 2, 1, 0] rfl)
          · have hf := tm_iT c_30 hf
            refine lv_iload hx hb dX8_laysSquares_151 (lv_at hl 1 rfl) ?_
            refine lv_goto (tgt := 177) hx hb dX8_laysSquares_153 (by decide) ?_
            refine lv_istore (lv' := [(15, .int st.2.2.1), (14, .int t_29), (13, .int st.2.2.1), (12, .int st.2.2.2.1), (11, .int 1), (10, .int t_8), (0, .ref (q0 0)), (5, .int st.1), (6, .int st.2.1), (7, .int st.2.2.1), (8, .int st.2.2.2.1), (9, .int st.2.2.2.2.1)]) hx hb dX8_laysSquares_177 hl (by decide) rfl (fun ls hl => ?_)
            refine lv_aload_n hx hb dX8_laysSquares_179 rfl (lv_at hl 6 rfl) ?_
            refine lv_iload hx hb dX8_laysSquares_180 (lv_at hl 11 rfl) ?_
            refine lv_iload hx hb dX8_laysSquares_182 (lv_at hl 1 rfl) ?_
            refine lv_iload hx hb dX8_laysSquares_184 (lv_at hl 7 rfl) ?_
            refine lv_iload hx hb dX8_laysSquares_186 (lv_at hl 8 rfl) ?_
            refine lv_iload hx hb dX8_laysSquares_188 (lv_at hl 4 rfl) ?_
            refine lv_if_eq (tgt := 198) hx hb dX8_laysSquares_190 (by decide) (fun c9 => absurd c9 (by decide)) (fun _ => ?_)
            refine lv_iload hx hb dX8_laysSquares_193 (lv_at hl 0 rfl) ?_
            refine lv_goto (tgt := 200) hx hb dX8_laysSquares_195 (by decide) ?_
            refine lv_iload hx hb dX8_laysSquares_200 (lv_at hl 4 rfl) ?_
            refine lv_if_eq (tgt := 210) hx hb dX8_laysSquares_202 (by decide) (fun c9 => absurd c9 (by decide)) (fun _ => ?_)
            refine lv_iload hx hb dX8_laysSquares_205 (lv_at hl 10 rfl) ?_
            refine lv_goto (tgt := 212) hx hb dX8_laysSquares_207 (by decide) ?_
            refine lv_iload hx hb dX8_laysSquares_212 (lv_at hl 4 rfl) ?_
            refine lv_if_ne (tgt := 221) hx hb dX8_laysSquares_214 (by decide) (fun _ => ?_) (fun c9 => absurd c9 (by decide))
            refine lv_iconst (v := 0) hx hb dX8_laysSquares_221 (by decide) ?_
            obtain ⟨t_40, ot_40, hf⟩ := tm_bS hf
            refine tm_cVV (As := [.int st.2.2.2.2.1, .int t_29, .int st.1, .int st.2.1, .int st.2.2.1, .int st.2.2.2.1, .int 0]) (rest := []) ⟨hx, hb, hml, hown, hts⟩ (tX8_laysRow l D cI cZ cR N q0 st.2.2.2.2.2 g0 st.2.2.2.2.1 t_29 st.1 st.2.1 st.2.2.1 st.2.2.2.1 (0 : Int32) t_40 ot_40) (cwV 7 hts gX8_laysSquares_X8_laysRow rfl rfl rfl hdwsV_X8_laysRow ⟨Nat.le_of_ble_eq_true rfl, Nat.le_of_ble_eq_true rfl⟩) hK hP hD hS hA [0, 1, 2, 3, 4, 5, 6, 7, 8, 9, 10, 11, 12, 13, 14, 15] (by decide) rfl rfl (ci := 8) rfl rfl rfl (fun _ => WX8 cI cZ cR q0 t_40 g0) (()) rfl rfl hl.1 rfl (Nat.le_of_ble_eq_true rfl) dX8_laysSquares_222 ⟨Nat.zero_le _, Nat.zero_le _⟩ (fun _ _ H locs hP hD hS => ?_)
            refine lv_iload hx hb dX8_laysSquares_225 (lv_at hl 7 rfl) ?_
            refine lv_iload hx hb dX8_laysSquares_227 (lv_at hl 4 rfl) ?_
            refine lv_if_eq (tgt := 237) hx hb dX8_laysSquares_229 (by decide) (fun c9 => absurd c9 (by decide)) (fun _ => ?_)
            refine lv_iload hx hb dX8_laysSquares_232 (lv_at hl 0 rfl) ?_
            refine lv_goto (tgt := 238) hx hb dX8_laysSquares_234 (by decide) ?_
            refine lv_iadd hx hb dX8_laysSquares_238 ?_
            refine lv_topi (fun x_41 ex_41 => ?_)
            have hf := tm_at ex_41 hf
            refine lv_istore (lv' := [(5, .int x_41), (15, .int st.2.2.1), (14, .int t_29), (13, .int st.2.2.1), (12, .int st.2.2.2.1), (11, .int 1), (10, .int t_8), (0, .ref (q0 0)), (6, .int st.2.1), (7, .int st.2.2.1), (8, .int st.2.2.2.1), (9, .int st.2.2.2.2.1)]) hx hb dX8_laysSquares_239 hl (by decide) rfl (fun ls hl => ?_)
            refine lv_iload hx hb dX8_laysSquares_241 (lv_at hl 8 rfl) ?_
            refine lv_iload hx hb dX8_laysSquares_243 (lv_at hl 5 rfl) ?_
            refine lv_if_eq (tgt := 252) hx hb dX8_laysSquares_245 (by decide) (fun c9 => absurd c9 (by decide)) (fun _ => ?_)
            refine lv_iconst (v := 0) hx hb dX8_laysSquares_248 (by decide) ?_
            refine lv_goto (tgt := 254) hx hb dX8_laysSquares_249 (by decide) ?_
            refine lv_iadd hx hb dX8_laysSquares_254 ?_
            refine lv_topi (fun x_42 ex_42 => ?_)
            have hf := tm_at ex_42 hf
            refine lv_istore (lv' := [(6, .int x_42), (5, .int x_41), (15, .int st.2.2.1), (14, .int t_29), (13, .int st.2.2.1), (12, .int st.2.2.2.1), (11, .int 1), (10, .int t_8), (0, .ref (q0 0)), (7, .int st.2.2.1), (8, .int st.2.2.2.1), (9, .int st.2.2.2.2.1)]) hx hb dX8_laysSquares_255 hl (by decide) rfl (fun ls hl => ?_)
            refine lv_iload hx hb dX8_laysSquares_257 (lv_at hl 9 rfl) ?_
            refine lv_iload hx hb dX8_laysSquares_259 (lv_at hl 6 rfl) ?_
            refine lv_if_eq (tgt := 269) hx hb dX8_laysSquares_261 (by decide) (fun c9 => absurd c9 (by decide)) (fun _ => ?_)
            refine lv_iload hx hb dX8_laysSquares_264 (lv_at hl 2 rfl) ?_
            refine lv_goto (tgt := 270) hx hb dX8_laysSquares_266 (by decide) ?_
            refine lv_isub hx hb dX8_laysSquares_270 ?_
            refine lv_topi (fun x_43 ex_43 => ?_)
            have hf := tm_at ex_43 hf
            refine lv_istore (lv' := [(7, .int x_43), (6, .int x_42), (5, .int x_41), (15, .int st.2.2.1), (14, .int t_29), (13, .int st.2.2.1), (12, .int st.2.2.2.1), (11, .int 1), (10, .int t_8), (0, .ref (q0 0)), (8, .int st.2.2.2.1), (9, .int st.2.2.2.2.1)]) hx hb dX8_laysSquares_271 hl (by decide) rfl (fun ls hl => ?_)
            refine lv_iload hx hb dX8_laysSquares_273 (lv_at hl 10 rfl) ?_
            refine lv_iload hx hb dX8_laysSquares_275 (lv_at hl 7 rfl) ?_
            refine lv_if_eq (tgt := 284) hx hb dX8_laysSquares_277 (by decide) (fun c9 => absurd c9 (by decide)) (fun _ => ?_)
            refine lv_iconst (v := 0) hx hb dX8_laysSquares_280 (by decide) ?_
            refine lv_goto (tgt := 286) hx hb dX8_laysSquares_281 (by decide) ?_
            refine lv_isub hx hb dX8_laysSquares_286 ?_
            refine lv_topi (fun x_44 ex_44 => ?_)
            have hf := tm_at ex_44 hf
            refine lv_istore (lv' := [(8, .int x_44), (7, .int x_43), (6, .int x_42), (5, .int x_41), (15, .int st.2.2.1), (14, .int t_29), (13, .int st.2.2.1), (12, .int st.2.2.2.1), (11, .int 1), (10, .int t_8), (0, .ref (q0 0)), (9, .int st.2.2.2.2.1)]) hx hb dX8_laysSquares_287 hl (by decide) rfl (fun ls hl => ?_)
            refine lv_iload hx hb dX8_laysSquares_289 (lv_at hl 11 rfl) ?_
            refine lv_iload hx hb dX8_laysSquares_291 (lv_at hl 5 rfl) ?_
            refine lv_iadd hx hb dX8_laysSquares_293 ?_
            refine lv_topi (fun x_45 ex_45 => ?_)
            have hf := tm_at ex_45 hf
            refine lv_istore (lv' := [(9, .int x_45), (8, .int x_44), (7, .int x_43), (6, .int x_42), (5, .int x_41), (15, .int st.2.2.1), (14, .int t_29), (13, .int st.2.2.1), (12, .int st.2.2.2.1), (11, .int 1), (10, .int t_8), (0, .ref (q0 0))]) hx hb dX8_laysSquares_294 hl (by decide) rfl (fun ls hl => ?_)
            refine lv_goto (tgt := 20) hx hb dX8_laysSquares_296 (by decide) ?_
            obtain rfl := Option.some.inj hf
            exact hk _ _ _ hP hD hS (lv_sub hl [11, 4, 3, 2, 1, 0] rfl)
      · have hf := tm_iT c_7 hf
        refine lv_aload_n hx hb dX8_laysSquares_39 rfl (lv_at hl 0 rfl) ?_
        refine lv_aload_n hx hb dX8_laysSquares_40 rfl (lv_at hl 0 rfl) ?_
        refine va_get (D := D) (ci := 8) (v := .ref (q0 12)) (C := RX8) (T := TX8) (N := 18) hx hb hts uX8_laysSquares_X8 hown hK hP 0 rfl rfl 12 (by decide) (hts _ kX8_laysSquares_f44) (fun _ h9 => h9) rfl dX8_laysSquares_41 ?_
        refine lv_iload hx hb dX8_laysSquares_44 (lv_at hl 5 rfl) ?_
        obtain ⟨h_46, hf⟩ := tm_gS hf
        refine va_iald hx hb hK hP 12 0 rfl rfl (tm_inb_in h_46) dX8_laysSquares_46 ?_
        refine lv_iload hx hb dX8_laysSquares_47 (lv_at hl 1 rfl) ?_
        refine lv_iload hx hb dX8_laysSquares_49 (lv_at hl 2 rfl) ?_
        refine lv_iconst (v := 0) hx hb dX8_laysSquares_51 (by decide) ?_
        refine lv_iconst (v := 0) hx hb dX8_laysSquares_52 (by decide) ?_
        obtain ⟨t_47, ot_47, hf⟩ := tm_bS hf
        refine tm_cVV (As := [.int (st.2.2.2.2.2 12 st.2.2.2.2.1.toNatClampNeg), .int st.1, .int st.2.1, .int 0, .int 0]) (rest := []) ⟨hx, hb, hml, hown, hts⟩ (tX8_puts l D cI cZ cR N q0 st.2.2.2.2.2 g0 (st.2.2.2.2.2 12 st.2.2.2.2.1.toNatClampNeg) st.1 st.2.1 (0 : Int32) (0 : Int32) t_47 ot_47) (cwV 5 hts gX8_laysSquares_X8_puts rfl rfl rfl hdwsV_X8_puts ⟨Nat.le_of_ble_eq_true rfl, Nat.le_of_ble_eq_true rfl⟩) hK hP hD hS hA [0, 1, 2, 3, 4, 5, 6, 7, 8, 9, 10, 11, 12, 13, 14, 15] (by decide) rfl rfl (ci := 8) rfl rfl rfl (fun _ => WX8 cI cZ cR q0 t_47 g0) (()) rfl rfl hl.1 rfl (Nat.le_of_ble_eq_true rfl) dX8_laysSquares_53 ⟨Nat.zero_le _, Nat.zero_le _⟩ (fun _ _ H locs hP hD hS => ?_)
        obtain ⟨x_48, ex_48⟩ : ∃ y : Int32, y = st.2.2.2.2.1 + 1 := ⟨_, rfl⟩
        have hf := tm_at ex_48 hf
        refine lv_iinc (v := x_48) (lv' := [(9, .int x_48), (0, .ref (q0 0)), (5, .int st.1), (6, .int st.2.1), (7, .int st.2.2.1), (8, .int st.2.2.2.1)]) hx hb dX8_laysSquares_56 hl (k := 5) rfl (by rw [ex_48]; rfl) (by decide) rfl (fun ls hl => ?_)
        refine lv_goto (tgt := 20) hx hb dX8_laysSquares_59 (by decide) ?_
        obtain rfl := Option.some.inj hf
        exact hk _ _ _ hP hD hS (lv_sub hl [1, 2, 3, 4, 5, 0] rfl)
set_option maxHeartbeats 4000000 in
set_option maxRecDepth 100000 in
theorem tX8_laysSquares (l : Launch) (D : va_G) (cI cZ cR : ClassId) (N : Nat) (q0 : Nat → Nat) (d0 : tm_M) (g0 : Int64) (p1 : Int32) (p2 : Int32) (p3 : Int32) (p4 : Int32) (z0 : tm_M) (hf : fX8_laysSquares N d0 g0 p1 p2 p3 p4 = some z0) : tm_CV l D (tm_ty cI cZ cR) yX8_laysSquares wsX8_laysSquares rmX8_laysSquares [.ref (q0 0), .int p1, .int p2, .int p3, .int p4] (WX8 cI cZ cR q0 d0 g0) (WX8 cI cZ cR q0 z0 g0) := by
  refine tm_mkV (cc := cX8_laysSquares) (maxL := 16) (by decide) rfl (Nat.le_of_ble_eq_true rfl) ?_
  intro p e s m below meth c A ls Q C hP hD hS hl hend
  have C : tm_Cx p s m c [.ref (q0 0), .int p1, .int p2, .int p3, .int p4].toArray cX8_laysSquares 16 RX8 wsX8_laysSquares D (tm_ty cI cZ cR) A s.heap := C
  obtain ⟨hx, hb, hml, hown, hts, hK, hA⟩ := id C
  have hl : lv_has ls 16 [(0, .ref (q0 0)), (1, .int p1), (2, .int p2), (3, .int p3), (4, .int p4)] := hl
  unfold fX8_laysSquares at hf
  refine lv_aload_n hx hb dX8_laysSquares_0 rfl (lv_at hl 0 rfl) ?_
  obtain ⟨t_1, ot_1, hf⟩ := tm_bS hf
  refine tm_cVV (As := []) (rest := []) ⟨hx, hb, hml, hown, hts⟩ (tX8_sorts l D cI cZ cR N q0 d0 g0 t_1 ot_1) (cwV 0 hts gX8_laysSquares_X8_sorts rfl rfl rfl hdwsV_X8_sorts ⟨Nat.le_of_ble_eq_true rfl, Nat.le_of_ble_eq_true rfl⟩) hK hP hD hS hA [0, 1, 2, 3, 4, 5, 6, 7, 8, 9, 10, 11, 12, 13, 14, 15] (by decide) rfl rfl (ci := 8) rfl rfl rfl (fun _ => WX8 cI cZ cR q0 t_1 g0) (()) rfl rfl hl.1 rfl (Nat.le_of_ble_eq_true rfl) dX8_laysSquares_1 ⟨Nat.zero_le _, Nat.zero_le _⟩ (fun _ _ H locs hP hD hS => ?_)
  refine lv_iload_n hx hb dX8_laysSquares_4 rfl (lv_at hl 1 rfl) ?_
  refine lv_istore (lv' := [(5, .int p1), (0, .ref (q0 0)), (1, .int p1), (2, .int p2), (3, .int p3), (4, .int p4)]) hx hb dX8_laysSquares_5 hl (by decide) rfl (fun ls hl => ?_)
  refine lv_iload_n hx hb dX8_laysSquares_7 rfl (lv_at hl 3 rfl) ?_
  refine lv_istore (lv' := [(6, .int p2), (5, .int p1), (0, .ref (q0 0)), (1, .int p1), (2, .int p2), (3, .int p3), (4, .int p4)]) hx hb dX8_laysSquares_8 hl (by decide) rfl (fun ls hl => ?_)
  refine lv_iload_n hx hb dX8_laysSquares_10 rfl (lv_at hl 5 rfl) ?_
  refine lv_istore (lv' := [(7, .int p3), (6, .int p2), (5, .int p1), (0, .ref (q0 0)), (1, .int p1), (2, .int p2), (3, .int p3), (4, .int p4)]) hx hb dX8_laysSquares_11 hl (by decide) rfl (fun ls hl => ?_)
  refine lv_iload hx hb dX8_laysSquares_13 (lv_at hl 7 rfl) ?_
  refine lv_istore (lv' := [(8, .int p4), (7, .int p3), (6, .int p2), (5, .int p1), (0, .ref (q0 0)), (1, .int p1), (2, .int p2), (3, .int p3), (4, .int p4)]) hx hb dX8_laysSquares_15 hl (by decide) rfl (fun ls hl => ?_)
  refine lv_iconst (v := 0) hx hb dX8_laysSquares_17 (by decide) ?_
  refine lv_istore (lv' := [(9, .int 0), (8, .int p4), (7, .int p3), (6, .int p2), (5, .int p1), (0, .ref (q0 0)), (1, .int p1), (2, .int p2), (3, .int p3), (4, .int p4)]) hx hb dX8_laysSquares_18 hl (by decide) rfl (fun ls hl => ?_)
  obtain ⟨t_49, ot_49, hf⟩ := tm_bS hf
  refine wX8_laysSquares_20 l D cI cZ cR N q0 C g0 _ _ _ ot_49 ?_ _ _ _ hP hD hS (lv_sub hl [5, 4, 3, 2, 1, 0] rfl)
  intro H locs ls hP hD hS hl
  obtain rfl := Option.some.inj hf
  exact hend _ _ _ _ hP hD hS dX8_laysSquares_299
set_option maxHeartbeats 4000000 in
set_option maxRecDepth 100000 in
theorem wX8_laysUnder_92 (l : Launch) (D : va_G) (cI cZ cR : ClassId) (N : Nat) (q0 : Nat → Nat) {p : Program} {e : Env} {s : State} {m : MethodId} {args : Array Value} {below : List Frame} {meth : Method} {c : Code} {A : Nat → Prop} {H0 : Heap} {Q : State → Prop} (C : tm_Cx p s m c args cX8_laysUnder 8 RX8 wsX8_laysUnder D (tm_ty cI cZ cR) A H0) (g0 : Int64) : ∀ (n : Nat) (st : Int32 × tm_M) (o : (Int32 × tm_M)), tm_whl (bX8_laysUnder_92 N g0) n st = some o → (fun (o : Int32 × tm_M) => ∀ (H : Heap) (locs : List Loc) (ls : Array Slot), va_P D vwCl (WX8 cI cZ cR q0 o.2 g0) H → va_D A (WX8 cI cZ cR q0 o.2 g0) → va_S A H0 H locs → lv_has ls 8 [] → W p l e rmX8_laysUnder s m args below meth c H locs 0 0 Q (F0 m 135 ls [])) o → (fun (st : Int32 × tm_M) => ∀ (H : Heap) (locs : List Loc) (ls : Array Slot), va_P D vwCl (WX8 cI cZ cR q0 st.2 g0) H → va_D A (WX8 cI cZ cR q0 st.2 g0) → va_S A H0 H locs → lv_has ls 8 [(0, .ref (q0 0)), (7, .int st.1)] → W p l e rmX8_laysUnder s m args below meth c H locs 0 0 Q (F0 m 92 ls [])) st := by
  obtain ⟨hx, hb, hml, hown, hts, hK, hA⟩ := id C
  refine tm_whl_W (Wh := fun (st : Int32 × tm_M) => ∀ (H : Heap) (locs : List Loc) (ls : Array Slot), va_P D vwCl (WX8 cI cZ cR q0 st.2 g0) H → va_D A (WX8 cI cZ cR q0 st.2 g0) → va_S A H0 H locs → lv_has ls 8 [(0, .ref (q0 0)), (7, .int st.1)] → W p l e rmX8_laysUnder s m args below meth c H locs 0 0 Q (F0 m 92 ls [])) (Wx := fun (o : Int32 × tm_M) => ∀ (H : Heap) (locs : List Loc) (ls : Array Slot), va_P D vwCl (WX8 cI cZ cR q0 o.2 g0) H → va_D A (WX8 cI cZ cR q0 o.2 g0) → va_S A H0 H locs → lv_has ls 8 [] → W p l e rmX8_laysUnder s m args below meth c H locs 0 0 Q (F0 m 135 ls [])) ?_
  intro st r hf hk H locs ls hP hD hS hl
  unfold bX8_laysUnder_92 at hf
  refine lv_iload hx hb dX8_laysUnder_92 (lv_at hl 1 rfl) ?_
  refine lv_aload_n hx hb dX8_laysUnder_94 rfl (lv_at hl 0 rfl) ?_
  refine va_get (D := D) (ci := 8) (v := .int (st.2 0 13)) (C := RX8) (T := TX8) (N := 18) hx hb hts uX8_laysUnder_X8 hown hK hP 0 rfl rfl 13 (by decide) (hts _ kX8_laysUnder_f96) (fun _ h9 => h9) rfl dX8_laysUnder_95 ?_
  refine lv_icmp_ge (tgt := 135) hx hb dX8_laysUnder_98 (by decide) (fun c_8 => ?_) (fun c_8 => ?_)
  · have hf := tm_iT c_8 hf
    obtain rfl := Option.some.inj hf
    exact hk _ _ _ hP hD hS (lv_sub hl [] rfl)
  · have hf := tm_iF c_8 hf
    refine lv_aload_n hx hb dX8_laysUnder_101 rfl (lv_at hl 0 rfl) ?_
    refine lv_aload_n hx hb dX8_laysUnder_102 rfl (lv_at hl 0 rfl) ?_
    refine va_get (D := D) (ci := 8) (v := .ref (q0 12)) (C := RX8) (T := TX8) (N := 18) hx hb hts uX8_laysUnder_X8 hown hK hP 0 rfl rfl 12 (by decide) (hts _ kX8_laysUnder_f44) (fun _ h9 => h9) rfl dX8_laysUnder_103 ?_
    refine lv_iload hx hb dX8_laysUnder_106 (lv_at hl 1 rfl) ?_
    obtain ⟨h_9, hf⟩ := tm_gS hf
    refine va_iald hx hb hK hP 12 0 rfl rfl (tm_inb_in h_9) dX8_laysUnder_108 ?_
    refine lv_iconst (v := 0) hx hb dX8_laysUnder_109 (by decide) ?_
    refine lv_iconst (v := 0) hx hb dX8_laysUnder_110 (by decide) ?_
    refine lv_iconst (v := 0) hx hb dX8_laysUnder_111 (by decide) ?_
    refine lv_iconst (v := 0) hx hb dX8_laysUnder_112 (by decide) ?_
    obtain ⟨t_10, ot_10, hf⟩ := tm_bS hf
    refine tm_cVV (As := [.int (st.2 12 st.1.toNatClampNeg), .int 0, .int 0, .int 0, .int 0]) (rest := []) ⟨hx, hb, hml, hown, hts⟩ (tX8_puts l D cI cZ cR N q0 st.2 g0 (st.2 12 st.1.toNatClampNeg) (0 : Int32) (0 : Int32) (0 : Int32) (0 : Int32) t_10 ot_10) (cwV 5 hts gX8_laysUnder_X8_puts rfl rfl rfl hdwsV_X8_puts ⟨Nat.le_of_ble_eq_true rfl, Nat.le_of_ble_eq_true rfl⟩) hK hP hD hS hA [0, 1, 2, 3, 4, 5, 6, 7, 8, 9, 10, 11, 12, 13, 14, 15] (by decide) rfl rfl (ci := 8) rfl rfl rfl (fun _ => WX8 cI cZ cR q0 t_10 g0) (()) rfl rfl hl.1 rfl (Nat.le_of_ble_eq_true rfl) dX8_laysUnder_113 ⟨Nat.zero_le _, Nat.zero_le _⟩ (fun _ _ H locs hP hD hS => ?_)
    refine lv_aload_n hx hb dX8_laysUnder_116 rfl (lv_at hl 0 rfl) ?_
    refine va_get (D := D) (ci := 8) (v := .ref (q0 10)) (C := RX8) (T := TX8) (N := 18) hx hb hts uX8_laysUnder_X8 hown hK hP 0 rfl rfl 10 (by decide) (hts _ kX8_laysUnder_f37) (fun _ h9 => h9) rfl dX8_laysUnder_117 ?_
    refine lv_aload_n hx hb dX8_laysUnder_120 rfl (lv_at hl 0 rfl) ?_
    refine va_get (D := D) (ci := 8) (v := .ref (q0 12)) (C := RX8) (T := TX8) (N := 18) hx hb hts uX8_laysUnder_X8 hown hK hP 0 rfl rfl 12 (by decide) (hts _ kX8_laysUnder_f44) (fun _ h9 => h9) rfl dX8_laysUnder_121 ?_
    refine lv_iload hx hb dX8_laysUnder_124 (lv_at hl 1 rfl) ?_
    refine va_iald hx hb hK hP 12 0 rfl rfl (tm_inb_in h_9) dX8_laysUnder_126 ?_
    refine lv_iconst (v := 1) hx hb dX8_laysUnder_127 (by decide) ?_
    obtain ⟨h_11, hf⟩ := tm_gS hf
    refine tm_zast hx hb hK hP hD hS 10 1 rfl rfl (tm_inb_in h_11) dX8_laysUnder_128 (fun z => WX8 cI cZ cR q0 z g0) (tm_upc t_10 10 (upd (t_10 10) (t_10 12 st.1.toNatClampNeg).toNatClampNeg (vp_nar .boolean 1))) rfl (fun d0_12 ed0_12 H locs hP hD hS => ?_)
    have hf := tm_at ed0_12 hf
    obtain ⟨x_13, ex_13⟩ : ∃ y : Int32, y = st.1 + 1 := ⟨_, rfl⟩
    have hf := tm_at ex_13 hf
    refine lv_iinc (v := x_13) (lv' := [(7, .int x_13), (0, .ref (q0 0))]) hx hb dX8_laysUnder_129 hl (k := 1) rfl (by rw [ex_13]; rfl) (by decide) rfl (fun ls hl => ?_)
    refine lv_goto (tgt := 92) hx hb dX8_laysUnder_132 (by decide) ?_
    obtain rfl := Option.some.inj hf
    exact hk _ _ _ hP hD hS (lv_sub hl [1, 0] rfl)
set_option maxHeartbeats 4000000 in
set_option maxRecDepth 100000 in
theorem wX8_laysUnder_139 (l : Launch) (D : va_G) (cI cZ cR : ClassId) (N : Nat) (q0 : Nat → Nat) {p : Program} {e : Env} {s : State} {m : MethodId} {args : Array Value} {below : List Frame} {meth : Method} {c : Code} {A : Nat → Prop} {H0 : Heap} {Q : State → Prop} (C : tm_Cx p s m c args cX8_laysUnder 8 RX8 wsX8_laysUnder D (tm_ty cI cZ cR) A H0) (g0 : Int64) (v1 : Int32) (v2 : Int32) (v3 : Int32) (v4 : Int32) (v5 : Int32) (v6 : Int32) : ∀ (n : Nat) (st : Int32 × tm_M) (o : (Int32 × tm_M)), tm_whl (bX8_laysUnder_139 N) n st = some o → (fun (o : Int32 × tm_M) => ∀ (H : Heap) (locs : List Loc) (ls : Array Slot), va_P D vwCl (WX8 cI cZ cR q0 o.2 g0) H → va_D A (WX8 cI cZ cR q0 o.2 g0) → va_S A H0 H locs → lv_has ls 8 [(0, .ref (q0 0)), (1, .int v1), (2, .int v2), (3, .int v3), (4, .int v4), (5, .int v5), (6, .int v6)] → W p l e rmX8_laysUnder s m args below meth c H locs 0 0 Q (F0 m 167 ls [])) o → (fun (st : Int32 × tm_M) => ∀ (H : Heap) (locs : List Loc) (ls : Array Slot), va_P D vwCl (WX8 cI cZ cR q0 st.2 g0) H → va_D A (WX8 cI cZ cR q0 st.2 g0) → va_S A H0 H locs → lv_has ls 8 [(0, .ref (q0 0)), (1, .int v1), (2, .int v2), (3, .int v3), (4, .int v4), (5, .int v5), (6, .int v6), (7, .int st.1)] → W p l e rmX8_laysUnder s m args below meth c H locs 0 0 Q (F0 m 139 ls [])) st := by
  obtain ⟨hx, hb, hml, hown, hts, hK, hA⟩ := id C
  refine tm_whl_W (Wh := fun (st : Int32 × tm_M) => ∀ (H : Heap) (locs : List Loc) (ls : Array Slot), va_P D vwCl (WX8 cI cZ cR q0 st.2 g0) H → va_D A (WX8 cI cZ cR q0 st.2 g0) → va_S A H0 H locs → lv_has ls 8 [(0, .ref (q0 0)), (1, .int v1), (2, .int v2), (3, .int v3), (4, .int v4), (5, .int v5), (6, .int v6), (7, .int st.1)] → W p l e rmX8_laysUnder s m args below meth c H locs 0 0 Q (F0 m 139 ls [])) (Wx := fun (o : Int32 × tm_M) => ∀ (H : Heap) (locs : List Loc) (ls : Array Slot), va_P D vwCl (WX8 cI cZ cR q0 o.2 g0) H → va_D A (WX8 cI cZ cR q0 o.2 g0) → va_S A H0 H locs → lv_has ls 8 [(0, .ref (q0 0)), (1, .int v1), (2, .int v2), (3, .int v3), (4, .int v4), (5, .int v5), (6, .int v6)] → W p l e rmX8_laysUnder s m args below meth c H locs 0 0 Q (F0 m 167 ls [])) ?_
  intro st r hf hk H locs ls hP hD hS hl
  unfold bX8_laysUnder_139 at hf
  refine lv_iload hx hb dX8_laysUnder_139 (lv_at hl 7 rfl) ?_
  refine lv_aload_n hx hb dX8_laysUnder_141 rfl (lv_at hl 0 rfl) ?_
  refine va_get (D := D) (ci := 8) (v := .int (st.2 0 13)) (C := RX8) (T := TX8) (N := 18) hx hb hts uX8_laysUnder_X8 hown hK hP 0 rfl rfl 13 (by decide) (hts _ kX8_laysUnder_f96) (fun _ h9 => h9) rfl dX8_laysUnder_142 ?_
  refine lv_icmp_ge (tgt := 167) hx hb dX8_laysUnder_145 (by decide) (fun c_18 => ?_) (fun c_18 => ?_)
  · have hf := tm_iT c_18 hf
    obtain rfl := Option.some.inj hf
    exact hk _ _ _ hP hD hS (lv_sub hl [0, 1, 2, 3, 4, 5, 6] rfl)
  · have hf := tm_iF c_18 hf
    refine lv_aload_n hx hb dX8_laysUnder_148 rfl (lv_at hl 0 rfl) ?_
    refine va_get (D := D) (ci := 8) (v := .ref (q0 10)) (C := RX8) (T := TX8) (N := 18) hx hb hts uX8_laysUnder_X8 hown hK hP 0 rfl rfl 10 (by decide) (hts _ kX8_laysUnder_f37) (fun _ h9 => h9) rfl dX8_laysUnder_149 ?_
    refine lv_aload_n hx hb dX8_laysUnder_152 rfl (lv_at hl 0 rfl) ?_
    refine va_get (D := D) (ci := 8) (v := .ref (q0 12)) (C := RX8) (T := TX8) (N := 18) hx hb hts uX8_laysUnder_X8 hown hK hP 0 rfl rfl 12 (by decide) (hts _ kX8_laysUnder_f44) (fun _ h9 => h9) rfl dX8_laysUnder_153 ?_
    refine lv_iload hx hb dX8_laysUnder_156 (lv_at hl 7 rfl) ?_
    obtain ⟨h_19, hf⟩ := tm_gS hf
    refine va_iald hx hb hK hP 12 0 rfl rfl (tm_inb_in h_19) dX8_laysUnder_158 ?_
    refine lv_iconst (v := 0) hx hb dX8_laysUnder_159 (by decide) ?_
    obtain ⟨h_20, hf⟩ := tm_gS hf
    refine tm_zast hx hb hK hP hD hS 10 1 rfl rfl (tm_inb_in h_20) dX8_laysUnder_160 (fun z => WX8 cI cZ cR q0 z g0) (tm_upc st.2 10 (upd (st.2 10) (st.2 12 st.1.toNatClampNeg).toNatClampNeg (vp_nar .boolean 0))) rfl (fun d0_21 ed0_21 H locs hP hD hS => ?_)
    have hf := tm_at ed0_21 hf
    obtain ⟨x_22, ex_22⟩ : ∃ y : Int32, y = st.1 + 1 := ⟨_, rfl⟩
    have hf := tm_at ex_22 hf
    refine lv_iinc (v := x_22) (lv' := [(7, .int x_22), (0, .ref (q0 0)), (1, .int v1), (2, .int v2), (3, .int v3), (4, .int v4), (5, .int v5), (6, .int v6)]) hx hb dX8_laysUnder_161 hl (k := 7) rfl (by rw [ex_22]; rfl) (by decide) rfl (fun ls hl => ?_)
    refine lv_goto (tgt := 139) hx hb dX8_laysUnder_164 (by decide) ?_
    obtain rfl := Option.some.inj hf
    exact hk _ _ _ hP hD hS (lv_sub hl [1, 2, 3, 4, 5, 6, 7, 0] rfl)
set_option maxHeartbeats 4000000 in
set_option maxRecDepth 100000 in
theorem tX8_laysUnder (l : Launch) (D : va_G) (cI cZ cR : ClassId) (N : Nat) (q0 : Nat → Nat) (d0 : tm_M) (g0 : Int64) (p1 : Int32) (p2 : Int32) (z0 : tm_M) (hf : fX8_laysUnder N d0 g0 p1 p2 = some z0) : tm_CV l D (tm_ty cI cZ cR) yX8_laysUnder wsX8_laysUnder rmX8_laysUnder [.ref (q0 0), .int p1, .int p2] (WX8 cI cZ cR q0 d0 g0) (WX8 cI cZ cR q0 z0 g0) := by
  refine tm_mkV (cc := cX8_laysUnder) (maxL := 8) (by decide) rfl (Nat.le_of_ble_eq_true rfl) ?_
  intro p e s m below meth c A ls Q C hP hD hS hl hend
  have C : tm_Cx p s m c [.ref (q0 0), .int p1, .int p2].toArray cX8_laysUnder 8 RX8 wsX8_laysUnder D (tm_ty cI cZ cR) A s.heap := C
  obtain ⟨hx, hb, hml, hown, hts, hK, hA⟩ := id C
  have hl : lv_has ls 8 [(0, .ref (q0 0)), (1, .int p1), (2, .int p2)] := hl
  unfold fX8_laysUnder at hf
  refine lv_aload_n hx hb dX8_laysUnder_0 rfl (lv_at hl 0 rfl) ?_
  refine lv_iload_n hx hb dX8_laysUnder_1 rfl (lv_at hl 1 rfl) ?_
  obtain ⟨t_1, ot_1, hf⟩ := tm_bS hf
  refine tm_cVV (As := [.int p1]) (rest := []) ⟨hx, hb, hml, hown, hts⟩ (tX8_laysChildren l D cI cZ cR N q0 d0 g0 p1 t_1 ot_1) (cwV 1 hts gX8_laysUnder_X8_laysChildren rfl rfl rfl hdwsV_X8_laysChildren ⟨Nat.le_of_ble_eq_true rfl, Nat.le_of_ble_eq_true rfl⟩) hK hP hD hS hA [0, 1, 2, 3, 4, 5, 6, 7, 8, 9, 10, 11, 12, 13, 14, 15] (by decide) rfl rfl (ci := 8) rfl rfl rfl (fun _ => WX8 cI cZ cR q0 t_1 g0) (()) rfl rfl hl.1 rfl (Nat.le_of_ble_eq_true rfl) dX8_laysUnder_2 ⟨Nat.zero_le _, Nat.zero_le _⟩ (fun _ _ H locs hP hD hS => ?_)
  refine lv_aload_n hx hb dX8_laysUnder_5 rfl (lv_at hl 0 rfl) ?_
  refine va_get (D := D) (ci := 8) (v := .ref (q0 6)) (C := RX8) (T := TX8) (N := 18) hx hb hts uX8_laysUnder_X8 hown hK hP 0 rfl rfl 6 (by decide) (hts _ kX8_laysUnder_f25) (fun _ h9 => h9) rfl dX8_laysUnder_6 ?_
  refine lv_iload_n hx hb dX8_laysUnder_9 rfl (lv_at hl 1 rfl) ?_
  obtain ⟨h_2, hf⟩ := tm_gS hf
  refine va_iald hx hb hK hP 6 0 rfl rfl (tm_inb_in h_2) dX8_laysUnder_10 ?_
  refine lv_aload_n hx hb dX8_laysUnder_11 rfl (lv_at hl 0 rfl) ?_
  refine va_get (D := D) (ci := 8) (v := .ref (q0 1)) (C := RX8) (T := TX8) (N := 18) hx hb hts uX8_laysUnder_X8 hown hK hP 0 rfl rfl 0 (by decide) (hts _ kX8_laysUnder_f7) (fun _ h9 => h9) rfl dX8_laysUnder_12 ?_
  refine lv_iconst (v := 3) hx hb dX8_laysUnder_15 (by decide) ?_
  refine va_iald hx hb hK hP 1 0 rfl rfl (tm_inb_in (by decide)) dX8_laysUnder_16 ?_
  refine lv_iadd hx hb dX8_laysUnder_17 ?_
  refine lv_topi (fun x_3 ex_3 => ?_)
  have hf := tm_at ex_3 hf
  refine lv_istore_n (lv' := [(3, .int x_3), (0, .ref (q0 0)), (1, .int p1), (2, .int p2)]) hx hb dX8_laysUnder_18 rfl hl (by decide) rfl (fun ls hl => ?_)
  refine lv_aload_n hx hb dX8_laysUnder_19 rfl (lv_at hl 1 rfl) ?_
  refine va_get (D := D) (ci := 8) (v := .ref (q0 7)) (C := RX8) (T := TX8) (N := 18) hx hb hts uX8_laysUnder_X8 hown hK hP 0 rfl rfl 7 (by decide) (hts _ kX8_laysUnder_f28) (fun _ h9 => h9) rfl dX8_laysUnder_20 ?_
  refine lv_iload_n hx hb dX8_laysUnder_23 rfl (lv_at hl 2 rfl) ?_
  refine va_iald hx hb hK hP 7 0 rfl rfl (tm_inb_in h_2) dX8_laysUnder_24 ?_
  refine lv_aload_n hx hb dX8_laysUnder_25 rfl (lv_at hl 1 rfl) ?_
  refine va_get (D := D) (ci := 8) (v := .ref (q0 1)) (C := RX8) (T := TX8) (N := 18) hx hb hts uX8_laysUnder_X8 hown hK hP 0 rfl rfl 0 (by decide) (hts _ kX8_laysUnder_f7) (fun _ h9 => h9) rfl dX8_laysUnder_26 ?_
  refine lv_iconst (v := 3) hx hb dX8_laysUnder_29 (by decide) ?_
  refine va_iald hx hb hK hP 1 0 rfl rfl (tm_inb_in (by decide)) dX8_laysUnder_30 ?_
  refine lv_iadd hx hb dX8_laysUnder_31 ?_
  refine lv_topi (fun x_4 ex_4 => ?_)
  have hf := tm_at ex_4 hf
  refine lv_istore (lv' := [(4, .int x_4), (3, .int x_3), (0, .ref (q0 0)), (1, .int p1), (2, .int p2)]) hx hb dX8_laysUnder_32 hl (by decide) rfl (fun ls hl => ?_)
  refine lv_aload_n hx hb dX8_laysUnder_34 rfl (lv_at hl 2 rfl) ?_
  refine va_get (D := D) (ci := 8) (v := .ref (q0 8)) (C := RX8) (T := TX8) (N := 18) hx hb hts uX8_laysUnder_X8 hown hK hP 0 rfl rfl 8 (by decide) (hts _ kX8_laysUnder_f31) (fun _ h9 => h9) rfl dX8_laysUnder_35 ?_
  refine lv_iload_n hx hb dX8_laysUnder_38 rfl (lv_at hl 3 rfl) ?_
  refine va_iald hx hb hK hP 8 0 rfl rfl (tm_inb_in h_2) dX8_laysUnder_39 ?_
  refine lv_iconst (v := 2) hx hb dX8_laysUnder_40 (by decide) ?_
  refine lv_aload_n hx hb dX8_laysUnder_41 rfl (lv_at hl 2 rfl) ?_
  refine va_get (D := D) (ci := 8) (v := .ref (q0 1)) (C := RX8) (T := TX8) (N := 18) hx hb hts uX8_laysUnder_X8 hown hK hP 0 rfl rfl 0 (by decide) (hts _ kX8_laysUnder_f7) (fun _ h9 => h9) rfl dX8_laysUnder_42 ?_
  refine lv_iconst (v := 3) hx hb dX8_laysUnder_45 (by decide) ?_
  refine va_iald hx hb hK hP 1 0 rfl rfl (tm_inb_in (by decide)) dX8_laysUnder_46 ?_
  refine lv_imul hx hb dX8_laysUnder_47 ?_
  refine lv_isub hx hb dX8_laysUnder_48 ?_
  refine lv_topi (fun x_5 ex_5 => ?_)
  have hf := tm_at ex_5 hf
  refine lv_istore (lv' := [(5, .int x_5), (4, .int x_4), (3, .int x_3), (0, .ref (q0 0)), (1, .int p1), (2, .int p2)]) hx hb dX8_laysUnder_49 hl (by decide) rfl (fun ls hl => ?_)
  refine lv_aload_n hx hb dX8_laysUnder_51 rfl (lv_at hl 3 rfl) ?_
  refine va_get (D := D) (ci := 8) (v := .ref (q0 9)) (C := RX8) (T := TX8) (N := 18) hx hb hts uX8_laysUnder_X8 hown hK hP 0 rfl rfl 9 (by decide) (hts _ kX8_laysUnder_f34) (fun _ h9 => h9) rfl dX8_laysUnder_52 ?_
  refine lv_iload_n hx hb dX8_laysUnder_55 rfl (lv_at hl 4 rfl) ?_
  refine va_iald hx hb hK hP 9 0 rfl rfl (tm_inb_in h_2) dX8_laysUnder_56 ?_
  refine lv_iconst (v := 2) hx hb dX8_laysUnder_57 (by decide) ?_
  refine lv_aload_n hx hb dX8_laysUnder_58 rfl (lv_at hl 3 rfl) ?_
  refine va_get (D := D) (ci := 8) (v := .ref (q0 1)) (C := RX8) (T := TX8) (N := 18) hx hb hts uX8_laysUnder_X8 hown hK hP 0 rfl rfl 0 (by decide) (hts _ kX8_laysUnder_f7) (fun _ h9 => h9) rfl dX8_laysUnder_59 ?_
  refine lv_iconst (v := 3) hx hb dX8_laysUnder_62 (by decide) ?_
  refine va_iald hx hb hK hP 1 0 rfl rfl (tm_inb_in (by decide)) dX8_laysUnder_63 ?_
  refine lv_imul hx hb dX8_laysUnder_64 ?_
  refine lv_isub hx hb dX8_laysUnder_65 ?_
  refine lv_topi (fun x_6 ex_6 => ?_)
  have hf := tm_at ex_6 hf
  refine lv_istore (lv' := [(6, .int x_6), (5, .int x_5), (4, .int x_4), (3, .int x_3), (0, .ref (q0 0)), (1, .int p1), (2, .int p2)]) hx hb dX8_laysUnder_66 hl (by decide) rfl (fun ls hl => ?_)
  refine lv_aload_n hx hb dX8_laysUnder_68 rfl (lv_at hl 4 rfl) ?_
  refine va_get (D := D) (ci := 8) (v := .ref (q0 10)) (C := RX8) (T := TX8) (N := 18) hx hb hts uX8_laysUnder_X8 hown hK hP 0 rfl rfl 10 (by decide) (hts _ kX8_laysUnder_f37) (fun _ h9 => h9) rfl dX8_laysUnder_69 ?_
  refine lv_iload_n hx hb dX8_laysUnder_72 rfl (lv_at hl 5 rfl) ?_
  refine va_zald hx hb hK hP 10 1 rfl rfl (tm_inb_in h_2) dX8_laysUnder_73 ?_
  refine lv_if_ne (tgt := 89) hx hb dX8_laysUnder_74 (by decide) (fun c_7 => ?_) (fun c_7 => ?_)
  · have hf := tm_iF c_7 hf
    refine lv_iconst (v := 0) hx hb dX8_laysUnder_89 (by decide) ?_
    refine lv_istore (lv' := [(7, .int 0), (6, .int x_6), (5, .int x_5), (4, .int x_4), (3, .int x_3), (0, .ref (q0 0)), (1, .int p1), (2, .int p2)]) hx hb dX8_laysUnder_90 hl (by decide) rfl (fun ls hl => ?_)
    obtain ⟨t_14, ot_14, hf⟩ := tm_bS hf
    refine wX8_laysUnder_92 l D cI cZ cR N q0 C g0 _ _ _ ot_14 ?_ _ _ _ hP hD hS (lv_sub hl [5, 0] rfl)
    intro H locs ls hP hD hS hl
    obtain rfl := Option.some.inj hf
    exact hend _ _ _ _ hP hD hS dX8_laysUnder_135
  · have hf := tm_iT c_7 hf
    refine lv_iload hx hb dX8_laysUnder_77 (lv_at hl 1 rfl) ?_
    refine lv_iconst (v := 1) hx hb dX8_laysUnder_79 (by decide) ?_
    refine lv_icmp_lt (tgt := 89) hx hb dX8_laysUnder_80 (by decide) (fun c_15 => ?_) (fun c_15 => ?_)
    · have hf := tm_iT c_15 hf
      refine lv_iconst (v := 0) hx hb dX8_laysUnder_89 (by decide) ?_
      refine lv_istore (lv' := [(7, .int 0), (6, .int x_6), (5, .int x_5), (4, .int x_4), (3, .int x_3), (0, .ref (q0 0)), (1, .int p1), (2, .int p2)]) hx hb dX8_laysUnder_90 hl (by decide) rfl (fun ls hl => ?_)
      obtain ⟨t_16, ot_16, hf⟩ := tm_bS hf
      refine wX8_laysUnder_92 l D cI cZ cR N q0 C g0 _ _ _ ot_16 ?_ _ _ _ hP hD hS (lv_sub hl [5, 0] rfl)
      intro H locs ls hP hD hS hl
      obtain rfl := Option.some.inj hf
      exact hend _ _ _ _ hP hD hS dX8_laysUnder_135
    · have hf := tm_iF c_15 hf
      refine lv_iload hx hb dX8_laysUnder_83 (lv_at hl 0 rfl) ?_
      refine lv_iconst (v := 1) hx hb dX8_laysUnder_85 (by decide) ?_
      refine lv_icmp_ge (tgt := 136) hx hb dX8_laysUnder_86 (by decide) (fun c_17 => ?_) (fun c_17 => ?_)
      · have hf := tm_iT c_17 hf
        refine lv_iconst (v := 0) hx hb dX8_laysUnder_136 (by decide) ?_
        refine lv_istore (lv' := [(7, .int 0), (6, .int x_6), (5, .int x_5), (4, .int x_4), (3, .int x_3), (0, .ref (q0 0)), (1, .int p1), (2, .int p2)]) hx hb dX8_laysUnder_137 hl (by decide) rfl (fun ls hl => ?_)
        obtain ⟨t_23, ot_23, hf⟩ := tm_bS hf
        refine wX8_laysUnder_139 l D cI cZ cR N q0 C g0 p1 p2 x_3 x_4 x_5 x_6 _ _ _ ot_23 ?_ _ _ _ hP hD hS (lv_sub hl [5, 6, 7, 4, 3, 2, 1, 0] rfl)
        intro H locs ls hP hD hS hl
        refine lv_aload_n hx hb dX8_laysUnder_167 rfl (lv_at hl 0 rfl) ?_
        refine va_get (D := D) (ci := 8) (v := .ref (q0 1)) (C := RX8) (T := TX8) (N := 18) hx hb hts uX8_laysUnder_X8 hown hK hP 0 rfl rfl 0 (by decide) (hts _ kX8_laysUnder_f7) (fun _ h9 => h9) rfl dX8_laysUnder_168 ?_
        refine lv_iconst (v := 4) hx hb dX8_laysUnder_171 (by decide) ?_
        refine va_iald hx hb hK hP 1 0 rfl rfl (tm_inb_in (by decide)) dX8_laysUnder_172 ?_
        refine lv_if_ne (tgt := 206) hx hb dX8_laysUnder_173 (by decide) (fun c_24 => ?_) (fun c_24 => ?_)
        · have hf := tm_iF c_24 hf
          refine lv_aload_n hx hb dX8_laysUnder_206 rfl (lv_at hl 0 rfl) ?_
          refine va_get (D := D) (ci := 8) (v := .ref (q0 1)) (C := RX8) (T := TX8) (N := 18) hx hb hts uX8_laysUnder_X8 hown hK hP 0 rfl rfl 0 (by decide) (hts _ kX8_laysUnder_f7) (fun _ h9 => h9) rfl dX8_laysUnder_207 ?_
          refine lv_iconst (v := 4) hx hb dX8_laysUnder_210 (by decide) ?_
          refine va_iald hx hb hK hP 1 0 rfl rfl (tm_inb_in (by decide)) dX8_laysUnder_211 ?_
          refine lv_iconst (v := 1) hx hb dX8_laysUnder_212 (by decide) ?_
          refine lv_icmp_ne (tgt := 236) hx hb dX8_laysUnder_213 (by decide) (fun c_25 => ?_) (fun c_25 => ?_)
          · have hf := tm_iF c_25 hf
            refine lv_aload_n hx hb dX8_laysUnder_236 rfl (lv_at hl 0 rfl) ?_
            refine lv_iload_n hx hb dX8_laysUnder_237 rfl (lv_at hl 3 rfl) ?_
            refine lv_iload hx hb dX8_laysUnder_238 (lv_at hl 4 rfl) ?_
            refine lv_iload hx hb dX8_laysUnder_240 (lv_at hl 5 rfl) ?_
            refine lv_iload hx hb dX8_laysUnder_242 (lv_at hl 6 rfl) ?_
            obtain ⟨t_26, ot_26, hf⟩ := tm_bS hf
            refine tm_cVV (As := [.int x_3, .int x_4, .int x_5, .int x_6]) (rest := []) ⟨hx, hb, hml, hown, hts⟩ (tX8_laysSquares l D cI cZ cR N q0 t_23.2 g0 x_3 x_4 x_5 x_6 t_26 ot_26) (cwV 4 hts gX8_laysUnder_X8_laysSquares rfl rfl rfl hdwsV_X8_laysSquares ⟨Nat.le_of_ble_eq_true rfl, Nat.le_of_ble_eq_true rfl⟩) hK hP hD hS hA [0, 1, 2, 3, 4, 5, 6, 7, 8, 9, 10, 11, 12, 13, 14, 15] (by decide) rfl rfl (ci := 8) rfl rfl rfl (fun _ => WX8 cI cZ cR q0 t_26 g0) (()) rfl rfl hl.1 rfl (Nat.le_of_ble_eq_true rfl) dX8_laysUnder_244 ⟨Nat.zero_le _, Nat.zero_le _⟩ (fun _ _ H locs hP hD hS => ?_)
            obtain rfl := Option.some.inj hf
            exact hend _ _ _ _ hP hD hS dX8_laysUnder_247
          · have hf := tm_iT c_25 hf
            refine lv_aload_n hx hb dX8_laysUnder_216 rfl (lv_at hl 0 rfl) ?_
            refine lv_iload_n hx hb dX8_laysUnder_217 rfl (lv_at hl 3 rfl) ?_
            refine lv_iload hx hb dX8_laysUnder_218 (lv_at hl 4 rfl) ?_
            refine lv_iload hx hb dX8_laysUnder_220 (lv_at hl 5 rfl) ?_
            refine lv_iload hx hb dX8_laysUnder_222 (lv_at hl 6 rfl) ?_
            refine lv_aload_n hx hb dX8_laysUnder_224 rfl (lv_at hl 0 rfl) ?_
            refine va_get (D := D) (ci := 8) (v := .ref (q0 11)) (C := RX8) (T := TX8) (N := 18) hx hb hts uX8_laysUnder_X8 hown hK hP 0 rfl rfl 11 (by decide) (hts _ kX8_laysUnder_f41) (fun _ h9 => h9) rfl dX8_laysUnder_225 ?_
            refine lv_iload_n hx hb dX8_laysUnder_228 rfl (lv_at hl 1 rfl) ?_
            obtain ⟨h_27, hf⟩ := tm_gS hf
            refine va_iald hx hb hK hP 11 0 rfl rfl (tm_inb_in h_27) dX8_laysUnder_229 ?_
            obtain ⟨t_28, ot_28, hf⟩ := tm_bS hf
            refine tm_cVV (As := [.int x_3, .int x_4, .int x_5, .int x_6, .int (t_23.2 11 p1.toNatClampNeg)]) (rest := []) ⟨hx, hb, hml, hown, hts⟩ (tX8_laysStrips l D cI cZ cR N q0 t_23.2 g0 x_3 x_4 x_5 x_6 (t_23.2 11 p1.toNatClampNeg) t_28 ot_28) (cwV 5 hts gX8_laysUnder_X8_laysStrips rfl rfl rfl hdwsV_X8_laysStrips ⟨Nat.le_of_ble_eq_true rfl, Nat.le_of_ble_eq_true rfl⟩) hK hP hD hS hA [0, 1, 2, 3, 4, 5, 6, 7, 8, 9, 10, 11, 12, 13, 14, 15] (by decide) rfl rfl (ci := 8) rfl rfl rfl (fun _ => WX8 cI cZ cR q0 t_28 g0) (()) rfl rfl hl.1 rfl (Nat.le_of_ble_eq_true rfl) dX8_laysUnder_230 ⟨Nat.zero_le _, Nat.zero_le _⟩ (fun _ _ H locs hP hD hS => ?_)
            refine lv_goto (tgt := 247) hx hb dX8_laysUnder_233 (by decide) ?_
            obtain rfl := Option.some.inj hf
            exact hend _ _ _ _ hP hD hS dX8_laysUnder_247
        · have hf := tm_iT c_24 hf
          refine lv_aload_n hx hb dX8_laysUnder_176 rfl (lv_at hl 0 rfl) ?_
          refine lv_iconst (v := 0) hx hb dX8_laysUnder_177 (by decide) ?_
          refine lv_aload_n hx hb dX8_laysUnder_178 rfl (lv_at hl 0 rfl) ?_
          refine va_get (D := D) (ci := 8) (v := .int (t_23.2 0 13)) (C := RX8) (T := TX8) (N := 18) hx hb hts uX8_laysUnder_X8 hown hK hP 0 rfl rfl 13 (by decide) (hts _ kX8_laysUnder_f96) (fun _ h9 => h9) rfl dX8_laysUnder_179 ?_
          refine lv_iload_n hx hb dX8_laysUnder_182 rfl (lv_at hl 3 rfl) ?_
          refine lv_iload hx hb dX8_laysUnder_183 (lv_at hl 4 rfl) ?_
          refine lv_iload hx hb dX8_laysUnder_185 (lv_at hl 5 rfl) ?_
          refine lv_iload hx hb dX8_laysUnder_187 (lv_at hl 6 rfl) ?_
          refine lv_iload_n hx hb dX8_laysUnder_189 rfl (lv_at hl 2 rfl) ?_
          refine lv_iconst (v := 2) hx hb dX8_laysUnder_190 (by decide) ?_
          refine lv_irem hx hb dX8_laysUnder_191 (by decide) ?_
          refine lv_if_ne (tgt := 199) hx hb dX8_laysUnder_192 (by decide) (fun c_29 => ?_) (fun c_29 => ?_)
          · have hf := tm_iF c_29 hf
            refine lv_iconst (v := 0) hx hb dX8_laysUnder_199 (by decide) ?_
            obtain ⟨t_30, ot_30, hf⟩ := tm_bS hf
            refine tm_cVV (As := [.int 0, .int (t_23.2 0 13), .int x_3, .int x_4, .int x_5, .int x_6, .int 0]) (rest := []) ⟨hx, hb, hml, hown, hts⟩ (tX8_laysRow l D cI cZ cR N q0 t_23.2 g0 (0 : Int32) (t_23.2 0 13) x_3 x_4 x_5 x_6 (0 : Int32) t_30 ot_30) (cwV 7 hts gX8_laysUnder_X8_laysRow rfl rfl rfl hdwsV_X8_laysRow ⟨Nat.le_of_ble_eq_true rfl, Nat.le_of_ble_eq_true rfl⟩) hK hP hD hS hA [0, 1, 2, 3, 4, 5, 6, 7, 8, 9, 10, 11, 12, 13, 14, 15] (by decide) rfl rfl (ci := 8) rfl rfl rfl (fun _ => WX8 cI cZ cR q0 t_30 g0) (()) rfl rfl hl.1 rfl (Nat.le_of_ble_eq_true rfl) dX8_laysUnder_200 ⟨Nat.zero_le _, Nat.zero_le _⟩ (fun _ _ H locs hP hD hS => ?_)
            refine lv_goto (tgt := 247) hx hb dX8_laysUnder_203 (by decide) ?_
            obtain rfl := Option.some.inj hf
            exact hend _ _ _ _ hP hD hS dX8_laysUnder_247
          · have hf := tm_iT c_29 hf
            refine lv_iconst (v := 1) hx hb dX8_laysUnder_195 (by decide) ?_
            refine lv_goto (tgt := 200) hx hb dX8_laysUnder_196 (by decide) ?_
            obtain ⟨t_31, ot_31, hf⟩ := tm_bS hf
            refine tm_cVV (As := [.int 0, .int (t_23.2 0 13), .int x_3, .int x_4, .int x_5, .int x_6, .int 1]) (rest := []) ⟨hx, hb, hml, hown, hts⟩ (tX8_laysRow l D cI cZ cR N q0 t_23.2 g0 (0 : Int32) (t_23.2 0 13) x_3 x_4 x_5 x_6 (1 : Int32) t_31 ot_31) (cwV 7 hts gX8_laysUnder_X8_laysRow rfl rfl rfl hdwsV_X8_laysRow ⟨Nat.le_of_ble_eq_true rfl, Nat.le_of_ble_eq_true rfl⟩) hK hP hD hS hA [0, 1, 2, 3, 4, 5, 6, 7, 8, 9, 10, 11, 12, 13, 14, 15] (by decide) rfl rfl (ci := 8) rfl rfl rfl (fun _ => WX8 cI cZ cR q0 t_31 g0) (()) rfl rfl hl.1 rfl (Nat.le_of_ble_eq_true rfl) dX8_laysUnder_200 ⟨Nat.zero_le _, Nat.zero_le _⟩ (fun _ _ H locs hP hD hS => ?_)
            refine lv_goto (tgt := 247) hx hb dX8_laysUnder_203 (by decide) ?_
            obtain rfl := Option.some.inj hf
            exact hend _ _ _ _ hP hD hS dX8_laysUnder_247
      · have hf := tm_iF c_17 hf
        refine lv_iconst (v := 0) hx hb dX8_laysUnder_89 (by decide) ?_
        refine lv_istore (lv' := [(7, .int 0), (6, .int x_6), (5, .int x_5), (4, .int x_4), (3, .int x_3), (0, .ref (q0 0)), (1, .int p1), (2, .int p2)]) hx hb dX8_laysUnder_90 hl (by decide) rfl (fun ls hl => ?_)
        obtain ⟨t_32, ot_32, hf⟩ := tm_bS hf
        refine wX8_laysUnder_92 l D cI cZ cR N q0 C g0 _ _ _ ot_32 ?_ _ _ _ hP hD hS (lv_sub hl [5, 0] rfl)
        intro H locs ls hP hD hS hl
        obtain rfl := Option.some.inj hf
        exact hend _ _ _ _ hP hD hS dX8_laysUnder_135
set_option maxHeartbeats 4000000 in
set_option maxRecDepth 100000 in
theorem wX8_lays_2 (l : Launch) (D : va_G) (cI cZ cR : ClassId) (N : Nat) (q0 : Nat → Nat) {p : Program} {e : Env} {s : State} {m : MethodId} {args : Array Value} {below : List Frame} {meth : Method} {c : Code} {A : Nat → Prop} {H0 : Heap} {Q : State → Prop} (C : tm_Cx p s m c args cX8_lays 3 RX8 wsX8_lays D (tm_ty cI cZ cR) A H0) (g0 : Int64) : ∀ (n : Nat) (st : Int32 × tm_M) (o : (Int32 × tm_M)), tm_whl (bX8_lays_2 N g0) n st = some o → (fun (o : Int32 × tm_M) => ∀ (H : Heap) (locs : List Loc) (ls : Array Slot), va_P D vwCl (WX8 cI cZ cR q0 o.2 g0) H → va_D A (WX8 cI cZ cR q0 o.2 g0) → va_S A H0 H locs → lv_has ls 3 [(0, .ref (q0 0))] → W p l e rmX8_lays s m args below meth c H locs 0 0 Q (F0 m 29 ls [])) o → (fun (st : Int32 × tm_M) => ∀ (H : Heap) (locs : List Loc) (ls : Array Slot), va_P D vwCl (WX8 cI cZ cR q0 st.2 g0) H → va_D A (WX8 cI cZ cR q0 st.2 g0) → va_S A H0 H locs → lv_has ls 3 [(0, .ref (q0 0)), (1, .int st.1)] → W p l e rmX8_lays s m args below meth c H locs 0 0 Q (F0 m 2 ls [])) st := by
  obtain ⟨hx, hb, hml, hown, hts, hK, hA⟩ := id C
  refine tm_whl_W (Wh := fun (st : Int32 × tm_M) => ∀ (H : Heap) (locs : List Loc) (ls : Array Slot), va_P D vwCl (WX8 cI cZ cR q0 st.2 g0) H → va_D A (WX8 cI cZ cR q0 st.2 g0) → va_S A H0 H locs → lv_has ls 3 [(0, .ref (q0 0)), (1, .int st.1)] → W p l e rmX8_lays s m args below meth c H locs 0 0 Q (F0 m 2 ls [])) (Wx := fun (o : Int32 × tm_M) => ∀ (H : Heap) (locs : List Loc) (ls : Array Slot), va_P D vwCl (WX8 cI cZ cR q0 o.2 g0) H → va_D A (WX8 cI cZ cR q0 o.2 g0) → va_S A H0 H locs → lv_has ls 3 [(0, .ref (q0 0))] → W p l e rmX8_lays s m args below meth c H locs 0 0 Q (F0 m 29 ls [])) ?_
  intro st r hf hk H locs ls hP hD hS hl
  unfold bX8_lays_2 at hf
  refine lv_iload_n hx hb dX8_lays_2 rfl (lv_at hl 1 rfl) ?_
  refine lv_aload_n hx hb dX8_lays_3 rfl (lv_at hl 0 rfl) ?_
  refine va_get (D := D) (ci := 8) (v := .ref (q0 1)) (C := RX8) (T := TX8) (N := 18) hx hb hts uX8_lays_X8 hown hK hP 0 rfl rfl 0 (by decide) (hts _ kX8_lays_f7) (fun _ h9 => h9) rfl dX8_lays_4 ?_
  refine lv_iconst (v := 0) hx hb dX8_lays_7 (by decide) ?_
  refine va_iald hx hb hK hP 1 0 rfl rfl (tm_inb_in (by decide)) dX8_lays_8 ?_
  refine lv_icmp_ge (tgt := 29) hx hb dX8_lays_9 (by decide) (fun c_1 => ?_) (fun c_1 => ?_)
  · have hf := tm_iT c_1 hf
    obtain rfl := Option.some.inj hf
    exact hk _ _ _ hP hD hS (lv_sub hl [0] rfl)
  · have hf := tm_iF c_1 hf
    refine lv_aload_n hx hb dX8_lays_12 rfl (lv_at hl 0 rfl) ?_
    refine va_get (D := D) (ci := 8) (v := .ref (q0 11)) (C := RX8) (T := TX8) (N := 18) hx hb hts uX8_lays_X8 hown hK hP 0 rfl rfl 11 (by decide) (hts _ kX8_lays_f41) (fun _ h9 => h9) rfl dX8_lays_13 ?_
    refine lv_iload_n hx hb dX8_lays_16 rfl (lv_at hl 1 rfl) ?_
    refine lv_aload_n hx hb dX8_lays_17 rfl (lv_at hl 0 rfl) ?_
    refine lv_iload_n hx hb dX8_lays_18 rfl (lv_at hl 1 rfl) ?_
    obtain ⟨t_2, ot_2, hf⟩ := tm_bS hf
    refine tm_cVI (As := [.int st.1]) (rest := [.int st.1, .ref (q0 11)]) ⟨hx, hb, hml, hown, hts⟩ (tX8_sizeOf l D cI cZ cR N q0 st.2 g0 st.1 t_2 ot_2) (cwV 1 hts gX8_lays_X8_sizeOf rfl rfl rfl hdwsV_X8_sizeOf ⟨Nat.le_of_ble_eq_true rfl, Nat.le_of_ble_eq_true rfl⟩) hK hP hD hS hA [0, 1, 2, 3, 4, 5, 6, 7, 8, 9, 10, 11, 12, 13, 14, 15] (by decide) rfl rfl (ci := 8) rfl rfl rfl (fun _ => WX8 cI cZ cR q0 st.2 g0) (()) rfl rfl hl.1 rfl (Nat.le_of_ble_eq_true rfl) dX8_lays_19 ⟨Nat.zero_le _, Nat.zero_le _⟩ (fun _ _ H locs hP hD hS => ?_)
    obtain ⟨h_3, hf⟩ := tm_gS hf
    refine tm_iast hx hb hK hP hD hS 11 0 rfl rfl (tm_inb_in h_3) dX8_lays_22 (fun z => WX8 cI cZ cR q0 z g0) (tm_upc st.2 11 (upd (st.2 11) st.1.toNatClampNeg t_2)) rfl (fun d0_4 ed0_4 H locs hP hD hS => ?_)
    have hf := tm_at ed0_4 hf
    obtain ⟨x_5, ex_5⟩ : ∃ y : Int32, y = st.1 + 1 := ⟨_, rfl⟩
    have hf := tm_at ex_5 hf
    refine lv_iinc (v := x_5) (lv' := [(1, .int x_5), (0, .ref (q0 0))]) hx hb dX8_lays_23 hl (k := 1) rfl (by rw [ex_5]; rfl) (by decide) rfl (fun ls hl => ?_)
    refine lv_goto (tgt := 2) hx hb dX8_lays_26 (by decide) ?_
    obtain rfl := Option.some.inj hf
    exact hk _ _ _ hP hD hS (lv_sub hl [1, 0] rfl)
set_option maxHeartbeats 4000000 in
set_option maxRecDepth 100000 in
theorem wX8_lays_65 (l : Launch) (D : va_G) (cI cZ cR : ClassId) (N : Nat) (q0 : Nat → Nat) {p : Program} {e : Env} {s : State} {m : MethodId} {args : Array Value} {below : List Frame} {meth : Method} {c : Code} {A : Nat → Prop} {H0 : Heap} {Q : State → Prop} (C : tm_Cx p s m c args cX8_lays 3 RX8 wsX8_lays D (tm_ty cI cZ cR) A H0) (g0 : Int64) (v1 : Int32) : ∀ (n : Nat) (st : Int32 × tm_M) (o : (Int32 × tm_M)), tm_whl (bX8_lays_65 N g0 v1) n st = some o → (fun (o : Int32 × tm_M) => ∀ (H : Heap) (locs : List Loc) (ls : Array Slot), va_P D vwCl (WX8 cI cZ cR q0 o.2 g0) H → va_D A (WX8 cI cZ cR q0 o.2 g0) → va_S A H0 H locs → lv_has ls 3 [(0, .ref (q0 0)), (1, .int v1)] → W p l e rmX8_lays s m args below meth c H locs 0 0 Q (F0 m 104 ls [])) o → (fun (st : Int32 × tm_M) => ∀ (H : Heap) (locs : List Loc) (ls : Array Slot), va_P D vwCl (WX8 cI cZ cR q0 st.2 g0) H → va_D A (WX8 cI cZ cR q0 st.2 g0) → va_S A H0 H locs → lv_has ls 3 [(0, .ref (q0 0)), (1, .int v1), (2, .int st.1)] → W p l e rmX8_lays s m args below meth c H locs 0 0 Q (F0 m 65 ls [])) st := by
  obtain ⟨hx, hb, hml, hown, hts, hK, hA⟩ := id C
  refine tm_whl_W (Wh := fun (st : Int32 × tm_M) => ∀ (H : Heap) (locs : List Loc) (ls : Array Slot), va_P D vwCl (WX8 cI cZ cR q0 st.2 g0) H → va_D A (WX8 cI cZ cR q0 st.2 g0) → va_S A H0 H locs → lv_has ls 3 [(0, .ref (q0 0)), (1, .int v1), (2, .int st.1)] → W p l e rmX8_lays s m args below meth c H locs 0 0 Q (F0 m 65 ls [])) (Wx := fun (o : Int32 × tm_M) => ∀ (H : Heap) (locs : List Loc) (ls : Array Slot), va_P D vwCl (WX8 cI cZ cR q0 o.2 g0) H → va_D A (WX8 cI cZ cR q0 o.2 g0) → va_S A H0 H locs → lv_has ls 3 [(0, .ref (q0 0)), (1, .int v1)] → W p l e rmX8_lays s m args below meth c H locs 0 0 Q (F0 m 104 ls [])) ?_
  intro st r hf hk H locs ls hP hD hS hl
  unfold bX8_lays_65 at hf
  refine lv_iload_n hx hb dX8_lays_65 rfl (lv_at hl 2 rfl) ?_
  refine lv_aload_n hx hb dX8_lays_66 rfl (lv_at hl 0 rfl) ?_
  refine va_get (D := D) (ci := 8) (v := .ref (q0 1)) (C := RX8) (T := TX8) (N := 18) hx hb hts uX8_lays_X8 hown hK hP 0 rfl rfl 0 (by decide) (hts _ kX8_lays_f7) (fun _ h9 => h9) rfl dX8_lays_67 ?_
  refine lv_iconst (v := 0) hx hb dX8_lays_70 (by decide) ?_
  refine va_iald hx hb hK hP 1 0 rfl rfl (tm_inb_in (by decide)) dX8_lays_71 ?_
  refine lv_icmp_ge (tgt := 104) hx hb dX8_lays_72 (by decide) (fun c_10 => ?_) (fun c_10 => ?_)
  · have hf := tm_iT c_10 hf
    obtain rfl := Option.some.inj hf
    exact hk _ _ _ hP hD hS (lv_sub hl [0, 1] rfl)
  · have hf := tm_iF c_10 hf
    refine lv_aload_n hx hb dX8_lays_75 rfl (lv_at hl 0 rfl) ?_
    refine lv_iload_n hx hb dX8_lays_76 rfl (lv_at hl 2 rfl) ?_
    obtain ⟨t_11, ot_11, hf⟩ := tm_bS hf
    refine tm_cVI (As := [.int st.1]) (rest := []) ⟨hx, hb, hml, hown, hts⟩ (tX8_depthOf l D cI cZ cR N q0 st.2 g0 st.1 t_11 ot_11) (cwV 1 hts gX8_lays_X8_depthOf rfl rfl rfl hdwsV_X8_depthOf ⟨Nat.le_of_ble_eq_true rfl, Nat.le_of_ble_eq_true rfl⟩) hK hP hD hS hA [0, 1, 2, 3, 4, 5, 6, 7, 8, 9, 10, 11, 12, 13, 14, 15] (by decide) rfl rfl (ci := 8) rfl rfl rfl (fun _ => WX8 cI cZ cR q0 st.2 g0) (()) rfl rfl hl.1 rfl (Nat.le_of_ble_eq_true rfl) dX8_lays_77 ⟨Nat.zero_le _, Nat.zero_le _⟩ (fun _ _ H locs hP hD hS => ?_)
    refine lv_iload_n hx hb dX8_lays_80 rfl (lv_at hl 1 rfl) ?_
    refine lv_icmp_ne (tgt := 98) hx hb dX8_lays_81 (by decide) (fun c_12 => ?_) (fun c_12 => ?_)
    · have hf := tm_iF c_12 hf
      obtain ⟨x_13, ex_13⟩ : ∃ y : Int32, y = st.1 + 1 := ⟨_, rfl⟩
      have hf := tm_at ex_13 hf
      refine lv_iinc (v := x_13) (lv' := [(2, .int x_13), (0, .ref (q0 0)), (1, .int v1)]) hx hb dX8_lays_98 hl (k := 2) rfl (by rw [ex_13]; rfl) (by decide) rfl (fun ls hl => ?_)
      refine lv_goto (tgt := 65) hx hb dX8_lays_101 (by decide) ?_
      obtain rfl := Option.some.inj hf
      exact hk _ _ _ hP hD hS (lv_sub hl [1, 2, 0] rfl)
    · have hf := tm_iT c_12 hf
      refine lv_aload_n hx hb dX8_lays_84 rfl (lv_at hl 0 rfl) ?_
      refine lv_iload_n hx hb dX8_lays_85 rfl (lv_at hl 2 rfl) ?_
      obtain ⟨t_14, ot_14, hf⟩ := tm_bS hf
      refine tm_cVI (As := [.int st.1]) (rest := []) ⟨hx, hb, hml, hown, hts⟩ (tX8_childMany l D cI cZ cR N q0 st.2 g0 st.1 t_14 ot_14) (cwV 1 hts gX8_lays_X8_childMany rfl rfl rfl hdwsV_X8_childMany ⟨Nat.le_of_ble_eq_true rfl, Nat.le_of_ble_eq_true rfl⟩) hK hP hD hS hA [0, 1, 2, 3, 4, 5, 6, 7, 8, 9, 10, 11, 12, 13, 14, 15] (by decide) rfl rfl (ci := 8) rfl rfl rfl (fun _ => WX8 cI cZ cR q0 st.2 g0) (()) rfl rfl hl.1 rfl (Nat.le_of_ble_eq_true rfl) dX8_lays_86 ⟨Nat.zero_le _, Nat.zero_le _⟩ (fun _ _ H locs hP hD hS => ?_)
      refine lv_if_le (tgt := 98) hx hb dX8_lays_89 (by decide) (fun c_15 => ?_) (fun c_15 => ?_)
      · have hf := tm_iT c_15 hf
        obtain ⟨x_16, ex_16⟩ : ∃ y : Int32, y = st.1 + 1 := ⟨_, rfl⟩
        have hf := tm_at ex_16 hf
        refine lv_iinc (v := x_16) (lv' := [(2, .int x_16), (0, .ref (q0 0)), (1, .int v1)]) hx hb dX8_lays_98 hl (k := 2) rfl (by rw [ex_16]; rfl) (by decide) rfl (fun ls hl => ?_)
        refine lv_goto (tgt := 65) hx hb dX8_lays_101 (by decide) ?_
        obtain rfl := Option.some.inj hf
        exact hk _ _ _ hP hD hS (lv_sub hl [1, 2, 0] rfl)
      · have hf := tm_iF c_15 hf
        refine lv_aload_n hx hb dX8_lays_92 rfl (lv_at hl 0 rfl) ?_
        refine lv_iload_n hx hb dX8_lays_93 rfl (lv_at hl 2 rfl) ?_
        refine lv_iload_n hx hb dX8_lays_94 rfl (lv_at hl 1 rfl) ?_
        obtain ⟨t_17, ot_17, hf⟩ := tm_bS hf
        refine tm_cVV (As := [.int st.1, .int v1]) (rest := []) ⟨hx, hb, hml, hown, hts⟩ (tX8_laysUnder l D cI cZ cR N q0 st.2 g0 st.1 v1 t_17 ot_17) (cwV 2 hts gX8_lays_X8_laysUnder rfl rfl rfl hdwsV_X8_laysUnder ⟨Nat.le_of_ble_eq_true rfl, Nat.le_of_ble_eq_true rfl⟩) hK hP hD hS hA [0, 1, 2, 3, 4, 5, 6, 7, 8, 9, 10, 11, 12, 13, 14, 15] (by decide) rfl rfl (ci := 8) rfl rfl rfl (fun _ => WX8 cI cZ cR q0 t_17 g0) (()) rfl rfl hl.1 rfl (Nat.le_of_ble_eq_true rfl) dX8_lays_95 ⟨Nat.zero_le _, Nat.zero_le _⟩ (fun _ _ H locs hP hD hS => ?_)
        obtain ⟨x_18, ex_18⟩ : ∃ y : Int32, y = st.1 + 1 := ⟨_, rfl⟩
        have hf := tm_at ex_18 hf
        refine lv_iinc (v := x_18) (lv' := [(2, .int x_18), (0, .ref (q0 0)), (1, .int v1)]) hx hb dX8_lays_98 hl (k := 2) rfl (by rw [ex_18]; rfl) (by decide) rfl (fun ls hl => ?_)
        refine lv_goto (tgt := 65) hx hb dX8_lays_101 (by decide) ?_
        obtain rfl := Option.some.inj hf
        exact hk _ _ _ hP hD hS (lv_sub hl [1, 2, 0] rfl)
set_option maxHeartbeats 4000000 in
set_option maxRecDepth 100000 in
theorem wX8_lays_57 (l : Launch) (D : va_G) (cI cZ cR : ClassId) (N : Nat) (q0 : Nat → Nat) {p : Program} {e : Env} {s : State} {m : MethodId} {args : Array Value} {below : List Frame} {meth : Method} {c : Code} {A : Nat → Prop} {H0 : Heap} {Q : State → Prop} (C : tm_Cx p s m c args cX8_lays 3 RX8 wsX8_lays D (tm_ty cI cZ cR) A H0) (g0 : Int64) : ∀ (n : Nat) (st : Int32 × tm_M) (o : (Int32 × tm_M)), tm_whl (bX8_lays_57 N g0) n st = some o → (fun (o : Int32 × tm_M) => ∀ (H : Heap) (locs : List Loc) (ls : Array Slot), va_P D vwCl (WX8 cI cZ cR q0 o.2 g0) H → va_D A (WX8 cI cZ cR q0 o.2 g0) → va_S A H0 H locs → lv_has ls 3 [] → W p l e rmX8_lays s m args below meth c H locs 0 0 Q (F0 m 110 ls [])) o → (fun (st : Int32 × tm_M) => ∀ (H : Heap) (locs : List Loc) (ls : Array Slot), va_P D vwCl (WX8 cI cZ cR q0 st.2 g0) H → va_D A (WX8 cI cZ cR q0 st.2 g0) → va_S A H0 H locs → lv_has ls 3 [(0, .ref (q0 0)), (1, .int st.1)] → W p l e rmX8_lays s m args below meth c H locs 0 0 Q (F0 m 57 ls [])) st := by
  obtain ⟨hx, hb, hml, hown, hts, hK, hA⟩ := id C
  refine tm_whl_W (Wh := fun (st : Int32 × tm_M) => ∀ (H : Heap) (locs : List Loc) (ls : Array Slot), va_P D vwCl (WX8 cI cZ cR q0 st.2 g0) H → va_D A (WX8 cI cZ cR q0 st.2 g0) → va_S A H0 H locs → lv_has ls 3 [(0, .ref (q0 0)), (1, .int st.1)] → W p l e rmX8_lays s m args below meth c H locs 0 0 Q (F0 m 57 ls [])) (Wx := fun (o : Int32 × tm_M) => ∀ (H : Heap) (locs : List Loc) (ls : Array Slot), va_P D vwCl (WX8 cI cZ cR q0 o.2 g0) H → va_D A (WX8 cI cZ cR q0 o.2 g0) → va_S A H0 H locs → lv_has ls 3 [] → W p l e rmX8_lays s m args below meth c H locs 0 0 Q (F0 m 110 ls [])) ?_
  intro st r hf hk H locs ls hP hD hS hl
  unfold bX8_lays_57 at hf
  refine lv_iload_n hx hb dX8_lays_57 rfl (lv_at hl 1 rfl) ?_
  refine lv_bipush (v := 24) hx hb dX8_lays_58 (by decide) ?_
  refine lv_icmp_ge (tgt := 110) hx hb dX8_lays_60 (by decide) (fun c_9 => ?_) (fun c_9 => ?_)
  · have hf := tm_iT c_9 hf
    obtain rfl := Option.some.inj hf
    exact hk _ _ _ hP hD hS (lv_sub hl [] rfl)
  · have hf := tm_iF c_9 hf
    refine lv_iconst (v := 0) hx hb dX8_lays_63 (by decide) ?_
    refine lv_istore_n (lv' := [(2, .int 0), (0, .ref (q0 0)), (1, .int st.1)]) hx hb dX8_lays_64 rfl hl (by decide) rfl (fun ls hl => ?_)
    obtain ⟨t_19, ot_19, hf⟩ := tm_bS hf
    refine wX8_lays_65 l D cI cZ cR N q0 C g0 st.1 _ _ _ ot_19 ?_ _ _ _ hP hD hS (lv_sub hl [1, 2, 0] rfl)
    intro H locs ls hP hD hS hl
    obtain ⟨x_20, ex_20⟩ : ∃ y : Int32, y = st.1 + 1 := ⟨_, rfl⟩
    have hf := tm_at ex_20 hf
    refine lv_iinc (v := x_20) (lv' := [(1, .int x_20), (0, .ref (q0 0))]) hx hb dX8_lays_104 hl (k := 1) rfl (by rw [ex_20]; rfl) (by decide) rfl (fun ls hl => ?_)
    refine lv_goto (tgt := 57) hx hb dX8_lays_107 (by decide) ?_
    obtain rfl := Option.some.inj hf
    exact hk _ _ _ hP hD hS (lv_sub hl [1, 0] rfl)
set_option maxHeartbeats 4000000 in
set_option maxRecDepth 100000 in
theorem tX8_lays (l : Launch) (D : va_G) (cI cZ cR : ClassId) (N : Nat) (q0 : Nat → Nat) (d0 : tm_M) (g0 : Int64) (z0 : tm_M) (hf : fX8_lays N d0 g0 = some z0) : tm_CV l D (tm_ty cI cZ cR) yX8_lays wsX8_lays rmX8_lays [.ref (q0 0)] (WX8 cI cZ cR q0 d0 g0) (WX8 cI cZ cR q0 z0 g0) := by
  refine tm_mkV (cc := cX8_lays) (maxL := 3) (by decide) rfl (Nat.le_of_ble_eq_true rfl) ?_
  intro p e s m below meth c A ls Q C hP hD hS hl hend
  have C : tm_Cx p s m c [.ref (q0 0)].toArray cX8_lays 3 RX8 wsX8_lays D (tm_ty cI cZ cR) A s.heap := C
  obtain ⟨hx, hb, hml, hown, hts, hK, hA⟩ := id C
  have hl : lv_has ls 3 [(0, .ref (q0 0))] := hl
  unfold fX8_lays at hf
  refine lv_iconst (v := 0) hx hb dX8_lays_0 (by decide) ?_
  refine lv_istore_n (lv' := [(1, .int 0), (0, .ref (q0 0))]) hx hb dX8_lays_1 rfl hl (by decide) rfl (fun ls hl => ?_)
  obtain ⟨t_6, ot_6, hf⟩ := tm_bS hf
  refine wX8_lays_2 l D cI cZ cR N q0 C g0 _ _ _ ot_6 ?_ _ _ _ hP hD hS (lv_sub hl [1, 0] rfl)
  intro H locs ls hP hD hS hl
  refine lv_aload_n hx hb dX8_lays_29 rfl (lv_at hl 0 rfl) ?_
  refine lv_iconst (v := 0) hx hb dX8_lays_30 (by decide) ?_
  refine lv_iconst (v := 0) hx hb dX8_lays_31 (by decide) ?_
  refine lv_iconst (v := 0) hx hb dX8_lays_32 (by decide) ?_
  refine lv_aload_n hx hb dX8_lays_33 rfl (lv_at hl 0 rfl) ?_
  refine va_get (D := D) (ci := 8) (v := .ref (q0 1)) (C := RX8) (T := TX8) (N := 18) hx hb hts uX8_lays_X8 hown hK hP 0 rfl rfl 0 (by decide) (hts _ kX8_lays_f7) (fun _ h9 => h9) rfl dX8_lays_34 ?_
  refine lv_iconst (v := 1) hx hb dX8_lays_37 (by decide) ?_
  refine va_iald hx hb hK hP 1 0 rfl rfl (tm_inb_in (by decide)) dX8_lays_38 ?_
  refine lv_aload_n hx hb dX8_lays_39 rfl (lv_at hl 0 rfl) ?_
  refine va_get (D := D) (ci := 8) (v := .ref (q0 1)) (C := RX8) (T := TX8) (N := 18) hx hb hts uX8_lays_X8 hown hK hP 0 rfl rfl 0 (by decide) (hts _ kX8_lays_f7) (fun _ h9 => h9) rfl dX8_lays_40 ?_
  refine lv_iconst (v := 2) hx hb dX8_lays_43 (by decide) ?_
  refine va_iald hx hb hK hP 1 0 rfl rfl (tm_inb_in (by decide)) dX8_lays_44 ?_
  obtain ⟨t_7, ot_7, hf⟩ := tm_bS hf
  refine tm_cVV (As := [.int 0, .int 0, .int 0, .int (t_6.2 1 (1 : Int32).toNatClampNeg), .int (t_6.2 1 (2 : Int32).toNatClampNeg)]) (rest := []) ⟨hx, hb, hml, hown, hts⟩ (tX8_puts l D cI cZ cR N q0 t_6.2 g0 (0 : Int32) (0 : Int32) (0 : Int32) (t_6.2 1 (1 : Int32).toNatClampNeg) (t_6.2 1 (2 : Int32).toNatClampNeg) t_7 ot_7) (cwV 5 hts gX8_lays_X8_puts rfl rfl rfl hdwsV_X8_puts ⟨Nat.le_of_ble_eq_true rfl, Nat.le_of_ble_eq_true rfl⟩) hK hP hD hS hA [0, 1, 2, 3, 4, 5, 6, 7, 8, 9, 10, 11, 12, 13, 14, 15] (by decide) rfl rfl (ci := 8) rfl rfl rfl (fun _ => WX8 cI cZ cR q0 t_7 g0) (()) rfl rfl hl.1 rfl (Nat.le_of_ble_eq_true rfl) dX8_lays_45 ⟨Nat.zero_le _, Nat.zero_le _⟩ (fun _ _ H locs hP hD hS => ?_)
  refine lv_aload_n hx hb dX8_lays_48 rfl (lv_at hl 0 rfl) ?_
  refine va_get (D := D) (ci := 8) (v := .ref (q0 10)) (C := RX8) (T := TX8) (N := 18) hx hb hts uX8_lays_X8 hown hK hP 0 rfl rfl 10 (by decide) (hts _ kX8_lays_f37) (fun _ h9 => h9) rfl dX8_lays_49 ?_
  refine lv_iconst (v := 0) hx hb dX8_lays_52 (by decide) ?_
  refine lv_iconst (v := 0) hx hb dX8_lays_53 (by decide) ?_
  refine tm_zast hx hb hK hP hD hS 10 1 rfl rfl (tm_inb_in (by decide)) dX8_lays_54 (fun z => WX8 cI cZ cR q0 z g0) (tm_upc t_7 10 (upd (t_7 10) (0 : Int32).toNatClampNeg (vp_nar .boolean 0))) rfl (fun d0_8 ed0_8 H locs hP hD hS => ?_)
  have hf := tm_at ed0_8 hf
  refine lv_iconst (v := 0) hx hb dX8_lays_55 (by decide) ?_
  refine lv_istore_n (lv' := [(1, .int 0), (0, .ref (q0 0))]) hx hb dX8_lays_56 rfl hl (by decide) rfl (fun ls hl => ?_)
  obtain ⟨t_21, ot_21, hf⟩ := tm_bS hf
  refine wX8_lays_57 l D cI cZ cR N q0 C g0 _ _ _ ot_21 ?_ _ _ _ hP hD hS (lv_sub hl [1, 0] rfl)
  intro H locs ls hP hD hS hl
  obtain rfl := Option.some.inj hf
  exact hend _ _ _ _ hP hD hS dX8_lays_110
set_option maxHeartbeats 4000000 in
set_option maxRecDepth 100000 in
theorem tX8_x (l : Launch) (D : va_G) (cI cZ cR : ClassId) (N : Nat) (q0 : Nat → Nat) (d0 : tm_M) (g0 : Int64) (p1 : Int32) (r0 : Int32) (z0 : tm_M) (hf : fX8_x N d0 g0 p1 = some (r0, z0)) : tm_CI l D (tm_ty cI cZ cR) yX8_x wsX8_x rmX8_x [.ref (q0 0), .int p1] (WX8 cI cZ cR q0 d0 g0) r0 (WX8 cI cZ cR q0 z0 g0) := by
  refine tm_mkI (cc := cX8_x) (maxL := 2) (ty := .int) (by decide) rfl (Nat.le_of_ble_eq_true rfl) ?_
  intro p e s m below meth c A ls Q C hP hD hS hl hend
  have C : tm_Cx p s m c [.ref (q0 0), .int p1].toArray cX8_x 2 RX8 wsX8_x D (tm_ty cI cZ cR) A s.heap := C
  obtain ⟨hx, hb, hml, hown, hts, hK, hA⟩ := id C
  have hl : lv_has ls 2 [(0, .ref (q0 0)), (1, .int p1)] := hl
  unfold fX8_x at hf
  refine lv_aload_n hx hb dX8_x_0 rfl (lv_at hl 0 rfl) ?_
  obtain ⟨t_1, ot_1, hf⟩ := tm_bS hf
  refine tm_cVV (As := []) (rest := []) ⟨hx, hb, hml, hown, hts⟩ (tX8_lays l D cI cZ cR N q0 d0 g0 t_1 ot_1) (cwV 0 hts gX8_x_X8_lays rfl rfl rfl hdwsV_X8_lays ⟨Nat.le_of_ble_eq_true rfl, Nat.le_of_ble_eq_true rfl⟩) hK hP hD hS hA [0, 1, 2, 3, 4, 5, 6, 7, 8, 9, 10, 11, 12, 13, 14, 15] (by decide) rfl rfl (ci := 8) rfl rfl rfl (fun _ => WX8 cI cZ cR q0 t_1 g0) (()) rfl rfl hl.1 rfl (Nat.le_of_ble_eq_true rfl) dX8_x_1 ⟨Nat.zero_le _, Nat.zero_le _⟩ (fun _ _ H locs hP hD hS => ?_)
  refine lv_aload_n hx hb dX8_x_4 rfl (lv_at hl 0 rfl) ?_
  refine lv_iload_n hx hb dX8_x_5 rfl (lv_at hl 1 rfl) ?_
  obtain ⟨t_2, ot_2, hf⟩ := tm_bS hf
  refine tm_cVI (As := [.int p1]) (rest := []) ⟨hx, hb, hml, hown, hts⟩ (tX8_isNode l D cI cZ cR N q0 t_1 g0 p1 t_2 ot_2) (cwV 1 hts gX8_x_X8_isNode rfl rfl rfl hdwsV_X8_isNode ⟨Nat.le_of_ble_eq_true rfl, Nat.le_of_ble_eq_true rfl⟩) hK hP hD hS hA [0, 1, 2, 3, 4, 5, 6, 7, 8, 9, 10, 11, 12, 13, 14, 15] (by decide) rfl rfl (ci := 8) rfl rfl rfl (fun _ => WX8 cI cZ cR q0 t_1 g0) (()) rfl rfl hl.1 rfl (Nat.le_of_ble_eq_true rfl) dX8_x_6 ⟨Nat.zero_le _, Nat.zero_le _⟩ (fun _ _ H locs hP hD hS => ?_)
  refine lv_if_eq (tgt := 21) hx hb dX8_x_9 (by decide) (fun c_3 => ?_) (fun c_3 => ?_)
  · have hf := tm_iT c_3 hf
    refine lv_aload_n hx hb dX8_x_21 rfl (lv_at hl 0 rfl) ?_
    refine lv_bipush (v := (-2)) hx hb dX8_x_22 (by decide) ?_
    obtain ⟨t_4, ot_4, hf⟩ := tm_bS hf
    refine tm_cVI (As := [.int ((-2))]) (rest := []) ⟨hx, hb, hml, hown, hts⟩ (tX8_fails l D cI cZ cR N q0 t_1 g0 ((-2) : Int32) t_4.1 t_4.2 ot_4) (cwV 1 hts gX8_x_X8_fails rfl rfl rfl hdwsV_X8_fails ⟨Nat.le_of_ble_eq_true rfl, Nat.le_of_ble_eq_true rfl⟩) hK hP hD hS hA [0, 1, 2, 3, 4, 5, 6, 7, 8, 9, 10, 11, 12, 13, 14, 15] (by decide) rfl rfl (ci := 8) rfl rfl rfl (fun _ => WX8 cI cZ cR q0 t_4.2 g0) (()) rfl rfl hl.1 rfl (Nat.le_of_ble_eq_true rfl) dX8_x_24 ⟨Nat.zero_le _, Nat.zero_le _⟩ (fun _ _ H locs hP hD hS => ?_)
    simp only [Option.some.injEq, Prod.mk.injEq] at hf
    obtain ⟨rfl, rfl⟩ := hf
    exact hend _ _ _ _ hP hD hS rfl dX8_x_27
  · have hf := tm_iF c_3 hf
    refine lv_aload_n hx hb dX8_x_12 rfl (lv_at hl 0 rfl) ?_
    refine va_get (D := D) (ci := 8) (v := .ref (q0 6)) (C := RX8) (T := TX8) (N := 18) hx hb hts uX8_x_X8 hown hK hP 0 rfl rfl 6 (by decide) (hts _ kX8_x_f25) (fun _ h9 => h9) rfl dX8_x_13 ?_
    refine lv_iload_n hx hb dX8_x_16 rfl (lv_at hl 1 rfl) ?_
    obtain ⟨h_5, hf⟩ := tm_gS hf
    refine va_iald hx hb hK hP 6 0 rfl rfl (tm_inb_in h_5) dX8_x_17 ?_
    refine lv_goto (tgt := 27) hx hb dX8_x_18 (by decide) ?_
    simp only [Option.some.injEq, Prod.mk.injEq] at hf
    obtain ⟨rfl, rfl⟩ := hf
    exact hend _ _ _ _ hP hD hS rfl dX8_x_27
set_option maxHeartbeats 4000000 in
set_option maxRecDepth 100000 in
theorem tX8_y (l : Launch) (D : va_G) (cI cZ cR : ClassId) (N : Nat) (q0 : Nat → Nat) (d0 : tm_M) (g0 : Int64) (p1 : Int32) (r0 : Int32) (z0 : tm_M) (hf : fX8_y N d0 g0 p1 = some (r0, z0)) : tm_CI l D (tm_ty cI cZ cR) yX8_y wsX8_y rmX8_y [.ref (q0 0), .int p1] (WX8 cI cZ cR q0 d0 g0) r0 (WX8 cI cZ cR q0 z0 g0) := by
  refine tm_mkI (cc := cX8_y) (maxL := 2) (ty := .int) (by decide) rfl (Nat.le_of_ble_eq_true rfl) ?_
  intro p e s m below meth c A ls Q C hP hD hS hl hend
  have C : tm_Cx p s m c [.ref (q0 0), .int p1].toArray cX8_y 2 RX8 wsX8_y D (tm_ty cI cZ cR) A s.heap := C
  obtain ⟨hx, hb, hml, hown, hts, hK, hA⟩ := id C
  have hl : lv_has ls 2 [(0, .ref (q0 0)), (1, .int p1)] := hl
  unfold fX8_y at hf
  refine lv_aload_n hx hb dX8_y_0 rfl (lv_at hl 0 rfl) ?_
  obtain ⟨t_1, ot_1, hf⟩ := tm_bS hf
  refine tm_cVV (As := []) (rest := []) ⟨hx, hb, hml, hown, hts⟩ (tX8_lays l D cI cZ cR N q0 d0 g0 t_1 ot_1) (cwV 0 hts gX8_y_X8_lays rfl rfl rfl hdwsV_X8_lays ⟨Nat.le_of_ble_eq_true rfl, Nat.le_of_ble_eq_true rfl⟩) hK hP hD hS hA [0, 1, 2, 3, 4, 5, 6, 7, 8, 9, 10, 11, 12, 13, 14, 15] (by decide) rfl rfl (ci := 8) rfl rfl rfl (fun _ => WX8 cI cZ cR q0 t_1 g0) (()) rfl rfl hl.1 rfl (Nat.le_of_ble_eq_true rfl) dX8_y_1 ⟨Nat.zero_le _, Nat.zero_le _⟩ (fun _ _ H locs hP hD hS => ?_)
  refine lv_aload_n hx hb dX8_y_4 rfl (lv_at hl 0 rfl) ?_
  refine lv_iload_n hx hb dX8_y_5 rfl (lv_at hl 1 rfl) ?_
  obtain ⟨t_2, ot_2, hf⟩ := tm_bS hf
  refine tm_cVI (As := [.int p1]) (rest := []) ⟨hx, hb, hml, hown, hts⟩ (tX8_isNode l D cI cZ cR N q0 t_1 g0 p1 t_2 ot_2) (cwV 1 hts gX8_y_X8_isNode rfl rfl rfl hdwsV_X8_isNode ⟨Nat.le_of_ble_eq_true rfl, Nat.le_of_ble_eq_true rfl⟩) hK hP hD hS hA [0, 1, 2, 3, 4, 5, 6, 7, 8, 9, 10, 11, 12, 13, 14, 15] (by decide) rfl rfl (ci := 8) rfl rfl rfl (fun _ => WX8 cI cZ cR q0 t_1 g0) (()) rfl rfl hl.1 rfl (Nat.le_of_ble_eq_true rfl) dX8_y_6 ⟨Nat.zero_le _, Nat.zero_le _⟩ (fun _ _ H locs hP hD hS => ?_)
  refine lv_if_eq (tgt := 21) hx hb dX8_y_9 (by decide) (fun c_3 => ?_) (fun c_3 => ?_)
  · have hf := tm_iT c_3 hf
    refine lv_aload_n hx hb dX8_y_21 rfl (lv_at hl 0 rfl) ?_
    refine lv_bipush (v := (-2)) hx hb dX8_y_22 (by decide) ?_
    obtain ⟨t_4, ot_4, hf⟩ := tm_bS hf
    refine tm_cVI (As := [.int ((-2))]) (rest := []) ⟨hx, hb, hml, hown, hts⟩ (tX8_fails l D cI cZ cR N q0 t_1 g0 ((-2) : Int32) t_4.1 t_4.2 ot_4) (cwV 1 hts gX8_y_X8_fails rfl rfl rfl hdwsV_X8_fails ⟨Nat.le_of_ble_eq_true rfl, Nat.le_of_ble_eq_true rfl⟩) hK hP hD hS hA [0, 1, 2, 3, 4, 5, 6, 7, 8, 9, 10, 11, 12, 13, 14, 15] (by decide) rfl rfl (ci := 8) rfl rfl rfl (fun _ => WX8 cI cZ cR q0 t_4.2 g0) (()) rfl rfl hl.1 rfl (Nat.le_of_ble_eq_true rfl) dX8_y_24 ⟨Nat.zero_le _, Nat.zero_le _⟩ (fun _ _ H locs hP hD hS => ?_)
    simp only [Option.some.injEq, Prod.mk.injEq] at hf
    obtain ⟨rfl, rfl⟩ := hf
    exact hend _ _ _ _ hP hD hS rfl dX8_y_27
  · have hf := tm_iF c_3 hf
    refine lv_aload_n hx hb dX8_y_12 rfl (lv_at hl 0 rfl) ?_
    refine va_get (D := D) (ci := 8) (v := .ref (q0 7)) (C := RX8) (T := TX8) (N := 18) hx hb hts uX8_y_X8 hown hK hP 0 rfl rfl 7 (by decide) (hts _ kX8_y_f28) (fun _ h9 => h9) rfl dX8_y_13 ?_
    refine lv_iload_n hx hb dX8_y_16 rfl (lv_at hl 1 rfl) ?_
    obtain ⟨h_5, hf⟩ := tm_gS hf
    refine va_iald hx hb hK hP 7 0 rfl rfl (tm_inb_in h_5) dX8_y_17 ?_
    refine lv_goto (tgt := 27) hx hb dX8_y_18 (by decide) ?_
    simp only [Option.some.injEq, Prod.mk.injEq] at hf
    obtain ⟨rfl, rfl⟩ := hf
    exact hend _ _ _ _ hP hD hS rfl dX8_y_27
set_option maxHeartbeats 4000000 in
set_option maxRecDepth 100000 in
theorem tX8_width (l : Launch) (D : va_G) (cI cZ cR : ClassId) (N : Nat) (q0 : Nat → Nat) (d0 : tm_M) (g0 : Int64) (p1 : Int32) (r0 : Int32) (z0 : tm_M) (hf : fX8_width N d0 g0 p1 = some (r0, z0)) : tm_CI l D (tm_ty cI cZ cR) yX8_width wsX8_width rmX8_width [.ref (q0 0), .int p1] (WX8 cI cZ cR q0 d0 g0) r0 (WX8 cI cZ cR q0 z0 g0) := by
  refine tm_mkI (cc := cX8_width) (maxL := 2) (ty := .int) (by decide) rfl (Nat.le_of_ble_eq_true rfl) ?_
  intro p e s m below meth c A ls Q C hP hD hS hl hend
  have C : tm_Cx p s m c [.ref (q0 0), .int p1].toArray cX8_width 2 RX8 wsX8_width D (tm_ty cI cZ cR) A s.heap := C
  obtain ⟨hx, hb, hml, hown, hts, hK, hA⟩ := id C
  have hl : lv_has ls 2 [(0, .ref (q0 0)), (1, .int p1)] := hl
  unfold fX8_width at hf
  refine lv_aload_n hx hb dX8_width_0 rfl (lv_at hl 0 rfl) ?_
  obtain ⟨t_1, ot_1, hf⟩ := tm_bS hf
  refine tm_cVV (As := []) (rest := []) ⟨hx, hb, hml, hown, hts⟩ (tX8_lays l D cI cZ cR N q0 d0 g0 t_1 ot_1) (cwV 0 hts gX8_width_X8_lays rfl rfl rfl hdwsV_X8_lays ⟨Nat.le_of_ble_eq_true rfl, Nat.le_of_ble_eq_true rfl⟩) hK hP hD hS hA [0, 1, 2, 3, 4, 5, 6, 7, 8, 9, 10, 11, 12, 13, 14, 15] (by decide) rfl rfl (ci := 8) rfl rfl rfl (fun _ => WX8 cI cZ cR q0 t_1 g0) (()) rfl rfl hl.1 rfl (Nat.le_of_ble_eq_true rfl) dX8_width_1 ⟨Nat.zero_le _, Nat.zero_le _⟩ (fun _ _ H locs hP hD hS => ?_)
  refine lv_aload_n hx hb dX8_width_4 rfl (lv_at hl 0 rfl) ?_
  refine lv_iload_n hx hb dX8_width_5 rfl (lv_at hl 1 rfl) ?_
  obtain ⟨t_2, ot_2, hf⟩ := tm_bS hf
  refine tm_cVI (As := [.int p1]) (rest := []) ⟨hx, hb, hml, hown, hts⟩ (tX8_isNode l D cI cZ cR N q0 t_1 g0 p1 t_2 ot_2) (cwV 1 hts gX8_width_X8_isNode rfl rfl rfl hdwsV_X8_isNode ⟨Nat.le_of_ble_eq_true rfl, Nat.le_of_ble_eq_true rfl⟩) hK hP hD hS hA [0, 1, 2, 3, 4, 5, 6, 7, 8, 9, 10, 11, 12, 13, 14, 15] (by decide) rfl rfl (ci := 8) rfl rfl rfl (fun _ => WX8 cI cZ cR q0 t_1 g0) (()) rfl rfl hl.1 rfl (Nat.le_of_ble_eq_true rfl) dX8_width_6 ⟨Nat.zero_le _, Nat.zero_le _⟩ (fun _ _ H locs hP hD hS => ?_)
  refine lv_if_eq (tgt := 21) hx hb dX8_width_9 (by decide) (fun c_3 => ?_) (fun c_3 => ?_)
  · have hf := tm_iT c_3 hf
    refine lv_aload_n hx hb dX8_width_21 rfl (lv_at hl 0 rfl) ?_
    refine lv_bipush (v := (-2)) hx hb dX8_width_22 (by decide) ?_
    obtain ⟨t_4, ot_4, hf⟩ := tm_bS hf
    refine tm_cVI (As := [.int ((-2))]) (rest := []) ⟨hx, hb, hml, hown, hts⟩ (tX8_fails l D cI cZ cR N q0 t_1 g0 ((-2) : Int32) t_4.1 t_4.2 ot_4) (cwV 1 hts gX8_width_X8_fails rfl rfl rfl hdwsV_X8_fails ⟨Nat.le_of_ble_eq_true rfl, Nat.le_of_ble_eq_true rfl⟩) hK hP hD hS hA [0, 1, 2, 3, 4, 5, 6, 7, 8, 9, 10, 11, 12, 13, 14, 15] (by decide) rfl rfl (ci := 8) rfl rfl rfl (fun _ => WX8 cI cZ cR q0 t_4.2 g0) (()) rfl rfl hl.1 rfl (Nat.le_of_ble_eq_true rfl) dX8_width_24 ⟨Nat.zero_le _, Nat.zero_le _⟩ (fun _ _ H locs hP hD hS => ?_)
    simp only [Option.some.injEq, Prod.mk.injEq] at hf
    obtain ⟨rfl, rfl⟩ := hf
    exact hend _ _ _ _ hP hD hS rfl dX8_width_27
  · have hf := tm_iF c_3 hf
    refine lv_aload_n hx hb dX8_width_12 rfl (lv_at hl 0 rfl) ?_
    refine va_get (D := D) (ci := 8) (v := .ref (q0 8)) (C := RX8) (T := TX8) (N := 18) hx hb hts uX8_width_X8 hown hK hP 0 rfl rfl 8 (by decide) (hts _ kX8_width_f31) (fun _ h9 => h9) rfl dX8_width_13 ?_
    refine lv_iload_n hx hb dX8_width_16 rfl (lv_at hl 1 rfl) ?_
    obtain ⟨h_5, hf⟩ := tm_gS hf
    refine va_iald hx hb hK hP 8 0 rfl rfl (tm_inb_in h_5) dX8_width_17 ?_
    refine lv_goto (tgt := 27) hx hb dX8_width_18 (by decide) ?_
    simp only [Option.some.injEq, Prod.mk.injEq] at hf
    obtain ⟨rfl, rfl⟩ := hf
    exact hend _ _ _ _ hP hD hS rfl dX8_width_27
set_option maxHeartbeats 4000000 in
set_option maxRecDepth 100000 in
theorem tX8_height (l : Launch) (D : va_G) (cI cZ cR : ClassId) (N : Nat) (q0 : Nat → Nat) (d0 : tm_M) (g0 : Int64) (p1 : Int32) (r0 : Int32) (z0 : tm_M) (hf : fX8_height N d0 g0 p1 = some (r0, z0)) : tm_CI l D (tm_ty cI cZ cR) yX8_height wsX8_height rmX8_height [.ref (q0 0), .int p1] (WX8 cI cZ cR q0 d0 g0) r0 (WX8 cI cZ cR q0 z0 g0) := by
  refine tm_mkI (cc := cX8_height) (maxL := 2) (ty := .int) (by decide) rfl (Nat.le_of_ble_eq_true rfl) ?_
  intro p e s m below meth c A ls Q C hP hD hS hl hend
  have C : tm_Cx p s m c [.ref (q0 0), .int p1].toArray cX8_height 2 RX8 wsX8_height D (tm_ty cI cZ cR) A s.heap := C
  obtain ⟨hx, hb, hml, hown, hts, hK, hA⟩ := id C
  have hl : lv_has ls 2 [(0, .ref (q0 0)), (1, .int p1)] := hl
  unfold fX8_height at hf
  refine lv_aload_n hx hb dX8_height_0 rfl (lv_at hl 0 rfl) ?_
  obtain ⟨t_1, ot_1, hf⟩ := tm_bS hf
  refine tm_cVV (As := []) (rest := []) ⟨hx, hb, hml, hown, hts⟩ (tX8_lays l D cI cZ cR N q0 d0 g0 t_1 ot_1) (cwV 0 hts gX8_height_X8_lays rfl rfl rfl hdwsV_X8_lays ⟨Nat.le_of_ble_eq_true rfl, Nat.le_of_ble_eq_true rfl⟩) hK hP hD hS hA [0, 1, 2, 3, 4, 5, 6, 7, 8, 9, 10, 11, 12, 13, 14, 15] (by decide) rfl rfl (ci := 8) rfl rfl rfl (fun _ => WX8 cI cZ cR q0 t_1 g0) (()) rfl rfl hl.1 rfl (Nat.le_of_ble_eq_true rfl) dX8_height_1 ⟨Nat.zero_le _, Nat.zero_le _⟩ (fun _ _ H locs hP hD hS => ?_)
  refine lv_aload_n hx hb dX8_height_4 rfl (lv_at hl 0 rfl) ?_
  refine lv_iload_n hx hb dX8_height_5 rfl (lv_at hl 1 rfl) ?_
  obtain ⟨t_2, ot_2, hf⟩ := tm_bS hf
  refine tm_cVI (As := [.int p1]) (rest := []) ⟨hx, hb, hml, hown, hts⟩ (tX8_isNode l D cI cZ cR N q0 t_1 g0 p1 t_2 ot_2) (cwV 1 hts gX8_height_X8_isNode rfl rfl rfl hdwsV_X8_isNode ⟨Nat.le_of_ble_eq_true rfl, Nat.le_of_ble_eq_true rfl⟩) hK hP hD hS hA [0, 1, 2, 3, 4, 5, 6, 7, 8, 9, 10, 11, 12, 13, 14, 15] (by decide) rfl rfl (ci := 8) rfl rfl rfl (fun _ => WX8 cI cZ cR q0 t_1 g0) (()) rfl rfl hl.1 rfl (Nat.le_of_ble_eq_true rfl) dX8_height_6 ⟨Nat.zero_le _, Nat.zero_le _⟩ (fun _ _ H locs hP hD hS => ?_)
  refine lv_if_eq (tgt := 21) hx hb dX8_height_9 (by decide) (fun c_3 => ?_) (fun c_3 => ?_)
  · have hf := tm_iT c_3 hf
    refine lv_aload_n hx hb dX8_height_21 rfl (lv_at hl 0 rfl) ?_
    refine lv_bipush (v := (-2)) hx hb dX8_height_22 (by decide) ?_
    obtain ⟨t_4, ot_4, hf⟩ := tm_bS hf
    refine tm_cVI (As := [.int ((-2))]) (rest := []) ⟨hx, hb, hml, hown, hts⟩ (tX8_fails l D cI cZ cR N q0 t_1 g0 ((-2) : Int32) t_4.1 t_4.2 ot_4) (cwV 1 hts gX8_height_X8_fails rfl rfl rfl hdwsV_X8_fails ⟨Nat.le_of_ble_eq_true rfl, Nat.le_of_ble_eq_true rfl⟩) hK hP hD hS hA [0, 1, 2, 3, 4, 5, 6, 7, 8, 9, 10, 11, 12, 13, 14, 15] (by decide) rfl rfl (ci := 8) rfl rfl rfl (fun _ => WX8 cI cZ cR q0 t_4.2 g0) (()) rfl rfl hl.1 rfl (Nat.le_of_ble_eq_true rfl) dX8_height_24 ⟨Nat.zero_le _, Nat.zero_le _⟩ (fun _ _ H locs hP hD hS => ?_)
    simp only [Option.some.injEq, Prod.mk.injEq] at hf
    obtain ⟨rfl, rfl⟩ := hf
    exact hend _ _ _ _ hP hD hS rfl dX8_height_27
  · have hf := tm_iF c_3 hf
    refine lv_aload_n hx hb dX8_height_12 rfl (lv_at hl 0 rfl) ?_
    refine va_get (D := D) (ci := 8) (v := .ref (q0 9)) (C := RX8) (T := TX8) (N := 18) hx hb hts uX8_height_X8 hown hK hP 0 rfl rfl 9 (by decide) (hts _ kX8_height_f34) (fun _ h9 => h9) rfl dX8_height_13 ?_
    refine lv_iload_n hx hb dX8_height_16 rfl (lv_at hl 1 rfl) ?_
    obtain ⟨h_5, hf⟩ := tm_gS hf
    refine va_iald hx hb hK hP 9 0 rfl rfl (tm_inb_in h_5) dX8_height_17 ?_
    refine lv_goto (tgt := 27) hx hb dX8_height_18 (by decide) ?_
    simp only [Option.some.injEq, Prod.mk.injEq] at hf
    obtain ⟨rfl, rfl⟩ := hf
    exact hend _ _ _ _ hP hD hS rfl dX8_height_27
set_option maxHeartbeats 4000000 in
set_option maxRecDepth 100000 in
theorem tX8_isHidden (l : Launch) (D : va_G) (cI cZ cR : ClassId) (N : Nat) (q0 : Nat → Nat) (d0 : tm_M) (g0 : Int64) (p1 : Int32) (r0 : Int32) (z0 : tm_M) (hf : fX8_isHidden N d0 g0 p1 = some (r0, z0)) : tm_CI l D (tm_ty cI cZ cR) yX8_isHidden wsX8_isHidden rmX8_isHidden [.ref (q0 0), .int p1] (WX8 cI cZ cR q0 d0 g0) r0 (WX8 cI cZ cR q0 z0 g0) := by
  refine tm_mkI (cc := cX8_isHidden) (maxL := 2) (ty := .int) (by decide) rfl (Nat.le_of_ble_eq_true rfl) ?_
  intro p e s m below meth c A ls Q C hP hD hS hl hend
  have C : tm_Cx p s m c [.ref (q0 0), .int p1].toArray cX8_isHidden 2 RX8 wsX8_isHidden D (tm_ty cI cZ cR) A s.heap := C
  obtain ⟨hx, hb, hml, hown, hts, hK, hA⟩ := id C
  have hl : lv_has ls 2 [(0, .ref (q0 0)), (1, .int p1)] := hl
  unfold fX8_isHidden at hf
  refine lv_aload_n hx hb dX8_isHidden_0 rfl (lv_at hl 0 rfl) ?_
  obtain ⟨t_1, ot_1, hf⟩ := tm_bS hf
  refine tm_cVV (As := []) (rest := []) ⟨hx, hb, hml, hown, hts⟩ (tX8_lays l D cI cZ cR N q0 d0 g0 t_1 ot_1) (cwV 0 hts gX8_isHidden_X8_lays rfl rfl rfl hdwsV_X8_lays ⟨Nat.le_of_ble_eq_true rfl, Nat.le_of_ble_eq_true rfl⟩) hK hP hD hS hA [0, 1, 2, 3, 4, 5, 6, 7, 8, 9, 10, 11, 12, 13, 14, 15] (by decide) rfl rfl (ci := 8) rfl rfl rfl (fun _ => WX8 cI cZ cR q0 t_1 g0) (()) rfl rfl hl.1 rfl (Nat.le_of_ble_eq_true rfl) dX8_isHidden_1 ⟨Nat.zero_le _, Nat.zero_le _⟩ (fun _ _ H locs hP hD hS => ?_)
  refine lv_aload_n hx hb dX8_isHidden_4 rfl (lv_at hl 0 rfl) ?_
  refine lv_iload_n hx hb dX8_isHidden_5 rfl (lv_at hl 1 rfl) ?_
  obtain ⟨t_2, ot_2, hf⟩ := tm_bS hf
  refine tm_cVI (As := [.int p1]) (rest := []) ⟨hx, hb, hml, hown, hts⟩ (tX8_isNode l D cI cZ cR N q0 t_1 g0 p1 t_2 ot_2) (cwV 1 hts gX8_isHidden_X8_isNode rfl rfl rfl hdwsV_X8_isNode ⟨Nat.le_of_ble_eq_true rfl, Nat.le_of_ble_eq_true rfl⟩) hK hP hD hS hA [0, 1, 2, 3, 4, 5, 6, 7, 8, 9, 10, 11, 12, 13, 14, 15] (by decide) rfl rfl (ci := 8) rfl rfl rfl (fun _ => WX8 cI cZ cR q0 t_1 g0) (()) rfl rfl hl.1 rfl (Nat.le_of_ble_eq_true rfl) dX8_isHidden_6 ⟨Nat.zero_le _, Nat.zero_le _⟩ (fun _ _ H locs hP hD hS => ?_)
  refine lv_if_eq (tgt := 29) hx hb dX8_isHidden_9 (by decide) (fun c_3 => ?_) (fun c_3 => ?_)
  · have hf := tm_iT c_3 hf
    refine lv_aload_n hx hb dX8_isHidden_29 rfl (lv_at hl 0 rfl) ?_
    refine lv_bipush (v := (-2)) hx hb dX8_isHidden_30 (by decide) ?_
    obtain ⟨t_4, ot_4, hf⟩ := tm_bS hf
    refine tm_cVI (As := [.int ((-2))]) (rest := []) ⟨hx, hb, hml, hown, hts⟩ (tX8_fails l D cI cZ cR N q0 t_1 g0 ((-2) : Int32) t_4.1 t_4.2 ot_4) (cwV 1 hts gX8_isHidden_X8_fails rfl rfl rfl hdwsV_X8_fails ⟨Nat.le_of_ble_eq_true rfl, Nat.le_of_ble_eq_true rfl⟩) hK hP hD hS hA [0, 1, 2, 3, 4, 5, 6, 7, 8, 9, 10, 11, 12, 13, 14, 15] (by decide) rfl rfl (ci := 8) rfl rfl rfl (fun _ => WX8 cI cZ cR q0 t_4.2 g0) (()) rfl rfl hl.1 rfl (Nat.le_of_ble_eq_true rfl) dX8_isHidden_32 ⟨Nat.zero_le _, Nat.zero_le _⟩ (fun _ _ H locs hP hD hS => ?_)
    simp only [Option.some.injEq, Prod.mk.injEq] at hf
    obtain ⟨rfl, rfl⟩ := hf
    exact hend _ _ _ _ hP hD hS rfl dX8_isHidden_35
  · have hf := tm_iF c_3 hf
    refine lv_aload_n hx hb dX8_isHidden_12 rfl (lv_at hl 0 rfl) ?_
    refine va_get (D := D) (ci := 8) (v := .ref (q0 10)) (C := RX8) (T := TX8) (N := 18) hx hb hts uX8_isHidden_X8 hown hK hP 0 rfl rfl 10 (by decide) (hts _ kX8_isHidden_f37) (fun _ h9 => h9) rfl dX8_isHidden_13 ?_
    refine lv_iload_n hx hb dX8_isHidden_16 rfl (lv_at hl 1 rfl) ?_
    obtain ⟨h_5, hf⟩ := tm_gS hf
    refine va_zald hx hb hK hP 10 1 rfl rfl (tm_inb_in h_5) dX8_isHidden_17 ?_
    refine lv_if_eq (tgt := 25) hx hb dX8_isHidden_18 (by decide) (fun c_6 => ?_) (fun c_6 => ?_)
    · have hf := tm_iT c_6 hf
      refine lv_iconst (v := 0) hx hb dX8_isHidden_25 (by decide) ?_
      refine lv_goto (tgt := 35) hx hb dX8_isHidden_26 (by decide) ?_
      simp only [Option.some.injEq, Prod.mk.injEq] at hf
      obtain ⟨rfl, rfl⟩ := hf
      exact hend _ _ _ _ hP hD hS rfl dX8_isHidden_35
    · have hf := tm_iF c_6 hf
      refine lv_iconst (v := 1) hx hb dX8_isHidden_21 (by decide) ?_
      refine lv_goto (tgt := 35) hx hb dX8_isHidden_22 (by decide) ?_
      simp only [Option.some.injEq, Prod.mk.injEq] at hf
      obtain ⟨rfl, rfl⟩ := hf
      exact hend _ _ _ _ hP hD hS rfl dX8_isHidden_35
set_option maxHeartbeats 4000000 in
set_option maxRecDepth 100000 in
theorem wX8_nodeAt_48 (l : Launch) (D : va_G) (cI cZ cR : ClassId) (N : Nat) (q0 : Nat → Nat) {p : Program} {e : Env} {s : State} {m : MethodId} {args : Array Value} {below : List Frame} {meth : Method} {c : Code} {A : Nat → Prop} {H0 : Heap} {Q : State → Prop} (C : tm_Cx p s m c args cX8_nodeAt 6 RX8 wsX8_nodeAt D (tm_ty cI cZ cR) A H0) (d0 : tm_M) (g0 : Int64) (v1 : Int32) (v2 : Int32) : ∀ (n : Nat) (st : Int32 × Int32) (o : (Int32 × Int32)), tm_whl (bX8_nodeAt_48 N d0 g0 v1 v2) n st = some o → (fun (o : Int32 × Int32) => ∀ (H : Heap) (locs : List Loc) (ls : Array Slot), va_P D vwCl (WX8 cI cZ cR q0 d0 g0) H → va_D A (WX8 cI cZ cR q0 d0 g0) → va_S A H0 H locs → lv_has ls 6 [(3, .int o.1)] → W p l e rmX8_nodeAt s m args below meth c H locs 0 0 Q (F0 m 160 ls [])) o → (fun (st : Int32 × Int32) => ∀ (H : Heap) (locs : List Loc) (ls : Array Slot), va_P D vwCl (WX8 cI cZ cR q0 d0 g0) H → va_D A (WX8 cI cZ cR q0 d0 g0) → va_S A H0 H locs → lv_has ls 6 [(0, .ref (q0 0)), (1, .int v1), (2, .int v2), (3, .int st.1), (4, .int st.2)] → W p l e rmX8_nodeAt s m args below meth c H locs 0 0 Q (F0 m 48 ls [])) st := by
  obtain ⟨hx, hb, hml, hown, hts, hK, hA⟩ := id C
  refine tm_whl_W (Wh := fun (st : Int32 × Int32) => ∀ (H : Heap) (locs : List Loc) (ls : Array Slot), va_P D vwCl (WX8 cI cZ cR q0 d0 g0) H → va_D A (WX8 cI cZ cR q0 d0 g0) → va_S A H0 H locs → lv_has ls 6 [(0, .ref (q0 0)), (1, .int v1), (2, .int v2), (3, .int st.1), (4, .int st.2)] → W p l e rmX8_nodeAt s m args below meth c H locs 0 0 Q (F0 m 48 ls [])) (Wx := fun (o : Int32 × Int32) => ∀ (H : Heap) (locs : List Loc) (ls : Array Slot), va_P D vwCl (WX8 cI cZ cR q0 d0 g0) H → va_D A (WX8 cI cZ cR q0 d0 g0) → va_S A H0 H locs → lv_has ls 6 [(3, .int o.1)] → W p l e rmX8_nodeAt s m args below meth c H locs 0 0 Q (F0 m 160 ls [])) ?_
  intro st r hf hk H locs ls hP hD hS hl
  unfold bX8_nodeAt_48 at hf
  refine lv_iload hx hb dX8_nodeAt_48 (lv_at hl 4 rfl) ?_
  refine lv_aload_n hx hb dX8_nodeAt_50 rfl (lv_at hl 0 rfl) ?_
  refine va_get (D := D) (ci := 8) (v := .ref (q0 1)) (C := RX8) (T := TX8) (N := 18) hx hb hts uX8_nodeAt_X8 hown hK hP 0 rfl rfl 0 (by decide) (hts _ kX8_nodeAt_f7) (fun _ h9 => h9) rfl dX8_nodeAt_51 ?_
  refine lv_iconst (v := 0) hx hb dX8_nodeAt_54 (by decide) ?_
  refine va_iald hx hb hK hP 1 0 rfl rfl (tm_inb_in (by decide)) dX8_nodeAt_55 ?_
  refine lv_icmp_ge (tgt := 160) hx hb dX8_nodeAt_56 (by decide) (fun c_7 => ?_) (fun c_7 => ?_)
  · have hf := tm_iT c_7 hf
    obtain rfl := Option.some.inj hf
    exact hk _ _ _ hP hD hS (lv_sub hl [3] rfl)
  · have hf := tm_iF c_7 hf
    refine lv_iload_n hx hb dX8_nodeAt_59 rfl (lv_at hl 1 rfl) ?_
    refine lv_aload_n hx hb dX8_nodeAt_60 rfl (lv_at hl 0 rfl) ?_
    refine va_get (D := D) (ci := 8) (v := .ref (q0 6)) (C := RX8) (T := TX8) (N := 18) hx hb hts uX8_nodeAt_X8 hown hK hP 0 rfl rfl 6 (by decide) (hts _ kX8_nodeAt_f25) (fun _ h9 => h9) rfl dX8_nodeAt_61 ?_
    refine lv_iload hx hb dX8_nodeAt_64 (lv_at hl 4 rfl) ?_
    obtain ⟨h_8, hf⟩ := tm_gS hf
    refine va_iald hx hb hK hP 6 0 rfl rfl (tm_inb_in h_8) dX8_nodeAt_66 ?_
    refine lv_aload_n hx hb dX8_nodeAt_67 rfl (lv_at hl 0 rfl) ?_
    refine va_get (D := D) (ci := 8) (v := .ref (q0 6)) (C := RX8) (T := TX8) (N := 18) hx hb hts uX8_nodeAt_X8 hown hK hP 0 rfl rfl 6 (by decide) (hts _ kX8_nodeAt_f25) (fun _ h9 => h9) rfl dX8_nodeAt_68 ?_
    refine lv_iload hx hb dX8_nodeAt_71 (lv_at hl 4 rfl) ?_
    refine va_iald hx hb hK hP 6 0 rfl rfl (tm_inb_in h_8) dX8_nodeAt_73 ?_
    refine lv_aload_n hx hb dX8_nodeAt_74 rfl (lv_at hl 0 rfl) ?_
    refine va_get (D := D) (ci := 8) (v := .ref (q0 8)) (C := RX8) (T := TX8) (N := 18) hx hb hts uX8_nodeAt_X8 hown hK hP 0 rfl rfl 8 (by decide) (hts _ kX8_nodeAt_f31) (fun _ h9 => h9) rfl dX8_nodeAt_75 ?_
    refine lv_iload hx hb dX8_nodeAt_78 (lv_at hl 4 rfl) ?_
    refine va_iald hx hb hK hP 8 0 rfl rfl (tm_inb_in h_8) dX8_nodeAt_80 ?_
    refine lv_iadd hx hb dX8_nodeAt_81 ?_
    refine lv_iconst (v := 1) hx hb dX8_nodeAt_82 (by decide) ?_
    refine lv_isub hx hb dX8_nodeAt_83 ?_
    obtain ⟨t_9, ot_9, hf⟩ := tm_bS hf
    refine tm_cSI (As := [.int v1, .int (d0 6 st.2.toNatClampNeg), .int (((d0 6 st.2.toNatClampNeg) + (d0 8 st.2.toNatClampNeg)) - 1)]) (rest := []) ⟨hx, hb, hml, hown, hts⟩ (tX8_within l D cI cZ cR N v1 (d0 6 st.2.toNatClampNeg) (((d0 6 st.2.toNatClampNeg) + (d0 8 st.2.toNatClampNeg)) - 1) t_9 ot_9) (va_cwS 3 hts gX8_nodeAt_X8_within rfl rfl rfl hdwsS_X8_within ⟨Nat.le_of_ble_eq_true rfl, Nat.le_of_ble_eq_true rfl⟩) hK hP hD hS hA [] (by decide) rfl rfl (fun _ => WX8 cI cZ cR q0 d0 g0) (()) rfl rfl hl.1 rfl (Nat.le_of_ble_eq_true rfl) dX8_nodeAt_84 ⟨Nat.zero_le _, Nat.zero_le _⟩ (fun _ _ H locs hP hD hS => ?_)
    refine lv_if_eq (tgt := 125) hx hb dX8_nodeAt_87 (by decide) (fun c_10 => ?_) (fun c_10 => ?_)
    · have hf := tm_iT c_10 hf
      refine lv_iconst (v := 0) hx hb dX8_nodeAt_125 (by decide) ?_
      refine lv_istore (lv' := [(5, .int 0), (0, .ref (q0 0)), (1, .int v1), (2, .int v2), (3, .int st.1), (4, .int st.2)]) hx hb dX8_nodeAt_126 hl (by decide) rfl (fun ls hl => ?_)
      refine lv_iload hx hb dX8_nodeAt_128 (lv_at hl 0 rfl) ?_
      refine lv_if_eq (tgt := 152) hx hb dX8_nodeAt_130 (by decide) (fun _ => ?_) (fun c9 => absurd c9 (by decide))
      refine lv_iload_n hx hb dX8_nodeAt_152 rfl (lv_at hl 4 rfl) ?_
      refine lv_istore_n (lv' := [(3, .int st.1), (5, .int 0), (0, .ref (q0 0)), (1, .int v1), (2, .int v2), (4, .int st.2)]) hx hb dX8_nodeAt_153 rfl hl (by decide) rfl (fun ls hl => ?_)
      obtain ⟨x_11, ex_11⟩ : ∃ y : Int32, y = st.2 + 1 := ⟨_, rfl⟩
      have hf := tm_at ex_11 hf
      refine lv_iinc (v := x_11) (lv' := [(4, .int x_11), (3, .int st.1), (5, .int 0), (0, .ref (q0 0)), (1, .int v1), (2, .int v2)]) hx hb dX8_nodeAt_154 hl (k := 5) rfl (by rw [ex_11]; rfl) (by decide) rfl (fun ls hl => ?_)
      refine lv_goto (tgt := 48) hx hb dX8_nodeAt_157 (by decide) ?_
      obtain rfl := Option.some.inj hf
      exact hk _ _ _ hP hD hS (lv_sub hl [3, 4, 5, 1, 0] rfl)
    · have hf := tm_iF c_10 hf
      refine lv_iload_n hx hb dX8_nodeAt_90 rfl (lv_at hl 2 rfl) ?_
      refine lv_aload_n hx hb dX8_nodeAt_91 rfl (lv_at hl 0 rfl) ?_
      refine va_get (D := D) (ci := 8) (v := .ref (q0 7)) (C := RX8) (T := TX8) (N := 18) hx hb hts uX8_nodeAt_X8 hown hK hP 0 rfl rfl 7 (by decide) (hts _ kX8_nodeAt_f28) (fun _ h9 => h9) rfl dX8_nodeAt_92 ?_
      refine lv_iload hx hb dX8_nodeAt_95 (lv_at hl 4 rfl) ?_
      refine va_iald hx hb hK hP 7 0 rfl rfl (tm_inb_in h_8) dX8_nodeAt_97 ?_
      refine lv_aload_n hx hb dX8_nodeAt_98 rfl (lv_at hl 0 rfl) ?_
      refine va_get (D := D) (ci := 8) (v := .ref (q0 7)) (C := RX8) (T := TX8) (N := 18) hx hb hts uX8_nodeAt_X8 hown hK hP 0 rfl rfl 7 (by decide) (hts _ kX8_nodeAt_f28) (fun _ h9 => h9) rfl dX8_nodeAt_99 ?_
      refine lv_iload hx hb dX8_nodeAt_102 (lv_at hl 4 rfl) ?_
      refine va_iald hx hb hK hP 7 0 rfl rfl (tm_inb_in h_8) dX8_nodeAt_104 ?_
      refine lv_aload_n hx hb dX8_nodeAt_105 rfl (lv_at hl 0 rfl) ?_
      refine va_get (D := D) (ci := 8) (v := .ref (q0 9)) (C := RX8) (T := TX8) (N := 18) hx hb hts uX8_nodeAt_X8 hown hK hP 0 rfl rfl 9 (by decide) (hts _ kX8_nodeAt_f34) (fun _ h9 => h9) rfl dX8_nodeAt_106 ?_
      refine lv_iload hx hb dX8_nodeAt_109 (lv_at hl 4 rfl) ?_
      refine va_iald hx hb hK hP 9 0 rfl rfl (tm_inb_in h_8) dX8_nodeAt_111 ?_
      refine lv_iadd hx hb dX8_nodeAt_112 ?_
      refine lv_iconst (v := 1) hx hb dX8_nodeAt_113 (by decide) ?_
      refine lv_isub hx hb dX8_nodeAt_114 ?_
      obtain ⟨t_12, ot_12, hf⟩ := tm_bS hf
      refine tm_cSI (As := [.int v2, .int (d0 7 st.2.toNatClampNeg), .int (((d0 7 st.2.toNatClampNeg) + (d0 9 st.2.toNatClampNeg)) - 1)]) (rest := []) ⟨hx, hb, hml, hown, hts⟩ (tX8_within l D cI cZ cR N v2 (d0 7 st.2.toNatClampNeg) (((d0 7 st.2.toNatClampNeg) + (d0 9 st.2.toNatClampNeg)) - 1) t_12 ot_12) (va_cwS 3 hts gX8_nodeAt_X8_within rfl rfl rfl hdwsS_X8_within ⟨Nat.le_of_ble_eq_true rfl, Nat.le_of_ble_eq_true rfl⟩) hK hP hD hS hA [] (by decide) rfl rfl (fun _ => WX8 cI cZ cR q0 d0 g0) (()) rfl rfl hl.1 rfl (Nat.le_of_ble_eq_true rfl) dX8_nodeAt_115 ⟨Nat.zero_le _, Nat.zero_le _⟩ (fun _ _ H locs hP hD hS => ?_)
      refine lv_if_eq (tgt := 125) hx hb dX8_nodeAt_118 (by decide) (fun c_13 => ?_) (fun c_13 => ?_)
      · have hf := tm_iT c_13 hf
        refine lv_iconst (v := 0) hx hb dX8_nodeAt_125 (by decide) ?_
        refine lv_istore (lv' := [(5, .int 0), (0, .ref (q0 0)), (1, .int v1), (2, .int v2), (3, .int st.1), (4, .int st.2)]) hx hb dX8_nodeAt_126 hl (by decide) rfl (fun ls hl => ?_)
        refine lv_iload hx hb dX8_nodeAt_128 (lv_at hl 0 rfl) ?_
        refine lv_if_eq (tgt := 152) hx hb dX8_nodeAt_130 (by decide) (fun _ => ?_) (fun c9 => absurd c9 (by decide))
        refine lv_iload_n hx hb dX8_nodeAt_152 rfl (lv_at hl 4 rfl) ?_
        refine lv_istore_n (lv' := [(3, .int st.1), (5, .int 0), (0, .ref (q0 0)), (1, .int v1), (2, .int v2), (4, .int st.2)]) hx hb dX8_nodeAt_153 rfl hl (by decide) rfl (fun ls hl => ?_)
        obtain ⟨x_14, ex_14⟩ : ∃ y : Int32, y = st.2 + 1 := ⟨_, rfl⟩
        have hf := tm_at ex_14 hf
        refine lv_iinc (v := x_14) (lv' := [(4, .int x_14), (3, .int st.1), (5, .int 0), (0, .ref (q0 0)), (1, .int v1), (2, .int v2)]) hx hb dX8_nodeAt_154 hl (k := 5) rfl (by rw [ex_14]; rfl) (by decide) rfl (fun ls hl => ?_)
        refine lv_goto (tgt := 48) hx hb dX8_nodeAt_157 (by decide) ?_
        obtain rfl := Option.some.inj hf
        exact hk _ _ _ hP hD hS (lv_sub hl [3, 4, 5, 1, 0] rfl)
      · have hf := tm_iF c_13 hf
        refine lv_iconst (v := 1) hx hb dX8_nodeAt_121 (by decide) ?_
        refine lv_goto (tgt := 126) hx hb dX8_nodeAt_122 (by decide) ?_
        refine lv_istore (lv' := [(5, .int 1), (0, .ref (q0 0)), (1, .int v1), (2, .int v2), (3, .int st.1), (4, .int st.2)]) hx hb dX8_nodeAt_126 hl (by decide) rfl (fun ls hl => ?_)
        refine lv_iload hx hb dX8_nodeAt_128 (lv_at hl 0 rfl) ?_
        refine lv_if_eq (tgt := 152) hx hb dX8_nodeAt_130 (by decide) (fun c9 => absurd c9 (by decide)) (fun _ => ?_)
        refine lv_aload_n hx hb dX8_nodeAt_133 rfl (lv_at hl 1 rfl) ?_
        refine lv_iload hx hb dX8_nodeAt_134 (lv_at hl 5 rfl) ?_
        obtain ⟨t_15, ot_15, hf⟩ := tm_bS hf
        refine tm_cVI (As := [.int st.2]) (rest := []) ⟨hx, hb, hml, hown, hts⟩ (tX8_depthOf l D cI cZ cR N q0 d0 g0 st.2 t_15 ot_15) (cwV 1 hts gX8_nodeAt_X8_depthOf rfl rfl rfl hdwsV_X8_depthOf ⟨Nat.le_of_ble_eq_true rfl, Nat.le_of_ble_eq_true rfl⟩) hK hP hD hS hA [0, 1, 2, 3, 4, 5, 6, 7, 8, 9, 10, 11, 12, 13, 14, 15] (by decide) rfl rfl (ci := 8) rfl rfl rfl (fun _ => WX8 cI cZ cR q0 d0 g0) (()) rfl rfl hl.1 rfl (Nat.le_of_ble_eq_true rfl) dX8_nodeAt_136 ⟨Nat.zero_le _, Nat.zero_le _⟩ (fun _ _ H locs hP hD hS => ?_)
        refine lv_aload_n hx hb dX8_nodeAt_139 rfl (lv_at hl 1 rfl) ?_
        refine lv_iload_n hx hb dX8_nodeAt_140 rfl (lv_at hl 4 rfl) ?_
        obtain ⟨t_16, ot_16, hf⟩ := tm_bS hf
        refine tm_cVI (As := [.int st.1]) (rest := [.int t_15]) ⟨hx, hb, hml, hown, hts⟩ (tX8_depthOf l D cI cZ cR N q0 d0 g0 st.1 t_16 ot_16) (cwV 1 hts gX8_nodeAt_X8_depthOf rfl rfl rfl hdwsV_X8_depthOf ⟨Nat.le_of_ble_eq_true rfl, Nat.le_of_ble_eq_true rfl⟩) hK hP hD hS hA [0, 1, 2, 3, 4, 5, 6, 7, 8, 9, 10, 11, 12, 13, 14, 15] (by decide) rfl rfl (ci := 8) rfl rfl rfl (fun _ => WX8 cI cZ cR q0 d0 g0) (()) rfl rfl hl.1 rfl (Nat.le_of_ble_eq_true rfl) dX8_nodeAt_141 ⟨Nat.zero_le _, Nat.zero_le _⟩ (fun _ _ H locs hP hD hS => ?_)
        refine lv_icmp_le (tgt := 152) hx hb dX8_nodeAt_144 (by decide) (fun c_17 => ?_) (fun c_17 => ?_)
        · have hf := tm_iT c_17 hf
          refine lv_iload_n hx hb dX8_nodeAt_152 rfl (lv_at hl 4 rfl) ?_
          refine lv_istore_n (lv' := [(3, .int st.1), (5, .int 1), (0, .ref (q0 0)), (1, .int v1), (2, .int v2), (4, .int st.2)]) hx hb dX8_nodeAt_153 rfl hl (by decide) rfl (fun ls hl => ?_)
          obtain ⟨x_18, ex_18⟩ : ∃ y : Int32, y = st.2 + 1 := ⟨_, rfl⟩
          have hf := tm_at ex_18 hf
          refine lv_iinc (v := x_18) (lv' := [(4, .int x_18), (3, .int st.1), (5, .int 1), (0, .ref (q0 0)), (1, .int v1), (2, .int v2)]) hx hb dX8_nodeAt_154 hl (k := 5) rfl (by rw [ex_18]; rfl) (by decide) rfl (fun ls hl => ?_)
          refine lv_goto (tgt := 48) hx hb dX8_nodeAt_157 (by decide) ?_
          obtain rfl := Option.some.inj hf
          exact hk _ _ _ hP hD hS (lv_sub hl [3, 4, 5, 1, 0] rfl)
        · have hf := tm_iF c_17 hf
          refine lv_iload hx hb dX8_nodeAt_147 (lv_at hl 5 rfl) ?_
          refine lv_goto (tgt := 153) hx hb dX8_nodeAt_149 (by decide) ?_
          refine lv_istore_n (lv' := [(3, .int st.2), (5, .int 1), (0, .ref (q0 0)), (1, .int v1), (2, .int v2), (4, .int st.2)]) hx hb dX8_nodeAt_153 rfl hl (by decide) rfl (fun ls hl => ?_)
          obtain ⟨x_19, ex_19⟩ : ∃ y : Int32, y = st.2 + 1 := ⟨_, rfl⟩
          have hf := tm_at ex_19 hf
          refine lv_iinc (v := x_19) (lv' := [(4, .int x_19), (3, .int st.2), (5, .int 1), (0, .ref (q0 0)), (1, .int v1), (2, .int v2)]) hx hb dX8_nodeAt_154 hl (k := 5) rfl (by rw [ex_19]; rfl) (by decide) rfl (fun ls hl => ?_)
          refine lv_goto (tgt := 48) hx hb dX8_nodeAt_157 (by decide) ?_
          obtain rfl := Option.some.inj hf
          exact hk _ _ _ hP hD hS (lv_sub hl [3, 4, 5, 1, 0] rfl)
set_option maxHeartbeats 4000000 in
set_option maxRecDepth 100000 in
theorem tX8_nodeAt (l : Launch) (D : va_G) (cI cZ cR : ClassId) (N : Nat) (q0 : Nat → Nat) (d0 : tm_M) (g0 : Int64) (p1 : Int32) (p2 : Int32) (r0 : Int32) (z0 : tm_M) (hf : fX8_nodeAt N d0 g0 p1 p2 = some (r0, z0)) : tm_CI l D (tm_ty cI cZ cR) yX8_nodeAt wsX8_nodeAt rmX8_nodeAt [.ref (q0 0), .int p1, .int p2] (WX8 cI cZ cR q0 d0 g0) r0 (WX8 cI cZ cR q0 z0 g0) := by
  refine tm_mkI (cc := cX8_nodeAt) (maxL := 6) (ty := .int) (by decide) rfl (Nat.le_of_ble_eq_true rfl) ?_
  intro p e s m below meth c A ls Q C hP hD hS hl hend
  have C : tm_Cx p s m c [.ref (q0 0), .int p1, .int p2].toArray cX8_nodeAt 6 RX8 wsX8_nodeAt D (tm_ty cI cZ cR) A s.heap := C
  obtain ⟨hx, hb, hml, hown, hts, hK, hA⟩ := id C
  have hl : lv_has ls 6 [(0, .ref (q0 0)), (1, .int p1), (2, .int p2)] := hl
  unfold fX8_nodeAt at hf
  refine lv_iload_n hx hb dX8_nodeAt_0 rfl (lv_at hl 1 rfl) ?_
  refine lv_iconst (v := 0) hx hb dX8_nodeAt_1 (by decide) ?_
  refine lv_aload_n hx hb dX8_nodeAt_2 rfl (lv_at hl 0 rfl) ?_
  refine va_get (D := D) (ci := 8) (v := .ref (q0 1)) (C := RX8) (T := TX8) (N := 18) hx hb hts uX8_nodeAt_X8 hown hK hP 0 rfl rfl 0 (by decide) (hts _ kX8_nodeAt_f7) (fun _ h9 => h9) rfl dX8_nodeAt_3 ?_
  refine lv_iconst (v := 1) hx hb dX8_nodeAt_6 (by decide) ?_
  refine va_iald hx hb hK hP 1 0 rfl rfl (tm_inb_in (by decide)) dX8_nodeAt_7 ?_
  refine lv_iconst (v := 1) hx hb dX8_nodeAt_8 (by decide) ?_
  refine lv_isub hx hb dX8_nodeAt_9 ?_
  obtain ⟨t_1, ot_1, hf⟩ := tm_bS hf
  refine tm_cSI (As := [.int p1, .int 0, .int ((d0 1 (1 : Int32).toNatClampNeg) - 1)]) (rest := []) ⟨hx, hb, hml, hown, hts⟩ (tX8_within l D cI cZ cR N p1 (0 : Int32) ((d0 1 (1 : Int32).toNatClampNeg) - 1) t_1 ot_1) (va_cwS 3 hts gX8_nodeAt_X8_within rfl rfl rfl hdwsS_X8_within ⟨Nat.le_of_ble_eq_true rfl, Nat.le_of_ble_eq_true rfl⟩) hK hP hD hS hA [] (by decide) rfl rfl (fun _ => WX8 cI cZ cR q0 d0 g0) (()) rfl rfl hl.1 rfl (Nat.le_of_ble_eq_true rfl) dX8_nodeAt_10 ⟨Nat.zero_le _, Nat.zero_le _⟩ (fun _ _ H locs hP hD hS => ?_)
  refine lv_if_eq (tgt := 32) hx hb dX8_nodeAt_13 (by decide) (fun c_2 => ?_) (fun c_2 => ?_)
  · have hf := tm_iT c_2 hf
    refine lv_aload_n hx hb dX8_nodeAt_32 rfl (lv_at hl 0 rfl) ?_
    refine lv_bipush (v := (-2)) hx hb dX8_nodeAt_33 (by decide) ?_
    obtain ⟨t_3, ot_3, hf⟩ := tm_bS hf
    refine tm_cVI (As := [.int ((-2))]) (rest := []) ⟨hx, hb, hml, hown, hts⟩ (tX8_fails l D cI cZ cR N q0 d0 g0 ((-2) : Int32) t_3.1 t_3.2 ot_3) (cwV 1 hts gX8_nodeAt_X8_fails rfl rfl rfl hdwsV_X8_fails ⟨Nat.le_of_ble_eq_true rfl, Nat.le_of_ble_eq_true rfl⟩) hK hP hD hS hA [0, 1, 2, 3, 4, 5, 6, 7, 8, 9, 10, 11, 12, 13, 14, 15] (by decide) rfl rfl (ci := 8) rfl rfl rfl (fun _ => WX8 cI cZ cR q0 t_3.2 g0) (()) rfl rfl hl.1 rfl (Nat.le_of_ble_eq_true rfl) dX8_nodeAt_35 ⟨Nat.zero_le _, Nat.zero_le _⟩ (fun _ _ H locs hP hD hS => ?_)
    simp only [Option.some.injEq, Prod.mk.injEq] at hf
    obtain ⟨rfl, rfl⟩ := hf
    exact hend _ _ _ _ hP hD hS rfl dX8_nodeAt_38
  · have hf := tm_iF c_2 hf
    refine lv_iload_n hx hb dX8_nodeAt_16 rfl (lv_at hl 2 rfl) ?_
    refine lv_iconst (v := 0) hx hb dX8_nodeAt_17 (by decide) ?_
    refine lv_aload_n hx hb dX8_nodeAt_18 rfl (lv_at hl 0 rfl) ?_
    refine va_get (D := D) (ci := 8) (v := .ref (q0 1)) (C := RX8) (T := TX8) (N := 18) hx hb hts uX8_nodeAt_X8 hown hK hP 0 rfl rfl 0 (by decide) (hts _ kX8_nodeAt_f7) (fun _ h9 => h9) rfl dX8_nodeAt_19 ?_
    refine lv_iconst (v := 2) hx hb dX8_nodeAt_22 (by decide) ?_
    refine va_iald hx hb hK hP 1 0 rfl rfl (tm_inb_in (by decide)) dX8_nodeAt_23 ?_
    refine lv_iconst (v := 1) hx hb dX8_nodeAt_24 (by decide) ?_
    refine lv_isub hx hb dX8_nodeAt_25 ?_
    obtain ⟨t_4, ot_4, hf⟩ := tm_bS hf
    refine tm_cSI (As := [.int p2, .int 0, .int ((d0 1 (2 : Int32).toNatClampNeg) - 1)]) (rest := []) ⟨hx, hb, hml, hown, hts⟩ (tX8_within l D cI cZ cR N p2 (0 : Int32) ((d0 1 (2 : Int32).toNatClampNeg) - 1) t_4 ot_4) (va_cwS 3 hts gX8_nodeAt_X8_within rfl rfl rfl hdwsS_X8_within ⟨Nat.le_of_ble_eq_true rfl, Nat.le_of_ble_eq_true rfl⟩) hK hP hD hS hA [] (by decide) rfl rfl (fun _ => WX8 cI cZ cR q0 d0 g0) (()) rfl rfl hl.1 rfl (Nat.le_of_ble_eq_true rfl) dX8_nodeAt_26 ⟨Nat.zero_le _, Nat.zero_le _⟩ (fun _ _ H locs hP hD hS => ?_)
    refine lv_if_ne (tgt := 39) hx hb dX8_nodeAt_29 (by decide) (fun c_5 => ?_) (fun c_5 => ?_)
    · have hf := tm_iF c_5 hf
      refine lv_aload_n hx hb dX8_nodeAt_39 rfl (lv_at hl 0 rfl) ?_
      obtain ⟨t_6, ot_6, hf⟩ := tm_bS hf
      refine tm_cVV (As := []) (rest := []) ⟨hx, hb, hml, hown, hts⟩ (tX8_lays l D cI cZ cR N q0 d0 g0 t_6 ot_6) (cwV 0 hts gX8_nodeAt_X8_lays rfl rfl rfl hdwsV_X8_lays ⟨Nat.le_of_ble_eq_true rfl, Nat.le_of_ble_eq_true rfl⟩) hK hP hD hS hA [0, 1, 2, 3, 4, 5, 6, 7, 8, 9, 10, 11, 12, 13, 14, 15] (by decide) rfl rfl (ci := 8) rfl rfl rfl (fun _ => WX8 cI cZ cR q0 t_6 g0) (()) rfl rfl hl.1 rfl (Nat.le_of_ble_eq_true rfl) dX8_nodeAt_40 ⟨Nat.zero_le _, Nat.zero_le _⟩ (fun _ _ H locs hP hD hS => ?_)
      refine lv_iconst (v := 0) hx hb dX8_nodeAt_43 (by decide) ?_
      refine lv_istore_n (lv' := [(3, .int 0), (0, .ref (q0 0)), (1, .int p1), (2, .int p2)]) hx hb dX8_nodeAt_44 rfl hl (by decide) rfl (fun ls hl => ?_)
      refine lv_iconst (v := 1) hx hb dX8_nodeAt_45 (by decide) ?_
      refine lv_istore (lv' := [(4, .int 1), (3, .int 0), (0, .ref (q0 0)), (1, .int p1), (2, .int p2)]) hx hb dX8_nodeAt_46 hl (by decide) rfl (fun ls hl => ?_)
      obtain ⟨t_20, ot_20, hf⟩ := tm_bS hf
      refine wX8_nodeAt_48 l D cI cZ cR N q0 C t_6 g0 p1 p2 _ _ _ ot_20 ?_ _ _ _ hP hD hS (lv_sub hl [2, 3, 4, 1, 0] rfl)
      intro H locs ls hP hD hS hl
      refine lv_iload_n hx hb dX8_nodeAt_160 rfl (lv_at hl 0 rfl) ?_
      simp only [Option.some.injEq, Prod.mk.injEq] at hf
      obtain ⟨rfl, rfl⟩ := hf
      exact hend _ _ _ _ hP hD hS rfl dX8_nodeAt_161
    · have hf := tm_iT c_5 hf
      refine lv_aload_n hx hb dX8_nodeAt_32 rfl (lv_at hl 0 rfl) ?_
      refine lv_bipush (v := (-2)) hx hb dX8_nodeAt_33 (by decide) ?_
      obtain ⟨t_21, ot_21, hf⟩ := tm_bS hf
      refine tm_cVI (As := [.int ((-2))]) (rest := []) ⟨hx, hb, hml, hown, hts⟩ (tX8_fails l D cI cZ cR N q0 d0 g0 ((-2) : Int32) t_21.1 t_21.2 ot_21) (cwV 1 hts gX8_nodeAt_X8_fails rfl rfl rfl hdwsV_X8_fails ⟨Nat.le_of_ble_eq_true rfl, Nat.le_of_ble_eq_true rfl⟩) hK hP hD hS hA [0, 1, 2, 3, 4, 5, 6, 7, 8, 9, 10, 11, 12, 13, 14, 15] (by decide) rfl rfl (ci := 8) rfl rfl rfl (fun _ => WX8 cI cZ cR q0 t_21.2 g0) (()) rfl rfl hl.1 rfl (Nat.le_of_ble_eq_true rfl) dX8_nodeAt_35 ⟨Nat.zero_le _, Nat.zero_le _⟩ (fun _ _ H locs hP hD hS => ?_)
      simp only [Option.some.injEq, Prod.mk.injEq] at hf
      obtain ⟨rfl, rfl⟩ := hf
      exact hend _ _ _ _ hP hD hS rfl dX8_nodeAt_38
